-- fjx_72_1
theorem cr_700 (M : pM) (s0 s1 : Int) (b0 : 0 ≤ s0 ∧ s0 ≤ 6) (b1 : 0 ≤ s1 ∧ s1 ≤ 6) (m0 : HP 173 (s0) (0 : Int) M) (f0 : 0 ≤ ((-1) * s0 + s1)) (f1 : 0 ≤ (s0 + (-1) * s1)) (hG : gI M) : (HP 173 (s1) (0 : Int) M ∧ True) := by
  have e : s0 = s1 := by omega
  subst e
  exact ⟨m0, trivial⟩
theorem rul_700 : Rul r_700 := by
  refine ⟨fun _ ρ M hm hB hF hG => ?_, fun gi gv hg => (by cases hg)⟩
  have H := cr_700 M (ρ 0) (ρ 1) (hB _ List.mem_cons_self) (hB _ (List.mem_cons_of_mem _ List.mem_cons_self)) (cvp 173 (x' := ((ρ 0))) (y' := (0 : Int)) (by show 0 + (1 * ρ 0 + 0) = _; omega) (by show 0 + 0 = _; omega) (hm _ List.mem_cons_self)) (by have h := hF _ List.mem_cons_self; have h : 0 ≤ 0 + ((-1) * ρ 0 + (1 * ρ 1 + 0)) := h; omega) (by have h := hF _ (List.mem_cons_of_mem _ List.mem_cons_self); have h : 0 ≤ 0 + (1 * ρ 0 + ((-1) * ρ 1 + 0)) := h; omega) hG
  obtain ⟨k0, -⟩ := H
  exact ⟨_, List.mem_cons_self, ρ, fun _ _ => rfl, (okM_c (pvp 173 (by show 0 + (1 * ρ 1 + 0) = _; omega) (by show 0 + 0 = _; omega) k0) okM_n), okB_n, okF_n⟩
-- fj0_73_1
theorem cr_701 (M : pM)  (hG : gI M) : (HP 174 (0 : Int) (-1 : Int) M ∧ True) := by
  exact ⟨Eq.mpr hp_174 ⟨by decide, fun i hi => by omega⟩, trivial⟩
theorem rul_701 : Rul r_701 := by
  refine ⟨fun _ ρ M hm hB hF hG => ?_, fun gi gv hg => (by cases hg)⟩
  have H := cr_701 M hG
  obtain ⟨k0, -⟩ := H
  exact ⟨_, List.mem_cons_self, ρ, fun _ _ => rfl, (okM_c (pvp 174 (by show 0 + 0 = _; omega) (by show (-1) + 0 = _; omega) k0) okM_n), okB_n, okF_n⟩
-- fjw_73_1
theorem cr_702 (M : pM) (s0 : Int) (b0 : 0 ≤ s0 ∧ s0 ≤ 5) (m0 : HP 174 (s0) (-1 : Int) M) (hG : gI M) : (HP 174 (s0 + 1) (-1 : Int) (st M 73 (s0 + 6).toNat (-1 : Int)) ∧ True) := by
  refine ⟨Eq.mpr hp_174 ⟨by omega, fun i hi => ?_⟩, trivial⟩
  rw [show (s0 + 6).toNat = 6 + s0.toNat by omega, cw]
  by_cases e : i = s0.toNat
  · rw [if_pos e]
  · rw [if_neg e]; exact (Eq.mp hp_174 m0).2 i (by omega)
theorem rul_702 : Rul r_702 := by
  refine ⟨fun h => (by cases h), fun gi gv hg ρ M hm hB hF hG => ?_⟩
  obtain ⟨g1, g2⟩ := List.cons.inj (show ([aI ((6 : Int), ([(0, 1)] : List (Nat × Int))), aI (((-1) : Int), ([] : List (Nat × Int)))] : List av) = [.inl gi, .inl gv] from hg)
  obtain ⟨g2, -⟩ := List.cons.inj g2
  cases g1
  cases g2
  have ei : ev ρ ((6 : Int), ([(0, 1)] : List (Nat × Int))) = ((ρ 0) + 6) := by show 6 + (1 * ρ 0 + 0) = _; omega
  have ew : ev ρ (((-1) : Int), ([] : List (Nat × Int))) = (-1 : Int) := by show (-1) + 0 = _; omega
  rw [show (st M (ctj r_702) (ev ρ ((6 : Int), ([(0, 1)] : List (Nat × Int)))).toNat (ev ρ (((-1) : Int), ([] : List (Nat × Int))))) = (st M 73 ((ρ 0) + 6).toNat (-1 : Int)) from by rw [ei, ew]; rfl]
  have H := cr_702 M (ρ 0) (hB _ List.mem_cons_self) (cvp 174 (x' := ((ρ 0))) (y' := (-1 : Int)) (by show 0 + (1 * ρ 0 + 0) = _; omega) (by show (-1) + 0 = _; omega) (hm _ List.mem_cons_self)) hG
  obtain ⟨k0, -⟩ := H
  exact ⟨_, List.mem_cons_self, ρ, fun _ _ => rfl, (okM_c (pvp 174 (by show 1 + (1 * ρ 0 + 0) = _; omega) (by show (-1) + 0 = _; omega) k0) okM_n), okB_n, okF_n⟩
-- fjx_73_1
theorem cr_703 (M : pM) (s0 s1 : Int) (b0 : 0 ≤ s0 ∧ s0 ≤ 6) (b1 : 0 ≤ s1 ∧ s1 ≤ 6) (m0 : HP 174 (s0) (-1 : Int) M) (f0 : 0 ≤ ((-1) * s0 + s1)) (f1 : 0 ≤ (s0 + (-1) * s1)) (hG : gI M) : (HP 174 (s1) (-1 : Int) M ∧ True) := by
  have e : s0 = s1 := by omega
  subst e
  exact ⟨m0, trivial⟩
theorem rul_703 : Rul r_703 := by
  refine ⟨fun _ ρ M hm hB hF hG => ?_, fun gi gv hg => (by cases hg)⟩
  have H := cr_703 M (ρ 0) (ρ 1) (hB _ List.mem_cons_self) (hB _ (List.mem_cons_of_mem _ List.mem_cons_self)) (cvp 174 (x' := ((ρ 0))) (y' := (-1 : Int)) (by show 0 + (1 * ρ 0 + 0) = _; omega) (by show (-1) + 0 = _; omega) (hm _ List.mem_cons_self)) (by have h := hF _ List.mem_cons_self; have h : 0 ≤ 0 + ((-1) * ρ 0 + (1 * ρ 1 + 0)) := h; omega) (by have h := hF _ (List.mem_cons_of_mem _ List.mem_cons_self); have h : 0 ≤ 0 + (1 * ρ 0 + ((-1) * ρ 1 + 0)) := h; omega) hG
  obtain ⟨k0, -⟩ := H
  exact ⟨_, List.mem_cons_self, ρ, fun _ _ => rfl, (okM_c (pvp 174 (by show 0 + (1 * ρ 1 + 0) = _; omega) (by show (-1) + 0 = _; omega) k0) okM_n), okB_n, okF_n⟩
-- fj0_86_1
theorem cr_704 (M : pM)  (hG : gI M) : (HP 175 (0 : Int) (0 : Int) M ∧ True) := by
  exact ⟨Eq.mpr hp_175 ⟨by decide, fun i hi => by omega⟩, trivial⟩
theorem rul_704 : Rul r_704 := by
  refine ⟨fun _ ρ M hm hB hF hG => ?_, fun gi gv hg => (by cases hg)⟩
  have H := cr_704 M hG
  obtain ⟨k0, -⟩ := H
  exact ⟨_, List.mem_cons_self, ρ, fun _ _ => rfl, (okM_c (pvp 175 (by show 0 + 0 = _; omega) (by show 0 + 0 = _; omega) k0) okM_n), okB_n, okF_n⟩
-- fjw_86_1
theorem cr_705 (M : pM) (s0 : Int) (b0 : 0 ≤ s0 ∧ s0 ≤ 63) (m0 : HP 175 (s0) (0 : Int) M) (hG : gI M) : (HP 175 (s0 + 1) (0 : Int) (st M 86 (s0 + 64).toNat (0 : Int)) ∧ True) := by
  refine ⟨Eq.mpr hp_175 ⟨by omega, fun i hi => ?_⟩, trivial⟩
  rw [show (s0 + 64).toNat = 64 + s0.toNat by omega, cw]
  by_cases e : i = s0.toNat
  · rw [if_pos e]
  · rw [if_neg e]; exact (Eq.mp hp_175 m0).2 i (by omega)
theorem rul_705 : Rul r_705 := by
  refine ⟨fun h => (by cases h), fun gi gv hg ρ M hm hB hF hG => ?_⟩
  obtain ⟨g1, g2⟩ := List.cons.inj (show ([aI ((64 : Int), ([(0, 1)] : List (Nat × Int))), aI ((0 : Int), ([] : List (Nat × Int)))] : List av) = [.inl gi, .inl gv] from hg)
  obtain ⟨g2, -⟩ := List.cons.inj g2
  cases g1
  cases g2
  have ei : ev ρ ((64 : Int), ([(0, 1)] : List (Nat × Int))) = ((ρ 0) + 64) := by show 64 + (1 * ρ 0 + 0) = _; omega
  have ew : ev ρ ((0 : Int), ([] : List (Nat × Int))) = (0 : Int) := by show 0 + 0 = _; omega
  rw [show (st M (ctj r_705) (ev ρ ((64 : Int), ([(0, 1)] : List (Nat × Int)))).toNat (ev ρ ((0 : Int), ([] : List (Nat × Int))))) = (st M 86 ((ρ 0) + 64).toNat (0 : Int)) from by rw [ei, ew]; rfl]
  have H := cr_705 M (ρ 0) (hB _ List.mem_cons_self) (cvp 175 (x' := ((ρ 0))) (y' := (0 : Int)) (by show 0 + (1 * ρ 0 + 0) = _; omega) (by show 0 + 0 = _; omega) (hm _ List.mem_cons_self)) hG
  obtain ⟨k0, -⟩ := H
  exact ⟨_, List.mem_cons_self, ρ, fun _ _ => rfl, (okM_c (pvp 175 (by show 1 + (1 * ρ 0 + 0) = _; omega) (by show 0 + 0 = _; omega) k0) okM_n), okB_n, okF_n⟩
-- fjx_86_1
theorem cr_706 (M : pM) (s0 s1 : Int) (b0 : 0 ≤ s0 ∧ s0 ≤ 64) (b1 : 0 ≤ s1 ∧ s1 ≤ 64) (m0 : HP 175 (s0) (0 : Int) M) (f0 : 0 ≤ ((-1) * s0 + s1)) (f1 : 0 ≤ (s0 + (-1) * s1)) (hG : gI M) : (HP 175 (s1) (0 : Int) M ∧ True) := by
  have e : s0 = s1 := by omega
  subst e
  exact ⟨m0, trivial⟩
theorem rul_706 : Rul r_706 := by
  refine ⟨fun _ ρ M hm hB hF hG => ?_, fun gi gv hg => (by cases hg)⟩
  have H := cr_706 M (ρ 0) (ρ 1) (hB _ List.mem_cons_self) (hB _ (List.mem_cons_of_mem _ List.mem_cons_self)) (cvp 175 (x' := ((ρ 0))) (y' := (0 : Int)) (by show 0 + (1 * ρ 0 + 0) = _; omega) (by show 0 + 0 = _; omega) (hm _ List.mem_cons_self)) (by have h := hF _ List.mem_cons_self; have h : 0 ≤ 0 + ((-1) * ρ 0 + (1 * ρ 1 + 0)) := h; omega) (by have h := hF _ (List.mem_cons_of_mem _ List.mem_cons_self); have h : 0 ≤ 0 + (1 * ρ 0 + ((-1) * ρ 1 + 0)) := h; omega) hG
  obtain ⟨k0, -⟩ := H
  exact ⟨_, List.mem_cons_self, ρ, fun _ _ => rfl, (okM_c (pvp 175 (by show 0 + (1 * ρ 1 + 0) = _; omega) (by show 0 + 0 = _; omega) k0) okM_n), okB_n, okF_n⟩
-- fj0_84_1
theorem cr_707 (M : pM)  (hG : gI M) : (HP 176 (0 : Int) (0 : Int) M ∧ True) := by
  exact ⟨Eq.mpr hp_176 ⟨by decide, fun i hi => by omega⟩, trivial⟩
theorem rul_707 : Rul r_707 := by
  refine ⟨fun _ ρ M hm hB hF hG => ?_, fun gi gv hg => (by cases hg)⟩
  have H := cr_707 M hG
  obtain ⟨k0, -⟩ := H
  exact ⟨_, List.mem_cons_self, ρ, fun _ _ => rfl, (okM_c (pvp 176 (by show 0 + 0 = _; omega) (by show 0 + 0 = _; omega) k0) okM_n), okB_n, okF_n⟩
-- fjw_84_1
theorem cr_708 (M : pM) (s0 : Int) (b0 : 0 ≤ s0 ∧ s0 ≤ 7) (m0 : HP 176 (s0) (0 : Int) M) (hG : gI M) : (HP 176 (s0 + 1) (0 : Int) (st M 84 (s0).toNat (0 : Int)) ∧ True) := by
  refine ⟨Eq.mpr hp_176 ⟨by omega, fun i hi => ?_⟩, trivial⟩
  rw [show (s0).toNat = 0 + s0.toNat by omega, cw]
  by_cases e : i = s0.toNat
  · rw [if_pos e]
  · rw [if_neg e]; exact (Eq.mp hp_176 m0).2 i (by omega)
theorem rul_708 : Rul r_708 := by
  refine ⟨fun h => (by cases h), fun gi gv hg ρ M hm hB hF hG => ?_⟩
  obtain ⟨g1, g2⟩ := List.cons.inj (show ([aI ((0 : Int), ([(0, 1)] : List (Nat × Int))), aI ((0 : Int), ([] : List (Nat × Int)))] : List av) = [.inl gi, .inl gv] from hg)
  obtain ⟨g2, -⟩ := List.cons.inj g2
  cases g1
  cases g2
  have ei : ev ρ ((0 : Int), ([(0, 1)] : List (Nat × Int))) = ((ρ 0)) := by show 0 + (1 * ρ 0 + 0) = _; omega
  have ew : ev ρ ((0 : Int), ([] : List (Nat × Int))) = (0 : Int) := by show 0 + 0 = _; omega
  rw [show (st M (ctj r_708) (ev ρ ((0 : Int), ([(0, 1)] : List (Nat × Int)))).toNat (ev ρ ((0 : Int), ([] : List (Nat × Int))))) = (st M 84 ((ρ 0)).toNat (0 : Int)) from by rw [ei, ew]; rfl]
  have H := cr_708 M (ρ 0) (hB _ List.mem_cons_self) (cvp 176 (x' := ((ρ 0))) (y' := (0 : Int)) (by show 0 + (1 * ρ 0 + 0) = _; omega) (by show 0 + 0 = _; omega) (hm _ List.mem_cons_self)) hG
  obtain ⟨k0, -⟩ := H
  exact ⟨_, List.mem_cons_self, ρ, fun _ _ => rfl, (okM_c (pvp 176 (by show 1 + (1 * ρ 0 + 0) = _; omega) (by show 0 + 0 = _; omega) k0) okM_n), okB_n, okF_n⟩
-- fjx_84_1
theorem cr_709 (M : pM) (s0 s1 : Int) (b0 : 0 ≤ s0 ∧ s0 ≤ 8) (b1 : 0 ≤ s1 ∧ s1 ≤ 8) (m0 : HP 176 (s0) (0 : Int) M) (f0 : 0 ≤ ((-1) * s0 + s1)) (f1 : 0 ≤ (s0 + (-1) * s1)) (hG : gI M) : (HP 176 (s1) (0 : Int) M ∧ True) := by
  have e : s0 = s1 := by omega
  subst e
  exact ⟨m0, trivial⟩
theorem rul_709 : Rul r_709 := by
  refine ⟨fun _ ρ M hm hB hF hG => ?_, fun gi gv hg => (by cases hg)⟩
  have H := cr_709 M (ρ 0) (ρ 1) (hB _ List.mem_cons_self) (hB _ (List.mem_cons_of_mem _ List.mem_cons_self)) (cvp 176 (x' := ((ρ 0))) (y' := (0 : Int)) (by show 0 + (1 * ρ 0 + 0) = _; omega) (by show 0 + 0 = _; omega) (hm _ List.mem_cons_self)) (by have h := hF _ List.mem_cons_self; have h : 0 ≤ 0 + ((-1) * ρ 0 + (1 * ρ 1 + 0)) := h; omega) (by have h := hF _ (List.mem_cons_of_mem _ List.mem_cons_self); have h : 0 ≤ 0 + (1 * ρ 0 + ((-1) * ρ 1 + 0)) := h; omega) hG
  obtain ⟨k0, -⟩ := H
  exact ⟨_, List.mem_cons_self, ρ, fun _ _ => rfl, (okM_c (pvp 176 (by show 0 + (1 * ρ 1 + 0) = _; omega) (by show 0 + 0 = _; omega) k0) okM_n), okB_n, okF_n⟩
-- fj0_85_1
theorem cr_710 (M : pM)  (hG : gI M) : (HP 177 (0 : Int) (0 : Int) M ∧ True) := by
  exact ⟨Eq.mpr hp_177 ⟨by decide, fun i hi => by omega⟩, trivial⟩
theorem rul_710 : Rul r_710 := by
  refine ⟨fun _ ρ M hm hB hF hG => ?_, fun gi gv hg => (by cases hg)⟩
  have H := cr_710 M hG
  obtain ⟨k0, -⟩ := H
  exact ⟨_, List.mem_cons_self, ρ, fun _ _ => rfl, (okM_c (pvp 177 (by show 0 + 0 = _; omega) (by show 0 + 0 = _; omega) k0) okM_n), okB_n, okF_n⟩
-- fjw_85_1
theorem cr_711 (M : pM) (s0 : Int) (b0 : 0 ≤ s0 ∧ s0 ≤ 7) (m0 : HP 177 (s0) (0 : Int) M) (hG : gI M) : (HP 177 (s0 + 1) (0 : Int) (st M 85 (s0).toNat (0 : Int)) ∧ True) := by
  refine ⟨Eq.mpr hp_177 ⟨by omega, fun i hi => ?_⟩, trivial⟩
  rw [show (s0).toNat = 0 + s0.toNat by omega, cw]
  by_cases e : i = s0.toNat
  · rw [if_pos e]
  · rw [if_neg e]; exact (Eq.mp hp_177 m0).2 i (by omega)
theorem rul_711 : Rul r_711 := by
  refine ⟨fun h => (by cases h), fun gi gv hg ρ M hm hB hF hG => ?_⟩
  obtain ⟨g1, g2⟩ := List.cons.inj (show ([aI ((0 : Int), ([(0, 1)] : List (Nat × Int))), aI ((0 : Int), ([] : List (Nat × Int)))] : List av) = [.inl gi, .inl gv] from hg)
  obtain ⟨g2, -⟩ := List.cons.inj g2
  cases g1
  cases g2
  have ei : ev ρ ((0 : Int), ([(0, 1)] : List (Nat × Int))) = ((ρ 0)) := by show 0 + (1 * ρ 0 + 0) = _; omega
  have ew : ev ρ ((0 : Int), ([] : List (Nat × Int))) = (0 : Int) := by show 0 + 0 = _; omega
  rw [show (st M (ctj r_711) (ev ρ ((0 : Int), ([(0, 1)] : List (Nat × Int)))).toNat (ev ρ ((0 : Int), ([] : List (Nat × Int))))) = (st M 85 ((ρ 0)).toNat (0 : Int)) from by rw [ei, ew]; rfl]
  have H := cr_711 M (ρ 0) (hB _ List.mem_cons_self) (cvp 177 (x' := ((ρ 0))) (y' := (0 : Int)) (by show 0 + (1 * ρ 0 + 0) = _; omega) (by show 0 + 0 = _; omega) (hm _ List.mem_cons_self)) hG
  obtain ⟨k0, -⟩ := H
  exact ⟨_, List.mem_cons_self, ρ, fun _ _ => rfl, (okM_c (pvp 177 (by show 1 + (1 * ρ 0 + 0) = _; omega) (by show 0 + 0 = _; omega) k0) okM_n), okB_n, okF_n⟩
-- fjx_85_1
theorem cr_712 (M : pM) (s0 s1 : Int) (b0 : 0 ≤ s0 ∧ s0 ≤ 8) (b1 : 0 ≤ s1 ∧ s1 ≤ 8) (m0 : HP 177 (s0) (0 : Int) M) (f0 : 0 ≤ ((-1) * s0 + s1)) (f1 : 0 ≤ (s0 + (-1) * s1)) (hG : gI M) : (HP 177 (s1) (0 : Int) M ∧ True) := by
  have e : s0 = s1 := by omega
  subst e
  exact ⟨m0, trivial⟩
theorem rul_712 : Rul r_712 := by
  refine ⟨fun _ ρ M hm hB hF hG => ?_, fun gi gv hg => (by cases hg)⟩
  have H := cr_712 M (ρ 0) (ρ 1) (hB _ List.mem_cons_self) (hB _ (List.mem_cons_of_mem _ List.mem_cons_self)) (cvp 177 (x' := ((ρ 0))) (y' := (0 : Int)) (by show 0 + (1 * ρ 0 + 0) = _; omega) (by show 0 + 0 = _; omega) (hm _ List.mem_cons_self)) (by have h := hF _ List.mem_cons_self; have h : 0 ≤ 0 + ((-1) * ρ 0 + (1 * ρ 1 + 0)) := h; omega) (by have h := hF _ (List.mem_cons_of_mem _ List.mem_cons_self); have h : 0 ≤ 0 + (1 * ρ 0 + ((-1) * ρ 1 + 0)) := h; omega) hG
  obtain ⟨k0, -⟩ := H
  exact ⟨_, List.mem_cons_self, ρ, fun _ _ => rfl, (okM_c (pvp 177 (by show 0 + (1 * ρ 1 + 0) = _; omega) (by show 0 + 0 = _; omega) k0) okM_n), okB_n, okF_n⟩
-- ra0_1
theorem cr_713 (M : pM) (m0 : HP 170 (64 : Int) (0 : Int) M) (m1 : HP 171 (48 : Int) (0 : Int) M) (m2 : HP 172 (6 : Int) (-1 : Int) M) (m3 : HP 173 (6 : Int) (0 : Int) M) (m4 : HP 174 (6 : Int) (-1 : Int) M) (m5 : HP 175 (64 : Int) (0 : Int) M) (m6 : HP 176 (8 : Int) (0 : Int) M) (m7 : HP 177 (8 : Int) (0 : Int) M) (hG : gI M) : (HP 61 (0 : Int) (0 : Int) M ∧ True) := by
  have q0 : qat (tm M) 0 (0, qA0) := ⟨0, by decide, by decide, rfl⟩
  refine ⟨Eq.mpr hp_61 ⟨(0, qA0), q0, ⟨by decide, by decide, by decide, by decide⟩, ?_⟩, trivial⟩
  refine ⟨fun i hi => by have h := (Eq.mp hp_170 m0).2 i (by omega); exact h, fun i hi => by have h := (Eq.mp hp_171 m1).2 i (by omega); exact h, fun i hi => by have h := (Eq.mp hp_172 m2).2 i (by omega); exact h, fun i hi => by have h := (Eq.mp hp_173 m3).2 i (by omega); exact h, fun i hi => by have h := (Eq.mp hp_174 m4).2 i (by omega); exact h, fun i hi hw => ?_, fun i hi hw => ?_, fun i j hi hj hw => ?_, fun i hi hw => ?_, fun i hi hw => ?_, fun i hi => by have h := (Eq.mp hp_176 m6).2 i (by omega); rw [Nat.zero_add] at h; exact h, fun i hi => by have h := (Eq.mp hp_177 m7).2 i (by omega); rw [Nat.zero_add] at h; exact h, fun i hi => by have h := (Eq.mp hp_175 m5).2 i (by omega); exact h⟩
  all_goals (have hw : (i : Int) < 0 := hw; omega)
theorem rul_713 : Rul r_713 := by
  refine ⟨fun _ ρ M hm hB hF hG => ?_, fun gi gv hg => (by cases hg)⟩
  have H := cr_713 M (cvp 170 (x' := (64 : Int)) (y' := (0 : Int)) (by show 64 + 0 = _; omega) (by show 0 + 0 = _; omega) (hm _ List.mem_cons_self)) (cvp 171 (x' := (48 : Int)) (y' := (0 : Int)) (by show 48 + 0 = _; omega) (by show 0 + 0 = _; omega) (hm _ (List.mem_cons_of_mem _ List.mem_cons_self))) (cvp 172 (x' := (6 : Int)) (y' := (-1 : Int)) (by show 6 + 0 = _; omega) (by show (-1) + 0 = _; omega) (hm _ (List.mem_cons_of_mem _ (List.mem_cons_of_mem _ List.mem_cons_self)))) (cvp 173 (x' := (6 : Int)) (y' := (0 : Int)) (by show 6 + 0 = _; omega) (by show 0 + 0 = _; omega) (hm _ (List.mem_cons_of_mem _ (List.mem_cons_of_mem _ (List.mem_cons_of_mem _ List.mem_cons_self))))) (cvp 174 (x' := (6 : Int)) (y' := (-1 : Int)) (by show 6 + 0 = _; omega) (by show (-1) + 0 = _; omega) (hm _ (List.mem_cons_of_mem _ (List.mem_cons_of_mem _ (List.mem_cons_of_mem _ (List.mem_cons_of_mem _ List.mem_cons_self)))))) (cvp 175 (x' := (64 : Int)) (y' := (0 : Int)) (by show 64 + 0 = _; omega) (by show 0 + 0 = _; omega) (hm _ (List.mem_cons_of_mem _ (List.mem_cons_of_mem _ (List.mem_cons_of_mem _ (List.mem_cons_of_mem _ (List.mem_cons_of_mem _ List.mem_cons_self))))))) (cvp 176 (x' := (8 : Int)) (y' := (0 : Int)) (by show 8 + 0 = _; omega) (by show 0 + 0 = _; omega) (hm _ (List.mem_cons_of_mem _ (List.mem_cons_of_mem _ (List.mem_cons_of_mem _ (List.mem_cons_of_mem _ (List.mem_cons_of_mem _ (List.mem_cons_of_mem _ List.mem_cons_self)))))))) (cvp 177 (x' := (8 : Int)) (y' := (0 : Int)) (by show 8 + 0 = _; omega) (by show 0 + 0 = _; omega) (hm _ (List.mem_cons_of_mem _ (List.mem_cons_of_mem _ (List.mem_cons_of_mem _ (List.mem_cons_of_mem _ (List.mem_cons_of_mem _ (List.mem_cons_of_mem _ (List.mem_cons_of_mem _ List.mem_cons_self))))))))) hG
  obtain ⟨k0, -⟩ := H
  exact ⟨_, List.mem_cons_self, ρ, fun _ _ => rfl, (okM_c (pvp 61 (by show 0 + 0 = _; omega) (by show 0 + 0 = _; omega) k0) okM_n), okB_n, okF_n⟩
-- tc0
theorem cr_714 (M : pM)  (hG : gI M) : (HP 158 (0 : Int) (0 : Int) M ∧ True) := by
  exact ⟨Eq.mpr hp_158 ⟨by decide, by decide, fun i hi => by omega⟩, trivial⟩
theorem rul_714 : Rul r_714 := by
  refine ⟨fun _ ρ M hm hB hF hG => ?_, fun gi gv hg => (by cases hg)⟩
  have H := cr_714 M hG
  obtain ⟨k0, -⟩ := H
  exact ⟨_, List.mem_cons_self, ρ, fun _ _ => rfl, (okM_c (pvp 158 (by show 0 + 0 = _; omega) (by show 0 + 0 = _; omega) k0) okM_n), okB_n, okF_n⟩
-- tcw
theorem cr_715 (M : pM) (s0 s1 : Int) (b0 : 0 ≤ s0 ∧ s0 ≤ 1900) (b1 : (-128) ≤ s1 ∧ s1 ≤ 127) (m0 : HP 158 (s0) (0 : Int) M) (m1 : (0 ≤ (s0) ∧ M 62 (s0).toNat = (s1))) (hG : gI M) : (HP 158 (s0 + 1) (0 : Int) (st M 63 (s0).toNat (s1)) ∧ True) := by
  obtain ⟨h1, h2, h3⟩ := Eq.mp hp_158 m0
  refine ⟨Eq.mpr hp_158 ⟨by omega, by omega, fun i hi => ?_⟩, trivial⟩
  rw [cw0, show st M 63 (s0).toNat (s1) 62 i = M 62 i from if_neg (fun h => absurd h.1 (by decide))]
  by_cases e : i = s0.toNat
  · rw [if_pos e, e]; exact m1.2.symm
  · rw [if_neg e]; exact h3 i (by omega)
theorem rul_715 : Rul r_715 := by
  refine ⟨fun h => (by cases h), fun gi gv hg ρ M hm hB hF hG => ?_⟩
  obtain ⟨g1, g2⟩ := List.cons.inj (show ([aI ((0 : Int), ([(0, 1)] : List (Nat × Int))), aI ((0 : Int), ([(1, 1)] : List (Nat × Int)))] : List av) = [.inl gi, .inl gv] from hg)
  obtain ⟨g2, -⟩ := List.cons.inj g2
  cases g1
  cases g2
  have ei : ev ρ ((0 : Int), ([(0, 1)] : List (Nat × Int))) = ((ρ 0)) := by show 0 + (1 * ρ 0 + 0) = _; omega
  have ew : ev ρ ((0 : Int), ([(1, 1)] : List (Nat × Int))) = ((ρ 1)) := by show 0 + (1 * ρ 1 + 0) = _; omega
  rw [show (st M (ctj r_715) (ev ρ ((0 : Int), ([(0, 1)] : List (Nat × Int)))).toNat (ev ρ ((0 : Int), ([(1, 1)] : List (Nat × Int))))) = (st M 63 ((ρ 0)).toNat ((ρ 1))) from by rw [ei, ew]; rfl]
  have H := cr_715 M (ρ 0) (ρ 1) (hB _ List.mem_cons_self) (hB _ (List.mem_cons_of_mem _ List.mem_cons_self)) (cvp 158 (x' := ((ρ 0))) (y' := (0 : Int)) (by show 0 + (1 * ρ 0 + 0) = _; omega) (by show 0 + 0 = _; omega) (hm _ List.mem_cons_self)) (cvm (c := 62) (by decide) (x' := ((ρ 0))) (y' := ((ρ 1))) (by show 0 + (1 * ρ 0 + 0) = _; omega) (by show 0 + (1 * ρ 1 + 0) = _; omega) (hm _ (List.mem_cons_of_mem _ List.mem_cons_self))) hG
  obtain ⟨k0, -⟩ := H
  exact ⟨_, List.mem_cons_self, ρ, fun _ _ => rfl, (okM_c (pvp 158 (by show 1 + (1 * ρ 0 + 0) = _; omega) (by show 0 + 0 = _; omega) k0) okM_n), okB_n, okF_n⟩
-- trm
theorem cr_716 (M : pM) (s0 s1 : Int) (b0 : 0 ≤ s0 ∧ s0 ≤ 1900) (b1 : 0 ≤ s1 ∧ s1 ≤ 1900) (m0 : HP 158 (s0) (0 : Int) M) (m1 : HP 41 (s1) (0 : Int) M) (m2 : (0 ≤ (3 : Int) ∧ M 61 (3 : Int).toNat = (s1))) (m3 : (0 ≤ (1 : Int) ∧ M 2 (1 : Int).toNat = (s1))) (f0 : 0 ≤ (s0 + (-1) * s1)) (hG : gI M) : (HP 42 (0 : Int) (0 : Int) M ∧ True) := by
  obtain ⟨h1, h2, h3⟩ := Eq.mp hp_158 m0
  obtain ⟨g1, g2, g3⟩ := Eq.mp hp_41 m1
  have e3 : M 61 3 = s1 := m2.2
  have e1 : M 2 1 = s1 := m3.2
  refine ⟨Eq.mpr hp_42 ⟨by omega, by omega, by omega, fun i hi => ?_⟩, trivial⟩
  unfold tN at hi
  rw [h3 i (by omega)]
  exact g3 i (by omega)
theorem rul_716 : Rul r_716 := by
  refine ⟨fun _ ρ M hm hB hF hG => ?_, fun gi gv hg => (by cases hg)⟩
  have H := cr_716 M (ρ 0) (ρ 1) (hB _ List.mem_cons_self) (hB _ (List.mem_cons_of_mem _ List.mem_cons_self)) (cvp 158 (x' := ((ρ 0))) (y' := (0 : Int)) (by show 0 + (1 * ρ 0 + 0) = _; omega) (by show 0 + 0 = _; omega) (hm _ List.mem_cons_self)) (cvp 41 (x' := ((ρ 1))) (y' := (0 : Int)) (by show 0 + (1 * ρ 1 + 0) = _; omega) (by show 0 + 0 = _; omega) (hm _ (List.mem_cons_of_mem _ List.mem_cons_self))) (cvm (c := 61) (by decide) (x' := (3 : Int)) (y' := ((ρ 1))) (by show 3 + 0 = _; omega) (by show 0 + (1 * ρ 1 + 0) = _; omega) (hm _ (List.mem_cons_of_mem _ (List.mem_cons_of_mem _ List.mem_cons_self)))) (cvm (c := 2) (by decide) (x' := (1 : Int)) (y' := ((ρ 1))) (by show 1 + 0 = _; omega) (by show 0 + (1 * ρ 1 + 0) = _; omega) (hm _ (List.mem_cons_of_mem _ (List.mem_cons_of_mem _ (List.mem_cons_of_mem _ List.mem_cons_self))))) (by have h := hF _ List.mem_cons_self; have h : 0 ≤ 0 + (1 * ρ 0 + ((-1) * ρ 1 + 0)) := h; omega) hG
  obtain ⟨k0, -⟩ := H
  exact ⟨_, List.mem_cons_self, ρ, fun _ _ => rfl, (okM_c (pvp 42 (by show 0 + 0 = _; omega) (by show 0 + 0 = _; omega) k0) okM_n), okB_n, okF_n⟩
-- same_ok0
theorem cr_717 (M : pM) (s0 s1 s2 s3 : Int) (b0 : 0 ≤ s0 ∧ s0 ≤ 950) (b1 : 0 ≤ s1 ∧ s1 ≤ 950) (b2 : 0 ≤ s2 ∧ s2 ≤ 5000) (b3 : 0 ≤ s3 ∧ s3 ≤ 5000) (m0 : HP 58 (s0) (s2) M) (m1 : HP 64 (s1) (s3) M) (hG : gI M) : (0 ≤ ((-1) * s0 + s1) ∧ 0 ≤ (s0 + (-1) * s1) ∧ 0 ≤ ((-1) * s2 + s3) ∧ 0 ≤ (s2 + (-1) * s3) ∧ True) := by
  obtain ⟨⟨l, s, h1, h2, h3, h4, h5⟩, _⟩ := Eq.mp hp_58 m0
  obtain ⟨⟨l', t, k1, k2, k3, k4, k5⟩, _⟩ := Eq.mp hp_64 m1
  obtain ⟨e1, e2⟩ := stuck_u h2 (end_nx h3).1 k2 (end_nx k3).1
  subst e2
  have w1 := h4.1
  have w2 := k4.1
  exact ⟨by omega, by omega, by omega, by omega, trivial⟩
theorem rul_717 : Rul r_717 := by
  refine ⟨fun _ ρ M hm hB hF hG => ?_, fun gi gv hg => (by cases hg)⟩
  have H := cr_717 M (ρ 0) (ρ 1) (ρ 2) (ρ 3) (hB _ List.mem_cons_self) (hB _ (List.mem_cons_of_mem _ List.mem_cons_self)) (hB _ (List.mem_cons_of_mem _ (List.mem_cons_of_mem _ List.mem_cons_self))) (hB _ (List.mem_cons_of_mem _ (List.mem_cons_of_mem _ (List.mem_cons_of_mem _ List.mem_cons_self)))) (cvp 58 (x' := ((ρ 0))) (y' := ((ρ 2))) (by show 0 + (1 * ρ 0 + 0) = _; omega) (by show 0 + (1 * ρ 2 + 0) = _; omega) (hm _ List.mem_cons_self)) (cvp 64 (x' := ((ρ 1))) (y' := ((ρ 3))) (by show 0 + (1 * ρ 1 + 0) = _; omega) (by show 0 + (1 * ρ 3 + 0) = _; omega) (hm _ (List.mem_cons_of_mem _ List.mem_cons_self))) hG
  obtain ⟨f0, f1, f2, f3, -⟩ := H
  exact ⟨_, List.mem_cons_self, ρ, fun _ _ => rfl, okM_n, okB_n, (okF_c (by show 0 ≤ 0 + ((-1) * ρ 0 + (1 * ρ 1 + 0)); omega) (okF_c (by show 0 ≤ 0 + (1 * ρ 0 + ((-1) * ρ 1 + 0)); omega) (okF_c (by show 0 ≤ 0 + ((-1) * ρ 2 + (1 * ρ 3 + 0)); omega) (okF_c (by show 0 ≤ 0 + (1 * ρ 2 + ((-1) * ρ 3 + 0)); omega) okF_n))))⟩
-- dead1_0
theorem cr_718 (M : pM) (s0 s1 s2 s3 : Int) (b0 : 0 ≤ s0 ∧ s0 ≤ 950) (b1 : 0 ≤ s1 ∧ s1 ≤ 5000) (b2 : (-2147483648) ≤ s2 ∧ s2 ≤ 2147483647) (b3 : 1 ≤ s3 ∧ s3 ≤ 5) (m0 : HP 58 (s0) (s1) M) (m1 : HP 66 (s2) (s3) M) (hG : gI M) : (0 ≤ (s3 - 6) ∧ True) := by
  obtain ⟨⟨l, s, h1, h2, h3, h4, h5⟩, _⟩ := Eq.mp hp_58 m0
  obtain ⟨l', t, k1, k2⟩ := Eq.mp hp_66 m1
  obtain ⟨e1, e2⟩ := stuck_u h2 (end_nx h3).1 k1 (fa_nx k2)
  subst e2
  rw [(end_nx h3).2] at k2
  cases k2
theorem rul_718 : Rul r_718 := by
  refine ⟨fun _ ρ M hm hB hF hG => ?_, fun gi gv hg => (by cases hg)⟩
  have H := cr_718 M (ρ 0) (ρ 1) (ρ 2) (ρ 3) (hB _ List.mem_cons_self) (hB _ (List.mem_cons_of_mem _ List.mem_cons_self)) (hB _ (List.mem_cons_of_mem _ (List.mem_cons_of_mem _ List.mem_cons_self))) (hB _ (List.mem_cons_of_mem _ (List.mem_cons_of_mem _ (List.mem_cons_of_mem _ List.mem_cons_self)))) (cvp 58 (x' := ((ρ 0))) (y' := ((ρ 1))) (by show 0 + (1 * ρ 0 + 0) = _; omega) (by show 0 + (1 * ρ 1 + 0) = _; omega) (hm _ List.mem_cons_self)) (cvp 66 (x' := ((ρ 2))) (y' := ((ρ 3))) (by show 0 + (1 * ρ 2 + 0) = _; omega) (by show 0 + (1 * ρ 3 + 0) = _; omega) (hm _ (List.mem_cons_of_mem _ List.mem_cons_self))) hG
  obtain ⟨f0, -⟩ := H
  exact ⟨_, List.mem_cons_self, ρ, fun _ _ => rfl, okM_n, okB_n, (okF_c (by show 0 ≤ (-6) + (1 * ρ 3 + 0); omega) okF_n)⟩
-- dead2_0
theorem cr_719 (M : pM) (s0 s1 s2 s3 : Int) (b0 : 0 ≤ s0 ∧ s0 ≤ 950) (b1 : 0 ≤ s1 ∧ s1 ≤ 5000) (b2 : (-2147483648) ≤ s2 ∧ s2 ≤ 2147483647) (b3 : 1 ≤ s3 ∧ s3 ≤ 5) (m0 : HP 64 (s0) (s1) M) (m1 : HP 66 (s2) (s3) M) (hG : gI M) : (0 ≤ (s3 - 6) ∧ True) := by
  obtain ⟨⟨l, s, h1, h2, h3, h4, h5⟩, _⟩ := Eq.mp hp_64 m0
  obtain ⟨l', t, k1, k2⟩ := Eq.mp hp_66 m1
  obtain ⟨e1, e2⟩ := stuck_u h2 (end_nx h3).1 k1 (fa_nx k2)
  subst e2
  rw [(end_nx h3).2] at k2
  cases k2
theorem rul_719 : Rul r_719 := by
  refine ⟨fun _ ρ M hm hB hF hG => ?_, fun gi gv hg => (by cases hg)⟩
  have H := cr_719 M (ρ 0) (ρ 1) (ρ 2) (ρ 3) (hB _ List.mem_cons_self) (hB _ (List.mem_cons_of_mem _ List.mem_cons_self)) (hB _ (List.mem_cons_of_mem _ (List.mem_cons_of_mem _ List.mem_cons_self))) (hB _ (List.mem_cons_of_mem _ (List.mem_cons_of_mem _ (List.mem_cons_of_mem _ List.mem_cons_self)))) (cvp 64 (x' := ((ρ 0))) (y' := ((ρ 1))) (by show 0 + (1 * ρ 0 + 0) = _; omega) (by show 0 + (1 * ρ 1 + 0) = _; omega) (hm _ List.mem_cons_self)) (cvp 66 (x' := ((ρ 2))) (y' := ((ρ 3))) (by show 0 + (1 * ρ 2 + 0) = _; omega) (by show 0 + (1 * ρ 3 + 0) = _; omega) (hm _ (List.mem_cons_of_mem _ List.mem_cons_self))) hG
  obtain ⟨f0, -⟩ := H
  exact ⟨_, List.mem_cons_self, ρ, fun _ _ => rfl, okM_n, okB_n, (okF_c (by show 0 ≤ (-6) + (1 * ρ 3 + 0); omega) okF_n)⟩
-- same_ok1
theorem cr_720 (M : pM) (s0 s1 s2 s3 : Int) (b0 : 0 ≤ s0 ∧ s0 ≤ 950) (b1 : 0 ≤ s1 ∧ s1 ≤ 950) (b2 : 0 ≤ s2 ∧ s2 ≤ 5000) (b3 : 0 ≤ s3 ∧ s3 ≤ 5000) (m0 : HP 59 (s0) (s2) M) (m1 : HP 65 (s1) (s3) M) (hG : gI M) : (0 ≤ ((-1) * s0 + s1) ∧ 0 ≤ (s0 + (-1) * s1) ∧ 0 ≤ ((-1) * s2 + s3) ∧ 0 ≤ (s2 + (-1) * s3) ∧ True) := by
  obtain ⟨⟨l, s, h1, h2, h3, h4, h5⟩, _⟩ := Eq.mp hp_59 m0
  obtain ⟨⟨l', t, k1, k2, k3, k4, k5⟩, _⟩ := Eq.mp hp_65 m1
  obtain ⟨e1, e2⟩ := stuck_u h2 (end_nx h3).1 k2 (end_nx k3).1
  subst e2
  have w1 := h4.1
  have w2 := k4.1
  exact ⟨by omega, by omega, by omega, by omega, trivial⟩
theorem rul_720 : Rul r_720 := by
  refine ⟨fun _ ρ M hm hB hF hG => ?_, fun gi gv hg => (by cases hg)⟩
  have H := cr_720 M (ρ 0) (ρ 1) (ρ 2) (ρ 3) (hB _ List.mem_cons_self) (hB _ (List.mem_cons_of_mem _ List.mem_cons_self)) (hB _ (List.mem_cons_of_mem _ (List.mem_cons_of_mem _ List.mem_cons_self))) (hB _ (List.mem_cons_of_mem _ (List.mem_cons_of_mem _ (List.mem_cons_of_mem _ List.mem_cons_self)))) (cvp 59 (x' := ((ρ 0))) (y' := ((ρ 2))) (by show 0 + (1 * ρ 0 + 0) = _; omega) (by show 0 + (1 * ρ 2 + 0) = _; omega) (hm _ List.mem_cons_self)) (cvp 65 (x' := ((ρ 1))) (y' := ((ρ 3))) (by show 0 + (1 * ρ 1 + 0) = _; omega) (by show 0 + (1 * ρ 3 + 0) = _; omega) (hm _ (List.mem_cons_of_mem _ List.mem_cons_self))) hG
  obtain ⟨f0, f1, f2, f3, -⟩ := H
  exact ⟨_, List.mem_cons_self, ρ, fun _ _ => rfl, okM_n, okB_n, (okF_c (by show 0 ≤ 0 + ((-1) * ρ 0 + (1 * ρ 1 + 0)); omega) (okF_c (by show 0 ≤ 0 + (1 * ρ 0 + ((-1) * ρ 1 + 0)); omega) (okF_c (by show 0 ≤ 0 + ((-1) * ρ 2 + (1 * ρ 3 + 0)); omega) (okF_c (by show 0 ≤ 0 + (1 * ρ 2 + ((-1) * ρ 3 + 0)); omega) okF_n))))⟩
-- dead1_1
theorem cr_721 (M : pM) (s0 s1 s2 s3 : Int) (b0 : 0 ≤ s0 ∧ s0 ≤ 950) (b1 : 0 ≤ s1 ∧ s1 ≤ 5000) (b2 : (-2147483648) ≤ s2 ∧ s2 ≤ 2147483647) (b3 : 1 ≤ s3 ∧ s3 ≤ 5) (m0 : HP 59 (s0) (s1) M) (m1 : HP 66 (s2) (s3) M) (hG : gI M) : (0 ≤ (s3 - 6) ∧ True) := by
  obtain ⟨⟨l, s, h1, h2, h3, h4, h5⟩, _⟩ := Eq.mp hp_59 m0
  obtain ⟨l', t, k1, k2⟩ := Eq.mp hp_66 m1
  obtain ⟨e1, e2⟩ := stuck_u h2 (end_nx h3).1 k1 (fa_nx k2)
  subst e2
  rw [(end_nx h3).2] at k2
  cases k2
theorem rul_721 : Rul r_721 := by
  refine ⟨fun _ ρ M hm hB hF hG => ?_, fun gi gv hg => (by cases hg)⟩
  have H := cr_721 M (ρ 0) (ρ 1) (ρ 2) (ρ 3) (hB _ List.mem_cons_self) (hB _ (List.mem_cons_of_mem _ List.mem_cons_self)) (hB _ (List.mem_cons_of_mem _ (List.mem_cons_of_mem _ List.mem_cons_self))) (hB _ (List.mem_cons_of_mem _ (List.mem_cons_of_mem _ (List.mem_cons_of_mem _ List.mem_cons_self)))) (cvp 59 (x' := ((ρ 0))) (y' := ((ρ 1))) (by show 0 + (1 * ρ 0 + 0) = _; omega) (by show 0 + (1 * ρ 1 + 0) = _; omega) (hm _ List.mem_cons_self)) (cvp 66 (x' := ((ρ 2))) (y' := ((ρ 3))) (by show 0 + (1 * ρ 2 + 0) = _; omega) (by show 0 + (1 * ρ 3 + 0) = _; omega) (hm _ (List.mem_cons_of_mem _ List.mem_cons_self))) hG
  obtain ⟨f0, -⟩ := H
  exact ⟨_, List.mem_cons_self, ρ, fun _ _ => rfl, okM_n, okB_n, (okF_c (by show 0 ≤ (-6) + (1 * ρ 3 + 0); omega) okF_n)⟩
-- dead2_1
theorem cr_722 (M : pM) (s0 s1 s2 s3 : Int) (b0 : 0 ≤ s0 ∧ s0 ≤ 950) (b1 : 0 ≤ s1 ∧ s1 ≤ 5000) (b2 : (-2147483648) ≤ s2 ∧ s2 ≤ 2147483647) (b3 : 1 ≤ s3 ∧ s3 ≤ 5) (m0 : HP 65 (s0) (s1) M) (m1 : HP 66 (s2) (s3) M) (hG : gI M) : (0 ≤ (s3 - 6) ∧ True) := by
  obtain ⟨⟨l, s, h1, h2, h3, h4, h5⟩, _⟩ := Eq.mp hp_65 m0
  obtain ⟨l', t, k1, k2⟩ := Eq.mp hp_66 m1
  obtain ⟨e1, e2⟩ := stuck_u h2 (end_nx h3).1 k1 (fa_nx k2)
  subst e2
  rw [(end_nx h3).2] at k2
  cases k2
theorem rul_722 : Rul r_722 := by
  refine ⟨fun _ ρ M hm hB hF hG => ?_, fun gi gv hg => (by cases hg)⟩
  have H := cr_722 M (ρ 0) (ρ 1) (ρ 2) (ρ 3) (hB _ List.mem_cons_self) (hB _ (List.mem_cons_of_mem _ List.mem_cons_self)) (hB _ (List.mem_cons_of_mem _ (List.mem_cons_of_mem _ List.mem_cons_self))) (hB _ (List.mem_cons_of_mem _ (List.mem_cons_of_mem _ (List.mem_cons_of_mem _ List.mem_cons_self)))) (cvp 65 (x' := ((ρ 0))) (y' := ((ρ 1))) (by show 0 + (1 * ρ 0 + 0) = _; omega) (by show 0 + (1 * ρ 1 + 0) = _; omega) (hm _ List.mem_cons_self)) (cvp 66 (x' := ((ρ 2))) (y' := ((ρ 3))) (by show 0 + (1 * ρ 2 + 0) = _; omega) (by show 0 + (1 * ρ 3 + 0) = _; omega) (hm _ (List.mem_cons_of_mem _ List.mem_cons_self))) hG
  obtain ⟨f0, -⟩ := H
  exact ⟨_, List.mem_cons_self, ρ, fun _ _ => rfl, okM_n, okB_n, (okF_c (by show 0 ≤ (-6) + (1 * ρ 3 + 0); omega) okF_n)⟩
-- eqm_0
theorem cr_723 (M : pM) (s0 s1 s2 s3 : Int) (b0 : 0 ≤ s0 ∧ s0 ≤ 950) (b1 : 0 ≤ s1 ∧ s1 ≤ 950) (b2 : 0 ≤ s2 ∧ s2 ≤ 5000) (b3 : 0 ≤ s3 ∧ s3 ≤ 5000) (m0 : HP 58 (s0) (s2) M) (m1 : HP 64 (s1) (s3) M) (hG : gI M) : (HP 183 (0 : Int) (0 : Int) M ∧ True) := by
  obtain ⟨⟨l, s, h1, h2, h3, h4, h5⟩, hf⟩ := Eq.mp hp_58 m0
  obtain ⟨⟨l', t, k1, k2, k3, k4, k5⟩, kf⟩ := Eq.mp hp_64 m1
  obtain ⟨e1, e2⟩ := stuck_u h2 (end_nx h3).1 k2 (end_nx k3).1
  subst e2
  obtain ⟨w0, w1, w2, w3⟩ := h4
  obtain ⟨f0, f1, f2, f3⟩ := hf
  obtain ⟨v0, v1, v2, v3⟩ := k4
  obtain ⟨g0, g1, g2, g3⟩ := kf
  exact ⟨Eq.mpr hp_183 ⟨⟨by omega, by omega, by omega⟩, tm M, s.2, ⟨by omega, by omega, by omega⟩, ⟨rfl, w1, w2, w3⟩, h5, ⟨qRr 0 M, fun _ _ _ _ => rfl, k5⟩⟩, trivial⟩
theorem rul_723 : Rul r_723 := by
  refine ⟨fun _ ρ M hm hB hF hG => ?_, fun gi gv hg => (by cases hg)⟩
  have H := cr_723 M (ρ 0) (ρ 1) (ρ 2) (ρ 3) (hB _ List.mem_cons_self) (hB _ (List.mem_cons_of_mem _ List.mem_cons_self)) (hB _ (List.mem_cons_of_mem _ (List.mem_cons_of_mem _ List.mem_cons_self))) (hB _ (List.mem_cons_of_mem _ (List.mem_cons_of_mem _ (List.mem_cons_of_mem _ List.mem_cons_self)))) (cvp 58 (x' := ((ρ 0))) (y' := ((ρ 2))) (by show 0 + (1 * ρ 0 + 0) = _; omega) (by show 0 + (1 * ρ 2 + 0) = _; omega) (hm _ List.mem_cons_self)) (cvp 64 (x' := ((ρ 1))) (y' := ((ρ 3))) (by show 0 + (1 * ρ 1 + 0) = _; omega) (by show 0 + (1 * ρ 3 + 0) = _; omega) (hm _ (List.mem_cons_of_mem _ List.mem_cons_self))) hG
  obtain ⟨k0, -⟩ := H
  exact ⟨_, List.mem_cons_self, ρ, fun _ _ => rfl, (okM_c (pvp 183 (by show 0 + 0 = _; omega) (by show 0 + 0 = _; omega) k0) okM_n), okB_n, okF_n⟩
-- eqo_0
theorem cr_724 (M : pM) (m0 : HP 182 (0 : Int) (0 : Int) M) (m1 : (0 ≤ (34 : Int) ∧ M 61 (34 : Int).toNat = (0 : Int))) (hG : gI M) : (HP 183 (0 : Int) (0 : Int) M ∧ True) := by
  have e : M 61 34 = 0 := m1.2
  rcases Eq.mp hp_182 m0 with ⟨h1, h2⟩ | ⟨h1, h2⟩
  · exact ⟨Eq.mpr hp_183 h2, trivial⟩
  · omega
theorem rul_724 : Rul r_724 := by
  refine ⟨fun _ ρ M hm hB hF hG => ?_, fun gi gv hg => (by cases hg)⟩
  have H := cr_724 M (cvp 182 (x' := (0 : Int)) (y' := (0 : Int)) (by show 0 + 0 = _; omega) (by show 0 + 0 = _; omega) (hm _ List.mem_cons_self)) (cvm (c := 61) (by decide) (x' := (34 : Int)) (y' := (0 : Int)) (by show 34 + 0 = _; omega) (by show 0 + 0 = _; omega) (hm _ (List.mem_cons_of_mem _ List.mem_cons_self))) hG
  obtain ⟨k0, -⟩ := H
  exact ⟨_, List.mem_cons_self, ρ, fun _ _ => rfl, (okM_c (pvp 183 (by show 0 + 0 = _; omega) (by show 0 + 0 = _; omega) k0) okM_n), okB_n, okF_n⟩
-- eqi_0
theorem cr_725 (M : pM) (m0 : HP 183 (0 : Int) (0 : Int) M) (m1 : (0 ≤ (34 : Int) ∧ M 61 (34 : Int).toNat = (0 : Int))) (hG : gI M) : (HP 182 (0 : Int) (0 : Int) M ∧ True) := by
  have e : M 61 34 = 0 := m1.2
  exact ⟨Eq.mpr hp_182 (Or.inl ⟨e, Eq.mp hp_183 m0⟩), trivial⟩
theorem rul_725 : Rul r_725 := by
  refine ⟨fun _ ρ M hm hB hF hG => ?_, fun gi gv hg => (by cases hg)⟩
  have H := cr_725 M (cvp 183 (x' := (0 : Int)) (y' := (0 : Int)) (by show 0 + 0 = _; omega) (by show 0 + 0 = _; omega) (hm _ List.mem_cons_self)) (cvm (c := 61) (by decide) (x' := (34 : Int)) (y' := (0 : Int)) (by show 34 + 0 = _; omega) (by show 0 + 0 = _; omega) (hm _ (List.mem_cons_of_mem _ List.mem_cons_self))) hG
  obtain ⟨k0, -⟩ := H
  exact ⟨_, List.mem_cons_self, ρ, fun _ _ => rfl, (okM_c (pvp 182 (by show 0 + 0 = _; omega) (by show 0 + 0 = _; omega) k0) okM_n), okB_n, okF_n⟩
-- ecg_0
theorem cr_726 (M : pM) (s0 s1 : Int) (b0 : 0 ≤ s0 ∧ s0 ≤ 4) (b1 : 0 ≤ s1 ∧ s1 ≤ 4) (m0 : HP 183 (0 : Int) (0 : Int) M) (m1 : (0 ≤ (13 : Int) ∧ M 3 (13 : Int).toNat = (s0))) (m2 : (0 ≤ (0 : Int) ∧ M 68 (0 : Int).toNat = (s1))) (hG : gI M) : (0 ≤ ((-1) * s0 + s1) ∧ 0 ≤ (s0 + (-1) * s1) ∧ True) := by
  obtain ⟨hcn, N, A, ha, hw, hc, R', he, hr⟩ := Eq.mp hp_183 m0
  obtain ⟨e1, e2, e3⟩ := hcn
  have g0 : M 3 13 = s0 := m1.2
  have g1 : M 68 0 = s1 := m2.2
  have e : M 3 13 = M 68 0 := e3
  exact ⟨by omega, by omega, trivial⟩
theorem rul_726 : Rul r_726 := by
  refine ⟨fun _ ρ M hm hB hF hG => ?_, fun gi gv hg => (by cases hg)⟩
  have H := cr_726 M (ρ 0) (ρ 1) (hB _ List.mem_cons_self) (hB _ (List.mem_cons_of_mem _ List.mem_cons_self)) (cvp 183 (x' := (0 : Int)) (y' := (0 : Int)) (by show 0 + 0 = _; omega) (by show 0 + 0 = _; omega) (hm _ List.mem_cons_self)) (cvm (c := 3) (by decide) (x' := (13 : Int)) (y' := ((ρ 0))) (by show 13 + 0 = _; omega) (by show 0 + (1 * ρ 0 + 0) = _; omega) (hm _ (List.mem_cons_of_mem _ List.mem_cons_self))) (cvm (c := 68) (by decide) (x' := (0 : Int)) (y' := ((ρ 1))) (by show 0 + 0 = _; omega) (by show 0 + (1 * ρ 1 + 0) = _; omega) (hm _ (List.mem_cons_of_mem _ (List.mem_cons_of_mem _ List.mem_cons_self)))) hG
  obtain ⟨f0, f1, -⟩ := H
  exact ⟨_, List.mem_cons_self, ρ, fun _ _ => rfl, okM_n, okB_n, (okF_c (by show 0 ≤ 0 + ((-1) * ρ 0 + (1 * ρ 1 + 0)); omega) (okF_c (by show 0 ≤ 0 + (1 * ρ 0 + ((-1) * ρ 1 + 0)); omega) okF_n))⟩
-- eqm_1
theorem cr_727 (M : pM) (s0 s1 s2 s3 : Int) (b0 : 0 ≤ s0 ∧ s0 ≤ 950) (b1 : 0 ≤ s1 ∧ s1 ≤ 950) (b2 : 0 ≤ s2 ∧ s2 ≤ 5000) (b3 : 0 ≤ s3 ∧ s3 ≤ 5000) (m0 : HP 59 (s0) (s2) M) (m1 : HP 65 (s1) (s3) M) (hG : gI M) : (HP 184 (0 : Int) (0 : Int) M ∧ True) := by
  obtain ⟨⟨l, s, h1, h2, h3, h4, h5⟩, hf⟩ := Eq.mp hp_59 m0
  obtain ⟨⟨l', t, k1, k2, k3, k4, k5⟩, kf⟩ := Eq.mp hp_65 m1
  obtain ⟨e1, e2⟩ := stuck_u h2 (end_nx h3).1 k2 (end_nx k3).1
  subst e2
  obtain ⟨w0, w1, w2, w3⟩ := h4
  obtain ⟨f0, f1, f2, f3⟩ := hf
  obtain ⟨v0, v1, v2, v3⟩ := k4
  obtain ⟨g0, g1, g2, g3⟩ := kf
  exact ⟨Eq.mpr hp_184 ⟨⟨by omega, by omega, by omega⟩, tm M, s.2, ⟨by omega, by omega, by omega⟩, ⟨rfl, w1, w2, w3⟩, h5, ⟨qRr 1 M, fun _ _ _ _ => rfl, k5⟩⟩, trivial⟩
theorem rul_727 : Rul r_727 := by
  refine ⟨fun _ ρ M hm hB hF hG => ?_, fun gi gv hg => (by cases hg)⟩
  have H := cr_727 M (ρ 0) (ρ 1) (ρ 2) (ρ 3) (hB _ List.mem_cons_self) (hB _ (List.mem_cons_of_mem _ List.mem_cons_self)) (hB _ (List.mem_cons_of_mem _ (List.mem_cons_of_mem _ List.mem_cons_self))) (hB _ (List.mem_cons_of_mem _ (List.mem_cons_of_mem _ (List.mem_cons_of_mem _ List.mem_cons_self)))) (cvp 59 (x' := ((ρ 0))) (y' := ((ρ 2))) (by show 0 + (1 * ρ 0 + 0) = _; omega) (by show 0 + (1 * ρ 2 + 0) = _; omega) (hm _ List.mem_cons_self)) (cvp 65 (x' := ((ρ 1))) (y' := ((ρ 3))) (by show 0 + (1 * ρ 1 + 0) = _; omega) (by show 0 + (1 * ρ 3 + 0) = _; omega) (hm _ (List.mem_cons_of_mem _ List.mem_cons_self))) hG
  obtain ⟨k0, -⟩ := H
  exact ⟨_, List.mem_cons_self, ρ, fun _ _ => rfl, (okM_c (pvp 184 (by show 0 + 0 = _; omega) (by show 0 + 0 = _; omega) k0) okM_n), okB_n, okF_n⟩
-- eqo_1
theorem cr_728 (M : pM) (m0 : HP 182 (0 : Int) (0 : Int) M) (m1 : (0 ≤ (34 : Int) ∧ M 61 (34 : Int).toNat = (1 : Int))) (hG : gI M) : (HP 184 (0 : Int) (0 : Int) M ∧ True) := by
  have e : M 61 34 = 1 := m1.2
  rcases Eq.mp hp_182 m0 with ⟨h1, h2⟩ | ⟨h1, h2⟩
  · omega
  · exact ⟨Eq.mpr hp_184 h2, trivial⟩
theorem rul_728 : Rul r_728 := by
  refine ⟨fun _ ρ M hm hB hF hG => ?_, fun gi gv hg => (by cases hg)⟩
  have H := cr_728 M (cvp 182 (x' := (0 : Int)) (y' := (0 : Int)) (by show 0 + 0 = _; omega) (by show 0 + 0 = _; omega) (hm _ List.mem_cons_self)) (cvm (c := 61) (by decide) (x' := (34 : Int)) (y' := (1 : Int)) (by show 34 + 0 = _; omega) (by show 1 + 0 = _; omega) (hm _ (List.mem_cons_of_mem _ List.mem_cons_self))) hG
  obtain ⟨k0, -⟩ := H
  exact ⟨_, List.mem_cons_self, ρ, fun _ _ => rfl, (okM_c (pvp 184 (by show 0 + 0 = _; omega) (by show 0 + 0 = _; omega) k0) okM_n), okB_n, okF_n⟩
-- eqi_1
theorem cr_729 (M : pM) (m0 : HP 184 (0 : Int) (0 : Int) M) (m1 : (0 ≤ (34 : Int) ∧ M 61 (34 : Int).toNat = (1 : Int))) (hG : gI M) : (HP 182 (0 : Int) (0 : Int) M ∧ True) := by
  have e : M 61 34 = 1 := m1.2
  exact ⟨Eq.mpr hp_182 (Or.inr ⟨e, Eq.mp hp_184 m0⟩), trivial⟩
theorem rul_729 : Rul r_729 := by
  refine ⟨fun _ ρ M hm hB hF hG => ?_, fun gi gv hg => (by cases hg)⟩
  have H := cr_729 M (cvp 184 (x' := (0 : Int)) (y' := (0 : Int)) (by show 0 + 0 = _; omega) (by show 0 + 0 = _; omega) (hm _ List.mem_cons_self)) (cvm (c := 61) (by decide) (x' := (34 : Int)) (y' := (1 : Int)) (by show 34 + 0 = _; omega) (by show 1 + 0 = _; omega) (hm _ (List.mem_cons_of_mem _ List.mem_cons_self))) hG
  obtain ⟨k0, -⟩ := H
  exact ⟨_, List.mem_cons_self, ρ, fun _ _ => rfl, (okM_c (pvp 182 (by show 0 + 0 = _; omega) (by show 0 + 0 = _; omega) k0) okM_n), okB_n, okF_n⟩
-- ecg_1
theorem cr_730 (M : pM) (s0 s1 : Int) (b0 : 0 ≤ s0 ∧ s0 ≤ 4) (b1 : 0 ≤ s1 ∧ s1 ≤ 4) (m0 : HP 184 (0 : Int) (0 : Int) M) (m1 : (0 ≤ (13 : Int) ∧ M 12 (13 : Int).toNat = (s0))) (m2 : (0 ≤ (1 : Int) ∧ M 68 (1 : Int).toNat = (s1))) (hG : gI M) : (0 ≤ ((-1) * s0 + s1) ∧ 0 ≤ (s0 + (-1) * s1) ∧ True) := by
  obtain ⟨hcn, N, A, ha, hw, hc, R', he, hr⟩ := Eq.mp hp_184 m0
  obtain ⟨e1, e2, e3⟩ := hcn
  have g0 : M 12 13 = s0 := m1.2
  have g1 : M 68 1 = s1 := m2.2
  have e : M 12 13 = M 68 1 := e3
  exact ⟨by omega, by omega, trivial⟩
theorem rul_730 : Rul r_730 := by
  refine ⟨fun _ ρ M hm hB hF hG => ?_, fun gi gv hg => (by cases hg)⟩
  have H := cr_730 M (ρ 0) (ρ 1) (hB _ List.mem_cons_self) (hB _ (List.mem_cons_of_mem _ List.mem_cons_self)) (cvp 184 (x' := (0 : Int)) (y' := (0 : Int)) (by show 0 + 0 = _; omega) (by show 0 + 0 = _; omega) (hm _ List.mem_cons_self)) (cvm (c := 12) (by decide) (x' := (13 : Int)) (y' := ((ρ 0))) (by show 13 + 0 = _; omega) (by show 0 + (1 * ρ 0 + 0) = _; omega) (hm _ (List.mem_cons_of_mem _ List.mem_cons_self))) (cvm (c := 68) (by decide) (x' := (1 : Int)) (y' := ((ρ 1))) (by show 1 + 0 = _; omega) (by show 0 + (1 * ρ 1 + 0) = _; omega) (hm _ (List.mem_cons_of_mem _ (List.mem_cons_of_mem _ List.mem_cons_self)))) hG
  obtain ⟨f0, f1, -⟩ := H
  exact ⟨_, List.mem_cons_self, ρ, fun _ _ => rfl, okM_n, okB_n, (okF_c (by show 0 ≤ 0 + ((-1) * ρ 0 + (1 * ρ 1 + 0)); omega) (okF_c (by show 0 ≤ 0 + (1 * ρ 0 + ((-1) * ρ 1 + 0)); omega) okF_n))⟩
-- tq0
theorem cr_731 (M : pM)  (hG : gI M) : (HP 197 (0 : Int) (0 : Int) M ∧ True) := by
  exact ⟨Eq.mpr hp_197 ⟨0, 0, by omega, by omega, by omega, ⟨fun j hj => absurd hj (Nat.not_lt_zero j), fun j hj => absurd hj (Nat.not_lt_zero j)⟩⟩, trivial⟩
theorem rul_731 : Rul r_731 := by
  refine ⟨fun _ ρ M hm hB hF hG => ?_, fun gi gv hg => (by cases hg)⟩
  have H := cr_731 M hG
  obtain ⟨k0, -⟩ := H
  exact ⟨_, List.mem_cons_self, ρ, fun _ _ => rfl, (okM_c (pvp 197 (by show 0 + 0 = _; omega) (by show 0 + 0 = _; omega) k0) okM_n), okB_n, okF_n⟩
-- tqw42
theorem cr_732 (M : pM) (s0 s1 s2 s3 : Int) (b0 : 0 ≤ s0 ∧ s0 ≤ 8) (b1 : 0 ≤ s1 ∧ s1 ≤ 200) (b2 : 0 ≤ s2 ∧ s2 ≤ 199) (b3 : (-2147483648) ≤ s3 ∧ s3 ≤ 2147483647) (m0 : HP 197 (256 * s0 + s1) (0 : Int) M) (f0 : 0 ≤ ((-1) * s1 + s2)) (hG : gI M) : (HP 197 (256 * s0 + s1) (0 : Int) (st M 42 (s2).toNat (s3)) ∧ True) := by
  have hq := tq_o (P := s0.toNat) (F := s1.toNat) m0 ⟨by omega, by omega⟩
  exact ⟨Eq.mpr hp_197 ⟨s0.toNat, s1.toNat, by omega, by omega, by omega, qtr_st (fun h => by omega) (fun h => by omega) hq⟩, trivial⟩
theorem rul_732 : Rul r_732 := by
  refine ⟨fun h => (by cases h), fun gi gv hg ρ M hm hB hF hG => ?_⟩
  obtain ⟨g1, g2⟩ := List.cons.inj (show ([aI ((0 : Int), ([(2, 1)] : List (Nat × Int))), aI ((0 : Int), ([(3, 1)] : List (Nat × Int)))] : List av) = [.inl gi, .inl gv] from hg)
  obtain ⟨g2, -⟩ := List.cons.inj g2
  cases g1
  cases g2
  have ei : ev ρ ((0 : Int), ([(2, 1)] : List (Nat × Int))) = ((ρ 2)) := by show 0 + (1 * ρ 2 + 0) = _; omega
  have ew : ev ρ ((0 : Int), ([(3, 1)] : List (Nat × Int))) = ((ρ 3)) := by show 0 + (1 * ρ 3 + 0) = _; omega
  rw [show (st M (ctj r_732) (ev ρ ((0 : Int), ([(2, 1)] : List (Nat × Int)))).toNat (ev ρ ((0 : Int), ([(3, 1)] : List (Nat × Int))))) = (st M 42 ((ρ 2)).toNat ((ρ 3))) from by rw [ei, ew]; rfl]
  have H := cr_732 M (ρ 0) (ρ 1) (ρ 2) (ρ 3) (hB _ List.mem_cons_self) (hB _ (List.mem_cons_of_mem _ List.mem_cons_self)) (hB _ (List.mem_cons_of_mem _ (List.mem_cons_of_mem _ List.mem_cons_self))) (hB _ (List.mem_cons_of_mem _ (List.mem_cons_of_mem _ (List.mem_cons_of_mem _ List.mem_cons_self)))) (cvp 197 (x' := (256 * (ρ 0) + (ρ 1))) (y' := (0 : Int)) (by show 0 + (256 * ρ 0 + (1 * ρ 1 + 0)) = _; omega) (by show 0 + 0 = _; omega) (hm _ List.mem_cons_self)) (by have h := hF _ List.mem_cons_self; have h : 0 ≤ 0 + ((-1) * ρ 1 + (1 * ρ 2 + 0)) := h; omega) hG
  obtain ⟨k0, -⟩ := H
  exact ⟨_, List.mem_cons_self, ρ, fun _ _ => rfl, (okM_c (pvp 197 (by show 0 + (256 * ρ 0 + (1 * ρ 1 + 0)) = _; omega) (by show 0 + 0 = _; omega) k0) okM_n), okB_n, okF_n⟩
-- tqw43
theorem cr_733 (M : pM) (s0 s1 s2 s3 : Int) (b0 : 0 ≤ s0 ∧ s0 ≤ 8) (b1 : 0 ≤ s1 ∧ s1 ≤ 200) (b2 : 0 ≤ s2 ∧ s2 ≤ 199) (b3 : (-2147483648) ≤ s3 ∧ s3 ≤ 2147483647) (m0 : HP 197 (256 * s0 + s1) (0 : Int) M) (f0 : 0 ≤ ((-1) * s1 + s2)) (hG : gI M) : (HP 197 (256 * s0 + s1) (0 : Int) (st M 43 (s2).toNat (s3)) ∧ True) := by
  have hq := tq_o (P := s0.toNat) (F := s1.toNat) m0 ⟨by omega, by omega⟩
  exact ⟨Eq.mpr hp_197 ⟨s0.toNat, s1.toNat, by omega, by omega, by omega, qtr_st (fun h => by omega) (fun h => by omega) hq⟩, trivial⟩
theorem rul_733 : Rul r_733 := by
  refine ⟨fun h => (by cases h), fun gi gv hg ρ M hm hB hF hG => ?_⟩
  obtain ⟨g1, g2⟩ := List.cons.inj (show ([aI ((0 : Int), ([(2, 1)] : List (Nat × Int))), aI ((0 : Int), ([(3, 1)] : List (Nat × Int)))] : List av) = [.inl gi, .inl gv] from hg)
  obtain ⟨g2, -⟩ := List.cons.inj g2
  cases g1
  cases g2
  have ei : ev ρ ((0 : Int), ([(2, 1)] : List (Nat × Int))) = ((ρ 2)) := by show 0 + (1 * ρ 2 + 0) = _; omega
  have ew : ev ρ ((0 : Int), ([(3, 1)] : List (Nat × Int))) = ((ρ 3)) := by show 0 + (1 * ρ 3 + 0) = _; omega
  rw [show (st M (ctj r_733) (ev ρ ((0 : Int), ([(2, 1)] : List (Nat × Int)))).toNat (ev ρ ((0 : Int), ([(3, 1)] : List (Nat × Int))))) = (st M 43 ((ρ 2)).toNat ((ρ 3))) from by rw [ei, ew]; rfl]
  have H := cr_733 M (ρ 0) (ρ 1) (ρ 2) (ρ 3) (hB _ List.mem_cons_self) (hB _ (List.mem_cons_of_mem _ List.mem_cons_self)) (hB _ (List.mem_cons_of_mem _ (List.mem_cons_of_mem _ List.mem_cons_self))) (hB _ (List.mem_cons_of_mem _ (List.mem_cons_of_mem _ (List.mem_cons_of_mem _ List.mem_cons_self)))) (cvp 197 (x' := (256 * (ρ 0) + (ρ 1))) (y' := (0 : Int)) (by show 0 + (256 * ρ 0 + (1 * ρ 1 + 0)) = _; omega) (by show 0 + 0 = _; omega) (hm _ List.mem_cons_self)) (by have h := hF _ List.mem_cons_self; have h : 0 ≤ 0 + ((-1) * ρ 1 + (1 * ρ 2 + 0)) := h; omega) hG
  obtain ⟨k0, -⟩ := H
  exact ⟨_, List.mem_cons_self, ρ, fun _ _ => rfl, (okM_c (pvp 197 (by show 0 + (256 * ρ 0 + (1 * ρ 1 + 0)) = _; omega) (by show 0 + 0 = _; omega) k0) okM_n), okB_n, okF_n⟩
-- tqw44
theorem cr_734 (M : pM) (s0 s1 s2 s3 : Int) (b0 : 0 ≤ s0 ∧ s0 ≤ 8) (b1 : 0 ≤ s1 ∧ s1 ≤ 200) (b2 : 0 ≤ s2 ∧ s2 ≤ 199) (b3 : (-2147483648) ≤ s3 ∧ s3 ≤ 2147483647) (m0 : HP 197 (256 * s0 + s1) (0 : Int) M) (f0 : 0 ≤ ((-1) * s1 + s2)) (hG : gI M) : (HP 197 (256 * s0 + s1) (0 : Int) (st M 44 (s2).toNat (s3)) ∧ True) := by
  have hq := tq_o (P := s0.toNat) (F := s1.toNat) m0 ⟨by omega, by omega⟩
  exact ⟨Eq.mpr hp_197 ⟨s0.toNat, s1.toNat, by omega, by omega, by omega, qtr_st (fun h => by omega) (fun h => by omega) hq⟩, trivial⟩
theorem rul_734 : Rul r_734 := by
  refine ⟨fun h => (by cases h), fun gi gv hg ρ M hm hB hF hG => ?_⟩
  obtain ⟨g1, g2⟩ := List.cons.inj (show ([aI ((0 : Int), ([(2, 1)] : List (Nat × Int))), aI ((0 : Int), ([(3, 1)] : List (Nat × Int)))] : List av) = [.inl gi, .inl gv] from hg)
  obtain ⟨g2, -⟩ := List.cons.inj g2
  cases g1
  cases g2
  have ei : ev ρ ((0 : Int), ([(2, 1)] : List (Nat × Int))) = ((ρ 2)) := by show 0 + (1 * ρ 2 + 0) = _; omega
  have ew : ev ρ ((0 : Int), ([(3, 1)] : List (Nat × Int))) = ((ρ 3)) := by show 0 + (1 * ρ 3 + 0) = _; omega
  rw [show (st M (ctj r_734) (ev ρ ((0 : Int), ([(2, 1)] : List (Nat × Int)))).toNat (ev ρ ((0 : Int), ([(3, 1)] : List (Nat × Int))))) = (st M 44 ((ρ 2)).toNat ((ρ 3))) from by rw [ei, ew]; rfl]
  have H := cr_734 M (ρ 0) (ρ 1) (ρ 2) (ρ 3) (hB _ List.mem_cons_self) (hB _ (List.mem_cons_of_mem _ List.mem_cons_self)) (hB _ (List.mem_cons_of_mem _ (List.mem_cons_of_mem _ List.mem_cons_self))) (hB _ (List.mem_cons_of_mem _ (List.mem_cons_of_mem _ (List.mem_cons_of_mem _ List.mem_cons_self)))) (cvp 197 (x' := (256 * (ρ 0) + (ρ 1))) (y' := (0 : Int)) (by show 0 + (256 * ρ 0 + (1 * ρ 1 + 0)) = _; omega) (by show 0 + 0 = _; omega) (hm _ List.mem_cons_self)) (by have h := hF _ List.mem_cons_self; have h : 0 ≤ 0 + ((-1) * ρ 1 + (1 * ρ 2 + 0)) := h; omega) hG
  obtain ⟨k0, -⟩ := H
  exact ⟨_, List.mem_cons_self, ρ, fun _ _ => rfl, (okM_c (pvp 197 (by show 0 + (256 * ρ 0 + (1 * ρ 1 + 0)) = _; omega) (by show 0 + 0 = _; omega) k0) okM_n), okB_n, okF_n⟩
-- tqw45
theorem cr_735 (M : pM) (s0 s1 s2 s3 : Int) (b0 : 0 ≤ s0 ∧ s0 ≤ 8) (b1 : 0 ≤ s1 ∧ s1 ≤ 200) (b2 : 0 ≤ s2 ∧ s2 ≤ 199) (b3 : (-2147483648) ≤ s3 ∧ s3 ≤ 2147483647) (m0 : HP 197 (256 * s0 + s1) (0 : Int) M) (f0 : 0 ≤ ((-1) * s1 + s2)) (hG : gI M) : (HP 197 (256 * s0 + s1) (0 : Int) (st M 45 (s2).toNat (s3)) ∧ True) := by
  have hq := tq_o (P := s0.toNat) (F := s1.toNat) m0 ⟨by omega, by omega⟩
  exact ⟨Eq.mpr hp_197 ⟨s0.toNat, s1.toNat, by omega, by omega, by omega, qtr_st (fun h => by omega) (fun h => by omega) hq⟩, trivial⟩
theorem rul_735 : Rul r_735 := by
  refine ⟨fun h => (by cases h), fun gi gv hg ρ M hm hB hF hG => ?_⟩
  obtain ⟨g1, g2⟩ := List.cons.inj (show ([aI ((0 : Int), ([(2, 1)] : List (Nat × Int))), aI ((0 : Int), ([(3, 1)] : List (Nat × Int)))] : List av) = [.inl gi, .inl gv] from hg)
  obtain ⟨g2, -⟩ := List.cons.inj g2
  cases g1
  cases g2
  have ei : ev ρ ((0 : Int), ([(2, 1)] : List (Nat × Int))) = ((ρ 2)) := by show 0 + (1 * ρ 2 + 0) = _; omega
  have ew : ev ρ ((0 : Int), ([(3, 1)] : List (Nat × Int))) = ((ρ 3)) := by show 0 + (1 * ρ 3 + 0) = _; omega
  rw [show (st M (ctj r_735) (ev ρ ((0 : Int), ([(2, 1)] : List (Nat × Int)))).toNat (ev ρ ((0 : Int), ([(3, 1)] : List (Nat × Int))))) = (st M 45 ((ρ 2)).toNat ((ρ 3))) from by rw [ei, ew]; rfl]
  have H := cr_735 M (ρ 0) (ρ 1) (ρ 2) (ρ 3) (hB _ List.mem_cons_self) (hB _ (List.mem_cons_of_mem _ List.mem_cons_self)) (hB _ (List.mem_cons_of_mem _ (List.mem_cons_of_mem _ List.mem_cons_self))) (hB _ (List.mem_cons_of_mem _ (List.mem_cons_of_mem _ (List.mem_cons_of_mem _ List.mem_cons_self)))) (cvp 197 (x' := (256 * (ρ 0) + (ρ 1))) (y' := (0 : Int)) (by show 0 + (256 * ρ 0 + (1 * ρ 1 + 0)) = _; omega) (by show 0 + 0 = _; omega) (hm _ List.mem_cons_self)) (by have h := hF _ List.mem_cons_self; have h : 0 ≤ 0 + ((-1) * ρ 1 + (1 * ρ 2 + 0)) := h; omega) hG
  obtain ⟨k0, -⟩ := H
  exact ⟨_, List.mem_cons_self, ρ, fun _ _ => rfl, (okM_c (pvp 197 (by show 0 + (256 * ρ 0 + (1 * ρ 1 + 0)) = _; omega) (by show 0 + 0 = _; omega) k0) okM_n), okB_n, okF_n⟩
-- tqw46
theorem cr_736 (M : pM) (s0 s1 s2 s3 : Int) (b0 : 0 ≤ s0 ∧ s0 ≤ 8) (b1 : 0 ≤ s1 ∧ s1 ≤ 200) (b2 : 0 ≤ s2 ∧ s2 ≤ 199) (b3 : (-2147483648) ≤ s3 ∧ s3 ≤ 2147483647) (m0 : HP 197 (256 * s0 + s1) (0 : Int) M) (f0 : 0 ≤ ((-1) * s1 + s2)) (hG : gI M) : (HP 197 (256 * s0 + s1) (0 : Int) (st M 46 (s2).toNat (s3)) ∧ True) := by
  have hq := tq_o (P := s0.toNat) (F := s1.toNat) m0 ⟨by omega, by omega⟩
  exact ⟨Eq.mpr hp_197 ⟨s0.toNat, s1.toNat, by omega, by omega, by omega, qtr_st (fun h => by omega) (fun h => by omega) hq⟩, trivial⟩
theorem rul_736 : Rul r_736 := by
  refine ⟨fun h => (by cases h), fun gi gv hg ρ M hm hB hF hG => ?_⟩
  obtain ⟨g1, g2⟩ := List.cons.inj (show ([aI ((0 : Int), ([(2, 1)] : List (Nat × Int))), aI ((0 : Int), ([(3, 1)] : List (Nat × Int)))] : List av) = [.inl gi, .inl gv] from hg)
  obtain ⟨g2, -⟩ := List.cons.inj g2
  cases g1
  cases g2
  have ei : ev ρ ((0 : Int), ([(2, 1)] : List (Nat × Int))) = ((ρ 2)) := by show 0 + (1 * ρ 2 + 0) = _; omega
  have ew : ev ρ ((0 : Int), ([(3, 1)] : List (Nat × Int))) = ((ρ 3)) := by show 0 + (1 * ρ 3 + 0) = _; omega
  rw [show (st M (ctj r_736) (ev ρ ((0 : Int), ([(2, 1)] : List (Nat × Int)))).toNat (ev ρ ((0 : Int), ([(3, 1)] : List (Nat × Int))))) = (st M 46 ((ρ 2)).toNat ((ρ 3))) from by rw [ei, ew]; rfl]
  have H := cr_736 M (ρ 0) (ρ 1) (ρ 2) (ρ 3) (hB _ List.mem_cons_self) (hB _ (List.mem_cons_of_mem _ List.mem_cons_self)) (hB _ (List.mem_cons_of_mem _ (List.mem_cons_of_mem _ List.mem_cons_self))) (hB _ (List.mem_cons_of_mem _ (List.mem_cons_of_mem _ (List.mem_cons_of_mem _ List.mem_cons_self)))) (cvp 197 (x' := (256 * (ρ 0) + (ρ 1))) (y' := (0 : Int)) (by show 0 + (256 * ρ 0 + (1 * ρ 1 + 0)) = _; omega) (by show 0 + 0 = _; omega) (hm _ List.mem_cons_self)) (by have h := hF _ List.mem_cons_self; have h : 0 ≤ 0 + ((-1) * ρ 1 + (1 * ρ 2 + 0)) := h; omega) hG
  obtain ⟨k0, -⟩ := H
  exact ⟨_, List.mem_cons_self, ρ, fun _ _ => rfl, (okM_c (pvp 197 (by show 0 + (256 * ρ 0 + (1 * ρ 1 + 0)) = _; omega) (by show 0 + 0 = _; omega) k0) okM_n), okB_n, okF_n⟩
-- tqw47
theorem cr_737 (M : pM) (s0 s1 s2 s3 : Int) (b0 : 0 ≤ s0 ∧ s0 ≤ 8) (b1 : 0 ≤ s1 ∧ s1 ≤ 200) (b2 : 0 ≤ s2 ∧ s2 ≤ 199) (b3 : (-2147483648) ≤ s3 ∧ s3 ≤ 2147483647) (m0 : HP 197 (256 * s0 + s1) (0 : Int) M) (f0 : 0 ≤ ((-1) * s1 + s2)) (hG : gI M) : (HP 197 (256 * s0 + s1) (0 : Int) (st M 47 (s2).toNat (s3)) ∧ True) := by
  have hq := tq_o (P := s0.toNat) (F := s1.toNat) m0 ⟨by omega, by omega⟩
  exact ⟨Eq.mpr hp_197 ⟨s0.toNat, s1.toNat, by omega, by omega, by omega, qtr_st (fun h => by omega) (fun h => by omega) hq⟩, trivial⟩
theorem rul_737 : Rul r_737 := by
  refine ⟨fun h => (by cases h), fun gi gv hg ρ M hm hB hF hG => ?_⟩
  obtain ⟨g1, g2⟩ := List.cons.inj (show ([aI ((0 : Int), ([(2, 1)] : List (Nat × Int))), aI ((0 : Int), ([(3, 1)] : List (Nat × Int)))] : List av) = [.inl gi, .inl gv] from hg)
  obtain ⟨g2, -⟩ := List.cons.inj g2
  cases g1
  cases g2
  have ei : ev ρ ((0 : Int), ([(2, 1)] : List (Nat × Int))) = ((ρ 2)) := by show 0 + (1 * ρ 2 + 0) = _; omega
  have ew : ev ρ ((0 : Int), ([(3, 1)] : List (Nat × Int))) = ((ρ 3)) := by show 0 + (1 * ρ 3 + 0) = _; omega
  rw [show (st M (ctj r_737) (ev ρ ((0 : Int), ([(2, 1)] : List (Nat × Int)))).toNat (ev ρ ((0 : Int), ([(3, 1)] : List (Nat × Int))))) = (st M 47 ((ρ 2)).toNat ((ρ 3))) from by rw [ei, ew]; rfl]
  have H := cr_737 M (ρ 0) (ρ 1) (ρ 2) (ρ 3) (hB _ List.mem_cons_self) (hB _ (List.mem_cons_of_mem _ List.mem_cons_self)) (hB _ (List.mem_cons_of_mem _ (List.mem_cons_of_mem _ List.mem_cons_self))) (hB _ (List.mem_cons_of_mem _ (List.mem_cons_of_mem _ (List.mem_cons_of_mem _ List.mem_cons_self)))) (cvp 197 (x' := (256 * (ρ 0) + (ρ 1))) (y' := (0 : Int)) (by show 0 + (256 * ρ 0 + (1 * ρ 1 + 0)) = _; omega) (by show 0 + 0 = _; omega) (hm _ List.mem_cons_self)) (by have h := hF _ List.mem_cons_self; have h : 0 ≤ 0 + ((-1) * ρ 1 + (1 * ρ 2 + 0)) := h; omega) hG
  obtain ⟨k0, -⟩ := H
  exact ⟨_, List.mem_cons_self, ρ, fun _ _ => rfl, (okM_c (pvp 197 (by show 0 + (256 * ρ 0 + (1 * ρ 1 + 0)) = _; omega) (by show 0 + 0 = _; omega) k0) okM_n), okB_n, okF_n⟩
-- tqw97
theorem cr_738 (M : pM) (s0 s1 s2 s3 : Int) (b0 : 0 ≤ s0 ∧ s0 ≤ 8) (b1 : 0 ≤ s1 ∧ s1 ≤ 200) (b2 : 0 ≤ s2 ∧ s2 ≤ 199) (b3 : (-2147483648) ≤ s3 ∧ s3 ≤ 2147483647) (m0 : HP 197 (256 * s0 + s1) (0 : Int) M) (f0 : 0 ≤ ((-1) * s1 + s2)) (hG : gI M) : (HP 197 (256 * s0 + s1) (0 : Int) (st M 97 (s2).toNat (s3)) ∧ True) := by
  have hq := tq_o (P := s0.toNat) (F := s1.toNat) m0 ⟨by omega, by omega⟩
  exact ⟨Eq.mpr hp_197 ⟨s0.toNat, s1.toNat, by omega, by omega, by omega, qtr_st (fun h => by omega) (fun h => by omega) hq⟩, trivial⟩
theorem rul_738 : Rul r_738 := by
  refine ⟨fun h => (by cases h), fun gi gv hg ρ M hm hB hF hG => ?_⟩
  obtain ⟨g1, g2⟩ := List.cons.inj (show ([aI ((0 : Int), ([(2, 1)] : List (Nat × Int))), aI ((0 : Int), ([(3, 1)] : List (Nat × Int)))] : List av) = [.inl gi, .inl gv] from hg)
  obtain ⟨g2, -⟩ := List.cons.inj g2
  cases g1
  cases g2
  have ei : ev ρ ((0 : Int), ([(2, 1)] : List (Nat × Int))) = ((ρ 2)) := by show 0 + (1 * ρ 2 + 0) = _; omega
  have ew : ev ρ ((0 : Int), ([(3, 1)] : List (Nat × Int))) = ((ρ 3)) := by show 0 + (1 * ρ 3 + 0) = _; omega
  rw [show (st M (ctj r_738) (ev ρ ((0 : Int), ([(2, 1)] : List (Nat × Int)))).toNat (ev ρ ((0 : Int), ([(3, 1)] : List (Nat × Int))))) = (st M 97 ((ρ 2)).toNat ((ρ 3))) from by rw [ei, ew]; rfl]
  have H := cr_738 M (ρ 0) (ρ 1) (ρ 2) (ρ 3) (hB _ List.mem_cons_self) (hB _ (List.mem_cons_of_mem _ List.mem_cons_self)) (hB _ (List.mem_cons_of_mem _ (List.mem_cons_of_mem _ List.mem_cons_self))) (hB _ (List.mem_cons_of_mem _ (List.mem_cons_of_mem _ (List.mem_cons_of_mem _ List.mem_cons_self)))) (cvp 197 (x' := (256 * (ρ 0) + (ρ 1))) (y' := (0 : Int)) (by show 0 + (256 * ρ 0 + (1 * ρ 1 + 0)) = _; omega) (by show 0 + 0 = _; omega) (hm _ List.mem_cons_self)) (by have h := hF _ List.mem_cons_self; have h : 0 ≤ 0 + ((-1) * ρ 1 + (1 * ρ 2 + 0)) := h; omega) hG
  obtain ⟨k0, -⟩ := H
  exact ⟨_, List.mem_cons_self, ρ, fun _ _ => rfl, (okM_c (pvp 197 (by show 0 + (256 * ρ 0 + (1 * ρ 1 + 0)) = _; omega) (by show 0 + 0 = _; omega) k0) okM_n), okB_n, okF_n⟩
-- tqw98
theorem cr_739 (M : pM) (s0 s1 s2 s3 : Int) (b0 : 0 ≤ s0 ∧ s0 ≤ 8) (b1 : 0 ≤ s1 ∧ s1 ≤ 200) (b2 : 0 ≤ s2 ∧ s2 ≤ 199) (b3 : (-2147483648) ≤ s3 ∧ s3 ≤ 2147483647) (m0 : HP 197 (256 * s0 + s1) (0 : Int) M) (f0 : 0 ≤ ((-1) * s1 + s2)) (hG : gI M) : (HP 197 (256 * s0 + s1) (0 : Int) (st M 98 (s2).toNat (s3)) ∧ True) := by
  have hq := tq_o (P := s0.toNat) (F := s1.toNat) m0 ⟨by omega, by omega⟩
  exact ⟨Eq.mpr hp_197 ⟨s0.toNat, s1.toNat, by omega, by omega, by omega, qtr_st (fun h => by omega) (fun h => by omega) hq⟩, trivial⟩
theorem rul_739 : Rul r_739 := by
  refine ⟨fun h => (by cases h), fun gi gv hg ρ M hm hB hF hG => ?_⟩
  obtain ⟨g1, g2⟩ := List.cons.inj (show ([aI ((0 : Int), ([(2, 1)] : List (Nat × Int))), aI ((0 : Int), ([(3, 1)] : List (Nat × Int)))] : List av) = [.inl gi, .inl gv] from hg)
  obtain ⟨g2, -⟩ := List.cons.inj g2
  cases g1
  cases g2
  have ei : ev ρ ((0 : Int), ([(2, 1)] : List (Nat × Int))) = ((ρ 2)) := by show 0 + (1 * ρ 2 + 0) = _; omega
  have ew : ev ρ ((0 : Int), ([(3, 1)] : List (Nat × Int))) = ((ρ 3)) := by show 0 + (1 * ρ 3 + 0) = _; omega
  rw [show (st M (ctj r_739) (ev ρ ((0 : Int), ([(2, 1)] : List (Nat × Int)))).toNat (ev ρ ((0 : Int), ([(3, 1)] : List (Nat × Int))))) = (st M 98 ((ρ 2)).toNat ((ρ 3))) from by rw [ei, ew]; rfl]
  have H := cr_739 M (ρ 0) (ρ 1) (ρ 2) (ρ 3) (hB _ List.mem_cons_self) (hB _ (List.mem_cons_of_mem _ List.mem_cons_self)) (hB _ (List.mem_cons_of_mem _ (List.mem_cons_of_mem _ List.mem_cons_self))) (hB _ (List.mem_cons_of_mem _ (List.mem_cons_of_mem _ (List.mem_cons_of_mem _ List.mem_cons_self)))) (cvp 197 (x' := (256 * (ρ 0) + (ρ 1))) (y' := (0 : Int)) (by show 0 + (256 * ρ 0 + (1 * ρ 1 + 0)) = _; omega) (by show 0 + 0 = _; omega) (hm _ List.mem_cons_self)) (by have h := hF _ List.mem_cons_self; have h : 0 ≤ 0 + ((-1) * ρ 1 + (1 * ρ 2 + 0)) := h; omega) hG
  obtain ⟨k0, -⟩ := H
  exact ⟨_, List.mem_cons_self, ρ, fun _ _ => rfl, (okM_c (pvp 197 (by show 0 + (256 * ρ 0 + (1 * ρ 1 + 0)) = _; omega) (by show 0 + 0 = _; omega) k0) okM_n), okB_n, okF_n⟩
-- tqw99
theorem cr_740 (M : pM) (s0 s1 s2 s3 : Int) (b0 : 0 ≤ s0 ∧ s0 ≤ 8) (b1 : 0 ≤ s1 ∧ s1 ≤ 200) (b2 : 0 ≤ s2 ∧ s2 ≤ 199) (b3 : (-2147483648) ≤ s3 ∧ s3 ≤ 2147483647) (m0 : HP 197 (256 * s0 + s1) (0 : Int) M) (f0 : 0 ≤ ((-1) * s1 + s2)) (hG : gI M) : (HP 197 (256 * s0 + s1) (0 : Int) (st M 99 (s2).toNat (s3)) ∧ True) := by
  have hq := tq_o (P := s0.toNat) (F := s1.toNat) m0 ⟨by omega, by omega⟩
  exact ⟨Eq.mpr hp_197 ⟨s0.toNat, s1.toNat, by omega, by omega, by omega, qtr_st (fun h => by omega) (fun h => by omega) hq⟩, trivial⟩
theorem rul_740 : Rul r_740 := by
  refine ⟨fun h => (by cases h), fun gi gv hg ρ M hm hB hF hG => ?_⟩
  obtain ⟨g1, g2⟩ := List.cons.inj (show ([aI ((0 : Int), ([(2, 1)] : List (Nat × Int))), aI ((0 : Int), ([(3, 1)] : List (Nat × Int)))] : List av) = [.inl gi, .inl gv] from hg)
  obtain ⟨g2, -⟩ := List.cons.inj g2
  cases g1
  cases g2
  have ei : ev ρ ((0 : Int), ([(2, 1)] : List (Nat × Int))) = ((ρ 2)) := by show 0 + (1 * ρ 2 + 0) = _; omega
  have ew : ev ρ ((0 : Int), ([(3, 1)] : List (Nat × Int))) = ((ρ 3)) := by show 0 + (1 * ρ 3 + 0) = _; omega
  rw [show (st M (ctj r_740) (ev ρ ((0 : Int), ([(2, 1)] : List (Nat × Int)))).toNat (ev ρ ((0 : Int), ([(3, 1)] : List (Nat × Int))))) = (st M 99 ((ρ 2)).toNat ((ρ 3))) from by rw [ei, ew]; rfl]
  have H := cr_740 M (ρ 0) (ρ 1) (ρ 2) (ρ 3) (hB _ List.mem_cons_self) (hB _ (List.mem_cons_of_mem _ List.mem_cons_self)) (hB _ (List.mem_cons_of_mem _ (List.mem_cons_of_mem _ List.mem_cons_self))) (hB _ (List.mem_cons_of_mem _ (List.mem_cons_of_mem _ (List.mem_cons_of_mem _ List.mem_cons_self)))) (cvp 197 (x' := (256 * (ρ 0) + (ρ 1))) (y' := (0 : Int)) (by show 0 + (256 * ρ 0 + (1 * ρ 1 + 0)) = _; omega) (by show 0 + 0 = _; omega) (hm _ List.mem_cons_self)) (by have h := hF _ List.mem_cons_self; have h : 0 ≤ 0 + ((-1) * ρ 1 + (1 * ρ 2 + 0)) := h; omega) hG
  obtain ⟨k0, -⟩ := H
  exact ⟨_, List.mem_cons_self, ρ, fun _ _ => rfl, (okM_c (pvp 197 (by show 0 + (256 * ρ 0 + (1 * ρ 1 + 0)) = _; omega) (by show 0 + 0 = _; omega) k0) okM_n), okB_n, okF_n⟩
-- tqw100
theorem cr_741 (M : pM) (s0 s1 s2 s3 : Int) (b0 : 0 ≤ s0 ∧ s0 ≤ 8) (b1 : 0 ≤ s1 ∧ s1 ≤ 200) (b2 : 0 ≤ s2 ∧ s2 ≤ 199) (b3 : (-2147483648) ≤ s3 ∧ s3 ≤ 2147483647) (m0 : HP 197 (256 * s0 + s1) (0 : Int) M) (f0 : 0 ≤ ((-1) * s1 + s2)) (hG : gI M) : (HP 197 (256 * s0 + s1) (0 : Int) (st M 100 (s2).toNat (s3)) ∧ True) := by
  have hq := tq_o (P := s0.toNat) (F := s1.toNat) m0 ⟨by omega, by omega⟩
  exact ⟨Eq.mpr hp_197 ⟨s0.toNat, s1.toNat, by omega, by omega, by omega, qtr_st (fun h => by omega) (fun h => by omega) hq⟩, trivial⟩
theorem rul_741 : Rul r_741 := by
  refine ⟨fun h => (by cases h), fun gi gv hg ρ M hm hB hF hG => ?_⟩
  obtain ⟨g1, g2⟩ := List.cons.inj (show ([aI ((0 : Int), ([(2, 1)] : List (Nat × Int))), aI ((0 : Int), ([(3, 1)] : List (Nat × Int)))] : List av) = [.inl gi, .inl gv] from hg)
  obtain ⟨g2, -⟩ := List.cons.inj g2
  cases g1
  cases g2
  have ei : ev ρ ((0 : Int), ([(2, 1)] : List (Nat × Int))) = ((ρ 2)) := by show 0 + (1 * ρ 2 + 0) = _; omega
  have ew : ev ρ ((0 : Int), ([(3, 1)] : List (Nat × Int))) = ((ρ 3)) := by show 0 + (1 * ρ 3 + 0) = _; omega
  rw [show (st M (ctj r_741) (ev ρ ((0 : Int), ([(2, 1)] : List (Nat × Int)))).toNat (ev ρ ((0 : Int), ([(3, 1)] : List (Nat × Int))))) = (st M 100 ((ρ 2)).toNat ((ρ 3))) from by rw [ei, ew]; rfl]
  have H := cr_741 M (ρ 0) (ρ 1) (ρ 2) (ρ 3) (hB _ List.mem_cons_self) (hB _ (List.mem_cons_of_mem _ List.mem_cons_self)) (hB _ (List.mem_cons_of_mem _ (List.mem_cons_of_mem _ List.mem_cons_self))) (hB _ (List.mem_cons_of_mem _ (List.mem_cons_of_mem _ (List.mem_cons_of_mem _ List.mem_cons_self)))) (cvp 197 (x' := (256 * (ρ 0) + (ρ 1))) (y' := (0 : Int)) (by show 0 + (256 * ρ 0 + (1 * ρ 1 + 0)) = _; omega) (by show 0 + 0 = _; omega) (hm _ List.mem_cons_self)) (by have h := hF _ List.mem_cons_self; have h : 0 ≤ 0 + ((-1) * ρ 1 + (1 * ρ 2 + 0)) := h; omega) hG
  obtain ⟨k0, -⟩ := H
  exact ⟨_, List.mem_cons_self, ρ, fun _ _ => rfl, (okM_c (pvp 197 (by show 0 + (256 * ρ 0 + (1 * ρ 1 + 0)) = _; omega) (by show 0 + 0 = _; omega) k0) okM_n), okB_n, okF_n⟩
-- tqw101
theorem cr_742 (M : pM) (s0 s1 s2 s3 : Int) (b0 : 0 ≤ s0 ∧ s0 ≤ 8) (b1 : 0 ≤ s1 ∧ s1 ≤ 200) (b2 : 0 ≤ s2 ∧ s2 ≤ 199) (b3 : (-2147483648) ≤ s3 ∧ s3 ≤ 2147483647) (m0 : HP 197 (256 * s0 + s1) (0 : Int) M) (f0 : 0 ≤ ((-1) * s1 + s2)) (hG : gI M) : (HP 197 (256 * s0 + s1) (0 : Int) (st M 101 (s2).toNat (s3)) ∧ True) := by
  have hq := tq_o (P := s0.toNat) (F := s1.toNat) m0 ⟨by omega, by omega⟩
  exact ⟨Eq.mpr hp_197 ⟨s0.toNat, s1.toNat, by omega, by omega, by omega, qtr_st (fun h => by omega) (fun h => by omega) hq⟩, trivial⟩
theorem rul_742 : Rul r_742 := by
  refine ⟨fun h => (by cases h), fun gi gv hg ρ M hm hB hF hG => ?_⟩
  obtain ⟨g1, g2⟩ := List.cons.inj (show ([aI ((0 : Int), ([(2, 1)] : List (Nat × Int))), aI ((0 : Int), ([(3, 1)] : List (Nat × Int)))] : List av) = [.inl gi, .inl gv] from hg)
  obtain ⟨g2, -⟩ := List.cons.inj g2
  cases g1
  cases g2
  have ei : ev ρ ((0 : Int), ([(2, 1)] : List (Nat × Int))) = ((ρ 2)) := by show 0 + (1 * ρ 2 + 0) = _; omega
  have ew : ev ρ ((0 : Int), ([(3, 1)] : List (Nat × Int))) = ((ρ 3)) := by show 0 + (1 * ρ 3 + 0) = _; omega
  rw [show (st M (ctj r_742) (ev ρ ((0 : Int), ([(2, 1)] : List (Nat × Int)))).toNat (ev ρ ((0 : Int), ([(3, 1)] : List (Nat × Int))))) = (st M 101 ((ρ 2)).toNat ((ρ 3))) from by rw [ei, ew]; rfl]
  have H := cr_742 M (ρ 0) (ρ 1) (ρ 2) (ρ 3) (hB _ List.mem_cons_self) (hB _ (List.mem_cons_of_mem _ List.mem_cons_self)) (hB _ (List.mem_cons_of_mem _ (List.mem_cons_of_mem _ List.mem_cons_self))) (hB _ (List.mem_cons_of_mem _ (List.mem_cons_of_mem _ (List.mem_cons_of_mem _ List.mem_cons_self)))) (cvp 197 (x' := (256 * (ρ 0) + (ρ 1))) (y' := (0 : Int)) (by show 0 + (256 * ρ 0 + (1 * ρ 1 + 0)) = _; omega) (by show 0 + 0 = _; omega) (hm _ List.mem_cons_self)) (by have h := hF _ List.mem_cons_self; have h : 0 ≤ 0 + ((-1) * ρ 1 + (1 * ρ 2 + 0)) := h; omega) hG
  obtain ⟨k0, -⟩ := H
  exact ⟨_, List.mem_cons_self, ρ, fun _ _ => rfl, (okM_c (pvp 197 (by show 0 + (256 * ρ 0 + (1 * ρ 1 + 0)) = _; omega) (by show 0 + 0 = _; omega) k0) okM_n), okB_n, okF_n⟩
-- tqw102
theorem cr_743 (M : pM) (s0 s1 s2 s3 : Int) (b0 : 0 ≤ s0 ∧ s0 ≤ 8) (b1 : 0 ≤ s1 ∧ s1 ≤ 200) (b2 : 0 ≤ s2 ∧ s2 ≤ 199) (b3 : (-2147483648) ≤ s3 ∧ s3 ≤ 2147483647) (m0 : HP 197 (256 * s0 + s1) (0 : Int) M) (f0 : 0 ≤ ((-1) * s1 + s2)) (hG : gI M) : (HP 197 (256 * s0 + s1) (0 : Int) (st M 102 (s2).toNat (s3)) ∧ True) := by
  have hq := tq_o (P := s0.toNat) (F := s1.toNat) m0 ⟨by omega, by omega⟩
  exact ⟨Eq.mpr hp_197 ⟨s0.toNat, s1.toNat, by omega, by omega, by omega, qtr_st (fun h => by omega) (fun h => by omega) hq⟩, trivial⟩
theorem rul_743 : Rul r_743 := by
  refine ⟨fun h => (by cases h), fun gi gv hg ρ M hm hB hF hG => ?_⟩
  obtain ⟨g1, g2⟩ := List.cons.inj (show ([aI ((0 : Int), ([(2, 1)] : List (Nat × Int))), aI ((0 : Int), ([(3, 1)] : List (Nat × Int)))] : List av) = [.inl gi, .inl gv] from hg)
  obtain ⟨g2, -⟩ := List.cons.inj g2
  cases g1
  cases g2
  have ei : ev ρ ((0 : Int), ([(2, 1)] : List (Nat × Int))) = ((ρ 2)) := by show 0 + (1 * ρ 2 + 0) = _; omega
  have ew : ev ρ ((0 : Int), ([(3, 1)] : List (Nat × Int))) = ((ρ 3)) := by show 0 + (1 * ρ 3 + 0) = _; omega
  rw [show (st M (ctj r_743) (ev ρ ((0 : Int), ([(2, 1)] : List (Nat × Int)))).toNat (ev ρ ((0 : Int), ([(3, 1)] : List (Nat × Int))))) = (st M 102 ((ρ 2)).toNat ((ρ 3))) from by rw [ei, ew]; rfl]
  have H := cr_743 M (ρ 0) (ρ 1) (ρ 2) (ρ 3) (hB _ List.mem_cons_self) (hB _ (List.mem_cons_of_mem _ List.mem_cons_self)) (hB _ (List.mem_cons_of_mem _ (List.mem_cons_of_mem _ List.mem_cons_self))) (hB _ (List.mem_cons_of_mem _ (List.mem_cons_of_mem _ (List.mem_cons_of_mem _ List.mem_cons_self)))) (cvp 197 (x' := (256 * (ρ 0) + (ρ 1))) (y' := (0 : Int)) (by show 0 + (256 * ρ 0 + (1 * ρ 1 + 0)) = _; omega) (by show 0 + 0 = _; omega) (hm _ List.mem_cons_self)) (by have h := hF _ List.mem_cons_self; have h : 0 ≤ 0 + ((-1) * ρ 1 + (1 * ρ 2 + 0)) := h; omega) hG
  obtain ⟨k0, -⟩ := H
  exact ⟨_, List.mem_cons_self, ρ, fun _ _ => rfl, (okM_c (pvp 197 (by show 0 + (256 * ρ 0 + (1 * ρ 1 + 0)) = _; omega) (by show 0 + 0 = _; omega) k0) okM_n), okB_n, okF_n⟩
-- tqw41
theorem cr_744 (M : pM) (s0 s1 s2 s3 : Int) (b0 : 0 ≤ s0 ∧ s0 ≤ 8) (b1 : 0 ≤ s1 ∧ s1 ≤ 200) (b2 : 0 ≤ s2 ∧ s2 ≤ 7) (b3 : (-2147483648) ≤ s3 ∧ s3 ≤ 2147483647) (m0 : HP 197 (256 * s0 + s1) (0 : Int) M) (f0 : 0 ≤ ((-1) * s0 + s2)) (hG : gI M) : (HP 197 (256 * s0 + s1) (0 : Int) (st M 41 (s2).toNat (s3)) ∧ True) := by
  have hq := tq_o (P := s0.toNat) (F := s1.toNat) m0 ⟨by omega, by omega⟩
  exact ⟨Eq.mpr hp_197 ⟨s0.toNat, s1.toNat, by omega, by omega, by omega, qtr_st (fun h => by omega) (fun h => by omega) hq⟩, trivial⟩
theorem rul_744 : Rul r_744 := by
  refine ⟨fun h => (by cases h), fun gi gv hg ρ M hm hB hF hG => ?_⟩
  obtain ⟨g1, g2⟩ := List.cons.inj (show ([aI ((0 : Int), ([(2, 1)] : List (Nat × Int))), aI ((0 : Int), ([(3, 1)] : List (Nat × Int)))] : List av) = [.inl gi, .inl gv] from hg)
  obtain ⟨g2, -⟩ := List.cons.inj g2
  cases g1
  cases g2
  have ei : ev ρ ((0 : Int), ([(2, 1)] : List (Nat × Int))) = ((ρ 2)) := by show 0 + (1 * ρ 2 + 0) = _; omega
  have ew : ev ρ ((0 : Int), ([(3, 1)] : List (Nat × Int))) = ((ρ 3)) := by show 0 + (1 * ρ 3 + 0) = _; omega
  rw [show (st M (ctj r_744) (ev ρ ((0 : Int), ([(2, 1)] : List (Nat × Int)))).toNat (ev ρ ((0 : Int), ([(3, 1)] : List (Nat × Int))))) = (st M 41 ((ρ 2)).toNat ((ρ 3))) from by rw [ei, ew]; rfl]
  have H := cr_744 M (ρ 0) (ρ 1) (ρ 2) (ρ 3) (hB _ List.mem_cons_self) (hB _ (List.mem_cons_of_mem _ List.mem_cons_self)) (hB _ (List.mem_cons_of_mem _ (List.mem_cons_of_mem _ List.mem_cons_self))) (hB _ (List.mem_cons_of_mem _ (List.mem_cons_of_mem _ (List.mem_cons_of_mem _ List.mem_cons_self)))) (cvp 197 (x' := (256 * (ρ 0) + (ρ 1))) (y' := (0 : Int)) (by show 0 + (256 * ρ 0 + (1 * ρ 1 + 0)) = _; omega) (by show 0 + 0 = _; omega) (hm _ List.mem_cons_self)) (by have h := hF _ List.mem_cons_self; have h : 0 ≤ 0 + ((-1) * ρ 0 + (1 * ρ 2 + 0)) := h; omega) hG
  obtain ⟨k0, -⟩ := H
  exact ⟨_, List.mem_cons_self, ρ, fun _ _ => rfl, (okM_c (pvp 197 (by show 0 + (256 * ρ 0 + (1 * ρ 1 + 0)) = _; omega) (by show 0 + 0 = _; omega) k0) okM_n), okB_n, okF_n⟩
-- tqw96
theorem cr_745 (M : pM) (s0 s1 s2 s3 : Int) (b0 : 0 ≤ s0 ∧ s0 ≤ 8) (b1 : 0 ≤ s1 ∧ s1 ≤ 200) (b2 : 0 ≤ s2 ∧ s2 ≤ 7) (b3 : (-2147483648) ≤ s3 ∧ s3 ≤ 2147483647) (m0 : HP 197 (256 * s0 + s1) (0 : Int) M) (f0 : 0 ≤ ((-1) * s0 + s2)) (hG : gI M) : (HP 197 (256 * s0 + s1) (0 : Int) (st M 96 (s2).toNat (s3)) ∧ True) := by
  have hq := tq_o (P := s0.toNat) (F := s1.toNat) m0 ⟨by omega, by omega⟩
  exact ⟨Eq.mpr hp_197 ⟨s0.toNat, s1.toNat, by omega, by omega, by omega, qtr_st (fun h => by omega) (fun h => by omega) hq⟩, trivial⟩
theorem rul_745 : Rul r_745 := by
  refine ⟨fun h => (by cases h), fun gi gv hg ρ M hm hB hF hG => ?_⟩
  obtain ⟨g1, g2⟩ := List.cons.inj (show ([aI ((0 : Int), ([(2, 1)] : List (Nat × Int))), aI ((0 : Int), ([(3, 1)] : List (Nat × Int)))] : List av) = [.inl gi, .inl gv] from hg)
  obtain ⟨g2, -⟩ := List.cons.inj g2
  cases g1
  cases g2
  have ei : ev ρ ((0 : Int), ([(2, 1)] : List (Nat × Int))) = ((ρ 2)) := by show 0 + (1 * ρ 2 + 0) = _; omega
  have ew : ev ρ ((0 : Int), ([(3, 1)] : List (Nat × Int))) = ((ρ 3)) := by show 0 + (1 * ρ 3 + 0) = _; omega
  rw [show (st M (ctj r_745) (ev ρ ((0 : Int), ([(2, 1)] : List (Nat × Int)))).toNat (ev ρ ((0 : Int), ([(3, 1)] : List (Nat × Int))))) = (st M 96 ((ρ 2)).toNat ((ρ 3))) from by rw [ei, ew]; rfl]
  have H := cr_745 M (ρ 0) (ρ 1) (ρ 2) (ρ 3) (hB _ List.mem_cons_self) (hB _ (List.mem_cons_of_mem _ List.mem_cons_self)) (hB _ (List.mem_cons_of_mem _ (List.mem_cons_of_mem _ List.mem_cons_self))) (hB _ (List.mem_cons_of_mem _ (List.mem_cons_of_mem _ (List.mem_cons_of_mem _ List.mem_cons_self)))) (cvp 197 (x' := (256 * (ρ 0) + (ρ 1))) (y' := (0 : Int)) (by show 0 + (256 * ρ 0 + (1 * ρ 1 + 0)) = _; omega) (by show 0 + 0 = _; omega) (hm _ List.mem_cons_self)) (by have h := hF _ List.mem_cons_self; have h : 0 ≤ 0 + ((-1) * ρ 0 + (1 * ρ 2 + 0)) := h; omega) hG
  obtain ⟨k0, -⟩ := H
  exact ⟨_, List.mem_cons_self, ρ, fun _ _ => rfl, (okM_c (pvp 197 (by show 0 + (256 * ρ 0 + (1 * ρ 1 + 0)) = _; omega) (by show 0 + 0 = _; omega) k0) okM_n), okB_n, okF_n⟩
-- tqp
theorem cr_746 (M : pM) (s0 s1 s2 s3 s4 : Int) (b0 : 0 ≤ s0 ∧ s0 ≤ 7) (b1 : 0 ≤ s1 ∧ s1 ≤ 200) (b2 : 0 ≤ s2 ∧ s2 ≤ 7) (b3 : (-2147483648) ≤ s3 ∧ s3 ≤ 2147483647) (b4 : (-2147483648) ≤ s4 ∧ s4 ≤ 2147483647) (m0 : HP 197 (256 * s0 + s1) (0 : Int) M) (m1 : (0 ≤ (s2) ∧ M 41 (s2).toNat = (s3))) (m2 : (0 ≤ (s0) ∧ M 96 (s0).toNat = (s4))) (f0 : 0 ≤ ((-1) * s3 + s4)) (f1 : 0 ≤ (s3 + (-1) * s4)) (f2 : 0 ≤ (s0 + (-1) * s2)) (f3 : 0 ≤ ((-1) * s0 + s2)) (hG : gI M) : (HP 197 (256 * s0 + s1 + 256) (0 : Int) M ∧ True) := by
  have hq := tq_o (P := s0.toNat) (F := s1.toNat) m0 ⟨by omega, by omega⟩
  have e1 := m1.2
  have e2 := m2.2
  rw [show s2.toNat = s0.toNat by omega] at e1
  exact ⟨Eq.mpr hp_197 ⟨s0.toNat + 1, s1.toNat, by omega, by omega, by omega, ⟨fun j hj => if e : j = s0.toNat then (by rw [e, e1, e2]; omega) else hq.1 j (by omega), hq.2⟩⟩, trivial⟩
theorem rul_746 : Rul r_746 := by
  refine ⟨fun _ ρ M hm hB hF hG => ?_, fun gi gv hg => (by cases hg)⟩
  have H := cr_746 M (ρ 0) (ρ 1) (ρ 2) (ρ 3) (ρ 4) (hB _ List.mem_cons_self) (hB _ (List.mem_cons_of_mem _ List.mem_cons_self)) (hB _ (List.mem_cons_of_mem _ (List.mem_cons_of_mem _ List.mem_cons_self))) (hB _ (List.mem_cons_of_mem _ (List.mem_cons_of_mem _ (List.mem_cons_of_mem _ List.mem_cons_self)))) (hB _ (List.mem_cons_of_mem _ (List.mem_cons_of_mem _ (List.mem_cons_of_mem _ (List.mem_cons_of_mem _ List.mem_cons_self))))) (cvp 197 (x' := (256 * (ρ 0) + (ρ 1))) (y' := (0 : Int)) (by show 0 + (256 * ρ 0 + (1 * ρ 1 + 0)) = _; omega) (by show 0 + 0 = _; omega) (hm _ List.mem_cons_self)) (cvm (c := 41) (by decide) (x' := ((ρ 2))) (y' := ((ρ 3))) (by show 0 + (1 * ρ 2 + 0) = _; omega) (by show 0 + (1 * ρ 3 + 0) = _; omega) (hm _ (List.mem_cons_of_mem _ List.mem_cons_self))) (cvm (c := 96) (by decide) (x' := ((ρ 0))) (y' := ((ρ 4))) (by show 0 + (1 * ρ 0 + 0) = _; omega) (by show 0 + (1 * ρ 4 + 0) = _; omega) (hm _ (List.mem_cons_of_mem _ (List.mem_cons_of_mem _ List.mem_cons_self)))) (by have h := hF _ List.mem_cons_self; have h : 0 ≤ 0 + ((-1) * ρ 3 + (1 * ρ 4 + 0)) := h; omega) (by have h := hF _ (List.mem_cons_of_mem _ List.mem_cons_self); have h : 0 ≤ 0 + (1 * ρ 3 + ((-1) * ρ 4 + 0)) := h; omega) (by have h := hF _ (List.mem_cons_of_mem _ (List.mem_cons_of_mem _ List.mem_cons_self)); have h : 0 ≤ 0 + (1 * ρ 0 + ((-1) * ρ 2 + 0)) := h; omega) (by have h := hF _ (List.mem_cons_of_mem _ (List.mem_cons_of_mem _ (List.mem_cons_of_mem _ List.mem_cons_self))); have h : 0 ≤ 0 + ((-1) * ρ 0 + (1 * ρ 2 + 0)) := h; omega) hG
  obtain ⟨k0, -⟩ := H
  exact ⟨_, List.mem_cons_self, ρ, fun _ _ => rfl, (okM_c (pvp 197 (by show 256 + (256 * ρ 0 + (1 * ρ 1 + 0)) = _; omega) (by show 0 + 0 = _; omega) k0) okM_n), okB_n, okF_n⟩
-- tqf
theorem cr_747 (M : pM) (s0 s1 s2 s3 s4 s5 s6 s7 s8 s9 s10 s11 s12 s13 s14 : Int) (b0 : 0 ≤ s0 ∧ s0 ≤ 8) (b1 : 0 ≤ s1 ∧ s1 ≤ 199) (b2 : 0 ≤ s2 ∧ s2 ≤ 199) (b3 : (-2147483648) ≤ s3 ∧ s3 ≤ 2147483647) (b4 : (-2147483648) ≤ s4 ∧ s4 ≤ 2147483647) (b5 : (-2147483648) ≤ s5 ∧ s5 ≤ 2147483647) (b6 : (-2147483648) ≤ s6 ∧ s6 ≤ 2147483647) (b7 : (-2147483648) ≤ s7 ∧ s7 ≤ 2147483647) (b8 : (-2147483648) ≤ s8 ∧ s8 ≤ 2147483647) (b9 : (-2147483648) ≤ s9 ∧ s9 ≤ 2147483647) (b10 : (-2147483648) ≤ s10 ∧ s10 ≤ 2147483647) (b11 : (-2147483648) ≤ s11 ∧ s11 ≤ 2147483647) (b12 : (-2147483648) ≤ s12 ∧ s12 ≤ 2147483647) (b13 : (-2147483648) ≤ s13 ∧ s13 ≤ 2147483647) (b14 : (-2147483648) ≤ s14 ∧ s14 ≤ 2147483647) (m0 : HP 197 (256 * s0 + s1) (0 : Int) M) (m1 : (0 ≤ (s2) ∧ M 42 (s2).toNat = (s3))) (m2 : (0 ≤ (s2) ∧ M 43 (s2).toNat = (s4))) (m3 : (0 ≤ (s2) ∧ M 44 (s2).toNat = (s5))) (m4 : (0 ≤ (s2) ∧ M 45 (s2).toNat = (s6))) (m5 : (0 ≤ (s2) ∧ M 46 (s2).toNat = (s7))) (m6 : (0 ≤ (s2) ∧ M 47 (s2).toNat = (s8))) (m7 : (0 ≤ (s1) ∧ M 97 (s1).toNat = (s9))) (m8 : (0 ≤ (s1) ∧ M 98 (s1).toNat = (s10))) (m9 : (0 ≤ (s1) ∧ M 99 (s1).toNat = (s11))) (m10 : (0 ≤ (s1) ∧ M 100 (s1).toNat = (s12))) (m11 : (0 ≤ (s1) ∧ M 101 (s1).toNat = (s13))) (m12 : (0 ≤ (s1) ∧ M 102 (s1).toNat = (s14))) (f0 : 0 ≤ ((-1) * s3 + s9)) (f1 : 0 ≤ (s3 + (-1) * s9)) (f2 : 0 ≤ ((-1) * s4 + s10)) (f3 : 0 ≤ (s4 + (-1) * s10)) (f4 : 0 ≤ ((-1) * s5 + s11)) (f5 : 0 ≤ (s5 + (-1) * s11)) (f6 : 0 ≤ ((-1) * s6 + s12)) (f7 : 0 ≤ (s6 + (-1) * s12)) (f8 : 0 ≤ ((-1) * s7 + s13)) (f9 : 0 ≤ (s7 + (-1) * s13)) (f10 : 0 ≤ ((-1) * s8 + s14)) (f11 : 0 ≤ (s8 + (-1) * s14)) (f12 : 0 ≤ (s1 + (-1) * s2)) (f13 : 0 ≤ ((-1) * s1 + s2)) (hG : gI M) : (HP 197 (256 * s0 + s1 + 1) (0 : Int) M ∧ True) := by
  have hq := tq_o (P := s0.toNat) (F := s1.toNat) m0 ⟨by omega, by omega⟩
  have e0 := m1.2
  rw [show s2.toNat = s1.toNat by omega] at e0
  have e1 := m2.2
  rw [show s2.toNat = s1.toNat by omega] at e1
  have e2 := m3.2
  rw [show s2.toNat = s1.toNat by omega] at e2
  have e3 := m4.2
  rw [show s2.toNat = s1.toNat by omega] at e3
  have e4 := m5.2
  rw [show s2.toNat = s1.toNat by omega] at e4
  have e5 := m6.2
  rw [show s2.toNat = s1.toNat by omega] at e5
  have e6 := m7.2
  have e7 := m8.2
  have e8 := m9.2
  have e9 := m10.2
  have e10 := m11.2
  have e11 := m12.2
  have h5 : qt5 M s1.toNat := ⟨by rw [e0, e6]; omega, by rw [e1, e7]; omega, by rw [e2, e8]; omega, by rw [e3, e9]; omega, by rw [e4, e10]; omega⟩
  have h6 : M 47 s1.toNat = M 102 s1.toNat := by rw [e5, e11]; omega
  exact ⟨Eq.mpr hp_197 ⟨s0.toNat, s1.toNat + 1, by omega, by omega, by omega, ⟨hq.1, fun j hj => if e : j = s1.toNat then (by rw [e]; exact ⟨h5, h6⟩) else hq.2 j (by omega)⟩⟩, trivial⟩
theorem rul_747 : Rul r_747 := by
  refine ⟨fun _ ρ M hm hB hF hG => ?_, fun gi gv hg => (by cases hg)⟩
  have H := cr_747 M (ρ 0) (ρ 1) (ρ 2) (ρ 3) (ρ 4) (ρ 5) (ρ 6) (ρ 7) (ρ 8) (ρ 9) (ρ 10) (ρ 11) (ρ 12) (ρ 13) (ρ 14) (hB _ List.mem_cons_self) (hB _ (List.mem_cons_of_mem _ List.mem_cons_self)) (hB _ (List.mem_cons_of_mem _ (List.mem_cons_of_mem _ List.mem_cons_self))) (hB _ (List.mem_cons_of_mem _ (List.mem_cons_of_mem _ (List.mem_cons_of_mem _ List.mem_cons_self)))) (hB _ (List.mem_cons_of_mem _ (List.mem_cons_of_mem _ (List.mem_cons_of_mem _ (List.mem_cons_of_mem _ List.mem_cons_self))))) (hB _ (List.mem_cons_of_mem _ (List.mem_cons_of_mem _ (List.mem_cons_of_mem _ (List.mem_cons_of_mem _ (List.mem_cons_of_mem _ List.mem_cons_self)))))) (hB _ (List.mem_cons_of_mem _ (List.mem_cons_of_mem _ (List.mem_cons_of_mem _ (List.mem_cons_of_mem _ (List.mem_cons_of_mem _ (List.mem_cons_of_mem _ List.mem_cons_self))))))) (hB _ (List.mem_cons_of_mem _ (List.mem_cons_of_mem _ (List.mem_cons_of_mem _ (List.mem_cons_of_mem _ (List.mem_cons_of_mem _ (List.mem_cons_of_mem _ (List.mem_cons_of_mem _ List.mem_cons_self)))))))) (hB _ (List.mem_cons_of_mem _ (List.mem_cons_of_mem _ (List.mem_cons_of_mem _ (List.mem_cons_of_mem _ (List.mem_cons_of_mem _ (List.mem_cons_of_mem _ (List.mem_cons_of_mem _ (List.mem_cons_of_mem _ List.mem_cons_self))))))))) (hB _ (List.mem_cons_of_mem _ (List.mem_cons_of_mem _ (List.mem_cons_of_mem _ (List.mem_cons_of_mem _ (List.mem_cons_of_mem _ (List.mem_cons_of_mem _ (List.mem_cons_of_mem _ (List.mem_cons_of_mem _ (List.mem_cons_of_mem _ List.mem_cons_self)))))))))) (hB _ (List.mem_cons_of_mem _ (List.mem_cons_of_mem _ (List.mem_cons_of_mem _ (List.mem_cons_of_mem _ (List.mem_cons_of_mem _ (List.mem_cons_of_mem _ (List.mem_cons_of_mem _ (List.mem_cons_of_mem _ (List.mem_cons_of_mem _ (List.mem_cons_of_mem _ List.mem_cons_self))))))))))) (hB _ (List.mem_cons_of_mem _ (List.mem_cons_of_mem _ (List.mem_cons_of_mem _ (List.mem_cons_of_mem _ (List.mem_cons_of_mem _ (List.mem_cons_of_mem _ (List.mem_cons_of_mem _ (List.mem_cons_of_mem _ (List.mem_cons_of_mem _ (List.mem_cons_of_mem _ (List.mem_cons_of_mem _ List.mem_cons_self)))))))))))) (hB _ (List.mem_cons_of_mem _ (List.mem_cons_of_mem _ (List.mem_cons_of_mem _ (List.mem_cons_of_mem _ (List.mem_cons_of_mem _ (List.mem_cons_of_mem _ (List.mem_cons_of_mem _ (List.mem_cons_of_mem _ (List.mem_cons_of_mem _ (List.mem_cons_of_mem _ (List.mem_cons_of_mem _ (List.mem_cons_of_mem _ List.mem_cons_self))))))))))))) (hB _ (List.mem_cons_of_mem _ (List.mem_cons_of_mem _ (List.mem_cons_of_mem _ (List.mem_cons_of_mem _ (List.mem_cons_of_mem _ (List.mem_cons_of_mem _ (List.mem_cons_of_mem _ (List.mem_cons_of_mem _ (List.mem_cons_of_mem _ (List.mem_cons_of_mem _ (List.mem_cons_of_mem _ (List.mem_cons_of_mem _ (List.mem_cons_of_mem _ List.mem_cons_self)))))))))))))) (hB _ (List.mem_cons_of_mem _ (List.mem_cons_of_mem _ (List.mem_cons_of_mem _ (List.mem_cons_of_mem _ (List.mem_cons_of_mem _ (List.mem_cons_of_mem _ (List.mem_cons_of_mem _ (List.mem_cons_of_mem _ (List.mem_cons_of_mem _ (List.mem_cons_of_mem _ (List.mem_cons_of_mem _ (List.mem_cons_of_mem _ (List.mem_cons_of_mem _ (List.mem_cons_of_mem _ List.mem_cons_self))))))))))))))) (cvp 197 (x' := (256 * (ρ 0) + (ρ 1))) (y' := (0 : Int)) (by show 0 + (256 * ρ 0 + (1 * ρ 1 + 0)) = _; omega) (by show 0 + 0 = _; omega) (hm _ List.mem_cons_self)) (cvm (c := 42) (by decide) (x' := ((ρ 2))) (y' := ((ρ 3))) (by show 0 + (1 * ρ 2 + 0) = _; omega) (by show 0 + (1 * ρ 3 + 0) = _; omega) (hm _ (List.mem_cons_of_mem _ List.mem_cons_self))) (cvm (c := 43) (by decide) (x' := ((ρ 2))) (y' := ((ρ 4))) (by show 0 + (1 * ρ 2 + 0) = _; omega) (by show 0 + (1 * ρ 4 + 0) = _; omega) (hm _ (List.mem_cons_of_mem _ (List.mem_cons_of_mem _ List.mem_cons_self)))) (cvm (c := 44) (by decide) (x' := ((ρ 2))) (y' := ((ρ 5))) (by show 0 + (1 * ρ 2 + 0) = _; omega) (by show 0 + (1 * ρ 5 + 0) = _; omega) (hm _ (List.mem_cons_of_mem _ (List.mem_cons_of_mem _ (List.mem_cons_of_mem _ List.mem_cons_self))))) (cvm (c := 45) (by decide) (x' := ((ρ 2))) (y' := ((ρ 6))) (by show 0 + (1 * ρ 2 + 0) = _; omega) (by show 0 + (1 * ρ 6 + 0) = _; omega) (hm _ (List.mem_cons_of_mem _ (List.mem_cons_of_mem _ (List.mem_cons_of_mem _ (List.mem_cons_of_mem _ List.mem_cons_self)))))) (cvm (c := 46) (by decide) (x' := ((ρ 2))) (y' := ((ρ 7))) (by show 0 + (1 * ρ 2 + 0) = _; omega) (by show 0 + (1 * ρ 7 + 0) = _; omega) (hm _ (List.mem_cons_of_mem _ (List.mem_cons_of_mem _ (List.mem_cons_of_mem _ (List.mem_cons_of_mem _ (List.mem_cons_of_mem _ List.mem_cons_self))))))) (cvm (c := 47) (by decide) (x' := ((ρ 2))) (y' := ((ρ 8))) (by show 0 + (1 * ρ 2 + 0) = _; omega) (by show 0 + (1 * ρ 8 + 0) = _; omega) (hm _ (List.mem_cons_of_mem _ (List.mem_cons_of_mem _ (List.mem_cons_of_mem _ (List.mem_cons_of_mem _ (List.mem_cons_of_mem _ (List.mem_cons_of_mem _ List.mem_cons_self)))))))) (cvm (c := 97) (by decide) (x' := ((ρ 1))) (y' := ((ρ 9))) (by show 0 + (1 * ρ 1 + 0) = _; omega) (by show 0 + (1 * ρ 9 + 0) = _; omega) (hm _ (List.mem_cons_of_mem _ (List.mem_cons_of_mem _ (List.mem_cons_of_mem _ (List.mem_cons_of_mem _ (List.mem_cons_of_mem _ (List.mem_cons_of_mem _ (List.mem_cons_of_mem _ List.mem_cons_self))))))))) (cvm (c := 98) (by decide) (x' := ((ρ 1))) (y' := ((ρ 10))) (by show 0 + (1 * ρ 1 + 0) = _; omega) (by show 0 + (1 * ρ 10 + 0) = _; omega) (hm _ (List.mem_cons_of_mem _ (List.mem_cons_of_mem _ (List.mem_cons_of_mem _ (List.mem_cons_of_mem _ (List.mem_cons_of_mem _ (List.mem_cons_of_mem _ (List.mem_cons_of_mem _ (List.mem_cons_of_mem _ List.mem_cons_self)))))))))) (cvm (c := 99) (by decide) (x' := ((ρ 1))) (y' := ((ρ 11))) (by show 0 + (1 * ρ 1 + 0) = _; omega) (by show 0 + (1 * ρ 11 + 0) = _; omega) (hm _ (List.mem_cons_of_mem _ (List.mem_cons_of_mem _ (List.mem_cons_of_mem _ (List.mem_cons_of_mem _ (List.mem_cons_of_mem _ (List.mem_cons_of_mem _ (List.mem_cons_of_mem _ (List.mem_cons_of_mem _ (List.mem_cons_of_mem _ List.mem_cons_self))))))))))) (cvm (c := 100) (by decide) (x' := ((ρ 1))) (y' := ((ρ 12))) (by show 0 + (1 * ρ 1 + 0) = _; omega) (by show 0 + (1 * ρ 12 + 0) = _; omega) (hm _ (List.mem_cons_of_mem _ (List.mem_cons_of_mem _ (List.mem_cons_of_mem _ (List.mem_cons_of_mem _ (List.mem_cons_of_mem _ (List.mem_cons_of_mem _ (List.mem_cons_of_mem _ (List.mem_cons_of_mem _ (List.mem_cons_of_mem _ (List.mem_cons_of_mem _ List.mem_cons_self)))))))))))) (cvm (c := 101) (by decide) (x' := ((ρ 1))) (y' := ((ρ 13))) (by show 0 + (1 * ρ 1 + 0) = _; omega) (by show 0 + (1 * ρ 13 + 0) = _; omega) (hm _ (List.mem_cons_of_mem _ (List.mem_cons_of_mem _ (List.mem_cons_of_mem _ (List.mem_cons_of_mem _ (List.mem_cons_of_mem _ (List.mem_cons_of_mem _ (List.mem_cons_of_mem _ (List.mem_cons_of_mem _ (List.mem_cons_of_mem _ (List.mem_cons_of_mem _ (List.mem_cons_of_mem _ List.mem_cons_self))))))))))))) (cvm (c := 102) (by decide) (x' := ((ρ 1))) (y' := ((ρ 14))) (by show 0 + (1 * ρ 1 + 0) = _; omega) (by show 0 + (1 * ρ 14 + 0) = _; omega) (hm _ (List.mem_cons_of_mem _ (List.mem_cons_of_mem _ (List.mem_cons_of_mem _ (List.mem_cons_of_mem _ (List.mem_cons_of_mem _ (List.mem_cons_of_mem _ (List.mem_cons_of_mem _ (List.mem_cons_of_mem _ (List.mem_cons_of_mem _ (List.mem_cons_of_mem _ (List.mem_cons_of_mem _ (List.mem_cons_of_mem _ List.mem_cons_self)))))))))))))) (by have h := hF _ List.mem_cons_self; have h : 0 ≤ 0 + ((-1) * ρ 3 + (1 * ρ 9 + 0)) := h; omega) (by have h := hF _ (List.mem_cons_of_mem _ List.mem_cons_self); have h : 0 ≤ 0 + (1 * ρ 3 + ((-1) * ρ 9 + 0)) := h; omega) (by have h := hF _ (List.mem_cons_of_mem _ (List.mem_cons_of_mem _ List.mem_cons_self)); have h : 0 ≤ 0 + ((-1) * ρ 4 + (1 * ρ 10 + 0)) := h; omega) (by have h := hF _ (List.mem_cons_of_mem _ (List.mem_cons_of_mem _ (List.mem_cons_of_mem _ List.mem_cons_self))); have h : 0 ≤ 0 + (1 * ρ 4 + ((-1) * ρ 10 + 0)) := h; omega) (by have h := hF _ (List.mem_cons_of_mem _ (List.mem_cons_of_mem _ (List.mem_cons_of_mem _ (List.mem_cons_of_mem _ List.mem_cons_self)))); have h : 0 ≤ 0 + ((-1) * ρ 5 + (1 * ρ 11 + 0)) := h; omega) (by have h := hF _ (List.mem_cons_of_mem _ (List.mem_cons_of_mem _ (List.mem_cons_of_mem _ (List.mem_cons_of_mem _ (List.mem_cons_of_mem _ List.mem_cons_self))))); have h : 0 ≤ 0 + (1 * ρ 5 + ((-1) * ρ 11 + 0)) := h; omega) (by have h := hF _ (List.mem_cons_of_mem _ (List.mem_cons_of_mem _ (List.mem_cons_of_mem _ (List.mem_cons_of_mem _ (List.mem_cons_of_mem _ (List.mem_cons_of_mem _ List.mem_cons_self)))))); have h : 0 ≤ 0 + ((-1) * ρ 6 + (1 * ρ 12 + 0)) := h; omega) (by have h := hF _ (List.mem_cons_of_mem _ (List.mem_cons_of_mem _ (List.mem_cons_of_mem _ (List.mem_cons_of_mem _ (List.mem_cons_of_mem _ (List.mem_cons_of_mem _ (List.mem_cons_of_mem _ List.mem_cons_self))))))); have h : 0 ≤ 0 + (1 * ρ 6 + ((-1) * ρ 12 + 0)) := h; omega) (by have h := hF _ (List.mem_cons_of_mem _ (List.mem_cons_of_mem _ (List.mem_cons_of_mem _ (List.mem_cons_of_mem _ (List.mem_cons_of_mem _ (List.mem_cons_of_mem _ (List.mem_cons_of_mem _ (List.mem_cons_of_mem _ List.mem_cons_self)))))))); have h : 0 ≤ 0 + ((-1) * ρ 7 + (1 * ρ 13 + 0)) := h; omega) (by have h := hF _ (List.mem_cons_of_mem _ (List.mem_cons_of_mem _ (List.mem_cons_of_mem _ (List.mem_cons_of_mem _ (List.mem_cons_of_mem _ (List.mem_cons_of_mem _ (List.mem_cons_of_mem _ (List.mem_cons_of_mem _ (List.mem_cons_of_mem _ List.mem_cons_self))))))))); have h : 0 ≤ 0 + (1 * ρ 7 + ((-1) * ρ 13 + 0)) := h; omega) (by have h := hF _ (List.mem_cons_of_mem _ (List.mem_cons_of_mem _ (List.mem_cons_of_mem _ (List.mem_cons_of_mem _ (List.mem_cons_of_mem _ (List.mem_cons_of_mem _ (List.mem_cons_of_mem _ (List.mem_cons_of_mem _ (List.mem_cons_of_mem _ (List.mem_cons_of_mem _ List.mem_cons_self)))))))))); have h : 0 ≤ 0 + ((-1) * ρ 8 + (1 * ρ 14 + 0)) := h; omega) (by have h := hF _ (List.mem_cons_of_mem _ (List.mem_cons_of_mem _ (List.mem_cons_of_mem _ (List.mem_cons_of_mem _ (List.mem_cons_of_mem _ (List.mem_cons_of_mem _ (List.mem_cons_of_mem _ (List.mem_cons_of_mem _ (List.mem_cons_of_mem _ (List.mem_cons_of_mem _ (List.mem_cons_of_mem _ List.mem_cons_self))))))))))); have h : 0 ≤ 0 + (1 * ρ 8 + ((-1) * ρ 14 + 0)) := h; omega) (by have h := hF _ (List.mem_cons_of_mem _ (List.mem_cons_of_mem _ (List.mem_cons_of_mem _ (List.mem_cons_of_mem _ (List.mem_cons_of_mem _ (List.mem_cons_of_mem _ (List.mem_cons_of_mem _ (List.mem_cons_of_mem _ (List.mem_cons_of_mem _ (List.mem_cons_of_mem _ (List.mem_cons_of_mem _ (List.mem_cons_of_mem _ List.mem_cons_self)))))))))))); have h : 0 ≤ 0 + (1 * ρ 1 + ((-1) * ρ 2 + 0)) := h; omega) (by have h := hF _ (List.mem_cons_of_mem _ (List.mem_cons_of_mem _ (List.mem_cons_of_mem _ (List.mem_cons_of_mem _ (List.mem_cons_of_mem _ (List.mem_cons_of_mem _ (List.mem_cons_of_mem _ (List.mem_cons_of_mem _ (List.mem_cons_of_mem _ (List.mem_cons_of_mem _ (List.mem_cons_of_mem _ (List.mem_cons_of_mem _ (List.mem_cons_of_mem _ List.mem_cons_self))))))))))))); have h : 0 ≤ 0 + ((-1) * ρ 1 + (1 * ρ 2 + 0)) := h; omega) hG
  obtain ⟨k0, -⟩ := H
  exact ⟨_, List.mem_cons_self, ρ, fun _ _ => rfl, (okM_c (pvp 197 (by show 1 + (256 * ρ 0 + (1 * ρ 1 + 0)) = _; omega) (by show 0 + 0 = _; omega) k0) okM_n), okB_n, okF_n⟩
-- tqu
theorem cr_748 (M : pM) (s0 s1 s2 s3 s4 : Int) (b0 : 0 ≤ s0 ∧ s0 ≤ 8) (b1 : 0 ≤ s1 ∧ s1 ≤ 200) (b2 : 0 ≤ s2 ∧ s2 ≤ 199) (b3 : (-2147483648) ≤ s3 ∧ s3 ≤ 2147483647) (b4 : (-2147483648) ≤ s4 ∧ s4 ≤ 2147483647) (m0 : HP 197 (256 * s0 + s1) (0 : Int) M) (m1 : (0 ≤ (s2) ∧ M 47 (s2).toNat = (s3))) (m2 : (0 ≤ (s2) ∧ M 102 (s2).toNat = (s4))) (f0 : 0 ≤ (s1 + (-1) * s2 - 1)) (hG : gI M) : (0 ≤ ((-1) * s3 + s4) ∧ 0 ≤ (s3 + (-1) * s4) ∧ True) := by
  have hq := tq_o (P := s0.toNat) (F := s1.toNat) m0 ⟨by omega, by omega⟩
  have h := (hq.2 s2.toNat (by omega)).2
  rw [m1.2, m2.2] at h
  exact ⟨by omega, by omega, trivial⟩
theorem rul_748 : Rul r_748 := by
  refine ⟨fun _ ρ M hm hB hF hG => ?_, fun gi gv hg => (by cases hg)⟩
  have H := cr_748 M (ρ 0) (ρ 1) (ρ 2) (ρ 3) (ρ 4) (hB _ List.mem_cons_self) (hB _ (List.mem_cons_of_mem _ List.mem_cons_self)) (hB _ (List.mem_cons_of_mem _ (List.mem_cons_of_mem _ List.mem_cons_self))) (hB _ (List.mem_cons_of_mem _ (List.mem_cons_of_mem _ (List.mem_cons_of_mem _ List.mem_cons_self)))) (hB _ (List.mem_cons_of_mem _ (List.mem_cons_of_mem _ (List.mem_cons_of_mem _ (List.mem_cons_of_mem _ List.mem_cons_self))))) (cvp 197 (x' := (256 * (ρ 0) + (ρ 1))) (y' := (0 : Int)) (by show 0 + (256 * ρ 0 + (1 * ρ 1 + 0)) = _; omega) (by show 0 + 0 = _; omega) (hm _ List.mem_cons_self)) (cvm (c := 47) (by decide) (x' := ((ρ 2))) (y' := ((ρ 3))) (by show 0 + (1 * ρ 2 + 0) = _; omega) (by show 0 + (1 * ρ 3 + 0) = _; omega) (hm _ (List.mem_cons_of_mem _ List.mem_cons_self))) (cvm (c := 102) (by decide) (x' := ((ρ 2))) (y' := ((ρ 4))) (by show 0 + (1 * ρ 2 + 0) = _; omega) (by show 0 + (1 * ρ 4 + 0) = _; omega) (hm _ (List.mem_cons_of_mem _ (List.mem_cons_of_mem _ List.mem_cons_self)))) (by have h := hF _ List.mem_cons_self; have h : 0 ≤ (-1) + (1 * ρ 1 + ((-1) * ρ 2 + 0)) := h; omega) hG
  obtain ⟨f0, f1, -⟩ := H
  exact ⟨_, List.mem_cons_self, ρ, fun _ _ => rfl, okM_n, okB_n, (okF_c (by show 0 ≤ 0 + ((-1) * ρ 3 + (1 * ρ 4 + 0)); omega) (okF_c (by show 0 ≤ 0 + (1 * ρ 3 + ((-1) * ρ 4 + 0)); omega) okF_n))⟩
-- txw
theorem cr_749 (M : pM) (s0 s1 s2 s3 s4 : Int) (b0 : 0 ≤ s0 ∧ s0 ≤ 8) (b1 : 0 ≤ s1 ∧ s1 ≤ 200) (b2 : 0 ≤ s2 ∧ s2 ≤ 199) (b3 : (-1) ≤ s3 ∧ s3 ≤ (-1)) (b4 : 0 ≤ s4 ∧ s4 ≤ 100000) (m0 : HP 197 (256 * s0 + s1) (0 : Int) M) (m1 : (0 ≤ (s2) ∧ M 47 (s2).toNat = (s3))) (f0 : 0 ≤ (s1 + (-1) * s2 - 1)) (hG : gI M) : (HP 198 (256 * s0 + s1) (s2) (st M 47 (s2).toNat (s4)) ∧ (0 ≤ (s2) ∧ (st M 47 (s2).toNat (s4)) 47 (s2).toNat = (s4)) ∧ True) := by
  have hq := tq_o (P := s0.toNat) (F := s1.toNat) m0 ⟨by omega, by omega⟩
  have h := (hq.2 s2.toNat (by omega)).2
  rw [m1.2] at h
  refine ⟨Eq.mpr hp_198 ⟨s0.toNat, s1.toNat, s2.toNat, by omega, by omega, by omega, by omega, by omega, fun j hj => ?_, fun j hj => ⟨qt5_c (fun c hc => stq_ne (fun ⟨e1, e2⟩ => by omega)) (hq.2 j hj).1, fun hn => ?_⟩, ?_⟩, ⟨by omega, ?_⟩, trivial⟩
  · rw [stq_ne (by omega), stq_ne (by omega)]; exact hq.1 j hj
  · rw [stq_ne (by omega), stq_ne (by omega)]; exact (hq.2 j hj).2
  · rw [stq_ne (by omega)]; omega
  · rw [cw0, if_pos rfl]
theorem rul_749 : Rul r_749 := by
  refine ⟨fun h => (by cases h), fun gi gv hg ρ M hm hB hF hG => ?_⟩
  obtain ⟨g1, g2⟩ := List.cons.inj (show ([aI ((0 : Int), ([(2, 1)] : List (Nat × Int))), aI ((0 : Int), ([(4, 1)] : List (Nat × Int)))] : List av) = [.inl gi, .inl gv] from hg)
  obtain ⟨g2, -⟩ := List.cons.inj g2
  cases g1
  cases g2
  have ei : ev ρ ((0 : Int), ([(2, 1)] : List (Nat × Int))) = ((ρ 2)) := by show 0 + (1 * ρ 2 + 0) = _; omega
  have ew : ev ρ ((0 : Int), ([(4, 1)] : List (Nat × Int))) = ((ρ 4)) := by show 0 + (1 * ρ 4 + 0) = _; omega
  rw [show (st M (ctj r_749) (ev ρ ((0 : Int), ([(2, 1)] : List (Nat × Int)))).toNat (ev ρ ((0 : Int), ([(4, 1)] : List (Nat × Int))))) = (st M 47 ((ρ 2)).toNat ((ρ 4))) from by rw [ei, ew]; rfl]
  have H := cr_749 M (ρ 0) (ρ 1) (ρ 2) (ρ 3) (ρ 4) (hB _ List.mem_cons_self) (hB _ (List.mem_cons_of_mem _ List.mem_cons_self)) (hB _ (List.mem_cons_of_mem _ (List.mem_cons_of_mem _ List.mem_cons_self))) (hB _ (List.mem_cons_of_mem _ (List.mem_cons_of_mem _ (List.mem_cons_of_mem _ List.mem_cons_self)))) (hB _ (List.mem_cons_of_mem _ (List.mem_cons_of_mem _ (List.mem_cons_of_mem _ (List.mem_cons_of_mem _ List.mem_cons_self))))) (cvp 197 (x' := (256 * (ρ 0) + (ρ 1))) (y' := (0 : Int)) (by show 0 + (256 * ρ 0 + (1 * ρ 1 + 0)) = _; omega) (by show 0 + 0 = _; omega) (hm _ List.mem_cons_self)) (cvm (c := 47) (by decide) (x' := ((ρ 2))) (y' := ((ρ 3))) (by show 0 + (1 * ρ 2 + 0) = _; omega) (by show 0 + (1 * ρ 3 + 0) = _; omega) (hm _ (List.mem_cons_of_mem _ List.mem_cons_self))) (by have h := hF _ List.mem_cons_self; have h : 0 ≤ (-1) + (1 * ρ 1 + ((-1) * ρ 2 + 0)) := h; omega) hG
  obtain ⟨k0, k1, -⟩ := H
  exact ⟨_, List.mem_cons_self, ρ, fun _ _ => rfl, (okM_c (pvp 198 (by show 0 + (256 * ρ 0 + (1 * ρ 1 + 0)) = _; omega) (by show 0 + (1 * ρ 2 + 0) = _; omega) k0) (okM_c (pvm (c := 47) (by decide) (by show 0 + (1 * ρ 2 + 0) = _; omega) (by show 0 + (1 * ρ 4 + 0) = _; omega) k1) okM_n)), okB_n, okF_n⟩
-- txr
theorem cr_750 (M : pM) (s0 s1 s2 s3 : Int) (b0 : 0 ≤ s0 ∧ s0 ≤ 8) (b1 : 0 ≤ s1 ∧ s1 ≤ 200) (b2 : 0 ≤ s2 ∧ s2 ≤ 199) (b3 : (-2147483648) ≤ s3 ∧ s3 ≤ 2147483647) (m0 : HP 198 (256 * s0 + s1) (s2) M) (m1 : (0 ≤ (s2) ∧ M 102 (s2).toNat = (s3))) (hG : gI M) : (0 ≤ ((-1) * s3 - 1) ∧ 0 ≤ (s3 + 1) ∧ True) := by
  obtain ⟨hq, hi⟩ := tx_o (P := s0.toNat) (F := s1.toNat) (i := s2.toNat) m0 ⟨by omega, by omega⟩ (by omega)
  have h := hq.2.2
  rw [m1.2] at h
  exact ⟨by omega, by omega, trivial⟩
theorem rul_750 : Rul r_750 := by
  refine ⟨fun _ ρ M hm hB hF hG => ?_, fun gi gv hg => (by cases hg)⟩
  have H := cr_750 M (ρ 0) (ρ 1) (ρ 2) (ρ 3) (hB _ List.mem_cons_self) (hB _ (List.mem_cons_of_mem _ List.mem_cons_self)) (hB _ (List.mem_cons_of_mem _ (List.mem_cons_of_mem _ List.mem_cons_self))) (hB _ (List.mem_cons_of_mem _ (List.mem_cons_of_mem _ (List.mem_cons_of_mem _ List.mem_cons_self)))) (cvp 198 (x' := (256 * (ρ 0) + (ρ 1))) (y' := ((ρ 2))) (by show 0 + (256 * ρ 0 + (1 * ρ 1 + 0)) = _; omega) (by show 0 + (1 * ρ 2 + 0) = _; omega) (hm _ List.mem_cons_self)) (cvm (c := 102) (by decide) (x' := ((ρ 2))) (y' := ((ρ 3))) (by show 0 + (1 * ρ 2 + 0) = _; omega) (by show 0 + (1 * ρ 3 + 0) = _; omega) (hm _ (List.mem_cons_of_mem _ List.mem_cons_self))) hG
  obtain ⟨f0, f1, -⟩ := H
  exact ⟨_, List.mem_cons_self, ρ, fun _ _ => rfl, okM_n, okB_n, (okF_c (by show 0 ≤ (-1) + ((-1) * ρ 3 + 0); omega) (okF_c (by show 0 ≤ 1 + (1 * ρ 3 + 0); omega) okF_n))⟩
-- txq
theorem cr_751 (M : pM) (s0 s1 s2 s3 s4 : Int) (b0 : 0 ≤ s0 ∧ s0 ≤ 8) (b1 : 0 ≤ s1 ∧ s1 ≤ 200) (b2 : 0 ≤ s2 ∧ s2 ≤ 199) (b3 : 0 ≤ s3 ∧ s3 ≤ 100000) (b4 : 0 ≤ s4 ∧ s4 ≤ 100000) (m0 : HP 198 (256 * s0 + s1) (s2) M) (m1 : (0 ≤ (s2) ∧ M 47 (s2).toNat = (s4))) (f0 : 0 ≤ (s3 + (-1) * s4)) (f1 : 0 ≤ ((-1) * s3 + s4)) (hG : gI M) : (HP 197 (256 * s0 + s1) (0 : Int) (st M 102 (s2).toNat (s3)) ∧ True) := by
  obtain ⟨hq, hi⟩ := tx_o (P := s0.toNat) (F := s1.toNat) (i := s2.toNat) m0 ⟨by omega, by omega⟩ (by omega)
  have e7 := m1.2
  refine ⟨Eq.mpr hp_197 ⟨s0.toNat, s1.toNat, by omega, by omega, by omega, fun j hj => ?_, fun j hj => ⟨qt5_c (fun c hc => stq_ne (fun ⟨e1, e2⟩ => by omega)) (hq.2.1 j hj).1, ?_⟩⟩, trivial⟩
  · rw [stq_ne (by omega), stq_ne (by omega)]; exact hq.1 j hj
  · by_cases e : j = s2.toNat
    · rw [e, stq_ne (by omega), cw0, if_pos rfl, e7]; omega
    · rw [stq_ne (by omega), stq_ne (by omega)]; exact (hq.2.1 j hj).2 e
theorem rul_751 : Rul r_751 := by
  refine ⟨fun h => (by cases h), fun gi gv hg ρ M hm hB hF hG => ?_⟩
  obtain ⟨g1, g2⟩ := List.cons.inj (show ([aI ((0 : Int), ([(2, 1)] : List (Nat × Int))), aI ((0 : Int), ([(3, 1)] : List (Nat × Int)))] : List av) = [.inl gi, .inl gv] from hg)
  obtain ⟨g2, -⟩ := List.cons.inj g2
  cases g1
  cases g2
  have ei : ev ρ ((0 : Int), ([(2, 1)] : List (Nat × Int))) = ((ρ 2)) := by show 0 + (1 * ρ 2 + 0) = _; omega
  have ew : ev ρ ((0 : Int), ([(3, 1)] : List (Nat × Int))) = ((ρ 3)) := by show 0 + (1 * ρ 3 + 0) = _; omega
  rw [show (st M (ctj r_751) (ev ρ ((0 : Int), ([(2, 1)] : List (Nat × Int)))).toNat (ev ρ ((0 : Int), ([(3, 1)] : List (Nat × Int))))) = (st M 102 ((ρ 2)).toNat ((ρ 3))) from by rw [ei, ew]; rfl]
  have H := cr_751 M (ρ 0) (ρ 1) (ρ 2) (ρ 3) (ρ 4) (hB _ List.mem_cons_self) (hB _ (List.mem_cons_of_mem _ List.mem_cons_self)) (hB _ (List.mem_cons_of_mem _ (List.mem_cons_of_mem _ List.mem_cons_self))) (hB _ (List.mem_cons_of_mem _ (List.mem_cons_of_mem _ (List.mem_cons_of_mem _ List.mem_cons_self)))) (hB _ (List.mem_cons_of_mem _ (List.mem_cons_of_mem _ (List.mem_cons_of_mem _ (List.mem_cons_of_mem _ List.mem_cons_self))))) (cvp 198 (x' := (256 * (ρ 0) + (ρ 1))) (y' := ((ρ 2))) (by show 0 + (256 * ρ 0 + (1 * ρ 1 + 0)) = _; omega) (by show 0 + (1 * ρ 2 + 0) = _; omega) (hm _ List.mem_cons_self)) (cvm (c := 47) (by decide) (x' := ((ρ 2))) (y' := ((ρ 4))) (by show 0 + (1 * ρ 2 + 0) = _; omega) (by show 0 + (1 * ρ 4 + 0) = _; omega) (hm _ (List.mem_cons_of_mem _ List.mem_cons_self))) (by have h := hF _ List.mem_cons_self; have h : 0 ≤ 0 + (1 * ρ 3 + ((-1) * ρ 4 + 0)) := h; omega) (by have h := hF _ (List.mem_cons_of_mem _ List.mem_cons_self); have h : 0 ≤ 0 + ((-1) * ρ 3 + (1 * ρ 4 + 0)) := h; omega) hG
  obtain ⟨k0, -⟩ := H
  exact ⟨_, List.mem_cons_self, ρ, fun _ _ => rfl, (okM_c (pvp 197 (by show 0 + (256 * ρ 0 + (1 * ρ 1 + 0)) = _; omega) (by show 0 + 0 = _; omega) k0) okM_n), okB_n, okF_n⟩
-- txx
theorem cr_752 (M : pM) (s0 s1 s2 : Int) (b0 : 0 ≤ s0 ∧ s0 ≤ 2500) (b1 : 0 ≤ s1 ∧ s1 ≤ 2500) (b2 : 0 ≤ s2 ∧ s2 ≤ 199) (m0 : HP 198 (s0) (s2) M) (f0 : 0 ≤ ((-1) * s0 + s1)) (f1 : 0 ≤ (s0 + (-1) * s1)) (hG : gI M) : (HP 198 (s1) (s2) M ∧ True) := by
  have e : s0 = s1 := by omega
  subst e
  exact ⟨m0, trivial⟩
theorem rul_752 : Rul r_752 := by
  refine ⟨fun _ ρ M hm hB hF hG => ?_, fun gi gv hg => (by cases hg)⟩
  have H := cr_752 M (ρ 0) (ρ 1) (ρ 2) (hB _ List.mem_cons_self) (hB _ (List.mem_cons_of_mem _ List.mem_cons_self)) (hB _ (List.mem_cons_of_mem _ (List.mem_cons_of_mem _ List.mem_cons_self))) (cvp 198 (x' := ((ρ 0))) (y' := ((ρ 2))) (by show 0 + (1 * ρ 0 + 0) = _; omega) (by show 0 + (1 * ρ 2 + 0) = _; omega) (hm _ List.mem_cons_self)) (by have h := hF _ List.mem_cons_self; have h : 0 ≤ 0 + ((-1) * ρ 0 + (1 * ρ 1 + 0)) := h; omega) (by have h := hF _ (List.mem_cons_of_mem _ List.mem_cons_self); have h : 0 ≤ 0 + (1 * ρ 0 + ((-1) * ρ 1 + 0)) := h; omega) hG
  obtain ⟨k0, -⟩ := H
  exact ⟨_, List.mem_cons_self, ρ, fun _ _ => rfl, (okM_c (pvp 198 (by show 0 + (1 * ρ 1 + 0) = _; omega) (by show 0 + (1 * ρ 2 + 0) = _; omega) k0) okM_n), okB_n, okF_n⟩
-- tqx
theorem cr_753 (M : pM) (s0 s1 : Int) (b0 : 0 ≤ s0 ∧ s0 ≤ 2500) (b1 : 0 ≤ s1 ∧ s1 ≤ 2500) (m0 : HP 197 (s0) (0 : Int) M) (f0 : 0 ≤ ((-1) * s0 + s1)) (f1 : 0 ≤ (s0 + (-1) * s1)) (hG : gI M) : (HP 197 (s1) (0 : Int) M ∧ True) := by
  have e : s0 = s1 := by omega
  subst e
  exact ⟨m0, trivial⟩
theorem rul_753 : Rul r_753 := by
  refine ⟨fun _ ρ M hm hB hF hG => ?_, fun gi gv hg => (by cases hg)⟩
  have H := cr_753 M (ρ 0) (ρ 1) (hB _ List.mem_cons_self) (hB _ (List.mem_cons_of_mem _ List.mem_cons_self)) (cvp 197 (x' := ((ρ 0))) (y' := (0 : Int)) (by show 0 + (1 * ρ 0 + 0) = _; omega) (by show 0 + 0 = _; omega) (hm _ List.mem_cons_self)) (by have h := hF _ List.mem_cons_self; have h : 0 ≤ 0 + ((-1) * ρ 0 + (1 * ρ 1 + 0)) := h; omega) (by have h := hF _ (List.mem_cons_of_mem _ List.mem_cons_self); have h : 0 ≤ 0 + (1 * ρ 0 + ((-1) * ρ 1 + 0)) := h; omega) hG
  obtain ⟨k0, -⟩ := H
  exact ⟨_, List.mem_cons_self, ρ, fun _ _ => rfl, (okM_c (pvp 197 (by show 0 + (1 * ρ 1 + 0) = _; omega) (by show 0 + 0 = _; omega) k0) okM_n), okB_n, okF_n⟩
-- apc000
theorem cr_754 (M : pM) (s0 s1 s2 s3 s4 s5 s6 s7 s8 s9 s10 : Int) (b0 : 0 ≤ s0 ∧ s0 ≤ 63) (b1 : 0 ≤ s1 ∧ s1 ≤ 63) (b2 : 0 ≤ s2 ∧ s2 ≤ 7) (b3 : 0 ≤ s3 ∧ s3 ≤ 7) (b4 : 0 ≤ s4 ∧ s4 ≤ 7) (b5 : 0 ≤ s5 ∧ s5 ≤ 7) (b6 : 0 ≤ s6 ∧ s6 ≤ 7) (b7 : 0 ≤ s7 ∧ s7 ≤ 7) (b8 : 0 ≤ s8 ∧ s8 ≤ 7) (b9 : 0 ≤ s9 ∧ s9 ≤ 7) (b10 : 0 ≤ s10 ∧ s10 ≤ 7) (f0 : 0 ≤ ((-1) * s0 + 8 * s2 + s3)) (f1 : 0 ≤ (s0 + (-8) * s2 + (-1) * s3)) (f2 : 0 ≤ ((-1) * s1 + 8 * s4 + s5)) (f3 : 0 ≤ (s1 + (-8) * s4 + (-1) * s5)) (f4 : 0 ≤ ((-1) * s0 + 8 * s6 + s7)) (f5 : 0 ≤ (s0 + (-8) * s6 + (-1) * s7)) (f6 : 0 ≤ ((-1) * s1 + 8 * s8 + s9)) (f7 : 0 ≤ (s1 + (-8) * s8 + (-1) * s9)) (f8 : 0 ≤ (s3 + (-1) * s5)) (f9 : 0 ≤ (s6 + (-1) * s8)) (f10 : 0 ≤ (s3 + (-1) * s5 + (-1) * s6 + s8)) (f11 : 0 ≤ (s3 + (-1) * s5 + (-1) * s10)) (f12 : 0 ≤ ((-1) * s3 + s5 + s10)) (hG : gI M) : (HP 223 (64 * s0 + s1) (s10) M ∧ True) := by
  have e1 : s0.toNat % 8 = s3.toNat := by omega
  have e2 : s1.toNat % 8 = s5.toNat := by omega
  have e3 : s0.toNat / 8 = s6.toNat := by omega
  have e4 : s1.toNat / 8 = s8.toNat := by omega
  have e : s10 = (apF s0.toNat s1.toNat : Int) := by
    unfold apF apN
    rw [e1, e2, e3, e4]
    (repeat' split) <;> omega
  exact ⟨Eq.mpr hp_223 ⟨s0.toNat, s1.toNat, by omega, by omega, by omega, e⟩, trivial⟩
theorem rul_754 : Rul r_754 := by
  refine ⟨fun _ ρ M hm hB hF hG => ?_, fun gi gv hg => (by cases hg)⟩
  have H := cr_754 M (ρ 0) (ρ 1) (ρ 2) (ρ 3) (ρ 4) (ρ 5) (ρ 6) (ρ 7) (ρ 8) (ρ 9) (ρ 10) (hB _ List.mem_cons_self) (hB _ (List.mem_cons_of_mem _ List.mem_cons_self)) (hB _ (List.mem_cons_of_mem _ (List.mem_cons_of_mem _ List.mem_cons_self))) (hB _ (List.mem_cons_of_mem _ (List.mem_cons_of_mem _ (List.mem_cons_of_mem _ List.mem_cons_self)))) (hB _ (List.mem_cons_of_mem _ (List.mem_cons_of_mem _ (List.mem_cons_of_mem _ (List.mem_cons_of_mem _ List.mem_cons_self))))) (hB _ (List.mem_cons_of_mem _ (List.mem_cons_of_mem _ (List.mem_cons_of_mem _ (List.mem_cons_of_mem _ (List.mem_cons_of_mem _ List.mem_cons_self)))))) (hB _ (List.mem_cons_of_mem _ (List.mem_cons_of_mem _ (List.mem_cons_of_mem _ (List.mem_cons_of_mem _ (List.mem_cons_of_mem _ (List.mem_cons_of_mem _ List.mem_cons_self))))))) (hB _ (List.mem_cons_of_mem _ (List.mem_cons_of_mem _ (List.mem_cons_of_mem _ (List.mem_cons_of_mem _ (List.mem_cons_of_mem _ (List.mem_cons_of_mem _ (List.mem_cons_of_mem _ List.mem_cons_self)))))))) (hB _ (List.mem_cons_of_mem _ (List.mem_cons_of_mem _ (List.mem_cons_of_mem _ (List.mem_cons_of_mem _ (List.mem_cons_of_mem _ (List.mem_cons_of_mem _ (List.mem_cons_of_mem _ (List.mem_cons_of_mem _ List.mem_cons_self))))))))) (hB _ (List.mem_cons_of_mem _ (List.mem_cons_of_mem _ (List.mem_cons_of_mem _ (List.mem_cons_of_mem _ (List.mem_cons_of_mem _ (List.mem_cons_of_mem _ (List.mem_cons_of_mem _ (List.mem_cons_of_mem _ (List.mem_cons_of_mem _ List.mem_cons_self)))))))))) (hB _ (List.mem_cons_of_mem _ (List.mem_cons_of_mem _ (List.mem_cons_of_mem _ (List.mem_cons_of_mem _ (List.mem_cons_of_mem _ (List.mem_cons_of_mem _ (List.mem_cons_of_mem _ (List.mem_cons_of_mem _ (List.mem_cons_of_mem _ (List.mem_cons_of_mem _ List.mem_cons_self))))))))))) (by have h := hF _ List.mem_cons_self; have h : 0 ≤ 0 + ((-1) * ρ 0 + (8 * ρ 2 + (1 * ρ 3 + 0))) := h; omega) (by have h := hF _ (List.mem_cons_of_mem _ List.mem_cons_self); have h : 0 ≤ 0 + (1 * ρ 0 + ((-8) * ρ 2 + ((-1) * ρ 3 + 0))) := h; omega) (by have h := hF _ (List.mem_cons_of_mem _ (List.mem_cons_of_mem _ List.mem_cons_self)); have h : 0 ≤ 0 + ((-1) * ρ 1 + (8 * ρ 4 + (1 * ρ 5 + 0))) := h; omega) (by have h := hF _ (List.mem_cons_of_mem _ (List.mem_cons_of_mem _ (List.mem_cons_of_mem _ List.mem_cons_self))); have h : 0 ≤ 0 + (1 * ρ 1 + ((-8) * ρ 4 + ((-1) * ρ 5 + 0))) := h; omega) (by have h := hF _ (List.mem_cons_of_mem _ (List.mem_cons_of_mem _ (List.mem_cons_of_mem _ (List.mem_cons_of_mem _ List.mem_cons_self)))); have h : 0 ≤ 0 + ((-1) * ρ 0 + (8 * ρ 6 + (1 * ρ 7 + 0))) := h; omega) (by have h := hF _ (List.mem_cons_of_mem _ (List.mem_cons_of_mem _ (List.mem_cons_of_mem _ (List.mem_cons_of_mem _ (List.mem_cons_of_mem _ List.mem_cons_self))))); have h : 0 ≤ 0 + (1 * ρ 0 + ((-8) * ρ 6 + ((-1) * ρ 7 + 0))) := h; omega) (by have h := hF _ (List.mem_cons_of_mem _ (List.mem_cons_of_mem _ (List.mem_cons_of_mem _ (List.mem_cons_of_mem _ (List.mem_cons_of_mem _ (List.mem_cons_of_mem _ List.mem_cons_self)))))); have h : 0 ≤ 0 + ((-1) * ρ 1 + (8 * ρ 8 + (1 * ρ 9 + 0))) := h; omega) (by have h := hF _ (List.mem_cons_of_mem _ (List.mem_cons_of_mem _ (List.mem_cons_of_mem _ (List.mem_cons_of_mem _ (List.mem_cons_of_mem _ (List.mem_cons_of_mem _ (List.mem_cons_of_mem _ List.mem_cons_self))))))); have h : 0 ≤ 0 + (1 * ρ 1 + ((-8) * ρ 8 + ((-1) * ρ 9 + 0))) := h; omega) (by have h := hF _ (List.mem_cons_of_mem _ (List.mem_cons_of_mem _ (List.mem_cons_of_mem _ (List.mem_cons_of_mem _ (List.mem_cons_of_mem _ (List.mem_cons_of_mem _ (List.mem_cons_of_mem _ (List.mem_cons_of_mem _ List.mem_cons_self)))))))); have h : 0 ≤ 0 + (1 * ρ 3 + ((-1) * ρ 5 + 0)) := h; omega) (by have h := hF _ (List.mem_cons_of_mem _ (List.mem_cons_of_mem _ (List.mem_cons_of_mem _ (List.mem_cons_of_mem _ (List.mem_cons_of_mem _ (List.mem_cons_of_mem _ (List.mem_cons_of_mem _ (List.mem_cons_of_mem _ (List.mem_cons_of_mem _ List.mem_cons_self))))))))); have h : 0 ≤ 0 + (1 * ρ 6 + ((-1) * ρ 8 + 0)) := h; omega) (by have h := hF _ (List.mem_cons_of_mem _ (List.mem_cons_of_mem _ (List.mem_cons_of_mem _ (List.mem_cons_of_mem _ (List.mem_cons_of_mem _ (List.mem_cons_of_mem _ (List.mem_cons_of_mem _ (List.mem_cons_of_mem _ (List.mem_cons_of_mem _ (List.mem_cons_of_mem _ List.mem_cons_self)))))))))); have h : 0 ≤ 0 + (1 * ρ 3 + ((-1) * ρ 5 + ((-1) * ρ 6 + (1 * ρ 8 + 0)))) := h; omega) (by have h := hF _ (List.mem_cons_of_mem _ (List.mem_cons_of_mem _ (List.mem_cons_of_mem _ (List.mem_cons_of_mem _ (List.mem_cons_of_mem _ (List.mem_cons_of_mem _ (List.mem_cons_of_mem _ (List.mem_cons_of_mem _ (List.mem_cons_of_mem _ (List.mem_cons_of_mem _ (List.mem_cons_of_mem _ List.mem_cons_self))))))))))); have h : 0 ≤ 0 + (1 * ρ 3 + ((-1) * ρ 5 + ((-1) * ρ 10 + 0))) := h; omega) (by have h := hF _ (List.mem_cons_of_mem _ (List.mem_cons_of_mem _ (List.mem_cons_of_mem _ (List.mem_cons_of_mem _ (List.mem_cons_of_mem _ (List.mem_cons_of_mem _ (List.mem_cons_of_mem _ (List.mem_cons_of_mem _ (List.mem_cons_of_mem _ (List.mem_cons_of_mem _ (List.mem_cons_of_mem _ (List.mem_cons_of_mem _ List.mem_cons_self)))))))))))); have h : 0 ≤ 0 + ((-1) * ρ 3 + (1 * ρ 5 + (1 * ρ 10 + 0))) := h; omega) hG
  obtain ⟨k0, -⟩ := H
  exact ⟨_, List.mem_cons_self, ρ, fun _ _ => rfl, (okM_c (pvp 223 (by show 0 + (64 * ρ 0 + (1 * ρ 1 + 0)) = _; omega) (by show 0 + (1 * ρ 10 + 0) = _; omega) k0) okM_n), okB_n, okF_n⟩
-- apc001
theorem cr_755 (M : pM) (s0 s1 s2 s3 s4 s5 s6 s7 s8 s9 s10 : Int) (b0 : 0 ≤ s0 ∧ s0 ≤ 63) (b1 : 0 ≤ s1 ∧ s1 ≤ 63) (b2 : 0 ≤ s2 ∧ s2 ≤ 7) (b3 : 0 ≤ s3 ∧ s3 ≤ 7) (b4 : 0 ≤ s4 ∧ s4 ≤ 7) (b5 : 0 ≤ s5 ∧ s5 ≤ 7) (b6 : 0 ≤ s6 ∧ s6 ≤ 7) (b7 : 0 ≤ s7 ∧ s7 ≤ 7) (b8 : 0 ≤ s8 ∧ s8 ≤ 7) (b9 : 0 ≤ s9 ∧ s9 ≤ 7) (b10 : 0 ≤ s10 ∧ s10 ≤ 7) (f0 : 0 ≤ ((-1) * s0 + 8 * s2 + s3)) (f1 : 0 ≤ (s0 + (-8) * s2 + (-1) * s3)) (f2 : 0 ≤ ((-1) * s1 + 8 * s4 + s5)) (f3 : 0 ≤ (s1 + (-8) * s4 + (-1) * s5)) (f4 : 0 ≤ ((-1) * s0 + 8 * s6 + s7)) (f5 : 0 ≤ (s0 + (-8) * s6 + (-1) * s7)) (f6 : 0 ≤ ((-1) * s1 + 8 * s8 + s9)) (f7 : 0 ≤ (s1 + (-8) * s8 + (-1) * s9)) (f8 : 0 ≤ (s3 + (-1) * s5)) (f9 : 0 ≤ (s6 + (-1) * s8)) (f10 : 0 ≤ ((-1) * s3 + s5 + s6 + (-1) * s8)) (f11 : 0 ≤ (s6 + (-1) * s8 + (-1) * s10)) (f12 : 0 ≤ ((-1) * s6 + s8 + s10)) (hG : gI M) : (HP 223 (64 * s0 + s1) (s10) M ∧ True) := by
  have e1 : s0.toNat % 8 = s3.toNat := by omega
  have e2 : s1.toNat % 8 = s5.toNat := by omega
  have e3 : s0.toNat / 8 = s6.toNat := by omega
  have e4 : s1.toNat / 8 = s8.toNat := by omega
  have e : s10 = (apF s0.toNat s1.toNat : Int) := by
    unfold apF apN
    rw [e1, e2, e3, e4]
    (repeat' split) <;> omega
  exact ⟨Eq.mpr hp_223 ⟨s0.toNat, s1.toNat, by omega, by omega, by omega, e⟩, trivial⟩
theorem rul_755 : Rul r_755 := by
  refine ⟨fun _ ρ M hm hB hF hG => ?_, fun gi gv hg => (by cases hg)⟩
  have H := cr_755 M (ρ 0) (ρ 1) (ρ 2) (ρ 3) (ρ 4) (ρ 5) (ρ 6) (ρ 7) (ρ 8) (ρ 9) (ρ 10) (hB _ List.mem_cons_self) (hB _ (List.mem_cons_of_mem _ List.mem_cons_self)) (hB _ (List.mem_cons_of_mem _ (List.mem_cons_of_mem _ List.mem_cons_self))) (hB _ (List.mem_cons_of_mem _ (List.mem_cons_of_mem _ (List.mem_cons_of_mem _ List.mem_cons_self)))) (hB _ (List.mem_cons_of_mem _ (List.mem_cons_of_mem _ (List.mem_cons_of_mem _ (List.mem_cons_of_mem _ List.mem_cons_self))))) (hB _ (List.mem_cons_of_mem _ (List.mem_cons_of_mem _ (List.mem_cons_of_mem _ (List.mem_cons_of_mem _ (List.mem_cons_of_mem _ List.mem_cons_self)))))) (hB _ (List.mem_cons_of_mem _ (List.mem_cons_of_mem _ (List.mem_cons_of_mem _ (List.mem_cons_of_mem _ (List.mem_cons_of_mem _ (List.mem_cons_of_mem _ List.mem_cons_self))))))) (hB _ (List.mem_cons_of_mem _ (List.mem_cons_of_mem _ (List.mem_cons_of_mem _ (List.mem_cons_of_mem _ (List.mem_cons_of_mem _ (List.mem_cons_of_mem _ (List.mem_cons_of_mem _ List.mem_cons_self)))))))) (hB _ (List.mem_cons_of_mem _ (List.mem_cons_of_mem _ (List.mem_cons_of_mem _ (List.mem_cons_of_mem _ (List.mem_cons_of_mem _ (List.mem_cons_of_mem _ (List.mem_cons_of_mem _ (List.mem_cons_of_mem _ List.mem_cons_self))))))))) (hB _ (List.mem_cons_of_mem _ (List.mem_cons_of_mem _ (List.mem_cons_of_mem _ (List.mem_cons_of_mem _ (List.mem_cons_of_mem _ (List.mem_cons_of_mem _ (List.mem_cons_of_mem _ (List.mem_cons_of_mem _ (List.mem_cons_of_mem _ List.mem_cons_self)))))))))) (hB _ (List.mem_cons_of_mem _ (List.mem_cons_of_mem _ (List.mem_cons_of_mem _ (List.mem_cons_of_mem _ (List.mem_cons_of_mem _ (List.mem_cons_of_mem _ (List.mem_cons_of_mem _ (List.mem_cons_of_mem _ (List.mem_cons_of_mem _ (List.mem_cons_of_mem _ List.mem_cons_self))))))))))) (by have h := hF _ List.mem_cons_self; have h : 0 ≤ 0 + ((-1) * ρ 0 + (8 * ρ 2 + (1 * ρ 3 + 0))) := h; omega) (by have h := hF _ (List.mem_cons_of_mem _ List.mem_cons_self); have h : 0 ≤ 0 + (1 * ρ 0 + ((-8) * ρ 2 + ((-1) * ρ 3 + 0))) := h; omega) (by have h := hF _ (List.mem_cons_of_mem _ (List.mem_cons_of_mem _ List.mem_cons_self)); have h : 0 ≤ 0 + ((-1) * ρ 1 + (8 * ρ 4 + (1 * ρ 5 + 0))) := h; omega) (by have h := hF _ (List.mem_cons_of_mem _ (List.mem_cons_of_mem _ (List.mem_cons_of_mem _ List.mem_cons_self))); have h : 0 ≤ 0 + (1 * ρ 1 + ((-8) * ρ 4 + ((-1) * ρ 5 + 0))) := h; omega) (by have h := hF _ (List.mem_cons_of_mem _ (List.mem_cons_of_mem _ (List.mem_cons_of_mem _ (List.mem_cons_of_mem _ List.mem_cons_self)))); have h : 0 ≤ 0 + ((-1) * ρ 0 + (8 * ρ 6 + (1 * ρ 7 + 0))) := h; omega) (by have h := hF _ (List.mem_cons_of_mem _ (List.mem_cons_of_mem _ (List.mem_cons_of_mem _ (List.mem_cons_of_mem _ (List.mem_cons_of_mem _ List.mem_cons_self))))); have h : 0 ≤ 0 + (1 * ρ 0 + ((-8) * ρ 6 + ((-1) * ρ 7 + 0))) := h; omega) (by have h := hF _ (List.mem_cons_of_mem _ (List.mem_cons_of_mem _ (List.mem_cons_of_mem _ (List.mem_cons_of_mem _ (List.mem_cons_of_mem _ (List.mem_cons_of_mem _ List.mem_cons_self)))))); have h : 0 ≤ 0 + ((-1) * ρ 1 + (8 * ρ 8 + (1 * ρ 9 + 0))) := h; omega) (by have h := hF _ (List.mem_cons_of_mem _ (List.mem_cons_of_mem _ (List.mem_cons_of_mem _ (List.mem_cons_of_mem _ (List.mem_cons_of_mem _ (List.mem_cons_of_mem _ (List.mem_cons_of_mem _ List.mem_cons_self))))))); have h : 0 ≤ 0 + (1 * ρ 1 + ((-8) * ρ 8 + ((-1) * ρ 9 + 0))) := h; omega) (by have h := hF _ (List.mem_cons_of_mem _ (List.mem_cons_of_mem _ (List.mem_cons_of_mem _ (List.mem_cons_of_mem _ (List.mem_cons_of_mem _ (List.mem_cons_of_mem _ (List.mem_cons_of_mem _ (List.mem_cons_of_mem _ List.mem_cons_self)))))))); have h : 0 ≤ 0 + (1 * ρ 3 + ((-1) * ρ 5 + 0)) := h; omega) (by have h := hF _ (List.mem_cons_of_mem _ (List.mem_cons_of_mem _ (List.mem_cons_of_mem _ (List.mem_cons_of_mem _ (List.mem_cons_of_mem _ (List.mem_cons_of_mem _ (List.mem_cons_of_mem _ (List.mem_cons_of_mem _ (List.mem_cons_of_mem _ List.mem_cons_self))))))))); have h : 0 ≤ 0 + (1 * ρ 6 + ((-1) * ρ 8 + 0)) := h; omega) (by have h := hF _ (List.mem_cons_of_mem _ (List.mem_cons_of_mem _ (List.mem_cons_of_mem _ (List.mem_cons_of_mem _ (List.mem_cons_of_mem _ (List.mem_cons_of_mem _ (List.mem_cons_of_mem _ (List.mem_cons_of_mem _ (List.mem_cons_of_mem _ (List.mem_cons_of_mem _ List.mem_cons_self)))))))))); have h : 0 ≤ 0 + ((-1) * ρ 3 + (1 * ρ 5 + (1 * ρ 6 + ((-1) * ρ 8 + 0)))) := h; omega) (by have h := hF _ (List.mem_cons_of_mem _ (List.mem_cons_of_mem _ (List.mem_cons_of_mem _ (List.mem_cons_of_mem _ (List.mem_cons_of_mem _ (List.mem_cons_of_mem _ (List.mem_cons_of_mem _ (List.mem_cons_of_mem _ (List.mem_cons_of_mem _ (List.mem_cons_of_mem _ (List.mem_cons_of_mem _ List.mem_cons_self))))))))))); have h : 0 ≤ 0 + (1 * ρ 6 + ((-1) * ρ 8 + ((-1) * ρ 10 + 0))) := h; omega) (by have h := hF _ (List.mem_cons_of_mem _ (List.mem_cons_of_mem _ (List.mem_cons_of_mem _ (List.mem_cons_of_mem _ (List.mem_cons_of_mem _ (List.mem_cons_of_mem _ (List.mem_cons_of_mem _ (List.mem_cons_of_mem _ (List.mem_cons_of_mem _ (List.mem_cons_of_mem _ (List.mem_cons_of_mem _ (List.mem_cons_of_mem _ List.mem_cons_self)))))))))))); have h : 0 ≤ 0 + ((-1) * ρ 6 + (1 * ρ 8 + (1 * ρ 10 + 0))) := h; omega) hG
  obtain ⟨k0, -⟩ := H
  exact ⟨_, List.mem_cons_self, ρ, fun _ _ => rfl, (okM_c (pvp 223 (by show 0 + (64 * ρ 0 + (1 * ρ 1 + 0)) = _; omega) (by show 0 + (1 * ρ 10 + 0) = _; omega) k0) okM_n), okB_n, okF_n⟩
-- apc010
theorem cr_756 (M : pM) (s0 s1 s2 s3 s4 s5 s6 s7 s8 s9 s10 : Int) (b0 : 0 ≤ s0 ∧ s0 ≤ 63) (b1 : 0 ≤ s1 ∧ s1 ≤ 63) (b2 : 0 ≤ s2 ∧ s2 ≤ 7) (b3 : 0 ≤ s3 ∧ s3 ≤ 7) (b4 : 0 ≤ s4 ∧ s4 ≤ 7) (b5 : 0 ≤ s5 ∧ s5 ≤ 7) (b6 : 0 ≤ s6 ∧ s6 ≤ 7) (b7 : 0 ≤ s7 ∧ s7 ≤ 7) (b8 : 0 ≤ s8 ∧ s8 ≤ 7) (b9 : 0 ≤ s9 ∧ s9 ≤ 7) (b10 : 0 ≤ s10 ∧ s10 ≤ 7) (f0 : 0 ≤ ((-1) * s0 + 8 * s2 + s3)) (f1 : 0 ≤ (s0 + (-8) * s2 + (-1) * s3)) (f2 : 0 ≤ ((-1) * s1 + 8 * s4 + s5)) (f3 : 0 ≤ (s1 + (-8) * s4 + (-1) * s5)) (f4 : 0 ≤ ((-1) * s0 + 8 * s6 + s7)) (f5 : 0 ≤ (s0 + (-8) * s6 + (-1) * s7)) (f6 : 0 ≤ ((-1) * s1 + 8 * s8 + s9)) (f7 : 0 ≤ (s1 + (-8) * s8 + (-1) * s9)) (f8 : 0 ≤ (s3 + (-1) * s5)) (f9 : 0 ≤ ((-1) * s6 + s8)) (f10 : 0 ≤ (s3 + (-1) * s5 + s6 + (-1) * s8)) (f11 : 0 ≤ (s3 + (-1) * s5 + (-1) * s10)) (f12 : 0 ≤ ((-1) * s3 + s5 + s10)) (hG : gI M) : (HP 223 (64 * s0 + s1) (s10) M ∧ True) := by
  have e1 : s0.toNat % 8 = s3.toNat := by omega
  have e2 : s1.toNat % 8 = s5.toNat := by omega
  have e3 : s0.toNat / 8 = s6.toNat := by omega
  have e4 : s1.toNat / 8 = s8.toNat := by omega
  have e : s10 = (apF s0.toNat s1.toNat : Int) := by
    unfold apF apN
    rw [e1, e2, e3, e4]
    (repeat' split) <;> omega
  exact ⟨Eq.mpr hp_223 ⟨s0.toNat, s1.toNat, by omega, by omega, by omega, e⟩, trivial⟩
theorem rul_756 : Rul r_756 := by
  refine ⟨fun _ ρ M hm hB hF hG => ?_, fun gi gv hg => (by cases hg)⟩
  have H := cr_756 M (ρ 0) (ρ 1) (ρ 2) (ρ 3) (ρ 4) (ρ 5) (ρ 6) (ρ 7) (ρ 8) (ρ 9) (ρ 10) (hB _ List.mem_cons_self) (hB _ (List.mem_cons_of_mem _ List.mem_cons_self)) (hB _ (List.mem_cons_of_mem _ (List.mem_cons_of_mem _ List.mem_cons_self))) (hB _ (List.mem_cons_of_mem _ (List.mem_cons_of_mem _ (List.mem_cons_of_mem _ List.mem_cons_self)))) (hB _ (List.mem_cons_of_mem _ (List.mem_cons_of_mem _ (List.mem_cons_of_mem _ (List.mem_cons_of_mem _ List.mem_cons_self))))) (hB _ (List.mem_cons_of_mem _ (List.mem_cons_of_mem _ (List.mem_cons_of_mem _ (List.mem_cons_of_mem _ (List.mem_cons_of_mem _ List.mem_cons_self)))))) (hB _ (List.mem_cons_of_mem _ (List.mem_cons_of_mem _ (List.mem_cons_of_mem _ (List.mem_cons_of_mem _ (List.mem_cons_of_mem _ (List.mem_cons_of_mem _ List.mem_cons_self))))))) (hB _ (List.mem_cons_of_mem _ (List.mem_cons_of_mem _ (List.mem_cons_of_mem _ (List.mem_cons_of_mem _ (List.mem_cons_of_mem _ (List.mem_cons_of_mem _ (List.mem_cons_of_mem _ List.mem_cons_self)))))))) (hB _ (List.mem_cons_of_mem _ (List.mem_cons_of_mem _ (List.mem_cons_of_mem _ (List.mem_cons_of_mem _ (List.mem_cons_of_mem _ (List.mem_cons_of_mem _ (List.mem_cons_of_mem _ (List.mem_cons_of_mem _ List.mem_cons_self))))))))) (hB _ (List.mem_cons_of_mem _ (List.mem_cons_of_mem _ (List.mem_cons_of_mem _ (List.mem_cons_of_mem _ (List.mem_cons_of_mem _ (List.mem_cons_of_mem _ (List.mem_cons_of_mem _ (List.mem_cons_of_mem _ (List.mem_cons_of_mem _ List.mem_cons_self)))))))))) (hB _ (List.mem_cons_of_mem _ (List.mem_cons_of_mem _ (List.mem_cons_of_mem _ (List.mem_cons_of_mem _ (List.mem_cons_of_mem _ (List.mem_cons_of_mem _ (List.mem_cons_of_mem _ (List.mem_cons_of_mem _ (List.mem_cons_of_mem _ (List.mem_cons_of_mem _ List.mem_cons_self))))))))))) (by have h := hF _ List.mem_cons_self; have h : 0 ≤ 0 + ((-1) * ρ 0 + (8 * ρ 2 + (1 * ρ 3 + 0))) := h; omega) (by have h := hF _ (List.mem_cons_of_mem _ List.mem_cons_self); have h : 0 ≤ 0 + (1 * ρ 0 + ((-8) * ρ 2 + ((-1) * ρ 3 + 0))) := h; omega) (by have h := hF _ (List.mem_cons_of_mem _ (List.mem_cons_of_mem _ List.mem_cons_self)); have h : 0 ≤ 0 + ((-1) * ρ 1 + (8 * ρ 4 + (1 * ρ 5 + 0))) := h; omega) (by have h := hF _ (List.mem_cons_of_mem _ (List.mem_cons_of_mem _ (List.mem_cons_of_mem _ List.mem_cons_self))); have h : 0 ≤ 0 + (1 * ρ 1 + ((-8) * ρ 4 + ((-1) * ρ 5 + 0))) := h; omega) (by have h := hF _ (List.mem_cons_of_mem _ (List.mem_cons_of_mem _ (List.mem_cons_of_mem _ (List.mem_cons_of_mem _ List.mem_cons_self)))); have h : 0 ≤ 0 + ((-1) * ρ 0 + (8 * ρ 6 + (1 * ρ 7 + 0))) := h; omega) (by have h := hF _ (List.mem_cons_of_mem _ (List.mem_cons_of_mem _ (List.mem_cons_of_mem _ (List.mem_cons_of_mem _ (List.mem_cons_of_mem _ List.mem_cons_self))))); have h : 0 ≤ 0 + (1 * ρ 0 + ((-8) * ρ 6 + ((-1) * ρ 7 + 0))) := h; omega) (by have h := hF _ (List.mem_cons_of_mem _ (List.mem_cons_of_mem _ (List.mem_cons_of_mem _ (List.mem_cons_of_mem _ (List.mem_cons_of_mem _ (List.mem_cons_of_mem _ List.mem_cons_self)))))); have h : 0 ≤ 0 + ((-1) * ρ 1 + (8 * ρ 8 + (1 * ρ 9 + 0))) := h; omega) (by have h := hF _ (List.mem_cons_of_mem _ (List.mem_cons_of_mem _ (List.mem_cons_of_mem _ (List.mem_cons_of_mem _ (List.mem_cons_of_mem _ (List.mem_cons_of_mem _ (List.mem_cons_of_mem _ List.mem_cons_self))))))); have h : 0 ≤ 0 + (1 * ρ 1 + ((-8) * ρ 8 + ((-1) * ρ 9 + 0))) := h; omega) (by have h := hF _ (List.mem_cons_of_mem _ (List.mem_cons_of_mem _ (List.mem_cons_of_mem _ (List.mem_cons_of_mem _ (List.mem_cons_of_mem _ (List.mem_cons_of_mem _ (List.mem_cons_of_mem _ (List.mem_cons_of_mem _ List.mem_cons_self)))))))); have h : 0 ≤ 0 + (1 * ρ 3 + ((-1) * ρ 5 + 0)) := h; omega) (by have h := hF _ (List.mem_cons_of_mem _ (List.mem_cons_of_mem _ (List.mem_cons_of_mem _ (List.mem_cons_of_mem _ (List.mem_cons_of_mem _ (List.mem_cons_of_mem _ (List.mem_cons_of_mem _ (List.mem_cons_of_mem _ (List.mem_cons_of_mem _ List.mem_cons_self))))))))); have h : 0 ≤ 0 + ((-1) * ρ 6 + (1 * ρ 8 + 0)) := h; omega) (by have h := hF _ (List.mem_cons_of_mem _ (List.mem_cons_of_mem _ (List.mem_cons_of_mem _ (List.mem_cons_of_mem _ (List.mem_cons_of_mem _ (List.mem_cons_of_mem _ (List.mem_cons_of_mem _ (List.mem_cons_of_mem _ (List.mem_cons_of_mem _ (List.mem_cons_of_mem _ List.mem_cons_self)))))))))); have h : 0 ≤ 0 + (1 * ρ 3 + ((-1) * ρ 5 + (1 * ρ 6 + ((-1) * ρ 8 + 0)))) := h; omega) (by have h := hF _ (List.mem_cons_of_mem _ (List.mem_cons_of_mem _ (List.mem_cons_of_mem _ (List.mem_cons_of_mem _ (List.mem_cons_of_mem _ (List.mem_cons_of_mem _ (List.mem_cons_of_mem _ (List.mem_cons_of_mem _ (List.mem_cons_of_mem _ (List.mem_cons_of_mem _ (List.mem_cons_of_mem _ List.mem_cons_self))))))))))); have h : 0 ≤ 0 + (1 * ρ 3 + ((-1) * ρ 5 + ((-1) * ρ 10 + 0))) := h; omega) (by have h := hF _ (List.mem_cons_of_mem _ (List.mem_cons_of_mem _ (List.mem_cons_of_mem _ (List.mem_cons_of_mem _ (List.mem_cons_of_mem _ (List.mem_cons_of_mem _ (List.mem_cons_of_mem _ (List.mem_cons_of_mem _ (List.mem_cons_of_mem _ (List.mem_cons_of_mem _ (List.mem_cons_of_mem _ (List.mem_cons_of_mem _ List.mem_cons_self)))))))))))); have h : 0 ≤ 0 + ((-1) * ρ 3 + (1 * ρ 5 + (1 * ρ 10 + 0))) := h; omega) hG
  obtain ⟨k0, -⟩ := H
  exact ⟨_, List.mem_cons_self, ρ, fun _ _ => rfl, (okM_c (pvp 223 (by show 0 + (64 * ρ 0 + (1 * ρ 1 + 0)) = _; omega) (by show 0 + (1 * ρ 10 + 0) = _; omega) k0) okM_n), okB_n, okF_n⟩
-- apc011
theorem cr_757 (M : pM) (s0 s1 s2 s3 s4 s5 s6 s7 s8 s9 s10 : Int) (b0 : 0 ≤ s0 ∧ s0 ≤ 63) (b1 : 0 ≤ s1 ∧ s1 ≤ 63) (b2 : 0 ≤ s2 ∧ s2 ≤ 7) (b3 : 0 ≤ s3 ∧ s3 ≤ 7) (b4 : 0 ≤ s4 ∧ s4 ≤ 7) (b5 : 0 ≤ s5 ∧ s5 ≤ 7) (b6 : 0 ≤ s6 ∧ s6 ≤ 7) (b7 : 0 ≤ s7 ∧ s7 ≤ 7) (b8 : 0 ≤ s8 ∧ s8 ≤ 7) (b9 : 0 ≤ s9 ∧ s9 ≤ 7) (b10 : 0 ≤ s10 ∧ s10 ≤ 7) (f0 : 0 ≤ ((-1) * s0 + 8 * s2 + s3)) (f1 : 0 ≤ (s0 + (-8) * s2 + (-1) * s3)) (f2 : 0 ≤ ((-1) * s1 + 8 * s4 + s5)) (f3 : 0 ≤ (s1 + (-8) * s4 + (-1) * s5)) (f4 : 0 ≤ ((-1) * s0 + 8 * s6 + s7)) (f5 : 0 ≤ (s0 + (-8) * s6 + (-1) * s7)) (f6 : 0 ≤ ((-1) * s1 + 8 * s8 + s9)) (f7 : 0 ≤ (s1 + (-8) * s8 + (-1) * s9)) (f8 : 0 ≤ (s3 + (-1) * s5)) (f9 : 0 ≤ ((-1) * s6 + s8)) (f10 : 0 ≤ ((-1) * s3 + s5 + (-1) * s6 + s8)) (f11 : 0 ≤ ((-1) * s6 + s8 + (-1) * s10)) (f12 : 0 ≤ (s6 + (-1) * s8 + s10)) (hG : gI M) : (HP 223 (64 * s0 + s1) (s10) M ∧ True) := by
  have e1 : s0.toNat % 8 = s3.toNat := by omega
  have e2 : s1.toNat % 8 = s5.toNat := by omega
  have e3 : s0.toNat / 8 = s6.toNat := by omega
  have e4 : s1.toNat / 8 = s8.toNat := by omega
  have e : s10 = (apF s0.toNat s1.toNat : Int) := by
    unfold apF apN
    rw [e1, e2, e3, e4]
    (repeat' split) <;> omega
  exact ⟨Eq.mpr hp_223 ⟨s0.toNat, s1.toNat, by omega, by omega, by omega, e⟩, trivial⟩
theorem rul_757 : Rul r_757 := by
  refine ⟨fun _ ρ M hm hB hF hG => ?_, fun gi gv hg => (by cases hg)⟩
  have H := cr_757 M (ρ 0) (ρ 1) (ρ 2) (ρ 3) (ρ 4) (ρ 5) (ρ 6) (ρ 7) (ρ 8) (ρ 9) (ρ 10) (hB _ List.mem_cons_self) (hB _ (List.mem_cons_of_mem _ List.mem_cons_self)) (hB _ (List.mem_cons_of_mem _ (List.mem_cons_of_mem _ List.mem_cons_self))) (hB _ (List.mem_cons_of_mem _ (List.mem_cons_of_mem _ (List.mem_cons_of_mem _ List.mem_cons_self)))) (hB _ (List.mem_cons_of_mem _ (List.mem_cons_of_mem _ (List.mem_cons_of_mem _ (List.mem_cons_of_mem _ List.mem_cons_self))))) (hB _ (List.mem_cons_of_mem _ (List.mem_cons_of_mem _ (List.mem_cons_of_mem _ (List.mem_cons_of_mem _ (List.mem_cons_of_mem _ List.mem_cons_self)))))) (hB _ (List.mem_cons_of_mem _ (List.mem_cons_of_mem _ (List.mem_cons_of_mem _ (List.mem_cons_of_mem _ (List.mem_cons_of_mem _ (List.mem_cons_of_mem _ List.mem_cons_self))))))) (hB _ (List.mem_cons_of_mem _ (List.mem_cons_of_mem _ (List.mem_cons_of_mem _ (List.mem_cons_of_mem _ (List.mem_cons_of_mem _ (List.mem_cons_of_mem _ (List.mem_cons_of_mem _ List.mem_cons_self)))))))) (hB _ (List.mem_cons_of_mem _ (List.mem_cons_of_mem _ (List.mem_cons_of_mem _ (List.mem_cons_of_mem _ (List.mem_cons_of_mem _ (List.mem_cons_of_mem _ (List.mem_cons_of_mem _ (List.mem_cons_of_mem _ List.mem_cons_self))))))))) (hB _ (List.mem_cons_of_mem _ (List.mem_cons_of_mem _ (List.mem_cons_of_mem _ (List.mem_cons_of_mem _ (List.mem_cons_of_mem _ (List.mem_cons_of_mem _ (List.mem_cons_of_mem _ (List.mem_cons_of_mem _ (List.mem_cons_of_mem _ List.mem_cons_self)))))))))) (hB _ (List.mem_cons_of_mem _ (List.mem_cons_of_mem _ (List.mem_cons_of_mem _ (List.mem_cons_of_mem _ (List.mem_cons_of_mem _ (List.mem_cons_of_mem _ (List.mem_cons_of_mem _ (List.mem_cons_of_mem _ (List.mem_cons_of_mem _ (List.mem_cons_of_mem _ List.mem_cons_self))))))))))) (by have h := hF _ List.mem_cons_self; have h : 0 ≤ 0 + ((-1) * ρ 0 + (8 * ρ 2 + (1 * ρ 3 + 0))) := h; omega) (by have h := hF _ (List.mem_cons_of_mem _ List.mem_cons_self); have h : 0 ≤ 0 + (1 * ρ 0 + ((-8) * ρ 2 + ((-1) * ρ 3 + 0))) := h; omega) (by have h := hF _ (List.mem_cons_of_mem _ (List.mem_cons_of_mem _ List.mem_cons_self)); have h : 0 ≤ 0 + ((-1) * ρ 1 + (8 * ρ 4 + (1 * ρ 5 + 0))) := h; omega) (by have h := hF _ (List.mem_cons_of_mem _ (List.mem_cons_of_mem _ (List.mem_cons_of_mem _ List.mem_cons_self))); have h : 0 ≤ 0 + (1 * ρ 1 + ((-8) * ρ 4 + ((-1) * ρ 5 + 0))) := h; omega) (by have h := hF _ (List.mem_cons_of_mem _ (List.mem_cons_of_mem _ (List.mem_cons_of_mem _ (List.mem_cons_of_mem _ List.mem_cons_self)))); have h : 0 ≤ 0 + ((-1) * ρ 0 + (8 * ρ 6 + (1 * ρ 7 + 0))) := h; omega) (by have h := hF _ (List.mem_cons_of_mem _ (List.mem_cons_of_mem _ (List.mem_cons_of_mem _ (List.mem_cons_of_mem _ (List.mem_cons_of_mem _ List.mem_cons_self))))); have h : 0 ≤ 0 + (1 * ρ 0 + ((-8) * ρ 6 + ((-1) * ρ 7 + 0))) := h; omega) (by have h := hF _ (List.mem_cons_of_mem _ (List.mem_cons_of_mem _ (List.mem_cons_of_mem _ (List.mem_cons_of_mem _ (List.mem_cons_of_mem _ (List.mem_cons_of_mem _ List.mem_cons_self)))))); have h : 0 ≤ 0 + ((-1) * ρ 1 + (8 * ρ 8 + (1 * ρ 9 + 0))) := h; omega) (by have h := hF _ (List.mem_cons_of_mem _ (List.mem_cons_of_mem _ (List.mem_cons_of_mem _ (List.mem_cons_of_mem _ (List.mem_cons_of_mem _ (List.mem_cons_of_mem _ (List.mem_cons_of_mem _ List.mem_cons_self))))))); have h : 0 ≤ 0 + (1 * ρ 1 + ((-8) * ρ 8 + ((-1) * ρ 9 + 0))) := h; omega) (by have h := hF _ (List.mem_cons_of_mem _ (List.mem_cons_of_mem _ (List.mem_cons_of_mem _ (List.mem_cons_of_mem _ (List.mem_cons_of_mem _ (List.mem_cons_of_mem _ (List.mem_cons_of_mem _ (List.mem_cons_of_mem _ List.mem_cons_self)))))))); have h : 0 ≤ 0 + (1 * ρ 3 + ((-1) * ρ 5 + 0)) := h; omega) (by have h := hF _ (List.mem_cons_of_mem _ (List.mem_cons_of_mem _ (List.mem_cons_of_mem _ (List.mem_cons_of_mem _ (List.mem_cons_of_mem _ (List.mem_cons_of_mem _ (List.mem_cons_of_mem _ (List.mem_cons_of_mem _ (List.mem_cons_of_mem _ List.mem_cons_self))))))))); have h : 0 ≤ 0 + ((-1) * ρ 6 + (1 * ρ 8 + 0)) := h; omega) (by have h := hF _ (List.mem_cons_of_mem _ (List.mem_cons_of_mem _ (List.mem_cons_of_mem _ (List.mem_cons_of_mem _ (List.mem_cons_of_mem _ (List.mem_cons_of_mem _ (List.mem_cons_of_mem _ (List.mem_cons_of_mem _ (List.mem_cons_of_mem _ (List.mem_cons_of_mem _ List.mem_cons_self)))))))))); have h : 0 ≤ 0 + ((-1) * ρ 3 + (1 * ρ 5 + ((-1) * ρ 6 + (1 * ρ 8 + 0)))) := h; omega) (by have h := hF _ (List.mem_cons_of_mem _ (List.mem_cons_of_mem _ (List.mem_cons_of_mem _ (List.mem_cons_of_mem _ (List.mem_cons_of_mem _ (List.mem_cons_of_mem _ (List.mem_cons_of_mem _ (List.mem_cons_of_mem _ (List.mem_cons_of_mem _ (List.mem_cons_of_mem _ (List.mem_cons_of_mem _ List.mem_cons_self))))))))))); have h : 0 ≤ 0 + ((-1) * ρ 6 + (1 * ρ 8 + ((-1) * ρ 10 + 0))) := h; omega) (by have h := hF _ (List.mem_cons_of_mem _ (List.mem_cons_of_mem _ (List.mem_cons_of_mem _ (List.mem_cons_of_mem _ (List.mem_cons_of_mem _ (List.mem_cons_of_mem _ (List.mem_cons_of_mem _ (List.mem_cons_of_mem _ (List.mem_cons_of_mem _ (List.mem_cons_of_mem _ (List.mem_cons_of_mem _ (List.mem_cons_of_mem _ List.mem_cons_self)))))))))))); have h : 0 ≤ 0 + (1 * ρ 6 + ((-1) * ρ 8 + (1 * ρ 10 + 0))) := h; omega) hG
  obtain ⟨k0, -⟩ := H
  exact ⟨_, List.mem_cons_self, ρ, fun _ _ => rfl, (okM_c (pvp 223 (by show 0 + (64 * ρ 0 + (1 * ρ 1 + 0)) = _; omega) (by show 0 + (1 * ρ 10 + 0) = _; omega) k0) okM_n), okB_n, okF_n⟩
-- apc100
theorem cr_758 (M : pM) (s0 s1 s2 s3 s4 s5 s6 s7 s8 s9 s10 : Int) (b0 : 0 ≤ s0 ∧ s0 ≤ 63) (b1 : 0 ≤ s1 ∧ s1 ≤ 63) (b2 : 0 ≤ s2 ∧ s2 ≤ 7) (b3 : 0 ≤ s3 ∧ s3 ≤ 7) (b4 : 0 ≤ s4 ∧ s4 ≤ 7) (b5 : 0 ≤ s5 ∧ s5 ≤ 7) (b6 : 0 ≤ s6 ∧ s6 ≤ 7) (b7 : 0 ≤ s7 ∧ s7 ≤ 7) (b8 : 0 ≤ s8 ∧ s8 ≤ 7) (b9 : 0 ≤ s9 ∧ s9 ≤ 7) (b10 : 0 ≤ s10 ∧ s10 ≤ 7) (f0 : 0 ≤ ((-1) * s0 + 8 * s2 + s3)) (f1 : 0 ≤ (s0 + (-8) * s2 + (-1) * s3)) (f2 : 0 ≤ ((-1) * s1 + 8 * s4 + s5)) (f3 : 0 ≤ (s1 + (-8) * s4 + (-1) * s5)) (f4 : 0 ≤ ((-1) * s0 + 8 * s6 + s7)) (f5 : 0 ≤ (s0 + (-8) * s6 + (-1) * s7)) (f6 : 0 ≤ ((-1) * s1 + 8 * s8 + s9)) (f7 : 0 ≤ (s1 + (-8) * s8 + (-1) * s9)) (f8 : 0 ≤ ((-1) * s3 + s5)) (f9 : 0 ≤ (s6 + (-1) * s8)) (f10 : 0 ≤ ((-1) * s3 + s5 + (-1) * s6 + s8)) (f11 : 0 ≤ ((-1) * s3 + s5 + (-1) * s10)) (f12 : 0 ≤ (s3 + (-1) * s5 + s10)) (hG : gI M) : (HP 223 (64 * s0 + s1) (s10) M ∧ True) := by
  have e1 : s0.toNat % 8 = s3.toNat := by omega
  have e2 : s1.toNat % 8 = s5.toNat := by omega
  have e3 : s0.toNat / 8 = s6.toNat := by omega
  have e4 : s1.toNat / 8 = s8.toNat := by omega
  have e : s10 = (apF s0.toNat s1.toNat : Int) := by
    unfold apF apN
    rw [e1, e2, e3, e4]
    (repeat' split) <;> omega
  exact ⟨Eq.mpr hp_223 ⟨s0.toNat, s1.toNat, by omega, by omega, by omega, e⟩, trivial⟩
theorem rul_758 : Rul r_758 := by
  refine ⟨fun _ ρ M hm hB hF hG => ?_, fun gi gv hg => (by cases hg)⟩
  have H := cr_758 M (ρ 0) (ρ 1) (ρ 2) (ρ 3) (ρ 4) (ρ 5) (ρ 6) (ρ 7) (ρ 8) (ρ 9) (ρ 10) (hB _ List.mem_cons_self) (hB _ (List.mem_cons_of_mem _ List.mem_cons_self)) (hB _ (List.mem_cons_of_mem _ (List.mem_cons_of_mem _ List.mem_cons_self))) (hB _ (List.mem_cons_of_mem _ (List.mem_cons_of_mem _ (List.mem_cons_of_mem _ List.mem_cons_self)))) (hB _ (List.mem_cons_of_mem _ (List.mem_cons_of_mem _ (List.mem_cons_of_mem _ (List.mem_cons_of_mem _ List.mem_cons_self))))) (hB _ (List.mem_cons_of_mem _ (List.mem_cons_of_mem _ (List.mem_cons_of_mem _ (List.mem_cons_of_mem _ (List.mem_cons_of_mem _ List.mem_cons_self)))))) (hB _ (List.mem_cons_of_mem _ (List.mem_cons_of_mem _ (List.mem_cons_of_mem _ (List.mem_cons_of_mem _ (List.mem_cons_of_mem _ (List.mem_cons_of_mem _ List.mem_cons_self))))))) (hB _ (List.mem_cons_of_mem _ (List.mem_cons_of_mem _ (List.mem_cons_of_mem _ (List.mem_cons_of_mem _ (List.mem_cons_of_mem _ (List.mem_cons_of_mem _ (List.mem_cons_of_mem _ List.mem_cons_self)))))))) (hB _ (List.mem_cons_of_mem _ (List.mem_cons_of_mem _ (List.mem_cons_of_mem _ (List.mem_cons_of_mem _ (List.mem_cons_of_mem _ (List.mem_cons_of_mem _ (List.mem_cons_of_mem _ (List.mem_cons_of_mem _ List.mem_cons_self))))))))) (hB _ (List.mem_cons_of_mem _ (List.mem_cons_of_mem _ (List.mem_cons_of_mem _ (List.mem_cons_of_mem _ (List.mem_cons_of_mem _ (List.mem_cons_of_mem _ (List.mem_cons_of_mem _ (List.mem_cons_of_mem _ (List.mem_cons_of_mem _ List.mem_cons_self)))))))))) (hB _ (List.mem_cons_of_mem _ (List.mem_cons_of_mem _ (List.mem_cons_of_mem _ (List.mem_cons_of_mem _ (List.mem_cons_of_mem _ (List.mem_cons_of_mem _ (List.mem_cons_of_mem _ (List.mem_cons_of_mem _ (List.mem_cons_of_mem _ (List.mem_cons_of_mem _ List.mem_cons_self))))))))))) (by have h := hF _ List.mem_cons_self; have h : 0 ≤ 0 + ((-1) * ρ 0 + (8 * ρ 2 + (1 * ρ 3 + 0))) := h; omega) (by have h := hF _ (List.mem_cons_of_mem _ List.mem_cons_self); have h : 0 ≤ 0 + (1 * ρ 0 + ((-8) * ρ 2 + ((-1) * ρ 3 + 0))) := h; omega) (by have h := hF _ (List.mem_cons_of_mem _ (List.mem_cons_of_mem _ List.mem_cons_self)); have h : 0 ≤ 0 + ((-1) * ρ 1 + (8 * ρ 4 + (1 * ρ 5 + 0))) := h; omega) (by have h := hF _ (List.mem_cons_of_mem _ (List.mem_cons_of_mem _ (List.mem_cons_of_mem _ List.mem_cons_self))); have h : 0 ≤ 0 + (1 * ρ 1 + ((-8) * ρ 4 + ((-1) * ρ 5 + 0))) := h; omega) (by have h := hF _ (List.mem_cons_of_mem _ (List.mem_cons_of_mem _ (List.mem_cons_of_mem _ (List.mem_cons_of_mem _ List.mem_cons_self)))); have h : 0 ≤ 0 + ((-1) * ρ 0 + (8 * ρ 6 + (1 * ρ 7 + 0))) := h; omega) (by have h := hF _ (List.mem_cons_of_mem _ (List.mem_cons_of_mem _ (List.mem_cons_of_mem _ (List.mem_cons_of_mem _ (List.mem_cons_of_mem _ List.mem_cons_self))))); have h : 0 ≤ 0 + (1 * ρ 0 + ((-8) * ρ 6 + ((-1) * ρ 7 + 0))) := h; omega) (by have h := hF _ (List.mem_cons_of_mem _ (List.mem_cons_of_mem _ (List.mem_cons_of_mem _ (List.mem_cons_of_mem _ (List.mem_cons_of_mem _ (List.mem_cons_of_mem _ List.mem_cons_self)))))); have h : 0 ≤ 0 + ((-1) * ρ 1 + (8 * ρ 8 + (1 * ρ 9 + 0))) := h; omega) (by have h := hF _ (List.mem_cons_of_mem _ (List.mem_cons_of_mem _ (List.mem_cons_of_mem _ (List.mem_cons_of_mem _ (List.mem_cons_of_mem _ (List.mem_cons_of_mem _ (List.mem_cons_of_mem _ List.mem_cons_self))))))); have h : 0 ≤ 0 + (1 * ρ 1 + ((-8) * ρ 8 + ((-1) * ρ 9 + 0))) := h; omega) (by have h := hF _ (List.mem_cons_of_mem _ (List.mem_cons_of_mem _ (List.mem_cons_of_mem _ (List.mem_cons_of_mem _ (List.mem_cons_of_mem _ (List.mem_cons_of_mem _ (List.mem_cons_of_mem _ (List.mem_cons_of_mem _ List.mem_cons_self)))))))); have h : 0 ≤ 0 + ((-1) * ρ 3 + (1 * ρ 5 + 0)) := h; omega) (by have h := hF _ (List.mem_cons_of_mem _ (List.mem_cons_of_mem _ (List.mem_cons_of_mem _ (List.mem_cons_of_mem _ (List.mem_cons_of_mem _ (List.mem_cons_of_mem _ (List.mem_cons_of_mem _ (List.mem_cons_of_mem _ (List.mem_cons_of_mem _ List.mem_cons_self))))))))); have h : 0 ≤ 0 + (1 * ρ 6 + ((-1) * ρ 8 + 0)) := h; omega) (by have h := hF _ (List.mem_cons_of_mem _ (List.mem_cons_of_mem _ (List.mem_cons_of_mem _ (List.mem_cons_of_mem _ (List.mem_cons_of_mem _ (List.mem_cons_of_mem _ (List.mem_cons_of_mem _ (List.mem_cons_of_mem _ (List.mem_cons_of_mem _ (List.mem_cons_of_mem _ List.mem_cons_self)))))))))); have h : 0 ≤ 0 + ((-1) * ρ 3 + (1 * ρ 5 + ((-1) * ρ 6 + (1 * ρ 8 + 0)))) := h; omega) (by have h := hF _ (List.mem_cons_of_mem _ (List.mem_cons_of_mem _ (List.mem_cons_of_mem _ (List.mem_cons_of_mem _ (List.mem_cons_of_mem _ (List.mem_cons_of_mem _ (List.mem_cons_of_mem _ (List.mem_cons_of_mem _ (List.mem_cons_of_mem _ (List.mem_cons_of_mem _ (List.mem_cons_of_mem _ List.mem_cons_self))))))))))); have h : 0 ≤ 0 + ((-1) * ρ 3 + (1 * ρ 5 + ((-1) * ρ 10 + 0))) := h; omega) (by have h := hF _ (List.mem_cons_of_mem _ (List.mem_cons_of_mem _ (List.mem_cons_of_mem _ (List.mem_cons_of_mem _ (List.mem_cons_of_mem _ (List.mem_cons_of_mem _ (List.mem_cons_of_mem _ (List.mem_cons_of_mem _ (List.mem_cons_of_mem _ (List.mem_cons_of_mem _ (List.mem_cons_of_mem _ (List.mem_cons_of_mem _ List.mem_cons_self)))))))))))); have h : 0 ≤ 0 + (1 * ρ 3 + ((-1) * ρ 5 + (1 * ρ 10 + 0))) := h; omega) hG
  obtain ⟨k0, -⟩ := H
  exact ⟨_, List.mem_cons_self, ρ, fun _ _ => rfl, (okM_c (pvp 223 (by show 0 + (64 * ρ 0 + (1 * ρ 1 + 0)) = _; omega) (by show 0 + (1 * ρ 10 + 0) = _; omega) k0) okM_n), okB_n, okF_n⟩
-- apc101
theorem cr_759 (M : pM) (s0 s1 s2 s3 s4 s5 s6 s7 s8 s9 s10 : Int) (b0 : 0 ≤ s0 ∧ s0 ≤ 63) (b1 : 0 ≤ s1 ∧ s1 ≤ 63) (b2 : 0 ≤ s2 ∧ s2 ≤ 7) (b3 : 0 ≤ s3 ∧ s3 ≤ 7) (b4 : 0 ≤ s4 ∧ s4 ≤ 7) (b5 : 0 ≤ s5 ∧ s5 ≤ 7) (b6 : 0 ≤ s6 ∧ s6 ≤ 7) (b7 : 0 ≤ s7 ∧ s7 ≤ 7) (b8 : 0 ≤ s8 ∧ s8 ≤ 7) (b9 : 0 ≤ s9 ∧ s9 ≤ 7) (b10 : 0 ≤ s10 ∧ s10 ≤ 7) (f0 : 0 ≤ ((-1) * s0 + 8 * s2 + s3)) (f1 : 0 ≤ (s0 + (-8) * s2 + (-1) * s3)) (f2 : 0 ≤ ((-1) * s1 + 8 * s4 + s5)) (f3 : 0 ≤ (s1 + (-8) * s4 + (-1) * s5)) (f4 : 0 ≤ ((-1) * s0 + 8 * s6 + s7)) (f5 : 0 ≤ (s0 + (-8) * s6 + (-1) * s7)) (f6 : 0 ≤ ((-1) * s1 + 8 * s8 + s9)) (f7 : 0 ≤ (s1 + (-8) * s8 + (-1) * s9)) (f8 : 0 ≤ ((-1) * s3 + s5)) (f9 : 0 ≤ (s6 + (-1) * s8)) (f10 : 0 ≤ (s3 + (-1) * s5 + s6 + (-1) * s8)) (f11 : 0 ≤ (s6 + (-1) * s8 + (-1) * s10)) (f12 : 0 ≤ ((-1) * s6 + s8 + s10)) (hG : gI M) : (HP 223 (64 * s0 + s1) (s10) M ∧ True) := by
  have e1 : s0.toNat % 8 = s3.toNat := by omega
  have e2 : s1.toNat % 8 = s5.toNat := by omega
  have e3 : s0.toNat / 8 = s6.toNat := by omega
  have e4 : s1.toNat / 8 = s8.toNat := by omega
  have e : s10 = (apF s0.toNat s1.toNat : Int) := by
    unfold apF apN
    rw [e1, e2, e3, e4]
    (repeat' split) <;> omega
  exact ⟨Eq.mpr hp_223 ⟨s0.toNat, s1.toNat, by omega, by omega, by omega, e⟩, trivial⟩
theorem rul_759 : Rul r_759 := by
  refine ⟨fun _ ρ M hm hB hF hG => ?_, fun gi gv hg => (by cases hg)⟩
  have H := cr_759 M (ρ 0) (ρ 1) (ρ 2) (ρ 3) (ρ 4) (ρ 5) (ρ 6) (ρ 7) (ρ 8) (ρ 9) (ρ 10) (hB _ List.mem_cons_self) (hB _ (List.mem_cons_of_mem _ List.mem_cons_self)) (hB _ (List.mem_cons_of_mem _ (List.mem_cons_of_mem _ List.mem_cons_self))) (hB _ (List.mem_cons_of_mem _ (List.mem_cons_of_mem _ (List.mem_cons_of_mem _ List.mem_cons_self)))) (hB _ (List.mem_cons_of_mem _ (List.mem_cons_of_mem _ (List.mem_cons_of_mem _ (List.mem_cons_of_mem _ List.mem_cons_self))))) (hB _ (List.mem_cons_of_mem _ (List.mem_cons_of_mem _ (List.mem_cons_of_mem _ (List.mem_cons_of_mem _ (List.mem_cons_of_mem _ List.mem_cons_self)))))) (hB _ (List.mem_cons_of_mem _ (List.mem_cons_of_mem _ (List.mem_cons_of_mem _ (List.mem_cons_of_mem _ (List.mem_cons_of_mem _ (List.mem_cons_of_mem _ List.mem_cons_self))))))) (hB _ (List.mem_cons_of_mem _ (List.mem_cons_of_mem _ (List.mem_cons_of_mem _ (List.mem_cons_of_mem _ (List.mem_cons_of_mem _ (List.mem_cons_of_mem _ (List.mem_cons_of_mem _ List.mem_cons_self)))))))) (hB _ (List.mem_cons_of_mem _ (List.mem_cons_of_mem _ (List.mem_cons_of_mem _ (List.mem_cons_of_mem _ (List.mem_cons_of_mem _ (List.mem_cons_of_mem _ (List.mem_cons_of_mem _ (List.mem_cons_of_mem _ List.mem_cons_self))))))))) (hB _ (List.mem_cons_of_mem _ (List.mem_cons_of_mem _ (List.mem_cons_of_mem _ (List.mem_cons_of_mem _ (List.mem_cons_of_mem _ (List.mem_cons_of_mem _ (List.mem_cons_of_mem _ (List.mem_cons_of_mem _ (List.mem_cons_of_mem _ List.mem_cons_self)))))))))) (hB _ (List.mem_cons_of_mem _ (List.mem_cons_of_mem _ (List.mem_cons_of_mem _ (List.mem_cons_of_mem _ (List.mem_cons_of_mem _ (List.mem_cons_of_mem _ (List.mem_cons_of_mem _ (List.mem_cons_of_mem _ (List.mem_cons_of_mem _ (List.mem_cons_of_mem _ List.mem_cons_self))))))))))) (by have h := hF _ List.mem_cons_self; have h : 0 ≤ 0 + ((-1) * ρ 0 + (8 * ρ 2 + (1 * ρ 3 + 0))) := h; omega) (by have h := hF _ (List.mem_cons_of_mem _ List.mem_cons_self); have h : 0 ≤ 0 + (1 * ρ 0 + ((-8) * ρ 2 + ((-1) * ρ 3 + 0))) := h; omega) (by have h := hF _ (List.mem_cons_of_mem _ (List.mem_cons_of_mem _ List.mem_cons_self)); have h : 0 ≤ 0 + ((-1) * ρ 1 + (8 * ρ 4 + (1 * ρ 5 + 0))) := h; omega) (by have h := hF _ (List.mem_cons_of_mem _ (List.mem_cons_of_mem _ (List.mem_cons_of_mem _ List.mem_cons_self))); have h : 0 ≤ 0 + (1 * ρ 1 + ((-8) * ρ 4 + ((-1) * ρ 5 + 0))) := h; omega) (by have h := hF _ (List.mem_cons_of_mem _ (List.mem_cons_of_mem _ (List.mem_cons_of_mem _ (List.mem_cons_of_mem _ List.mem_cons_self)))); have h : 0 ≤ 0 + ((-1) * ρ 0 + (8 * ρ 6 + (1 * ρ 7 + 0))) := h; omega) (by have h := hF _ (List.mem_cons_of_mem _ (List.mem_cons_of_mem _ (List.mem_cons_of_mem _ (List.mem_cons_of_mem _ (List.mem_cons_of_mem _ List.mem_cons_self))))); have h : 0 ≤ 0 + (1 * ρ 0 + ((-8) * ρ 6 + ((-1) * ρ 7 + 0))) := h; omega) (by have h := hF _ (List.mem_cons_of_mem _ (List.mem_cons_of_mem _ (List.mem_cons_of_mem _ (List.mem_cons_of_mem _ (List.mem_cons_of_mem _ (List.mem_cons_of_mem _ List.mem_cons_self)))))); have h : 0 ≤ 0 + ((-1) * ρ 1 + (8 * ρ 8 + (1 * ρ 9 + 0))) := h; omega) (by have h := hF _ (List.mem_cons_of_mem _ (List.mem_cons_of_mem _ (List.mem_cons_of_mem _ (List.mem_cons_of_mem _ (List.mem_cons_of_mem _ (List.mem_cons_of_mem _ (List.mem_cons_of_mem _ List.mem_cons_self))))))); have h : 0 ≤ 0 + (1 * ρ 1 + ((-8) * ρ 8 + ((-1) * ρ 9 + 0))) := h; omega) (by have h := hF _ (List.mem_cons_of_mem _ (List.mem_cons_of_mem _ (List.mem_cons_of_mem _ (List.mem_cons_of_mem _ (List.mem_cons_of_mem _ (List.mem_cons_of_mem _ (List.mem_cons_of_mem _ (List.mem_cons_of_mem _ List.mem_cons_self)))))))); have h : 0 ≤ 0 + ((-1) * ρ 3 + (1 * ρ 5 + 0)) := h; omega) (by have h := hF _ (List.mem_cons_of_mem _ (List.mem_cons_of_mem _ (List.mem_cons_of_mem _ (List.mem_cons_of_mem _ (List.mem_cons_of_mem _ (List.mem_cons_of_mem _ (List.mem_cons_of_mem _ (List.mem_cons_of_mem _ (List.mem_cons_of_mem _ List.mem_cons_self))))))))); have h : 0 ≤ 0 + (1 * ρ 6 + ((-1) * ρ 8 + 0)) := h; omega) (by have h := hF _ (List.mem_cons_of_mem _ (List.mem_cons_of_mem _ (List.mem_cons_of_mem _ (List.mem_cons_of_mem _ (List.mem_cons_of_mem _ (List.mem_cons_of_mem _ (List.mem_cons_of_mem _ (List.mem_cons_of_mem _ (List.mem_cons_of_mem _ (List.mem_cons_of_mem _ List.mem_cons_self)))))))))); have h : 0 ≤ 0 + (1 * ρ 3 + ((-1) * ρ 5 + (1 * ρ 6 + ((-1) * ρ 8 + 0)))) := h; omega) (by have h := hF _ (List.mem_cons_of_mem _ (List.mem_cons_of_mem _ (List.mem_cons_of_mem _ (List.mem_cons_of_mem _ (List.mem_cons_of_mem _ (List.mem_cons_of_mem _ (List.mem_cons_of_mem _ (List.mem_cons_of_mem _ (List.mem_cons_of_mem _ (List.mem_cons_of_mem _ (List.mem_cons_of_mem _ List.mem_cons_self))))))))))); have h : 0 ≤ 0 + (1 * ρ 6 + ((-1) * ρ 8 + ((-1) * ρ 10 + 0))) := h; omega) (by have h := hF _ (List.mem_cons_of_mem _ (List.mem_cons_of_mem _ (List.mem_cons_of_mem _ (List.mem_cons_of_mem _ (List.mem_cons_of_mem _ (List.mem_cons_of_mem _ (List.mem_cons_of_mem _ (List.mem_cons_of_mem _ (List.mem_cons_of_mem _ (List.mem_cons_of_mem _ (List.mem_cons_of_mem _ (List.mem_cons_of_mem _ List.mem_cons_self)))))))))))); have h : 0 ≤ 0 + ((-1) * ρ 6 + (1 * ρ 8 + (1 * ρ 10 + 0))) := h; omega) hG
  obtain ⟨k0, -⟩ := H
  exact ⟨_, List.mem_cons_self, ρ, fun _ _ => rfl, (okM_c (pvp 223 (by show 0 + (64 * ρ 0 + (1 * ρ 1 + 0)) = _; omega) (by show 0 + (1 * ρ 10 + 0) = _; omega) k0) okM_n), okB_n, okF_n⟩
-- apc110
theorem cr_760 (M : pM) (s0 s1 s2 s3 s4 s5 s6 s7 s8 s9 s10 : Int) (b0 : 0 ≤ s0 ∧ s0 ≤ 63) (b1 : 0 ≤ s1 ∧ s1 ≤ 63) (b2 : 0 ≤ s2 ∧ s2 ≤ 7) (b3 : 0 ≤ s3 ∧ s3 ≤ 7) (b4 : 0 ≤ s4 ∧ s4 ≤ 7) (b5 : 0 ≤ s5 ∧ s5 ≤ 7) (b6 : 0 ≤ s6 ∧ s6 ≤ 7) (b7 : 0 ≤ s7 ∧ s7 ≤ 7) (b8 : 0 ≤ s8 ∧ s8 ≤ 7) (b9 : 0 ≤ s9 ∧ s9 ≤ 7) (b10 : 0 ≤ s10 ∧ s10 ≤ 7) (f0 : 0 ≤ ((-1) * s0 + 8 * s2 + s3)) (f1 : 0 ≤ (s0 + (-8) * s2 + (-1) * s3)) (f2 : 0 ≤ ((-1) * s1 + 8 * s4 + s5)) (f3 : 0 ≤ (s1 + (-8) * s4 + (-1) * s5)) (f4 : 0 ≤ ((-1) * s0 + 8 * s6 + s7)) (f5 : 0 ≤ (s0 + (-8) * s6 + (-1) * s7)) (f6 : 0 ≤ ((-1) * s1 + 8 * s8 + s9)) (f7 : 0 ≤ (s1 + (-8) * s8 + (-1) * s9)) (f8 : 0 ≤ ((-1) * s3 + s5)) (f9 : 0 ≤ ((-1) * s6 + s8)) (f10 : 0 ≤ ((-1) * s3 + s5 + s6 + (-1) * s8)) (f11 : 0 ≤ ((-1) * s3 + s5 + (-1) * s10)) (f12 : 0 ≤ (s3 + (-1) * s5 + s10)) (hG : gI M) : (HP 223 (64 * s0 + s1) (s10) M ∧ True) := by
  have e1 : s0.toNat % 8 = s3.toNat := by omega
  have e2 : s1.toNat % 8 = s5.toNat := by omega
  have e3 : s0.toNat / 8 = s6.toNat := by omega
  have e4 : s1.toNat / 8 = s8.toNat := by omega
  have e : s10 = (apF s0.toNat s1.toNat : Int) := by
    unfold apF apN
    rw [e1, e2, e3, e4]
    (repeat' split) <;> omega
  exact ⟨Eq.mpr hp_223 ⟨s0.toNat, s1.toNat, by omega, by omega, by omega, e⟩, trivial⟩
theorem rul_760 : Rul r_760 := by
  refine ⟨fun _ ρ M hm hB hF hG => ?_, fun gi gv hg => (by cases hg)⟩
  have H := cr_760 M (ρ 0) (ρ 1) (ρ 2) (ρ 3) (ρ 4) (ρ 5) (ρ 6) (ρ 7) (ρ 8) (ρ 9) (ρ 10) (hB _ List.mem_cons_self) (hB _ (List.mem_cons_of_mem _ List.mem_cons_self)) (hB _ (List.mem_cons_of_mem _ (List.mem_cons_of_mem _ List.mem_cons_self))) (hB _ (List.mem_cons_of_mem _ (List.mem_cons_of_mem _ (List.mem_cons_of_mem _ List.mem_cons_self)))) (hB _ (List.mem_cons_of_mem _ (List.mem_cons_of_mem _ (List.mem_cons_of_mem _ (List.mem_cons_of_mem _ List.mem_cons_self))))) (hB _ (List.mem_cons_of_mem _ (List.mem_cons_of_mem _ (List.mem_cons_of_mem _ (List.mem_cons_of_mem _ (List.mem_cons_of_mem _ List.mem_cons_self)))))) (hB _ (List.mem_cons_of_mem _ (List.mem_cons_of_mem _ (List.mem_cons_of_mem _ (List.mem_cons_of_mem _ (List.mem_cons_of_mem _ (List.mem_cons_of_mem _ List.mem_cons_self))))))) (hB _ (List.mem_cons_of_mem _ (List.mem_cons_of_mem _ (List.mem_cons_of_mem _ (List.mem_cons_of_mem _ (List.mem_cons_of_mem _ (List.mem_cons_of_mem _ (List.mem_cons_of_mem _ List.mem_cons_self)))))))) (hB _ (List.mem_cons_of_mem _ (List.mem_cons_of_mem _ (List.mem_cons_of_mem _ (List.mem_cons_of_mem _ (List.mem_cons_of_mem _ (List.mem_cons_of_mem _ (List.mem_cons_of_mem _ (List.mem_cons_of_mem _ List.mem_cons_self))))))))) (hB _ (List.mem_cons_of_mem _ (List.mem_cons_of_mem _ (List.mem_cons_of_mem _ (List.mem_cons_of_mem _ (List.mem_cons_of_mem _ (List.mem_cons_of_mem _ (List.mem_cons_of_mem _ (List.mem_cons_of_mem _ (List.mem_cons_of_mem _ List.mem_cons_self)))))))))) (hB _ (List.mem_cons_of_mem _ (List.mem_cons_of_mem _ (List.mem_cons_of_mem _ (List.mem_cons_of_mem _ (List.mem_cons_of_mem _ (List.mem_cons_of_mem _ (List.mem_cons_of_mem _ (List.mem_cons_of_mem _ (List.mem_cons_of_mem _ (List.mem_cons_of_mem _ List.mem_cons_self))))))))))) (by have h := hF _ List.mem_cons_self; have h : 0 ≤ 0 + ((-1) * ρ 0 + (8 * ρ 2 + (1 * ρ 3 + 0))) := h; omega) (by have h := hF _ (List.mem_cons_of_mem _ List.mem_cons_self); have h : 0 ≤ 0 + (1 * ρ 0 + ((-8) * ρ 2 + ((-1) * ρ 3 + 0))) := h; omega) (by have h := hF _ (List.mem_cons_of_mem _ (List.mem_cons_of_mem _ List.mem_cons_self)); have h : 0 ≤ 0 + ((-1) * ρ 1 + (8 * ρ 4 + (1 * ρ 5 + 0))) := h; omega) (by have h := hF _ (List.mem_cons_of_mem _ (List.mem_cons_of_mem _ (List.mem_cons_of_mem _ List.mem_cons_self))); have h : 0 ≤ 0 + (1 * ρ 1 + ((-8) * ρ 4 + ((-1) * ρ 5 + 0))) := h; omega) (by have h := hF _ (List.mem_cons_of_mem _ (List.mem_cons_of_mem _ (List.mem_cons_of_mem _ (List.mem_cons_of_mem _ List.mem_cons_self)))); have h : 0 ≤ 0 + ((-1) * ρ 0 + (8 * ρ 6 + (1 * ρ 7 + 0))) := h; omega) (by have h := hF _ (List.mem_cons_of_mem _ (List.mem_cons_of_mem _ (List.mem_cons_of_mem _ (List.mem_cons_of_mem _ (List.mem_cons_of_mem _ List.mem_cons_self))))); have h : 0 ≤ 0 + (1 * ρ 0 + ((-8) * ρ 6 + ((-1) * ρ 7 + 0))) := h; omega) (by have h := hF _ (List.mem_cons_of_mem _ (List.mem_cons_of_mem _ (List.mem_cons_of_mem _ (List.mem_cons_of_mem _ (List.mem_cons_of_mem _ (List.mem_cons_of_mem _ List.mem_cons_self)))))); have h : 0 ≤ 0 + ((-1) * ρ 1 + (8 * ρ 8 + (1 * ρ 9 + 0))) := h; omega) (by have h := hF _ (List.mem_cons_of_mem _ (List.mem_cons_of_mem _ (List.mem_cons_of_mem _ (List.mem_cons_of_mem _ (List.mem_cons_of_mem _ (List.mem_cons_of_mem _ (List.mem_cons_of_mem _ List.mem_cons_self))))))); have h : 0 ≤ 0 + (1 * ρ 1 + ((-8) * ρ 8 + ((-1) * ρ 9 + 0))) := h; omega) (by have h := hF _ (List.mem_cons_of_mem _ (List.mem_cons_of_mem _ (List.mem_cons_of_mem _ (List.mem_cons_of_mem _ (List.mem_cons_of_mem _ (List.mem_cons_of_mem _ (List.mem_cons_of_mem _ (List.mem_cons_of_mem _ List.mem_cons_self)))))))); have h : 0 ≤ 0 + ((-1) * ρ 3 + (1 * ρ 5 + 0)) := h; omega) (by have h := hF _ (List.mem_cons_of_mem _ (List.mem_cons_of_mem _ (List.mem_cons_of_mem _ (List.mem_cons_of_mem _ (List.mem_cons_of_mem _ (List.mem_cons_of_mem _ (List.mem_cons_of_mem _ (List.mem_cons_of_mem _ (List.mem_cons_of_mem _ List.mem_cons_self))))))))); have h : 0 ≤ 0 + ((-1) * ρ 6 + (1 * ρ 8 + 0)) := h; omega) (by have h := hF _ (List.mem_cons_of_mem _ (List.mem_cons_of_mem _ (List.mem_cons_of_mem _ (List.mem_cons_of_mem _ (List.mem_cons_of_mem _ (List.mem_cons_of_mem _ (List.mem_cons_of_mem _ (List.mem_cons_of_mem _ (List.mem_cons_of_mem _ (List.mem_cons_of_mem _ List.mem_cons_self)))))))))); have h : 0 ≤ 0 + ((-1) * ρ 3 + (1 * ρ 5 + (1 * ρ 6 + ((-1) * ρ 8 + 0)))) := h; omega) (by have h := hF _ (List.mem_cons_of_mem _ (List.mem_cons_of_mem _ (List.mem_cons_of_mem _ (List.mem_cons_of_mem _ (List.mem_cons_of_mem _ (List.mem_cons_of_mem _ (List.mem_cons_of_mem _ (List.mem_cons_of_mem _ (List.mem_cons_of_mem _ (List.mem_cons_of_mem _ (List.mem_cons_of_mem _ List.mem_cons_self))))))))))); have h : 0 ≤ 0 + ((-1) * ρ 3 + (1 * ρ 5 + ((-1) * ρ 10 + 0))) := h; omega) (by have h := hF _ (List.mem_cons_of_mem _ (List.mem_cons_of_mem _ (List.mem_cons_of_mem _ (List.mem_cons_of_mem _ (List.mem_cons_of_mem _ (List.mem_cons_of_mem _ (List.mem_cons_of_mem _ (List.mem_cons_of_mem _ (List.mem_cons_of_mem _ (List.mem_cons_of_mem _ (List.mem_cons_of_mem _ (List.mem_cons_of_mem _ List.mem_cons_self)))))))))))); have h : 0 ≤ 0 + (1 * ρ 3 + ((-1) * ρ 5 + (1 * ρ 10 + 0))) := h; omega) hG
  obtain ⟨k0, -⟩ := H
  exact ⟨_, List.mem_cons_self, ρ, fun _ _ => rfl, (okM_c (pvp 223 (by show 0 + (64 * ρ 0 + (1 * ρ 1 + 0)) = _; omega) (by show 0 + (1 * ρ 10 + 0) = _; omega) k0) okM_n), okB_n, okF_n⟩
-- apc111
theorem cr_761 (M : pM) (s0 s1 s2 s3 s4 s5 s6 s7 s8 s9 s10 : Int) (b0 : 0 ≤ s0 ∧ s0 ≤ 63) (b1 : 0 ≤ s1 ∧ s1 ≤ 63) (b2 : 0 ≤ s2 ∧ s2 ≤ 7) (b3 : 0 ≤ s3 ∧ s3 ≤ 7) (b4 : 0 ≤ s4 ∧ s4 ≤ 7) (b5 : 0 ≤ s5 ∧ s5 ≤ 7) (b6 : 0 ≤ s6 ∧ s6 ≤ 7) (b7 : 0 ≤ s7 ∧ s7 ≤ 7) (b8 : 0 ≤ s8 ∧ s8 ≤ 7) (b9 : 0 ≤ s9 ∧ s9 ≤ 7) (b10 : 0 ≤ s10 ∧ s10 ≤ 7) (f0 : 0 ≤ ((-1) * s0 + 8 * s2 + s3)) (f1 : 0 ≤ (s0 + (-8) * s2 + (-1) * s3)) (f2 : 0 ≤ ((-1) * s1 + 8 * s4 + s5)) (f3 : 0 ≤ (s1 + (-8) * s4 + (-1) * s5)) (f4 : 0 ≤ ((-1) * s0 + 8 * s6 + s7)) (f5 : 0 ≤ (s0 + (-8) * s6 + (-1) * s7)) (f6 : 0 ≤ ((-1) * s1 + 8 * s8 + s9)) (f7 : 0 ≤ (s1 + (-8) * s8 + (-1) * s9)) (f8 : 0 ≤ ((-1) * s3 + s5)) (f9 : 0 ≤ ((-1) * s6 + s8)) (f10 : 0 ≤ (s3 + (-1) * s5 + (-1) * s6 + s8)) (f11 : 0 ≤ ((-1) * s6 + s8 + (-1) * s10)) (f12 : 0 ≤ (s6 + (-1) * s8 + s10)) (hG : gI M) : (HP 223 (64 * s0 + s1) (s10) M ∧ True) := by
  have e1 : s0.toNat % 8 = s3.toNat := by omega
  have e2 : s1.toNat % 8 = s5.toNat := by omega
  have e3 : s0.toNat / 8 = s6.toNat := by omega
  have e4 : s1.toNat / 8 = s8.toNat := by omega
  have e : s10 = (apF s0.toNat s1.toNat : Int) := by
    unfold apF apN
    rw [e1, e2, e3, e4]
    (repeat' split) <;> omega
  exact ⟨Eq.mpr hp_223 ⟨s0.toNat, s1.toNat, by omega, by omega, by omega, e⟩, trivial⟩
theorem rul_761 : Rul r_761 := by
  refine ⟨fun _ ρ M hm hB hF hG => ?_, fun gi gv hg => (by cases hg)⟩
  have H := cr_761 M (ρ 0) (ρ 1) (ρ 2) (ρ 3) (ρ 4) (ρ 5) (ρ 6) (ρ 7) (ρ 8) (ρ 9) (ρ 10) (hB _ List.mem_cons_self) (hB _ (List.mem_cons_of_mem _ List.mem_cons_self)) (hB _ (List.mem_cons_of_mem _ (List.mem_cons_of_mem _ List.mem_cons_self))) (hB _ (List.mem_cons_of_mem _ (List.mem_cons_of_mem _ (List.mem_cons_of_mem _ List.mem_cons_self)))) (hB _ (List.mem_cons_of_mem _ (List.mem_cons_of_mem _ (List.mem_cons_of_mem _ (List.mem_cons_of_mem _ List.mem_cons_self))))) (hB _ (List.mem_cons_of_mem _ (List.mem_cons_of_mem _ (List.mem_cons_of_mem _ (List.mem_cons_of_mem _ (List.mem_cons_of_mem _ List.mem_cons_self)))))) (hB _ (List.mem_cons_of_mem _ (List.mem_cons_of_mem _ (List.mem_cons_of_mem _ (List.mem_cons_of_mem _ (List.mem_cons_of_mem _ (List.mem_cons_of_mem _ List.mem_cons_self))))))) (hB _ (List.mem_cons_of_mem _ (List.mem_cons_of_mem _ (List.mem_cons_of_mem _ (List.mem_cons_of_mem _ (List.mem_cons_of_mem _ (List.mem_cons_of_mem _ (List.mem_cons_of_mem _ List.mem_cons_self)))))))) (hB _ (List.mem_cons_of_mem _ (List.mem_cons_of_mem _ (List.mem_cons_of_mem _ (List.mem_cons_of_mem _ (List.mem_cons_of_mem _ (List.mem_cons_of_mem _ (List.mem_cons_of_mem _ (List.mem_cons_of_mem _ List.mem_cons_self))))))))) (hB _ (List.mem_cons_of_mem _ (List.mem_cons_of_mem _ (List.mem_cons_of_mem _ (List.mem_cons_of_mem _ (List.mem_cons_of_mem _ (List.mem_cons_of_mem _ (List.mem_cons_of_mem _ (List.mem_cons_of_mem _ (List.mem_cons_of_mem _ List.mem_cons_self)))))))))) (hB _ (List.mem_cons_of_mem _ (List.mem_cons_of_mem _ (List.mem_cons_of_mem _ (List.mem_cons_of_mem _ (List.mem_cons_of_mem _ (List.mem_cons_of_mem _ (List.mem_cons_of_mem _ (List.mem_cons_of_mem _ (List.mem_cons_of_mem _ (List.mem_cons_of_mem _ List.mem_cons_self))))))))))) (by have h := hF _ List.mem_cons_self; have h : 0 ≤ 0 + ((-1) * ρ 0 + (8 * ρ 2 + (1 * ρ 3 + 0))) := h; omega) (by have h := hF _ (List.mem_cons_of_mem _ List.mem_cons_self); have h : 0 ≤ 0 + (1 * ρ 0 + ((-8) * ρ 2 + ((-1) * ρ 3 + 0))) := h; omega) (by have h := hF _ (List.mem_cons_of_mem _ (List.mem_cons_of_mem _ List.mem_cons_self)); have h : 0 ≤ 0 + ((-1) * ρ 1 + (8 * ρ 4 + (1 * ρ 5 + 0))) := h; omega) (by have h := hF _ (List.mem_cons_of_mem _ (List.mem_cons_of_mem _ (List.mem_cons_of_mem _ List.mem_cons_self))); have h : 0 ≤ 0 + (1 * ρ 1 + ((-8) * ρ 4 + ((-1) * ρ 5 + 0))) := h; omega) (by have h := hF _ (List.mem_cons_of_mem _ (List.mem_cons_of_mem _ (List.mem_cons_of_mem _ (List.mem_cons_of_mem _ List.mem_cons_self)))); have h : 0 ≤ 0 + ((-1) * ρ 0 + (8 * ρ 6 + (1 * ρ 7 + 0))) := h; omega) (by have h := hF _ (List.mem_cons_of_mem _ (List.mem_cons_of_mem _ (List.mem_cons_of_mem _ (List.mem_cons_of_mem _ (List.mem_cons_of_mem _ List.mem_cons_self))))); have h : 0 ≤ 0 + (1 * ρ 0 + ((-8) * ρ 6 + ((-1) * ρ 7 + 0))) := h; omega) (by have h := hF _ (List.mem_cons_of_mem _ (List.mem_cons_of_mem _ (List.mem_cons_of_mem _ (List.mem_cons_of_mem _ (List.mem_cons_of_mem _ (List.mem_cons_of_mem _ List.mem_cons_self)))))); have h : 0 ≤ 0 + ((-1) * ρ 1 + (8 * ρ 8 + (1 * ρ 9 + 0))) := h; omega) (by have h := hF _ (List.mem_cons_of_mem _ (List.mem_cons_of_mem _ (List.mem_cons_of_mem _ (List.mem_cons_of_mem _ (List.mem_cons_of_mem _ (List.mem_cons_of_mem _ (List.mem_cons_of_mem _ List.mem_cons_self))))))); have h : 0 ≤ 0 + (1 * ρ 1 + ((-8) * ρ 8 + ((-1) * ρ 9 + 0))) := h; omega) (by have h := hF _ (List.mem_cons_of_mem _ (List.mem_cons_of_mem _ (List.mem_cons_of_mem _ (List.mem_cons_of_mem _ (List.mem_cons_of_mem _ (List.mem_cons_of_mem _ (List.mem_cons_of_mem _ (List.mem_cons_of_mem _ List.mem_cons_self)))))))); have h : 0 ≤ 0 + ((-1) * ρ 3 + (1 * ρ 5 + 0)) := h; omega) (by have h := hF _ (List.mem_cons_of_mem _ (List.mem_cons_of_mem _ (List.mem_cons_of_mem _ (List.mem_cons_of_mem _ (List.mem_cons_of_mem _ (List.mem_cons_of_mem _ (List.mem_cons_of_mem _ (List.mem_cons_of_mem _ (List.mem_cons_of_mem _ List.mem_cons_self))))))))); have h : 0 ≤ 0 + ((-1) * ρ 6 + (1 * ρ 8 + 0)) := h; omega) (by have h := hF _ (List.mem_cons_of_mem _ (List.mem_cons_of_mem _ (List.mem_cons_of_mem _ (List.mem_cons_of_mem _ (List.mem_cons_of_mem _ (List.mem_cons_of_mem _ (List.mem_cons_of_mem _ (List.mem_cons_of_mem _ (List.mem_cons_of_mem _ (List.mem_cons_of_mem _ List.mem_cons_self)))))))))); have h : 0 ≤ 0 + (1 * ρ 3 + ((-1) * ρ 5 + ((-1) * ρ 6 + (1 * ρ 8 + 0)))) := h; omega) (by have h := hF _ (List.mem_cons_of_mem _ (List.mem_cons_of_mem _ (List.mem_cons_of_mem _ (List.mem_cons_of_mem _ (List.mem_cons_of_mem _ (List.mem_cons_of_mem _ (List.mem_cons_of_mem _ (List.mem_cons_of_mem _ (List.mem_cons_of_mem _ (List.mem_cons_of_mem _ (List.mem_cons_of_mem _ List.mem_cons_self))))))))))); have h : 0 ≤ 0 + ((-1) * ρ 6 + (1 * ρ 8 + ((-1) * ρ 10 + 0))) := h; omega) (by have h := hF _ (List.mem_cons_of_mem _ (List.mem_cons_of_mem _ (List.mem_cons_of_mem _ (List.mem_cons_of_mem _ (List.mem_cons_of_mem _ (List.mem_cons_of_mem _ (List.mem_cons_of_mem _ (List.mem_cons_of_mem _ (List.mem_cons_of_mem _ (List.mem_cons_of_mem _ (List.mem_cons_of_mem _ (List.mem_cons_of_mem _ List.mem_cons_self)))))))))))); have h : 0 ≤ 0 + (1 * ρ 6 + ((-1) * ρ 8 + (1 * ρ 10 + 0))) := h; omega) hG
  obtain ⟨k0, -⟩ := H
  exact ⟨_, List.mem_cons_self, ρ, fun _ _ => rfl, (okM_c (pvp 223 (by show 0 + (64 * ρ 0 + (1 * ρ 1 + 0)) = _; omega) (by show 0 + (1 * ρ 10 + 0) = _; omega) k0) okM_n), okB_n, okF_n⟩
-- co1
theorem cr_762 (M : pM) (s0 s1 s2 s3 s4 : Int) (b0 : (-2147483648) ≤ s0 ∧ s0 ≤ 2147483647) (b1 : (-2147483648) ≤ s1 ∧ s1 ≤ 2147483647) (b2 : (-2147483648) ≤ s2 ∧ s2 ≤ 2147483647) (b3 : (-2147483648) ≤ s3 ∧ s3 ≤ 2147483647) (b4 : (-2147483648) ≤ s4 ∧ s4 ≤ 2147483647) (m0 : (0 ≤ (1 : Int) ∧ M 26 (1 : Int).toNat = (s0))) (m1 : (0 ≤ (40 : Int) ∧ M 61 (40 : Int).toNat = (s1))) (m2 : (0 ≤ (41 : Int) ∧ M 61 (41 : Int).toNat = (s2))) (m3 : (0 ≤ (0 : Int) ∧ M 27 (0 : Int).toNat = (s3))) (m4 : (0 ≤ (0 : Int) ∧ M 87 (0 : Int).toNat = (s4))) (f0 : 0 ≤ ((-1) * s0 + 1)) (f1 : 0 ≤ (s0 - 1)) (f2 : 0 ≤ ((-1) * s1)) (f3 : 0 ≤ (s1)) (f4 : 0 ≤ ((-1) * s2 + 1)) (f5 : 0 ≤ (s2 - 1)) (f6 : 0 ≤ ((-1) * s3 + s4)) (f7 : 0 ≤ (s3 + (-1) * s4)) (hG : gI M) : (HP 222 (0 : Int) (0 : Int) M ∧ True) := by
  have e0 : M 26 1 = s0 := m0.2
  have e1 : M 61 40 = s1 := m1.2
  have e2 : M 61 41 = s2 := m2.2
  have p0 : M 27 0 = s3 := m3.2
  have r0 : M 87 0 = s4 := m4.2
  refine ⟨Eq.mpr hp_222 (Or.inr ⟨by omega, by omega, by omega, by omega, fun i hi => ?_⟩), trivial⟩
  have h : i = 0 := by omega
  subst h
  omega
theorem rul_762 : Rul r_762 := by
  refine ⟨fun _ ρ M hm hB hF hG => ?_, fun gi gv hg => (by cases hg)⟩
  have H := cr_762 M (ρ 0) (ρ 1) (ρ 2) (ρ 3) (ρ 4) (hB _ List.mem_cons_self) (hB _ (List.mem_cons_of_mem _ List.mem_cons_self)) (hB _ (List.mem_cons_of_mem _ (List.mem_cons_of_mem _ List.mem_cons_self))) (hB _ (List.mem_cons_of_mem _ (List.mem_cons_of_mem _ (List.mem_cons_of_mem _ List.mem_cons_self)))) (hB _ (List.mem_cons_of_mem _ (List.mem_cons_of_mem _ (List.mem_cons_of_mem _ (List.mem_cons_of_mem _ List.mem_cons_self))))) (cvm (c := 26) (by decide) (x' := (1 : Int)) (y' := ((ρ 0))) (by show 1 + 0 = _; omega) (by show 0 + (1 * ρ 0 + 0) = _; omega) (hm _ List.mem_cons_self)) (cvm (c := 61) (by decide) (x' := (40 : Int)) (y' := ((ρ 1))) (by show 40 + 0 = _; omega) (by show 0 + (1 * ρ 1 + 0) = _; omega) (hm _ (List.mem_cons_of_mem _ List.mem_cons_self))) (cvm (c := 61) (by decide) (x' := (41 : Int)) (y' := ((ρ 2))) (by show 41 + 0 = _; omega) (by show 0 + (1 * ρ 2 + 0) = _; omega) (hm _ (List.mem_cons_of_mem _ (List.mem_cons_of_mem _ List.mem_cons_self)))) (cvm (c := 27) (by decide) (x' := (0 : Int)) (y' := ((ρ 3))) (by show 0 + 0 = _; omega) (by show 0 + (1 * ρ 3 + 0) = _; omega) (hm _ (List.mem_cons_of_mem _ (List.mem_cons_of_mem _ (List.mem_cons_of_mem _ List.mem_cons_self))))) (cvm (c := 87) (by decide) (x' := (0 : Int)) (y' := ((ρ 4))) (by show 0 + 0 = _; omega) (by show 0 + (1 * ρ 4 + 0) = _; omega) (hm _ (List.mem_cons_of_mem _ (List.mem_cons_of_mem _ (List.mem_cons_of_mem _ (List.mem_cons_of_mem _ List.mem_cons_self)))))) (by have h := hF _ List.mem_cons_self; have h : 0 ≤ 1 + ((-1) * ρ 0 + 0) := h; omega) (by have h := hF _ (List.mem_cons_of_mem _ List.mem_cons_self); have h : 0 ≤ (-1) + (1 * ρ 0 + 0) := h; omega) (by have h := hF _ (List.mem_cons_of_mem _ (List.mem_cons_of_mem _ List.mem_cons_self)); have h : 0 ≤ 0 + ((-1) * ρ 1 + 0) := h; omega) (by have h := hF _ (List.mem_cons_of_mem _ (List.mem_cons_of_mem _ (List.mem_cons_of_mem _ List.mem_cons_self))); have h : 0 ≤ 0 + (1 * ρ 1 + 0) := h; omega) (by have h := hF _ (List.mem_cons_of_mem _ (List.mem_cons_of_mem _ (List.mem_cons_of_mem _ (List.mem_cons_of_mem _ List.mem_cons_self)))); have h : 0 ≤ 1 + ((-1) * ρ 2 + 0) := h; omega) (by have h := hF _ (List.mem_cons_of_mem _ (List.mem_cons_of_mem _ (List.mem_cons_of_mem _ (List.mem_cons_of_mem _ (List.mem_cons_of_mem _ List.mem_cons_self))))); have h : 0 ≤ (-1) + (1 * ρ 2 + 0) := h; omega) (by have h := hF _ (List.mem_cons_of_mem _ (List.mem_cons_of_mem _ (List.mem_cons_of_mem _ (List.mem_cons_of_mem _ (List.mem_cons_of_mem _ (List.mem_cons_of_mem _ List.mem_cons_self)))))); have h : 0 ≤ 0 + ((-1) * ρ 3 + (1 * ρ 4 + 0)) := h; omega) (by have h := hF _ (List.mem_cons_of_mem _ (List.mem_cons_of_mem _ (List.mem_cons_of_mem _ (List.mem_cons_of_mem _ (List.mem_cons_of_mem _ (List.mem_cons_of_mem _ (List.mem_cons_of_mem _ List.mem_cons_self))))))); have h : 0 ≤ 0 + (1 * ρ 3 + ((-1) * ρ 4 + 0)) := h; omega) hG
  obtain ⟨k0, -⟩ := H
  exact ⟨_, List.mem_cons_self, ρ, fun _ _ => rfl, (okM_c (pvp 222 (by show 0 + 0 = _; omega) (by show 0 + 0 = _; omega) k0) okM_n), okB_n, okF_n⟩
-- co2
theorem cr_763 (M : pM) (s0 s1 s2 s3 s4 s5 s6 : Int) (b0 : (-2147483648) ≤ s0 ∧ s0 ≤ 2147483647) (b1 : (-2147483648) ≤ s1 ∧ s1 ≤ 2147483647) (b2 : (-2147483648) ≤ s2 ∧ s2 ≤ 2147483647) (b3 : (-2147483648) ≤ s3 ∧ s3 ≤ 2147483647) (b4 : (-2147483648) ≤ s4 ∧ s4 ≤ 2147483647) (b5 : (-2147483648) ≤ s5 ∧ s5 ≤ 2147483647) (b6 : (-2147483648) ≤ s6 ∧ s6 ≤ 2147483647) (m0 : (0 ≤ (1 : Int) ∧ M 26 (1 : Int).toNat = (s0))) (m1 : (0 ≤ (40 : Int) ∧ M 61 (40 : Int).toNat = (s1))) (m2 : (0 ≤ (41 : Int) ∧ M 61 (41 : Int).toNat = (s2))) (m3 : (0 ≤ (0 : Int) ∧ M 27 (0 : Int).toNat = (s3))) (m4 : (0 ≤ (1 : Int) ∧ M 27 (1 : Int).toNat = (s4))) (m5 : (0 ≤ (0 : Int) ∧ M 87 (0 : Int).toNat = (s5))) (m6 : (0 ≤ (1 : Int) ∧ M 87 (1 : Int).toNat = (s6))) (f0 : 0 ≤ ((-1) * s0 + 2)) (f1 : 0 ≤ (s0 - 2)) (f2 : 0 ≤ ((-1) * s1 + 1)) (f3 : 0 ≤ (s1 - 1)) (f4 : 0 ≤ ((-1) * s2 + 1)) (f5 : 0 ≤ (s2 - 1)) (f6 : 0 ≤ ((-1) * s3 + s5)) (f7 : 0 ≤ (s3 + (-1) * s5)) (f8 : 0 ≤ ((-1) * s4 + s6)) (f9 : 0 ≤ (s4 + (-1) * s6)) (hG : gI M) : (HP 222 (0 : Int) (0 : Int) M ∧ True) := by
  have e0 : M 26 1 = s0 := m0.2
  have e1 : M 61 40 = s1 := m1.2
  have e2 : M 61 41 = s2 := m2.2
  have p0 : M 27 0 = s3 := m3.2
  have r0 : M 87 0 = s5 := m5.2
  have p1 : M 27 1 = s4 := m4.2
  have r1 : M 87 1 = s6 := m6.2
  refine ⟨Eq.mpr hp_222 (Or.inr ⟨by omega, by omega, by omega, by omega, fun i hi => ?_⟩), trivial⟩
  rcases (show i = 0 ∨ i = 1 by omega) with h | h
  · subst h; omega
  · subst h; omega
theorem rul_763 : Rul r_763 := by
  refine ⟨fun _ ρ M hm hB hF hG => ?_, fun gi gv hg => (by cases hg)⟩
  have H := cr_763 M (ρ 0) (ρ 1) (ρ 2) (ρ 3) (ρ 4) (ρ 5) (ρ 6) (hB _ List.mem_cons_self) (hB _ (List.mem_cons_of_mem _ List.mem_cons_self)) (hB _ (List.mem_cons_of_mem _ (List.mem_cons_of_mem _ List.mem_cons_self))) (hB _ (List.mem_cons_of_mem _ (List.mem_cons_of_mem _ (List.mem_cons_of_mem _ List.mem_cons_self)))) (hB _ (List.mem_cons_of_mem _ (List.mem_cons_of_mem _ (List.mem_cons_of_mem _ (List.mem_cons_of_mem _ List.mem_cons_self))))) (hB _ (List.mem_cons_of_mem _ (List.mem_cons_of_mem _ (List.mem_cons_of_mem _ (List.mem_cons_of_mem _ (List.mem_cons_of_mem _ List.mem_cons_self)))))) (hB _ (List.mem_cons_of_mem _ (List.mem_cons_of_mem _ (List.mem_cons_of_mem _ (List.mem_cons_of_mem _ (List.mem_cons_of_mem _ (List.mem_cons_of_mem _ List.mem_cons_self))))))) (cvm (c := 26) (by decide) (x' := (1 : Int)) (y' := ((ρ 0))) (by show 1 + 0 = _; omega) (by show 0 + (1 * ρ 0 + 0) = _; omega) (hm _ List.mem_cons_self)) (cvm (c := 61) (by decide) (x' := (40 : Int)) (y' := ((ρ 1))) (by show 40 + 0 = _; omega) (by show 0 + (1 * ρ 1 + 0) = _; omega) (hm _ (List.mem_cons_of_mem _ List.mem_cons_self))) (cvm (c := 61) (by decide) (x' := (41 : Int)) (y' := ((ρ 2))) (by show 41 + 0 = _; omega) (by show 0 + (1 * ρ 2 + 0) = _; omega) (hm _ (List.mem_cons_of_mem _ (List.mem_cons_of_mem _ List.mem_cons_self)))) (cvm (c := 27) (by decide) (x' := (0 : Int)) (y' := ((ρ 3))) (by show 0 + 0 = _; omega) (by show 0 + (1 * ρ 3 + 0) = _; omega) (hm _ (List.mem_cons_of_mem _ (List.mem_cons_of_mem _ (List.mem_cons_of_mem _ List.mem_cons_self))))) (cvm (c := 27) (by decide) (x' := (1 : Int)) (y' := ((ρ 4))) (by show 1 + 0 = _; omega) (by show 0 + (1 * ρ 4 + 0) = _; omega) (hm _ (List.mem_cons_of_mem _ (List.mem_cons_of_mem _ (List.mem_cons_of_mem _ (List.mem_cons_of_mem _ List.mem_cons_self)))))) (cvm (c := 87) (by decide) (x' := (0 : Int)) (y' := ((ρ 5))) (by show 0 + 0 = _; omega) (by show 0 + (1 * ρ 5 + 0) = _; omega) (hm _ (List.mem_cons_of_mem _ (List.mem_cons_of_mem _ (List.mem_cons_of_mem _ (List.mem_cons_of_mem _ (List.mem_cons_of_mem _ List.mem_cons_self))))))) (cvm (c := 87) (by decide) (x' := (1 : Int)) (y' := ((ρ 6))) (by show 1 + 0 = _; omega) (by show 0 + (1 * ρ 6 + 0) = _; omega) (hm _ (List.mem_cons_of_mem _ (List.mem_cons_of_mem _ (List.mem_cons_of_mem _ (List.mem_cons_of_mem _ (List.mem_cons_of_mem _ (List.mem_cons_of_mem _ List.mem_cons_self)))))))) (by have h := hF _ List.mem_cons_self; have h : 0 ≤ 2 + ((-1) * ρ 0 + 0) := h; omega) (by have h := hF _ (List.mem_cons_of_mem _ List.mem_cons_self); have h : 0 ≤ (-2) + (1 * ρ 0 + 0) := h; omega) (by have h := hF _ (List.mem_cons_of_mem _ (List.mem_cons_of_mem _ List.mem_cons_self)); have h : 0 ≤ 1 + ((-1) * ρ 1 + 0) := h; omega) (by have h := hF _ (List.mem_cons_of_mem _ (List.mem_cons_of_mem _ (List.mem_cons_of_mem _ List.mem_cons_self))); have h : 0 ≤ (-1) + (1 * ρ 1 + 0) := h; omega) (by have h := hF _ (List.mem_cons_of_mem _ (List.mem_cons_of_mem _ (List.mem_cons_of_mem _ (List.mem_cons_of_mem _ List.mem_cons_self)))); have h : 0 ≤ 1 + ((-1) * ρ 2 + 0) := h; omega) (by have h := hF _ (List.mem_cons_of_mem _ (List.mem_cons_of_mem _ (List.mem_cons_of_mem _ (List.mem_cons_of_mem _ (List.mem_cons_of_mem _ List.mem_cons_self))))); have h : 0 ≤ (-1) + (1 * ρ 2 + 0) := h; omega) (by have h := hF _ (List.mem_cons_of_mem _ (List.mem_cons_of_mem _ (List.mem_cons_of_mem _ (List.mem_cons_of_mem _ (List.mem_cons_of_mem _ (List.mem_cons_of_mem _ List.mem_cons_self)))))); have h : 0 ≤ 0 + ((-1) * ρ 3 + (1 * ρ 5 + 0)) := h; omega) (by have h := hF _ (List.mem_cons_of_mem _ (List.mem_cons_of_mem _ (List.mem_cons_of_mem _ (List.mem_cons_of_mem _ (List.mem_cons_of_mem _ (List.mem_cons_of_mem _ (List.mem_cons_of_mem _ List.mem_cons_self))))))); have h : 0 ≤ 0 + (1 * ρ 3 + ((-1) * ρ 5 + 0)) := h; omega) (by have h := hF _ (List.mem_cons_of_mem _ (List.mem_cons_of_mem _ (List.mem_cons_of_mem _ (List.mem_cons_of_mem _ (List.mem_cons_of_mem _ (List.mem_cons_of_mem _ (List.mem_cons_of_mem _ (List.mem_cons_of_mem _ List.mem_cons_self)))))))); have h : 0 ≤ 0 + ((-1) * ρ 4 + (1 * ρ 6 + 0)) := h; omega) (by have h := hF _ (List.mem_cons_of_mem _ (List.mem_cons_of_mem _ (List.mem_cons_of_mem _ (List.mem_cons_of_mem _ (List.mem_cons_of_mem _ (List.mem_cons_of_mem _ (List.mem_cons_of_mem _ (List.mem_cons_of_mem _ (List.mem_cons_of_mem _ List.mem_cons_self))))))))); have h : 0 ≤ 0 + (1 * ρ 4 + ((-1) * ρ 6 + 0)) := h; omega) hG
  obtain ⟨k0, -⟩ := H
  exact ⟨_, List.mem_cons_self, ρ, fun _ _ => rfl, (okM_c (pvp 222 (by show 0 + 0 = _; omega) (by show 0 + 0 = _; omega) k0) okM_n), okB_n, okF_n⟩
-- co3
theorem cr_764 (M : pM) (s0 s1 s2 s3 s4 s5 s6 s7 s8 : Int) (b0 : (-2147483648) ≤ s0 ∧ s0 ≤ 2147483647) (b1 : (-2147483648) ≤ s1 ∧ s1 ≤ 2147483647) (b2 : (-2147483648) ≤ s2 ∧ s2 ≤ 2147483647) (b3 : (-2147483648) ≤ s3 ∧ s3 ≤ 2147483647) (b4 : (-2147483648) ≤ s4 ∧ s4 ≤ 2147483647) (b5 : (-2147483648) ≤ s5 ∧ s5 ≤ 2147483647) (b6 : (-2147483648) ≤ s6 ∧ s6 ≤ 2147483647) (b7 : (-2147483648) ≤ s7 ∧ s7 ≤ 2147483647) (b8 : (-2147483648) ≤ s8 ∧ s8 ≤ 2147483647) (m0 : (0 ≤ (1 : Int) ∧ M 26 (1 : Int).toNat = (s0))) (m1 : (0 ≤ (40 : Int) ∧ M 61 (40 : Int).toNat = (s1))) (m2 : (0 ≤ (41 : Int) ∧ M 61 (41 : Int).toNat = (s2))) (m3 : (0 ≤ (0 : Int) ∧ M 27 (0 : Int).toNat = (s3))) (m4 : (0 ≤ (1 : Int) ∧ M 27 (1 : Int).toNat = (s4))) (m5 : (0 ≤ (2 : Int) ∧ M 27 (2 : Int).toNat = (s5))) (m6 : (0 ≤ (0 : Int) ∧ M 87 (0 : Int).toNat = (s6))) (m7 : (0 ≤ (1 : Int) ∧ M 87 (1 : Int).toNat = (s7))) (m8 : (0 ≤ (2 : Int) ∧ M 87 (2 : Int).toNat = (s8))) (f0 : 0 ≤ ((-1) * s0 + 3)) (f1 : 0 ≤ (s0 - 3)) (f2 : 0 ≤ ((-1) * s1 + 2)) (f3 : 0 ≤ (s1 - 2)) (f4 : 0 ≤ ((-1) * s2 + 1)) (f5 : 0 ≤ (s2 - 1)) (f6 : 0 ≤ ((-1) * s3 + s6)) (f7 : 0 ≤ (s3 + (-1) * s6)) (f8 : 0 ≤ ((-1) * s4 + s7)) (f9 : 0 ≤ (s4 + (-1) * s7)) (f10 : 0 ≤ ((-1) * s5 + s8)) (f11 : 0 ≤ (s5 + (-1) * s8)) (hG : gI M) : (HP 222 (0 : Int) (0 : Int) M ∧ True) := by
  have e0 : M 26 1 = s0 := m0.2
  have e1 : M 61 40 = s1 := m1.2
  have e2 : M 61 41 = s2 := m2.2
  have p0 : M 27 0 = s3 := m3.2
  have r0 : M 87 0 = s6 := m6.2
  have p1 : M 27 1 = s4 := m4.2
  have r1 : M 87 1 = s7 := m7.2
  have p2 : M 27 2 = s5 := m5.2
  have r2 : M 87 2 = s8 := m8.2
  refine ⟨Eq.mpr hp_222 (Or.inr ⟨by omega, by omega, by omega, by omega, fun i hi => ?_⟩), trivial⟩
  rcases (show i = 0 ∨ i = 1 ∨ i = 2 by omega) with h | h | h
  · subst h; omega
  · subst h; omega
  · subst h; omega
theorem rul_764 : Rul r_764 := by
  refine ⟨fun _ ρ M hm hB hF hG => ?_, fun gi gv hg => (by cases hg)⟩
  have H := cr_764 M (ρ 0) (ρ 1) (ρ 2) (ρ 3) (ρ 4) (ρ 5) (ρ 6) (ρ 7) (ρ 8) (hB _ List.mem_cons_self) (hB _ (List.mem_cons_of_mem _ List.mem_cons_self)) (hB _ (List.mem_cons_of_mem _ (List.mem_cons_of_mem _ List.mem_cons_self))) (hB _ (List.mem_cons_of_mem _ (List.mem_cons_of_mem _ (List.mem_cons_of_mem _ List.mem_cons_self)))) (hB _ (List.mem_cons_of_mem _ (List.mem_cons_of_mem _ (List.mem_cons_of_mem _ (List.mem_cons_of_mem _ List.mem_cons_self))))) (hB _ (List.mem_cons_of_mem _ (List.mem_cons_of_mem _ (List.mem_cons_of_mem _ (List.mem_cons_of_mem _ (List.mem_cons_of_mem _ List.mem_cons_self)))))) (hB _ (List.mem_cons_of_mem _ (List.mem_cons_of_mem _ (List.mem_cons_of_mem _ (List.mem_cons_of_mem _ (List.mem_cons_of_mem _ (List.mem_cons_of_mem _ List.mem_cons_self))))))) (hB _ (List.mem_cons_of_mem _ (List.mem_cons_of_mem _ (List.mem_cons_of_mem _ (List.mem_cons_of_mem _ (List.mem_cons_of_mem _ (List.mem_cons_of_mem _ (List.mem_cons_of_mem _ List.mem_cons_self)))))))) (hB _ (List.mem_cons_of_mem _ (List.mem_cons_of_mem _ (List.mem_cons_of_mem _ (List.mem_cons_of_mem _ (List.mem_cons_of_mem _ (List.mem_cons_of_mem _ (List.mem_cons_of_mem _ (List.mem_cons_of_mem _ List.mem_cons_self))))))))) (cvm (c := 26) (by decide) (x' := (1 : Int)) (y' := ((ρ 0))) (by show 1 + 0 = _; omega) (by show 0 + (1 * ρ 0 + 0) = _; omega) (hm _ List.mem_cons_self)) (cvm (c := 61) (by decide) (x' := (40 : Int)) (y' := ((ρ 1))) (by show 40 + 0 = _; omega) (by show 0 + (1 * ρ 1 + 0) = _; omega) (hm _ (List.mem_cons_of_mem _ List.mem_cons_self))) (cvm (c := 61) (by decide) (x' := (41 : Int)) (y' := ((ρ 2))) (by show 41 + 0 = _; omega) (by show 0 + (1 * ρ 2 + 0) = _; omega) (hm _ (List.mem_cons_of_mem _ (List.mem_cons_of_mem _ List.mem_cons_self)))) (cvm (c := 27) (by decide) (x' := (0 : Int)) (y' := ((ρ 3))) (by show 0 + 0 = _; omega) (by show 0 + (1 * ρ 3 + 0) = _; omega) (hm _ (List.mem_cons_of_mem _ (List.mem_cons_of_mem _ (List.mem_cons_of_mem _ List.mem_cons_self))))) (cvm (c := 27) (by decide) (x' := (1 : Int)) (y' := ((ρ 4))) (by show 1 + 0 = _; omega) (by show 0 + (1 * ρ 4 + 0) = _; omega) (hm _ (List.mem_cons_of_mem _ (List.mem_cons_of_mem _ (List.mem_cons_of_mem _ (List.mem_cons_of_mem _ List.mem_cons_self)))))) (cvm (c := 27) (by decide) (x' := (2 : Int)) (y' := ((ρ 5))) (by show 2 + 0 = _; omega) (by show 0 + (1 * ρ 5 + 0) = _; omega) (hm _ (List.mem_cons_of_mem _ (List.mem_cons_of_mem _ (List.mem_cons_of_mem _ (List.mem_cons_of_mem _ (List.mem_cons_of_mem _ List.mem_cons_self))))))) (cvm (c := 87) (by decide) (x' := (0 : Int)) (y' := ((ρ 6))) (by show 0 + 0 = _; omega) (by show 0 + (1 * ρ 6 + 0) = _; omega) (hm _ (List.mem_cons_of_mem _ (List.mem_cons_of_mem _ (List.mem_cons_of_mem _ (List.mem_cons_of_mem _ (List.mem_cons_of_mem _ (List.mem_cons_of_mem _ List.mem_cons_self)))))))) (cvm (c := 87) (by decide) (x' := (1 : Int)) (y' := ((ρ 7))) (by show 1 + 0 = _; omega) (by show 0 + (1 * ρ 7 + 0) = _; omega) (hm _ (List.mem_cons_of_mem _ (List.mem_cons_of_mem _ (List.mem_cons_of_mem _ (List.mem_cons_of_mem _ (List.mem_cons_of_mem _ (List.mem_cons_of_mem _ (List.mem_cons_of_mem _ List.mem_cons_self))))))))) (cvm (c := 87) (by decide) (x' := (2 : Int)) (y' := ((ρ 8))) (by show 2 + 0 = _; omega) (by show 0 + (1 * ρ 8 + 0) = _; omega) (hm _ (List.mem_cons_of_mem _ (List.mem_cons_of_mem _ (List.mem_cons_of_mem _ (List.mem_cons_of_mem _ (List.mem_cons_of_mem _ (List.mem_cons_of_mem _ (List.mem_cons_of_mem _ (List.mem_cons_of_mem _ List.mem_cons_self)))))))))) (by have h := hF _ List.mem_cons_self; have h : 0 ≤ 3 + ((-1) * ρ 0 + 0) := h; omega) (by have h := hF _ (List.mem_cons_of_mem _ List.mem_cons_self); have h : 0 ≤ (-3) + (1 * ρ 0 + 0) := h; omega) (by have h := hF _ (List.mem_cons_of_mem _ (List.mem_cons_of_mem _ List.mem_cons_self)); have h : 0 ≤ 2 + ((-1) * ρ 1 + 0) := h; omega) (by have h := hF _ (List.mem_cons_of_mem _ (List.mem_cons_of_mem _ (List.mem_cons_of_mem _ List.mem_cons_self))); have h : 0 ≤ (-2) + (1 * ρ 1 + 0) := h; omega) (by have h := hF _ (List.mem_cons_of_mem _ (List.mem_cons_of_mem _ (List.mem_cons_of_mem _ (List.mem_cons_of_mem _ List.mem_cons_self)))); have h : 0 ≤ 1 + ((-1) * ρ 2 + 0) := h; omega) (by have h := hF _ (List.mem_cons_of_mem _ (List.mem_cons_of_mem _ (List.mem_cons_of_mem _ (List.mem_cons_of_mem _ (List.mem_cons_of_mem _ List.mem_cons_self))))); have h : 0 ≤ (-1) + (1 * ρ 2 + 0) := h; omega) (by have h := hF _ (List.mem_cons_of_mem _ (List.mem_cons_of_mem _ (List.mem_cons_of_mem _ (List.mem_cons_of_mem _ (List.mem_cons_of_mem _ (List.mem_cons_of_mem _ List.mem_cons_self)))))); have h : 0 ≤ 0 + ((-1) * ρ 3 + (1 * ρ 6 + 0)) := h; omega) (by have h := hF _ (List.mem_cons_of_mem _ (List.mem_cons_of_mem _ (List.mem_cons_of_mem _ (List.mem_cons_of_mem _ (List.mem_cons_of_mem _ (List.mem_cons_of_mem _ (List.mem_cons_of_mem _ List.mem_cons_self))))))); have h : 0 ≤ 0 + (1 * ρ 3 + ((-1) * ρ 6 + 0)) := h; omega) (by have h := hF _ (List.mem_cons_of_mem _ (List.mem_cons_of_mem _ (List.mem_cons_of_mem _ (List.mem_cons_of_mem _ (List.mem_cons_of_mem _ (List.mem_cons_of_mem _ (List.mem_cons_of_mem _ (List.mem_cons_of_mem _ List.mem_cons_self)))))))); have h : 0 ≤ 0 + ((-1) * ρ 4 + (1 * ρ 7 + 0)) := h; omega) (by have h := hF _ (List.mem_cons_of_mem _ (List.mem_cons_of_mem _ (List.mem_cons_of_mem _ (List.mem_cons_of_mem _ (List.mem_cons_of_mem _ (List.mem_cons_of_mem _ (List.mem_cons_of_mem _ (List.mem_cons_of_mem _ (List.mem_cons_of_mem _ List.mem_cons_self))))))))); have h : 0 ≤ 0 + (1 * ρ 4 + ((-1) * ρ 7 + 0)) := h; omega) (by have h := hF _ (List.mem_cons_of_mem _ (List.mem_cons_of_mem _ (List.mem_cons_of_mem _ (List.mem_cons_of_mem _ (List.mem_cons_of_mem _ (List.mem_cons_of_mem _ (List.mem_cons_of_mem _ (List.mem_cons_of_mem _ (List.mem_cons_of_mem _ (List.mem_cons_of_mem _ List.mem_cons_self)))))))))); have h : 0 ≤ 0 + ((-1) * ρ 5 + (1 * ρ 8 + 0)) := h; omega) (by have h := hF _ (List.mem_cons_of_mem _ (List.mem_cons_of_mem _ (List.mem_cons_of_mem _ (List.mem_cons_of_mem _ (List.mem_cons_of_mem _ (List.mem_cons_of_mem _ (List.mem_cons_of_mem _ (List.mem_cons_of_mem _ (List.mem_cons_of_mem _ (List.mem_cons_of_mem _ (List.mem_cons_of_mem _ List.mem_cons_self))))))))))); have h : 0 ≤ 0 + (1 * ρ 5 + ((-1) * ρ 8 + 0)) := h; omega) hG
  obtain ⟨k0, -⟩ := H
  exact ⟨_, List.mem_cons_self, ρ, fun _ _ => rfl, (okM_c (pvp 222 (by show 0 + 0 = _; omega) (by show 0 + 0 = _; omega) k0) okM_n), okB_n, okF_n⟩
-- co4
theorem cr_765 (M : pM) (s0 s1 s2 s3 s4 s5 s6 s7 s8 s9 s10 : Int) (b0 : (-2147483648) ≤ s0 ∧ s0 ≤ 2147483647) (b1 : (-2147483648) ≤ s1 ∧ s1 ≤ 2147483647) (b2 : (-2147483648) ≤ s2 ∧ s2 ≤ 2147483647) (b3 : (-2147483648) ≤ s3 ∧ s3 ≤ 2147483647) (b4 : (-2147483648) ≤ s4 ∧ s4 ≤ 2147483647) (b5 : (-2147483648) ≤ s5 ∧ s5 ≤ 2147483647) (b6 : (-2147483648) ≤ s6 ∧ s6 ≤ 2147483647) (b7 : (-2147483648) ≤ s7 ∧ s7 ≤ 2147483647) (b8 : (-2147483648) ≤ s8 ∧ s8 ≤ 2147483647) (b9 : (-2147483648) ≤ s9 ∧ s9 ≤ 2147483647) (b10 : (-2147483648) ≤ s10 ∧ s10 ≤ 2147483647) (m0 : (0 ≤ (1 : Int) ∧ M 26 (1 : Int).toNat = (s0))) (m1 : (0 ≤ (40 : Int) ∧ M 61 (40 : Int).toNat = (s1))) (m2 : (0 ≤ (41 : Int) ∧ M 61 (41 : Int).toNat = (s2))) (m3 : (0 ≤ (0 : Int) ∧ M 27 (0 : Int).toNat = (s3))) (m4 : (0 ≤ (1 : Int) ∧ M 27 (1 : Int).toNat = (s4))) (m5 : (0 ≤ (2 : Int) ∧ M 27 (2 : Int).toNat = (s5))) (m6 : (0 ≤ (3 : Int) ∧ M 27 (3 : Int).toNat = (s6))) (m7 : (0 ≤ (0 : Int) ∧ M 87 (0 : Int).toNat = (s7))) (m8 : (0 ≤ (1 : Int) ∧ M 87 (1 : Int).toNat = (s8))) (m9 : (0 ≤ (2 : Int) ∧ M 87 (2 : Int).toNat = (s9))) (m10 : (0 ≤ (3 : Int) ∧ M 87 (3 : Int).toNat = (s10))) (f0 : 0 ≤ ((-1) * s0 + 4)) (f1 : 0 ≤ (s0 - 4)) (f2 : 0 ≤ ((-1) * s1 + 3)) (f3 : 0 ≤ (s1 - 3)) (f4 : 0 ≤ ((-1) * s2 + 1)) (f5 : 0 ≤ (s2 - 1)) (f6 : 0 ≤ ((-1) * s3 + s7)) (f7 : 0 ≤ (s3 + (-1) * s7)) (f8 : 0 ≤ ((-1) * s4 + s8)) (f9 : 0 ≤ (s4 + (-1) * s8)) (f10 : 0 ≤ ((-1) * s5 + s9)) (f11 : 0 ≤ (s5 + (-1) * s9)) (f12 : 0 ≤ ((-1) * s6 + s10)) (f13 : 0 ≤ (s6 + (-1) * s10)) (hG : gI M) : (HP 222 (0 : Int) (0 : Int) M ∧ True) := by
  have e0 : M 26 1 = s0 := m0.2
  have e1 : M 61 40 = s1 := m1.2
  have e2 : M 61 41 = s2 := m2.2
  have p0 : M 27 0 = s3 := m3.2
  have r0 : M 87 0 = s7 := m7.2
  have p1 : M 27 1 = s4 := m4.2
  have r1 : M 87 1 = s8 := m8.2
  have p2 : M 27 2 = s5 := m5.2
  have r2 : M 87 2 = s9 := m9.2
  have p3 : M 27 3 = s6 := m6.2
  have r3 : M 87 3 = s10 := m10.2
  refine ⟨Eq.mpr hp_222 (Or.inr ⟨by omega, by omega, by omega, by omega, fun i hi => ?_⟩), trivial⟩
  rcases (show i = 0 ∨ i = 1 ∨ i = 2 ∨ i = 3 by omega) with h | h | h | h
  · subst h; omega
  · subst h; omega
  · subst h; omega
  · subst h; omega
theorem rul_765 : Rul r_765 := by
  refine ⟨fun _ ρ M hm hB hF hG => ?_, fun gi gv hg => (by cases hg)⟩
  have H := cr_765 M (ρ 0) (ρ 1) (ρ 2) (ρ 3) (ρ 4) (ρ 5) (ρ 6) (ρ 7) (ρ 8) (ρ 9) (ρ 10) (hB _ List.mem_cons_self) (hB _ (List.mem_cons_of_mem _ List.mem_cons_self)) (hB _ (List.mem_cons_of_mem _ (List.mem_cons_of_mem _ List.mem_cons_self))) (hB _ (List.mem_cons_of_mem _ (List.mem_cons_of_mem _ (List.mem_cons_of_mem _ List.mem_cons_self)))) (hB _ (List.mem_cons_of_mem _ (List.mem_cons_of_mem _ (List.mem_cons_of_mem _ (List.mem_cons_of_mem _ List.mem_cons_self))))) (hB _ (List.mem_cons_of_mem _ (List.mem_cons_of_mem _ (List.mem_cons_of_mem _ (List.mem_cons_of_mem _ (List.mem_cons_of_mem _ List.mem_cons_self)))))) (hB _ (List.mem_cons_of_mem _ (List.mem_cons_of_mem _ (List.mem_cons_of_mem _ (List.mem_cons_of_mem _ (List.mem_cons_of_mem _ (List.mem_cons_of_mem _ List.mem_cons_self))))))) (hB _ (List.mem_cons_of_mem _ (List.mem_cons_of_mem _ (List.mem_cons_of_mem _ (List.mem_cons_of_mem _ (List.mem_cons_of_mem _ (List.mem_cons_of_mem _ (List.mem_cons_of_mem _ List.mem_cons_self)))))))) (hB _ (List.mem_cons_of_mem _ (List.mem_cons_of_mem _ (List.mem_cons_of_mem _ (List.mem_cons_of_mem _ (List.mem_cons_of_mem _ (List.mem_cons_of_mem _ (List.mem_cons_of_mem _ (List.mem_cons_of_mem _ List.mem_cons_self))))))))) (hB _ (List.mem_cons_of_mem _ (List.mem_cons_of_mem _ (List.mem_cons_of_mem _ (List.mem_cons_of_mem _ (List.mem_cons_of_mem _ (List.mem_cons_of_mem _ (List.mem_cons_of_mem _ (List.mem_cons_of_mem _ (List.mem_cons_of_mem _ List.mem_cons_self)))))))))) (hB _ (List.mem_cons_of_mem _ (List.mem_cons_of_mem _ (List.mem_cons_of_mem _ (List.mem_cons_of_mem _ (List.mem_cons_of_mem _ (List.mem_cons_of_mem _ (List.mem_cons_of_mem _ (List.mem_cons_of_mem _ (List.mem_cons_of_mem _ (List.mem_cons_of_mem _ List.mem_cons_self))))))))))) (cvm (c := 26) (by decide) (x' := (1 : Int)) (y' := ((ρ 0))) (by show 1 + 0 = _; omega) (by show 0 + (1 * ρ 0 + 0) = _; omega) (hm _ List.mem_cons_self)) (cvm (c := 61) (by decide) (x' := (40 : Int)) (y' := ((ρ 1))) (by show 40 + 0 = _; omega) (by show 0 + (1 * ρ 1 + 0) = _; omega) (hm _ (List.mem_cons_of_mem _ List.mem_cons_self))) (cvm (c := 61) (by decide) (x' := (41 : Int)) (y' := ((ρ 2))) (by show 41 + 0 = _; omega) (by show 0 + (1 * ρ 2 + 0) = _; omega) (hm _ (List.mem_cons_of_mem _ (List.mem_cons_of_mem _ List.mem_cons_self)))) (cvm (c := 27) (by decide) (x' := (0 : Int)) (y' := ((ρ 3))) (by show 0 + 0 = _; omega) (by show 0 + (1 * ρ 3 + 0) = _; omega) (hm _ (List.mem_cons_of_mem _ (List.mem_cons_of_mem _ (List.mem_cons_of_mem _ List.mem_cons_self))))) (cvm (c := 27) (by decide) (x' := (1 : Int)) (y' := ((ρ 4))) (by show 1 + 0 = _; omega) (by show 0 + (1 * ρ 4 + 0) = _; omega) (hm _ (List.mem_cons_of_mem _ (List.mem_cons_of_mem _ (List.mem_cons_of_mem _ (List.mem_cons_of_mem _ List.mem_cons_self)))))) (cvm (c := 27) (by decide) (x' := (2 : Int)) (y' := ((ρ 5))) (by show 2 + 0 = _; omega) (by show 0 + (1 * ρ 5 + 0) = _; omega) (hm _ (List.mem_cons_of_mem _ (List.mem_cons_of_mem _ (List.mem_cons_of_mem _ (List.mem_cons_of_mem _ (List.mem_cons_of_mem _ List.mem_cons_self))))))) (cvm (c := 27) (by decide) (x' := (3 : Int)) (y' := ((ρ 6))) (by show 3 + 0 = _; omega) (by show 0 + (1 * ρ 6 + 0) = _; omega) (hm _ (List.mem_cons_of_mem _ (List.mem_cons_of_mem _ (List.mem_cons_of_mem _ (List.mem_cons_of_mem _ (List.mem_cons_of_mem _ (List.mem_cons_of_mem _ List.mem_cons_self)))))))) (cvm (c := 87) (by decide) (x' := (0 : Int)) (y' := ((ρ 7))) (by show 0 + 0 = _; omega) (by show 0 + (1 * ρ 7 + 0) = _; omega) (hm _ (List.mem_cons_of_mem _ (List.mem_cons_of_mem _ (List.mem_cons_of_mem _ (List.mem_cons_of_mem _ (List.mem_cons_of_mem _ (List.mem_cons_of_mem _ (List.mem_cons_of_mem _ List.mem_cons_self))))))))) (cvm (c := 87) (by decide) (x' := (1 : Int)) (y' := ((ρ 8))) (by show 1 + 0 = _; omega) (by show 0 + (1 * ρ 8 + 0) = _; omega) (hm _ (List.mem_cons_of_mem _ (List.mem_cons_of_mem _ (List.mem_cons_of_mem _ (List.mem_cons_of_mem _ (List.mem_cons_of_mem _ (List.mem_cons_of_mem _ (List.mem_cons_of_mem _ (List.mem_cons_of_mem _ List.mem_cons_self)))))))))) (cvm (c := 87) (by decide) (x' := (2 : Int)) (y' := ((ρ 9))) (by show 2 + 0 = _; omega) (by show 0 + (1 * ρ 9 + 0) = _; omega) (hm _ (List.mem_cons_of_mem _ (List.mem_cons_of_mem _ (List.mem_cons_of_mem _ (List.mem_cons_of_mem _ (List.mem_cons_of_mem _ (List.mem_cons_of_mem _ (List.mem_cons_of_mem _ (List.mem_cons_of_mem _ (List.mem_cons_of_mem _ List.mem_cons_self))))))))))) (cvm (c := 87) (by decide) (x' := (3 : Int)) (y' := ((ρ 10))) (by show 3 + 0 = _; omega) (by show 0 + (1 * ρ 10 + 0) = _; omega) (hm _ (List.mem_cons_of_mem _ (List.mem_cons_of_mem _ (List.mem_cons_of_mem _ (List.mem_cons_of_mem _ (List.mem_cons_of_mem _ (List.mem_cons_of_mem _ (List.mem_cons_of_mem _ (List.mem_cons_of_mem _ (List.mem_cons_of_mem _ (List.mem_cons_of_mem _ List.mem_cons_self)))))))))))) (by have h := hF _ List.mem_cons_self; have h : 0 ≤ 4 + ((-1) * ρ 0 + 0) := h; omega) (by have h := hF _ (List.mem_cons_of_mem _ List.mem_cons_self); have h : 0 ≤ (-4) + (1 * ρ 0 + 0) := h; omega) (by have h := hF _ (List.mem_cons_of_mem _ (List.mem_cons_of_mem _ List.mem_cons_self)); have h : 0 ≤ 3 + ((-1) * ρ 1 + 0) := h; omega) (by have h := hF _ (List.mem_cons_of_mem _ (List.mem_cons_of_mem _ (List.mem_cons_of_mem _ List.mem_cons_self))); have h : 0 ≤ (-3) + (1 * ρ 1 + 0) := h; omega) (by have h := hF _ (List.mem_cons_of_mem _ (List.mem_cons_of_mem _ (List.mem_cons_of_mem _ (List.mem_cons_of_mem _ List.mem_cons_self)))); have h : 0 ≤ 1 + ((-1) * ρ 2 + 0) := h; omega) (by have h := hF _ (List.mem_cons_of_mem _ (List.mem_cons_of_mem _ (List.mem_cons_of_mem _ (List.mem_cons_of_mem _ (List.mem_cons_of_mem _ List.mem_cons_self))))); have h : 0 ≤ (-1) + (1 * ρ 2 + 0) := h; omega) (by have h := hF _ (List.mem_cons_of_mem _ (List.mem_cons_of_mem _ (List.mem_cons_of_mem _ (List.mem_cons_of_mem _ (List.mem_cons_of_mem _ (List.mem_cons_of_mem _ List.mem_cons_self)))))); have h : 0 ≤ 0 + ((-1) * ρ 3 + (1 * ρ 7 + 0)) := h; omega) (by have h := hF _ (List.mem_cons_of_mem _ (List.mem_cons_of_mem _ (List.mem_cons_of_mem _ (List.mem_cons_of_mem _ (List.mem_cons_of_mem _ (List.mem_cons_of_mem _ (List.mem_cons_of_mem _ List.mem_cons_self))))))); have h : 0 ≤ 0 + (1 * ρ 3 + ((-1) * ρ 7 + 0)) := h; omega) (by have h := hF _ (List.mem_cons_of_mem _ (List.mem_cons_of_mem _ (List.mem_cons_of_mem _ (List.mem_cons_of_mem _ (List.mem_cons_of_mem _ (List.mem_cons_of_mem _ (List.mem_cons_of_mem _ (List.mem_cons_of_mem _ List.mem_cons_self)))))))); have h : 0 ≤ 0 + ((-1) * ρ 4 + (1 * ρ 8 + 0)) := h; omega) (by have h := hF _ (List.mem_cons_of_mem _ (List.mem_cons_of_mem _ (List.mem_cons_of_mem _ (List.mem_cons_of_mem _ (List.mem_cons_of_mem _ (List.mem_cons_of_mem _ (List.mem_cons_of_mem _ (List.mem_cons_of_mem _ (List.mem_cons_of_mem _ List.mem_cons_self))))))))); have h : 0 ≤ 0 + (1 * ρ 4 + ((-1) * ρ 8 + 0)) := h; omega) (by have h := hF _ (List.mem_cons_of_mem _ (List.mem_cons_of_mem _ (List.mem_cons_of_mem _ (List.mem_cons_of_mem _ (List.mem_cons_of_mem _ (List.mem_cons_of_mem _ (List.mem_cons_of_mem _ (List.mem_cons_of_mem _ (List.mem_cons_of_mem _ (List.mem_cons_of_mem _ List.mem_cons_self)))))))))); have h : 0 ≤ 0 + ((-1) * ρ 5 + (1 * ρ 9 + 0)) := h; omega) (by have h := hF _ (List.mem_cons_of_mem _ (List.mem_cons_of_mem _ (List.mem_cons_of_mem _ (List.mem_cons_of_mem _ (List.mem_cons_of_mem _ (List.mem_cons_of_mem _ (List.mem_cons_of_mem _ (List.mem_cons_of_mem _ (List.mem_cons_of_mem _ (List.mem_cons_of_mem _ (List.mem_cons_of_mem _ List.mem_cons_self))))))))))); have h : 0 ≤ 0 + (1 * ρ 5 + ((-1) * ρ 9 + 0)) := h; omega) (by have h := hF _ (List.mem_cons_of_mem _ (List.mem_cons_of_mem _ (List.mem_cons_of_mem _ (List.mem_cons_of_mem _ (List.mem_cons_of_mem _ (List.mem_cons_of_mem _ (List.mem_cons_of_mem _ (List.mem_cons_of_mem _ (List.mem_cons_of_mem _ (List.mem_cons_of_mem _ (List.mem_cons_of_mem _ (List.mem_cons_of_mem _ List.mem_cons_self)))))))))))); have h : 0 ≤ 0 + ((-1) * ρ 6 + (1 * ρ 10 + 0)) := h; omega) (by have h := hF _ (List.mem_cons_of_mem _ (List.mem_cons_of_mem _ (List.mem_cons_of_mem _ (List.mem_cons_of_mem _ (List.mem_cons_of_mem _ (List.mem_cons_of_mem _ (List.mem_cons_of_mem _ (List.mem_cons_of_mem _ (List.mem_cons_of_mem _ (List.mem_cons_of_mem _ (List.mem_cons_of_mem _ (List.mem_cons_of_mem _ (List.mem_cons_of_mem _ List.mem_cons_self))))))))))))); have h : 0 ≤ 0 + (1 * ρ 6 + ((-1) * ρ 10 + 0)) := h; omega) hG
  obtain ⟨k0, -⟩ := H
  exact ⟨_, List.mem_cons_self, ρ, fun _ _ => rfl, (okM_c (pvp 222 (by show 0 + 0 = _; omega) (by show 0 + 0 = _; omega) k0) okM_n), okB_n, okF_n⟩
-- coS
theorem cr_766 (M : pM) (s0 s1 s2 : Int) (b0 : (-2147483648) ≤ s0 ∧ s0 ≤ 2147483647) (b1 : (-2147483648) ≤ s1 ∧ s1 ≤ 2147483647) (b2 : (-2147483648) ≤ s2 ∧ s2 ≤ 2147483647) (m0 : HP 222 (0 : Int) (0 : Int) M) (m1 : (0 ≤ (1 : Int) ∧ M 26 (1 : Int).toNat = (s0))) (m2 : (0 ≤ (40 : Int) ∧ M 61 (40 : Int).toNat = (s1))) (m3 : (0 ≤ (41 : Int) ∧ M 61 (41 : Int).toNat = (s2))) (hG : gI M) : (0 ≤ ((-1) * s0) ∧ 0 ≤ (s0) ∧ 0 ≤ ((-1) * s2) ∧ 0 ≤ (s2) ∧ True) ∨ (0 ≤ ((-1) * s0 + s1 + 1) ∧ 0 ≤ (s0 + (-1) * s1 - 1) ∧ 0 ≤ (s0 - 1) ∧ 0 ≤ ((-1) * s0 + 4) ∧ 0 ≤ ((-1) * s2 + 1) ∧ 0 ≤ (s2 - 1) ∧ True) := by
  have e0 : M 26 1 = s0 := m1.2
  have e1 : M 61 40 = s1 := m2.2
  have e2 : M 61 41 = s2 := m3.2
  rcases Eq.mp hp_222 m0 with ⟨h1, h2⟩ | ⟨h1, h2, h3, h4, h5⟩
  · exact Or.inl ⟨by omega, by omega, by omega, by omega, trivial⟩
  · exact Or.inr ⟨by omega, by omega, by omega, by omega, by omega, by omega, trivial⟩
theorem rul_766 : Rul r_766 := by
  refine ⟨fun _ ρ M hm hB hF hG => ?_, fun gi gv hg => (by cases hg)⟩
  have H := cr_766 M (ρ 0) (ρ 1) (ρ 2) (hB _ List.mem_cons_self) (hB _ (List.mem_cons_of_mem _ List.mem_cons_self)) (hB _ (List.mem_cons_of_mem _ (List.mem_cons_of_mem _ List.mem_cons_self))) (cvp 222 (x' := (0 : Int)) (y' := (0 : Int)) (by show 0 + 0 = _; omega) (by show 0 + 0 = _; omega) (hm _ List.mem_cons_self)) (cvm (c := 26) (by decide) (x' := (1 : Int)) (y' := ((ρ 0))) (by show 1 + 0 = _; omega) (by show 0 + (1 * ρ 0 + 0) = _; omega) (hm _ (List.mem_cons_of_mem _ List.mem_cons_self))) (cvm (c := 61) (by decide) (x' := (40 : Int)) (y' := ((ρ 1))) (by show 40 + 0 = _; omega) (by show 0 + (1 * ρ 1 + 0) = _; omega) (hm _ (List.mem_cons_of_mem _ (List.mem_cons_of_mem _ List.mem_cons_self)))) (cvm (c := 61) (by decide) (x' := (41 : Int)) (y' := ((ρ 2))) (by show 41 + 0 = _; omega) (by show 0 + (1 * ρ 2 + 0) = _; omega) (hm _ (List.mem_cons_of_mem _ (List.mem_cons_of_mem _ (List.mem_cons_of_mem _ List.mem_cons_self))))) hG
  rcases H with H | H
  · skip
    obtain ⟨f0, f1, f2, f3, -⟩ := H
    exact ⟨_, List.mem_cons_self, ρ, fun _ _ => rfl, okM_n, okB_n, (okF_c (by show 0 ≤ 0 + ((-1) * ρ 0 + 0); omega) (okF_c (by show 0 ≤ 0 + (1 * ρ 0 + 0); omega) (okF_c (by show 0 ≤ 0 + ((-1) * ρ 2 + 0); omega) (okF_c (by show 0 ≤ 0 + (1 * ρ 2 + 0); omega) okF_n))))⟩
  · skip
    obtain ⟨f0, f1, f2, f3, f4, f5, -⟩ := H
    exact ⟨_, (List.mem_cons_of_mem _ List.mem_cons_self), ρ, fun _ _ => rfl, okM_n, okB_n, (okF_c (by show 0 ≤ 1 + ((-1) * ρ 0 + (1 * ρ 1 + 0)); omega) (okF_c (by show 0 ≤ (-1) + (1 * ρ 0 + ((-1) * ρ 1 + 0)); omega) (okF_c (by show 0 ≤ (-1) + (1 * ρ 0 + 0); omega) (okF_c (by show 0 ≤ 4 + ((-1) * ρ 0 + 0); omega) (okF_c (by show 0 ≤ 1 + ((-1) * ρ 2 + 0); omega) (okF_c (by show 0 ≤ (-1) + (1 * ρ 2 + 0); omega) okF_n))))))⟩
-- tf0_c
theorem cr_767 (M : pM)  (hG : gI M) : (HP 224 (0 : Int) (-1 : Int) M ∧ True) := by
  exact ⟨Eq.mpr hp_224 ⟨by omega, fun i hi => by omega⟩, trivial⟩
theorem rul_767 : Rul r_767 := by
  refine ⟨fun _ ρ M hm hB hF hG => ?_, fun gi gv hg => (by cases hg)⟩
  have H := cr_767 M hG
  obtain ⟨k0, -⟩ := H
  exact ⟨_, List.mem_cons_self, ρ, fun _ _ => rfl, (okM_c (pvp 224 (by show 0 + 0 = _; omega) (by show (-1) + 0 = _; omega) k0) okM_n), okB_n, okF_n⟩
-- tfw_c
theorem cr_768 (M : pM) (s0 : Int) (b0 : 0 ≤ s0 ∧ s0 ≤ 35) (m0 : HP 224 (s0) (-1 : Int) M) (hG : gI M) : (HP 224 (s0 + 1) (-1 : Int) (st M 49 (s0).toNat (-1 : Int)) ∧ True) := by
  refine ⟨Eq.mpr hp_224 ⟨by omega, fun i hi => ?_⟩, trivial⟩
  rw [cw0]
  by_cases e : i = s0.toNat
  · rw [if_pos e]
  · rw [if_neg e]; exact (Eq.mp hp_224 m0).2 i (by omega)
theorem rul_768 : Rul r_768 := by
  refine ⟨fun h => (by cases h), fun gi gv hg ρ M hm hB hF hG => ?_⟩
  obtain ⟨g1, g2⟩ := List.cons.inj (show ([aI ((0 : Int), ([(0, 1)] : List (Nat × Int))), aI (((-1) : Int), ([] : List (Nat × Int)))] : List av) = [.inl gi, .inl gv] from hg)
  obtain ⟨g2, -⟩ := List.cons.inj g2
  cases g1
  cases g2
  have ei : ev ρ ((0 : Int), ([(0, 1)] : List (Nat × Int))) = ((ρ 0)) := by show 0 + (1 * ρ 0 + 0) = _; omega
  have ew : ev ρ (((-1) : Int), ([] : List (Nat × Int))) = (-1 : Int) := by show (-1) + 0 = _; omega
  rw [show (st M (ctj r_768) (ev ρ ((0 : Int), ([(0, 1)] : List (Nat × Int)))).toNat (ev ρ (((-1) : Int), ([] : List (Nat × Int))))) = (st M 49 ((ρ 0)).toNat (-1 : Int)) from by rw [ei, ew]; rfl]
  have H := cr_768 M (ρ 0) (hB _ List.mem_cons_self) (cvp 224 (x' := ((ρ 0))) (y' := (-1 : Int)) (by show 0 + (1 * ρ 0 + 0) = _; omega) (by show (-1) + 0 = _; omega) (hm _ List.mem_cons_self)) hG
  obtain ⟨k0, -⟩ := H
  exact ⟨_, List.mem_cons_self, ρ, fun _ _ => rfl, (okM_c (pvp 224 (by show 1 + (1 * ρ 0 + 0) = _; omega) (by show (-1) + 0 = _; omega) k0) okM_n), okB_n, okF_n⟩
-- tfx_c
theorem cr_769 (M : pM) (s0 : Int) (b0 : 0 ≤ s0 ∧ s0 ≤ 36) (m0 : HP 224 (s0) (-1 : Int) M) (f0 : 0 ≤ (s0 - 36)) (hG : gI M) : (HP 224 (36 : Int) (-1 : Int) M ∧ True) := by
  exact ⟨Eq.mpr hp_224 ⟨by omega, fun i hi => (Eq.mp hp_224 m0).2 i (by omega)⟩, trivial⟩
theorem rul_769 : Rul r_769 := by
  refine ⟨fun _ ρ M hm hB hF hG => ?_, fun gi gv hg => (by cases hg)⟩
  have H := cr_769 M (ρ 0) (hB _ List.mem_cons_self) (cvp 224 (x' := ((ρ 0))) (y' := (-1 : Int)) (by show 0 + (1 * ρ 0 + 0) = _; omega) (by show (-1) + 0 = _; omega) (hm _ List.mem_cons_self)) (by have h := hF _ List.mem_cons_self; have h : 0 ≤ (-36) + (1 * ρ 0 + 0) := h; omega) hG
  obtain ⟨k0, -⟩ := H
  exact ⟨_, List.mem_cons_self, ρ, fun _ _ => rfl, (okM_c (pvp 224 (by show 36 + 0 = _; omega) (by show (-1) + 0 = _; omega) k0) okM_n), okB_n, okF_n⟩
-- gl0_c
theorem cr_770 (M : pM) (s0 s1 : Int) (b0 : (-2147483648) ≤ s0 ∧ s0 ≤ 2147483647) (b1 : 0 ≤ s1 ∧ s1 ≤ 7) (m0 : HP 224 (36 : Int) (-1 : Int) M) (hG : gI M) : (HP 226 (s0) (256 * s1) M ∧ True) := by
  exact ⟨Eq.mpr hp_226 ⟨s1.toNat, 0, by omega, by omega, by omega, fun s hs => by have h := (Eq.mp hp_224 m0).2 s (by omega); exact h⟩, trivial⟩
theorem rul_770 : Rul r_770 := by
  refine ⟨fun _ ρ M hm hB hF hG => ?_, fun gi gv hg => (by cases hg)⟩
  have H := cr_770 M (ρ 0) (ρ 1) (hB _ List.mem_cons_self) (hB _ (List.mem_cons_of_mem _ List.mem_cons_self)) (cvp 224 (x' := (36 : Int)) (y' := (-1 : Int)) (by show 36 + 0 = _; omega) (by show (-1) + 0 = _; omega) (hm _ List.mem_cons_self)) hG
  obtain ⟨k0, -⟩ := H
  exact ⟨_, List.mem_cons_self, ρ, fun _ _ => rfl, (okM_c (pvp 226 (by show 0 + (1 * ρ 0 + 0) = _; omega) (by show 0 + (256 * ρ 1 + 0) = _; omega) k0) okM_n), okB_n, okF_n⟩
-- glw0_c
theorem cr_771 (M : pM) (s0 s1 s2 s3 s4 s5 s6 : Int) (b0 : (-2147483648) ≤ s0 ∧ s0 ≤ 2147483647) (b1 : 0 ≤ s1 ∧ s1 ≤ 7) (b2 : 0 ≤ s2 ∧ s2 ≤ 199) (b3 : (-2147483648) ≤ s3 ∧ s3 ≤ 2147483647) (b4 : 0 ≤ s4 ∧ s4 ≤ 35) (b5 : (-2147483648) ≤ s5 ∧ s5 ≤ 2147483647) (b6 : (-2147483648) ≤ s6 ∧ s6 ≤ 2147483647) (m0 : HP 226 (s0) (256 * s1 + s2) M) (m1 : (0 ≤ (s2) ∧ M 42 (s2).toNat = (s3))) (m2 : (0 ≤ (s2) ∧ M 43 (s2).toNat = (s4))) (m3 : (0 ≤ (s2) ∧ M 46 (s2).toNat = (s5))) (m4 : (0 ≤ (s2) ∧ M 47 (s2).toNat = (s6))) (f0 : 0 ≤ (s1 + (-1) * s3)) (f1 : 0 ≤ ((-1) * s1 + s3)) (f2 : 0 ≤ (s0 + (-1) * s5)) (f3 : 0 ≤ ((-1) * s6 - 1)) (hG : gI M) : (HP 226 (s0) (256 * s1 + s2 + 1) (st M 49 (s4).toNat (s2)) ∧ True) := by
  obtain ⟨p, i, h1, h2, h3, h4⟩ := Eq.mp hp_226 m0
  have e0_ : p = s1.toNat := by omega
  subst e0_
  have e1_ : i = s2.toNat := by omega
  subst e1_
  refine ⟨Eq.mpr hp_226 ⟨s1.toNat, s2.toNat + 1, by omega, by omega, by omega, fun s hs => ?_⟩, trivial⟩
  rw [st_r (show 42 ≠ 49 by decide), st_r (show 43 ≠ 49 by decide), st_r (show 46 ≠ 49 by decide), st_r (show 47 ≠ 49 by decide), cw0]
  have w1 := m1.2
  have w2 := m2.2
  have w3 := m3.2
  have w4 := m4.2
  by_cases e : s = s4.toNat
  · rw [if_pos e, trL_s ⟨by omega, by omega, by omega, by omega⟩]; omega
  · rw [if_neg e, trL_n (fun hh => e (by obtain ⟨_, g2, _, _⟩ := hh; omega))]; exact h4 s hs
theorem rul_771 : Rul r_771 := by
  refine ⟨fun h => (by cases h), fun gi gv hg ρ M hm hB hF hG => ?_⟩
  obtain ⟨g1, g2⟩ := List.cons.inj (show ([aI ((0 : Int), ([(4, 1)] : List (Nat × Int))), aI ((0 : Int), ([(2, 1)] : List (Nat × Int)))] : List av) = [.inl gi, .inl gv] from hg)
  obtain ⟨g2, -⟩ := List.cons.inj g2
  cases g1
  cases g2
  have ei : ev ρ ((0 : Int), ([(4, 1)] : List (Nat × Int))) = ((ρ 4)) := by show 0 + (1 * ρ 4 + 0) = _; omega
  have ew : ev ρ ((0 : Int), ([(2, 1)] : List (Nat × Int))) = ((ρ 2)) := by show 0 + (1 * ρ 2 + 0) = _; omega
  rw [show (st M (ctj r_771) (ev ρ ((0 : Int), ([(4, 1)] : List (Nat × Int)))).toNat (ev ρ ((0 : Int), ([(2, 1)] : List (Nat × Int))))) = (st M 49 ((ρ 4)).toNat ((ρ 2))) from by rw [ei, ew]; rfl]
  have H := cr_771 M (ρ 0) (ρ 1) (ρ 2) (ρ 3) (ρ 4) (ρ 5) (ρ 6) (hB _ List.mem_cons_self) (hB _ (List.mem_cons_of_mem _ List.mem_cons_self)) (hB _ (List.mem_cons_of_mem _ (List.mem_cons_of_mem _ List.mem_cons_self))) (hB _ (List.mem_cons_of_mem _ (List.mem_cons_of_mem _ (List.mem_cons_of_mem _ List.mem_cons_self)))) (hB _ (List.mem_cons_of_mem _ (List.mem_cons_of_mem _ (List.mem_cons_of_mem _ (List.mem_cons_of_mem _ List.mem_cons_self))))) (hB _ (List.mem_cons_of_mem _ (List.mem_cons_of_mem _ (List.mem_cons_of_mem _ (List.mem_cons_of_mem _ (List.mem_cons_of_mem _ List.mem_cons_self)))))) (hB _ (List.mem_cons_of_mem _ (List.mem_cons_of_mem _ (List.mem_cons_of_mem _ (List.mem_cons_of_mem _ (List.mem_cons_of_mem _ (List.mem_cons_of_mem _ List.mem_cons_self))))))) (cvp 226 (x' := ((ρ 0))) (y' := (256 * (ρ 1) + (ρ 2))) (by show 0 + (1 * ρ 0 + 0) = _; omega) (by show 0 + (256 * ρ 1 + (1 * ρ 2 + 0)) = _; omega) (hm _ List.mem_cons_self)) (cvm (c := 42) (by decide) (x' := ((ρ 2))) (y' := ((ρ 3))) (by show 0 + (1 * ρ 2 + 0) = _; omega) (by show 0 + (1 * ρ 3 + 0) = _; omega) (hm _ (List.mem_cons_of_mem _ List.mem_cons_self))) (cvm (c := 43) (by decide) (x' := ((ρ 2))) (y' := ((ρ 4))) (by show 0 + (1 * ρ 2 + 0) = _; omega) (by show 0 + (1 * ρ 4 + 0) = _; omega) (hm _ (List.mem_cons_of_mem _ (List.mem_cons_of_mem _ List.mem_cons_self)))) (cvm (c := 46) (by decide) (x' := ((ρ 2))) (y' := ((ρ 5))) (by show 0 + (1 * ρ 2 + 0) = _; omega) (by show 0 + (1 * ρ 5 + 0) = _; omega) (hm _ (List.mem_cons_of_mem _ (List.mem_cons_of_mem _ (List.mem_cons_of_mem _ List.mem_cons_self))))) (cvm (c := 47) (by decide) (x' := ((ρ 2))) (y' := ((ρ 6))) (by show 0 + (1 * ρ 2 + 0) = _; omega) (by show 0 + (1 * ρ 6 + 0) = _; omega) (hm _ (List.mem_cons_of_mem _ (List.mem_cons_of_mem _ (List.mem_cons_of_mem _ (List.mem_cons_of_mem _ List.mem_cons_self)))))) (by have h := hF _ List.mem_cons_self; have h : 0 ≤ 0 + (1 * ρ 1 + ((-1) * ρ 3 + 0)) := h; omega) (by have h := hF _ (List.mem_cons_of_mem _ List.mem_cons_self); have h : 0 ≤ 0 + ((-1) * ρ 1 + (1 * ρ 3 + 0)) := h; omega) (by have h := hF _ (List.mem_cons_of_mem _ (List.mem_cons_of_mem _ List.mem_cons_self)); have h : 0 ≤ 0 + (1 * ρ 0 + ((-1) * ρ 5 + 0)) := h; omega) (by have h := hF _ (List.mem_cons_of_mem _ (List.mem_cons_of_mem _ (List.mem_cons_of_mem _ List.mem_cons_self))); have h : 0 ≤ (-1) + ((-1) * ρ 6 + 0) := h; omega) hG
  obtain ⟨k0, -⟩ := H
  exact ⟨_, List.mem_cons_self, ρ, fun _ _ => rfl, (okM_c (pvp 226 (by show 0 + (1 * ρ 0 + 0) = _; omega) (by show 1 + (256 * ρ 1 + (1 * ρ 2 + 0)) = _; omega) k0) okM_n), okB_n, okF_n⟩
-- glw1_c
theorem cr_772 (M : pM) (s0 s1 s2 s3 s4 s5 s6 : Int) (b0 : (-2147483648) ≤ s0 ∧ s0 ≤ 2147483647) (b1 : 0 ≤ s1 ∧ s1 ≤ 7) (b2 : 0 ≤ s2 ∧ s2 ≤ 199) (b3 : (-2147483648) ≤ s3 ∧ s3 ≤ 2147483647) (b4 : 0 ≤ s4 ∧ s4 ≤ 35) (b5 : (-2147483648) ≤ s5 ∧ s5 ≤ 2147483647) (b6 : (-2147483648) ≤ s6 ∧ s6 ≤ 2147483647) (m0 : HP 226 (s0) (256 * s1 + s2) M) (m1 : (0 ≤ (s2) ∧ M 42 (s2).toNat = (s3))) (m2 : (0 ≤ (s2) ∧ M 43 (s2).toNat = (s4))) (m3 : (0 ≤ (s2) ∧ M 46 (s2).toNat = (s5))) (m4 : (0 ≤ (s2) ∧ M 47 (s2).toNat = (s6))) (f0 : 0 ≤ (s1 + (-1) * s3)) (f1 : 0 ≤ ((-1) * s1 + s3)) (f2 : 0 ≤ (s0 + (-1) * s5)) (f3 : 0 ≤ ((-1) * s0 + s6 - 1)) (hG : gI M) : (HP 226 (s0) (256 * s1 + s2 + 1) (st M 49 (s4).toNat (s2)) ∧ True) := by
  obtain ⟨p, i, h1, h2, h3, h4⟩ := Eq.mp hp_226 m0
  have e0_ : p = s1.toNat := by omega
  subst e0_
  have e1_ : i = s2.toNat := by omega
  subst e1_
  refine ⟨Eq.mpr hp_226 ⟨s1.toNat, s2.toNat + 1, by omega, by omega, by omega, fun s hs => ?_⟩, trivial⟩
  rw [st_r (show 42 ≠ 49 by decide), st_r (show 43 ≠ 49 by decide), st_r (show 46 ≠ 49 by decide), st_r (show 47 ≠ 49 by decide), cw0]
  have w1 := m1.2
  have w2 := m2.2
  have w3 := m3.2
  have w4 := m4.2
  by_cases e : s = s4.toNat
  · rw [if_pos e, trL_s ⟨by omega, by omega, by omega, by omega⟩]; omega
  · rw [if_neg e, trL_n (fun hh => e (by obtain ⟨_, g2, _, _⟩ := hh; omega))]; exact h4 s hs
theorem rul_772 : Rul r_772 := by
  refine ⟨fun h => (by cases h), fun gi gv hg ρ M hm hB hF hG => ?_⟩
  obtain ⟨g1, g2⟩ := List.cons.inj (show ([aI ((0 : Int), ([(4, 1)] : List (Nat × Int))), aI ((0 : Int), ([(2, 1)] : List (Nat × Int)))] : List av) = [.inl gi, .inl gv] from hg)
  obtain ⟨g2, -⟩ := List.cons.inj g2
  cases g1
  cases g2
  have ei : ev ρ ((0 : Int), ([(4, 1)] : List (Nat × Int))) = ((ρ 4)) := by show 0 + (1 * ρ 4 + 0) = _; omega
  have ew : ev ρ ((0 : Int), ([(2, 1)] : List (Nat × Int))) = ((ρ 2)) := by show 0 + (1 * ρ 2 + 0) = _; omega
  rw [show (st M (ctj r_772) (ev ρ ((0 : Int), ([(4, 1)] : List (Nat × Int)))).toNat (ev ρ ((0 : Int), ([(2, 1)] : List (Nat × Int))))) = (st M 49 ((ρ 4)).toNat ((ρ 2))) from by rw [ei, ew]; rfl]
  have H := cr_772 M (ρ 0) (ρ 1) (ρ 2) (ρ 3) (ρ 4) (ρ 5) (ρ 6) (hB _ List.mem_cons_self) (hB _ (List.mem_cons_of_mem _ List.mem_cons_self)) (hB _ (List.mem_cons_of_mem _ (List.mem_cons_of_mem _ List.mem_cons_self))) (hB _ (List.mem_cons_of_mem _ (List.mem_cons_of_mem _ (List.mem_cons_of_mem _ List.mem_cons_self)))) (hB _ (List.mem_cons_of_mem _ (List.mem_cons_of_mem _ (List.mem_cons_of_mem _ (List.mem_cons_of_mem _ List.mem_cons_self))))) (hB _ (List.mem_cons_of_mem _ (List.mem_cons_of_mem _ (List.mem_cons_of_mem _ (List.mem_cons_of_mem _ (List.mem_cons_of_mem _ List.mem_cons_self)))))) (hB _ (List.mem_cons_of_mem _ (List.mem_cons_of_mem _ (List.mem_cons_of_mem _ (List.mem_cons_of_mem _ (List.mem_cons_of_mem _ (List.mem_cons_of_mem _ List.mem_cons_self))))))) (cvp 226 (x' := ((ρ 0))) (y' := (256 * (ρ 1) + (ρ 2))) (by show 0 + (1 * ρ 0 + 0) = _; omega) (by show 0 + (256 * ρ 1 + (1 * ρ 2 + 0)) = _; omega) (hm _ List.mem_cons_self)) (cvm (c := 42) (by decide) (x' := ((ρ 2))) (y' := ((ρ 3))) (by show 0 + (1 * ρ 2 + 0) = _; omega) (by show 0 + (1 * ρ 3 + 0) = _; omega) (hm _ (List.mem_cons_of_mem _ List.mem_cons_self))) (cvm (c := 43) (by decide) (x' := ((ρ 2))) (y' := ((ρ 4))) (by show 0 + (1 * ρ 2 + 0) = _; omega) (by show 0 + (1 * ρ 4 + 0) = _; omega) (hm _ (List.mem_cons_of_mem _ (List.mem_cons_of_mem _ List.mem_cons_self)))) (cvm (c := 46) (by decide) (x' := ((ρ 2))) (y' := ((ρ 5))) (by show 0 + (1 * ρ 2 + 0) = _; omega) (by show 0 + (1 * ρ 5 + 0) = _; omega) (hm _ (List.mem_cons_of_mem _ (List.mem_cons_of_mem _ (List.mem_cons_of_mem _ List.mem_cons_self))))) (cvm (c := 47) (by decide) (x' := ((ρ 2))) (y' := ((ρ 6))) (by show 0 + (1 * ρ 2 + 0) = _; omega) (by show 0 + (1 * ρ 6 + 0) = _; omega) (hm _ (List.mem_cons_of_mem _ (List.mem_cons_of_mem _ (List.mem_cons_of_mem _ (List.mem_cons_of_mem _ List.mem_cons_self)))))) (by have h := hF _ List.mem_cons_self; have h : 0 ≤ 0 + (1 * ρ 1 + ((-1) * ρ 3 + 0)) := h; omega) (by have h := hF _ (List.mem_cons_of_mem _ List.mem_cons_self); have h : 0 ≤ 0 + ((-1) * ρ 1 + (1 * ρ 3 + 0)) := h; omega) (by have h := hF _ (List.mem_cons_of_mem _ (List.mem_cons_of_mem _ List.mem_cons_self)); have h : 0 ≤ 0 + (1 * ρ 0 + ((-1) * ρ 5 + 0)) := h; omega) (by have h := hF _ (List.mem_cons_of_mem _ (List.mem_cons_of_mem _ (List.mem_cons_of_mem _ List.mem_cons_self))); have h : 0 ≤ (-1) + ((-1) * ρ 0 + (1 * ρ 6 + 0)) := h; omega) hG
  obtain ⟨k0, -⟩ := H
  exact ⟨_, List.mem_cons_self, ρ, fun _ _ => rfl, (okM_c (pvp 226 (by show 0 + (1 * ρ 0 + 0) = _; omega) (by show 1 + (256 * ρ 1 + (1 * ρ 2 + 0)) = _; omega) k0) okM_n), okB_n, okF_n⟩
-- gln0_c
theorem cr_773 (M : pM) (s0 s1 s2 s3 : Int) (b0 : (-2147483648) ≤ s0 ∧ s0 ≤ 2147483647) (b1 : 0 ≤ s1 ∧ s1 ≤ 7) (b2 : 0 ≤ s2 ∧ s2 ≤ 199) (b3 : (-2147483648) ≤ s3 ∧ s3 ≤ 2147483647) (m0 : HP 226 (s0) (256 * s1 + s2) M) (m1 : (0 ≤ (s2) ∧ M 42 (s2).toNat = (s3))) (f0 : 0 ≤ (s1 + (-1) * s3 - 1)) (hG : gI M) : (HP 226 (s0) (256 * s1 + s2 + 1) M ∧ True) := by
  obtain ⟨p, i, h1, h2, h3, h4⟩ := Eq.mp hp_226 m0
  have e0_ : p = s1.toNat := by omega
  subst e0_
  have e1_ : i = s2.toNat := by omega
  subst e1_
  refine ⟨Eq.mpr hp_226 ⟨s1.toNat, s2.toNat + 1, by omega, by omega, by omega, fun s hs => ?_⟩, trivial⟩
  rw [trL_n (fun hh => by obtain ⟨g1, g2, g3, g4⟩ := hh; have e := m1.2; omega)]
  exact h4 s hs
theorem rul_773 : Rul r_773 := by
  refine ⟨fun _ ρ M hm hB hF hG => ?_, fun gi gv hg => (by cases hg)⟩
  have H := cr_773 M (ρ 0) (ρ 1) (ρ 2) (ρ 3) (hB _ List.mem_cons_self) (hB _ (List.mem_cons_of_mem _ List.mem_cons_self)) (hB _ (List.mem_cons_of_mem _ (List.mem_cons_of_mem _ List.mem_cons_self))) (hB _ (List.mem_cons_of_mem _ (List.mem_cons_of_mem _ (List.mem_cons_of_mem _ List.mem_cons_self)))) (cvp 226 (x' := ((ρ 0))) (y' := (256 * (ρ 1) + (ρ 2))) (by show 0 + (1 * ρ 0 + 0) = _; omega) (by show 0 + (256 * ρ 1 + (1 * ρ 2 + 0)) = _; omega) (hm _ List.mem_cons_self)) (cvm (c := 42) (by decide) (x' := ((ρ 2))) (y' := ((ρ 3))) (by show 0 + (1 * ρ 2 + 0) = _; omega) (by show 0 + (1 * ρ 3 + 0) = _; omega) (hm _ (List.mem_cons_of_mem _ List.mem_cons_self))) (by have h := hF _ List.mem_cons_self; have h : 0 ≤ (-1) + (1 * ρ 1 + ((-1) * ρ 3 + 0)) := h; omega) hG
  obtain ⟨k0, -⟩ := H
  exact ⟨_, List.mem_cons_self, ρ, fun _ _ => rfl, (okM_c (pvp 226 (by show 0 + (1 * ρ 0 + 0) = _; omega) (by show 1 + (256 * ρ 1 + (1 * ρ 2 + 0)) = _; omega) k0) okM_n), okB_n, okF_n⟩
-- gln1_c
theorem cr_774 (M : pM) (s0 s1 s2 s3 : Int) (b0 : (-2147483648) ≤ s0 ∧ s0 ≤ 2147483647) (b1 : 0 ≤ s1 ∧ s1 ≤ 7) (b2 : 0 ≤ s2 ∧ s2 ≤ 199) (b3 : (-2147483648) ≤ s3 ∧ s3 ≤ 2147483647) (m0 : HP 226 (s0) (256 * s1 + s2) M) (m1 : (0 ≤ (s2) ∧ M 42 (s2).toNat = (s3))) (f0 : 0 ≤ ((-1) * s1 + s3 - 1)) (hG : gI M) : (HP 226 (s0) (256 * s1 + s2 + 1) M ∧ True) := by
  obtain ⟨p, i, h1, h2, h3, h4⟩ := Eq.mp hp_226 m0
  have e0_ : p = s1.toNat := by omega
  subst e0_
  have e1_ : i = s2.toNat := by omega
  subst e1_
  refine ⟨Eq.mpr hp_226 ⟨s1.toNat, s2.toNat + 1, by omega, by omega, by omega, fun s hs => ?_⟩, trivial⟩
  rw [trL_n (fun hh => by obtain ⟨g1, g2, g3, g4⟩ := hh; have e := m1.2; omega)]
  exact h4 s hs
theorem rul_774 : Rul r_774 := by
  refine ⟨fun _ ρ M hm hB hF hG => ?_, fun gi gv hg => (by cases hg)⟩
  have H := cr_774 M (ρ 0) (ρ 1) (ρ 2) (ρ 3) (hB _ List.mem_cons_self) (hB _ (List.mem_cons_of_mem _ List.mem_cons_self)) (hB _ (List.mem_cons_of_mem _ (List.mem_cons_of_mem _ List.mem_cons_self))) (hB _ (List.mem_cons_of_mem _ (List.mem_cons_of_mem _ (List.mem_cons_of_mem _ List.mem_cons_self)))) (cvp 226 (x' := ((ρ 0))) (y' := (256 * (ρ 1) + (ρ 2))) (by show 0 + (1 * ρ 0 + 0) = _; omega) (by show 0 + (256 * ρ 1 + (1 * ρ 2 + 0)) = _; omega) (hm _ List.mem_cons_self)) (cvm (c := 42) (by decide) (x' := ((ρ 2))) (y' := ((ρ 3))) (by show 0 + (1 * ρ 2 + 0) = _; omega) (by show 0 + (1 * ρ 3 + 0) = _; omega) (hm _ (List.mem_cons_of_mem _ List.mem_cons_self))) (by have h := hF _ List.mem_cons_self; have h : 0 ≤ (-1) + ((-1) * ρ 1 + (1 * ρ 3 + 0)) := h; omega) hG
  obtain ⟨k0, -⟩ := H
  exact ⟨_, List.mem_cons_self, ρ, fun _ _ => rfl, (okM_c (pvp 226 (by show 0 + (1 * ρ 0 + 0) = _; omega) (by show 1 + (256 * ρ 1 + (1 * ρ 2 + 0)) = _; omega) k0) okM_n), okB_n, okF_n⟩
-- gln2_c
theorem cr_775 (M : pM) (s0 s1 s2 s3 : Int) (b0 : (-2147483648) ≤ s0 ∧ s0 ≤ 2147483647) (b1 : 0 ≤ s1 ∧ s1 ≤ 7) (b2 : 0 ≤ s2 ∧ s2 ≤ 199) (b3 : (-2147483648) ≤ s3 ∧ s3 ≤ 2147483647) (m0 : HP 226 (s0) (256 * s1 + s2) M) (m1 : (0 ≤ (s2) ∧ M 46 (s2).toNat = (s3))) (f0 : 0 ≤ ((-1) * s0 + s3 - 1)) (hG : gI M) : (HP 226 (s0) (256 * s1 + s2 + 1) M ∧ True) := by
  obtain ⟨p, i, h1, h2, h3, h4⟩ := Eq.mp hp_226 m0
  have e0_ : p = s1.toNat := by omega
  subst e0_
  have e1_ : i = s2.toNat := by omega
  subst e1_
  refine ⟨Eq.mpr hp_226 ⟨s1.toNat, s2.toNat + 1, by omega, by omega, by omega, fun s hs => ?_⟩, trivial⟩
  rw [trL_n (fun hh => by obtain ⟨g1, g2, g3, g4⟩ := hh; have e := m1.2; omega)]
  exact h4 s hs
theorem rul_775 : Rul r_775 := by
  refine ⟨fun _ ρ M hm hB hF hG => ?_, fun gi gv hg => (by cases hg)⟩
  have H := cr_775 M (ρ 0) (ρ 1) (ρ 2) (ρ 3) (hB _ List.mem_cons_self) (hB _ (List.mem_cons_of_mem _ List.mem_cons_self)) (hB _ (List.mem_cons_of_mem _ (List.mem_cons_of_mem _ List.mem_cons_self))) (hB _ (List.mem_cons_of_mem _ (List.mem_cons_of_mem _ (List.mem_cons_of_mem _ List.mem_cons_self)))) (cvp 226 (x' := ((ρ 0))) (y' := (256 * (ρ 1) + (ρ 2))) (by show 0 + (1 * ρ 0 + 0) = _; omega) (by show 0 + (256 * ρ 1 + (1 * ρ 2 + 0)) = _; omega) (hm _ List.mem_cons_self)) (cvm (c := 46) (by decide) (x' := ((ρ 2))) (y' := ((ρ 3))) (by show 0 + (1 * ρ 2 + 0) = _; omega) (by show 0 + (1 * ρ 3 + 0) = _; omega) (hm _ (List.mem_cons_of_mem _ List.mem_cons_self))) (by have h := hF _ List.mem_cons_self; have h : 0 ≤ (-1) + ((-1) * ρ 0 + (1 * ρ 3 + 0)) := h; omega) hG
  obtain ⟨k0, -⟩ := H
  exact ⟨_, List.mem_cons_self, ρ, fun _ _ => rfl, (okM_c (pvp 226 (by show 0 + (1 * ρ 0 + 0) = _; omega) (by show 1 + (256 * ρ 1 + (1 * ρ 2 + 0)) = _; omega) k0) okM_n), okB_n, okF_n⟩
-- gln3_c
theorem cr_776 (M : pM) (s0 s1 s2 s3 : Int) (b0 : (-2147483648) ≤ s0 ∧ s0 ≤ 2147483647) (b1 : 0 ≤ s1 ∧ s1 ≤ 7) (b2 : 0 ≤ s2 ∧ s2 ≤ 199) (b3 : (-2147483648) ≤ s3 ∧ s3 ≤ 2147483647) (m0 : HP 226 (s0) (256 * s1 + s2) M) (m1 : (0 ≤ (s2) ∧ M 47 (s2).toNat = (s3))) (f0 : 0 ≤ (s3)) (f1 : 0 ≤ (s0 + (-1) * s3)) (hG : gI M) : (HP 226 (s0) (256 * s1 + s2 + 1) M ∧ True) := by
  obtain ⟨p, i, h1, h2, h3, h4⟩ := Eq.mp hp_226 m0
  have e0_ : p = s1.toNat := by omega
  subst e0_
  have e1_ : i = s2.toNat := by omega
  subst e1_
  refine ⟨Eq.mpr hp_226 ⟨s1.toNat, s2.toNat + 1, by omega, by omega, by omega, fun s hs => ?_⟩, trivial⟩
  rw [trL_n (fun hh => by obtain ⟨g1, g2, g3, g4⟩ := hh; have e := m1.2; omega)]
  exact h4 s hs
theorem rul_776 : Rul r_776 := by
  refine ⟨fun _ ρ M hm hB hF hG => ?_, fun gi gv hg => (by cases hg)⟩
  have H := cr_776 M (ρ 0) (ρ 1) (ρ 2) (ρ 3) (hB _ List.mem_cons_self) (hB _ (List.mem_cons_of_mem _ List.mem_cons_self)) (hB _ (List.mem_cons_of_mem _ (List.mem_cons_of_mem _ List.mem_cons_self))) (hB _ (List.mem_cons_of_mem _ (List.mem_cons_of_mem _ (List.mem_cons_of_mem _ List.mem_cons_self)))) (cvp 226 (x' := ((ρ 0))) (y' := (256 * (ρ 1) + (ρ 2))) (by show 0 + (1 * ρ 0 + 0) = _; omega) (by show 0 + (256 * ρ 1 + (1 * ρ 2 + 0)) = _; omega) (hm _ List.mem_cons_self)) (cvm (c := 47) (by decide) (x' := ((ρ 2))) (y' := ((ρ 3))) (by show 0 + (1 * ρ 2 + 0) = _; omega) (by show 0 + (1 * ρ 3 + 0) = _; omega) (hm _ (List.mem_cons_of_mem _ List.mem_cons_self))) (by have h := hF _ List.mem_cons_self; have h : 0 ≤ 0 + (1 * ρ 3 + 0) := h; omega) (by have h := hF _ (List.mem_cons_of_mem _ List.mem_cons_self); have h : 0 ≤ 0 + (1 * ρ 0 + ((-1) * ρ 3 + 0)) := h; omega) hG
  obtain ⟨k0, -⟩ := H
  exact ⟨_, List.mem_cons_self, ρ, fun _ _ => rfl, (okM_c (pvp 226 (by show 0 + (1 * ρ 0 + 0) = _; omega) (by show 1 + (256 * ρ 1 + (1 * ρ 2 + 0)) = _; omega) k0) okM_n), okB_n, okF_n⟩
-- gb0_c
theorem cr_777 (M : pM) (s0 s1 s2 : Int) (b0 : (-2147483648) ≤ s0 ∧ s0 ≤ 2147483647) (b1 : 0 ≤ s1 ∧ s1 ≤ 7) (b2 : 0 ≤ s2 ∧ s2 ≤ 200) (m0 : HP 226 (s0) (256 * s1 + s2) M) (m1 : (0 ≤ (8 : Int) ∧ M 40 (8 : Int).toNat = (s2))) (hG : gI M) : (HP 228 (s0) (4096 * s1) M ∧ True) := by
  obtain ⟨p, i, h1, h2, h3, h4⟩ := Eq.mp hp_226 m0
  have eF : M 40 8 = s2 := m1.2
  have e0_ : p = s1.toNat := by omega
  subst e0_
  have e1_ : i = s2.toNat := by omega
  subst e1_
  refine ⟨Eq.mpr hp_228 ⟨s1.toNat, 0, by omega, by omega, by show _ = 4096 * (s1.toNat : Int) + 64 * ((0 : Nat) : Int) + ((0 : Nat) : Int); omega, by omega, by omega, fun q hq => ?_, fun q hq => absurd hq (Nat.not_lt_zero q)⟩, trivial⟩
  rw [eF]
  exact h4 q hq
theorem rul_777 : Rul r_777 := by
  refine ⟨fun _ ρ M hm hB hF hG => ?_, fun gi gv hg => (by cases hg)⟩
  have H := cr_777 M (ρ 0) (ρ 1) (ρ 2) (hB _ List.mem_cons_self) (hB _ (List.mem_cons_of_mem _ List.mem_cons_self)) (hB _ (List.mem_cons_of_mem _ (List.mem_cons_of_mem _ List.mem_cons_self))) (cvp 226 (x' := ((ρ 0))) (y' := (256 * (ρ 1) + (ρ 2))) (by show 0 + (1 * ρ 0 + 0) = _; omega) (by show 0 + (256 * ρ 1 + (1 * ρ 2 + 0)) = _; omega) (hm _ List.mem_cons_self)) (cvm (c := 40) (by decide) (x' := (8 : Int)) (y' := ((ρ 2))) (by show 8 + 0 = _; omega) (by show 0 + (1 * ρ 2 + 0) = _; omega) (hm _ (List.mem_cons_of_mem _ List.mem_cons_self))) hG
  obtain ⟨k0, -⟩ := H
  exact ⟨_, List.mem_cons_self, ρ, fun _ _ => rfl, (okM_c (pvp 228 (by show 0 + (1 * ρ 0 + 0) = _; omega) (by show 0 + (4096 * ρ 1 + 0) = _; omega) k0) okM_n), okB_n, okF_n⟩
-- gbs_c
theorem cr_778 (M : pM) (s0 s1 s2 s3 s4 : Int) (b0 : (-2147483648) ≤ s0 ∧ s0 ≤ 2147483647) (b1 : 0 ≤ s1 ∧ s1 ≤ 7) (b2 : 0 ≤ s2 ∧ s2 ≤ 35) (b3 : 0 ≤ s3 ∧ s3 ≤ 36) (b4 : (-2147483648) ≤ s4 ∧ s4 ≤ 2147483647) (m0 : HP 228 (s0) (4096 * s1 + 64 * s2 + s3) M) (m1 : (0 ≤ (s2) ∧ M 49 (s2).toNat = (s4))) (f0 : 0 ≤ ((-1) * s4 - 1)) (hG : gI M) : (HP 228 (s0) (4096 * s1 + 64 * s2 + s3 + 64) M ∧ True) := by
  obtain ⟨p, s, h1, h2, h3, h4, h5, h6, h7⟩ := Eq.mp hp_228 m0
  have l1 : trN (M 49) s ≤ s := trN_le
  have e0_ : p = s1.toNat := by omega
  subst e0_
  have e1_ : s = s2.toNat := by omega
  subst e1_
  have ec : trN (M 49) s2.toNat = s3.toNat := by omega
  have ev : M 49 s2.toNat = s4 := m1.2
  have en : trN (M 49) (s2.toNat + 1) = trN (M 49) s2.toNat := if_pos (by omega)
  refine ⟨Eq.mpr hp_228 ⟨s1.toNat, s2.toNat + 1, by omega, by omega, by rw [en]; omega, h4, h5, h6, fun q hq hl => ?_⟩, trivial⟩
  by_cases e : q = s2.toNat
  · rw [e, ev] at hl; omega
  · exact h7 q (by omega) hl
theorem rul_778 : Rul r_778 := by
  refine ⟨fun _ ρ M hm hB hF hG => ?_, fun gi gv hg => (by cases hg)⟩
  have H := cr_778 M (ρ 0) (ρ 1) (ρ 2) (ρ 3) (ρ 4) (hB _ List.mem_cons_self) (hB _ (List.mem_cons_of_mem _ List.mem_cons_self)) (hB _ (List.mem_cons_of_mem _ (List.mem_cons_of_mem _ List.mem_cons_self))) (hB _ (List.mem_cons_of_mem _ (List.mem_cons_of_mem _ (List.mem_cons_of_mem _ List.mem_cons_self)))) (hB _ (List.mem_cons_of_mem _ (List.mem_cons_of_mem _ (List.mem_cons_of_mem _ (List.mem_cons_of_mem _ List.mem_cons_self))))) (cvp 228 (x' := ((ρ 0))) (y' := (4096 * (ρ 1) + 64 * (ρ 2) + (ρ 3))) (by show 0 + (1 * ρ 0 + 0) = _; omega) (by show 0 + (4096 * ρ 1 + (64 * ρ 2 + (1 * ρ 3 + 0))) = _; omega) (hm _ List.mem_cons_self)) (cvm (c := 49) (by decide) (x' := ((ρ 2))) (y' := ((ρ 4))) (by show 0 + (1 * ρ 2 + 0) = _; omega) (by show 0 + (1 * ρ 4 + 0) = _; omega) (hm _ (List.mem_cons_of_mem _ List.mem_cons_self))) (by have h := hF _ List.mem_cons_self; have h : 0 ≤ (-1) + ((-1) * ρ 4 + 0) := h; omega) hG
  obtain ⟨k0, -⟩ := H
  exact ⟨_, List.mem_cons_self, ρ, fun _ _ => rfl, (okM_c (pvp 228 (by show 0 + (1 * ρ 0 + 0) = _; omega) (by show 64 + (4096 * ρ 1 + (64 * ρ 2 + (1 * ρ 3 + 0))) = _; omega) k0) okM_n), okB_n, okF_n⟩
-- gbw50_c
theorem cr_779 (M : pM) (s0 s1 s2 s3 s4 s5 : Int) (b0 : (-2147483648) ≤ s0 ∧ s0 ≤ 2147483647) (b1 : 0 ≤ s1 ∧ s1 ≤ 7) (b2 : 0 ≤ s2 ∧ s2 ≤ 35) (b3 : 0 ≤ s3 ∧ s3 ≤ 36) (b4 : 0 ≤ s4 ∧ s4 ≤ 35) (b5 : (-2147483648) ≤ s5 ∧ s5 ≤ 2147483647) (m0 : HP 228 (s0) (4096 * s1 + 64 * s2 + s3) M) (f0 : 0 ≤ ((-1) * s3 + s4)) (hG : gI M) : (HP 228 (s0) (4096 * s1 + 64 * s2 + s3) (st M 50 (s4).toNat (s5)) ∧ True) := by
  obtain ⟨p, s, h1, h2, h3, h4, h5, h6, h7⟩ := Eq.mp hp_228 m0
  have l1 : trN (M 49) s ≤ s := trN_le
  have e0_ : p = s1.toNat := by omega
  subst e0_
  have e1_ : s = s2.toNat := by omega
  subst e1_
  have ec : trN (M 49) s2.toNat = s3.toNat := by omega
  refine ⟨Eq.mpr hp_228 ?_, trivial⟩
  rw [st_r (show 49 ≠ 50 by decide), st_r (show 42 ≠ 50 by decide), st_r (show 43 ≠ 50 by decide), st_r (show 46 ≠ 50 by decide), st_r (show 47 ≠ 50 by decide), st_r (show 44 ≠ 50 by decide), st_r (show 45 ≠ 50 by decide), st_r (show 51 ≠ 50 by decide), st_r (show 52 ≠ 50 by decide), st_r (show 40 ≠ 50 by decide)]
  refine ⟨s1.toNat, s2.toNat, by omega, by omega, by omega, h4, h5, h6, fun q hq hl => ?_⟩
  obtain ⟨d1, d2, d3⟩ := h7 q hq hl
  have hlt : trN (M 49) q < s3.toNat := by rw [← ec]; exact trN_lt hq hl
  rw [cw0, if_neg (by omega)]
  exact ⟨d1, d2, d3⟩
theorem rul_779 : Rul r_779 := by
  refine ⟨fun h => (by cases h), fun gi gv hg ρ M hm hB hF hG => ?_⟩
  obtain ⟨g1, g2⟩ := List.cons.inj (show ([aI ((0 : Int), ([(4, 1)] : List (Nat × Int))), aI ((0 : Int), ([(5, 1)] : List (Nat × Int)))] : List av) = [.inl gi, .inl gv] from hg)
  obtain ⟨g2, -⟩ := List.cons.inj g2
  cases g1
  cases g2
  have ei : ev ρ ((0 : Int), ([(4, 1)] : List (Nat × Int))) = ((ρ 4)) := by show 0 + (1 * ρ 4 + 0) = _; omega
  have ew : ev ρ ((0 : Int), ([(5, 1)] : List (Nat × Int))) = ((ρ 5)) := by show 0 + (1 * ρ 5 + 0) = _; omega
  rw [show (st M (ctj r_779) (ev ρ ((0 : Int), ([(4, 1)] : List (Nat × Int)))).toNat (ev ρ ((0 : Int), ([(5, 1)] : List (Nat × Int))))) = (st M 50 ((ρ 4)).toNat ((ρ 5))) from by rw [ei, ew]; rfl]
  have H := cr_779 M (ρ 0) (ρ 1) (ρ 2) (ρ 3) (ρ 4) (ρ 5) (hB _ List.mem_cons_self) (hB _ (List.mem_cons_of_mem _ List.mem_cons_self)) (hB _ (List.mem_cons_of_mem _ (List.mem_cons_of_mem _ List.mem_cons_self))) (hB _ (List.mem_cons_of_mem _ (List.mem_cons_of_mem _ (List.mem_cons_of_mem _ List.mem_cons_self)))) (hB _ (List.mem_cons_of_mem _ (List.mem_cons_of_mem _ (List.mem_cons_of_mem _ (List.mem_cons_of_mem _ List.mem_cons_self))))) (hB _ (List.mem_cons_of_mem _ (List.mem_cons_of_mem _ (List.mem_cons_of_mem _ (List.mem_cons_of_mem _ (List.mem_cons_of_mem _ List.mem_cons_self)))))) (cvp 228 (x' := ((ρ 0))) (y' := (4096 * (ρ 1) + 64 * (ρ 2) + (ρ 3))) (by show 0 + (1 * ρ 0 + 0) = _; omega) (by show 0 + (4096 * ρ 1 + (64 * ρ 2 + (1 * ρ 3 + 0))) = _; omega) (hm _ List.mem_cons_self)) (by have h := hF _ List.mem_cons_self; have h : 0 ≤ 0 + ((-1) * ρ 3 + (1 * ρ 4 + 0)) := h; omega) hG
  obtain ⟨k0, -⟩ := H
  exact ⟨_, List.mem_cons_self, ρ, fun _ _ => rfl, (okM_c (pvp 228 (by show 0 + (1 * ρ 0 + 0) = _; omega) (by show 0 + (4096 * ρ 1 + (64 * ρ 2 + (1 * ρ 3 + 0))) = _; omega) k0) okM_n), okB_n, okF_n⟩
-- gbw51_c
theorem cr_780 (M : pM) (s0 s1 s2 s3 s4 s5 : Int) (b0 : (-2147483648) ≤ s0 ∧ s0 ≤ 2147483647) (b1 : 0 ≤ s1 ∧ s1 ≤ 7) (b2 : 0 ≤ s2 ∧ s2 ≤ 35) (b3 : 0 ≤ s3 ∧ s3 ≤ 36) (b4 : 0 ≤ s4 ∧ s4 ≤ 35) (b5 : (-2147483648) ≤ s5 ∧ s5 ≤ 2147483647) (m0 : HP 228 (s0) (4096 * s1 + 64 * s2 + s3) M) (f0 : 0 ≤ ((-1) * s3 + s4)) (hG : gI M) : (HP 228 (s0) (4096 * s1 + 64 * s2 + s3) (st M 51 (s4).toNat (s5)) ∧ True) := by
  obtain ⟨p, s, h1, h2, h3, h4, h5, h6, h7⟩ := Eq.mp hp_228 m0
  have l1 : trN (M 49) s ≤ s := trN_le
  have e0_ : p = s1.toNat := by omega
  subst e0_
  have e1_ : s = s2.toNat := by omega
  subst e1_
  have ec : trN (M 49) s2.toNat = s3.toNat := by omega
  refine ⟨Eq.mpr hp_228 ?_, trivial⟩
  rw [st_r (show 49 ≠ 51 by decide), st_r (show 42 ≠ 51 by decide), st_r (show 43 ≠ 51 by decide), st_r (show 46 ≠ 51 by decide), st_r (show 47 ≠ 51 by decide), st_r (show 44 ≠ 51 by decide), st_r (show 45 ≠ 51 by decide), st_r (show 50 ≠ 51 by decide), st_r (show 52 ≠ 51 by decide), st_r (show 40 ≠ 51 by decide)]
  refine ⟨s1.toNat, s2.toNat, by omega, by omega, by omega, h4, h5, h6, fun q hq hl => ?_⟩
  obtain ⟨d1, d2, d3⟩ := h7 q hq hl
  have hlt : trN (M 49) q < s3.toNat := by rw [← ec]; exact trN_lt hq hl
  rw [cw0, if_neg (by omega)]
  exact ⟨d1, d2, d3⟩
theorem rul_780 : Rul r_780 := by
  refine ⟨fun h => (by cases h), fun gi gv hg ρ M hm hB hF hG => ?_⟩
  obtain ⟨g1, g2⟩ := List.cons.inj (show ([aI ((0 : Int), ([(4, 1)] : List (Nat × Int))), aI ((0 : Int), ([(5, 1)] : List (Nat × Int)))] : List av) = [.inl gi, .inl gv] from hg)
  obtain ⟨g2, -⟩ := List.cons.inj g2
  cases g1
  cases g2
  have ei : ev ρ ((0 : Int), ([(4, 1)] : List (Nat × Int))) = ((ρ 4)) := by show 0 + (1 * ρ 4 + 0) = _; omega
  have ew : ev ρ ((0 : Int), ([(5, 1)] : List (Nat × Int))) = ((ρ 5)) := by show 0 + (1 * ρ 5 + 0) = _; omega
  rw [show (st M (ctj r_780) (ev ρ ((0 : Int), ([(4, 1)] : List (Nat × Int)))).toNat (ev ρ ((0 : Int), ([(5, 1)] : List (Nat × Int))))) = (st M 51 ((ρ 4)).toNat ((ρ 5))) from by rw [ei, ew]; rfl]
  have H := cr_780 M (ρ 0) (ρ 1) (ρ 2) (ρ 3) (ρ 4) (ρ 5) (hB _ List.mem_cons_self) (hB _ (List.mem_cons_of_mem _ List.mem_cons_self)) (hB _ (List.mem_cons_of_mem _ (List.mem_cons_of_mem _ List.mem_cons_self))) (hB _ (List.mem_cons_of_mem _ (List.mem_cons_of_mem _ (List.mem_cons_of_mem _ List.mem_cons_self)))) (hB _ (List.mem_cons_of_mem _ (List.mem_cons_of_mem _ (List.mem_cons_of_mem _ (List.mem_cons_of_mem _ List.mem_cons_self))))) (hB _ (List.mem_cons_of_mem _ (List.mem_cons_of_mem _ (List.mem_cons_of_mem _ (List.mem_cons_of_mem _ (List.mem_cons_of_mem _ List.mem_cons_self)))))) (cvp 228 (x' := ((ρ 0))) (y' := (4096 * (ρ 1) + 64 * (ρ 2) + (ρ 3))) (by show 0 + (1 * ρ 0 + 0) = _; omega) (by show 0 + (4096 * ρ 1 + (64 * ρ 2 + (1 * ρ 3 + 0))) = _; omega) (hm _ List.mem_cons_self)) (by have h := hF _ List.mem_cons_self; have h : 0 ≤ 0 + ((-1) * ρ 3 + (1 * ρ 4 + 0)) := h; omega) hG
  obtain ⟨k0, -⟩ := H
  exact ⟨_, List.mem_cons_self, ρ, fun _ _ => rfl, (okM_c (pvp 228 (by show 0 + (1 * ρ 0 + 0) = _; omega) (by show 0 + (4096 * ρ 1 + (64 * ρ 2 + (1 * ρ 3 + 0))) = _; omega) k0) okM_n), okB_n, okF_n⟩
-- gbw52_c
theorem cr_781 (M : pM) (s0 s1 s2 s3 s4 s5 : Int) (b0 : (-2147483648) ≤ s0 ∧ s0 ≤ 2147483647) (b1 : 0 ≤ s1 ∧ s1 ≤ 7) (b2 : 0 ≤ s2 ∧ s2 ≤ 35) (b3 : 0 ≤ s3 ∧ s3 ≤ 36) (b4 : 0 ≤ s4 ∧ s4 ≤ 35) (b5 : (-2147483648) ≤ s5 ∧ s5 ≤ 2147483647) (m0 : HP 228 (s0) (4096 * s1 + 64 * s2 + s3) M) (f0 : 0 ≤ ((-1) * s3 + s4)) (hG : gI M) : (HP 228 (s0) (4096 * s1 + 64 * s2 + s3) (st M 52 (s4).toNat (s5)) ∧ True) := by
  obtain ⟨p, s, h1, h2, h3, h4, h5, h6, h7⟩ := Eq.mp hp_228 m0
  have l1 : trN (M 49) s ≤ s := trN_le
  have e0_ : p = s1.toNat := by omega
  subst e0_
  have e1_ : s = s2.toNat := by omega
  subst e1_
  have ec : trN (M 49) s2.toNat = s3.toNat := by omega
  refine ⟨Eq.mpr hp_228 ?_, trivial⟩
  rw [st_r (show 49 ≠ 52 by decide), st_r (show 42 ≠ 52 by decide), st_r (show 43 ≠ 52 by decide), st_r (show 46 ≠ 52 by decide), st_r (show 47 ≠ 52 by decide), st_r (show 44 ≠ 52 by decide), st_r (show 45 ≠ 52 by decide), st_r (show 50 ≠ 52 by decide), st_r (show 51 ≠ 52 by decide), st_r (show 40 ≠ 52 by decide)]
  refine ⟨s1.toNat, s2.toNat, by omega, by omega, by omega, h4, h5, h6, fun q hq hl => ?_⟩
  obtain ⟨d1, d2, d3⟩ := h7 q hq hl
  have hlt : trN (M 49) q < s3.toNat := by rw [← ec]; exact trN_lt hq hl
  rw [cw0, if_neg (by omega)]
  exact ⟨d1, d2, d3⟩
theorem rul_781 : Rul r_781 := by
  refine ⟨fun h => (by cases h), fun gi gv hg ρ M hm hB hF hG => ?_⟩
  obtain ⟨g1, g2⟩ := List.cons.inj (show ([aI ((0 : Int), ([(4, 1)] : List (Nat × Int))), aI ((0 : Int), ([(5, 1)] : List (Nat × Int)))] : List av) = [.inl gi, .inl gv] from hg)
  obtain ⟨g2, -⟩ := List.cons.inj g2
  cases g1
  cases g2
  have ei : ev ρ ((0 : Int), ([(4, 1)] : List (Nat × Int))) = ((ρ 4)) := by show 0 + (1 * ρ 4 + 0) = _; omega
  have ew : ev ρ ((0 : Int), ([(5, 1)] : List (Nat × Int))) = ((ρ 5)) := by show 0 + (1 * ρ 5 + 0) = _; omega
  rw [show (st M (ctj r_781) (ev ρ ((0 : Int), ([(4, 1)] : List (Nat × Int)))).toNat (ev ρ ((0 : Int), ([(5, 1)] : List (Nat × Int))))) = (st M 52 ((ρ 4)).toNat ((ρ 5))) from by rw [ei, ew]; rfl]
  have H := cr_781 M (ρ 0) (ρ 1) (ρ 2) (ρ 3) (ρ 4) (ρ 5) (hB _ List.mem_cons_self) (hB _ (List.mem_cons_of_mem _ List.mem_cons_self)) (hB _ (List.mem_cons_of_mem _ (List.mem_cons_of_mem _ List.mem_cons_self))) (hB _ (List.mem_cons_of_mem _ (List.mem_cons_of_mem _ (List.mem_cons_of_mem _ List.mem_cons_self)))) (hB _ (List.mem_cons_of_mem _ (List.mem_cons_of_mem _ (List.mem_cons_of_mem _ (List.mem_cons_of_mem _ List.mem_cons_self))))) (hB _ (List.mem_cons_of_mem _ (List.mem_cons_of_mem _ (List.mem_cons_of_mem _ (List.mem_cons_of_mem _ (List.mem_cons_of_mem _ List.mem_cons_self)))))) (cvp 228 (x' := ((ρ 0))) (y' := (4096 * (ρ 1) + 64 * (ρ 2) + (ρ 3))) (by show 0 + (1 * ρ 0 + 0) = _; omega) (by show 0 + (4096 * ρ 1 + (64 * ρ 2 + (1 * ρ 3 + 0))) = _; omega) (hm _ List.mem_cons_self)) (by have h := hF _ List.mem_cons_self; have h : 0 ≤ 0 + ((-1) * ρ 3 + (1 * ρ 4 + 0)) := h; omega) hG
  obtain ⟨k0, -⟩ := H
  exact ⟨_, List.mem_cons_self, ρ, fun _ _ => rfl, (okM_c (pvp 228 (by show 0 + (1 * ρ 0 + 0) = _; omega) (by show 0 + (4096 * ρ 1 + (64 * ρ 2 + (1 * ρ 3 + 0))) = _; omega) k0) okM_n), okB_n, okF_n⟩
-- gbn_c
theorem cr_782 (M : pM) (s0 s1 s2 s3 s4 s5 s6 s7 s8 s9 : Int) (b0 : (-2147483648) ≤ s0 ∧ s0 ≤ 2147483647) (b1 : 0 ≤ s1 ∧ s1 ≤ 7) (b2 : 0 ≤ s2 ∧ s2 ≤ 35) (b3 : 0 ≤ s3 ∧ s3 ≤ 35) (b4 : 0 ≤ s4 ∧ s4 ≤ 199) (b5 : (-2147483648) ≤ s5 ∧ s5 ≤ 2147483647) (b6 : (-2147483648) ≤ s6 ∧ s6 ≤ 2147483647) (b7 : (-2147483648) ≤ s7 ∧ s7 ≤ 2147483647) (b8 : (-2147483648) ≤ s8 ∧ s8 ≤ 2147483647) (b9 : (-2147483648) ≤ s9 ∧ s9 ≤ 2147483647) (m0 : HP 228 (s0) (4096 * s1 + 64 * s2 + s3) M) (m1 : (0 ≤ (s2) ∧ M 49 (s2).toNat = (s4))) (m2 : (0 ≤ (s3) ∧ M 50 (s3).toNat = (s5))) (m3 : (0 ≤ (s3) ∧ M 51 (s3).toNat = (s6))) (m4 : (0 ≤ (s4) ∧ M 44 (s4).toNat = (s7))) (m5 : (0 ≤ (s3) ∧ M 52 (s3).toNat = (s8))) (m6 : (0 ≤ (s4) ∧ M 45 (s4).toNat = (s9))) (f0 : 0 ≤ (s2 + (-1) * s5)) (f1 : 0 ≤ ((-1) * s2 + s5)) (f2 : 0 ≤ ((-1) * s6 + s7)) (f3 : 0 ≤ (s6 + (-1) * s7)) (f4 : 0 ≤ ((-1) * s8 + s9)) (f5 : 0 ≤ (s8 + (-1) * s9)) (hG : gI M) : (HP 228 (s0) (4096 * s1 + 64 * s2 + s3 + 65) M ∧ True) := by
  obtain ⟨p, s, h1, h2, h3, h4, h5, h6, h7⟩ := Eq.mp hp_228 m0
  have l1 : trN (M 49) s ≤ s := trN_le
  have e0_ : p = s1.toNat := by omega
  subst e0_
  have e1_ : s = s2.toNat := by omega
  subst e1_
  have ec : trN (M 49) s2.toNat = s3.toNat := by omega
  have ev : M 49 s2.toNat = s4 := m1.2
  have en : trN (M 49) (s2.toNat + 1) = trN (M 49) s2.toNat + 1 := if_neg (by omega)
  have w2 := m2.2
  have w3 := m3.2
  have w4 := m4.2
  have w5 := m5.2
  have w6 := m6.2
  refine ⟨Eq.mpr hp_228 ⟨s1.toNat, s2.toNat + 1, by omega, by omega, by rw [en]; omega, h4, h5, h6, fun q hq hl => ?_⟩, trivial⟩
  by_cases e : q = s2.toNat
  · rw [e, ec, ev]
    exact ⟨by omega, by omega, by omega⟩
  · exact h7 q (by omega) hl
theorem rul_782 : Rul r_782 := by
  refine ⟨fun _ ρ M hm hB hF hG => ?_, fun gi gv hg => (by cases hg)⟩
  have H := cr_782 M (ρ 0) (ρ 1) (ρ 2) (ρ 3) (ρ 4) (ρ 5) (ρ 6) (ρ 7) (ρ 8) (ρ 9) (hB _ List.mem_cons_self) (hB _ (List.mem_cons_of_mem _ List.mem_cons_self)) (hB _ (List.mem_cons_of_mem _ (List.mem_cons_of_mem _ List.mem_cons_self))) (hB _ (List.mem_cons_of_mem _ (List.mem_cons_of_mem _ (List.mem_cons_of_mem _ List.mem_cons_self)))) (hB _ (List.mem_cons_of_mem _ (List.mem_cons_of_mem _ (List.mem_cons_of_mem _ (List.mem_cons_of_mem _ List.mem_cons_self))))) (hB _ (List.mem_cons_of_mem _ (List.mem_cons_of_mem _ (List.mem_cons_of_mem _ (List.mem_cons_of_mem _ (List.mem_cons_of_mem _ List.mem_cons_self)))))) (hB _ (List.mem_cons_of_mem _ (List.mem_cons_of_mem _ (List.mem_cons_of_mem _ (List.mem_cons_of_mem _ (List.mem_cons_of_mem _ (List.mem_cons_of_mem _ List.mem_cons_self))))))) (hB _ (List.mem_cons_of_mem _ (List.mem_cons_of_mem _ (List.mem_cons_of_mem _ (List.mem_cons_of_mem _ (List.mem_cons_of_mem _ (List.mem_cons_of_mem _ (List.mem_cons_of_mem _ List.mem_cons_self)))))))) (hB _ (List.mem_cons_of_mem _ (List.mem_cons_of_mem _ (List.mem_cons_of_mem _ (List.mem_cons_of_mem _ (List.mem_cons_of_mem _ (List.mem_cons_of_mem _ (List.mem_cons_of_mem _ (List.mem_cons_of_mem _ List.mem_cons_self))))))))) (hB _ (List.mem_cons_of_mem _ (List.mem_cons_of_mem _ (List.mem_cons_of_mem _ (List.mem_cons_of_mem _ (List.mem_cons_of_mem _ (List.mem_cons_of_mem _ (List.mem_cons_of_mem _ (List.mem_cons_of_mem _ (List.mem_cons_of_mem _ List.mem_cons_self)))))))))) (cvp 228 (x' := ((ρ 0))) (y' := (4096 * (ρ 1) + 64 * (ρ 2) + (ρ 3))) (by show 0 + (1 * ρ 0 + 0) = _; omega) (by show 0 + (4096 * ρ 1 + (64 * ρ 2 + (1 * ρ 3 + 0))) = _; omega) (hm _ List.mem_cons_self)) (cvm (c := 49) (by decide) (x' := ((ρ 2))) (y' := ((ρ 4))) (by show 0 + (1 * ρ 2 + 0) = _; omega) (by show 0 + (1 * ρ 4 + 0) = _; omega) (hm _ (List.mem_cons_of_mem _ List.mem_cons_self))) (cvm (c := 50) (by decide) (x' := ((ρ 3))) (y' := ((ρ 5))) (by show 0 + (1 * ρ 3 + 0) = _; omega) (by show 0 + (1 * ρ 5 + 0) = _; omega) (hm _ (List.mem_cons_of_mem _ (List.mem_cons_of_mem _ List.mem_cons_self)))) (cvm (c := 51) (by decide) (x' := ((ρ 3))) (y' := ((ρ 6))) (by show 0 + (1 * ρ 3 + 0) = _; omega) (by show 0 + (1 * ρ 6 + 0) = _; omega) (hm _ (List.mem_cons_of_mem _ (List.mem_cons_of_mem _ (List.mem_cons_of_mem _ List.mem_cons_self))))) (cvm (c := 44) (by decide) (x' := ((ρ 4))) (y' := ((ρ 7))) (by show 0 + (1 * ρ 4 + 0) = _; omega) (by show 0 + (1 * ρ 7 + 0) = _; omega) (hm _ (List.mem_cons_of_mem _ (List.mem_cons_of_mem _ (List.mem_cons_of_mem _ (List.mem_cons_of_mem _ List.mem_cons_self)))))) (cvm (c := 52) (by decide) (x' := ((ρ 3))) (y' := ((ρ 8))) (by show 0 + (1 * ρ 3 + 0) = _; omega) (by show 0 + (1 * ρ 8 + 0) = _; omega) (hm _ (List.mem_cons_of_mem _ (List.mem_cons_of_mem _ (List.mem_cons_of_mem _ (List.mem_cons_of_mem _ (List.mem_cons_of_mem _ List.mem_cons_self))))))) (cvm (c := 45) (by decide) (x' := ((ρ 4))) (y' := ((ρ 9))) (by show 0 + (1 * ρ 4 + 0) = _; omega) (by show 0 + (1 * ρ 9 + 0) = _; omega) (hm _ (List.mem_cons_of_mem _ (List.mem_cons_of_mem _ (List.mem_cons_of_mem _ (List.mem_cons_of_mem _ (List.mem_cons_of_mem _ (List.mem_cons_of_mem _ List.mem_cons_self)))))))) (by have h := hF _ List.mem_cons_self; have h : 0 ≤ 0 + (1 * ρ 2 + ((-1) * ρ 5 + 0)) := h; omega) (by have h := hF _ (List.mem_cons_of_mem _ List.mem_cons_self); have h : 0 ≤ 0 + ((-1) * ρ 2 + (1 * ρ 5 + 0)) := h; omega) (by have h := hF _ (List.mem_cons_of_mem _ (List.mem_cons_of_mem _ List.mem_cons_self)); have h : 0 ≤ 0 + ((-1) * ρ 6 + (1 * ρ 7 + 0)) := h; omega) (by have h := hF _ (List.mem_cons_of_mem _ (List.mem_cons_of_mem _ (List.mem_cons_of_mem _ List.mem_cons_self))); have h : 0 ≤ 0 + (1 * ρ 6 + ((-1) * ρ 7 + 0)) := h; omega) (by have h := hF _ (List.mem_cons_of_mem _ (List.mem_cons_of_mem _ (List.mem_cons_of_mem _ (List.mem_cons_of_mem _ List.mem_cons_self)))); have h : 0 ≤ 0 + ((-1) * ρ 8 + (1 * ρ 9 + 0)) := h; omega) (by have h := hF _ (List.mem_cons_of_mem _ (List.mem_cons_of_mem _ (List.mem_cons_of_mem _ (List.mem_cons_of_mem _ (List.mem_cons_of_mem _ List.mem_cons_self))))); have h : 0 ≤ 0 + (1 * ρ 8 + ((-1) * ρ 9 + 0)) := h; omega) hG
  obtain ⟨k0, -⟩ := H
  exact ⟨_, List.mem_cons_self, ρ, fun _ _ => rfl, (okM_c (pvp 228 (by show 0 + (1 * ρ 0 + 0) = _; omega) (by show 65 + (4096 * ρ 1 + (64 * ρ 2 + (1 * ρ 3 + 0))) = _; omega) k0) okM_n), okB_n, okF_n⟩
-- rp0_c
theorem cr_783 (M : pM) (s0 s1 : Int) (b0 : 0 ≤ s0 ∧ s0 ≤ 36) (b1 : 0 ≤ s1 ∧ s1 ≤ 4) (hG : gI M) : (HP 230 (0 : Int) (64 * s0 + 9 * s1) M ∧ True) := by
  exact ⟨Eq.mpr hp_230 ⟨s0.toNat, s1.toNat, s1.toNat, by omega, Nat.le_refl _, by omega, Or.inr rfl, by omega, fun j h1 h2 => by omega⟩, trivial⟩
theorem rul_783 : Rul r_783 := by
  refine ⟨fun _ ρ M hm hB hF hG => ?_, fun gi gv hg => (by cases hg)⟩
  have H := cr_783 M (ρ 0) (ρ 1) (hB _ List.mem_cons_self) (hB _ (List.mem_cons_of_mem _ List.mem_cons_self)) hG
  obtain ⟨k0, -⟩ := H
  exact ⟨_, List.mem_cons_self, ρ, fun _ _ => rfl, (okM_c (pvp 230 (by show 0 + 0 = _; omega) (by show 0 + (64 * ρ 0 + (9 * ρ 1 + 0)) = _; omega) k0) okM_n), okB_n, okF_n⟩
-- rpn_c
theorem cr_784 (M : pM) (s0 s1 s2 s3 s4 s5 s6 : Int) (b0 : 0 ≤ s0 ∧ s0 ≤ 35) (b1 : 0 ≤ s1 ∧ s1 ≤ 4) (b2 : 0 ≤ s2 ∧ s2 ≤ 3) (b3 : 0 ≤ s3 ∧ s3 ≤ 63) (b4 : 0 ≤ s4 ∧ s4 ≤ 63) (b5 : (-2147483648) ≤ s5 ∧ s5 ≤ 2147483647) (b6 : 0 ≤ s6 ∧ s6 ≤ 7) (m0 : HP 230 (0 : Int) (64 * s0 + 8 * s1 + s2) M) (m1 : (0 ≤ (s0) ∧ M 51 (s0).toNat = (s3))) (m2 : (0 ≤ (s2) ∧ M 27 (s2).toNat = (s4))) (m3 : (0 ≤ (2 : Int) ∧ M 26 (2 : Int).toNat = (s5))) (m4 : HP 223 (64 * s3 + s4) (s6) M) (f0 : 0 ≤ (s5 + (-1) * s6)) (hG : gI M) : (HP 230 (0 : Int) (64 * s0 + 8 * s1 + s2 + 1) M ∧ True) := by
  have hz : zoA (M 51) (M 27) (M 26 2) s0.toNat s2.toNat := by
    obtain ⟨x1, x2, y1, y2, y3, y4⟩ := Eq.mp hp_223 m4
    show ((apF (M 51 s0.toNat).toNat (M 27 s2.toNat).toNat : Int) ≤ M 26 2)
    rw [m1.2, m2.2, show s3.toNat = x1 by omega, show s4.toNat = x2 by omega, show M 26 2 = s5 from m3.2]
    omega
  obtain ⟨n, b, a, h1, h2, h3, h4, h5, h6⟩ := Eq.mp hp_230 m0
  have e0_ : n = s0.toNat := by omega
  subst e0_
  have e1_ : b = s1.toNat := by omega
  subst e1_
  have e2_ : a = s2.toNat := by omega
  subst e2_
  exact ⟨Eq.mpr hp_230 ⟨s0.toNat, s1.toNat, s2.toNat + 1, by omega, by omega, by omega, Or.inl (by omega), by omega, fun j j1 j2 => if e : j = s2.toNat then (by rw [e]; exact hz) else h6 j j1 (by omega)⟩, trivial⟩
theorem rul_784 : Rul r_784 := by
  refine ⟨fun _ ρ M hm hB hF hG => ?_, fun gi gv hg => (by cases hg)⟩
  have H := cr_784 M (ρ 0) (ρ 1) (ρ 2) (ρ 3) (ρ 4) (ρ 5) (ρ 6) (hB _ List.mem_cons_self) (hB _ (List.mem_cons_of_mem _ List.mem_cons_self)) (hB _ (List.mem_cons_of_mem _ (List.mem_cons_of_mem _ List.mem_cons_self))) (hB _ (List.mem_cons_of_mem _ (List.mem_cons_of_mem _ (List.mem_cons_of_mem _ List.mem_cons_self)))) (hB _ (List.mem_cons_of_mem _ (List.mem_cons_of_mem _ (List.mem_cons_of_mem _ (List.mem_cons_of_mem _ List.mem_cons_self))))) (hB _ (List.mem_cons_of_mem _ (List.mem_cons_of_mem _ (List.mem_cons_of_mem _ (List.mem_cons_of_mem _ (List.mem_cons_of_mem _ List.mem_cons_self)))))) (hB _ (List.mem_cons_of_mem _ (List.mem_cons_of_mem _ (List.mem_cons_of_mem _ (List.mem_cons_of_mem _ (List.mem_cons_of_mem _ (List.mem_cons_of_mem _ List.mem_cons_self))))))) (cvp 230 (x' := (0 : Int)) (y' := (64 * (ρ 0) + 8 * (ρ 1) + (ρ 2))) (by show 0 + 0 = _; omega) (by show 0 + (64 * ρ 0 + (8 * ρ 1 + (1 * ρ 2 + 0))) = _; omega) (hm _ List.mem_cons_self)) (cvm (c := 51) (by decide) (x' := ((ρ 0))) (y' := ((ρ 3))) (by show 0 + (1 * ρ 0 + 0) = _; omega) (by show 0 + (1 * ρ 3 + 0) = _; omega) (hm _ (List.mem_cons_of_mem _ List.mem_cons_self))) (cvm (c := 27) (by decide) (x' := ((ρ 2))) (y' := ((ρ 4))) (by show 0 + (1 * ρ 2 + 0) = _; omega) (by show 0 + (1 * ρ 4 + 0) = _; omega) (hm _ (List.mem_cons_of_mem _ (List.mem_cons_of_mem _ List.mem_cons_self)))) (cvm (c := 26) (by decide) (x' := (2 : Int)) (y' := ((ρ 5))) (by show 2 + 0 = _; omega) (by show 0 + (1 * ρ 5 + 0) = _; omega) (hm _ (List.mem_cons_of_mem _ (List.mem_cons_of_mem _ (List.mem_cons_of_mem _ List.mem_cons_self))))) (cvp 223 (x' := (64 * (ρ 3) + (ρ 4))) (y' := ((ρ 6))) (by show 0 + (64 * ρ 3 + (1 * ρ 4 + 0)) = _; omega) (by show 0 + (1 * ρ 6 + 0) = _; omega) (hm _ (List.mem_cons_of_mem _ (List.mem_cons_of_mem _ (List.mem_cons_of_mem _ (List.mem_cons_of_mem _ List.mem_cons_self)))))) (by have h := hF _ List.mem_cons_self; have h : 0 ≤ 0 + (1 * ρ 5 + ((-1) * ρ 6 + 0)) := h; omega) hG
  obtain ⟨k0, -⟩ := H
  exact ⟨_, List.mem_cons_self, ρ, fun _ _ => rfl, (okM_c (pvp 230 (by show 0 + 0 = _; omega) (by show 1 + (64 * ρ 0 + (8 * ρ 1 + (1 * ρ 2 + 0))) = _; omega) k0) okM_n), okB_n, okF_n⟩
-- rtn_c
theorem cr_785 (M : pM) (s0 s1 s2 s3 s4 s5 s6 s7 : Int) (b0 : 0 ≤ s0 ∧ s0 ≤ 35) (b1 : 0 ≤ s1 ∧ s1 ≤ 4) (b2 : 0 ≤ s2 ∧ s2 ≤ 3) (b3 : 0 ≤ s3 ∧ s3 ≤ 63) (b4 : 0 ≤ s4 ∧ s4 ≤ 63) (b5 : (-2147483648) ≤ s5 ∧ s5 ≤ 2147483647) (b6 : 0 ≤ s6 ∧ s6 ≤ 7) (b7 : 0 ≤ s7 ∧ s7 ≤ 4) (m0 : HP 230 (0 : Int) (64 * s0 + 8 * s1 + s2) M) (m1 : (0 ≤ (s0) ∧ M 51 (s0).toNat = (s3))) (m2 : (0 ≤ (s2) ∧ M 27 (s2).toNat = (s4))) (m3 : (0 ≤ (2 : Int) ∧ M 26 (2 : Int).toNat = (s5))) (m4 : HP 223 (64 * s3 + s4) (s6) M) (m5 : (0 ≤ (1 : Int) ∧ M 26 (1 : Int).toNat = (s7))) (f0 : 0 ≤ ((-1) * s5 + s6 - 1)) (f1 : 0 ≤ ((-1) * s2 + s7 - 1)) (hG : gI M) : (HP 232 (0 : Int) (64 * s0 + 8 * s1 + s2) M ∧ True) := by
  have hz : ¬ zoA (M 51) (M 27) (M 26 2) s0.toNat s2.toNat := by
    obtain ⟨x1, x2, y1, y2, y3, y4⟩ := Eq.mp hp_223 m4
    show ¬ ((apF (M 51 s0.toNat).toNat (M 27 s2.toNat).toNat : Int) ≤ M 26 2)
    rw [m1.2, m2.2, show s3.toNat = x1 by omega, show s4.toNat = x2 by omega, show M 26 2 = s5 from m3.2]
    omega
  obtain ⟨n, b, a, h1, h2, h3, h4, h5, h6⟩ := Eq.mp hp_230 m0
  have e0_ : n = s0.toNat := by omega
  subst e0_
  have e1_ : b = s1.toNat := by omega
  subst e1_
  have e2_ : a = s2.toNat := by omega
  subst e2_
  have eq_ : M 26 1 = s7 := m5.2
  exact ⟨Eq.mpr hp_232 ⟨s0.toNat, s1.toNat, s2.toNat, by omega, h2, by omega, by omega, by omega, h2, by omega, h6, fun _ => hz⟩, trivial⟩
theorem rul_785 : Rul r_785 := by
  refine ⟨fun _ ρ M hm hB hF hG => ?_, fun gi gv hg => (by cases hg)⟩
  have H := cr_785 M (ρ 0) (ρ 1) (ρ 2) (ρ 3) (ρ 4) (ρ 5) (ρ 6) (ρ 7) (hB _ List.mem_cons_self) (hB _ (List.mem_cons_of_mem _ List.mem_cons_self)) (hB _ (List.mem_cons_of_mem _ (List.mem_cons_of_mem _ List.mem_cons_self))) (hB _ (List.mem_cons_of_mem _ (List.mem_cons_of_mem _ (List.mem_cons_of_mem _ List.mem_cons_self)))) (hB _ (List.mem_cons_of_mem _ (List.mem_cons_of_mem _ (List.mem_cons_of_mem _ (List.mem_cons_of_mem _ List.mem_cons_self))))) (hB _ (List.mem_cons_of_mem _ (List.mem_cons_of_mem _ (List.mem_cons_of_mem _ (List.mem_cons_of_mem _ (List.mem_cons_of_mem _ List.mem_cons_self)))))) (hB _ (List.mem_cons_of_mem _ (List.mem_cons_of_mem _ (List.mem_cons_of_mem _ (List.mem_cons_of_mem _ (List.mem_cons_of_mem _ (List.mem_cons_of_mem _ List.mem_cons_self))))))) (hB _ (List.mem_cons_of_mem _ (List.mem_cons_of_mem _ (List.mem_cons_of_mem _ (List.mem_cons_of_mem _ (List.mem_cons_of_mem _ (List.mem_cons_of_mem _ (List.mem_cons_of_mem _ List.mem_cons_self)))))))) (cvp 230 (x' := (0 : Int)) (y' := (64 * (ρ 0) + 8 * (ρ 1) + (ρ 2))) (by show 0 + 0 = _; omega) (by show 0 + (64 * ρ 0 + (8 * ρ 1 + (1 * ρ 2 + 0))) = _; omega) (hm _ List.mem_cons_self)) (cvm (c := 51) (by decide) (x' := ((ρ 0))) (y' := ((ρ 3))) (by show 0 + (1 * ρ 0 + 0) = _; omega) (by show 0 + (1 * ρ 3 + 0) = _; omega) (hm _ (List.mem_cons_of_mem _ List.mem_cons_self))) (cvm (c := 27) (by decide) (x' := ((ρ 2))) (y' := ((ρ 4))) (by show 0 + (1 * ρ 2 + 0) = _; omega) (by show 0 + (1 * ρ 4 + 0) = _; omega) (hm _ (List.mem_cons_of_mem _ (List.mem_cons_of_mem _ List.mem_cons_self)))) (cvm (c := 26) (by decide) (x' := (2 : Int)) (y' := ((ρ 5))) (by show 2 + 0 = _; omega) (by show 0 + (1 * ρ 5 + 0) = _; omega) (hm _ (List.mem_cons_of_mem _ (List.mem_cons_of_mem _ (List.mem_cons_of_mem _ List.mem_cons_self))))) (cvp 223 (x' := (64 * (ρ 3) + (ρ 4))) (y' := ((ρ 6))) (by show 0 + (64 * ρ 3 + (1 * ρ 4 + 0)) = _; omega) (by show 0 + (1 * ρ 6 + 0) = _; omega) (hm _ (List.mem_cons_of_mem _ (List.mem_cons_of_mem _ (List.mem_cons_of_mem _ (List.mem_cons_of_mem _ List.mem_cons_self)))))) (cvm (c := 26) (by decide) (x' := (1 : Int)) (y' := ((ρ 7))) (by show 1 + 0 = _; omega) (by show 0 + (1 * ρ 7 + 0) = _; omega) (hm _ (List.mem_cons_of_mem _ (List.mem_cons_of_mem _ (List.mem_cons_of_mem _ (List.mem_cons_of_mem _ (List.mem_cons_of_mem _ List.mem_cons_self))))))) (by have h := hF _ List.mem_cons_self; have h : 0 ≤ (-1) + ((-1) * ρ 5 + (1 * ρ 6 + 0)) := h; omega) (by have h := hF _ (List.mem_cons_of_mem _ List.mem_cons_self); have h : 0 ≤ (-1) + ((-1) * ρ 2 + (1 * ρ 7 + 0)) := h; omega) hG
  obtain ⟨k0, -⟩ := H
  exact ⟨_, List.mem_cons_self, ρ, fun _ _ => rfl, (okM_c (pvp 232 (by show 0 + 0 = _; omega) (by show 0 + (64 * ρ 0 + (8 * ρ 1 + (1 * ρ 2 + 0))) = _; omega) k0) okM_n), okB_n, okF_n⟩
-- rte_c
theorem cr_786 (M : pM) (s0 s1 s2 s3 : Int) (b0 : 0 ≤ s0 ∧ s0 ≤ 35) (b1 : 0 ≤ s1 ∧ s1 ≤ 4) (b2 : 0 ≤ s2 ∧ s2 ≤ 4) (b3 : 0 ≤ s3 ∧ s3 ≤ 4) (m0 : HP 230 (0 : Int) (64 * s0 + 8 * s1 + s2) M) (m1 : (0 ≤ (1 : Int) ∧ M 26 (1 : Int).toNat = (s3))) (f0 : 0 ≤ ((-1) * s2 + s3)) (f1 : 0 ≤ (s2 + (-1) * s3)) (hG : gI M) : (HP 232 (0 : Int) (64 * s0 + 8 * s1 + s2) M ∧ True) := by
  obtain ⟨n, b, a, h1, h2, h3, h4, h5, h6⟩ := Eq.mp hp_230 m0
  have e0_ : n = s0.toNat := by omega
  subst e0_
  have e1_ : b = s1.toNat := by omega
  subst e1_
  have e2_ : a = s2.toNat := by omega
  subst e2_
  have eq_ : M 26 1 = s3 := m1.2
  exact ⟨Eq.mpr hp_232 ⟨s0.toNat, s1.toNat, s2.toNat, by omega, h2, by omega, by omega, by omega, h2, by omega, h6, fun hh => by omega⟩, trivial⟩
theorem rul_786 : Rul r_786 := by
  refine ⟨fun _ ρ M hm hB hF hG => ?_, fun gi gv hg => (by cases hg)⟩
  have H := cr_786 M (ρ 0) (ρ 1) (ρ 2) (ρ 3) (hB _ List.mem_cons_self) (hB _ (List.mem_cons_of_mem _ List.mem_cons_self)) (hB _ (List.mem_cons_of_mem _ (List.mem_cons_of_mem _ List.mem_cons_self))) (hB _ (List.mem_cons_of_mem _ (List.mem_cons_of_mem _ (List.mem_cons_of_mem _ List.mem_cons_self)))) (cvp 230 (x' := (0 : Int)) (y' := (64 * (ρ 0) + 8 * (ρ 1) + (ρ 2))) (by show 0 + 0 = _; omega) (by show 0 + (64 * ρ 0 + (8 * ρ 1 + (1 * ρ 2 + 0))) = _; omega) (hm _ List.mem_cons_self)) (cvm (c := 26) (by decide) (x' := (1 : Int)) (y' := ((ρ 3))) (by show 1 + 0 = _; omega) (by show 0 + (1 * ρ 3 + 0) = _; omega) (hm _ (List.mem_cons_of_mem _ List.mem_cons_self))) (by have h := hF _ List.mem_cons_self; have h : 0 ≤ 0 + ((-1) * ρ 2 + (1 * ρ 3 + 0)) := h; omega) (by have h := hF _ (List.mem_cons_of_mem _ List.mem_cons_self); have h : 0 ≤ 0 + (1 * ρ 2 + ((-1) * ρ 3 + 0)) := h; omega) hG
  obtain ⟨k0, -⟩ := H
  exact ⟨_, List.mem_cons_self, ρ, fun _ _ => rfl, (okM_c (pvp 232 (by show 0 + 0 = _; omega) (by show 0 + (64 * ρ 0 + (8 * ρ 1 + (1 * ρ 2 + 0))) = _; omega) k0) okM_n), okB_n, okF_n⟩
-- lr0_c
theorem cr_787 (M : pM) (s0 : Int) (b0 : 0 ≤ s0 ∧ s0 ≤ 4) (m0 : (0 ≤ (1 : Int) ∧ M 26 (1 : Int).toNat = (s0))) (hG : gI M) : (HP 236 (0 : Int) (0 : Int) M ∧ True) := by
  have eq_ : M 26 1 = s0 := m0.2
  exact ⟨Eq.mpr hp_236 ⟨0, 0, by omega, by omega, by omega, by omega, rfl⟩, trivial⟩
theorem rul_787 : Rul r_787 := by
  refine ⟨fun _ ρ M hm hB hF hG => ?_, fun gi gv hg => (by cases hg)⟩
  have H := cr_787 M (ρ 0) (hB _ List.mem_cons_self) (cvm (c := 26) (by decide) (x' := (1 : Int)) (y' := ((ρ 0))) (by show 1 + 0 = _; omega) (by show 0 + (1 * ρ 0 + 0) = _; omega) (hm _ List.mem_cons_self)) hG
  obtain ⟨k0, -⟩ := H
  exact ⟨_, List.mem_cons_self, ρ, fun _ _ => rfl, (okM_c (pvp 236 (by show 0 + 0 = _; omega) (by show 0 + 0 = _; omega) k0) okM_n), okB_n, okF_n⟩
-- lrn_c
theorem cr_788 (M : pM) (s0 s1 s2 : Int) (b0 : 0 ≤ s0 ∧ s0 ≤ 35) (b1 : 0 ≤ s1 ∧ s1 ≤ 4) (b2 : 0 ≤ s2 ∧ s2 ≤ 4) (m0 : HP 236 (0 : Int) (8 * s0 + s1) M) (m1 : HP 232 (0 : Int) (64 * s0 + 8 * s1 + s2) M) (hG : gI M) : (HP 236 (0 : Int) (8 * s0 + s2 + 8) M ∧ True) := by
  obtain ⟨i, r, h1, h2, h3, h4, h5⟩ := Eq.mp hp_236 m0
  obtain ⟨n, b, a, k1, k2, k3, k4, k5, k6⟩ := Eq.mp hp_232 m1
  have e0_ : i = s0.toNat := by omega
  subst e0_
  have e1_ : r = s1.toNat := by omega
  subst e1_
  have e2_ : n = s0.toNat := by omega
  subst e2_
  have e3_ : b = s1.toNat := by omega
  subst e3_
  have e4_ : a = s2.toNat := by omega
  subst e4_
  exact ⟨Eq.mpr hp_236 ⟨s0.toNat + 1, s2.toNat, by omega, by omega, h3, by omega, ⟨s1.toNat, h5, k6⟩⟩, trivial⟩
theorem rul_788 : Rul r_788 := by
  refine ⟨fun _ ρ M hm hB hF hG => ?_, fun gi gv hg => (by cases hg)⟩
  have H := cr_788 M (ρ 0) (ρ 1) (ρ 2) (hB _ List.mem_cons_self) (hB _ (List.mem_cons_of_mem _ List.mem_cons_self)) (hB _ (List.mem_cons_of_mem _ (List.mem_cons_of_mem _ List.mem_cons_self))) (cvp 236 (x' := (0 : Int)) (y' := (8 * (ρ 0) + (ρ 1))) (by show 0 + 0 = _; omega) (by show 0 + (8 * ρ 0 + (1 * ρ 1 + 0)) = _; omega) (hm _ List.mem_cons_self)) (cvp 232 (x' := (0 : Int)) (y' := (64 * (ρ 0) + 8 * (ρ 1) + (ρ 2))) (by show 0 + 0 = _; omega) (by show 0 + (64 * ρ 0 + (8 * ρ 1 + (1 * ρ 2 + 0))) = _; omega) (hm _ (List.mem_cons_of_mem _ List.mem_cons_self))) hG
  obtain ⟨k0, -⟩ := H
  exact ⟨_, List.mem_cons_self, ρ, fun _ _ => rfl, (okM_c (pvp 236 (by show 0 + 0 = _; omega) (by show 8 + (8 * ρ 0 + (1 * ρ 2 + 0)) = _; omega) k0) okM_n), okB_n, okF_n⟩
-- cb000_c
theorem cr_789 (M : pM) (s0 s1 s2 s3 s4 s5 s6 s7 s8 s9 : Int) (b0 : 0 ≤ s0 ∧ s0 ≤ 34) (b1 : 0 ≤ s1 ∧ s1 ≤ 3) (b2 : 0 ≤ s2 ∧ s2 ≤ 63) (b3 : 0 ≤ s3 ∧ s3 ≤ 63) (b4 : 0 ≤ s4 ∧ s4 ≤ 63) (b5 : 0 ≤ s5 ∧ s5 ≤ 3) (b6 : 0 ≤ s6 ∧ s6 ≤ 7) (b7 : 0 ≤ s7 ∧ s7 ≤ 7) (b8 : 0 ≤ s8 ∧ s8 ≤ 35) (b9 : 0 ≤ s9 ∧ s9 ≤ 35) (m0 : (0 ≤ (s0) ∧ M 51 (s0).toNat = (s2))) (m1 : (0 ≤ (s0 + 1) ∧ M 51 (s0 + 1).toNat = (s3))) (m2 : (0 ≤ (s1) ∧ M 27 (s1).toNat = (s4))) (m3 : (0 ≤ (2 : Int) ∧ M 26 (2 : Int).toNat = (s5))) (m4 : (0 ≤ (s0) ∧ M 50 (s0).toNat = (s8))) (m5 : (0 ≤ (s0 + 1) ∧ M 50 (s0 + 1).toNat = (s9))) (m6 : HP 223 (64 * s2 + s4) (s6) M) (m7 : HP 223 (64 * s3 + s4) (s7) M) (f0 : 0 ≤ (s5 + (-1) * s6)) (f1 : 0 ≤ (s5 + (-1) * s7)) (f2 : 0 ≤ (s8 + (-1) * s9 - 1)) (hG : gI M) : (HP 234 (0 : Int) (16 * s0 + 2 * s1) M ∧ True) := by
  obtain ⟨x1, x2, y1, y2, y3, y4⟩ := Eq.mp hp_223 m6
  obtain ⟨w1, w2, v1, v2, v3, v4⟩ := Eq.mp hp_223 m7
  have e1 := m1.2
  rw [show (s0 + 1).toNat = s0.toNat + 1 by omega] at e1
  have e5 := m5.2
  rw [show (s0 + 1).toNat = s0.toNat + 1 by omega] at e5
  have e4 := m4.2
  have ez : M 26 2 = s5 := m3.2
  have t1 := tzF_e (ce := M 51) (pt := M 27) (z := M 26 2) (n := s0.toNat) (a := s1.toNat) (v := s6) (by rw [m0.2, m2.2, show s2.toNat = x1 by omega, show s4.toNat = x2 by omega]; exact y4)
  have t2 := tzF_e (ce := M 51) (pt := M 27) (z := M 26 2) (n := s0.toNat + 1) (a := s1.toNat) (v := s7) (by rw [e1, m2.2, show s3.toNat = w1 by omega, show s4.toNat = w2 by omega]; exact v4)
  have hz : ¬ tzR (M 51) (M 50) (M 27) (M 26 2) s0.toNat s1.toNat := by
    unfold tzR
    rw [t1, t2, e4, e5]
    (repeat' split) <;> omega
  exact ⟨Eq.mpr hp_234 ⟨s0.toNat, s1.toNat, 0, by omega, by omega, by omega, by omega, ⟨fun h => absurd h (by decide), fun h => absurd h hz⟩⟩, trivial⟩
theorem rul_789 : Rul r_789 := by
  refine ⟨fun _ ρ M hm hB hF hG => ?_, fun gi gv hg => (by cases hg)⟩
  have H := cr_789 M (ρ 0) (ρ 1) (ρ 2) (ρ 3) (ρ 4) (ρ 5) (ρ 6) (ρ 7) (ρ 8) (ρ 9) (hB _ List.mem_cons_self) (hB _ (List.mem_cons_of_mem _ List.mem_cons_self)) (hB _ (List.mem_cons_of_mem _ (List.mem_cons_of_mem _ List.mem_cons_self))) (hB _ (List.mem_cons_of_mem _ (List.mem_cons_of_mem _ (List.mem_cons_of_mem _ List.mem_cons_self)))) (hB _ (List.mem_cons_of_mem _ (List.mem_cons_of_mem _ (List.mem_cons_of_mem _ (List.mem_cons_of_mem _ List.mem_cons_self))))) (hB _ (List.mem_cons_of_mem _ (List.mem_cons_of_mem _ (List.mem_cons_of_mem _ (List.mem_cons_of_mem _ (List.mem_cons_of_mem _ List.mem_cons_self)))))) (hB _ (List.mem_cons_of_mem _ (List.mem_cons_of_mem _ (List.mem_cons_of_mem _ (List.mem_cons_of_mem _ (List.mem_cons_of_mem _ (List.mem_cons_of_mem _ List.mem_cons_self))))))) (hB _ (List.mem_cons_of_mem _ (List.mem_cons_of_mem _ (List.mem_cons_of_mem _ (List.mem_cons_of_mem _ (List.mem_cons_of_mem _ (List.mem_cons_of_mem _ (List.mem_cons_of_mem _ List.mem_cons_self)))))))) (hB _ (List.mem_cons_of_mem _ (List.mem_cons_of_mem _ (List.mem_cons_of_mem _ (List.mem_cons_of_mem _ (List.mem_cons_of_mem _ (List.mem_cons_of_mem _ (List.mem_cons_of_mem _ (List.mem_cons_of_mem _ List.mem_cons_self))))))))) (hB _ (List.mem_cons_of_mem _ (List.mem_cons_of_mem _ (List.mem_cons_of_mem _ (List.mem_cons_of_mem _ (List.mem_cons_of_mem _ (List.mem_cons_of_mem _ (List.mem_cons_of_mem _ (List.mem_cons_of_mem _ (List.mem_cons_of_mem _ List.mem_cons_self)))))))))) (cvm (c := 51) (by decide) (x' := ((ρ 0))) (y' := ((ρ 2))) (by show 0 + (1 * ρ 0 + 0) = _; omega) (by show 0 + (1 * ρ 2 + 0) = _; omega) (hm _ List.mem_cons_self)) (cvm (c := 51) (by decide) (x' := ((ρ 0) + 1)) (y' := ((ρ 3))) (by show 1 + (1 * ρ 0 + 0) = _; omega) (by show 0 + (1 * ρ 3 + 0) = _; omega) (hm _ (List.mem_cons_of_mem _ List.mem_cons_self))) (cvm (c := 27) (by decide) (x' := ((ρ 1))) (y' := ((ρ 4))) (by show 0 + (1 * ρ 1 + 0) = _; omega) (by show 0 + (1 * ρ 4 + 0) = _; omega) (hm _ (List.mem_cons_of_mem _ (List.mem_cons_of_mem _ List.mem_cons_self)))) (cvm (c := 26) (by decide) (x' := (2 : Int)) (y' := ((ρ 5))) (by show 2 + 0 = _; omega) (by show 0 + (1 * ρ 5 + 0) = _; omega) (hm _ (List.mem_cons_of_mem _ (List.mem_cons_of_mem _ (List.mem_cons_of_mem _ List.mem_cons_self))))) (cvm (c := 50) (by decide) (x' := ((ρ 0))) (y' := ((ρ 8))) (by show 0 + (1 * ρ 0 + 0) = _; omega) (by show 0 + (1 * ρ 8 + 0) = _; omega) (hm _ (List.mem_cons_of_mem _ (List.mem_cons_of_mem _ (List.mem_cons_of_mem _ (List.mem_cons_of_mem _ List.mem_cons_self)))))) (cvm (c := 50) (by decide) (x' := ((ρ 0) + 1)) (y' := ((ρ 9))) (by show 1 + (1 * ρ 0 + 0) = _; omega) (by show 0 + (1 * ρ 9 + 0) = _; omega) (hm _ (List.mem_cons_of_mem _ (List.mem_cons_of_mem _ (List.mem_cons_of_mem _ (List.mem_cons_of_mem _ (List.mem_cons_of_mem _ List.mem_cons_self))))))) (cvp 223 (x' := (64 * (ρ 2) + (ρ 4))) (y' := ((ρ 6))) (by show 0 + (64 * ρ 2 + (1 * ρ 4 + 0)) = _; omega) (by show 0 + (1 * ρ 6 + 0) = _; omega) (hm _ (List.mem_cons_of_mem _ (List.mem_cons_of_mem _ (List.mem_cons_of_mem _ (List.mem_cons_of_mem _ (List.mem_cons_of_mem _ (List.mem_cons_of_mem _ List.mem_cons_self)))))))) (cvp 223 (x' := (64 * (ρ 3) + (ρ 4))) (y' := ((ρ 7))) (by show 0 + (64 * ρ 3 + (1 * ρ 4 + 0)) = _; omega) (by show 0 + (1 * ρ 7 + 0) = _; omega) (hm _ (List.mem_cons_of_mem _ (List.mem_cons_of_mem _ (List.mem_cons_of_mem _ (List.mem_cons_of_mem _ (List.mem_cons_of_mem _ (List.mem_cons_of_mem _ (List.mem_cons_of_mem _ List.mem_cons_self))))))))) (by have h := hF _ List.mem_cons_self; have h : 0 ≤ 0 + (1 * ρ 5 + ((-1) * ρ 6 + 0)) := h; omega) (by have h := hF _ (List.mem_cons_of_mem _ List.mem_cons_self); have h : 0 ≤ 0 + (1 * ρ 5 + ((-1) * ρ 7 + 0)) := h; omega) (by have h := hF _ (List.mem_cons_of_mem _ (List.mem_cons_of_mem _ List.mem_cons_self)); have h : 0 ≤ (-1) + (1 * ρ 8 + ((-1) * ρ 9 + 0)) := h; omega) hG
  obtain ⟨k0, -⟩ := H
  exact ⟨_, List.mem_cons_self, ρ, fun _ _ => rfl, (okM_c (pvp 234 (by show 0 + 0 = _; omega) (by show 0 + (16 * ρ 0 + (2 * ρ 1 + 0)) = _; omega) k0) okM_n), okB_n, okF_n⟩
-- cb001_c
theorem cr_790 (M : pM) (s0 s1 s2 s3 s4 s5 s6 s7 s8 s9 : Int) (b0 : 0 ≤ s0 ∧ s0 ≤ 34) (b1 : 0 ≤ s1 ∧ s1 ≤ 3) (b2 : 0 ≤ s2 ∧ s2 ≤ 63) (b3 : 0 ≤ s3 ∧ s3 ≤ 63) (b4 : 0 ≤ s4 ∧ s4 ≤ 63) (b5 : 0 ≤ s5 ∧ s5 ≤ 3) (b6 : 0 ≤ s6 ∧ s6 ≤ 7) (b7 : 0 ≤ s7 ∧ s7 ≤ 7) (b8 : 0 ≤ s8 ∧ s8 ≤ 35) (b9 : 0 ≤ s9 ∧ s9 ≤ 35) (m0 : (0 ≤ (s0) ∧ M 51 (s0).toNat = (s2))) (m1 : (0 ≤ (s0 + 1) ∧ M 51 (s0 + 1).toNat = (s3))) (m2 : (0 ≤ (s1) ∧ M 27 (s1).toNat = (s4))) (m3 : (0 ≤ (2 : Int) ∧ M 26 (2 : Int).toNat = (s5))) (m4 : (0 ≤ (s0) ∧ M 50 (s0).toNat = (s8))) (m5 : (0 ≤ (s0 + 1) ∧ M 50 (s0 + 1).toNat = (s9))) (m6 : HP 223 (64 * s2 + s4) (s6) M) (m7 : HP 223 (64 * s3 + s4) (s7) M) (f0 : 0 ≤ (s5 + (-1) * s6)) (f1 : 0 ≤ (s5 + (-1) * s7)) (f2 : 0 ≤ ((-1) * s8 + s9)) (hG : gI M) : (HP 234 (0 : Int) (16 * s0 + 2 * s1 + 1) M ∧ True) := by
  obtain ⟨x1, x2, y1, y2, y3, y4⟩ := Eq.mp hp_223 m6
  obtain ⟨w1, w2, v1, v2, v3, v4⟩ := Eq.mp hp_223 m7
  have e1 := m1.2
  rw [show (s0 + 1).toNat = s0.toNat + 1 by omega] at e1
  have e5 := m5.2
  rw [show (s0 + 1).toNat = s0.toNat + 1 by omega] at e5
  have e4 := m4.2
  have ez : M 26 2 = s5 := m3.2
  have t1 := tzF_e (ce := M 51) (pt := M 27) (z := M 26 2) (n := s0.toNat) (a := s1.toNat) (v := s6) (by rw [m0.2, m2.2, show s2.toNat = x1 by omega, show s4.toNat = x2 by omega]; exact y4)
  have t2 := tzF_e (ce := M 51) (pt := M 27) (z := M 26 2) (n := s0.toNat + 1) (a := s1.toNat) (v := s7) (by rw [e1, m2.2, show s3.toNat = w1 by omega, show s4.toNat = w2 by omega]; exact v4)
  have hz : tzR (M 51) (M 50) (M 27) (M 26 2) s0.toNat s1.toNat := by
    unfold tzR
    rw [t1, t2, e4, e5]
    (repeat' split) <;> omega
  exact ⟨Eq.mpr hp_234 ⟨s0.toNat, s1.toNat, 1, by omega, by omega, by omega, by omega, ⟨fun _ => hz, fun _ => rfl⟩⟩, trivial⟩
theorem rul_790 : Rul r_790 := by
  refine ⟨fun _ ρ M hm hB hF hG => ?_, fun gi gv hg => (by cases hg)⟩
  have H := cr_790 M (ρ 0) (ρ 1) (ρ 2) (ρ 3) (ρ 4) (ρ 5) (ρ 6) (ρ 7) (ρ 8) (ρ 9) (hB _ List.mem_cons_self) (hB _ (List.mem_cons_of_mem _ List.mem_cons_self)) (hB _ (List.mem_cons_of_mem _ (List.mem_cons_of_mem _ List.mem_cons_self))) (hB _ (List.mem_cons_of_mem _ (List.mem_cons_of_mem _ (List.mem_cons_of_mem _ List.mem_cons_self)))) (hB _ (List.mem_cons_of_mem _ (List.mem_cons_of_mem _ (List.mem_cons_of_mem _ (List.mem_cons_of_mem _ List.mem_cons_self))))) (hB _ (List.mem_cons_of_mem _ (List.mem_cons_of_mem _ (List.mem_cons_of_mem _ (List.mem_cons_of_mem _ (List.mem_cons_of_mem _ List.mem_cons_self)))))) (hB _ (List.mem_cons_of_mem _ (List.mem_cons_of_mem _ (List.mem_cons_of_mem _ (List.mem_cons_of_mem _ (List.mem_cons_of_mem _ (List.mem_cons_of_mem _ List.mem_cons_self))))))) (hB _ (List.mem_cons_of_mem _ (List.mem_cons_of_mem _ (List.mem_cons_of_mem _ (List.mem_cons_of_mem _ (List.mem_cons_of_mem _ (List.mem_cons_of_mem _ (List.mem_cons_of_mem _ List.mem_cons_self)))))))) (hB _ (List.mem_cons_of_mem _ (List.mem_cons_of_mem _ (List.mem_cons_of_mem _ (List.mem_cons_of_mem _ (List.mem_cons_of_mem _ (List.mem_cons_of_mem _ (List.mem_cons_of_mem _ (List.mem_cons_of_mem _ List.mem_cons_self))))))))) (hB _ (List.mem_cons_of_mem _ (List.mem_cons_of_mem _ (List.mem_cons_of_mem _ (List.mem_cons_of_mem _ (List.mem_cons_of_mem _ (List.mem_cons_of_mem _ (List.mem_cons_of_mem _ (List.mem_cons_of_mem _ (List.mem_cons_of_mem _ List.mem_cons_self)))))))))) (cvm (c := 51) (by decide) (x' := ((ρ 0))) (y' := ((ρ 2))) (by show 0 + (1 * ρ 0 + 0) = _; omega) (by show 0 + (1 * ρ 2 + 0) = _; omega) (hm _ List.mem_cons_self)) (cvm (c := 51) (by decide) (x' := ((ρ 0) + 1)) (y' := ((ρ 3))) (by show 1 + (1 * ρ 0 + 0) = _; omega) (by show 0 + (1 * ρ 3 + 0) = _; omega) (hm _ (List.mem_cons_of_mem _ List.mem_cons_self))) (cvm (c := 27) (by decide) (x' := ((ρ 1))) (y' := ((ρ 4))) (by show 0 + (1 * ρ 1 + 0) = _; omega) (by show 0 + (1 * ρ 4 + 0) = _; omega) (hm _ (List.mem_cons_of_mem _ (List.mem_cons_of_mem _ List.mem_cons_self)))) (cvm (c := 26) (by decide) (x' := (2 : Int)) (y' := ((ρ 5))) (by show 2 + 0 = _; omega) (by show 0 + (1 * ρ 5 + 0) = _; omega) (hm _ (List.mem_cons_of_mem _ (List.mem_cons_of_mem _ (List.mem_cons_of_mem _ List.mem_cons_self))))) (cvm (c := 50) (by decide) (x' := ((ρ 0))) (y' := ((ρ 8))) (by show 0 + (1 * ρ 0 + 0) = _; omega) (by show 0 + (1 * ρ 8 + 0) = _; omega) (hm _ (List.mem_cons_of_mem _ (List.mem_cons_of_mem _ (List.mem_cons_of_mem _ (List.mem_cons_of_mem _ List.mem_cons_self)))))) (cvm (c := 50) (by decide) (x' := ((ρ 0) + 1)) (y' := ((ρ 9))) (by show 1 + (1 * ρ 0 + 0) = _; omega) (by show 0 + (1 * ρ 9 + 0) = _; omega) (hm _ (List.mem_cons_of_mem _ (List.mem_cons_of_mem _ (List.mem_cons_of_mem _ (List.mem_cons_of_mem _ (List.mem_cons_of_mem _ List.mem_cons_self))))))) (cvp 223 (x' := (64 * (ρ 2) + (ρ 4))) (y' := ((ρ 6))) (by show 0 + (64 * ρ 2 + (1 * ρ 4 + 0)) = _; omega) (by show 0 + (1 * ρ 6 + 0) = _; omega) (hm _ (List.mem_cons_of_mem _ (List.mem_cons_of_mem _ (List.mem_cons_of_mem _ (List.mem_cons_of_mem _ (List.mem_cons_of_mem _ (List.mem_cons_of_mem _ List.mem_cons_self)))))))) (cvp 223 (x' := (64 * (ρ 3) + (ρ 4))) (y' := ((ρ 7))) (by show 0 + (64 * ρ 3 + (1 * ρ 4 + 0)) = _; omega) (by show 0 + (1 * ρ 7 + 0) = _; omega) (hm _ (List.mem_cons_of_mem _ (List.mem_cons_of_mem _ (List.mem_cons_of_mem _ (List.mem_cons_of_mem _ (List.mem_cons_of_mem _ (List.mem_cons_of_mem _ (List.mem_cons_of_mem _ List.mem_cons_self))))))))) (by have h := hF _ List.mem_cons_self; have h : 0 ≤ 0 + (1 * ρ 5 + ((-1) * ρ 6 + 0)) := h; omega) (by have h := hF _ (List.mem_cons_of_mem _ List.mem_cons_self); have h : 0 ≤ 0 + (1 * ρ 5 + ((-1) * ρ 7 + 0)) := h; omega) (by have h := hF _ (List.mem_cons_of_mem _ (List.mem_cons_of_mem _ List.mem_cons_self)); have h : 0 ≤ 0 + ((-1) * ρ 8 + (1 * ρ 9 + 0)) := h; omega) hG
  obtain ⟨k0, -⟩ := H
  exact ⟨_, List.mem_cons_self, ρ, fun _ _ => rfl, (okM_c (pvp 234 (by show 0 + 0 = _; omega) (by show 1 + (16 * ρ 0 + (2 * ρ 1 + 0)) = _; omega) k0) okM_n), okB_n, okF_n⟩
-- cb010_c
theorem cr_791 (M : pM) (s0 s1 s2 s3 s4 s5 s6 s7 s8 s9 : Int) (b0 : 0 ≤ s0 ∧ s0 ≤ 34) (b1 : 0 ≤ s1 ∧ s1 ≤ 3) (b2 : 0 ≤ s2 ∧ s2 ≤ 63) (b3 : 0 ≤ s3 ∧ s3 ≤ 63) (b4 : 0 ≤ s4 ∧ s4 ≤ 63) (b5 : 0 ≤ s5 ∧ s5 ≤ 3) (b6 : 0 ≤ s6 ∧ s6 ≤ 7) (b7 : 0 ≤ s7 ∧ s7 ≤ 7) (b8 : 0 ≤ s8 ∧ s8 ≤ 35) (b9 : 0 ≤ s9 ∧ s9 ≤ 35) (m0 : (0 ≤ (s0) ∧ M 51 (s0).toNat = (s2))) (m1 : (0 ≤ (s0 + 1) ∧ M 51 (s0 + 1).toNat = (s3))) (m2 : (0 ≤ (s1) ∧ M 27 (s1).toNat = (s4))) (m3 : (0 ≤ (2 : Int) ∧ M 26 (2 : Int).toNat = (s5))) (m4 : (0 ≤ (s0) ∧ M 50 (s0).toNat = (s8))) (m5 : (0 ≤ (s0 + 1) ∧ M 50 (s0 + 1).toNat = (s9))) (m6 : HP 223 (64 * s2 + s4) (s6) M) (m7 : HP 223 (64 * s3 + s4) (s7) M) (f0 : 0 ≤ (s5 + (-1) * s6)) (f1 : 0 ≤ ((-1) * s5 + s7)) (f2 : 0 ≤ ((-1) * s5 + s7 + s8 + (-1) * s9 - 1)) (hG : gI M) : (HP 234 (0 : Int) (16 * s0 + 2 * s1) M ∧ True) := by
  obtain ⟨x1, x2, y1, y2, y3, y4⟩ := Eq.mp hp_223 m6
  obtain ⟨w1, w2, v1, v2, v3, v4⟩ := Eq.mp hp_223 m7
  have e1 := m1.2
  rw [show (s0 + 1).toNat = s0.toNat + 1 by omega] at e1
  have e5 := m5.2
  rw [show (s0 + 1).toNat = s0.toNat + 1 by omega] at e5
  have e4 := m4.2
  have ez : M 26 2 = s5 := m3.2
  have t1 := tzF_e (ce := M 51) (pt := M 27) (z := M 26 2) (n := s0.toNat) (a := s1.toNat) (v := s6) (by rw [m0.2, m2.2, show s2.toNat = x1 by omega, show s4.toNat = x2 by omega]; exact y4)
  have t2 := tzF_e (ce := M 51) (pt := M 27) (z := M 26 2) (n := s0.toNat + 1) (a := s1.toNat) (v := s7) (by rw [e1, m2.2, show s3.toNat = w1 by omega, show s4.toNat = w2 by omega]; exact v4)
  have hz : ¬ tzR (M 51) (M 50) (M 27) (M 26 2) s0.toNat s1.toNat := by
    unfold tzR
    rw [t1, t2, e4, e5]
    (repeat' split) <;> omega
  exact ⟨Eq.mpr hp_234 ⟨s0.toNat, s1.toNat, 0, by omega, by omega, by omega, by omega, ⟨fun h => absurd h (by decide), fun h => absurd h hz⟩⟩, trivial⟩
theorem rul_791 : Rul r_791 := by
  refine ⟨fun _ ρ M hm hB hF hG => ?_, fun gi gv hg => (by cases hg)⟩
  have H := cr_791 M (ρ 0) (ρ 1) (ρ 2) (ρ 3) (ρ 4) (ρ 5) (ρ 6) (ρ 7) (ρ 8) (ρ 9) (hB _ List.mem_cons_self) (hB _ (List.mem_cons_of_mem _ List.mem_cons_self)) (hB _ (List.mem_cons_of_mem _ (List.mem_cons_of_mem _ List.mem_cons_self))) (hB _ (List.mem_cons_of_mem _ (List.mem_cons_of_mem _ (List.mem_cons_of_mem _ List.mem_cons_self)))) (hB _ (List.mem_cons_of_mem _ (List.mem_cons_of_mem _ (List.mem_cons_of_mem _ (List.mem_cons_of_mem _ List.mem_cons_self))))) (hB _ (List.mem_cons_of_mem _ (List.mem_cons_of_mem _ (List.mem_cons_of_mem _ (List.mem_cons_of_mem _ (List.mem_cons_of_mem _ List.mem_cons_self)))))) (hB _ (List.mem_cons_of_mem _ (List.mem_cons_of_mem _ (List.mem_cons_of_mem _ (List.mem_cons_of_mem _ (List.mem_cons_of_mem _ (List.mem_cons_of_mem _ List.mem_cons_self))))))) (hB _ (List.mem_cons_of_mem _ (List.mem_cons_of_mem _ (List.mem_cons_of_mem _ (List.mem_cons_of_mem _ (List.mem_cons_of_mem _ (List.mem_cons_of_mem _ (List.mem_cons_of_mem _ List.mem_cons_self)))))))) (hB _ (List.mem_cons_of_mem _ (List.mem_cons_of_mem _ (List.mem_cons_of_mem _ (List.mem_cons_of_mem _ (List.mem_cons_of_mem _ (List.mem_cons_of_mem _ (List.mem_cons_of_mem _ (List.mem_cons_of_mem _ List.mem_cons_self))))))))) (hB _ (List.mem_cons_of_mem _ (List.mem_cons_of_mem _ (List.mem_cons_of_mem _ (List.mem_cons_of_mem _ (List.mem_cons_of_mem _ (List.mem_cons_of_mem _ (List.mem_cons_of_mem _ (List.mem_cons_of_mem _ (List.mem_cons_of_mem _ List.mem_cons_self)))))))))) (cvm (c := 51) (by decide) (x' := ((ρ 0))) (y' := ((ρ 2))) (by show 0 + (1 * ρ 0 + 0) = _; omega) (by show 0 + (1 * ρ 2 + 0) = _; omega) (hm _ List.mem_cons_self)) (cvm (c := 51) (by decide) (x' := ((ρ 0) + 1)) (y' := ((ρ 3))) (by show 1 + (1 * ρ 0 + 0) = _; omega) (by show 0 + (1 * ρ 3 + 0) = _; omega) (hm _ (List.mem_cons_of_mem _ List.mem_cons_self))) (cvm (c := 27) (by decide) (x' := ((ρ 1))) (y' := ((ρ 4))) (by show 0 + (1 * ρ 1 + 0) = _; omega) (by show 0 + (1 * ρ 4 + 0) = _; omega) (hm _ (List.mem_cons_of_mem _ (List.mem_cons_of_mem _ List.mem_cons_self)))) (cvm (c := 26) (by decide) (x' := (2 : Int)) (y' := ((ρ 5))) (by show 2 + 0 = _; omega) (by show 0 + (1 * ρ 5 + 0) = _; omega) (hm _ (List.mem_cons_of_mem _ (List.mem_cons_of_mem _ (List.mem_cons_of_mem _ List.mem_cons_self))))) (cvm (c := 50) (by decide) (x' := ((ρ 0))) (y' := ((ρ 8))) (by show 0 + (1 * ρ 0 + 0) = _; omega) (by show 0 + (1 * ρ 8 + 0) = _; omega) (hm _ (List.mem_cons_of_mem _ (List.mem_cons_of_mem _ (List.mem_cons_of_mem _ (List.mem_cons_of_mem _ List.mem_cons_self)))))) (cvm (c := 50) (by decide) (x' := ((ρ 0) + 1)) (y' := ((ρ 9))) (by show 1 + (1 * ρ 0 + 0) = _; omega) (by show 0 + (1 * ρ 9 + 0) = _; omega) (hm _ (List.mem_cons_of_mem _ (List.mem_cons_of_mem _ (List.mem_cons_of_mem _ (List.mem_cons_of_mem _ (List.mem_cons_of_mem _ List.mem_cons_self))))))) (cvp 223 (x' := (64 * (ρ 2) + (ρ 4))) (y' := ((ρ 6))) (by show 0 + (64 * ρ 2 + (1 * ρ 4 + 0)) = _; omega) (by show 0 + (1 * ρ 6 + 0) = _; omega) (hm _ (List.mem_cons_of_mem _ (List.mem_cons_of_mem _ (List.mem_cons_of_mem _ (List.mem_cons_of_mem _ (List.mem_cons_of_mem _ (List.mem_cons_of_mem _ List.mem_cons_self)))))))) (cvp 223 (x' := (64 * (ρ 3) + (ρ 4))) (y' := ((ρ 7))) (by show 0 + (64 * ρ 3 + (1 * ρ 4 + 0)) = _; omega) (by show 0 + (1 * ρ 7 + 0) = _; omega) (hm _ (List.mem_cons_of_mem _ (List.mem_cons_of_mem _ (List.mem_cons_of_mem _ (List.mem_cons_of_mem _ (List.mem_cons_of_mem _ (List.mem_cons_of_mem _ (List.mem_cons_of_mem _ List.mem_cons_self))))))))) (by have h := hF _ List.mem_cons_self; have h : 0 ≤ 0 + (1 * ρ 5 + ((-1) * ρ 6 + 0)) := h; omega) (by have h := hF _ (List.mem_cons_of_mem _ List.mem_cons_self); have h : 0 ≤ 0 + ((-1) * ρ 5 + (1 * ρ 7 + 0)) := h; omega) (by have h := hF _ (List.mem_cons_of_mem _ (List.mem_cons_of_mem _ List.mem_cons_self)); have h : 0 ≤ (-1) + ((-1) * ρ 5 + (1 * ρ 7 + (1 * ρ 8 + ((-1) * ρ 9 + 0)))) := h; omega) hG
  obtain ⟨k0, -⟩ := H
  exact ⟨_, List.mem_cons_self, ρ, fun _ _ => rfl, (okM_c (pvp 234 (by show 0 + 0 = _; omega) (by show 0 + (16 * ρ 0 + (2 * ρ 1 + 0)) = _; omega) k0) okM_n), okB_n, okF_n⟩
-- cb011_c
theorem cr_792 (M : pM) (s0 s1 s2 s3 s4 s5 s6 s7 s8 s9 : Int) (b0 : 0 ≤ s0 ∧ s0 ≤ 34) (b1 : 0 ≤ s1 ∧ s1 ≤ 3) (b2 : 0 ≤ s2 ∧ s2 ≤ 63) (b3 : 0 ≤ s3 ∧ s3 ≤ 63) (b4 : 0 ≤ s4 ∧ s4 ≤ 63) (b5 : 0 ≤ s5 ∧ s5 ≤ 3) (b6 : 0 ≤ s6 ∧ s6 ≤ 7) (b7 : 0 ≤ s7 ∧ s7 ≤ 7) (b8 : 0 ≤ s8 ∧ s8 ≤ 35) (b9 : 0 ≤ s9 ∧ s9 ≤ 35) (m0 : (0 ≤ (s0) ∧ M 51 (s0).toNat = (s2))) (m1 : (0 ≤ (s0 + 1) ∧ M 51 (s0 + 1).toNat = (s3))) (m2 : (0 ≤ (s1) ∧ M 27 (s1).toNat = (s4))) (m3 : (0 ≤ (2 : Int) ∧ M 26 (2 : Int).toNat = (s5))) (m4 : (0 ≤ (s0) ∧ M 50 (s0).toNat = (s8))) (m5 : (0 ≤ (s0 + 1) ∧ M 50 (s0 + 1).toNat = (s9))) (m6 : HP 223 (64 * s2 + s4) (s6) M) (m7 : HP 223 (64 * s3 + s4) (s7) M) (f0 : 0 ≤ (s5 + (-1) * s6)) (f1 : 0 ≤ ((-1) * s5 + s7)) (f2 : 0 ≤ (s5 + (-1) * s7 + (-1) * s8 + s9)) (hG : gI M) : (HP 234 (0 : Int) (16 * s0 + 2 * s1 + 1) M ∧ True) := by
  obtain ⟨x1, x2, y1, y2, y3, y4⟩ := Eq.mp hp_223 m6
  obtain ⟨w1, w2, v1, v2, v3, v4⟩ := Eq.mp hp_223 m7
  have e1 := m1.2
  rw [show (s0 + 1).toNat = s0.toNat + 1 by omega] at e1
  have e5 := m5.2
  rw [show (s0 + 1).toNat = s0.toNat + 1 by omega] at e5
  have e4 := m4.2
  have ez : M 26 2 = s5 := m3.2
  have t1 := tzF_e (ce := M 51) (pt := M 27) (z := M 26 2) (n := s0.toNat) (a := s1.toNat) (v := s6) (by rw [m0.2, m2.2, show s2.toNat = x1 by omega, show s4.toNat = x2 by omega]; exact y4)
  have t2 := tzF_e (ce := M 51) (pt := M 27) (z := M 26 2) (n := s0.toNat + 1) (a := s1.toNat) (v := s7) (by rw [e1, m2.2, show s3.toNat = w1 by omega, show s4.toNat = w2 by omega]; exact v4)
  have hz : tzR (M 51) (M 50) (M 27) (M 26 2) s0.toNat s1.toNat := by
    unfold tzR
    rw [t1, t2, e4, e5]
    (repeat' split) <;> omega
  exact ⟨Eq.mpr hp_234 ⟨s0.toNat, s1.toNat, 1, by omega, by omega, by omega, by omega, ⟨fun _ => hz, fun _ => rfl⟩⟩, trivial⟩
theorem rul_792 : Rul r_792 := by
  refine ⟨fun _ ρ M hm hB hF hG => ?_, fun gi gv hg => (by cases hg)⟩
  have H := cr_792 M (ρ 0) (ρ 1) (ρ 2) (ρ 3) (ρ 4) (ρ 5) (ρ 6) (ρ 7) (ρ 8) (ρ 9) (hB _ List.mem_cons_self) (hB _ (List.mem_cons_of_mem _ List.mem_cons_self)) (hB _ (List.mem_cons_of_mem _ (List.mem_cons_of_mem _ List.mem_cons_self))) (hB _ (List.mem_cons_of_mem _ (List.mem_cons_of_mem _ (List.mem_cons_of_mem _ List.mem_cons_self)))) (hB _ (List.mem_cons_of_mem _ (List.mem_cons_of_mem _ (List.mem_cons_of_mem _ (List.mem_cons_of_mem _ List.mem_cons_self))))) (hB _ (List.mem_cons_of_mem _ (List.mem_cons_of_mem _ (List.mem_cons_of_mem _ (List.mem_cons_of_mem _ (List.mem_cons_of_mem _ List.mem_cons_self)))))) (hB _ (List.mem_cons_of_mem _ (List.mem_cons_of_mem _ (List.mem_cons_of_mem _ (List.mem_cons_of_mem _ (List.mem_cons_of_mem _ (List.mem_cons_of_mem _ List.mem_cons_self))))))) (hB _ (List.mem_cons_of_mem _ (List.mem_cons_of_mem _ (List.mem_cons_of_mem _ (List.mem_cons_of_mem _ (List.mem_cons_of_mem _ (List.mem_cons_of_mem _ (List.mem_cons_of_mem _ List.mem_cons_self)))))))) (hB _ (List.mem_cons_of_mem _ (List.mem_cons_of_mem _ (List.mem_cons_of_mem _ (List.mem_cons_of_mem _ (List.mem_cons_of_mem _ (List.mem_cons_of_mem _ (List.mem_cons_of_mem _ (List.mem_cons_of_mem _ List.mem_cons_self))))))))) (hB _ (List.mem_cons_of_mem _ (List.mem_cons_of_mem _ (List.mem_cons_of_mem _ (List.mem_cons_of_mem _ (List.mem_cons_of_mem _ (List.mem_cons_of_mem _ (List.mem_cons_of_mem _ (List.mem_cons_of_mem _ (List.mem_cons_of_mem _ List.mem_cons_self)))))))))) (cvm (c := 51) (by decide) (x' := ((ρ 0))) (y' := ((ρ 2))) (by show 0 + (1 * ρ 0 + 0) = _; omega) (by show 0 + (1 * ρ 2 + 0) = _; omega) (hm _ List.mem_cons_self)) (cvm (c := 51) (by decide) (x' := ((ρ 0) + 1)) (y' := ((ρ 3))) (by show 1 + (1 * ρ 0 + 0) = _; omega) (by show 0 + (1 * ρ 3 + 0) = _; omega) (hm _ (List.mem_cons_of_mem _ List.mem_cons_self))) (cvm (c := 27) (by decide) (x' := ((ρ 1))) (y' := ((ρ 4))) (by show 0 + (1 * ρ 1 + 0) = _; omega) (by show 0 + (1 * ρ 4 + 0) = _; omega) (hm _ (List.mem_cons_of_mem _ (List.mem_cons_of_mem _ List.mem_cons_self)))) (cvm (c := 26) (by decide) (x' := (2 : Int)) (y' := ((ρ 5))) (by show 2 + 0 = _; omega) (by show 0 + (1 * ρ 5 + 0) = _; omega) (hm _ (List.mem_cons_of_mem _ (List.mem_cons_of_mem _ (List.mem_cons_of_mem _ List.mem_cons_self))))) (cvm (c := 50) (by decide) (x' := ((ρ 0))) (y' := ((ρ 8))) (by show 0 + (1 * ρ 0 + 0) = _; omega) (by show 0 + (1 * ρ 8 + 0) = _; omega) (hm _ (List.mem_cons_of_mem _ (List.mem_cons_of_mem _ (List.mem_cons_of_mem _ (List.mem_cons_of_mem _ List.mem_cons_self)))))) (cvm (c := 50) (by decide) (x' := ((ρ 0) + 1)) (y' := ((ρ 9))) (by show 1 + (1 * ρ 0 + 0) = _; omega) (by show 0 + (1 * ρ 9 + 0) = _; omega) (hm _ (List.mem_cons_of_mem _ (List.mem_cons_of_mem _ (List.mem_cons_of_mem _ (List.mem_cons_of_mem _ (List.mem_cons_of_mem _ List.mem_cons_self))))))) (cvp 223 (x' := (64 * (ρ 2) + (ρ 4))) (y' := ((ρ 6))) (by show 0 + (64 * ρ 2 + (1 * ρ 4 + 0)) = _; omega) (by show 0 + (1 * ρ 6 + 0) = _; omega) (hm _ (List.mem_cons_of_mem _ (List.mem_cons_of_mem _ (List.mem_cons_of_mem _ (List.mem_cons_of_mem _ (List.mem_cons_of_mem _ (List.mem_cons_of_mem _ List.mem_cons_self)))))))) (cvp 223 (x' := (64 * (ρ 3) + (ρ 4))) (y' := ((ρ 7))) (by show 0 + (64 * ρ 3 + (1 * ρ 4 + 0)) = _; omega) (by show 0 + (1 * ρ 7 + 0) = _; omega) (hm _ (List.mem_cons_of_mem _ (List.mem_cons_of_mem _ (List.mem_cons_of_mem _ (List.mem_cons_of_mem _ (List.mem_cons_of_mem _ (List.mem_cons_of_mem _ (List.mem_cons_of_mem _ List.mem_cons_self))))))))) (by have h := hF _ List.mem_cons_self; have h : 0 ≤ 0 + (1 * ρ 5 + ((-1) * ρ 6 + 0)) := h; omega) (by have h := hF _ (List.mem_cons_of_mem _ List.mem_cons_self); have h : 0 ≤ 0 + ((-1) * ρ 5 + (1 * ρ 7 + 0)) := h; omega) (by have h := hF _ (List.mem_cons_of_mem _ (List.mem_cons_of_mem _ List.mem_cons_self)); have h : 0 ≤ 0 + (1 * ρ 5 + ((-1) * ρ 7 + ((-1) * ρ 8 + (1 * ρ 9 + 0)))) := h; omega) hG
  obtain ⟨k0, -⟩ := H
  exact ⟨_, List.mem_cons_self, ρ, fun _ _ => rfl, (okM_c (pvp 234 (by show 0 + 0 = _; omega) (by show 1 + (16 * ρ 0 + (2 * ρ 1 + 0)) = _; omega) k0) okM_n), okB_n, okF_n⟩
-- cb100_c
theorem cr_793 (M : pM) (s0 s1 s2 s3 s4 s5 s6 s7 s8 s9 : Int) (b0 : 0 ≤ s0 ∧ s0 ≤ 34) (b1 : 0 ≤ s1 ∧ s1 ≤ 3) (b2 : 0 ≤ s2 ∧ s2 ≤ 63) (b3 : 0 ≤ s3 ∧ s3 ≤ 63) (b4 : 0 ≤ s4 ∧ s4 ≤ 63) (b5 : 0 ≤ s5 ∧ s5 ≤ 3) (b6 : 0 ≤ s6 ∧ s6 ≤ 7) (b7 : 0 ≤ s7 ∧ s7 ≤ 7) (b8 : 0 ≤ s8 ∧ s8 ≤ 35) (b9 : 0 ≤ s9 ∧ s9 ≤ 35) (m0 : (0 ≤ (s0) ∧ M 51 (s0).toNat = (s2))) (m1 : (0 ≤ (s0 + 1) ∧ M 51 (s0 + 1).toNat = (s3))) (m2 : (0 ≤ (s1) ∧ M 27 (s1).toNat = (s4))) (m3 : (0 ≤ (2 : Int) ∧ M 26 (2 : Int).toNat = (s5))) (m4 : (0 ≤ (s0) ∧ M 50 (s0).toNat = (s8))) (m5 : (0 ≤ (s0 + 1) ∧ M 50 (s0 + 1).toNat = (s9))) (m6 : HP 223 (64 * s2 + s4) (s6) M) (m7 : HP 223 (64 * s3 + s4) (s7) M) (f0 : 0 ≤ ((-1) * s5 + s6)) (f1 : 0 ≤ (s5 + (-1) * s7)) (f2 : 0 ≤ ((-1) * s5 + s6 + s8 + (-1) * s9 - 1)) (hG : gI M) : (HP 234 (0 : Int) (16 * s0 + 2 * s1) M ∧ True) := by
  obtain ⟨x1, x2, y1, y2, y3, y4⟩ := Eq.mp hp_223 m6
  obtain ⟨w1, w2, v1, v2, v3, v4⟩ := Eq.mp hp_223 m7
  have e1 := m1.2
  rw [show (s0 + 1).toNat = s0.toNat + 1 by omega] at e1
  have e5 := m5.2
  rw [show (s0 + 1).toNat = s0.toNat + 1 by omega] at e5
  have e4 := m4.2
  have ez : M 26 2 = s5 := m3.2
  have t1 := tzF_e (ce := M 51) (pt := M 27) (z := M 26 2) (n := s0.toNat) (a := s1.toNat) (v := s6) (by rw [m0.2, m2.2, show s2.toNat = x1 by omega, show s4.toNat = x2 by omega]; exact y4)
  have t2 := tzF_e (ce := M 51) (pt := M 27) (z := M 26 2) (n := s0.toNat + 1) (a := s1.toNat) (v := s7) (by rw [e1, m2.2, show s3.toNat = w1 by omega, show s4.toNat = w2 by omega]; exact v4)
  have hz : ¬ tzR (M 51) (M 50) (M 27) (M 26 2) s0.toNat s1.toNat := by
    unfold tzR
    rw [t1, t2, e4, e5]
    (repeat' split) <;> omega
  exact ⟨Eq.mpr hp_234 ⟨s0.toNat, s1.toNat, 0, by omega, by omega, by omega, by omega, ⟨fun h => absurd h (by decide), fun h => absurd h hz⟩⟩, trivial⟩
theorem rul_793 : Rul r_793 := by
  refine ⟨fun _ ρ M hm hB hF hG => ?_, fun gi gv hg => (by cases hg)⟩
  have H := cr_793 M (ρ 0) (ρ 1) (ρ 2) (ρ 3) (ρ 4) (ρ 5) (ρ 6) (ρ 7) (ρ 8) (ρ 9) (hB _ List.mem_cons_self) (hB _ (List.mem_cons_of_mem _ List.mem_cons_self)) (hB _ (List.mem_cons_of_mem _ (List.mem_cons_of_mem _ List.mem_cons_self))) (hB _ (List.mem_cons_of_mem _ (List.mem_cons_of_mem _ (List.mem_cons_of_mem _ List.mem_cons_self)))) (hB _ (List.mem_cons_of_mem _ (List.mem_cons_of_mem _ (List.mem_cons_of_mem _ (List.mem_cons_of_mem _ List.mem_cons_self))))) (hB _ (List.mem_cons_of_mem _ (List.mem_cons_of_mem _ (List.mem_cons_of_mem _ (List.mem_cons_of_mem _ (List.mem_cons_of_mem _ List.mem_cons_self)))))) (hB _ (List.mem_cons_of_mem _ (List.mem_cons_of_mem _ (List.mem_cons_of_mem _ (List.mem_cons_of_mem _ (List.mem_cons_of_mem _ (List.mem_cons_of_mem _ List.mem_cons_self))))))) (hB _ (List.mem_cons_of_mem _ (List.mem_cons_of_mem _ (List.mem_cons_of_mem _ (List.mem_cons_of_mem _ (List.mem_cons_of_mem _ (List.mem_cons_of_mem _ (List.mem_cons_of_mem _ List.mem_cons_self)))))))) (hB _ (List.mem_cons_of_mem _ (List.mem_cons_of_mem _ (List.mem_cons_of_mem _ (List.mem_cons_of_mem _ (List.mem_cons_of_mem _ (List.mem_cons_of_mem _ (List.mem_cons_of_mem _ (List.mem_cons_of_mem _ List.mem_cons_self))))))))) (hB _ (List.mem_cons_of_mem _ (List.mem_cons_of_mem _ (List.mem_cons_of_mem _ (List.mem_cons_of_mem _ (List.mem_cons_of_mem _ (List.mem_cons_of_mem _ (List.mem_cons_of_mem _ (List.mem_cons_of_mem _ (List.mem_cons_of_mem _ List.mem_cons_self)))))))))) (cvm (c := 51) (by decide) (x' := ((ρ 0))) (y' := ((ρ 2))) (by show 0 + (1 * ρ 0 + 0) = _; omega) (by show 0 + (1 * ρ 2 + 0) = _; omega) (hm _ List.mem_cons_self)) (cvm (c := 51) (by decide) (x' := ((ρ 0) + 1)) (y' := ((ρ 3))) (by show 1 + (1 * ρ 0 + 0) = _; omega) (by show 0 + (1 * ρ 3 + 0) = _; omega) (hm _ (List.mem_cons_of_mem _ List.mem_cons_self))) (cvm (c := 27) (by decide) (x' := ((ρ 1))) (y' := ((ρ 4))) (by show 0 + (1 * ρ 1 + 0) = _; omega) (by show 0 + (1 * ρ 4 + 0) = _; omega) (hm _ (List.mem_cons_of_mem _ (List.mem_cons_of_mem _ List.mem_cons_self)))) (cvm (c := 26) (by decide) (x' := (2 : Int)) (y' := ((ρ 5))) (by show 2 + 0 = _; omega) (by show 0 + (1 * ρ 5 + 0) = _; omega) (hm _ (List.mem_cons_of_mem _ (List.mem_cons_of_mem _ (List.mem_cons_of_mem _ List.mem_cons_self))))) (cvm (c := 50) (by decide) (x' := ((ρ 0))) (y' := ((ρ 8))) (by show 0 + (1 * ρ 0 + 0) = _; omega) (by show 0 + (1 * ρ 8 + 0) = _; omega) (hm _ (List.mem_cons_of_mem _ (List.mem_cons_of_mem _ (List.mem_cons_of_mem _ (List.mem_cons_of_mem _ List.mem_cons_self)))))) (cvm (c := 50) (by decide) (x' := ((ρ 0) + 1)) (y' := ((ρ 9))) (by show 1 + (1 * ρ 0 + 0) = _; omega) (by show 0 + (1 * ρ 9 + 0) = _; omega) (hm _ (List.mem_cons_of_mem _ (List.mem_cons_of_mem _ (List.mem_cons_of_mem _ (List.mem_cons_of_mem _ (List.mem_cons_of_mem _ List.mem_cons_self))))))) (cvp 223 (x' := (64 * (ρ 2) + (ρ 4))) (y' := ((ρ 6))) (by show 0 + (64 * ρ 2 + (1 * ρ 4 + 0)) = _; omega) (by show 0 + (1 * ρ 6 + 0) = _; omega) (hm _ (List.mem_cons_of_mem _ (List.mem_cons_of_mem _ (List.mem_cons_of_mem _ (List.mem_cons_of_mem _ (List.mem_cons_of_mem _ (List.mem_cons_of_mem _ List.mem_cons_self)))))))) (cvp 223 (x' := (64 * (ρ 3) + (ρ 4))) (y' := ((ρ 7))) (by show 0 + (64 * ρ 3 + (1 * ρ 4 + 0)) = _; omega) (by show 0 + (1 * ρ 7 + 0) = _; omega) (hm _ (List.mem_cons_of_mem _ (List.mem_cons_of_mem _ (List.mem_cons_of_mem _ (List.mem_cons_of_mem _ (List.mem_cons_of_mem _ (List.mem_cons_of_mem _ (List.mem_cons_of_mem _ List.mem_cons_self))))))))) (by have h := hF _ List.mem_cons_self; have h : 0 ≤ 0 + ((-1) * ρ 5 + (1 * ρ 6 + 0)) := h; omega) (by have h := hF _ (List.mem_cons_of_mem _ List.mem_cons_self); have h : 0 ≤ 0 + (1 * ρ 5 + ((-1) * ρ 7 + 0)) := h; omega) (by have h := hF _ (List.mem_cons_of_mem _ (List.mem_cons_of_mem _ List.mem_cons_self)); have h : 0 ≤ (-1) + ((-1) * ρ 5 + (1 * ρ 6 + (1 * ρ 8 + ((-1) * ρ 9 + 0)))) := h; omega) hG
  obtain ⟨k0, -⟩ := H
  exact ⟨_, List.mem_cons_self, ρ, fun _ _ => rfl, (okM_c (pvp 234 (by show 0 + 0 = _; omega) (by show 0 + (16 * ρ 0 + (2 * ρ 1 + 0)) = _; omega) k0) okM_n), okB_n, okF_n⟩
-- cb101_c
theorem cr_794 (M : pM) (s0 s1 s2 s3 s4 s5 s6 s7 s8 s9 : Int) (b0 : 0 ≤ s0 ∧ s0 ≤ 34) (b1 : 0 ≤ s1 ∧ s1 ≤ 3) (b2 : 0 ≤ s2 ∧ s2 ≤ 63) (b3 : 0 ≤ s3 ∧ s3 ≤ 63) (b4 : 0 ≤ s4 ∧ s4 ≤ 63) (b5 : 0 ≤ s5 ∧ s5 ≤ 3) (b6 : 0 ≤ s6 ∧ s6 ≤ 7) (b7 : 0 ≤ s7 ∧ s7 ≤ 7) (b8 : 0 ≤ s8 ∧ s8 ≤ 35) (b9 : 0 ≤ s9 ∧ s9 ≤ 35) (m0 : (0 ≤ (s0) ∧ M 51 (s0).toNat = (s2))) (m1 : (0 ≤ (s0 + 1) ∧ M 51 (s0 + 1).toNat = (s3))) (m2 : (0 ≤ (s1) ∧ M 27 (s1).toNat = (s4))) (m3 : (0 ≤ (2 : Int) ∧ M 26 (2 : Int).toNat = (s5))) (m4 : (0 ≤ (s0) ∧ M 50 (s0).toNat = (s8))) (m5 : (0 ≤ (s0 + 1) ∧ M 50 (s0 + 1).toNat = (s9))) (m6 : HP 223 (64 * s2 + s4) (s6) M) (m7 : HP 223 (64 * s3 + s4) (s7) M) (f0 : 0 ≤ ((-1) * s5 + s6)) (f1 : 0 ≤ (s5 + (-1) * s7)) (f2 : 0 ≤ (s5 + (-1) * s6 + (-1) * s8 + s9)) (hG : gI M) : (HP 234 (0 : Int) (16 * s0 + 2 * s1 + 1) M ∧ True) := by
  obtain ⟨x1, x2, y1, y2, y3, y4⟩ := Eq.mp hp_223 m6
  obtain ⟨w1, w2, v1, v2, v3, v4⟩ := Eq.mp hp_223 m7
  have e1 := m1.2
  rw [show (s0 + 1).toNat = s0.toNat + 1 by omega] at e1
  have e5 := m5.2
  rw [show (s0 + 1).toNat = s0.toNat + 1 by omega] at e5
  have e4 := m4.2
  have ez : M 26 2 = s5 := m3.2
  have t1 := tzF_e (ce := M 51) (pt := M 27) (z := M 26 2) (n := s0.toNat) (a := s1.toNat) (v := s6) (by rw [m0.2, m2.2, show s2.toNat = x1 by omega, show s4.toNat = x2 by omega]; exact y4)
  have t2 := tzF_e (ce := M 51) (pt := M 27) (z := M 26 2) (n := s0.toNat + 1) (a := s1.toNat) (v := s7) (by rw [e1, m2.2, show s3.toNat = w1 by omega, show s4.toNat = w2 by omega]; exact v4)
  have hz : tzR (M 51) (M 50) (M 27) (M 26 2) s0.toNat s1.toNat := by
    unfold tzR
    rw [t1, t2, e4, e5]
    (repeat' split) <;> omega
  exact ⟨Eq.mpr hp_234 ⟨s0.toNat, s1.toNat, 1, by omega, by omega, by omega, by omega, ⟨fun _ => hz, fun _ => rfl⟩⟩, trivial⟩
theorem rul_794 : Rul r_794 := by
  refine ⟨fun _ ρ M hm hB hF hG => ?_, fun gi gv hg => (by cases hg)⟩
  have H := cr_794 M (ρ 0) (ρ 1) (ρ 2) (ρ 3) (ρ 4) (ρ 5) (ρ 6) (ρ 7) (ρ 8) (ρ 9) (hB _ List.mem_cons_self) (hB _ (List.mem_cons_of_mem _ List.mem_cons_self)) (hB _ (List.mem_cons_of_mem _ (List.mem_cons_of_mem _ List.mem_cons_self))) (hB _ (List.mem_cons_of_mem _ (List.mem_cons_of_mem _ (List.mem_cons_of_mem _ List.mem_cons_self)))) (hB _ (List.mem_cons_of_mem _ (List.mem_cons_of_mem _ (List.mem_cons_of_mem _ (List.mem_cons_of_mem _ List.mem_cons_self))))) (hB _ (List.mem_cons_of_mem _ (List.mem_cons_of_mem _ (List.mem_cons_of_mem _ (List.mem_cons_of_mem _ (List.mem_cons_of_mem _ List.mem_cons_self)))))) (hB _ (List.mem_cons_of_mem _ (List.mem_cons_of_mem _ (List.mem_cons_of_mem _ (List.mem_cons_of_mem _ (List.mem_cons_of_mem _ (List.mem_cons_of_mem _ List.mem_cons_self))))))) (hB _ (List.mem_cons_of_mem _ (List.mem_cons_of_mem _ (List.mem_cons_of_mem _ (List.mem_cons_of_mem _ (List.mem_cons_of_mem _ (List.mem_cons_of_mem _ (List.mem_cons_of_mem _ List.mem_cons_self)))))))) (hB _ (List.mem_cons_of_mem _ (List.mem_cons_of_mem _ (List.mem_cons_of_mem _ (List.mem_cons_of_mem _ (List.mem_cons_of_mem _ (List.mem_cons_of_mem _ (List.mem_cons_of_mem _ (List.mem_cons_of_mem _ List.mem_cons_self))))))))) (hB _ (List.mem_cons_of_mem _ (List.mem_cons_of_mem _ (List.mem_cons_of_mem _ (List.mem_cons_of_mem _ (List.mem_cons_of_mem _ (List.mem_cons_of_mem _ (List.mem_cons_of_mem _ (List.mem_cons_of_mem _ (List.mem_cons_of_mem _ List.mem_cons_self)))))))))) (cvm (c := 51) (by decide) (x' := ((ρ 0))) (y' := ((ρ 2))) (by show 0 + (1 * ρ 0 + 0) = _; omega) (by show 0 + (1 * ρ 2 + 0) = _; omega) (hm _ List.mem_cons_self)) (cvm (c := 51) (by decide) (x' := ((ρ 0) + 1)) (y' := ((ρ 3))) (by show 1 + (1 * ρ 0 + 0) = _; omega) (by show 0 + (1 * ρ 3 + 0) = _; omega) (hm _ (List.mem_cons_of_mem _ List.mem_cons_self))) (cvm (c := 27) (by decide) (x' := ((ρ 1))) (y' := ((ρ 4))) (by show 0 + (1 * ρ 1 + 0) = _; omega) (by show 0 + (1 * ρ 4 + 0) = _; omega) (hm _ (List.mem_cons_of_mem _ (List.mem_cons_of_mem _ List.mem_cons_self)))) (cvm (c := 26) (by decide) (x' := (2 : Int)) (y' := ((ρ 5))) (by show 2 + 0 = _; omega) (by show 0 + (1 * ρ 5 + 0) = _; omega) (hm _ (List.mem_cons_of_mem _ (List.mem_cons_of_mem _ (List.mem_cons_of_mem _ List.mem_cons_self))))) (cvm (c := 50) (by decide) (x' := ((ρ 0))) (y' := ((ρ 8))) (by show 0 + (1 * ρ 0 + 0) = _; omega) (by show 0 + (1 * ρ 8 + 0) = _; omega) (hm _ (List.mem_cons_of_mem _ (List.mem_cons_of_mem _ (List.mem_cons_of_mem _ (List.mem_cons_of_mem _ List.mem_cons_self)))))) (cvm (c := 50) (by decide) (x' := ((ρ 0) + 1)) (y' := ((ρ 9))) (by show 1 + (1 * ρ 0 + 0) = _; omega) (by show 0 + (1 * ρ 9 + 0) = _; omega) (hm _ (List.mem_cons_of_mem _ (List.mem_cons_of_mem _ (List.mem_cons_of_mem _ (List.mem_cons_of_mem _ (List.mem_cons_of_mem _ List.mem_cons_self))))))) (cvp 223 (x' := (64 * (ρ 2) + (ρ 4))) (y' := ((ρ 6))) (by show 0 + (64 * ρ 2 + (1 * ρ 4 + 0)) = _; omega) (by show 0 + (1 * ρ 6 + 0) = _; omega) (hm _ (List.mem_cons_of_mem _ (List.mem_cons_of_mem _ (List.mem_cons_of_mem _ (List.mem_cons_of_mem _ (List.mem_cons_of_mem _ (List.mem_cons_of_mem _ List.mem_cons_self)))))))) (cvp 223 (x' := (64 * (ρ 3) + (ρ 4))) (y' := ((ρ 7))) (by show 0 + (64 * ρ 3 + (1 * ρ 4 + 0)) = _; omega) (by show 0 + (1 * ρ 7 + 0) = _; omega) (hm _ (List.mem_cons_of_mem _ (List.mem_cons_of_mem _ (List.mem_cons_of_mem _ (List.mem_cons_of_mem _ (List.mem_cons_of_mem _ (List.mem_cons_of_mem _ (List.mem_cons_of_mem _ List.mem_cons_self))))))))) (by have h := hF _ List.mem_cons_self; have h : 0 ≤ 0 + ((-1) * ρ 5 + (1 * ρ 6 + 0)) := h; omega) (by have h := hF _ (List.mem_cons_of_mem _ List.mem_cons_self); have h : 0 ≤ 0 + (1 * ρ 5 + ((-1) * ρ 7 + 0)) := h; omega) (by have h := hF _ (List.mem_cons_of_mem _ (List.mem_cons_of_mem _ List.mem_cons_self)); have h : 0 ≤ 0 + (1 * ρ 5 + ((-1) * ρ 6 + ((-1) * ρ 8 + (1 * ρ 9 + 0)))) := h; omega) hG
  obtain ⟨k0, -⟩ := H
  exact ⟨_, List.mem_cons_self, ρ, fun _ _ => rfl, (okM_c (pvp 234 (by show 0 + 0 = _; omega) (by show 1 + (16 * ρ 0 + (2 * ρ 1 + 0)) = _; omega) k0) okM_n), okB_n, okF_n⟩
-- cb110_c
theorem cr_795 (M : pM) (s0 s1 s2 s3 s4 s5 s6 s7 s8 s9 : Int) (b0 : 0 ≤ s0 ∧ s0 ≤ 34) (b1 : 0 ≤ s1 ∧ s1 ≤ 3) (b2 : 0 ≤ s2 ∧ s2 ≤ 63) (b3 : 0 ≤ s3 ∧ s3 ≤ 63) (b4 : 0 ≤ s4 ∧ s4 ≤ 63) (b5 : 0 ≤ s5 ∧ s5 ≤ 3) (b6 : 0 ≤ s6 ∧ s6 ≤ 7) (b7 : 0 ≤ s7 ∧ s7 ≤ 7) (b8 : 0 ≤ s8 ∧ s8 ≤ 35) (b9 : 0 ≤ s9 ∧ s9 ≤ 35) (m0 : (0 ≤ (s0) ∧ M 51 (s0).toNat = (s2))) (m1 : (0 ≤ (s0 + 1) ∧ M 51 (s0 + 1).toNat = (s3))) (m2 : (0 ≤ (s1) ∧ M 27 (s1).toNat = (s4))) (m3 : (0 ≤ (2 : Int) ∧ M 26 (2 : Int).toNat = (s5))) (m4 : (0 ≤ (s0) ∧ M 50 (s0).toNat = (s8))) (m5 : (0 ≤ (s0 + 1) ∧ M 50 (s0 + 1).toNat = (s9))) (m6 : HP 223 (64 * s2 + s4) (s6) M) (m7 : HP 223 (64 * s3 + s4) (s7) M) (f0 : 0 ≤ ((-1) * s5 + s6)) (f1 : 0 ≤ ((-1) * s5 + s7)) (f2 : 0 ≤ ((-2) * s5 + s6 + s7 + s8 + (-1) * s9 - 1)) (hG : gI M) : (HP 234 (0 : Int) (16 * s0 + 2 * s1) M ∧ True) := by
  obtain ⟨x1, x2, y1, y2, y3, y4⟩ := Eq.mp hp_223 m6
  obtain ⟨w1, w2, v1, v2, v3, v4⟩ := Eq.mp hp_223 m7
  have e1 := m1.2
  rw [show (s0 + 1).toNat = s0.toNat + 1 by omega] at e1
  have e5 := m5.2
  rw [show (s0 + 1).toNat = s0.toNat + 1 by omega] at e5
  have e4 := m4.2
  have ez : M 26 2 = s5 := m3.2
  have t1 := tzF_e (ce := M 51) (pt := M 27) (z := M 26 2) (n := s0.toNat) (a := s1.toNat) (v := s6) (by rw [m0.2, m2.2, show s2.toNat = x1 by omega, show s4.toNat = x2 by omega]; exact y4)
  have t2 := tzF_e (ce := M 51) (pt := M 27) (z := M 26 2) (n := s0.toNat + 1) (a := s1.toNat) (v := s7) (by rw [e1, m2.2, show s3.toNat = w1 by omega, show s4.toNat = w2 by omega]; exact v4)
  have hz : ¬ tzR (M 51) (M 50) (M 27) (M 26 2) s0.toNat s1.toNat := by
    unfold tzR
    rw [t1, t2, e4, e5]
    (repeat' split) <;> omega
  exact ⟨Eq.mpr hp_234 ⟨s0.toNat, s1.toNat, 0, by omega, by omega, by omega, by omega, ⟨fun h => absurd h (by decide), fun h => absurd h hz⟩⟩, trivial⟩
theorem rul_795 : Rul r_795 := by
  refine ⟨fun _ ρ M hm hB hF hG => ?_, fun gi gv hg => (by cases hg)⟩
  have H := cr_795 M (ρ 0) (ρ 1) (ρ 2) (ρ 3) (ρ 4) (ρ 5) (ρ 6) (ρ 7) (ρ 8) (ρ 9) (hB _ List.mem_cons_self) (hB _ (List.mem_cons_of_mem _ List.mem_cons_self)) (hB _ (List.mem_cons_of_mem _ (List.mem_cons_of_mem _ List.mem_cons_self))) (hB _ (List.mem_cons_of_mem _ (List.mem_cons_of_mem _ (List.mem_cons_of_mem _ List.mem_cons_self)))) (hB _ (List.mem_cons_of_mem _ (List.mem_cons_of_mem _ (List.mem_cons_of_mem _ (List.mem_cons_of_mem _ List.mem_cons_self))))) (hB _ (List.mem_cons_of_mem _ (List.mem_cons_of_mem _ (List.mem_cons_of_mem _ (List.mem_cons_of_mem _ (List.mem_cons_of_mem _ List.mem_cons_self)))))) (hB _ (List.mem_cons_of_mem _ (List.mem_cons_of_mem _ (List.mem_cons_of_mem _ (List.mem_cons_of_mem _ (List.mem_cons_of_mem _ (List.mem_cons_of_mem _ List.mem_cons_self))))))) (hB _ (List.mem_cons_of_mem _ (List.mem_cons_of_mem _ (List.mem_cons_of_mem _ (List.mem_cons_of_mem _ (List.mem_cons_of_mem _ (List.mem_cons_of_mem _ (List.mem_cons_of_mem _ List.mem_cons_self)))))))) (hB _ (List.mem_cons_of_mem _ (List.mem_cons_of_mem _ (List.mem_cons_of_mem _ (List.mem_cons_of_mem _ (List.mem_cons_of_mem _ (List.mem_cons_of_mem _ (List.mem_cons_of_mem _ (List.mem_cons_of_mem _ List.mem_cons_self))))))))) (hB _ (List.mem_cons_of_mem _ (List.mem_cons_of_mem _ (List.mem_cons_of_mem _ (List.mem_cons_of_mem _ (List.mem_cons_of_mem _ (List.mem_cons_of_mem _ (List.mem_cons_of_mem _ (List.mem_cons_of_mem _ (List.mem_cons_of_mem _ List.mem_cons_self)))))))))) (cvm (c := 51) (by decide) (x' := ((ρ 0))) (y' := ((ρ 2))) (by show 0 + (1 * ρ 0 + 0) = _; omega) (by show 0 + (1 * ρ 2 + 0) = _; omega) (hm _ List.mem_cons_self)) (cvm (c := 51) (by decide) (x' := ((ρ 0) + 1)) (y' := ((ρ 3))) (by show 1 + (1 * ρ 0 + 0) = _; omega) (by show 0 + (1 * ρ 3 + 0) = _; omega) (hm _ (List.mem_cons_of_mem _ List.mem_cons_self))) (cvm (c := 27) (by decide) (x' := ((ρ 1))) (y' := ((ρ 4))) (by show 0 + (1 * ρ 1 + 0) = _; omega) (by show 0 + (1 * ρ 4 + 0) = _; omega) (hm _ (List.mem_cons_of_mem _ (List.mem_cons_of_mem _ List.mem_cons_self)))) (cvm (c := 26) (by decide) (x' := (2 : Int)) (y' := ((ρ 5))) (by show 2 + 0 = _; omega) (by show 0 + (1 * ρ 5 + 0) = _; omega) (hm _ (List.mem_cons_of_mem _ (List.mem_cons_of_mem _ (List.mem_cons_of_mem _ List.mem_cons_self))))) (cvm (c := 50) (by decide) (x' := ((ρ 0))) (y' := ((ρ 8))) (by show 0 + (1 * ρ 0 + 0) = _; omega) (by show 0 + (1 * ρ 8 + 0) = _; omega) (hm _ (List.mem_cons_of_mem _ (List.mem_cons_of_mem _ (List.mem_cons_of_mem _ (List.mem_cons_of_mem _ List.mem_cons_self)))))) (cvm (c := 50) (by decide) (x' := ((ρ 0) + 1)) (y' := ((ρ 9))) (by show 1 + (1 * ρ 0 + 0) = _; omega) (by show 0 + (1 * ρ 9 + 0) = _; omega) (hm _ (List.mem_cons_of_mem _ (List.mem_cons_of_mem _ (List.mem_cons_of_mem _ (List.mem_cons_of_mem _ (List.mem_cons_of_mem _ List.mem_cons_self))))))) (cvp 223 (x' := (64 * (ρ 2) + (ρ 4))) (y' := ((ρ 6))) (by show 0 + (64 * ρ 2 + (1 * ρ 4 + 0)) = _; omega) (by show 0 + (1 * ρ 6 + 0) = _; omega) (hm _ (List.mem_cons_of_mem _ (List.mem_cons_of_mem _ (List.mem_cons_of_mem _ (List.mem_cons_of_mem _ (List.mem_cons_of_mem _ (List.mem_cons_of_mem _ List.mem_cons_self)))))))) (cvp 223 (x' := (64 * (ρ 3) + (ρ 4))) (y' := ((ρ 7))) (by show 0 + (64 * ρ 3 + (1 * ρ 4 + 0)) = _; omega) (by show 0 + (1 * ρ 7 + 0) = _; omega) (hm _ (List.mem_cons_of_mem _ (List.mem_cons_of_mem _ (List.mem_cons_of_mem _ (List.mem_cons_of_mem _ (List.mem_cons_of_mem _ (List.mem_cons_of_mem _ (List.mem_cons_of_mem _ List.mem_cons_self))))))))) (by have h := hF _ List.mem_cons_self; have h : 0 ≤ 0 + ((-1) * ρ 5 + (1 * ρ 6 + 0)) := h; omega) (by have h := hF _ (List.mem_cons_of_mem _ List.mem_cons_self); have h : 0 ≤ 0 + ((-1) * ρ 5 + (1 * ρ 7 + 0)) := h; omega) (by have h := hF _ (List.mem_cons_of_mem _ (List.mem_cons_of_mem _ List.mem_cons_self)); have h : 0 ≤ (-1) + ((-2) * ρ 5 + (1 * ρ 6 + (1 * ρ 7 + (1 * ρ 8 + ((-1) * ρ 9 + 0))))) := h; omega) hG
  obtain ⟨k0, -⟩ := H
  exact ⟨_, List.mem_cons_self, ρ, fun _ _ => rfl, (okM_c (pvp 234 (by show 0 + 0 = _; omega) (by show 0 + (16 * ρ 0 + (2 * ρ 1 + 0)) = _; omega) k0) okM_n), okB_n, okF_n⟩
-- cb111_c
theorem cr_796 (M : pM) (s0 s1 s2 s3 s4 s5 s6 s7 s8 s9 : Int) (b0 : 0 ≤ s0 ∧ s0 ≤ 34) (b1 : 0 ≤ s1 ∧ s1 ≤ 3) (b2 : 0 ≤ s2 ∧ s2 ≤ 63) (b3 : 0 ≤ s3 ∧ s3 ≤ 63) (b4 : 0 ≤ s4 ∧ s4 ≤ 63) (b5 : 0 ≤ s5 ∧ s5 ≤ 3) (b6 : 0 ≤ s6 ∧ s6 ≤ 7) (b7 : 0 ≤ s7 ∧ s7 ≤ 7) (b8 : 0 ≤ s8 ∧ s8 ≤ 35) (b9 : 0 ≤ s9 ∧ s9 ≤ 35) (m0 : (0 ≤ (s0) ∧ M 51 (s0).toNat = (s2))) (m1 : (0 ≤ (s0 + 1) ∧ M 51 (s0 + 1).toNat = (s3))) (m2 : (0 ≤ (s1) ∧ M 27 (s1).toNat = (s4))) (m3 : (0 ≤ (2 : Int) ∧ M 26 (2 : Int).toNat = (s5))) (m4 : (0 ≤ (s0) ∧ M 50 (s0).toNat = (s8))) (m5 : (0 ≤ (s0 + 1) ∧ M 50 (s0 + 1).toNat = (s9))) (m6 : HP 223 (64 * s2 + s4) (s6) M) (m7 : HP 223 (64 * s3 + s4) (s7) M) (f0 : 0 ≤ ((-1) * s5 + s6)) (f1 : 0 ≤ ((-1) * s5 + s7)) (f2 : 0 ≤ (2 * s5 + (-1) * s6 + (-1) * s7 + (-1) * s8 + s9)) (hG : gI M) : (HP 234 (0 : Int) (16 * s0 + 2 * s1 + 1) M ∧ True) := by
  obtain ⟨x1, x2, y1, y2, y3, y4⟩ := Eq.mp hp_223 m6
  obtain ⟨w1, w2, v1, v2, v3, v4⟩ := Eq.mp hp_223 m7
  have e1 := m1.2
  rw [show (s0 + 1).toNat = s0.toNat + 1 by omega] at e1
  have e5 := m5.2
  rw [show (s0 + 1).toNat = s0.toNat + 1 by omega] at e5
  have e4 := m4.2
  have ez : M 26 2 = s5 := m3.2
  have t1 := tzF_e (ce := M 51) (pt := M 27) (z := M 26 2) (n := s0.toNat) (a := s1.toNat) (v := s6) (by rw [m0.2, m2.2, show s2.toNat = x1 by omega, show s4.toNat = x2 by omega]; exact y4)
  have t2 := tzF_e (ce := M 51) (pt := M 27) (z := M 26 2) (n := s0.toNat + 1) (a := s1.toNat) (v := s7) (by rw [e1, m2.2, show s3.toNat = w1 by omega, show s4.toNat = w2 by omega]; exact v4)
  have hz : tzR (M 51) (M 50) (M 27) (M 26 2) s0.toNat s1.toNat := by
    unfold tzR
    rw [t1, t2, e4, e5]
    (repeat' split) <;> omega
  exact ⟨Eq.mpr hp_234 ⟨s0.toNat, s1.toNat, 1, by omega, by omega, by omega, by omega, ⟨fun _ => hz, fun _ => rfl⟩⟩, trivial⟩
theorem rul_796 : Rul r_796 := by
  refine ⟨fun _ ρ M hm hB hF hG => ?_, fun gi gv hg => (by cases hg)⟩
  have H := cr_796 M (ρ 0) (ρ 1) (ρ 2) (ρ 3) (ρ 4) (ρ 5) (ρ 6) (ρ 7) (ρ 8) (ρ 9) (hB _ List.mem_cons_self) (hB _ (List.mem_cons_of_mem _ List.mem_cons_self)) (hB _ (List.mem_cons_of_mem _ (List.mem_cons_of_mem _ List.mem_cons_self))) (hB _ (List.mem_cons_of_mem _ (List.mem_cons_of_mem _ (List.mem_cons_of_mem _ List.mem_cons_self)))) (hB _ (List.mem_cons_of_mem _ (List.mem_cons_of_mem _ (List.mem_cons_of_mem _ (List.mem_cons_of_mem _ List.mem_cons_self))))) (hB _ (List.mem_cons_of_mem _ (List.mem_cons_of_mem _ (List.mem_cons_of_mem _ (List.mem_cons_of_mem _ (List.mem_cons_of_mem _ List.mem_cons_self)))))) (hB _ (List.mem_cons_of_mem _ (List.mem_cons_of_mem _ (List.mem_cons_of_mem _ (List.mem_cons_of_mem _ (List.mem_cons_of_mem _ (List.mem_cons_of_mem _ List.mem_cons_self))))))) (hB _ (List.mem_cons_of_mem _ (List.mem_cons_of_mem _ (List.mem_cons_of_mem _ (List.mem_cons_of_mem _ (List.mem_cons_of_mem _ (List.mem_cons_of_mem _ (List.mem_cons_of_mem _ List.mem_cons_self)))))))) (hB _ (List.mem_cons_of_mem _ (List.mem_cons_of_mem _ (List.mem_cons_of_mem _ (List.mem_cons_of_mem _ (List.mem_cons_of_mem _ (List.mem_cons_of_mem _ (List.mem_cons_of_mem _ (List.mem_cons_of_mem _ List.mem_cons_self))))))))) (hB _ (List.mem_cons_of_mem _ (List.mem_cons_of_mem _ (List.mem_cons_of_mem _ (List.mem_cons_of_mem _ (List.mem_cons_of_mem _ (List.mem_cons_of_mem _ (List.mem_cons_of_mem _ (List.mem_cons_of_mem _ (List.mem_cons_of_mem _ List.mem_cons_self)))))))))) (cvm (c := 51) (by decide) (x' := ((ρ 0))) (y' := ((ρ 2))) (by show 0 + (1 * ρ 0 + 0) = _; omega) (by show 0 + (1 * ρ 2 + 0) = _; omega) (hm _ List.mem_cons_self)) (cvm (c := 51) (by decide) (x' := ((ρ 0) + 1)) (y' := ((ρ 3))) (by show 1 + (1 * ρ 0 + 0) = _; omega) (by show 0 + (1 * ρ 3 + 0) = _; omega) (hm _ (List.mem_cons_of_mem _ List.mem_cons_self))) (cvm (c := 27) (by decide) (x' := ((ρ 1))) (y' := ((ρ 4))) (by show 0 + (1 * ρ 1 + 0) = _; omega) (by show 0 + (1 * ρ 4 + 0) = _; omega) (hm _ (List.mem_cons_of_mem _ (List.mem_cons_of_mem _ List.mem_cons_self)))) (cvm (c := 26) (by decide) (x' := (2 : Int)) (y' := ((ρ 5))) (by show 2 + 0 = _; omega) (by show 0 + (1 * ρ 5 + 0) = _; omega) (hm _ (List.mem_cons_of_mem _ (List.mem_cons_of_mem _ (List.mem_cons_of_mem _ List.mem_cons_self))))) (cvm (c := 50) (by decide) (x' := ((ρ 0))) (y' := ((ρ 8))) (by show 0 + (1 * ρ 0 + 0) = _; omega) (by show 0 + (1 * ρ 8 + 0) = _; omega) (hm _ (List.mem_cons_of_mem _ (List.mem_cons_of_mem _ (List.mem_cons_of_mem _ (List.mem_cons_of_mem _ List.mem_cons_self)))))) (cvm (c := 50) (by decide) (x' := ((ρ 0) + 1)) (y' := ((ρ 9))) (by show 1 + (1 * ρ 0 + 0) = _; omega) (by show 0 + (1 * ρ 9 + 0) = _; omega) (hm _ (List.mem_cons_of_mem _ (List.mem_cons_of_mem _ (List.mem_cons_of_mem _ (List.mem_cons_of_mem _ (List.mem_cons_of_mem _ List.mem_cons_self))))))) (cvp 223 (x' := (64 * (ρ 2) + (ρ 4))) (y' := ((ρ 6))) (by show 0 + (64 * ρ 2 + (1 * ρ 4 + 0)) = _; omega) (by show 0 + (1 * ρ 6 + 0) = _; omega) (hm _ (List.mem_cons_of_mem _ (List.mem_cons_of_mem _ (List.mem_cons_of_mem _ (List.mem_cons_of_mem _ (List.mem_cons_of_mem _ (List.mem_cons_of_mem _ List.mem_cons_self)))))))) (cvp 223 (x' := (64 * (ρ 3) + (ρ 4))) (y' := ((ρ 7))) (by show 0 + (64 * ρ 3 + (1 * ρ 4 + 0)) = _; omega) (by show 0 + (1 * ρ 7 + 0) = _; omega) (hm _ (List.mem_cons_of_mem _ (List.mem_cons_of_mem _ (List.mem_cons_of_mem _ (List.mem_cons_of_mem _ (List.mem_cons_of_mem _ (List.mem_cons_of_mem _ (List.mem_cons_of_mem _ List.mem_cons_self))))))))) (by have h := hF _ List.mem_cons_self; have h : 0 ≤ 0 + ((-1) * ρ 5 + (1 * ρ 6 + 0)) := h; omega) (by have h := hF _ (List.mem_cons_of_mem _ List.mem_cons_self); have h : 0 ≤ 0 + ((-1) * ρ 5 + (1 * ρ 7 + 0)) := h; omega) (by have h := hF _ (List.mem_cons_of_mem _ (List.mem_cons_of_mem _ List.mem_cons_self)); have h : 0 ≤ 0 + (2 * ρ 5 + ((-1) * ρ 6 + ((-1) * ρ 7 + ((-1) * ρ 8 + (1 * ρ 9 + 0))))) := h; omega) hG
  obtain ⟨k0, -⟩ := H
  exact ⟨_, List.mem_cons_self, ρ, fun _ _ => rfl, (okM_c (pvp 234 (by show 0 + 0 = _; omega) (by show 1 + (16 * ρ 0 + (2 * ρ 1 + 0)) = _; omega) k0) okM_n), okB_n, okF_n⟩
-- mr0_c
theorem cr_797 (M : pM) (s0 s1 : Int) (b0 : 0 ≤ s0 ∧ s0 ≤ 36) (b1 : 0 ≤ s1 ∧ s1 ≤ 4) (m0 : (0 ≤ (1 : Int) ∧ M 26 (1 : Int).toNat = (s1))) (hG : gI M) : (HP 238 (0 : Int) (512 * s0) M ∧ True) := by
  have eq_ : M 26 1 = s1 := m0.2
  exact ⟨Eq.mpr hp_238 ⟨s0.toNat, 0, 0, by omega, by omega, by omega, by omega, by omega, rfl⟩, trivial⟩
theorem rul_797 : Rul r_797 := by
  refine ⟨fun _ ρ M hm hB hF hG => ?_, fun gi gv hg => (by cases hg)⟩
  have H := cr_797 M (ρ 0) (ρ 1) (hB _ List.mem_cons_self) (hB _ (List.mem_cons_of_mem _ List.mem_cons_self)) (cvm (c := 26) (by decide) (x' := (1 : Int)) (y' := ((ρ 1))) (by show 1 + 0 = _; omega) (by show 0 + (1 * ρ 1 + 0) = _; omega) (hm _ List.mem_cons_self)) hG
  obtain ⟨k0, -⟩ := H
  exact ⟨_, List.mem_cons_self, ρ, fun _ _ => rfl, (okM_c (pvp 238 (by show 0 + 0 = _; omega) (by show 0 + (512 * ρ 0 + 0) = _; omega) k0) okM_n), okB_n, okF_n⟩
-- mrt_c
theorem cr_798 (M : pM) (s0 s1 s2 s3 s4 : Int) (b0 : 0 ≤ s0 ∧ s0 ≤ 36) (b1 : 0 ≤ s1 ∧ s1 ≤ 35) (b2 : 0 ≤ s2 ∧ s2 ≤ 4) (b3 : 0 ≤ s3 ∧ s3 ≤ 3) (b4 : 0 ≤ s4 ∧ s4 ≤ 4) (m0 : HP 238 (0 : Int) (512 * s0 + 8 * s1 + s2) M) (m1 : HP 232 (0 : Int) (64 * s1 + 8 * s2 + s3) M) (m2 : HP 234 (0 : Int) (16 * s1 + 2 * s3 + 1) M) (m3 : (0 ≤ (1 : Int) ∧ M 26 (1 : Int).toNat = (s4))) (f0 : 0 ≤ (s0 + (-1) * s1 - 2)) (f1 : 0 ≤ ((-1) * s3 + s4 - 1)) (hG : gI M) : (HP 238 (0 : Int) (512 * s0 + 8 * s1 + s3 + 9) M ∧ True) := by
  obtain ⟨N, i, r, h1, h2, h3, h4, h5, h6⟩ := Eq.mp hp_238 m0
  obtain ⟨n, b, a, k1, k2, k3, k4, k5, k6⟩ := Eq.mp hp_232 m1
  have e0_ : N = s0.toNat := by omega
  subst e0_
  have e1_ : i = s1.toNat := by omega
  subst e1_
  have e2_ : r = s2.toNat := by omega
  subst e2_
  have e3_ : n = s1.toNat := by omega
  subst e3_
  have e4_ : b = s2.toNat := by omega
  subst e4_
  have e5_ : a = s3.toNat := by omega
  subst e5_
  obtain ⟨n, a, k, c1, c2, c3, c4, c5⟩ := Eq.mp hp_234 m2
  have e6_ : n = s1.toNat := by omega
  subst e6_
  have e7_ : a = s3.toNat := by omega
  subst e7_
  have e8_ : k = 1 := by omega
  subst e8_
  have eq_ : M 26 1 = s4 := m3.2
  exact ⟨Eq.mpr hp_238 ⟨s0.toNat, s1.toNat + 1, s3.toNat + 1, by omega, by omega, by omega, by omega, by omega, ⟨s2.toNat, s3.toNat, h6, k6, Or.inl ⟨⟨by omega, by omega, c5.mp rfl⟩, rfl⟩⟩⟩, trivial⟩
theorem rul_798 : Rul r_798 := by
  refine ⟨fun _ ρ M hm hB hF hG => ?_, fun gi gv hg => (by cases hg)⟩
  have H := cr_798 M (ρ 0) (ρ 1) (ρ 2) (ρ 3) (ρ 4) (hB _ List.mem_cons_self) (hB _ (List.mem_cons_of_mem _ List.mem_cons_self)) (hB _ (List.mem_cons_of_mem _ (List.mem_cons_of_mem _ List.mem_cons_self))) (hB _ (List.mem_cons_of_mem _ (List.mem_cons_of_mem _ (List.mem_cons_of_mem _ List.mem_cons_self)))) (hB _ (List.mem_cons_of_mem _ (List.mem_cons_of_mem _ (List.mem_cons_of_mem _ (List.mem_cons_of_mem _ List.mem_cons_self))))) (cvp 238 (x' := (0 : Int)) (y' := (512 * (ρ 0) + 8 * (ρ 1) + (ρ 2))) (by show 0 + 0 = _; omega) (by show 0 + (512 * ρ 0 + (8 * ρ 1 + (1 * ρ 2 + 0))) = _; omega) (hm _ List.mem_cons_self)) (cvp 232 (x' := (0 : Int)) (y' := (64 * (ρ 1) + 8 * (ρ 2) + (ρ 3))) (by show 0 + 0 = _; omega) (by show 0 + (64 * ρ 1 + (8 * ρ 2 + (1 * ρ 3 + 0))) = _; omega) (hm _ (List.mem_cons_of_mem _ List.mem_cons_self))) (cvp 234 (x' := (0 : Int)) (y' := (16 * (ρ 1) + 2 * (ρ 3) + 1)) (by show 0 + 0 = _; omega) (by show 1 + (16 * ρ 1 + (2 * ρ 3 + 0)) = _; omega) (hm _ (List.mem_cons_of_mem _ (List.mem_cons_of_mem _ List.mem_cons_self)))) (cvm (c := 26) (by decide) (x' := (1 : Int)) (y' := ((ρ 4))) (by show 1 + 0 = _; omega) (by show 0 + (1 * ρ 4 + 0) = _; omega) (hm _ (List.mem_cons_of_mem _ (List.mem_cons_of_mem _ (List.mem_cons_of_mem _ List.mem_cons_self))))) (by have h := hF _ List.mem_cons_self; have h : 0 ≤ (-2) + (1 * ρ 0 + ((-1) * ρ 1 + 0)) := h; omega) (by have h := hF _ (List.mem_cons_of_mem _ List.mem_cons_self); have h : 0 ≤ (-1) + ((-1) * ρ 3 + (1 * ρ 4 + 0)) := h; omega) hG
  obtain ⟨k0, -⟩ := H
  exact ⟨_, List.mem_cons_self, ρ, fun _ _ => rfl, (okM_c (pvp 238 (by show 0 + 0 = _; omega) (by show 9 + (512 * ρ 0 + (8 * ρ 1 + (1 * ρ 3 + 0))) = _; omega) k0) okM_n), okB_n, okF_n⟩
-- mrf_c
theorem cr_799 (M : pM) (s0 s1 s2 s3 : Int) (b0 : 0 ≤ s0 ∧ s0 ≤ 36) (b1 : 0 ≤ s1 ∧ s1 ≤ 35) (b2 : 0 ≤ s2 ∧ s2 ≤ 4) (b3 : 0 ≤ s3 ∧ s3 ≤ 3) (m0 : HP 238 (0 : Int) (512 * s0 + 8 * s1 + s2) M) (m1 : HP 232 (0 : Int) (64 * s1 + 8 * s2 + s3) M) (m2 : HP 234 (0 : Int) (16 * s1 + 2 * s3) M) (hG : gI M) : (HP 238 (0 : Int) (512 * s0 + 8 * s1 + s3 + 8) M ∧ True) := by
  obtain ⟨N, i, r, h1, h2, h3, h4, h5, h6⟩ := Eq.mp hp_238 m0
  obtain ⟨n, b, a, k1, k2, k3, k4, k5, k6⟩ := Eq.mp hp_232 m1
  have e0_ : N = s0.toNat := by omega
  subst e0_
  have e1_ : i = s1.toNat := by omega
  subst e1_
  have e2_ : r = s2.toNat := by omega
  subst e2_
  have e3_ : n = s1.toNat := by omega
  subst e3_
  have e4_ : b = s2.toNat := by omega
  subst e4_
  have e5_ : a = s3.toNat := by omega
  subst e5_
  obtain ⟨n, a, k, c1, c2, c3, c4, c5⟩ := Eq.mp hp_234 m2
  have e6_ : n = s1.toNat := by omega
  subst e6_
  have e7_ : a = s3.toNat := by omega
  subst e7_
  have e8_ : k = 0 := by omega
  subst e8_
  exact ⟨Eq.mpr hp_238 ⟨s0.toNat, s1.toNat + 1, s3.toNat, by omega, by omega, by omega, by omega, by omega, ⟨s2.toNat, s3.toNat, h6, k6, Or.inr ⟨fun hh => absurd (c5.mpr hh.2.2) (by decide), rfl⟩⟩⟩, trivial⟩
theorem rul_799 : Rul r_799 := by
  refine ⟨fun _ ρ M hm hB hF hG => ?_, fun gi gv hg => (by cases hg)⟩
  have H := cr_799 M (ρ 0) (ρ 1) (ρ 2) (ρ 3) (hB _ List.mem_cons_self) (hB _ (List.mem_cons_of_mem _ List.mem_cons_self)) (hB _ (List.mem_cons_of_mem _ (List.mem_cons_of_mem _ List.mem_cons_self))) (hB _ (List.mem_cons_of_mem _ (List.mem_cons_of_mem _ (List.mem_cons_of_mem _ List.mem_cons_self)))) (cvp 238 (x' := (0 : Int)) (y' := (512 * (ρ 0) + 8 * (ρ 1) + (ρ 2))) (by show 0 + 0 = _; omega) (by show 0 + (512 * ρ 0 + (8 * ρ 1 + (1 * ρ 2 + 0))) = _; omega) (hm _ List.mem_cons_self)) (cvp 232 (x' := (0 : Int)) (y' := (64 * (ρ 1) + 8 * (ρ 2) + (ρ 3))) (by show 0 + 0 = _; omega) (by show 0 + (64 * ρ 1 + (8 * ρ 2 + (1 * ρ 3 + 0))) = _; omega) (hm _ (List.mem_cons_of_mem _ List.mem_cons_self))) (cvp 234 (x' := (0 : Int)) (y' := (16 * (ρ 1) + 2 * (ρ 3))) (by show 0 + 0 = _; omega) (by show 0 + (16 * ρ 1 + (2 * ρ 3 + 0)) = _; omega) (hm _ (List.mem_cons_of_mem _ (List.mem_cons_of_mem _ List.mem_cons_self)))) hG
  obtain ⟨k0, -⟩ := H
  exact ⟨_, List.mem_cons_self, ρ, fun _ _ => rfl, (okM_c (pvp 238 (by show 0 + 0 = _; omega) (by show 8 + (512 * ρ 0 + (8 * ρ 1 + (1 * ρ 3 + 0))) = _; omega) k0) okM_n), okB_n, okF_n⟩
