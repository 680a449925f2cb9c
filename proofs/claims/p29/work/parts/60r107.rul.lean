-- fjx_72_1
theorem cr_700 (M : pM) (s0 s1 : Int) (b0 : 0 ≤ s0 ∧ s0 ≤ 6) (b1 : 0 ≤ s1 ∧ s1 ≤ 6) (m0 : HP 173 (s0) (0 : Int) M) (f0 : 0 ≤ ((-1) * s0 + s1)) (f1 : 0 ≤ (s0 + (-1) * s1)) (hG : gI M) : (HP 173 (s1) (0 : Int) M ∧ True) := by
  have e : s0 = s1 := by omega
  subst e
  exact ⟨m0, trivial⟩
theorem rul_700 : Rul r_700 := by
  refine ⟨fun _ ρ M hm hB hF hG => ?_, fun gi gv hg => (by cases hg)⟩
  have H := cr_700 M (ρ 0) (ρ 1) (hB _ List.mem_cons_self) (hB _ (List.mem_cons_of_mem _ List.mem_cons_self)) (cvp 173 (x' := ((ρ 0))) (y' := (0 : Int)) (by show 0 + (1 * ρ 0 + 0) = _; omega) (by show 0 + 0 = _; omega) (hm _ List.mem_cons_self)) (by have h := hF _ List.mem_cons_self; have h : 0 ≤ 0 + ((-1) * ρ 0 + (1 * ρ 1 + 0)) := h; omega) (by have h := hF _ (List.mem_cons_of_mem _ List.mem_cons_self); have h : 0 ≤ 0 + (1 * ρ 0 + ((-1) * ρ 1 + 0)) := h; omega) hG
  obtain ⟨k0, -⟩ := H
  exact ⟨_, List.mem_cons_self, ρ, fun _ _ => rfl, (okM_c (pvp 173 (by show 0 + (1 * ρ 1 + 0) = _; omega) (by show 0 + 0 = _; omega) k0) okM_n), okB_n, okF_n⟩
-- fj0_73_1
theorem cr_701 (M : pM)  (hG : gI M) : (HP 174 (0 : Int) (-1 : Int) M ∧ True) := by
  exact ⟨Eq.mpr hp_174 ⟨by decide, fun i hi => by omega⟩, trivial⟩
theorem rul_701 : Rul r_701 := by
  refine ⟨fun _ ρ M hm hB hF hG => ?_, fun gi gv hg => (by cases hg)⟩
  have H := cr_701 M hG
  obtain ⟨k0, -⟩ := H
  exact ⟨_, List.mem_cons_self, ρ, fun _ _ => rfl, (okM_c (pvp 174 (by show 0 + 0 = _; omega) (by show (-1) + 0 = _; omega) k0) okM_n), okB_n, okF_n⟩
-- fjw_73_1
theorem cr_702 (M : pM) (s0 : Int) (b0 : 0 ≤ s0 ∧ s0 ≤ 5) (m0 : HP 174 (s0) (-1 : Int) M) (hG : gI M) : (HP 174 (s0 + 1) (-1 : Int) (st M 73 (s0 + 6).toNat (-1 : Int)) ∧ True) := by
  refine ⟨Eq.mpr hp_174 ⟨by omega, fun i hi => ?_⟩, trivial⟩
  rw [show (s0 + 6).toNat = 6 + s0.toNat by omega, cw]
  by_cases e : i = s0.toNat
  · rw [if_pos e]
  · rw [if_neg e]; exact (Eq.mp hp_174 m0).2 i (by omega)
theorem rul_702 : Rul r_702 := by
  refine ⟨fun h => (by cases h), fun gi gv hg ρ M hm hB hF hG => ?_⟩
  obtain ⟨g1, g2⟩ := List.cons.inj (show ([aI ((6 : Int), ([(0, 1)] : List (Nat × Int))), aI (((-1) : Int), ([] : List (Nat × Int)))] : List av) = [.inl gi, .inl gv] from hg)
  obtain ⟨g2, -⟩ := List.cons.inj g2
  cases g1
  cases g2
  have ei : ev ρ ((6 : Int), ([(0, 1)] : List (Nat × Int))) = ((ρ 0) + 6) := by show 6 + (1 * ρ 0 + 0) = _; omega
  have ew : ev ρ (((-1) : Int), ([] : List (Nat × Int))) = (-1 : Int) := by show (-1) + 0 = _; omega
  rw [show (st M (ctj r_702) (ev ρ ((6 : Int), ([(0, 1)] : List (Nat × Int)))).toNat (ev ρ (((-1) : Int), ([] : List (Nat × Int))))) = (st M 73 ((ρ 0) + 6).toNat (-1 : Int)) from by rw [ei, ew]; rfl]
  have H := cr_702 M (ρ 0) (hB _ List.mem_cons_self) (cvp 174 (x' := ((ρ 0))) (y' := (-1 : Int)) (by show 0 + (1 * ρ 0 + 0) = _; omega) (by show (-1) + 0 = _; omega) (hm _ List.mem_cons_self)) hG
  obtain ⟨k0, -⟩ := H
  exact ⟨_, List.mem_cons_self, ρ, fun _ _ => rfl, (okM_c (pvp 174 (by show 1 + (1 * ρ 0 + 0) = _; omega) (by show (-1) + 0 = _; omega) k0) okM_n), okB_n, okF_n⟩
-- fjx_73_1
theorem cr_703 (M : pM) (s0 s1 : Int) (b0 : 0 ≤ s0 ∧ s0 ≤ 6) (b1 : 0 ≤ s1 ∧ s1 ≤ 6) (m0 : HP 174 (s0) (-1 : Int) M) (f0 : 0 ≤ ((-1) * s0 + s1)) (f1 : 0 ≤ (s0 + (-1) * s1)) (hG : gI M) : (HP 174 (s1) (-1 : Int) M ∧ True) := by
  have e : s0 = s1 := by omega
  subst e
  exact ⟨m0, trivial⟩
theorem rul_703 : Rul r_703 := by
  refine ⟨fun _ ρ M hm hB hF hG => ?_, fun gi gv hg => (by cases hg)⟩
  have H := cr_703 M (ρ 0) (ρ 1) (hB _ List.mem_cons_self) (hB _ (List.mem_cons_of_mem _ List.mem_cons_self)) (cvp 174 (x' := ((ρ 0))) (y' := (-1 : Int)) (by show 0 + (1 * ρ 0 + 0) = _; omega) (by show (-1) + 0 = _; omega) (hm _ List.mem_cons_self)) (by have h := hF _ List.mem_cons_self; have h : 0 ≤ 0 + ((-1) * ρ 0 + (1 * ρ 1 + 0)) := h; omega) (by have h := hF _ (List.mem_cons_of_mem _ List.mem_cons_self); have h : 0 ≤ 0 + (1 * ρ 0 + ((-1) * ρ 1 + 0)) := h; omega) hG
  obtain ⟨k0, -⟩ := H
  exact ⟨_, List.mem_cons_self, ρ, fun _ _ => rfl, (okM_c (pvp 174 (by show 0 + (1 * ρ 1 + 0) = _; omega) (by show (-1) + 0 = _; omega) k0) okM_n), okB_n, okF_n⟩
-- fj0_86_1
theorem cr_704 (M : pM)  (hG : gI M) : (HP 175 (0 : Int) (0 : Int) M ∧ True) := by
  exact ⟨Eq.mpr hp_175 ⟨by decide, fun i hi => by omega⟩, trivial⟩
theorem rul_704 : Rul r_704 := by
  refine ⟨fun _ ρ M hm hB hF hG => ?_, fun gi gv hg => (by cases hg)⟩
  have H := cr_704 M hG
  obtain ⟨k0, -⟩ := H
  exact ⟨_, List.mem_cons_self, ρ, fun _ _ => rfl, (okM_c (pvp 175 (by show 0 + 0 = _; omega) (by show 0 + 0 = _; omega) k0) okM_n), okB_n, okF_n⟩
-- fjw_86_1
theorem cr_705 (M : pM) (s0 : Int) (b0 : 0 ≤ s0 ∧ s0 ≤ 63) (m0 : HP 175 (s0) (0 : Int) M) (hG : gI M) : (HP 175 (s0 + 1) (0 : Int) (st M 86 (s0 + 64).toNat (0 : Int)) ∧ True) := by
  refine ⟨Eq.mpr hp_175 ⟨by omega, fun i hi => ?_⟩, trivial⟩
  rw [show (s0 + 64).toNat = 64 + s0.toNat by omega, cw]
  by_cases e : i = s0.toNat
  · rw [if_pos e]
  · rw [if_neg e]; exact (Eq.mp hp_175 m0).2 i (by omega)
theorem rul_705 : Rul r_705 := by
  refine ⟨fun h => (by cases h), fun gi gv hg ρ M hm hB hF hG => ?_⟩
  obtain ⟨g1, g2⟩ := List.cons.inj (show ([aI ((64 : Int), ([(0, 1)] : List (Nat × Int))), aI ((0 : Int), ([] : List (Nat × Int)))] : List av) = [.inl gi, .inl gv] from hg)
  obtain ⟨g2, -⟩ := List.cons.inj g2
  cases g1
  cases g2
  have ei : ev ρ ((64 : Int), ([(0, 1)] : List (Nat × Int))) = ((ρ 0) + 64) := by show 64 + (1 * ρ 0 + 0) = _; omega
  have ew : ev ρ ((0 : Int), ([] : List (Nat × Int))) = (0 : Int) := by show 0 + 0 = _; omega
  rw [show (st M (ctj r_705) (ev ρ ((64 : Int), ([(0, 1)] : List (Nat × Int)))).toNat (ev ρ ((0 : Int), ([] : List (Nat × Int))))) = (st M 86 ((ρ 0) + 64).toNat (0 : Int)) from by rw [ei, ew]; rfl]
  have H := cr_705 M (ρ 0) (hB _ List.mem_cons_self) (cvp 175 (x' := ((ρ 0))) (y' := (0 : Int)) (by show 0 + (1 * ρ 0 + 0) = _; omega) (by show 0 + 0 = _; omega) (hm _ List.mem_cons_self)) hG
  obtain ⟨k0, -⟩ := H
  exact ⟨_, List.mem_cons_self, ρ, fun _ _ => rfl, (okM_c (pvp 175 (by show 1 + (1 * ρ 0 + 0) = _; omega) (by show 0 + 0 = _; omega) k0) okM_n), okB_n, okF_n⟩
-- fjx_86_1
theorem cr_706 (M : pM) (s0 s1 : Int) (b0 : 0 ≤ s0 ∧ s0 ≤ 64) (b1 : 0 ≤ s1 ∧ s1 ≤ 64) (m0 : HP 175 (s0) (0 : Int) M) (f0 : 0 ≤ ((-1) * s0 + s1)) (f1 : 0 ≤ (s0 + (-1) * s1)) (hG : gI M) : (HP 175 (s1) (0 : Int) M ∧ True) := by
  have e : s0 = s1 := by omega
  subst e
  exact ⟨m0, trivial⟩
theorem rul_706 : Rul r_706 := by
  refine ⟨fun _ ρ M hm hB hF hG => ?_, fun gi gv hg => (by cases hg)⟩
  have H := cr_706 M (ρ 0) (ρ 1) (hB _ List.mem_cons_self) (hB _ (List.mem_cons_of_mem _ List.mem_cons_self)) (cvp 175 (x' := ((ρ 0))) (y' := (0 : Int)) (by show 0 + (1 * ρ 0 + 0) = _; omega) (by show 0 + 0 = _; omega) (hm _ List.mem_cons_self)) (by have h := hF _ List.mem_cons_self; have h : 0 ≤ 0 + ((-1) * ρ 0 + (1 * ρ 1 + 0)) := h; omega) (by have h := hF _ (List.mem_cons_of_mem _ List.mem_cons_self); have h : 0 ≤ 0 + (1 * ρ 0 + ((-1) * ρ 1 + 0)) := h; omega) hG
  obtain ⟨k0, -⟩ := H
  exact ⟨_, List.mem_cons_self, ρ, fun _ _ => rfl, (okM_c (pvp 175 (by show 0 + (1 * ρ 1 + 0) = _; omega) (by show 0 + 0 = _; omega) k0) okM_n), okB_n, okF_n⟩
-- fj0_84_1
theorem cr_707 (M : pM)  (hG : gI M) : (HP 176 (0 : Int) (0 : Int) M ∧ True) := by
  exact ⟨Eq.mpr hp_176 ⟨by decide, fun i hi => by omega⟩, trivial⟩
theorem rul_707 : Rul r_707 := by
  refine ⟨fun _ ρ M hm hB hF hG => ?_, fun gi gv hg => (by cases hg)⟩
  have H := cr_707 M hG
  obtain ⟨k0, -⟩ := H
  exact ⟨_, List.mem_cons_self, ρ, fun _ _ => rfl, (okM_c (pvp 176 (by show 0 + 0 = _; omega) (by show 0 + 0 = _; omega) k0) okM_n), okB_n, okF_n⟩
-- fjw_84_1
theorem cr_708 (M : pM) (s0 : Int) (b0 : 0 ≤ s0 ∧ s0 ≤ 7) (m0 : HP 176 (s0) (0 : Int) M) (hG : gI M) : (HP 176 (s0 + 1) (0 : Int) (st M 84 (s0).toNat (0 : Int)) ∧ True) := by
  refine ⟨Eq.mpr hp_176 ⟨by omega, fun i hi => ?_⟩, trivial⟩
  rw [show (s0).toNat = 0 + s0.toNat by omega, cw]
  by_cases e : i = s0.toNat
  · rw [if_pos e]
  · rw [if_neg e]; exact (Eq.mp hp_176 m0).2 i (by omega)
theorem rul_708 : Rul r_708 := by
  refine ⟨fun h => (by cases h), fun gi gv hg ρ M hm hB hF hG => ?_⟩
  obtain ⟨g1, g2⟩ := List.cons.inj (show ([aI ((0 : Int), ([(0, 1)] : List (Nat × Int))), aI ((0 : Int), ([] : List (Nat × Int)))] : List av) = [.inl gi, .inl gv] from hg)
  obtain ⟨g2, -⟩ := List.cons.inj g2
  cases g1
  cases g2
  have ei : ev ρ ((0 : Int), ([(0, 1)] : List (Nat × Int))) = ((ρ 0)) := by show 0 + (1 * ρ 0 + 0) = _; omega
  have ew : ev ρ ((0 : Int), ([] : List (Nat × Int))) = (0 : Int) := by show 0 + 0 = _; omega
  rw [show (st M (ctj r_708) (ev ρ ((0 : Int), ([(0, 1)] : List (Nat × Int)))).toNat (ev ρ ((0 : Int), ([] : List (Nat × Int))))) = (st M 84 ((ρ 0)).toNat (0 : Int)) from by rw [ei, ew]; rfl]
  have H := cr_708 M (ρ 0) (hB _ List.mem_cons_self) (cvp 176 (x' := ((ρ 0))) (y' := (0 : Int)) (by show 0 + (1 * ρ 0 + 0) = _; omega) (by show 0 + 0 = _; omega) (hm _ List.mem_cons_self)) hG
  obtain ⟨k0, -⟩ := H
  exact ⟨_, List.mem_cons_self, ρ, fun _ _ => rfl, (okM_c (pvp 176 (by show 1 + (1 * ρ 0 + 0) = _; omega) (by show 0 + 0 = _; omega) k0) okM_n), okB_n, okF_n⟩
-- fjx_84_1
theorem cr_709 (M : pM) (s0 s1 : Int) (b0 : 0 ≤ s0 ∧ s0 ≤ 8) (b1 : 0 ≤ s1 ∧ s1 ≤ 8) (m0 : HP 176 (s0) (0 : Int) M) (f0 : 0 ≤ ((-1) * s0 + s1)) (f1 : 0 ≤ (s0 + (-1) * s1)) (hG : gI M) : (HP 176 (s1) (0 : Int) M ∧ True) := by
  have e : s0 = s1 := by omega
  subst e
  exact ⟨m0, trivial⟩
theorem rul_709 : Rul r_709 := by
  refine ⟨fun _ ρ M hm hB hF hG => ?_, fun gi gv hg => (by cases hg)⟩
  have H := cr_709 M (ρ 0) (ρ 1) (hB _ List.mem_cons_self) (hB _ (List.mem_cons_of_mem _ List.mem_cons_self)) (cvp 176 (x' := ((ρ 0))) (y' := (0 : Int)) (by show 0 + (1 * ρ 0 + 0) = _; omega) (by show 0 + 0 = _; omega) (hm _ List.mem_cons_self)) (by have h := hF _ List.mem_cons_self; have h : 0 ≤ 0 + ((-1) * ρ 0 + (1 * ρ 1 + 0)) := h; omega) (by have h := hF _ (List.mem_cons_of_mem _ List.mem_cons_self); have h : 0 ≤ 0 + (1 * ρ 0 + ((-1) * ρ 1 + 0)) := h; omega) hG
  obtain ⟨k0, -⟩ := H
  exact ⟨_, List.mem_cons_self, ρ, fun _ _ => rfl, (okM_c (pvp 176 (by show 0 + (1 * ρ 1 + 0) = _; omega) (by show 0 + 0 = _; omega) k0) okM_n), okB_n, okF_n⟩
-- fj0_85_1
theorem cr_710 (M : pM)  (hG : gI M) : (HP 177 (0 : Int) (0 : Int) M ∧ True) := by
  exact ⟨Eq.mpr hp_177 ⟨by decide, fun i hi => by omega⟩, trivial⟩
theorem rul_710 : Rul r_710 := by
  refine ⟨fun _ ρ M hm hB hF hG => ?_, fun gi gv hg => (by cases hg)⟩
  have H := cr_710 M hG
  obtain ⟨k0, -⟩ := H
  exact ⟨_, List.mem_cons_self, ρ, fun _ _ => rfl, (okM_c (pvp 177 (by show 0 + 0 = _; omega) (by show 0 + 0 = _; omega) k0) okM_n), okB_n, okF_n⟩
-- fjw_85_1
theorem cr_711 (M : pM) (s0 : Int) (b0 : 0 ≤ s0 ∧ s0 ≤ 7) (m0 : HP 177 (s0) (0 : Int) M) (hG : gI M) : (HP 177 (s0 + 1) (0 : Int) (st M 85 (s0).toNat (0 : Int)) ∧ True) := by
  refine ⟨Eq.mpr hp_177 ⟨by omega, fun i hi => ?_⟩, trivial⟩
  rw [show (s0).toNat = 0 + s0.toNat by omega, cw]
  by_cases e : i = s0.toNat
  · rw [if_pos e]
  · rw [if_neg e]; exact (Eq.mp hp_177 m0).2 i (by omega)
theorem rul_711 : Rul r_711 := by
  refine ⟨fun h => (by cases h), fun gi gv hg ρ M hm hB hF hG => ?_⟩
  obtain ⟨g1, g2⟩ := List.cons.inj (show ([aI ((0 : Int), ([(0, 1)] : List (Nat × Int))), aI ((0 : Int), ([] : List (Nat × Int)))] : List av) = [.inl gi, .inl gv] from hg)
  obtain ⟨g2, -⟩ := List.cons.inj g2
  cases g1
  cases g2
  have ei : ev ρ ((0 : Int), ([(0, 1)] : List (Nat × Int))) = ((ρ 0)) := by show 0 + (1 * ρ 0 + 0) = _; omega
  have ew : ev ρ ((0 : Int), ([] : List (Nat × Int))) = (0 : Int) := by show 0 + 0 = _; omega
  rw [show (st M (ctj r_711) (ev ρ ((0 : Int), ([(0, 1)] : List (Nat × Int)))).toNat (ev ρ ((0 : Int), ([] : List (Nat × Int))))) = (st M 85 ((ρ 0)).toNat (0 : Int)) from by rw [ei, ew]; rfl]
  have H := cr_711 M (ρ 0) (hB _ List.mem_cons_self) (cvp 177 (x' := ((ρ 0))) (y' := (0 : Int)) (by show 0 + (1 * ρ 0 + 0) = _; omega) (by show 0 + 0 = _; omega) (hm _ List.mem_cons_self)) hG
  obtain ⟨k0, -⟩ := H
  exact ⟨_, List.mem_cons_self, ρ, fun _ _ => rfl, (okM_c (pvp 177 (by show 1 + (1 * ρ 0 + 0) = _; omega) (by show 0 + 0 = _; omega) k0) okM_n), okB_n, okF_n⟩
-- fjx_85_1
theorem cr_712 (M : pM) (s0 s1 : Int) (b0 : 0 ≤ s0 ∧ s0 ≤ 8) (b1 : 0 ≤ s1 ∧ s1 ≤ 8) (m0 : HP 177 (s0) (0 : Int) M) (f0 : 0 ≤ ((-1) * s0 + s1)) (f1 : 0 ≤ (s0 + (-1) * s1)) (hG : gI M) : (HP 177 (s1) (0 : Int) M ∧ True) := by
  have e : s0 = s1 := by omega
  subst e
  exact ⟨m0, trivial⟩
theorem rul_712 : Rul r_712 := by
  refine ⟨fun _ ρ M hm hB hF hG => ?_, fun gi gv hg => (by cases hg)⟩
  have H := cr_712 M (ρ 0) (ρ 1) (hB _ List.mem_cons_self) (hB _ (List.mem_cons_of_mem _ List.mem_cons_self)) (cvp 177 (x' := ((ρ 0))) (y' := (0 : Int)) (by show 0 + (1 * ρ 0 + 0) = _; omega) (by show 0 + 0 = _; omega) (hm _ List.mem_cons_self)) (by have h := hF _ List.mem_cons_self; have h : 0 ≤ 0 + ((-1) * ρ 0 + (1 * ρ 1 + 0)) := h; omega) (by have h := hF _ (List.mem_cons_of_mem _ List.mem_cons_self); have h : 0 ≤ 0 + (1 * ρ 0 + ((-1) * ρ 1 + 0)) := h; omega) hG
  obtain ⟨k0, -⟩ := H
  exact ⟨_, List.mem_cons_self, ρ, fun _ _ => rfl, (okM_c (pvp 177 (by show 0 + (1 * ρ 1 + 0) = _; omega) (by show 0 + 0 = _; omega) k0) okM_n), okB_n, okF_n⟩
-- ra0_1
theorem cr_713 (M : pM) (m0 : HP 170 (64 : Int) (0 : Int) M) (m1 : HP 171 (48 : Int) (0 : Int) M) (m2 : HP 172 (6 : Int) (-1 : Int) M) (m3 : HP 173 (6 : Int) (0 : Int) M) (m4 : HP 174 (6 : Int) (-1 : Int) M) (m5 : HP 175 (64 : Int) (0 : Int) M) (m6 : HP 176 (8 : Int) (0 : Int) M) (m7 : HP 177 (8 : Int) (0 : Int) M) (hG : gI M) : (HP 61 (0 : Int) (0 : Int) M ∧ True) := by
  have q0 : qat (tm M) 0 (0, qA0) := ⟨0, by decide, by decide, rfl⟩
  refine ⟨Eq.mpr hp_61 ⟨(0, qA0), q0, ⟨by decide, by decide, by decide, by decide⟩, ?_⟩, trivial⟩
  refine ⟨fun i hi => by have h := (Eq.mp hp_170 m0).2 i (by omega); exact h, fun i hi => by have h := (Eq.mp hp_171 m1).2 i (by omega); exact h, fun i hi => by have h := (Eq.mp hp_172 m2).2 i (by omega); exact h, fun i hi => by have h := (Eq.mp hp_173 m3).2 i (by omega); exact h, fun i hi => by have h := (Eq.mp hp_174 m4).2 i (by omega); exact h, fun i hi hw => ?_, fun i hi hw => ?_, fun i j hi hj hw => ?_, fun i hi hw => ?_, fun i hi hw => ?_, fun i hi => by have h := (Eq.mp hp_176 m6).2 i (by omega); rw [Nat.zero_add] at h; exact h, fun i hi => by have h := (Eq.mp hp_177 m7).2 i (by omega); rw [Nat.zero_add] at h; exact h, fun i hi => by have h := (Eq.mp hp_175 m5).2 i (by omega); exact h⟩
  all_goals (have hw : (i : Int) < 0 := hw; omega)
theorem rul_713 : Rul r_713 := by
  refine ⟨fun _ ρ M hm hB hF hG => ?_, fun gi gv hg => (by cases hg)⟩
  have H := cr_713 M (cvp 170 (x' := (64 : Int)) (y' := (0 : Int)) (by show 64 + 0 = _; omega) (by show 0 + 0 = _; omega) (hm _ List.mem_cons_self)) (cvp 171 (x' := (48 : Int)) (y' := (0 : Int)) (by show 48 + 0 = _; omega) (by show 0 + 0 = _; omega) (hm _ (List.mem_cons_of_mem _ List.mem_cons_self))) (cvp 172 (x' := (6 : Int)) (y' := (-1 : Int)) (by show 6 + 0 = _; omega) (by show (-1) + 0 = _; omega) (hm _ (List.mem_cons_of_mem _ (List.mem_cons_of_mem _ List.mem_cons_self)))) (cvp 173 (x' := (6 : Int)) (y' := (0 : Int)) (by show 6 + 0 = _; omega) (by show 0 + 0 = _; omega) (hm _ (List.mem_cons_of_mem _ (List.mem_cons_of_mem _ (List.mem_cons_of_mem _ List.mem_cons_self))))) (cvp 174 (x' := (6 : Int)) (y' := (-1 : Int)) (by show 6 + 0 = _; omega) (by show (-1) + 0 = _; omega) (hm _ (List.mem_cons_of_mem _ (List.mem_cons_of_mem _ (List.mem_cons_of_mem _ (List.mem_cons_of_mem _ List.mem_cons_self)))))) (cvp 175 (x' := (64 : Int)) (y' := (0 : Int)) (by show 64 + 0 = _; omega) (by show 0 + 0 = _; omega) (hm _ (List.mem_cons_of_mem _ (List.mem_cons_of_mem _ (List.mem_cons_of_mem _ (List.mem_cons_of_mem _ (List.mem_cons_of_mem _ List.mem_cons_self))))))) (cvp 176 (x' := (8 : Int)) (y' := (0 : Int)) (by show 8 + 0 = _; omega) (by show 0 + 0 = _; omega) (hm _ (List.mem_cons_of_mem _ (List.mem_cons_of_mem _ (List.mem_cons_of_mem _ (List.mem_cons_of_mem _ (List.mem_cons_of_mem _ (List.mem_cons_of_mem _ List.mem_cons_self)))))))) (cvp 177 (x' := (8 : Int)) (y' := (0 : Int)) (by show 8 + 0 = _; omega) (by show 0 + 0 = _; omega) (hm _ (List.mem_cons_of_mem _ (List.mem_cons_of_mem _ (List.mem_cons_of_mem _ (List.mem_cons_of_mem _ (List.mem_cons_of_mem _ (List.mem_cons_of_mem _ (List.mem_cons_of_mem _ List.mem_cons_self))))))))) hG
  obtain ⟨k0, -⟩ := H
  exact ⟨_, List.mem_cons_self, ρ, fun _ _ => rfl, (okM_c (pvp 61 (by show 0 + 0 = _; omega) (by show 0 + 0 = _; omega) k0) okM_n), okB_n, okF_n⟩
-- tc0
theorem cr_714 (M : pM)  (hG : gI M) : (HP 158 (0 : Int) (0 : Int) M ∧ True) := by
  exact ⟨Eq.mpr hp_158 ⟨by decide, by decide, fun i hi => by omega⟩, trivial⟩
theorem rul_714 : Rul r_714 := by
  refine ⟨fun _ ρ M hm hB hF hG => ?_, fun gi gv hg => (by cases hg)⟩
  have H := cr_714 M hG
  obtain ⟨k0, -⟩ := H
  exact ⟨_, List.mem_cons_self, ρ, fun _ _ => rfl, (okM_c (pvp 158 (by show 0 + 0 = _; omega) (by show 0 + 0 = _; omega) k0) okM_n), okB_n, okF_n⟩
-- tcw
theorem cr_715 (M : pM) (s0 s1 : Int) (b0 : 0 ≤ s0 ∧ s0 ≤ 1900) (b1 : (-128) ≤ s1 ∧ s1 ≤ 127) (m0 : HP 158 (s0) (0 : Int) M) (m1 : (0 ≤ (s0) ∧ M 62 (s0).toNat = (s1))) (hG : gI M) : (HP 158 (s0 + 1) (0 : Int) (st M 63 (s0).toNat (s1)) ∧ True) := by
  obtain ⟨h1, h2, h3⟩ := Eq.mp hp_158 m0
  refine ⟨Eq.mpr hp_158 ⟨by omega, by omega, fun i hi => ?_⟩, trivial⟩
  rw [cw0, show st M 63 (s0).toNat (s1) 62 i = M 62 i from if_neg (fun h => absurd h.1 (by decide))]
  by_cases e : i = s0.toNat
  · rw [if_pos e, e]; exact m1.2.symm
  · rw [if_neg e]; exact h3 i (by omega)
theorem rul_715 : Rul r_715 := by
  refine ⟨fun h => (by cases h), fun gi gv hg ρ M hm hB hF hG => ?_⟩
  obtain ⟨g1, g2⟩ := List.cons.inj (show ([aI ((0 : Int), ([(0, 1)] : List (Nat × Int))), aI ((0 : Int), ([(1, 1)] : List (Nat × Int)))] : List av) = [.inl gi, .inl gv] from hg)
  obtain ⟨g2, -⟩ := List.cons.inj g2
  cases g1
  cases g2
  have ei : ev ρ ((0 : Int), ([(0, 1)] : List (Nat × Int))) = ((ρ 0)) := by show 0 + (1 * ρ 0 + 0) = _; omega
  have ew : ev ρ ((0 : Int), ([(1, 1)] : List (Nat × Int))) = ((ρ 1)) := by show 0 + (1 * ρ 1 + 0) = _; omega
  rw [show (st M (ctj r_715) (ev ρ ((0 : Int), ([(0, 1)] : List (Nat × Int)))).toNat (ev ρ ((0 : Int), ([(1, 1)] : List (Nat × Int))))) = (st M 63 ((ρ 0)).toNat ((ρ 1))) from by rw [ei, ew]; rfl]
  have H := cr_715 M (ρ 0) (ρ 1) (hB _ List.mem_cons_self) (hB _ (List.mem_cons_of_mem _ List.mem_cons_self)) (cvp 158 (x' := ((ρ 0))) (y' := (0 : Int)) (by show 0 + (1 * ρ 0 + 0) = _; omega) (by show 0 + 0 = _; omega) (hm _ List.mem_cons_self)) (cvm (c := 62) (by decide) (x' := ((ρ 0))) (y' := ((ρ 1))) (by show 0 + (1 * ρ 0 + 0) = _; omega) (by show 0 + (1 * ρ 1 + 0) = _; omega) (hm _ (List.mem_cons_of_mem _ List.mem_cons_self))) hG
  obtain ⟨k0, -⟩ := H
  exact ⟨_, List.mem_cons_self, ρ, fun _ _ => rfl, (okM_c (pvp 158 (by show 1 + (1 * ρ 0 + 0) = _; omega) (by show 0 + 0 = _; omega) k0) okM_n), okB_n, okF_n⟩
-- trm
theorem cr_716 (M : pM) (s0 s1 : Int) (b0 : 0 ≤ s0 ∧ s0 ≤ 1900) (b1 : 0 ≤ s1 ∧ s1 ≤ 1900) (m0 : HP 158 (s0) (0 : Int) M) (m1 : HP 41 (s1) (0 : Int) M) (m2 : (0 ≤ (3 : Int) ∧ M 61 (3 : Int).toNat = (s1))) (m3 : (0 ≤ (1 : Int) ∧ M 2 (1 : Int).toNat = (s1))) (f0 : 0 ≤ (s0 + (-1) * s1)) (hG : gI M) : (HP 42 (0 : Int) (0 : Int) M ∧ True) := by
  obtain ⟨h1, h2, h3⟩ := Eq.mp hp_158 m0
  obtain ⟨g1, g2, g3⟩ := Eq.mp hp_41 m1
  have e3 : M 61 3 = s1 := m2.2
  have e1 : M 2 1 = s1 := m3.2
  refine ⟨Eq.mpr hp_42 ⟨by omega, by omega, by omega, fun i hi => ?_⟩, trivial⟩
  unfold tN at hi
  rw [h3 i (by omega)]
  exact g3 i (by omega)
theorem rul_716 : Rul r_716 := by
  refine ⟨fun _ ρ M hm hB hF hG => ?_, fun gi gv hg => (by cases hg)⟩
  have H := cr_716 M (ρ 0) (ρ 1) (hB _ List.mem_cons_self) (hB _ (List.mem_cons_of_mem _ List.mem_cons_self)) (cvp 158 (x' := ((ρ 0))) (y' := (0 : Int)) (by show 0 + (1 * ρ 0 + 0) = _; omega) (by show 0 + 0 = _; omega) (hm _ List.mem_cons_self)) (cvp 41 (x' := ((ρ 1))) (y' := (0 : Int)) (by show 0 + (1 * ρ 1 + 0) = _; omega) (by show 0 + 0 = _; omega) (hm _ (List.mem_cons_of_mem _ List.mem_cons_self))) (cvm (c := 61) (by decide) (x' := (3 : Int)) (y' := ((ρ 1))) (by show 3 + 0 = _; omega) (by show 0 + (1 * ρ 1 + 0) = _; omega) (hm _ (List.mem_cons_of_mem _ (List.mem_cons_of_mem _ List.mem_cons_self)))) (cvm (c := 2) (by decide) (x' := (1 : Int)) (y' := ((ρ 1))) (by show 1 + 0 = _; omega) (by show 0 + (1 * ρ 1 + 0) = _; omega) (hm _ (List.mem_cons_of_mem _ (List.mem_cons_of_mem _ (List.mem_cons_of_mem _ List.mem_cons_self))))) (by have h := hF _ List.mem_cons_self; have h : 0 ≤ 0 + (1 * ρ 0 + ((-1) * ρ 1 + 0)) := h; omega) hG
  obtain ⟨k0, -⟩ := H
  exact ⟨_, List.mem_cons_self, ρ, fun _ _ => rfl, (okM_c (pvp 42 (by show 0 + 0 = _; omega) (by show 0 + 0 = _; omega) k0) okM_n), okB_n, okF_n⟩
-- same_ok0
theorem cr_717 (M : pM) (s0 s1 s2 s3 : Int) (b0 : 0 ≤ s0 ∧ s0 ≤ 950) (b1 : 0 ≤ s1 ∧ s1 ≤ 950) (b2 : 0 ≤ s2 ∧ s2 ≤ 5000) (b3 : 0 ≤ s3 ∧ s3 ≤ 5000) (m0 : HP 58 (s0) (s2) M) (m1 : HP 64 (s1) (s3) M) (hG : gI M) : (0 ≤ ((-1) * s0 + s1) ∧ 0 ≤ (s0 + (-1) * s1) ∧ 0 ≤ ((-1) * s2 + s3) ∧ 0 ≤ (s2 + (-1) * s3) ∧ True) := by
  obtain ⟨⟨l, s, h1, h2, h3, h4, h5⟩, _⟩ := Eq.mp hp_58 m0
  obtain ⟨⟨l', t, k1, k2, k3, k4, k5⟩, _⟩ := Eq.mp hp_64 m1
  obtain ⟨e1, e2⟩ := stuck_u h2 (end_nx h3).1 k2 (end_nx k3).1
  subst e2
  have w1 := h4.1
  have w2 := k4.1
  exact ⟨by omega, by omega, by omega, by omega, trivial⟩
theorem rul_717 : Rul r_717 := by
  refine ⟨fun _ ρ M hm hB hF hG => ?_, fun gi gv hg => (by cases hg)⟩
  have H := cr_717 M (ρ 0) (ρ 1) (ρ 2) (ρ 3) (hB _ List.mem_cons_self) (hB _ (List.mem_cons_of_mem _ List.mem_cons_self)) (hB _ (List.mem_cons_of_mem _ (List.mem_cons_of_mem _ List.mem_cons_self))) (hB _ (List.mem_cons_of_mem _ (List.mem_cons_of_mem _ (List.mem_cons_of_mem _ List.mem_cons_self)))) (cvp 58 (x' := ((ρ 0))) (y' := ((ρ 2))) (by show 0 + (1 * ρ 0 + 0) = _; omega) (by show 0 + (1 * ρ 2 + 0) = _; omega) (hm _ List.mem_cons_self)) (cvp 64 (x' := ((ρ 1))) (y' := ((ρ 3))) (by show 0 + (1 * ρ 1 + 0) = _; omega) (by show 0 + (1 * ρ 3 + 0) = _; omega) (hm _ (List.mem_cons_of_mem _ List.mem_cons_self))) hG
  obtain ⟨f0, f1, f2, f3, -⟩ := H
  exact ⟨_, List.mem_cons_self, ρ, fun _ _ => rfl, okM_n, okB_n, (okF_c (by show 0 ≤ 0 + ((-1) * ρ 0 + (1 * ρ 1 + 0)); omega) (okF_c (by show 0 ≤ 0 + (1 * ρ 0 + ((-1) * ρ 1 + 0)); omega) (okF_c (by show 0 ≤ 0 + ((-1) * ρ 2 + (1 * ρ 3 + 0)); omega) (okF_c (by show 0 ≤ 0 + (1 * ρ 2 + ((-1) * ρ 3 + 0)); omega) okF_n))))⟩
-- dead1_0
theorem cr_718 (M : pM) (s0 s1 s2 s3 : Int) (b0 : 0 ≤ s0 ∧ s0 ≤ 950) (b1 : 0 ≤ s1 ∧ s1 ≤ 5000) (b2 : (-2147483648) ≤ s2 ∧ s2 ≤ 2147483647) (b3 : 1 ≤ s3 ∧ s3 ≤ 5) (m0 : HP 58 (s0) (s1) M) (m1 : HP 66 (s2) (s3) M) (hG : gI M) : (0 ≤ (s3 - 6) ∧ True) := by
  obtain ⟨⟨l, s, h1, h2, h3, h4, h5⟩, _⟩ := Eq.mp hp_58 m0
  obtain ⟨l', t, k1, k2⟩ := Eq.mp hp_66 m1
  obtain ⟨e1, e2⟩ := stuck_u h2 (end_nx h3).1 k1 (fa_nx k2)
  subst e2
  rw [(end_nx h3).2] at k2
  cases k2
theorem rul_718 : Rul r_718 := by
  refine ⟨fun _ ρ M hm hB hF hG => ?_, fun gi gv hg => (by cases hg)⟩
  have H := cr_718 M (ρ 0) (ρ 1) (ρ 2) (ρ 3) (hB _ List.mem_cons_self) (hB _ (List.mem_cons_of_mem _ List.mem_cons_self)) (hB _ (List.mem_cons_of_mem _ (List.mem_cons_of_mem _ List.mem_cons_self))) (hB _ (List.mem_cons_of_mem _ (List.mem_cons_of_mem _ (List.mem_cons_of_mem _ List.mem_cons_self)))) (cvp 58 (x' := ((ρ 0))) (y' := ((ρ 1))) (by show 0 + (1 * ρ 0 + 0) = _; omega) (by show 0 + (1 * ρ 1 + 0) = _; omega) (hm _ List.mem_cons_self)) (cvp 66 (x' := ((ρ 2))) (y' := ((ρ 3))) (by show 0 + (1 * ρ 2 + 0) = _; omega) (by show 0 + (1 * ρ 3 + 0) = _; omega) (hm _ (List.mem_cons_of_mem _ List.mem_cons_self))) hG
  obtain ⟨f0, -⟩ := H
  exact ⟨_, List.mem_cons_self, ρ, fun _ _ => rfl, okM_n, okB_n, (okF_c (by show 0 ≤ (-6) + (1 * ρ 3 + 0); omega) okF_n)⟩
-- dead2_0
theorem cr_719 (M : pM) (s0 s1 s2 s3 : Int) (b0 : 0 ≤ s0 ∧ s0 ≤ 950) (b1 : 0 ≤ s1 ∧ s1 ≤ 5000) (b2 : (-2147483648) ≤ s2 ∧ s2 ≤ 2147483647) (b3 : 1 ≤ s3 ∧ s3 ≤ 5) (m0 : HP 64 (s0) (s1) M) (m1 : HP 66 (s2) (s3) M) (hG : gI M) : (0 ≤ (s3 - 6) ∧ True) := by
  obtain ⟨⟨l, s, h1, h2, h3, h4, h5⟩, _⟩ := Eq.mp hp_64 m0
  obtain ⟨l', t, k1, k2⟩ := Eq.mp hp_66 m1
  obtain ⟨e1, e2⟩ := stuck_u h2 (end_nx h3).1 k1 (fa_nx k2)
  subst e2
  rw [(end_nx h3).2] at k2
  cases k2
theorem rul_719 : Rul r_719 := by
  refine ⟨fun _ ρ M hm hB hF hG => ?_, fun gi gv hg => (by cases hg)⟩
  have H := cr_719 M (ρ 0) (ρ 1) (ρ 2) (ρ 3) (hB _ List.mem_cons_self) (hB _ (List.mem_cons_of_mem _ List.mem_cons_self)) (hB _ (List.mem_cons_of_mem _ (List.mem_cons_of_mem _ List.mem_cons_self))) (hB _ (List.mem_cons_of_mem _ (List.mem_cons_of_mem _ (List.mem_cons_of_mem _ List.mem_cons_self)))) (cvp 64 (x' := ((ρ 0))) (y' := ((ρ 1))) (by show 0 + (1 * ρ 0 + 0) = _; omega) (by show 0 + (1 * ρ 1 + 0) = _; omega) (hm _ List.mem_cons_self)) (cvp 66 (x' := ((ρ 2))) (y' := ((ρ 3))) (by show 0 + (1 * ρ 2 + 0) = _; omega) (by show 0 + (1 * ρ 3 + 0) = _; omega) (hm _ (List.mem_cons_of_mem _ List.mem_cons_self))) hG
  obtain ⟨f0, -⟩ := H
  exact ⟨_, List.mem_cons_self, ρ, fun _ _ => rfl, okM_n, okB_n, (okF_c (by show 0 ≤ (-6) + (1 * ρ 3 + 0); omega) okF_n)⟩
-- same_ok1
theorem cr_720 (M : pM) (s0 s1 s2 s3 : Int) (b0 : 0 ≤ s0 ∧ s0 ≤ 950) (b1 : 0 ≤ s1 ∧ s1 ≤ 950) (b2 : 0 ≤ s2 ∧ s2 ≤ 5000) (b3 : 0 ≤ s3 ∧ s3 ≤ 5000) (m0 : HP 59 (s0) (s2) M) (m1 : HP 65 (s1) (s3) M) (hG : gI M) : (0 ≤ ((-1) * s0 + s1) ∧ 0 ≤ (s0 + (-1) * s1) ∧ 0 ≤ ((-1) * s2 + s3) ∧ 0 ≤ (s2 + (-1) * s3) ∧ True) := by
  obtain ⟨⟨l, s, h1, h2, h3, h4, h5⟩, _⟩ := Eq.mp hp_59 m0
  obtain ⟨⟨l', t, k1, k2, k3, k4, k5⟩, _⟩ := Eq.mp hp_65 m1
  obtain ⟨e1, e2⟩ := stuck_u h2 (end_nx h3).1 k2 (end_nx k3).1
  subst e2
  have w1 := h4.1
  have w2 := k4.1
  exact ⟨by omega, by omega, by omega, by omega, trivial⟩
theorem rul_720 : Rul r_720 := by
  refine ⟨fun _ ρ M hm hB hF hG => ?_, fun gi gv hg => (by cases hg)⟩
  have H := cr_720 M (ρ 0) (ρ 1) (ρ 2) (ρ 3) (hB _ List.mem_cons_self) (hB _ (List.mem_cons_of_mem _ List.mem_cons_self)) (hB _ (List.mem_cons_of_mem _ (List.mem_cons_of_mem _ List.mem_cons_self))) (hB _ (List.mem_cons_of_mem _ (List.mem_cons_of_mem _ (List.mem_cons_of_mem _ List.mem_cons_self)))) (cvp 59 (x' := ((ρ 0))) (y' := ((ρ 2))) (by show 0 + (1 * ρ 0 + 0) = _; omega) (by show 0 + (1 * ρ 2 + 0) = _; omega) (hm _ List.mem_cons_self)) (cvp 65 (x' := ((ρ 1))) (y' := ((ρ 3))) (by show 0 + (1 * ρ 1 + 0) = _; omega) (by show 0 + (1 * ρ 3 + 0) = _; omega) (hm _ (List.mem_cons_of_mem _ List.mem_cons_self))) hG
  obtain ⟨f0, f1, f2, f3, -⟩ := H
  exact ⟨_, List.mem_cons_self, ρ, fun _ _ => rfl, okM_n, okB_n, (okF_c (by show 0 ≤ 0 + ((-1) * ρ 0 + (1 * ρ 1 + 0)); omega) (okF_c (by show 0 ≤ 0 + (1 * ρ 0 + ((-1) * ρ 1 + 0)); omega) (okF_c (by show 0 ≤ 0 + ((-1) * ρ 2 + (1 * ρ 3 + 0)); omega) (okF_c (by show 0 ≤ 0 + (1 * ρ 2 + ((-1) * ρ 3 + 0)); omega) okF_n))))⟩
-- dead1_1
theorem cr_721 (M : pM) (s0 s1 s2 s3 : Int) (b0 : 0 ≤ s0 ∧ s0 ≤ 950) (b1 : 0 ≤ s1 ∧ s1 ≤ 5000) (b2 : (-2147483648) ≤ s2 ∧ s2 ≤ 2147483647) (b3 : 1 ≤ s3 ∧ s3 ≤ 5) (m0 : HP 59 (s0) (s1) M) (m1 : HP 66 (s2) (s3) M) (hG : gI M) : (0 ≤ (s3 - 6) ∧ True) := by
  obtain ⟨⟨l, s, h1, h2, h3, h4, h5⟩, _⟩ := Eq.mp hp_59 m0
  obtain ⟨l', t, k1, k2⟩ := Eq.mp hp_66 m1
  obtain ⟨e1, e2⟩ := stuck_u h2 (end_nx h3).1 k1 (fa_nx k2)
  subst e2
  rw [(end_nx h3).2] at k2
  cases k2
theorem rul_721 : Rul r_721 := by
  refine ⟨fun _ ρ M hm hB hF hG => ?_, fun gi gv hg => (by cases hg)⟩
  have H := cr_721 M (ρ 0) (ρ 1) (ρ 2) (ρ 3) (hB _ List.mem_cons_self) (hB _ (List.mem_cons_of_mem _ List.mem_cons_self)) (hB _ (List.mem_cons_of_mem _ (List.mem_cons_of_mem _ List.mem_cons_self))) (hB _ (List.mem_cons_of_mem _ (List.mem_cons_of_mem _ (List.mem_cons_of_mem _ List.mem_cons_self)))) (cvp 59 (x' := ((ρ 0))) (y' := ((ρ 1))) (by show 0 + (1 * ρ 0 + 0) = _; omega) (by show 0 + (1 * ρ 1 + 0) = _; omega) (hm _ List.mem_cons_self)) (cvp 66 (x' := ((ρ 2))) (y' := ((ρ 3))) (by show 0 + (1 * ρ 2 + 0) = _; omega) (by show 0 + (1 * ρ 3 + 0) = _; omega) (hm _ (List.mem_cons_of_mem _ List.mem_cons_self))) hG
  obtain ⟨f0, -⟩ := H
  exact ⟨_, List.mem_cons_self, ρ, fun _ _ => rfl, okM_n, okB_n, (okF_c (by show 0 ≤ (-6) + (1 * ρ 3 + 0); omega) okF_n)⟩
-- dead2_1
theorem cr_722 (M : pM) (s0 s1 s2 s3 : Int) (b0 : 0 ≤ s0 ∧ s0 ≤ 950) (b1 : 0 ≤ s1 ∧ s1 ≤ 5000) (b2 : (-2147483648) ≤ s2 ∧ s2 ≤ 2147483647) (b3 : 1 ≤ s3 ∧ s3 ≤ 5) (m0 : HP 65 (s0) (s1) M) (m1 : HP 66 (s2) (s3) M) (hG : gI M) : (0 ≤ (s3 - 6) ∧ True) := by
  obtain ⟨⟨l, s, h1, h2, h3, h4, h5⟩, _⟩ := Eq.mp hp_65 m0
  obtain ⟨l', t, k1, k2⟩ := Eq.mp hp_66 m1
  obtain ⟨e1, e2⟩ := stuck_u h2 (end_nx h3).1 k1 (fa_nx k2)
  subst e2
  rw [(end_nx h3).2] at k2
  cases k2
theorem rul_722 : Rul r_722 := by
  refine ⟨fun _ ρ M hm hB hF hG => ?_, fun gi gv hg => (by cases hg)⟩
  have H := cr_722 M (ρ 0) (ρ 1) (ρ 2) (ρ 3) (hB _ List.mem_cons_self) (hB _ (List.mem_cons_of_mem _ List.mem_cons_self)) (hB _ (List.mem_cons_of_mem _ (List.mem_cons_of_mem _ List.mem_cons_self))) (hB _ (List.mem_cons_of_mem _ (List.mem_cons_of_mem _ (List.mem_cons_of_mem _ List.mem_cons_self)))) (cvp 65 (x' := ((ρ 0))) (y' := ((ρ 1))) (by show 0 + (1 * ρ 0 + 0) = _; omega) (by show 0 + (1 * ρ 1 + 0) = _; omega) (hm _ List.mem_cons_self)) (cvp 66 (x' := ((ρ 2))) (y' := ((ρ 3))) (by show 0 + (1 * ρ 2 + 0) = _; omega) (by show 0 + (1 * ρ 3 + 0) = _; omega) (hm _ (List.mem_cons_of_mem _ List.mem_cons_self))) hG
  obtain ⟨f0, -⟩ := H
  exact ⟨_, List.mem_cons_self, ρ, fun _ _ => rfl, okM_n, okB_n, (okF_c (by show 0 ≤ (-6) + (1 * ρ 3 + 0); omega) okF_n)⟩
-- eqm_0
theorem cr_723 (M : pM) (s0 s1 s2 s3 : Int) (b0 : 0 ≤ s0 ∧ s0 ≤ 950) (b1 : 0 ≤ s1 ∧ s1 ≤ 950) (b2 : 0 ≤ s2 ∧ s2 ≤ 5000) (b3 : 0 ≤ s3 ∧ s3 ≤ 5000) (m0 : HP 58 (s0) (s2) M) (m1 : HP 64 (s1) (s3) M) (hG : gI M) : (HP 183 (0 : Int) (0 : Int) M ∧ True) := by
  obtain ⟨⟨l, s, h1, h2, h3, h4, h5⟩, hf⟩ := Eq.mp hp_58 m0
  obtain ⟨⟨l', t, k1, k2, k3, k4, k5⟩, kf⟩ := Eq.mp hp_64 m1
  obtain ⟨e1, e2⟩ := stuck_u h2 (end_nx h3).1 k2 (end_nx k3).1
  subst e2
  obtain ⟨w0, w1, w2, w3⟩ := h4
  obtain ⟨f0, f1, f2, f3⟩ := hf
  obtain ⟨v0, v1, v2, v3⟩ := k4
  obtain ⟨g0, g1, g2, g3⟩ := kf
  exact ⟨Eq.mpr hp_183 ⟨⟨by omega, by omega, by omega⟩, tm M, s.2, ⟨by omega, by omega, by omega⟩, ⟨rfl, w1, w2, w3⟩, h5, ⟨qRr 0 M, fun _ _ _ _ => rfl, k5⟩⟩, trivial⟩
theorem rul_723 : Rul r_723 := by
  refine ⟨fun _ ρ M hm hB hF hG => ?_, fun gi gv hg => (by cases hg)⟩
  have H := cr_723 M (ρ 0) (ρ 1) (ρ 2) (ρ 3) (hB _ List.mem_cons_self) (hB _ (List.mem_cons_of_mem _ List.mem_cons_self)) (hB _ (List.mem_cons_of_mem _ (List.mem_cons_of_mem _ List.mem_cons_self))) (hB _ (List.mem_cons_of_mem _ (List.mem_cons_of_mem _ (List.mem_cons_of_mem _ List.mem_cons_self)))) (cvp 58 (x' := ((ρ 0))) (y' := ((ρ 2))) (by show 0 + (1 * ρ 0 + 0) = _; omega) (by show 0 + (1 * ρ 2 + 0) = _; omega) (hm _ List.mem_cons_self)) (cvp 64 (x' := ((ρ 1))) (y' := ((ρ 3))) (by show 0 + (1 * ρ 1 + 0) = _; omega) (by show 0 + (1 * ρ 3 + 0) = _; omega) (hm _ (List.mem_cons_of_mem _ List.mem_cons_self))) hG
  obtain ⟨k0, -⟩ := H
  exact ⟨_, List.mem_cons_self, ρ, fun _ _ => rfl, (okM_c (pvp 183 (by show 0 + 0 = _; omega) (by show 0 + 0 = _; omega) k0) okM_n), okB_n, okF_n⟩
-- eqo_0
theorem cr_724 (M : pM) (m0 : HP 182 (0 : Int) (0 : Int) M) (m1 : (0 ≤ (34 : Int) ∧ M 61 (34 : Int).toNat = (0 : Int))) (hG : gI M) : (HP 183 (0 : Int) (0 : Int) M ∧ True) := by
  have e : M 61 34 = 0 := m1.2
  rcases Eq.mp hp_182 m0 with ⟨h1, h2⟩ | ⟨h1, h2⟩
  · exact ⟨Eq.mpr hp_183 h2, trivial⟩
  · omega
theorem rul_724 : Rul r_724 := by
  refine ⟨fun _ ρ M hm hB hF hG => ?_, fun gi gv hg => (by cases hg)⟩
  have H := cr_724 M (cvp 182 (x' := (0 : Int)) (y' := (0 : Int)) (by show 0 + 0 = _; omega) (by show 0 + 0 = _; omega) (hm _ List.mem_cons_self)) (cvm (c := 61) (by decide) (x' := (34 : Int)) (y' := (0 : Int)) (by show 34 + 0 = _; omega) (by show 0 + 0 = _; omega) (hm _ (List.mem_cons_of_mem _ List.mem_cons_self))) hG
  obtain ⟨k0, -⟩ := H
  exact ⟨_, List.mem_cons_self, ρ, fun _ _ => rfl, (okM_c (pvp 183 (by show 0 + 0 = _; omega) (by show 0 + 0 = _; omega) k0) okM_n), okB_n, okF_n⟩
-- eqi_0
theorem cr_725 (M : pM) (m0 : HP 183 (0 : Int) (0 : Int) M) (m1 : (0 ≤ (34 : Int) ∧ M 61 (34 : Int).toNat = (0 : Int))) (hG : gI M) : (HP 182 (0 : Int) (0 : Int) M ∧ True) := by
  have e : M 61 34 = 0 := m1.2
  exact ⟨Eq.mpr hp_182 (Or.inl ⟨e, Eq.mp hp_183 m0⟩), trivial⟩
theorem rul_725 : Rul r_725 := by
  refine ⟨fun _ ρ M hm hB hF hG => ?_, fun gi gv hg => (by cases hg)⟩
  have H := cr_725 M (cvp 183 (x' := (0 : Int)) (y' := (0 : Int)) (by show 0 + 0 = _; omega) (by show 0 + 0 = _; omega) (hm _ List.mem_cons_self)) (cvm (c := 61) (by decide) (x' := (34 : Int)) (y' := (0 : Int)) (by show 34 + 0 = _; omega) (by show 0 + 0 = _; omega) (hm _ (List.mem_cons_of_mem _ List.mem_cons_self))) hG
  obtain ⟨k0, -⟩ := H
  exact ⟨_, List.mem_cons_self, ρ, fun _ _ => rfl, (okM_c (pvp 182 (by show 0 + 0 = _; omega) (by show 0 + 0 = _; omega) k0) okM_n), okB_n, okF_n⟩
-- eqm_1
theorem cr_726 (M : pM) (s0 s1 s2 s3 : Int) (b0 : 0 ≤ s0 ∧ s0 ≤ 950) (b1 : 0 ≤ s1 ∧ s1 ≤ 950) (b2 : 0 ≤ s2 ∧ s2 ≤ 5000) (b3 : 0 ≤ s3 ∧ s3 ≤ 5000) (m0 : HP 59 (s0) (s2) M) (m1 : HP 65 (s1) (s3) M) (hG : gI M) : (HP 184 (0 : Int) (0 : Int) M ∧ True) := by
  obtain ⟨⟨l, s, h1, h2, h3, h4, h5⟩, hf⟩ := Eq.mp hp_59 m0
  obtain ⟨⟨l', t, k1, k2, k3, k4, k5⟩, kf⟩ := Eq.mp hp_65 m1
  obtain ⟨e1, e2⟩ := stuck_u h2 (end_nx h3).1 k2 (end_nx k3).1
  subst e2
  obtain ⟨w0, w1, w2, w3⟩ := h4
  obtain ⟨f0, f1, f2, f3⟩ := hf
  obtain ⟨v0, v1, v2, v3⟩ := k4
  obtain ⟨g0, g1, g2, g3⟩ := kf
  exact ⟨Eq.mpr hp_184 ⟨⟨by omega, by omega, by omega⟩, tm M, s.2, ⟨by omega, by omega, by omega⟩, ⟨rfl, w1, w2, w3⟩, h5, ⟨qRr 1 M, fun _ _ _ _ => rfl, k5⟩⟩, trivial⟩
theorem rul_726 : Rul r_726 := by
  refine ⟨fun _ ρ M hm hB hF hG => ?_, fun gi gv hg => (by cases hg)⟩
  have H := cr_726 M (ρ 0) (ρ 1) (ρ 2) (ρ 3) (hB _ List.mem_cons_self) (hB _ (List.mem_cons_of_mem _ List.mem_cons_self)) (hB _ (List.mem_cons_of_mem _ (List.mem_cons_of_mem _ List.mem_cons_self))) (hB _ (List.mem_cons_of_mem _ (List.mem_cons_of_mem _ (List.mem_cons_of_mem _ List.mem_cons_self)))) (cvp 59 (x' := ((ρ 0))) (y' := ((ρ 2))) (by show 0 + (1 * ρ 0 + 0) = _; omega) (by show 0 + (1 * ρ 2 + 0) = _; omega) (hm _ List.mem_cons_self)) (cvp 65 (x' := ((ρ 1))) (y' := ((ρ 3))) (by show 0 + (1 * ρ 1 + 0) = _; omega) (by show 0 + (1 * ρ 3 + 0) = _; omega) (hm _ (List.mem_cons_of_mem _ List.mem_cons_self))) hG
  obtain ⟨k0, -⟩ := H
  exact ⟨_, List.mem_cons_self, ρ, fun _ _ => rfl, (okM_c (pvp 184 (by show 0 + 0 = _; omega) (by show 0 + 0 = _; omega) k0) okM_n), okB_n, okF_n⟩
-- eqo_1
theorem cr_727 (M : pM) (m0 : HP 182 (0 : Int) (0 : Int) M) (m1 : (0 ≤ (34 : Int) ∧ M 61 (34 : Int).toNat = (1 : Int))) (hG : gI M) : (HP 184 (0 : Int) (0 : Int) M ∧ True) := by
  have e : M 61 34 = 1 := m1.2
  rcases Eq.mp hp_182 m0 with ⟨h1, h2⟩ | ⟨h1, h2⟩
  · omega
  · exact ⟨Eq.mpr hp_184 h2, trivial⟩
theorem rul_727 : Rul r_727 := by
  refine ⟨fun _ ρ M hm hB hF hG => ?_, fun gi gv hg => (by cases hg)⟩
  have H := cr_727 M (cvp 182 (x' := (0 : Int)) (y' := (0 : Int)) (by show 0 + 0 = _; omega) (by show 0 + 0 = _; omega) (hm _ List.mem_cons_self)) (cvm (c := 61) (by decide) (x' := (34 : Int)) (y' := (1 : Int)) (by show 34 + 0 = _; omega) (by show 1 + 0 = _; omega) (hm _ (List.mem_cons_of_mem _ List.mem_cons_self))) hG
  obtain ⟨k0, -⟩ := H
  exact ⟨_, List.mem_cons_self, ρ, fun _ _ => rfl, (okM_c (pvp 184 (by show 0 + 0 = _; omega) (by show 0 + 0 = _; omega) k0) okM_n), okB_n, okF_n⟩
-- eqi_1
theorem cr_728 (M : pM) (m0 : HP 184 (0 : Int) (0 : Int) M) (m1 : (0 ≤ (34 : Int) ∧ M 61 (34 : Int).toNat = (1 : Int))) (hG : gI M) : (HP 182 (0 : Int) (0 : Int) M ∧ True) := by
  have e : M 61 34 = 1 := m1.2
  exact ⟨Eq.mpr hp_182 (Or.inr ⟨e, Eq.mp hp_184 m0⟩), trivial⟩
theorem rul_728 : Rul r_728 := by
  refine ⟨fun _ ρ M hm hB hF hG => ?_, fun gi gv hg => (by cases hg)⟩
  have H := cr_728 M (cvp 184 (x' := (0 : Int)) (y' := (0 : Int)) (by show 0 + 0 = _; omega) (by show 0 + 0 = _; omega) (hm _ List.mem_cons_self)) (cvm (c := 61) (by decide) (x' := (34 : Int)) (y' := (1 : Int)) (by show 34 + 0 = _; omega) (by show 1 + 0 = _; omega) (hm _ (List.mem_cons_of_mem _ List.mem_cons_self))) hG
  obtain ⟨k0, -⟩ := H
  exact ⟨_, List.mem_cons_self, ρ, fun _ _ => rfl, (okM_c (pvp 182 (by show 0 + 0 = _; omega) (by show 0 + 0 = _; omega) k0) okM_n), okB_n, okF_n⟩
-- cf0
theorem cr_729 (M : pM) (s0 : Int) (b0 : 0 ≤ s0 ∧ s0 ≤ 1900) (hG : gI M) : (HP 97 (8 * s0) (0 : Int) M ∧ True) := by
  exact ⟨Eq.mpr hp_97 ⟨s0.toNat, 0, by omega, by decide, by omega, rfl⟩, trivial⟩
theorem rul_729 : Rul r_729 := by
  refine ⟨fun _ ρ M hm hB hF hG => ?_, fun gi gv hg => (by cases hg)⟩
  have H := cr_729 M (ρ 0) (hB _ List.mem_cons_self) hG
  obtain ⟨k0, -⟩ := H
  exact ⟨_, List.mem_cons_self, ρ, fun _ _ => rfl, (okM_c (pvp 97 (by show 0 + (8 * ρ 0 + 0) = _; omega) (by show 0 + 0 = _; omega) k0) okM_n), okB_n, okF_n⟩
-- qf0
theorem cr_730 (M : pM) (s0 s1 : Int) (b0 : 0 ≤ s0 ∧ s0 ≤ 1900) (b1 : (-2147483648) ≤ s1 ∧ s1 ≤ 2147483647) (hG : gI M) : (HP 96 (8 * s0) (s1) M ∧ True) := by
  exact ⟨Eq.mpr hp_96 ⟨s0.toNat, 0, by omega, by decide, by omega, fun j hj => by omega⟩, trivial⟩
theorem rul_730 : Rul r_730 := by
  refine ⟨fun _ ρ M hm hB hF hG => ?_, fun gi gv hg => (by cases hg)⟩
  have H := cr_730 M (ρ 0) (ρ 1) (hB _ List.mem_cons_self) (hB _ (List.mem_cons_of_mem _ List.mem_cons_self)) hG
  obtain ⟨k0, -⟩ := H
  exact ⟨_, List.mem_cons_self, ρ, fun _ _ => rfl, (okM_c (pvp 96 (by show 0 + (8 * ρ 0 + 0) = _; omega) (by show 0 + (1 * ρ 1 + 0) = _; omega) k0) okM_n), okB_n, okF_n⟩
-- and255
theorem cr_731 (M : pM) (s0 s1 : Int) (b0 : (-2147483648) ≤ s0 ∧ s0 ≤ 2147483647) (b1 : (-2147483648) ≤ s1 ∧ s1 ≤ 2147483647) (m0 : HP 100 (4294967296 * s0 + 255) (s1) M) (hG : gI M) : (0 ≤ (s1) ∧ 0 ≤ ((-1) * s1 + 255) ∧ True) := by
  have e := n_and (a := s0) (b := 255) m0 (by omega) (by unfold r32; omega)
  have h := and255_bd s0
  rw [← e] at h
  exact ⟨by omega, by omega, trivial⟩
theorem rul_731 : Rul r_731 := by
  refine ⟨fun _ ρ M hm hB hF hG => ?_, fun gi gv hg => (by cases hg)⟩
  have H := cr_731 M (ρ 0) (ρ 1) (hB _ List.mem_cons_self) (hB _ (List.mem_cons_of_mem _ List.mem_cons_self)) (cvp 100 (x' := (4294967296 * (ρ 0) + 255)) (y' := ((ρ 1))) (by show 255 + (4294967296 * ρ 0 + 0) = _; omega) (by show 0 + (1 * ρ 1 + 0) = _; omega) (hm _ List.mem_cons_self)) hG
  obtain ⟨f0, f1, -⟩ := H
  exact ⟨_, List.mem_cons_self, ρ, fun _ _ => rfl, okM_n, okB_n, (okF_c (by show 0 ≤ 0 + (1 * ρ 1 + 0); omega) (okF_c (by show 0 ≤ 255 + ((-1) * ρ 1 + 0); omega) okF_n))⟩
-- i2bf
theorem cr_732 (M : pM) (s0 s1 : Int) (b0 : (-2147483648) ≤ s0 ∧ s0 ≤ 2147483647) (b1 : (-2147483648) ≤ s1 ∧ s1 ≤ 2147483647) (m0 : HP 120 (s0) (s1) M) (hG : gI M) : (0 ≤ (s1 + 128) ∧ 0 ≤ ((-1) * s1 + 127) ∧ True) := by
  have e := n_i2b m0
  unfold w8 at e
  exact ⟨by omega, by omega, trivial⟩
theorem rul_732 : Rul r_732 := by
  refine ⟨fun _ ρ M hm hB hF hG => ?_, fun gi gv hg => (by cases hg)⟩
  have H := cr_732 M (ρ 0) (ρ 1) (hB _ List.mem_cons_self) (hB _ (List.mem_cons_of_mem _ List.mem_cons_self)) (cvp 120 (x' := ((ρ 0))) (y' := ((ρ 1))) (by show 0 + (1 * ρ 0 + 0) = _; omega) (by show 0 + (1 * ρ 1 + 0) = _; omega) (hm _ List.mem_cons_self)) hG
  obtain ⟨f0, f1, -⟩ := H
  exact ⟨_, List.mem_cons_self, ρ, fun _ _ => rfl, okM_n, okB_n, (okF_c (by show 0 ≤ 128 + (1 * ρ 1 + 0); omega) (okF_c (by show 0 ≤ 127 + ((-1) * ρ 1 + 0); omega) okF_n))⟩
-- and3
theorem cr_733 (M : pM) (s0 s1 : Int) (b0 : 0 ≤ s0 ∧ s0 ≤ 19) (b1 : (-2147483648) ≤ s1 ∧ s1 ≤ 2147483647) (m0 : HP 100 (4294967296 * s0 + 3) (s1) M) (hG : gI M) : (0 ≤ (s0) ∧ 0 ≤ ((-1) * s0 + 3) ∧ 0 ≤ (s0 + (-1) * s1) ∧ 0 ≤ ((-1) * s0 + s1) ∧ True) ∨ (0 ≤ (s0 - 4) ∧ 0 ≤ ((-1) * s0 + 7) ∧ 0 ≤ (s0 + (-1) * s1 - 4) ∧ 0 ≤ ((-1) * s0 + s1 + 4) ∧ True) ∨ (0 ≤ (s0 - 8) ∧ 0 ≤ ((-1) * s0 + 11) ∧ 0 ≤ (s0 + (-1) * s1 - 8) ∧ 0 ≤ ((-1) * s0 + s1 + 8) ∧ True) ∨ (0 ≤ (s0 - 12) ∧ 0 ≤ ((-1) * s0 + 15) ∧ 0 ≤ (s0 + (-1) * s1 - 12) ∧ 0 ≤ ((-1) * s0 + s1 + 12) ∧ True) ∨ (0 ≤ (s0 - 16) ∧ 0 ≤ ((-1) * s0 + 19) ∧ 0 ≤ (s0 + (-1) * s1 - 16) ∧ 0 ≤ ((-1) * s0 + s1 + 16) ∧ True) := by
  have e := n_and (a := s0) (b := 3) m0 (by omega) (by unfold r32; omega)
  have h : s1 = s0 - 4 * (s0 / 4) := by
    have hk := (by decide +kernel : ∀ k : Nat, k < 20 → (Int32.ofInt (k : Nat) &&& Int32.ofInt 3).toInt = (k : Int) - 4 * ((k : Int) / 4)) s0.toNat (by omega)
    rw [show ((s0.toNat : Nat) : Int) = s0 by omega] at hk
    rw [e]; exact hk
  have hq : s0 / 4 = 0 ∨ s0 / 4 = 1 ∨ s0 / 4 = 2 ∨ s0 / 4 = 3 ∨ s0 / 4 = 4 := by omega
  rcases hq with q | q | q | q | q
  · exact Or.inl ⟨by omega, by omega, by omega, by omega, trivial⟩
  · exact Or.inr (Or.inl ⟨by omega, by omega, by omega, by omega, trivial⟩)
  · exact Or.inr (Or.inr (Or.inl ⟨by omega, by omega, by omega, by omega, trivial⟩))
  · exact Or.inr (Or.inr (Or.inr (Or.inl ⟨by omega, by omega, by omega, by omega, trivial⟩)))
  · exact Or.inr (Or.inr (Or.inr (Or.inr (⟨by omega, by omega, by omega, by omega, trivial⟩))))
theorem rul_733 : Rul r_733 := by
  refine ⟨fun _ ρ M hm hB hF hG => ?_, fun gi gv hg => (by cases hg)⟩
  have H := cr_733 M (ρ 0) (ρ 1) (hB _ List.mem_cons_self) (hB _ (List.mem_cons_of_mem _ List.mem_cons_self)) (cvp 100 (x' := (4294967296 * (ρ 0) + 3)) (y' := ((ρ 1))) (by show 3 + (4294967296 * ρ 0 + 0) = _; omega) (by show 0 + (1 * ρ 1 + 0) = _; omega) (hm _ List.mem_cons_self)) hG
  rcases H with H | H
  · skip
    obtain ⟨f0, f1, f2, f3, -⟩ := H
    exact ⟨_, List.mem_cons_self, ρ, fun _ _ => rfl, okM_n, okB_n, (okF_c (by show 0 ≤ 0 + (1 * ρ 0 + 0); omega) (okF_c (by show 0 ≤ 3 + ((-1) * ρ 0 + 0); omega) (okF_c (by show 0 ≤ 0 + (1 * ρ 0 + ((-1) * ρ 1 + 0)); omega) (okF_c (by show 0 ≤ 0 + ((-1) * ρ 0 + (1 * ρ 1 + 0)); omega) okF_n))))⟩
  rcases H with H | H
  · skip
    obtain ⟨f0, f1, f2, f3, -⟩ := H
    exact ⟨_, (List.mem_cons_of_mem _ List.mem_cons_self), ρ, fun _ _ => rfl, okM_n, okB_n, (okF_c (by show 0 ≤ (-4) + (1 * ρ 0 + 0); omega) (okF_c (by show 0 ≤ 7 + ((-1) * ρ 0 + 0); omega) (okF_c (by show 0 ≤ (-4) + (1 * ρ 0 + ((-1) * ρ 1 + 0)); omega) (okF_c (by show 0 ≤ 4 + ((-1) * ρ 0 + (1 * ρ 1 + 0)); omega) okF_n))))⟩
  rcases H with H | H
  · skip
    obtain ⟨f0, f1, f2, f3, -⟩ := H
    exact ⟨_, (List.mem_cons_of_mem _ (List.mem_cons_of_mem _ List.mem_cons_self)), ρ, fun _ _ => rfl, okM_n, okB_n, (okF_c (by show 0 ≤ (-8) + (1 * ρ 0 + 0); omega) (okF_c (by show 0 ≤ 11 + ((-1) * ρ 0 + 0); omega) (okF_c (by show 0 ≤ (-8) + (1 * ρ 0 + ((-1) * ρ 1 + 0)); omega) (okF_c (by show 0 ≤ 8 + ((-1) * ρ 0 + (1 * ρ 1 + 0)); omega) okF_n))))⟩
  rcases H with H | H
  · skip
    obtain ⟨f0, f1, f2, f3, -⟩ := H
    exact ⟨_, (List.mem_cons_of_mem _ (List.mem_cons_of_mem _ (List.mem_cons_of_mem _ List.mem_cons_self))), ρ, fun _ _ => rfl, okM_n, okB_n, (okF_c (by show 0 ≤ (-12) + (1 * ρ 0 + 0); omega) (okF_c (by show 0 ≤ 15 + ((-1) * ρ 0 + 0); omega) (okF_c (by show 0 ≤ (-12) + (1 * ρ 0 + ((-1) * ρ 1 + 0)); omega) (okF_c (by show 0 ≤ 12 + ((-1) * ρ 0 + (1 * ρ 1 + 0)); omega) okF_n))))⟩
  · skip
    obtain ⟨f0, f1, f2, f3, -⟩ := H
    exact ⟨_, (List.mem_cons_of_mem _ (List.mem_cons_of_mem _ (List.mem_cons_of_mem _ (List.mem_cons_of_mem _ List.mem_cons_self)))), ρ, fun _ _ => rfl, okM_n, okB_n, (okF_c (by show 0 ≤ (-16) + (1 * ρ 0 + 0); omega) (okF_c (by show 0 ≤ 19 + ((-1) * ρ 0 + 0); omega) (okF_c (by show 0 ≤ (-16) + (1 * ρ 0 + ((-1) * ρ 1 + 0)); omega) (okF_c (by show 0 ≤ 16 + ((-1) * ρ 0 + (1 * ρ 1 + 0)); omega) okF_n))))⟩
-- fdw
theorem cr_734 (M : pM) (s0 s1 s2 s3 s4 s5 s6 s7 : Int) (b0 : 0 ≤ s0 ∧ s0 ≤ 1900) (b1 : 0 ≤ s1 ∧ s1 ≤ 4) (b3 : 0 ≤ s3 ∧ s3 ≤ 1900) (b4 : 0 ≤ s4 ∧ s4 ≤ 3) (b5 : (-2147483648) ≤ s5 ∧ s5 ≤ 2147483647) (b6 : (-2147483648) ≤ s6 ∧ s6 ≤ 2147483647) (b7 : 0 ≤ s7 ∧ s7 ≤ 255) (m0 : HP 96 (8 * s3 + s4) (s5) M) (m1 : HP 97 (8 * s0 + s1) (s2) M) (m2 : HP 41 (s0) (0 : Int) M) (m3 : HP 105 ((-8) * s4 + 4294967296 * s5 + 24) (s6) M) (m4 : HP 100 (4294967296 * s6 + 255) (s7) M) (f0 : 0 ≤ (s0 + 4 * s1 + (-1) * s3)) (f1 : 0 ≤ ((-1) * s0 + (-4) * s1 + s3)) (hG : gI M) : (HP 96 (8 * s3 + s4 + 1) (s5) (st M 1 (s3 + s4).toNat (s7)) ∧ HP 97 (8 * s0 + s1) (s2) (st M 1 (s3 + s4).toNat (s7)) ∧ HP 41 (s0) (0 : Int) (st M 1 (s3 + s4).toNat (s7)) ∧ True) := by
  obtain ⟨p, gg, h1, h2, h3, h4⟩ := Eq.mp hp_96 m0
  obtain ⟨x, k, k1, k2, k3, k4⟩ := Eq.mp hp_97 m1
  obtain ⟨t1, t2, t3⟩ := Eq.mp hp_41 m2
  have eg : gg = s4.toNat := by omega
  have ep : p = s3.toNat := by omega
  have ex : x = s0.toNat := by omega
  have ek : k = s1.toNat := by omega
  have b1 := n_ushr (a := s5) (b := 24 - 8 * (gg : Int)) m3 (by omega) (by unfold r32; omega)
  have b2 := n_and (a := s6) (b := 255) m4 (by omega) (by unfold r32; omega)
  have hz : s7 = qby s5 gg := by rw [b2, b1]; rfl
  have hn : ∀ j : Nat, j ≠ (s3 + s4).toNat → st M 1 (s3 + s4).toNat (s7) 1 j = M 1 j := fun j hj => if_neg (fun h => hj h.2)
  refine ⟨Eq.mpr hp_96 ⟨p, gg + 1, h1, by omega, by omega, fun j hj => ?_⟩, Eq.mpr hp_97 ⟨x, k, k1, k2, k3, qfd_n (fun i hi => hn i (by omega)) k4⟩, Eq.mpr hp_41 ⟨t1, t2, fun i hi => ?_⟩, trivial⟩
  · by_cases e : j = gg
    · rw [e, show (s3 + s4).toNat = p + gg by omega, cw0, if_pos rfl]; exact hz
    · rw [hn _ (by omega)]; exact h4 j (by omega)
  · rw [hn _ (by omega), show st M 1 (s3 + s4).toNat (s7) 62 i = M 62 i from if_neg (fun h => absurd h.1 (by decide))]; exact t3 i hi
theorem rul_734 : Rul r_734 := by
  refine ⟨fun h => (by cases h), fun gi gv hg ρ M hm hB hF hG => ?_⟩
  obtain ⟨g1, g2⟩ := List.cons.inj (show ([aI ((0 : Int), ([(3, 1), (4, 1)] : List (Nat × Int))), aI ((0 : Int), ([(7, 1)] : List (Nat × Int)))] : List av) = [.inl gi, .inl gv] from hg)
  obtain ⟨g2, -⟩ := List.cons.inj g2
  cases g1
  cases g2
  have ei : ev ρ ((0 : Int), ([(3, 1), (4, 1)] : List (Nat × Int))) = ((ρ 3) + (ρ 4)) := by show 0 + (1 * ρ 3 + (1 * ρ 4 + 0)) = _; omega
  have ew : ev ρ ((0 : Int), ([(7, 1)] : List (Nat × Int))) = ((ρ 7)) := by show 0 + (1 * ρ 7 + 0) = _; omega
  rw [show (st M (ctj r_734) (ev ρ ((0 : Int), ([(3, 1), (4, 1)] : List (Nat × Int)))).toNat (ev ρ ((0 : Int), ([(7, 1)] : List (Nat × Int))))) = (st M 1 ((ρ 3) + (ρ 4)).toNat ((ρ 7))) from by rw [ei, ew]; rfl]
  have H := cr_734 M (ρ 0) (ρ 1) (ρ 2) (ρ 3) (ρ 4) (ρ 5) (ρ 6) (ρ 7) (hB _ List.mem_cons_self) (hB _ (List.mem_cons_of_mem _ List.mem_cons_self)) (hB _ (List.mem_cons_of_mem _ (List.mem_cons_of_mem _ List.mem_cons_self))) (hB _ (List.mem_cons_of_mem _ (List.mem_cons_of_mem _ (List.mem_cons_of_mem _ List.mem_cons_self)))) (hB _ (List.mem_cons_of_mem _ (List.mem_cons_of_mem _ (List.mem_cons_of_mem _ (List.mem_cons_of_mem _ List.mem_cons_self))))) (hB _ (List.mem_cons_of_mem _ (List.mem_cons_of_mem _ (List.mem_cons_of_mem _ (List.mem_cons_of_mem _ (List.mem_cons_of_mem _ List.mem_cons_self)))))) (hB _ (List.mem_cons_of_mem _ (List.mem_cons_of_mem _ (List.mem_cons_of_mem _ (List.mem_cons_of_mem _ (List.mem_cons_of_mem _ (List.mem_cons_of_mem _ List.mem_cons_self))))))) (cvp 96 (x' := (8 * (ρ 3) + (ρ 4))) (y' := ((ρ 5))) (by show 0 + (8 * ρ 3 + (1 * ρ 4 + 0)) = _; omega) (by show 0 + (1 * ρ 5 + 0) = _; omega) (hm _ List.mem_cons_self)) (cvp 97 (x' := (8 * (ρ 0) + (ρ 1))) (y' := ((ρ 2))) (by show 0 + (8 * ρ 0 + (1 * ρ 1 + 0)) = _; omega) (by show 0 + (1 * ρ 2 + 0) = _; omega) (hm _ (List.mem_cons_of_mem _ List.mem_cons_self))) (cvp 41 (x' := ((ρ 0))) (y' := (0 : Int)) (by show 0 + (1 * ρ 0 + 0) = _; omega) (by show 0 + 0 = _; omega) (hm _ (List.mem_cons_of_mem _ (List.mem_cons_of_mem _ List.mem_cons_self)))) (cvp 105 (x' := ((-8) * (ρ 4) + 4294967296 * (ρ 5) + 24)) (y' := ((ρ 6))) (by show 24 + ((-8) * ρ 4 + (4294967296 * ρ 5 + 0)) = _; omega) (by show 0 + (1 * ρ 6 + 0) = _; omega) (hm _ (List.mem_cons_of_mem _ (List.mem_cons_of_mem _ (List.mem_cons_of_mem _ List.mem_cons_self))))) (cvp 100 (x' := (4294967296 * (ρ 6) + 255)) (y' := ((ρ 7))) (by show 255 + (4294967296 * ρ 6 + 0) = _; omega) (by show 0 + (1 * ρ 7 + 0) = _; omega) (hm _ (List.mem_cons_of_mem _ (List.mem_cons_of_mem _ (List.mem_cons_of_mem _ (List.mem_cons_of_mem _ List.mem_cons_self)))))) (by have h := hF _ List.mem_cons_self; have h : 0 ≤ 0 + (1 * ρ 0 + (4 * ρ 1 + ((-1) * ρ 3 + 0))) := h; omega) (by have h := hF _ (List.mem_cons_of_mem _ List.mem_cons_self); have h : 0 ≤ 0 + ((-1) * ρ 0 + ((-4) * ρ 1 + (1 * ρ 3 + 0))) := h; omega) hG
  obtain ⟨k0, k1, k2, -⟩ := H
  exact ⟨_, List.mem_cons_self, ρ, fun _ _ => rfl, (okM_c (pvp 96 (by show 1 + (8 * ρ 3 + (1 * ρ 4 + 0)) = _; omega) (by show 0 + (1 * ρ 5 + 0) = _; omega) k0) (okM_c (pvp 97 (by show 0 + (8 * ρ 0 + (1 * ρ 1 + 0)) = _; omega) (by show 0 + (1 * ρ 2 + 0) = _; omega) k1) (okM_c (pvp 41 (by show 0 + (1 * ρ 0 + 0) = _; omega) (by show 0 + 0 = _; omega) k2) okM_n))), okB_n, okF_n⟩
-- fdx
theorem cr_735 (M : pM) (s0 s1 s2 s3 s4 s5 : Int) (b0 : 0 ≤ s0 ∧ s0 ≤ 1900) (b1 : 0 ≤ s1 ∧ s1 ≤ 4) (b3 : 0 ≤ s3 ∧ s3 ≤ 1900) (b4 : (-2147483648) ≤ s4 ∧ s4 ≤ 2147483647) (b5 : 0 ≤ s5 ∧ s5 ≤ 4) (m0 : HP 96 (8 * s3 + s5) (s4) M) (m1 : HP 97 (8 * s0 + s1) (s2) M) (f0 : 0 ≤ (s0 + 4 * s1 + (-1) * s3)) (f1 : 0 ≤ ((-1) * s0 + (-4) * s1 + s3)) (f2 : 0 ≤ (s5 - 4)) (hG : gI M) : (HP 97 (8 * s0 + s1 + 1) (4294967296 * s2 + s4) M ∧ True) := by
  obtain ⟨p, gg, h1, h2, h3, h4⟩ := Eq.mp hp_96 m0
  obtain ⟨x, k, k1, k2, k3, k4⟩ := Eq.mp hp_97 m1
  have eg : gg = 4 := by omega
  subst eg
  refine ⟨Eq.mpr hp_97 ⟨x, k + 1, k1, by omega, by omega, ⟨s2, s4, by unfold r32; omega, by omega, k4, fun j hj => by rw [show x + 4 * k + j = p + j by omega]; exact h4 j hj⟩⟩, trivial⟩
theorem rul_735 : Rul r_735 := by
  refine ⟨fun _ ρ M hm hB hF hG => ?_, fun gi gv hg => (by cases hg)⟩
  have H := cr_735 M (ρ 0) (ρ 1) (ρ 2) (ρ 3) (ρ 4) (ρ 5) (hB _ List.mem_cons_self) (hB _ (List.mem_cons_of_mem _ List.mem_cons_self)) (hB _ (List.mem_cons_of_mem _ (List.mem_cons_of_mem _ List.mem_cons_self))) (hB _ (List.mem_cons_of_mem _ (List.mem_cons_of_mem _ (List.mem_cons_of_mem _ List.mem_cons_self)))) (hB _ (List.mem_cons_of_mem _ (List.mem_cons_of_mem _ (List.mem_cons_of_mem _ (List.mem_cons_of_mem _ List.mem_cons_self))))) (cvp 96 (x' := (8 * (ρ 3) + (ρ 5))) (y' := ((ρ 4))) (by show 0 + (8 * ρ 3 + (1 * ρ 5 + 0)) = _; omega) (by show 0 + (1 * ρ 4 + 0) = _; omega) (hm _ List.mem_cons_self)) (cvp 97 (x' := (8 * (ρ 0) + (ρ 1))) (y' := ((ρ 2))) (by show 0 + (8 * ρ 0 + (1 * ρ 1 + 0)) = _; omega) (by show 0 + (1 * ρ 2 + 0) = _; omega) (hm _ (List.mem_cons_of_mem _ List.mem_cons_self))) (by have h := hF _ List.mem_cons_self; have h : 0 ≤ 0 + (1 * ρ 0 + (4 * ρ 1 + ((-1) * ρ 3 + 0))) := h; omega) (by have h := hF _ (List.mem_cons_of_mem _ List.mem_cons_self); have h : 0 ≤ 0 + ((-1) * ρ 0 + ((-4) * ρ 1 + (1 * ρ 3 + 0))) := h; omega) (by have h := hF _ (List.mem_cons_of_mem _ (List.mem_cons_of_mem _ List.mem_cons_self)); have h : 0 ≤ (-4) + (1 * ρ 5 + 0) := h; omega) hG
  obtain ⟨k0, -⟩ := H
  exact ⟨_, List.mem_cons_self, ρ, fun _ _ => rfl, (okM_c (pvp 97 (by show 1 + (8 * ρ 0 + (1 * ρ 1 + 0)) = _; omega) (by show 0 + (4294967296 * ρ 2 + (1 * ρ 4 + 0)) = _; omega) k0) okM_n), okB_n, okF_n⟩
-- txw0
theorem cr_736 (M : pM) (s0 s1 s2 s3 s4 s5 s6 s7 s8 s9 : Int) (b0 : 0 ≤ s0 ∧ s0 ≤ 1900) (b1 : 0 ≤ s1 ∧ s1 ≤ 3) (b2 : (-2147483648) ≤ s2 ∧ s2 ≤ 2147483647) (b3 : (-2147483648) ≤ s3 ∧ s3 ≤ 2147483647) (b4 : (-2147483648) ≤ s4 ∧ s4 ≤ 2147483647) (b5 : (-2147483648) ≤ s5 ∧ s5 ≤ 2147483647) (b6 : (-2147483648) ≤ s6 ∧ s6 ≤ 2147483647) (b7 : 0 ≤ s7 ∧ s7 ≤ 3) (b8 : (-2147483648) ≤ s8 ∧ s8 ≤ 2147483647) (b9 : (-128) ≤ s9 ∧ s9 ≤ 127) (m0 : HP 97 (8 * s0 + 5) (340282366920938463463374607431768211456 * s2 + 79228162514264337593543950336 * s3 + 18446744073709551616 * s4 + 4294967296 * s5 + s6) M) (m1 : HP 41 (s0 + s1) (0 : Int) M) (m2 : HP 104 (4294967296 * s2 + (-8) * s7 + 24) (s8) M) (m3 : HP 120 (s8) (s9) M) (f0 : 0 ≤ (s1 + (-1) * s7)) (f1 : 0 ≤ ((-1) * s1 + s7)) (hG : gI M) : (HP 41 (s0 + s1 + 1) (0 : Int) (st M 62 (s0 + s1).toNat (s9)) ∧ HP 97 (8 * s0 + 5) (340282366920938463463374607431768211456 * s2 + 79228162514264337593543950336 * s3 + 18446744073709551616 * s4 + 4294967296 * s5 + s6) (st M 62 (s0 + s1).toNat (s9)) ∧ True) := by
  obtain ⟨x, k, k1, k2, k3, k4⟩ := Eq.mp hp_97 m0
  obtain ⟨t1, t2, t3⟩ := Eq.mp hp_41 m1
  have ex : x = s0.toNat := by omega
  have ek : k = 5 := by omega
  subst ek
  have hb := qfd_5 (v0 := s2) (v1 := s3) (v2 := s4) (v3 := s5) (v4 := s6) k4 (by omega) (by unfold r32; omega) (by unfold r32; omega) (by unfold r32; omega) (by unfold r32; omega) (by unfold r32; omega)
  have b1 := n_shr (a := s2) (b := 24 - 8 * ((s7.toNat : Nat) : Int)) m2 (by omega) (by unfold r32; omega)
  have b2 := n_i2b m3
  have hz : s9 = w8 (M 1 (s0 + s1).toNat) := by rw [show (s0 + s1).toNat = x + 4 * 0 + s7.toNat by omega, hb.1 s7.toNat (by omega), b2, b1]; exact by_w8 s7.toNat (by omega)
  have hn : ∀ c j : Nat, c ≠ 62 → st M 62 (s0 + s1).toNat (s9) c j = M c j := fun c j hj => if_neg (fun h => hj h.1)
  refine ⟨Eq.mpr hp_41 ⟨by omega, by omega, fun i hi => ?_⟩, Eq.mpr hp_97 ⟨x, 5, k1, k2, k3, qfd_n (fun i hi => hn 1 i (by decide)) k4⟩, trivial⟩
  rw [hn 1 _ (by decide), cw0]
  by_cases e : i = (s0 + s1).toNat
  · rw [if_pos e, e]; exact hz
  · rw [if_neg e]; exact t3 i (by omega)
theorem rul_736 : Rul r_736 := by
  refine ⟨fun h => (by cases h), fun gi gv hg ρ M hm hB hF hG => ?_⟩
  obtain ⟨g1, g2⟩ := List.cons.inj (show ([aI ((0 : Int), ([(0, 1), (1, 1)] : List (Nat × Int))), aI ((0 : Int), ([(9, 1)] : List (Nat × Int)))] : List av) = [.inl gi, .inl gv] from hg)
  obtain ⟨g2, -⟩ := List.cons.inj g2
  cases g1
  cases g2
  have ei : ev ρ ((0 : Int), ([(0, 1), (1, 1)] : List (Nat × Int))) = ((ρ 0) + (ρ 1)) := by show 0 + (1 * ρ 0 + (1 * ρ 1 + 0)) = _; omega
  have ew : ev ρ ((0 : Int), ([(9, 1)] : List (Nat × Int))) = ((ρ 9)) := by show 0 + (1 * ρ 9 + 0) = _; omega
  rw [show (st M (ctj r_736) (ev ρ ((0 : Int), ([(0, 1), (1, 1)] : List (Nat × Int)))).toNat (ev ρ ((0 : Int), ([(9, 1)] : List (Nat × Int))))) = (st M 62 ((ρ 0) + (ρ 1)).toNat ((ρ 9))) from by rw [ei, ew]; rfl]
  have H := cr_736 M (ρ 0) (ρ 1) (ρ 2) (ρ 3) (ρ 4) (ρ 5) (ρ 6) (ρ 7) (ρ 8) (ρ 9) (hB _ List.mem_cons_self) (hB _ (List.mem_cons_of_mem _ List.mem_cons_self)) (hB _ (List.mem_cons_of_mem _ (List.mem_cons_of_mem _ List.mem_cons_self))) (hB _ (List.mem_cons_of_mem _ (List.mem_cons_of_mem _ (List.mem_cons_of_mem _ List.mem_cons_self)))) (hB _ (List.mem_cons_of_mem _ (List.mem_cons_of_mem _ (List.mem_cons_of_mem _ (List.mem_cons_of_mem _ List.mem_cons_self))))) (hB _ (List.mem_cons_of_mem _ (List.mem_cons_of_mem _ (List.mem_cons_of_mem _ (List.mem_cons_of_mem _ (List.mem_cons_of_mem _ List.mem_cons_self)))))) (hB _ (List.mem_cons_of_mem _ (List.mem_cons_of_mem _ (List.mem_cons_of_mem _ (List.mem_cons_of_mem _ (List.mem_cons_of_mem _ (List.mem_cons_of_mem _ List.mem_cons_self))))))) (hB _ (List.mem_cons_of_mem _ (List.mem_cons_of_mem _ (List.mem_cons_of_mem _ (List.mem_cons_of_mem _ (List.mem_cons_of_mem _ (List.mem_cons_of_mem _ (List.mem_cons_of_mem _ List.mem_cons_self)))))))) (hB _ (List.mem_cons_of_mem _ (List.mem_cons_of_mem _ (List.mem_cons_of_mem _ (List.mem_cons_of_mem _ (List.mem_cons_of_mem _ (List.mem_cons_of_mem _ (List.mem_cons_of_mem _ (List.mem_cons_of_mem _ List.mem_cons_self))))))))) (hB _ (List.mem_cons_of_mem _ (List.mem_cons_of_mem _ (List.mem_cons_of_mem _ (List.mem_cons_of_mem _ (List.mem_cons_of_mem _ (List.mem_cons_of_mem _ (List.mem_cons_of_mem _ (List.mem_cons_of_mem _ (List.mem_cons_of_mem _ List.mem_cons_self)))))))))) (cvp 97 (x' := (8 * (ρ 0) + 5)) (y' := (340282366920938463463374607431768211456 * (ρ 2) + 79228162514264337593543950336 * (ρ 3) + 18446744073709551616 * (ρ 4) + 4294967296 * (ρ 5) + (ρ 6))) (by show 5 + (8 * ρ 0 + 0) = _; omega) (by show 0 + (340282366920938463463374607431768211456 * ρ 2 + (79228162514264337593543950336 * ρ 3 + (18446744073709551616 * ρ 4 + (4294967296 * ρ 5 + (1 * ρ 6 + 0))))) = _; omega) (hm _ List.mem_cons_self)) (cvp 41 (x' := ((ρ 0) + (ρ 1))) (y' := (0 : Int)) (by show 0 + (1 * ρ 0 + (1 * ρ 1 + 0)) = _; omega) (by show 0 + 0 = _; omega) (hm _ (List.mem_cons_of_mem _ List.mem_cons_self))) (cvp 104 (x' := (4294967296 * (ρ 2) + (-8) * (ρ 7) + 24)) (y' := ((ρ 8))) (by show 24 + (4294967296 * ρ 2 + ((-8) * ρ 7 + 0)) = _; omega) (by show 0 + (1 * ρ 8 + 0) = _; omega) (hm _ (List.mem_cons_of_mem _ (List.mem_cons_of_mem _ List.mem_cons_self)))) (cvp 120 (x' := ((ρ 8))) (y' := ((ρ 9))) (by show 0 + (1 * ρ 8 + 0) = _; omega) (by show 0 + (1 * ρ 9 + 0) = _; omega) (hm _ (List.mem_cons_of_mem _ (List.mem_cons_of_mem _ (List.mem_cons_of_mem _ List.mem_cons_self))))) (by have h := hF _ List.mem_cons_self; have h : 0 ≤ 0 + (1 * ρ 1 + ((-1) * ρ 7 + 0)) := h; omega) (by have h := hF _ (List.mem_cons_of_mem _ List.mem_cons_self); have h : 0 ≤ 0 + ((-1) * ρ 1 + (1 * ρ 7 + 0)) := h; omega) hG
  obtain ⟨k0, k1, -⟩ := H
  exact ⟨_, List.mem_cons_self, ρ, fun _ _ => rfl, (okM_c (pvp 41 (by show 1 + (1 * ρ 0 + (1 * ρ 1 + 0)) = _; omega) (by show 0 + 0 = _; omega) k0) (okM_c (pvp 97 (by show 5 + (8 * ρ 0 + 0) = _; omega) (by show 0 + (340282366920938463463374607431768211456 * ρ 2 + (79228162514264337593543950336 * ρ 3 + (18446744073709551616 * ρ 4 + (4294967296 * ρ 5 + (1 * ρ 6 + 0))))) = _; omega) k1) okM_n)), okB_n, okF_n⟩
-- txw1
theorem cr_737 (M : pM) (s0 s1 s2 s3 s4 s5 s6 s7 s8 s9 : Int) (b0 : 0 ≤ s0 ∧ s0 ≤ 1900) (b1 : 4 ≤ s1 ∧ s1 ≤ 7) (b2 : (-2147483648) ≤ s2 ∧ s2 ≤ 2147483647) (b3 : (-2147483648) ≤ s3 ∧ s3 ≤ 2147483647) (b4 : (-2147483648) ≤ s4 ∧ s4 ≤ 2147483647) (b5 : (-2147483648) ≤ s5 ∧ s5 ≤ 2147483647) (b6 : (-2147483648) ≤ s6 ∧ s6 ≤ 2147483647) (b7 : 0 ≤ s7 ∧ s7 ≤ 3) (b8 : (-2147483648) ≤ s8 ∧ s8 ≤ 2147483647) (b9 : (-128) ≤ s9 ∧ s9 ≤ 127) (m0 : HP 97 (8 * s0 + 5) (340282366920938463463374607431768211456 * s2 + 79228162514264337593543950336 * s3 + 18446744073709551616 * s4 + 4294967296 * s5 + s6) M) (m1 : HP 41 (s0 + s1) (0 : Int) M) (m2 : HP 104 (4294967296 * s3 + (-8) * s7 + 24) (s8) M) (m3 : HP 120 (s8) (s9) M) (f0 : 0 ≤ (s1 + (-1) * s7 - 4)) (f1 : 0 ≤ ((-1) * s1 + s7 + 4)) (hG : gI M) : (HP 41 (s0 + s1 + 1) (0 : Int) (st M 62 (s0 + s1).toNat (s9)) ∧ HP 97 (8 * s0 + 5) (340282366920938463463374607431768211456 * s2 + 79228162514264337593543950336 * s3 + 18446744073709551616 * s4 + 4294967296 * s5 + s6) (st M 62 (s0 + s1).toNat (s9)) ∧ True) := by
  obtain ⟨x, k, k1, k2, k3, k4⟩ := Eq.mp hp_97 m0
  obtain ⟨t1, t2, t3⟩ := Eq.mp hp_41 m1
  have ex : x = s0.toNat := by omega
  have ek : k = 5 := by omega
  subst ek
  have hb := qfd_5 (v0 := s2) (v1 := s3) (v2 := s4) (v3 := s5) (v4 := s6) k4 (by omega) (by unfold r32; omega) (by unfold r32; omega) (by unfold r32; omega) (by unfold r32; omega) (by unfold r32; omega)
  have b1 := n_shr (a := s3) (b := 24 - 8 * ((s7.toNat : Nat) : Int)) m2 (by omega) (by unfold r32; omega)
  have b2 := n_i2b m3
  have hz : s9 = w8 (M 1 (s0 + s1).toNat) := by rw [show (s0 + s1).toNat = x + 4 * 1 + s7.toNat by omega, hb.2.1 s7.toNat (by omega), b2, b1]; exact by_w8 s7.toNat (by omega)
  have hn : ∀ c j : Nat, c ≠ 62 → st M 62 (s0 + s1).toNat (s9) c j = M c j := fun c j hj => if_neg (fun h => hj h.1)
  refine ⟨Eq.mpr hp_41 ⟨by omega, by omega, fun i hi => ?_⟩, Eq.mpr hp_97 ⟨x, 5, k1, k2, k3, qfd_n (fun i hi => hn 1 i (by decide)) k4⟩, trivial⟩
  rw [hn 1 _ (by decide), cw0]
  by_cases e : i = (s0 + s1).toNat
  · rw [if_pos e, e]; exact hz
  · rw [if_neg e]; exact t3 i (by omega)
theorem rul_737 : Rul r_737 := by
  refine ⟨fun h => (by cases h), fun gi gv hg ρ M hm hB hF hG => ?_⟩
  obtain ⟨g1, g2⟩ := List.cons.inj (show ([aI ((0 : Int), ([(0, 1), (1, 1)] : List (Nat × Int))), aI ((0 : Int), ([(9, 1)] : List (Nat × Int)))] : List av) = [.inl gi, .inl gv] from hg)
  obtain ⟨g2, -⟩ := List.cons.inj g2
  cases g1
  cases g2
  have ei : ev ρ ((0 : Int), ([(0, 1), (1, 1)] : List (Nat × Int))) = ((ρ 0) + (ρ 1)) := by show 0 + (1 * ρ 0 + (1 * ρ 1 + 0)) = _; omega
  have ew : ev ρ ((0 : Int), ([(9, 1)] : List (Nat × Int))) = ((ρ 9)) := by show 0 + (1 * ρ 9 + 0) = _; omega
  rw [show (st M (ctj r_737) (ev ρ ((0 : Int), ([(0, 1), (1, 1)] : List (Nat × Int)))).toNat (ev ρ ((0 : Int), ([(9, 1)] : List (Nat × Int))))) = (st M 62 ((ρ 0) + (ρ 1)).toNat ((ρ 9))) from by rw [ei, ew]; rfl]
  have H := cr_737 M (ρ 0) (ρ 1) (ρ 2) (ρ 3) (ρ 4) (ρ 5) (ρ 6) (ρ 7) (ρ 8) (ρ 9) (hB _ List.mem_cons_self) (hB _ (List.mem_cons_of_mem _ List.mem_cons_self)) (hB _ (List.mem_cons_of_mem _ (List.mem_cons_of_mem _ List.mem_cons_self))) (hB _ (List.mem_cons_of_mem _ (List.mem_cons_of_mem _ (List.mem_cons_of_mem _ List.mem_cons_self)))) (hB _ (List.mem_cons_of_mem _ (List.mem_cons_of_mem _ (List.mem_cons_of_mem _ (List.mem_cons_of_mem _ List.mem_cons_self))))) (hB _ (List.mem_cons_of_mem _ (List.mem_cons_of_mem _ (List.mem_cons_of_mem _ (List.mem_cons_of_mem _ (List.mem_cons_of_mem _ List.mem_cons_self)))))) (hB _ (List.mem_cons_of_mem _ (List.mem_cons_of_mem _ (List.mem_cons_of_mem _ (List.mem_cons_of_mem _ (List.mem_cons_of_mem _ (List.mem_cons_of_mem _ List.mem_cons_self))))))) (hB _ (List.mem_cons_of_mem _ (List.mem_cons_of_mem _ (List.mem_cons_of_mem _ (List.mem_cons_of_mem _ (List.mem_cons_of_mem _ (List.mem_cons_of_mem _ (List.mem_cons_of_mem _ List.mem_cons_self)))))))) (hB _ (List.mem_cons_of_mem _ (List.mem_cons_of_mem _ (List.mem_cons_of_mem _ (List.mem_cons_of_mem _ (List.mem_cons_of_mem _ (List.mem_cons_of_mem _ (List.mem_cons_of_mem _ (List.mem_cons_of_mem _ List.mem_cons_self))))))))) (hB _ (List.mem_cons_of_mem _ (List.mem_cons_of_mem _ (List.mem_cons_of_mem _ (List.mem_cons_of_mem _ (List.mem_cons_of_mem _ (List.mem_cons_of_mem _ (List.mem_cons_of_mem _ (List.mem_cons_of_mem _ (List.mem_cons_of_mem _ List.mem_cons_self)))))))))) (cvp 97 (x' := (8 * (ρ 0) + 5)) (y' := (340282366920938463463374607431768211456 * (ρ 2) + 79228162514264337593543950336 * (ρ 3) + 18446744073709551616 * (ρ 4) + 4294967296 * (ρ 5) + (ρ 6))) (by show 5 + (8 * ρ 0 + 0) = _; omega) (by show 0 + (340282366920938463463374607431768211456 * ρ 2 + (79228162514264337593543950336 * ρ 3 + (18446744073709551616 * ρ 4 + (4294967296 * ρ 5 + (1 * ρ 6 + 0))))) = _; omega) (hm _ List.mem_cons_self)) (cvp 41 (x' := ((ρ 0) + (ρ 1))) (y' := (0 : Int)) (by show 0 + (1 * ρ 0 + (1 * ρ 1 + 0)) = _; omega) (by show 0 + 0 = _; omega) (hm _ (List.mem_cons_of_mem _ List.mem_cons_self))) (cvp 104 (x' := (4294967296 * (ρ 3) + (-8) * (ρ 7) + 24)) (y' := ((ρ 8))) (by show 24 + (4294967296 * ρ 3 + ((-8) * ρ 7 + 0)) = _; omega) (by show 0 + (1 * ρ 8 + 0) = _; omega) (hm _ (List.mem_cons_of_mem _ (List.mem_cons_of_mem _ List.mem_cons_self)))) (cvp 120 (x' := ((ρ 8))) (y' := ((ρ 9))) (by show 0 + (1 * ρ 8 + 0) = _; omega) (by show 0 + (1 * ρ 9 + 0) = _; omega) (hm _ (List.mem_cons_of_mem _ (List.mem_cons_of_mem _ (List.mem_cons_of_mem _ List.mem_cons_self))))) (by have h := hF _ List.mem_cons_self; have h : 0 ≤ (-4) + (1 * ρ 1 + ((-1) * ρ 7 + 0)) := h; omega) (by have h := hF _ (List.mem_cons_of_mem _ List.mem_cons_self); have h : 0 ≤ 4 + ((-1) * ρ 1 + (1 * ρ 7 + 0)) := h; omega) hG
  obtain ⟨k0, k1, -⟩ := H
  exact ⟨_, List.mem_cons_self, ρ, fun _ _ => rfl, (okM_c (pvp 41 (by show 1 + (1 * ρ 0 + (1 * ρ 1 + 0)) = _; omega) (by show 0 + 0 = _; omega) k0) (okM_c (pvp 97 (by show 5 + (8 * ρ 0 + 0) = _; omega) (by show 0 + (340282366920938463463374607431768211456 * ρ 2 + (79228162514264337593543950336 * ρ 3 + (18446744073709551616 * ρ 4 + (4294967296 * ρ 5 + (1 * ρ 6 + 0))))) = _; omega) k1) okM_n)), okB_n, okF_n⟩
-- txw2
theorem cr_738 (M : pM) (s0 s1 s2 s3 s4 s5 s6 s7 s8 s9 : Int) (b0 : 0 ≤ s0 ∧ s0 ≤ 1900) (b1 : 8 ≤ s1 ∧ s1 ≤ 11) (b2 : (-2147483648) ≤ s2 ∧ s2 ≤ 2147483647) (b3 : (-2147483648) ≤ s3 ∧ s3 ≤ 2147483647) (b4 : (-2147483648) ≤ s4 ∧ s4 ≤ 2147483647) (b5 : (-2147483648) ≤ s5 ∧ s5 ≤ 2147483647) (b6 : (-2147483648) ≤ s6 ∧ s6 ≤ 2147483647) (b7 : 0 ≤ s7 ∧ s7 ≤ 3) (b8 : (-2147483648) ≤ s8 ∧ s8 ≤ 2147483647) (b9 : (-128) ≤ s9 ∧ s9 ≤ 127) (m0 : HP 97 (8 * s0 + 5) (340282366920938463463374607431768211456 * s2 + 79228162514264337593543950336 * s3 + 18446744073709551616 * s4 + 4294967296 * s5 + s6) M) (m1 : HP 41 (s0 + s1) (0 : Int) M) (m2 : HP 104 (4294967296 * s4 + (-8) * s7 + 24) (s8) M) (m3 : HP 120 (s8) (s9) M) (f0 : 0 ≤ (s1 + (-1) * s7 - 8)) (f1 : 0 ≤ ((-1) * s1 + s7 + 8)) (hG : gI M) : (HP 41 (s0 + s1 + 1) (0 : Int) (st M 62 (s0 + s1).toNat (s9)) ∧ HP 97 (8 * s0 + 5) (340282366920938463463374607431768211456 * s2 + 79228162514264337593543950336 * s3 + 18446744073709551616 * s4 + 4294967296 * s5 + s6) (st M 62 (s0 + s1).toNat (s9)) ∧ True) := by
  obtain ⟨x, k, k1, k2, k3, k4⟩ := Eq.mp hp_97 m0
  obtain ⟨t1, t2, t3⟩ := Eq.mp hp_41 m1
  have ex : x = s0.toNat := by omega
  have ek : k = 5 := by omega
  subst ek
  have hb := qfd_5 (v0 := s2) (v1 := s3) (v2 := s4) (v3 := s5) (v4 := s6) k4 (by omega) (by unfold r32; omega) (by unfold r32; omega) (by unfold r32; omega) (by unfold r32; omega) (by unfold r32; omega)
  have b1 := n_shr (a := s4) (b := 24 - 8 * ((s7.toNat : Nat) : Int)) m2 (by omega) (by unfold r32; omega)
  have b2 := n_i2b m3
  have hz : s9 = w8 (M 1 (s0 + s1).toNat) := by rw [show (s0 + s1).toNat = x + 4 * 2 + s7.toNat by omega, hb.2.2.1 s7.toNat (by omega), b2, b1]; exact by_w8 s7.toNat (by omega)
  have hn : ∀ c j : Nat, c ≠ 62 → st M 62 (s0 + s1).toNat (s9) c j = M c j := fun c j hj => if_neg (fun h => hj h.1)
  refine ⟨Eq.mpr hp_41 ⟨by omega, by omega, fun i hi => ?_⟩, Eq.mpr hp_97 ⟨x, 5, k1, k2, k3, qfd_n (fun i hi => hn 1 i (by decide)) k4⟩, trivial⟩
  rw [hn 1 _ (by decide), cw0]
  by_cases e : i = (s0 + s1).toNat
  · rw [if_pos e, e]; exact hz
  · rw [if_neg e]; exact t3 i (by omega)
theorem rul_738 : Rul r_738 := by
  refine ⟨fun h => (by cases h), fun gi gv hg ρ M hm hB hF hG => ?_⟩
  obtain ⟨g1, g2⟩ := List.cons.inj (show ([aI ((0 : Int), ([(0, 1), (1, 1)] : List (Nat × Int))), aI ((0 : Int), ([(9, 1)] : List (Nat × Int)))] : List av) = [.inl gi, .inl gv] from hg)
  obtain ⟨g2, -⟩ := List.cons.inj g2
  cases g1
  cases g2
  have ei : ev ρ ((0 : Int), ([(0, 1), (1, 1)] : List (Nat × Int))) = ((ρ 0) + (ρ 1)) := by show 0 + (1 * ρ 0 + (1 * ρ 1 + 0)) = _; omega
  have ew : ev ρ ((0 : Int), ([(9, 1)] : List (Nat × Int))) = ((ρ 9)) := by show 0 + (1 * ρ 9 + 0) = _; omega
  rw [show (st M (ctj r_738) (ev ρ ((0 : Int), ([(0, 1), (1, 1)] : List (Nat × Int)))).toNat (ev ρ ((0 : Int), ([(9, 1)] : List (Nat × Int))))) = (st M 62 ((ρ 0) + (ρ 1)).toNat ((ρ 9))) from by rw [ei, ew]; rfl]
  have H := cr_738 M (ρ 0) (ρ 1) (ρ 2) (ρ 3) (ρ 4) (ρ 5) (ρ 6) (ρ 7) (ρ 8) (ρ 9) (hB _ List.mem_cons_self) (hB _ (List.mem_cons_of_mem _ List.mem_cons_self)) (hB _ (List.mem_cons_of_mem _ (List.mem_cons_of_mem _ List.mem_cons_self))) (hB _ (List.mem_cons_of_mem _ (List.mem_cons_of_mem _ (List.mem_cons_of_mem _ List.mem_cons_self)))) (hB _ (List.mem_cons_of_mem _ (List.mem_cons_of_mem _ (List.mem_cons_of_mem _ (List.mem_cons_of_mem _ List.mem_cons_self))))) (hB _ (List.mem_cons_of_mem _ (List.mem_cons_of_mem _ (List.mem_cons_of_mem _ (List.mem_cons_of_mem _ (List.mem_cons_of_mem _ List.mem_cons_self)))))) (hB _ (List.mem_cons_of_mem _ (List.mem_cons_of_mem _ (List.mem_cons_of_mem _ (List.mem_cons_of_mem _ (List.mem_cons_of_mem _ (List.mem_cons_of_mem _ List.mem_cons_self))))))) (hB _ (List.mem_cons_of_mem _ (List.mem_cons_of_mem _ (List.mem_cons_of_mem _ (List.mem_cons_of_mem _ (List.mem_cons_of_mem _ (List.mem_cons_of_mem _ (List.mem_cons_of_mem _ List.mem_cons_self)))))))) (hB _ (List.mem_cons_of_mem _ (List.mem_cons_of_mem _ (List.mem_cons_of_mem _ (List.mem_cons_of_mem _ (List.mem_cons_of_mem _ (List.mem_cons_of_mem _ (List.mem_cons_of_mem _ (List.mem_cons_of_mem _ List.mem_cons_self))))))))) (hB _ (List.mem_cons_of_mem _ (List.mem_cons_of_mem _ (List.mem_cons_of_mem _ (List.mem_cons_of_mem _ (List.mem_cons_of_mem _ (List.mem_cons_of_mem _ (List.mem_cons_of_mem _ (List.mem_cons_of_mem _ (List.mem_cons_of_mem _ List.mem_cons_self)))))))))) (cvp 97 (x' := (8 * (ρ 0) + 5)) (y' := (340282366920938463463374607431768211456 * (ρ 2) + 79228162514264337593543950336 * (ρ 3) + 18446744073709551616 * (ρ 4) + 4294967296 * (ρ 5) + (ρ 6))) (by show 5 + (8 * ρ 0 + 0) = _; omega) (by show 0 + (340282366920938463463374607431768211456 * ρ 2 + (79228162514264337593543950336 * ρ 3 + (18446744073709551616 * ρ 4 + (4294967296 * ρ 5 + (1 * ρ 6 + 0))))) = _; omega) (hm _ List.mem_cons_self)) (cvp 41 (x' := ((ρ 0) + (ρ 1))) (y' := (0 : Int)) (by show 0 + (1 * ρ 0 + (1 * ρ 1 + 0)) = _; omega) (by show 0 + 0 = _; omega) (hm _ (List.mem_cons_of_mem _ List.mem_cons_self))) (cvp 104 (x' := (4294967296 * (ρ 4) + (-8) * (ρ 7) + 24)) (y' := ((ρ 8))) (by show 24 + (4294967296 * ρ 4 + ((-8) * ρ 7 + 0)) = _; omega) (by show 0 + (1 * ρ 8 + 0) = _; omega) (hm _ (List.mem_cons_of_mem _ (List.mem_cons_of_mem _ List.mem_cons_self)))) (cvp 120 (x' := ((ρ 8))) (y' := ((ρ 9))) (by show 0 + (1 * ρ 8 + 0) = _; omega) (by show 0 + (1 * ρ 9 + 0) = _; omega) (hm _ (List.mem_cons_of_mem _ (List.mem_cons_of_mem _ (List.mem_cons_of_mem _ List.mem_cons_self))))) (by have h := hF _ List.mem_cons_self; have h : 0 ≤ (-8) + (1 * ρ 1 + ((-1) * ρ 7 + 0)) := h; omega) (by have h := hF _ (List.mem_cons_of_mem _ List.mem_cons_self); have h : 0 ≤ 8 + ((-1) * ρ 1 + (1 * ρ 7 + 0)) := h; omega) hG
  obtain ⟨k0, k1, -⟩ := H
  exact ⟨_, List.mem_cons_self, ρ, fun _ _ => rfl, (okM_c (pvp 41 (by show 1 + (1 * ρ 0 + (1 * ρ 1 + 0)) = _; omega) (by show 0 + 0 = _; omega) k0) (okM_c (pvp 97 (by show 5 + (8 * ρ 0 + 0) = _; omega) (by show 0 + (340282366920938463463374607431768211456 * ρ 2 + (79228162514264337593543950336 * ρ 3 + (18446744073709551616 * ρ 4 + (4294967296 * ρ 5 + (1 * ρ 6 + 0))))) = _; omega) k1) okM_n)), okB_n, okF_n⟩
-- txw3
theorem cr_739 (M : pM) (s0 s1 s2 s3 s4 s5 s6 s7 s8 s9 : Int) (b0 : 0 ≤ s0 ∧ s0 ≤ 1900) (b1 : 12 ≤ s1 ∧ s1 ≤ 15) (b2 : (-2147483648) ≤ s2 ∧ s2 ≤ 2147483647) (b3 : (-2147483648) ≤ s3 ∧ s3 ≤ 2147483647) (b4 : (-2147483648) ≤ s4 ∧ s4 ≤ 2147483647) (b5 : (-2147483648) ≤ s5 ∧ s5 ≤ 2147483647) (b6 : (-2147483648) ≤ s6 ∧ s6 ≤ 2147483647) (b7 : 0 ≤ s7 ∧ s7 ≤ 3) (b8 : (-2147483648) ≤ s8 ∧ s8 ≤ 2147483647) (b9 : (-128) ≤ s9 ∧ s9 ≤ 127) (m0 : HP 97 (8 * s0 + 5) (340282366920938463463374607431768211456 * s2 + 79228162514264337593543950336 * s3 + 18446744073709551616 * s4 + 4294967296 * s5 + s6) M) (m1 : HP 41 (s0 + s1) (0 : Int) M) (m2 : HP 104 (4294967296 * s5 + (-8) * s7 + 24) (s8) M) (m3 : HP 120 (s8) (s9) M) (f0 : 0 ≤ (s1 + (-1) * s7 - 12)) (f1 : 0 ≤ ((-1) * s1 + s7 + 12)) (hG : gI M) : (HP 41 (s0 + s1 + 1) (0 : Int) (st M 62 (s0 + s1).toNat (s9)) ∧ HP 97 (8 * s0 + 5) (340282366920938463463374607431768211456 * s2 + 79228162514264337593543950336 * s3 + 18446744073709551616 * s4 + 4294967296 * s5 + s6) (st M 62 (s0 + s1).toNat (s9)) ∧ True) := by
  obtain ⟨x, k, k1, k2, k3, k4⟩ := Eq.mp hp_97 m0
  obtain ⟨t1, t2, t3⟩ := Eq.mp hp_41 m1
  have ex : x = s0.toNat := by omega
  have ek : k = 5 := by omega
  subst ek
  have hb := qfd_5 (v0 := s2) (v1 := s3) (v2 := s4) (v3 := s5) (v4 := s6) k4 (by omega) (by unfold r32; omega) (by unfold r32; omega) (by unfold r32; omega) (by unfold r32; omega) (by unfold r32; omega)
  have b1 := n_shr (a := s5) (b := 24 - 8 * ((s7.toNat : Nat) : Int)) m2 (by omega) (by unfold r32; omega)
  have b2 := n_i2b m3
  have hz : s9 = w8 (M 1 (s0 + s1).toNat) := by rw [show (s0 + s1).toNat = x + 4 * 3 + s7.toNat by omega, hb.2.2.2.1 s7.toNat (by omega), b2, b1]; exact by_w8 s7.toNat (by omega)
  have hn : ∀ c j : Nat, c ≠ 62 → st M 62 (s0 + s1).toNat (s9) c j = M c j := fun c j hj => if_neg (fun h => hj h.1)
  refine ⟨Eq.mpr hp_41 ⟨by omega, by omega, fun i hi => ?_⟩, Eq.mpr hp_97 ⟨x, 5, k1, k2, k3, qfd_n (fun i hi => hn 1 i (by decide)) k4⟩, trivial⟩
  rw [hn 1 _ (by decide), cw0]
  by_cases e : i = (s0 + s1).toNat
  · rw [if_pos e, e]; exact hz
  · rw [if_neg e]; exact t3 i (by omega)
theorem rul_739 : Rul r_739 := by
  refine ⟨fun h => (by cases h), fun gi gv hg ρ M hm hB hF hG => ?_⟩
  obtain ⟨g1, g2⟩ := List.cons.inj (show ([aI ((0 : Int), ([(0, 1), (1, 1)] : List (Nat × Int))), aI ((0 : Int), ([(9, 1)] : List (Nat × Int)))] : List av) = [.inl gi, .inl gv] from hg)
  obtain ⟨g2, -⟩ := List.cons.inj g2
  cases g1
  cases g2
  have ei : ev ρ ((0 : Int), ([(0, 1), (1, 1)] : List (Nat × Int))) = ((ρ 0) + (ρ 1)) := by show 0 + (1 * ρ 0 + (1 * ρ 1 + 0)) = _; omega
  have ew : ev ρ ((0 : Int), ([(9, 1)] : List (Nat × Int))) = ((ρ 9)) := by show 0 + (1 * ρ 9 + 0) = _; omega
  rw [show (st M (ctj r_739) (ev ρ ((0 : Int), ([(0, 1), (1, 1)] : List (Nat × Int)))).toNat (ev ρ ((0 : Int), ([(9, 1)] : List (Nat × Int))))) = (st M 62 ((ρ 0) + (ρ 1)).toNat ((ρ 9))) from by rw [ei, ew]; rfl]
  have H := cr_739 M (ρ 0) (ρ 1) (ρ 2) (ρ 3) (ρ 4) (ρ 5) (ρ 6) (ρ 7) (ρ 8) (ρ 9) (hB _ List.mem_cons_self) (hB _ (List.mem_cons_of_mem _ List.mem_cons_self)) (hB _ (List.mem_cons_of_mem _ (List.mem_cons_of_mem _ List.mem_cons_self))) (hB _ (List.mem_cons_of_mem _ (List.mem_cons_of_mem _ (List.mem_cons_of_mem _ List.mem_cons_self)))) (hB _ (List.mem_cons_of_mem _ (List.mem_cons_of_mem _ (List.mem_cons_of_mem _ (List.mem_cons_of_mem _ List.mem_cons_self))))) (hB _ (List.mem_cons_of_mem _ (List.mem_cons_of_mem _ (List.mem_cons_of_mem _ (List.mem_cons_of_mem _ (List.mem_cons_of_mem _ List.mem_cons_self)))))) (hB _ (List.mem_cons_of_mem _ (List.mem_cons_of_mem _ (List.mem_cons_of_mem _ (List.mem_cons_of_mem _ (List.mem_cons_of_mem _ (List.mem_cons_of_mem _ List.mem_cons_self))))))) (hB _ (List.mem_cons_of_mem _ (List.mem_cons_of_mem _ (List.mem_cons_of_mem _ (List.mem_cons_of_mem _ (List.mem_cons_of_mem _ (List.mem_cons_of_mem _ (List.mem_cons_of_mem _ List.mem_cons_self)))))))) (hB _ (List.mem_cons_of_mem _ (List.mem_cons_of_mem _ (List.mem_cons_of_mem _ (List.mem_cons_of_mem _ (List.mem_cons_of_mem _ (List.mem_cons_of_mem _ (List.mem_cons_of_mem _ (List.mem_cons_of_mem _ List.mem_cons_self))))))))) (hB _ (List.mem_cons_of_mem _ (List.mem_cons_of_mem _ (List.mem_cons_of_mem _ (List.mem_cons_of_mem _ (List.mem_cons_of_mem _ (List.mem_cons_of_mem _ (List.mem_cons_of_mem _ (List.mem_cons_of_mem _ (List.mem_cons_of_mem _ List.mem_cons_self)))))))))) (cvp 97 (x' := (8 * (ρ 0) + 5)) (y' := (340282366920938463463374607431768211456 * (ρ 2) + 79228162514264337593543950336 * (ρ 3) + 18446744073709551616 * (ρ 4) + 4294967296 * (ρ 5) + (ρ 6))) (by show 5 + (8 * ρ 0 + 0) = _; omega) (by show 0 + (340282366920938463463374607431768211456 * ρ 2 + (79228162514264337593543950336 * ρ 3 + (18446744073709551616 * ρ 4 + (4294967296 * ρ 5 + (1 * ρ 6 + 0))))) = _; omega) (hm _ List.mem_cons_self)) (cvp 41 (x' := ((ρ 0) + (ρ 1))) (y' := (0 : Int)) (by show 0 + (1 * ρ 0 + (1 * ρ 1 + 0)) = _; omega) (by show 0 + 0 = _; omega) (hm _ (List.mem_cons_of_mem _ List.mem_cons_self))) (cvp 104 (x' := (4294967296 * (ρ 5) + (-8) * (ρ 7) + 24)) (y' := ((ρ 8))) (by show 24 + (4294967296 * ρ 5 + ((-8) * ρ 7 + 0)) = _; omega) (by show 0 + (1 * ρ 8 + 0) = _; omega) (hm _ (List.mem_cons_of_mem _ (List.mem_cons_of_mem _ List.mem_cons_self)))) (cvp 120 (x' := ((ρ 8))) (y' := ((ρ 9))) (by show 0 + (1 * ρ 8 + 0) = _; omega) (by show 0 + (1 * ρ 9 + 0) = _; omega) (hm _ (List.mem_cons_of_mem _ (List.mem_cons_of_mem _ (List.mem_cons_of_mem _ List.mem_cons_self))))) (by have h := hF _ List.mem_cons_self; have h : 0 ≤ (-12) + (1 * ρ 1 + ((-1) * ρ 7 + 0)) := h; omega) (by have h := hF _ (List.mem_cons_of_mem _ List.mem_cons_self); have h : 0 ≤ 12 + ((-1) * ρ 1 + (1 * ρ 7 + 0)) := h; omega) hG
  obtain ⟨k0, k1, -⟩ := H
  exact ⟨_, List.mem_cons_self, ρ, fun _ _ => rfl, (okM_c (pvp 41 (by show 1 + (1 * ρ 0 + (1 * ρ 1 + 0)) = _; omega) (by show 0 + 0 = _; omega) k0) (okM_c (pvp 97 (by show 5 + (8 * ρ 0 + 0) = _; omega) (by show 0 + (340282366920938463463374607431768211456 * ρ 2 + (79228162514264337593543950336 * ρ 3 + (18446744073709551616 * ρ 4 + (4294967296 * ρ 5 + (1 * ρ 6 + 0))))) = _; omega) k1) okM_n)), okB_n, okF_n⟩
-- txw4
theorem cr_740 (M : pM) (s0 s1 s2 s3 s4 s5 s6 s7 s8 s9 : Int) (b0 : 0 ≤ s0 ∧ s0 ≤ 1900) (b1 : 16 ≤ s1 ∧ s1 ≤ 19) (b2 : (-2147483648) ≤ s2 ∧ s2 ≤ 2147483647) (b3 : (-2147483648) ≤ s3 ∧ s3 ≤ 2147483647) (b4 : (-2147483648) ≤ s4 ∧ s4 ≤ 2147483647) (b5 : (-2147483648) ≤ s5 ∧ s5 ≤ 2147483647) (b6 : (-2147483648) ≤ s6 ∧ s6 ≤ 2147483647) (b7 : 0 ≤ s7 ∧ s7 ≤ 3) (b8 : (-2147483648) ≤ s8 ∧ s8 ≤ 2147483647) (b9 : (-128) ≤ s9 ∧ s9 ≤ 127) (m0 : HP 97 (8 * s0 + 5) (340282366920938463463374607431768211456 * s2 + 79228162514264337593543950336 * s3 + 18446744073709551616 * s4 + 4294967296 * s5 + s6) M) (m1 : HP 41 (s0 + s1) (0 : Int) M) (m2 : HP 104 (4294967296 * s6 + (-8) * s7 + 24) (s8) M) (m3 : HP 120 (s8) (s9) M) (f0 : 0 ≤ (s1 + (-1) * s7 - 16)) (f1 : 0 ≤ ((-1) * s1 + s7 + 16)) (hG : gI M) : (HP 41 (s0 + s1 + 1) (0 : Int) (st M 62 (s0 + s1).toNat (s9)) ∧ HP 97 (8 * s0 + 5) (340282366920938463463374607431768211456 * s2 + 79228162514264337593543950336 * s3 + 18446744073709551616 * s4 + 4294967296 * s5 + s6) (st M 62 (s0 + s1).toNat (s9)) ∧ True) := by
  obtain ⟨x, k, k1, k2, k3, k4⟩ := Eq.mp hp_97 m0
  obtain ⟨t1, t2, t3⟩ := Eq.mp hp_41 m1
  have ex : x = s0.toNat := by omega
  have ek : k = 5 := by omega
  subst ek
  have hb := qfd_5 (v0 := s2) (v1 := s3) (v2 := s4) (v3 := s5) (v4 := s6) k4 (by omega) (by unfold r32; omega) (by unfold r32; omega) (by unfold r32; omega) (by unfold r32; omega) (by unfold r32; omega)
  have b1 := n_shr (a := s6) (b := 24 - 8 * ((s7.toNat : Nat) : Int)) m2 (by omega) (by unfold r32; omega)
  have b2 := n_i2b m3
  have hz : s9 = w8 (M 1 (s0 + s1).toNat) := by rw [show (s0 + s1).toNat = x + 4 * 4 + s7.toNat by omega, hb.2.2.2.2 s7.toNat (by omega), b2, b1]; exact by_w8 s7.toNat (by omega)
  have hn : ∀ c j : Nat, c ≠ 62 → st M 62 (s0 + s1).toNat (s9) c j = M c j := fun c j hj => if_neg (fun h => hj h.1)
  refine ⟨Eq.mpr hp_41 ⟨by omega, by omega, fun i hi => ?_⟩, Eq.mpr hp_97 ⟨x, 5, k1, k2, k3, qfd_n (fun i hi => hn 1 i (by decide)) k4⟩, trivial⟩
  rw [hn 1 _ (by decide), cw0]
  by_cases e : i = (s0 + s1).toNat
  · rw [if_pos e, e]; exact hz
  · rw [if_neg e]; exact t3 i (by omega)
theorem rul_740 : Rul r_740 := by
  refine ⟨fun h => (by cases h), fun gi gv hg ρ M hm hB hF hG => ?_⟩
  obtain ⟨g1, g2⟩ := List.cons.inj (show ([aI ((0 : Int), ([(0, 1), (1, 1)] : List (Nat × Int))), aI ((0 : Int), ([(9, 1)] : List (Nat × Int)))] : List av) = [.inl gi, .inl gv] from hg)
  obtain ⟨g2, -⟩ := List.cons.inj g2
  cases g1
  cases g2
  have ei : ev ρ ((0 : Int), ([(0, 1), (1, 1)] : List (Nat × Int))) = ((ρ 0) + (ρ 1)) := by show 0 + (1 * ρ 0 + (1 * ρ 1 + 0)) = _; omega
  have ew : ev ρ ((0 : Int), ([(9, 1)] : List (Nat × Int))) = ((ρ 9)) := by show 0 + (1 * ρ 9 + 0) = _; omega
  rw [show (st M (ctj r_740) (ev ρ ((0 : Int), ([(0, 1), (1, 1)] : List (Nat × Int)))).toNat (ev ρ ((0 : Int), ([(9, 1)] : List (Nat × Int))))) = (st M 62 ((ρ 0) + (ρ 1)).toNat ((ρ 9))) from by rw [ei, ew]; rfl]
  have H := cr_740 M (ρ 0) (ρ 1) (ρ 2) (ρ 3) (ρ 4) (ρ 5) (ρ 6) (ρ 7) (ρ 8) (ρ 9) (hB _ List.mem_cons_self) (hB _ (List.mem_cons_of_mem _ List.mem_cons_self)) (hB _ (List.mem_cons_of_mem _ (List.mem_cons_of_mem _ List.mem_cons_self))) (hB _ (List.mem_cons_of_mem _ (List.mem_cons_of_mem _ (List.mem_cons_of_mem _ List.mem_cons_self)))) (hB _ (List.mem_cons_of_mem _ (List.mem_cons_of_mem _ (List.mem_cons_of_mem _ (List.mem_cons_of_mem _ List.mem_cons_self))))) (hB _ (List.mem_cons_of_mem _ (List.mem_cons_of_mem _ (List.mem_cons_of_mem _ (List.mem_cons_of_mem _ (List.mem_cons_of_mem _ List.mem_cons_self)))))) (hB _ (List.mem_cons_of_mem _ (List.mem_cons_of_mem _ (List.mem_cons_of_mem _ (List.mem_cons_of_mem _ (List.mem_cons_of_mem _ (List.mem_cons_of_mem _ List.mem_cons_self))))))) (hB _ (List.mem_cons_of_mem _ (List.mem_cons_of_mem _ (List.mem_cons_of_mem _ (List.mem_cons_of_mem _ (List.mem_cons_of_mem _ (List.mem_cons_of_mem _ (List.mem_cons_of_mem _ List.mem_cons_self)))))))) (hB _ (List.mem_cons_of_mem _ (List.mem_cons_of_mem _ (List.mem_cons_of_mem _ (List.mem_cons_of_mem _ (List.mem_cons_of_mem _ (List.mem_cons_of_mem _ (List.mem_cons_of_mem _ (List.mem_cons_of_mem _ List.mem_cons_self))))))))) (hB _ (List.mem_cons_of_mem _ (List.mem_cons_of_mem _ (List.mem_cons_of_mem _ (List.mem_cons_of_mem _ (List.mem_cons_of_mem _ (List.mem_cons_of_mem _ (List.mem_cons_of_mem _ (List.mem_cons_of_mem _ (List.mem_cons_of_mem _ List.mem_cons_self)))))))))) (cvp 97 (x' := (8 * (ρ 0) + 5)) (y' := (340282366920938463463374607431768211456 * (ρ 2) + 79228162514264337593543950336 * (ρ 3) + 18446744073709551616 * (ρ 4) + 4294967296 * (ρ 5) + (ρ 6))) (by show 5 + (8 * ρ 0 + 0) = _; omega) (by show 0 + (340282366920938463463374607431768211456 * ρ 2 + (79228162514264337593543950336 * ρ 3 + (18446744073709551616 * ρ 4 + (4294967296 * ρ 5 + (1 * ρ 6 + 0))))) = _; omega) (hm _ List.mem_cons_self)) (cvp 41 (x' := ((ρ 0) + (ρ 1))) (y' := (0 : Int)) (by show 0 + (1 * ρ 0 + (1 * ρ 1 + 0)) = _; omega) (by show 0 + 0 = _; omega) (hm _ (List.mem_cons_of_mem _ List.mem_cons_self))) (cvp 104 (x' := (4294967296 * (ρ 6) + (-8) * (ρ 7) + 24)) (y' := ((ρ 8))) (by show 24 + (4294967296 * ρ 6 + ((-8) * ρ 7 + 0)) = _; omega) (by show 0 + (1 * ρ 8 + 0) = _; omega) (hm _ (List.mem_cons_of_mem _ (List.mem_cons_of_mem _ List.mem_cons_self)))) (cvp 120 (x' := ((ρ 8))) (y' := ((ρ 9))) (by show 0 + (1 * ρ 8 + 0) = _; omega) (by show 0 + (1 * ρ 9 + 0) = _; omega) (hm _ (List.mem_cons_of_mem _ (List.mem_cons_of_mem _ (List.mem_cons_of_mem _ List.mem_cons_self))))) (by have h := hF _ List.mem_cons_self; have h : 0 ≤ (-16) + (1 * ρ 1 + ((-1) * ρ 7 + 0)) := h; omega) (by have h := hF _ (List.mem_cons_of_mem _ List.mem_cons_self); have h : 0 ≤ 16 + ((-1) * ρ 1 + (1 * ρ 7 + 0)) := h; omega) hG
  obtain ⟨k0, k1, -⟩ := H
  exact ⟨_, List.mem_cons_self, ρ, fun _ _ => rfl, (okM_c (pvp 41 (by show 1 + (1 * ρ 0 + (1 * ρ 1 + 0)) = _; omega) (by show 0 + 0 = _; omega) k0) (okM_c (pvp 97 (by show 5 + (8 * ρ 0 + 0) = _; omega) (by show 0 + (340282366920938463463374607431768211456 * ρ 2 + (79228162514264337593543950336 * ρ 3 + (18446744073709551616 * ρ 4 + (4294967296 * ρ 5 + (1 * ρ 6 + 0))))) = _; omega) k1) okM_n)), okB_n, okF_n⟩
-- txd
theorem cr_741 (M : pM) (s0 s1 : Int) (b0 : 0 ≤ s0 ∧ s0 ≤ 1900) (b1 : 0 ≤ s1 ∧ s1 ≤ 1900) (m0 : HP 41 (s0) (0 : Int) M) (f0 : 0 ≤ (s0 + (-1) * s1)) (hG : gI M) : (HP 41 (s1) (0 : Int) M ∧ True) := by
  obtain ⟨t1, t2, t3⟩ := Eq.mp hp_41 m0
  exact ⟨Eq.mpr hp_41 ⟨by omega, by omega, fun i hi => t3 i (by omega)⟩, trivial⟩
theorem rul_741 : Rul r_741 := by
  refine ⟨fun _ ρ M hm hB hF hG => ?_, fun gi gv hg => (by cases hg)⟩
  have H := cr_741 M (ρ 0) (ρ 1) (hB _ List.mem_cons_self) (hB _ (List.mem_cons_of_mem _ List.mem_cons_self)) (cvp 41 (x' := ((ρ 0))) (y' := (0 : Int)) (by show 0 + (1 * ρ 0 + 0) = _; omega) (by show 0 + 0 = _; omega) (hm _ List.mem_cons_self)) (by have h := hF _ List.mem_cons_self; have h : 0 ≤ 0 + (1 * ρ 0 + ((-1) * ρ 1 + 0)) := h; omega) hG
  obtain ⟨k0, -⟩ := H
  exact ⟨_, List.mem_cons_self, ρ, fun _ _ => rfl, (okM_c (pvp 41 (by show 0 + (1 * ρ 1 + 0) = _; omega) (by show 0 + 0 = _; omega) k0) okM_n), okB_n, okF_n⟩
-- tx0
theorem cr_742 (M : pM)  (hG : gI M) : (HP 41 (0 : Int) (0 : Int) M ∧ True) := by
  exact ⟨Eq.mpr hp_41 ⟨by decide, by decide, fun i hi => by omega⟩, trivial⟩
theorem rul_742 : Rul r_742 := by
  refine ⟨fun _ ρ M hm hB hF hG => ?_, fun gi gv hg => (by cases hg)⟩
  have H := cr_742 M hG
  obtain ⟨k0, -⟩ := H
  exact ⟨_, List.mem_cons_self, ρ, fun _ _ => rfl, (okM_c (pvp 41 (by show 0 + 0 = _; omega) (by show 0 + 0 = _; omega) k0) okM_n), okB_n, okF_n⟩
-- flq
theorem cr_743 (M : pM) (s0 s1 s2 s3 : Int) (b0 : (-2147483648) ≤ s0 ∧ s0 ≤ 2147483647) (b1 : 1 ≤ s1 ∧ s1 ≤ 5) (b2 : (-2147483648) ≤ s2 ∧ s2 ≤ 2147483647) (b3 : 1 ≤ s3 ∧ s3 ≤ 5) (m0 : HP 66 (s0) (s1) M) (m1 : HP 66 (s2) (s3) M) (hG : gI M) : (0 ≤ ((-1) * s0 + s2) ∧ 0 ≤ (s0 + (-1) * s2) ∧ 0 ≤ ((-1) * s1 + s3) ∧ 0 ≤ (s1 + (-1) * s3) ∧ True) := by
  obtain ⟨l, s, h1, h2⟩ := Eq.mp hp_66 m0
  obtain ⟨l', t, k1, k2⟩ := Eq.mp hp_66 m1
  obtain ⟨e1, e2⟩ := stuck_u h1 (fa_nx h2) k1 (fa_nx k2)
  subst e2
  rw [h2] at k2
  have k3 := Option.some.inj k2
  have e3 := congrArg Prod.fst k3
  have e4 := congrArg Prod.snd k3
  have e3 : s0 = s2 := e3
  have e4 : s1 = s3 := e4
  exact ⟨by omega, by omega, by omega, by omega, trivial⟩
theorem rul_743 : Rul r_743 := by
  refine ⟨fun _ ρ M hm hB hF hG => ?_, fun gi gv hg => (by cases hg)⟩
  have H := cr_743 M (ρ 0) (ρ 1) (ρ 2) (ρ 3) (hB _ List.mem_cons_self) (hB _ (List.mem_cons_of_mem _ List.mem_cons_self)) (hB _ (List.mem_cons_of_mem _ (List.mem_cons_of_mem _ List.mem_cons_self))) (hB _ (List.mem_cons_of_mem _ (List.mem_cons_of_mem _ (List.mem_cons_of_mem _ List.mem_cons_self)))) (cvp 66 (x' := ((ρ 0))) (y' := ((ρ 1))) (by show 0 + (1 * ρ 0 + 0) = _; omega) (by show 0 + (1 * ρ 1 + 0) = _; omega) (hm _ List.mem_cons_self)) (cvp 66 (x' := ((ρ 2))) (y' := ((ρ 3))) (by show 0 + (1 * ρ 2 + 0) = _; omega) (by show 0 + (1 * ρ 3 + 0) = _; omega) (hm _ (List.mem_cons_of_mem _ List.mem_cons_self))) hG
  obtain ⟨f0, f1, f2, f3, -⟩ := H
  exact ⟨_, List.mem_cons_self, ρ, fun _ _ => rfl, okM_n, okB_n, (okF_c (by show 0 ≤ 0 + ((-1) * ρ 0 + (1 * ρ 2 + 0)); omega) (okF_c (by show 0 ≤ 0 + (1 * ρ 0 + ((-1) * ρ 2 + 0)); omega) (okF_c (by show 0 ≤ 0 + ((-1) * ρ 1 + (1 * ρ 3 + 0)); omega) (okF_c (by show 0 ≤ 0 + (1 * ρ 1 + ((-1) * ρ 3 + 0)); omega) okF_n))))⟩
-- c01
theorem cr_744 (M : pM) (s0 : Int) (b0 : 0 ≤ s0 ∧ s0 ≤ 1) (hG : gI M) : (0 ≤ ((-1) * s0) ∧ 0 ≤ (s0) ∧ True) ∨ (0 ≤ ((-1) * s0 + 1) ∧ 0 ≤ (s0 - 1) ∧ True) := by
  by_cases h : s0 = 0
  · exact Or.inl ⟨by omega, by omega, trivial⟩
  · exact Or.inr ⟨by omega, by omega, trivial⟩
theorem rul_744 : Rul r_744 := by
  refine ⟨fun _ ρ M hm hB hF hG => ?_, fun gi gv hg => (by cases hg)⟩
  have H := cr_744 M (ρ 0) (hB _ List.mem_cons_self) hG
  rcases H with H | H
  · skip
    obtain ⟨f0, f1, -⟩ := H
    exact ⟨_, List.mem_cons_self, ρ, fun _ _ => rfl, okM_n, okB_n, (okF_c (by show 0 ≤ 0 + ((-1) * ρ 0 + 0); omega) (okF_c (by show 0 ≤ 0 + (1 * ρ 0 + 0); omega) okF_n))⟩
  · skip
    obtain ⟨f0, f1, -⟩ := H
    exact ⟨_, (List.mem_cons_of_mem _ List.mem_cons_self), ρ, fun _ _ => rfl, okM_n, okB_n, (okF_c (by show 0 ≤ 1 + ((-1) * ρ 0 + 0); omega) (okF_c (by show 0 ≤ (-1) + (1 * ρ 0 + 0); omega) okF_n))⟩
