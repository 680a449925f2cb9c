-- fjx_72_1
theorem cr_700 (M : pM) (s0 s1 : Int) (b0 : 0 ≤ s0 ∧ s0 ≤ 6) (b1 : 0 ≤ s1 ∧ s1 ≤ 6) (m0 : HP 173 (s0) (0 : Int) M) (f0 : 0 ≤ ((-1) * s0 + s1)) (f1 : 0 ≤ (s0 + (-1) * s1)) (hG : gI M) : (HP 173 (s1) (0 : Int) M ∧ True) := by
  have e : s0 = s1 := by omega
  subst e
  exact ⟨m0, trivial⟩
theorem rul_700 : Rul r_700 := by
  refine ⟨fun _ ρ M hm hB hF hG => ?_, fun gi gv hg => (by cases hg)⟩
  have H := cr_700 M (ρ 0) (ρ 1) (hB _ List.mem_cons_self) (hB _ (List.mem_cons_of_mem _ List.mem_cons_self)) (cvp 173 (x' := ((ρ 0))) (y' := (0 : Int)) (by show 0 + (1 * ρ 0 + 0) = _; omega) (by show 0 + 0 = _; omega) (hm _ List.mem_cons_self)) (by have h := hF _ List.mem_cons_self; have h : 0 ≤ 0 + ((-1) * ρ 0 + (1 * ρ 1 + 0)) := h; omega) (by have h := hF _ (List.mem_cons_of_mem _ List.mem_cons_self); have h : 0 ≤ 0 + (1 * ρ 0 + ((-1) * ρ 1 + 0)) := h; omega) hG
  obtain ⟨k0, -⟩ := H
  exact ⟨_, List.mem_cons_self, ρ, fun _ _ => rfl, (okM_c (pvp 173 (by show 0 + (1 * ρ 1 + 0) = _; omega) (by show 0 + 0 = _; omega) k0) okM_n), okB_n, okF_n⟩
-- fj0_73_1
theorem cr_701 (M : pM)  (hG : gI M) : (HP 174 (0 : Int) (-1 : Int) M ∧ True) := by
  exact ⟨Eq.mpr hp_174 ⟨by decide, fun i hi => by omega⟩, trivial⟩
theorem rul_701 : Rul r_701 := by
  refine ⟨fun _ ρ M hm hB hF hG => ?_, fun gi gv hg => (by cases hg)⟩
  have H := cr_701 M hG
  obtain ⟨k0, -⟩ := H
  exact ⟨_, List.mem_cons_self, ρ, fun _ _ => rfl, (okM_c (pvp 174 (by show 0 + 0 = _; omega) (by show (-1) + 0 = _; omega) k0) okM_n), okB_n, okF_n⟩
-- fjw_73_1
theorem cr_702 (M : pM) (s0 : Int) (b0 : 0 ≤ s0 ∧ s0 ≤ 5) (m0 : HP 174 (s0) (-1 : Int) M) (hG : gI M) : (HP 174 (s0 + 1) (-1 : Int) (st M 73 (s0 + 6).toNat (-1 : Int)) ∧ True) := by
  refine ⟨Eq.mpr hp_174 ⟨by omega, fun i hi => ?_⟩, trivial⟩
  rw [show (s0 + 6).toNat = 6 + s0.toNat by omega, cw]
  by_cases e : i = s0.toNat
  · rw [if_pos e]
  · rw [if_neg e]; exact (Eq.mp hp_174 m0).2 i (by omega)
theorem rul_702 : Rul r_702 := by
  refine ⟨fun h => (by cases h), fun gi gv hg ρ M hm hB hF hG => ?_⟩
  obtain ⟨g1, g2⟩ := List.cons.inj (show ([aI ((6 : Int), ([(0, 1)] : List (Nat × Int))), aI (((-1) : Int), ([] : List (Nat × Int)))] : List av) = [.inl gi, .inl gv] from hg)
  obtain ⟨g2, -⟩ := List.cons.inj g2
  cases g1
  cases g2
  have ei : ev ρ ((6 : Int), ([(0, 1)] : List (Nat × Int))) = ((ρ 0) + 6) := by show 6 + (1 * ρ 0 + 0) = _; omega
  have ew : ev ρ (((-1) : Int), ([] : List (Nat × Int))) = (-1 : Int) := by show (-1) + 0 = _; omega
  rw [show (st M (ctj r_702) (ev ρ ((6 : Int), ([(0, 1)] : List (Nat × Int)))).toNat (ev ρ (((-1) : Int), ([] : List (Nat × Int))))) = (st M 73 ((ρ 0) + 6).toNat (-1 : Int)) from by rw [ei, ew]; rfl]
  have H := cr_702 M (ρ 0) (hB _ List.mem_cons_self) (cvp 174 (x' := ((ρ 0))) (y' := (-1 : Int)) (by show 0 + (1 * ρ 0 + 0) = _; omega) (by show (-1) + 0 = _; omega) (hm _ List.mem_cons_self)) hG
  obtain ⟨k0, -⟩ := H
  exact ⟨_, List.mem_cons_self, ρ, fun _ _ => rfl, (okM_c (pvp 174 (by show 1 + (1 * ρ 0 + 0) = _; omega) (by show (-1) + 0 = _; omega) k0) okM_n), okB_n, okF_n⟩
-- fjx_73_1
theorem cr_703 (M : pM) (s0 s1 : Int) (b0 : 0 ≤ s0 ∧ s0 ≤ 6) (b1 : 0 ≤ s1 ∧ s1 ≤ 6) (m0 : HP 174 (s0) (-1 : Int) M) (f0 : 0 ≤ ((-1) * s0 + s1)) (f1 : 0 ≤ (s0 + (-1) * s1)) (hG : gI M) : (HP 174 (s1) (-1 : Int) M ∧ True) := by
  have e : s0 = s1 := by omega
  subst e
  exact ⟨m0, trivial⟩
theorem rul_703 : Rul r_703 := by
  refine ⟨fun _ ρ M hm hB hF hG => ?_, fun gi gv hg => (by cases hg)⟩
  have H := cr_703 M (ρ 0) (ρ 1) (hB _ List.mem_cons_self) (hB _ (List.mem_cons_of_mem _ List.mem_cons_self)) (cvp 174 (x' := ((ρ 0))) (y' := (-1 : Int)) (by show 0 + (1 * ρ 0 + 0) = _; omega) (by show (-1) + 0 = _; omega) (hm _ List.mem_cons_self)) (by have h := hF _ List.mem_cons_self; have h : 0 ≤ 0 + ((-1) * ρ 0 + (1 * ρ 1 + 0)) := h; omega) (by have h := hF _ (List.mem_cons_of_mem _ List.mem_cons_self); have h : 0 ≤ 0 + (1 * ρ 0 + ((-1) * ρ 1 + 0)) := h; omega) hG
  obtain ⟨k0, -⟩ := H
  exact ⟨_, List.mem_cons_self, ρ, fun _ _ => rfl, (okM_c (pvp 174 (by show 0 + (1 * ρ 1 + 0) = _; omega) (by show (-1) + 0 = _; omega) k0) okM_n), okB_n, okF_n⟩
-- fj0_86_1
theorem cr_704 (M : pM)  (hG : gI M) : (HP 175 (0 : Int) (0 : Int) M ∧ True) := by
  exact ⟨Eq.mpr hp_175 ⟨by decide, fun i hi => by omega⟩, trivial⟩
theorem rul_704 : Rul r_704 := by
  refine ⟨fun _ ρ M hm hB hF hG => ?_, fun gi gv hg => (by cases hg)⟩
  have H := cr_704 M hG
  obtain ⟨k0, -⟩ := H
  exact ⟨_, List.mem_cons_self, ρ, fun _ _ => rfl, (okM_c (pvp 175 (by show 0 + 0 = _; omega) (by show 0 + 0 = _; omega) k0) okM_n), okB_n, okF_n⟩
-- fjw_86_1
theorem cr_705 (M : pM) (s0 : Int) (b0 : 0 ≤ s0 ∧ s0 ≤ 63) (m0 : HP 175 (s0) (0 : Int) M) (hG : gI M) : (HP 175 (s0 + 1) (0 : Int) (st M 86 (s0 + 64).toNat (0 : Int)) ∧ True) := by
  refine ⟨Eq.mpr hp_175 ⟨by omega, fun i hi => ?_⟩, trivial⟩
  rw [show (s0 + 64).toNat = 64 + s0.toNat by omega, cw]
  by_cases e : i = s0.toNat
  · rw [if_pos e]
  · rw [if_neg e]; exact (Eq.mp hp_175 m0).2 i (by omega)
theorem rul_705 : Rul r_705 := by
  refine ⟨fun h => (by cases h), fun gi gv hg ρ M hm hB hF hG => ?_⟩
  obtain ⟨g1, g2⟩ := List.cons.inj (show ([aI ((64 : Int), ([(0, 1)] : List (Nat × Int))), aI ((0 : Int), ([] : List (Nat × Int)))] : List av) = [.inl gi, .inl gv] from hg)
  obtain ⟨g2, -⟩ := List.cons.inj g2
  cases g1
  cases g2
  have ei : ev ρ ((64 : Int), ([(0, 1)] : List (Nat × Int))) = ((ρ 0) + 64) := by show 64 + (1 * ρ 0 + 0) = _; omega
  have ew : ev ρ ((0 : Int), ([] : List (Nat × Int))) = (0 : Int) := by show 0 + 0 = _; omega
  rw [show (st M (ctj r_705) (ev ρ ((64 : Int), ([(0, 1)] : List (Nat × Int)))).toNat (ev ρ ((0 : Int), ([] : List (Nat × Int))))) = (st M 86 ((ρ 0) + 64).toNat (0 : Int)) from by rw [ei, ew]; rfl]
  have H := cr_705 M (ρ 0) (hB _ List.mem_cons_self) (cvp 175 (x' := ((ρ 0))) (y' := (0 : Int)) (by show 0 + (1 * ρ 0 + 0) = _; omega) (by show 0 + 0 = _; omega) (hm _ List.mem_cons_self)) hG
  obtain ⟨k0, -⟩ := H
  exact ⟨_, List.mem_cons_self, ρ, fun _ _ => rfl, (okM_c (pvp 175 (by show 1 + (1 * ρ 0 + 0) = _; omega) (by show 0 + 0 = _; omega) k0) okM_n), okB_n, okF_n⟩
-- fjx_86_1
theorem cr_706 (M : pM) (s0 s1 : Int) (b0 : 0 ≤ s0 ∧ s0 ≤ 64) (b1 : 0 ≤ s1 ∧ s1 ≤ 64) (m0 : HP 175 (s0) (0 : Int) M) (f0 : 0 ≤ ((-1) * s0 + s1)) (f1 : 0 ≤ (s0 + (-1) * s1)) (hG : gI M) : (HP 175 (s1) (0 : Int) M ∧ True) := by
  have e : s0 = s1 := by omega
  subst e
  exact ⟨m0, trivial⟩
theorem rul_706 : Rul r_706 := by
  refine ⟨fun _ ρ M hm hB hF hG => ?_, fun gi gv hg => (by cases hg)⟩
  have H := cr_706 M (ρ 0) (ρ 1) (hB _ List.mem_cons_self) (hB _ (List.mem_cons_of_mem _ List.mem_cons_self)) (cvp 175 (x' := ((ρ 0))) (y' := (0 : Int)) (by show 0 + (1 * ρ 0 + 0) = _; omega) (by show 0 + 0 = _; omega) (hm _ List.mem_cons_self)) (by have h := hF _ List.mem_cons_self; have h : 0 ≤ 0 + ((-1) * ρ 0 + (1 * ρ 1 + 0)) := h; omega) (by have h := hF _ (List.mem_cons_of_mem _ List.mem_cons_self); have h : 0 ≤ 0 + (1 * ρ 0 + ((-1) * ρ 1 + 0)) := h; omega) hG
  obtain ⟨k0, -⟩ := H
  exact ⟨_, List.mem_cons_self, ρ, fun _ _ => rfl, (okM_c (pvp 175 (by show 0 + (1 * ρ 1 + 0) = _; omega) (by show 0 + 0 = _; omega) k0) okM_n), okB_n, okF_n⟩
-- fj0_84_1
theorem cr_707 (M : pM)  (hG : gI M) : (HP 176 (0 : Int) (0 : Int) M ∧ True) := by
  exact ⟨Eq.mpr hp_176 ⟨by decide, fun i hi => by omega⟩, trivial⟩
theorem rul_707 : Rul r_707 := by
  refine ⟨fun _ ρ M hm hB hF hG => ?_, fun gi gv hg => (by cases hg)⟩
  have H := cr_707 M hG
  obtain ⟨k0, -⟩ := H
  exact ⟨_, List.mem_cons_self, ρ, fun _ _ => rfl, (okM_c (pvp 176 (by show 0 + 0 = _; omega) (by show 0 + 0 = _; omega) k0) okM_n), okB_n, okF_n⟩
-- fjw_84_1
theorem cr_708 (M : pM) (s0 : Int) (b0 : 0 ≤ s0 ∧ s0 ≤ 7) (m0 : HP 176 (s0) (0 : Int) M) (hG : gI M) : (HP 176 (s0 + 1) (0 : Int) (st M 84 (s0).toNat (0 : Int)) ∧ True) := by
  refine ⟨Eq.mpr hp_176 ⟨by omega, fun i hi => ?_⟩, trivial⟩
  rw [show (s0).toNat = 0 + s0.toNat by omega, cw]
  by_cases e : i = s0.toNat
  · rw [if_pos e]
  · rw [if_neg e]; exact (Eq.mp hp_176 m0).2 i (by omega)
theorem rul_708 : Rul r_708 := by
  refine ⟨fun h => (by cases h), fun gi gv hg ρ M hm hB hF hG => ?_⟩
  obtain ⟨g1, g2⟩ := List.cons.inj (show ([aI ((0 : Int), ([(0, 1)] : List (Nat × Int))), aI ((0 : Int), ([] : List (Nat × Int)))] : List av) = [.inl gi, .inl gv] from hg)
  obtain ⟨g2, -⟩ := List.cons.inj g2
  cases g1
  cases g2
  have ei : ev ρ ((0 : Int), ([(0, 1)] : List (Nat × Int))) = ((ρ 0)) := by show 0 + (1 * ρ 0 + 0) = _; omega
  have ew : ev ρ ((0 : Int), ([] : List (Nat × Int))) = (0 : Int) := by show 0 + 0 = _; omega
  rw [show (st M (ctj r_708) (ev ρ ((0 : Int), ([(0, 1)] : List (Nat × Int)))).toNat (ev ρ ((0 : Int), ([] : List (Nat × Int))))) = (st M 84 ((ρ 0)).toNat (0 : Int)) from by rw [ei, ew]; rfl]
  have H := cr_708 M (ρ 0) (hB _ List.mem_cons_self) (cvp 176 (x' := ((ρ 0))) (y' := (0 : Int)) (by show 0 + (1 * ρ 0 + 0) = _; omega) (by show 0 + 0 = _; omega) (hm _ List.mem_cons_self)) hG
  obtain ⟨k0, -⟩ := H
  exact ⟨_, List.mem_cons_self, ρ, fun _ _ => rfl, (okM_c (pvp 176 (by show 1 + (1 * ρ 0 + 0) = _; omega) (by show 0 + 0 = _; omega) k0) okM_n), okB_n, okF_n⟩
-- fjx_84_1
theorem cr_709 (M : pM) (s0 s1 : Int) (b0 : 0 ≤ s0 ∧ s0 ≤ 8) (b1 : 0 ≤ s1 ∧ s1 ≤ 8) (m0 : HP 176 (s0) (0 : Int) M) (f0 : 0 ≤ ((-1) * s0 + s1)) (f1 : 0 ≤ (s0 + (-1) * s1)) (hG : gI M) : (HP 176 (s1) (0 : Int) M ∧ True) := by
  have e : s0 = s1 := by omega
  subst e
  exact ⟨m0, trivial⟩
theorem rul_709 : Rul r_709 := by
  refine ⟨fun _ ρ M hm hB hF hG => ?_, fun gi gv hg => (by cases hg)⟩
  have H := cr_709 M (ρ 0) (ρ 1) (hB _ List.mem_cons_self) (hB _ (List.mem_cons_of_mem _ List.mem_cons_self)) (cvp 176 (x' := ((ρ 0))) (y' := (0 : Int)) (by show 0 + (1 * ρ 0 + 0) = _; omega) (by show 0 + 0 = _; omega) (hm _ List.mem_cons_self)) (by have h := hF _ List.mem_cons_self; have h : 0 ≤ 0 + ((-1) * ρ 0 + (1 * ρ 1 + 0)) := h; omega) (by have h := hF _ (List.mem_cons_of_mem _ List.mem_cons_self); have h : 0 ≤ 0 + (1 * ρ 0 + ((-1) * ρ 1 + 0)) := h; omega) hG
  obtain ⟨k0, -⟩ := H
  exact ⟨_, List.mem_cons_self, ρ, fun _ _ => rfl, (okM_c (pvp 176 (by show 0 + (1 * ρ 1 + 0) = _; omega) (by show 0 + 0 = _; omega) k0) okM_n), okB_n, okF_n⟩
-- fj0_85_1
theorem cr_710 (M : pM)  (hG : gI M) : (HP 177 (0 : Int) (0 : Int) M ∧ True) := by
  exact ⟨Eq.mpr hp_177 ⟨by decide, fun i hi => by omega⟩, trivial⟩
theorem rul_710 : Rul r_710 := by
  refine ⟨fun _ ρ M hm hB hF hG => ?_, fun gi gv hg => (by cases hg)⟩
  have H := cr_710 M hG
  obtain ⟨k0, -⟩ := H
  exact ⟨_, List.mem_cons_self, ρ, fun _ _ => rfl, (okM_c (pvp 177 (by show 0 + 0 = _; omega) (by show 0 + 0 = _; omega) k0) okM_n), okB_n, okF_n⟩
-- fjw_85_1
theorem cr_711 (M : pM) (s0 : Int) (b0 : 0 ≤ s0 ∧ s0 ≤ 7) (m0 : HP 177 (s0) (0 : Int) M) (hG : gI M) : (HP 177 (s0 + 1) (0 : Int) (st M 85 (s0).toNat (0 : Int)) ∧ True) := by
  refine ⟨Eq.mpr hp_177 ⟨by omega, fun i hi => ?_⟩, trivial⟩
  rw [show (s0).toNat = 0 + s0.toNat by omega, cw]
  by_cases e : i = s0.toNat
  · rw [if_pos e]
  · rw [if_neg e]; exact (Eq.mp hp_177 m0).2 i (by omega)
theorem rul_711 : Rul r_711 := by
  refine ⟨fun h => (by cases h), fun gi gv hg ρ M hm hB hF hG => ?_⟩
  obtain ⟨g1, g2⟩ := List.cons.inj (show ([aI ((0 : Int), ([(0, 1)] : List (Nat × Int))), aI ((0 : Int), ([] : List (Nat × Int)))] : List av) = [.inl gi, .inl gv] from hg)
  obtain ⟨g2, -⟩ := List.cons.inj g2
  cases g1
  cases g2
  have ei : ev ρ ((0 : Int), ([(0, 1)] : List (Nat × Int))) = ((ρ 0)) := by show 0 + (1 * ρ 0 + 0) = _; omega
  have ew : ev ρ ((0 : Int), ([] : List (Nat × Int))) = (0 : Int) := by show 0 + 0 = _; omega
  rw [show (st M (ctj r_711) (ev ρ ((0 : Int), ([(0, 1)] : List (Nat × Int)))).toNat (ev ρ ((0 : Int), ([] : List (Nat × Int))))) = (st M 85 ((ρ 0)).toNat (0 : Int)) from by rw [ei, ew]; rfl]
  have H := cr_711 M (ρ 0) (hB _ List.mem_cons_self) (cvp 177 (x' := ((ρ 0))) (y' := (0 : Int)) (by show 0 + (1 * ρ 0 + 0) = _; omega) (by show 0 + 0 = _; omega) (hm _ List.mem_cons_self)) hG
  obtain ⟨k0, -⟩ := H
  exact ⟨_, List.mem_cons_self, ρ, fun _ _ => rfl, (okM_c (pvp 177 (by show 1 + (1 * ρ 0 + 0) = _; omega) (by show 0 + 0 = _; omega) k0) okM_n), okB_n, okF_n⟩
-- fjx_85_1
theorem cr_712 (M : pM) (s0 s1 : Int) (b0 : 0 ≤ s0 ∧ s0 ≤ 8) (b1 : 0 ≤ s1 ∧ s1 ≤ 8) (m0 : HP 177 (s0) (0 : Int) M) (f0 : 0 ≤ ((-1) * s0 + s1)) (f1 : 0 ≤ (s0 + (-1) * s1)) (hG : gI M) : (HP 177 (s1) (0 : Int) M ∧ True) := by
  have e : s0 = s1 := by omega
  subst e
  exact ⟨m0, trivial⟩
theorem rul_712 : Rul r_712 := by
  refine ⟨fun _ ρ M hm hB hF hG => ?_, fun gi gv hg => (by cases hg)⟩
  have H := cr_712 M (ρ 0) (ρ 1) (hB _ List.mem_cons_self) (hB _ (List.mem_cons_of_mem _ List.mem_cons_self)) (cvp 177 (x' := ((ρ 0))) (y' := (0 : Int)) (by show 0 + (1 * ρ 0 + 0) = _; omega) (by show 0 + 0 = _; omega) (hm _ List.mem_cons_self)) (by have h := hF _ List.mem_cons_self; have h : 0 ≤ 0 + ((-1) * ρ 0 + (1 * ρ 1 + 0)) := h; omega) (by have h := hF _ (List.mem_cons_of_mem _ List.mem_cons_self); have h : 0 ≤ 0 + (1 * ρ 0 + ((-1) * ρ 1 + 0)) := h; omega) hG
  obtain ⟨k0, -⟩ := H
  exact ⟨_, List.mem_cons_self, ρ, fun _ _ => rfl, (okM_c (pvp 177 (by show 0 + (1 * ρ 1 + 0) = _; omega) (by show 0 + 0 = _; omega) k0) okM_n), okB_n, okF_n⟩
-- ra0_1
theorem cr_713 (M : pM) (m0 : HP 170 (64 : Int) (0 : Int) M) (m1 : HP 171 (48 : Int) (0 : Int) M) (m2 : HP 172 (6 : Int) (-1 : Int) M) (m3 : HP 173 (6 : Int) (0 : Int) M) (m4 : HP 174 (6 : Int) (-1 : Int) M) (m5 : HP 175 (64 : Int) (0 : Int) M) (m6 : HP 176 (8 : Int) (0 : Int) M) (m7 : HP 177 (8 : Int) (0 : Int) M) (hG : gI M) : (HP 61 (0 : Int) (0 : Int) M ∧ True) := by
  have q0 : qat (tm M) 0 (0, qA0) := ⟨0, by decide, by decide, rfl⟩
  refine ⟨Eq.mpr hp_61 ⟨(0, qA0), q0, ⟨by decide, by decide, by decide, by decide⟩, ?_⟩, trivial⟩
  refine ⟨fun i hi => by have h := (Eq.mp hp_170 m0).2 i (by omega); exact h, fun i hi => by have h := (Eq.mp hp_171 m1).2 i (by omega); exact h, fun i hi => by have h := (Eq.mp hp_172 m2).2 i (by omega); exact h, fun i hi => by have h := (Eq.mp hp_173 m3).2 i (by omega); exact h, fun i hi => by have h := (Eq.mp hp_174 m4).2 i (by omega); exact h, fun i hi hw => ?_, fun i hi hw => ?_, fun i j hi hj hw => ?_, fun i hi hw => ?_, fun i hi hw => ?_, fun i hi => by have h := (Eq.mp hp_176 m6).2 i (by omega); rw [Nat.zero_add] at h; exact h, fun i hi => by have h := (Eq.mp hp_177 m7).2 i (by omega); rw [Nat.zero_add] at h; exact h, fun i hi => by have h := (Eq.mp hp_175 m5).2 i (by omega); exact h⟩
  all_goals (have hw : (i : Int) < 0 := hw; omega)
theorem rul_713 : Rul r_713 := by
  refine ⟨fun _ ρ M hm hB hF hG => ?_, fun gi gv hg => (by cases hg)⟩
  have H := cr_713 M (cvp 170 (x' := (64 : Int)) (y' := (0 : Int)) (by show 64 + 0 = _; omega) (by show 0 + 0 = _; omega) (hm _ List.mem_cons_self)) (cvp 171 (x' := (48 : Int)) (y' := (0 : Int)) (by show 48 + 0 = _; omega) (by show 0 + 0 = _; omega) (hm _ (List.mem_cons_of_mem _ List.mem_cons_self))) (cvp 172 (x' := (6 : Int)) (y' := (-1 : Int)) (by show 6 + 0 = _; omega) (by show (-1) + 0 = _; omega) (hm _ (List.mem_cons_of_mem _ (List.mem_cons_of_mem _ List.mem_cons_self)))) (cvp 173 (x' := (6 : Int)) (y' := (0 : Int)) (by show 6 + 0 = _; omega) (by show 0 + 0 = _; omega) (hm _ (List.mem_cons_of_mem _ (List.mem_cons_of_mem _ (List.mem_cons_of_mem _ List.mem_cons_self))))) (cvp 174 (x' := (6 : Int)) (y' := (-1 : Int)) (by show 6 + 0 = _; omega) (by show (-1) + 0 = _; omega) (hm _ (List.mem_cons_of_mem _ (List.mem_cons_of_mem _ (List.mem_cons_of_mem _ (List.mem_cons_of_mem _ List.mem_cons_self)))))) (cvp 175 (x' := (64 : Int)) (y' := (0 : Int)) (by show 64 + 0 = _; omega) (by show 0 + 0 = _; omega) (hm _ (List.mem_cons_of_mem _ (List.mem_cons_of_mem _ (List.mem_cons_of_mem _ (List.mem_cons_of_mem _ (List.mem_cons_of_mem _ List.mem_cons_self))))))) (cvp 176 (x' := (8 : Int)) (y' := (0 : Int)) (by show 8 + 0 = _; omega) (by show 0 + 0 = _; omega) (hm _ (List.mem_cons_of_mem _ (List.mem_cons_of_mem _ (List.mem_cons_of_mem _ (List.mem_cons_of_mem _ (List.mem_cons_of_mem _ (List.mem_cons_of_mem _ List.mem_cons_self)))))))) (cvp 177 (x' := (8 : Int)) (y' := (0 : Int)) (by show 8 + 0 = _; omega) (by show 0 + 0 = _; omega) (hm _ (List.mem_cons_of_mem _ (List.mem_cons_of_mem _ (List.mem_cons_of_mem _ (List.mem_cons_of_mem _ (List.mem_cons_of_mem _ (List.mem_cons_of_mem _ (List.mem_cons_of_mem _ List.mem_cons_self))))))))) hG
  obtain ⟨k0, -⟩ := H
  exact ⟨_, List.mem_cons_self, ρ, fun _ _ => rfl, (okM_c (pvp 61 (by show 0 + 0 = _; omega) (by show 0 + 0 = _; omega) k0) okM_n), okB_n, okF_n⟩
-- tc0
theorem cr_714 (M : pM)  (hG : gI M) : (HP 158 (0 : Int) (0 : Int) M ∧ True) := by
  exact ⟨Eq.mpr hp_158 ⟨by decide, by decide, fun i hi => by omega⟩, trivial⟩
theorem rul_714 : Rul r_714 := by
  refine ⟨fun _ ρ M hm hB hF hG => ?_, fun gi gv hg => (by cases hg)⟩
  have H := cr_714 M hG
  obtain ⟨k0, -⟩ := H
  exact ⟨_, List.mem_cons_self, ρ, fun _ _ => rfl, (okM_c (pvp 158 (by show 0 + 0 = _; omega) (by show 0 + 0 = _; omega) k0) okM_n), okB_n, okF_n⟩
-- tcw
theorem cr_715 (M : pM) (s0 s1 : Int) (b0 : 0 ≤ s0 ∧ s0 ≤ 1900) (b1 : (-128) ≤ s1 ∧ s1 ≤ 127) (m0 : HP 158 (s0) (0 : Int) M) (m1 : (0 ≤ (s0) ∧ M 62 (s0).toNat = (s1))) (hG : gI M) : (HP 158 (s0 + 1) (0 : Int) (st M 63 (s0).toNat (s1)) ∧ True) := by
  obtain ⟨h1, h2, h3⟩ := Eq.mp hp_158 m0
  refine ⟨Eq.mpr hp_158 ⟨by omega, by omega, fun i hi => ?_⟩, trivial⟩
  rw [cw0, show st M 63 (s0).toNat (s1) 62 i = M 62 i from if_neg (fun h => absurd h.1 (by decide))]
  by_cases e : i = s0.toNat
  · rw [if_pos e, e]; exact m1.2.symm
  · rw [if_neg e]; exact h3 i (by omega)
theorem rul_715 : Rul r_715 := by
  refine ⟨fun h => (by cases h), fun gi gv hg ρ M hm hB hF hG => ?_⟩
  obtain ⟨g1, g2⟩ := List.cons.inj (show ([aI ((0 : Int), ([(0, 1)] : List (Nat × Int))), aI ((0 : Int), ([(1, 1)] : List (Nat × Int)))] : List av) = [.inl gi, .inl gv] from hg)
  obtain ⟨g2, -⟩ := List.cons.inj g2
  cases g1
  cases g2
  have ei : ev ρ ((0 : Int), ([(0, 1)] : List (Nat × Int))) = ((ρ 0)) := by show 0 + (1 * ρ 0 + 0) = _; omega
  have ew : ev ρ ((0 : Int), ([(1, 1)] : List (Nat × Int))) = ((ρ 1)) := by show 0 + (1 * ρ 1 + 0) = _; omega
  rw [show (st M (ctj r_715) (ev ρ ((0 : Int), ([(0, 1)] : List (Nat × Int)))).toNat (ev ρ ((0 : Int), ([(1, 1)] : List (Nat × Int))))) = (st M 63 ((ρ 0)).toNat ((ρ 1))) from by rw [ei, ew]; rfl]
  have H := cr_715 M (ρ 0) (ρ 1) (hB _ List.mem_cons_self) (hB _ (List.mem_cons_of_mem _ List.mem_cons_self)) (cvp 158 (x' := ((ρ 0))) (y' := (0 : Int)) (by show 0 + (1 * ρ 0 + 0) = _; omega) (by show 0 + 0 = _; omega) (hm _ List.mem_cons_self)) (cvm (c := 62) (by decide) (x' := ((ρ 0))) (y' := ((ρ 1))) (by show 0 + (1 * ρ 0 + 0) = _; omega) (by show 0 + (1 * ρ 1 + 0) = _; omega) (hm _ (List.mem_cons_of_mem _ List.mem_cons_self))) hG
  obtain ⟨k0, -⟩ := H
  exact ⟨_, List.mem_cons_self, ρ, fun _ _ => rfl, (okM_c (pvp 158 (by show 1 + (1 * ρ 0 + 0) = _; omega) (by show 0 + 0 = _; omega) k0) okM_n), okB_n, okF_n⟩
-- trm
theorem cr_716 (M : pM) (s0 s1 : Int) (b0 : 0 ≤ s0 ∧ s0 ≤ 1900) (b1 : 0 ≤ s1 ∧ s1 ≤ 1900) (m0 : HP 158 (s0) (0 : Int) M) (m1 : HP 41 (s1) (0 : Int) M) (m2 : (0 ≤ (3 : Int) ∧ M 61 (3 : Int).toNat = (s1))) (m3 : (0 ≤ (1 : Int) ∧ M 2 (1 : Int).toNat = (s1))) (f0 : 0 ≤ (s0 + (-1) * s1)) (hG : gI M) : (HP 42 (0 : Int) (0 : Int) M ∧ True) := by
  obtain ⟨h1, h2, h3⟩ := Eq.mp hp_158 m0
  obtain ⟨g1, g2, g3⟩ := Eq.mp hp_41 m1
  have e3 : M 61 3 = s1 := m2.2
  have e1 : M 2 1 = s1 := m3.2
  refine ⟨Eq.mpr hp_42 ⟨by omega, by omega, by omega, fun i hi => ?_⟩, trivial⟩
  unfold tN at hi
  rw [h3 i (by omega)]
  exact g3 i (by omega)
theorem rul_716 : Rul r_716 := by
  refine ⟨fun _ ρ M hm hB hF hG => ?_, fun gi gv hg => (by cases hg)⟩
  have H := cr_716 M (ρ 0) (ρ 1) (hB _ List.mem_cons_self) (hB _ (List.mem_cons_of_mem _ List.mem_cons_self)) (cvp 158 (x' := ((ρ 0))) (y' := (0 : Int)) (by show 0 + (1 * ρ 0 + 0) = _; omega) (by show 0 + 0 = _; omega) (hm _ List.mem_cons_self)) (cvp 41 (x' := ((ρ 1))) (y' := (0 : Int)) (by show 0 + (1 * ρ 1 + 0) = _; omega) (by show 0 + 0 = _; omega) (hm _ (List.mem_cons_of_mem _ List.mem_cons_self))) (cvm (c := 61) (by decide) (x' := (3 : Int)) (y' := ((ρ 1))) (by show 3 + 0 = _; omega) (by show 0 + (1 * ρ 1 + 0) = _; omega) (hm _ (List.mem_cons_of_mem _ (List.mem_cons_of_mem _ List.mem_cons_self)))) (cvm (c := 2) (by decide) (x' := (1 : Int)) (y' := ((ρ 1))) (by show 1 + 0 = _; omega) (by show 0 + (1 * ρ 1 + 0) = _; omega) (hm _ (List.mem_cons_of_mem _ (List.mem_cons_of_mem _ (List.mem_cons_of_mem _ List.mem_cons_self))))) (by have h := hF _ List.mem_cons_self; have h : 0 ≤ 0 + (1 * ρ 0 + ((-1) * ρ 1 + 0)) := h; omega) hG
  obtain ⟨k0, -⟩ := H
  exact ⟨_, List.mem_cons_self, ρ, fun _ _ => rfl, (okM_c (pvp 42 (by show 0 + 0 = _; omega) (by show 0 + 0 = _; omega) k0) okM_n), okB_n, okF_n⟩
-- same_ok0
theorem cr_717 (M : pM) (s0 s1 s2 s3 : Int) (b0 : 0 ≤ s0 ∧ s0 ≤ 950) (b1 : 0 ≤ s1 ∧ s1 ≤ 950) (b2 : 0 ≤ s2 ∧ s2 ≤ 5000) (b3 : 0 ≤ s3 ∧ s3 ≤ 5000) (m0 : HP 58 (s0) (s2) M) (m1 : HP 64 (s1) (s3) M) (hG : gI M) : (0 ≤ ((-1) * s0 + s1) ∧ 0 ≤ (s0 + (-1) * s1) ∧ 0 ≤ ((-1) * s2 + s3) ∧ 0 ≤ (s2 + (-1) * s3) ∧ True) := by
  obtain ⟨⟨l, s, h1, h2, h3, h4, h5⟩, _⟩ := Eq.mp hp_58 m0
  obtain ⟨⟨l', t, k1, k2, k3, k4, k5⟩, _⟩ := Eq.mp hp_64 m1
  obtain ⟨e1, e2⟩ := stuck_u h2 (end_nx h3).1 k2 (end_nx k3).1
  subst e2
  have w1 := h4.1
  have w2 := k4.1
  exact ⟨by omega, by omega, by omega, by omega, trivial⟩
theorem rul_717 : Rul r_717 := by
  refine ⟨fun _ ρ M hm hB hF hG => ?_, fun gi gv hg => (by cases hg)⟩
  have H := cr_717 M (ρ 0) (ρ 1) (ρ 2) (ρ 3) (hB _ List.mem_cons_self) (hB _ (List.mem_cons_of_mem _ List.mem_cons_self)) (hB _ (List.mem_cons_of_mem _ (List.mem_cons_of_mem _ List.mem_cons_self))) (hB _ (List.mem_cons_of_mem _ (List.mem_cons_of_mem _ (List.mem_cons_of_mem _ List.mem_cons_self)))) (cvp 58 (x' := ((ρ 0))) (y' := ((ρ 2))) (by show 0 + (1 * ρ 0 + 0) = _; omega) (by show 0 + (1 * ρ 2 + 0) = _; omega) (hm _ List.mem_cons_self)) (cvp 64 (x' := ((ρ 1))) (y' := ((ρ 3))) (by show 0 + (1 * ρ 1 + 0) = _; omega) (by show 0 + (1 * ρ 3 + 0) = _; omega) (hm _ (List.mem_cons_of_mem _ List.mem_cons_self))) hG
  obtain ⟨f0, f1, f2, f3, -⟩ := H
  exact ⟨_, List.mem_cons_self, ρ, fun _ _ => rfl, okM_n, okB_n, (okF_c (by show 0 ≤ 0 + ((-1) * ρ 0 + (1 * ρ 1 + 0)); omega) (okF_c (by show 0 ≤ 0 + (1 * ρ 0 + ((-1) * ρ 1 + 0)); omega) (okF_c (by show 0 ≤ 0 + ((-1) * ρ 2 + (1 * ρ 3 + 0)); omega) (okF_c (by show 0 ≤ 0 + (1 * ρ 2 + ((-1) * ρ 3 + 0)); omega) okF_n))))⟩
-- dead1_0
theorem cr_718 (M : pM) (s0 s1 s2 s3 : Int) (b0 : 0 ≤ s0 ∧ s0 ≤ 950) (b1 : 0 ≤ s1 ∧ s1 ≤ 5000) (b2 : (-2147483648) ≤ s2 ∧ s2 ≤ 2147483647) (b3 : 1 ≤ s3 ∧ s3 ≤ 5) (m0 : HP 58 (s0) (s1) M) (m1 : HP 66 (s2) (s3) M) (hG : gI M) : (0 ≤ (s3 - 6) ∧ True) := by
  obtain ⟨⟨l, s, h1, h2, h3, h4, h5⟩, _⟩ := Eq.mp hp_58 m0
  obtain ⟨l', t, k1, k2⟩ := Eq.mp hp_66 m1
  obtain ⟨e1, e2⟩ := stuck_u h2 (end_nx h3).1 k1 (fa_nx k2)
  subst e2
  rw [(end_nx h3).2] at k2
  cases k2
theorem rul_718 : Rul r_718 := by
  refine ⟨fun _ ρ M hm hB hF hG => ?_, fun gi gv hg => (by cases hg)⟩
  have H := cr_718 M (ρ 0) (ρ 1) (ρ 2) (ρ 3) (hB _ List.mem_cons_self) (hB _ (List.mem_cons_of_mem _ List.mem_cons_self)) (hB _ (List.mem_cons_of_mem _ (List.mem_cons_of_mem _ List.mem_cons_self))) (hB _ (List.mem_cons_of_mem _ (List.mem_cons_of_mem _ (List.mem_cons_of_mem _ List.mem_cons_self)))) (cvp 58 (x' := ((ρ 0))) (y' := ((ρ 1))) (by show 0 + (1 * ρ 0 + 0) = _; omega) (by show 0 + (1 * ρ 1 + 0) = _; omega) (hm _ List.mem_cons_self)) (cvp 66 (x' := ((ρ 2))) (y' := ((ρ 3))) (by show 0 + (1 * ρ 2 + 0) = _; omega) (by show 0 + (1 * ρ 3 + 0) = _; omega) (hm _ (List.mem_cons_of_mem _ List.mem_cons_self))) hG
  obtain ⟨f0, -⟩ := H
  exact ⟨_, List.mem_cons_self, ρ, fun _ _ => rfl, okM_n, okB_n, (okF_c (by show 0 ≤ (-6) + (1 * ρ 3 + 0); omega) okF_n)⟩
-- dead2_0
theorem cr_719 (M : pM) (s0 s1 s2 s3 : Int) (b0 : 0 ≤ s0 ∧ s0 ≤ 950) (b1 : 0 ≤ s1 ∧ s1 ≤ 5000) (b2 : (-2147483648) ≤ s2 ∧ s2 ≤ 2147483647) (b3 : 1 ≤ s3 ∧ s3 ≤ 5) (m0 : HP 64 (s0) (s1) M) (m1 : HP 66 (s2) (s3) M) (hG : gI M) : (0 ≤ (s3 - 6) ∧ True) := by
  obtain ⟨⟨l, s, h1, h2, h3, h4, h5⟩, _⟩ := Eq.mp hp_64 m0
  obtain ⟨l', t, k1, k2⟩ := Eq.mp hp_66 m1
  obtain ⟨e1, e2⟩ := stuck_u h2 (end_nx h3).1 k1 (fa_nx k2)
  subst e2
  rw [(end_nx h3).2] at k2
  cases k2
theorem rul_719 : Rul r_719 := by
  refine ⟨fun _ ρ M hm hB hF hG => ?_, fun gi gv hg => (by cases hg)⟩
  have H := cr_719 M (ρ 0) (ρ 1) (ρ 2) (ρ 3) (hB _ List.mem_cons_self) (hB _ (List.mem_cons_of_mem _ List.mem_cons_self)) (hB _ (List.mem_cons_of_mem _ (List.mem_cons_of_mem _ List.mem_cons_self))) (hB _ (List.mem_cons_of_mem _ (List.mem_cons_of_mem _ (List.mem_cons_of_mem _ List.mem_cons_self)))) (cvp 64 (x' := ((ρ 0))) (y' := ((ρ 1))) (by show 0 + (1 * ρ 0 + 0) = _; omega) (by show 0 + (1 * ρ 1 + 0) = _; omega) (hm _ List.mem_cons_self)) (cvp 66 (x' := ((ρ 2))) (y' := ((ρ 3))) (by show 0 + (1 * ρ 2 + 0) = _; omega) (by show 0 + (1 * ρ 3 + 0) = _; omega) (hm _ (List.mem_cons_of_mem _ List.mem_cons_self))) hG
  obtain ⟨f0, -⟩ := H
  exact ⟨_, List.mem_cons_self, ρ, fun _ _ => rfl, okM_n, okB_n, (okF_c (by show 0 ≤ (-6) + (1 * ρ 3 + 0); omega) okF_n)⟩
-- same_ok1
theorem cr_720 (M : pM) (s0 s1 s2 s3 : Int) (b0 : 0 ≤ s0 ∧ s0 ≤ 950) (b1 : 0 ≤ s1 ∧ s1 ≤ 950) (b2 : 0 ≤ s2 ∧ s2 ≤ 5000) (b3 : 0 ≤ s3 ∧ s3 ≤ 5000) (m0 : HP 59 (s0) (s2) M) (m1 : HP 65 (s1) (s3) M) (hG : gI M) : (0 ≤ ((-1) * s0 + s1) ∧ 0 ≤ (s0 + (-1) * s1) ∧ 0 ≤ ((-1) * s2 + s3) ∧ 0 ≤ (s2 + (-1) * s3) ∧ True) := by
  obtain ⟨⟨l, s, h1, h2, h3, h4, h5⟩, _⟩ := Eq.mp hp_59 m0
  obtain ⟨⟨l', t, k1, k2, k3, k4, k5⟩, _⟩ := Eq.mp hp_65 m1
  obtain ⟨e1, e2⟩ := stuck_u h2 (end_nx h3).1 k2 (end_nx k3).1
  subst e2
  have w1 := h4.1
  have w2 := k4.1
  exact ⟨by omega, by omega, by omega, by omega, trivial⟩
theorem rul_720 : Rul r_720 := by
  refine ⟨fun _ ρ M hm hB hF hG => ?_, fun gi gv hg => (by cases hg)⟩
  have H := cr_720 M (ρ 0) (ρ 1) (ρ 2) (ρ 3) (hB _ List.mem_cons_self) (hB _ (List.mem_cons_of_mem _ List.mem_cons_self)) (hB _ (List.mem_cons_of_mem _ (List.mem_cons_of_mem _ List.mem_cons_self))) (hB _ (List.mem_cons_of_mem _ (List.mem_cons_of_mem _ (List.mem_cons_of_mem _ List.mem_cons_self)))) (cvp 59 (x' := ((ρ 0))) (y' := ((ρ 2))) (by show 0 + (1 * ρ 0 + 0) = _; omega) (by show 0 + (1 * ρ 2 + 0) = _; omega) (hm _ List.mem_cons_self)) (cvp 65 (x' := ((ρ 1))) (y' := ((ρ 3))) (by show 0 + (1 * ρ 1 + 0) = _; omega) (by show 0 + (1 * ρ 3 + 0) = _; omega) (hm _ (List.mem_cons_of_mem _ List.mem_cons_self))) hG
  obtain ⟨f0, f1, f2, f3, -⟩ := H
  exact ⟨_, List.mem_cons_self, ρ, fun _ _ => rfl, okM_n, okB_n, (okF_c (by show 0 ≤ 0 + ((-1) * ρ 0 + (1 * ρ 1 + 0)); omega) (okF_c (by show 0 ≤ 0 + (1 * ρ 0 + ((-1) * ρ 1 + 0)); omega) (okF_c (by show 0 ≤ 0 + ((-1) * ρ 2 + (1 * ρ 3 + 0)); omega) (okF_c (by show 0 ≤ 0 + (1 * ρ 2 + ((-1) * ρ 3 + 0)); omega) okF_n))))⟩
-- dead1_1
theorem cr_721 (M : pM) (s0 s1 s2 s3 : Int) (b0 : 0 ≤ s0 ∧ s0 ≤ 950) (b1 : 0 ≤ s1 ∧ s1 ≤ 5000) (b2 : (-2147483648) ≤ s2 ∧ s2 ≤ 2147483647) (b3 : 1 ≤ s3 ∧ s3 ≤ 5) (m0 : HP 59 (s0) (s1) M) (m1 : HP 66 (s2) (s3) M) (hG : gI M) : (0 ≤ (s3 - 6) ∧ True) := by
  obtain ⟨⟨l, s, h1, h2, h3, h4, h5⟩, _⟩ := Eq.mp hp_59 m0
  obtain ⟨l', t, k1, k2⟩ := Eq.mp hp_66 m1
  obtain ⟨e1, e2⟩ := stuck_u h2 (end_nx h3).1 k1 (fa_nx k2)
  subst e2
  rw [(end_nx h3).2] at k2
  cases k2
theorem rul_721 : Rul r_721 := by
  refine ⟨fun _ ρ M hm hB hF hG => ?_, fun gi gv hg => (by cases hg)⟩
  have H := cr_721 M (ρ 0) (ρ 1) (ρ 2) (ρ 3) (hB _ List.mem_cons_self) (hB _ (List.mem_cons_of_mem _ List.mem_cons_self)) (hB _ (List.mem_cons_of_mem _ (List.mem_cons_of_mem _ List.mem_cons_self))) (hB _ (List.mem_cons_of_mem _ (List.mem_cons_of_mem _ (List.mem_cons_of_mem _ List.mem_cons_self)))) (cvp 59 (x' := ((ρ 0))) (y' := ((ρ 1))) (by show 0 + (1 * ρ 0 + 0) = _; omega) (by show 0 + (1 * ρ 1 + 0) = _; omega) (hm _ List.mem_cons_self)) (cvp 66 (x' := ((ρ 2))) (y' := ((ρ 3))) (by show 0 + (1 * ρ 2 + 0) = _; omega) (by show 0 + (1 * ρ 3 + 0) = _; omega) (hm _ (List.mem_cons_of_mem _ List.mem_cons_self))) hG
  obtain ⟨f0, -⟩ := H
  exact ⟨_, List.mem_cons_self, ρ, fun _ _ => rfl, okM_n, okB_n, (okF_c (by show 0 ≤ (-6) + (1 * ρ 3 + 0); omega) okF_n)⟩
-- dead2_1
theorem cr_722 (M : pM) (s0 s1 s2 s3 : Int) (b0 : 0 ≤ s0 ∧ s0 ≤ 950) (b1 : 0 ≤ s1 ∧ s1 ≤ 5000) (b2 : (-2147483648) ≤ s2 ∧ s2 ≤ 2147483647) (b3 : 1 ≤ s3 ∧ s3 ≤ 5) (m0 : HP 65 (s0) (s1) M) (m1 : HP 66 (s2) (s3) M) (hG : gI M) : (0 ≤ (s3 - 6) ∧ True) := by
  obtain ⟨⟨l, s, h1, h2, h3, h4, h5⟩, _⟩ := Eq.mp hp_65 m0
  obtain ⟨l', t, k1, k2⟩ := Eq.mp hp_66 m1
  obtain ⟨e1, e2⟩ := stuck_u h2 (end_nx h3).1 k1 (fa_nx k2)
  subst e2
  rw [(end_nx h3).2] at k2
  cases k2
theorem rul_722 : Rul r_722 := by
  refine ⟨fun _ ρ M hm hB hF hG => ?_, fun gi gv hg => (by cases hg)⟩
  have H := cr_722 M (ρ 0) (ρ 1) (ρ 2) (ρ 3) (hB _ List.mem_cons_self) (hB _ (List.mem_cons_of_mem _ List.mem_cons_self)) (hB _ (List.mem_cons_of_mem _ (List.mem_cons_of_mem _ List.mem_cons_self))) (hB _ (List.mem_cons_of_mem _ (List.mem_cons_of_mem _ (List.mem_cons_of_mem _ List.mem_cons_self)))) (cvp 65 (x' := ((ρ 0))) (y' := ((ρ 1))) (by show 0 + (1 * ρ 0 + 0) = _; omega) (by show 0 + (1 * ρ 1 + 0) = _; omega) (hm _ List.mem_cons_self)) (cvp 66 (x' := ((ρ 2))) (y' := ((ρ 3))) (by show 0 + (1 * ρ 2 + 0) = _; omega) (by show 0 + (1 * ρ 3 + 0) = _; omega) (hm _ (List.mem_cons_of_mem _ List.mem_cons_self))) hG
  obtain ⟨f0, -⟩ := H
  exact ⟨_, List.mem_cons_self, ρ, fun _ _ => rfl, okM_n, okB_n, (okF_c (by show 0 ≤ (-6) + (1 * ρ 3 + 0); omega) okF_n)⟩
-- eqm_0
theorem cr_723 (M : pM) (s0 s1 s2 s3 : Int) (b0 : 0 ≤ s0 ∧ s0 ≤ 950) (b1 : 0 ≤ s1 ∧ s1 ≤ 950) (b2 : 0 ≤ s2 ∧ s2 ≤ 5000) (b3 : 0 ≤ s3 ∧ s3 ≤ 5000) (m0 : HP 58 (s0) (s2) M) (m1 : HP 64 (s1) (s3) M) (hG : gI M) : (HP 183 (0 : Int) (0 : Int) M ∧ True) := by
  obtain ⟨⟨l, s, h1, h2, h3, h4, h5⟩, hf⟩ := Eq.mp hp_58 m0
  obtain ⟨⟨l', t, k1, k2, k3, k4, k5⟩, kf⟩ := Eq.mp hp_64 m1
  obtain ⟨e1, e2⟩ := stuck_u h2 (end_nx h3).1 k2 (end_nx k3).1
  subst e2
  obtain ⟨w0, w1, w2, w3⟩ := h4
  obtain ⟨f0, f1, f2, f3⟩ := hf
  obtain ⟨v0, v1, v2, v3⟩ := k4
  obtain ⟨g0, g1, g2, g3⟩ := kf
  exact ⟨Eq.mpr hp_183 ⟨⟨by omega, by omega, by omega⟩, tm M, s.2, ⟨by omega, by omega, by omega⟩, ⟨rfl, w1, w2, w3⟩, h5, ⟨qRr 0 M, fun _ _ _ _ => rfl, k5⟩⟩, trivial⟩
theorem rul_723 : Rul r_723 := by
  refine ⟨fun _ ρ M hm hB hF hG => ?_, fun gi gv hg => (by cases hg)⟩
  have H := cr_723 M (ρ 0) (ρ 1) (ρ 2) (ρ 3) (hB _ List.mem_cons_self) (hB _ (List.mem_cons_of_mem _ List.mem_cons_self)) (hB _ (List.mem_cons_of_mem _ (List.mem_cons_of_mem _ List.mem_cons_self))) (hB _ (List.mem_cons_of_mem _ (List.mem_cons_of_mem _ (List.mem_cons_of_mem _ List.mem_cons_self)))) (cvp 58 (x' := ((ρ 0))) (y' := ((ρ 2))) (by show 0 + (1 * ρ 0 + 0) = _; omega) (by show 0 + (1 * ρ 2 + 0) = _; omega) (hm _ List.mem_cons_self)) (cvp 64 (x' := ((ρ 1))) (y' := ((ρ 3))) (by show 0 + (1 * ρ 1 + 0) = _; omega) (by show 0 + (1 * ρ 3 + 0) = _; omega) (hm _ (List.mem_cons_of_mem _ List.mem_cons_self))) hG
  obtain ⟨k0, -⟩ := H
  exact ⟨_, List.mem_cons_self, ρ, fun _ _ => rfl, (okM_c (pvp 183 (by show 0 + 0 = _; omega) (by show 0 + 0 = _; omega) k0) okM_n), okB_n, okF_n⟩
-- eqo_0
theorem cr_724 (M : pM) (m0 : HP 182 (0 : Int) (0 : Int) M) (m1 : (0 ≤ (34 : Int) ∧ M 61 (34 : Int).toNat = (0 : Int))) (hG : gI M) : (HP 183 (0 : Int) (0 : Int) M ∧ True) := by
  have e : M 61 34 = 0 := m1.2
  rcases Eq.mp hp_182 m0 with ⟨h1, h2⟩ | ⟨h1, h2⟩
  · exact ⟨Eq.mpr hp_183 h2, trivial⟩
  · omega
theorem rul_724 : Rul r_724 := by
  refine ⟨fun _ ρ M hm hB hF hG => ?_, fun gi gv hg => (by cases hg)⟩
  have H := cr_724 M (cvp 182 (x' := (0 : Int)) (y' := (0 : Int)) (by show 0 + 0 = _; omega) (by show 0 + 0 = _; omega) (hm _ List.mem_cons_self)) (cvm (c := 61) (by decide) (x' := (34 : Int)) (y' := (0 : Int)) (by show 34 + 0 = _; omega) (by show 0 + 0 = _; omega) (hm _ (List.mem_cons_of_mem _ List.mem_cons_self))) hG
  obtain ⟨k0, -⟩ := H
  exact ⟨_, List.mem_cons_self, ρ, fun _ _ => rfl, (okM_c (pvp 183 (by show 0 + 0 = _; omega) (by show 0 + 0 = _; omega) k0) okM_n), okB_n, okF_n⟩
-- eqi_0
theorem cr_725 (M : pM) (m0 : HP 183 (0 : Int) (0 : Int) M) (m1 : (0 ≤ (34 : Int) ∧ M 61 (34 : Int).toNat = (0 : Int))) (hG : gI M) : (HP 182 (0 : Int) (0 : Int) M ∧ True) := by
  have e : M 61 34 = 0 := m1.2
  exact ⟨Eq.mpr hp_182 (Or.inl ⟨e, Eq.mp hp_183 m0⟩), trivial⟩
theorem rul_725 : Rul r_725 := by
  refine ⟨fun _ ρ M hm hB hF hG => ?_, fun gi gv hg => (by cases hg)⟩
  have H := cr_725 M (cvp 183 (x' := (0 : Int)) (y' := (0 : Int)) (by show 0 + 0 = _; omega) (by show 0 + 0 = _; omega) (hm _ List.mem_cons_self)) (cvm (c := 61) (by decide) (x' := (34 : Int)) (y' := (0 : Int)) (by show 34 + 0 = _; omega) (by show 0 + 0 = _; omega) (hm _ (List.mem_cons_of_mem _ List.mem_cons_self))) hG
  obtain ⟨k0, -⟩ := H
  exact ⟨_, List.mem_cons_self, ρ, fun _ _ => rfl, (okM_c (pvp 182 (by show 0 + 0 = _; omega) (by show 0 + 0 = _; omega) k0) okM_n), okB_n, okF_n⟩
-- eqm_1
theorem cr_726 (M : pM) (s0 s1 s2 s3 : Int) (b0 : 0 ≤ s0 ∧ s0 ≤ 950) (b1 : 0 ≤ s1 ∧ s1 ≤ 950) (b2 : 0 ≤ s2 ∧ s2 ≤ 5000) (b3 : 0 ≤ s3 ∧ s3 ≤ 5000) (m0 : HP 59 (s0) (s2) M) (m1 : HP 65 (s1) (s3) M) (hG : gI M) : (HP 184 (0 : Int) (0 : Int) M ∧ True) := by
  obtain ⟨⟨l, s, h1, h2, h3, h4, h5⟩, hf⟩ := Eq.mp hp_59 m0
  obtain ⟨⟨l', t, k1, k2, k3, k4, k5⟩, kf⟩ := Eq.mp hp_65 m1
  obtain ⟨e1, e2⟩ := stuck_u h2 (end_nx h3).1 k2 (end_nx k3).1
  subst e2
  obtain ⟨w0, w1, w2, w3⟩ := h4
  obtain ⟨f0, f1, f2, f3⟩ := hf
  obtain ⟨v0, v1, v2, v3⟩ := k4
  obtain ⟨g0, g1, g2, g3⟩ := kf
  exact ⟨Eq.mpr hp_184 ⟨⟨by omega, by omega, by omega⟩, tm M, s.2, ⟨by omega, by omega, by omega⟩, ⟨rfl, w1, w2, w3⟩, h5, ⟨qRr 1 M, fun _ _ _ _ => rfl, k5⟩⟩, trivial⟩
theorem rul_726 : Rul r_726 := by
  refine ⟨fun _ ρ M hm hB hF hG => ?_, fun gi gv hg => (by cases hg)⟩
  have H := cr_726 M (ρ 0) (ρ 1) (ρ 2) (ρ 3) (hB _ List.mem_cons_self) (hB _ (List.mem_cons_of_mem _ List.mem_cons_self)) (hB _ (List.mem_cons_of_mem _ (List.mem_cons_of_mem _ List.mem_cons_self))) (hB _ (List.mem_cons_of_mem _ (List.mem_cons_of_mem _ (List.mem_cons_of_mem _ List.mem_cons_self)))) (cvp 59 (x' := ((ρ 0))) (y' := ((ρ 2))) (by show 0 + (1 * ρ 0 + 0) = _; omega) (by show 0 + (1 * ρ 2 + 0) = _; omega) (hm _ List.mem_cons_self)) (cvp 65 (x' := ((ρ 1))) (y' := ((ρ 3))) (by show 0 + (1 * ρ 1 + 0) = _; omega) (by show 0 + (1 * ρ 3 + 0) = _; omega) (hm _ (List.mem_cons_of_mem _ List.mem_cons_self))) hG
  obtain ⟨k0, -⟩ := H
  exact ⟨_, List.mem_cons_self, ρ, fun _ _ => rfl, (okM_c (pvp 184 (by show 0 + 0 = _; omega) (by show 0 + 0 = _; omega) k0) okM_n), okB_n, okF_n⟩
-- eqo_1
theorem cr_727 (M : pM) (m0 : HP 182 (0 : Int) (0 : Int) M) (m1 : (0 ≤ (34 : Int) ∧ M 61 (34 : Int).toNat = (1 : Int))) (hG : gI M) : (HP 184 (0 : Int) (0 : Int) M ∧ True) := by
  have e : M 61 34 = 1 := m1.2
  rcases Eq.mp hp_182 m0 with ⟨h1, h2⟩ | ⟨h1, h2⟩
  · omega
  · exact ⟨Eq.mpr hp_184 h2, trivial⟩
theorem rul_727 : Rul r_727 := by
  refine ⟨fun _ ρ M hm hB hF hG => ?_, fun gi gv hg => (by cases hg)⟩
  have H := cr_727 M (cvp 182 (x' := (0 : Int)) (y' := (0 : Int)) (by show 0 + 0 = _; omega) (by show 0 + 0 = _; omega) (hm _ List.mem_cons_self)) (cvm (c := 61) (by decide) (x' := (34 : Int)) (y' := (1 : Int)) (by show 34 + 0 = _; omega) (by show 1 + 0 = _; omega) (hm _ (List.mem_cons_of_mem _ List.mem_cons_self))) hG
  obtain ⟨k0, -⟩ := H
  exact ⟨_, List.mem_cons_self, ρ, fun _ _ => rfl, (okM_c (pvp 184 (by show 0 + 0 = _; omega) (by show 0 + 0 = _; omega) k0) okM_n), okB_n, okF_n⟩
-- eqi_1
theorem cr_728 (M : pM) (m0 : HP 184 (0 : Int) (0 : Int) M) (m1 : (0 ≤ (34 : Int) ∧ M 61 (34 : Int).toNat = (1 : Int))) (hG : gI M) : (HP 182 (0 : Int) (0 : Int) M ∧ True) := by
  have e : M 61 34 = 1 := m1.2
  exact ⟨Eq.mpr hp_182 (Or.inr ⟨e, Eq.mp hp_184 m0⟩), trivial⟩
theorem rul_728 : Rul r_728 := by
  refine ⟨fun _ ρ M hm hB hF hG => ?_, fun gi gv hg => (by cases hg)⟩
  have H := cr_728 M (cvp 184 (x' := (0 : Int)) (y' := (0 : Int)) (by show 0 + 0 = _; omega) (by show 0 + 0 = _; omega) (hm _ List.mem_cons_self)) (cvm (c := 61) (by decide) (x' := (34 : Int)) (y' := (1 : Int)) (by show 34 + 0 = _; omega) (by show 1 + 0 = _; omega) (hm _ (List.mem_cons_of_mem _ List.mem_cons_self))) hG
  obtain ⟨k0, -⟩ := H
  exact ⟨_, List.mem_cons_self, ρ, fun _ _ => rfl, (okM_c (pvp 182 (by show 0 + 0 = _; omega) (by show 0 + 0 = _; omega) k0) okM_n), okB_n, okF_n⟩
-- di0
theorem cr_729 (M : pM)  (hG : gI M) : (HP 285 (0 : Int) (0 : Int) M ∧ True) := by
  exact ⟨Eq.mpr hp_285 ⟨by omega, by omega, fun i hi => by omega⟩, trivial⟩
theorem rul_729 : Rul r_729 := by
  refine ⟨fun _ ρ M hm hB hF hG => ?_, fun gi gv hg => (by cases hg)⟩
  have H := cr_729 M hG
  obtain ⟨k0, -⟩ := H
  exact ⟨_, List.mem_cons_self, ρ, fun _ _ => rfl, (okM_c (pvp 285 (by show 0 + 0 = _; omega) (by show 0 + 0 = _; omega) k0) okM_n), okB_n, okF_n⟩
-- dia
theorem cr_730 (M : pM) (s0 s1 s2 s3 s4 : Int) (b0 : 0 ≤ s0 ∧ s0 ≤ 4095) (b1 : (-2147483648) ≤ s1 ∧ s1 ≤ 2147483647) (b2 : 0 ≤ s2 ∧ s2 ≤ 63) (b3 : (-2147483648) ≤ s3 ∧ s3 ≤ 2147483647) (b4 : 0 ≤ s4 ∧ s4 ≤ 63) (m0 : HP 285 (s0) (0 : Int) M) (f0 : 0 ≤ ((-1) * s0 + 64 * s1 + s2)) (f1 : 0 ≤ (s0 + (-64) * s1 + (-1) * s2)) (f2 : 0 ≤ ((-1) * s0 + 64 * s3 + s4)) (f3 : 0 ≤ (s0 + (-64) * s3 + (-1) * s4)) (f4 : 0 ≤ ((-1) * s1 + s4)) (f5 : 0 ≤ (s1 + (-1) * s4)) (hG : gI M) : (HP 285 (s0 + 1) (0 : Int) (st M 114 (s0).toNat (0 : Int)) ∧ True) := by
  have e1 : s1 = s3 := by omega
  have e2 : s2 = s4 := by omega
  obtain ⟨h1, h2, h3⟩ := Eq.mp hp_285 m0
  refine ⟨Eq.mpr hp_285 ⟨by omega, by omega, fun i hi => ?_⟩, trivial⟩
  show (if 114 = 114 ∧ i = (s0).toNat then (0 : Int) else M 114 i) = _
  by_cases e : i = (s0).toNat
  · rw [if_pos ⟨rfl, e⟩, if_pos (by omega)]
  · rw [if_neg (fun q => e q.2)]
    exact h3 i (by omega)
theorem rul_730 : Rul r_730 := by
  refine ⟨fun h => (by cases h), fun gi gv hg ρ M hm hB hF hG => ?_⟩
  obtain ⟨g1, g2⟩ := List.cons.inj (show ([aI ((0 : Int), ([(0, 1)] : List (Nat × Int))), aI ((0 : Int), ([] : List (Nat × Int)))] : List av) = [.inl gi, .inl gv] from hg)
  obtain ⟨g2, -⟩ := List.cons.inj g2
  cases g1
  cases g2
  have ei : ev ρ ((0 : Int), ([(0, 1)] : List (Nat × Int))) = ((ρ 0)) := by show 0 + (1 * ρ 0 + 0) = _; omega
  have ew : ev ρ ((0 : Int), ([] : List (Nat × Int))) = (0 : Int) := by show 0 + 0 = _; omega
  rw [show (st M (ctj r_730) (ev ρ ((0 : Int), ([(0, 1)] : List (Nat × Int)))).toNat (ev ρ ((0 : Int), ([] : List (Nat × Int))))) = (st M 114 ((ρ 0)).toNat (0 : Int)) from by rw [ei, ew]; rfl]
  have H := cr_730 M (ρ 0) (ρ 1) (ρ 2) (ρ 3) (ρ 4) (hB _ List.mem_cons_self) (hB _ (List.mem_cons_of_mem _ List.mem_cons_self)) (hB _ (List.mem_cons_of_mem _ (List.mem_cons_of_mem _ List.mem_cons_self))) (hB _ (List.mem_cons_of_mem _ (List.mem_cons_of_mem _ (List.mem_cons_of_mem _ List.mem_cons_self)))) (hB _ (List.mem_cons_of_mem _ (List.mem_cons_of_mem _ (List.mem_cons_of_mem _ (List.mem_cons_of_mem _ List.mem_cons_self))))) (cvp 285 (x' := ((ρ 0))) (y' := (0 : Int)) (by show 0 + (1 * ρ 0 + 0) = _; omega) (by show 0 + 0 = _; omega) (hm _ List.mem_cons_self)) (by have h := hF _ List.mem_cons_self; have h : 0 ≤ 0 + ((-1) * ρ 0 + (64 * ρ 1 + (1 * ρ 2 + 0))) := h; omega) (by have h := hF _ (List.mem_cons_of_mem _ List.mem_cons_self); have h : 0 ≤ 0 + (1 * ρ 0 + ((-64) * ρ 1 + ((-1) * ρ 2 + 0))) := h; omega) (by have h := hF _ (List.mem_cons_of_mem _ (List.mem_cons_of_mem _ List.mem_cons_self)); have h : 0 ≤ 0 + ((-1) * ρ 0 + (64 * ρ 3 + (1 * ρ 4 + 0))) := h; omega) (by have h := hF _ (List.mem_cons_of_mem _ (List.mem_cons_of_mem _ (List.mem_cons_of_mem _ List.mem_cons_self))); have h : 0 ≤ 0 + (1 * ρ 0 + ((-64) * ρ 3 + ((-1) * ρ 4 + 0))) := h; omega) (by have h := hF _ (List.mem_cons_of_mem _ (List.mem_cons_of_mem _ (List.mem_cons_of_mem _ (List.mem_cons_of_mem _ List.mem_cons_self)))); have h : 0 ≤ 0 + ((-1) * ρ 1 + (1 * ρ 4 + 0)) := h; omega) (by have h := hF _ (List.mem_cons_of_mem _ (List.mem_cons_of_mem _ (List.mem_cons_of_mem _ (List.mem_cons_of_mem _ (List.mem_cons_of_mem _ List.mem_cons_self))))); have h : 0 ≤ 0 + (1 * ρ 1 + ((-1) * ρ 4 + 0)) := h; omega) hG
  obtain ⟨k0, -⟩ := H
  exact ⟨_, List.mem_cons_self, ρ, fun _ _ => rfl, (okM_c (pvp 285 (by show 1 + (1 * ρ 0 + 0) = _; omega) (by show 0 + 0 = _; omega) k0) okM_n), okB_n, okF_n⟩
-- dib0
theorem cr_731 (M : pM) (s0 s1 s2 s3 s4 : Int) (b0 : 0 ≤ s0 ∧ s0 ≤ 4095) (b1 : (-2147483648) ≤ s1 ∧ s1 ≤ 2147483647) (b2 : 0 ≤ s2 ∧ s2 ≤ 63) (b3 : (-2147483648) ≤ s3 ∧ s3 ≤ 2147483647) (b4 : 0 ≤ s4 ∧ s4 ≤ 63) (m0 : HP 285 (s0) (0 : Int) M) (f0 : 0 ≤ ((-1) * s0 + 64 * s1 + s2)) (f1 : 0 ≤ (s0 + (-64) * s1 + (-1) * s2)) (f2 : 0 ≤ ((-1) * s0 + 64 * s3 + s4)) (f3 : 0 ≤ (s0 + (-64) * s3 + (-1) * s4)) (f4 : 0 ≤ ((-1) * s1 + s4 - 1)) (hG : gI M) : (HP 285 (s0 + 1) (0 : Int) (st M 114 (s0).toNat (100000 : Int)) ∧ True) := by
  have e1 : s1 = s3 := by omega
  have e2 : s2 = s4 := by omega
  obtain ⟨h1, h2, h3⟩ := Eq.mp hp_285 m0
  refine ⟨Eq.mpr hp_285 ⟨by omega, by omega, fun i hi => ?_⟩, trivial⟩
  show (if 114 = 114 ∧ i = (s0).toNat then (100000 : Int) else M 114 i) = _
  by_cases e : i = (s0).toNat
  · rw [if_pos ⟨rfl, e⟩, if_neg (by omega)]
  · rw [if_neg (fun q => e q.2)]
    exact h3 i (by omega)
theorem rul_731 : Rul r_731 := by
  refine ⟨fun h => (by cases h), fun gi gv hg ρ M hm hB hF hG => ?_⟩
  obtain ⟨g1, g2⟩ := List.cons.inj (show ([aI ((0 : Int), ([(0, 1)] : List (Nat × Int))), aI ((100000 : Int), ([] : List (Nat × Int)))] : List av) = [.inl gi, .inl gv] from hg)
  obtain ⟨g2, -⟩ := List.cons.inj g2
  cases g1
  cases g2
  have ei : ev ρ ((0 : Int), ([(0, 1)] : List (Nat × Int))) = ((ρ 0)) := by show 0 + (1 * ρ 0 + 0) = _; omega
  have ew : ev ρ ((100000 : Int), ([] : List (Nat × Int))) = (100000 : Int) := by show 100000 + 0 = _; omega
  rw [show (st M (ctj r_731) (ev ρ ((0 : Int), ([(0, 1)] : List (Nat × Int)))).toNat (ev ρ ((100000 : Int), ([] : List (Nat × Int))))) = (st M 114 ((ρ 0)).toNat (100000 : Int)) from by rw [ei, ew]; rfl]
  have H := cr_731 M (ρ 0) (ρ 1) (ρ 2) (ρ 3) (ρ 4) (hB _ List.mem_cons_self) (hB _ (List.mem_cons_of_mem _ List.mem_cons_self)) (hB _ (List.mem_cons_of_mem _ (List.mem_cons_of_mem _ List.mem_cons_self))) (hB _ (List.mem_cons_of_mem _ (List.mem_cons_of_mem _ (List.mem_cons_of_mem _ List.mem_cons_self)))) (hB _ (List.mem_cons_of_mem _ (List.mem_cons_of_mem _ (List.mem_cons_of_mem _ (List.mem_cons_of_mem _ List.mem_cons_self))))) (cvp 285 (x' := ((ρ 0))) (y' := (0 : Int)) (by show 0 + (1 * ρ 0 + 0) = _; omega) (by show 0 + 0 = _; omega) (hm _ List.mem_cons_self)) (by have h := hF _ List.mem_cons_self; have h : 0 ≤ 0 + ((-1) * ρ 0 + (64 * ρ 1 + (1 * ρ 2 + 0))) := h; omega) (by have h := hF _ (List.mem_cons_of_mem _ List.mem_cons_self); have h : 0 ≤ 0 + (1 * ρ 0 + ((-64) * ρ 1 + ((-1) * ρ 2 + 0))) := h; omega) (by have h := hF _ (List.mem_cons_of_mem _ (List.mem_cons_of_mem _ List.mem_cons_self)); have h : 0 ≤ 0 + ((-1) * ρ 0 + (64 * ρ 3 + (1 * ρ 4 + 0))) := h; omega) (by have h := hF _ (List.mem_cons_of_mem _ (List.mem_cons_of_mem _ (List.mem_cons_of_mem _ List.mem_cons_self))); have h : 0 ≤ 0 + (1 * ρ 0 + ((-64) * ρ 3 + ((-1) * ρ 4 + 0))) := h; omega) (by have h := hF _ (List.mem_cons_of_mem _ (List.mem_cons_of_mem _ (List.mem_cons_of_mem _ (List.mem_cons_of_mem _ List.mem_cons_self)))); have h : 0 ≤ (-1) + ((-1) * ρ 1 + (1 * ρ 4 + 0)) := h; omega) hG
  obtain ⟨k0, -⟩ := H
  exact ⟨_, List.mem_cons_self, ρ, fun _ _ => rfl, (okM_c (pvp 285 (by show 1 + (1 * ρ 0 + 0) = _; omega) (by show 0 + 0 = _; omega) k0) okM_n), okB_n, okF_n⟩
-- dib1
theorem cr_732 (M : pM) (s0 s1 s2 s3 s4 : Int) (b0 : 0 ≤ s0 ∧ s0 ≤ 4095) (b1 : (-2147483648) ≤ s1 ∧ s1 ≤ 2147483647) (b2 : 0 ≤ s2 ∧ s2 ≤ 63) (b3 : (-2147483648) ≤ s3 ∧ s3 ≤ 2147483647) (b4 : 0 ≤ s4 ∧ s4 ≤ 63) (m0 : HP 285 (s0) (0 : Int) M) (f0 : 0 ≤ ((-1) * s0 + 64 * s1 + s2)) (f1 : 0 ≤ (s0 + (-64) * s1 + (-1) * s2)) (f2 : 0 ≤ ((-1) * s0 + 64 * s3 + s4)) (f3 : 0 ≤ (s0 + (-64) * s3 + (-1) * s4)) (f4 : 0 ≤ (s1 + (-1) * s4 - 1)) (hG : gI M) : (HP 285 (s0 + 1) (0 : Int) (st M 114 (s0).toNat (100000 : Int)) ∧ True) := by
  have e1 : s1 = s3 := by omega
  have e2 : s2 = s4 := by omega
  obtain ⟨h1, h2, h3⟩ := Eq.mp hp_285 m0
  refine ⟨Eq.mpr hp_285 ⟨by omega, by omega, fun i hi => ?_⟩, trivial⟩
  show (if 114 = 114 ∧ i = (s0).toNat then (100000 : Int) else M 114 i) = _
  by_cases e : i = (s0).toNat
  · rw [if_pos ⟨rfl, e⟩, if_neg (by omega)]
  · rw [if_neg (fun q => e q.2)]
    exact h3 i (by omega)
theorem rul_732 : Rul r_732 := by
  refine ⟨fun h => (by cases h), fun gi gv hg ρ M hm hB hF hG => ?_⟩
  obtain ⟨g1, g2⟩ := List.cons.inj (show ([aI ((0 : Int), ([(0, 1)] : List (Nat × Int))), aI ((100000 : Int), ([] : List (Nat × Int)))] : List av) = [.inl gi, .inl gv] from hg)
  obtain ⟨g2, -⟩ := List.cons.inj g2
  cases g1
  cases g2
  have ei : ev ρ ((0 : Int), ([(0, 1)] : List (Nat × Int))) = ((ρ 0)) := by show 0 + (1 * ρ 0 + 0) = _; omega
  have ew : ev ρ ((100000 : Int), ([] : List (Nat × Int))) = (100000 : Int) := by show 100000 + 0 = _; omega
  rw [show (st M (ctj r_732) (ev ρ ((0 : Int), ([(0, 1)] : List (Nat × Int)))).toNat (ev ρ ((100000 : Int), ([] : List (Nat × Int))))) = (st M 114 ((ρ 0)).toNat (100000 : Int)) from by rw [ei, ew]; rfl]
  have H := cr_732 M (ρ 0) (ρ 1) (ρ 2) (ρ 3) (ρ 4) (hB _ List.mem_cons_self) (hB _ (List.mem_cons_of_mem _ List.mem_cons_self)) (hB _ (List.mem_cons_of_mem _ (List.mem_cons_of_mem _ List.mem_cons_self))) (hB _ (List.mem_cons_of_mem _ (List.mem_cons_of_mem _ (List.mem_cons_of_mem _ List.mem_cons_self)))) (hB _ (List.mem_cons_of_mem _ (List.mem_cons_of_mem _ (List.mem_cons_of_mem _ (List.mem_cons_of_mem _ List.mem_cons_self))))) (cvp 285 (x' := ((ρ 0))) (y' := (0 : Int)) (by show 0 + (1 * ρ 0 + 0) = _; omega) (by show 0 + 0 = _; omega) (hm _ List.mem_cons_self)) (by have h := hF _ List.mem_cons_self; have h : 0 ≤ 0 + ((-1) * ρ 0 + (64 * ρ 1 + (1 * ρ 2 + 0))) := h; omega) (by have h := hF _ (List.mem_cons_of_mem _ List.mem_cons_self); have h : 0 ≤ 0 + (1 * ρ 0 + ((-64) * ρ 1 + ((-1) * ρ 2 + 0))) := h; omega) (by have h := hF _ (List.mem_cons_of_mem _ (List.mem_cons_of_mem _ List.mem_cons_self)); have h : 0 ≤ 0 + ((-1) * ρ 0 + (64 * ρ 3 + (1 * ρ 4 + 0))) := h; omega) (by have h := hF _ (List.mem_cons_of_mem _ (List.mem_cons_of_mem _ (List.mem_cons_of_mem _ List.mem_cons_self))); have h : 0 ≤ 0 + (1 * ρ 0 + ((-64) * ρ 3 + ((-1) * ρ 4 + 0))) := h; omega) (by have h := hF _ (List.mem_cons_of_mem _ (List.mem_cons_of_mem _ (List.mem_cons_of_mem _ (List.mem_cons_of_mem _ List.mem_cons_self)))); have h : 0 ≤ (-1) + (1 * ρ 1 + ((-1) * ρ 4 + 0)) := h; omega) hG
  obtain ⟨k0, -⟩ := H
  exact ⟨_, List.mem_cons_self, ρ, fun _ _ => rfl, (okM_c (pvp 285 (by show 1 + (1 * ρ 0 + 0) = _; omega) (by show 0 + 0 = _; omega) k0) okM_n), okB_n, okF_n⟩
-- dl0
theorem cr_733 (M : pM)  (hG : gI M) : (HP 295 (0 : Int) (1000000 : Int) M ∧ True) := by
  exact ⟨Eq.mpr hp_295 ⟨by omega, fun i hi => by omega⟩, trivial⟩
theorem rul_733 : Rul r_733 := by
  refine ⟨fun _ ρ M hm hB hF hG => ?_, fun gi gv hg => (by cases hg)⟩
  have H := cr_733 M hG
  obtain ⟨k0, -⟩ := H
  exact ⟨_, List.mem_cons_self, ρ, fun _ _ => rfl, (okM_c (pvp 295 (by show 0 + 0 = _; omega) (by show 1000000 + 0 = _; omega) k0) okM_n), okB_n, okF_n⟩
-- dlw
theorem cr_734 (M : pM) (s0 : Int) (b0 : 0 ≤ s0 ∧ s0 ≤ 63) (m0 : HP 295 (s0) (1000000 : Int) M) (hG : gI M) : (HP 295 (s0 + 1) (1000000 : Int) (st M 57 (s0).toNat (1000000 : Int)) ∧ True) := by
  obtain ⟨h1, h2⟩ := Eq.mp hp_295 m0
  refine ⟨Eq.mpr hp_295 ⟨by omega, fun i hi => ?_⟩, trivial⟩
  show (if 57 = 57 ∧ i = (s0).toNat then (1000000 : Int) else M 57 i) = _
  by_cases e : i = (s0).toNat
  · rw [if_pos ⟨rfl, e⟩]
  · rw [if_neg (fun q => e q.2)]
    exact h2 i (by omega)
theorem rul_734 : Rul r_734 := by
  refine ⟨fun h => (by cases h), fun gi gv hg ρ M hm hB hF hG => ?_⟩
  obtain ⟨g1, g2⟩ := List.cons.inj (show ([aI ((0 : Int), ([(0, 1)] : List (Nat × Int))), aI ((1000000 : Int), ([] : List (Nat × Int)))] : List av) = [.inl gi, .inl gv] from hg)
  obtain ⟨g2, -⟩ := List.cons.inj g2
  cases g1
  cases g2
  have ei : ev ρ ((0 : Int), ([(0, 1)] : List (Nat × Int))) = ((ρ 0)) := by show 0 + (1 * ρ 0 + 0) = _; omega
  have ew : ev ρ ((1000000 : Int), ([] : List (Nat × Int))) = (1000000 : Int) := by show 1000000 + 0 = _; omega
  rw [show (st M (ctj r_734) (ev ρ ((0 : Int), ([(0, 1)] : List (Nat × Int)))).toNat (ev ρ ((1000000 : Int), ([] : List (Nat × Int))))) = (st M 57 ((ρ 0)).toNat (1000000 : Int)) from by rw [ei, ew]; rfl]
  have H := cr_734 M (ρ 0) (hB _ List.mem_cons_self) (cvp 295 (x' := ((ρ 0))) (y' := (1000000 : Int)) (by show 0 + (1 * ρ 0 + 0) = _; omega) (by show 1000000 + 0 = _; omega) (hm _ List.mem_cons_self)) hG
  obtain ⟨k0, -⟩ := H
  exact ⟨_, List.mem_cons_self, ρ, fun _ _ => rfl, (okM_c (pvp 295 (by show 1 + (1 * ρ 0 + 0) = _; omega) (by show 1000000 + 0 = _; omega) k0) okM_n), okB_n, okF_n⟩
-- dlx
theorem cr_735 (M : pM) (s0 : Int) (b0 : 0 ≤ s0 ∧ s0 ≤ 64) (m0 : HP 295 (s0) (1000000 : Int) M) (f0 : 0 ≤ (s0 - 64)) (hG : gI M) : (HP 295 (64 : Int) (1000000 : Int) M ∧ True) := by
  obtain ⟨h1, h2⟩ := Eq.mp hp_295 m0
  exact ⟨Eq.mpr hp_295 ⟨by omega, fun i hi => h2 i (by omega)⟩, trivial⟩
theorem rul_735 : Rul r_735 := by
  refine ⟨fun _ ρ M hm hB hF hG => ?_, fun gi gv hg => (by cases hg)⟩
  have H := cr_735 M (ρ 0) (hB _ List.mem_cons_self) (cvp 295 (x' := ((ρ 0))) (y' := (1000000 : Int)) (by show 0 + (1 * ρ 0 + 0) = _; omega) (by show 1000000 + 0 = _; omega) (hm _ List.mem_cons_self)) (by have h := hF _ List.mem_cons_self; have h : 0 ≤ (-64) + (1 * ρ 0 + 0) := h; omega) hG
  obtain ⟨k0, -⟩ := H
  exact ⟨_, List.mem_cons_self, ρ, fun _ _ => rfl, (okM_c (pvp 295 (by show 64 + 0 = _; omega) (by show 1000000 + 0 = _; omega) k0) okM_n), okB_n, okF_n⟩
-- d01
theorem cr_736 (M : pM) (s0 : Int) (b0 : 0 ≤ s0 ∧ s0 ≤ 1) (hG : gI M) : (0 ≤ ((-1) * s0) ∧ 0 ≤ (s0) ∧ True) ∨ (0 ≤ ((-1) * s0 + 1) ∧ 0 ≤ (s0 - 1) ∧ True) := by
  have h : s0 = 0 ∨ s0 = 1 := by omega
  rcases h with h | h
  · exact Or.inl ⟨by omega, by omega, trivial⟩
  · exact Or.inr ⟨by omega, by omega, trivial⟩
theorem rul_736 : Rul r_736 := by
  refine ⟨fun _ ρ M hm hB hF hG => ?_, fun gi gv hg => (by cases hg)⟩
  have H := cr_736 M (ρ 0) (hB _ List.mem_cons_self) hG
  rcases H with H | H
  · skip
    obtain ⟨f0, f1, -⟩ := H
    exact ⟨_, List.mem_cons_self, ρ, fun _ _ => rfl, okM_n, okB_n, (okF_c (by show 0 ≤ 0 + ((-1) * ρ 0 + 0); omega) (okF_c (by show 0 ≤ 0 + (1 * ρ 0 + 0); omega) okF_n))⟩
  · skip
    obtain ⟨f0, f1, -⟩ := H
    exact ⟨_, (List.mem_cons_of_mem _ List.mem_cons_self), ρ, fun _ _ => rfl, okM_n, okB_n, (okF_c (by show 0 ≤ 1 + ((-1) * ρ 0 + 0); omega) (okF_c (by show 0 ≤ (-1) + (1 * ρ 0 + 0); omega) okF_n))⟩
-- dr0_0
theorem cr_737 (M : pM) (s0 : Int) (b0 : 0 ≤ s0 ∧ s0 ≤ 4096) (m0 : HP 285 (s0) (0 : Int) M) (f0 : 0 ≤ (s0 - 4096)) (hG : gI M) : (HP 286 (0 : Int) (0 : Int) M ∧ True) := by
  obtain ⟨h1, h2, h3⟩ := Eq.mp hp_285 m0
  exact ⟨Eq.mpr hp_286 ⟨0, by omega, by omega, dr_0 (fun i j hi hj => by rw [dfar_v hi hj, h3 _ (by omega), show (64 * i + j) / 64 = i by omega, show (64 * i + j) % 64 = j by omega])⟩, trivial⟩
theorem rul_737 : Rul r_737 := by
  refine ⟨fun _ ρ M hm hB hF hG => ?_, fun gi gv hg => (by cases hg)⟩
  have H := cr_737 M (ρ 0) (hB _ List.mem_cons_self) (cvp 285 (x' := ((ρ 0))) (y' := (0 : Int)) (by show 0 + (1 * ρ 0 + 0) = _; omega) (by show 0 + 0 = _; omega) (hm _ List.mem_cons_self)) (by have h := hF _ List.mem_cons_self; have h : 0 ≤ (-4096) + (1 * ρ 0 + 0) := h; omega) hG
  obtain ⟨k0, -⟩ := H
  exact ⟨_, List.mem_cons_self, ρ, fun _ _ => rfl, (okM_c (pvp 286 (by show 0 + 0 = _; omega) (by show 0 + 0 = _; omega) k0) okM_n), okB_n, okF_n⟩
-- drs_0
theorem cr_738 (M : pM) (s0 s1 s2 s3 s4 s5 : Int) (b0 : 0 ≤ s0 ∧ s0 ≤ 19) (b1 : 0 ≤ s1 ∧ s1 ≤ 63) (b2 : 0 ≤ s2 ∧ s2 ≤ 63) (b3 : 0 ≤ s3 ∧ s3 ≤ 99) (b4 : 0 ≤ s4 ∧ s4 ≤ 100000) (b5 : 0 ≤ s5 ∧ s5 ≤ 20) (m0 : HP 286 (s0) (0 : Int) M) (m1 : (0 ≤ (s0) ∧ M 78 (s0).toNat = (s1))) (m2 : (0 ≤ (s0) ∧ M 79 (s0).toNat = (s2))) (m3 : (0 ≤ (s0) ∧ M 80 (s0).toNat = (s3))) (m4 : (0 ≤ (64 * s1 + s2) ∧ M 114 (64 * s1 + s2).toNat = (s4))) (m5 : (0 ≤ (0 : Int) ∧ M 67 (0 : Int).toNat = (s5))) (f0 : 0 ≤ (s3 + (-1) * s4)) (f1 : 0 ≤ ((-1) * s0 + s5 - 1)) (hG : gI M) : (HP 286 (s0 + 1) (0 : Int) M ∧ True) := by
  obtain ⟨k0, k1, k2, h⟩ := Eq.mp hp_286 m0
  have ek : k0 = s0.toNat := by omega
  subst ek
  have hR := dR_lt 0 M
  have va : dRa 0 M s0.toNat = s1.toNat := dRa_v (by omega) (by omega) (by rw [show 20 * 0 + s0.toNat = (s0).toNat by omega, m1.2]; omega)
  have vb : dRb 0 M s0.toNat = s2.toNat := dRb_v (by omega) (by omega) (by rw [show 20 * 0 + s0.toNat = (s0).toNat by omega, m2.2]; omega)
  have vm : dRm 0 M s0.toNat = s3 := dRm_v (by omega) (by rw [show 20 * 0 + s0.toNat = (s0).toNat by omega, m3.2])
  have vf : dfar M s1.toNat s2.toNat = s4 := (dfar_v (by omega) (by omega)).trans (by rw [show 64 * s1.toNat + s2.toNat = (64 * s1 + s2).toNat by omega]; exact m4.2)
  exact ⟨Eq.mpr hp_286 ⟨s0.toNat + 1, by omega, by omega, dr_s h (hR _).1 (hR _).2 (by rw [va, vb, vm, vf]; omega)⟩, trivial⟩
theorem rul_738 : Rul r_738 := by
  refine ⟨fun _ ρ M hm hB hF hG => ?_, fun gi gv hg => (by cases hg)⟩
  have H := cr_738 M (ρ 0) (ρ 1) (ρ 2) (ρ 3) (ρ 4) (ρ 5) (hB _ List.mem_cons_self) (hB _ (List.mem_cons_of_mem _ List.mem_cons_self)) (hB _ (List.mem_cons_of_mem _ (List.mem_cons_of_mem _ List.mem_cons_self))) (hB _ (List.mem_cons_of_mem _ (List.mem_cons_of_mem _ (List.mem_cons_of_mem _ List.mem_cons_self)))) (hB _ (List.mem_cons_of_mem _ (List.mem_cons_of_mem _ (List.mem_cons_of_mem _ (List.mem_cons_of_mem _ List.mem_cons_self))))) (hB _ (List.mem_cons_of_mem _ (List.mem_cons_of_mem _ (List.mem_cons_of_mem _ (List.mem_cons_of_mem _ (List.mem_cons_of_mem _ List.mem_cons_self)))))) (cvp 286 (x' := ((ρ 0))) (y' := (0 : Int)) (by show 0 + (1 * ρ 0 + 0) = _; omega) (by show 0 + 0 = _; omega) (hm _ List.mem_cons_self)) (cvm (c := 78) (by decide) (x' := ((ρ 0))) (y' := ((ρ 1))) (by show 0 + (1 * ρ 0 + 0) = _; omega) (by show 0 + (1 * ρ 1 + 0) = _; omega) (hm _ (List.mem_cons_of_mem _ List.mem_cons_self))) (cvm (c := 79) (by decide) (x' := ((ρ 0))) (y' := ((ρ 2))) (by show 0 + (1 * ρ 0 + 0) = _; omega) (by show 0 + (1 * ρ 2 + 0) = _; omega) (hm _ (List.mem_cons_of_mem _ (List.mem_cons_of_mem _ List.mem_cons_self)))) (cvm (c := 80) (by decide) (x' := ((ρ 0))) (y' := ((ρ 3))) (by show 0 + (1 * ρ 0 + 0) = _; omega) (by show 0 + (1 * ρ 3 + 0) = _; omega) (hm _ (List.mem_cons_of_mem _ (List.mem_cons_of_mem _ (List.mem_cons_of_mem _ List.mem_cons_self))))) (cvm (c := 114) (by decide) (x' := (64 * (ρ 1) + (ρ 2))) (y' := ((ρ 4))) (by show 0 + (64 * ρ 1 + (1 * ρ 2 + 0)) = _; omega) (by show 0 + (1 * ρ 4 + 0) = _; omega) (hm _ (List.mem_cons_of_mem _ (List.mem_cons_of_mem _ (List.mem_cons_of_mem _ (List.mem_cons_of_mem _ List.mem_cons_self)))))) (cvm (c := 67) (by decide) (x' := (0 : Int)) (y' := ((ρ 5))) (by show 0 + 0 = _; omega) (by show 0 + (1 * ρ 5 + 0) = _; omega) (hm _ (List.mem_cons_of_mem _ (List.mem_cons_of_mem _ (List.mem_cons_of_mem _ (List.mem_cons_of_mem _ (List.mem_cons_of_mem _ List.mem_cons_self))))))) (by have h := hF _ List.mem_cons_self; have h : 0 ≤ 0 + (1 * ρ 3 + ((-1) * ρ 4 + 0)) := h; omega) (by have h := hF _ (List.mem_cons_of_mem _ List.mem_cons_self); have h : 0 ≤ (-1) + ((-1) * ρ 0 + (1 * ρ 5 + 0)) := h; omega) hG
  obtain ⟨k0, -⟩ := H
  exact ⟨_, List.mem_cons_self, ρ, fun _ _ => rfl, (okM_c (pvp 286 (by show 1 + (1 * ρ 0 + 0) = _; omega) (by show 0 + 0 = _; omega) k0) okM_n), okB_n, okF_n⟩
-- drw_0
theorem cr_739 (M : pM) (s0 s1 s2 s3 s4 s5 : Int) (b0 : 0 ≤ s0 ∧ s0 ≤ 19) (b1 : 0 ≤ s1 ∧ s1 ≤ 63) (b2 : 0 ≤ s2 ∧ s2 ≤ 63) (b3 : 0 ≤ s3 ∧ s3 ≤ 99) (b4 : 0 ≤ s4 ∧ s4 ≤ 100000) (b5 : 0 ≤ s5 ∧ s5 ≤ 20) (m0 : HP 286 (s0) (0 : Int) M) (m1 : (0 ≤ (s0) ∧ M 78 (s0).toNat = (s1))) (m2 : (0 ≤ (s0) ∧ M 79 (s0).toNat = (s2))) (m3 : (0 ≤ (s0) ∧ M 80 (s0).toNat = (s3))) (m4 : (0 ≤ (64 * s1 + s2) ∧ M 114 (64 * s1 + s2).toNat = (s4))) (m5 : (0 ≤ (0 : Int) ∧ M 67 (0 : Int).toNat = (s5))) (f0 : 0 ≤ ((-1) * s3 + s4 - 1)) (f1 : 0 ≤ ((-1) * s0 + s5 - 1)) (hG : gI M) : (HP 288 (s0) (0 : Int) (st M 114 (64 * s1 + s2).toNat (s3)) ∧ True) := by
  obtain ⟨k0, k1, k2, h⟩ := Eq.mp hp_286 m0
  have ek : k0 = s0.toNat := by omega
  subst ek
  have hR := dR_lt 0 M
  have vn : dRn 0 M = s5.toNat := dRn_v (by omega) (by have := m5.2; have this : M 67 0 = s5 := this; rw [this]; omega)
  have va : dRa 0 M s0.toNat = s1.toNat := dRa_v (by omega) (by omega) (by rw [show 20 * 0 + s0.toNat = (s0).toNat by omega, m1.2]; omega)
  have vb : dRb 0 M s0.toNat = s2.toNat := dRb_v (by omega) (by omega) (by rw [show 20 * 0 + s0.toNat = (s0).toNat by omega, m2.2]; omega)
  have vm : dRm 0 M s0.toNat = s3 := dRm_v (by omega) (by rw [show 20 * 0 + s0.toNat = (s0).toNat by omega, m3.2])
  have hs := rows_st (b := 0) (M := M) (X := 114) (I := (64 * s1 + s2).toNat) (z := (s3)) (by omega)
  have hD : ∀ i j, i < 64 → j < 64 → dfar (st M 114 (64 * s1 + s2).toNat (s3)) i j = if i = s1.toNat ∧ j = s2.toNat then (s3) else dfar M i j := dfar_st (by omega) (by omega) (by omega)
  have vf : dfar M s1.toNat s2.toNat = s4 := (dfar_v (by omega) (by omega)).trans (by rw [show 64 * s1.toNat + s2.toNat = (64 * s1 + s2).toNat by omega]; exact m4.2)
  refine ⟨Eq.mpr hp_288 ⟨s0.toNat, by omega, by omega, ?_⟩, trivial⟩
  rw [hs.1, hs.2.1, hs.2.2.1, hs.2.2.2]
  exact dr_w h (hR _).1 (hR _).2 (by rw [vn]; omega) (by rw [vm]; omega) (by rw [va, vb, vm, vf]; omega) (fun i j hi hj => by rw [va, vb, vm]; exact hD i j hi hj) hR
theorem rul_739 : Rul r_739 := by
  refine ⟨fun h => (by cases h), fun gi gv hg ρ M hm hB hF hG => ?_⟩
  obtain ⟨g1, g2⟩ := List.cons.inj (show ([aI ((0 : Int), ([(1, 64), (2, 1)] : List (Nat × Int))), aI ((0 : Int), ([(3, 1)] : List (Nat × Int)))] : List av) = [.inl gi, .inl gv] from hg)
  obtain ⟨g2, -⟩ := List.cons.inj g2
  cases g1
  cases g2
  have ei : ev ρ ((0 : Int), ([(1, 64), (2, 1)] : List (Nat × Int))) = (64 * (ρ 1) + (ρ 2)) := by show 0 + (64 * ρ 1 + (1 * ρ 2 + 0)) = _; omega
  have ew : ev ρ ((0 : Int), ([(3, 1)] : List (Nat × Int))) = ((ρ 3)) := by show 0 + (1 * ρ 3 + 0) = _; omega
  rw [show (st M (ctj r_739) (ev ρ ((0 : Int), ([(1, 64), (2, 1)] : List (Nat × Int)))).toNat (ev ρ ((0 : Int), ([(3, 1)] : List (Nat × Int))))) = (st M 114 (64 * (ρ 1) + (ρ 2)).toNat ((ρ 3))) from by rw [ei, ew]; rfl]
  have H := cr_739 M (ρ 0) (ρ 1) (ρ 2) (ρ 3) (ρ 4) (ρ 5) (hB _ List.mem_cons_self) (hB _ (List.mem_cons_of_mem _ List.mem_cons_self)) (hB _ (List.mem_cons_of_mem _ (List.mem_cons_of_mem _ List.mem_cons_self))) (hB _ (List.mem_cons_of_mem _ (List.mem_cons_of_mem _ (List.mem_cons_of_mem _ List.mem_cons_self)))) (hB _ (List.mem_cons_of_mem _ (List.mem_cons_of_mem _ (List.mem_cons_of_mem _ (List.mem_cons_of_mem _ List.mem_cons_self))))) (hB _ (List.mem_cons_of_mem _ (List.mem_cons_of_mem _ (List.mem_cons_of_mem _ (List.mem_cons_of_mem _ (List.mem_cons_of_mem _ List.mem_cons_self)))))) (cvp 286 (x' := ((ρ 0))) (y' := (0 : Int)) (by show 0 + (1 * ρ 0 + 0) = _; omega) (by show 0 + 0 = _; omega) (hm _ List.mem_cons_self)) (cvm (c := 78) (by decide) (x' := ((ρ 0))) (y' := ((ρ 1))) (by show 0 + (1 * ρ 0 + 0) = _; omega) (by show 0 + (1 * ρ 1 + 0) = _; omega) (hm _ (List.mem_cons_of_mem _ List.mem_cons_self))) (cvm (c := 79) (by decide) (x' := ((ρ 0))) (y' := ((ρ 2))) (by show 0 + (1 * ρ 0 + 0) = _; omega) (by show 0 + (1 * ρ 2 + 0) = _; omega) (hm _ (List.mem_cons_of_mem _ (List.mem_cons_of_mem _ List.mem_cons_self)))) (cvm (c := 80) (by decide) (x' := ((ρ 0))) (y' := ((ρ 3))) (by show 0 + (1 * ρ 0 + 0) = _; omega) (by show 0 + (1 * ρ 3 + 0) = _; omega) (hm _ (List.mem_cons_of_mem _ (List.mem_cons_of_mem _ (List.mem_cons_of_mem _ List.mem_cons_self))))) (cvm (c := 114) (by decide) (x' := (64 * (ρ 1) + (ρ 2))) (y' := ((ρ 4))) (by show 0 + (64 * ρ 1 + (1 * ρ 2 + 0)) = _; omega) (by show 0 + (1 * ρ 4 + 0) = _; omega) (hm _ (List.mem_cons_of_mem _ (List.mem_cons_of_mem _ (List.mem_cons_of_mem _ (List.mem_cons_of_mem _ List.mem_cons_self)))))) (cvm (c := 67) (by decide) (x' := (0 : Int)) (y' := ((ρ 5))) (by show 0 + 0 = _; omega) (by show 0 + (1 * ρ 5 + 0) = _; omega) (hm _ (List.mem_cons_of_mem _ (List.mem_cons_of_mem _ (List.mem_cons_of_mem _ (List.mem_cons_of_mem _ (List.mem_cons_of_mem _ List.mem_cons_self))))))) (by have h := hF _ List.mem_cons_self; have h : 0 ≤ (-1) + ((-1) * ρ 3 + (1 * ρ 4 + 0)) := h; omega) (by have h := hF _ (List.mem_cons_of_mem _ List.mem_cons_self); have h : 0 ≤ (-1) + ((-1) * ρ 0 + (1 * ρ 5 + 0)) := h; omega) hG
  obtain ⟨k0, -⟩ := H
  exact ⟨_, List.mem_cons_self, ρ, fun _ _ => rfl, (okM_c (pvp 288 (by show 0 + (1 * ρ 0 + 0) = _; omega) (by show 0 + 0 = _; omega) k0) okM_n), okB_n, okF_n⟩
-- drx_0
theorem cr_740 (M : pM) (s0 s1 s2 s3 s4 : Int) (b0 : 0 ≤ s0 ∧ s0 ≤ 19) (b1 : 0 ≤ s1 ∧ s1 ≤ 63) (b2 : 0 ≤ s2 ∧ s2 ≤ 63) (b3 : 0 ≤ s3 ∧ s3 ≤ 99) (b4 : 0 ≤ s4 ∧ s4 ≤ 20) (m0 : HP 288 (s0) (0 : Int) M) (m1 : (0 ≤ (s0) ∧ M 78 (s0).toNat = (s1))) (m2 : (0 ≤ (s0) ∧ M 79 (s0).toNat = (s2))) (m3 : (0 ≤ (s0) ∧ M 80 (s0).toNat = (s3))) (m4 : (0 ≤ (0 : Int) ∧ M 67 (0 : Int).toNat = (s4))) (f0 : 0 ≤ ((-1) * s0 + s4 - 1)) (hG : gI M) : (HP 286 (s0 + 1) (0 : Int) (st M 114 (s1 + 64 * s2).toNat (s3)) ∧ True) := by
  obtain ⟨k0, k1, k2, h⟩ := Eq.mp hp_288 m0
  have ek : k0 = s0.toNat := by omega
  subst ek
  have hR := dR_lt 0 M
  have vn : dRn 0 M = s4.toNat := dRn_v (by omega) (by have := m4.2; have this : M 67 0 = s4 := this; rw [this]; omega)
  have va : dRa 0 M s0.toNat = s1.toNat := dRa_v (by omega) (by omega) (by rw [show 20 * 0 + s0.toNat = (s0).toNat by omega, m1.2]; omega)
  have vb : dRb 0 M s0.toNat = s2.toNat := dRb_v (by omega) (by omega) (by rw [show 20 * 0 + s0.toNat = (s0).toNat by omega, m2.2]; omega)
  have vm : dRm 0 M s0.toNat = s3 := dRm_v (by omega) (by rw [show 20 * 0 + s0.toNat = (s0).toNat by omega, m3.2])
  have hs := rows_st (b := 0) (M := M) (X := 114) (I := (s1 + 64 * s2).toNat) (z := (s3)) (by omega)
  have hD : ∀ i j, i < 64 → j < 64 → dfar (st M 114 (s1 + 64 * s2).toNat (s3)) i j = if i = s2.toNat ∧ j = s1.toNat then (s3) else dfar M i j := dfar_st (by omega) (by omega) (by omega)
  refine ⟨Eq.mpr hp_286 ⟨s0.toNat + 1, by omega, by omega, ?_⟩, trivial⟩
  rw [hs.1, hs.2.1, hs.2.2.1, hs.2.2.2]
  exact dr_x h (hR _).1 (hR _).2 (by rw [vn]; omega) (by rw [vm]; omega) (fun i j hi hj => by rw [vb, va, vm]; exact hD i j hi hj) hR
theorem rul_740 : Rul r_740 := by
  refine ⟨fun h => (by cases h), fun gi gv hg ρ M hm hB hF hG => ?_⟩
  obtain ⟨g1, g2⟩ := List.cons.inj (show ([aI ((0 : Int), ([(1, 1), (2, 64)] : List (Nat × Int))), aI ((0 : Int), ([(3, 1)] : List (Nat × Int)))] : List av) = [.inl gi, .inl gv] from hg)
  obtain ⟨g2, -⟩ := List.cons.inj g2
  cases g1
  cases g2
  have ei : ev ρ ((0 : Int), ([(1, 1), (2, 64)] : List (Nat × Int))) = ((ρ 1) + 64 * (ρ 2)) := by show 0 + (1 * ρ 1 + (64 * ρ 2 + 0)) = _; omega
  have ew : ev ρ ((0 : Int), ([(3, 1)] : List (Nat × Int))) = ((ρ 3)) := by show 0 + (1 * ρ 3 + 0) = _; omega
  rw [show (st M (ctj r_740) (ev ρ ((0 : Int), ([(1, 1), (2, 64)] : List (Nat × Int)))).toNat (ev ρ ((0 : Int), ([(3, 1)] : List (Nat × Int))))) = (st M 114 ((ρ 1) + 64 * (ρ 2)).toNat ((ρ 3))) from by rw [ei, ew]; rfl]
  have H := cr_740 M (ρ 0) (ρ 1) (ρ 2) (ρ 3) (ρ 4) (hB _ List.mem_cons_self) (hB _ (List.mem_cons_of_mem _ List.mem_cons_self)) (hB _ (List.mem_cons_of_mem _ (List.mem_cons_of_mem _ List.mem_cons_self))) (hB _ (List.mem_cons_of_mem _ (List.mem_cons_of_mem _ (List.mem_cons_of_mem _ List.mem_cons_self)))) (hB _ (List.mem_cons_of_mem _ (List.mem_cons_of_mem _ (List.mem_cons_of_mem _ (List.mem_cons_of_mem _ List.mem_cons_self))))) (cvp 288 (x' := ((ρ 0))) (y' := (0 : Int)) (by show 0 + (1 * ρ 0 + 0) = _; omega) (by show 0 + 0 = _; omega) (hm _ List.mem_cons_self)) (cvm (c := 78) (by decide) (x' := ((ρ 0))) (y' := ((ρ 1))) (by show 0 + (1 * ρ 0 + 0) = _; omega) (by show 0 + (1 * ρ 1 + 0) = _; omega) (hm _ (List.mem_cons_of_mem _ List.mem_cons_self))) (cvm (c := 79) (by decide) (x' := ((ρ 0))) (y' := ((ρ 2))) (by show 0 + (1 * ρ 0 + 0) = _; omega) (by show 0 + (1 * ρ 2 + 0) = _; omega) (hm _ (List.mem_cons_of_mem _ (List.mem_cons_of_mem _ List.mem_cons_self)))) (cvm (c := 80) (by decide) (x' := ((ρ 0))) (y' := ((ρ 3))) (by show 0 + (1 * ρ 0 + 0) = _; omega) (by show 0 + (1 * ρ 3 + 0) = _; omega) (hm _ (List.mem_cons_of_mem _ (List.mem_cons_of_mem _ (List.mem_cons_of_mem _ List.mem_cons_self))))) (cvm (c := 67) (by decide) (x' := (0 : Int)) (y' := ((ρ 4))) (by show 0 + 0 = _; omega) (by show 0 + (1 * ρ 4 + 0) = _; omega) (hm _ (List.mem_cons_of_mem _ (List.mem_cons_of_mem _ (List.mem_cons_of_mem _ (List.mem_cons_of_mem _ List.mem_cons_self)))))) (by have h := hF _ List.mem_cons_self; have h : 0 ≤ (-1) + ((-1) * ρ 0 + (1 * ρ 4 + 0)) := h; omega) hG
  obtain ⟨k0, -⟩ := H
  exact ⟨_, List.mem_cons_self, ρ, fun _ _ => rfl, (okM_c (pvp 286 (by show 1 + (1 * ρ 0 + 0) = _; omega) (by show 0 + 0 = _; omega) k0) okM_n), okB_n, okF_n⟩
-- dre_0
theorem cr_741 (M : pM) (s0 s1 : Int) (b0 : 0 ≤ s0 ∧ s0 ≤ 20) (b1 : 0 ≤ s1 ∧ s1 ≤ 20) (m0 : HP 286 (s0) (0 : Int) M) (m1 : (0 ≤ (0 : Int) ∧ M 67 (0 : Int).toNat = (s1))) (f0 : 0 ≤ (s0 + (-1) * s1)) (hG : gI M) : (HP 290 (0 : Int) (0 : Int) M ∧ True) := by
  obtain ⟨k0, k1, k2, h⟩ := Eq.mp hp_286 m0
  have ek : k0 = s0.toNat := by omega
  subst ek
  have vn : dRn 0 M = s1.toNat := dRn_v (by omega) (by have := m1.2; have this : M 67 0 = s1 := this; rw [this]; omega)
  exact ⟨Eq.mpr hp_290 ⟨0, 0, by omega, by omega, by omega, dw_0 h (by rw [vn]; omega)⟩, trivial⟩
theorem rul_741 : Rul r_741 := by
  refine ⟨fun _ ρ M hm hB hF hG => ?_, fun gi gv hg => (by cases hg)⟩
  have H := cr_741 M (ρ 0) (ρ 1) (hB _ List.mem_cons_self) (hB _ (List.mem_cons_of_mem _ List.mem_cons_self)) (cvp 286 (x' := ((ρ 0))) (y' := (0 : Int)) (by show 0 + (1 * ρ 0 + 0) = _; omega) (by show 0 + 0 = _; omega) (hm _ List.mem_cons_self)) (cvm (c := 67) (by decide) (x' := (0 : Int)) (y' := ((ρ 1))) (by show 0 + 0 = _; omega) (by show 0 + (1 * ρ 1 + 0) = _; omega) (hm _ (List.mem_cons_of_mem _ List.mem_cons_self))) (by have h := hF _ List.mem_cons_self; have h : 0 ≤ 0 + (1 * ρ 0 + ((-1) * ρ 1 + 0)) := h; omega) hG
  obtain ⟨k0, -⟩ := H
  exact ⟨_, List.mem_cons_self, ρ, fun _ _ => rfl, (okM_c (pvp 290 (by show 0 + 0 = _; omega) (by show 0 + 0 = _; omega) k0) okM_n), okB_n, okF_n⟩
-- dwk_0
theorem cr_742 (M : pM) (s0 s1 s2 s3 s4 s5 : Int) (b0 : 0 ≤ s0 ∧ s0 ≤ 63) (b1 : 0 ≤ s1 ∧ s1 ≤ 63) (b2 : 0 ≤ s2 ∧ s2 ≤ 63) (b3 : 0 ≤ s3 ∧ s3 ≤ 100000) (b4 : 0 ≤ s4 ∧ s4 ≤ 100000) (b5 : 0 ≤ s5 ∧ s5 ≤ 100000) (m0 : HP 290 (8192 * s0 + 64 * s1 + s2) (0 : Int) M) (m1 : (0 ≤ (s0 + 64 * s1) ∧ M 114 (s0 + 64 * s1).toNat = (s3))) (m2 : (0 ≤ (64 * s0 + s2) ∧ M 114 (64 * s0 + s2).toNat = (s4))) (m3 : (0 ≤ (64 * s1 + s2) ∧ M 114 (64 * s1 + s2).toNat = (s5))) (f0 : 0 ≤ (s3 + s4 + (-1) * s5)) (hG : gI M) : (HP 290 (8192 * s0 + 64 * s1 + s2 + 1) (0 : Int) M ∧ True) := by
  obtain ⟨j0, t0, t1, t2, t3, h⟩ := Eq.mp hp_290 m0
  have ej : j0 = s0.toNat := by omega
  have et : t0 = 64 * s1.toNat + s2.toNat := by omega
  subst ej; subst et
  have vu : dfar M s1.toNat s0.toNat = s3 := (dfar_v (by omega) (by omega)).trans (by rw [show 64 * s1.toNat + s0.toNat = (s0 + 64 * s1).toNat by omega]; exact m1.2)
  have vv : dfar M s0.toNat s2.toNat = s4 := (dfar_v (by omega) (by omega)).trans (by rw [show 64 * s0.toNat + s2.toNat = (64 * s0 + s2).toNat by omega]; exact m2.2)
  have vx : dfar M s1.toNat s2.toNat = s5 := (dfar_v (by omega) (by omega)).trans (by rw [show 64 * s1.toNat + s2.toNat = (64 * s1 + s2).toNat by omega]; exact m3.2)
  exact ⟨Eq.mpr hp_290 ⟨s0.toNat, 64 * s1.toNat + s2.toNat + 1, by omega, by omega, by omega, dw_s h (by omega) (by omega) (by omega) rfl (fun i j hi hj => by
      by_cases q : i = s1.toNat ∧ j = s2.toNat
      · rw [if_pos q, q.1, q.2, vu, vv, vx]; omega
      · rw [if_neg q])⟩, trivial⟩
theorem rul_742 : Rul r_742 := by
  refine ⟨fun _ ρ M hm hB hF hG => ?_, fun gi gv hg => (by cases hg)⟩
  have H := cr_742 M (ρ 0) (ρ 1) (ρ 2) (ρ 3) (ρ 4) (ρ 5) (hB _ List.mem_cons_self) (hB _ (List.mem_cons_of_mem _ List.mem_cons_self)) (hB _ (List.mem_cons_of_mem _ (List.mem_cons_of_mem _ List.mem_cons_self))) (hB _ (List.mem_cons_of_mem _ (List.mem_cons_of_mem _ (List.mem_cons_of_mem _ List.mem_cons_self)))) (hB _ (List.mem_cons_of_mem _ (List.mem_cons_of_mem _ (List.mem_cons_of_mem _ (List.mem_cons_of_mem _ List.mem_cons_self))))) (hB _ (List.mem_cons_of_mem _ (List.mem_cons_of_mem _ (List.mem_cons_of_mem _ (List.mem_cons_of_mem _ (List.mem_cons_of_mem _ List.mem_cons_self)))))) (cvp 290 (x' := (8192 * (ρ 0) + 64 * (ρ 1) + (ρ 2))) (y' := (0 : Int)) (by show 0 + (8192 * ρ 0 + (64 * ρ 1 + (1 * ρ 2 + 0))) = _; omega) (by show 0 + 0 = _; omega) (hm _ List.mem_cons_self)) (cvm (c := 114) (by decide) (x' := ((ρ 0) + 64 * (ρ 1))) (y' := ((ρ 3))) (by show 0 + (1 * ρ 0 + (64 * ρ 1 + 0)) = _; omega) (by show 0 + (1 * ρ 3 + 0) = _; omega) (hm _ (List.mem_cons_of_mem _ List.mem_cons_self))) (cvm (c := 114) (by decide) (x' := (64 * (ρ 0) + (ρ 2))) (y' := ((ρ 4))) (by show 0 + (64 * ρ 0 + (1 * ρ 2 + 0)) = _; omega) (by show 0 + (1 * ρ 4 + 0) = _; omega) (hm _ (List.mem_cons_of_mem _ (List.mem_cons_of_mem _ List.mem_cons_self)))) (cvm (c := 114) (by decide) (x' := (64 * (ρ 1) + (ρ 2))) (y' := ((ρ 5))) (by show 0 + (64 * ρ 1 + (1 * ρ 2 + 0)) = _; omega) (by show 0 + (1 * ρ 5 + 0) = _; omega) (hm _ (List.mem_cons_of_mem _ (List.mem_cons_of_mem _ (List.mem_cons_of_mem _ List.mem_cons_self))))) (by have h := hF _ List.mem_cons_self; have h : 0 ≤ 0 + (1 * ρ 3 + (1 * ρ 4 + ((-1) * ρ 5 + 0))) := h; omega) hG
  obtain ⟨k0, -⟩ := H
  exact ⟨_, List.mem_cons_self, ρ, fun _ _ => rfl, (okM_c (pvp 290 (by show 1 + (8192 * ρ 0 + (64 * ρ 1 + (1 * ρ 2 + 0))) = _; omega) (by show 0 + 0 = _; omega) k0) okM_n), okB_n, okF_n⟩
-- dww_0
theorem cr_743 (M : pM) (s0 s1 s2 s3 s4 s5 : Int) (b0 : 0 ≤ s0 ∧ s0 ≤ 63) (b1 : 0 ≤ s1 ∧ s1 ≤ 63) (b2 : 0 ≤ s2 ∧ s2 ≤ 63) (b3 : 0 ≤ s3 ∧ s3 ≤ 100000) (b4 : 0 ≤ s4 ∧ s4 ≤ 100000) (b5 : 0 ≤ s5 ∧ s5 ≤ 100000) (m0 : HP 290 (8192 * s0 + 64 * s1 + s2) (0 : Int) M) (m1 : (0 ≤ (s0 + 64 * s1) ∧ M 114 (s0 + 64 * s1).toNat = (s3))) (m2 : (0 ≤ (64 * s0 + s2) ∧ M 114 (64 * s0 + s2).toNat = (s4))) (m3 : (0 ≤ (64 * s1 + s2) ∧ M 114 (64 * s1 + s2).toNat = (s5))) (f0 : 0 ≤ ((-1) * s3 + (-1) * s4 + s5 - 1)) (hG : gI M) : (HP 290 (8192 * s0 + 64 * s1 + s2 + 1) (0 : Int) (st M 114 (64 * s1 + s2).toNat (s3 + s4)) ∧ True) := by
  obtain ⟨j0, t0, t1, t2, t3, h⟩ := Eq.mp hp_290 m0
  have ej : j0 = s0.toNat := by omega
  have et : t0 = 64 * s1.toNat + s2.toNat := by omega
  subst ej; subst et
  have vu : dfar M s1.toNat s0.toNat = s3 := (dfar_v (by omega) (by omega)).trans (by rw [show 64 * s1.toNat + s0.toNat = (s0 + 64 * s1).toNat by omega]; exact m1.2)
  have vv : dfar M s0.toNat s2.toNat = s4 := (dfar_v (by omega) (by omega)).trans (by rw [show 64 * s0.toNat + s2.toNat = (64 * s0 + s2).toNat by omega]; exact m2.2)
  have vx : dfar M s1.toNat s2.toNat = s5 := (dfar_v (by omega) (by omega)).trans (by rw [show 64 * s1.toNat + s2.toNat = (64 * s1 + s2).toNat by omega]; exact m3.2)
  have hs := rows_st (b := 0) (M := M) (X := 114) (I := (64 * s1 + s2).toNat) (z := (s3 + s4)) (by omega)
  have hD : ∀ i j, i < 64 → j < 64 → dfar (st M 114 (64 * s1 + s2).toNat (s3 + s4)) i j = if i = s1.toNat ∧ j = s2.toNat then (s3 + s4) else dfar M i j := dfar_st (by omega) (by omega) (by omega)
  refine ⟨Eq.mpr hp_290 ⟨s0.toNat, 64 * s1.toNat + s2.toNat + 1, by omega, by omega, by omega, ?_⟩, trivial⟩
  rw [hs.1, hs.2.1, hs.2.2.1, hs.2.2.2]
  refine dw_s h (by omega) (by omega) (by omega) rfl (fun i j hi hj => ?_)
  rw [hD i j hi hj]
  by_cases q : i = s1.toNat ∧ j = s2.toNat
  · rw [if_pos q, if_pos q, vu, vv, vx]; omega
  · rw [if_neg q, if_neg q]
theorem rul_743 : Rul r_743 := by
  refine ⟨fun h => (by cases h), fun gi gv hg ρ M hm hB hF hG => ?_⟩
  obtain ⟨g1, g2⟩ := List.cons.inj (show ([aI ((0 : Int), ([(1, 64), (2, 1)] : List (Nat × Int))), aI ((0 : Int), ([(3, 1), (4, 1)] : List (Nat × Int)))] : List av) = [.inl gi, .inl gv] from hg)
  obtain ⟨g2, -⟩ := List.cons.inj g2
  cases g1
  cases g2
  have ei : ev ρ ((0 : Int), ([(1, 64), (2, 1)] : List (Nat × Int))) = (64 * (ρ 1) + (ρ 2)) := by show 0 + (64 * ρ 1 + (1 * ρ 2 + 0)) = _; omega
  have ew : ev ρ ((0 : Int), ([(3, 1), (4, 1)] : List (Nat × Int))) = ((ρ 3) + (ρ 4)) := by show 0 + (1 * ρ 3 + (1 * ρ 4 + 0)) = _; omega
  rw [show (st M (ctj r_743) (ev ρ ((0 : Int), ([(1, 64), (2, 1)] : List (Nat × Int)))).toNat (ev ρ ((0 : Int), ([(3, 1), (4, 1)] : List (Nat × Int))))) = (st M 114 (64 * (ρ 1) + (ρ 2)).toNat ((ρ 3) + (ρ 4))) from by rw [ei, ew]; rfl]
  have H := cr_743 M (ρ 0) (ρ 1) (ρ 2) (ρ 3) (ρ 4) (ρ 5) (hB _ List.mem_cons_self) (hB _ (List.mem_cons_of_mem _ List.mem_cons_self)) (hB _ (List.mem_cons_of_mem _ (List.mem_cons_of_mem _ List.mem_cons_self))) (hB _ (List.mem_cons_of_mem _ (List.mem_cons_of_mem _ (List.mem_cons_of_mem _ List.mem_cons_self)))) (hB _ (List.mem_cons_of_mem _ (List.mem_cons_of_mem _ (List.mem_cons_of_mem _ (List.mem_cons_of_mem _ List.mem_cons_self))))) (hB _ (List.mem_cons_of_mem _ (List.mem_cons_of_mem _ (List.mem_cons_of_mem _ (List.mem_cons_of_mem _ (List.mem_cons_of_mem _ List.mem_cons_self)))))) (cvp 290 (x' := (8192 * (ρ 0) + 64 * (ρ 1) + (ρ 2))) (y' := (0 : Int)) (by show 0 + (8192 * ρ 0 + (64 * ρ 1 + (1 * ρ 2 + 0))) = _; omega) (by show 0 + 0 = _; omega) (hm _ List.mem_cons_self)) (cvm (c := 114) (by decide) (x' := ((ρ 0) + 64 * (ρ 1))) (y' := ((ρ 3))) (by show 0 + (1 * ρ 0 + (64 * ρ 1 + 0)) = _; omega) (by show 0 + (1 * ρ 3 + 0) = _; omega) (hm _ (List.mem_cons_of_mem _ List.mem_cons_self))) (cvm (c := 114) (by decide) (x' := (64 * (ρ 0) + (ρ 2))) (y' := ((ρ 4))) (by show 0 + (64 * ρ 0 + (1 * ρ 2 + 0)) = _; omega) (by show 0 + (1 * ρ 4 + 0) = _; omega) (hm _ (List.mem_cons_of_mem _ (List.mem_cons_of_mem _ List.mem_cons_self)))) (cvm (c := 114) (by decide) (x' := (64 * (ρ 1) + (ρ 2))) (y' := ((ρ 5))) (by show 0 + (64 * ρ 1 + (1 * ρ 2 + 0)) = _; omega) (by show 0 + (1 * ρ 5 + 0) = _; omega) (hm _ (List.mem_cons_of_mem _ (List.mem_cons_of_mem _ (List.mem_cons_of_mem _ List.mem_cons_self))))) (by have h := hF _ List.mem_cons_self; have h : 0 ≤ (-1) + ((-1) * ρ 3 + ((-1) * ρ 4 + (1 * ρ 5 + 0))) := h; omega) hG
  obtain ⟨k0, -⟩ := H
  exact ⟨_, List.mem_cons_self, ρ, fun _ _ => rfl, (okM_c (pvp 290 (by show 1 + (8192 * ρ 0 + (64 * ρ 1 + (1 * ρ 2 + 0))) = _; omega) (by show 0 + 0 = _; omega) k0) okM_n), okB_n, okF_n⟩
-- dwc_0
theorem cr_744 (M : pM) (s0 s1 s2 : Int) (b0 : 0 ≤ s0 ∧ s0 ≤ 63) (b1 : 0 ≤ s1 ∧ s1 ≤ 63) (b2 : 0 ≤ s2 ∧ s2 ≤ 64) (m0 : HP 290 (8192 * s0 + 64 * s1 + s2) (0 : Int) M) (f0 : 0 ≤ (s2 - 64)) (hG : gI M) : (HP 290 (8192 * s0 + 64 * s1 + 64) (0 : Int) M ∧ True) := by
  obtain ⟨j0, t0, t1, t2, t3, h⟩ := Eq.mp hp_290 m0
  exact ⟨Eq.mpr hp_290 ⟨j0, t0, t1, t2, by omega, h⟩, trivial⟩
theorem rul_744 : Rul r_744 := by
  refine ⟨fun _ ρ M hm hB hF hG => ?_, fun gi gv hg => (by cases hg)⟩
  have H := cr_744 M (ρ 0) (ρ 1) (ρ 2) (hB _ List.mem_cons_self) (hB _ (List.mem_cons_of_mem _ List.mem_cons_self)) (hB _ (List.mem_cons_of_mem _ (List.mem_cons_of_mem _ List.mem_cons_self))) (cvp 290 (x' := (8192 * (ρ 0) + 64 * (ρ 1) + (ρ 2))) (y' := (0 : Int)) (by show 0 + (8192 * ρ 0 + (64 * ρ 1 + (1 * ρ 2 + 0))) = _; omega) (by show 0 + 0 = _; omega) (hm _ List.mem_cons_self)) (by have h := hF _ List.mem_cons_self; have h : 0 ≤ (-64) + (1 * ρ 2 + 0) := h; omega) hG
  obtain ⟨k0, -⟩ := H
  exact ⟨_, List.mem_cons_self, ρ, fun _ _ => rfl, (okM_c (pvp 290 (by show 64 + (8192 * ρ 0 + (64 * ρ 1 + 0)) = _; omega) (by show 0 + 0 = _; omega) k0) okM_n), okB_n, okF_n⟩
-- dwe_0
theorem cr_745 (M : pM) (s0 s1 : Int) (b0 : 0 ≤ s0 ∧ s0 ≤ 63) (b1 : 0 ≤ s1 ∧ s1 ≤ 64) (m0 : HP 290 (8192 * s0 + 64 * s1) (0 : Int) M) (f0 : 0 ≤ (s1 - 64)) (hG : gI M) : (HP 290 (8192 * s0 + 8192) (0 : Int) M ∧ True) := by
  obtain ⟨j0, t0, t1, t2, t3, h⟩ := Eq.mp hp_290 m0
  have ej : j0 = s0.toNat := by omega
  have et : t0 = 4096 := by omega
  subst ej; subst et
  have hR := dR_lt 0 M
  exact ⟨Eq.mpr hp_290 ⟨s0.toNat + 1, 0, by omega, by omega, by omega, dw_e h (by omega) hR⟩, trivial⟩
theorem rul_745 : Rul r_745 := by
  refine ⟨fun _ ρ M hm hB hF hG => ?_, fun gi gv hg => (by cases hg)⟩
  have H := cr_745 M (ρ 0) (ρ 1) (hB _ List.mem_cons_self) (hB _ (List.mem_cons_of_mem _ List.mem_cons_self)) (cvp 290 (x' := (8192 * (ρ 0) + 64 * (ρ 1))) (y' := (0 : Int)) (by show 0 + (8192 * ρ 0 + (64 * ρ 1 + 0)) = _; omega) (by show 0 + 0 = _; omega) (hm _ List.mem_cons_self)) (by have h := hF _ List.mem_cons_self; have h : 0 ≤ (-64) + (1 * ρ 1 + 0) := h; omega) hG
  obtain ⟨k0, -⟩ := H
  exact ⟨_, List.mem_cons_self, ρ, fun _ _ => rfl, (okM_c (pvp 290 (by show 8192 + (8192 * ρ 0 + 0) = _; omega) (by show 0 + 0 = _; omega) k0) okM_n), okB_n, okF_n⟩
-- dwf_0
theorem cr_746 (M : pM) (s0 : Int) (b0 : 0 ≤ s0 ∧ s0 ≤ 64) (m0 : HP 290 (8192 * s0) (0 : Int) M) (f0 : 0 ≤ (s0 - 64)) (hG : gI M) : (HP 292 (0 : Int) (0 : Int) M ∧ True) := by
  obtain ⟨j0, t0, t1, t2, t3, h⟩ := Eq.mp hp_290 m0
  have ej : j0 = 64 := by omega
  have et : t0 = 0 := by omega
  subst ej; subst et
  have hR := dR_lt 0 M
  exact ⟨Eq.mpr hp_292 (dw_f h hR), trivial⟩
theorem rul_746 : Rul r_746 := by
  refine ⟨fun _ ρ M hm hB hF hG => ?_, fun gi gv hg => (by cases hg)⟩
  have H := cr_746 M (ρ 0) (hB _ List.mem_cons_self) (cvp 290 (x' := (8192 * (ρ 0))) (y' := (0 : Int)) (by show 0 + (8192 * ρ 0 + 0) = _; omega) (by show 0 + 0 = _; omega) (hm _ List.mem_cons_self)) (by have h := hF _ List.mem_cons_self; have h : 0 ≤ (-64) + (1 * ρ 0 + 0) := h; omega) hG
  obtain ⟨k0, -⟩ := H
  exact ⟨_, List.mem_cons_self, ρ, fun _ _ => rfl, (okM_c (pvp 292 (by show 0 + 0 = _; omega) (by show 0 + 0 = _; omega) k0) okM_n), okB_n, okF_n⟩
-- dfo_0
theorem cr_747 (M : pM) (m0 : HP 294 (0 : Int) (0 : Int) M) (m1 : (0 ≤ (34 : Int) ∧ M 61 (34 : Int).toNat = (0 : Int))) (hG : gI M) : (HP 292 (0 : Int) (0 : Int) M ∧ True) := by
  have e : M 61 34 = 0 := m1.2
  rcases Eq.mp hp_294 m0 with ⟨h1, h2⟩ | ⟨h1, h2⟩
  · exact ⟨Eq.mpr hp_292 h2, trivial⟩
  · omega
theorem rul_747 : Rul r_747 := by
  refine ⟨fun _ ρ M hm hB hF hG => ?_, fun gi gv hg => (by cases hg)⟩
  have H := cr_747 M (cvp 294 (x' := (0 : Int)) (y' := (0 : Int)) (by show 0 + 0 = _; omega) (by show 0 + 0 = _; omega) (hm _ List.mem_cons_self)) (cvm (c := 61) (by decide) (x' := (34 : Int)) (y' := (0 : Int)) (by show 34 + 0 = _; omega) (by show 0 + 0 = _; omega) (hm _ (List.mem_cons_of_mem _ List.mem_cons_self))) hG
  obtain ⟨k0, -⟩ := H
  exact ⟨_, List.mem_cons_self, ρ, fun _ _ => rfl, (okM_c (pvp 292 (by show 0 + 0 = _; omega) (by show 0 + 0 = _; omega) k0) okM_n), okB_n, okF_n⟩
-- dfi_0
theorem cr_748 (M : pM) (m0 : HP 292 (0 : Int) (0 : Int) M) (m1 : (0 ≤ (34 : Int) ∧ M 61 (34 : Int).toNat = (0 : Int))) (hG : gI M) : (HP 294 (0 : Int) (0 : Int) M ∧ True) := by
  have e : M 61 34 = 0 := m1.2
  exact ⟨Eq.mpr hp_294 (Or.inl ⟨e, Eq.mp hp_292 m0⟩), trivial⟩
theorem rul_748 : Rul r_748 := by
  refine ⟨fun _ ρ M hm hB hF hG => ?_, fun gi gv hg => (by cases hg)⟩
  have H := cr_748 M (cvp 292 (x' := (0 : Int)) (y' := (0 : Int)) (by show 0 + 0 = _; omega) (by show 0 + 0 = _; omega) (hm _ List.mem_cons_self)) (cvm (c := 61) (by decide) (x' := (34 : Int)) (y' := (0 : Int)) (by show 34 + 0 = _; omega) (by show 0 + 0 = _; omega) (hm _ (List.mem_cons_of_mem _ List.mem_cons_self))) hG
  obtain ⟨k0, -⟩ := H
  exact ⟨_, List.mem_cons_self, ρ, fun _ _ => rfl, (okM_c (pvp 294 (by show 0 + 0 = _; omega) (by show 0 + 0 = _; omega) k0) okM_n), okB_n, okF_n⟩
-- bs0_0
theorem cr_749 (M : pM) (s0 s1 : Int) (b0 : 0 ≤ s0 ∧ s0 ≤ 63) (b1 : 0 ≤ s1 ∧ s1 ≤ 20) (m0 : HP 295 (64 : Int) (1000000 : Int) M) (m1 : HP 292 (0 : Int) (0 : Int) M) (m2 : (0 ≤ (0 : Int) ∧ M 67 (0 : Int).toNat = (s1))) (hG : gI M) : (HP 296 (s0) (0 : Int) (st M 57 (s0).toNat (0 : Int)) ∧ True) := by
  have vn : dRn 0 M = s1.toNat := dRn_v (by omega) (by have := m2.2; have this : M 67 0 = s1 := this; rw [this]; omega)
  have ho := dok_b (b := 0) (M := M) (f := s0.toNat) (Eq.mp hp_292 m1) (by omega)
  have hs := rows_st (b := 0) (M := M) (X := 57) (I := (s0).toNat) (z := (0 : Int)) (by omega)
  obtain ⟨h1, h2⟩ := Eq.mp hp_295 m0
  refine ⟨Eq.mpr hp_296 ⟨s0.toNat, 0, by omega, by omega, by omega, ?_⟩, trivial⟩
  rw [hs.1, hs.2.1, hs.2.2.1, hs.2.2.2]
  rw [dDf_st (by omega)]
  refine bs_0 ho (by rw [vn]; omega) (fun v hv => ?_) (by omega)
  rw [dDd_st (a := s0.toNat) rfl v hv]
  by_cases e : v = s0.toNat
  · rw [if_pos e, if_pos e]
  · rw [if_neg e, if_neg e, dDd_v hv]
    exact h2 v (by omega)
theorem rul_749 : Rul r_749 := by
  refine ⟨fun h => (by cases h), fun gi gv hg ρ M hm hB hF hG => ?_⟩
  obtain ⟨g1, g2⟩ := List.cons.inj (show ([aI ((0 : Int), ([(0, 1)] : List (Nat × Int))), aI ((0 : Int), ([] : List (Nat × Int)))] : List av) = [.inl gi, .inl gv] from hg)
  obtain ⟨g2, -⟩ := List.cons.inj g2
  cases g1
  cases g2
  have ei : ev ρ ((0 : Int), ([(0, 1)] : List (Nat × Int))) = ((ρ 0)) := by show 0 + (1 * ρ 0 + 0) = _; omega
  have ew : ev ρ ((0 : Int), ([] : List (Nat × Int))) = (0 : Int) := by show 0 + 0 = _; omega
  rw [show (st M (ctj r_749) (ev ρ ((0 : Int), ([(0, 1)] : List (Nat × Int)))).toNat (ev ρ ((0 : Int), ([] : List (Nat × Int))))) = (st M 57 ((ρ 0)).toNat (0 : Int)) from by rw [ei, ew]; rfl]
  have H := cr_749 M (ρ 0) (ρ 1) (hB _ List.mem_cons_self) (hB _ (List.mem_cons_of_mem _ List.mem_cons_self)) (cvp 295 (x' := (64 : Int)) (y' := (1000000 : Int)) (by show 64 + 0 = _; omega) (by show 1000000 + 0 = _; omega) (hm _ List.mem_cons_self)) (cvp 292 (x' := (0 : Int)) (y' := (0 : Int)) (by show 0 + 0 = _; omega) (by show 0 + 0 = _; omega) (hm _ (List.mem_cons_of_mem _ List.mem_cons_self))) (cvm (c := 67) (by decide) (x' := (0 : Int)) (y' := ((ρ 1))) (by show 0 + 0 = _; omega) (by show 0 + (1 * ρ 1 + 0) = _; omega) (hm _ (List.mem_cons_of_mem _ (List.mem_cons_of_mem _ List.mem_cons_self)))) hG
  obtain ⟨k0, -⟩ := H
  exact ⟨_, List.mem_cons_self, ρ, fun _ _ => rfl, (okM_c (pvp 296 (by show 0 + (1 * ρ 0 + 0) = _; omega) (by show 0 + 0 = _; omega) k0) okM_n), okB_n, okF_n⟩
-- bin_0
theorem cr_750 (M : pM) (s0 s1 : Int) (b0 : 0 ≤ s0 ∧ s0 ≤ 63) (b1 : 0 ≤ s1 ∧ s1 ≤ 20) (m0 : HP 296 (s0 + 64 * s1) (0 : Int) M) (m1 : HP 292 (0 : Int) (0 : Int) M) (hG : gI M) : (HP 298 (s0 + 2048 * s1) (0 : Int) M ∧ True) := by
  obtain ⟨f0, t0, f1, t1, t2, h⟩ := Eq.mp hp_296 m0
  have ef : f0 = s0.toNat := by omega
  have et : t0 = s1.toNat := by omega
  subst ef; subst et
  have ho := dok_b (b := 0) (M := M) (f := s0.toNat) (Eq.mp hp_292 m1) (by omega)
  have hR := dR_lt 0 M
  exact ⟨Eq.mpr hp_298 ⟨s0.toNat, 0, s1.toNat, by omega, by omega, by omega, by omega, bi_0 hR ho (by omega) (fun r _ => dRm_0 hG (by decide) r) h⟩, trivial⟩
theorem rul_750 : Rul r_750 := by
  refine ⟨fun _ ρ M hm hB hF hG => ?_, fun gi gv hg => (by cases hg)⟩
  have H := cr_750 M (ρ 0) (ρ 1) (hB _ List.mem_cons_self) (hB _ (List.mem_cons_of_mem _ List.mem_cons_self)) (cvp 296 (x' := ((ρ 0) + 64 * (ρ 1))) (y' := (0 : Int)) (by show 0 + (1 * ρ 0 + (64 * ρ 1 + 0)) = _; omega) (by show 0 + 0 = _; omega) (hm _ List.mem_cons_self)) (cvp 292 (x' := (0 : Int)) (y' := (0 : Int)) (by show 0 + 0 = _; omega) (by show 0 + 0 = _; omega) (hm _ (List.mem_cons_of_mem _ List.mem_cons_self))) hG
  obtain ⟨k0, -⟩ := H
  exact ⟨_, List.mem_cons_self, ρ, fun _ _ => rfl, (okM_c (pvp 298 (by show 0 + (1 * ρ 0 + (2048 * ρ 1 + 0)) = _; omega) (by show 0 + 0 = _; omega) k0) okM_n), okB_n, okF_n⟩
-- b1w_0
theorem cr_751 (M : pM) (s0 s1 s2 s3 s4 s5 s6 s7 s8 s9 : Int) (b0 : 0 ≤ s0 ∧ s0 ≤ 63) (b1 : 0 ≤ s1 ∧ s1 ≤ 20) (b2 : 0 ≤ s2 ∧ s2 ≤ 19) (b3 : 0 ≤ s3 ∧ s3 ≤ 1) (b4 : 0 ≤ s4 ∧ s4 ≤ 20) (b5 : 0 ≤ s5 ∧ s5 ≤ 63) (b6 : 0 ≤ s6 ∧ s6 ≤ 63) (b7 : 0 ≤ s7 ∧ s7 ≤ 99) (b8 : 0 ≤ s8 ∧ s8 ≤ 1000000) (b9 : 0 ≤ s9 ∧ s9 ≤ 1000000) (m0 : HP 298 (s0 + 2048 * s1 + 64 * s2) (s3) M) (m1 : HP 183 (0 : Int) (0 : Int) M) (m2 : HP 292 (0 : Int) (0 : Int) M) (m3 : (0 ≤ (10 : Int) ∧ M 3 (10 : Int).toNat = (s4))) (m4 : (0 ≤ (3 * s2) ∧ M 9 (3 * s2).toNat = (s5))) (m5 : (0 ≤ (3 * s2 + 1) ∧ M 9 (3 * s2 + 1).toNat = (s6))) (m6 : (0 ≤ (3 * s2 + 2) ∧ M 9 (3 * s2 + 2).toNat = (s7))) (m7 : (0 ≤ (s5) ∧ M 57 (s5).toNat = (s8))) (m8 : (0 ≤ (s6) ∧ M 57 (s6).toNat = (s9))) (f0 : 0 ≤ ((-1) * s7 + (-1) * s8 + s9 - 1)) (f1 : 0 ≤ ((-1) * s2 + s4 - 1)) (hG : gI M) : (HP 300 (s0 + 2048 * s1 + 64 * s2) (1 : Int) (st M 57 (s6).toNat (s7 + s8)) ∧ True) := by
  obtain ⟨f0, k0, t0, f1, k1, t1, t2, h⟩ := Eq.mp hp_298 m0
  have ef : f0 = s0.toNat := by omega
  have ek : k0 = s2.toNat := by omega
  have et : t0 = s1.toNat := by omega
  subst ef; subst ek; subst et
  have hq := Eq.mp hp_183 m1
  have hn : M (3 + 9 * 0) 10 = s4 := m3.2
  have vn : dRn 0 M = s4.toNat := dRn_v (by omega) (by rw [← eq_rn hq, hn]; omega)
  obtain ⟨q1, q2, q3⟩ := eq_ro hq (i := s2.toNat) (by omega) (by rw [hn]; omega)
  have w1 : M (9 + 9 * 0) (3 * s2.toNat) = s5 := by
    rw [show 3 * s2.toNat = (3 * s2).toNat by omega]
    exact m4.2
  have va : dRa 0 M s2.toNat = s5.toNat := dRa_v (by omega) (by omega) (by rw [← q1, w1]; omega)
  have w2 : M (9 + 9 * 0) (3 * s2.toNat + 1) = s6 := by
    rw [show 3 * s2.toNat + 1 = (3 * s2 + 1).toNat by omega]
    exact m5.2
  have vb : dRb 0 M s2.toNat = s6.toNat := dRb_v (by omega) (by omega) (by rw [← q2, w2]; omega)
  have w3 : M (9 + 9 * 0) (3 * s2.toNat + 2) = s7 := by
    rw [show 3 * s2.toNat + 2 = (3 * s2 + 2).toNat by omega]
    exact m6.2
  have vm : dRm 0 M s2.toNat = s7 := dRm_v (by omega) (by rw [← q3, w3])
  have du : dDd M s5.toNat = s8 := (dDd_v (by omega)).trans m7.2
  have dv : dDd M s6.toNat = s9 := (dDd_v (by omega)).trans m8.2
  have hR := dR_lt 0 M
  have ho := dok_b (b := 0) (M := M) (f := s0.toNat) (Eq.mp hp_292 m2) (by omega)
  have hs := rows_st (b := 0) (M := M) (X := 57) (I := (s6).toNat) (z := (s7 + s8)) (by omega)
  refine ⟨Eq.mpr hp_300 ⟨s0.toNat, s2.toNat, s1.toNat, by omega, by omega, by omega, by omega, ?_⟩, trivial⟩
  rw [hs.1, hs.2.1, hs.2.2.1, hs.2.2.2]
  rw [dDf_st (by omega)]
  exact b1_w hR ho (by omega) (by rw [vn]; omega) (by rw [vm]; omega) h (z := (s7 + s8)) (by rw [va, vm, du]; omega) (by rw [vb, dv]; omega) (fun v hv => by rw [vb]; exact dDd_st rfl v hv)
theorem rul_751 : Rul r_751 := by
  refine ⟨fun h => (by cases h), fun gi gv hg ρ M hm hB hF hG => ?_⟩
  obtain ⟨g1, g2⟩ := List.cons.inj (show ([aI ((0 : Int), ([(6, 1)] : List (Nat × Int))), aI ((0 : Int), ([(7, 1), (8, 1)] : List (Nat × Int)))] : List av) = [.inl gi, .inl gv] from hg)
  obtain ⟨g2, -⟩ := List.cons.inj g2
  cases g1
  cases g2
  have ei : ev ρ ((0 : Int), ([(6, 1)] : List (Nat × Int))) = ((ρ 6)) := by show 0 + (1 * ρ 6 + 0) = _; omega
  have ew : ev ρ ((0 : Int), ([(7, 1), (8, 1)] : List (Nat × Int))) = ((ρ 7) + (ρ 8)) := by show 0 + (1 * ρ 7 + (1 * ρ 8 + 0)) = _; omega
  rw [show (st M (ctj r_751) (ev ρ ((0 : Int), ([(6, 1)] : List (Nat × Int)))).toNat (ev ρ ((0 : Int), ([(7, 1), (8, 1)] : List (Nat × Int))))) = (st M 57 ((ρ 6)).toNat ((ρ 7) + (ρ 8))) from by rw [ei, ew]; rfl]
  have H := cr_751 M (ρ 0) (ρ 1) (ρ 2) (ρ 3) (ρ 4) (ρ 5) (ρ 6) (ρ 7) (ρ 8) (ρ 9) (hB _ List.mem_cons_self) (hB _ (List.mem_cons_of_mem _ List.mem_cons_self)) (hB _ (List.mem_cons_of_mem _ (List.mem_cons_of_mem _ List.mem_cons_self))) (hB _ (List.mem_cons_of_mem _ (List.mem_cons_of_mem _ (List.mem_cons_of_mem _ List.mem_cons_self)))) (hB _ (List.mem_cons_of_mem _ (List.mem_cons_of_mem _ (List.mem_cons_of_mem _ (List.mem_cons_of_mem _ List.mem_cons_self))))) (hB _ (List.mem_cons_of_mem _ (List.mem_cons_of_mem _ (List.mem_cons_of_mem _ (List.mem_cons_of_mem _ (List.mem_cons_of_mem _ List.mem_cons_self)))))) (hB _ (List.mem_cons_of_mem _ (List.mem_cons_of_mem _ (List.mem_cons_of_mem _ (List.mem_cons_of_mem _ (List.mem_cons_of_mem _ (List.mem_cons_of_mem _ List.mem_cons_self))))))) (hB _ (List.mem_cons_of_mem _ (List.mem_cons_of_mem _ (List.mem_cons_of_mem _ (List.mem_cons_of_mem _ (List.mem_cons_of_mem _ (List.mem_cons_of_mem _ (List.mem_cons_of_mem _ List.mem_cons_self)))))))) (hB _ (List.mem_cons_of_mem _ (List.mem_cons_of_mem _ (List.mem_cons_of_mem _ (List.mem_cons_of_mem _ (List.mem_cons_of_mem _ (List.mem_cons_of_mem _ (List.mem_cons_of_mem _ (List.mem_cons_of_mem _ List.mem_cons_self))))))))) (hB _ (List.mem_cons_of_mem _ (List.mem_cons_of_mem _ (List.mem_cons_of_mem _ (List.mem_cons_of_mem _ (List.mem_cons_of_mem _ (List.mem_cons_of_mem _ (List.mem_cons_of_mem _ (List.mem_cons_of_mem _ (List.mem_cons_of_mem _ List.mem_cons_self)))))))))) (cvp 298 (x' := ((ρ 0) + 2048 * (ρ 1) + 64 * (ρ 2))) (y' := ((ρ 3))) (by show 0 + (1 * ρ 0 + (2048 * ρ 1 + (64 * ρ 2 + 0))) = _; omega) (by show 0 + (1 * ρ 3 + 0) = _; omega) (hm _ List.mem_cons_self)) (cvp 183 (x' := (0 : Int)) (y' := (0 : Int)) (by show 0 + 0 = _; omega) (by show 0 + 0 = _; omega) (hm _ (List.mem_cons_of_mem _ List.mem_cons_self))) (cvp 292 (x' := (0 : Int)) (y' := (0 : Int)) (by show 0 + 0 = _; omega) (by show 0 + 0 = _; omega) (hm _ (List.mem_cons_of_mem _ (List.mem_cons_of_mem _ List.mem_cons_self)))) (cvm (c := 3) (by decide) (x' := (10 : Int)) (y' := ((ρ 4))) (by show 10 + 0 = _; omega) (by show 0 + (1 * ρ 4 + 0) = _; omega) (hm _ (List.mem_cons_of_mem _ (List.mem_cons_of_mem _ (List.mem_cons_of_mem _ List.mem_cons_self))))) (cvm (c := 9) (by decide) (x' := (3 * (ρ 2))) (y' := ((ρ 5))) (by show 0 + (3 * ρ 2 + 0) = _; omega) (by show 0 + (1 * ρ 5 + 0) = _; omega) (hm _ (List.mem_cons_of_mem _ (List.mem_cons_of_mem _ (List.mem_cons_of_mem _ (List.mem_cons_of_mem _ List.mem_cons_self)))))) (cvm (c := 9) (by decide) (x' := (3 * (ρ 2) + 1)) (y' := ((ρ 6))) (by show 1 + (3 * ρ 2 + 0) = _; omega) (by show 0 + (1 * ρ 6 + 0) = _; omega) (hm _ (List.mem_cons_of_mem _ (List.mem_cons_of_mem _ (List.mem_cons_of_mem _ (List.mem_cons_of_mem _ (List.mem_cons_of_mem _ List.mem_cons_self))))))) (cvm (c := 9) (by decide) (x' := (3 * (ρ 2) + 2)) (y' := ((ρ 7))) (by show 2 + (3 * ρ 2 + 0) = _; omega) (by show 0 + (1 * ρ 7 + 0) = _; omega) (hm _ (List.mem_cons_of_mem _ (List.mem_cons_of_mem _ (List.mem_cons_of_mem _ (List.mem_cons_of_mem _ (List.mem_cons_of_mem _ (List.mem_cons_of_mem _ List.mem_cons_self)))))))) (cvm (c := 57) (by decide) (x' := ((ρ 5))) (y' := ((ρ 8))) (by show 0 + (1 * ρ 5 + 0) = _; omega) (by show 0 + (1 * ρ 8 + 0) = _; omega) (hm _ (List.mem_cons_of_mem _ (List.mem_cons_of_mem _ (List.mem_cons_of_mem _ (List.mem_cons_of_mem _ (List.mem_cons_of_mem _ (List.mem_cons_of_mem _ (List.mem_cons_of_mem _ List.mem_cons_self))))))))) (cvm (c := 57) (by decide) (x' := ((ρ 6))) (y' := ((ρ 9))) (by show 0 + (1 * ρ 6 + 0) = _; omega) (by show 0 + (1 * ρ 9 + 0) = _; omega) (hm _ (List.mem_cons_of_mem _ (List.mem_cons_of_mem _ (List.mem_cons_of_mem _ (List.mem_cons_of_mem _ (List.mem_cons_of_mem _ (List.mem_cons_of_mem _ (List.mem_cons_of_mem _ (List.mem_cons_of_mem _ List.mem_cons_self)))))))))) (by have h := hF _ List.mem_cons_self; have h : 0 ≤ (-1) + ((-1) * ρ 7 + ((-1) * ρ 8 + (1 * ρ 9 + 0))) := h; omega) (by have h := hF _ (List.mem_cons_of_mem _ List.mem_cons_self); have h : 0 ≤ (-1) + ((-1) * ρ 2 + (1 * ρ 4 + 0)) := h; omega) hG
  obtain ⟨k0, -⟩ := H
  exact ⟨_, List.mem_cons_self, ρ, fun _ _ => rfl, (okM_c (pvp 300 (by show 0 + (1 * ρ 0 + (2048 * ρ 1 + (64 * ρ 2 + 0))) = _; omega) (by show 1 + 0 = _; omega) k0) okM_n), okB_n, okF_n⟩
-- b1k_0
theorem cr_752 (M : pM) (s0 s1 s2 s3 s4 s5 s6 s7 s8 s9 : Int) (b0 : 0 ≤ s0 ∧ s0 ≤ 63) (b1 : 0 ≤ s1 ∧ s1 ≤ 20) (b2 : 0 ≤ s2 ∧ s2 ≤ 19) (b3 : 0 ≤ s3 ∧ s3 ≤ 1) (b4 : 0 ≤ s4 ∧ s4 ≤ 20) (b5 : 0 ≤ s5 ∧ s5 ≤ 63) (b6 : 0 ≤ s6 ∧ s6 ≤ 63) (b7 : 0 ≤ s7 ∧ s7 ≤ 99) (b8 : 0 ≤ s8 ∧ s8 ≤ 1000000) (b9 : 0 ≤ s9 ∧ s9 ≤ 1000000) (m0 : HP 298 (s0 + 2048 * s1 + 64 * s2) (s3) M) (m1 : HP 183 (0 : Int) (0 : Int) M) (m2 : HP 292 (0 : Int) (0 : Int) M) (m3 : (0 ≤ (10 : Int) ∧ M 3 (10 : Int).toNat = (s4))) (m4 : (0 ≤ (3 * s2) ∧ M 9 (3 * s2).toNat = (s5))) (m5 : (0 ≤ (3 * s2 + 1) ∧ M 9 (3 * s2 + 1).toNat = (s6))) (m6 : (0 ≤ (3 * s2 + 2) ∧ M 9 (3 * s2 + 2).toNat = (s7))) (m7 : (0 ≤ (s5) ∧ M 57 (s5).toNat = (s8))) (m8 : (0 ≤ (s6) ∧ M 57 (s6).toNat = (s9))) (f0 : 0 ≤ (s7 + s8 + (-1) * s9)) (f1 : 0 ≤ ((-1) * s2 + s4 - 1)) (hG : gI M) : (HP 300 (s0 + 2048 * s1 + 64 * s2) (s3) M ∧ True) := by
  obtain ⟨f0, k0, t0, f1, k1, t1, t2, h⟩ := Eq.mp hp_298 m0
  have ef : f0 = s0.toNat := by omega
  have ek : k0 = s2.toNat := by omega
  have et : t0 = s1.toNat := by omega
  subst ef; subst ek; subst et
  have hq := Eq.mp hp_183 m1
  have hn : M (3 + 9 * 0) 10 = s4 := m3.2
  have vn : dRn 0 M = s4.toNat := dRn_v (by omega) (by rw [← eq_rn hq, hn]; omega)
  obtain ⟨q1, q2, q3⟩ := eq_ro hq (i := s2.toNat) (by omega) (by rw [hn]; omega)
  have w1 : M (9 + 9 * 0) (3 * s2.toNat) = s5 := by
    rw [show 3 * s2.toNat = (3 * s2).toNat by omega]
    exact m4.2
  have va : dRa 0 M s2.toNat = s5.toNat := dRa_v (by omega) (by omega) (by rw [← q1, w1]; omega)
  have w2 : M (9 + 9 * 0) (3 * s2.toNat + 1) = s6 := by
    rw [show 3 * s2.toNat + 1 = (3 * s2 + 1).toNat by omega]
    exact m5.2
  have vb : dRb 0 M s2.toNat = s6.toNat := dRb_v (by omega) (by omega) (by rw [← q2, w2]; omega)
  have w3 : M (9 + 9 * 0) (3 * s2.toNat + 2) = s7 := by
    rw [show 3 * s2.toNat + 2 = (3 * s2 + 2).toNat by omega]
    exact m6.2
  have vm : dRm 0 M s2.toNat = s7 := dRm_v (by omega) (by rw [← q3, w3])
  have du : dDd M s5.toNat = s8 := (dDd_v (by omega)).trans m7.2
  have dv : dDd M s6.toNat = s9 := (dDd_v (by omega)).trans m8.2
  have hR := dR_lt 0 M
  exact ⟨Eq.mpr hp_300 ⟨s0.toNat, s2.toNat, s1.toNat, by omega, by omega, by omega, by omega, b1_k hR h (by rw [va, vb, vm, du, dv]; omega)⟩, trivial⟩
theorem rul_752 : Rul r_752 := by
  refine ⟨fun _ ρ M hm hB hF hG => ?_, fun gi gv hg => (by cases hg)⟩
  have H := cr_752 M (ρ 0) (ρ 1) (ρ 2) (ρ 3) (ρ 4) (ρ 5) (ρ 6) (ρ 7) (ρ 8) (ρ 9) (hB _ List.mem_cons_self) (hB _ (List.mem_cons_of_mem _ List.mem_cons_self)) (hB _ (List.mem_cons_of_mem _ (List.mem_cons_of_mem _ List.mem_cons_self))) (hB _ (List.mem_cons_of_mem _ (List.mem_cons_of_mem _ (List.mem_cons_of_mem _ List.mem_cons_self)))) (hB _ (List.mem_cons_of_mem _ (List.mem_cons_of_mem _ (List.mem_cons_of_mem _ (List.mem_cons_of_mem _ List.mem_cons_self))))) (hB _ (List.mem_cons_of_mem _ (List.mem_cons_of_mem _ (List.mem_cons_of_mem _ (List.mem_cons_of_mem _ (List.mem_cons_of_mem _ List.mem_cons_self)))))) (hB _ (List.mem_cons_of_mem _ (List.mem_cons_of_mem _ (List.mem_cons_of_mem _ (List.mem_cons_of_mem _ (List.mem_cons_of_mem _ (List.mem_cons_of_mem _ List.mem_cons_self))))))) (hB _ (List.mem_cons_of_mem _ (List.mem_cons_of_mem _ (List.mem_cons_of_mem _ (List.mem_cons_of_mem _ (List.mem_cons_of_mem _ (List.mem_cons_of_mem _ (List.mem_cons_of_mem _ List.mem_cons_self)))))))) (hB _ (List.mem_cons_of_mem _ (List.mem_cons_of_mem _ (List.mem_cons_of_mem _ (List.mem_cons_of_mem _ (List.mem_cons_of_mem _ (List.mem_cons_of_mem _ (List.mem_cons_of_mem _ (List.mem_cons_of_mem _ List.mem_cons_self))))))))) (hB _ (List.mem_cons_of_mem _ (List.mem_cons_of_mem _ (List.mem_cons_of_mem _ (List.mem_cons_of_mem _ (List.mem_cons_of_mem _ (List.mem_cons_of_mem _ (List.mem_cons_of_mem _ (List.mem_cons_of_mem _ (List.mem_cons_of_mem _ List.mem_cons_self)))))))))) (cvp 298 (x' := ((ρ 0) + 2048 * (ρ 1) + 64 * (ρ 2))) (y' := ((ρ 3))) (by show 0 + (1 * ρ 0 + (2048 * ρ 1 + (64 * ρ 2 + 0))) = _; omega) (by show 0 + (1 * ρ 3 + 0) = _; omega) (hm _ List.mem_cons_self)) (cvp 183 (x' := (0 : Int)) (y' := (0 : Int)) (by show 0 + 0 = _; omega) (by show 0 + 0 = _; omega) (hm _ (List.mem_cons_of_mem _ List.mem_cons_self))) (cvp 292 (x' := (0 : Int)) (y' := (0 : Int)) (by show 0 + 0 = _; omega) (by show 0 + 0 = _; omega) (hm _ (List.mem_cons_of_mem _ (List.mem_cons_of_mem _ List.mem_cons_self)))) (cvm (c := 3) (by decide) (x' := (10 : Int)) (y' := ((ρ 4))) (by show 10 + 0 = _; omega) (by show 0 + (1 * ρ 4 + 0) = _; omega) (hm _ (List.mem_cons_of_mem _ (List.mem_cons_of_mem _ (List.mem_cons_of_mem _ List.mem_cons_self))))) (cvm (c := 9) (by decide) (x' := (3 * (ρ 2))) (y' := ((ρ 5))) (by show 0 + (3 * ρ 2 + 0) = _; omega) (by show 0 + (1 * ρ 5 + 0) = _; omega) (hm _ (List.mem_cons_of_mem _ (List.mem_cons_of_mem _ (List.mem_cons_of_mem _ (List.mem_cons_of_mem _ List.mem_cons_self)))))) (cvm (c := 9) (by decide) (x' := (3 * (ρ 2) + 1)) (y' := ((ρ 6))) (by show 1 + (3 * ρ 2 + 0) = _; omega) (by show 0 + (1 * ρ 6 + 0) = _; omega) (hm _ (List.mem_cons_of_mem _ (List.mem_cons_of_mem _ (List.mem_cons_of_mem _ (List.mem_cons_of_mem _ (List.mem_cons_of_mem _ List.mem_cons_self))))))) (cvm (c := 9) (by decide) (x' := (3 * (ρ 2) + 2)) (y' := ((ρ 7))) (by show 2 + (3 * ρ 2 + 0) = _; omega) (by show 0 + (1 * ρ 7 + 0) = _; omega) (hm _ (List.mem_cons_of_mem _ (List.mem_cons_of_mem _ (List.mem_cons_of_mem _ (List.mem_cons_of_mem _ (List.mem_cons_of_mem _ (List.mem_cons_of_mem _ List.mem_cons_self)))))))) (cvm (c := 57) (by decide) (x' := ((ρ 5))) (y' := ((ρ 8))) (by show 0 + (1 * ρ 5 + 0) = _; omega) (by show 0 + (1 * ρ 8 + 0) = _; omega) (hm _ (List.mem_cons_of_mem _ (List.mem_cons_of_mem _ (List.mem_cons_of_mem _ (List.mem_cons_of_mem _ (List.mem_cons_of_mem _ (List.mem_cons_of_mem _ (List.mem_cons_of_mem _ List.mem_cons_self))))))))) (cvm (c := 57) (by decide) (x' := ((ρ 6))) (y' := ((ρ 9))) (by show 0 + (1 * ρ 6 + 0) = _; omega) (by show 0 + (1 * ρ 9 + 0) = _; omega) (hm _ (List.mem_cons_of_mem _ (List.mem_cons_of_mem _ (List.mem_cons_of_mem _ (List.mem_cons_of_mem _ (List.mem_cons_of_mem _ (List.mem_cons_of_mem _ (List.mem_cons_of_mem _ (List.mem_cons_of_mem _ List.mem_cons_self)))))))))) (by have h := hF _ List.mem_cons_self; have h : 0 ≤ 0 + (1 * ρ 7 + (1 * ρ 8 + ((-1) * ρ 9 + 0))) := h; omega) (by have h := hF _ (List.mem_cons_of_mem _ List.mem_cons_self); have h : 0 ≤ (-1) + ((-1) * ρ 2 + (1 * ρ 4 + 0)) := h; omega) hG
  obtain ⟨k0, -⟩ := H
  exact ⟨_, List.mem_cons_self, ρ, fun _ _ => rfl, (okM_c (pvp 300 (by show 0 + (1 * ρ 0 + (2048 * ρ 1 + (64 * ρ 2 + 0))) = _; omega) (by show 0 + (1 * ρ 3 + 0) = _; omega) k0) okM_n), okB_n, okF_n⟩
-- b2w_0
theorem cr_753 (M : pM) (s0 s1 s2 s3 s4 s5 s6 s7 s8 s9 : Int) (b0 : 0 ≤ s0 ∧ s0 ≤ 63) (b1 : 0 ≤ s1 ∧ s1 ≤ 20) (b2 : 0 ≤ s2 ∧ s2 ≤ 19) (b3 : 0 ≤ s3 ∧ s3 ≤ 1) (b4 : 0 ≤ s4 ∧ s4 ≤ 20) (b5 : 0 ≤ s5 ∧ s5 ≤ 63) (b6 : 0 ≤ s6 ∧ s6 ≤ 63) (b7 : 0 ≤ s7 ∧ s7 ≤ 99) (b8 : 0 ≤ s8 ∧ s8 ≤ 1000000) (b9 : 0 ≤ s9 ∧ s9 ≤ 1000000) (m0 : HP 300 (s0 + 2048 * s1 + 64 * s2) (s3) M) (m1 : HP 183 (0 : Int) (0 : Int) M) (m2 : HP 292 (0 : Int) (0 : Int) M) (m3 : (0 ≤ (10 : Int) ∧ M 3 (10 : Int).toNat = (s4))) (m4 : (0 ≤ (3 * s2) ∧ M 9 (3 * s2).toNat = (s5))) (m5 : (0 ≤ (3 * s2 + 1) ∧ M 9 (3 * s2 + 1).toNat = (s6))) (m6 : (0 ≤ (3 * s2 + 2) ∧ M 9 (3 * s2 + 2).toNat = (s7))) (m7 : (0 ≤ (s5) ∧ M 57 (s5).toNat = (s8))) (m8 : (0 ≤ (s6) ∧ M 57 (s6).toNat = (s9))) (f0 : 0 ≤ ((-1) * s7 + s8 + (-1) * s9 - 1)) (f1 : 0 ≤ ((-1) * s2 + s4 - 1)) (hG : gI M) : (HP 298 (s0 + 2048 * s1 + 64 * s2 + 64) (1 : Int) (st M 57 (s5).toNat (s7 + s9)) ∧ True) := by
  obtain ⟨f0, k0, t0, f1, k1, t1, t2, h⟩ := Eq.mp hp_300 m0
  have ef : f0 = s0.toNat := by omega
  have ek : k0 = s2.toNat := by omega
  have et : t0 = s1.toNat := by omega
  subst ef; subst ek; subst et
  have hq := Eq.mp hp_183 m1
  have hn : M (3 + 9 * 0) 10 = s4 := m3.2
  have vn : dRn 0 M = s4.toNat := dRn_v (by omega) (by rw [← eq_rn hq, hn]; omega)
  obtain ⟨q1, q2, q3⟩ := eq_ro hq (i := s2.toNat) (by omega) (by rw [hn]; omega)
  have w1 : M (9 + 9 * 0) (3 * s2.toNat) = s5 := by
    rw [show 3 * s2.toNat = (3 * s2).toNat by omega]
    exact m4.2
  have va : dRa 0 M s2.toNat = s5.toNat := dRa_v (by omega) (by omega) (by rw [← q1, w1]; omega)
  have w2 : M (9 + 9 * 0) (3 * s2.toNat + 1) = s6 := by
    rw [show 3 * s2.toNat + 1 = (3 * s2 + 1).toNat by omega]
    exact m5.2
  have vb : dRb 0 M s2.toNat = s6.toNat := dRb_v (by omega) (by omega) (by rw [← q2, w2]; omega)
  have w3 : M (9 + 9 * 0) (3 * s2.toNat + 2) = s7 := by
    rw [show 3 * s2.toNat + 2 = (3 * s2 + 2).toNat by omega]
    exact m6.2
  have vm : dRm 0 M s2.toNat = s7 := dRm_v (by omega) (by rw [← q3, w3])
  have du : dDd M s5.toNat = s8 := (dDd_v (by omega)).trans m7.2
  have dv : dDd M s6.toNat = s9 := (dDd_v (by omega)).trans m8.2
  have hR := dR_lt 0 M
  have ho := dok_b (b := 0) (M := M) (f := s0.toNat) (Eq.mp hp_292 m2) (by omega)
  have hs := rows_st (b := 0) (M := M) (X := 57) (I := (s5).toNat) (z := (s7 + s9)) (by omega)
  refine ⟨Eq.mpr hp_298 ⟨s0.toNat, s2.toNat + 1, s1.toNat, by omega, by omega, by omega, by omega, ?_⟩, trivial⟩
  rw [hs.1, hs.2.1, hs.2.2.1, hs.2.2.2]
  rw [dDf_st (by omega)]
  exact b2_w hR ho (by omega) (by rw [vn]; omega) (by rw [vm]; omega) h (z := (s7 + s9)) (by rw [vb, vm, dv]; omega) (by rw [va, du]; omega) (fun v hv => by rw [va]; exact dDd_st rfl v hv)
theorem rul_753 : Rul r_753 := by
  refine ⟨fun h => (by cases h), fun gi gv hg ρ M hm hB hF hG => ?_⟩
  obtain ⟨g1, g2⟩ := List.cons.inj (show ([aI ((0 : Int), ([(5, 1)] : List (Nat × Int))), aI ((0 : Int), ([(7, 1), (9, 1)] : List (Nat × Int)))] : List av) = [.inl gi, .inl gv] from hg)
  obtain ⟨g2, -⟩ := List.cons.inj g2
  cases g1
  cases g2
  have ei : ev ρ ((0 : Int), ([(5, 1)] : List (Nat × Int))) = ((ρ 5)) := by show 0 + (1 * ρ 5 + 0) = _; omega
  have ew : ev ρ ((0 : Int), ([(7, 1), (9, 1)] : List (Nat × Int))) = ((ρ 7) + (ρ 9)) := by show 0 + (1 * ρ 7 + (1 * ρ 9 + 0)) = _; omega
  rw [show (st M (ctj r_753) (ev ρ ((0 : Int), ([(5, 1)] : List (Nat × Int)))).toNat (ev ρ ((0 : Int), ([(7, 1), (9, 1)] : List (Nat × Int))))) = (st M 57 ((ρ 5)).toNat ((ρ 7) + (ρ 9))) from by rw [ei, ew]; rfl]
  have H := cr_753 M (ρ 0) (ρ 1) (ρ 2) (ρ 3) (ρ 4) (ρ 5) (ρ 6) (ρ 7) (ρ 8) (ρ 9) (hB _ List.mem_cons_self) (hB _ (List.mem_cons_of_mem _ List.mem_cons_self)) (hB _ (List.mem_cons_of_mem _ (List.mem_cons_of_mem _ List.mem_cons_self))) (hB _ (List.mem_cons_of_mem _ (List.mem_cons_of_mem _ (List.mem_cons_of_mem _ List.mem_cons_self)))) (hB _ (List.mem_cons_of_mem _ (List.mem_cons_of_mem _ (List.mem_cons_of_mem _ (List.mem_cons_of_mem _ List.mem_cons_self))))) (hB _ (List.mem_cons_of_mem _ (List.mem_cons_of_mem _ (List.mem_cons_of_mem _ (List.mem_cons_of_mem _ (List.mem_cons_of_mem _ List.mem_cons_self)))))) (hB _ (List.mem_cons_of_mem _ (List.mem_cons_of_mem _ (List.mem_cons_of_mem _ (List.mem_cons_of_mem _ (List.mem_cons_of_mem _ (List.mem_cons_of_mem _ List.mem_cons_self))))))) (hB _ (List.mem_cons_of_mem _ (List.mem_cons_of_mem _ (List.mem_cons_of_mem _ (List.mem_cons_of_mem _ (List.mem_cons_of_mem _ (List.mem_cons_of_mem _ (List.mem_cons_of_mem _ List.mem_cons_self)))))))) (hB _ (List.mem_cons_of_mem _ (List.mem_cons_of_mem _ (List.mem_cons_of_mem _ (List.mem_cons_of_mem _ (List.mem_cons_of_mem _ (List.mem_cons_of_mem _ (List.mem_cons_of_mem _ (List.mem_cons_of_mem _ List.mem_cons_self))))))))) (hB _ (List.mem_cons_of_mem _ (List.mem_cons_of_mem _ (List.mem_cons_of_mem _ (List.mem_cons_of_mem _ (List.mem_cons_of_mem _ (List.mem_cons_of_mem _ (List.mem_cons_of_mem _ (List.mem_cons_of_mem _ (List.mem_cons_of_mem _ List.mem_cons_self)))))))))) (cvp 300 (x' := ((ρ 0) + 2048 * (ρ 1) + 64 * (ρ 2))) (y' := ((ρ 3))) (by show 0 + (1 * ρ 0 + (2048 * ρ 1 + (64 * ρ 2 + 0))) = _; omega) (by show 0 + (1 * ρ 3 + 0) = _; omega) (hm _ List.mem_cons_self)) (cvp 183 (x' := (0 : Int)) (y' := (0 : Int)) (by show 0 + 0 = _; omega) (by show 0 + 0 = _; omega) (hm _ (List.mem_cons_of_mem _ List.mem_cons_self))) (cvp 292 (x' := (0 : Int)) (y' := (0 : Int)) (by show 0 + 0 = _; omega) (by show 0 + 0 = _; omega) (hm _ (List.mem_cons_of_mem _ (List.mem_cons_of_mem _ List.mem_cons_self)))) (cvm (c := 3) (by decide) (x' := (10 : Int)) (y' := ((ρ 4))) (by show 10 + 0 = _; omega) (by show 0 + (1 * ρ 4 + 0) = _; omega) (hm _ (List.mem_cons_of_mem _ (List.mem_cons_of_mem _ (List.mem_cons_of_mem _ List.mem_cons_self))))) (cvm (c := 9) (by decide) (x' := (3 * (ρ 2))) (y' := ((ρ 5))) (by show 0 + (3 * ρ 2 + 0) = _; omega) (by show 0 + (1 * ρ 5 + 0) = _; omega) (hm _ (List.mem_cons_of_mem _ (List.mem_cons_of_mem _ (List.mem_cons_of_mem _ (List.mem_cons_of_mem _ List.mem_cons_self)))))) (cvm (c := 9) (by decide) (x' := (3 * (ρ 2) + 1)) (y' := ((ρ 6))) (by show 1 + (3 * ρ 2 + 0) = _; omega) (by show 0 + (1 * ρ 6 + 0) = _; omega) (hm _ (List.mem_cons_of_mem _ (List.mem_cons_of_mem _ (List.mem_cons_of_mem _ (List.mem_cons_of_mem _ (List.mem_cons_of_mem _ List.mem_cons_self))))))) (cvm (c := 9) (by decide) (x' := (3 * (ρ 2) + 2)) (y' := ((ρ 7))) (by show 2 + (3 * ρ 2 + 0) = _; omega) (by show 0 + (1 * ρ 7 + 0) = _; omega) (hm _ (List.mem_cons_of_mem _ (List.mem_cons_of_mem _ (List.mem_cons_of_mem _ (List.mem_cons_of_mem _ (List.mem_cons_of_mem _ (List.mem_cons_of_mem _ List.mem_cons_self)))))))) (cvm (c := 57) (by decide) (x' := ((ρ 5))) (y' := ((ρ 8))) (by show 0 + (1 * ρ 5 + 0) = _; omega) (by show 0 + (1 * ρ 8 + 0) = _; omega) (hm _ (List.mem_cons_of_mem _ (List.mem_cons_of_mem _ (List.mem_cons_of_mem _ (List.mem_cons_of_mem _ (List.mem_cons_of_mem _ (List.mem_cons_of_mem _ (List.mem_cons_of_mem _ List.mem_cons_self))))))))) (cvm (c := 57) (by decide) (x' := ((ρ 6))) (y' := ((ρ 9))) (by show 0 + (1 * ρ 6 + 0) = _; omega) (by show 0 + (1 * ρ 9 + 0) = _; omega) (hm _ (List.mem_cons_of_mem _ (List.mem_cons_of_mem _ (List.mem_cons_of_mem _ (List.mem_cons_of_mem _ (List.mem_cons_of_mem _ (List.mem_cons_of_mem _ (List.mem_cons_of_mem _ (List.mem_cons_of_mem _ List.mem_cons_self)))))))))) (by have h := hF _ List.mem_cons_self; have h : 0 ≤ (-1) + ((-1) * ρ 7 + (1 * ρ 8 + ((-1) * ρ 9 + 0))) := h; omega) (by have h := hF _ (List.mem_cons_of_mem _ List.mem_cons_self); have h : 0 ≤ (-1) + ((-1) * ρ 2 + (1 * ρ 4 + 0)) := h; omega) hG
  obtain ⟨k0, -⟩ := H
  exact ⟨_, List.mem_cons_self, ρ, fun _ _ => rfl, (okM_c (pvp 298 (by show 64 + (1 * ρ 0 + (2048 * ρ 1 + (64 * ρ 2 + 0))) = _; omega) (by show 1 + 0 = _; omega) k0) okM_n), okB_n, okF_n⟩
-- b2k_0
theorem cr_754 (M : pM) (s0 s1 s2 s3 s4 s5 s6 s7 s8 s9 : Int) (b0 : 0 ≤ s0 ∧ s0 ≤ 63) (b1 : 0 ≤ s1 ∧ s1 ≤ 20) (b2 : 0 ≤ s2 ∧ s2 ≤ 19) (b3 : 0 ≤ s3 ∧ s3 ≤ 1) (b4 : 0 ≤ s4 ∧ s4 ≤ 20) (b5 : 0 ≤ s5 ∧ s5 ≤ 63) (b6 : 0 ≤ s6 ∧ s6 ≤ 63) (b7 : 0 ≤ s7 ∧ s7 ≤ 99) (b8 : 0 ≤ s8 ∧ s8 ≤ 1000000) (b9 : 0 ≤ s9 ∧ s9 ≤ 1000000) (m0 : HP 300 (s0 + 2048 * s1 + 64 * s2) (s3) M) (m1 : HP 183 (0 : Int) (0 : Int) M) (m2 : HP 292 (0 : Int) (0 : Int) M) (m3 : (0 ≤ (10 : Int) ∧ M 3 (10 : Int).toNat = (s4))) (m4 : (0 ≤ (3 * s2) ∧ M 9 (3 * s2).toNat = (s5))) (m5 : (0 ≤ (3 * s2 + 1) ∧ M 9 (3 * s2 + 1).toNat = (s6))) (m6 : (0 ≤ (3 * s2 + 2) ∧ M 9 (3 * s2 + 2).toNat = (s7))) (m7 : (0 ≤ (s5) ∧ M 57 (s5).toNat = (s8))) (m8 : (0 ≤ (s6) ∧ M 57 (s6).toNat = (s9))) (f0 : 0 ≤ (s7 + (-1) * s8 + s9)) (f1 : 0 ≤ ((-1) * s2 + s4 - 1)) (hG : gI M) : (HP 298 (s0 + 2048 * s1 + 64 * s2 + 64) (s3) M ∧ True) := by
  obtain ⟨f0, k0, t0, f1, k1, t1, t2, h⟩ := Eq.mp hp_300 m0
  have ef : f0 = s0.toNat := by omega
  have ek : k0 = s2.toNat := by omega
  have et : t0 = s1.toNat := by omega
  subst ef; subst ek; subst et
  have hq := Eq.mp hp_183 m1
  have hn : M (3 + 9 * 0) 10 = s4 := m3.2
  have vn : dRn 0 M = s4.toNat := dRn_v (by omega) (by rw [← eq_rn hq, hn]; omega)
  obtain ⟨q1, q2, q3⟩ := eq_ro hq (i := s2.toNat) (by omega) (by rw [hn]; omega)
  have w1 : M (9 + 9 * 0) (3 * s2.toNat) = s5 := by
    rw [show 3 * s2.toNat = (3 * s2).toNat by omega]
    exact m4.2
  have va : dRa 0 M s2.toNat = s5.toNat := dRa_v (by omega) (by omega) (by rw [← q1, w1]; omega)
  have w2 : M (9 + 9 * 0) (3 * s2.toNat + 1) = s6 := by
    rw [show 3 * s2.toNat + 1 = (3 * s2 + 1).toNat by omega]
    exact m5.2
  have vb : dRb 0 M s2.toNat = s6.toNat := dRb_v (by omega) (by omega) (by rw [← q2, w2]; omega)
  have w3 : M (9 + 9 * 0) (3 * s2.toNat + 2) = s7 := by
    rw [show 3 * s2.toNat + 2 = (3 * s2 + 2).toNat by omega]
    exact m6.2
  have vm : dRm 0 M s2.toNat = s7 := dRm_v (by omega) (by rw [← q3, w3])
  have du : dDd M s5.toNat = s8 := (dDd_v (by omega)).trans m7.2
  have dv : dDd M s6.toNat = s9 := (dDd_v (by omega)).trans m8.2
  have hR := dR_lt 0 M
  exact ⟨Eq.mpr hp_298 ⟨s0.toNat, s2.toNat + 1, s1.toNat, by omega, by omega, by omega, by omega, b2_k hR h (by rw [va, vb, vm, du, dv]; omega)⟩, trivial⟩
theorem rul_754 : Rul r_754 := by
  refine ⟨fun _ ρ M hm hB hF hG => ?_, fun gi gv hg => (by cases hg)⟩
  have H := cr_754 M (ρ 0) (ρ 1) (ρ 2) (ρ 3) (ρ 4) (ρ 5) (ρ 6) (ρ 7) (ρ 8) (ρ 9) (hB _ List.mem_cons_self) (hB _ (List.mem_cons_of_mem _ List.mem_cons_self)) (hB _ (List.mem_cons_of_mem _ (List.mem_cons_of_mem _ List.mem_cons_self))) (hB _ (List.mem_cons_of_mem _ (List.mem_cons_of_mem _ (List.mem_cons_of_mem _ List.mem_cons_self)))) (hB _ (List.mem_cons_of_mem _ (List.mem_cons_of_mem _ (List.mem_cons_of_mem _ (List.mem_cons_of_mem _ List.mem_cons_self))))) (hB _ (List.mem_cons_of_mem _ (List.mem_cons_of_mem _ (List.mem_cons_of_mem _ (List.mem_cons_of_mem _ (List.mem_cons_of_mem _ List.mem_cons_self)))))) (hB _ (List.mem_cons_of_mem _ (List.mem_cons_of_mem _ (List.mem_cons_of_mem _ (List.mem_cons_of_mem _ (List.mem_cons_of_mem _ (List.mem_cons_of_mem _ List.mem_cons_self))))))) (hB _ (List.mem_cons_of_mem _ (List.mem_cons_of_mem _ (List.mem_cons_of_mem _ (List.mem_cons_of_mem _ (List.mem_cons_of_mem _ (List.mem_cons_of_mem _ (List.mem_cons_of_mem _ List.mem_cons_self)))))))) (hB _ (List.mem_cons_of_mem _ (List.mem_cons_of_mem _ (List.mem_cons_of_mem _ (List.mem_cons_of_mem _ (List.mem_cons_of_mem _ (List.mem_cons_of_mem _ (List.mem_cons_of_mem _ (List.mem_cons_of_mem _ List.mem_cons_self))))))))) (hB _ (List.mem_cons_of_mem _ (List.mem_cons_of_mem _ (List.mem_cons_of_mem _ (List.mem_cons_of_mem _ (List.mem_cons_of_mem _ (List.mem_cons_of_mem _ (List.mem_cons_of_mem _ (List.mem_cons_of_mem _ (List.mem_cons_of_mem _ List.mem_cons_self)))))))))) (cvp 300 (x' := ((ρ 0) + 2048 * (ρ 1) + 64 * (ρ 2))) (y' := ((ρ 3))) (by show 0 + (1 * ρ 0 + (2048 * ρ 1 + (64 * ρ 2 + 0))) = _; omega) (by show 0 + (1 * ρ 3 + 0) = _; omega) (hm _ List.mem_cons_self)) (cvp 183 (x' := (0 : Int)) (y' := (0 : Int)) (by show 0 + 0 = _; omega) (by show 0 + 0 = _; omega) (hm _ (List.mem_cons_of_mem _ List.mem_cons_self))) (cvp 292 (x' := (0 : Int)) (y' := (0 : Int)) (by show 0 + 0 = _; omega) (by show 0 + 0 = _; omega) (hm _ (List.mem_cons_of_mem _ (List.mem_cons_of_mem _ List.mem_cons_self)))) (cvm (c := 3) (by decide) (x' := (10 : Int)) (y' := ((ρ 4))) (by show 10 + 0 = _; omega) (by show 0 + (1 * ρ 4 + 0) = _; omega) (hm _ (List.mem_cons_of_mem _ (List.mem_cons_of_mem _ (List.mem_cons_of_mem _ List.mem_cons_self))))) (cvm (c := 9) (by decide) (x' := (3 * (ρ 2))) (y' := ((ρ 5))) (by show 0 + (3 * ρ 2 + 0) = _; omega) (by show 0 + (1 * ρ 5 + 0) = _; omega) (hm _ (List.mem_cons_of_mem _ (List.mem_cons_of_mem _ (List.mem_cons_of_mem _ (List.mem_cons_of_mem _ List.mem_cons_self)))))) (cvm (c := 9) (by decide) (x' := (3 * (ρ 2) + 1)) (y' := ((ρ 6))) (by show 1 + (3 * ρ 2 + 0) = _; omega) (by show 0 + (1 * ρ 6 + 0) = _; omega) (hm _ (List.mem_cons_of_mem _ (List.mem_cons_of_mem _ (List.mem_cons_of_mem _ (List.mem_cons_of_mem _ (List.mem_cons_of_mem _ List.mem_cons_self))))))) (cvm (c := 9) (by decide) (x' := (3 * (ρ 2) + 2)) (y' := ((ρ 7))) (by show 2 + (3 * ρ 2 + 0) = _; omega) (by show 0 + (1 * ρ 7 + 0) = _; omega) (hm _ (List.mem_cons_of_mem _ (List.mem_cons_of_mem _ (List.mem_cons_of_mem _ (List.mem_cons_of_mem _ (List.mem_cons_of_mem _ (List.mem_cons_of_mem _ List.mem_cons_self)))))))) (cvm (c := 57) (by decide) (x' := ((ρ 5))) (y' := ((ρ 8))) (by show 0 + (1 * ρ 5 + 0) = _; omega) (by show 0 + (1 * ρ 8 + 0) = _; omega) (hm _ (List.mem_cons_of_mem _ (List.mem_cons_of_mem _ (List.mem_cons_of_mem _ (List.mem_cons_of_mem _ (List.mem_cons_of_mem _ (List.mem_cons_of_mem _ (List.mem_cons_of_mem _ List.mem_cons_self))))))))) (cvm (c := 57) (by decide) (x' := ((ρ 6))) (y' := ((ρ 9))) (by show 0 + (1 * ρ 6 + 0) = _; omega) (by show 0 + (1 * ρ 9 + 0) = _; omega) (hm _ (List.mem_cons_of_mem _ (List.mem_cons_of_mem _ (List.mem_cons_of_mem _ (List.mem_cons_of_mem _ (List.mem_cons_of_mem _ (List.mem_cons_of_mem _ (List.mem_cons_of_mem _ (List.mem_cons_of_mem _ List.mem_cons_self)))))))))) (by have h := hF _ List.mem_cons_self; have h : 0 ≤ 0 + (1 * ρ 7 + ((-1) * ρ 8 + (1 * ρ 9 + 0))) := h; omega) (by have h := hF _ (List.mem_cons_of_mem _ List.mem_cons_self); have h : 0 ≤ (-1) + ((-1) * ρ 2 + (1 * ρ 4 + 0)) := h; omega) hG
  obtain ⟨k0, -⟩ := H
  exact ⟨_, List.mem_cons_self, ρ, fun _ _ => rfl, (okM_c (pvp 298 (by show 64 + (1 * ρ 0 + (2048 * ρ 1 + (64 * ρ 2 + 0))) = _; omega) (by show 0 + (1 * ρ 3 + 0) = _; omega) k0) okM_n), okB_n, okF_n⟩
-- bne_0
theorem cr_755 (M : pM) (s0 s1 s2 s3 : Int) (b0 : 0 ≤ s0 ∧ s0 ≤ 63) (b1 : 0 ≤ s1 ∧ s1 ≤ 20) (b2 : 0 ≤ s2 ∧ s2 ≤ 20) (b3 : 0 ≤ s3 ∧ s3 ≤ 20) (m0 : HP 298 (s0 + 2048 * s1 + 64 * s2) (1 : Int) M) (m1 : HP 183 (0 : Int) (0 : Int) M) (m2 : (0 ≤ (10 : Int) ∧ M 3 (10 : Int).toNat = (s3))) (f0 : 0 ≤ (s2 + (-1) * s3)) (hG : gI M) : (HP 296 (s0 + 64 * s1 + 64) (0 : Int) M ∧ True) := by
  obtain ⟨f0, k0, t0, f1, k1, t1, t2, h⟩ := Eq.mp hp_298 m0
  have ef : f0 = s0.toNat := by omega
  have ek : k0 = s2.toNat := by omega
  have et : t0 = s1.toNat := by omega
  subst ef; subst ek; subst et
  have hq := Eq.mp hp_183 m1
  have hn : M (3 + 9 * 0) 10 = s3 := m2.2
  have vn : dRn 0 M = s3.toNat := dRn_v (by omega) (by rw [← eq_rn hq, hn]; omega)
  exact ⟨Eq.mpr hp_296 ⟨s0.toNat, s1.toNat + 1, by omega, by omega, by omega, bn_e h (by rw [vn]; omega) (by omega)⟩, trivial⟩
theorem rul_755 : Rul r_755 := by
  refine ⟨fun _ ρ M hm hB hF hG => ?_, fun gi gv hg => (by cases hg)⟩
  have H := cr_755 M (ρ 0) (ρ 1) (ρ 2) (ρ 3) (hB _ List.mem_cons_self) (hB _ (List.mem_cons_of_mem _ List.mem_cons_self)) (hB _ (List.mem_cons_of_mem _ (List.mem_cons_of_mem _ List.mem_cons_self))) (hB _ (List.mem_cons_of_mem _ (List.mem_cons_of_mem _ (List.mem_cons_of_mem _ List.mem_cons_self)))) (cvp 298 (x' := ((ρ 0) + 2048 * (ρ 1) + 64 * (ρ 2))) (y' := (1 : Int)) (by show 0 + (1 * ρ 0 + (2048 * ρ 1 + (64 * ρ 2 + 0))) = _; omega) (by show 1 + 0 = _; omega) (hm _ List.mem_cons_self)) (cvp 183 (x' := (0 : Int)) (y' := (0 : Int)) (by show 0 + 0 = _; omega) (by show 0 + 0 = _; omega) (hm _ (List.mem_cons_of_mem _ List.mem_cons_self))) (cvm (c := 3) (by decide) (x' := (10 : Int)) (y' := ((ρ 3))) (by show 10 + 0 = _; omega) (by show 0 + (1 * ρ 3 + 0) = _; omega) (hm _ (List.mem_cons_of_mem _ (List.mem_cons_of_mem _ List.mem_cons_self)))) (by have h := hF _ List.mem_cons_self; have h : 0 ≤ 0 + (1 * ρ 2 + ((-1) * ρ 3 + 0)) := h; omega) hG
  obtain ⟨k0, -⟩ := H
  exact ⟨_, List.mem_cons_self, ρ, fun _ _ => rfl, (okM_c (pvp 296 (by show 64 + (1 * ρ 0 + (64 * ρ 1 + 0)) = _; omega) (by show 0 + 0 = _; omega) k0) okM_n), okB_n, okF_n⟩
-- bnd_0
theorem cr_756 (M : pM) (s0 s1 s2 s3 : Int) (b0 : 0 ≤ s0 ∧ s0 ≤ 63) (b1 : 0 ≤ s1 ∧ s1 ≤ 20) (b2 : 0 ≤ s2 ∧ s2 ≤ 20) (b3 : 0 ≤ s3 ∧ s3 ≤ 20) (m0 : HP 298 (s0 + 2048 * s1 + 64 * s2) (0 : Int) M) (m1 : HP 183 (0 : Int) (0 : Int) M) (m2 : HP 292 (0 : Int) (0 : Int) M) (m3 : (0 ≤ (10 : Int) ∧ M 3 (10 : Int).toNat = (s3))) (f0 : 0 ≤ (s2 + (-1) * s3)) (hG : gI M) : (HP 302 (s0) (0 : Int) M ∧ True) := by
  obtain ⟨f0, k0, t0, f1, k1, t1, t2, h⟩ := Eq.mp hp_298 m0
  have ef : f0 = s0.toNat := by omega
  have ek : k0 = s2.toNat := by omega
  have et : t0 = s1.toNat := by omega
  subst ef; subst ek; subst et
  have hq := Eq.mp hp_183 m1
  have hn : M (3 + 9 * 0) 10 = s3 := m3.2
  have vn : dRn 0 M = s3.toNat := dRn_v (by omega) (by rw [← eq_rn hq, hn]; omega)
  have ho := dok_b (b := 0) (M := M) (f := s0.toNat) (Eq.mp hp_292 m2) (by omega)
  have hR := dR_lt 0 M
  exact ⟨Eq.mpr hp_302 ⟨s0.toNat, by omega, by omega, bn_d hR ho (by omega) h (by rw [vn]; omega) (by omega) (by omega)⟩, trivial⟩
theorem rul_756 : Rul r_756 := by
  refine ⟨fun _ ρ M hm hB hF hG => ?_, fun gi gv hg => (by cases hg)⟩
  have H := cr_756 M (ρ 0) (ρ 1) (ρ 2) (ρ 3) (hB _ List.mem_cons_self) (hB _ (List.mem_cons_of_mem _ List.mem_cons_self)) (hB _ (List.mem_cons_of_mem _ (List.mem_cons_of_mem _ List.mem_cons_self))) (hB _ (List.mem_cons_of_mem _ (List.mem_cons_of_mem _ (List.mem_cons_of_mem _ List.mem_cons_self)))) (cvp 298 (x' := ((ρ 0) + 2048 * (ρ 1) + 64 * (ρ 2))) (y' := (0 : Int)) (by show 0 + (1 * ρ 0 + (2048 * ρ 1 + (64 * ρ 2 + 0))) = _; omega) (by show 0 + 0 = _; omega) (hm _ List.mem_cons_self)) (cvp 183 (x' := (0 : Int)) (y' := (0 : Int)) (by show 0 + 0 = _; omega) (by show 0 + 0 = _; omega) (hm _ (List.mem_cons_of_mem _ List.mem_cons_self))) (cvp 292 (x' := (0 : Int)) (y' := (0 : Int)) (by show 0 + 0 = _; omega) (by show 0 + 0 = _; omega) (hm _ (List.mem_cons_of_mem _ (List.mem_cons_of_mem _ List.mem_cons_self)))) (cvm (c := 3) (by decide) (x' := (10 : Int)) (y' := ((ρ 3))) (by show 10 + 0 = _; omega) (by show 0 + (1 * ρ 3 + 0) = _; omega) (hm _ (List.mem_cons_of_mem _ (List.mem_cons_of_mem _ (List.mem_cons_of_mem _ List.mem_cons_self))))) (by have h := hF _ List.mem_cons_self; have h : 0 ≤ 0 + (1 * ρ 2 + ((-1) * ρ 3 + 0)) := h; omega) hG
  obtain ⟨k0, -⟩ := H
  exact ⟨_, List.mem_cons_self, ρ, fun _ _ => rfl, (okM_c (pvp 302 (by show 0 + (1 * ρ 0 + 0) = _; omega) (by show 0 + 0 = _; omega) k0) okM_n), okB_n, okF_n⟩
-- bse_0
theorem cr_757 (M : pM) (s0 s1 : Int) (b0 : 0 ≤ s0 ∧ s0 ≤ 63) (b1 : 0 ≤ s1 ∧ s1 ≤ 21) (m0 : HP 296 (s0 + 64 * s1) (0 : Int) M) (m1 : HP 292 (0 : Int) (0 : Int) M) (f0 : 0 ≤ (s1 - 21)) (hG : gI M) : (HP 302 (s0) (0 : Int) M ∧ True) := by
  obtain ⟨f0, t0, f1, t1, t2, h⟩ := Eq.mp hp_296 m0
  have ef : f0 = s0.toNat := by omega
  have et : t0 = s1.toNat := by omega
  subst ef; subst et
  have ho := dok_b (b := 0) (M := M) (f := s0.toNat) (Eq.mp hp_292 m1) (by omega)
  exact ⟨Eq.mpr hp_302 ⟨s0.toNat, by omega, by omega, bs_e ho h (by omega) (by omega)⟩, trivial⟩
theorem rul_757 : Rul r_757 := by
  refine ⟨fun _ ρ M hm hB hF hG => ?_, fun gi gv hg => (by cases hg)⟩
  have H := cr_757 M (ρ 0) (ρ 1) (hB _ List.mem_cons_self) (hB _ (List.mem_cons_of_mem _ List.mem_cons_self)) (cvp 296 (x' := ((ρ 0) + 64 * (ρ 1))) (y' := (0 : Int)) (by show 0 + (1 * ρ 0 + (64 * ρ 1 + 0)) = _; omega) (by show 0 + 0 = _; omega) (hm _ List.mem_cons_self)) (cvp 292 (x' := (0 : Int)) (y' := (0 : Int)) (by show 0 + 0 = _; omega) (by show 0 + 0 = _; omega) (hm _ (List.mem_cons_of_mem _ List.mem_cons_self))) (by have h := hF _ List.mem_cons_self; have h : 0 ≤ (-21) + (1 * ρ 1 + 0) := h; omega) hG
  obtain ⟨k0, -⟩ := H
  exact ⟨_, List.mem_cons_self, ρ, fun _ _ => rfl, (okM_c (pvp 302 (by show 0 + (1 * ρ 0 + 0) = _; omega) (by show 0 + 0 = _; omega) k0) okM_n), okB_n, okF_n⟩
-- dr0_1
theorem cr_758 (M : pM) (s0 : Int) (b0 : 0 ≤ s0 ∧ s0 ≤ 4096) (m0 : HP 285 (s0) (0 : Int) M) (f0 : 0 ≤ (s0 - 4096)) (hG : gI M) : (HP 287 (0 : Int) (0 : Int) M ∧ True) := by
  obtain ⟨h1, h2, h3⟩ := Eq.mp hp_285 m0
  exact ⟨Eq.mpr hp_287 ⟨0, by omega, by omega, dr_0 (fun i j hi hj => by rw [dfar_v hi hj, h3 _ (by omega), show (64 * i + j) / 64 = i by omega, show (64 * i + j) % 64 = j by omega])⟩, trivial⟩
theorem rul_758 : Rul r_758 := by
  refine ⟨fun _ ρ M hm hB hF hG => ?_, fun gi gv hg => (by cases hg)⟩
  have H := cr_758 M (ρ 0) (hB _ List.mem_cons_self) (cvp 285 (x' := ((ρ 0))) (y' := (0 : Int)) (by show 0 + (1 * ρ 0 + 0) = _; omega) (by show 0 + 0 = _; omega) (hm _ List.mem_cons_self)) (by have h := hF _ List.mem_cons_self; have h : 0 ≤ (-4096) + (1 * ρ 0 + 0) := h; omega) hG
  obtain ⟨k0, -⟩ := H
  exact ⟨_, List.mem_cons_self, ρ, fun _ _ => rfl, (okM_c (pvp 287 (by show 0 + 0 = _; omega) (by show 0 + 0 = _; omega) k0) okM_n), okB_n, okF_n⟩
-- drs_1
theorem cr_759 (M : pM) (s0 s1 s2 s3 s4 s5 : Int) (b0 : 0 ≤ s0 ∧ s0 ≤ 19) (b1 : 0 ≤ s1 ∧ s1 ≤ 63) (b2 : 0 ≤ s2 ∧ s2 ≤ 63) (b3 : 0 ≤ s3 ∧ s3 ≤ 99) (b4 : 0 ≤ s4 ∧ s4 ≤ 100000) (b5 : 0 ≤ s5 ∧ s5 ≤ 20) (m0 : HP 287 (s0) (0 : Int) M) (m1 : (0 ≤ (s0 + 20) ∧ M 78 (s0 + 20).toNat = (s1))) (m2 : (0 ≤ (s0 + 20) ∧ M 79 (s0 + 20).toNat = (s2))) (m3 : (0 ≤ (s0 + 20) ∧ M 80 (s0 + 20).toNat = (s3))) (m4 : (0 ≤ (64 * s1 + s2) ∧ M 114 (64 * s1 + s2).toNat = (s4))) (m5 : (0 ≤ (1 : Int) ∧ M 67 (1 : Int).toNat = (s5))) (f0 : 0 ≤ (s3 + (-1) * s4)) (f1 : 0 ≤ ((-1) * s0 + s5 - 1)) (hG : gI M) : (HP 287 (s0 + 1) (0 : Int) M ∧ True) := by
  obtain ⟨k0, k1, k2, h⟩ := Eq.mp hp_287 m0
  have ek : k0 = s0.toNat := by omega
  subst ek
  have hR := dR_lt 1 M
  have va : dRa 1 M s0.toNat = s1.toNat := dRa_v (by omega) (by omega) (by rw [show 20 * 1 + s0.toNat = (s0 + 20).toNat by omega, m1.2]; omega)
  have vb : dRb 1 M s0.toNat = s2.toNat := dRb_v (by omega) (by omega) (by rw [show 20 * 1 + s0.toNat = (s0 + 20).toNat by omega, m2.2]; omega)
  have vm : dRm 1 M s0.toNat = s3 := dRm_v (by omega) (by rw [show 20 * 1 + s0.toNat = (s0 + 20).toNat by omega, m3.2])
  have vf : dfar M s1.toNat s2.toNat = s4 := (dfar_v (by omega) (by omega)).trans (by rw [show 64 * s1.toNat + s2.toNat = (64 * s1 + s2).toNat by omega]; exact m4.2)
  exact ⟨Eq.mpr hp_287 ⟨s0.toNat + 1, by omega, by omega, dr_s h (hR _).1 (hR _).2 (by rw [va, vb, vm, vf]; omega)⟩, trivial⟩
theorem rul_759 : Rul r_759 := by
  refine ⟨fun _ ρ M hm hB hF hG => ?_, fun gi gv hg => (by cases hg)⟩
  have H := cr_759 M (ρ 0) (ρ 1) (ρ 2) (ρ 3) (ρ 4) (ρ 5) (hB _ List.mem_cons_self) (hB _ (List.mem_cons_of_mem _ List.mem_cons_self)) (hB _ (List.mem_cons_of_mem _ (List.mem_cons_of_mem _ List.mem_cons_self))) (hB _ (List.mem_cons_of_mem _ (List.mem_cons_of_mem _ (List.mem_cons_of_mem _ List.mem_cons_self)))) (hB _ (List.mem_cons_of_mem _ (List.mem_cons_of_mem _ (List.mem_cons_of_mem _ (List.mem_cons_of_mem _ List.mem_cons_self))))) (hB _ (List.mem_cons_of_mem _ (List.mem_cons_of_mem _ (List.mem_cons_of_mem _ (List.mem_cons_of_mem _ (List.mem_cons_of_mem _ List.mem_cons_self)))))) (cvp 287 (x' := ((ρ 0))) (y' := (0 : Int)) (by show 0 + (1 * ρ 0 + 0) = _; omega) (by show 0 + 0 = _; omega) (hm _ List.mem_cons_self)) (cvm (c := 78) (by decide) (x' := ((ρ 0) + 20)) (y' := ((ρ 1))) (by show 20 + (1 * ρ 0 + 0) = _; omega) (by show 0 + (1 * ρ 1 + 0) = _; omega) (hm _ (List.mem_cons_of_mem _ List.mem_cons_self))) (cvm (c := 79) (by decide) (x' := ((ρ 0) + 20)) (y' := ((ρ 2))) (by show 20 + (1 * ρ 0 + 0) = _; omega) (by show 0 + (1 * ρ 2 + 0) = _; omega) (hm _ (List.mem_cons_of_mem _ (List.mem_cons_of_mem _ List.mem_cons_self)))) (cvm (c := 80) (by decide) (x' := ((ρ 0) + 20)) (y' := ((ρ 3))) (by show 20 + (1 * ρ 0 + 0) = _; omega) (by show 0 + (1 * ρ 3 + 0) = _; omega) (hm _ (List.mem_cons_of_mem _ (List.mem_cons_of_mem _ (List.mem_cons_of_mem _ List.mem_cons_self))))) (cvm (c := 114) (by decide) (x' := (64 * (ρ 1) + (ρ 2))) (y' := ((ρ 4))) (by show 0 + (64 * ρ 1 + (1 * ρ 2 + 0)) = _; omega) (by show 0 + (1 * ρ 4 + 0) = _; omega) (hm _ (List.mem_cons_of_mem _ (List.mem_cons_of_mem _ (List.mem_cons_of_mem _ (List.mem_cons_of_mem _ List.mem_cons_self)))))) (cvm (c := 67) (by decide) (x' := (1 : Int)) (y' := ((ρ 5))) (by show 1 + 0 = _; omega) (by show 0 + (1 * ρ 5 + 0) = _; omega) (hm _ (List.mem_cons_of_mem _ (List.mem_cons_of_mem _ (List.mem_cons_of_mem _ (List.mem_cons_of_mem _ (List.mem_cons_of_mem _ List.mem_cons_self))))))) (by have h := hF _ List.mem_cons_self; have h : 0 ≤ 0 + (1 * ρ 3 + ((-1) * ρ 4 + 0)) := h; omega) (by have h := hF _ (List.mem_cons_of_mem _ List.mem_cons_self); have h : 0 ≤ (-1) + ((-1) * ρ 0 + (1 * ρ 5 + 0)) := h; omega) hG
  obtain ⟨k0, -⟩ := H
  exact ⟨_, List.mem_cons_self, ρ, fun _ _ => rfl, (okM_c (pvp 287 (by show 1 + (1 * ρ 0 + 0) = _; omega) (by show 0 + 0 = _; omega) k0) okM_n), okB_n, okF_n⟩
-- drw_1
theorem cr_760 (M : pM) (s0 s1 s2 s3 s4 s5 : Int) (b0 : 0 ≤ s0 ∧ s0 ≤ 19) (b1 : 0 ≤ s1 ∧ s1 ≤ 63) (b2 : 0 ≤ s2 ∧ s2 ≤ 63) (b3 : 0 ≤ s3 ∧ s3 ≤ 99) (b4 : 0 ≤ s4 ∧ s4 ≤ 100000) (b5 : 0 ≤ s5 ∧ s5 ≤ 20) (m0 : HP 287 (s0) (0 : Int) M) (m1 : (0 ≤ (s0 + 20) ∧ M 78 (s0 + 20).toNat = (s1))) (m2 : (0 ≤ (s0 + 20) ∧ M 79 (s0 + 20).toNat = (s2))) (m3 : (0 ≤ (s0 + 20) ∧ M 80 (s0 + 20).toNat = (s3))) (m4 : (0 ≤ (64 * s1 + s2) ∧ M 114 (64 * s1 + s2).toNat = (s4))) (m5 : (0 ≤ (1 : Int) ∧ M 67 (1 : Int).toNat = (s5))) (f0 : 0 ≤ ((-1) * s3 + s4 - 1)) (f1 : 0 ≤ ((-1) * s0 + s5 - 1)) (hG : gI M) : (HP 289 (s0) (0 : Int) (st M 114 (64 * s1 + s2).toNat (s3)) ∧ True) := by
  obtain ⟨k0, k1, k2, h⟩ := Eq.mp hp_287 m0
  have ek : k0 = s0.toNat := by omega
  subst ek
  have hR := dR_lt 1 M
  have vn : dRn 1 M = s5.toNat := dRn_v (by omega) (by have := m5.2; have this : M 67 1 = s5 := this; rw [this]; omega)
  have va : dRa 1 M s0.toNat = s1.toNat := dRa_v (by omega) (by omega) (by rw [show 20 * 1 + s0.toNat = (s0 + 20).toNat by omega, m1.2]; omega)
  have vb : dRb 1 M s0.toNat = s2.toNat := dRb_v (by omega) (by omega) (by rw [show 20 * 1 + s0.toNat = (s0 + 20).toNat by omega, m2.2]; omega)
  have vm : dRm 1 M s0.toNat = s3 := dRm_v (by omega) (by rw [show 20 * 1 + s0.toNat = (s0 + 20).toNat by omega, m3.2])
  have hs := rows_st (b := 1) (M := M) (X := 114) (I := (64 * s1 + s2).toNat) (z := (s3)) (by omega)
  have hD : ∀ i j, i < 64 → j < 64 → dfar (st M 114 (64 * s1 + s2).toNat (s3)) i j = if i = s1.toNat ∧ j = s2.toNat then (s3) else dfar M i j := dfar_st (by omega) (by omega) (by omega)
  have vf : dfar M s1.toNat s2.toNat = s4 := (dfar_v (by omega) (by omega)).trans (by rw [show 64 * s1.toNat + s2.toNat = (64 * s1 + s2).toNat by omega]; exact m4.2)
  refine ⟨Eq.mpr hp_289 ⟨s0.toNat, by omega, by omega, ?_⟩, trivial⟩
  rw [hs.1, hs.2.1, hs.2.2.1, hs.2.2.2]
  exact dr_w h (hR _).1 (hR _).2 (by rw [vn]; omega) (by rw [vm]; omega) (by rw [va, vb, vm, vf]; omega) (fun i j hi hj => by rw [va, vb, vm]; exact hD i j hi hj) hR
theorem rul_760 : Rul r_760 := by
  refine ⟨fun h => (by cases h), fun gi gv hg ρ M hm hB hF hG => ?_⟩
  obtain ⟨g1, g2⟩ := List.cons.inj (show ([aI ((0 : Int), ([(1, 64), (2, 1)] : List (Nat × Int))), aI ((0 : Int), ([(3, 1)] : List (Nat × Int)))] : List av) = [.inl gi, .inl gv] from hg)
  obtain ⟨g2, -⟩ := List.cons.inj g2
  cases g1
  cases g2
  have ei : ev ρ ((0 : Int), ([(1, 64), (2, 1)] : List (Nat × Int))) = (64 * (ρ 1) + (ρ 2)) := by show 0 + (64 * ρ 1 + (1 * ρ 2 + 0)) = _; omega
  have ew : ev ρ ((0 : Int), ([(3, 1)] : List (Nat × Int))) = ((ρ 3)) := by show 0 + (1 * ρ 3 + 0) = _; omega
  rw [show (st M (ctj r_760) (ev ρ ((0 : Int), ([(1, 64), (2, 1)] : List (Nat × Int)))).toNat (ev ρ ((0 : Int), ([(3, 1)] : List (Nat × Int))))) = (st M 114 (64 * (ρ 1) + (ρ 2)).toNat ((ρ 3))) from by rw [ei, ew]; rfl]
  have H := cr_760 M (ρ 0) (ρ 1) (ρ 2) (ρ 3) (ρ 4) (ρ 5) (hB _ List.mem_cons_self) (hB _ (List.mem_cons_of_mem _ List.mem_cons_self)) (hB _ (List.mem_cons_of_mem _ (List.mem_cons_of_mem _ List.mem_cons_self))) (hB _ (List.mem_cons_of_mem _ (List.mem_cons_of_mem _ (List.mem_cons_of_mem _ List.mem_cons_self)))) (hB _ (List.mem_cons_of_mem _ (List.mem_cons_of_mem _ (List.mem_cons_of_mem _ (List.mem_cons_of_mem _ List.mem_cons_self))))) (hB _ (List.mem_cons_of_mem _ (List.mem_cons_of_mem _ (List.mem_cons_of_mem _ (List.mem_cons_of_mem _ (List.mem_cons_of_mem _ List.mem_cons_self)))))) (cvp 287 (x' := ((ρ 0))) (y' := (0 : Int)) (by show 0 + (1 * ρ 0 + 0) = _; omega) (by show 0 + 0 = _; omega) (hm _ List.mem_cons_self)) (cvm (c := 78) (by decide) (x' := ((ρ 0) + 20)) (y' := ((ρ 1))) (by show 20 + (1 * ρ 0 + 0) = _; omega) (by show 0 + (1 * ρ 1 + 0) = _; omega) (hm _ (List.mem_cons_of_mem _ List.mem_cons_self))) (cvm (c := 79) (by decide) (x' := ((ρ 0) + 20)) (y' := ((ρ 2))) (by show 20 + (1 * ρ 0 + 0) = _; omega) (by show 0 + (1 * ρ 2 + 0) = _; omega) (hm _ (List.mem_cons_of_mem _ (List.mem_cons_of_mem _ List.mem_cons_self)))) (cvm (c := 80) (by decide) (x' := ((ρ 0) + 20)) (y' := ((ρ 3))) (by show 20 + (1 * ρ 0 + 0) = _; omega) (by show 0 + (1 * ρ 3 + 0) = _; omega) (hm _ (List.mem_cons_of_mem _ (List.mem_cons_of_mem _ (List.mem_cons_of_mem _ List.mem_cons_self))))) (cvm (c := 114) (by decide) (x' := (64 * (ρ 1) + (ρ 2))) (y' := ((ρ 4))) (by show 0 + (64 * ρ 1 + (1 * ρ 2 + 0)) = _; omega) (by show 0 + (1 * ρ 4 + 0) = _; omega) (hm _ (List.mem_cons_of_mem _ (List.mem_cons_of_mem _ (List.mem_cons_of_mem _ (List.mem_cons_of_mem _ List.mem_cons_self)))))) (cvm (c := 67) (by decide) (x' := (1 : Int)) (y' := ((ρ 5))) (by show 1 + 0 = _; omega) (by show 0 + (1 * ρ 5 + 0) = _; omega) (hm _ (List.mem_cons_of_mem _ (List.mem_cons_of_mem _ (List.mem_cons_of_mem _ (List.mem_cons_of_mem _ (List.mem_cons_of_mem _ List.mem_cons_self))))))) (by have h := hF _ List.mem_cons_self; have h : 0 ≤ (-1) + ((-1) * ρ 3 + (1 * ρ 4 + 0)) := h; omega) (by have h := hF _ (List.mem_cons_of_mem _ List.mem_cons_self); have h : 0 ≤ (-1) + ((-1) * ρ 0 + (1 * ρ 5 + 0)) := h; omega) hG
  obtain ⟨k0, -⟩ := H
  exact ⟨_, List.mem_cons_self, ρ, fun _ _ => rfl, (okM_c (pvp 289 (by show 0 + (1 * ρ 0 + 0) = _; omega) (by show 0 + 0 = _; omega) k0) okM_n), okB_n, okF_n⟩
-- drx_1
theorem cr_761 (M : pM) (s0 s1 s2 s3 s4 : Int) (b0 : 0 ≤ s0 ∧ s0 ≤ 19) (b1 : 0 ≤ s1 ∧ s1 ≤ 63) (b2 : 0 ≤ s2 ∧ s2 ≤ 63) (b3 : 0 ≤ s3 ∧ s3 ≤ 99) (b4 : 0 ≤ s4 ∧ s4 ≤ 20) (m0 : HP 289 (s0) (0 : Int) M) (m1 : (0 ≤ (s0 + 20) ∧ M 78 (s0 + 20).toNat = (s1))) (m2 : (0 ≤ (s0 + 20) ∧ M 79 (s0 + 20).toNat = (s2))) (m3 : (0 ≤ (s0 + 20) ∧ M 80 (s0 + 20).toNat = (s3))) (m4 : (0 ≤ (1 : Int) ∧ M 67 (1 : Int).toNat = (s4))) (f0 : 0 ≤ ((-1) * s0 + s4 - 1)) (hG : gI M) : (HP 287 (s0 + 1) (0 : Int) (st M 114 (s1 + 64 * s2).toNat (s3)) ∧ True) := by
  obtain ⟨k0, k1, k2, h⟩ := Eq.mp hp_289 m0
  have ek : k0 = s0.toNat := by omega
  subst ek
  have hR := dR_lt 1 M
  have vn : dRn 1 M = s4.toNat := dRn_v (by omega) (by have := m4.2; have this : M 67 1 = s4 := this; rw [this]; omega)
  have va : dRa 1 M s0.toNat = s1.toNat := dRa_v (by omega) (by omega) (by rw [show 20 * 1 + s0.toNat = (s0 + 20).toNat by omega, m1.2]; omega)
  have vb : dRb 1 M s0.toNat = s2.toNat := dRb_v (by omega) (by omega) (by rw [show 20 * 1 + s0.toNat = (s0 + 20).toNat by omega, m2.2]; omega)
  have vm : dRm 1 M s0.toNat = s3 := dRm_v (by omega) (by rw [show 20 * 1 + s0.toNat = (s0 + 20).toNat by omega, m3.2])
  have hs := rows_st (b := 1) (M := M) (X := 114) (I := (s1 + 64 * s2).toNat) (z := (s3)) (by omega)
  have hD : ∀ i j, i < 64 → j < 64 → dfar (st M 114 (s1 + 64 * s2).toNat (s3)) i j = if i = s2.toNat ∧ j = s1.toNat then (s3) else dfar M i j := dfar_st (by omega) (by omega) (by omega)
  refine ⟨Eq.mpr hp_287 ⟨s0.toNat + 1, by omega, by omega, ?_⟩, trivial⟩
  rw [hs.1, hs.2.1, hs.2.2.1, hs.2.2.2]
  exact dr_x h (hR _).1 (hR _).2 (by rw [vn]; omega) (by rw [vm]; omega) (fun i j hi hj => by rw [vb, va, vm]; exact hD i j hi hj) hR
theorem rul_761 : Rul r_761 := by
  refine ⟨fun h => (by cases h), fun gi gv hg ρ M hm hB hF hG => ?_⟩
  obtain ⟨g1, g2⟩ := List.cons.inj (show ([aI ((0 : Int), ([(1, 1), (2, 64)] : List (Nat × Int))), aI ((0 : Int), ([(3, 1)] : List (Nat × Int)))] : List av) = [.inl gi, .inl gv] from hg)
  obtain ⟨g2, -⟩ := List.cons.inj g2
  cases g1
  cases g2
  have ei : ev ρ ((0 : Int), ([(1, 1), (2, 64)] : List (Nat × Int))) = ((ρ 1) + 64 * (ρ 2)) := by show 0 + (1 * ρ 1 + (64 * ρ 2 + 0)) = _; omega
  have ew : ev ρ ((0 : Int), ([(3, 1)] : List (Nat × Int))) = ((ρ 3)) := by show 0 + (1 * ρ 3 + 0) = _; omega
  rw [show (st M (ctj r_761) (ev ρ ((0 : Int), ([(1, 1), (2, 64)] : List (Nat × Int)))).toNat (ev ρ ((0 : Int), ([(3, 1)] : List (Nat × Int))))) = (st M 114 ((ρ 1) + 64 * (ρ 2)).toNat ((ρ 3))) from by rw [ei, ew]; rfl]
  have H := cr_761 M (ρ 0) (ρ 1) (ρ 2) (ρ 3) (ρ 4) (hB _ List.mem_cons_self) (hB _ (List.mem_cons_of_mem _ List.mem_cons_self)) (hB _ (List.mem_cons_of_mem _ (List.mem_cons_of_mem _ List.mem_cons_self))) (hB _ (List.mem_cons_of_mem _ (List.mem_cons_of_mem _ (List.mem_cons_of_mem _ List.mem_cons_self)))) (hB _ (List.mem_cons_of_mem _ (List.mem_cons_of_mem _ (List.mem_cons_of_mem _ (List.mem_cons_of_mem _ List.mem_cons_self))))) (cvp 289 (x' := ((ρ 0))) (y' := (0 : Int)) (by show 0 + (1 * ρ 0 + 0) = _; omega) (by show 0 + 0 = _; omega) (hm _ List.mem_cons_self)) (cvm (c := 78) (by decide) (x' := ((ρ 0) + 20)) (y' := ((ρ 1))) (by show 20 + (1 * ρ 0 + 0) = _; omega) (by show 0 + (1 * ρ 1 + 0) = _; omega) (hm _ (List.mem_cons_of_mem _ List.mem_cons_self))) (cvm (c := 79) (by decide) (x' := ((ρ 0) + 20)) (y' := ((ρ 2))) (by show 20 + (1 * ρ 0 + 0) = _; omega) (by show 0 + (1 * ρ 2 + 0) = _; omega) (hm _ (List.mem_cons_of_mem _ (List.mem_cons_of_mem _ List.mem_cons_self)))) (cvm (c := 80) (by decide) (x' := ((ρ 0) + 20)) (y' := ((ρ 3))) (by show 20 + (1 * ρ 0 + 0) = _; omega) (by show 0 + (1 * ρ 3 + 0) = _; omega) (hm _ (List.mem_cons_of_mem _ (List.mem_cons_of_mem _ (List.mem_cons_of_mem _ List.mem_cons_self))))) (cvm (c := 67) (by decide) (x' := (1 : Int)) (y' := ((ρ 4))) (by show 1 + 0 = _; omega) (by show 0 + (1 * ρ 4 + 0) = _; omega) (hm _ (List.mem_cons_of_mem _ (List.mem_cons_of_mem _ (List.mem_cons_of_mem _ (List.mem_cons_of_mem _ List.mem_cons_self)))))) (by have h := hF _ List.mem_cons_self; have h : 0 ≤ (-1) + ((-1) * ρ 0 + (1 * ρ 4 + 0)) := h; omega) hG
  obtain ⟨k0, -⟩ := H
  exact ⟨_, List.mem_cons_self, ρ, fun _ _ => rfl, (okM_c (pvp 287 (by show 1 + (1 * ρ 0 + 0) = _; omega) (by show 0 + 0 = _; omega) k0) okM_n), okB_n, okF_n⟩
-- dre_1
theorem cr_762 (M : pM) (s0 s1 : Int) (b0 : 0 ≤ s0 ∧ s0 ≤ 20) (b1 : 0 ≤ s1 ∧ s1 ≤ 20) (m0 : HP 287 (s0) (0 : Int) M) (m1 : (0 ≤ (1 : Int) ∧ M 67 (1 : Int).toNat = (s1))) (f0 : 0 ≤ (s0 + (-1) * s1)) (hG : gI M) : (HP 291 (0 : Int) (0 : Int) M ∧ True) := by
  obtain ⟨k0, k1, k2, h⟩ := Eq.mp hp_287 m0
  have ek : k0 = s0.toNat := by omega
  subst ek
  have vn : dRn 1 M = s1.toNat := dRn_v (by omega) (by have := m1.2; have this : M 67 1 = s1 := this; rw [this]; omega)
  exact ⟨Eq.mpr hp_291 ⟨0, 0, by omega, by omega, by omega, dw_0 h (by rw [vn]; omega)⟩, trivial⟩
theorem rul_762 : Rul r_762 := by
  refine ⟨fun _ ρ M hm hB hF hG => ?_, fun gi gv hg => (by cases hg)⟩
  have H := cr_762 M (ρ 0) (ρ 1) (hB _ List.mem_cons_self) (hB _ (List.mem_cons_of_mem _ List.mem_cons_self)) (cvp 287 (x' := ((ρ 0))) (y' := (0 : Int)) (by show 0 + (1 * ρ 0 + 0) = _; omega) (by show 0 + 0 = _; omega) (hm _ List.mem_cons_self)) (cvm (c := 67) (by decide) (x' := (1 : Int)) (y' := ((ρ 1))) (by show 1 + 0 = _; omega) (by show 0 + (1 * ρ 1 + 0) = _; omega) (hm _ (List.mem_cons_of_mem _ List.mem_cons_self))) (by have h := hF _ List.mem_cons_self; have h : 0 ≤ 0 + (1 * ρ 0 + ((-1) * ρ 1 + 0)) := h; omega) hG
  obtain ⟨k0, -⟩ := H
  exact ⟨_, List.mem_cons_self, ρ, fun _ _ => rfl, (okM_c (pvp 291 (by show 0 + 0 = _; omega) (by show 0 + 0 = _; omega) k0) okM_n), okB_n, okF_n⟩
-- dwk_1
theorem cr_763 (M : pM) (s0 s1 s2 s3 s4 s5 : Int) (b0 : 0 ≤ s0 ∧ s0 ≤ 63) (b1 : 0 ≤ s1 ∧ s1 ≤ 63) (b2 : 0 ≤ s2 ∧ s2 ≤ 63) (b3 : 0 ≤ s3 ∧ s3 ≤ 100000) (b4 : 0 ≤ s4 ∧ s4 ≤ 100000) (b5 : 0 ≤ s5 ∧ s5 ≤ 100000) (m0 : HP 291 (8192 * s0 + 64 * s1 + s2) (0 : Int) M) (m1 : (0 ≤ (s0 + 64 * s1) ∧ M 114 (s0 + 64 * s1).toNat = (s3))) (m2 : (0 ≤ (64 * s0 + s2) ∧ M 114 (64 * s0 + s2).toNat = (s4))) (m3 : (0 ≤ (64 * s1 + s2) ∧ M 114 (64 * s1 + s2).toNat = (s5))) (f0 : 0 ≤ (s3 + s4 + (-1) * s5)) (hG : gI M) : (HP 291 (8192 * s0 + 64 * s1 + s2 + 1) (0 : Int) M ∧ True) := by
  obtain ⟨j0, t0, t1, t2, t3, h⟩ := Eq.mp hp_291 m0
  have ej : j0 = s0.toNat := by omega
  have et : t0 = 64 * s1.toNat + s2.toNat := by omega
  subst ej; subst et
  have vu : dfar M s1.toNat s0.toNat = s3 := (dfar_v (by omega) (by omega)).trans (by rw [show 64 * s1.toNat + s0.toNat = (s0 + 64 * s1).toNat by omega]; exact m1.2)
  have vv : dfar M s0.toNat s2.toNat = s4 := (dfar_v (by omega) (by omega)).trans (by rw [show 64 * s0.toNat + s2.toNat = (64 * s0 + s2).toNat by omega]; exact m2.2)
  have vx : dfar M s1.toNat s2.toNat = s5 := (dfar_v (by omega) (by omega)).trans (by rw [show 64 * s1.toNat + s2.toNat = (64 * s1 + s2).toNat by omega]; exact m3.2)
  exact ⟨Eq.mpr hp_291 ⟨s0.toNat, 64 * s1.toNat + s2.toNat + 1, by omega, by omega, by omega, dw_s h (by omega) (by omega) (by omega) rfl (fun i j hi hj => by
      by_cases q : i = s1.toNat ∧ j = s2.toNat
      · rw [if_pos q, q.1, q.2, vu, vv, vx]; omega
      · rw [if_neg q])⟩, trivial⟩
theorem rul_763 : Rul r_763 := by
  refine ⟨fun _ ρ M hm hB hF hG => ?_, fun gi gv hg => (by cases hg)⟩
  have H := cr_763 M (ρ 0) (ρ 1) (ρ 2) (ρ 3) (ρ 4) (ρ 5) (hB _ List.mem_cons_self) (hB _ (List.mem_cons_of_mem _ List.mem_cons_self)) (hB _ (List.mem_cons_of_mem _ (List.mem_cons_of_mem _ List.mem_cons_self))) (hB _ (List.mem_cons_of_mem _ (List.mem_cons_of_mem _ (List.mem_cons_of_mem _ List.mem_cons_self)))) (hB _ (List.mem_cons_of_mem _ (List.mem_cons_of_mem _ (List.mem_cons_of_mem _ (List.mem_cons_of_mem _ List.mem_cons_self))))) (hB _ (List.mem_cons_of_mem _ (List.mem_cons_of_mem _ (List.mem_cons_of_mem _ (List.mem_cons_of_mem _ (List.mem_cons_of_mem _ List.mem_cons_self)))))) (cvp 291 (x' := (8192 * (ρ 0) + 64 * (ρ 1) + (ρ 2))) (y' := (0 : Int)) (by show 0 + (8192 * ρ 0 + (64 * ρ 1 + (1 * ρ 2 + 0))) = _; omega) (by show 0 + 0 = _; omega) (hm _ List.mem_cons_self)) (cvm (c := 114) (by decide) (x' := ((ρ 0) + 64 * (ρ 1))) (y' := ((ρ 3))) (by show 0 + (1 * ρ 0 + (64 * ρ 1 + 0)) = _; omega) (by show 0 + (1 * ρ 3 + 0) = _; omega) (hm _ (List.mem_cons_of_mem _ List.mem_cons_self))) (cvm (c := 114) (by decide) (x' := (64 * (ρ 0) + (ρ 2))) (y' := ((ρ 4))) (by show 0 + (64 * ρ 0 + (1 * ρ 2 + 0)) = _; omega) (by show 0 + (1 * ρ 4 + 0) = _; omega) (hm _ (List.mem_cons_of_mem _ (List.mem_cons_of_mem _ List.mem_cons_self)))) (cvm (c := 114) (by decide) (x' := (64 * (ρ 1) + (ρ 2))) (y' := ((ρ 5))) (by show 0 + (64 * ρ 1 + (1 * ρ 2 + 0)) = _; omega) (by show 0 + (1 * ρ 5 + 0) = _; omega) (hm _ (List.mem_cons_of_mem _ (List.mem_cons_of_mem _ (List.mem_cons_of_mem _ List.mem_cons_self))))) (by have h := hF _ List.mem_cons_self; have h : 0 ≤ 0 + (1 * ρ 3 + (1 * ρ 4 + ((-1) * ρ 5 + 0))) := h; omega) hG
  obtain ⟨k0, -⟩ := H
  exact ⟨_, List.mem_cons_self, ρ, fun _ _ => rfl, (okM_c (pvp 291 (by show 1 + (8192 * ρ 0 + (64 * ρ 1 + (1 * ρ 2 + 0))) = _; omega) (by show 0 + 0 = _; omega) k0) okM_n), okB_n, okF_n⟩
-- dww_1
theorem cr_764 (M : pM) (s0 s1 s2 s3 s4 s5 : Int) (b0 : 0 ≤ s0 ∧ s0 ≤ 63) (b1 : 0 ≤ s1 ∧ s1 ≤ 63) (b2 : 0 ≤ s2 ∧ s2 ≤ 63) (b3 : 0 ≤ s3 ∧ s3 ≤ 100000) (b4 : 0 ≤ s4 ∧ s4 ≤ 100000) (b5 : 0 ≤ s5 ∧ s5 ≤ 100000) (m0 : HP 291 (8192 * s0 + 64 * s1 + s2) (0 : Int) M) (m1 : (0 ≤ (s0 + 64 * s1) ∧ M 114 (s0 + 64 * s1).toNat = (s3))) (m2 : (0 ≤ (64 * s0 + s2) ∧ M 114 (64 * s0 + s2).toNat = (s4))) (m3 : (0 ≤ (64 * s1 + s2) ∧ M 114 (64 * s1 + s2).toNat = (s5))) (f0 : 0 ≤ ((-1) * s3 + (-1) * s4 + s5 - 1)) (hG : gI M) : (HP 291 (8192 * s0 + 64 * s1 + s2 + 1) (0 : Int) (st M 114 (64 * s1 + s2).toNat (s3 + s4)) ∧ True) := by
  obtain ⟨j0, t0, t1, t2, t3, h⟩ := Eq.mp hp_291 m0
  have ej : j0 = s0.toNat := by omega
  have et : t0 = 64 * s1.toNat + s2.toNat := by omega
  subst ej; subst et
  have vu : dfar M s1.toNat s0.toNat = s3 := (dfar_v (by omega) (by omega)).trans (by rw [show 64 * s1.toNat + s0.toNat = (s0 + 64 * s1).toNat by omega]; exact m1.2)
  have vv : dfar M s0.toNat s2.toNat = s4 := (dfar_v (by omega) (by omega)).trans (by rw [show 64 * s0.toNat + s2.toNat = (64 * s0 + s2).toNat by omega]; exact m2.2)
  have vx : dfar M s1.toNat s2.toNat = s5 := (dfar_v (by omega) (by omega)).trans (by rw [show 64 * s1.toNat + s2.toNat = (64 * s1 + s2).toNat by omega]; exact m3.2)
  have hs := rows_st (b := 1) (M := M) (X := 114) (I := (64 * s1 + s2).toNat) (z := (s3 + s4)) (by omega)
  have hD : ∀ i j, i < 64 → j < 64 → dfar (st M 114 (64 * s1 + s2).toNat (s3 + s4)) i j = if i = s1.toNat ∧ j = s2.toNat then (s3 + s4) else dfar M i j := dfar_st (by omega) (by omega) (by omega)
  refine ⟨Eq.mpr hp_291 ⟨s0.toNat, 64 * s1.toNat + s2.toNat + 1, by omega, by omega, by omega, ?_⟩, trivial⟩
  rw [hs.1, hs.2.1, hs.2.2.1, hs.2.2.2]
  refine dw_s h (by omega) (by omega) (by omega) rfl (fun i j hi hj => ?_)
  rw [hD i j hi hj]
  by_cases q : i = s1.toNat ∧ j = s2.toNat
  · rw [if_pos q, if_pos q, vu, vv, vx]; omega
  · rw [if_neg q, if_neg q]
theorem rul_764 : Rul r_764 := by
  refine ⟨fun h => (by cases h), fun gi gv hg ρ M hm hB hF hG => ?_⟩
  obtain ⟨g1, g2⟩ := List.cons.inj (show ([aI ((0 : Int), ([(1, 64), (2, 1)] : List (Nat × Int))), aI ((0 : Int), ([(3, 1), (4, 1)] : List (Nat × Int)))] : List av) = [.inl gi, .inl gv] from hg)
  obtain ⟨g2, -⟩ := List.cons.inj g2
  cases g1
  cases g2
  have ei : ev ρ ((0 : Int), ([(1, 64), (2, 1)] : List (Nat × Int))) = (64 * (ρ 1) + (ρ 2)) := by show 0 + (64 * ρ 1 + (1 * ρ 2 + 0)) = _; omega
  have ew : ev ρ ((0 : Int), ([(3, 1), (4, 1)] : List (Nat × Int))) = ((ρ 3) + (ρ 4)) := by show 0 + (1 * ρ 3 + (1 * ρ 4 + 0)) = _; omega
  rw [show (st M (ctj r_764) (ev ρ ((0 : Int), ([(1, 64), (2, 1)] : List (Nat × Int)))).toNat (ev ρ ((0 : Int), ([(3, 1), (4, 1)] : List (Nat × Int))))) = (st M 114 (64 * (ρ 1) + (ρ 2)).toNat ((ρ 3) + (ρ 4))) from by rw [ei, ew]; rfl]
  have H := cr_764 M (ρ 0) (ρ 1) (ρ 2) (ρ 3) (ρ 4) (ρ 5) (hB _ List.mem_cons_self) (hB _ (List.mem_cons_of_mem _ List.mem_cons_self)) (hB _ (List.mem_cons_of_mem _ (List.mem_cons_of_mem _ List.mem_cons_self))) (hB _ (List.mem_cons_of_mem _ (List.mem_cons_of_mem _ (List.mem_cons_of_mem _ List.mem_cons_self)))) (hB _ (List.mem_cons_of_mem _ (List.mem_cons_of_mem _ (List.mem_cons_of_mem _ (List.mem_cons_of_mem _ List.mem_cons_self))))) (hB _ (List.mem_cons_of_mem _ (List.mem_cons_of_mem _ (List.mem_cons_of_mem _ (List.mem_cons_of_mem _ (List.mem_cons_of_mem _ List.mem_cons_self)))))) (cvp 291 (x' := (8192 * (ρ 0) + 64 * (ρ 1) + (ρ 2))) (y' := (0 : Int)) (by show 0 + (8192 * ρ 0 + (64 * ρ 1 + (1 * ρ 2 + 0))) = _; omega) (by show 0 + 0 = _; omega) (hm _ List.mem_cons_self)) (cvm (c := 114) (by decide) (x' := ((ρ 0) + 64 * (ρ 1))) (y' := ((ρ 3))) (by show 0 + (1 * ρ 0 + (64 * ρ 1 + 0)) = _; omega) (by show 0 + (1 * ρ 3 + 0) = _; omega) (hm _ (List.mem_cons_of_mem _ List.mem_cons_self))) (cvm (c := 114) (by decide) (x' := (64 * (ρ 0) + (ρ 2))) (y' := ((ρ 4))) (by show 0 + (64 * ρ 0 + (1 * ρ 2 + 0)) = _; omega) (by show 0 + (1 * ρ 4 + 0) = _; omega) (hm _ (List.mem_cons_of_mem _ (List.mem_cons_of_mem _ List.mem_cons_self)))) (cvm (c := 114) (by decide) (x' := (64 * (ρ 1) + (ρ 2))) (y' := ((ρ 5))) (by show 0 + (64 * ρ 1 + (1 * ρ 2 + 0)) = _; omega) (by show 0 + (1 * ρ 5 + 0) = _; omega) (hm _ (List.mem_cons_of_mem _ (List.mem_cons_of_mem _ (List.mem_cons_of_mem _ List.mem_cons_self))))) (by have h := hF _ List.mem_cons_self; have h : 0 ≤ (-1) + ((-1) * ρ 3 + ((-1) * ρ 4 + (1 * ρ 5 + 0))) := h; omega) hG
  obtain ⟨k0, -⟩ := H
  exact ⟨_, List.mem_cons_self, ρ, fun _ _ => rfl, (okM_c (pvp 291 (by show 1 + (8192 * ρ 0 + (64 * ρ 1 + (1 * ρ 2 + 0))) = _; omega) (by show 0 + 0 = _; omega) k0) okM_n), okB_n, okF_n⟩
-- dwc_1
theorem cr_765 (M : pM) (s0 s1 s2 : Int) (b0 : 0 ≤ s0 ∧ s0 ≤ 63) (b1 : 0 ≤ s1 ∧ s1 ≤ 63) (b2 : 0 ≤ s2 ∧ s2 ≤ 64) (m0 : HP 291 (8192 * s0 + 64 * s1 + s2) (0 : Int) M) (f0 : 0 ≤ (s2 - 64)) (hG : gI M) : (HP 291 (8192 * s0 + 64 * s1 + 64) (0 : Int) M ∧ True) := by
  obtain ⟨j0, t0, t1, t2, t3, h⟩ := Eq.mp hp_291 m0
  exact ⟨Eq.mpr hp_291 ⟨j0, t0, t1, t2, by omega, h⟩, trivial⟩
theorem rul_765 : Rul r_765 := by
  refine ⟨fun _ ρ M hm hB hF hG => ?_, fun gi gv hg => (by cases hg)⟩
  have H := cr_765 M (ρ 0) (ρ 1) (ρ 2) (hB _ List.mem_cons_self) (hB _ (List.mem_cons_of_mem _ List.mem_cons_self)) (hB _ (List.mem_cons_of_mem _ (List.mem_cons_of_mem _ List.mem_cons_self))) (cvp 291 (x' := (8192 * (ρ 0) + 64 * (ρ 1) + (ρ 2))) (y' := (0 : Int)) (by show 0 + (8192 * ρ 0 + (64 * ρ 1 + (1 * ρ 2 + 0))) = _; omega) (by show 0 + 0 = _; omega) (hm _ List.mem_cons_self)) (by have h := hF _ List.mem_cons_self; have h : 0 ≤ (-64) + (1 * ρ 2 + 0) := h; omega) hG
  obtain ⟨k0, -⟩ := H
  exact ⟨_, List.mem_cons_self, ρ, fun _ _ => rfl, (okM_c (pvp 291 (by show 64 + (8192 * ρ 0 + (64 * ρ 1 + 0)) = _; omega) (by show 0 + 0 = _; omega) k0) okM_n), okB_n, okF_n⟩
-- dwe_1
theorem cr_766 (M : pM) (s0 s1 : Int) (b0 : 0 ≤ s0 ∧ s0 ≤ 63) (b1 : 0 ≤ s1 ∧ s1 ≤ 64) (m0 : HP 291 (8192 * s0 + 64 * s1) (0 : Int) M) (f0 : 0 ≤ (s1 - 64)) (hG : gI M) : (HP 291 (8192 * s0 + 8192) (0 : Int) M ∧ True) := by
  obtain ⟨j0, t0, t1, t2, t3, h⟩ := Eq.mp hp_291 m0
  have ej : j0 = s0.toNat := by omega
  have et : t0 = 4096 := by omega
  subst ej; subst et
  have hR := dR_lt 1 M
  exact ⟨Eq.mpr hp_291 ⟨s0.toNat + 1, 0, by omega, by omega, by omega, dw_e h (by omega) hR⟩, trivial⟩
theorem rul_766 : Rul r_766 := by
  refine ⟨fun _ ρ M hm hB hF hG => ?_, fun gi gv hg => (by cases hg)⟩
  have H := cr_766 M (ρ 0) (ρ 1) (hB _ List.mem_cons_self) (hB _ (List.mem_cons_of_mem _ List.mem_cons_self)) (cvp 291 (x' := (8192 * (ρ 0) + 64 * (ρ 1))) (y' := (0 : Int)) (by show 0 + (8192 * ρ 0 + (64 * ρ 1 + 0)) = _; omega) (by show 0 + 0 = _; omega) (hm _ List.mem_cons_self)) (by have h := hF _ List.mem_cons_self; have h : 0 ≤ (-64) + (1 * ρ 1 + 0) := h; omega) hG
  obtain ⟨k0, -⟩ := H
  exact ⟨_, List.mem_cons_self, ρ, fun _ _ => rfl, (okM_c (pvp 291 (by show 8192 + (8192 * ρ 0 + 0) = _; omega) (by show 0 + 0 = _; omega) k0) okM_n), okB_n, okF_n⟩
-- dwf_1
theorem cr_767 (M : pM) (s0 : Int) (b0 : 0 ≤ s0 ∧ s0 ≤ 64) (m0 : HP 291 (8192 * s0) (0 : Int) M) (f0 : 0 ≤ (s0 - 64)) (hG : gI M) : (HP 293 (0 : Int) (0 : Int) M ∧ True) := by
  obtain ⟨j0, t0, t1, t2, t3, h⟩ := Eq.mp hp_291 m0
  have ej : j0 = 64 := by omega
  have et : t0 = 0 := by omega
  subst ej; subst et
  have hR := dR_lt 1 M
  exact ⟨Eq.mpr hp_293 (dw_f h hR), trivial⟩
theorem rul_767 : Rul r_767 := by
  refine ⟨fun _ ρ M hm hB hF hG => ?_, fun gi gv hg => (by cases hg)⟩
  have H := cr_767 M (ρ 0) (hB _ List.mem_cons_self) (cvp 291 (x' := (8192 * (ρ 0))) (y' := (0 : Int)) (by show 0 + (8192 * ρ 0 + 0) = _; omega) (by show 0 + 0 = _; omega) (hm _ List.mem_cons_self)) (by have h := hF _ List.mem_cons_self; have h : 0 ≤ (-64) + (1 * ρ 0 + 0) := h; omega) hG
  obtain ⟨k0, -⟩ := H
  exact ⟨_, List.mem_cons_self, ρ, fun _ _ => rfl, (okM_c (pvp 293 (by show 0 + 0 = _; omega) (by show 0 + 0 = _; omega) k0) okM_n), okB_n, okF_n⟩
-- dfo_1
theorem cr_768 (M : pM) (m0 : HP 294 (0 : Int) (0 : Int) M) (m1 : (0 ≤ (34 : Int) ∧ M 61 (34 : Int).toNat = (1 : Int))) (hG : gI M) : (HP 293 (0 : Int) (0 : Int) M ∧ True) := by
  have e : M 61 34 = 1 := m1.2
  rcases Eq.mp hp_294 m0 with ⟨h1, h2⟩ | ⟨h1, h2⟩
  · omega
  · exact ⟨Eq.mpr hp_293 h2, trivial⟩
theorem rul_768 : Rul r_768 := by
  refine ⟨fun _ ρ M hm hB hF hG => ?_, fun gi gv hg => (by cases hg)⟩
  have H := cr_768 M (cvp 294 (x' := (0 : Int)) (y' := (0 : Int)) (by show 0 + 0 = _; omega) (by show 0 + 0 = _; omega) (hm _ List.mem_cons_self)) (cvm (c := 61) (by decide) (x' := (34 : Int)) (y' := (1 : Int)) (by show 34 + 0 = _; omega) (by show 1 + 0 = _; omega) (hm _ (List.mem_cons_of_mem _ List.mem_cons_self))) hG
  obtain ⟨k0, -⟩ := H
  exact ⟨_, List.mem_cons_self, ρ, fun _ _ => rfl, (okM_c (pvp 293 (by show 0 + 0 = _; omega) (by show 0 + 0 = _; omega) k0) okM_n), okB_n, okF_n⟩
-- dfi_1
theorem cr_769 (M : pM) (m0 : HP 293 (0 : Int) (0 : Int) M) (m1 : (0 ≤ (34 : Int) ∧ M 61 (34 : Int).toNat = (1 : Int))) (hG : gI M) : (HP 294 (0 : Int) (0 : Int) M ∧ True) := by
  have e : M 61 34 = 1 := m1.2
  exact ⟨Eq.mpr hp_294 (Or.inr ⟨e, Eq.mp hp_293 m0⟩), trivial⟩
theorem rul_769 : Rul r_769 := by
  refine ⟨fun _ ρ M hm hB hF hG => ?_, fun gi gv hg => (by cases hg)⟩
  have H := cr_769 M (cvp 293 (x' := (0 : Int)) (y' := (0 : Int)) (by show 0 + 0 = _; omega) (by show 0 + 0 = _; omega) (hm _ List.mem_cons_self)) (cvm (c := 61) (by decide) (x' := (34 : Int)) (y' := (1 : Int)) (by show 34 + 0 = _; omega) (by show 1 + 0 = _; omega) (hm _ (List.mem_cons_of_mem _ List.mem_cons_self))) hG
  obtain ⟨k0, -⟩ := H
  exact ⟨_, List.mem_cons_self, ρ, fun _ _ => rfl, (okM_c (pvp 294 (by show 0 + 0 = _; omega) (by show 0 + 0 = _; omega) k0) okM_n), okB_n, okF_n⟩
-- bs0_1
theorem cr_770 (M : pM) (s0 s1 : Int) (b0 : 0 ≤ s0 ∧ s0 ≤ 63) (b1 : 0 ≤ s1 ∧ s1 ≤ 20) (m0 : HP 295 (64 : Int) (1000000 : Int) M) (m1 : HP 293 (0 : Int) (0 : Int) M) (m2 : (0 ≤ (1 : Int) ∧ M 67 (1 : Int).toNat = (s1))) (hG : gI M) : (HP 297 (s0) (0 : Int) (st M 57 (s0).toNat (0 : Int)) ∧ True) := by
  have vn : dRn 1 M = s1.toNat := dRn_v (by omega) (by have := m2.2; have this : M 67 1 = s1 := this; rw [this]; omega)
  have ho := dok_b (b := 1) (M := M) (f := s0.toNat) (Eq.mp hp_293 m1) (by omega)
  have hs := rows_st (b := 1) (M := M) (X := 57) (I := (s0).toNat) (z := (0 : Int)) (by omega)
  obtain ⟨h1, h2⟩ := Eq.mp hp_295 m0
  refine ⟨Eq.mpr hp_297 ⟨s0.toNat, 0, by omega, by omega, by omega, ?_⟩, trivial⟩
  rw [hs.1, hs.2.1, hs.2.2.1, hs.2.2.2]
  rw [dDf_st (by omega)]
  refine bs_0 ho (by rw [vn]; omega) (fun v hv => ?_) (by omega)
  rw [dDd_st (a := s0.toNat) rfl v hv]
  by_cases e : v = s0.toNat
  · rw [if_pos e, if_pos e]
  · rw [if_neg e, if_neg e, dDd_v hv]
    exact h2 v (by omega)
theorem rul_770 : Rul r_770 := by
  refine ⟨fun h => (by cases h), fun gi gv hg ρ M hm hB hF hG => ?_⟩
  obtain ⟨g1, g2⟩ := List.cons.inj (show ([aI ((0 : Int), ([(0, 1)] : List (Nat × Int))), aI ((0 : Int), ([] : List (Nat × Int)))] : List av) = [.inl gi, .inl gv] from hg)
  obtain ⟨g2, -⟩ := List.cons.inj g2
  cases g1
  cases g2
  have ei : ev ρ ((0 : Int), ([(0, 1)] : List (Nat × Int))) = ((ρ 0)) := by show 0 + (1 * ρ 0 + 0) = _; omega
  have ew : ev ρ ((0 : Int), ([] : List (Nat × Int))) = (0 : Int) := by show 0 + 0 = _; omega
  rw [show (st M (ctj r_770) (ev ρ ((0 : Int), ([(0, 1)] : List (Nat × Int)))).toNat (ev ρ ((0 : Int), ([] : List (Nat × Int))))) = (st M 57 ((ρ 0)).toNat (0 : Int)) from by rw [ei, ew]; rfl]
  have H := cr_770 M (ρ 0) (ρ 1) (hB _ List.mem_cons_self) (hB _ (List.mem_cons_of_mem _ List.mem_cons_self)) (cvp 295 (x' := (64 : Int)) (y' := (1000000 : Int)) (by show 64 + 0 = _; omega) (by show 1000000 + 0 = _; omega) (hm _ List.mem_cons_self)) (cvp 293 (x' := (0 : Int)) (y' := (0 : Int)) (by show 0 + 0 = _; omega) (by show 0 + 0 = _; omega) (hm _ (List.mem_cons_of_mem _ List.mem_cons_self))) (cvm (c := 67) (by decide) (x' := (1 : Int)) (y' := ((ρ 1))) (by show 1 + 0 = _; omega) (by show 0 + (1 * ρ 1 + 0) = _; omega) (hm _ (List.mem_cons_of_mem _ (List.mem_cons_of_mem _ List.mem_cons_self)))) hG
  obtain ⟨k0, -⟩ := H
  exact ⟨_, List.mem_cons_self, ρ, fun _ _ => rfl, (okM_c (pvp 297 (by show 0 + (1 * ρ 0 + 0) = _; omega) (by show 0 + 0 = _; omega) k0) okM_n), okB_n, okF_n⟩
-- bin_1
theorem cr_771 (M : pM) (s0 s1 : Int) (b0 : 0 ≤ s0 ∧ s0 ≤ 63) (b1 : 0 ≤ s1 ∧ s1 ≤ 20) (m0 : HP 297 (s0 + 64 * s1) (0 : Int) M) (m1 : HP 293 (0 : Int) (0 : Int) M) (hG : gI M) : (HP 299 (s0 + 2048 * s1) (0 : Int) M ∧ True) := by
  obtain ⟨f0, t0, f1, t1, t2, h⟩ := Eq.mp hp_297 m0
  have ef : f0 = s0.toNat := by omega
  have et : t0 = s1.toNat := by omega
  subst ef; subst et
  have ho := dok_b (b := 1) (M := M) (f := s0.toNat) (Eq.mp hp_293 m1) (by omega)
  have hR := dR_lt 1 M
  exact ⟨Eq.mpr hp_299 ⟨s0.toNat, 0, s1.toNat, by omega, by omega, by omega, by omega, bi_0 hR ho (by omega) (fun r _ => dRm_0 hG (by decide) r) h⟩, trivial⟩
theorem rul_771 : Rul r_771 := by
  refine ⟨fun _ ρ M hm hB hF hG => ?_, fun gi gv hg => (by cases hg)⟩
  have H := cr_771 M (ρ 0) (ρ 1) (hB _ List.mem_cons_self) (hB _ (List.mem_cons_of_mem _ List.mem_cons_self)) (cvp 297 (x' := ((ρ 0) + 64 * (ρ 1))) (y' := (0 : Int)) (by show 0 + (1 * ρ 0 + (64 * ρ 1 + 0)) = _; omega) (by show 0 + 0 = _; omega) (hm _ List.mem_cons_self)) (cvp 293 (x' := (0 : Int)) (y' := (0 : Int)) (by show 0 + 0 = _; omega) (by show 0 + 0 = _; omega) (hm _ (List.mem_cons_of_mem _ List.mem_cons_self))) hG
  obtain ⟨k0, -⟩ := H
  exact ⟨_, List.mem_cons_self, ρ, fun _ _ => rfl, (okM_c (pvp 299 (by show 0 + (1 * ρ 0 + (2048 * ρ 1 + 0)) = _; omega) (by show 0 + 0 = _; omega) k0) okM_n), okB_n, okF_n⟩
-- b1w_1
theorem cr_772 (M : pM) (s0 s1 s2 s3 s4 s5 s6 s7 s8 s9 : Int) (b0 : 0 ≤ s0 ∧ s0 ≤ 63) (b1 : 0 ≤ s1 ∧ s1 ≤ 20) (b2 : 0 ≤ s2 ∧ s2 ≤ 19) (b3 : 0 ≤ s3 ∧ s3 ≤ 1) (b4 : 0 ≤ s4 ∧ s4 ≤ 20) (b5 : 0 ≤ s5 ∧ s5 ≤ 63) (b6 : 0 ≤ s6 ∧ s6 ≤ 63) (b7 : 0 ≤ s7 ∧ s7 ≤ 99) (b8 : 0 ≤ s8 ∧ s8 ≤ 1000000) (b9 : 0 ≤ s9 ∧ s9 ≤ 1000000) (m0 : HP 299 (s0 + 2048 * s1 + 64 * s2) (s3) M) (m1 : HP 184 (0 : Int) (0 : Int) M) (m2 : HP 293 (0 : Int) (0 : Int) M) (m3 : (0 ≤ (10 : Int) ∧ M 12 (10 : Int).toNat = (s4))) (m4 : (0 ≤ (3 * s2) ∧ M 18 (3 * s2).toNat = (s5))) (m5 : (0 ≤ (3 * s2 + 1) ∧ M 18 (3 * s2 + 1).toNat = (s6))) (m6 : (0 ≤ (3 * s2 + 2) ∧ M 18 (3 * s2 + 2).toNat = (s7))) (m7 : (0 ≤ (s5) ∧ M 57 (s5).toNat = (s8))) (m8 : (0 ≤ (s6) ∧ M 57 (s6).toNat = (s9))) (f0 : 0 ≤ ((-1) * s7 + (-1) * s8 + s9 - 1)) (f1 : 0 ≤ ((-1) * s2 + s4 - 1)) (hG : gI M) : (HP 301 (s0 + 2048 * s1 + 64 * s2) (1 : Int) (st M 57 (s6).toNat (s7 + s8)) ∧ True) := by
  obtain ⟨f0, k0, t0, f1, k1, t1, t2, h⟩ := Eq.mp hp_299 m0
  have ef : f0 = s0.toNat := by omega
  have ek : k0 = s2.toNat := by omega
  have et : t0 = s1.toNat := by omega
  subst ef; subst ek; subst et
  have hq := Eq.mp hp_184 m1
  have hn : M (3 + 9 * 1) 10 = s4 := m3.2
  have vn : dRn 1 M = s4.toNat := dRn_v (by omega) (by rw [← eq_rn hq, hn]; omega)
  obtain ⟨q1, q2, q3⟩ := eq_ro hq (i := s2.toNat) (by omega) (by rw [hn]; omega)
  have w1 : M (9 + 9 * 1) (3 * s2.toNat) = s5 := by
    rw [show 3 * s2.toNat = (3 * s2).toNat by omega]
    exact m4.2
  have va : dRa 1 M s2.toNat = s5.toNat := dRa_v (by omega) (by omega) (by rw [← q1, w1]; omega)
  have w2 : M (9 + 9 * 1) (3 * s2.toNat + 1) = s6 := by
    rw [show 3 * s2.toNat + 1 = (3 * s2 + 1).toNat by omega]
    exact m5.2
  have vb : dRb 1 M s2.toNat = s6.toNat := dRb_v (by omega) (by omega) (by rw [← q2, w2]; omega)
  have w3 : M (9 + 9 * 1) (3 * s2.toNat + 2) = s7 := by
    rw [show 3 * s2.toNat + 2 = (3 * s2 + 2).toNat by omega]
    exact m6.2
  have vm : dRm 1 M s2.toNat = s7 := dRm_v (by omega) (by rw [← q3, w3])
  have du : dDd M s5.toNat = s8 := (dDd_v (by omega)).trans m7.2
  have dv : dDd M s6.toNat = s9 := (dDd_v (by omega)).trans m8.2
  have hR := dR_lt 1 M
  have ho := dok_b (b := 1) (M := M) (f := s0.toNat) (Eq.mp hp_293 m2) (by omega)
  have hs := rows_st (b := 1) (M := M) (X := 57) (I := (s6).toNat) (z := (s7 + s8)) (by omega)
  refine ⟨Eq.mpr hp_301 ⟨s0.toNat, s2.toNat, s1.toNat, by omega, by omega, by omega, by omega, ?_⟩, trivial⟩
  rw [hs.1, hs.2.1, hs.2.2.1, hs.2.2.2]
  rw [dDf_st (by omega)]
  exact b1_w hR ho (by omega) (by rw [vn]; omega) (by rw [vm]; omega) h (z := (s7 + s8)) (by rw [va, vm, du]; omega) (by rw [vb, dv]; omega) (fun v hv => by rw [vb]; exact dDd_st rfl v hv)
theorem rul_772 : Rul r_772 := by
  refine ⟨fun h => (by cases h), fun gi gv hg ρ M hm hB hF hG => ?_⟩
  obtain ⟨g1, g2⟩ := List.cons.inj (show ([aI ((0 : Int), ([(6, 1)] : List (Nat × Int))), aI ((0 : Int), ([(7, 1), (8, 1)] : List (Nat × Int)))] : List av) = [.inl gi, .inl gv] from hg)
  obtain ⟨g2, -⟩ := List.cons.inj g2
  cases g1
  cases g2
  have ei : ev ρ ((0 : Int), ([(6, 1)] : List (Nat × Int))) = ((ρ 6)) := by show 0 + (1 * ρ 6 + 0) = _; omega
  have ew : ev ρ ((0 : Int), ([(7, 1), (8, 1)] : List (Nat × Int))) = ((ρ 7) + (ρ 8)) := by show 0 + (1 * ρ 7 + (1 * ρ 8 + 0)) = _; omega
  rw [show (st M (ctj r_772) (ev ρ ((0 : Int), ([(6, 1)] : List (Nat × Int)))).toNat (ev ρ ((0 : Int), ([(7, 1), (8, 1)] : List (Nat × Int))))) = (st M 57 ((ρ 6)).toNat ((ρ 7) + (ρ 8))) from by rw [ei, ew]; rfl]
  have H := cr_772 M (ρ 0) (ρ 1) (ρ 2) (ρ 3) (ρ 4) (ρ 5) (ρ 6) (ρ 7) (ρ 8) (ρ 9) (hB _ List.mem_cons_self) (hB _ (List.mem_cons_of_mem _ List.mem_cons_self)) (hB _ (List.mem_cons_of_mem _ (List.mem_cons_of_mem _ List.mem_cons_self))) (hB _ (List.mem_cons_of_mem _ (List.mem_cons_of_mem _ (List.mem_cons_of_mem _ List.mem_cons_self)))) (hB _ (List.mem_cons_of_mem _ (List.mem_cons_of_mem _ (List.mem_cons_of_mem _ (List.mem_cons_of_mem _ List.mem_cons_self))))) (hB _ (List.mem_cons_of_mem _ (List.mem_cons_of_mem _ (List.mem_cons_of_mem _ (List.mem_cons_of_mem _ (List.mem_cons_of_mem _ List.mem_cons_self)))))) (hB _ (List.mem_cons_of_mem _ (List.mem_cons_of_mem _ (List.mem_cons_of_mem _ (List.mem_cons_of_mem _ (List.mem_cons_of_mem _ (List.mem_cons_of_mem _ List.mem_cons_self))))))) (hB _ (List.mem_cons_of_mem _ (List.mem_cons_of_mem _ (List.mem_cons_of_mem _ (List.mem_cons_of_mem _ (List.mem_cons_of_mem _ (List.mem_cons_of_mem _ (List.mem_cons_of_mem _ List.mem_cons_self)))))))) (hB _ (List.mem_cons_of_mem _ (List.mem_cons_of_mem _ (List.mem_cons_of_mem _ (List.mem_cons_of_mem _ (List.mem_cons_of_mem _ (List.mem_cons_of_mem _ (List.mem_cons_of_mem _ (List.mem_cons_of_mem _ List.mem_cons_self))))))))) (hB _ (List.mem_cons_of_mem _ (List.mem_cons_of_mem _ (List.mem_cons_of_mem _ (List.mem_cons_of_mem _ (List.mem_cons_of_mem _ (List.mem_cons_of_mem _ (List.mem_cons_of_mem _ (List.mem_cons_of_mem _ (List.mem_cons_of_mem _ List.mem_cons_self)))))))))) (cvp 299 (x' := ((ρ 0) + 2048 * (ρ 1) + 64 * (ρ 2))) (y' := ((ρ 3))) (by show 0 + (1 * ρ 0 + (2048 * ρ 1 + (64 * ρ 2 + 0))) = _; omega) (by show 0 + (1 * ρ 3 + 0) = _; omega) (hm _ List.mem_cons_self)) (cvp 184 (x' := (0 : Int)) (y' := (0 : Int)) (by show 0 + 0 = _; omega) (by show 0 + 0 = _; omega) (hm _ (List.mem_cons_of_mem _ List.mem_cons_self))) (cvp 293 (x' := (0 : Int)) (y' := (0 : Int)) (by show 0 + 0 = _; omega) (by show 0 + 0 = _; omega) (hm _ (List.mem_cons_of_mem _ (List.mem_cons_of_mem _ List.mem_cons_self)))) (cvm (c := 12) (by decide) (x' := (10 : Int)) (y' := ((ρ 4))) (by show 10 + 0 = _; omega) (by show 0 + (1 * ρ 4 + 0) = _; omega) (hm _ (List.mem_cons_of_mem _ (List.mem_cons_of_mem _ (List.mem_cons_of_mem _ List.mem_cons_self))))) (cvm (c := 18) (by decide) (x' := (3 * (ρ 2))) (y' := ((ρ 5))) (by show 0 + (3 * ρ 2 + 0) = _; omega) (by show 0 + (1 * ρ 5 + 0) = _; omega) (hm _ (List.mem_cons_of_mem _ (List.mem_cons_of_mem _ (List.mem_cons_of_mem _ (List.mem_cons_of_mem _ List.mem_cons_self)))))) (cvm (c := 18) (by decide) (x' := (3 * (ρ 2) + 1)) (y' := ((ρ 6))) (by show 1 + (3 * ρ 2 + 0) = _; omega) (by show 0 + (1 * ρ 6 + 0) = _; omega) (hm _ (List.mem_cons_of_mem _ (List.mem_cons_of_mem _ (List.mem_cons_of_mem _ (List.mem_cons_of_mem _ (List.mem_cons_of_mem _ List.mem_cons_self))))))) (cvm (c := 18) (by decide) (x' := (3 * (ρ 2) + 2)) (y' := ((ρ 7))) (by show 2 + (3 * ρ 2 + 0) = _; omega) (by show 0 + (1 * ρ 7 + 0) = _; omega) (hm _ (List.mem_cons_of_mem _ (List.mem_cons_of_mem _ (List.mem_cons_of_mem _ (List.mem_cons_of_mem _ (List.mem_cons_of_mem _ (List.mem_cons_of_mem _ List.mem_cons_self)))))))) (cvm (c := 57) (by decide) (x' := ((ρ 5))) (y' := ((ρ 8))) (by show 0 + (1 * ρ 5 + 0) = _; omega) (by show 0 + (1 * ρ 8 + 0) = _; omega) (hm _ (List.mem_cons_of_mem _ (List.mem_cons_of_mem _ (List.mem_cons_of_mem _ (List.mem_cons_of_mem _ (List.mem_cons_of_mem _ (List.mem_cons_of_mem _ (List.mem_cons_of_mem _ List.mem_cons_self))))))))) (cvm (c := 57) (by decide) (x' := ((ρ 6))) (y' := ((ρ 9))) (by show 0 + (1 * ρ 6 + 0) = _; omega) (by show 0 + (1 * ρ 9 + 0) = _; omega) (hm _ (List.mem_cons_of_mem _ (List.mem_cons_of_mem _ (List.mem_cons_of_mem _ (List.mem_cons_of_mem _ (List.mem_cons_of_mem _ (List.mem_cons_of_mem _ (List.mem_cons_of_mem _ (List.mem_cons_of_mem _ List.mem_cons_self)))))))))) (by have h := hF _ List.mem_cons_self; have h : 0 ≤ (-1) + ((-1) * ρ 7 + ((-1) * ρ 8 + (1 * ρ 9 + 0))) := h; omega) (by have h := hF _ (List.mem_cons_of_mem _ List.mem_cons_self); have h : 0 ≤ (-1) + ((-1) * ρ 2 + (1 * ρ 4 + 0)) := h; omega) hG
  obtain ⟨k0, -⟩ := H
  exact ⟨_, List.mem_cons_self, ρ, fun _ _ => rfl, (okM_c (pvp 301 (by show 0 + (1 * ρ 0 + (2048 * ρ 1 + (64 * ρ 2 + 0))) = _; omega) (by show 1 + 0 = _; omega) k0) okM_n), okB_n, okF_n⟩
-- b1k_1
theorem cr_773 (M : pM) (s0 s1 s2 s3 s4 s5 s6 s7 s8 s9 : Int) (b0 : 0 ≤ s0 ∧ s0 ≤ 63) (b1 : 0 ≤ s1 ∧ s1 ≤ 20) (b2 : 0 ≤ s2 ∧ s2 ≤ 19) (b3 : 0 ≤ s3 ∧ s3 ≤ 1) (b4 : 0 ≤ s4 ∧ s4 ≤ 20) (b5 : 0 ≤ s5 ∧ s5 ≤ 63) (b6 : 0 ≤ s6 ∧ s6 ≤ 63) (b7 : 0 ≤ s7 ∧ s7 ≤ 99) (b8 : 0 ≤ s8 ∧ s8 ≤ 1000000) (b9 : 0 ≤ s9 ∧ s9 ≤ 1000000) (m0 : HP 299 (s0 + 2048 * s1 + 64 * s2) (s3) M) (m1 : HP 184 (0 : Int) (0 : Int) M) (m2 : HP 293 (0 : Int) (0 : Int) M) (m3 : (0 ≤ (10 : Int) ∧ M 12 (10 : Int).toNat = (s4))) (m4 : (0 ≤ (3 * s2) ∧ M 18 (3 * s2).toNat = (s5))) (m5 : (0 ≤ (3 * s2 + 1) ∧ M 18 (3 * s2 + 1).toNat = (s6))) (m6 : (0 ≤ (3 * s2 + 2) ∧ M 18 (3 * s2 + 2).toNat = (s7))) (m7 : (0 ≤ (s5) ∧ M 57 (s5).toNat = (s8))) (m8 : (0 ≤ (s6) ∧ M 57 (s6).toNat = (s9))) (f0 : 0 ≤ (s7 + s8 + (-1) * s9)) (f1 : 0 ≤ ((-1) * s2 + s4 - 1)) (hG : gI M) : (HP 301 (s0 + 2048 * s1 + 64 * s2) (s3) M ∧ True) := by
  obtain ⟨f0, k0, t0, f1, k1, t1, t2, h⟩ := Eq.mp hp_299 m0
  have ef : f0 = s0.toNat := by omega
  have ek : k0 = s2.toNat := by omega
  have et : t0 = s1.toNat := by omega
  subst ef; subst ek; subst et
  have hq := Eq.mp hp_184 m1
  have hn : M (3 + 9 * 1) 10 = s4 := m3.2
  have vn : dRn 1 M = s4.toNat := dRn_v (by omega) (by rw [← eq_rn hq, hn]; omega)
  obtain ⟨q1, q2, q3⟩ := eq_ro hq (i := s2.toNat) (by omega) (by rw [hn]; omega)
  have w1 : M (9 + 9 * 1) (3 * s2.toNat) = s5 := by
    rw [show 3 * s2.toNat = (3 * s2).toNat by omega]
    exact m4.2
  have va : dRa 1 M s2.toNat = s5.toNat := dRa_v (by omega) (by omega) (by rw [← q1, w1]; omega)
  have w2 : M (9 + 9 * 1) (3 * s2.toNat + 1) = s6 := by
    rw [show 3 * s2.toNat + 1 = (3 * s2 + 1).toNat by omega]
    exact m5.2
  have vb : dRb 1 M s2.toNat = s6.toNat := dRb_v (by omega) (by omega) (by rw [← q2, w2]; omega)
  have w3 : M (9 + 9 * 1) (3 * s2.toNat + 2) = s7 := by
    rw [show 3 * s2.toNat + 2 = (3 * s2 + 2).toNat by omega]
    exact m6.2
  have vm : dRm 1 M s2.toNat = s7 := dRm_v (by omega) (by rw [← q3, w3])
  have du : dDd M s5.toNat = s8 := (dDd_v (by omega)).trans m7.2
  have dv : dDd M s6.toNat = s9 := (dDd_v (by omega)).trans m8.2
  have hR := dR_lt 1 M
  exact ⟨Eq.mpr hp_301 ⟨s0.toNat, s2.toNat, s1.toNat, by omega, by omega, by omega, by omega, b1_k hR h (by rw [va, vb, vm, du, dv]; omega)⟩, trivial⟩
theorem rul_773 : Rul r_773 := by
  refine ⟨fun _ ρ M hm hB hF hG => ?_, fun gi gv hg => (by cases hg)⟩
  have H := cr_773 M (ρ 0) (ρ 1) (ρ 2) (ρ 3) (ρ 4) (ρ 5) (ρ 6) (ρ 7) (ρ 8) (ρ 9) (hB _ List.mem_cons_self) (hB _ (List.mem_cons_of_mem _ List.mem_cons_self)) (hB _ (List.mem_cons_of_mem _ (List.mem_cons_of_mem _ List.mem_cons_self))) (hB _ (List.mem_cons_of_mem _ (List.mem_cons_of_mem _ (List.mem_cons_of_mem _ List.mem_cons_self)))) (hB _ (List.mem_cons_of_mem _ (List.mem_cons_of_mem _ (List.mem_cons_of_mem _ (List.mem_cons_of_mem _ List.mem_cons_self))))) (hB _ (List.mem_cons_of_mem _ (List.mem_cons_of_mem _ (List.mem_cons_of_mem _ (List.mem_cons_of_mem _ (List.mem_cons_of_mem _ List.mem_cons_self)))))) (hB _ (List.mem_cons_of_mem _ (List.mem_cons_of_mem _ (List.mem_cons_of_mem _ (List.mem_cons_of_mem _ (List.mem_cons_of_mem _ (List.mem_cons_of_mem _ List.mem_cons_self))))))) (hB _ (List.mem_cons_of_mem _ (List.mem_cons_of_mem _ (List.mem_cons_of_mem _ (List.mem_cons_of_mem _ (List.mem_cons_of_mem _ (List.mem_cons_of_mem _ (List.mem_cons_of_mem _ List.mem_cons_self)))))))) (hB _ (List.mem_cons_of_mem _ (List.mem_cons_of_mem _ (List.mem_cons_of_mem _ (List.mem_cons_of_mem _ (List.mem_cons_of_mem _ (List.mem_cons_of_mem _ (List.mem_cons_of_mem _ (List.mem_cons_of_mem _ List.mem_cons_self))))))))) (hB _ (List.mem_cons_of_mem _ (List.mem_cons_of_mem _ (List.mem_cons_of_mem _ (List.mem_cons_of_mem _ (List.mem_cons_of_mem _ (List.mem_cons_of_mem _ (List.mem_cons_of_mem _ (List.mem_cons_of_mem _ (List.mem_cons_of_mem _ List.mem_cons_self)))))))))) (cvp 299 (x' := ((ρ 0) + 2048 * (ρ 1) + 64 * (ρ 2))) (y' := ((ρ 3))) (by show 0 + (1 * ρ 0 + (2048 * ρ 1 + (64 * ρ 2 + 0))) = _; omega) (by show 0 + (1 * ρ 3 + 0) = _; omega) (hm _ List.mem_cons_self)) (cvp 184 (x' := (0 : Int)) (y' := (0 : Int)) (by show 0 + 0 = _; omega) (by show 0 + 0 = _; omega) (hm _ (List.mem_cons_of_mem _ List.mem_cons_self))) (cvp 293 (x' := (0 : Int)) (y' := (0 : Int)) (by show 0 + 0 = _; omega) (by show 0 + 0 = _; omega) (hm _ (List.mem_cons_of_mem _ (List.mem_cons_of_mem _ List.mem_cons_self)))) (cvm (c := 12) (by decide) (x' := (10 : Int)) (y' := ((ρ 4))) (by show 10 + 0 = _; omega) (by show 0 + (1 * ρ 4 + 0) = _; omega) (hm _ (List.mem_cons_of_mem _ (List.mem_cons_of_mem _ (List.mem_cons_of_mem _ List.mem_cons_self))))) (cvm (c := 18) (by decide) (x' := (3 * (ρ 2))) (y' := ((ρ 5))) (by show 0 + (3 * ρ 2 + 0) = _; omega) (by show 0 + (1 * ρ 5 + 0) = _; omega) (hm _ (List.mem_cons_of_mem _ (List.mem_cons_of_mem _ (List.mem_cons_of_mem _ (List.mem_cons_of_mem _ List.mem_cons_self)))))) (cvm (c := 18) (by decide) (x' := (3 * (ρ 2) + 1)) (y' := ((ρ 6))) (by show 1 + (3 * ρ 2 + 0) = _; omega) (by show 0 + (1 * ρ 6 + 0) = _; omega) (hm _ (List.mem_cons_of_mem _ (List.mem_cons_of_mem _ (List.mem_cons_of_mem _ (List.mem_cons_of_mem _ (List.mem_cons_of_mem _ List.mem_cons_self))))))) (cvm (c := 18) (by decide) (x' := (3 * (ρ 2) + 2)) (y' := ((ρ 7))) (by show 2 + (3 * ρ 2 + 0) = _; omega) (by show 0 + (1 * ρ 7 + 0) = _; omega) (hm _ (List.mem_cons_of_mem _ (List.mem_cons_of_mem _ (List.mem_cons_of_mem _ (List.mem_cons_of_mem _ (List.mem_cons_of_mem _ (List.mem_cons_of_mem _ List.mem_cons_self)))))))) (cvm (c := 57) (by decide) (x' := ((ρ 5))) (y' := ((ρ 8))) (by show 0 + (1 * ρ 5 + 0) = _; omega) (by show 0 + (1 * ρ 8 + 0) = _; omega) (hm _ (List.mem_cons_of_mem _ (List.mem_cons_of_mem _ (List.mem_cons_of_mem _ (List.mem_cons_of_mem _ (List.mem_cons_of_mem _ (List.mem_cons_of_mem _ (List.mem_cons_of_mem _ List.mem_cons_self))))))))) (cvm (c := 57) (by decide) (x' := ((ρ 6))) (y' := ((ρ 9))) (by show 0 + (1 * ρ 6 + 0) = _; omega) (by show 0 + (1 * ρ 9 + 0) = _; omega) (hm _ (List.mem_cons_of_mem _ (List.mem_cons_of_mem _ (List.mem_cons_of_mem _ (List.mem_cons_of_mem _ (List.mem_cons_of_mem _ (List.mem_cons_of_mem _ (List.mem_cons_of_mem _ (List.mem_cons_of_mem _ List.mem_cons_self)))))))))) (by have h := hF _ List.mem_cons_self; have h : 0 ≤ 0 + (1 * ρ 7 + (1 * ρ 8 + ((-1) * ρ 9 + 0))) := h; omega) (by have h := hF _ (List.mem_cons_of_mem _ List.mem_cons_self); have h : 0 ≤ (-1) + ((-1) * ρ 2 + (1 * ρ 4 + 0)) := h; omega) hG
  obtain ⟨k0, -⟩ := H
  exact ⟨_, List.mem_cons_self, ρ, fun _ _ => rfl, (okM_c (pvp 301 (by show 0 + (1 * ρ 0 + (2048 * ρ 1 + (64 * ρ 2 + 0))) = _; omega) (by show 0 + (1 * ρ 3 + 0) = _; omega) k0) okM_n), okB_n, okF_n⟩
-- b2w_1
theorem cr_774 (M : pM) (s0 s1 s2 s3 s4 s5 s6 s7 s8 s9 : Int) (b0 : 0 ≤ s0 ∧ s0 ≤ 63) (b1 : 0 ≤ s1 ∧ s1 ≤ 20) (b2 : 0 ≤ s2 ∧ s2 ≤ 19) (b3 : 0 ≤ s3 ∧ s3 ≤ 1) (b4 : 0 ≤ s4 ∧ s4 ≤ 20) (b5 : 0 ≤ s5 ∧ s5 ≤ 63) (b6 : 0 ≤ s6 ∧ s6 ≤ 63) (b7 : 0 ≤ s7 ∧ s7 ≤ 99) (b8 : 0 ≤ s8 ∧ s8 ≤ 1000000) (b9 : 0 ≤ s9 ∧ s9 ≤ 1000000) (m0 : HP 301 (s0 + 2048 * s1 + 64 * s2) (s3) M) (m1 : HP 184 (0 : Int) (0 : Int) M) (m2 : HP 293 (0 : Int) (0 : Int) M) (m3 : (0 ≤ (10 : Int) ∧ M 12 (10 : Int).toNat = (s4))) (m4 : (0 ≤ (3 * s2) ∧ M 18 (3 * s2).toNat = (s5))) (m5 : (0 ≤ (3 * s2 + 1) ∧ M 18 (3 * s2 + 1).toNat = (s6))) (m6 : (0 ≤ (3 * s2 + 2) ∧ M 18 (3 * s2 + 2).toNat = (s7))) (m7 : (0 ≤ (s5) ∧ M 57 (s5).toNat = (s8))) (m8 : (0 ≤ (s6) ∧ M 57 (s6).toNat = (s9))) (f0 : 0 ≤ ((-1) * s7 + s8 + (-1) * s9 - 1)) (f1 : 0 ≤ ((-1) * s2 + s4 - 1)) (hG : gI M) : (HP 299 (s0 + 2048 * s1 + 64 * s2 + 64) (1 : Int) (st M 57 (s5).toNat (s7 + s9)) ∧ True) := by
  obtain ⟨f0, k0, t0, f1, k1, t1, t2, h⟩ := Eq.mp hp_301 m0
  have ef : f0 = s0.toNat := by omega
  have ek : k0 = s2.toNat := by omega
  have et : t0 = s1.toNat := by omega
  subst ef; subst ek; subst et
  have hq := Eq.mp hp_184 m1
  have hn : M (3 + 9 * 1) 10 = s4 := m3.2
  have vn : dRn 1 M = s4.toNat := dRn_v (by omega) (by rw [← eq_rn hq, hn]; omega)
  obtain ⟨q1, q2, q3⟩ := eq_ro hq (i := s2.toNat) (by omega) (by rw [hn]; omega)
  have w1 : M (9 + 9 * 1) (3 * s2.toNat) = s5 := by
    rw [show 3 * s2.toNat = (3 * s2).toNat by omega]
    exact m4.2
  have va : dRa 1 M s2.toNat = s5.toNat := dRa_v (by omega) (by omega) (by rw [← q1, w1]; omega)
  have w2 : M (9 + 9 * 1) (3 * s2.toNat + 1) = s6 := by
    rw [show 3 * s2.toNat + 1 = (3 * s2 + 1).toNat by omega]
    exact m5.2
  have vb : dRb 1 M s2.toNat = s6.toNat := dRb_v (by omega) (by omega) (by rw [← q2, w2]; omega)
  have w3 : M (9 + 9 * 1) (3 * s2.toNat + 2) = s7 := by
    rw [show 3 * s2.toNat + 2 = (3 * s2 + 2).toNat by omega]
    exact m6.2
  have vm : dRm 1 M s2.toNat = s7 := dRm_v (by omega) (by rw [← q3, w3])
  have du : dDd M s5.toNat = s8 := (dDd_v (by omega)).trans m7.2
  have dv : dDd M s6.toNat = s9 := (dDd_v (by omega)).trans m8.2
  have hR := dR_lt 1 M
  have ho := dok_b (b := 1) (M := M) (f := s0.toNat) (Eq.mp hp_293 m2) (by omega)
  have hs := rows_st (b := 1) (M := M) (X := 57) (I := (s5).toNat) (z := (s7 + s9)) (by omega)
  refine ⟨Eq.mpr hp_299 ⟨s0.toNat, s2.toNat + 1, s1.toNat, by omega, by omega, by omega, by omega, ?_⟩, trivial⟩
  rw [hs.1, hs.2.1, hs.2.2.1, hs.2.2.2]
  rw [dDf_st (by omega)]
  exact b2_w hR ho (by omega) (by rw [vn]; omega) (by rw [vm]; omega) h (z := (s7 + s9)) (by rw [vb, vm, dv]; omega) (by rw [va, du]; omega) (fun v hv => by rw [va]; exact dDd_st rfl v hv)
theorem rul_774 : Rul r_774 := by
  refine ⟨fun h => (by cases h), fun gi gv hg ρ M hm hB hF hG => ?_⟩
  obtain ⟨g1, g2⟩ := List.cons.inj (show ([aI ((0 : Int), ([(5, 1)] : List (Nat × Int))), aI ((0 : Int), ([(7, 1), (9, 1)] : List (Nat × Int)))] : List av) = [.inl gi, .inl gv] from hg)
  obtain ⟨g2, -⟩ := List.cons.inj g2
  cases g1
  cases g2
  have ei : ev ρ ((0 : Int), ([(5, 1)] : List (Nat × Int))) = ((ρ 5)) := by show 0 + (1 * ρ 5 + 0) = _; omega
  have ew : ev ρ ((0 : Int), ([(7, 1), (9, 1)] : List (Nat × Int))) = ((ρ 7) + (ρ 9)) := by show 0 + (1 * ρ 7 + (1 * ρ 9 + 0)) = _; omega
  rw [show (st M (ctj r_774) (ev ρ ((0 : Int), ([(5, 1)] : List (Nat × Int)))).toNat (ev ρ ((0 : Int), ([(7, 1), (9, 1)] : List (Nat × Int))))) = (st M 57 ((ρ 5)).toNat ((ρ 7) + (ρ 9))) from by rw [ei, ew]; rfl]
  have H := cr_774 M (ρ 0) (ρ 1) (ρ 2) (ρ 3) (ρ 4) (ρ 5) (ρ 6) (ρ 7) (ρ 8) (ρ 9) (hB _ List.mem_cons_self) (hB _ (List.mem_cons_of_mem _ List.mem_cons_self)) (hB _ (List.mem_cons_of_mem _ (List.mem_cons_of_mem _ List.mem_cons_self))) (hB _ (List.mem_cons_of_mem _ (List.mem_cons_of_mem _ (List.mem_cons_of_mem _ List.mem_cons_self)))) (hB _ (List.mem_cons_of_mem _ (List.mem_cons_of_mem _ (List.mem_cons_of_mem _ (List.mem_cons_of_mem _ List.mem_cons_self))))) (hB _ (List.mem_cons_of_mem _ (List.mem_cons_of_mem _ (List.mem_cons_of_mem _ (List.mem_cons_of_mem _ (List.mem_cons_of_mem _ List.mem_cons_self)))))) (hB _ (List.mem_cons_of_mem _ (List.mem_cons_of_mem _ (List.mem_cons_of_mem _ (List.mem_cons_of_mem _ (List.mem_cons_of_mem _ (List.mem_cons_of_mem _ List.mem_cons_self))))))) (hB _ (List.mem_cons_of_mem _ (List.mem_cons_of_mem _ (List.mem_cons_of_mem _ (List.mem_cons_of_mem _ (List.mem_cons_of_mem _ (List.mem_cons_of_mem _ (List.mem_cons_of_mem _ List.mem_cons_self)))))))) (hB _ (List.mem_cons_of_mem _ (List.mem_cons_of_mem _ (List.mem_cons_of_mem _ (List.mem_cons_of_mem _ (List.mem_cons_of_mem _ (List.mem_cons_of_mem _ (List.mem_cons_of_mem _ (List.mem_cons_of_mem _ List.mem_cons_self))))))))) (hB _ (List.mem_cons_of_mem _ (List.mem_cons_of_mem _ (List.mem_cons_of_mem _ (List.mem_cons_of_mem _ (List.mem_cons_of_mem _ (List.mem_cons_of_mem _ (List.mem_cons_of_mem _ (List.mem_cons_of_mem _ (List.mem_cons_of_mem _ List.mem_cons_self)))))))))) (cvp 301 (x' := ((ρ 0) + 2048 * (ρ 1) + 64 * (ρ 2))) (y' := ((ρ 3))) (by show 0 + (1 * ρ 0 + (2048 * ρ 1 + (64 * ρ 2 + 0))) = _; omega) (by show 0 + (1 * ρ 3 + 0) = _; omega) (hm _ List.mem_cons_self)) (cvp 184 (x' := (0 : Int)) (y' := (0 : Int)) (by show 0 + 0 = _; omega) (by show 0 + 0 = _; omega) (hm _ (List.mem_cons_of_mem _ List.mem_cons_self))) (cvp 293 (x' := (0 : Int)) (y' := (0 : Int)) (by show 0 + 0 = _; omega) (by show 0 + 0 = _; omega) (hm _ (List.mem_cons_of_mem _ (List.mem_cons_of_mem _ List.mem_cons_self)))) (cvm (c := 12) (by decide) (x' := (10 : Int)) (y' := ((ρ 4))) (by show 10 + 0 = _; omega) (by show 0 + (1 * ρ 4 + 0) = _; omega) (hm _ (List.mem_cons_of_mem _ (List.mem_cons_of_mem _ (List.mem_cons_of_mem _ List.mem_cons_self))))) (cvm (c := 18) (by decide) (x' := (3 * (ρ 2))) (y' := ((ρ 5))) (by show 0 + (3 * ρ 2 + 0) = _; omega) (by show 0 + (1 * ρ 5 + 0) = _; omega) (hm _ (List.mem_cons_of_mem _ (List.mem_cons_of_mem _ (List.mem_cons_of_mem _ (List.mem_cons_of_mem _ List.mem_cons_self)))))) (cvm (c := 18) (by decide) (x' := (3 * (ρ 2) + 1)) (y' := ((ρ 6))) (by show 1 + (3 * ρ 2 + 0) = _; omega) (by show 0 + (1 * ρ 6 + 0) = _; omega) (hm _ (List.mem_cons_of_mem _ (List.mem_cons_of_mem _ (List.mem_cons_of_mem _ (List.mem_cons_of_mem _ (List.mem_cons_of_mem _ List.mem_cons_self))))))) (cvm (c := 18) (by decide) (x' := (3 * (ρ 2) + 2)) (y' := ((ρ 7))) (by show 2 + (3 * ρ 2 + 0) = _; omega) (by show 0 + (1 * ρ 7 + 0) = _; omega) (hm _ (List.mem_cons_of_mem _ (List.mem_cons_of_mem _ (List.mem_cons_of_mem _ (List.mem_cons_of_mem _ (List.mem_cons_of_mem _ (List.mem_cons_of_mem _ List.mem_cons_self)))))))) (cvm (c := 57) (by decide) (x' := ((ρ 5))) (y' := ((ρ 8))) (by show 0 + (1 * ρ 5 + 0) = _; omega) (by show 0 + (1 * ρ 8 + 0) = _; omega) (hm _ (List.mem_cons_of_mem _ (List.mem_cons_of_mem _ (List.mem_cons_of_mem _ (List.mem_cons_of_mem _ (List.mem_cons_of_mem _ (List.mem_cons_of_mem _ (List.mem_cons_of_mem _ List.mem_cons_self))))))))) (cvm (c := 57) (by decide) (x' := ((ρ 6))) (y' := ((ρ 9))) (by show 0 + (1 * ρ 6 + 0) = _; omega) (by show 0 + (1 * ρ 9 + 0) = _; omega) (hm _ (List.mem_cons_of_mem _ (List.mem_cons_of_mem _ (List.mem_cons_of_mem _ (List.mem_cons_of_mem _ (List.mem_cons_of_mem _ (List.mem_cons_of_mem _ (List.mem_cons_of_mem _ (List.mem_cons_of_mem _ List.mem_cons_self)))))))))) (by have h := hF _ List.mem_cons_self; have h : 0 ≤ (-1) + ((-1) * ρ 7 + (1 * ρ 8 + ((-1) * ρ 9 + 0))) := h; omega) (by have h := hF _ (List.mem_cons_of_mem _ List.mem_cons_self); have h : 0 ≤ (-1) + ((-1) * ρ 2 + (1 * ρ 4 + 0)) := h; omega) hG
  obtain ⟨k0, -⟩ := H
  exact ⟨_, List.mem_cons_self, ρ, fun _ _ => rfl, (okM_c (pvp 299 (by show 64 + (1 * ρ 0 + (2048 * ρ 1 + (64 * ρ 2 + 0))) = _; omega) (by show 1 + 0 = _; omega) k0) okM_n), okB_n, okF_n⟩
-- b2k_1
theorem cr_775 (M : pM) (s0 s1 s2 s3 s4 s5 s6 s7 s8 s9 : Int) (b0 : 0 ≤ s0 ∧ s0 ≤ 63) (b1 : 0 ≤ s1 ∧ s1 ≤ 20) (b2 : 0 ≤ s2 ∧ s2 ≤ 19) (b3 : 0 ≤ s3 ∧ s3 ≤ 1) (b4 : 0 ≤ s4 ∧ s4 ≤ 20) (b5 : 0 ≤ s5 ∧ s5 ≤ 63) (b6 : 0 ≤ s6 ∧ s6 ≤ 63) (b7 : 0 ≤ s7 ∧ s7 ≤ 99) (b8 : 0 ≤ s8 ∧ s8 ≤ 1000000) (b9 : 0 ≤ s9 ∧ s9 ≤ 1000000) (m0 : HP 301 (s0 + 2048 * s1 + 64 * s2) (s3) M) (m1 : HP 184 (0 : Int) (0 : Int) M) (m2 : HP 293 (0 : Int) (0 : Int) M) (m3 : (0 ≤ (10 : Int) ∧ M 12 (10 : Int).toNat = (s4))) (m4 : (0 ≤ (3 * s2) ∧ M 18 (3 * s2).toNat = (s5))) (m5 : (0 ≤ (3 * s2 + 1) ∧ M 18 (3 * s2 + 1).toNat = (s6))) (m6 : (0 ≤ (3 * s2 + 2) ∧ M 18 (3 * s2 + 2).toNat = (s7))) (m7 : (0 ≤ (s5) ∧ M 57 (s5).toNat = (s8))) (m8 : (0 ≤ (s6) ∧ M 57 (s6).toNat = (s9))) (f0 : 0 ≤ (s7 + (-1) * s8 + s9)) (f1 : 0 ≤ ((-1) * s2 + s4 - 1)) (hG : gI M) : (HP 299 (s0 + 2048 * s1 + 64 * s2 + 64) (s3) M ∧ True) := by
  obtain ⟨f0, k0, t0, f1, k1, t1, t2, h⟩ := Eq.mp hp_301 m0
  have ef : f0 = s0.toNat := by omega
  have ek : k0 = s2.toNat := by omega
  have et : t0 = s1.toNat := by omega
  subst ef; subst ek; subst et
  have hq := Eq.mp hp_184 m1
  have hn : M (3 + 9 * 1) 10 = s4 := m3.2
  have vn : dRn 1 M = s4.toNat := dRn_v (by omega) (by rw [← eq_rn hq, hn]; omega)
  obtain ⟨q1, q2, q3⟩ := eq_ro hq (i := s2.toNat) (by omega) (by rw [hn]; omega)
  have w1 : M (9 + 9 * 1) (3 * s2.toNat) = s5 := by
    rw [show 3 * s2.toNat = (3 * s2).toNat by omega]
    exact m4.2
  have va : dRa 1 M s2.toNat = s5.toNat := dRa_v (by omega) (by omega) (by rw [← q1, w1]; omega)
  have w2 : M (9 + 9 * 1) (3 * s2.toNat + 1) = s6 := by
    rw [show 3 * s2.toNat + 1 = (3 * s2 + 1).toNat by omega]
    exact m5.2
  have vb : dRb 1 M s2.toNat = s6.toNat := dRb_v (by omega) (by omega) (by rw [← q2, w2]; omega)
  have w3 : M (9 + 9 * 1) (3 * s2.toNat + 2) = s7 := by
    rw [show 3 * s2.toNat + 2 = (3 * s2 + 2).toNat by omega]
    exact m6.2
  have vm : dRm 1 M s2.toNat = s7 := dRm_v (by omega) (by rw [← q3, w3])
  have du : dDd M s5.toNat = s8 := (dDd_v (by omega)).trans m7.2
  have dv : dDd M s6.toNat = s9 := (dDd_v (by omega)).trans m8.2
  have hR := dR_lt 1 M
  exact ⟨Eq.mpr hp_299 ⟨s0.toNat, s2.toNat + 1, s1.toNat, by omega, by omega, by omega, by omega, b2_k hR h (by rw [va, vb, vm, du, dv]; omega)⟩, trivial⟩
theorem rul_775 : Rul r_775 := by
  refine ⟨fun _ ρ M hm hB hF hG => ?_, fun gi gv hg => (by cases hg)⟩
  have H := cr_775 M (ρ 0) (ρ 1) (ρ 2) (ρ 3) (ρ 4) (ρ 5) (ρ 6) (ρ 7) (ρ 8) (ρ 9) (hB _ List.mem_cons_self) (hB _ (List.mem_cons_of_mem _ List.mem_cons_self)) (hB _ (List.mem_cons_of_mem _ (List.mem_cons_of_mem _ List.mem_cons_self))) (hB _ (List.mem_cons_of_mem _ (List.mem_cons_of_mem _ (List.mem_cons_of_mem _ List.mem_cons_self)))) (hB _ (List.mem_cons_of_mem _ (List.mem_cons_of_mem _ (List.mem_cons_of_mem _ (List.mem_cons_of_mem _ List.mem_cons_self))))) (hB _ (List.mem_cons_of_mem _ (List.mem_cons_of_mem _ (List.mem_cons_of_mem _ (List.mem_cons_of_mem _ (List.mem_cons_of_mem _ List.mem_cons_self)))))) (hB _ (List.mem_cons_of_mem _ (List.mem_cons_of_mem _ (List.mem_cons_of_mem _ (List.mem_cons_of_mem _ (List.mem_cons_of_mem _ (List.mem_cons_of_mem _ List.mem_cons_self))))))) (hB _ (List.mem_cons_of_mem _ (List.mem_cons_of_mem _ (List.mem_cons_of_mem _ (List.mem_cons_of_mem _ (List.mem_cons_of_mem _ (List.mem_cons_of_mem _ (List.mem_cons_of_mem _ List.mem_cons_self)))))))) (hB _ (List.mem_cons_of_mem _ (List.mem_cons_of_mem _ (List.mem_cons_of_mem _ (List.mem_cons_of_mem _ (List.mem_cons_of_mem _ (List.mem_cons_of_mem _ (List.mem_cons_of_mem _ (List.mem_cons_of_mem _ List.mem_cons_self))))))))) (hB _ (List.mem_cons_of_mem _ (List.mem_cons_of_mem _ (List.mem_cons_of_mem _ (List.mem_cons_of_mem _ (List.mem_cons_of_mem _ (List.mem_cons_of_mem _ (List.mem_cons_of_mem _ (List.mem_cons_of_mem _ (List.mem_cons_of_mem _ List.mem_cons_self)))))))))) (cvp 301 (x' := ((ρ 0) + 2048 * (ρ 1) + 64 * (ρ 2))) (y' := ((ρ 3))) (by show 0 + (1 * ρ 0 + (2048 * ρ 1 + (64 * ρ 2 + 0))) = _; omega) (by show 0 + (1 * ρ 3 + 0) = _; omega) (hm _ List.mem_cons_self)) (cvp 184 (x' := (0 : Int)) (y' := (0 : Int)) (by show 0 + 0 = _; omega) (by show 0 + 0 = _; omega) (hm _ (List.mem_cons_of_mem _ List.mem_cons_self))) (cvp 293 (x' := (0 : Int)) (y' := (0 : Int)) (by show 0 + 0 = _; omega) (by show 0 + 0 = _; omega) (hm _ (List.mem_cons_of_mem _ (List.mem_cons_of_mem _ List.mem_cons_self)))) (cvm (c := 12) (by decide) (x' := (10 : Int)) (y' := ((ρ 4))) (by show 10 + 0 = _; omega) (by show 0 + (1 * ρ 4 + 0) = _; omega) (hm _ (List.mem_cons_of_mem _ (List.mem_cons_of_mem _ (List.mem_cons_of_mem _ List.mem_cons_self))))) (cvm (c := 18) (by decide) (x' := (3 * (ρ 2))) (y' := ((ρ 5))) (by show 0 + (3 * ρ 2 + 0) = _; omega) (by show 0 + (1 * ρ 5 + 0) = _; omega) (hm _ (List.mem_cons_of_mem _ (List.mem_cons_of_mem _ (List.mem_cons_of_mem _ (List.mem_cons_of_mem _ List.mem_cons_self)))))) (cvm (c := 18) (by decide) (x' := (3 * (ρ 2) + 1)) (y' := ((ρ 6))) (by show 1 + (3 * ρ 2 + 0) = _; omega) (by show 0 + (1 * ρ 6 + 0) = _; omega) (hm _ (List.mem_cons_of_mem _ (List.mem_cons_of_mem _ (List.mem_cons_of_mem _ (List.mem_cons_of_mem _ (List.mem_cons_of_mem _ List.mem_cons_self))))))) (cvm (c := 18) (by decide) (x' := (3 * (ρ 2) + 2)) (y' := ((ρ 7))) (by show 2 + (3 * ρ 2 + 0) = _; omega) (by show 0 + (1 * ρ 7 + 0) = _; omega) (hm _ (List.mem_cons_of_mem _ (List.mem_cons_of_mem _ (List.mem_cons_of_mem _ (List.mem_cons_of_mem _ (List.mem_cons_of_mem _ (List.mem_cons_of_mem _ List.mem_cons_self)))))))) (cvm (c := 57) (by decide) (x' := ((ρ 5))) (y' := ((ρ 8))) (by show 0 + (1 * ρ 5 + 0) = _; omega) (by show 0 + (1 * ρ 8 + 0) = _; omega) (hm _ (List.mem_cons_of_mem _ (List.mem_cons_of_mem _ (List.mem_cons_of_mem _ (List.mem_cons_of_mem _ (List.mem_cons_of_mem _ (List.mem_cons_of_mem _ (List.mem_cons_of_mem _ List.mem_cons_self))))))))) (cvm (c := 57) (by decide) (x' := ((ρ 6))) (y' := ((ρ 9))) (by show 0 + (1 * ρ 6 + 0) = _; omega) (by show 0 + (1 * ρ 9 + 0) = _; omega) (hm _ (List.mem_cons_of_mem _ (List.mem_cons_of_mem _ (List.mem_cons_of_mem _ (List.mem_cons_of_mem _ (List.mem_cons_of_mem _ (List.mem_cons_of_mem _ (List.mem_cons_of_mem _ (List.mem_cons_of_mem _ List.mem_cons_self)))))))))) (by have h := hF _ List.mem_cons_self; have h : 0 ≤ 0 + (1 * ρ 7 + ((-1) * ρ 8 + (1 * ρ 9 + 0))) := h; omega) (by have h := hF _ (List.mem_cons_of_mem _ List.mem_cons_self); have h : 0 ≤ (-1) + ((-1) * ρ 2 + (1 * ρ 4 + 0)) := h; omega) hG
  obtain ⟨k0, -⟩ := H
  exact ⟨_, List.mem_cons_self, ρ, fun _ _ => rfl, (okM_c (pvp 299 (by show 64 + (1 * ρ 0 + (2048 * ρ 1 + (64 * ρ 2 + 0))) = _; omega) (by show 0 + (1 * ρ 3 + 0) = _; omega) k0) okM_n), okB_n, okF_n⟩
-- bne_1
theorem cr_776 (M : pM) (s0 s1 s2 s3 : Int) (b0 : 0 ≤ s0 ∧ s0 ≤ 63) (b1 : 0 ≤ s1 ∧ s1 ≤ 20) (b2 : 0 ≤ s2 ∧ s2 ≤ 20) (b3 : 0 ≤ s3 ∧ s3 ≤ 20) (m0 : HP 299 (s0 + 2048 * s1 + 64 * s2) (1 : Int) M) (m1 : HP 184 (0 : Int) (0 : Int) M) (m2 : (0 ≤ (10 : Int) ∧ M 12 (10 : Int).toNat = (s3))) (f0 : 0 ≤ (s2 + (-1) * s3)) (hG : gI M) : (HP 297 (s0 + 64 * s1 + 64) (0 : Int) M ∧ True) := by
  obtain ⟨f0, k0, t0, f1, k1, t1, t2, h⟩ := Eq.mp hp_299 m0
  have ef : f0 = s0.toNat := by omega
  have ek : k0 = s2.toNat := by omega
  have et : t0 = s1.toNat := by omega
  subst ef; subst ek; subst et
  have hq := Eq.mp hp_184 m1
  have hn : M (3 + 9 * 1) 10 = s3 := m2.2
  have vn : dRn 1 M = s3.toNat := dRn_v (by omega) (by rw [← eq_rn hq, hn]; omega)
  exact ⟨Eq.mpr hp_297 ⟨s0.toNat, s1.toNat + 1, by omega, by omega, by omega, bn_e h (by rw [vn]; omega) (by omega)⟩, trivial⟩
theorem rul_776 : Rul r_776 := by
  refine ⟨fun _ ρ M hm hB hF hG => ?_, fun gi gv hg => (by cases hg)⟩
  have H := cr_776 M (ρ 0) (ρ 1) (ρ 2) (ρ 3) (hB _ List.mem_cons_self) (hB _ (List.mem_cons_of_mem _ List.mem_cons_self)) (hB _ (List.mem_cons_of_mem _ (List.mem_cons_of_mem _ List.mem_cons_self))) (hB _ (List.mem_cons_of_mem _ (List.mem_cons_of_mem _ (List.mem_cons_of_mem _ List.mem_cons_self)))) (cvp 299 (x' := ((ρ 0) + 2048 * (ρ 1) + 64 * (ρ 2))) (y' := (1 : Int)) (by show 0 + (1 * ρ 0 + (2048 * ρ 1 + (64 * ρ 2 + 0))) = _; omega) (by show 1 + 0 = _; omega) (hm _ List.mem_cons_self)) (cvp 184 (x' := (0 : Int)) (y' := (0 : Int)) (by show 0 + 0 = _; omega) (by show 0 + 0 = _; omega) (hm _ (List.mem_cons_of_mem _ List.mem_cons_self))) (cvm (c := 12) (by decide) (x' := (10 : Int)) (y' := ((ρ 3))) (by show 10 + 0 = _; omega) (by show 0 + (1 * ρ 3 + 0) = _; omega) (hm _ (List.mem_cons_of_mem _ (List.mem_cons_of_mem _ List.mem_cons_self)))) (by have h := hF _ List.mem_cons_self; have h : 0 ≤ 0 + (1 * ρ 2 + ((-1) * ρ 3 + 0)) := h; omega) hG
  obtain ⟨k0, -⟩ := H
  exact ⟨_, List.mem_cons_self, ρ, fun _ _ => rfl, (okM_c (pvp 297 (by show 64 + (1 * ρ 0 + (64 * ρ 1 + 0)) = _; omega) (by show 0 + 0 = _; omega) k0) okM_n), okB_n, okF_n⟩
-- bnd_1
theorem cr_777 (M : pM) (s0 s1 s2 s3 : Int) (b0 : 0 ≤ s0 ∧ s0 ≤ 63) (b1 : 0 ≤ s1 ∧ s1 ≤ 20) (b2 : 0 ≤ s2 ∧ s2 ≤ 20) (b3 : 0 ≤ s3 ∧ s3 ≤ 20) (m0 : HP 299 (s0 + 2048 * s1 + 64 * s2) (0 : Int) M) (m1 : HP 184 (0 : Int) (0 : Int) M) (m2 : HP 293 (0 : Int) (0 : Int) M) (m3 : (0 ≤ (10 : Int) ∧ M 12 (10 : Int).toNat = (s3))) (f0 : 0 ≤ (s2 + (-1) * s3)) (hG : gI M) : (HP 302 (s0) (0 : Int) M ∧ True) := by
  obtain ⟨f0, k0, t0, f1, k1, t1, t2, h⟩ := Eq.mp hp_299 m0
  have ef : f0 = s0.toNat := by omega
  have ek : k0 = s2.toNat := by omega
  have et : t0 = s1.toNat := by omega
  subst ef; subst ek; subst et
  have hq := Eq.mp hp_184 m1
  have hn : M (3 + 9 * 1) 10 = s3 := m3.2
  have vn : dRn 1 M = s3.toNat := dRn_v (by omega) (by rw [← eq_rn hq, hn]; omega)
  have ho := dok_b (b := 1) (M := M) (f := s0.toNat) (Eq.mp hp_293 m2) (by omega)
  have hR := dR_lt 1 M
  exact ⟨Eq.mpr hp_302 ⟨s0.toNat, by omega, by omega, bn_d hR ho (by omega) h (by rw [vn]; omega) (by omega) (by omega)⟩, trivial⟩
theorem rul_777 : Rul r_777 := by
  refine ⟨fun _ ρ M hm hB hF hG => ?_, fun gi gv hg => (by cases hg)⟩
  have H := cr_777 M (ρ 0) (ρ 1) (ρ 2) (ρ 3) (hB _ List.mem_cons_self) (hB _ (List.mem_cons_of_mem _ List.mem_cons_self)) (hB _ (List.mem_cons_of_mem _ (List.mem_cons_of_mem _ List.mem_cons_self))) (hB _ (List.mem_cons_of_mem _ (List.mem_cons_of_mem _ (List.mem_cons_of_mem _ List.mem_cons_self)))) (cvp 299 (x' := ((ρ 0) + 2048 * (ρ 1) + 64 * (ρ 2))) (y' := (0 : Int)) (by show 0 + (1 * ρ 0 + (2048 * ρ 1 + (64 * ρ 2 + 0))) = _; omega) (by show 0 + 0 = _; omega) (hm _ List.mem_cons_self)) (cvp 184 (x' := (0 : Int)) (y' := (0 : Int)) (by show 0 + 0 = _; omega) (by show 0 + 0 = _; omega) (hm _ (List.mem_cons_of_mem _ List.mem_cons_self))) (cvp 293 (x' := (0 : Int)) (y' := (0 : Int)) (by show 0 + 0 = _; omega) (by show 0 + 0 = _; omega) (hm _ (List.mem_cons_of_mem _ (List.mem_cons_of_mem _ List.mem_cons_self)))) (cvm (c := 12) (by decide) (x' := (10 : Int)) (y' := ((ρ 3))) (by show 10 + 0 = _; omega) (by show 0 + (1 * ρ 3 + 0) = _; omega) (hm _ (List.mem_cons_of_mem _ (List.mem_cons_of_mem _ (List.mem_cons_of_mem _ List.mem_cons_self))))) (by have h := hF _ List.mem_cons_self; have h : 0 ≤ 0 + (1 * ρ 2 + ((-1) * ρ 3 + 0)) := h; omega) hG
  obtain ⟨k0, -⟩ := H
  exact ⟨_, List.mem_cons_self, ρ, fun _ _ => rfl, (okM_c (pvp 302 (by show 0 + (1 * ρ 0 + 0) = _; omega) (by show 0 + 0 = _; omega) k0) okM_n), okB_n, okF_n⟩
-- bse_1
theorem cr_778 (M : pM) (s0 s1 : Int) (b0 : 0 ≤ s0 ∧ s0 ≤ 63) (b1 : 0 ≤ s1 ∧ s1 ≤ 21) (m0 : HP 297 (s0 + 64 * s1) (0 : Int) M) (m1 : HP 293 (0 : Int) (0 : Int) M) (f0 : 0 ≤ (s1 - 21)) (hG : gI M) : (HP 302 (s0) (0 : Int) M ∧ True) := by
  obtain ⟨f0, t0, f1, t1, t2, h⟩ := Eq.mp hp_297 m0
  have ef : f0 = s0.toNat := by omega
  have et : t0 = s1.toNat := by omega
  subst ef; subst et
  have ho := dok_b (b := 1) (M := M) (f := s0.toNat) (Eq.mp hp_293 m1) (by omega)
  exact ⟨Eq.mpr hp_302 ⟨s0.toNat, by omega, by omega, bs_e ho h (by omega) (by omega)⟩, trivial⟩
theorem rul_778 : Rul r_778 := by
  refine ⟨fun _ ρ M hm hB hF hG => ?_, fun gi gv hg => (by cases hg)⟩
  have H := cr_778 M (ρ 0) (ρ 1) (hB _ List.mem_cons_self) (hB _ (List.mem_cons_of_mem _ List.mem_cons_self)) (cvp 297 (x' := ((ρ 0) + 64 * (ρ 1))) (y' := (0 : Int)) (by show 0 + (1 * ρ 0 + (64 * ρ 1 + 0)) = _; omega) (by show 0 + 0 = _; omega) (hm _ List.mem_cons_self)) (cvp 293 (x' := (0 : Int)) (y' := (0 : Int)) (by show 0 + 0 = _; omega) (by show 0 + 0 = _; omega) (hm _ (List.mem_cons_of_mem _ List.mem_cons_self))) (by have h := hF _ List.mem_cons_self; have h : 0 ≤ (-21) + (1 * ρ 1 + 0) := h; omega) hG
  obtain ⟨k0, -⟩ := H
  exact ⟨_, List.mem_cons_self, ρ, fun _ _ => rfl, (okM_c (pvp 302 (by show 0 + (1 * ρ 0 + 0) = _; omega) (by show 0 + 0 = _; omega) k0) okM_n), okB_n, okF_n⟩
-- ot0
theorem cr_779 (M : pM)  (hG : gI M) : (HP 343 (0 : Int) (0 : Int) M ∧ True) := by
  exact ⟨Eq.mpr hp_343 ⟨by omega, by omega, fun i hi => by omega⟩, trivial⟩
theorem rul_779 : Rul r_779 := by
  refine ⟨fun _ ρ M hm hB hF hG => ?_, fun gi gv hg => (by cases hg)⟩
  have H := cr_779 M hG
  obtain ⟨k0, -⟩ := H
  exact ⟨_, List.mem_cons_self, ρ, fun _ _ => rfl, (okM_c (pvp 343 (by show 0 + 0 = _; omega) (by show 0 + 0 = _; omega) k0) okM_n), okB_n, okF_n⟩
-- otw56
theorem cr_780 (M : pM) (s0 s1 s2 : Int) (b0 : 0 ≤ s0 ∧ s0 ≤ 9) (b1 : 0 ≤ s1 ∧ s1 ≤ 8) (b2 : 0 ≤ s2 ∧ s2 ≤ 63) (m0 : HP 343 (s0) (0 : Int) M) (f0 : 0 ≤ ((-1) * s0 + s1)) (hG : gI M) : (HP 343 (s0) (0 : Int) (st M 56 (s1).toNat (s2)) ∧ True) := by
  obtain ⟨h1, h2, h3⟩ := Eq.mp hp_343 m0
  refine ⟨Eq.mpr hp_343 ⟨h1, h2, fun k hk => ?_⟩, trivial⟩
  show (if 56 = 56 ∧ k = (s1).toNat then (s2) else M 56 k) = (if 115 = 56 ∧ k = (s1).toNat then (s2) else M 115 k)
  rw [if_neg (by omega), if_neg (by omega)]
  exact h3 k hk
theorem rul_780 : Rul r_780 := by
  refine ⟨fun h => (by cases h), fun gi gv hg ρ M hm hB hF hG => ?_⟩
  obtain ⟨g1, g2⟩ := List.cons.inj (show ([aI ((0 : Int), ([(1, 1)] : List (Nat × Int))), aI ((0 : Int), ([(2, 1)] : List (Nat × Int)))] : List av) = [.inl gi, .inl gv] from hg)
  obtain ⟨g2, -⟩ := List.cons.inj g2
  cases g1
  cases g2
  have ei : ev ρ ((0 : Int), ([(1, 1)] : List (Nat × Int))) = ((ρ 1)) := by show 0 + (1 * ρ 1 + 0) = _; omega
  have ew : ev ρ ((0 : Int), ([(2, 1)] : List (Nat × Int))) = ((ρ 2)) := by show 0 + (1 * ρ 2 + 0) = _; omega
  rw [show (st M (ctj r_780) (ev ρ ((0 : Int), ([(1, 1)] : List (Nat × Int)))).toNat (ev ρ ((0 : Int), ([(2, 1)] : List (Nat × Int))))) = (st M 56 ((ρ 1)).toNat ((ρ 2))) from by rw [ei, ew]; rfl]
  have H := cr_780 M (ρ 0) (ρ 1) (ρ 2) (hB _ List.mem_cons_self) (hB _ (List.mem_cons_of_mem _ List.mem_cons_self)) (hB _ (List.mem_cons_of_mem _ (List.mem_cons_of_mem _ List.mem_cons_self))) (cvp 343 (x' := ((ρ 0))) (y' := (0 : Int)) (by show 0 + (1 * ρ 0 + 0) = _; omega) (by show 0 + 0 = _; omega) (hm _ List.mem_cons_self)) (by have h := hF _ List.mem_cons_self; have h : 0 ≤ 0 + ((-1) * ρ 0 + (1 * ρ 1 + 0)) := h; omega) hG
  obtain ⟨k0, -⟩ := H
  exact ⟨_, List.mem_cons_self, ρ, fun _ _ => rfl, (okM_c (pvp 343 (by show 0 + (1 * ρ 0 + 0) = _; omega) (by show 0 + 0 = _; omega) k0) okM_n), okB_n, okF_n⟩
-- otw115
theorem cr_781 (M : pM) (s0 s1 s2 : Int) (b0 : 0 ≤ s0 ∧ s0 ≤ 9) (b1 : 0 ≤ s1 ∧ s1 ≤ 8) (b2 : 0 ≤ s2 ∧ s2 ≤ 63) (m0 : HP 343 (s0) (0 : Int) M) (f0 : 0 ≤ ((-1) * s0 + s1)) (hG : gI M) : (HP 343 (s0) (0 : Int) (st M 115 (s1).toNat (s2)) ∧ True) := by
  obtain ⟨h1, h2, h3⟩ := Eq.mp hp_343 m0
  refine ⟨Eq.mpr hp_343 ⟨h1, h2, fun k hk => ?_⟩, trivial⟩
  show (if 56 = 115 ∧ k = (s1).toNat then (s2) else M 56 k) = (if 115 = 115 ∧ k = (s1).toNat then (s2) else M 115 k)
  rw [if_neg (by omega), if_neg (by omega)]
  exact h3 k hk
theorem rul_781 : Rul r_781 := by
  refine ⟨fun h => (by cases h), fun gi gv hg ρ M hm hB hF hG => ?_⟩
  obtain ⟨g1, g2⟩ := List.cons.inj (show ([aI ((0 : Int), ([(1, 1)] : List (Nat × Int))), aI ((0 : Int), ([(2, 1)] : List (Nat × Int)))] : List av) = [.inl gi, .inl gv] from hg)
  obtain ⟨g2, -⟩ := List.cons.inj g2
  cases g1
  cases g2
  have ei : ev ρ ((0 : Int), ([(1, 1)] : List (Nat × Int))) = ((ρ 1)) := by show 0 + (1 * ρ 1 + 0) = _; omega
  have ew : ev ρ ((0 : Int), ([(2, 1)] : List (Nat × Int))) = ((ρ 2)) := by show 0 + (1 * ρ 2 + 0) = _; omega
  rw [show (st M (ctj r_781) (ev ρ ((0 : Int), ([(1, 1)] : List (Nat × Int)))).toNat (ev ρ ((0 : Int), ([(2, 1)] : List (Nat × Int))))) = (st M 115 ((ρ 1)).toNat ((ρ 2))) from by rw [ei, ew]; rfl]
  have H := cr_781 M (ρ 0) (ρ 1) (ρ 2) (hB _ List.mem_cons_self) (hB _ (List.mem_cons_of_mem _ List.mem_cons_self)) (hB _ (List.mem_cons_of_mem _ (List.mem_cons_of_mem _ List.mem_cons_self))) (cvp 343 (x' := ((ρ 0))) (y' := (0 : Int)) (by show 0 + (1 * ρ 0 + 0) = _; omega) (by show 0 + 0 = _; omega) (hm _ List.mem_cons_self)) (by have h := hF _ List.mem_cons_self; have h : 0 ≤ 0 + ((-1) * ρ 0 + (1 * ρ 1 + 0)) := h; omega) hG
  obtain ⟨k0, -⟩ := H
  exact ⟨_, List.mem_cons_self, ρ, fun _ _ => rfl, (okM_c (pvp 343 (by show 0 + (1 * ρ 0 + 0) = _; omega) (by show 0 + 0 = _; omega) k0) okM_n), okB_n, okF_n⟩
-- oto
theorem cr_782 (M : pM) (s0 s1 s2 s3 : Int) (b0 : 0 ≤ s0 ∧ s0 ≤ 8) (b1 : 0 ≤ s1 ∧ s1 ≤ 8) (b2 : 0 ≤ s2 ∧ s2 ≤ 63) (b3 : 0 ≤ s3 ∧ s3 ≤ 63) (m0 : HP 343 (s0) (0 : Int) M) (m1 : (0 ≤ (s1) ∧ M 56 (s1).toNat = (s2))) (m2 : (0 ≤ (s0) ∧ M 115 (s0).toNat = (s3))) (f0 : 0 ≤ ((-1) * s2 + s3)) (f1 : 0 ≤ (s2 + (-1) * s3)) (f2 : 0 ≤ (s0 + (-1) * s1)) (f3 : 0 ≤ ((-1) * s0 + s1)) (hG : gI M) : (HP 343 (s0 + 1) (0 : Int) M ∧ True) := by
  obtain ⟨h1, h2, h3⟩ := Eq.mp hp_343 m0
  have a1 : M 56 s0.toNat = (s2) := by
    rw [show s0.toNat = (s1).toNat by omega]
    exact m1.2
  have a2 : M 115 s0.toNat = (s3) := by
    rw [show s0.toNat = (s0).toNat by omega]
    exact m2.2
  exact ⟨Eq.mpr hp_343 ⟨by omega, by omega, fun i hi => by
      by_cases e : i = s0.toNat
      · rw [e, a1, a2]; omega
      · exact h3 i (by omega)⟩, trivial⟩
theorem rul_782 : Rul r_782 := by
  refine ⟨fun _ ρ M hm hB hF hG => ?_, fun gi gv hg => (by cases hg)⟩
  have H := cr_782 M (ρ 0) (ρ 1) (ρ 2) (ρ 3) (hB _ List.mem_cons_self) (hB _ (List.mem_cons_of_mem _ List.mem_cons_self)) (hB _ (List.mem_cons_of_mem _ (List.mem_cons_of_mem _ List.mem_cons_self))) (hB _ (List.mem_cons_of_mem _ (List.mem_cons_of_mem _ (List.mem_cons_of_mem _ List.mem_cons_self)))) (cvp 343 (x' := ((ρ 0))) (y' := (0 : Int)) (by show 0 + (1 * ρ 0 + 0) = _; omega) (by show 0 + 0 = _; omega) (hm _ List.mem_cons_self)) (cvm (c := 56) (by decide) (x' := ((ρ 1))) (y' := ((ρ 2))) (by show 0 + (1 * ρ 1 + 0) = _; omega) (by show 0 + (1 * ρ 2 + 0) = _; omega) (hm _ (List.mem_cons_of_mem _ List.mem_cons_self))) (cvm (c := 115) (by decide) (x' := ((ρ 0))) (y' := ((ρ 3))) (by show 0 + (1 * ρ 0 + 0) = _; omega) (by show 0 + (1 * ρ 3 + 0) = _; omega) (hm _ (List.mem_cons_of_mem _ (List.mem_cons_of_mem _ List.mem_cons_self)))) (by have h := hF _ List.mem_cons_self; have h : 0 ≤ 0 + ((-1) * ρ 2 + (1 * ρ 3 + 0)) := h; omega) (by have h := hF _ (List.mem_cons_of_mem _ List.mem_cons_self); have h : 0 ≤ 0 + (1 * ρ 2 + ((-1) * ρ 3 + 0)) := h; omega) (by have h := hF _ (List.mem_cons_of_mem _ (List.mem_cons_of_mem _ List.mem_cons_self)); have h : 0 ≤ 0 + (1 * ρ 0 + ((-1) * ρ 1 + 0)) := h; omega) (by have h := hF _ (List.mem_cons_of_mem _ (List.mem_cons_of_mem _ (List.mem_cons_of_mem _ List.mem_cons_self))); have h : 0 ≤ 0 + ((-1) * ρ 0 + (1 * ρ 1 + 0)) := h; omega) hG
  obtain ⟨k0, -⟩ := H
  exact ⟨_, List.mem_cons_self, ρ, fun _ _ => rfl, (okM_c (pvp 343 (by show 1 + (1 * ρ 0 + 0) = _; omega) (by show 0 + 0 = _; omega) k0) okM_n), okB_n, okF_n⟩
-- otx
theorem cr_783 (M : pM) (s0 s1 : Int) (b0 : 0 ≤ s0 ∧ s0 ≤ 9) (b1 : 0 ≤ s1 ∧ s1 ≤ 9) (m0 : HP 343 (s0) (0 : Int) M) (f0 : 0 ≤ ((-1) * s0 + s1)) (f1 : 0 ≤ (s0 + (-1) * s1)) (hG : gI M) : (HP 343 (s1) (0 : Int) M ∧ True) := by
  obtain ⟨h1, h2, h3⟩ := Eq.mp hp_343 m0
  exact ⟨Eq.mpr hp_343 ⟨by omega, by omega, fun i hi => h3 i (by omega)⟩, trivial⟩
theorem rul_783 : Rul r_783 := by
  refine ⟨fun _ ρ M hm hB hF hG => ?_, fun gi gv hg => (by cases hg)⟩
  have H := cr_783 M (ρ 0) (ρ 1) (hB _ List.mem_cons_self) (hB _ (List.mem_cons_of_mem _ List.mem_cons_self)) (cvp 343 (x' := ((ρ 0))) (y' := (0 : Int)) (by show 0 + (1 * ρ 0 + 0) = _; omega) (by show 0 + 0 = _; omega) (hm _ List.mem_cons_self)) (by have h := hF _ List.mem_cons_self; have h : 0 ≤ 0 + ((-1) * ρ 0 + (1 * ρ 1 + 0)) := h; omega) (by have h := hF _ (List.mem_cons_of_mem _ List.mem_cons_self); have h : 0 ≤ 0 + (1 * ρ 0 + ((-1) * ρ 1 + 0)) := h; omega) hG
  obtain ⟨k0, -⟩ := H
  exact ⟨_, List.mem_cons_self, ρ, fun _ _ => rfl, (okM_c (pvp 343 (by show 0 + (1 * ρ 1 + 0) = _; omega) (by show 0 + 0 = _; omega) k0) okM_n), okB_n, okF_n⟩
-- rb0
theorem cr_784 (M : pM)  (hG : gI M) : (HP 342 (0 : Int) (0 : Int) M ∧ True) := by
  exact ⟨Eq.mpr hp_342 ⟨by omega, by omega, fun i hi => by omega⟩, trivial⟩
theorem rul_784 : Rul r_784 := by
  refine ⟨fun _ ρ M hm hB hF hG => ?_, fun gi gv hg => (by cases hg)⟩
  have H := cr_784 M hG
  obtain ⟨k0, -⟩ := H
  exact ⟨_, List.mem_cons_self, ρ, fun _ _ => rfl, (okM_c (pvp 342 (by show 0 + 0 = _; omega) (by show 0 + 0 = _; omega) k0) okM_n), okB_n, okF_n⟩
-- rbn_0
theorem cr_785 (M : pM) (s0 s1 s2 s3 : Int) (b0 : 0 ≤ s0 ∧ s0 ≤ 63) (b1 : 0 ≤ s1 ∧ s1 ≤ 8) (b2 : 0 ≤ s2 ∧ s2 ≤ 63) (b3 : 0 ≤ s3 ∧ s3 ≤ 999999) (m0 : HP 342 (s1) (0 : Int) M) (m1 : HP 302 (s0) (0 : Int) M) (m2 : HP 292 (0 : Int) (0 : Int) M) (m3 : (0 ≤ (s1) ∧ M 56 (s1).toNat = (s2))) (m4 : (0 ≤ (s2) ∧ M 57 (s2).toNat = (s3))) (hG : gI M) : (HP 342 (s1 + 1) (0 : Int) M ∧ 0 ≤ ((-1) * s3 + 1980) ∧ True) := by
  obtain ⟨h1, h2, h3⟩ := Eq.mp hp_342 m0
  obtain ⟨f0, f1, f2, hB⟩ := Eq.mp hp_302 m1
  have ef : f0 = s0.toNat := by omega
  subst ef
  have ho := dok_b (b := 0) (M := M) (f := s0.toNat) (Eq.mp hp_292 m2) (by omega)
  have hbd := dok_bd (dR_lt 0 M) (show dRn 0 M ≤ 20 from Nat.min_le_right _ _) (fun r _ => dRm_b hG (by decide) r) ho
  have hv := hB s2.toNat (by omega)
  have du : dDd M s2.toNat = s3 := (dDd_v (by omega)).trans m4.2
  rw [du] at hv
  have k0 : s3 ≤ 1980 := by
    rcases hv with ⟨v1, v2⟩ | ⟨v1, v2⟩
    · have := hbd s2.toNat (by omega) v2; omega
    · omega
  have hm := hmC_v (o := s1.toNat) (c := s2.toNat) (by omega) (by omega) (m3.2.trans (by omega)) m4.2
  exact ⟨Eq.mpr hp_342 ⟨by omega, by omega, fun o ho => by
      by_cases e : o = s1.toNat
      · rw [e, hm]; omega
      · exact h3 o (by omega)⟩, by omega, trivial⟩
theorem rul_785 : Rul r_785 := by
  refine ⟨fun _ ρ M hm hB hF hG => ?_, fun gi gv hg => (by cases hg)⟩
  have H := cr_785 M (ρ 0) (ρ 1) (ρ 2) (ρ 3) (hB _ List.mem_cons_self) (hB _ (List.mem_cons_of_mem _ List.mem_cons_self)) (hB _ (List.mem_cons_of_mem _ (List.mem_cons_of_mem _ List.mem_cons_self))) (hB _ (List.mem_cons_of_mem _ (List.mem_cons_of_mem _ (List.mem_cons_of_mem _ List.mem_cons_self)))) (cvp 342 (x' := ((ρ 1))) (y' := (0 : Int)) (by show 0 + (1 * ρ 1 + 0) = _; omega) (by show 0 + 0 = _; omega) (hm _ List.mem_cons_self)) (cvp 302 (x' := ((ρ 0))) (y' := (0 : Int)) (by show 0 + (1 * ρ 0 + 0) = _; omega) (by show 0 + 0 = _; omega) (hm _ (List.mem_cons_of_mem _ List.mem_cons_self))) (cvp 292 (x' := (0 : Int)) (y' := (0 : Int)) (by show 0 + 0 = _; omega) (by show 0 + 0 = _; omega) (hm _ (List.mem_cons_of_mem _ (List.mem_cons_of_mem _ List.mem_cons_self)))) (cvm (c := 56) (by decide) (x' := ((ρ 1))) (y' := ((ρ 2))) (by show 0 + (1 * ρ 1 + 0) = _; omega) (by show 0 + (1 * ρ 2 + 0) = _; omega) (hm _ (List.mem_cons_of_mem _ (List.mem_cons_of_mem _ (List.mem_cons_of_mem _ List.mem_cons_self))))) (cvm (c := 57) (by decide) (x' := ((ρ 2))) (y' := ((ρ 3))) (by show 0 + (1 * ρ 2 + 0) = _; omega) (by show 0 + (1 * ρ 3 + 0) = _; omega) (hm _ (List.mem_cons_of_mem _ (List.mem_cons_of_mem _ (List.mem_cons_of_mem _ (List.mem_cons_of_mem _ List.mem_cons_self)))))) hG
  obtain ⟨k0, f0, -⟩ := H
  exact ⟨_, List.mem_cons_self, ρ, fun _ _ => rfl, (okM_c (pvp 342 (by show 1 + (1 * ρ 1 + 0) = _; omega) (by show 0 + 0 = _; omega) k0) okM_n), okB_n, (okF_c (by show 0 ≤ 1980 + ((-1) * ρ 3 + 0); omega) okF_n)⟩
-- rbn_1
theorem cr_786 (M : pM) (s0 s1 s2 s3 : Int) (b0 : 0 ≤ s0 ∧ s0 ≤ 63) (b1 : 0 ≤ s1 ∧ s1 ≤ 8) (b2 : 0 ≤ s2 ∧ s2 ≤ 63) (b3 : 0 ≤ s3 ∧ s3 ≤ 999999) (m0 : HP 342 (s1) (0 : Int) M) (m1 : HP 302 (s0) (0 : Int) M) (m2 : HP 293 (0 : Int) (0 : Int) M) (m3 : (0 ≤ (s1) ∧ M 56 (s1).toNat = (s2))) (m4 : (0 ≤ (s2) ∧ M 57 (s2).toNat = (s3))) (hG : gI M) : (HP 342 (s1 + 1) (0 : Int) M ∧ 0 ≤ ((-1) * s3 + 1980) ∧ True) := by
  obtain ⟨h1, h2, h3⟩ := Eq.mp hp_342 m0
  obtain ⟨f0, f1, f2, hB⟩ := Eq.mp hp_302 m1
  have ef : f0 = s0.toNat := by omega
  subst ef
  have ho := dok_b (b := 1) (M := M) (f := s0.toNat) (Eq.mp hp_293 m2) (by omega)
  have hbd := dok_bd (dR_lt 1 M) (show dRn 1 M ≤ 20 from Nat.min_le_right _ _) (fun r _ => dRm_b hG (by decide) r) ho
  have hv := hB s2.toNat (by omega)
  have du : dDd M s2.toNat = s3 := (dDd_v (by omega)).trans m4.2
  rw [du] at hv
  have k0 : s3 ≤ 1980 := by
    rcases hv with ⟨v1, v2⟩ | ⟨v1, v2⟩
    · have := hbd s2.toNat (by omega) v2; omega
    · omega
  have hm := hmC_v (o := s1.toNat) (c := s2.toNat) (by omega) (by omega) (m3.2.trans (by omega)) m4.2
  exact ⟨Eq.mpr hp_342 ⟨by omega, by omega, fun o ho => by
      by_cases e : o = s1.toNat
      · rw [e, hm]; omega
      · exact h3 o (by omega)⟩, by omega, trivial⟩
theorem rul_786 : Rul r_786 := by
  refine ⟨fun _ ρ M hm hB hF hG => ?_, fun gi gv hg => (by cases hg)⟩
  have H := cr_786 M (ρ 0) (ρ 1) (ρ 2) (ρ 3) (hB _ List.mem_cons_self) (hB _ (List.mem_cons_of_mem _ List.mem_cons_self)) (hB _ (List.mem_cons_of_mem _ (List.mem_cons_of_mem _ List.mem_cons_self))) (hB _ (List.mem_cons_of_mem _ (List.mem_cons_of_mem _ (List.mem_cons_of_mem _ List.mem_cons_self)))) (cvp 342 (x' := ((ρ 1))) (y' := (0 : Int)) (by show 0 + (1 * ρ 1 + 0) = _; omega) (by show 0 + 0 = _; omega) (hm _ List.mem_cons_self)) (cvp 302 (x' := ((ρ 0))) (y' := (0 : Int)) (by show 0 + (1 * ρ 0 + 0) = _; omega) (by show 0 + 0 = _; omega) (hm _ (List.mem_cons_of_mem _ List.mem_cons_self))) (cvp 293 (x' := (0 : Int)) (y' := (0 : Int)) (by show 0 + 0 = _; omega) (by show 0 + 0 = _; omega) (hm _ (List.mem_cons_of_mem _ (List.mem_cons_of_mem _ List.mem_cons_self)))) (cvm (c := 56) (by decide) (x' := ((ρ 1))) (y' := ((ρ 2))) (by show 0 + (1 * ρ 1 + 0) = _; omega) (by show 0 + (1 * ρ 2 + 0) = _; omega) (hm _ (List.mem_cons_of_mem _ (List.mem_cons_of_mem _ (List.mem_cons_of_mem _ List.mem_cons_self))))) (cvm (c := 57) (by decide) (x' := ((ρ 2))) (y' := ((ρ 3))) (by show 0 + (1 * ρ 2 + 0) = _; omega) (by show 0 + (1 * ρ 3 + 0) = _; omega) (hm _ (List.mem_cons_of_mem _ (List.mem_cons_of_mem _ (List.mem_cons_of_mem _ (List.mem_cons_of_mem _ List.mem_cons_self)))))) hG
  obtain ⟨k0, f0, -⟩ := H
  exact ⟨_, List.mem_cons_self, ρ, fun _ _ => rfl, (okM_c (pvp 342 (by show 1 + (1 * ρ 1 + 0) = _; omega) (by show 0 + 0 = _; omega) k0) okM_n), okB_n, (okF_c (by show 0 ≤ 1980 + ((-1) * ρ 3 + 0); omega) okF_n)⟩
-- rbe
theorem cr_787 (M : pM) (s0 s1 : Int) (b0 : 0 ≤ s0 ∧ s0 ≤ 9) (b1 : 0 ≤ s1 ∧ s1 ≤ 9) (m0 : HP 342 (s0) (0 : Int) M) (m1 : (0 ≤ (1 : Int) ∧ M 55 (1 : Int).toNat = (s1))) (f0 : 0 ≤ (s0 + (-1) * s1)) (f1 : 0 ≤ ((-1) * s0 + s1)) (hG : gI M) : (HP 342 (s1) (0 : Int) M ∧ True) := by
  obtain ⟨h1, h2, h3⟩ := Eq.mp hp_342 m0
  exact ⟨Eq.mpr hp_342 ⟨by omega, by omega, fun i hi => h3 i (by omega)⟩, trivial⟩
theorem rul_787 : Rul r_787 := by
  refine ⟨fun _ ρ M hm hB hF hG => ?_, fun gi gv hg => (by cases hg)⟩
  have H := cr_787 M (ρ 0) (ρ 1) (hB _ List.mem_cons_self) (hB _ (List.mem_cons_of_mem _ List.mem_cons_self)) (cvp 342 (x' := ((ρ 0))) (y' := (0 : Int)) (by show 0 + (1 * ρ 0 + 0) = _; omega) (by show 0 + 0 = _; omega) (hm _ List.mem_cons_self)) (cvm (c := 55) (by decide) (x' := (1 : Int)) (y' := ((ρ 1))) (by show 1 + 0 = _; omega) (by show 0 + (1 * ρ 1 + 0) = _; omega) (hm _ (List.mem_cons_of_mem _ List.mem_cons_self))) (by have h := hF _ List.mem_cons_self; have h : 0 ≤ 0 + (1 * ρ 0 + ((-1) * ρ 1 + 0)) := h; omega) (by have h := hF _ (List.mem_cons_of_mem _ List.mem_cons_self); have h : 0 ≤ 0 + ((-1) * ρ 0 + (1 * ρ 1 + 0)) := h; omega) hG
  obtain ⟨k0, -⟩ := H
  exact ⟨_, List.mem_cons_self, ρ, fun _ _ => rfl, (okM_c (pvp 342 (by show 0 + (1 * ρ 1 + 0) = _; omega) (by show 0 + 0 = _; omega) k0) okM_n), okB_n, okF_n⟩
-- nr0
theorem cr_788 (M : pM) (s0 s1 s2 s3 : Int) (b0 : 0 ≤ s0 ∧ s0 ≤ 8) (b1 : 0 ≤ s1 ∧ s1 ≤ 9) (b2 : 0 ≤ s2 ∧ s2 ≤ 63) (b3 : 0 ≤ s3 ∧ s3 ≤ 1000000) (m0 : (0 ≤ (s0) ∧ M 56 (s0).toNat = (s2))) (m1 : (0 ≤ (s2) ∧ M 57 (s2).toNat = (s3))) (m2 : (0 ≤ (1 : Int) ∧ M 55 (1 : Int).toNat = (s1))) (f0 : 0 ≤ (s3 - 1000000)) (f1 : 0 ≤ ((-1) * s0 + s1 - 1)) (hG : gI M) : (HP 365 (s1) (0 : Int) M ∧ True) := by
  have hm := hmC_v (o := s0.toNat) (c := s2.toNat) (by omega) (by omega) (m0.2.trans (by omega)) m1.2
  exact ⟨Eq.mpr hp_365 ⟨by omega, s0.toNat, by omega, by rw [hm]; omega⟩, trivial⟩
theorem rul_788 : Rul r_788 := by
  refine ⟨fun _ ρ M hm hB hF hG => ?_, fun gi gv hg => (by cases hg)⟩
  have H := cr_788 M (ρ 0) (ρ 1) (ρ 2) (ρ 3) (hB _ List.mem_cons_self) (hB _ (List.mem_cons_of_mem _ List.mem_cons_self)) (hB _ (List.mem_cons_of_mem _ (List.mem_cons_of_mem _ List.mem_cons_self))) (hB _ (List.mem_cons_of_mem _ (List.mem_cons_of_mem _ (List.mem_cons_of_mem _ List.mem_cons_self)))) (cvm (c := 56) (by decide) (x' := ((ρ 0))) (y' := ((ρ 2))) (by show 0 + (1 * ρ 0 + 0) = _; omega) (by show 0 + (1 * ρ 2 + 0) = _; omega) (hm _ List.mem_cons_self)) (cvm (c := 57) (by decide) (x' := ((ρ 2))) (y' := ((ρ 3))) (by show 0 + (1 * ρ 2 + 0) = _; omega) (by show 0 + (1 * ρ 3 + 0) = _; omega) (hm _ (List.mem_cons_of_mem _ List.mem_cons_self))) (cvm (c := 55) (by decide) (x' := (1 : Int)) (y' := ((ρ 1))) (by show 1 + 0 = _; omega) (by show 0 + (1 * ρ 1 + 0) = _; omega) (hm _ (List.mem_cons_of_mem _ (List.mem_cons_of_mem _ List.mem_cons_self)))) (by have h := hF _ List.mem_cons_self; have h : 0 ≤ (-1000000) + (1 * ρ 3 + 0) := h; omega) (by have h := hF _ (List.mem_cons_of_mem _ List.mem_cons_self); have h : 0 ≤ (-1) + ((-1) * ρ 0 + (1 * ρ 1 + 0)) := h; omega) hG
  obtain ⟨k0, -⟩ := H
  exact ⟨_, List.mem_cons_self, ρ, fun _ _ => rfl, (okM_c (pvp 365 (by show 0 + (1 * ρ 1 + 0) = _; omega) (by show 0 + 0 = _; omega) k0) okM_n), okB_n, okF_n⟩
-- rbd
theorem cr_789 (M : pM) (s0 s1 s2 s3 : Int) (b0 : 0 ≤ s0 ∧ s0 ≤ 9) (b1 : 0 ≤ s1 ∧ s1 ≤ 8) (b2 : 0 ≤ s2 ∧ s2 ≤ 63) (b3 : 0 ≤ s3 ∧ s3 ≤ 1000000) (m0 : HP 342 (s0) (0 : Int) M) (m1 : (0 ≤ (s1) ∧ M 56 (s1).toNat = (s2))) (m2 : (0 ≤ (s2) ∧ M 57 (s2).toNat = (s3))) (f0 : 0 ≤ (s0 + (-1) * s1 - 1)) (hG : gI M) : (0 ≤ ((-1) * s3 + 1980) ∧ True) := by
  obtain ⟨h1, h2, h3⟩ := Eq.mp hp_342 m0
  have hm := hmC_v (o := s1.toNat) (c := s2.toNat) (by omega) (by omega) (m1.2.trans (by omega)) m2.2
  have h4 := h3 s1.toNat (by omega)
  rw [hm] at h4
  exact ⟨by omega, trivial⟩
theorem rul_789 : Rul r_789 := by
  refine ⟨fun _ ρ M hm hB hF hG => ?_, fun gi gv hg => (by cases hg)⟩
  have H := cr_789 M (ρ 0) (ρ 1) (ρ 2) (ρ 3) (hB _ List.mem_cons_self) (hB _ (List.mem_cons_of_mem _ List.mem_cons_self)) (hB _ (List.mem_cons_of_mem _ (List.mem_cons_of_mem _ List.mem_cons_self))) (hB _ (List.mem_cons_of_mem _ (List.mem_cons_of_mem _ (List.mem_cons_of_mem _ List.mem_cons_self)))) (cvp 342 (x' := ((ρ 0))) (y' := (0 : Int)) (by show 0 + (1 * ρ 0 + 0) = _; omega) (by show 0 + 0 = _; omega) (hm _ List.mem_cons_self)) (cvm (c := 56) (by decide) (x' := ((ρ 1))) (y' := ((ρ 2))) (by show 0 + (1 * ρ 1 + 0) = _; omega) (by show 0 + (1 * ρ 2 + 0) = _; omega) (hm _ (List.mem_cons_of_mem _ List.mem_cons_self))) (cvm (c := 57) (by decide) (x' := ((ρ 2))) (y' := ((ρ 3))) (by show 0 + (1 * ρ 2 + 0) = _; omega) (by show 0 + (1 * ρ 3 + 0) = _; omega) (hm _ (List.mem_cons_of_mem _ (List.mem_cons_of_mem _ List.mem_cons_self)))) (by have h := hF _ List.mem_cons_self; have h : 0 ≤ (-1) + (1 * ρ 0 + ((-1) * ρ 1 + 0)) := h; omega) hG
  obtain ⟨f0, -⟩ := H
  exact ⟨_, List.mem_cons_self, ρ, fun _ _ => rfl, okM_n, okB_n, (okF_c (by show 0 ≤ 1980 + ((-1) * ρ 3 + 0); omega) okF_n)⟩
-- ll0
theorem cr_790 (M : pM)  (hG : gI M) : (HP 344 (0 : Int) (0 : Int) M ∧ True) := by
  exact ⟨Eq.mpr hp_344 ⟨by omega, fun i hi => by omega⟩, trivial⟩
theorem rul_790 : Rul r_790 := by
  refine ⟨fun _ ρ M hm hB hF hG => ?_, fun gi gv hg => (by cases hg)⟩
  have H := cr_790 M hG
  obtain ⟨k0, -⟩ := H
  exact ⟨_, List.mem_cons_self, ρ, fun _ _ => rfl, (okM_c (pvp 344 (by show 0 + 0 = _; omega) (by show 0 + 0 = _; omega) k0) okM_n), okB_n, okF_n⟩
-- llw
theorem cr_791 (M : pM) (s0 : Int) (b0 : 0 ≤ s0 ∧ s0 ≤ 2) (m0 : HP 344 (s0) (0 : Int) M) (hG : gI M) : (HP 344 (s0 + 1) (0 : Int) (st M 58 (s0).toNat (0 : Int)) ∧ True) := by
  obtain ⟨h1, h2⟩ := Eq.mp hp_344 m0
  refine ⟨Eq.mpr hp_344 ⟨by omega, fun i hi => ?_⟩, trivial⟩
  show (if 58 = 58 ∧ i = (s0).toNat then (0 : Int) else M 58 i) = _
  by_cases e : i = (s0).toNat
  · rw [if_pos ⟨rfl, e⟩]
  · rw [if_neg (fun q => e q.2)]
    exact h2 i (by omega)
theorem rul_791 : Rul r_791 := by
  refine ⟨fun h => (by cases h), fun gi gv hg ρ M hm hB hF hG => ?_⟩
  obtain ⟨g1, g2⟩ := List.cons.inj (show ([aI ((0 : Int), ([(0, 1)] : List (Nat × Int))), aI ((0 : Int), ([] : List (Nat × Int)))] : List av) = [.inl gi, .inl gv] from hg)
  obtain ⟨g2, -⟩ := List.cons.inj g2
  cases g1
  cases g2
  have ei : ev ρ ((0 : Int), ([(0, 1)] : List (Nat × Int))) = ((ρ 0)) := by show 0 + (1 * ρ 0 + 0) = _; omega
  have ew : ev ρ ((0 : Int), ([] : List (Nat × Int))) = (0 : Int) := by show 0 + 0 = _; omega
  rw [show (st M (ctj r_791) (ev ρ ((0 : Int), ([(0, 1)] : List (Nat × Int)))).toNat (ev ρ ((0 : Int), ([] : List (Nat × Int))))) = (st M 58 ((ρ 0)).toNat (0 : Int)) from by rw [ei, ew]; rfl]
  have H := cr_791 M (ρ 0) (hB _ List.mem_cons_self) (cvp 344 (x' := ((ρ 0))) (y' := (0 : Int)) (by show 0 + (1 * ρ 0 + 0) = _; omega) (by show 0 + 0 = _; omega) (hm _ List.mem_cons_self)) hG
  obtain ⟨k0, -⟩ := H
  exact ⟨_, List.mem_cons_self, ρ, fun _ _ => rfl, (okM_c (pvp 344 (by show 1 + (1 * ρ 0 + 0) = _; omega) (by show 0 + 0 = _; omega) k0) okM_n), okB_n, okF_n⟩
-- llx
theorem cr_792 (M : pM) (s0 : Int) (b0 : 0 ≤ s0 ∧ s0 ≤ 3) (m0 : HP 344 (s0) (0 : Int) M) (f0 : 0 ≤ (s0 - 3)) (hG : gI M) : (HP 330 (0 : Int) (0 : Int) M ∧ HP 320 (0 : Int) (0 : Int) M ∧ True) := by
  obtain ⟨h1, h2⟩ := Eq.mp hp_344 m0
  exact ⟨Eq.mpr hp_330 (fun a ha => h2 a (by omega)), Eq.mpr hp_320 ⟨0, by omega, by omega, fun a _ => Int.le_refl 0, ⟨0, by decide, rfl⟩, fun a ha => absurd ha (Nat.not_lt_zero a), fun a c _ _ _ => rfl⟩, trivial⟩
theorem rul_792 : Rul r_792 := by
  refine ⟨fun _ ρ M hm hB hF hG => ?_, fun gi gv hg => (by cases hg)⟩
  have H := cr_792 M (ρ 0) (hB _ List.mem_cons_self) (cvp 344 (x' := ((ρ 0))) (y' := (0 : Int)) (by show 0 + (1 * ρ 0 + 0) = _; omega) (by show 0 + 0 = _; omega) (hm _ List.mem_cons_self)) (by have h := hF _ List.mem_cons_self; have h : 0 ≤ (-3) + (1 * ρ 0 + 0) := h; omega) hG
  obtain ⟨k0, k1, -⟩ := H
  exact ⟨_, List.mem_cons_self, ρ, fun _ _ => rfl, (okM_c (pvp 330 (by show 0 + 0 = _; omega) (by show 0 + 0 = _; omega) k0) (okM_c (pvp 320 (by show 0 + 0 = _; omega) (by show 0 + 0 = _; omega) k1) okM_n)), okB_n, okF_n⟩
-- hj0
theorem cr_793 (M : pM) (s0 s1 s2 : Int) (b0 : 0 ≤ s0 ∧ s0 ≤ 9) (b1 : 0 ≤ s1 ∧ s1 ≤ 1000000) (b2 : 1 ≤ s2 ∧ s2 ≤ 3) (m0 : (0 ≤ (6 : Int) ∧ M 55 (6 : Int).toNat = (s1))) (m1 : (0 ≤ (1 : Int) ∧ M 55 (1 : Int).toNat = (s0))) (f0 : 0 ≤ ((-1) * s1 + 1000000)) (f1 : 0 ≤ (s1 - 1000000)) (hG : gI M) : (HP 310 (0 : Int) (s2) M ∧ True) := by
  have eb : M 55 6 = s1 := m0.2
  have en : hnC M = s0.toNat := hnC_v (by omega) (by have h : M 55 1 = s0 := m1.2; rw [h]; omega)
  exact ⟨Eq.mpr hp_310 ⟨0, s2.toNat, by omega, by omega, by omega, by omega, by omega, fun o ho => absurd ho (Nat.not_lt_zero o), hj_in (eb.trans (by omega)) (by omega)⟩, trivial⟩
theorem rul_793 : Rul r_793 := by
  refine ⟨fun _ ρ M hm hB hF hG => ?_, fun gi gv hg => (by cases hg)⟩
  have H := cr_793 M (ρ 0) (ρ 1) (ρ 2) (hB _ List.mem_cons_self) (hB _ (List.mem_cons_of_mem _ List.mem_cons_self)) (hB _ (List.mem_cons_of_mem _ (List.mem_cons_of_mem _ List.mem_cons_self))) (cvm (c := 55) (by decide) (x' := (6 : Int)) (y' := ((ρ 1))) (by show 6 + 0 = _; omega) (by show 0 + (1 * ρ 1 + 0) = _; omega) (hm _ List.mem_cons_self)) (cvm (c := 55) (by decide) (x' := (1 : Int)) (y' := ((ρ 0))) (by show 1 + 0 = _; omega) (by show 0 + (1 * ρ 0 + 0) = _; omega) (hm _ (List.mem_cons_of_mem _ List.mem_cons_self))) (by have h := hF _ List.mem_cons_self; have h : 0 ≤ 1000000 + ((-1) * ρ 1 + 0) := h; omega) (by have h := hF _ (List.mem_cons_of_mem _ List.mem_cons_self); have h : 0 ≤ (-1000000) + (1 * ρ 1 + 0) := h; omega) hG
  obtain ⟨k0, -⟩ := H
  exact ⟨_, List.mem_cons_self, ρ, fun _ _ => rfl, (okM_c (pvp 310 (by show 0 + 0 = _; omega) (by show 0 + (1 * ρ 2 + 0) = _; omega) k0) okM_n), okB_n, okF_n⟩
-- gpr0
theorem cr_794 (M : pM) (s0 s1 s2 s3 : Int) (b0 : 1 ≤ s0 ∧ s0 ≤ 3) (b1 : 0 ≤ s1 ∧ s1 ≤ 35640) (b2 : 0 ≤ s2 ∧ s2 ≤ 9) (b3 : 0 ≤ s3 ∧ s3 ≤ 1000000) (m0 : HP 310 (0 : Int) (s0) M) (m1 : HP 320 (0 : Int) (s1) M) (m2 : (0 ≤ (1 : Int) ∧ M 55 (1 : Int).toNat = (s2))) (m3 : (0 ≤ (6 : Int) ∧ M 55 (6 : Int).toNat = (s3))) (f0 : 0 ≤ (s1 + (-1) * s3)) (f1 : 0 ≤ (s2)) (hG : gI M) : (HP 310 (s0) (s0) M ∧ True) := by
  obtain ⟨j0, T0, t1, t2, t3, t4, t5, t6, t7⟩ := Eq.mp hp_310 m0
  obtain ⟨j1, x1, x2, x3⟩ := Eq.mp hp_320 m1
  have en : hnC M = s2.toNat := hnC_v (by omega) (by have h : M 55 1 = s2 := m2.2; rw [h]; omega)
  have eb : M 55 6 = s3 := m3.2
  have ej : j0 = 0 := by omega
  subst ej
  exact ⟨Eq.mpr hp_310 ⟨T0, T0, t1, t2, Nat.le_refl _, by omega, by omega, t6, hj_pr (hmC_0 hG) (by rw [en]; omega) t7 x3 (by rw [eb]; omega)⟩, trivial⟩
theorem rul_794 : Rul r_794 := by
  refine ⟨fun _ ρ M hm hB hF hG => ?_, fun gi gv hg => (by cases hg)⟩
  have H := cr_794 M (ρ 0) (ρ 1) (ρ 2) (ρ 3) (hB _ List.mem_cons_self) (hB _ (List.mem_cons_of_mem _ List.mem_cons_self)) (hB _ (List.mem_cons_of_mem _ (List.mem_cons_of_mem _ List.mem_cons_self))) (hB _ (List.mem_cons_of_mem _ (List.mem_cons_of_mem _ (List.mem_cons_of_mem _ List.mem_cons_self)))) (cvp 310 (x' := (0 : Int)) (y' := ((ρ 0))) (by show 0 + 0 = _; omega) (by show 0 + (1 * ρ 0 + 0) = _; omega) (hm _ List.mem_cons_self)) (cvp 320 (x' := (0 : Int)) (y' := ((ρ 1))) (by show 0 + 0 = _; omega) (by show 0 + (1 * ρ 1 + 0) = _; omega) (hm _ (List.mem_cons_of_mem _ List.mem_cons_self))) (cvm (c := 55) (by decide) (x' := (1 : Int)) (y' := ((ρ 2))) (by show 1 + 0 = _; omega) (by show 0 + (1 * ρ 2 + 0) = _; omega) (hm _ (List.mem_cons_of_mem _ (List.mem_cons_of_mem _ List.mem_cons_self)))) (cvm (c := 55) (by decide) (x' := (6 : Int)) (y' := ((ρ 3))) (by show 6 + 0 = _; omega) (by show 0 + (1 * ρ 3 + 0) = _; omega) (hm _ (List.mem_cons_of_mem _ (List.mem_cons_of_mem _ (List.mem_cons_of_mem _ List.mem_cons_self))))) (by have h := hF _ List.mem_cons_self; have h : 0 ≤ 0 + (1 * ρ 1 + ((-1) * ρ 3 + 0)) := h; omega) (by have h := hF _ (List.mem_cons_of_mem _ List.mem_cons_self); have h : 0 ≤ 0 + (1 * ρ 2 + 0) := h; omega) hG
  obtain ⟨k0, -⟩ := H
  exact ⟨_, List.mem_cons_self, ρ, fun _ _ => rfl, (okM_c (pvp 310 (by show 0 + (1 * ρ 0 + 0) = _; omega) (by show 0 + (1 * ρ 0 + 0) = _; omega) k0) okM_n), okB_n, okF_n⟩
-- glf0
theorem cr_795 (M : pM) (s0 s1 s2 s3 : Int) (b0 : 1 ≤ s0 ∧ s0 ≤ 3) (b1 : 0 ≤ s1 ∧ s1 ≤ 35640) (b2 : 0 ≤ s2 ∧ s2 ≤ 9) (b3 : 0 ≤ s3 ∧ s3 ≤ 1000000) (m0 : HP 310 (0 : Int) (s0) M) (m1 : HP 320 (0 : Int) (s1) M) (m2 : (0 ≤ (1 : Int) ∧ M 55 (1 : Int).toNat = (s2))) (m3 : (0 ≤ (6 : Int) ∧ M 55 (6 : Int).toNat = (s3))) (f0 : 0 ≤ ((-1) * s1 + s3 - 1)) (f1 : 0 ≤ ((-1) * s2)) (f2 : 0 ≤ (s2)) (hG : gI M) : (HP 340 (s1) (s0) M ∧ True) := by
  obtain ⟨j0, T0, t1, t2, t3, t4, t5, t6, t7⟩ := Eq.mp hp_310 m0
  obtain ⟨j1, x1, x2, x3⟩ := Eq.mp hp_320 m1
  have en : hnC M = s2.toNat := hnC_v (by omega) (by have h : M 55 1 = s2 := m2.2; rw [h]; omega)
  have eb : M 55 6 = s3 := m3.2
  have ej : j0 = 0 := by omega
  subst ej
  have en2 : hnC M = 0 := by rw [en]; omega
  rw [en2] at t7
  obtain ⟨k1, k2⟩ := hj_lf t7 x3 (by rw [eb]; omega)
  exact ⟨Eq.mpr hp_340 ⟨T0, t1, t2, by omega, by rw [en2]; exact fun o ho => by rw [hrow_lt ho (by decide)]; exact t6 o ho, by rw [en2]; exact (hco_c (fun o ho => hrow_lt ho (by decide))).trans k1, by rw [en2]; exact fun t ht hl => k2 t ht (hlx_c hl (fun o ho => hrow_lt ho (by decide)))⟩, trivial⟩
theorem rul_795 : Rul r_795 := by
  refine ⟨fun _ ρ M hm hB hF hG => ?_, fun gi gv hg => (by cases hg)⟩
  have H := cr_795 M (ρ 0) (ρ 1) (ρ 2) (ρ 3) (hB _ List.mem_cons_self) (hB _ (List.mem_cons_of_mem _ List.mem_cons_self)) (hB _ (List.mem_cons_of_mem _ (List.mem_cons_of_mem _ List.mem_cons_self))) (hB _ (List.mem_cons_of_mem _ (List.mem_cons_of_mem _ (List.mem_cons_of_mem _ List.mem_cons_self)))) (cvp 310 (x' := (0 : Int)) (y' := ((ρ 0))) (by show 0 + 0 = _; omega) (by show 0 + (1 * ρ 0 + 0) = _; omega) (hm _ List.mem_cons_self)) (cvp 320 (x' := (0 : Int)) (y' := ((ρ 1))) (by show 0 + 0 = _; omega) (by show 0 + (1 * ρ 1 + 0) = _; omega) (hm _ (List.mem_cons_of_mem _ List.mem_cons_self))) (cvm (c := 55) (by decide) (x' := (1 : Int)) (y' := ((ρ 2))) (by show 1 + 0 = _; omega) (by show 0 + (1 * ρ 2 + 0) = _; omega) (hm _ (List.mem_cons_of_mem _ (List.mem_cons_of_mem _ List.mem_cons_self)))) (cvm (c := 55) (by decide) (x' := (6 : Int)) (y' := ((ρ 3))) (by show 6 + 0 = _; omega) (by show 0 + (1 * ρ 3 + 0) = _; omega) (hm _ (List.mem_cons_of_mem _ (List.mem_cons_of_mem _ (List.mem_cons_of_mem _ List.mem_cons_self))))) (by have h := hF _ List.mem_cons_self; have h : 0 ≤ (-1) + ((-1) * ρ 1 + (1 * ρ 3 + 0)) := h; omega) (by have h := hF _ (List.mem_cons_of_mem _ List.mem_cons_self); have h : 0 ≤ 0 + ((-1) * ρ 2 + 0) := h; omega) (by have h := hF _ (List.mem_cons_of_mem _ (List.mem_cons_of_mem _ List.mem_cons_self)); have h : 0 ≤ 0 + (1 * ρ 2 + 0) := h; omega) hG
  obtain ⟨k0, -⟩ := H
  exact ⟨_, List.mem_cons_self, ρ, fun _ _ => rfl, (okM_c (pvp 340 (by show 0 + (1 * ρ 1 + 0) = _; omega) (by show 0 + (1 * ρ 0 + 0) = _; omega) k0) okM_n), okB_n, okF_n⟩
-- glx0
theorem cr_796 (M : pM) (s0 s1 s2 s3 : Int) (b0 : 1 ≤ s0 ∧ s0 ≤ 3) (b1 : 0 ≤ s1 ∧ s1 ≤ 35640) (b2 : 0 ≤ s2 ∧ s2 ≤ 9) (b3 : 0 ≤ s3 ∧ s3 ≤ 1000000) (m0 : HP 340 (s1) (s0) M) (m1 : HP 341 (s2) (0 : Int) M) (m2 : (0 ≤ (1 : Int) ∧ M 55 (1 : Int).toNat = (s2))) (m3 : (0 ≤ (6 : Int) ∧ M 55 (6 : Int).toNat = (s3))) (f0 : 0 ≤ ((-1) * s2)) (f1 : 0 ≤ (s2)) (f2 : 0 ≤ (s1 + (-1) * s3)) (f3 : 0 ≤ ((-1) * s1 + s3)) (hG : gI M) : (HP 310 (s0) (s0) M ∧ True) := by
  obtain ⟨T0, q1, q2, q3, q4, q5, q6⟩ := Eq.mp hp_340 m0
  have c2 := Eq.mp hp_341 m1
  have en : hnC M = s2.toNat := hnC_v (by omega) (by have h : M 55 1 = s2 := m2.2; rw [h]; omega)
  have eb : M 55 6 = s3 := m3.2
  have en2 : hnC M = 0 := by rw [en]; omega
  rw [en2] at q4 q5 q6
  exact ⟨Eq.mpr hp_310 ⟨T0, T0, q1, q2, Nat.le_refl _, by omega, by omega, fun o ho => by rw [← hrow_lt (k := 9) ho (by decide)]; exact q4 o ho, by
      rw [en2]
      exact hj_le (q := hrow 59 9 M) (fun o ho => hrow_lt ho (by decide)) (fun o ho => hrow_e (by omega) (c2 o (by omega) (by omega))) q4 (q5.trans (by rw [eb]; omega)) (fun t ht hl => by have := q6 t ht hl; rw [eb]; omega)⟩, trivial⟩
theorem rul_796 : Rul r_796 := by
  refine ⟨fun _ ρ M hm hB hF hG => ?_, fun gi gv hg => (by cases hg)⟩
  have H := cr_796 M (ρ 0) (ρ 1) (ρ 2) (ρ 3) (hB _ List.mem_cons_self) (hB _ (List.mem_cons_of_mem _ List.mem_cons_self)) (hB _ (List.mem_cons_of_mem _ (List.mem_cons_of_mem _ List.mem_cons_self))) (hB _ (List.mem_cons_of_mem _ (List.mem_cons_of_mem _ (List.mem_cons_of_mem _ List.mem_cons_self)))) (cvp 340 (x' := ((ρ 1))) (y' := ((ρ 0))) (by show 0 + (1 * ρ 1 + 0) = _; omega) (by show 0 + (1 * ρ 0 + 0) = _; omega) (hm _ List.mem_cons_self)) (cvp 341 (x' := ((ρ 2))) (y' := (0 : Int)) (by show 0 + (1 * ρ 2 + 0) = _; omega) (by show 0 + 0 = _; omega) (hm _ (List.mem_cons_of_mem _ List.mem_cons_self))) (cvm (c := 55) (by decide) (x' := (1 : Int)) (y' := ((ρ 2))) (by show 1 + 0 = _; omega) (by show 0 + (1 * ρ 2 + 0) = _; omega) (hm _ (List.mem_cons_of_mem _ (List.mem_cons_of_mem _ List.mem_cons_self)))) (cvm (c := 55) (by decide) (x' := (6 : Int)) (y' := ((ρ 3))) (by show 6 + 0 = _; omega) (by show 0 + (1 * ρ 3 + 0) = _; omega) (hm _ (List.mem_cons_of_mem _ (List.mem_cons_of_mem _ (List.mem_cons_of_mem _ List.mem_cons_self))))) (by have h := hF _ List.mem_cons_self; have h : 0 ≤ 0 + ((-1) * ρ 2 + 0) := h; omega) (by have h := hF _ (List.mem_cons_of_mem _ List.mem_cons_self); have h : 0 ≤ 0 + (1 * ρ 2 + 0) := h; omega) (by have h := hF _ (List.mem_cons_of_mem _ (List.mem_cons_of_mem _ List.mem_cons_self)); have h : 0 ≤ 0 + (1 * ρ 1 + ((-1) * ρ 3 + 0)) := h; omega) (by have h := hF _ (List.mem_cons_of_mem _ (List.mem_cons_of_mem _ (List.mem_cons_of_mem _ List.mem_cons_self))); have h : 0 ≤ 0 + ((-1) * ρ 1 + (1 * ρ 3 + 0)) := h; omega) hG
  obtain ⟨k0, -⟩ := H
  exact ⟨_, List.mem_cons_self, ρ, fun _ _ => rfl, (okM_c (pvp 310 (by show 0 + (1 * ρ 0 + 0) = _; omega) (by show 0 + (1 * ρ 0 + 0) = _; omega) k0) okM_n), okB_n, okF_n⟩
-- gh0
theorem cr_797 (M : pM) (s0 s1 s2 : Int) (b0 : 0 ≤ s0 ∧ s0 ≤ 2) (b1 : 1 ≤ s1 ∧ s1 ≤ 3) (b2 : 0 ≤ s2 ∧ s2 ≤ 9) (m0 : HP 310 (s0) (s1) M) (m1 : (0 ≤ (0 : Int) ∧ M 59 (0 : Int).toNat = (s0))) (m2 : (0 ≤ (1 : Int) ∧ M 55 (1 : Int).toNat = (s2))) (f0 : 0 ≤ ((-1) * s0 + s1 - 1)) (f1 : 0 ≤ (s2 - 1)) (hG : gI M) : (HP 311 (0 : Int) (s1) M ∧ True) := by
  obtain ⟨j0, T0, t1, t2, t3, t4, t5, t6, t7⟩ := Eq.mp hp_310 m0
  have hj : hrow 59 1 M 0 = s0.toNat := hrow_v (by decide) (by have h : M 59 0 = s0 := m1.2; rw [h]; omega)
  have hp : ∀ o, o < 0 → hrow 59 1 M o = hrow 59 0 M o := fun o ho => hrow_lt ho (by decide)
  have en : hnC M = s2.toNat := hnC_v (by omega) (by have h : M 55 1 = s2 := m2.2; rw [h]; omega)
  have ej : j0 = s0.toNat := by omega
  subst ej
  exact ⟨Eq.mpr hp_311 ⟨0, T0, t1, t2, by omega, by omega, by omega, fun o ho => by
      by_cases e : o = 0
      · rw [e, hj]; omega
      · rw [hp o (by omega)]; exact t6 o (by omega), hj_dn t1 hp hj (by omega) t7⟩, trivial⟩
theorem rul_797 : Rul r_797 := by
  refine ⟨fun _ ρ M hm hB hF hG => ?_, fun gi gv hg => (by cases hg)⟩
  have H := cr_797 M (ρ 0) (ρ 1) (ρ 2) (hB _ List.mem_cons_self) (hB _ (List.mem_cons_of_mem _ List.mem_cons_self)) (hB _ (List.mem_cons_of_mem _ (List.mem_cons_of_mem _ List.mem_cons_self))) (cvp 310 (x' := ((ρ 0))) (y' := ((ρ 1))) (by show 0 + (1 * ρ 0 + 0) = _; omega) (by show 0 + (1 * ρ 1 + 0) = _; omega) (hm _ List.mem_cons_self)) (cvm (c := 59) (by decide) (x' := (0 : Int)) (y' := ((ρ 0))) (by show 0 + 0 = _; omega) (by show 0 + (1 * ρ 0 + 0) = _; omega) (hm _ (List.mem_cons_of_mem _ List.mem_cons_self))) (cvm (c := 55) (by decide) (x' := (1 : Int)) (y' := ((ρ 2))) (by show 1 + 0 = _; omega) (by show 0 + (1 * ρ 2 + 0) = _; omega) (hm _ (List.mem_cons_of_mem _ (List.mem_cons_of_mem _ List.mem_cons_self)))) (by have h := hF _ List.mem_cons_self; have h : 0 ≤ (-1) + ((-1) * ρ 0 + (1 * ρ 1 + 0)) := h; omega) (by have h := hF _ (List.mem_cons_of_mem _ List.mem_cons_self); have h : 0 ≤ (-1) + (1 * ρ 2 + 0) := h; omega) hG
  obtain ⟨k0, -⟩ := H
  exact ⟨_, List.mem_cons_self, ρ, fun _ _ => rfl, (okM_c (pvp 311 (by show 0 + 0 = _; omega) (by show 0 + (1 * ρ 1 + 0) = _; omega) k0) okM_n), okB_n, okF_n⟩
-- gld0
theorem cr_798 (M : pM) (s0 s1 s2 s3 : Int) (b0 : 0 ≤ s0 ∧ s0 ≤ 2) (b1 : (-2147483648) ≤ s1 ∧ s1 ≤ 2147483647) (b2 : 0 ≤ s2 ∧ s2 ≤ 3) (b3 : 0 ≤ s3 ∧ s3 ≤ 35640) (m0 : HP 330 (0 : Int) (0 : Int) M) (m1 : (0 ≤ (s0) ∧ M 58 (s0).toNat = (s1))) (m2 : HP 320 (s2) (s3) M) (hG : gI M) : (0 ≤ (s1) ∧ 0 ≤ ((-1) * s1 + s3) ∧ True) := by
  obtain ⟨j1, x1, x2, x3⟩ := Eq.mp hp_320 m2
  have k1 := (Eq.mp hp_330 m0) s0.toNat (by omega)
  rw [m1.2] at k1
  have k2 := hps_0 (t := (hrow 59 0 M)) (a := s0.toNat) (hmC_0 hG) 0
  have k3 := x3.1 s0.toNat (by omega)
  exact ⟨by omega, by omega, trivial⟩
theorem rul_798 : Rul r_798 := by
  refine ⟨fun _ ρ M hm hB hF hG => ?_, fun gi gv hg => (by cases hg)⟩
  have H := cr_798 M (ρ 0) (ρ 1) (ρ 2) (ρ 3) (hB _ List.mem_cons_self) (hB _ (List.mem_cons_of_mem _ List.mem_cons_self)) (hB _ (List.mem_cons_of_mem _ (List.mem_cons_of_mem _ List.mem_cons_self))) (hB _ (List.mem_cons_of_mem _ (List.mem_cons_of_mem _ (List.mem_cons_of_mem _ List.mem_cons_self)))) (cvp 330 (x' := (0 : Int)) (y' := (0 : Int)) (by show 0 + 0 = _; omega) (by show 0 + 0 = _; omega) (hm _ List.mem_cons_self)) (cvm (c := 58) (by decide) (x' := ((ρ 0))) (y' := ((ρ 1))) (by show 0 + (1 * ρ 0 + 0) = _; omega) (by show 0 + (1 * ρ 1 + 0) = _; omega) (hm _ (List.mem_cons_of_mem _ List.mem_cons_self))) (cvp 320 (x' := ((ρ 2))) (y' := ((ρ 3))) (by show 0 + (1 * ρ 2 + 0) = _; omega) (by show 0 + (1 * ρ 3 + 0) = _; omega) (hm _ (List.mem_cons_of_mem _ (List.mem_cons_of_mem _ List.mem_cons_self)))) hG
  obtain ⟨f0, f1, -⟩ := H
  exact ⟨_, List.mem_cons_self, ρ, fun _ _ => rfl, okM_n, okB_n, (okF_c (by show 0 ≤ 0 + (1 * ρ 1 + 0); omega) (okF_c (by show 0 ≤ 0 + ((-1) * ρ 1 + (1 * ρ 3 + 0)); omega) okF_n))⟩
-- gl0
theorem cr_799 (M : pM) (s0 s1 s2 s3 : Int) (b0 : 0 ≤ s0 ∧ s0 ≤ 2) (b1 : 0 ≤ s1 ∧ s1 ≤ 63) (b2 : 0 ≤ s2 ∧ s2 ≤ 1980) (b3 : 0 ≤ s3 ∧ s3 ≤ 35640) (m0 : HP 330 (0 : Int) (0 : Int) M) (m1 : (0 ≤ (s0) ∧ M 58 (s0).toNat = (s3))) (m2 : (0 ≤ (0 : Int) ∧ M 59 (0 : Int).toNat = (s0))) (m3 : (0 ≤ (0 : Int) ∧ M 56 (0 : Int).toNat = (s1))) (m4 : (0 ≤ (s1) ∧ M 57 (s1).toNat = (s2))) (hG : gI M) : (HP 331 (0 : Int) (0 : Int) (st M 58 (s0).toNat (2 * s2 + s3)) ∧ True) := by
  have hj : hrow 59 1 M 0 = s0.toNat := hrow_v (by decide) (by have h : M 59 0 = s0 := m2.2; rw [h]; omega)
  have hp : ∀ o, o < 0 → hrow 59 1 M o = hrow 59 0 M o := fun o ho => hrow_lt ho (by decide)
  have hz : 2 * s2 = hmC M 0 := (hmC_v (o := 0) (c := s1.toNat) (by decide) (by omega) (by have h : M 56 0 = s1 := m3.2; rw [h]; omega) m4.2).symm
  have hl := Eq.mp hp_330 m0
  refine ⟨Eq.mpr hp_331 (fun a ha => ?_), trivial⟩
  rw [hmC_st (by decide) (by decide), hrow_st (by decide)]
  exact ld_u (R := fun a => M 58 a) (R' := fun a => st M 58 (s0).toNat (2 * s2 + s3) 58 a) hp hj hl (fun a ha => by
      show st M 58 (s0).toNat (2 * s2 + s3) 58 a = if a = s0.toNat then M 58 s0.toNat + 2 * s2 else M 58 a
      rw [hst_v]
      by_cases e : a = s0.toNat
      · rw [if_pos e, if_pos e, m1.2]; omega
      · rw [if_neg e, if_neg e]) hz (by omega) a ha
theorem rul_799 : Rul r_799 := by
  refine ⟨fun h => (by cases h), fun gi gv hg ρ M hm hB hF hG => ?_⟩
  obtain ⟨g1, g2⟩ := List.cons.inj (show ([aI ((0 : Int), ([(0, 1)] : List (Nat × Int))), aI ((0 : Int), ([(2, 2), (3, 1)] : List (Nat × Int)))] : List av) = [.inl gi, .inl gv] from hg)
  obtain ⟨g2, -⟩ := List.cons.inj g2
  cases g1
  cases g2
  have ei : ev ρ ((0 : Int), ([(0, 1)] : List (Nat × Int))) = ((ρ 0)) := by show 0 + (1 * ρ 0 + 0) = _; omega
  have ew : ev ρ ((0 : Int), ([(2, 2), (3, 1)] : List (Nat × Int))) = (2 * (ρ 2) + (ρ 3)) := by show 0 + (2 * ρ 2 + (1 * ρ 3 + 0)) = _; omega
  rw [show (st M (ctj r_799) (ev ρ ((0 : Int), ([(0, 1)] : List (Nat × Int)))).toNat (ev ρ ((0 : Int), ([(2, 2), (3, 1)] : List (Nat × Int))))) = (st M 58 ((ρ 0)).toNat (2 * (ρ 2) + (ρ 3))) from by rw [ei, ew]; rfl]
  have H := cr_799 M (ρ 0) (ρ 1) (ρ 2) (ρ 3) (hB _ List.mem_cons_self) (hB _ (List.mem_cons_of_mem _ List.mem_cons_self)) (hB _ (List.mem_cons_of_mem _ (List.mem_cons_of_mem _ List.mem_cons_self))) (hB _ (List.mem_cons_of_mem _ (List.mem_cons_of_mem _ (List.mem_cons_of_mem _ List.mem_cons_self)))) (cvp 330 (x' := (0 : Int)) (y' := (0 : Int)) (by show 0 + 0 = _; omega) (by show 0 + 0 = _; omega) (hm _ List.mem_cons_self)) (cvm (c := 58) (by decide) (x' := ((ρ 0))) (y' := ((ρ 3))) (by show 0 + (1 * ρ 0 + 0) = _; omega) (by show 0 + (1 * ρ 3 + 0) = _; omega) (hm _ (List.mem_cons_of_mem _ List.mem_cons_self))) (cvm (c := 59) (by decide) (x' := (0 : Int)) (y' := ((ρ 0))) (by show 0 + 0 = _; omega) (by show 0 + (1 * ρ 0 + 0) = _; omega) (hm _ (List.mem_cons_of_mem _ (List.mem_cons_of_mem _ List.mem_cons_self)))) (cvm (c := 56) (by decide) (x' := (0 : Int)) (y' := ((ρ 1))) (by show 0 + 0 = _; omega) (by show 0 + (1 * ρ 1 + 0) = _; omega) (hm _ (List.mem_cons_of_mem _ (List.mem_cons_of_mem _ (List.mem_cons_of_mem _ List.mem_cons_self))))) (cvm (c := 57) (by decide) (x' := ((ρ 1))) (y' := ((ρ 2))) (by show 0 + (1 * ρ 1 + 0) = _; omega) (by show 0 + (1 * ρ 2 + 0) = _; omega) (hm _ (List.mem_cons_of_mem _ (List.mem_cons_of_mem _ (List.mem_cons_of_mem _ (List.mem_cons_of_mem _ List.mem_cons_self)))))) hG
  obtain ⟨k0, -⟩ := H
  exact ⟨_, List.mem_cons_self, ρ, fun _ _ => rfl, (okM_c (pvp 331 (by show 0 + 0 = _; omega) (by show 0 + 0 = _; omega) k0) okM_n), okB_n, okF_n⟩
