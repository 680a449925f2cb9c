-- leaf0
theorem cr_0 (M : pM) (s0 s1 s2 : Int) (b0 : 0 ≤ s0 ∧ s0 ≤ 298) (b1 : 97 ≤ s1 ∧ s1 ≤ 122) (b2 : 0 ≤ s2 ∧ s2 ≤ 59) (m0 : HP 2 (s0) (s2) M) (hG : gI M) : (HP 2 (s0 + 1) (s2 + 1) (st M 108 (s0).toNat (s1)) ∧ True) := by
  obtain ⟨h1, h2, h3⟩ := m0
  have e := hgt_w (v := s1) h3
  rw [show 0 + s0.toNat = s0.toNat by omega] at e
  refine ⟨⟨by omega, by omega, ?_⟩, trivial⟩
  rw [show (s0 + 1).toNat = s0.toNat + 1 by omega, e]
  unfold hg1
  rw [if_neg (by omega), if_pos ⟨by omega, by omega⟩, if_pos (by omega)]
theorem rul_0 : Rul r_0 := by
  refine ⟨fun h => (by cases h), fun gi gv hg ρ M hm hB hF hG => ?_⟩
  obtain ⟨g1, g2⟩ := List.cons.inj (show ([aI ((0 : Int), ([(0, 1)] : List (Nat × Int))), aI ((0 : Int), ([(1, 1)] : List (Nat × Int)))] : List av) = [.inl gi, .inl gv] from hg)
  obtain ⟨g2, -⟩ := List.cons.inj g2
  cases g1
  cases g2
  have ei : ev ρ ((0 : Int), ([(0, 1)] : List (Nat × Int))) = ((ρ 0)) := by show 0 + (1 * ρ 0 + 0) = _; omega
  have ew : ev ρ ((0 : Int), ([(1, 1)] : List (Nat × Int))) = ((ρ 1)) := by show 0 + (1 * ρ 1 + 0) = _; omega
  rw [show (st M (ctj r_0) (ev ρ ((0 : Int), ([(0, 1)] : List (Nat × Int)))).toNat (ev ρ ((0 : Int), ([(1, 1)] : List (Nat × Int))))) = (st M 108 ((ρ 0)).toNat ((ρ 1))) from by rw [ei, ew]; rfl]
  have H := cr_0 M (ρ 0) (ρ 1) (ρ 2) (hB _ List.mem_cons_self) (hB _ (List.mem_cons_of_mem _ List.mem_cons_self)) (hB _ (List.mem_cons_of_mem _ (List.mem_cons_of_mem _ List.mem_cons_self))) (cvp 2 (x' := ((ρ 0))) (y' := ((ρ 2))) (by show 0 + (1 * ρ 0 + 0) = _; omega) (by show 0 + (1 * ρ 2 + 0) = _; omega) (hm _ List.mem_cons_self)) hG
  obtain ⟨k0, -⟩ := H
  exact ⟨_, List.mem_cons_self, ρ, fun _ _ => rfl, (okM_c (pvp 2 (by show 1 + (1 * ρ 0 + 0) = _; omega) (by show 1 + (1 * ρ 2 + 0) = _; omega) k0) okM_n), okB_n, okF_n⟩
-- not0
theorem cr_1 (M : pM) (s0 s1 s2 : Int) (b0 : 0 ≤ s0 ∧ s0 ≤ 298) (b1 : 126 ≤ s1 ∧ s1 ≤ 126) (b2 : 1 ≤ s2 ∧ s2 ≤ 60) (m0 : HP 2 (s0) (s2) M) (hG : gI M) : (HP 2 (s0 + 1) (s2) (st M 108 (s0).toNat (s1)) ∧ True) := by
  obtain ⟨h1, h2, h3⟩ := m0
  have e := hgt_w (v := s1) h3
  rw [show 0 + s0.toNat = s0.toNat by omega] at e
  refine ⟨⟨by omega, by omega, ?_⟩, trivial⟩
  rw [show (s0 + 1).toNat = s0.toNat + 1 by omega, e]
  unfold hg1
  rw [if_pos (by omega), if_pos (by omega)]
theorem rul_1 : Rul r_1 := by
  refine ⟨fun h => (by cases h), fun gi gv hg ρ M hm hB hF hG => ?_⟩
  obtain ⟨g1, g2⟩ := List.cons.inj (show ([aI ((0 : Int), ([(0, 1)] : List (Nat × Int))), aI ((0 : Int), ([(1, 1)] : List (Nat × Int)))] : List av) = [.inl gi, .inl gv] from hg)
  obtain ⟨g2, -⟩ := List.cons.inj g2
  cases g1
  cases g2
  have ei : ev ρ ((0 : Int), ([(0, 1)] : List (Nat × Int))) = ((ρ 0)) := by show 0 + (1 * ρ 0 + 0) = _; omega
  have ew : ev ρ ((0 : Int), ([(1, 1)] : List (Nat × Int))) = ((ρ 1)) := by show 0 + (1 * ρ 1 + 0) = _; omega
  rw [show (st M (ctj r_1) (ev ρ ((0 : Int), ([(0, 1)] : List (Nat × Int)))).toNat (ev ρ ((0 : Int), ([(1, 1)] : List (Nat × Int))))) = (st M 108 ((ρ 0)).toNat ((ρ 1))) from by rw [ei, ew]; rfl]
  have H := cr_1 M (ρ 0) (ρ 1) (ρ 2) (hB _ List.mem_cons_self) (hB _ (List.mem_cons_of_mem _ List.mem_cons_self)) (hB _ (List.mem_cons_of_mem _ (List.mem_cons_of_mem _ List.mem_cons_self))) (cvp 2 (x' := ((ρ 0))) (y' := ((ρ 2))) (by show 0 + (1 * ρ 0 + 0) = _; omega) (by show 0 + (1 * ρ 2 + 0) = _; omega) (hm _ List.mem_cons_self)) hG
  obtain ⟨k0, -⟩ := H
  exact ⟨_, List.mem_cons_self, ρ, fun _ _ => rfl, (okM_c (pvp 2 (by show 1 + (1 * ρ 0 + 0) = _; omega) (by show 0 + (1 * ρ 2 + 0) = _; omega) k0) okM_n), okB_n, okF_n⟩
-- sign0
theorem cr_2 (M : pM) (s0 s1 s2 : Int) (b0 : 0 ≤ s0 ∧ s0 ≤ 298) (b1 : 0 ≤ s1 ∧ s1 ≤ 96) (b2 : 2 ≤ s2 ∧ s2 ≤ 60) (m0 : HP 2 (s0) (s2) M) (hG : gI M) : (HP 2 (s0 + 1) (s2 - 1) (st M 108 (s0).toNat (s1)) ∧ True) := by
  obtain ⟨h1, h2, h3⟩ := m0
  have e := hgt_w (v := s1) h3
  rw [show 0 + s0.toNat = s0.toNat by omega] at e
  refine ⟨⟨by omega, by omega, ?_⟩, trivial⟩
  rw [show (s0 + 1).toNat = s0.toNat + 1 by omega, e]
  unfold hg1
  rw [if_neg (by omega), if_neg (by omega), if_pos (by omega)]
theorem rul_2 : Rul r_2 := by
  refine ⟨fun h => (by cases h), fun gi gv hg ρ M hm hB hF hG => ?_⟩
  obtain ⟨g1, g2⟩ := List.cons.inj (show ([aI ((0 : Int), ([(0, 1)] : List (Nat × Int))), aI ((0 : Int), ([(1, 1)] : List (Nat × Int)))] : List av) = [.inl gi, .inl gv] from hg)
  obtain ⟨g2, -⟩ := List.cons.inj g2
  cases g1
  cases g2
  have ei : ev ρ ((0 : Int), ([(0, 1)] : List (Nat × Int))) = ((ρ 0)) := by show 0 + (1 * ρ 0 + 0) = _; omega
  have ew : ev ρ ((0 : Int), ([(1, 1)] : List (Nat × Int))) = ((ρ 1)) := by show 0 + (1 * ρ 1 + 0) = _; omega
  rw [show (st M (ctj r_2) (ev ρ ((0 : Int), ([(0, 1)] : List (Nat × Int)))).toNat (ev ρ ((0 : Int), ([(1, 1)] : List (Nat × Int))))) = (st M 108 ((ρ 0)).toNat ((ρ 1))) from by rw [ei, ew]; rfl]
  have H := cr_2 M (ρ 0) (ρ 1) (ρ 2) (hB _ List.mem_cons_self) (hB _ (List.mem_cons_of_mem _ List.mem_cons_self)) (hB _ (List.mem_cons_of_mem _ (List.mem_cons_of_mem _ List.mem_cons_self))) (cvp 2 (x' := ((ρ 0))) (y' := ((ρ 2))) (by show 0 + (1 * ρ 0 + 0) = _; omega) (by show 0 + (1 * ρ 2 + 0) = _; omega) (hm _ List.mem_cons_self)) hG
  obtain ⟨k0, -⟩ := H
  exact ⟨_, List.mem_cons_self, ρ, fun _ _ => rfl, (okM_c (pvp 2 (by show 1 + (1 * ρ 0 + 0) = _; omega) (by show (-1) + (1 * ρ 2 + 0) = _; omega) k0) okM_n), okB_n, okF_n⟩
-- bar0
theorem cr_3 (M : pM) (s0 s1 s2 : Int) (b0 : 0 ≤ s0 ∧ s0 ≤ 298) (b1 : 124 ≤ s1 ∧ s1 ≤ 124) (b2 : 2 ≤ s2 ∧ s2 ≤ 60) (m0 : HP 2 (s0) (s2) M) (hG : gI M) : (HP 2 (s0 + 1) (s2 - 1) (st M 108 (s0).toNat (s1)) ∧ True) := by
  obtain ⟨h1, h2, h3⟩ := m0
  have e := hgt_w (v := s1) h3
  rw [show 0 + s0.toNat = s0.toNat by omega] at e
  refine ⟨⟨by omega, by omega, ?_⟩, trivial⟩
  rw [show (s0 + 1).toNat = s0.toNat + 1 by omega, e]
  unfold hg1
  rw [if_neg (by omega), if_neg (by omega), if_pos (by omega)]
theorem rul_3 : Rul r_3 := by
  refine ⟨fun h => (by cases h), fun gi gv hg ρ M hm hB hF hG => ?_⟩
  obtain ⟨g1, g2⟩ := List.cons.inj (show ([aI ((0 : Int), ([(0, 1)] : List (Nat × Int))), aI ((0 : Int), ([(1, 1)] : List (Nat × Int)))] : List av) = [.inl gi, .inl gv] from hg)
  obtain ⟨g2, -⟩ := List.cons.inj g2
  cases g1
  cases g2
  have ei : ev ρ ((0 : Int), ([(0, 1)] : List (Nat × Int))) = ((ρ 0)) := by show 0 + (1 * ρ 0 + 0) = _; omega
  have ew : ev ρ ((0 : Int), ([(1, 1)] : List (Nat × Int))) = ((ρ 1)) := by show 0 + (1 * ρ 1 + 0) = _; omega
  rw [show (st M (ctj r_3) (ev ρ ((0 : Int), ([(0, 1)] : List (Nat × Int)))).toNat (ev ρ ((0 : Int), ([(1, 1)] : List (Nat × Int))))) = (st M 108 ((ρ 0)).toNat ((ρ 1))) from by rw [ei, ew]; rfl]
  have H := cr_3 M (ρ 0) (ρ 1) (ρ 2) (hB _ List.mem_cons_self) (hB _ (List.mem_cons_of_mem _ List.mem_cons_self)) (hB _ (List.mem_cons_of_mem _ (List.mem_cons_of_mem _ List.mem_cons_self))) (cvp 2 (x' := ((ρ 0))) (y' := ((ρ 2))) (by show 0 + (1 * ρ 0 + 0) = _; omega) (by show 0 + (1 * ρ 2 + 0) = _; omega) (hm _ List.mem_cons_self)) hG
  obtain ⟨k0, -⟩ := H
  exact ⟨_, List.mem_cons_self, ρ, fun _ _ => rfl, (okM_c (pvp 2 (by show 1 + (1 * ρ 0 + 0) = _; omega) (by show (-1) + (1 * ρ 2 + 0) = _; omega) k0) okM_n), okB_n, okF_n⟩
-- ch0
theorem cr_4 (M : pM)  (hG : gI M) : (HP 2 (0 : Int) (0 : Int) M ∧ True) := by
  exact ⟨⟨by omega, by omega, rfl⟩, trivial⟩
theorem rul_4 : Rul r_4 := by
  refine ⟨fun _ ρ M hm hB hF hG => ?_, fun gi gv hg => (by cases hg)⟩
  have H := cr_4 M hG
  obtain ⟨k0, -⟩ := H
  exact ⟨_, List.mem_cons_self, ρ, fun _ _ => rfl, (okM_c (pvp 2 (by show 0 + 0 = _; omega) (by show 0 + 0 = _; omega) k0) okM_n), okB_n, okF_n⟩
-- leaf1
theorem cr_5 (M : pM) (s0 s1 s2 : Int) (b0 : 300 ≤ s0 ∧ s0 ≤ 598) (b1 : 97 ≤ s1 ∧ s1 ≤ 122) (b2 : 0 ≤ s2 ∧ s2 ≤ 59) (m0 : HP 3 (s0) (s2) M) (hG : gI M) : (HP 3 (s0 + 1) (s2 + 1) (st M 108 (s0).toNat (s1)) ∧ True) := by
  obtain ⟨h1, h2, h3⟩ := m0
  have e := hgt_w (v := s1) h3
  rw [show 300 + (s0 - 300).toNat = s0.toNat by omega] at e
  refine ⟨⟨by omega, by omega, ?_⟩, trivial⟩
  rw [show (s0 + 1 - 300).toNat = (s0 - 300).toNat + 1 by omega, e]
  unfold hg1
  rw [if_neg (by omega), if_pos ⟨by omega, by omega⟩, if_pos (by omega)]
theorem rul_5 : Rul r_5 := by
  refine ⟨fun h => (by cases h), fun gi gv hg ρ M hm hB hF hG => ?_⟩
  obtain ⟨g1, g2⟩ := List.cons.inj (show ([aI ((0 : Int), ([(0, 1)] : List (Nat × Int))), aI ((0 : Int), ([(1, 1)] : List (Nat × Int)))] : List av) = [.inl gi, .inl gv] from hg)
  obtain ⟨g2, -⟩ := List.cons.inj g2
  cases g1
  cases g2
  have ei : ev ρ ((0 : Int), ([(0, 1)] : List (Nat × Int))) = ((ρ 0)) := by show 0 + (1 * ρ 0 + 0) = _; omega
  have ew : ev ρ ((0 : Int), ([(1, 1)] : List (Nat × Int))) = ((ρ 1)) := by show 0 + (1 * ρ 1 + 0) = _; omega
  rw [show (st M (ctj r_5) (ev ρ ((0 : Int), ([(0, 1)] : List (Nat × Int)))).toNat (ev ρ ((0 : Int), ([(1, 1)] : List (Nat × Int))))) = (st M 108 ((ρ 0)).toNat ((ρ 1))) from by rw [ei, ew]; rfl]
  have H := cr_5 M (ρ 0) (ρ 1) (ρ 2) (hB _ List.mem_cons_self) (hB _ (List.mem_cons_of_mem _ List.mem_cons_self)) (hB _ (List.mem_cons_of_mem _ (List.mem_cons_of_mem _ List.mem_cons_self))) (cvp 3 (x' := ((ρ 0))) (y' := ((ρ 2))) (by show 0 + (1 * ρ 0 + 0) = _; omega) (by show 0 + (1 * ρ 2 + 0) = _; omega) (hm _ List.mem_cons_self)) hG
  obtain ⟨k0, -⟩ := H
  exact ⟨_, List.mem_cons_self, ρ, fun _ _ => rfl, (okM_c (pvp 3 (by show 1 + (1 * ρ 0 + 0) = _; omega) (by show 1 + (1 * ρ 2 + 0) = _; omega) k0) okM_n), okB_n, okF_n⟩
-- not1
theorem cr_6 (M : pM) (s0 s1 s2 : Int) (b0 : 300 ≤ s0 ∧ s0 ≤ 598) (b1 : 126 ≤ s1 ∧ s1 ≤ 126) (b2 : 1 ≤ s2 ∧ s2 ≤ 60) (m0 : HP 3 (s0) (s2) M) (hG : gI M) : (HP 3 (s0 + 1) (s2) (st M 108 (s0).toNat (s1)) ∧ True) := by
  obtain ⟨h1, h2, h3⟩ := m0
  have e := hgt_w (v := s1) h3
  rw [show 300 + (s0 - 300).toNat = s0.toNat by omega] at e
  refine ⟨⟨by omega, by omega, ?_⟩, trivial⟩
  rw [show (s0 + 1 - 300).toNat = (s0 - 300).toNat + 1 by omega, e]
  unfold hg1
  rw [if_pos (by omega), if_pos (by omega)]
theorem rul_6 : Rul r_6 := by
  refine ⟨fun h => (by cases h), fun gi gv hg ρ M hm hB hF hG => ?_⟩
  obtain ⟨g1, g2⟩ := List.cons.inj (show ([aI ((0 : Int), ([(0, 1)] : List (Nat × Int))), aI ((0 : Int), ([(1, 1)] : List (Nat × Int)))] : List av) = [.inl gi, .inl gv] from hg)
  obtain ⟨g2, -⟩ := List.cons.inj g2
  cases g1
  cases g2
  have ei : ev ρ ((0 : Int), ([(0, 1)] : List (Nat × Int))) = ((ρ 0)) := by show 0 + (1 * ρ 0 + 0) = _; omega
  have ew : ev ρ ((0 : Int), ([(1, 1)] : List (Nat × Int))) = ((ρ 1)) := by show 0 + (1 * ρ 1 + 0) = _; omega
  rw [show (st M (ctj r_6) (ev ρ ((0 : Int), ([(0, 1)] : List (Nat × Int)))).toNat (ev ρ ((0 : Int), ([(1, 1)] : List (Nat × Int))))) = (st M 108 ((ρ 0)).toNat ((ρ 1))) from by rw [ei, ew]; rfl]
  have H := cr_6 M (ρ 0) (ρ 1) (ρ 2) (hB _ List.mem_cons_self) (hB _ (List.mem_cons_of_mem _ List.mem_cons_self)) (hB _ (List.mem_cons_of_mem _ (List.mem_cons_of_mem _ List.mem_cons_self))) (cvp 3 (x' := ((ρ 0))) (y' := ((ρ 2))) (by show 0 + (1 * ρ 0 + 0) = _; omega) (by show 0 + (1 * ρ 2 + 0) = _; omega) (hm _ List.mem_cons_self)) hG
  obtain ⟨k0, -⟩ := H
  exact ⟨_, List.mem_cons_self, ρ, fun _ _ => rfl, (okM_c (pvp 3 (by show 1 + (1 * ρ 0 + 0) = _; omega) (by show 0 + (1 * ρ 2 + 0) = _; omega) k0) okM_n), okB_n, okF_n⟩
-- sign1
theorem cr_7 (M : pM) (s0 s1 s2 : Int) (b0 : 300 ≤ s0 ∧ s0 ≤ 598) (b1 : 0 ≤ s1 ∧ s1 ≤ 96) (b2 : 2 ≤ s2 ∧ s2 ≤ 60) (m0 : HP 3 (s0) (s2) M) (hG : gI M) : (HP 3 (s0 + 1) (s2 - 1) (st M 108 (s0).toNat (s1)) ∧ True) := by
  obtain ⟨h1, h2, h3⟩ := m0
  have e := hgt_w (v := s1) h3
  rw [show 300 + (s0 - 300).toNat = s0.toNat by omega] at e
  refine ⟨⟨by omega, by omega, ?_⟩, trivial⟩
  rw [show (s0 + 1 - 300).toNat = (s0 - 300).toNat + 1 by omega, e]
  unfold hg1
  rw [if_neg (by omega), if_neg (by omega), if_pos (by omega)]
theorem rul_7 : Rul r_7 := by
  refine ⟨fun h => (by cases h), fun gi gv hg ρ M hm hB hF hG => ?_⟩
  obtain ⟨g1, g2⟩ := List.cons.inj (show ([aI ((0 : Int), ([(0, 1)] : List (Nat × Int))), aI ((0 : Int), ([(1, 1)] : List (Nat × Int)))] : List av) = [.inl gi, .inl gv] from hg)
  obtain ⟨g2, -⟩ := List.cons.inj g2
  cases g1
  cases g2
  have ei : ev ρ ((0 : Int), ([(0, 1)] : List (Nat × Int))) = ((ρ 0)) := by show 0 + (1 * ρ 0 + 0) = _; omega
  have ew : ev ρ ((0 : Int), ([(1, 1)] : List (Nat × Int))) = ((ρ 1)) := by show 0 + (1 * ρ 1 + 0) = _; omega
  rw [show (st M (ctj r_7) (ev ρ ((0 : Int), ([(0, 1)] : List (Nat × Int)))).toNat (ev ρ ((0 : Int), ([(1, 1)] : List (Nat × Int))))) = (st M 108 ((ρ 0)).toNat ((ρ 1))) from by rw [ei, ew]; rfl]
  have H := cr_7 M (ρ 0) (ρ 1) (ρ 2) (hB _ List.mem_cons_self) (hB _ (List.mem_cons_of_mem _ List.mem_cons_self)) (hB _ (List.mem_cons_of_mem _ (List.mem_cons_of_mem _ List.mem_cons_self))) (cvp 3 (x' := ((ρ 0))) (y' := ((ρ 2))) (by show 0 + (1 * ρ 0 + 0) = _; omega) (by show 0 + (1 * ρ 2 + 0) = _; omega) (hm _ List.mem_cons_self)) hG
  obtain ⟨k0, -⟩ := H
  exact ⟨_, List.mem_cons_self, ρ, fun _ _ => rfl, (okM_c (pvp 3 (by show 1 + (1 * ρ 0 + 0) = _; omega) (by show (-1) + (1 * ρ 2 + 0) = _; omega) k0) okM_n), okB_n, okF_n⟩
-- bar1
theorem cr_8 (M : pM) (s0 s1 s2 : Int) (b0 : 300 ≤ s0 ∧ s0 ≤ 598) (b1 : 124 ≤ s1 ∧ s1 ≤ 124) (b2 : 2 ≤ s2 ∧ s2 ≤ 60) (m0 : HP 3 (s0) (s2) M) (hG : gI M) : (HP 3 (s0 + 1) (s2 - 1) (st M 108 (s0).toNat (s1)) ∧ True) := by
  obtain ⟨h1, h2, h3⟩ := m0
  have e := hgt_w (v := s1) h3
  rw [show 300 + (s0 - 300).toNat = s0.toNat by omega] at e
  refine ⟨⟨by omega, by omega, ?_⟩, trivial⟩
  rw [show (s0 + 1 - 300).toNat = (s0 - 300).toNat + 1 by omega, e]
  unfold hg1
  rw [if_neg (by omega), if_neg (by omega), if_pos (by omega)]
theorem rul_8 : Rul r_8 := by
  refine ⟨fun h => (by cases h), fun gi gv hg ρ M hm hB hF hG => ?_⟩
  obtain ⟨g1, g2⟩ := List.cons.inj (show ([aI ((0 : Int), ([(0, 1)] : List (Nat × Int))), aI ((0 : Int), ([(1, 1)] : List (Nat × Int)))] : List av) = [.inl gi, .inl gv] from hg)
  obtain ⟨g2, -⟩ := List.cons.inj g2
  cases g1
  cases g2
  have ei : ev ρ ((0 : Int), ([(0, 1)] : List (Nat × Int))) = ((ρ 0)) := by show 0 + (1 * ρ 0 + 0) = _; omega
  have ew : ev ρ ((0 : Int), ([(1, 1)] : List (Nat × Int))) = ((ρ 1)) := by show 0 + (1 * ρ 1 + 0) = _; omega
  rw [show (st M (ctj r_8) (ev ρ ((0 : Int), ([(0, 1)] : List (Nat × Int)))).toNat (ev ρ ((0 : Int), ([(1, 1)] : List (Nat × Int))))) = (st M 108 ((ρ 0)).toNat ((ρ 1))) from by rw [ei, ew]; rfl]
  have H := cr_8 M (ρ 0) (ρ 1) (ρ 2) (hB _ List.mem_cons_self) (hB _ (List.mem_cons_of_mem _ List.mem_cons_self)) (hB _ (List.mem_cons_of_mem _ (List.mem_cons_of_mem _ List.mem_cons_self))) (cvp 3 (x' := ((ρ 0))) (y' := ((ρ 2))) (by show 0 + (1 * ρ 0 + 0) = _; omega) (by show 0 + (1 * ρ 2 + 0) = _; omega) (hm _ List.mem_cons_self)) hG
  obtain ⟨k0, -⟩ := H
  exact ⟨_, List.mem_cons_self, ρ, fun _ _ => rfl, (okM_c (pvp 3 (by show 1 + (1 * ρ 0 + 0) = _; omega) (by show (-1) + (1 * ρ 2 + 0) = _; omega) k0) okM_n), okB_n, okF_n⟩
-- ch1
theorem cr_9 (M : pM)  (hG : gI M) : (HP 3 (300 : Int) (0 : Int) M ∧ True) := by
  exact ⟨⟨by omega, by omega, rfl⟩, trivial⟩
theorem rul_9 : Rul r_9 := by
  refine ⟨fun _ ρ M hm hB hF hG => ?_, fun gi gv hg => (by cases hg)⟩
  have H := cr_9 M hG
  obtain ⟨k0, -⟩ := H
  exact ⟨_, List.mem_cons_self, ρ, fun _ _ => rfl, (okM_c (pvp 3 (by show 300 + 0 = _; omega) (by show 0 + 0 = _; omega) k0) okM_n), okB_n, okF_n⟩
-- pb0
theorem cr_10 (M : pM)  (hG : gI M) : (HP 4 (0 : Int) (0 : Int) M ∧ True) := by
  exact ⟨⟨by omega, by omega, rfl⟩, trivial⟩
theorem rul_10 : Rul r_10 := by
  refine ⟨fun _ ρ M hm hB hF hG => ?_, fun gi gv hg => (by cases hg)⟩
  have H := cr_10 M hG
  obtain ⟨k0, -⟩ := H
  exact ⟨_, List.mem_cons_self, ρ, fun _ _ => rfl, (okM_c (pvp 4 (by show 0 + 0 = _; omega) (by show 0 + 0 = _; omega) k0) okM_n), okB_n, okF_n⟩
-- pw
theorem cr_11 (M : pM) (s0 s1 s2 : Int) (b0 : 0 ≤ s0 ∧ s0 ≤ 79) (b1 : 0 ≤ s1 ∧ s1 ≤ 8) (b2 : 0 ≤ s2 ∧ s2 ≤ 60) (m0 : HP 4 (s0) (s2) M) (hG : gI M) : (HP 4 (s0) (s2) (st M 111 (s0).toNat (s1)) ∧ True) := by
  obtain ⟨h1, h2, h3⟩ := m0
  refine ⟨⟨h1, h2, ?_⟩, trivial⟩
  rw [pbc_congr (M := M) (fun i hi => ⟨by unfold st; rw [if_neg (by omega)], by unfold st; rw [if_neg (by omega)]⟩)]
  exact h3
theorem rul_11 : Rul r_11 := by
  refine ⟨fun h => (by cases h), fun gi gv hg ρ M hm hB hF hG => ?_⟩
  obtain ⟨g1, g2⟩ := List.cons.inj (show ([aI ((0 : Int), ([(0, 1)] : List (Nat × Int))), aI ((0 : Int), ([(1, 1)] : List (Nat × Int)))] : List av) = [.inl gi, .inl gv] from hg)
  obtain ⟨g2, -⟩ := List.cons.inj g2
  cases g1
  cases g2
  have ei : ev ρ ((0 : Int), ([(0, 1)] : List (Nat × Int))) = ((ρ 0)) := by show 0 + (1 * ρ 0 + 0) = _; omega
  have ew : ev ρ ((0 : Int), ([(1, 1)] : List (Nat × Int))) = ((ρ 1)) := by show 0 + (1 * ρ 1 + 0) = _; omega
  rw [show (st M (ctj r_11) (ev ρ ((0 : Int), ([(0, 1)] : List (Nat × Int)))).toNat (ev ρ ((0 : Int), ([(1, 1)] : List (Nat × Int))))) = (st M 111 ((ρ 0)).toNat ((ρ 1))) from by rw [ei, ew]; rfl]
  have H := cr_11 M (ρ 0) (ρ 1) (ρ 2) (hB _ List.mem_cons_self) (hB _ (List.mem_cons_of_mem _ List.mem_cons_self)) (hB _ (List.mem_cons_of_mem _ (List.mem_cons_of_mem _ List.mem_cons_self))) (cvp 4 (x' := ((ρ 0))) (y' := ((ρ 2))) (by show 0 + (1 * ρ 0 + 0) = _; omega) (by show 0 + (1 * ρ 2 + 0) = _; omega) (hm _ List.mem_cons_self)) hG
  obtain ⟨k0, -⟩ := H
  exact ⟨_, List.mem_cons_self, ρ, fun _ _ => rfl, (okM_c (pvp 4 (by show 0 + (1 * ρ 0 + 0) = _; omega) (by show 0 + (1 * ρ 2 + 0) = _; omega) k0) okM_n), okB_n, okF_n⟩
-- ps
theorem cr_12 (M : pM) (s0 s1 s2 : Int) (b0 : 0 ≤ s0 ∧ s0 ≤ 79) (b1 : (-2147483648) ≤ s1 ∧ s1 ≤ 2147483647) (b2 : 0 ≤ s2 ∧ s2 ≤ 60) (m0 : HP 4 (s0) (s2) M) (hG : gI M) : (HP 4 (s0) (s2) (st M 112 (s0).toNat (s1)) ∧ True) := by
  obtain ⟨h1, h2, h3⟩ := m0
  refine ⟨⟨h1, h2, ?_⟩, trivial⟩
  rw [pbc_congr (M := M) (fun i hi => ⟨by unfold st; rw [if_neg (by omega)], by unfold st; rw [if_neg (by omega)]⟩)]
  exact h3
theorem rul_12 : Rul r_12 := by
  refine ⟨fun h => (by cases h), fun gi gv hg ρ M hm hB hF hG => ?_⟩
  obtain ⟨g1, g2⟩ := List.cons.inj (show ([aI ((0 : Int), ([(0, 1)] : List (Nat × Int))), aI ((0 : Int), ([(1, 1)] : List (Nat × Int)))] : List av) = [.inl gi, .inl gv] from hg)
  obtain ⟨g2, -⟩ := List.cons.inj g2
  cases g1
  cases g2
  have ei : ev ρ ((0 : Int), ([(0, 1)] : List (Nat × Int))) = ((ρ 0)) := by show 0 + (1 * ρ 0 + 0) = _; omega
  have ew : ev ρ ((0 : Int), ([(1, 1)] : List (Nat × Int))) = ((ρ 1)) := by show 0 + (1 * ρ 1 + 0) = _; omega
  rw [show (st M (ctj r_12) (ev ρ ((0 : Int), ([(0, 1)] : List (Nat × Int)))).toNat (ev ρ ((0 : Int), ([(1, 1)] : List (Nat × Int))))) = (st M 112 ((ρ 0)).toNat ((ρ 1))) from by rw [ei, ew]; rfl]
  have H := cr_12 M (ρ 0) (ρ 1) (ρ 2) (hB _ List.mem_cons_self) (hB _ (List.mem_cons_of_mem _ List.mem_cons_self)) (hB _ (List.mem_cons_of_mem _ (List.mem_cons_of_mem _ List.mem_cons_self))) (cvp 4 (x' := ((ρ 0))) (y' := ((ρ 2))) (by show 0 + (1 * ρ 0 + 0) = _; omega) (by show 0 + (1 * ρ 2 + 0) = _; omega) (hm _ List.mem_cons_self)) hG
  obtain ⟨k0, -⟩ := H
  exact ⟨_, List.mem_cons_self, ρ, fun _ _ => rfl, (okM_c (pvp 4 (by show 0 + (1 * ρ 0 + 0) = _; omega) (by show 0 + (1 * ρ 2 + 0) = _; omega) k0) okM_n), okB_n, okF_n⟩
-- put8
theorem cr_13 (M : pM) (s0 s1 s2 s3 : Int) (b0 : 0 ≤ s0 ∧ s0 ≤ 0) (b1 : 0 ≤ s1 ∧ s1 ≤ 60) (b2 : 8 ≤ s2 ∧ s2 ≤ 8) (b3 : (-2147483648) ≤ s3 ∧ s3 ≤ 2147483647) (m0 : HP 4 (s0) (s1) M) (m1 : (0 ≤ (s0) ∧ M 111 (s0).toNat = (s2))) (m2 : (0 ≤ (s0) ∧ M 112 (s0).toNat = (s3))) (hG : gI M) : (HP 4 (s0 + 1) (s1) M ∧ True) := by
  obtain ⟨h1, h2, h3⟩ := m0
  have e := pbc_s h3
  rw [m1.2, m2.2] at e
  have hz : s1 = 0 := by rw [show s0.toNat = 0 by omega] at h3; exact (Option.some.inj h3).symm
  refine ⟨⟨by omega, by omega, ?_⟩, trivial⟩
  rw [show (s0 + 1).toNat = s0.toNat + 1 by omega, e]
  unfold pb1
  rw [if_pos (by omega), if_pos (by omega), show s1 = 0 by omega]
theorem rul_13 : Rul r_13 := by
  refine ⟨fun _ ρ M hm hB hF hG => ?_, fun gi gv hg => (by cases hg)⟩
  have H := cr_13 M (ρ 0) (ρ 1) (ρ 2) (ρ 3) (hB _ List.mem_cons_self) (hB _ (List.mem_cons_of_mem _ List.mem_cons_self)) (hB _ (List.mem_cons_of_mem _ (List.mem_cons_of_mem _ List.mem_cons_self))) (hB _ (List.mem_cons_of_mem _ (List.mem_cons_of_mem _ (List.mem_cons_of_mem _ List.mem_cons_self)))) (cvp 4 (x' := ((ρ 0))) (y' := ((ρ 1))) (by show 0 + (1 * ρ 0 + 0) = _; omega) (by show 0 + (1 * ρ 1 + 0) = _; omega) (hm _ List.mem_cons_self)) (cvm (c := 111) (by decide) (x' := ((ρ 0))) (y' := ((ρ 2))) (by show 0 + (1 * ρ 0 + 0) = _; omega) (by show 0 + (1 * ρ 2 + 0) = _; omega) (hm _ (List.mem_cons_of_mem _ List.mem_cons_self))) (cvm (c := 112) (by decide) (x' := ((ρ 0))) (y' := ((ρ 3))) (by show 0 + (1 * ρ 0 + 0) = _; omega) (by show 0 + (1 * ρ 3 + 0) = _; omega) (hm _ (List.mem_cons_of_mem _ (List.mem_cons_of_mem _ List.mem_cons_self)))) hG
  obtain ⟨k0, -⟩ := H
  exact ⟨_, List.mem_cons_self, ρ, fun _ _ => rfl, (okM_c (pvp 4 (by show 1 + (1 * ρ 0 + 0) = _; omega) (by show 0 + (1 * ρ 1 + 0) = _; omega) k0) okM_n), okB_n, okF_n⟩
-- put3
theorem cr_14 (M : pM) (s0 s1 s2 s3 : Int) (b0 : 1 ≤ s0 ∧ s0 ≤ 79) (b1 : 0 ≤ s1 ∧ s1 ≤ 60) (b2 : 3 ≤ s2 ∧ s2 ≤ 3) (b3 : 126 ≤ s3 ∧ s3 ≤ 126) (m0 : HP 4 (s0) (s1) M) (m1 : (0 ≤ (s0) ∧ M 111 (s0).toNat = (s2))) (m2 : (0 ≤ (s0) ∧ M 112 (s0).toNat = (s3))) (hG : gI M) : (HP 4 (s0 + 1) (s1) M ∧ True) := by
  obtain ⟨h1, h2, h3⟩ := m0
  have e := pbc_s h3
  rw [m1.2, m2.2] at e
  refine ⟨⟨by omega, by omega, ?_⟩, trivial⟩
  rw [show (s0 + 1).toNat = s0.toNat + 1 by omega, e]
  unfold pb1
  rw [if_neg (by omega), if_pos (by omega), if_pos (by omega)]
theorem rul_14 : Rul r_14 := by
  refine ⟨fun _ ρ M hm hB hF hG => ?_, fun gi gv hg => (by cases hg)⟩
  have H := cr_14 M (ρ 0) (ρ 1) (ρ 2) (ρ 3) (hB _ List.mem_cons_self) (hB _ (List.mem_cons_of_mem _ List.mem_cons_self)) (hB _ (List.mem_cons_of_mem _ (List.mem_cons_of_mem _ List.mem_cons_self))) (hB _ (List.mem_cons_of_mem _ (List.mem_cons_of_mem _ (List.mem_cons_of_mem _ List.mem_cons_self)))) (cvp 4 (x' := ((ρ 0))) (y' := ((ρ 1))) (by show 0 + (1 * ρ 0 + 0) = _; omega) (by show 0 + (1 * ρ 1 + 0) = _; omega) (hm _ List.mem_cons_self)) (cvm (c := 111) (by decide) (x' := ((ρ 0))) (y' := ((ρ 2))) (by show 0 + (1 * ρ 0 + 0) = _; omega) (by show 0 + (1 * ρ 2 + 0) = _; omega) (hm _ (List.mem_cons_of_mem _ List.mem_cons_self))) (cvm (c := 112) (by decide) (x' := ((ρ 0))) (y' := ((ρ 3))) (by show 0 + (1 * ρ 0 + 0) = _; omega) (by show 0 + (1 * ρ 3 + 0) = _; omega) (hm _ (List.mem_cons_of_mem _ (List.mem_cons_of_mem _ List.mem_cons_self)))) hG
  obtain ⟨k0, -⟩ := H
  exact ⟨_, List.mem_cons_self, ρ, fun _ _ => rfl, (okM_c (pvp 4 (by show 1 + (1 * ρ 0 + 0) = _; omega) (by show 0 + (1 * ρ 1 + 0) = _; omega) k0) okM_n), okB_n, okF_n⟩
-- put7
theorem cr_15 (M : pM) (s0 s1 s2 s3 : Int) (b0 : 1 ≤ s0 ∧ s0 ≤ 79) (b1 : 0 ≤ s1 ∧ s1 ≤ 60) (b2 : 7 ≤ s2 ∧ s2 ≤ 7) (b3 : (-2147483648) ≤ s3 ∧ s3 ≤ 2147483647) (m0 : HP 4 (s0) (s1) M) (m1 : (0 ≤ (s0) ∧ M 111 (s0).toNat = (s2))) (m2 : (0 ≤ (s0) ∧ M 112 (s0).toNat = (s3))) (hG : gI M) : (HP 4 (s0 + 1) (s1) M ∧ True) := by
  obtain ⟨h1, h2, h3⟩ := m0
  have e := pbc_s h3
  rw [m1.2, m2.2] at e
  refine ⟨⟨by omega, by omega, ?_⟩, trivial⟩
  rw [show (s0 + 1).toNat = s0.toNat + 1 by omega, e]
  unfold pb1
  rw [if_neg (by omega), if_neg (by omega), if_pos (by omega)]
theorem rul_15 : Rul r_15 := by
  refine ⟨fun _ ρ M hm hB hF hG => ?_, fun gi gv hg => (by cases hg)⟩
  have H := cr_15 M (ρ 0) (ρ 1) (ρ 2) (ρ 3) (hB _ List.mem_cons_self) (hB _ (List.mem_cons_of_mem _ List.mem_cons_self)) (hB _ (List.mem_cons_of_mem _ (List.mem_cons_of_mem _ List.mem_cons_self))) (hB _ (List.mem_cons_of_mem _ (List.mem_cons_of_mem _ (List.mem_cons_of_mem _ List.mem_cons_self)))) (cvp 4 (x' := ((ρ 0))) (y' := ((ρ 1))) (by show 0 + (1 * ρ 0 + 0) = _; omega) (by show 0 + (1 * ρ 1 + 0) = _; omega) (hm _ List.mem_cons_self)) (cvm (c := 111) (by decide) (x' := ((ρ 0))) (y' := ((ρ 2))) (by show 0 + (1 * ρ 0 + 0) = _; omega) (by show 0 + (1 * ρ 2 + 0) = _; omega) (hm _ (List.mem_cons_of_mem _ List.mem_cons_self))) (cvm (c := 112) (by decide) (x' := ((ρ 0))) (y' := ((ρ 3))) (by show 0 + (1 * ρ 0 + 0) = _; omega) (by show 0 + (1 * ρ 3 + 0) = _; omega) (hm _ (List.mem_cons_of_mem _ (List.mem_cons_of_mem _ List.mem_cons_self)))) hG
  obtain ⟨k0, -⟩ := H
  exact ⟨_, List.mem_cons_self, ρ, fun _ _ => rfl, (okM_c (pvp 4 (by show 1 + (1 * ρ 0 + 0) = _; omega) (by show 0 + (1 * ρ 1 + 0) = _; omega) k0) okM_n), okB_n, okF_n⟩
-- putb1
theorem cr_16 (M : pM) (s0 s1 s2 s3 : Int) (b0 : 1 ≤ s0 ∧ s0 ≤ 79) (b1 : 0 ≤ s1 ∧ s1 ≤ 60) (b2 : 1 ≤ s2 ∧ s2 ≤ 2) (b3 : 0 ≤ s3 ∧ s3 ≤ 96) (m0 : HP 4 (s0) (s1) M) (m1 : (0 ≤ (s0) ∧ M 111 (s0).toNat = (s2))) (m2 : (0 ≤ (s0) ∧ M 112 (s0).toNat = (s3))) (hG : gI M) : (HP 4 (s0 + 1) (s1 + 1) M ∧ True) := by
  obtain ⟨h1, h2, h3⟩ := m0
  have e := pbc_s h3
  rw [m1.2, m2.2] at e
  refine ⟨⟨by omega, by omega, ?_⟩, trivial⟩
  rw [show (s0 + 1).toNat = s0.toNat + 1 by omega, e]
  unfold pb1
  rw [if_neg (by omega), if_neg (by omega), if_neg (by omega), if_neg (by omega), if_pos (by omega)]
theorem rul_16 : Rul r_16 := by
  refine ⟨fun _ ρ M hm hB hF hG => ?_, fun gi gv hg => (by cases hg)⟩
  have H := cr_16 M (ρ 0) (ρ 1) (ρ 2) (ρ 3) (hB _ List.mem_cons_self) (hB _ (List.mem_cons_of_mem _ List.mem_cons_self)) (hB _ (List.mem_cons_of_mem _ (List.mem_cons_of_mem _ List.mem_cons_self))) (hB _ (List.mem_cons_of_mem _ (List.mem_cons_of_mem _ (List.mem_cons_of_mem _ List.mem_cons_self)))) (cvp 4 (x' := ((ρ 0))) (y' := ((ρ 1))) (by show 0 + (1 * ρ 0 + 0) = _; omega) (by show 0 + (1 * ρ 1 + 0) = _; omega) (hm _ List.mem_cons_self)) (cvm (c := 111) (by decide) (x' := ((ρ 0))) (y' := ((ρ 2))) (by show 0 + (1 * ρ 0 + 0) = _; omega) (by show 0 + (1 * ρ 2 + 0) = _; omega) (hm _ (List.mem_cons_of_mem _ List.mem_cons_self))) (cvm (c := 112) (by decide) (x' := ((ρ 0))) (y' := ((ρ 3))) (by show 0 + (1 * ρ 0 + 0) = _; omega) (by show 0 + (1 * ρ 3 + 0) = _; omega) (hm _ (List.mem_cons_of_mem _ (List.mem_cons_of_mem _ List.mem_cons_self)))) hG
  obtain ⟨k0, -⟩ := H
  exact ⟨_, List.mem_cons_self, ρ, fun _ _ => rfl, (okM_c (pvp 4 (by show 1 + (1 * ρ 0 + 0) = _; omega) (by show 1 + (1 * ρ 1 + 0) = _; omega) k0) okM_n), okB_n, okF_n⟩
-- putb2
theorem cr_17 (M : pM) (s0 s1 s2 s3 : Int) (b0 : 1 ≤ s0 ∧ s0 ≤ 79) (b1 : 0 ≤ s1 ∧ s1 ≤ 60) (b2 : 4 ≤ s2 ∧ s2 ≤ 6) (b3 : 0 ≤ s3 ∧ s3 ≤ 96) (m0 : HP 4 (s0) (s1) M) (m1 : (0 ≤ (s0) ∧ M 111 (s0).toNat = (s2))) (m2 : (0 ≤ (s0) ∧ M 112 (s0).toNat = (s3))) (hG : gI M) : (HP 4 (s0 + 1) (s1 + 1) M ∧ True) := by
  obtain ⟨h1, h2, h3⟩ := m0
  have e := pbc_s h3
  rw [m1.2, m2.2] at e
  refine ⟨⟨by omega, by omega, ?_⟩, trivial⟩
  rw [show (s0 + 1).toNat = s0.toNat + 1 by omega, e]
  unfold pb1
  rw [if_neg (by omega), if_neg (by omega), if_neg (by omega), if_neg (by omega), if_pos (by omega)]
theorem rul_17 : Rul r_17 := by
  refine ⟨fun _ ρ M hm hB hF hG => ?_, fun gi gv hg => (by cases hg)⟩
  have H := cr_17 M (ρ 0) (ρ 1) (ρ 2) (ρ 3) (hB _ List.mem_cons_self) (hB _ (List.mem_cons_of_mem _ List.mem_cons_self)) (hB _ (List.mem_cons_of_mem _ (List.mem_cons_of_mem _ List.mem_cons_self))) (hB _ (List.mem_cons_of_mem _ (List.mem_cons_of_mem _ (List.mem_cons_of_mem _ List.mem_cons_self)))) (cvp 4 (x' := ((ρ 0))) (y' := ((ρ 1))) (by show 0 + (1 * ρ 0 + 0) = _; omega) (by show 0 + (1 * ρ 1 + 0) = _; omega) (hm _ List.mem_cons_self)) (cvm (c := 111) (by decide) (x' := ((ρ 0))) (y' := ((ρ 2))) (by show 0 + (1 * ρ 0 + 0) = _; omega) (by show 0 + (1 * ρ 2 + 0) = _; omega) (hm _ (List.mem_cons_of_mem _ List.mem_cons_self))) (cvm (c := 112) (by decide) (x' := ((ρ 0))) (y' := ((ρ 3))) (by show 0 + (1 * ρ 0 + 0) = _; omega) (by show 0 + (1 * ρ 3 + 0) = _; omega) (hm _ (List.mem_cons_of_mem _ (List.mem_cons_of_mem _ List.mem_cons_self)))) hG
  obtain ⟨k0, -⟩ := H
  exact ⟨_, List.mem_cons_self, ρ, fun _ _ => rfl, (okM_c (pvp 4 (by show 1 + (1 * ρ 0 + 0) = _; omega) (by show 1 + (1 * ρ 1 + 0) = _; omega) k0) okM_n), okB_n, okF_n⟩
-- putb3
theorem cr_18 (M : pM) (s0 s1 s2 s3 : Int) (b0 : 1 ≤ s0 ∧ s0 ≤ 79) (b1 : 0 ≤ s1 ∧ s1 ≤ 60) (b2 : 1 ≤ s2 ∧ s2 ≤ 1) (b3 : 124 ≤ s3 ∧ s3 ≤ 124) (m0 : HP 4 (s0) (s1) M) (m1 : (0 ≤ (s0) ∧ M 111 (s0).toNat = (s2))) (m2 : (0 ≤ (s0) ∧ M 112 (s0).toNat = (s3))) (hG : gI M) : (HP 4 (s0 + 1) (s1 + 1) M ∧ True) := by
  obtain ⟨h1, h2, h3⟩ := m0
  have e := pbc_s h3
  rw [m1.2, m2.2] at e
  refine ⟨⟨by omega, by omega, ?_⟩, trivial⟩
  rw [show (s0 + 1).toNat = s0.toNat + 1 by omega, e]
  unfold pb1
  rw [if_neg (by omega), if_neg (by omega), if_neg (by omega), if_pos (by omega)]
theorem rul_18 : Rul r_18 := by
  refine ⟨fun _ ρ M hm hB hF hG => ?_, fun gi gv hg => (by cases hg)⟩
  have H := cr_18 M (ρ 0) (ρ 1) (ρ 2) (ρ 3) (hB _ List.mem_cons_self) (hB _ (List.mem_cons_of_mem _ List.mem_cons_self)) (hB _ (List.mem_cons_of_mem _ (List.mem_cons_of_mem _ List.mem_cons_self))) (hB _ (List.mem_cons_of_mem _ (List.mem_cons_of_mem _ (List.mem_cons_of_mem _ List.mem_cons_self)))) (cvp 4 (x' := ((ρ 0))) (y' := ((ρ 1))) (by show 0 + (1 * ρ 0 + 0) = _; omega) (by show 0 + (1 * ρ 1 + 0) = _; omega) (hm _ List.mem_cons_self)) (cvm (c := 111) (by decide) (x' := ((ρ 0))) (y' := ((ρ 2))) (by show 0 + (1 * ρ 0 + 0) = _; omega) (by show 0 + (1 * ρ 2 + 0) = _; omega) (hm _ (List.mem_cons_of_mem _ List.mem_cons_self))) (cvm (c := 112) (by decide) (x' := ((ρ 0))) (y' := ((ρ 3))) (by show 0 + (1 * ρ 0 + 0) = _; omega) (by show 0 + (1 * ρ 3 + 0) = _; omega) (hm _ (List.mem_cons_of_mem _ (List.mem_cons_of_mem _ List.mem_cons_self)))) hG
  obtain ⟨k0, -⟩ := H
  exact ⟨_, List.mem_cons_self, ρ, fun _ _ => rfl, (okM_c (pvp 4 (by show 1 + (1 * ρ 0 + 0) = _; omega) (by show 1 + (1 * ρ 1 + 0) = _; omega) k0) okM_n), okB_n, okF_n⟩
-- pk
theorem cr_19 (M : pM) (s0 s1 s2 s3 : Int) (b0 : 1 ≤ s0 ∧ s0 ≤ 80) (b1 : 0 ≤ s1 ∧ s1 ≤ 60) (b2 : 0 ≤ s2 ∧ s2 ≤ 79) (b3 : 0 ≤ s3 ∧ s3 ≤ 8) (m0 : HP 4 (s0) (s1) M) (m1 : (0 ≤ (s2) ∧ M 111 (s2).toNat = (s3))) (f0 : 0 ≤ (s0 + (-1) * s2 - 1)) (hG : gI M) : (0 ≤ ((-1) * s2) ∧ 0 ≤ (s2) ∧ 0 ≤ ((-1) * s3 + 8) ∧ 0 ≤ (s3 - 8) ∧ True) ∨ (0 ≤ (s2 - 1) ∧ 0 ≤ ((-1) * s3 + 7) ∧ 0 ≤ (s3 - 1) ∧ True) := by
  obtain ⟨h1, h2, h3⟩ := m0
  have h3 : pbc M (s2.toNat + 1 + (s0.toNat - (s2.toNat + 1))) = some s1 := by rw [show s2.toNat + 1 + (s0.toNat - (s2.toNat + 1)) = s0.toNat by omega]; exact h3
  obtain ⟨m, hm⟩ := pbc_pre h3
  obtain ⟨a, _, hb⟩ := pbc_p hm
  rw [m1.2] at hb
  rcases pb1_c hb with q | q
  · exact Or.inl ⟨by omega, by omega, by omega, by omega, trivial⟩
  · exact Or.inr ⟨by omega, by omega, by omega, trivial⟩
theorem rul_19 : Rul r_19 := by
  refine ⟨fun _ ρ M hm hB hF hG => ?_, fun gi gv hg => (by cases hg)⟩
  have H := cr_19 M (ρ 0) (ρ 1) (ρ 2) (ρ 3) (hB _ List.mem_cons_self) (hB _ (List.mem_cons_of_mem _ List.mem_cons_self)) (hB _ (List.mem_cons_of_mem _ (List.mem_cons_of_mem _ List.mem_cons_self))) (hB _ (List.mem_cons_of_mem _ (List.mem_cons_of_mem _ (List.mem_cons_of_mem _ List.mem_cons_self)))) (cvp 4 (x' := ((ρ 0))) (y' := ((ρ 1))) (by show 0 + (1 * ρ 0 + 0) = _; omega) (by show 0 + (1 * ρ 1 + 0) = _; omega) (hm _ List.mem_cons_self)) (cvm (c := 111) (by decide) (x' := ((ρ 2))) (y' := ((ρ 3))) (by show 0 + (1 * ρ 2 + 0) = _; omega) (by show 0 + (1 * ρ 3 + 0) = _; omega) (hm _ (List.mem_cons_of_mem _ List.mem_cons_self))) (by have h := hF _ List.mem_cons_self; have h : 0 ≤ (-1) + (1 * ρ 0 + ((-1) * ρ 2 + 0)) := h; omega) hG
  rcases H with H | H
  · skip
    obtain ⟨f0, f1, f2, f3, -⟩ := H
    exact ⟨_, List.mem_cons_self, ρ, fun _ _ => rfl, okM_n, okB_n, (okF_c (by show 0 ≤ 0 + ((-1) * ρ 2 + 0); omega) (okF_c (by show 0 ≤ 0 + (1 * ρ 2 + 0); omega) (okF_c (by show 0 ≤ 8 + ((-1) * ρ 3 + 0); omega) (okF_c (by show 0 ≤ (-8) + (1 * ρ 3 + 0); omega) okF_n))))⟩
  · skip
    obtain ⟨f0, f1, f2, -⟩ := H
    exact ⟨_, (List.mem_cons_of_mem _ List.mem_cons_self), ρ, fun _ _ => rfl, okM_n, okB_n, (okF_c (by show 0 ≤ (-1) + (1 * ρ 2 + 0); omega) (okF_c (by show 0 ≤ 7 + ((-1) * ρ 3 + 0); omega) (okF_c (by show 0 ≤ (-1) + (1 * ρ 3 + 0); omega) okF_n)))⟩
-- pop
theorem cr_20 (M : pM) (s0 s1 s2 : Int) (b0 : 2 ≤ s0 ∧ s0 ≤ 80) (b1 : 0 ≤ s1 ∧ s1 ≤ 60) (b2 : 1 ≤ s2 ∧ s2 ≤ 7) (m0 : HP 4 (s0) (s1) M) (m1 : (0 ≤ (s0 - 1) ∧ M 111 (s0 - 1).toNat = (s2))) (hG : gI M) : (HP 4 (s0 - 1) (s1) M ∧ (0 ≤ (s0 - 1) ∧ M 112 (s0 - 1).toNat = (126 : Int)) ∧ 0 ≤ ((-1) * s2 + 3) ∧ 0 ≤ (s2 - 3) ∧ 0 ≤ (s0 + (-1) * s1 - 2) ∧ True) ∨ (∃ t0 : Int, 0 ≤ t0 ∧ t0 ≤ 96 ∧ HP 4 (s0 - 1) (s1 - 1) M ∧ (0 ≤ (s0 - 1) ∧ M 112 (s0 - 1).toNat = (t0)) ∧ 0 ≤ ((-1) * s2 + 2) ∧ 0 ≤ (s1 - 1) ∧ True) ∨ (HP 4 (s0 - 1) (s1 - 1) M ∧ (0 ≤ (s0 - 1) ∧ M 112 (s0 - 1).toNat = (124 : Int)) ∧ 0 ≤ ((-1) * s2 + 1) ∧ 0 ≤ (s2 - 1) ∧ 0 ≤ (s1 - 1) ∧ True) ∨ (∃ t0 : Int, 0 ≤ t0 ∧ t0 ≤ 96 ∧ HP 4 (s0 - 1) (s1 - 1) M ∧ (0 ≤ (s0 - 1) ∧ M 112 (s0 - 1).toNat = (t0)) ∧ 0 ≤ (s2 - 4) ∧ 0 ≤ ((-1) * s2 + 6) ∧ 0 ≤ (s1 - 1) ∧ True) ∨ (HP 4 (s0 - 1) (s1) M ∧ 0 ≤ ((-1) * s2 + 7) ∧ 0 ≤ (s2 - 7) ∧ 0 ≤ (s0 + (-1) * s1 - 2) ∧ True) := by
  obtain ⟨h1, h2, h3⟩ := m0
  obtain ⟨k, hk⟩ : ∃ k, k = (s0 - 1).toNat := ⟨_, rfl⟩
  rw [show s0.toNat = k + 1 by omega] at h3
  obtain ⟨a, ha, hb⟩ := pbc_p h3
  have hbd := pbc_bd ha
  have m1 := m1.2
  rw [← hk] at m1
  rw [m1] at hb
  have hn : ∀ y, a = y → HP 4 (s0 - 1) y M := fun y hy => ⟨by omega, by omega, by rw [← hk, ha, hy]⟩
  have hs : ∀ y, M 112 k = y → (0 ≤ (s0 - 1) ∧ M 112 (s0 - 1).toNat = y) := fun y hy => ⟨by omega, by rw [← hk]; exact hy⟩
  rcases pb1_c hb with q | ⟨_, q | q | q | ⟨q1, q2, q3, q4⟩⟩
  · omega
  · exact Or.inl ⟨hn _ q.2.2.symm, hs _ q.2.1, by omega, by omega, by omega, trivial⟩
  · exact Or.inr (Or.inr (Or.inr (Or.inr ⟨hn _ q.2.symm, by omega, by omega, by omega, trivial⟩)))
  · exact Or.inr (Or.inr (Or.inl ⟨hn _ (by omega), hs _ q.2.1, by omega, by omega, by omega, trivial⟩))
  · rcases q1 with q1 | q1
    · exact Or.inr (Or.inl ⟨M 112 k, q2, q3, hn _ (by omega), hs _ rfl, by omega, by omega, trivial⟩)
    · exact Or.inr (Or.inr (Or.inr (Or.inl ⟨M 112 k, q2, q3, hn _ (by omega), hs _ rfl, by omega, by omega, by omega, trivial⟩)))
theorem rul_20 : Rul r_20 := by
  refine ⟨fun _ ρ M hm hB hF hG => ?_, fun gi gv hg => (by cases hg)⟩
  have H := cr_20 M (ρ 0) (ρ 1) (ρ 2) (hB _ List.mem_cons_self) (hB _ (List.mem_cons_of_mem _ List.mem_cons_self)) (hB _ (List.mem_cons_of_mem _ (List.mem_cons_of_mem _ List.mem_cons_self))) (cvp 4 (x' := ((ρ 0))) (y' := ((ρ 1))) (by show 0 + (1 * ρ 0 + 0) = _; omega) (by show 0 + (1 * ρ 1 + 0) = _; omega) (hm _ List.mem_cons_self)) (cvm (c := 111) (by decide) (x' := ((ρ 0) - 1)) (y' := ((ρ 2))) (by show (-1) + (1 * ρ 0 + 0) = _; omega) (by show 0 + (1 * ρ 2 + 0) = _; omega) (hm _ (List.mem_cons_of_mem _ List.mem_cons_self))) hG
  rcases H with H | H
  · skip
    obtain ⟨k0, k1, f0, f1, f2, -⟩ := H
    exact ⟨_, List.mem_cons_self, ρ, fun _ _ => rfl, (okM_c (pvp 4 (by show (-1) + (1 * ρ 0 + 0) = _; omega) (by show 0 + (1 * ρ 1 + 0) = _; omega) k0) (okM_c (pvm (c := 112) (by decide) (by show (-1) + (1 * ρ 0 + 0) = _; omega) (by show 126 + 0 = _; omega) k1) okM_n)), okB_n, (okF_c (by show 0 ≤ 3 + ((-1) * ρ 2 + 0); omega) (okF_c (by show 0 ≤ (-3) + (1 * ρ 2 + 0); omega) (okF_c (by show 0 ≤ (-2) + (1 * ρ 0 + ((-1) * ρ 1 + 0)); omega) okF_n)))⟩
  rcases H with H | H
  · skip
    obtain ⟨t0, u0, v0, k0, k1, f0, f1, -⟩ := H
    obtain ⟨ρ', ha, a0, a1, a2, a3⟩ : ∃ ρ' : Nat → Int, agr 3 ρ ρ' ∧ ρ' 0 = ρ 0 ∧ ρ' 1 = ρ 1 ∧ ρ' 2 = ρ 2 ∧ ρ' 3 = t0 := ⟨fun s => if s = 3 then t0 else ρ s, fun s hs => by show (if s = 3 then t0 else ρ s) = _; rw [if_neg (by omega)], rfl, rfl, rfl, rfl⟩
    exact ⟨_, (List.mem_cons_of_mem _ List.mem_cons_self), ρ', ha, (okM_c (pvp 4 (by show (-1) + (1 * ρ' 0 + 0) = _; omega) (by show (-1) + (1 * ρ' 1 + 0) = _; omega) k0) (okM_c (pvm (c := 112) (by decide) (by show (-1) + (1 * ρ' 0 + 0) = _; omega) (by show 0 + (1 * ρ' 3 + 0) = _; omega) k1) okM_n)), (okB_c (by omega) okB_n), (okF_c (by show 0 ≤ 2 + ((-1) * ρ' 2 + 0); omega) (okF_c (by show 0 ≤ (-1) + (1 * ρ' 1 + 0); omega) okF_n))⟩
  rcases H with H | H
  · skip
    obtain ⟨k0, k1, f0, f1, f2, -⟩ := H
    exact ⟨_, (List.mem_cons_of_mem _ (List.mem_cons_of_mem _ List.mem_cons_self)), ρ, fun _ _ => rfl, (okM_c (pvp 4 (by show (-1) + (1 * ρ 0 + 0) = _; omega) (by show (-1) + (1 * ρ 1 + 0) = _; omega) k0) (okM_c (pvm (c := 112) (by decide) (by show (-1) + (1 * ρ 0 + 0) = _; omega) (by show 124 + 0 = _; omega) k1) okM_n)), okB_n, (okF_c (by show 0 ≤ 1 + ((-1) * ρ 2 + 0); omega) (okF_c (by show 0 ≤ (-1) + (1 * ρ 2 + 0); omega) (okF_c (by show 0 ≤ (-1) + (1 * ρ 1 + 0); omega) okF_n)))⟩
  rcases H with H | H
  · skip
    obtain ⟨t0, u0, v0, k0, k1, f0, f1, f2, -⟩ := H
    obtain ⟨ρ', ha, a0, a1, a2, a3⟩ : ∃ ρ' : Nat → Int, agr 3 ρ ρ' ∧ ρ' 0 = ρ 0 ∧ ρ' 1 = ρ 1 ∧ ρ' 2 = ρ 2 ∧ ρ' 3 = t0 := ⟨fun s => if s = 3 then t0 else ρ s, fun s hs => by show (if s = 3 then t0 else ρ s) = _; rw [if_neg (by omega)], rfl, rfl, rfl, rfl⟩
    exact ⟨_, (List.mem_cons_of_mem _ (List.mem_cons_of_mem _ (List.mem_cons_of_mem _ List.mem_cons_self))), ρ', ha, (okM_c (pvp 4 (by show (-1) + (1 * ρ' 0 + 0) = _; omega) (by show (-1) + (1 * ρ' 1 + 0) = _; omega) k0) (okM_c (pvm (c := 112) (by decide) (by show (-1) + (1 * ρ' 0 + 0) = _; omega) (by show 0 + (1 * ρ' 3 + 0) = _; omega) k1) okM_n)), (okB_c (by omega) okB_n), (okF_c (by show 0 ≤ (-4) + (1 * ρ' 2 + 0); omega) (okF_c (by show 0 ≤ 6 + ((-1) * ρ' 2 + 0); omega) (okF_c (by show 0 ≤ (-1) + (1 * ρ' 1 + 0); omega) okF_n)))⟩
  · skip
    obtain ⟨k0, f0, f1, f2, -⟩ := H
    exact ⟨_, (List.mem_cons_of_mem _ (List.mem_cons_of_mem _ (List.mem_cons_of_mem _ (List.mem_cons_of_mem _ List.mem_cons_self)))), ρ, fun _ _ => rfl, (okM_c (pvp 4 (by show (-1) + (1 * ρ 0 + 0) = _; omega) (by show 0 + (1 * ρ 1 + 0) = _; omega) k0) okM_n), okB_n, (okF_c (by show 0 ≤ 7 + ((-1) * ρ 2 + 0); omega) (okF_c (by show 0 ≤ (-7) + (1 * ρ 2 + 0); omega) (okF_c (by show 0 ≤ (-2) + (1 * ρ 0 + ((-1) * ρ 1 + 0)); omega) okF_n)))⟩
-- pop1
theorem cr_21 (M : pM) (s0 s1 s2 : Int) (b0 : 1 ≤ s0 ∧ s0 ≤ 1) (b1 : 0 ≤ s1 ∧ s1 ≤ 60) (b2 : 8 ≤ s2 ∧ s2 ≤ 8) (m0 : HP 4 (s0) (s1) M) (m1 : (0 ≤ (s0 - 1) ∧ M 111 (s0 - 1).toNat = (s2))) (hG : gI M) : (HP 4 (0 : Int) (0 : Int) M ∧ 0 ≤ ((-1) * s1) ∧ 0 ≤ (s1) ∧ True) := by
  obtain ⟨h1, h2, h3⟩ := m0
  rw [show s0.toNat = 0 + 1 by omega] at h3
  obtain ⟨a, ha, hb⟩ := pbc_p h3
  rcases pb1_c hb with q | q
  · exact ⟨⟨by omega, by omega, rfl⟩, by omega, by omega, trivial⟩
  · exact absurd rfl q.1
theorem rul_21 : Rul r_21 := by
  refine ⟨fun _ ρ M hm hB hF hG => ?_, fun gi gv hg => (by cases hg)⟩
  have H := cr_21 M (ρ 0) (ρ 1) (ρ 2) (hB _ List.mem_cons_self) (hB _ (List.mem_cons_of_mem _ List.mem_cons_self)) (hB _ (List.mem_cons_of_mem _ (List.mem_cons_of_mem _ List.mem_cons_self))) (cvp 4 (x' := ((ρ 0))) (y' := ((ρ 1))) (by show 0 + (1 * ρ 0 + 0) = _; omega) (by show 0 + (1 * ρ 1 + 0) = _; omega) (hm _ List.mem_cons_self)) (cvm (c := 111) (by decide) (x' := ((ρ 0) - 1)) (y' := ((ρ 2))) (by show (-1) + (1 * ρ 0 + 0) = _; omega) (by show 0 + (1 * ρ 2 + 0) = _; omega) (hm _ (List.mem_cons_of_mem _ List.mem_cons_self))) hG
  obtain ⟨k0, f0, f1, -⟩ := H
  exact ⟨_, List.mem_cons_self, ρ, fun _ _ => rfl, (okM_c (pvp 4 (by show 0 + 0 = _; omega) (by show 0 + 0 = _; omega) k0) okM_n), okB_n, (okF_c (by show 0 ≤ 0 + ((-1) * ρ 1 + 0); omega) (okF_c (by show 0 ≤ 0 + (1 * ρ 1 + 0); omega) okF_n))⟩
-- nt0
theorem cr_22 (M : pM) (s0 s1 : Int) (b0 : 0 ≤ s0 ∧ s0 ≤ 1901) (b1 : 0 ≤ s1 ∧ s1 ≤ 2) (m0 : (0 ≤ (8 : Int) ∧ M 61 (8 : Int).toNat = (s1))) (hG : gI M) : (HP 5 (s0) (0 : Int) M ∧ True) := by
  have h : M 61 8 = s1 := m0.2
  exact ⟨fun h' => by omega, trivial⟩
theorem rul_22 : Rul r_22 := by
  refine ⟨fun _ ρ M hm hB hF hG => ?_, fun gi gv hg => (by cases hg)⟩
  have H := cr_22 M (ρ 0) (ρ 1) (hB _ List.mem_cons_self) (hB _ (List.mem_cons_of_mem _ List.mem_cons_self)) (cvm (c := 61) (by decide) (x' := (8 : Int)) (y' := ((ρ 1))) (by show 8 + 0 = _; omega) (by show 0 + (1 * ρ 1 + 0) = _; omega) (hm _ List.mem_cons_self)) hG
  obtain ⟨k0, -⟩ := H
  exact ⟨_, List.mem_cons_self, ρ, fun _ _ => rfl, (okM_c (pvp 5 (by show 0 + (1 * ρ 0 + 0) = _; omega) (by show 0 + 0 = _; omega) k0) okM_n), okB_n, okF_n⟩
-- nt4
theorem cr_23 (M : pM) (s0 s1 : Int) (b0 : 0 ≤ s0 ∧ s0 ≤ 1901) (b1 : 4 ≤ s1 ∧ s1 ≤ 5) (m0 : (0 ≤ (8 : Int) ∧ M 61 (8 : Int).toNat = (s1))) (hG : gI M) : (HP 5 (s0) (0 : Int) M ∧ True) := by
  have h : M 61 8 = s1 := m0.2
  exact ⟨fun h' => by omega, trivial⟩
theorem rul_23 : Rul r_23 := by
  refine ⟨fun _ ρ M hm hB hF hG => ?_, fun gi gv hg => (by cases hg)⟩
  have H := cr_23 M (ρ 0) (ρ 1) (hB _ List.mem_cons_self) (hB _ (List.mem_cons_of_mem _ List.mem_cons_self)) (cvm (c := 61) (by decide) (x' := (8 : Int)) (y' := ((ρ 1))) (by show 8 + 0 = _; omega) (by show 0 + (1 * ρ 1 + 0) = _; omega) (hm _ List.mem_cons_self)) hG
  obtain ⟨k0, -⟩ := H
  exact ⟨_, List.mem_cons_self, ρ, fun _ _ => rfl, (okM_c (pvp 5 (by show 0 + (1 * ρ 0 + 0) = _; omega) (by show 0 + 0 = _; omega) k0) okM_n), okB_n, okF_n⟩
-- nw
theorem cr_24 (M : pM) (s0 : Int) (b0 : 0 ≤ s0 ∧ s0 ≤ 1901) (m0 : HP 6 (s0) (0 : Int) M) (hG : gI M) : (HP 5 (s0) (0 : Int) M ∧ True) := by
  exact ⟨fun _ => m0, trivial⟩
theorem rul_24 : Rul r_24 := by
  refine ⟨fun _ ρ M hm hB hF hG => ?_, fun gi gv hg => (by cases hg)⟩
  have H := cr_24 M (ρ 0) (hB _ List.mem_cons_self) (cvp 6 (x' := ((ρ 0))) (y' := (0 : Int)) (by show 0 + (1 * ρ 0 + 0) = _; omega) (by show 0 + 0 = _; omega) (hm _ List.mem_cons_self)) hG
  obtain ⟨k0, -⟩ := H
  exact ⟨_, List.mem_cons_self, ρ, fun _ _ => rfl, (okM_c (pvp 5 (by show 0 + (1 * ρ 0 + 0) = _; omega) (by show 0 + 0 = _; omega) k0) okM_n), okB_n, okF_n⟩
-- lkout0
theorem cr_25 (M : pM) (s0 s1 : Int) (b0 : 0 ≤ s0 ∧ s0 ≤ 300) (b1 : 0 ≤ s1 ∧ s1 ≤ 1) (m0 : HP 7 (0 : Int) (0 : Int) M) (m1 : (0 ≤ (80 : Int) ∧ M 61 (80 : Int).toNat = (0 : Int))) (m2 : (0 ≤ (0 : Int) ∧ M 110 (0 : Int).toNat = (s0))) (m3 : (0 ≤ (85 : Int) ∧ M 61 (85 : Int).toNat = (s1))) (hG : gI M) : (0 ≤ ((-1) * s1) ∧ 0 ≤ (s1) ∧ True) ∨ (∃ t0 : Int, 0 ≤ t0 ∧ t0 ≤ 60 ∧ HP 2 (s0) (t0) M ∧ 0 ≤ ((-1) * s1 + 1) ∧ 0 ≤ (s1 - 1) ∧ 0 ≤ ((-1) * s0 + 299) ∧ True) := by
  obtain ⟨-, h1⟩ := m1
  obtain ⟨-, h2⟩ := m2
  obtain ⟨-, h3⟩ := m3
  have h1 : M 61 80 = 0 := h1
  have h2 : M 110 0 = s0 := h2
  have h3 : M 61 85 = s1 := h3
  have m0 : M 61 85 ≠ 0 → ∃ H : Int, 0 ≤ H ∧ H ≤ 60 ∧ ((M 61 80 = 0 ∧ 0 ≤ M 110 0 ∧ M 110 0 ≤ 299 ∧ hgt M 0 (M 110 0).toNat = some H) ∨ (M 61 80 = 1 ∧ 0 ≤ M 110 1 ∧ M 110 1 ≤ 299 ∧ hgt M 300 (M 110 1).toNat = some H)) := m0
  by_cases hz : s1 = 0
  · exact Or.inl ⟨by omega, by omega, trivial⟩
  · obtain ⟨H, a1, a2, a3⟩ := m0 (by omega)
    rcases a3 with ⟨a3, a4, a5, a6⟩ | ⟨a3, a4, a5, a6⟩
    · rw [h2] at a4 a5 a6
      exact Or.inr ⟨H, a1, a2, ⟨by omega, by omega, a6⟩, by omega, by omega, by omega, trivial⟩
    · omega
theorem rul_25 : Rul r_25 := by
  refine ⟨fun _ ρ M hm hB hF hG => ?_, fun gi gv hg => (by cases hg)⟩
  have H := cr_25 M (ρ 0) (ρ 1) (hB _ List.mem_cons_self) (hB _ (List.mem_cons_of_mem _ List.mem_cons_self)) (cvp 7 (x' := (0 : Int)) (y' := (0 : Int)) (by show 0 + 0 = _; omega) (by show 0 + 0 = _; omega) (hm _ List.mem_cons_self)) (cvm (c := 61) (by decide) (x' := (80 : Int)) (y' := (0 : Int)) (by show 80 + 0 = _; omega) (by show 0 + 0 = _; omega) (hm _ (List.mem_cons_of_mem _ List.mem_cons_self))) (cvm (c := 110) (by decide) (x' := (0 : Int)) (y' := ((ρ 0))) (by show 0 + 0 = _; omega) (by show 0 + (1 * ρ 0 + 0) = _; omega) (hm _ (List.mem_cons_of_mem _ (List.mem_cons_of_mem _ List.mem_cons_self)))) (cvm (c := 61) (by decide) (x' := (85 : Int)) (y' := ((ρ 1))) (by show 85 + 0 = _; omega) (by show 0 + (1 * ρ 1 + 0) = _; omega) (hm _ (List.mem_cons_of_mem _ (List.mem_cons_of_mem _ (List.mem_cons_of_mem _ List.mem_cons_self))))) hG
  rcases H with H | H
  · skip
    obtain ⟨f0, f1, -⟩ := H
    exact ⟨_, List.mem_cons_self, ρ, fun _ _ => rfl, okM_n, okB_n, (okF_c (by show 0 ≤ 0 + ((-1) * ρ 1 + 0); omega) (okF_c (by show 0 ≤ 0 + (1 * ρ 1 + 0); omega) okF_n))⟩
  · skip
    obtain ⟨t0, u0, v0, k0, f0, f1, f2, -⟩ := H
    obtain ⟨ρ', ha, a0, a1, a2⟩ : ∃ ρ' : Nat → Int, agr 2 ρ ρ' ∧ ρ' 0 = ρ 0 ∧ ρ' 1 = ρ 1 ∧ ρ' 2 = t0 := ⟨fun s => if s = 2 then t0 else ρ s, fun s hs => by show (if s = 2 then t0 else ρ s) = _; rw [if_neg (by omega)], rfl, rfl, rfl⟩
    exact ⟨_, (List.mem_cons_of_mem _ List.mem_cons_self), ρ', ha, (okM_c (pvp 2 (by show 0 + (1 * ρ' 0 + 0) = _; omega) (by show 0 + (1 * ρ' 2 + 0) = _; omega) k0) okM_n), (okB_c (by omega) okB_n), (okF_c (by show 0 ≤ 1 + ((-1) * ρ' 1 + 0); omega) (okF_c (by show 0 ≤ (-1) + (1 * ρ' 1 + 0); omega) (okF_c (by show 0 ≤ 299 + ((-1) * ρ' 0 + 0); omega) okF_n)))⟩
-- lkin0
theorem cr_26 (M : pM) (s0 s1 : Int) (b0 : 0 ≤ s0 ∧ s0 ≤ 300) (b1 : 0 ≤ s1 ∧ s1 ≤ 60) (m0 : (0 ≤ (80 : Int) ∧ M 61 (80 : Int).toNat = (0 : Int))) (m1 : (0 ≤ (0 : Int) ∧ M 110 (0 : Int).toNat = (s0))) (m2 : HP 2 (s0) (s1) M) (hG : gI M) : (HP 7 (0 : Int) (0 : Int) M ∧ True) := by
  obtain ⟨-, h1⟩ := m0
  obtain ⟨-, h2⟩ := m1
  obtain ⟨h3, h4, h5⟩ := m2
  have h1 : M 61 80 = 0 := h1
  have h2 : M 110 0 = s0 := h2
  refine ⟨fun _ => ⟨s1, b1.1, b1.2, Or.inl ⟨h1, by omega, by omega, ?_⟩⟩, trivial⟩
  rw [h2]
  exact h5
theorem rul_26 : Rul r_26 := by
  refine ⟨fun _ ρ M hm hB hF hG => ?_, fun gi gv hg => (by cases hg)⟩
  have H := cr_26 M (ρ 0) (ρ 1) (hB _ List.mem_cons_self) (hB _ (List.mem_cons_of_mem _ List.mem_cons_self)) (cvm (c := 61) (by decide) (x' := (80 : Int)) (y' := (0 : Int)) (by show 80 + 0 = _; omega) (by show 0 + 0 = _; omega) (hm _ List.mem_cons_self)) (cvm (c := 110) (by decide) (x' := (0 : Int)) (y' := ((ρ 0))) (by show 0 + 0 = _; omega) (by show 0 + (1 * ρ 0 + 0) = _; omega) (hm _ (List.mem_cons_of_mem _ List.mem_cons_self))) (cvp 2 (x' := ((ρ 0))) (y' := ((ρ 1))) (by show 0 + (1 * ρ 0 + 0) = _; omega) (by show 0 + (1 * ρ 1 + 0) = _; omega) (hm _ (List.mem_cons_of_mem _ (List.mem_cons_of_mem _ List.mem_cons_self)))) hG
  obtain ⟨k0, -⟩ := H
  exact ⟨_, List.mem_cons_self, ρ, fun _ _ => rfl, (okM_c (pvp 7 (by show 0 + 0 = _; omega) (by show 0 + 0 = _; omega) k0) okM_n), okB_n, okF_n⟩
-- chs0
theorem cr_27 (M : pM) (s0 s1 s2 s3 s4 : Int) (b0 : 0 ≤ s0 ∧ s0 ≤ 299) (b1 : 0 ≤ s1 ∧ s1 ≤ 299) (b2 : 0 ≤ s2 ∧ s2 ≤ 60) (b3 : (-2147483648) ≤ s3 ∧ s3 ≤ 2147483647) (b4 : 0 ≤ s4 ∧ s4 ≤ 60) (m0 : HP 2 (s0) (s2) M) (m1 : HP 2 (s1) (s4) M) (m2 : (0 ≤ (s0) ∧ M 108 (s0).toNat = (s3))) (f0 : 0 ≤ ((-1) * s0 + s1 - 1)) (hG : gI M) : (HP 2 (s0 + 1) (s2) M ∧ 0 ≤ ((-1) * s3 + 126) ∧ 0 ≤ (s3 - 126) ∧ 0 ≤ (s2 - 1) ∧ True) ∨ (HP 2 (s0 + 1) (s2 + 1) M ∧ 0 ≤ (s3 - 97) ∧ 0 ≤ ((-1) * s3 + 122) ∧ 0 ≤ ((-1) * s2 + 59) ∧ True) ∨ (HP 2 (s0 + 1) (s2 - 1) M ∧ 0 ≤ ((-1) * s3 + 96) ∧ 0 ≤ (s2 - 2) ∧ True) ∨ (HP 2 (s0 + 1) (s2 - 1) M ∧ 0 ≤ (s3 - 123) ∧ 0 ≤ ((-1) * s3 + 125) ∧ 0 ≤ (s2 - 2) ∧ True) ∨ (HP 2 (s0 + 1) (s2 - 1) M ∧ 0 ≤ (s3 - 127) ∧ 0 ≤ (s2 - 2) ∧ True) := by
  obtain ⟨h1, h2, h3⟩ := m0
  obtain ⟨h4, h5, h6⟩ := m1
  obtain ⟨-, h7⟩ := m2
  have e0 : ∃ k, k = (s0).toNat := ⟨_, rfl⟩
  obtain ⟨k, hk⟩ := e0
  rw [← hk] at h3
  have h6 : hgt M 0 (k + 1 + ((s1).toNat - (k + 1))) = some s4 := by rw [show k + 1 + ((s1).toNat - (k + 1)) = (s1).toNat by omega]; exact h6
  obtain ⟨m, hm⟩ := hgt_pre h6
  obtain ⟨a, ha, hb⟩ := hgt_p hm
  rw [h3] at ha
  cases ha
  rw [show 0 + k = s0.toNat by omega, h7] at hb
  have hn : ∀ y, m = y → HP 2 (s0 + 1) y M := fun y hy => ⟨by omega, by omega, by rw [show (s0 + 1).toNat = k + 1 by omega, hm, hy]⟩
  rcases hg1_c hb with q | q | q
  · exact Or.inl ⟨hn _ q.2.2, by omega, by omega, by omega, trivial⟩
  · exact Or.inr (Or.inl ⟨hn _ q.2.2.2, by omega, by omega, by omega, trivial⟩)
  · have hq := hn _ q.2.2.2
    rcases (show s3 ≤ 96 ∨ (123 ≤ s3 ∧ s3 ≤ 125) ∨ 127 ≤ s3 by omega) with w | w | w
    · exact Or.inr (Or.inr (Or.inl ⟨hq, by omega, by omega, trivial⟩))
    · exact Or.inr (Or.inr (Or.inr (Or.inl ⟨hq, by omega, by omega, by omega, trivial⟩)))
    · exact Or.inr (Or.inr (Or.inr (Or.inr ⟨hq, by omega, by omega, trivial⟩)))
theorem rul_27 : Rul r_27 := by
  refine ⟨fun _ ρ M hm hB hF hG => ?_, fun gi gv hg => (by cases hg)⟩
  have H := cr_27 M (ρ 0) (ρ 1) (ρ 2) (ρ 3) (ρ 4) (hB _ List.mem_cons_self) (hB _ (List.mem_cons_of_mem _ List.mem_cons_self)) (hB _ (List.mem_cons_of_mem _ (List.mem_cons_of_mem _ List.mem_cons_self))) (hB _ (List.mem_cons_of_mem _ (List.mem_cons_of_mem _ (List.mem_cons_of_mem _ List.mem_cons_self)))) (hB _ (List.mem_cons_of_mem _ (List.mem_cons_of_mem _ (List.mem_cons_of_mem _ (List.mem_cons_of_mem _ List.mem_cons_self))))) (cvp 2 (x' := ((ρ 0))) (y' := ((ρ 2))) (by show 0 + (1 * ρ 0 + 0) = _; omega) (by show 0 + (1 * ρ 2 + 0) = _; omega) (hm _ List.mem_cons_self)) (cvp 2 (x' := ((ρ 1))) (y' := ((ρ 4))) (by show 0 + (1 * ρ 1 + 0) = _; omega) (by show 0 + (1 * ρ 4 + 0) = _; omega) (hm _ (List.mem_cons_of_mem _ List.mem_cons_self))) (cvm (c := 108) (by decide) (x' := ((ρ 0))) (y' := ((ρ 3))) (by show 0 + (1 * ρ 0 + 0) = _; omega) (by show 0 + (1 * ρ 3 + 0) = _; omega) (hm _ (List.mem_cons_of_mem _ (List.mem_cons_of_mem _ List.mem_cons_self)))) (by have h := hF _ List.mem_cons_self; have h : 0 ≤ (-1) + ((-1) * ρ 0 + (1 * ρ 1 + 0)) := h; omega) hG
  rcases H with H | H
  · skip
    obtain ⟨k0, f0, f1, f2, -⟩ := H
    exact ⟨_, List.mem_cons_self, ρ, fun _ _ => rfl, (okM_c (pvp 2 (by show 1 + (1 * ρ 0 + 0) = _; omega) (by show 0 + (1 * ρ 2 + 0) = _; omega) k0) okM_n), okB_n, (okF_c (by show 0 ≤ 126 + ((-1) * ρ 3 + 0); omega) (okF_c (by show 0 ≤ (-126) + (1 * ρ 3 + 0); omega) (okF_c (by show 0 ≤ (-1) + (1 * ρ 2 + 0); omega) okF_n)))⟩
  rcases H with H | H
  · skip
    obtain ⟨k0, f0, f1, f2, -⟩ := H
    exact ⟨_, (List.mem_cons_of_mem _ List.mem_cons_self), ρ, fun _ _ => rfl, (okM_c (pvp 2 (by show 1 + (1 * ρ 0 + 0) = _; omega) (by show 1 + (1 * ρ 2 + 0) = _; omega) k0) okM_n), okB_n, (okF_c (by show 0 ≤ (-97) + (1 * ρ 3 + 0); omega) (okF_c (by show 0 ≤ 122 + ((-1) * ρ 3 + 0); omega) (okF_c (by show 0 ≤ 59 + ((-1) * ρ 2 + 0); omega) okF_n)))⟩
  rcases H with H | H
  · skip
    obtain ⟨k0, f0, f1, -⟩ := H
    exact ⟨_, (List.mem_cons_of_mem _ (List.mem_cons_of_mem _ List.mem_cons_self)), ρ, fun _ _ => rfl, (okM_c (pvp 2 (by show 1 + (1 * ρ 0 + 0) = _; omega) (by show (-1) + (1 * ρ 2 + 0) = _; omega) k0) okM_n), okB_n, (okF_c (by show 0 ≤ 96 + ((-1) * ρ 3 + 0); omega) (okF_c (by show 0 ≤ (-2) + (1 * ρ 2 + 0); omega) okF_n))⟩
  rcases H with H | H
  · skip
    obtain ⟨k0, f0, f1, f2, -⟩ := H
    exact ⟨_, (List.mem_cons_of_mem _ (List.mem_cons_of_mem _ (List.mem_cons_of_mem _ List.mem_cons_self))), ρ, fun _ _ => rfl, (okM_c (pvp 2 (by show 1 + (1 * ρ 0 + 0) = _; omega) (by show (-1) + (1 * ρ 2 + 0) = _; omega) k0) okM_n), okB_n, (okF_c (by show 0 ≤ (-123) + (1 * ρ 3 + 0); omega) (okF_c (by show 0 ≤ 125 + ((-1) * ρ 3 + 0); omega) (okF_c (by show 0 ≤ (-2) + (1 * ρ 2 + 0); omega) okF_n)))⟩
  · skip
    obtain ⟨k0, f0, f1, -⟩ := H
    exact ⟨_, (List.mem_cons_of_mem _ (List.mem_cons_of_mem _ (List.mem_cons_of_mem _ (List.mem_cons_of_mem _ List.mem_cons_self)))), ρ, fun _ _ => rfl, (okM_c (pvp 2 (by show 1 + (1 * ρ 0 + 0) = _; omega) (by show (-1) + (1 * ρ 2 + 0) = _; omega) k0) okM_n), okB_n, (okF_c (by show 0 ≤ (-127) + (1 * ρ 3 + 0); omega) (okF_c (by show 0 ≤ (-2) + (1 * ρ 2 + 0); omega) okF_n))⟩
-- lkout1
theorem cr_28 (M : pM) (s0 s1 : Int) (b0 : 0 ≤ s0 ∧ s0 ≤ 300) (b1 : 0 ≤ s1 ∧ s1 ≤ 1) (m0 : HP 7 (0 : Int) (0 : Int) M) (m1 : (0 ≤ (80 : Int) ∧ M 61 (80 : Int).toNat = (1 : Int))) (m2 : (0 ≤ (1 : Int) ∧ M 110 (1 : Int).toNat = (s0))) (m3 : (0 ≤ (85 : Int) ∧ M 61 (85 : Int).toNat = (s1))) (hG : gI M) : (0 ≤ ((-1) * s1) ∧ 0 ≤ (s1) ∧ True) ∨ (∃ t0 : Int, 0 ≤ t0 ∧ t0 ≤ 60 ∧ HP 3 (s0 + 300) (t0) M ∧ 0 ≤ ((-1) * s1 + 1) ∧ 0 ≤ (s1 - 1) ∧ 0 ≤ ((-1) * s0 + 299) ∧ True) := by
  obtain ⟨-, h1⟩ := m1
  obtain ⟨-, h2⟩ := m2
  obtain ⟨-, h3⟩ := m3
  have h1 : M 61 80 = 1 := h1
  have h2 : M 110 1 = s0 := h2
  have h3 : M 61 85 = s1 := h3
  have m0 : M 61 85 ≠ 0 → ∃ H : Int, 0 ≤ H ∧ H ≤ 60 ∧ ((M 61 80 = 0 ∧ 0 ≤ M 110 0 ∧ M 110 0 ≤ 299 ∧ hgt M 0 (M 110 0).toNat = some H) ∨ (M 61 80 = 1 ∧ 0 ≤ M 110 1 ∧ M 110 1 ≤ 299 ∧ hgt M 300 (M 110 1).toNat = some H)) := m0
  by_cases hz : s1 = 0
  · exact Or.inl ⟨by omega, by omega, trivial⟩
  · obtain ⟨H, a1, a2, a3⟩ := m0 (by omega)
    rcases a3 with ⟨a3, a4, a5, a6⟩ | ⟨a3, a4, a5, a6⟩
    · omega
    · rw [h2] at a4 a5 a6
      exact Or.inr ⟨H, a1, a2, ⟨by omega, by omega, by rw [show (s0 + 300 - 300).toNat = s0.toNat by omega]; exact a6⟩, by omega, by omega, by omega, trivial⟩
theorem rul_28 : Rul r_28 := by
  refine ⟨fun _ ρ M hm hB hF hG => ?_, fun gi gv hg => (by cases hg)⟩
  have H := cr_28 M (ρ 0) (ρ 1) (hB _ List.mem_cons_self) (hB _ (List.mem_cons_of_mem _ List.mem_cons_self)) (cvp 7 (x' := (0 : Int)) (y' := (0 : Int)) (by show 0 + 0 = _; omega) (by show 0 + 0 = _; omega) (hm _ List.mem_cons_self)) (cvm (c := 61) (by decide) (x' := (80 : Int)) (y' := (1 : Int)) (by show 80 + 0 = _; omega) (by show 1 + 0 = _; omega) (hm _ (List.mem_cons_of_mem _ List.mem_cons_self))) (cvm (c := 110) (by decide) (x' := (1 : Int)) (y' := ((ρ 0))) (by show 1 + 0 = _; omega) (by show 0 + (1 * ρ 0 + 0) = _; omega) (hm _ (List.mem_cons_of_mem _ (List.mem_cons_of_mem _ List.mem_cons_self)))) (cvm (c := 61) (by decide) (x' := (85 : Int)) (y' := ((ρ 1))) (by show 85 + 0 = _; omega) (by show 0 + (1 * ρ 1 + 0) = _; omega) (hm _ (List.mem_cons_of_mem _ (List.mem_cons_of_mem _ (List.mem_cons_of_mem _ List.mem_cons_self))))) hG
  rcases H with H | H
  · skip
    obtain ⟨f0, f1, -⟩ := H
    exact ⟨_, List.mem_cons_self, ρ, fun _ _ => rfl, okM_n, okB_n, (okF_c (by show 0 ≤ 0 + ((-1) * ρ 1 + 0); omega) (okF_c (by show 0 ≤ 0 + (1 * ρ 1 + 0); omega) okF_n))⟩
  · skip
    obtain ⟨t0, u0, v0, k0, f0, f1, f2, -⟩ := H
    obtain ⟨ρ', ha, a0, a1, a2⟩ : ∃ ρ' : Nat → Int, agr 2 ρ ρ' ∧ ρ' 0 = ρ 0 ∧ ρ' 1 = ρ 1 ∧ ρ' 2 = t0 := ⟨fun s => if s = 2 then t0 else ρ s, fun s hs => by show (if s = 2 then t0 else ρ s) = _; rw [if_neg (by omega)], rfl, rfl, rfl⟩
    exact ⟨_, (List.mem_cons_of_mem _ List.mem_cons_self), ρ', ha, (okM_c (pvp 3 (by show 300 + (1 * ρ' 0 + 0) = _; omega) (by show 0 + (1 * ρ' 2 + 0) = _; omega) k0) okM_n), (okB_c (by omega) okB_n), (okF_c (by show 0 ≤ 1 + ((-1) * ρ' 1 + 0); omega) (okF_c (by show 0 ≤ (-1) + (1 * ρ' 1 + 0); omega) (okF_c (by show 0 ≤ 299 + ((-1) * ρ' 0 + 0); omega) okF_n)))⟩
-- lkin1
theorem cr_29 (M : pM) (s0 s1 : Int) (b0 : 0 ≤ s0 ∧ s0 ≤ 300) (b1 : 0 ≤ s1 ∧ s1 ≤ 60) (m0 : (0 ≤ (80 : Int) ∧ M 61 (80 : Int).toNat = (1 : Int))) (m1 : (0 ≤ (1 : Int) ∧ M 110 (1 : Int).toNat = (s0))) (m2 : HP 3 (s0 + 300) (s1) M) (hG : gI M) : (HP 7 (0 : Int) (0 : Int) M ∧ True) := by
  obtain ⟨-, h1⟩ := m0
  obtain ⟨-, h2⟩ := m1
  obtain ⟨h3, h4, h5⟩ := m2
  have h1 : M 61 80 = 1 := h1
  have h2 : M 110 1 = s0 := h2
  refine ⟨fun _ => ⟨s1, b1.1, b1.2, Or.inr ⟨h1, by omega, by omega, ?_⟩⟩, trivial⟩
  rw [h2]
  rw [show (s0 + 300 - 300).toNat = s0.toNat by omega] at h5
  exact h5
theorem rul_29 : Rul r_29 := by
  refine ⟨fun _ ρ M hm hB hF hG => ?_, fun gi gv hg => (by cases hg)⟩
  have H := cr_29 M (ρ 0) (ρ 1) (hB _ List.mem_cons_self) (hB _ (List.mem_cons_of_mem _ List.mem_cons_self)) (cvm (c := 61) (by decide) (x' := (80 : Int)) (y' := (1 : Int)) (by show 80 + 0 = _; omega) (by show 1 + 0 = _; omega) (hm _ List.mem_cons_self)) (cvm (c := 110) (by decide) (x' := (1 : Int)) (y' := ((ρ 0))) (by show 1 + 0 = _; omega) (by show 0 + (1 * ρ 0 + 0) = _; omega) (hm _ (List.mem_cons_of_mem _ List.mem_cons_self))) (cvp 3 (x' := ((ρ 0) + 300)) (y' := ((ρ 1))) (by show 300 + (1 * ρ 0 + 0) = _; omega) (by show 0 + (1 * ρ 1 + 0) = _; omega) (hm _ (List.mem_cons_of_mem _ (List.mem_cons_of_mem _ List.mem_cons_self)))) hG
  obtain ⟨k0, -⟩ := H
  exact ⟨_, List.mem_cons_self, ρ, fun _ _ => rfl, (okM_c (pvp 7 (by show 0 + 0 = _; omega) (by show 0 + 0 = _; omega) k0) okM_n), okB_n, okF_n⟩
-- chs1
theorem cr_30 (M : pM) (s0 s1 s2 s3 s4 : Int) (b0 : 300 ≤ s0 ∧ s0 ≤ 599) (b1 : 300 ≤ s1 ∧ s1 ≤ 599) (b2 : 0 ≤ s2 ∧ s2 ≤ 60) (b3 : (-2147483648) ≤ s3 ∧ s3 ≤ 2147483647) (b4 : 0 ≤ s4 ∧ s4 ≤ 60) (m0 : HP 3 (s0) (s2) M) (m1 : HP 3 (s1) (s4) M) (m2 : (0 ≤ (s0) ∧ M 108 (s0).toNat = (s3))) (f0 : 0 ≤ ((-1) * s0 + s1 - 1)) (hG : gI M) : (HP 3 (s0 + 1) (s2) M ∧ 0 ≤ ((-1) * s3 + 126) ∧ 0 ≤ (s3 - 126) ∧ 0 ≤ (s2 - 1) ∧ True) ∨ (HP 3 (s0 + 1) (s2 + 1) M ∧ 0 ≤ (s3 - 97) ∧ 0 ≤ ((-1) * s3 + 122) ∧ 0 ≤ ((-1) * s2 + 59) ∧ True) ∨ (HP 3 (s0 + 1) (s2 - 1) M ∧ 0 ≤ ((-1) * s3 + 96) ∧ 0 ≤ (s2 - 2) ∧ True) ∨ (HP 3 (s0 + 1) (s2 - 1) M ∧ 0 ≤ (s3 - 123) ∧ 0 ≤ ((-1) * s3 + 125) ∧ 0 ≤ (s2 - 2) ∧ True) ∨ (HP 3 (s0 + 1) (s2 - 1) M ∧ 0 ≤ (s3 - 127) ∧ 0 ≤ (s2 - 2) ∧ True) := by
  obtain ⟨h1, h2, h3⟩ := m0
  obtain ⟨h4, h5, h6⟩ := m1
  obtain ⟨-, h7⟩ := m2
  have e0 : ∃ k, k = (s0 - 300).toNat := ⟨_, rfl⟩
  obtain ⟨k, hk⟩ := e0
  rw [← hk] at h3
  have h6 : hgt M 300 (k + 1 + ((s1 - 300).toNat - (k + 1))) = some s4 := by rw [show k + 1 + ((s1 - 300).toNat - (k + 1)) = (s1 - 300).toNat by omega]; exact h6
  obtain ⟨m, hm⟩ := hgt_pre h6
  obtain ⟨a, ha, hb⟩ := hgt_p hm
  rw [h3] at ha
  cases ha
  rw [show 300 + k = s0.toNat by omega, h7] at hb
  have hn : ∀ y, m = y → HP 3 (s0 + 1) y M := fun y hy => ⟨by omega, by omega, by rw [show (s0 + 1 - 300).toNat = k + 1 by omega, hm, hy]⟩
  rcases hg1_c hb with q | q | q
  · exact Or.inl ⟨hn _ q.2.2, by omega, by omega, by omega, trivial⟩
  · exact Or.inr (Or.inl ⟨hn _ q.2.2.2, by omega, by omega, by omega, trivial⟩)
  · have hq := hn _ q.2.2.2
    rcases (show s3 ≤ 96 ∨ (123 ≤ s3 ∧ s3 ≤ 125) ∨ 127 ≤ s3 by omega) with w | w | w
    · exact Or.inr (Or.inr (Or.inl ⟨hq, by omega, by omega, trivial⟩))
    · exact Or.inr (Or.inr (Or.inr (Or.inl ⟨hq, by omega, by omega, by omega, trivial⟩)))
    · exact Or.inr (Or.inr (Or.inr (Or.inr ⟨hq, by omega, by omega, trivial⟩)))
theorem rul_30 : Rul r_30 := by
  refine ⟨fun _ ρ M hm hB hF hG => ?_, fun gi gv hg => (by cases hg)⟩
  have H := cr_30 M (ρ 0) (ρ 1) (ρ 2) (ρ 3) (ρ 4) (hB _ List.mem_cons_self) (hB _ (List.mem_cons_of_mem _ List.mem_cons_self)) (hB _ (List.mem_cons_of_mem _ (List.mem_cons_of_mem _ List.mem_cons_self))) (hB _ (List.mem_cons_of_mem _ (List.mem_cons_of_mem _ (List.mem_cons_of_mem _ List.mem_cons_self)))) (hB _ (List.mem_cons_of_mem _ (List.mem_cons_of_mem _ (List.mem_cons_of_mem _ (List.mem_cons_of_mem _ List.mem_cons_self))))) (cvp 3 (x' := ((ρ 0))) (y' := ((ρ 2))) (by show 0 + (1 * ρ 0 + 0) = _; omega) (by show 0 + (1 * ρ 2 + 0) = _; omega) (hm _ List.mem_cons_self)) (cvp 3 (x' := ((ρ 1))) (y' := ((ρ 4))) (by show 0 + (1 * ρ 1 + 0) = _; omega) (by show 0 + (1 * ρ 4 + 0) = _; omega) (hm _ (List.mem_cons_of_mem _ List.mem_cons_self))) (cvm (c := 108) (by decide) (x' := ((ρ 0))) (y' := ((ρ 3))) (by show 0 + (1 * ρ 0 + 0) = _; omega) (by show 0 + (1 * ρ 3 + 0) = _; omega) (hm _ (List.mem_cons_of_mem _ (List.mem_cons_of_mem _ List.mem_cons_self)))) (by have h := hF _ List.mem_cons_self; have h : 0 ≤ (-1) + ((-1) * ρ 0 + (1 * ρ 1 + 0)) := h; omega) hG
  rcases H with H | H
  · skip
    obtain ⟨k0, f0, f1, f2, -⟩ := H
    exact ⟨_, List.mem_cons_self, ρ, fun _ _ => rfl, (okM_c (pvp 3 (by show 1 + (1 * ρ 0 + 0) = _; omega) (by show 0 + (1 * ρ 2 + 0) = _; omega) k0) okM_n), okB_n, (okF_c (by show 0 ≤ 126 + ((-1) * ρ 3 + 0); omega) (okF_c (by show 0 ≤ (-126) + (1 * ρ 3 + 0); omega) (okF_c (by show 0 ≤ (-1) + (1 * ρ 2 + 0); omega) okF_n)))⟩
  rcases H with H | H
  · skip
    obtain ⟨k0, f0, f1, f2, -⟩ := H
    exact ⟨_, (List.mem_cons_of_mem _ List.mem_cons_self), ρ, fun _ _ => rfl, (okM_c (pvp 3 (by show 1 + (1 * ρ 0 + 0) = _; omega) (by show 1 + (1 * ρ 2 + 0) = _; omega) k0) okM_n), okB_n, (okF_c (by show 0 ≤ (-97) + (1 * ρ 3 + 0); omega) (okF_c (by show 0 ≤ 122 + ((-1) * ρ 3 + 0); omega) (okF_c (by show 0 ≤ 59 + ((-1) * ρ 2 + 0); omega) okF_n)))⟩
  rcases H with H | H
  · skip
    obtain ⟨k0, f0, f1, -⟩ := H
    exact ⟨_, (List.mem_cons_of_mem _ (List.mem_cons_of_mem _ List.mem_cons_self)), ρ, fun _ _ => rfl, (okM_c (pvp 3 (by show 1 + (1 * ρ 0 + 0) = _; omega) (by show (-1) + (1 * ρ 2 + 0) = _; omega) k0) okM_n), okB_n, (okF_c (by show 0 ≤ 96 + ((-1) * ρ 3 + 0); omega) (okF_c (by show 0 ≤ (-2) + (1 * ρ 2 + 0); omega) okF_n))⟩
  rcases H with H | H
  · skip
    obtain ⟨k0, f0, f1, f2, -⟩ := H
    exact ⟨_, (List.mem_cons_of_mem _ (List.mem_cons_of_mem _ (List.mem_cons_of_mem _ List.mem_cons_self))), ρ, fun _ _ => rfl, (okM_c (pvp 3 (by show 1 + (1 * ρ 0 + 0) = _; omega) (by show (-1) + (1 * ρ 2 + 0) = _; omega) k0) okM_n), okB_n, (okF_c (by show 0 ≤ (-123) + (1 * ρ 3 + 0); omega) (okF_c (by show 0 ≤ 125 + ((-1) * ρ 3 + 0); omega) (okF_c (by show 0 ≤ (-2) + (1 * ρ 2 + 0); omega) okF_n)))⟩
  · skip
    obtain ⟨k0, f0, f1, -⟩ := H
    exact ⟨_, (List.mem_cons_of_mem _ (List.mem_cons_of_mem _ (List.mem_cons_of_mem _ (List.mem_cons_of_mem _ List.mem_cons_self)))), ρ, fun _ _ => rfl, (okM_c (pvp 3 (by show 1 + (1 * ρ 0 + 0) = _; omega) (by show (-1) + (1 * ρ 2 + 0) = _; omega) k0) okM_n), okB_n, (okF_c (by show 0 ≤ (-127) + (1 * ρ 3 + 0); omega) (okF_c (by show 0 ≤ (-2) + (1 * ρ 2 + 0); omega) okF_n))⟩
-- lkin
theorem cr_31 (M : pM) (m0 : (0 ≤ (85 : Int) ∧ M 61 (85 : Int).toNat = (0 : Int))) (hG : gI M) : (HP 7 (0 : Int) (0 : Int) M ∧ True) := by
  have h : M 61 85 = 0 := m0.2
  exact ⟨fun h' => absurd h h', trivial⟩
theorem rul_31 : Rul r_31 := by
  refine ⟨fun _ ρ M hm hB hF hG => ?_, fun gi gv hg => (by cases hg)⟩
  have H := cr_31 M (cvm (c := 61) (by decide) (x' := (85 : Int)) (y' := (0 : Int)) (by show 85 + 0 = _; omega) (by show 0 + 0 = _; omega) (hm _ List.mem_cons_self)) hG
  obtain ⟨k0, -⟩ := H
  exact ⟨_, List.mem_cons_self, ρ, fun _ _ => rfl, (okM_c (pvp 7 (by show 0 + 0 = _; omega) (by show 0 + 0 = _; omega) k0) okM_n), okB_n, okF_n⟩
-- cs
theorem cr_32 (M : pM) (s0 s1 : Int) (b0 : 0 ≤ s0 ∧ s0 ≤ 24) (b1 : 0 ≤ s1 ∧ s1 ≤ 24) (hG : gI M) : (0 ≤ ((-1) * s0 + s1 - 1) ∧ True) ∨ (0 ≤ (s0 + (-1) * s1) ∧ True) := by
  by_cases h : s0 ≤ s1 - 1
  · exact Or.inl ⟨by omega, trivial⟩
  · exact Or.inr ⟨by omega, trivial⟩
theorem rul_32 : Rul r_32 := by
  refine ⟨fun _ ρ M hm hB hF hG => ?_, fun gi gv hg => (by cases hg)⟩
  have H := cr_32 M (ρ 0) (ρ 1) (hB _ List.mem_cons_self) (hB _ (List.mem_cons_of_mem _ List.mem_cons_self)) hG
  rcases H with H | H
  · skip
    obtain ⟨f0, -⟩ := H
    exact ⟨_, List.mem_cons_self, ρ, fun _ _ => rfl, okM_n, okB_n, (okF_c (by show 0 ≤ (-1) + ((-1) * ρ 0 + (1 * ρ 1 + 0)); omega) okF_n)⟩
  · skip
    obtain ⟨f0, -⟩ := H
    exact ⟨_, (List.mem_cons_of_mem _ List.mem_cons_self), ρ, fun _ _ => rfl, okM_n, okB_n, (okF_c (by show 0 ≤ 0 + (1 * ρ 0 + ((-1) * ρ 1 + 0)); omega) okF_n)⟩
-- dpz
theorem cr_33 (M : pM) (m0 : (0 ≤ (43 : Int) ∧ M 61 (43 : Int).toNat = (-1 : Int))) (hG : gI M) : (HP 8 (0 : Int) (0 : Int) M ∧ True) := by
  have h : M 61 43 = -1 := m0.2
  exact ⟨fun q => by omega, trivial⟩
theorem rul_33 : Rul r_33 := by
  refine ⟨fun _ ρ M hm hB hF hG => ?_, fun gi gv hg => (by cases hg)⟩
  have H := cr_33 M (cvm (c := 61) (by decide) (x' := (43 : Int)) (y' := (-1 : Int)) (by show 43 + 0 = _; omega) (by show (-1) + 0 = _; omega) (hm _ List.mem_cons_self)) hG
  obtain ⟨k0, -⟩ := H
  exact ⟨_, List.mem_cons_self, ρ, fun _ _ => rfl, (okM_c (pvp 8 (by show 0 + 0 = _; omega) (by show 0 + 0 = _; omega) k0) okM_n), okB_n, okF_n⟩
-- nf1
theorem cr_34 (M : pM) (s0 s1 s2 s3 s4 : Int) (b0 : 0 ≤ s0 ∧ s0 ≤ 36) (b1 : 0 ≤ s1 ∧ s1 ≤ 63) (b2 : 0 ≤ s2 ∧ s2 ≤ 40) (b3 : 0 ≤ s3 ∧ s3 ≤ 3) (b4 : 0 ≤ s4 ∧ s4 ≤ 3) (m0 : (0 ≤ (40 : Int) ∧ M 61 (40 : Int).toNat = (s4))) (f0 : 0 ≤ ((-1) * s3 + s4 - 1)) (hG : gI M) : (HP 20 (10496 * s0 + 164 * s1 + 4 * s2 + s3) (0 : Int) M ∧ True) := by
  have e : M 61 40 = s4 := m0.2
  refine ⟨fun t c h r hr hx hf => ?_, trivial⟩
  have := spo_inj (t := s0) (c := s1) (h := s2) (r := s3) ⟨b0, b1, b2, b3⟩ hr hx
  have := hf.1
  omega
theorem rul_34 : Rul r_34 := by
  refine ⟨fun _ ρ M hm hB hF hG => ?_, fun gi gv hg => (by cases hg)⟩
  have H := cr_34 M (ρ 0) (ρ 1) (ρ 2) (ρ 3) (ρ 4) (hB _ List.mem_cons_self) (hB _ (List.mem_cons_of_mem _ List.mem_cons_self)) (hB _ (List.mem_cons_of_mem _ (List.mem_cons_of_mem _ List.mem_cons_self))) (hB _ (List.mem_cons_of_mem _ (List.mem_cons_of_mem _ (List.mem_cons_of_mem _ List.mem_cons_self)))) (hB _ (List.mem_cons_of_mem _ (List.mem_cons_of_mem _ (List.mem_cons_of_mem _ (List.mem_cons_of_mem _ List.mem_cons_self))))) (cvm (c := 61) (by decide) (x' := (40 : Int)) (y' := ((ρ 4))) (by show 40 + 0 = _; omega) (by show 0 + (1 * ρ 4 + 0) = _; omega) (hm _ List.mem_cons_self)) (by have h := hF _ List.mem_cons_self; have h : 0 ≤ (-1) + ((-1) * ρ 3 + (1 * ρ 4 + 0)) := h; omega) hG
  obtain ⟨k0, -⟩ := H
  exact ⟨_, List.mem_cons_self, ρ, fun _ _ => rfl, (okM_c (pvp 20 (by show 0 + (10496 * ρ 0 + (164 * ρ 1 + (4 * ρ 2 + (1 * ρ 3 + 0)))) = _; omega) (by show 0 + 0 = _; omega) k0) okM_n), okB_n, okF_n⟩
-- nf3
theorem cr_35 (M : pM) (s0 s1 s2 s3 s4 s5 : Int) (b0 : 0 ≤ s0 ∧ s0 ≤ 36) (b1 : 0 ≤ s1 ∧ s1 ≤ 63) (b2 : 0 ≤ s2 ∧ s2 ≤ 40) (b3 : 0 ≤ s3 ∧ s3 ≤ 3) (b4 : 0 ≤ s4 ∧ s4 ≤ 3) (b5 : 0 ≤ s5 ∧ s5 ≤ 63) (m0 : (0 ≤ (40 : Int) ∧ M 61 (40 : Int).toNat = (s4))) (m1 : (0 ≤ (s4) ∧ M 87 (s4).toNat = (s5))) (f0 : 0 ≤ ((-1) * s1 + s5 - 1)) (hG : gI M) : (HP 20 (10496 * s0 + 164 * s1 + 4 * s2 + s3) (0 : Int) M ∧ True) := by
  have e : M 61 40 = s4 := m0.2
  refine ⟨fun t c h r hr hx hf => ?_, trivial⟩
  have := spo_inj (t := s0) (c := s1) (h := s2) (r := s3) ⟨b0, b1, b2, b3⟩ hr hx
  have h2 := hf.2.1
  rw [e, m1.2] at h2
  omega
theorem rul_35 : Rul r_35 := by
  refine ⟨fun _ ρ M hm hB hF hG => ?_, fun gi gv hg => (by cases hg)⟩
  have H := cr_35 M (ρ 0) (ρ 1) (ρ 2) (ρ 3) (ρ 4) (ρ 5) (hB _ List.mem_cons_self) (hB _ (List.mem_cons_of_mem _ List.mem_cons_self)) (hB _ (List.mem_cons_of_mem _ (List.mem_cons_of_mem _ List.mem_cons_self))) (hB _ (List.mem_cons_of_mem _ (List.mem_cons_of_mem _ (List.mem_cons_of_mem _ List.mem_cons_self)))) (hB _ (List.mem_cons_of_mem _ (List.mem_cons_of_mem _ (List.mem_cons_of_mem _ (List.mem_cons_of_mem _ List.mem_cons_self))))) (hB _ (List.mem_cons_of_mem _ (List.mem_cons_of_mem _ (List.mem_cons_of_mem _ (List.mem_cons_of_mem _ (List.mem_cons_of_mem _ List.mem_cons_self)))))) (cvm (c := 61) (by decide) (x' := (40 : Int)) (y' := ((ρ 4))) (by show 40 + 0 = _; omega) (by show 0 + (1 * ρ 4 + 0) = _; omega) (hm _ List.mem_cons_self)) (cvm (c := 87) (by decide) (x' := ((ρ 4))) (y' := ((ρ 5))) (by show 0 + (1 * ρ 4 + 0) = _; omega) (by show 0 + (1 * ρ 5 + 0) = _; omega) (hm _ (List.mem_cons_of_mem _ List.mem_cons_self))) (by have h := hF _ List.mem_cons_self; have h : 0 ≤ (-1) + ((-1) * ρ 1 + (1 * ρ 5 + 0)) := h; omega) hG
  obtain ⟨k0, -⟩ := H
  exact ⟨_, List.mem_cons_self, ρ, fun _ _ => rfl, (okM_c (pvp 20 (by show 0 + (10496 * ρ 0 + (164 * ρ 1 + (4 * ρ 2 + (1 * ρ 3 + 0)))) = _; omega) (by show 0 + 0 = _; omega) k0) okM_n), okB_n, okF_n⟩
-- nf4
theorem cr_36 (M : pM) (s0 s1 s2 s3 s4 s5 : Int) (b0 : 0 ≤ s0 ∧ s0 ≤ 36) (b1 : 0 ≤ s1 ∧ s1 ≤ 63) (b2 : 0 ≤ s2 ∧ s2 ≤ 40) (b3 : 0 ≤ s3 ∧ s3 ≤ 3) (b4 : 0 ≤ s4 ∧ s4 ≤ 3) (b5 : 0 ≤ s5 ∧ s5 ≤ 63) (m0 : (0 ≤ (40 : Int) ∧ M 61 (40 : Int).toNat = (s4))) (m1 : (0 ≤ (s4) ∧ M 87 (s4).toNat = (s5))) (f0 : 0 ≤ (s1 + (-1) * s5 - 1)) (hG : gI M) : (HP 20 (10496 * s0 + 164 * s1 + 4 * s2 + s3) (0 : Int) M ∧ True) := by
  have e : M 61 40 = s4 := m0.2
  refine ⟨fun t c h r hr hx hf => ?_, trivial⟩
  have := spo_inj (t := s0) (c := s1) (h := s2) (r := s3) ⟨b0, b1, b2, b3⟩ hr hx
  have h2 := hf.2.1
  rw [e, m1.2] at h2
  omega
theorem rul_36 : Rul r_36 := by
  refine ⟨fun _ ρ M hm hB hF hG => ?_, fun gi gv hg => (by cases hg)⟩
  have H := cr_36 M (ρ 0) (ρ 1) (ρ 2) (ρ 3) (ρ 4) (ρ 5) (hB _ List.mem_cons_self) (hB _ (List.mem_cons_of_mem _ List.mem_cons_self)) (hB _ (List.mem_cons_of_mem _ (List.mem_cons_of_mem _ List.mem_cons_self))) (hB _ (List.mem_cons_of_mem _ (List.mem_cons_of_mem _ (List.mem_cons_of_mem _ List.mem_cons_self)))) (hB _ (List.mem_cons_of_mem _ (List.mem_cons_of_mem _ (List.mem_cons_of_mem _ (List.mem_cons_of_mem _ List.mem_cons_self))))) (hB _ (List.mem_cons_of_mem _ (List.mem_cons_of_mem _ (List.mem_cons_of_mem _ (List.mem_cons_of_mem _ (List.mem_cons_of_mem _ List.mem_cons_self)))))) (cvm (c := 61) (by decide) (x' := (40 : Int)) (y' := ((ρ 4))) (by show 40 + 0 = _; omega) (by show 0 + (1 * ρ 4 + 0) = _; omega) (hm _ List.mem_cons_self)) (cvm (c := 87) (by decide) (x' := ((ρ 4))) (y' := ((ρ 5))) (by show 0 + (1 * ρ 4 + 0) = _; omega) (by show 0 + (1 * ρ 5 + 0) = _; omega) (hm _ (List.mem_cons_of_mem _ List.mem_cons_self))) (by have h := hF _ List.mem_cons_self; have h : 0 ≤ (-1) + (1 * ρ 1 + ((-1) * ρ 5 + 0)) := h; omega) hG
  obtain ⟨k0, -⟩ := H
  exact ⟨_, List.mem_cons_self, ρ, fun _ _ => rfl, (okM_c (pvp 20 (by show 0 + (10496 * ρ 0 + (164 * ρ 1 + (4 * ρ 2 + (1 * ρ 3 + 0)))) = _; omega) (by show 0 + 0 = _; omega) k0) okM_n), okB_n, okF_n⟩
-- nf5
theorem cr_37 (M : pM) (s0 s1 s2 s3 s4 : Int) (b0 : 0 ≤ s0 ∧ s0 ≤ 36) (b1 : 0 ≤ s1 ∧ s1 ≤ 63) (b2 : 0 ≤ s2 ∧ s2 ≤ 40) (b3 : 0 ≤ s3 ∧ s3 ≤ 3) (b4 : 0 ≤ s4 ∧ s4 ≤ 40) (m0 : (0 ≤ (44 : Int) ∧ M 61 (44 : Int).toNat = (s4))) (f0 : 0 ≤ ((-1) * s2 + s4 - 1)) (hG : gI M) : (HP 20 (10496 * s0 + 164 * s1 + 4 * s2 + s3) (0 : Int) M ∧ True) := by
  have e : M 61 44 = s4 := m0.2
  refine ⟨fun t c h r hr hx hf => ?_, trivial⟩
  have := spo_inj (t := s0) (c := s1) (h := s2) (r := s3) ⟨b0, b1, b2, b3⟩ hr hx
  have := hf.2.2
  omega
theorem rul_37 : Rul r_37 := by
  refine ⟨fun _ ρ M hm hB hF hG => ?_, fun gi gv hg => (by cases hg)⟩
  have H := cr_37 M (ρ 0) (ρ 1) (ρ 2) (ρ 3) (ρ 4) (hB _ List.mem_cons_self) (hB _ (List.mem_cons_of_mem _ List.mem_cons_self)) (hB _ (List.mem_cons_of_mem _ (List.mem_cons_of_mem _ List.mem_cons_self))) (hB _ (List.mem_cons_of_mem _ (List.mem_cons_of_mem _ (List.mem_cons_of_mem _ List.mem_cons_self)))) (hB _ (List.mem_cons_of_mem _ (List.mem_cons_of_mem _ (List.mem_cons_of_mem _ (List.mem_cons_of_mem _ List.mem_cons_self))))) (cvm (c := 61) (by decide) (x' := (44 : Int)) (y' := ((ρ 4))) (by show 44 + 0 = _; omega) (by show 0 + (1 * ρ 4 + 0) = _; omega) (hm _ List.mem_cons_self)) (by have h := hF _ List.mem_cons_self; have h : 0 ≤ (-1) + ((-1) * ρ 2 + (1 * ρ 4 + 0)) := h; omega) hG
  obtain ⟨k0, -⟩ := H
  exact ⟨_, List.mem_cons_self, ρ, fun _ _ => rfl, (okM_c (pvp 20 (by show 0 + (10496 * ρ 0 + (164 * ρ 1 + (4 * ρ 2 + (1 * ρ 3 + 0)))) = _; omega) (by show 0 + 0 = _; omega) k0) okM_n), okB_n, okF_n⟩
-- dpo0
theorem cr_38 (M : pM) (s0 : Int) (b0 : (-1) ≤ s0 ∧ s0 ≤ 3) (m0 : HP 8 (0 : Int) (0 : Int) M) (m1 : (0 ≤ (34 : Int) ∧ M 61 (34 : Int).toNat = (0 : Int))) (m2 : (0 ≤ (43 : Int) ∧ M 61 (43 : Int).toNat = (s0))) (hG : gI M) : (0 ≤ ((-1) * s0 - 1) ∧ True) ∨ (HP 9 (388352 : Int) (0 : Int) M ∧ 0 ≤ (s0) ∧ True) := by
  have e1 : M 61 34 = 0 := m1.2
  have e2 : M 61 43 = s0 := m2.2
  have m0 : 0 ≤ M 61 43 → (M 61 34 = 0 ∧ pds 0 M 388352) ∨ (M 61 34 = 1 ∧ pds 1 M 388352) := m0
  by_cases h : s0 ≤ -1
  · exact Or.inl ⟨by omega, trivial⟩
  · refine Or.inr ⟨?_, by omega, trivial⟩
    rcases m0 (by omega) with q | q
    · exact q.2
    · omega
theorem rul_38 : Rul r_38 := by
  refine ⟨fun _ ρ M hm hB hF hG => ?_, fun gi gv hg => (by cases hg)⟩
  have H := cr_38 M (ρ 0) (hB _ List.mem_cons_self) (cvp 8 (x' := (0 : Int)) (y' := (0 : Int)) (by show 0 + 0 = _; omega) (by show 0 + 0 = _; omega) (hm _ List.mem_cons_self)) (cvm (c := 61) (by decide) (x' := (34 : Int)) (y' := (0 : Int)) (by show 34 + 0 = _; omega) (by show 0 + 0 = _; omega) (hm _ (List.mem_cons_of_mem _ List.mem_cons_self))) (cvm (c := 61) (by decide) (x' := (43 : Int)) (y' := ((ρ 0))) (by show 43 + 0 = _; omega) (by show 0 + (1 * ρ 0 + 0) = _; omega) (hm _ (List.mem_cons_of_mem _ (List.mem_cons_of_mem _ List.mem_cons_self)))) hG
  rcases H with H | H
  · skip
    obtain ⟨f0, -⟩ := H
    exact ⟨_, List.mem_cons_self, ρ, fun _ _ => rfl, okM_n, okB_n, (okF_c (by show 0 ≤ (-1) + ((-1) * ρ 0 + 0); omega) okF_n)⟩
  · skip
    obtain ⟨k0, f0, -⟩ := H
    exact ⟨_, (List.mem_cons_of_mem _ List.mem_cons_self), ρ, fun _ _ => rfl, (okM_c (pvp 9 (by show 388352 + 0 = _; omega) (by show 0 + 0 = _; omega) k0) okM_n), okB_n, (okF_c (by show 0 ≤ 0 + (1 * ρ 0 + 0); omega) okF_n)⟩
-- dpi0
theorem cr_39 (M : pM) (s0 : Int) (b0 : 388352 ≤ s0 ∧ s0 ≤ 388352) (m0 : HP 9 (s0) (0 : Int) M) (m1 : (0 ≤ (34 : Int) ∧ M 61 (34 : Int).toNat = (0 : Int))) (hG : gI M) : (HP 8 (0 : Int) (0 : Int) M ∧ True) := by
  have e1 : M 61 34 = 0 := m1.2
  have e0 : s0 = 388352 := by omega
  subst e0
  exact ⟨fun _ => Or.inl ⟨e1, m0⟩, trivial⟩
theorem rul_39 : Rul r_39 := by
  refine ⟨fun _ ρ M hm hB hF hG => ?_, fun gi gv hg => (by cases hg)⟩
  have H := cr_39 M (ρ 0) (hB _ List.mem_cons_self) (cvp 9 (x' := ((ρ 0))) (y' := (0 : Int)) (by show 0 + (1 * ρ 0 + 0) = _; omega) (by show 0 + 0 = _; omega) (hm _ List.mem_cons_self)) (cvm (c := 61) (by decide) (x' := (34 : Int)) (y' := (0 : Int)) (by show 34 + 0 = _; omega) (by show 0 + 0 = _; omega) (hm _ (List.mem_cons_of_mem _ List.mem_cons_self))) hG
  obtain ⟨k0, -⟩ := H
  exact ⟨_, List.mem_cons_self, ρ, fun _ _ => rfl, (okM_c (pvp 8 (by show 0 + 0 = _; omega) (by show 0 + 0 = _; omega) k0) okM_n), okB_n, okF_n⟩
-- pdx0
theorem cr_40 (M : pM) (s0 s1 : Int) (b0 : 0 ≤ s0 ∧ s0 ≤ 388352) (b1 : 0 ≤ s1 ∧ s1 ≤ 388352) (m0 : HP 9 (s0) (0 : Int) M) (f0 : 0 ≤ ((-1) * s0 + s1)) (f1 : 0 ≤ (s0 + (-1) * s1)) (hG : gI M) : (HP 9 (s1) (0 : Int) M ∧ True) := by
  have e0 : s1 = s0 := by omega
  subst e0
  exact ⟨m0, trivial⟩
theorem rul_40 : Rul r_40 := by
  refine ⟨fun _ ρ M hm hB hF hG => ?_, fun gi gv hg => (by cases hg)⟩
  have H := cr_40 M (ρ 0) (ρ 1) (hB _ List.mem_cons_self) (hB _ (List.mem_cons_of_mem _ List.mem_cons_self)) (cvp 9 (x' := ((ρ 0))) (y' := (0 : Int)) (by show 0 + (1 * ρ 0 + 0) = _; omega) (by show 0 + 0 = _; omega) (hm _ List.mem_cons_self)) (by have h := hF _ List.mem_cons_self; have h : 0 ≤ 0 + ((-1) * ρ 0 + (1 * ρ 1 + 0)) := h; omega) (by have h := hF _ (List.mem_cons_of_mem _ List.mem_cons_self); have h : 0 ≤ 0 + (1 * ρ 0 + ((-1) * ρ 1 + 0)) := h; omega) hG
  obtain ⟨k0, -⟩ := H
  exact ⟨_, List.mem_cons_self, ρ, fun _ _ => rfl, (okM_c (pvp 9 (by show 0 + (1 * ρ 1 + 0) = _; omega) (by show 0 + 0 = _; omega) k0) okM_n), okB_n, okF_n⟩
-- pd00
theorem cr_41 (M : pM)  (hG : gI M) : (HP 9 (0 : Int) (0 : Int) M ∧ True) := by
  refine ⟨fun _ t c h r hr hq hp => ?_, trivial⟩
  obtain ⟨a1, a2, a3, a4⟩ := hr
  omega
theorem rul_41 : Rul r_41 := by
  refine ⟨fun _ ρ M hm hB hF hG => ?_, fun gi gv hg => (by cases hg)⟩
  have H := cr_41 M hG
  obtain ⟨k0, -⟩ := H
  exact ⟨_, List.mem_cons_self, ρ, fun _ _ => rfl, (okM_c (pvp 9 (by show 0 + 0 = _; omega) (by show 0 + 0 = _; omega) k0) okM_n), okB_n, okF_n⟩
-- pdn0
theorem cr_42 (M : pM) (s0 s1 s2 s3 s4 : Int) (b0 : 0 ≤ s0 ∧ s0 ≤ 36) (b1 : 0 ≤ s1 ∧ s1 ≤ 63) (b2 : 0 ≤ s2 ∧ s2 ≤ 40) (b3 : 0 ≤ s3 ∧ s3 ≤ 4) (b4 : 0 ≤ s4 ∧ s4 ≤ 3) (m0 : HP 9 ((-10496) * s0 + 164 * s1 + 4 * s2 + s3 + 377856) (0 : Int) M) (m1 : (0 ≤ (40 : Int) ∧ M 61 (40 : Int).toNat = (s4))) (f0 : 0 ≤ (s3 + (-1) * s4 - 1)) (hG : gI M) : (HP 9 ((-10496) * s0 + 164 * s1 + 4 * s2 + 377860) (0 : Int) M ∧ True) := by
  have e : M 61 40 = s4 := m1.2
  refine ⟨fun h0 t c h r hr hq hp => m0 h0 t c h r hr hq ?_, trivial⟩
  obtain ⟨a1, a2, a3, a4⟩ := hr
  obtain ⟨B, hB⟩ : ∃ B, B = 2624 * (36 - t) + 41 * c + h := ⟨_, rfl⟩
  obtain ⟨B0, hB0⟩ : ∃ B0, B0 = 2624 * (36 - s0) + 41 * s1 + s2 := ⟨_, rfl⟩
  omega
theorem rul_42 : Rul r_42 := by
  refine ⟨fun _ ρ M hm hB hF hG => ?_, fun gi gv hg => (by cases hg)⟩
  have H := cr_42 M (ρ 0) (ρ 1) (ρ 2) (ρ 3) (ρ 4) (hB _ List.mem_cons_self) (hB _ (List.mem_cons_of_mem _ List.mem_cons_self)) (hB _ (List.mem_cons_of_mem _ (List.mem_cons_of_mem _ List.mem_cons_self))) (hB _ (List.mem_cons_of_mem _ (List.mem_cons_of_mem _ (List.mem_cons_of_mem _ List.mem_cons_self)))) (hB _ (List.mem_cons_of_mem _ (List.mem_cons_of_mem _ (List.mem_cons_of_mem _ (List.mem_cons_of_mem _ List.mem_cons_self))))) (cvp 9 (x' := ((-10496) * (ρ 0) + 164 * (ρ 1) + 4 * (ρ 2) + (ρ 3) + 377856)) (y' := (0 : Int)) (by show 377856 + ((-10496) * ρ 0 + (164 * ρ 1 + (4 * ρ 2 + (1 * ρ 3 + 0)))) = _; omega) (by show 0 + 0 = _; omega) (hm _ List.mem_cons_self)) (cvm (c := 61) (by decide) (x' := (40 : Int)) (y' := ((ρ 4))) (by show 40 + 0 = _; omega) (by show 0 + (1 * ρ 4 + 0) = _; omega) (hm _ (List.mem_cons_of_mem _ List.mem_cons_self))) (by have h := hF _ List.mem_cons_self; have h : 0 ≤ (-1) + (1 * ρ 3 + ((-1) * ρ 4 + 0)) := h; omega) hG
  obtain ⟨k0, -⟩ := H
  exact ⟨_, List.mem_cons_self, ρ, fun _ _ => rfl, (okM_c (pvp 9 (by show 377860 + ((-10496) * ρ 0 + (164 * ρ 1 + (4 * ρ 2 + 0))) = _; omega) (by show 0 + 0 = _; omega) k0) okM_n), okB_n, okF_n⟩
-- pdw0
theorem cr_43 (M : pM) (s0 s1 s2 s3 s4 : Int) (b0 : 0 ≤ s0 ∧ s0 ≤ 36) (b1 : 0 ≤ s1 ∧ s1 ≤ 63) (b2 : 0 ≤ s2 ∧ s2 ≤ 40) (b3 : 0 ≤ s3 ∧ s3 ≤ 3) (b4 : 0 ≤ s4 ∧ s4 ≤ 1000) (m0 : HP 9 ((-10496) * s0 + 164 * s1 + 4 * s2 + s3 + 377856) (0 : Int) M) (m1 : HP 11 (10496 * s0 + 164 * s1 + 4 * s2 + s3) (s4) M) (hG : gI M) : (HP 9 ((-10496) * s0 + 164 * s1 + 4 * s2 + s3 + 377857) (0 : Int) (st M 88 (10496 * s0 + 164 * s1 + 4 * s2 + s3).toNat (s4)) ∧ True) := by
  obtain ⟨t1, c1, h1, r1, q1, q2, q3⟩ := m1
  have hs : rng s0 s1 s2 s3 := ⟨b0, b1, b2, b3⟩
  have := spo_inj hs q1 q2
  obtain ⟨x1, x2, x3, x4⟩ := this
  subst x1
  subst x2
  subst x3
  subst x4
  refine ⟨fun h0 t c h r hr hq hp => ?_, trivial⟩
  rw [st_88 (by decide)] at h0 hq
  by_cases he : spo t c h r = spo s0 s1 s2 s3
  · have := spo_inj hr hs he
    obtain ⟨x1, x2, x3, x4⟩ := this
    subst x1
    subst x2
    subst x3
    subst x4
    show goo 0 (st M 88 (spo t c h r).toNat s4) t c h r (st M 88 (spo t c h r).toNat s4 88 (spo t c h r).toNat)
    rw [show st M 88 (spo t c h r).toNat s4 88 (spo t c h r).toNat = s4 from if_pos ⟨rfl, rfl⟩]
    exact goo_w lRL0 hs (Int.le_refl _) q3
  · have hn : (spo t c h r).toNat ≠ (spo s0 s1 s2 s3).toNat := by
      obtain ⟨a1, a2, a3, a4⟩ := hr
      unfold spo at he ⊢
      omega
    have hlt : 10496 * (36 - t) + 164 * c + 4 * h + r < (-10496) * s0 + 164 * s1 + 4 * s2 + s3 + 377856 ∧ s0 ≤ t := by
      have hk : ¬ (10496 * (36 - t) + 164 * c + 4 * h + r = (-10496) * s0 + 164 * s1 + 4 * s2 + s3 + 377856) := fun hk => he (by
        obtain ⟨a1, a2, a3, a4⟩ := hr
        have e4 : r = s3 := by omega
        have e3 : h = s2 := by omega
        have e2 : c = s1 := by omega
        have e1 : t = s0 := by omega
        rw [e1, e2, e3, e4])
      obtain ⟨a1, a2, a3, a4⟩ := hr
      omega
    show goo 0 (st M 88 (spo s0 s1 s2 s3).toNat s4) t c h r (st M 88 (spo s0 s1 s2 s3).toNat s4 88 (spo t c h r).toNat)
    rw [show st M 88 (spo s0 s1 s2 s3).toNat s4 88 (spo t c h r).toNat = M 88 (spo t c h r).toNat from if_neg (fun q => hn q.2)]
    exact goo_w lRL0 hs hlt.2 (m0 h0 t c h r hr hq hlt.1)
theorem rul_43 : Rul r_43 := by
  refine ⟨fun h => (by cases h), fun gi gv hg ρ M hm hB hF hG => ?_⟩
  obtain ⟨g1, g2⟩ := List.cons.inj (show ([aI ((0 : Int), ([(0, 10496), (1, 164), (2, 4), (3, 1)] : List (Nat × Int))), aI ((0 : Int), ([(4, 1)] : List (Nat × Int)))] : List av) = [.inl gi, .inl gv] from hg)
  obtain ⟨g2, -⟩ := List.cons.inj g2
  cases g1
  cases g2
  have ei : ev ρ ((0 : Int), ([(0, 10496), (1, 164), (2, 4), (3, 1)] : List (Nat × Int))) = (10496 * (ρ 0) + 164 * (ρ 1) + 4 * (ρ 2) + (ρ 3)) := by show 0 + (10496 * ρ 0 + (164 * ρ 1 + (4 * ρ 2 + (1 * ρ 3 + 0)))) = _; omega
  have ew : ev ρ ((0 : Int), ([(4, 1)] : List (Nat × Int))) = ((ρ 4)) := by show 0 + (1 * ρ 4 + 0) = _; omega
  rw [show (st M (ctj r_43) (ev ρ ((0 : Int), ([(0, 10496), (1, 164), (2, 4), (3, 1)] : List (Nat × Int)))).toNat (ev ρ ((0 : Int), ([(4, 1)] : List (Nat × Int))))) = (st M 88 (10496 * (ρ 0) + 164 * (ρ 1) + 4 * (ρ 2) + (ρ 3)).toNat ((ρ 4))) from by rw [ei, ew]; rfl]
  have H := cr_43 M (ρ 0) (ρ 1) (ρ 2) (ρ 3) (ρ 4) (hB _ List.mem_cons_self) (hB _ (List.mem_cons_of_mem _ List.mem_cons_self)) (hB _ (List.mem_cons_of_mem _ (List.mem_cons_of_mem _ List.mem_cons_self))) (hB _ (List.mem_cons_of_mem _ (List.mem_cons_of_mem _ (List.mem_cons_of_mem _ List.mem_cons_self)))) (hB _ (List.mem_cons_of_mem _ (List.mem_cons_of_mem _ (List.mem_cons_of_mem _ (List.mem_cons_of_mem _ List.mem_cons_self))))) (cvp 9 (x' := ((-10496) * (ρ 0) + 164 * (ρ 1) + 4 * (ρ 2) + (ρ 3) + 377856)) (y' := (0 : Int)) (by show 377856 + ((-10496) * ρ 0 + (164 * ρ 1 + (4 * ρ 2 + (1 * ρ 3 + 0)))) = _; omega) (by show 0 + 0 = _; omega) (hm _ List.mem_cons_self)) (cvp 11 (x' := (10496 * (ρ 0) + 164 * (ρ 1) + 4 * (ρ 2) + (ρ 3))) (y' := ((ρ 4))) (by show 0 + (10496 * ρ 0 + (164 * ρ 1 + (4 * ρ 2 + (1 * ρ 3 + 0)))) = _; omega) (by show 0 + (1 * ρ 4 + 0) = _; omega) (hm _ (List.mem_cons_of_mem _ List.mem_cons_self))) hG
  obtain ⟨k0, -⟩ := H
  exact ⟨_, List.mem_cons_self, ρ, fun _ _ => rfl, (okM_c (pvp 9 (by show 377857 + ((-10496) * ρ 0 + (164 * ρ 1 + (4 * ρ 2 + (1 * ρ 3 + 0)))) = _; omega) (by show 0 + 0 = _; omega) k0) okM_n), okB_n, okF_n⟩
-- gv00
theorem cr_44 (M : pM) (s0 s1 s2 s3 s4 : Int) (b0 : 0 ≤ s0 ∧ s0 ≤ 36) (b1 : 0 ≤ s1 ∧ s1 ≤ 63) (b2 : 0 ≤ s2 ∧ s2 ≤ 40) (b3 : 0 ≤ s3 ∧ s3 ≤ 3) (b4 : 1000 ≤ s4 ∧ s4 ≤ 1000) (hG : gI M) : (HP 11 (10496 * s0 + 164 * s1 + 4 * s2 + s3) (s4) M ∧ True) := by
  exact ⟨⟨s0, s1, s2, s3, ⟨b0, b1, b2, b3⟩, rfl, Or.inr (Or.inl b4.1)⟩, trivial⟩
theorem rul_44 : Rul r_44 := by
  refine ⟨fun _ ρ M hm hB hF hG => ?_, fun gi gv hg => (by cases hg)⟩
  have H := cr_44 M (ρ 0) (ρ 1) (ρ 2) (ρ 3) (ρ 4) (hB _ List.mem_cons_self) (hB _ (List.mem_cons_of_mem _ List.mem_cons_self)) (hB _ (List.mem_cons_of_mem _ (List.mem_cons_of_mem _ List.mem_cons_self))) (hB _ (List.mem_cons_of_mem _ (List.mem_cons_of_mem _ (List.mem_cons_of_mem _ List.mem_cons_self)))) (hB _ (List.mem_cons_of_mem _ (List.mem_cons_of_mem _ (List.mem_cons_of_mem _ (List.mem_cons_of_mem _ List.mem_cons_self))))) hG
  obtain ⟨k0, -⟩ := H
  exact ⟨_, List.mem_cons_self, ρ, fun _ _ => rfl, (okM_c (pvp 11 (by show 0 + (10496 * ρ 0 + (164 * ρ 1 + (4 * ρ 2 + (1 * ρ 3 + 0)))) = _; omega) (by show 0 + (1 * ρ 4 + 0) = _; omega) k0) okM_n), okB_n, okF_n⟩
-- gvf0
theorem cr_45 (M : pM) (s0 s1 s2 s3 s4 s5 s6 s7 : Int) (b0 : 0 ≤ s0 ∧ s0 ≤ 36) (b1 : 0 ≤ s1 ∧ s1 ≤ 63) (b2 : 0 ≤ s2 ∧ s2 ≤ 40) (b3 : 0 ≤ s3 ∧ s3 ≤ 3) (b4 : 0 ≤ s4 ∧ s4 ≤ 1000) (b5 : 0 ≤ s5 ∧ s5 ≤ 3) (b6 : 0 ≤ s6 ∧ s6 ≤ 63) (b7 : 0 ≤ s7 ∧ s7 ≤ 40) (m0 : (0 ≤ (40 : Int) ∧ M 61 (40 : Int).toNat = (s5))) (m1 : (0 ≤ (s5) ∧ M 87 (s5).toNat = (s6))) (m2 : (0 ≤ (44 : Int) ∧ M 61 (44 : Int).toNat = (s7))) (f0 : 0 ≤ ((-1) * s3 + s5)) (f1 : 0 ≤ (s3 + (-1) * s5)) (f2 : 0 ≤ ((-1) * s1 + s6)) (f3 : 0 ≤ (s1 + (-1) * s6)) (f4 : 0 ≤ (s2 + (-1) * s7)) (hG : gI M) : (HP 11 (10496 * s0 + 164 * s1 + 4 * s2 + s3) (s4) M ∧ True) := by
  have e0 : M 61 40 = s5 := m0.2
  have e2 : M 61 44 = s7 := m2.2
  refine ⟨⟨s0, s1, s2, s3, ⟨b0, b1, b2, b3⟩, rfl, Or.inl ⟨by omega, ?_, by omega⟩⟩, trivial⟩
  rw [e0, m1.2]
  omega
theorem rul_45 : Rul r_45 := by
  refine ⟨fun _ ρ M hm hB hF hG => ?_, fun gi gv hg => (by cases hg)⟩
  have H := cr_45 M (ρ 0) (ρ 1) (ρ 2) (ρ 3) (ρ 4) (ρ 5) (ρ 6) (ρ 7) (hB _ List.mem_cons_self) (hB _ (List.mem_cons_of_mem _ List.mem_cons_self)) (hB _ (List.mem_cons_of_mem _ (List.mem_cons_of_mem _ List.mem_cons_self))) (hB _ (List.mem_cons_of_mem _ (List.mem_cons_of_mem _ (List.mem_cons_of_mem _ List.mem_cons_self)))) (hB _ (List.mem_cons_of_mem _ (List.mem_cons_of_mem _ (List.mem_cons_of_mem _ (List.mem_cons_of_mem _ List.mem_cons_self))))) (hB _ (List.mem_cons_of_mem _ (List.mem_cons_of_mem _ (List.mem_cons_of_mem _ (List.mem_cons_of_mem _ (List.mem_cons_of_mem _ List.mem_cons_self)))))) (hB _ (List.mem_cons_of_mem _ (List.mem_cons_of_mem _ (List.mem_cons_of_mem _ (List.mem_cons_of_mem _ (List.mem_cons_of_mem _ (List.mem_cons_of_mem _ List.mem_cons_self))))))) (hB _ (List.mem_cons_of_mem _ (List.mem_cons_of_mem _ (List.mem_cons_of_mem _ (List.mem_cons_of_mem _ (List.mem_cons_of_mem _ (List.mem_cons_of_mem _ (List.mem_cons_of_mem _ List.mem_cons_self)))))))) (cvm (c := 61) (by decide) (x' := (40 : Int)) (y' := ((ρ 5))) (by show 40 + 0 = _; omega) (by show 0 + (1 * ρ 5 + 0) = _; omega) (hm _ List.mem_cons_self)) (cvm (c := 87) (by decide) (x' := ((ρ 5))) (y' := ((ρ 6))) (by show 0 + (1 * ρ 5 + 0) = _; omega) (by show 0 + (1 * ρ 6 + 0) = _; omega) (hm _ (List.mem_cons_of_mem _ List.mem_cons_self))) (cvm (c := 61) (by decide) (x' := (44 : Int)) (y' := ((ρ 7))) (by show 44 + 0 = _; omega) (by show 0 + (1 * ρ 7 + 0) = _; omega) (hm _ (List.mem_cons_of_mem _ (List.mem_cons_of_mem _ List.mem_cons_self)))) (by have h := hF _ List.mem_cons_self; have h : 0 ≤ 0 + ((-1) * ρ 3 + (1 * ρ 5 + 0)) := h; omega) (by have h := hF _ (List.mem_cons_of_mem _ List.mem_cons_self); have h : 0 ≤ 0 + (1 * ρ 3 + ((-1) * ρ 5 + 0)) := h; omega) (by have h := hF _ (List.mem_cons_of_mem _ (List.mem_cons_of_mem _ List.mem_cons_self)); have h : 0 ≤ 0 + ((-1) * ρ 1 + (1 * ρ 6 + 0)) := h; omega) (by have h := hF _ (List.mem_cons_of_mem _ (List.mem_cons_of_mem _ (List.mem_cons_of_mem _ List.mem_cons_self))); have h : 0 ≤ 0 + (1 * ρ 1 + ((-1) * ρ 6 + 0)) := h; omega) (by have h := hF _ (List.mem_cons_of_mem _ (List.mem_cons_of_mem _ (List.mem_cons_of_mem _ (List.mem_cons_of_mem _ List.mem_cons_self)))); have h : 0 ≤ 0 + (1 * ρ 2 + ((-1) * ρ 7 + 0)) := h; omega) hG
  obtain ⟨k0, -⟩ := H
  exact ⟨_, List.mem_cons_self, ρ, fun _ _ => rfl, (okM_c (pvp 11 (by show 0 + (10496 * ρ 0 + (164 * ρ 1 + (4 * ρ 2 + (1 * ρ 3 + 0)))) = _; omega) (by show 0 + (1 * ρ 4 + 0) = _; omega) k0) okM_n), okB_n, okF_n⟩
-- gve0
theorem cr_46 (M : pM) (s0 s1 s2 s3 s4 s5 : Int) (b0 : 0 ≤ s0 ∧ s0 ≤ 36) (b1 : 0 ≤ s1 ∧ s1 ≤ 63) (b2 : 0 ≤ s2 ∧ s2 ≤ 40) (b3 : 0 ≤ s3 ∧ s3 ≤ 3) (b4 : 0 ≤ s4 ∧ s4 ≤ 388351) (b5 : 0 ≤ s5 ∧ s5 ≤ 1000) (m0 : HP 13 (10496 * s0 + 164 * s1 + 4 * s2 + s3) (s4) M) (m1 : (0 ≤ (s4) ∧ M 88 (s4).toNat = (s5))) (hG : gI M) : (HP 11 (10496 * s0 + 164 * s1 + 4 * s2 + s3) (s5) M ∧ True) := by
  obtain ⟨t, c, h, r, m, a1, a2, a3, a4, a5⟩ := m0
  exact ⟨⟨t, c, h, r, a1, a2, Or.inr (Or.inr ⟨m, s4, a3, a4, a5, m1.2⟩)⟩, trivial⟩
theorem rul_46 : Rul r_46 := by
  refine ⟨fun _ ρ M hm hB hF hG => ?_, fun gi gv hg => (by cases hg)⟩
  have H := cr_46 M (ρ 0) (ρ 1) (ρ 2) (ρ 3) (ρ 4) (ρ 5) (hB _ List.mem_cons_self) (hB _ (List.mem_cons_of_mem _ List.mem_cons_self)) (hB _ (List.mem_cons_of_mem _ (List.mem_cons_of_mem _ List.mem_cons_self))) (hB _ (List.mem_cons_of_mem _ (List.mem_cons_of_mem _ (List.mem_cons_of_mem _ List.mem_cons_self)))) (hB _ (List.mem_cons_of_mem _ (List.mem_cons_of_mem _ (List.mem_cons_of_mem _ (List.mem_cons_of_mem _ List.mem_cons_self))))) (hB _ (List.mem_cons_of_mem _ (List.mem_cons_of_mem _ (List.mem_cons_of_mem _ (List.mem_cons_of_mem _ (List.mem_cons_of_mem _ List.mem_cons_self)))))) (cvp 13 (x' := (10496 * (ρ 0) + 164 * (ρ 1) + 4 * (ρ 2) + (ρ 3))) (y' := ((ρ 4))) (by show 0 + (10496 * ρ 0 + (164 * ρ 1 + (4 * ρ 2 + (1 * ρ 3 + 0)))) = _; omega) (by show 0 + (1 * ρ 4 + 0) = _; omega) (hm _ List.mem_cons_self)) (cvm (c := 88) (by decide) (x' := ((ρ 4))) (y' := ((ρ 5))) (by show 0 + (1 * ρ 4 + 0) = _; omega) (by show 0 + (1 * ρ 5 + 0) = _; omega) (hm _ (List.mem_cons_of_mem _ List.mem_cons_self))) hG
  obtain ⟨k0, -⟩ := H
  exact ⟨_, List.mem_cons_self, ρ, fun _ _ => rfl, (okM_c (pvp 11 (by show 0 + (10496 * ρ 0 + (164 * ρ 1 + (4 * ρ 2 + (1 * ρ 3 + 0)))) = _; omega) (by show 0 + (1 * ρ 5 + 0) = _; omega) k0) okM_n), okB_n, okF_n⟩
-- re0
theorem cr_47 (M : pM) (s0 s1 s2 s3 s4 s5 s6 s7 s8 : Int) (b0 : 0 ≤ s0 ∧ s0 ≤ 36) (b1 : 0 ≤ s1 ∧ s1 ≤ 63) (b2 : 0 ≤ s2 ∧ s2 ≤ 40) (b3 : 0 ≤ s3 ∧ s3 ≤ 3) (b4 : 0 ≤ s4 ∧ s4 ≤ 36) (b5 : 0 ≤ s5 ∧ s5 ≤ 63) (b6 : 0 ≤ s6 ∧ s6 ≤ 40) (b7 : 0 ≤ s7 ∧ s7 ≤ 3) (b8 : 0 ≤ s8 ∧ s8 ≤ 24) (m0 : HP 15 (10496 * s0 + 164 * s1 + 4 * s2 + s3) (s8) M) (m1 : (0 ≤ (36 : Int) ∧ M 61 (36 : Int).toNat = (s5))) (m2 : (0 ≤ (37 : Int) ∧ M 61 (37 : Int).toNat = (s4))) (m3 : (0 ≤ (38 : Int) ∧ M 61 (38 : Int).toNat = (s6))) (m4 : HP 19 (s3 + 4 * s5) (s7) M) (hG : gI M) : (HP 13 (10496 * s0 + 164 * s1 + 4 * s2 + s3) (10496 * s4 + 164 * s5 + 4 * s6 + s7) M ∧ True) := by
  have e1 : M 61 36 = s5 := m1.2
  have e2 : M 61 37 = s4 := m2.2
  have e3 : M 61 38 = s6 := m3.2
  obtain ⟨t, c, h, r, a1, a2, a3, a4, a5, a6⟩ := m0
  have := spo_inj (t := s0) (c := s1) (h := s2) (r := s3) ⟨b0, b1, b2, b3⟩ a1 a2
  obtain ⟨x1, x2, x3, x4⟩ := this
  subst x1
  subst x2
  subst x3
  subst x4
  obtain ⟨c2, r2, d1, d2, d3, d4, d5, d6⟩ := m4
  have y1 : c2 = s5 := by omega
  have y2 : r2 = s3 := by omega
  subst y1
  subst y2
  rw [e1, e2, e3] at a6
  rw [e2] at a5
  exact ⟨⟨s0, s1, s2, r2, s8, ⟨b0, b1, b2, b3⟩, rfl, a3, a4, s4, c2, s6, s7, ⟨b4, b5, b6, b7⟩, a5, a6, d6, rfl⟩, trivial⟩
theorem rul_47 : Rul r_47 := by
  refine ⟨fun _ ρ M hm hB hF hG => ?_, fun gi gv hg => (by cases hg)⟩
  have H := cr_47 M (ρ 0) (ρ 1) (ρ 2) (ρ 3) (ρ 4) (ρ 5) (ρ 6) (ρ 7) (ρ 8) (hB _ List.mem_cons_self) (hB _ (List.mem_cons_of_mem _ List.mem_cons_self)) (hB _ (List.mem_cons_of_mem _ (List.mem_cons_of_mem _ List.mem_cons_self))) (hB _ (List.mem_cons_of_mem _ (List.mem_cons_of_mem _ (List.mem_cons_of_mem _ List.mem_cons_self)))) (hB _ (List.mem_cons_of_mem _ (List.mem_cons_of_mem _ (List.mem_cons_of_mem _ (List.mem_cons_of_mem _ List.mem_cons_self))))) (hB _ (List.mem_cons_of_mem _ (List.mem_cons_of_mem _ (List.mem_cons_of_mem _ (List.mem_cons_of_mem _ (List.mem_cons_of_mem _ List.mem_cons_self)))))) (hB _ (List.mem_cons_of_mem _ (List.mem_cons_of_mem _ (List.mem_cons_of_mem _ (List.mem_cons_of_mem _ (List.mem_cons_of_mem _ (List.mem_cons_of_mem _ List.mem_cons_self))))))) (hB _ (List.mem_cons_of_mem _ (List.mem_cons_of_mem _ (List.mem_cons_of_mem _ (List.mem_cons_of_mem _ (List.mem_cons_of_mem _ (List.mem_cons_of_mem _ (List.mem_cons_of_mem _ List.mem_cons_self)))))))) (hB _ (List.mem_cons_of_mem _ (List.mem_cons_of_mem _ (List.mem_cons_of_mem _ (List.mem_cons_of_mem _ (List.mem_cons_of_mem _ (List.mem_cons_of_mem _ (List.mem_cons_of_mem _ (List.mem_cons_of_mem _ List.mem_cons_self))))))))) (cvp 15 (x' := (10496 * (ρ 0) + 164 * (ρ 1) + 4 * (ρ 2) + (ρ 3))) (y' := ((ρ 8))) (by show 0 + (10496 * ρ 0 + (164 * ρ 1 + (4 * ρ 2 + (1 * ρ 3 + 0)))) = _; omega) (by show 0 + (1 * ρ 8 + 0) = _; omega) (hm _ List.mem_cons_self)) (cvm (c := 61) (by decide) (x' := (36 : Int)) (y' := ((ρ 5))) (by show 36 + 0 = _; omega) (by show 0 + (1 * ρ 5 + 0) = _; omega) (hm _ (List.mem_cons_of_mem _ List.mem_cons_self))) (cvm (c := 61) (by decide) (x' := (37 : Int)) (y' := ((ρ 4))) (by show 37 + 0 = _; omega) (by show 0 + (1 * ρ 4 + 0) = _; omega) (hm _ (List.mem_cons_of_mem _ (List.mem_cons_of_mem _ List.mem_cons_self)))) (cvm (c := 61) (by decide) (x' := (38 : Int)) (y' := ((ρ 6))) (by show 38 + 0 = _; omega) (by show 0 + (1 * ρ 6 + 0) = _; omega) (hm _ (List.mem_cons_of_mem _ (List.mem_cons_of_mem _ (List.mem_cons_of_mem _ List.mem_cons_self))))) (cvp 19 (x' := ((ρ 3) + 4 * (ρ 5))) (y' := ((ρ 7))) (by show 0 + (1 * ρ 3 + (4 * ρ 5 + 0)) = _; omega) (by show 0 + (1 * ρ 7 + 0) = _; omega) (hm _ (List.mem_cons_of_mem _ (List.mem_cons_of_mem _ (List.mem_cons_of_mem _ (List.mem_cons_of_mem _ List.mem_cons_self)))))) hG
  obtain ⟨k0, -⟩ := H
  exact ⟨_, List.mem_cons_self, ρ, fun _ _ => rfl, (okM_c (pvp 13 (by show 0 + (10496 * ρ 0 + (164 * ρ 1 + (4 * ρ 2 + (1 * ρ 3 + 0)))) = _; omega) (by show 0 + (10496 * ρ 4 + (164 * ρ 5 + (4 * ρ 6 + (1 * ρ 7 + 0)))) = _; omega) k0) okM_n), okB_n, okF_n⟩
-- dpw0
theorem cr_48 (M : pM) (s0 s1 s2 s3 s4 s5 s6 : Int) (b0 : 0 ≤ s0 ∧ s0 ≤ 36) (b1 : 0 ≤ s1 ∧ s1 ≤ 63) (b2 : 0 ≤ s2 ∧ s2 ≤ 40) (b3 : 0 ≤ s3 ∧ s3 ≤ 3) (b4 : 388352 ≤ s4 ∧ s4 ≤ 388352) (b5 : 0 ≤ s5 ∧ s5 ≤ 3) (b6 : 0 ≤ s6 ∧ s6 ≤ 999) (m0 : HP 9 (s4) (0 : Int) M) (m1 : (0 ≤ (40 : Int) ∧ M 61 (40 : Int).toNat = (s5))) (m2 : (0 ≤ (10496 * s0 + 164 * s1 + 4 * s2 + s3) ∧ M 88 (10496 * s0 + 164 * s1 + 4 * s2 + s3).toNat = (s6))) (m3 : HP 20 (10496 * s0 + 164 * s1 + 4 * s2 + s3) (0 : Int) M) (f0 : 0 ≤ ((-1) * s3 + s5)) (hG : gI M) : (∃ t0 : Int, 0 ≤ t0 ∧ t0 ≤ 24 ∧ HP 17 (10496 * s0 + 164 * s1 + 4 * s2 + s3) (t0) M ∧ True) := by
  have e0 : s4 = 388352 := by omega
  subst e0
  have e1 : M 61 40 = s5 := m1.2
  have hr : rng s0 s1 s2 s3 := ⟨b0, b1, b2, b3⟩
  have hg := m0 (by omega) s0 s1 s2 s3 hr (by omega) (by omega)
  have m2 : M 88 (spo s0 s1 s2 s3).toNat = s6 := m2.2
  rcases hg with q | q | ⟨m, y, q1, q2, q3, q4⟩
  · exact absurd q (m3 s0 s1 s2 s3 hr rfl)
  · omega
  · exact ⟨m, q1, q2, ⟨s0, s1, s2, s3, hr, rfl, q1, q2, y, q3, q4⟩, trivial⟩
theorem rul_48 : Rul r_48 := by
  refine ⟨fun _ ρ M hm hB hF hG => ?_, fun gi gv hg => (by cases hg)⟩
  have H := cr_48 M (ρ 0) (ρ 1) (ρ 2) (ρ 3) (ρ 4) (ρ 5) (ρ 6) (hB _ List.mem_cons_self) (hB _ (List.mem_cons_of_mem _ List.mem_cons_self)) (hB _ (List.mem_cons_of_mem _ (List.mem_cons_of_mem _ List.mem_cons_self))) (hB _ (List.mem_cons_of_mem _ (List.mem_cons_of_mem _ (List.mem_cons_of_mem _ List.mem_cons_self)))) (hB _ (List.mem_cons_of_mem _ (List.mem_cons_of_mem _ (List.mem_cons_of_mem _ (List.mem_cons_of_mem _ List.mem_cons_self))))) (hB _ (List.mem_cons_of_mem _ (List.mem_cons_of_mem _ (List.mem_cons_of_mem _ (List.mem_cons_of_mem _ (List.mem_cons_of_mem _ List.mem_cons_self)))))) (hB _ (List.mem_cons_of_mem _ (List.mem_cons_of_mem _ (List.mem_cons_of_mem _ (List.mem_cons_of_mem _ (List.mem_cons_of_mem _ (List.mem_cons_of_mem _ List.mem_cons_self))))))) (cvp 9 (x' := ((ρ 4))) (y' := (0 : Int)) (by show 0 + (1 * ρ 4 + 0) = _; omega) (by show 0 + 0 = _; omega) (hm _ List.mem_cons_self)) (cvm (c := 61) (by decide) (x' := (40 : Int)) (y' := ((ρ 5))) (by show 40 + 0 = _; omega) (by show 0 + (1 * ρ 5 + 0) = _; omega) (hm _ (List.mem_cons_of_mem _ List.mem_cons_self))) (cvm (c := 88) (by decide) (x' := (10496 * (ρ 0) + 164 * (ρ 1) + 4 * (ρ 2) + (ρ 3))) (y' := ((ρ 6))) (by show 0 + (10496 * ρ 0 + (164 * ρ 1 + (4 * ρ 2 + (1 * ρ 3 + 0)))) = _; omega) (by show 0 + (1 * ρ 6 + 0) = _; omega) (hm _ (List.mem_cons_of_mem _ (List.mem_cons_of_mem _ List.mem_cons_self)))) (cvp 20 (x' := (10496 * (ρ 0) + 164 * (ρ 1) + 4 * (ρ 2) + (ρ 3))) (y' := (0 : Int)) (by show 0 + (10496 * ρ 0 + (164 * ρ 1 + (4 * ρ 2 + (1 * ρ 3 + 0)))) = _; omega) (by show 0 + 0 = _; omega) (hm _ (List.mem_cons_of_mem _ (List.mem_cons_of_mem _ (List.mem_cons_of_mem _ List.mem_cons_self))))) (by have h := hF _ List.mem_cons_self; have h : 0 ≤ 0 + ((-1) * ρ 3 + (1 * ρ 5 + 0)) := h; omega) hG
  obtain ⟨t0, u0, v0, k0, -⟩ := H
  obtain ⟨ρ', ha, a0, a1, a2, a3, a4, a5, a6, a7⟩ : ∃ ρ' : Nat → Int, agr 7 ρ ρ' ∧ ρ' 0 = ρ 0 ∧ ρ' 1 = ρ 1 ∧ ρ' 2 = ρ 2 ∧ ρ' 3 = ρ 3 ∧ ρ' 4 = ρ 4 ∧ ρ' 5 = ρ 5 ∧ ρ' 6 = ρ 6 ∧ ρ' 7 = t0 := ⟨fun s => if s = 7 then t0 else ρ s, fun s hs => by show (if s = 7 then t0 else ρ s) = _; rw [if_neg (by omega)], rfl, rfl, rfl, rfl, rfl, rfl, rfl, rfl⟩
  exact ⟨_, List.mem_cons_self, ρ', ha, (okM_c (pvp 17 (by show 0 + (10496 * ρ' 0 + (164 * ρ' 1 + (4 * ρ' 2 + (1 * ρ' 3 + 0)))) = _; omega) (by show 0 + (1 * ρ' 7 + 0) = _; omega) k0) okM_n), (okB_c (by omega) okB_n), okF_n⟩
-- dpo1
theorem cr_49 (M : pM) (s0 : Int) (b0 : (-1) ≤ s0 ∧ s0 ≤ 3) (m0 : HP 8 (0 : Int) (0 : Int) M) (m1 : (0 ≤ (34 : Int) ∧ M 61 (34 : Int).toNat = (1 : Int))) (m2 : (0 ≤ (43 : Int) ∧ M 61 (43 : Int).toNat = (s0))) (hG : gI M) : (0 ≤ ((-1) * s0 - 1) ∧ True) ∨ (HP 10 (388352 : Int) (0 : Int) M ∧ 0 ≤ (s0) ∧ True) := by
  have e1 : M 61 34 = 1 := m1.2
  have e2 : M 61 43 = s0 := m2.2
  have m0 : 0 ≤ M 61 43 → (M 61 34 = 0 ∧ pds 0 M 388352) ∨ (M 61 34 = 1 ∧ pds 1 M 388352) := m0
  by_cases h : s0 ≤ -1
  · exact Or.inl ⟨by omega, trivial⟩
  · refine Or.inr ⟨?_, by omega, trivial⟩
    rcases m0 (by omega) with q | q
    · omega
    · exact q.2
theorem rul_49 : Rul r_49 := by
  refine ⟨fun _ ρ M hm hB hF hG => ?_, fun gi gv hg => (by cases hg)⟩
  have H := cr_49 M (ρ 0) (hB _ List.mem_cons_self) (cvp 8 (x' := (0 : Int)) (y' := (0 : Int)) (by show 0 + 0 = _; omega) (by show 0 + 0 = _; omega) (hm _ List.mem_cons_self)) (cvm (c := 61) (by decide) (x' := (34 : Int)) (y' := (1 : Int)) (by show 34 + 0 = _; omega) (by show 1 + 0 = _; omega) (hm _ (List.mem_cons_of_mem _ List.mem_cons_self))) (cvm (c := 61) (by decide) (x' := (43 : Int)) (y' := ((ρ 0))) (by show 43 + 0 = _; omega) (by show 0 + (1 * ρ 0 + 0) = _; omega) (hm _ (List.mem_cons_of_mem _ (List.mem_cons_of_mem _ List.mem_cons_self)))) hG
  rcases H with H | H
  · skip
    obtain ⟨f0, -⟩ := H
    exact ⟨_, List.mem_cons_self, ρ, fun _ _ => rfl, okM_n, okB_n, (okF_c (by show 0 ≤ (-1) + ((-1) * ρ 0 + 0); omega) okF_n)⟩
  · skip
    obtain ⟨k0, f0, -⟩ := H
    exact ⟨_, (List.mem_cons_of_mem _ List.mem_cons_self), ρ, fun _ _ => rfl, (okM_c (pvp 10 (by show 388352 + 0 = _; omega) (by show 0 + 0 = _; omega) k0) okM_n), okB_n, (okF_c (by show 0 ≤ 0 + (1 * ρ 0 + 0); omega) okF_n)⟩
-- dpi1
theorem cr_50 (M : pM) (s0 : Int) (b0 : 388352 ≤ s0 ∧ s0 ≤ 388352) (m0 : HP 10 (s0) (0 : Int) M) (m1 : (0 ≤ (34 : Int) ∧ M 61 (34 : Int).toNat = (1 : Int))) (hG : gI M) : (HP 8 (0 : Int) (0 : Int) M ∧ True) := by
  have e1 : M 61 34 = 1 := m1.2
  have e0 : s0 = 388352 := by omega
  subst e0
  exact ⟨fun _ => Or.inr ⟨e1, m0⟩, trivial⟩
theorem rul_50 : Rul r_50 := by
  refine ⟨fun _ ρ M hm hB hF hG => ?_, fun gi gv hg => (by cases hg)⟩
  have H := cr_50 M (ρ 0) (hB _ List.mem_cons_self) (cvp 10 (x' := ((ρ 0))) (y' := (0 : Int)) (by show 0 + (1 * ρ 0 + 0) = _; omega) (by show 0 + 0 = _; omega) (hm _ List.mem_cons_self)) (cvm (c := 61) (by decide) (x' := (34 : Int)) (y' := (1 : Int)) (by show 34 + 0 = _; omega) (by show 1 + 0 = _; omega) (hm _ (List.mem_cons_of_mem _ List.mem_cons_self))) hG
  obtain ⟨k0, -⟩ := H
  exact ⟨_, List.mem_cons_self, ρ, fun _ _ => rfl, (okM_c (pvp 8 (by show 0 + 0 = _; omega) (by show 0 + 0 = _; omega) k0) okM_n), okB_n, okF_n⟩
-- pdx1
theorem cr_51 (M : pM) (s0 s1 : Int) (b0 : 0 ≤ s0 ∧ s0 ≤ 388352) (b1 : 0 ≤ s1 ∧ s1 ≤ 388352) (m0 : HP 10 (s0) (0 : Int) M) (f0 : 0 ≤ ((-1) * s0 + s1)) (f1 : 0 ≤ (s0 + (-1) * s1)) (hG : gI M) : (HP 10 (s1) (0 : Int) M ∧ True) := by
  have e0 : s1 = s0 := by omega
  subst e0
  exact ⟨m0, trivial⟩
theorem rul_51 : Rul r_51 := by
  refine ⟨fun _ ρ M hm hB hF hG => ?_, fun gi gv hg => (by cases hg)⟩
  have H := cr_51 M (ρ 0) (ρ 1) (hB _ List.mem_cons_self) (hB _ (List.mem_cons_of_mem _ List.mem_cons_self)) (cvp 10 (x' := ((ρ 0))) (y' := (0 : Int)) (by show 0 + (1 * ρ 0 + 0) = _; omega) (by show 0 + 0 = _; omega) (hm _ List.mem_cons_self)) (by have h := hF _ List.mem_cons_self; have h : 0 ≤ 0 + ((-1) * ρ 0 + (1 * ρ 1 + 0)) := h; omega) (by have h := hF _ (List.mem_cons_of_mem _ List.mem_cons_self); have h : 0 ≤ 0 + (1 * ρ 0 + ((-1) * ρ 1 + 0)) := h; omega) hG
  obtain ⟨k0, -⟩ := H
  exact ⟨_, List.mem_cons_self, ρ, fun _ _ => rfl, (okM_c (pvp 10 (by show 0 + (1 * ρ 1 + 0) = _; omega) (by show 0 + 0 = _; omega) k0) okM_n), okB_n, okF_n⟩
-- pd01
theorem cr_52 (M : pM)  (hG : gI M) : (HP 10 (0 : Int) (0 : Int) M ∧ True) := by
  refine ⟨fun _ t c h r hr hq hp => ?_, trivial⟩
  obtain ⟨a1, a2, a3, a4⟩ := hr
  omega
theorem rul_52 : Rul r_52 := by
  refine ⟨fun _ ρ M hm hB hF hG => ?_, fun gi gv hg => (by cases hg)⟩
  have H := cr_52 M hG
  obtain ⟨k0, -⟩ := H
  exact ⟨_, List.mem_cons_self, ρ, fun _ _ => rfl, (okM_c (pvp 10 (by show 0 + 0 = _; omega) (by show 0 + 0 = _; omega) k0) okM_n), okB_n, okF_n⟩
-- pdn1
theorem cr_53 (M : pM) (s0 s1 s2 s3 s4 : Int) (b0 : 0 ≤ s0 ∧ s0 ≤ 36) (b1 : 0 ≤ s1 ∧ s1 ≤ 63) (b2 : 0 ≤ s2 ∧ s2 ≤ 40) (b3 : 0 ≤ s3 ∧ s3 ≤ 4) (b4 : 0 ≤ s4 ∧ s4 ≤ 3) (m0 : HP 10 ((-10496) * s0 + 164 * s1 + 4 * s2 + s3 + 377856) (0 : Int) M) (m1 : (0 ≤ (40 : Int) ∧ M 61 (40 : Int).toNat = (s4))) (f0 : 0 ≤ (s3 + (-1) * s4 - 1)) (hG : gI M) : (HP 10 ((-10496) * s0 + 164 * s1 + 4 * s2 + 377860) (0 : Int) M ∧ True) := by
  have e : M 61 40 = s4 := m1.2
  refine ⟨fun h0 t c h r hr hq hp => m0 h0 t c h r hr hq ?_, trivial⟩
  obtain ⟨a1, a2, a3, a4⟩ := hr
  obtain ⟨B, hB⟩ : ∃ B, B = 2624 * (36 - t) + 41 * c + h := ⟨_, rfl⟩
  obtain ⟨B0, hB0⟩ : ∃ B0, B0 = 2624 * (36 - s0) + 41 * s1 + s2 := ⟨_, rfl⟩
  omega
theorem rul_53 : Rul r_53 := by
  refine ⟨fun _ ρ M hm hB hF hG => ?_, fun gi gv hg => (by cases hg)⟩
  have H := cr_53 M (ρ 0) (ρ 1) (ρ 2) (ρ 3) (ρ 4) (hB _ List.mem_cons_self) (hB _ (List.mem_cons_of_mem _ List.mem_cons_self)) (hB _ (List.mem_cons_of_mem _ (List.mem_cons_of_mem _ List.mem_cons_self))) (hB _ (List.mem_cons_of_mem _ (List.mem_cons_of_mem _ (List.mem_cons_of_mem _ List.mem_cons_self)))) (hB _ (List.mem_cons_of_mem _ (List.mem_cons_of_mem _ (List.mem_cons_of_mem _ (List.mem_cons_of_mem _ List.mem_cons_self))))) (cvp 10 (x' := ((-10496) * (ρ 0) + 164 * (ρ 1) + 4 * (ρ 2) + (ρ 3) + 377856)) (y' := (0 : Int)) (by show 377856 + ((-10496) * ρ 0 + (164 * ρ 1 + (4 * ρ 2 + (1 * ρ 3 + 0)))) = _; omega) (by show 0 + 0 = _; omega) (hm _ List.mem_cons_self)) (cvm (c := 61) (by decide) (x' := (40 : Int)) (y' := ((ρ 4))) (by show 40 + 0 = _; omega) (by show 0 + (1 * ρ 4 + 0) = _; omega) (hm _ (List.mem_cons_of_mem _ List.mem_cons_self))) (by have h := hF _ List.mem_cons_self; have h : 0 ≤ (-1) + (1 * ρ 3 + ((-1) * ρ 4 + 0)) := h; omega) hG
  obtain ⟨k0, -⟩ := H
  exact ⟨_, List.mem_cons_self, ρ, fun _ _ => rfl, (okM_c (pvp 10 (by show 377860 + ((-10496) * ρ 0 + (164 * ρ 1 + (4 * ρ 2 + 0))) = _; omega) (by show 0 + 0 = _; omega) k0) okM_n), okB_n, okF_n⟩
-- pdw1
theorem cr_54 (M : pM) (s0 s1 s2 s3 s4 : Int) (b0 : 0 ≤ s0 ∧ s0 ≤ 36) (b1 : 0 ≤ s1 ∧ s1 ≤ 63) (b2 : 0 ≤ s2 ∧ s2 ≤ 40) (b3 : 0 ≤ s3 ∧ s3 ≤ 3) (b4 : 0 ≤ s4 ∧ s4 ≤ 1000) (m0 : HP 10 ((-10496) * s0 + 164 * s1 + 4 * s2 + s3 + 377856) (0 : Int) M) (m1 : HP 12 (10496 * s0 + 164 * s1 + 4 * s2 + s3) (s4) M) (hG : gI M) : (HP 10 ((-10496) * s0 + 164 * s1 + 4 * s2 + s3 + 377857) (0 : Int) (st M 88 (10496 * s0 + 164 * s1 + 4 * s2 + s3).toNat (s4)) ∧ True) := by
  obtain ⟨t1, c1, h1, r1, q1, q2, q3⟩ := m1
  have hs : rng s0 s1 s2 s3 := ⟨b0, b1, b2, b3⟩
  have := spo_inj hs q1 q2
  obtain ⟨x1, x2, x3, x4⟩ := this
  subst x1
  subst x2
  subst x3
  subst x4
  refine ⟨fun h0 t c h r hr hq hp => ?_, trivial⟩
  rw [st_88 (by decide)] at h0 hq
  by_cases he : spo t c h r = spo s0 s1 s2 s3
  · have := spo_inj hr hs he
    obtain ⟨x1, x2, x3, x4⟩ := this
    subst x1
    subst x2
    subst x3
    subst x4
    show goo 1 (st M 88 (spo t c h r).toNat s4) t c h r (st M 88 (spo t c h r).toNat s4 88 (spo t c h r).toNat)
    rw [show st M 88 (spo t c h r).toNat s4 88 (spo t c h r).toNat = s4 from if_pos ⟨rfl, rfl⟩]
    exact goo_w lRL1 hs (Int.le_refl _) q3
  · have hn : (spo t c h r).toNat ≠ (spo s0 s1 s2 s3).toNat := by
      obtain ⟨a1, a2, a3, a4⟩ := hr
      unfold spo at he ⊢
      omega
    have hlt : 10496 * (36 - t) + 164 * c + 4 * h + r < (-10496) * s0 + 164 * s1 + 4 * s2 + s3 + 377856 ∧ s0 ≤ t := by
      have hk : ¬ (10496 * (36 - t) + 164 * c + 4 * h + r = (-10496) * s0 + 164 * s1 + 4 * s2 + s3 + 377856) := fun hk => he (by
        obtain ⟨a1, a2, a3, a4⟩ := hr
        have e4 : r = s3 := by omega
        have e3 : h = s2 := by omega
        have e2 : c = s1 := by omega
        have e1 : t = s0 := by omega
        rw [e1, e2, e3, e4])
      obtain ⟨a1, a2, a3, a4⟩ := hr
      omega
    show goo 1 (st M 88 (spo s0 s1 s2 s3).toNat s4) t c h r (st M 88 (spo s0 s1 s2 s3).toNat s4 88 (spo t c h r).toNat)
    rw [show st M 88 (spo s0 s1 s2 s3).toNat s4 88 (spo t c h r).toNat = M 88 (spo t c h r).toNat from if_neg (fun q => hn q.2)]
    exact goo_w lRL1 hs hlt.2 (m0 h0 t c h r hr hq hlt.1)
theorem rul_54 : Rul r_54 := by
  refine ⟨fun h => (by cases h), fun gi gv hg ρ M hm hB hF hG => ?_⟩
  obtain ⟨g1, g2⟩ := List.cons.inj (show ([aI ((0 : Int), ([(0, 10496), (1, 164), (2, 4), (3, 1)] : List (Nat × Int))), aI ((0 : Int), ([(4, 1)] : List (Nat × Int)))] : List av) = [.inl gi, .inl gv] from hg)
  obtain ⟨g2, -⟩ := List.cons.inj g2
  cases g1
  cases g2
  have ei : ev ρ ((0 : Int), ([(0, 10496), (1, 164), (2, 4), (3, 1)] : List (Nat × Int))) = (10496 * (ρ 0) + 164 * (ρ 1) + 4 * (ρ 2) + (ρ 3)) := by show 0 + (10496 * ρ 0 + (164 * ρ 1 + (4 * ρ 2 + (1 * ρ 3 + 0)))) = _; omega
  have ew : ev ρ ((0 : Int), ([(4, 1)] : List (Nat × Int))) = ((ρ 4)) := by show 0 + (1 * ρ 4 + 0) = _; omega
  rw [show (st M (ctj r_54) (ev ρ ((0 : Int), ([(0, 10496), (1, 164), (2, 4), (3, 1)] : List (Nat × Int)))).toNat (ev ρ ((0 : Int), ([(4, 1)] : List (Nat × Int))))) = (st M 88 (10496 * (ρ 0) + 164 * (ρ 1) + 4 * (ρ 2) + (ρ 3)).toNat ((ρ 4))) from by rw [ei, ew]; rfl]
  have H := cr_54 M (ρ 0) (ρ 1) (ρ 2) (ρ 3) (ρ 4) (hB _ List.mem_cons_self) (hB _ (List.mem_cons_of_mem _ List.mem_cons_self)) (hB _ (List.mem_cons_of_mem _ (List.mem_cons_of_mem _ List.mem_cons_self))) (hB _ (List.mem_cons_of_mem _ (List.mem_cons_of_mem _ (List.mem_cons_of_mem _ List.mem_cons_self)))) (hB _ (List.mem_cons_of_mem _ (List.mem_cons_of_mem _ (List.mem_cons_of_mem _ (List.mem_cons_of_mem _ List.mem_cons_self))))) (cvp 10 (x' := ((-10496) * (ρ 0) + 164 * (ρ 1) + 4 * (ρ 2) + (ρ 3) + 377856)) (y' := (0 : Int)) (by show 377856 + ((-10496) * ρ 0 + (164 * ρ 1 + (4 * ρ 2 + (1 * ρ 3 + 0)))) = _; omega) (by show 0 + 0 = _; omega) (hm _ List.mem_cons_self)) (cvp 12 (x' := (10496 * (ρ 0) + 164 * (ρ 1) + 4 * (ρ 2) + (ρ 3))) (y' := ((ρ 4))) (by show 0 + (10496 * ρ 0 + (164 * ρ 1 + (4 * ρ 2 + (1 * ρ 3 + 0)))) = _; omega) (by show 0 + (1 * ρ 4 + 0) = _; omega) (hm _ (List.mem_cons_of_mem _ List.mem_cons_self))) hG
  obtain ⟨k0, -⟩ := H
  exact ⟨_, List.mem_cons_self, ρ, fun _ _ => rfl, (okM_c (pvp 10 (by show 377857 + ((-10496) * ρ 0 + (164 * ρ 1 + (4 * ρ 2 + (1 * ρ 3 + 0)))) = _; omega) (by show 0 + 0 = _; omega) k0) okM_n), okB_n, okF_n⟩
-- gv01
theorem cr_55 (M : pM) (s0 s1 s2 s3 s4 : Int) (b0 : 0 ≤ s0 ∧ s0 ≤ 36) (b1 : 0 ≤ s1 ∧ s1 ≤ 63) (b2 : 0 ≤ s2 ∧ s2 ≤ 40) (b3 : 0 ≤ s3 ∧ s3 ≤ 3) (b4 : 1000 ≤ s4 ∧ s4 ≤ 1000) (hG : gI M) : (HP 12 (10496 * s0 + 164 * s1 + 4 * s2 + s3) (s4) M ∧ True) := by
  exact ⟨⟨s0, s1, s2, s3, ⟨b0, b1, b2, b3⟩, rfl, Or.inr (Or.inl b4.1)⟩, trivial⟩
theorem rul_55 : Rul r_55 := by
  refine ⟨fun _ ρ M hm hB hF hG => ?_, fun gi gv hg => (by cases hg)⟩
  have H := cr_55 M (ρ 0) (ρ 1) (ρ 2) (ρ 3) (ρ 4) (hB _ List.mem_cons_self) (hB _ (List.mem_cons_of_mem _ List.mem_cons_self)) (hB _ (List.mem_cons_of_mem _ (List.mem_cons_of_mem _ List.mem_cons_self))) (hB _ (List.mem_cons_of_mem _ (List.mem_cons_of_mem _ (List.mem_cons_of_mem _ List.mem_cons_self)))) (hB _ (List.mem_cons_of_mem _ (List.mem_cons_of_mem _ (List.mem_cons_of_mem _ (List.mem_cons_of_mem _ List.mem_cons_self))))) hG
  obtain ⟨k0, -⟩ := H
  exact ⟨_, List.mem_cons_self, ρ, fun _ _ => rfl, (okM_c (pvp 12 (by show 0 + (10496 * ρ 0 + (164 * ρ 1 + (4 * ρ 2 + (1 * ρ 3 + 0)))) = _; omega) (by show 0 + (1 * ρ 4 + 0) = _; omega) k0) okM_n), okB_n, okF_n⟩
-- gvf1
theorem cr_56 (M : pM) (s0 s1 s2 s3 s4 s5 s6 s7 : Int) (b0 : 0 ≤ s0 ∧ s0 ≤ 36) (b1 : 0 ≤ s1 ∧ s1 ≤ 63) (b2 : 0 ≤ s2 ∧ s2 ≤ 40) (b3 : 0 ≤ s3 ∧ s3 ≤ 3) (b4 : 0 ≤ s4 ∧ s4 ≤ 1000) (b5 : 0 ≤ s5 ∧ s5 ≤ 3) (b6 : 0 ≤ s6 ∧ s6 ≤ 63) (b7 : 0 ≤ s7 ∧ s7 ≤ 40) (m0 : (0 ≤ (40 : Int) ∧ M 61 (40 : Int).toNat = (s5))) (m1 : (0 ≤ (s5) ∧ M 87 (s5).toNat = (s6))) (m2 : (0 ≤ (44 : Int) ∧ M 61 (44 : Int).toNat = (s7))) (f0 : 0 ≤ ((-1) * s3 + s5)) (f1 : 0 ≤ (s3 + (-1) * s5)) (f2 : 0 ≤ ((-1) * s1 + s6)) (f3 : 0 ≤ (s1 + (-1) * s6)) (f4 : 0 ≤ (s2 + (-1) * s7)) (hG : gI M) : (HP 12 (10496 * s0 + 164 * s1 + 4 * s2 + s3) (s4) M ∧ True) := by
  have e0 : M 61 40 = s5 := m0.2
  have e2 : M 61 44 = s7 := m2.2
  refine ⟨⟨s0, s1, s2, s3, ⟨b0, b1, b2, b3⟩, rfl, Or.inl ⟨by omega, ?_, by omega⟩⟩, trivial⟩
  rw [e0, m1.2]
  omega
theorem rul_56 : Rul r_56 := by
  refine ⟨fun _ ρ M hm hB hF hG => ?_, fun gi gv hg => (by cases hg)⟩
  have H := cr_56 M (ρ 0) (ρ 1) (ρ 2) (ρ 3) (ρ 4) (ρ 5) (ρ 6) (ρ 7) (hB _ List.mem_cons_self) (hB _ (List.mem_cons_of_mem _ List.mem_cons_self)) (hB _ (List.mem_cons_of_mem _ (List.mem_cons_of_mem _ List.mem_cons_self))) (hB _ (List.mem_cons_of_mem _ (List.mem_cons_of_mem _ (List.mem_cons_of_mem _ List.mem_cons_self)))) (hB _ (List.mem_cons_of_mem _ (List.mem_cons_of_mem _ (List.mem_cons_of_mem _ (List.mem_cons_of_mem _ List.mem_cons_self))))) (hB _ (List.mem_cons_of_mem _ (List.mem_cons_of_mem _ (List.mem_cons_of_mem _ (List.mem_cons_of_mem _ (List.mem_cons_of_mem _ List.mem_cons_self)))))) (hB _ (List.mem_cons_of_mem _ (List.mem_cons_of_mem _ (List.mem_cons_of_mem _ (List.mem_cons_of_mem _ (List.mem_cons_of_mem _ (List.mem_cons_of_mem _ List.mem_cons_self))))))) (hB _ (List.mem_cons_of_mem _ (List.mem_cons_of_mem _ (List.mem_cons_of_mem _ (List.mem_cons_of_mem _ (List.mem_cons_of_mem _ (List.mem_cons_of_mem _ (List.mem_cons_of_mem _ List.mem_cons_self)))))))) (cvm (c := 61) (by decide) (x' := (40 : Int)) (y' := ((ρ 5))) (by show 40 + 0 = _; omega) (by show 0 + (1 * ρ 5 + 0) = _; omega) (hm _ List.mem_cons_self)) (cvm (c := 87) (by decide) (x' := ((ρ 5))) (y' := ((ρ 6))) (by show 0 + (1 * ρ 5 + 0) = _; omega) (by show 0 + (1 * ρ 6 + 0) = _; omega) (hm _ (List.mem_cons_of_mem _ List.mem_cons_self))) (cvm (c := 61) (by decide) (x' := (44 : Int)) (y' := ((ρ 7))) (by show 44 + 0 = _; omega) (by show 0 + (1 * ρ 7 + 0) = _; omega) (hm _ (List.mem_cons_of_mem _ (List.mem_cons_of_mem _ List.mem_cons_self)))) (by have h := hF _ List.mem_cons_self; have h : 0 ≤ 0 + ((-1) * ρ 3 + (1 * ρ 5 + 0)) := h; omega) (by have h := hF _ (List.mem_cons_of_mem _ List.mem_cons_self); have h : 0 ≤ 0 + (1 * ρ 3 + ((-1) * ρ 5 + 0)) := h; omega) (by have h := hF _ (List.mem_cons_of_mem _ (List.mem_cons_of_mem _ List.mem_cons_self)); have h : 0 ≤ 0 + ((-1) * ρ 1 + (1 * ρ 6 + 0)) := h; omega) (by have h := hF _ (List.mem_cons_of_mem _ (List.mem_cons_of_mem _ (List.mem_cons_of_mem _ List.mem_cons_self))); have h : 0 ≤ 0 + (1 * ρ 1 + ((-1) * ρ 6 + 0)) := h; omega) (by have h := hF _ (List.mem_cons_of_mem _ (List.mem_cons_of_mem _ (List.mem_cons_of_mem _ (List.mem_cons_of_mem _ List.mem_cons_self)))); have h : 0 ≤ 0 + (1 * ρ 2 + ((-1) * ρ 7 + 0)) := h; omega) hG
  obtain ⟨k0, -⟩ := H
  exact ⟨_, List.mem_cons_self, ρ, fun _ _ => rfl, (okM_c (pvp 12 (by show 0 + (10496 * ρ 0 + (164 * ρ 1 + (4 * ρ 2 + (1 * ρ 3 + 0)))) = _; omega) (by show 0 + (1 * ρ 4 + 0) = _; omega) k0) okM_n), okB_n, okF_n⟩
-- gve1
theorem cr_57 (M : pM) (s0 s1 s2 s3 s4 s5 : Int) (b0 : 0 ≤ s0 ∧ s0 ≤ 36) (b1 : 0 ≤ s1 ∧ s1 ≤ 63) (b2 : 0 ≤ s2 ∧ s2 ≤ 40) (b3 : 0 ≤ s3 ∧ s3 ≤ 3) (b4 : 0 ≤ s4 ∧ s4 ≤ 388351) (b5 : 0 ≤ s5 ∧ s5 ≤ 1000) (m0 : HP 14 (10496 * s0 + 164 * s1 + 4 * s2 + s3) (s4) M) (m1 : (0 ≤ (s4) ∧ M 88 (s4).toNat = (s5))) (hG : gI M) : (HP 12 (10496 * s0 + 164 * s1 + 4 * s2 + s3) (s5) M ∧ True) := by
  obtain ⟨t, c, h, r, m, a1, a2, a3, a4, a5⟩ := m0
  exact ⟨⟨t, c, h, r, a1, a2, Or.inr (Or.inr ⟨m, s4, a3, a4, a5, m1.2⟩)⟩, trivial⟩
theorem rul_57 : Rul r_57 := by
  refine ⟨fun _ ρ M hm hB hF hG => ?_, fun gi gv hg => (by cases hg)⟩
  have H := cr_57 M (ρ 0) (ρ 1) (ρ 2) (ρ 3) (ρ 4) (ρ 5) (hB _ List.mem_cons_self) (hB _ (List.mem_cons_of_mem _ List.mem_cons_self)) (hB _ (List.mem_cons_of_mem _ (List.mem_cons_of_mem _ List.mem_cons_self))) (hB _ (List.mem_cons_of_mem _ (List.mem_cons_of_mem _ (List.mem_cons_of_mem _ List.mem_cons_self)))) (hB _ (List.mem_cons_of_mem _ (List.mem_cons_of_mem _ (List.mem_cons_of_mem _ (List.mem_cons_of_mem _ List.mem_cons_self))))) (hB _ (List.mem_cons_of_mem _ (List.mem_cons_of_mem _ (List.mem_cons_of_mem _ (List.mem_cons_of_mem _ (List.mem_cons_of_mem _ List.mem_cons_self)))))) (cvp 14 (x' := (10496 * (ρ 0) + 164 * (ρ 1) + 4 * (ρ 2) + (ρ 3))) (y' := ((ρ 4))) (by show 0 + (10496 * ρ 0 + (164 * ρ 1 + (4 * ρ 2 + (1 * ρ 3 + 0)))) = _; omega) (by show 0 + (1 * ρ 4 + 0) = _; omega) (hm _ List.mem_cons_self)) (cvm (c := 88) (by decide) (x' := ((ρ 4))) (y' := ((ρ 5))) (by show 0 + (1 * ρ 4 + 0) = _; omega) (by show 0 + (1 * ρ 5 + 0) = _; omega) (hm _ (List.mem_cons_of_mem _ List.mem_cons_self))) hG
  obtain ⟨k0, -⟩ := H
  exact ⟨_, List.mem_cons_self, ρ, fun _ _ => rfl, (okM_c (pvp 12 (by show 0 + (10496 * ρ 0 + (164 * ρ 1 + (4 * ρ 2 + (1 * ρ 3 + 0)))) = _; omega) (by show 0 + (1 * ρ 5 + 0) = _; omega) k0) okM_n), okB_n, okF_n⟩
-- re1
theorem cr_58 (M : pM) (s0 s1 s2 s3 s4 s5 s6 s7 s8 : Int) (b0 : 0 ≤ s0 ∧ s0 ≤ 36) (b1 : 0 ≤ s1 ∧ s1 ≤ 63) (b2 : 0 ≤ s2 ∧ s2 ≤ 40) (b3 : 0 ≤ s3 ∧ s3 ≤ 3) (b4 : 0 ≤ s4 ∧ s4 ≤ 36) (b5 : 0 ≤ s5 ∧ s5 ≤ 63) (b6 : 0 ≤ s6 ∧ s6 ≤ 40) (b7 : 0 ≤ s7 ∧ s7 ≤ 3) (b8 : 0 ≤ s8 ∧ s8 ≤ 24) (m0 : HP 16 (10496 * s0 + 164 * s1 + 4 * s2 + s3) (s8) M) (m1 : (0 ≤ (36 : Int) ∧ M 61 (36 : Int).toNat = (s5))) (m2 : (0 ≤ (37 : Int) ∧ M 61 (37 : Int).toNat = (s4))) (m3 : (0 ≤ (38 : Int) ∧ M 61 (38 : Int).toNat = (s6))) (m4 : HP 19 (s3 + 4 * s5) (s7) M) (hG : gI M) : (HP 14 (10496 * s0 + 164 * s1 + 4 * s2 + s3) (10496 * s4 + 164 * s5 + 4 * s6 + s7) M ∧ True) := by
  have e1 : M 61 36 = s5 := m1.2
  have e2 : M 61 37 = s4 := m2.2
  have e3 : M 61 38 = s6 := m3.2
  obtain ⟨t, c, h, r, a1, a2, a3, a4, a5, a6⟩ := m0
  have := spo_inj (t := s0) (c := s1) (h := s2) (r := s3) ⟨b0, b1, b2, b3⟩ a1 a2
  obtain ⟨x1, x2, x3, x4⟩ := this
  subst x1
  subst x2
  subst x3
  subst x4
  obtain ⟨c2, r2, d1, d2, d3, d4, d5, d6⟩ := m4
  have y1 : c2 = s5 := by omega
  have y2 : r2 = s3 := by omega
  subst y1
  subst y2
  rw [e1, e2, e3] at a6
  rw [e2] at a5
  exact ⟨⟨s0, s1, s2, r2, s8, ⟨b0, b1, b2, b3⟩, rfl, a3, a4, s4, c2, s6, s7, ⟨b4, b5, b6, b7⟩, a5, a6, d6, rfl⟩, trivial⟩
theorem rul_58 : Rul r_58 := by
  refine ⟨fun _ ρ M hm hB hF hG => ?_, fun gi gv hg => (by cases hg)⟩
  have H := cr_58 M (ρ 0) (ρ 1) (ρ 2) (ρ 3) (ρ 4) (ρ 5) (ρ 6) (ρ 7) (ρ 8) (hB _ List.mem_cons_self) (hB _ (List.mem_cons_of_mem _ List.mem_cons_self)) (hB _ (List.mem_cons_of_mem _ (List.mem_cons_of_mem _ List.mem_cons_self))) (hB _ (List.mem_cons_of_mem _ (List.mem_cons_of_mem _ (List.mem_cons_of_mem _ List.mem_cons_self)))) (hB _ (List.mem_cons_of_mem _ (List.mem_cons_of_mem _ (List.mem_cons_of_mem _ (List.mem_cons_of_mem _ List.mem_cons_self))))) (hB _ (List.mem_cons_of_mem _ (List.mem_cons_of_mem _ (List.mem_cons_of_mem _ (List.mem_cons_of_mem _ (List.mem_cons_of_mem _ List.mem_cons_self)))))) (hB _ (List.mem_cons_of_mem _ (List.mem_cons_of_mem _ (List.mem_cons_of_mem _ (List.mem_cons_of_mem _ (List.mem_cons_of_mem _ (List.mem_cons_of_mem _ List.mem_cons_self))))))) (hB _ (List.mem_cons_of_mem _ (List.mem_cons_of_mem _ (List.mem_cons_of_mem _ (List.mem_cons_of_mem _ (List.mem_cons_of_mem _ (List.mem_cons_of_mem _ (List.mem_cons_of_mem _ List.mem_cons_self)))))))) (hB _ (List.mem_cons_of_mem _ (List.mem_cons_of_mem _ (List.mem_cons_of_mem _ (List.mem_cons_of_mem _ (List.mem_cons_of_mem _ (List.mem_cons_of_mem _ (List.mem_cons_of_mem _ (List.mem_cons_of_mem _ List.mem_cons_self))))))))) (cvp 16 (x' := (10496 * (ρ 0) + 164 * (ρ 1) + 4 * (ρ 2) + (ρ 3))) (y' := ((ρ 8))) (by show 0 + (10496 * ρ 0 + (164 * ρ 1 + (4 * ρ 2 + (1 * ρ 3 + 0)))) = _; omega) (by show 0 + (1 * ρ 8 + 0) = _; omega) (hm _ List.mem_cons_self)) (cvm (c := 61) (by decide) (x' := (36 : Int)) (y' := ((ρ 5))) (by show 36 + 0 = _; omega) (by show 0 + (1 * ρ 5 + 0) = _; omega) (hm _ (List.mem_cons_of_mem _ List.mem_cons_self))) (cvm (c := 61) (by decide) (x' := (37 : Int)) (y' := ((ρ 4))) (by show 37 + 0 = _; omega) (by show 0 + (1 * ρ 4 + 0) = _; omega) (hm _ (List.mem_cons_of_mem _ (List.mem_cons_of_mem _ List.mem_cons_self)))) (cvm (c := 61) (by decide) (x' := (38 : Int)) (y' := ((ρ 6))) (by show 38 + 0 = _; omega) (by show 0 + (1 * ρ 6 + 0) = _; omega) (hm _ (List.mem_cons_of_mem _ (List.mem_cons_of_mem _ (List.mem_cons_of_mem _ List.mem_cons_self))))) (cvp 19 (x' := ((ρ 3) + 4 * (ρ 5))) (y' := ((ρ 7))) (by show 0 + (1 * ρ 3 + (4 * ρ 5 + 0)) = _; omega) (by show 0 + (1 * ρ 7 + 0) = _; omega) (hm _ (List.mem_cons_of_mem _ (List.mem_cons_of_mem _ (List.mem_cons_of_mem _ (List.mem_cons_of_mem _ List.mem_cons_self)))))) hG
  obtain ⟨k0, -⟩ := H
  exact ⟨_, List.mem_cons_self, ρ, fun _ _ => rfl, (okM_c (pvp 14 (by show 0 + (10496 * ρ 0 + (164 * ρ 1 + (4 * ρ 2 + (1 * ρ 3 + 0)))) = _; omega) (by show 0 + (10496 * ρ 4 + (164 * ρ 5 + (4 * ρ 6 + (1 * ρ 7 + 0)))) = _; omega) k0) okM_n), okB_n, okF_n⟩
-- dpw1
theorem cr_59 (M : pM) (s0 s1 s2 s3 s4 s5 s6 : Int) (b0 : 0 ≤ s0 ∧ s0 ≤ 36) (b1 : 0 ≤ s1 ∧ s1 ≤ 63) (b2 : 0 ≤ s2 ∧ s2 ≤ 40) (b3 : 0 ≤ s3 ∧ s3 ≤ 3) (b4 : 388352 ≤ s4 ∧ s4 ≤ 388352) (b5 : 0 ≤ s5 ∧ s5 ≤ 3) (b6 : 0 ≤ s6 ∧ s6 ≤ 999) (m0 : HP 10 (s4) (0 : Int) M) (m1 : (0 ≤ (40 : Int) ∧ M 61 (40 : Int).toNat = (s5))) (m2 : (0 ≤ (10496 * s0 + 164 * s1 + 4 * s2 + s3) ∧ M 88 (10496 * s0 + 164 * s1 + 4 * s2 + s3).toNat = (s6))) (m3 : HP 20 (10496 * s0 + 164 * s1 + 4 * s2 + s3) (0 : Int) M) (f0 : 0 ≤ ((-1) * s3 + s5)) (hG : gI M) : (∃ t0 : Int, 0 ≤ t0 ∧ t0 ≤ 24 ∧ HP 18 (10496 * s0 + 164 * s1 + 4 * s2 + s3) (t0) M ∧ True) := by
  have e0 : s4 = 388352 := by omega
  subst e0
  have e1 : M 61 40 = s5 := m1.2
  have hr : rng s0 s1 s2 s3 := ⟨b0, b1, b2, b3⟩
  have hg := m0 (by omega) s0 s1 s2 s3 hr (by omega) (by omega)
  have m2 : M 88 (spo s0 s1 s2 s3).toNat = s6 := m2.2
  rcases hg with q | q | ⟨m, y, q1, q2, q3, q4⟩
  · exact absurd q (m3 s0 s1 s2 s3 hr rfl)
  · omega
  · exact ⟨m, q1, q2, ⟨s0, s1, s2, s3, hr, rfl, q1, q2, y, q3, q4⟩, trivial⟩
theorem rul_59 : Rul r_59 := by
  refine ⟨fun _ ρ M hm hB hF hG => ?_, fun gi gv hg => (by cases hg)⟩
  have H := cr_59 M (ρ 0) (ρ 1) (ρ 2) (ρ 3) (ρ 4) (ρ 5) (ρ 6) (hB _ List.mem_cons_self) (hB _ (List.mem_cons_of_mem _ List.mem_cons_self)) (hB _ (List.mem_cons_of_mem _ (List.mem_cons_of_mem _ List.mem_cons_self))) (hB _ (List.mem_cons_of_mem _ (List.mem_cons_of_mem _ (List.mem_cons_of_mem _ List.mem_cons_self)))) (hB _ (List.mem_cons_of_mem _ (List.mem_cons_of_mem _ (List.mem_cons_of_mem _ (List.mem_cons_of_mem _ List.mem_cons_self))))) (hB _ (List.mem_cons_of_mem _ (List.mem_cons_of_mem _ (List.mem_cons_of_mem _ (List.mem_cons_of_mem _ (List.mem_cons_of_mem _ List.mem_cons_self)))))) (hB _ (List.mem_cons_of_mem _ (List.mem_cons_of_mem _ (List.mem_cons_of_mem _ (List.mem_cons_of_mem _ (List.mem_cons_of_mem _ (List.mem_cons_of_mem _ List.mem_cons_self))))))) (cvp 10 (x' := ((ρ 4))) (y' := (0 : Int)) (by show 0 + (1 * ρ 4 + 0) = _; omega) (by show 0 + 0 = _; omega) (hm _ List.mem_cons_self)) (cvm (c := 61) (by decide) (x' := (40 : Int)) (y' := ((ρ 5))) (by show 40 + 0 = _; omega) (by show 0 + (1 * ρ 5 + 0) = _; omega) (hm _ (List.mem_cons_of_mem _ List.mem_cons_self))) (cvm (c := 88) (by decide) (x' := (10496 * (ρ 0) + 164 * (ρ 1) + 4 * (ρ 2) + (ρ 3))) (y' := ((ρ 6))) (by show 0 + (10496 * ρ 0 + (164 * ρ 1 + (4 * ρ 2 + (1 * ρ 3 + 0)))) = _; omega) (by show 0 + (1 * ρ 6 + 0) = _; omega) (hm _ (List.mem_cons_of_mem _ (List.mem_cons_of_mem _ List.mem_cons_self)))) (cvp 20 (x' := (10496 * (ρ 0) + 164 * (ρ 1) + 4 * (ρ 2) + (ρ 3))) (y' := (0 : Int)) (by show 0 + (10496 * ρ 0 + (164 * ρ 1 + (4 * ρ 2 + (1 * ρ 3 + 0)))) = _; omega) (by show 0 + 0 = _; omega) (hm _ (List.mem_cons_of_mem _ (List.mem_cons_of_mem _ (List.mem_cons_of_mem _ List.mem_cons_self))))) (by have h := hF _ List.mem_cons_self; have h : 0 ≤ 0 + ((-1) * ρ 3 + (1 * ρ 5 + 0)) := h; omega) hG
  obtain ⟨t0, u0, v0, k0, -⟩ := H
  obtain ⟨ρ', ha, a0, a1, a2, a3, a4, a5, a6, a7⟩ : ∃ ρ' : Nat → Int, agr 7 ρ ρ' ∧ ρ' 0 = ρ 0 ∧ ρ' 1 = ρ 1 ∧ ρ' 2 = ρ 2 ∧ ρ' 3 = ρ 3 ∧ ρ' 4 = ρ 4 ∧ ρ' 5 = ρ 5 ∧ ρ' 6 = ρ 6 ∧ ρ' 7 = t0 := ⟨fun s => if s = 7 then t0 else ρ s, fun s hs => by show (if s = 7 then t0 else ρ s) = _; rw [if_neg (by omega)], rfl, rfl, rfl, rfl, rfl, rfl, rfl, rfl⟩
  exact ⟨_, List.mem_cons_self, ρ', ha, (okM_c (pvp 18 (by show 0 + (10496 * ρ' 0 + (164 * ρ' 1 + (4 * ρ' 2 + (1 * ρ' 3 + 0)))) = _; omega) (by show 0 + (1 * ρ' 7 + 0) = _; omega) k0) okM_n), (okB_c (by omega) okB_n), okF_n⟩
-- al0
theorem cr_60 (M : pM) (s0 : Int) (b0 : 0 ≤ s0 ∧ s0 ≤ 1900) (hG : gI M) : (HP 43 (s0) (s0) M ∧ True) := by
  exact ⟨Eq.mpr hp_43 ⟨0, s0.toNat, s0.toNat, by decide, by omega, by omega, by omega, Nat.le_refl _, Or.inr rfl, fun i h1 h2 => by omega⟩, trivial⟩
theorem rul_60 : Rul r_60 := by
  refine ⟨fun _ ρ M hm hB hF hG => ?_, fun gi gv hg => (by cases hg)⟩
  have H := cr_60 M (ρ 0) (hB _ List.mem_cons_self) hG
  obtain ⟨k0, -⟩ := H
  exact ⟨_, List.mem_cons_self, ρ, fun _ _ => rfl, (okM_c (pvp 43 (by show 0 + (1 * ρ 0 + 0) = _; omega) (by show 0 + (1 * ρ 0 + 0) = _; omega) k0) okM_n), okB_n, okF_n⟩
-- al0n0
theorem cr_61 (M : pM) (s0 s1 s2 s3 : Int) (b0 : 0 ≤ s0 ∧ s0 ≤ 1900) (b1 : 0 ≤ s1 ∧ s1 ≤ 1900) (b2 : 0 ≤ s2 ∧ s2 ≤ 1900) (b3 : 0 ≤ s3 ∧ s3 ≤ 255) (m0 : (0 ≤ (1 : Int) ∧ M 2 (1 : Int).toNat = (s2))) (m1 : HP 43 (s0) (s1) M) (m2 : (0 ≤ (s1) ∧ M 1 (s1).toNat = (s3))) (f0 : 0 ≤ ((-1) * s1 + s2 - 1)) (f1 : 0 ≤ ((-1) * s3 + 32)) (f2 : 0 ≤ (s3 - 32)) (hG : gI M) : (HP 43 (s0) (s1 + 1) M ∧ True) := by
  have hn := tn_o m0 b2
  obtain ⟨P, p, q, h1, h2, h3, h4, h5, h6, h7⟩ := Eq.mp hp_43 m1
  have hP : P = 0 := by omega
  subst hP
  refine ⟨Eq.mpr hp_43 ⟨0, p, q + 1, by decide, h2, h3, by omega, by omega, Or.inl (by omega), fun i i1 i2 => ?_⟩, trivial⟩
  by_cases e : i = q
  · rw [e, show q = s1.toNat by omega, m2.2]; exact decide_eq_true (by omega)
  · exact h7 i i1 (by omega)
theorem rul_61 : Rul r_61 := by
  refine ⟨fun _ ρ M hm hB hF hG => ?_, fun gi gv hg => (by cases hg)⟩
  have H := cr_61 M (ρ 0) (ρ 1) (ρ 2) (ρ 3) (hB _ List.mem_cons_self) (hB _ (List.mem_cons_of_mem _ List.mem_cons_self)) (hB _ (List.mem_cons_of_mem _ (List.mem_cons_of_mem _ List.mem_cons_self))) (hB _ (List.mem_cons_of_mem _ (List.mem_cons_of_mem _ (List.mem_cons_of_mem _ List.mem_cons_self)))) (cvm (c := 2) (by decide) (x' := (1 : Int)) (y' := ((ρ 2))) (by show 1 + 0 = _; omega) (by show 0 + (1 * ρ 2 + 0) = _; omega) (hm _ List.mem_cons_self)) (cvp 43 (x' := ((ρ 0))) (y' := ((ρ 1))) (by show 0 + (1 * ρ 0 + 0) = _; omega) (by show 0 + (1 * ρ 1 + 0) = _; omega) (hm _ (List.mem_cons_of_mem _ List.mem_cons_self))) (cvm (c := 1) (by decide) (x' := ((ρ 1))) (y' := ((ρ 3))) (by show 0 + (1 * ρ 1 + 0) = _; omega) (by show 0 + (1 * ρ 3 + 0) = _; omega) (hm _ (List.mem_cons_of_mem _ (List.mem_cons_of_mem _ List.mem_cons_self)))) (by have h := hF _ List.mem_cons_self; have h : 0 ≤ (-1) + ((-1) * ρ 1 + (1 * ρ 2 + 0)) := h; omega) (by have h := hF _ (List.mem_cons_of_mem _ List.mem_cons_self); have h : 0 ≤ 32 + ((-1) * ρ 3 + 0) := h; omega) (by have h := hF _ (List.mem_cons_of_mem _ (List.mem_cons_of_mem _ List.mem_cons_self)); have h : 0 ≤ (-32) + (1 * ρ 3 + 0) := h; omega) hG
  obtain ⟨k0, -⟩ := H
  exact ⟨_, List.mem_cons_self, ρ, fun _ _ => rfl, (okM_c (pvp 43 (by show 0 + (1 * ρ 0 + 0) = _; omega) (by show 1 + (1 * ρ 1 + 0) = _; omega) k0) okM_n), okB_n, okF_n⟩
-- al0n1
theorem cr_62 (M : pM) (s0 s1 s2 s3 : Int) (b0 : 0 ≤ s0 ∧ s0 ≤ 1900) (b1 : 0 ≤ s1 ∧ s1 ≤ 1900) (b2 : 0 ≤ s2 ∧ s2 ≤ 1900) (b3 : 0 ≤ s3 ∧ s3 ≤ 255) (m0 : (0 ≤ (1 : Int) ∧ M 2 (1 : Int).toNat = (s2))) (m1 : HP 43 (s0) (s1) M) (m2 : (0 ≤ (s1) ∧ M 1 (s1).toNat = (s3))) (f0 : 0 ≤ ((-1) * s1 + s2 - 1)) (f1 : 0 ≤ ((-1) * s3 + 10)) (f2 : 0 ≤ (s3 - 10)) (hG : gI M) : (HP 43 (s0) (s1 + 1) M ∧ True) := by
  have hn := tn_o m0 b2
  obtain ⟨P, p, q, h1, h2, h3, h4, h5, h6, h7⟩ := Eq.mp hp_43 m1
  have hP : P = 0 := by omega
  subst hP
  refine ⟨Eq.mpr hp_43 ⟨0, p, q + 1, by decide, h2, h3, by omega, by omega, Or.inl (by omega), fun i i1 i2 => ?_⟩, trivial⟩
  by_cases e : i = q
  · rw [e, show q = s1.toNat by omega, m2.2]; exact decide_eq_true (by omega)
  · exact h7 i i1 (by omega)
theorem rul_62 : Rul r_62 := by
  refine ⟨fun _ ρ M hm hB hF hG => ?_, fun gi gv hg => (by cases hg)⟩
  have H := cr_62 M (ρ 0) (ρ 1) (ρ 2) (ρ 3) (hB _ List.mem_cons_self) (hB _ (List.mem_cons_of_mem _ List.mem_cons_self)) (hB _ (List.mem_cons_of_mem _ (List.mem_cons_of_mem _ List.mem_cons_self))) (hB _ (List.mem_cons_of_mem _ (List.mem_cons_of_mem _ (List.mem_cons_of_mem _ List.mem_cons_self)))) (cvm (c := 2) (by decide) (x' := (1 : Int)) (y' := ((ρ 2))) (by show 1 + 0 = _; omega) (by show 0 + (1 * ρ 2 + 0) = _; omega) (hm _ List.mem_cons_self)) (cvp 43 (x' := ((ρ 0))) (y' := ((ρ 1))) (by show 0 + (1 * ρ 0 + 0) = _; omega) (by show 0 + (1 * ρ 1 + 0) = _; omega) (hm _ (List.mem_cons_of_mem _ List.mem_cons_self))) (cvm (c := 1) (by decide) (x' := ((ρ 1))) (y' := ((ρ 3))) (by show 0 + (1 * ρ 1 + 0) = _; omega) (by show 0 + (1 * ρ 3 + 0) = _; omega) (hm _ (List.mem_cons_of_mem _ (List.mem_cons_of_mem _ List.mem_cons_self)))) (by have h := hF _ List.mem_cons_self; have h : 0 ≤ (-1) + ((-1) * ρ 1 + (1 * ρ 2 + 0)) := h; omega) (by have h := hF _ (List.mem_cons_of_mem _ List.mem_cons_self); have h : 0 ≤ 10 + ((-1) * ρ 3 + 0) := h; omega) (by have h := hF _ (List.mem_cons_of_mem _ (List.mem_cons_of_mem _ List.mem_cons_self)); have h : 0 ≤ (-10) + (1 * ρ 3 + 0) := h; omega) hG
  obtain ⟨k0, -⟩ := H
  exact ⟨_, List.mem_cons_self, ρ, fun _ _ => rfl, (okM_c (pvp 43 (by show 0 + (1 * ρ 0 + 0) = _; omega) (by show 1 + (1 * ρ 1 + 0) = _; omega) k0) okM_n), okB_n, okF_n⟩
-- ru0e
theorem cr_63 (M : pM) (s0 s1 s2 : Int) (b0 : 0 ≤ s0 ∧ s0 ≤ 1900) (b1 : 0 ≤ s1 ∧ s1 ≤ 1900) (b2 : 0 ≤ s2 ∧ s2 ≤ 1900) (m0 : (0 ≤ (1 : Int) ∧ M 2 (1 : Int).toNat = (s2))) (m1 : HP 43 (s0) (s1) M) (f0 : 0 ≤ (s1 + (-1) * s2)) (f1 : 0 ≤ ((-1) * s0 + s1)) (hG : gI M) : (HP 44 (s0) (s1) M ∧ True) := by
  have hn := tn_o m0 b2
  obtain ⟨P, p, q, h1, h2, h3, h4, h5⟩ := Eq.mp hp_43 m1
  have hP : P = 0 := by omega
  subst hP
  have hr := ru_al h5 (Or.inl (by omega))
  exact ⟨Eq.mpr hp_44 ⟨0, p, by decide, h2, h3, by rw [hr]; exact h4⟩, trivial⟩
theorem rul_63 : Rul r_63 := by
  refine ⟨fun _ ρ M hm hB hF hG => ?_, fun gi gv hg => (by cases hg)⟩
  have H := cr_63 M (ρ 0) (ρ 1) (ρ 2) (hB _ List.mem_cons_self) (hB _ (List.mem_cons_of_mem _ List.mem_cons_self)) (hB _ (List.mem_cons_of_mem _ (List.mem_cons_of_mem _ List.mem_cons_self))) (cvm (c := 2) (by decide) (x' := (1 : Int)) (y' := ((ρ 2))) (by show 1 + 0 = _; omega) (by show 0 + (1 * ρ 2 + 0) = _; omega) (hm _ List.mem_cons_self)) (cvp 43 (x' := ((ρ 0))) (y' := ((ρ 1))) (by show 0 + (1 * ρ 0 + 0) = _; omega) (by show 0 + (1 * ρ 1 + 0) = _; omega) (hm _ (List.mem_cons_of_mem _ List.mem_cons_self))) (by have h := hF _ List.mem_cons_self; have h : 0 ≤ 0 + (1 * ρ 1 + ((-1) * ρ 2 + 0)) := h; omega) (by have h := hF _ (List.mem_cons_of_mem _ List.mem_cons_self); have h : 0 ≤ 0 + ((-1) * ρ 0 + (1 * ρ 1 + 0)) := h; omega) hG
  obtain ⟨k0, -⟩ := H
  exact ⟨_, List.mem_cons_self, ρ, fun _ _ => rfl, (okM_c (pvp 44 (by show 0 + (1 * ρ 0 + 0) = _; omega) (by show 0 + (1 * ρ 1 + 0) = _; omega) k0) okM_n), okB_n, okF_n⟩
-- ru0c0
theorem cr_64 (M : pM) (s0 s1 s2 s3 : Int) (b0 : 0 ≤ s0 ∧ s0 ≤ 1900) (b1 : 0 ≤ s1 ∧ s1 ≤ 1900) (b2 : 0 ≤ s2 ∧ s2 ≤ 1900) (b3 : 0 ≤ s3 ∧ s3 ≤ 255) (m0 : (0 ≤ (1 : Int) ∧ M 2 (1 : Int).toNat = (s2))) (m1 : HP 43 (s0) (s1) M) (m2 : (0 ≤ (s1) ∧ M 1 (s1).toNat = (s3))) (f0 : 0 ≤ ((-1) * s1 + s2 - 1)) (f1 : 0 ≤ ((-1) * s0 + s1)) (f2 : 0 ≤ (s3 - 33)) (hG : gI M) : (HP 44 (s0) (s1) M ∧ True) := by
  have hn := tn_o m0 b2
  obtain ⟨P, p, q, h1, h2, h3, h4, h5⟩ := Eq.mp hp_43 m1
  have hP : P = 0 := by omega
  subst hP
  have hr := ru_al h5 (Or.inr (by rw [show q = s1.toNat by omega, m2.2]; exact decide_eq_false (by omega)))
  exact ⟨Eq.mpr hp_44 ⟨0, p, by decide, h2, h3, by rw [hr]; exact h4⟩, trivial⟩
theorem rul_64 : Rul r_64 := by
  refine ⟨fun _ ρ M hm hB hF hG => ?_, fun gi gv hg => (by cases hg)⟩
  have H := cr_64 M (ρ 0) (ρ 1) (ρ 2) (ρ 3) (hB _ List.mem_cons_self) (hB _ (List.mem_cons_of_mem _ List.mem_cons_self)) (hB _ (List.mem_cons_of_mem _ (List.mem_cons_of_mem _ List.mem_cons_self))) (hB _ (List.mem_cons_of_mem _ (List.mem_cons_of_mem _ (List.mem_cons_of_mem _ List.mem_cons_self)))) (cvm (c := 2) (by decide) (x' := (1 : Int)) (y' := ((ρ 2))) (by show 1 + 0 = _; omega) (by show 0 + (1 * ρ 2 + 0) = _; omega) (hm _ List.mem_cons_self)) (cvp 43 (x' := ((ρ 0))) (y' := ((ρ 1))) (by show 0 + (1 * ρ 0 + 0) = _; omega) (by show 0 + (1 * ρ 1 + 0) = _; omega) (hm _ (List.mem_cons_of_mem _ List.mem_cons_self))) (cvm (c := 1) (by decide) (x' := ((ρ 1))) (y' := ((ρ 3))) (by show 0 + (1 * ρ 1 + 0) = _; omega) (by show 0 + (1 * ρ 3 + 0) = _; omega) (hm _ (List.mem_cons_of_mem _ (List.mem_cons_of_mem _ List.mem_cons_self)))) (by have h := hF _ List.mem_cons_self; have h : 0 ≤ (-1) + ((-1) * ρ 1 + (1 * ρ 2 + 0)) := h; omega) (by have h := hF _ (List.mem_cons_of_mem _ List.mem_cons_self); have h : 0 ≤ 0 + ((-1) * ρ 0 + (1 * ρ 1 + 0)) := h; omega) (by have h := hF _ (List.mem_cons_of_mem _ (List.mem_cons_of_mem _ List.mem_cons_self)); have h : 0 ≤ (-33) + (1 * ρ 3 + 0) := h; omega) hG
  obtain ⟨k0, -⟩ := H
  exact ⟨_, List.mem_cons_self, ρ, fun _ _ => rfl, (okM_c (pvp 44 (by show 0 + (1 * ρ 0 + 0) = _; omega) (by show 0 + (1 * ρ 1 + 0) = _; omega) k0) okM_n), okB_n, okF_n⟩
-- ru0c1
theorem cr_65 (M : pM) (s0 s1 s2 s3 : Int) (b0 : 0 ≤ s0 ∧ s0 ≤ 1900) (b1 : 0 ≤ s1 ∧ s1 ≤ 1900) (b2 : 0 ≤ s2 ∧ s2 ≤ 1900) (b3 : 0 ≤ s3 ∧ s3 ≤ 255) (m0 : (0 ≤ (1 : Int) ∧ M 2 (1 : Int).toNat = (s2))) (m1 : HP 43 (s0) (s1) M) (m2 : (0 ≤ (s1) ∧ M 1 (s1).toNat = (s3))) (f0 : 0 ≤ ((-1) * s1 + s2 - 1)) (f1 : 0 ≤ ((-1) * s0 + s1)) (f2 : 0 ≤ ((-1) * s3 + 9)) (hG : gI M) : (HP 44 (s0) (s1) M ∧ True) := by
  have hn := tn_o m0 b2
  obtain ⟨P, p, q, h1, h2, h3, h4, h5⟩ := Eq.mp hp_43 m1
  have hP : P = 0 := by omega
  subst hP
  have hr := ru_al h5 (Or.inr (by rw [show q = s1.toNat by omega, m2.2]; exact decide_eq_false (by omega)))
  exact ⟨Eq.mpr hp_44 ⟨0, p, by decide, h2, h3, by rw [hr]; exact h4⟩, trivial⟩
theorem rul_65 : Rul r_65 := by
  refine ⟨fun _ ρ M hm hB hF hG => ?_, fun gi gv hg => (by cases hg)⟩
  have H := cr_65 M (ρ 0) (ρ 1) (ρ 2) (ρ 3) (hB _ List.mem_cons_self) (hB _ (List.mem_cons_of_mem _ List.mem_cons_self)) (hB _ (List.mem_cons_of_mem _ (List.mem_cons_of_mem _ List.mem_cons_self))) (hB _ (List.mem_cons_of_mem _ (List.mem_cons_of_mem _ (List.mem_cons_of_mem _ List.mem_cons_self)))) (cvm (c := 2) (by decide) (x' := (1 : Int)) (y' := ((ρ 2))) (by show 1 + 0 = _; omega) (by show 0 + (1 * ρ 2 + 0) = _; omega) (hm _ List.mem_cons_self)) (cvp 43 (x' := ((ρ 0))) (y' := ((ρ 1))) (by show 0 + (1 * ρ 0 + 0) = _; omega) (by show 0 + (1 * ρ 1 + 0) = _; omega) (hm _ (List.mem_cons_of_mem _ List.mem_cons_self))) (cvm (c := 1) (by decide) (x' := ((ρ 1))) (y' := ((ρ 3))) (by show 0 + (1 * ρ 1 + 0) = _; omega) (by show 0 + (1 * ρ 3 + 0) = _; omega) (hm _ (List.mem_cons_of_mem _ (List.mem_cons_of_mem _ List.mem_cons_self)))) (by have h := hF _ List.mem_cons_self; have h : 0 ≤ (-1) + ((-1) * ρ 1 + (1 * ρ 2 + 0)) := h; omega) (by have h := hF _ (List.mem_cons_of_mem _ List.mem_cons_self); have h : 0 ≤ 0 + ((-1) * ρ 0 + (1 * ρ 1 + 0)) := h; omega) (by have h := hF _ (List.mem_cons_of_mem _ (List.mem_cons_of_mem _ List.mem_cons_self)); have h : 0 ≤ 9 + ((-1) * ρ 3 + 0) := h; omega) hG
  obtain ⟨k0, -⟩ := H
  exact ⟨_, List.mem_cons_self, ρ, fun _ _ => rfl, (okM_c (pvp 44 (by show 0 + (1 * ρ 0 + 0) = _; omega) (by show 0 + (1 * ρ 1 + 0) = _; omega) k0) okM_n), okB_n, okF_n⟩
-- ru0c2
theorem cr_66 (M : pM) (s0 s1 s2 s3 : Int) (b0 : 0 ≤ s0 ∧ s0 ≤ 1900) (b1 : 0 ≤ s1 ∧ s1 ≤ 1900) (b2 : 0 ≤ s2 ∧ s2 ≤ 1900) (b3 : 0 ≤ s3 ∧ s3 ≤ 255) (m0 : (0 ≤ (1 : Int) ∧ M 2 (1 : Int).toNat = (s2))) (m1 : HP 43 (s0) (s1) M) (m2 : (0 ≤ (s1) ∧ M 1 (s1).toNat = (s3))) (f0 : 0 ≤ ((-1) * s1 + s2 - 1)) (f1 : 0 ≤ ((-1) * s0 + s1)) (f2 : 0 ≤ (s3 - 11)) (f3 : 0 ≤ ((-1) * s3 + 31)) (hG : gI M) : (HP 44 (s0) (s1) M ∧ True) := by
  have hn := tn_o m0 b2
  obtain ⟨P, p, q, h1, h2, h3, h4, h5⟩ := Eq.mp hp_43 m1
  have hP : P = 0 := by omega
  subst hP
  have hr := ru_al h5 (Or.inr (by rw [show q = s1.toNat by omega, m2.2]; exact decide_eq_false (by omega)))
  exact ⟨Eq.mpr hp_44 ⟨0, p, by decide, h2, h3, by rw [hr]; exact h4⟩, trivial⟩
theorem rul_66 : Rul r_66 := by
  refine ⟨fun _ ρ M hm hB hF hG => ?_, fun gi gv hg => (by cases hg)⟩
  have H := cr_66 M (ρ 0) (ρ 1) (ρ 2) (ρ 3) (hB _ List.mem_cons_self) (hB _ (List.mem_cons_of_mem _ List.mem_cons_self)) (hB _ (List.mem_cons_of_mem _ (List.mem_cons_of_mem _ List.mem_cons_self))) (hB _ (List.mem_cons_of_mem _ (List.mem_cons_of_mem _ (List.mem_cons_of_mem _ List.mem_cons_self)))) (cvm (c := 2) (by decide) (x' := (1 : Int)) (y' := ((ρ 2))) (by show 1 + 0 = _; omega) (by show 0 + (1 * ρ 2 + 0) = _; omega) (hm _ List.mem_cons_self)) (cvp 43 (x' := ((ρ 0))) (y' := ((ρ 1))) (by show 0 + (1 * ρ 0 + 0) = _; omega) (by show 0 + (1 * ρ 1 + 0) = _; omega) (hm _ (List.mem_cons_of_mem _ List.mem_cons_self))) (cvm (c := 1) (by decide) (x' := ((ρ 1))) (y' := ((ρ 3))) (by show 0 + (1 * ρ 1 + 0) = _; omega) (by show 0 + (1 * ρ 3 + 0) = _; omega) (hm _ (List.mem_cons_of_mem _ (List.mem_cons_of_mem _ List.mem_cons_self)))) (by have h := hF _ List.mem_cons_self; have h : 0 ≤ (-1) + ((-1) * ρ 1 + (1 * ρ 2 + 0)) := h; omega) (by have h := hF _ (List.mem_cons_of_mem _ List.mem_cons_self); have h : 0 ≤ 0 + ((-1) * ρ 0 + (1 * ρ 1 + 0)) := h; omega) (by have h := hF _ (List.mem_cons_of_mem _ (List.mem_cons_of_mem _ List.mem_cons_self)); have h : 0 ≤ (-11) + (1 * ρ 3 + 0) := h; omega) (by have h := hF _ (List.mem_cons_of_mem _ (List.mem_cons_of_mem _ (List.mem_cons_of_mem _ List.mem_cons_self))); have h : 0 ≤ 31 + ((-1) * ρ 3 + 0) := h; omega) hG
  obtain ⟨k0, -⟩ := H
  exact ⟨_, List.mem_cons_self, ρ, fun _ _ => rfl, (okM_c (pvp 44 (by show 0 + (1 * ρ 0 + 0) = _; omega) (by show 0 + (1 * ρ 1 + 0) = _; omega) k0) okM_n), okB_n, okF_n⟩
-- al1
theorem cr_67 (M : pM) (s0 : Int) (b0 : 0 ≤ s0 ∧ s0 ≤ 1900) (hG : gI M) : (HP 43 (s0 + 2048) (s0) M ∧ True) := by
  exact ⟨Eq.mpr hp_43 ⟨1, s0.toNat, s0.toNat, by decide, by omega, by omega, by omega, Nat.le_refl _, Or.inr rfl, fun i h1 h2 => by omega⟩, trivial⟩
theorem rul_67 : Rul r_67 := by
  refine ⟨fun _ ρ M hm hB hF hG => ?_, fun gi gv hg => (by cases hg)⟩
  have H := cr_67 M (ρ 0) (hB _ List.mem_cons_self) hG
  obtain ⟨k0, -⟩ := H
  exact ⟨_, List.mem_cons_self, ρ, fun _ _ => rfl, (okM_c (pvp 43 (by show 2048 + (1 * ρ 0 + 0) = _; omega) (by show 0 + (1 * ρ 0 + 0) = _; omega) k0) okM_n), okB_n, okF_n⟩
-- al1n0
theorem cr_68 (M : pM) (s0 s1 s2 s3 : Int) (b0 : 0 ≤ s0 ∧ s0 ≤ 1900) (b1 : 0 ≤ s1 ∧ s1 ≤ 1900) (b2 : 0 ≤ s2 ∧ s2 ≤ 1900) (b3 : 0 ≤ s3 ∧ s3 ≤ 255) (m0 : (0 ≤ (1 : Int) ∧ M 2 (1 : Int).toNat = (s2))) (m1 : HP 43 (s0 + 2048) (s1) M) (m2 : (0 ≤ (s1) ∧ M 1 (s1).toNat = (s3))) (f0 : 0 ≤ ((-1) * s1 + s2 - 1)) (f1 : 0 ≤ (s3 - 97)) (f2 : 0 ≤ ((-1) * s3 + 122)) (hG : gI M) : (HP 43 (s0 + 2048) (s1 + 1) M ∧ True) := by
  have hn := tn_o m0 b2
  obtain ⟨P, p, q, h1, h2, h3, h4, h5, h6, h7⟩ := Eq.mp hp_43 m1
  have hP : P = 1 := by omega
  subst hP
  refine ⟨Eq.mpr hp_43 ⟨1, p, q + 1, by decide, h2, h3, by omega, by omega, Or.inl (by omega), fun i i1 i2 => ?_⟩, trivial⟩
  by_cases e : i = q
  · rw [e, show q = s1.toNat by omega, m2.2]; exact decide_eq_true (by omega)
  · exact h7 i i1 (by omega)
theorem rul_68 : Rul r_68 := by
  refine ⟨fun _ ρ M hm hB hF hG => ?_, fun gi gv hg => (by cases hg)⟩
  have H := cr_68 M (ρ 0) (ρ 1) (ρ 2) (ρ 3) (hB _ List.mem_cons_self) (hB _ (List.mem_cons_of_mem _ List.mem_cons_self)) (hB _ (List.mem_cons_of_mem _ (List.mem_cons_of_mem _ List.mem_cons_self))) (hB _ (List.mem_cons_of_mem _ (List.mem_cons_of_mem _ (List.mem_cons_of_mem _ List.mem_cons_self)))) (cvm (c := 2) (by decide) (x' := (1 : Int)) (y' := ((ρ 2))) (by show 1 + 0 = _; omega) (by show 0 + (1 * ρ 2 + 0) = _; omega) (hm _ List.mem_cons_self)) (cvp 43 (x' := ((ρ 0) + 2048)) (y' := ((ρ 1))) (by show 2048 + (1 * ρ 0 + 0) = _; omega) (by show 0 + (1 * ρ 1 + 0) = _; omega) (hm _ (List.mem_cons_of_mem _ List.mem_cons_self))) (cvm (c := 1) (by decide) (x' := ((ρ 1))) (y' := ((ρ 3))) (by show 0 + (1 * ρ 1 + 0) = _; omega) (by show 0 + (1 * ρ 3 + 0) = _; omega) (hm _ (List.mem_cons_of_mem _ (List.mem_cons_of_mem _ List.mem_cons_self)))) (by have h := hF _ List.mem_cons_self; have h : 0 ≤ (-1) + ((-1) * ρ 1 + (1 * ρ 2 + 0)) := h; omega) (by have h := hF _ (List.mem_cons_of_mem _ List.mem_cons_self); have h : 0 ≤ (-97) + (1 * ρ 3 + 0) := h; omega) (by have h := hF _ (List.mem_cons_of_mem _ (List.mem_cons_of_mem _ List.mem_cons_self)); have h : 0 ≤ 122 + ((-1) * ρ 3 + 0) := h; omega) hG
  obtain ⟨k0, -⟩ := H
  exact ⟨_, List.mem_cons_self, ρ, fun _ _ => rfl, (okM_c (pvp 43 (by show 2048 + (1 * ρ 0 + 0) = _; omega) (by show 1 + (1 * ρ 1 + 0) = _; omega) k0) okM_n), okB_n, okF_n⟩
-- ru1e
theorem cr_69 (M : pM) (s0 s1 s2 : Int) (b0 : 0 ≤ s0 ∧ s0 ≤ 1900) (b1 : 0 ≤ s1 ∧ s1 ≤ 1900) (b2 : 0 ≤ s2 ∧ s2 ≤ 1900) (m0 : (0 ≤ (1 : Int) ∧ M 2 (1 : Int).toNat = (s2))) (m1 : HP 43 (s0 + 2048) (s1) M) (f0 : 0 ≤ (s1 + (-1) * s2)) (f1 : 0 ≤ ((-1) * s0 + s1)) (hG : gI M) : (HP 44 (s0 + 2048) (s1) M ∧ True) := by
  have hn := tn_o m0 b2
  obtain ⟨P, p, q, h1, h2, h3, h4, h5⟩ := Eq.mp hp_43 m1
  have hP : P = 1 := by omega
  subst hP
  have hr := ru_al h5 (Or.inl (by omega))
  exact ⟨Eq.mpr hp_44 ⟨1, p, by decide, h2, h3, by rw [hr]; exact h4⟩, trivial⟩
theorem rul_69 : Rul r_69 := by
  refine ⟨fun _ ρ M hm hB hF hG => ?_, fun gi gv hg => (by cases hg)⟩
  have H := cr_69 M (ρ 0) (ρ 1) (ρ 2) (hB _ List.mem_cons_self) (hB _ (List.mem_cons_of_mem _ List.mem_cons_self)) (hB _ (List.mem_cons_of_mem _ (List.mem_cons_of_mem _ List.mem_cons_self))) (cvm (c := 2) (by decide) (x' := (1 : Int)) (y' := ((ρ 2))) (by show 1 + 0 = _; omega) (by show 0 + (1 * ρ 2 + 0) = _; omega) (hm _ List.mem_cons_self)) (cvp 43 (x' := ((ρ 0) + 2048)) (y' := ((ρ 1))) (by show 2048 + (1 * ρ 0 + 0) = _; omega) (by show 0 + (1 * ρ 1 + 0) = _; omega) (hm _ (List.mem_cons_of_mem _ List.mem_cons_self))) (by have h := hF _ List.mem_cons_self; have h : 0 ≤ 0 + (1 * ρ 1 + ((-1) * ρ 2 + 0)) := h; omega) (by have h := hF _ (List.mem_cons_of_mem _ List.mem_cons_self); have h : 0 ≤ 0 + ((-1) * ρ 0 + (1 * ρ 1 + 0)) := h; omega) hG
  obtain ⟨k0, -⟩ := H
  exact ⟨_, List.mem_cons_self, ρ, fun _ _ => rfl, (okM_c (pvp 44 (by show 2048 + (1 * ρ 0 + 0) = _; omega) (by show 0 + (1 * ρ 1 + 0) = _; omega) k0) okM_n), okB_n, okF_n⟩
-- ru1c0
theorem cr_70 (M : pM) (s0 s1 s2 s3 : Int) (b0 : 0 ≤ s0 ∧ s0 ≤ 1900) (b1 : 0 ≤ s1 ∧ s1 ≤ 1900) (b2 : 0 ≤ s2 ∧ s2 ≤ 1900) (b3 : 0 ≤ s3 ∧ s3 ≤ 255) (m0 : (0 ≤ (1 : Int) ∧ M 2 (1 : Int).toNat = (s2))) (m1 : HP 43 (s0 + 2048) (s1) M) (m2 : (0 ≤ (s1) ∧ M 1 (s1).toNat = (s3))) (f0 : 0 ≤ ((-1) * s1 + s2 - 1)) (f1 : 0 ≤ ((-1) * s0 + s1)) (f2 : 0 ≤ ((-1) * s3 + 96)) (hG : gI M) : (HP 44 (s0 + 2048) (s1) M ∧ True) := by
  have hn := tn_o m0 b2
  obtain ⟨P, p, q, h1, h2, h3, h4, h5⟩ := Eq.mp hp_43 m1
  have hP : P = 1 := by omega
  subst hP
  have hr := ru_al h5 (Or.inr (by rw [show q = s1.toNat by omega, m2.2]; exact decide_eq_false (by omega)))
  exact ⟨Eq.mpr hp_44 ⟨1, p, by decide, h2, h3, by rw [hr]; exact h4⟩, trivial⟩
theorem rul_70 : Rul r_70 := by
  refine ⟨fun _ ρ M hm hB hF hG => ?_, fun gi gv hg => (by cases hg)⟩
  have H := cr_70 M (ρ 0) (ρ 1) (ρ 2) (ρ 3) (hB _ List.mem_cons_self) (hB _ (List.mem_cons_of_mem _ List.mem_cons_self)) (hB _ (List.mem_cons_of_mem _ (List.mem_cons_of_mem _ List.mem_cons_self))) (hB _ (List.mem_cons_of_mem _ (List.mem_cons_of_mem _ (List.mem_cons_of_mem _ List.mem_cons_self)))) (cvm (c := 2) (by decide) (x' := (1 : Int)) (y' := ((ρ 2))) (by show 1 + 0 = _; omega) (by show 0 + (1 * ρ 2 + 0) = _; omega) (hm _ List.mem_cons_self)) (cvp 43 (x' := ((ρ 0) + 2048)) (y' := ((ρ 1))) (by show 2048 + (1 * ρ 0 + 0) = _; omega) (by show 0 + (1 * ρ 1 + 0) = _; omega) (hm _ (List.mem_cons_of_mem _ List.mem_cons_self))) (cvm (c := 1) (by decide) (x' := ((ρ 1))) (y' := ((ρ 3))) (by show 0 + (1 * ρ 1 + 0) = _; omega) (by show 0 + (1 * ρ 3 + 0) = _; omega) (hm _ (List.mem_cons_of_mem _ (List.mem_cons_of_mem _ List.mem_cons_self)))) (by have h := hF _ List.mem_cons_self; have h : 0 ≤ (-1) + ((-1) * ρ 1 + (1 * ρ 2 + 0)) := h; omega) (by have h := hF _ (List.mem_cons_of_mem _ List.mem_cons_self); have h : 0 ≤ 0 + ((-1) * ρ 0 + (1 * ρ 1 + 0)) := h; omega) (by have h := hF _ (List.mem_cons_of_mem _ (List.mem_cons_of_mem _ List.mem_cons_self)); have h : 0 ≤ 96 + ((-1) * ρ 3 + 0) := h; omega) hG
  obtain ⟨k0, -⟩ := H
  exact ⟨_, List.mem_cons_self, ρ, fun _ _ => rfl, (okM_c (pvp 44 (by show 2048 + (1 * ρ 0 + 0) = _; omega) (by show 0 + (1 * ρ 1 + 0) = _; omega) k0) okM_n), okB_n, okF_n⟩
-- ru1c1
theorem cr_71 (M : pM) (s0 s1 s2 s3 : Int) (b0 : 0 ≤ s0 ∧ s0 ≤ 1900) (b1 : 0 ≤ s1 ∧ s1 ≤ 1900) (b2 : 0 ≤ s2 ∧ s2 ≤ 1900) (b3 : 0 ≤ s3 ∧ s3 ≤ 255) (m0 : (0 ≤ (1 : Int) ∧ M 2 (1 : Int).toNat = (s2))) (m1 : HP 43 (s0 + 2048) (s1) M) (m2 : (0 ≤ (s1) ∧ M 1 (s1).toNat = (s3))) (f0 : 0 ≤ ((-1) * s1 + s2 - 1)) (f1 : 0 ≤ ((-1) * s0 + s1)) (f2 : 0 ≤ (s3 - 123)) (hG : gI M) : (HP 44 (s0 + 2048) (s1) M ∧ True) := by
  have hn := tn_o m0 b2
  obtain ⟨P, p, q, h1, h2, h3, h4, h5⟩ := Eq.mp hp_43 m1
  have hP : P = 1 := by omega
  subst hP
  have hr := ru_al h5 (Or.inr (by rw [show q = s1.toNat by omega, m2.2]; exact decide_eq_false (by omega)))
  exact ⟨Eq.mpr hp_44 ⟨1, p, by decide, h2, h3, by rw [hr]; exact h4⟩, trivial⟩
theorem rul_71 : Rul r_71 := by
  refine ⟨fun _ ρ M hm hB hF hG => ?_, fun gi gv hg => (by cases hg)⟩
  have H := cr_71 M (ρ 0) (ρ 1) (ρ 2) (ρ 3) (hB _ List.mem_cons_self) (hB _ (List.mem_cons_of_mem _ List.mem_cons_self)) (hB _ (List.mem_cons_of_mem _ (List.mem_cons_of_mem _ List.mem_cons_self))) (hB _ (List.mem_cons_of_mem _ (List.mem_cons_of_mem _ (List.mem_cons_of_mem _ List.mem_cons_self)))) (cvm (c := 2) (by decide) (x' := (1 : Int)) (y' := ((ρ 2))) (by show 1 + 0 = _; omega) (by show 0 + (1 * ρ 2 + 0) = _; omega) (hm _ List.mem_cons_self)) (cvp 43 (x' := ((ρ 0) + 2048)) (y' := ((ρ 1))) (by show 2048 + (1 * ρ 0 + 0) = _; omega) (by show 0 + (1 * ρ 1 + 0) = _; omega) (hm _ (List.mem_cons_of_mem _ List.mem_cons_self))) (cvm (c := 1) (by decide) (x' := ((ρ 1))) (y' := ((ρ 3))) (by show 0 + (1 * ρ 1 + 0) = _; omega) (by show 0 + (1 * ρ 3 + 0) = _; omega) (hm _ (List.mem_cons_of_mem _ (List.mem_cons_of_mem _ List.mem_cons_self)))) (by have h := hF _ List.mem_cons_self; have h : 0 ≤ (-1) + ((-1) * ρ 1 + (1 * ρ 2 + 0)) := h; omega) (by have h := hF _ (List.mem_cons_of_mem _ List.mem_cons_self); have h : 0 ≤ 0 + ((-1) * ρ 0 + (1 * ρ 1 + 0)) := h; omega) (by have h := hF _ (List.mem_cons_of_mem _ (List.mem_cons_of_mem _ List.mem_cons_self)); have h : 0 ≤ (-123) + (1 * ρ 3 + 0) := h; omega) hG
  obtain ⟨k0, -⟩ := H
  exact ⟨_, List.mem_cons_self, ρ, fun _ _ => rfl, (okM_c (pvp 44 (by show 2048 + (1 * ρ 0 + 0) = _; omega) (by show 0 + (1 * ρ 1 + 0) = _; omega) k0) okM_n), okB_n, okF_n⟩
-- al2
theorem cr_72 (M : pM) (s0 : Int) (b0 : 0 ≤ s0 ∧ s0 ≤ 1900) (hG : gI M) : (HP 43 (s0 + 4096) (s0) M ∧ True) := by
  exact ⟨Eq.mpr hp_43 ⟨2, s0.toNat, s0.toNat, by decide, by omega, by omega, by omega, Nat.le_refl _, Or.inr rfl, fun i h1 h2 => by omega⟩, trivial⟩
theorem rul_72 : Rul r_72 := by
  refine ⟨fun _ ρ M hm hB hF hG => ?_, fun gi gv hg => (by cases hg)⟩
  have H := cr_72 M (ρ 0) (hB _ List.mem_cons_self) hG
  obtain ⟨k0, -⟩ := H
  exact ⟨_, List.mem_cons_self, ρ, fun _ _ => rfl, (okM_c (pvp 43 (by show 4096 + (1 * ρ 0 + 0) = _; omega) (by show 0 + (1 * ρ 0 + 0) = _; omega) k0) okM_n), okB_n, okF_n⟩
-- al2n0
theorem cr_73 (M : pM) (s0 s1 s2 s3 : Int) (b0 : 0 ≤ s0 ∧ s0 ≤ 1900) (b1 : 0 ≤ s1 ∧ s1 ≤ 1900) (b2 : 0 ≤ s2 ∧ s2 ≤ 1900) (b3 : 0 ≤ s3 ∧ s3 ≤ 255) (m0 : (0 ≤ (1 : Int) ∧ M 2 (1 : Int).toNat = (s2))) (m1 : HP 43 (s0 + 4096) (s1) M) (m2 : (0 ≤ (s1) ∧ M 1 (s1).toNat = (s3))) (f0 : 0 ≤ ((-1) * s1 + s2 - 1)) (f1 : 0 ≤ (s3 - 48)) (f2 : 0 ≤ ((-1) * s3 + 57)) (hG : gI M) : (HP 43 (s0 + 4096) (s1 + 1) M ∧ True) := by
  have hn := tn_o m0 b2
  obtain ⟨P, p, q, h1, h2, h3, h4, h5, h6, h7⟩ := Eq.mp hp_43 m1
  have hP : P = 2 := by omega
  subst hP
  refine ⟨Eq.mpr hp_43 ⟨2, p, q + 1, by decide, h2, h3, by omega, by omega, Or.inl (by omega), fun i i1 i2 => ?_⟩, trivial⟩
  by_cases e : i = q
  · rw [e, show q = s1.toNat by omega, m2.2]; exact decide_eq_true (by omega)
  · exact h7 i i1 (by omega)
theorem rul_73 : Rul r_73 := by
  refine ⟨fun _ ρ M hm hB hF hG => ?_, fun gi gv hg => (by cases hg)⟩
  have H := cr_73 M (ρ 0) (ρ 1) (ρ 2) (ρ 3) (hB _ List.mem_cons_self) (hB _ (List.mem_cons_of_mem _ List.mem_cons_self)) (hB _ (List.mem_cons_of_mem _ (List.mem_cons_of_mem _ List.mem_cons_self))) (hB _ (List.mem_cons_of_mem _ (List.mem_cons_of_mem _ (List.mem_cons_of_mem _ List.mem_cons_self)))) (cvm (c := 2) (by decide) (x' := (1 : Int)) (y' := ((ρ 2))) (by show 1 + 0 = _; omega) (by show 0 + (1 * ρ 2 + 0) = _; omega) (hm _ List.mem_cons_self)) (cvp 43 (x' := ((ρ 0) + 4096)) (y' := ((ρ 1))) (by show 4096 + (1 * ρ 0 + 0) = _; omega) (by show 0 + (1 * ρ 1 + 0) = _; omega) (hm _ (List.mem_cons_of_mem _ List.mem_cons_self))) (cvm (c := 1) (by decide) (x' := ((ρ 1))) (y' := ((ρ 3))) (by show 0 + (1 * ρ 1 + 0) = _; omega) (by show 0 + (1 * ρ 3 + 0) = _; omega) (hm _ (List.mem_cons_of_mem _ (List.mem_cons_of_mem _ List.mem_cons_self)))) (by have h := hF _ List.mem_cons_self; have h : 0 ≤ (-1) + ((-1) * ρ 1 + (1 * ρ 2 + 0)) := h; omega) (by have h := hF _ (List.mem_cons_of_mem _ List.mem_cons_self); have h : 0 ≤ (-48) + (1 * ρ 3 + 0) := h; omega) (by have h := hF _ (List.mem_cons_of_mem _ (List.mem_cons_of_mem _ List.mem_cons_self)); have h : 0 ≤ 57 + ((-1) * ρ 3 + 0) := h; omega) hG
  obtain ⟨k0, -⟩ := H
  exact ⟨_, List.mem_cons_self, ρ, fun _ _ => rfl, (okM_c (pvp 43 (by show 4096 + (1 * ρ 0 + 0) = _; omega) (by show 1 + (1 * ρ 1 + 0) = _; omega) k0) okM_n), okB_n, okF_n⟩
-- ru2e
theorem cr_74 (M : pM) (s0 s1 s2 : Int) (b0 : 0 ≤ s0 ∧ s0 ≤ 1900) (b1 : 0 ≤ s1 ∧ s1 ≤ 1900) (b2 : 0 ≤ s2 ∧ s2 ≤ 1900) (m0 : (0 ≤ (1 : Int) ∧ M 2 (1 : Int).toNat = (s2))) (m1 : HP 43 (s0 + 4096) (s1) M) (f0 : 0 ≤ (s1 + (-1) * s2)) (f1 : 0 ≤ ((-1) * s0 + s1)) (hG : gI M) : (HP 44 (s0 + 4096) (s1) M ∧ True) := by
  have hn := tn_o m0 b2
  obtain ⟨P, p, q, h1, h2, h3, h4, h5⟩ := Eq.mp hp_43 m1
  have hP : P = 2 := by omega
  subst hP
  have hr := ru_al h5 (Or.inl (by omega))
  exact ⟨Eq.mpr hp_44 ⟨2, p, by decide, h2, h3, by rw [hr]; exact h4⟩, trivial⟩
theorem rul_74 : Rul r_74 := by
  refine ⟨fun _ ρ M hm hB hF hG => ?_, fun gi gv hg => (by cases hg)⟩
  have H := cr_74 M (ρ 0) (ρ 1) (ρ 2) (hB _ List.mem_cons_self) (hB _ (List.mem_cons_of_mem _ List.mem_cons_self)) (hB _ (List.mem_cons_of_mem _ (List.mem_cons_of_mem _ List.mem_cons_self))) (cvm (c := 2) (by decide) (x' := (1 : Int)) (y' := ((ρ 2))) (by show 1 + 0 = _; omega) (by show 0 + (1 * ρ 2 + 0) = _; omega) (hm _ List.mem_cons_self)) (cvp 43 (x' := ((ρ 0) + 4096)) (y' := ((ρ 1))) (by show 4096 + (1 * ρ 0 + 0) = _; omega) (by show 0 + (1 * ρ 1 + 0) = _; omega) (hm _ (List.mem_cons_of_mem _ List.mem_cons_self))) (by have h := hF _ List.mem_cons_self; have h : 0 ≤ 0 + (1 * ρ 1 + ((-1) * ρ 2 + 0)) := h; omega) (by have h := hF _ (List.mem_cons_of_mem _ List.mem_cons_self); have h : 0 ≤ 0 + ((-1) * ρ 0 + (1 * ρ 1 + 0)) := h; omega) hG
  obtain ⟨k0, -⟩ := H
  exact ⟨_, List.mem_cons_self, ρ, fun _ _ => rfl, (okM_c (pvp 44 (by show 4096 + (1 * ρ 0 + 0) = _; omega) (by show 0 + (1 * ρ 1 + 0) = _; omega) k0) okM_n), okB_n, okF_n⟩
-- ru2c0
theorem cr_75 (M : pM) (s0 s1 s2 s3 : Int) (b0 : 0 ≤ s0 ∧ s0 ≤ 1900) (b1 : 0 ≤ s1 ∧ s1 ≤ 1900) (b2 : 0 ≤ s2 ∧ s2 ≤ 1900) (b3 : 0 ≤ s3 ∧ s3 ≤ 255) (m0 : (0 ≤ (1 : Int) ∧ M 2 (1 : Int).toNat = (s2))) (m1 : HP 43 (s0 + 4096) (s1) M) (m2 : (0 ≤ (s1) ∧ M 1 (s1).toNat = (s3))) (f0 : 0 ≤ ((-1) * s1 + s2 - 1)) (f1 : 0 ≤ ((-1) * s0 + s1)) (f2 : 0 ≤ ((-1) * s3 + 47)) (hG : gI M) : (HP 44 (s0 + 4096) (s1) M ∧ True) := by
  have hn := tn_o m0 b2
  obtain ⟨P, p, q, h1, h2, h3, h4, h5⟩ := Eq.mp hp_43 m1
  have hP : P = 2 := by omega
  subst hP
  have hr := ru_al h5 (Or.inr (by rw [show q = s1.toNat by omega, m2.2]; exact decide_eq_false (by omega)))
  exact ⟨Eq.mpr hp_44 ⟨2, p, by decide, h2, h3, by rw [hr]; exact h4⟩, trivial⟩
theorem rul_75 : Rul r_75 := by
  refine ⟨fun _ ρ M hm hB hF hG => ?_, fun gi gv hg => (by cases hg)⟩
  have H := cr_75 M (ρ 0) (ρ 1) (ρ 2) (ρ 3) (hB _ List.mem_cons_self) (hB _ (List.mem_cons_of_mem _ List.mem_cons_self)) (hB _ (List.mem_cons_of_mem _ (List.mem_cons_of_mem _ List.mem_cons_self))) (hB _ (List.mem_cons_of_mem _ (List.mem_cons_of_mem _ (List.mem_cons_of_mem _ List.mem_cons_self)))) (cvm (c := 2) (by decide) (x' := (1 : Int)) (y' := ((ρ 2))) (by show 1 + 0 = _; omega) (by show 0 + (1 * ρ 2 + 0) = _; omega) (hm _ List.mem_cons_self)) (cvp 43 (x' := ((ρ 0) + 4096)) (y' := ((ρ 1))) (by show 4096 + (1 * ρ 0 + 0) = _; omega) (by show 0 + (1 * ρ 1 + 0) = _; omega) (hm _ (List.mem_cons_of_mem _ List.mem_cons_self))) (cvm (c := 1) (by decide) (x' := ((ρ 1))) (y' := ((ρ 3))) (by show 0 + (1 * ρ 1 + 0) = _; omega) (by show 0 + (1 * ρ 3 + 0) = _; omega) (hm _ (List.mem_cons_of_mem _ (List.mem_cons_of_mem _ List.mem_cons_self)))) (by have h := hF _ List.mem_cons_self; have h : 0 ≤ (-1) + ((-1) * ρ 1 + (1 * ρ 2 + 0)) := h; omega) (by have h := hF _ (List.mem_cons_of_mem _ List.mem_cons_self); have h : 0 ≤ 0 + ((-1) * ρ 0 + (1 * ρ 1 + 0)) := h; omega) (by have h := hF _ (List.mem_cons_of_mem _ (List.mem_cons_of_mem _ List.mem_cons_self)); have h : 0 ≤ 47 + ((-1) * ρ 3 + 0) := h; omega) hG
  obtain ⟨k0, -⟩ := H
  exact ⟨_, List.mem_cons_self, ρ, fun _ _ => rfl, (okM_c (pvp 44 (by show 4096 + (1 * ρ 0 + 0) = _; omega) (by show 0 + (1 * ρ 1 + 0) = _; omega) k0) okM_n), okB_n, okF_n⟩
-- ru2c1
theorem cr_76 (M : pM) (s0 s1 s2 s3 : Int) (b0 : 0 ≤ s0 ∧ s0 ≤ 1900) (b1 : 0 ≤ s1 ∧ s1 ≤ 1900) (b2 : 0 ≤ s2 ∧ s2 ≤ 1900) (b3 : 0 ≤ s3 ∧ s3 ≤ 255) (m0 : (0 ≤ (1 : Int) ∧ M 2 (1 : Int).toNat = (s2))) (m1 : HP 43 (s0 + 4096) (s1) M) (m2 : (0 ≤ (s1) ∧ M 1 (s1).toNat = (s3))) (f0 : 0 ≤ ((-1) * s1 + s2 - 1)) (f1 : 0 ≤ ((-1) * s0 + s1)) (f2 : 0 ≤ (s3 - 58)) (hG : gI M) : (HP 44 (s0 + 4096) (s1) M ∧ True) := by
  have hn := tn_o m0 b2
  obtain ⟨P, p, q, h1, h2, h3, h4, h5⟩ := Eq.mp hp_43 m1
  have hP : P = 2 := by omega
  subst hP
  have hr := ru_al h5 (Or.inr (by rw [show q = s1.toNat by omega, m2.2]; exact decide_eq_false (by omega)))
  exact ⟨Eq.mpr hp_44 ⟨2, p, by decide, h2, h3, by rw [hr]; exact h4⟩, trivial⟩
theorem rul_76 : Rul r_76 := by
  refine ⟨fun _ ρ M hm hB hF hG => ?_, fun gi gv hg => (by cases hg)⟩
  have H := cr_76 M (ρ 0) (ρ 1) (ρ 2) (ρ 3) (hB _ List.mem_cons_self) (hB _ (List.mem_cons_of_mem _ List.mem_cons_self)) (hB _ (List.mem_cons_of_mem _ (List.mem_cons_of_mem _ List.mem_cons_self))) (hB _ (List.mem_cons_of_mem _ (List.mem_cons_of_mem _ (List.mem_cons_of_mem _ List.mem_cons_self)))) (cvm (c := 2) (by decide) (x' := (1 : Int)) (y' := ((ρ 2))) (by show 1 + 0 = _; omega) (by show 0 + (1 * ρ 2 + 0) = _; omega) (hm _ List.mem_cons_self)) (cvp 43 (x' := ((ρ 0) + 4096)) (y' := ((ρ 1))) (by show 4096 + (1 * ρ 0 + 0) = _; omega) (by show 0 + (1 * ρ 1 + 0) = _; omega) (hm _ (List.mem_cons_of_mem _ List.mem_cons_self))) (cvm (c := 1) (by decide) (x' := ((ρ 1))) (y' := ((ρ 3))) (by show 0 + (1 * ρ 1 + 0) = _; omega) (by show 0 + (1 * ρ 3 + 0) = _; omega) (hm _ (List.mem_cons_of_mem _ (List.mem_cons_of_mem _ List.mem_cons_self)))) (by have h := hF _ List.mem_cons_self; have h : 0 ≤ (-1) + ((-1) * ρ 1 + (1 * ρ 2 + 0)) := h; omega) (by have h := hF _ (List.mem_cons_of_mem _ List.mem_cons_self); have h : 0 ≤ 0 + ((-1) * ρ 0 + (1 * ρ 1 + 0)) := h; omega) (by have h := hF _ (List.mem_cons_of_mem _ (List.mem_cons_of_mem _ List.mem_cons_self)); have h : 0 ≤ (-58) + (1 * ρ 3 + 0) := h; omega) hG
  obtain ⟨k0, -⟩ := H
  exact ⟨_, List.mem_cons_self, ρ, fun _ _ => rfl, (okM_c (pvp 44 (by show 4096 + (1 * ρ 0 + 0) = _; omega) (by show 0 + (1 * ρ 1 + 0) = _; omega) k0) okM_n), okB_n, okF_n⟩
-- dgc
theorem cr_77 (M : pM) (s0 s1 s2 s3 : Int) (b0 : 0 ≤ s0 ∧ s0 ≤ 1900) (b1 : 0 ≤ s1 ∧ s1 ≤ 1900) (b2 : 0 ≤ s2 ∧ s2 ≤ 1900) (b3 : 0 ≤ s3 ∧ s3 ≤ 255) (m0 : HP 44 (s0 + 4096) (s1) M) (m1 : (0 ≤ (s2) ∧ M 1 (s2).toNat = (s3))) (f0 : 0 ≤ ((-1) * s0 + s2)) (f1 : 0 ≤ (s1 + (-1) * s2 - 1)) (hG : gI M) : (0 ≤ (s3 - 48) ∧ 0 ≤ ((-1) * s3 + 57) ∧ True) := by
  have hr := ru_o (P := 2) (p := s0.toNat) m0 ⟨by omega, by decide, by omega⟩
  have hc := isC_2 (ru_in (M := M) (P := 2) (p := s0.toNat) (i := s2.toNat) (by omega) (by omega))
  rw [m1.2] at hc
  exact ⟨by omega, by omega, trivial⟩
theorem rul_77 : Rul r_77 := by
  refine ⟨fun _ ρ M hm hB hF hG => ?_, fun gi gv hg => (by cases hg)⟩
  have H := cr_77 M (ρ 0) (ρ 1) (ρ 2) (ρ 3) (hB _ List.mem_cons_self) (hB _ (List.mem_cons_of_mem _ List.mem_cons_self)) (hB _ (List.mem_cons_of_mem _ (List.mem_cons_of_mem _ List.mem_cons_self))) (hB _ (List.mem_cons_of_mem _ (List.mem_cons_of_mem _ (List.mem_cons_of_mem _ List.mem_cons_self)))) (cvp 44 (x' := ((ρ 0) + 4096)) (y' := ((ρ 1))) (by show 4096 + (1 * ρ 0 + 0) = _; omega) (by show 0 + (1 * ρ 1 + 0) = _; omega) (hm _ List.mem_cons_self)) (cvm (c := 1) (by decide) (x' := ((ρ 2))) (y' := ((ρ 3))) (by show 0 + (1 * ρ 2 + 0) = _; omega) (by show 0 + (1 * ρ 3 + 0) = _; omega) (hm _ (List.mem_cons_of_mem _ List.mem_cons_self))) (by have h := hF _ List.mem_cons_self; have h : 0 ≤ 0 + ((-1) * ρ 0 + (1 * ρ 2 + 0)) := h; omega) (by have h := hF _ (List.mem_cons_of_mem _ List.mem_cons_self); have h : 0 ≤ (-1) + (1 * ρ 1 + ((-1) * ρ 2 + 0)) := h; omega) hG
  obtain ⟨f0, f1, -⟩ := H
  exact ⟨_, List.mem_cons_self, ρ, fun _ _ => rfl, okM_n, okB_n, (okF_c (by show 0 ≤ (-48) + (1 * ρ 3 + 0); omega) (okF_c (by show 0 ≤ 57 + ((-1) * ρ 3 + 0); omega) okF_n))⟩
-- dv0
theorem cr_78 (M : pM) (s0 : Int) (b0 : 0 ≤ s0 ∧ s0 ≤ 1900) (hG : gI M) : (HP 51 (2049 * s0) (0 : Int) M ∧ True) := by
  exact ⟨Eq.mpr hp_51 ⟨s0.toNat, s0.toNat, Nat.le_refl _, by omega, by omega, by rw [Nat.sub_self]; rfl⟩, trivial⟩
theorem rul_78 : Rul r_78 := by
  refine ⟨fun _ ρ M hm hB hF hG => ?_, fun gi gv hg => (by cases hg)⟩
  have H := cr_78 M (ρ 0) (hB _ List.mem_cons_self) hG
  obtain ⟨k0, -⟩ := H
  exact ⟨_, List.mem_cons_self, ρ, fun _ _ => rfl, (okM_c (pvp 51 (by show 0 + (2049 * ρ 0 + 0) = _; omega) (by show 0 + 0 = _; omega) k0) okM_n), okB_n, okF_n⟩
-- dvn
theorem cr_79 (M : pM) (s0 s1 s2 s3 : Int) (b0 : 0 ≤ s0 ∧ s0 ≤ 1900) (b1 : 0 ≤ s1 ∧ s1 ≤ 1900) (b2 : 0 ≤ s2 ∧ s2 ≤ 999) (b3 : 48 ≤ s3 ∧ s3 ≤ 57) (m0 : HP 51 (2048 * s0 + s1) (s2) M) (m1 : (0 ≤ (s1) ∧ M 1 (s1).toNat = (s3))) (f0 : 0 ≤ ((-1) * s0 + s1)) (hG : gI M) : (HP 51 (2048 * s0 + s1 + 1) (10 * s2 + s3 - 48) M ∧ True) := by
  obtain ⟨s, e, h1, h2, h3, h4⟩ := Eq.mp hp_51 m0
  refine ⟨Eq.mpr hp_51 ⟨s, e + 1, by omega, by omega, by omega, ?_⟩, trivial⟩
  rw [show e + 1 - s = (e - s) + 1 by omega]
  show _ = 10 * dv M s (e - s) + (M 1 (s + (e - s)) - 48)
  rw [← h4, show s + (e - s) = s1.toNat by omega, m1.2]
  omega
theorem rul_79 : Rul r_79 := by
  refine ⟨fun _ ρ M hm hB hF hG => ?_, fun gi gv hg => (by cases hg)⟩
  have H := cr_79 M (ρ 0) (ρ 1) (ρ 2) (ρ 3) (hB _ List.mem_cons_self) (hB _ (List.mem_cons_of_mem _ List.mem_cons_self)) (hB _ (List.mem_cons_of_mem _ (List.mem_cons_of_mem _ List.mem_cons_self))) (hB _ (List.mem_cons_of_mem _ (List.mem_cons_of_mem _ (List.mem_cons_of_mem _ List.mem_cons_self)))) (cvp 51 (x' := (2048 * (ρ 0) + (ρ 1))) (y' := ((ρ 2))) (by show 0 + (2048 * ρ 0 + (1 * ρ 1 + 0)) = _; omega) (by show 0 + (1 * ρ 2 + 0) = _; omega) (hm _ List.mem_cons_self)) (cvm (c := 1) (by decide) (x' := ((ρ 1))) (y' := ((ρ 3))) (by show 0 + (1 * ρ 1 + 0) = _; omega) (by show 0 + (1 * ρ 3 + 0) = _; omega) (hm _ (List.mem_cons_of_mem _ List.mem_cons_self))) (by have h := hF _ List.mem_cons_self; have h : 0 ≤ 0 + ((-1) * ρ 0 + (1 * ρ 1 + 0)) := h; omega) hG
  obtain ⟨k0, -⟩ := H
  exact ⟨_, List.mem_cons_self, ρ, fun _ _ => rfl, (okM_c (pvp 51 (by show 1 + (2048 * ρ 0 + (1 * ρ 1 + 0)) = _; omega) (by show (-48) + (10 * ρ 2 + (1 * ρ 3 + 0)) = _; omega) k0) okM_n), okB_n, okF_n⟩
-- dvx
theorem cr_80 (M : pM) (s0 s1 s2 : Int) (b0 : 0 ≤ s0 ∧ s0 ≤ 3893100) (b1 : 0 ≤ s1 ∧ s1 ≤ 3893100) (b2 : 0 ≤ s2 ∧ s2 ≤ 9999) (m0 : HP 51 (s0) (s2) M) (f0 : 0 ≤ ((-1) * s0 + s1)) (f1 : 0 ≤ (s0 + (-1) * s1)) (hG : gI M) : (HP 51 (s1) (s2) M ∧ True) := by
  have e : s0 = s1 := by omega
  subst e
  exact ⟨m0, trivial⟩
theorem rul_80 : Rul r_80 := by
  refine ⟨fun _ ρ M hm hB hF hG => ?_, fun gi gv hg => (by cases hg)⟩
  have H := cr_80 M (ρ 0) (ρ 1) (ρ 2) (hB _ List.mem_cons_self) (hB _ (List.mem_cons_of_mem _ List.mem_cons_self)) (hB _ (List.mem_cons_of_mem _ (List.mem_cons_of_mem _ List.mem_cons_self))) (cvp 51 (x' := ((ρ 0))) (y' := ((ρ 2))) (by show 0 + (1 * ρ 0 + 0) = _; omega) (by show 0 + (1 * ρ 2 + 0) = _; omega) (hm _ List.mem_cons_self)) (by have h := hF _ List.mem_cons_self; have h : 0 ≤ 0 + ((-1) * ρ 0 + (1 * ρ 1 + 0)) := h; omega) (by have h := hF _ (List.mem_cons_of_mem _ List.mem_cons_self); have h : 0 ≤ 0 + (1 * ρ 0 + ((-1) * ρ 1 + 0)) := h; omega) hG
  obtain ⟨k0, -⟩ := H
  exact ⟨_, List.mem_cons_self, ρ, fun _ _ => rfl, (okM_c (pvp 51 (by show 0 + (1 * ρ 1 + 0) = _; omega) (by show 0 + (1 * ρ 2 + 0) = _; omega) k0) okM_n), okB_n, okF_n⟩
-- tkE
theorem cr_81 (M : pM) (s0 s1 s2 : Int) (b0 : 0 ≤ s0 ∧ s0 ≤ 1900) (b1 : 0 ≤ s1 ∧ s1 ≤ 1900) (b2 : 0 ≤ s2 ∧ s2 ≤ 1900) (m0 : (0 ≤ (1 : Int) ∧ M 2 (1 : Int).toNat = (s2))) (m1 : HP 44 (s0) (s1) M) (f0 : 0 ≤ (s1 + (-1) * s2)) (hG : gI M) : (HP 45 (s0) (s1) M ∧ HP 46 (s0) (s1) M ∧ HP 47 (s0) (131071 : Int) M ∧ True) := by
  have hn := tn_o m0 b2
  have e0 := ru_o (P := 0) (p := s0.toNat) m1 ⟨by omega, by decide, by omega⟩
  exact tk_fin (tk_end (p := s0.toNat) (s := s1.toNat) (by omega) (by omega)) (by omega) (by omega) (by omega) (by omega)
theorem rul_81 : Rul r_81 := by
  refine ⟨fun _ ρ M hm hB hF hG => ?_, fun gi gv hg => (by cases hg)⟩
  have H := cr_81 M (ρ 0) (ρ 1) (ρ 2) (hB _ List.mem_cons_self) (hB _ (List.mem_cons_of_mem _ List.mem_cons_self)) (hB _ (List.mem_cons_of_mem _ (List.mem_cons_of_mem _ List.mem_cons_self))) (cvm (c := 2) (by decide) (x' := (1 : Int)) (y' := ((ρ 2))) (by show 1 + 0 = _; omega) (by show 0 + (1 * ρ 2 + 0) = _; omega) (hm _ List.mem_cons_self)) (cvp 44 (x' := ((ρ 0))) (y' := ((ρ 1))) (by show 0 + (1 * ρ 0 + 0) = _; omega) (by show 0 + (1 * ρ 1 + 0) = _; omega) (hm _ (List.mem_cons_of_mem _ List.mem_cons_self))) (by have h := hF _ List.mem_cons_self; have h : 0 ≤ 0 + (1 * ρ 1 + ((-1) * ρ 2 + 0)) := h; omega) hG
  obtain ⟨k0, k1, k2, -⟩ := H
  exact ⟨_, List.mem_cons_self, ρ, fun _ _ => rfl, (okM_c (pvp 45 (by show 0 + (1 * ρ 0 + 0) = _; omega) (by show 0 + (1 * ρ 1 + 0) = _; omega) k0) (okM_c (pvp 46 (by show 0 + (1 * ρ 0 + 0) = _; omega) (by show 0 + (1 * ρ 1 + 0) = _; omega) k1) (okM_c (pvp 47 (by show 0 + (1 * ρ 0 + 0) = _; omega) (by show 131071 + 0 = _; omega) k2) okM_n))), okB_n, okF_n⟩
-- tkW
theorem cr_82 (M : pM) (s0 s1 s2 s3 s4 : Int) (b0 : 0 ≤ s0 ∧ s0 ≤ 1900) (b1 : 0 ≤ s1 ∧ s1 ≤ 1900) (b2 : 0 ≤ s2 ∧ s2 ≤ 1900) (b3 : 0 ≤ s3 ∧ s3 ≤ 1900) (b4 : (-1) ≤ s4 ∧ s4 ≤ 24) (m0 : (0 ≤ (1 : Int) ∧ M 2 (1 : Int).toNat = (s2))) (m1 : HP 44 (s0) (s1) M) (m2 : HP 44 (s1 + 2048) (s3) M) (m3 : HP 50 (2048 * s1 + s3) (s4) M) (f0 : 0 ≤ ((-1) * s1 + s2 - 1)) (f1 : 0 ≤ ((-1) * s1 + s3 - 1)) (f2 : 0 ≤ (s1 + (-1) * s3 + 8)) (hG : gI M) : (HP 45 (s0) (s1) M ∧ HP 46 (s0) (s3) M ∧ HP 47 (s0) (s4 + 262144) M ∧ True) := by
  have hn := tn_o m0 b2
  have e0 := ru_o (P := 0) (p := s0.toNat) m1 ⟨by omega, by decide, by omega⟩
  have e1 := ru_o (P := 1) (p := s1.toNat) m2 ⟨by omega, by decide, by omega⟩
  have w := wi_o (s := s1.toNat) (e := s3.toNat) m3 ⟨by omega, by omega, by omega⟩
  exact tk_fin (tk_word (p := s0.toNat) (s := s1.toNat) (e := s3.toNat) (by omega) (by omega) (by omega) (by omega) (by omega)) (by omega) (by omega) (by omega) (by omega)
theorem rul_82 : Rul r_82 := by
  refine ⟨fun _ ρ M hm hB hF hG => ?_, fun gi gv hg => (by cases hg)⟩
  have H := cr_82 M (ρ 0) (ρ 1) (ρ 2) (ρ 3) (ρ 4) (hB _ List.mem_cons_self) (hB _ (List.mem_cons_of_mem _ List.mem_cons_self)) (hB _ (List.mem_cons_of_mem _ (List.mem_cons_of_mem _ List.mem_cons_self))) (hB _ (List.mem_cons_of_mem _ (List.mem_cons_of_mem _ (List.mem_cons_of_mem _ List.mem_cons_self)))) (hB _ (List.mem_cons_of_mem _ (List.mem_cons_of_mem _ (List.mem_cons_of_mem _ (List.mem_cons_of_mem _ List.mem_cons_self))))) (cvm (c := 2) (by decide) (x' := (1 : Int)) (y' := ((ρ 2))) (by show 1 + 0 = _; omega) (by show 0 + (1 * ρ 2 + 0) = _; omega) (hm _ List.mem_cons_self)) (cvp 44 (x' := ((ρ 0))) (y' := ((ρ 1))) (by show 0 + (1 * ρ 0 + 0) = _; omega) (by show 0 + (1 * ρ 1 + 0) = _; omega) (hm _ (List.mem_cons_of_mem _ List.mem_cons_self))) (cvp 44 (x' := ((ρ 1) + 2048)) (y' := ((ρ 3))) (by show 2048 + (1 * ρ 1 + 0) = _; omega) (by show 0 + (1 * ρ 3 + 0) = _; omega) (hm _ (List.mem_cons_of_mem _ (List.mem_cons_of_mem _ List.mem_cons_self)))) (cvp 50 (x' := (2048 * (ρ 1) + (ρ 3))) (y' := ((ρ 4))) (by show 0 + (2048 * ρ 1 + (1 * ρ 3 + 0)) = _; omega) (by show 0 + (1 * ρ 4 + 0) = _; omega) (hm _ (List.mem_cons_of_mem _ (List.mem_cons_of_mem _ (List.mem_cons_of_mem _ List.mem_cons_self))))) (by have h := hF _ List.mem_cons_self; have h : 0 ≤ (-1) + ((-1) * ρ 1 + (1 * ρ 2 + 0)) := h; omega) (by have h := hF _ (List.mem_cons_of_mem _ List.mem_cons_self); have h : 0 ≤ (-1) + ((-1) * ρ 1 + (1 * ρ 3 + 0)) := h; omega) (by have h := hF _ (List.mem_cons_of_mem _ (List.mem_cons_of_mem _ List.mem_cons_self)); have h : 0 ≤ 8 + (1 * ρ 1 + ((-1) * ρ 3 + 0)) := h; omega) hG
  obtain ⟨k0, k1, k2, -⟩ := H
  exact ⟨_, List.mem_cons_self, ρ, fun _ _ => rfl, (okM_c (pvp 45 (by show 0 + (1 * ρ 0 + 0) = _; omega) (by show 0 + (1 * ρ 1 + 0) = _; omega) k0) (okM_c (pvp 46 (by show 0 + (1 * ρ 0 + 0) = _; omega) (by show 0 + (1 * ρ 3 + 0) = _; omega) k1) (okM_c (pvp 47 (by show 0 + (1 * ρ 0 + 0) = _; omega) (by show 262144 + (1 * ρ 4 + 0) = _; omega) k2) okM_n))), okB_n, okF_n⟩
-- tkL
theorem cr_83 (M : pM) (s0 s1 s2 s3 s4 : Int) (b0 : 0 ≤ s0 ∧ s0 ≤ 1900) (b1 : 0 ≤ s1 ∧ s1 ≤ 1900) (b2 : 0 ≤ s2 ∧ s2 ≤ 1900) (b3 : 0 ≤ s3 ∧ s3 ≤ 1900) (b4 : (-1) ≤ s4 ∧ s4 ≤ 24) (m0 : (0 ≤ (1 : Int) ∧ M 2 (1 : Int).toNat = (s2))) (m1 : HP 44 (s0) (s1) M) (m2 : HP 44 (s1 + 2048) (s3) M) (m3 : HP 50 (2048 * s1 + s3) (s4) M) (f0 : 0 ≤ ((-1) * s1 + s2 - 1)) (f1 : 0 ≤ ((-1) * s1 + s3 - 9)) (hG : gI M) : (HP 45 (s0) (s1) M ∧ HP 46 (s0) (s3) M ∧ HP 47 (s0) (s4) M ∧ 0 ≤ ((-1) * s4 - 1) ∧ 0 ≤ (s4 + 1) ∧ True) := by
  have hn := tn_o m0 b2
  have e0 := ru_o (P := 0) (p := s0.toNat) m1 ⟨by omega, by decide, by omega⟩
  have e1 := ru_o (P := 1) (p := s1.toNat) m2 ⟨by omega, by decide, by omega⟩
  have w := wi_o (s := s1.toNat) (e := s3.toNat) m3 ⟨by omega, by omega, by omega⟩
  have hw := wid_long (M := M) (s := s1.toNat) (e := s3.toNat) (by omega)
  obtain ⟨k1, k2, k3, _⟩ := tk_fin (a := s1) (b := s3) (c := s4) (x := s0) (tk_long (M := M) (p := s0.toNat) (s := s1.toNat) (e := s3.toNat) (by omega) (by omega) (by omega) (by omega)) (by omega) (by omega) (by omega) (by omega)
  exact ⟨k1, k2, k3, by omega, by omega, trivial⟩
theorem rul_83 : Rul r_83 := by
  refine ⟨fun _ ρ M hm hB hF hG => ?_, fun gi gv hg => (by cases hg)⟩
  have H := cr_83 M (ρ 0) (ρ 1) (ρ 2) (ρ 3) (ρ 4) (hB _ List.mem_cons_self) (hB _ (List.mem_cons_of_mem _ List.mem_cons_self)) (hB _ (List.mem_cons_of_mem _ (List.mem_cons_of_mem _ List.mem_cons_self))) (hB _ (List.mem_cons_of_mem _ (List.mem_cons_of_mem _ (List.mem_cons_of_mem _ List.mem_cons_self)))) (hB _ (List.mem_cons_of_mem _ (List.mem_cons_of_mem _ (List.mem_cons_of_mem _ (List.mem_cons_of_mem _ List.mem_cons_self))))) (cvm (c := 2) (by decide) (x' := (1 : Int)) (y' := ((ρ 2))) (by show 1 + 0 = _; omega) (by show 0 + (1 * ρ 2 + 0) = _; omega) (hm _ List.mem_cons_self)) (cvp 44 (x' := ((ρ 0))) (y' := ((ρ 1))) (by show 0 + (1 * ρ 0 + 0) = _; omega) (by show 0 + (1 * ρ 1 + 0) = _; omega) (hm _ (List.mem_cons_of_mem _ List.mem_cons_self))) (cvp 44 (x' := ((ρ 1) + 2048)) (y' := ((ρ 3))) (by show 2048 + (1 * ρ 1 + 0) = _; omega) (by show 0 + (1 * ρ 3 + 0) = _; omega) (hm _ (List.mem_cons_of_mem _ (List.mem_cons_of_mem _ List.mem_cons_self)))) (cvp 50 (x' := (2048 * (ρ 1) + (ρ 3))) (y' := ((ρ 4))) (by show 0 + (2048 * ρ 1 + (1 * ρ 3 + 0)) = _; omega) (by show 0 + (1 * ρ 4 + 0) = _; omega) (hm _ (List.mem_cons_of_mem _ (List.mem_cons_of_mem _ (List.mem_cons_of_mem _ List.mem_cons_self))))) (by have h := hF _ List.mem_cons_self; have h : 0 ≤ (-1) + ((-1) * ρ 1 + (1 * ρ 2 + 0)) := h; omega) (by have h := hF _ (List.mem_cons_of_mem _ List.mem_cons_self); have h : 0 ≤ (-9) + ((-1) * ρ 1 + (1 * ρ 3 + 0)) := h; omega) hG
  obtain ⟨k0, k1, k2, f0, f1, -⟩ := H
  exact ⟨_, List.mem_cons_self, ρ, fun _ _ => rfl, (okM_c (pvp 45 (by show 0 + (1 * ρ 0 + 0) = _; omega) (by show 0 + (1 * ρ 1 + 0) = _; omega) k0) (okM_c (pvp 46 (by show 0 + (1 * ρ 0 + 0) = _; omega) (by show 0 + (1 * ρ 3 + 0) = _; omega) k1) (okM_c (pvp 47 (by show 0 + (1 * ρ 0 + 0) = _; omega) (by show 0 + (1 * ρ 4 + 0) = _; omega) k2) okM_n))), okB_n, (okF_c (by show 0 ≤ (-1) + ((-1) * ρ 4 + 0); omega) (okF_c (by show 0 ≤ 1 + (1 * ρ 4 + 0); omega) okF_n))⟩
-- tkN
theorem cr_84 (M : pM) (s0 s1 s2 s3 s4 : Int) (b0 : 0 ≤ s0 ∧ s0 ≤ 1900) (b1 : 0 ≤ s1 ∧ s1 ≤ 1900) (b2 : 0 ≤ s2 ∧ s2 ≤ 1900) (b3 : 0 ≤ s3 ∧ s3 ≤ 1900) (b4 : 0 ≤ s4 ∧ s4 ≤ 9999) (m0 : (0 ≤ (1 : Int) ∧ M 2 (1 : Int).toNat = (s2))) (m1 : HP 44 (s0) (s1) M) (m2 : HP 44 (s1 + 2048) (s1) M) (m3 : HP 44 (s1 + 4096) (s3) M) (m4 : HP 44 (s3 + 2048) (s3) M) (m5 : HP 51 (2048 * s1 + s3) (s4) M) (f0 : 0 ≤ ((-1) * s1 + s2 - 1)) (f1 : 0 ≤ ((-1) * s1 + s3 - 1)) (f2 : 0 ≤ (s1 + (-1) * s3 + 4)) (hG : gI M) : (HP 45 (s0) (s1) M ∧ HP 46 (s0) (s3) M ∧ HP 47 (s0) (s4 + 393216) M ∧ True) := by
  have hn := tn_o m0 b2
  have e0 := ru_o (P := 0) (p := s0.toNat) m1 ⟨by omega, by decide, by omega⟩
  have e1 := ru_o (P := 1) (p := s1.toNat) m2 ⟨by omega, by decide, by omega⟩
  have e2 := ru_o (P := 2) (p := s1.toNat) m3 ⟨by omega, by decide, by omega⟩
  have e3 := ru_o (P := 1) (p := s3.toNat) m4 ⟨by omega, by decide, by omega⟩
  have w := dv_o (s := s1.toNat) (e := s3.toNat) m5 ⟨by omega, by omega, by omega⟩
  exact tk_fin (tk_num (p := s0.toNat) (s := s1.toNat) (e := s3.toNat) (by omega) (by omega) (by omega) (by omega) (by omega) (by omega) (by omega)) (by omega) (by omega) (by omega) (by omega)
theorem rul_84 : Rul r_84 := by
  refine ⟨fun _ ρ M hm hB hF hG => ?_, fun gi gv hg => (by cases hg)⟩
  have H := cr_84 M (ρ 0) (ρ 1) (ρ 2) (ρ 3) (ρ 4) (hB _ List.mem_cons_self) (hB _ (List.mem_cons_of_mem _ List.mem_cons_self)) (hB _ (List.mem_cons_of_mem _ (List.mem_cons_of_mem _ List.mem_cons_self))) (hB _ (List.mem_cons_of_mem _ (List.mem_cons_of_mem _ (List.mem_cons_of_mem _ List.mem_cons_self)))) (hB _ (List.mem_cons_of_mem _ (List.mem_cons_of_mem _ (List.mem_cons_of_mem _ (List.mem_cons_of_mem _ List.mem_cons_self))))) (cvm (c := 2) (by decide) (x' := (1 : Int)) (y' := ((ρ 2))) (by show 1 + 0 = _; omega) (by show 0 + (1 * ρ 2 + 0) = _; omega) (hm _ List.mem_cons_self)) (cvp 44 (x' := ((ρ 0))) (y' := ((ρ 1))) (by show 0 + (1 * ρ 0 + 0) = _; omega) (by show 0 + (1 * ρ 1 + 0) = _; omega) (hm _ (List.mem_cons_of_mem _ List.mem_cons_self))) (cvp 44 (x' := ((ρ 1) + 2048)) (y' := ((ρ 1))) (by show 2048 + (1 * ρ 1 + 0) = _; omega) (by show 0 + (1 * ρ 1 + 0) = _; omega) (hm _ (List.mem_cons_of_mem _ (List.mem_cons_of_mem _ List.mem_cons_self)))) (cvp 44 (x' := ((ρ 1) + 4096)) (y' := ((ρ 3))) (by show 4096 + (1 * ρ 1 + 0) = _; omega) (by show 0 + (1 * ρ 3 + 0) = _; omega) (hm _ (List.mem_cons_of_mem _ (List.mem_cons_of_mem _ (List.mem_cons_of_mem _ List.mem_cons_self))))) (cvp 44 (x' := ((ρ 3) + 2048)) (y' := ((ρ 3))) (by show 2048 + (1 * ρ 3 + 0) = _; omega) (by show 0 + (1 * ρ 3 + 0) = _; omega) (hm _ (List.mem_cons_of_mem _ (List.mem_cons_of_mem _ (List.mem_cons_of_mem _ (List.mem_cons_of_mem _ List.mem_cons_self)))))) (cvp 51 (x' := (2048 * (ρ 1) + (ρ 3))) (y' := ((ρ 4))) (by show 0 + (2048 * ρ 1 + (1 * ρ 3 + 0)) = _; omega) (by show 0 + (1 * ρ 4 + 0) = _; omega) (hm _ (List.mem_cons_of_mem _ (List.mem_cons_of_mem _ (List.mem_cons_of_mem _ (List.mem_cons_of_mem _ (List.mem_cons_of_mem _ List.mem_cons_self))))))) (by have h := hF _ List.mem_cons_self; have h : 0 ≤ (-1) + ((-1) * ρ 1 + (1 * ρ 2 + 0)) := h; omega) (by have h := hF _ (List.mem_cons_of_mem _ List.mem_cons_self); have h : 0 ≤ (-1) + ((-1) * ρ 1 + (1 * ρ 3 + 0)) := h; omega) (by have h := hF _ (List.mem_cons_of_mem _ (List.mem_cons_of_mem _ List.mem_cons_self)); have h : 0 ≤ 4 + (1 * ρ 1 + ((-1) * ρ 3 + 0)) := h; omega) hG
  obtain ⟨k0, k1, k2, -⟩ := H
  exact ⟨_, List.mem_cons_self, ρ, fun _ _ => rfl, (okM_c (pvp 45 (by show 0 + (1 * ρ 0 + 0) = _; omega) (by show 0 + (1 * ρ 1 + 0) = _; omega) k0) (okM_c (pvp 46 (by show 0 + (1 * ρ 0 + 0) = _; omega) (by show 0 + (1 * ρ 3 + 0) = _; omega) k1) (okM_c (pvp 47 (by show 0 + (1 * ρ 0 + 0) = _; omega) (by show 393216 + (1 * ρ 4 + 0) = _; omega) k2) okM_n))), okB_n, okF_n⟩
-- tkM
theorem cr_85 (M : pM) (s0 s1 s2 s3 : Int) (b0 : 0 ≤ s0 ∧ s0 ≤ 1900) (b1 : 0 ≤ s1 ∧ s1 ≤ 1900) (b2 : 0 ≤ s2 ∧ s2 ≤ 1900) (b3 : 0 ≤ s3 ∧ s3 ≤ 1900) (m0 : (0 ≤ (1 : Int) ∧ M 2 (1 : Int).toNat = (s2))) (m1 : HP 44 (s0) (s1) M) (m2 : HP 44 (s1 + 2048) (s1) M) (m3 : HP 44 (s1 + 4096) (s3) M) (f0 : 0 ≤ ((-1) * s1 + s2 - 1)) (f1 : 0 ≤ ((-1) * s1 + s3 - 5)) (hG : gI M) : (HP 45 (s0) (s1) M ∧ HP 46 (s0) (s3) M ∧ HP 47 (s0) (-1 : Int) M ∧ True) := by
  have hn := tn_o m0 b2
  have e0 := ru_o (P := 0) (p := s0.toNat) m1 ⟨by omega, by decide, by omega⟩
  have e1 := ru_o (P := 1) (p := s1.toNat) m2 ⟨by omega, by decide, by omega⟩
  have e2 := ru_o (P := 2) (p := s1.toNat) m3 ⟨by omega, by decide, by omega⟩
  exact tk_fin (tk_bad (p := s0.toNat) (s := s1.toNat) (e := s3.toNat) (by omega) (by omega) (by omega) (by omega) (by omega) (fun h => by omega)) (by omega) (by omega) (by omega) (by omega)
theorem rul_85 : Rul r_85 := by
  refine ⟨fun _ ρ M hm hB hF hG => ?_, fun gi gv hg => (by cases hg)⟩
  have H := cr_85 M (ρ 0) (ρ 1) (ρ 2) (ρ 3) (hB _ List.mem_cons_self) (hB _ (List.mem_cons_of_mem _ List.mem_cons_self)) (hB _ (List.mem_cons_of_mem _ (List.mem_cons_of_mem _ List.mem_cons_self))) (hB _ (List.mem_cons_of_mem _ (List.mem_cons_of_mem _ (List.mem_cons_of_mem _ List.mem_cons_self)))) (cvm (c := 2) (by decide) (x' := (1 : Int)) (y' := ((ρ 2))) (by show 1 + 0 = _; omega) (by show 0 + (1 * ρ 2 + 0) = _; omega) (hm _ List.mem_cons_self)) (cvp 44 (x' := ((ρ 0))) (y' := ((ρ 1))) (by show 0 + (1 * ρ 0 + 0) = _; omega) (by show 0 + (1 * ρ 1 + 0) = _; omega) (hm _ (List.mem_cons_of_mem _ List.mem_cons_self))) (cvp 44 (x' := ((ρ 1) + 2048)) (y' := ((ρ 1))) (by show 2048 + (1 * ρ 1 + 0) = _; omega) (by show 0 + (1 * ρ 1 + 0) = _; omega) (hm _ (List.mem_cons_of_mem _ (List.mem_cons_of_mem _ List.mem_cons_self)))) (cvp 44 (x' := ((ρ 1) + 4096)) (y' := ((ρ 3))) (by show 4096 + (1 * ρ 1 + 0) = _; omega) (by show 0 + (1 * ρ 3 + 0) = _; omega) (hm _ (List.mem_cons_of_mem _ (List.mem_cons_of_mem _ (List.mem_cons_of_mem _ List.mem_cons_self))))) (by have h := hF _ List.mem_cons_self; have h : 0 ≤ (-1) + ((-1) * ρ 1 + (1 * ρ 2 + 0)) := h; omega) (by have h := hF _ (List.mem_cons_of_mem _ List.mem_cons_self); have h : 0 ≤ (-5) + ((-1) * ρ 1 + (1 * ρ 3 + 0)) := h; omega) hG
  obtain ⟨k0, k1, k2, -⟩ := H
  exact ⟨_, List.mem_cons_self, ρ, fun _ _ => rfl, (okM_c (pvp 45 (by show 0 + (1 * ρ 0 + 0) = _; omega) (by show 0 + (1 * ρ 1 + 0) = _; omega) k0) (okM_c (pvp 46 (by show 0 + (1 * ρ 0 + 0) = _; omega) (by show 0 + (1 * ρ 3 + 0) = _; omega) k1) (okM_c (pvp 47 (by show 0 + (1 * ρ 0 + 0) = _; omega) (by show (-1) + 0 = _; omega) k2) okM_n))), okB_n, okF_n⟩
-- tkO
theorem cr_86 (M : pM) (s0 s1 s2 s3 s4 : Int) (b0 : 0 ≤ s0 ∧ s0 ≤ 1900) (b1 : 0 ≤ s1 ∧ s1 ≤ 1900) (b2 : 0 ≤ s2 ∧ s2 ≤ 1900) (b3 : 0 ≤ s3 ∧ s3 ≤ 1900) (b4 : 0 ≤ s4 ∧ s4 ≤ 1900) (m0 : (0 ≤ (1 : Int) ∧ M 2 (1 : Int).toNat = (s2))) (m1 : HP 44 (s0) (s1) M) (m2 : HP 44 (s1 + 2048) (s1) M) (m3 : HP 44 (s1 + 4096) (s3) M) (m4 : HP 44 (s3 + 2048) (s4) M) (f0 : 0 ≤ ((-1) * s1 + s2 - 1)) (f1 : 0 ≤ ((-1) * s1 + s3 - 1)) (f2 : 0 ≤ ((-1) * s3 + s4 - 1)) (hG : gI M) : (HP 45 (s0) (s1) M ∧ HP 46 (s0) (s3) M ∧ HP 47 (s0) (-1 : Int) M ∧ True) := by
  have hn := tn_o m0 b2
  have e0 := ru_o (P := 0) (p := s0.toNat) m1 ⟨by omega, by decide, by omega⟩
  have e1 := ru_o (P := 1) (p := s1.toNat) m2 ⟨by omega, by decide, by omega⟩
  have e2 := ru_o (P := 2) (p := s1.toNat) m3 ⟨by omega, by decide, by omega⟩
  have e3 := ru_o (P := 1) (p := s3.toNat) m4 ⟨by omega, by decide, by omega⟩
  exact tk_fin (tk_bad (p := s0.toNat) (s := s1.toNat) (e := s3.toNat) (by omega) (by omega) (by omega) (by omega) (by omega) (fun h => by omega)) (by omega) (by omega) (by omega) (by omega)
theorem rul_86 : Rul r_86 := by
  refine ⟨fun _ ρ M hm hB hF hG => ?_, fun gi gv hg => (by cases hg)⟩
  have H := cr_86 M (ρ 0) (ρ 1) (ρ 2) (ρ 3) (ρ 4) (hB _ List.mem_cons_self) (hB _ (List.mem_cons_of_mem _ List.mem_cons_self)) (hB _ (List.mem_cons_of_mem _ (List.mem_cons_of_mem _ List.mem_cons_self))) (hB _ (List.mem_cons_of_mem _ (List.mem_cons_of_mem _ (List.mem_cons_of_mem _ List.mem_cons_self)))) (hB _ (List.mem_cons_of_mem _ (List.mem_cons_of_mem _ (List.mem_cons_of_mem _ (List.mem_cons_of_mem _ List.mem_cons_self))))) (cvm (c := 2) (by decide) (x' := (1 : Int)) (y' := ((ρ 2))) (by show 1 + 0 = _; omega) (by show 0 + (1 * ρ 2 + 0) = _; omega) (hm _ List.mem_cons_self)) (cvp 44 (x' := ((ρ 0))) (y' := ((ρ 1))) (by show 0 + (1 * ρ 0 + 0) = _; omega) (by show 0 + (1 * ρ 1 + 0) = _; omega) (hm _ (List.mem_cons_of_mem _ List.mem_cons_self))) (cvp 44 (x' := ((ρ 1) + 2048)) (y' := ((ρ 1))) (by show 2048 + (1 * ρ 1 + 0) = _; omega) (by show 0 + (1 * ρ 1 + 0) = _; omega) (hm _ (List.mem_cons_of_mem _ (List.mem_cons_of_mem _ List.mem_cons_self)))) (cvp 44 (x' := ((ρ 1) + 4096)) (y' := ((ρ 3))) (by show 4096 + (1 * ρ 1 + 0) = _; omega) (by show 0 + (1 * ρ 3 + 0) = _; omega) (hm _ (List.mem_cons_of_mem _ (List.mem_cons_of_mem _ (List.mem_cons_of_mem _ List.mem_cons_self))))) (cvp 44 (x' := ((ρ 3) + 2048)) (y' := ((ρ 4))) (by show 2048 + (1 * ρ 3 + 0) = _; omega) (by show 0 + (1 * ρ 4 + 0) = _; omega) (hm _ (List.mem_cons_of_mem _ (List.mem_cons_of_mem _ (List.mem_cons_of_mem _ (List.mem_cons_of_mem _ List.mem_cons_self)))))) (by have h := hF _ List.mem_cons_self; have h : 0 ≤ (-1) + ((-1) * ρ 1 + (1 * ρ 2 + 0)) := h; omega) (by have h := hF _ (List.mem_cons_of_mem _ List.mem_cons_self); have h : 0 ≤ (-1) + ((-1) * ρ 1 + (1 * ρ 3 + 0)) := h; omega) (by have h := hF _ (List.mem_cons_of_mem _ (List.mem_cons_of_mem _ List.mem_cons_self)); have h : 0 ≤ (-1) + ((-1) * ρ 3 + (1 * ρ 4 + 0)) := h; omega) hG
  obtain ⟨k0, k1, k2, -⟩ := H
  exact ⟨_, List.mem_cons_self, ρ, fun _ _ => rfl, (okM_c (pvp 45 (by show 0 + (1 * ρ 0 + 0) = _; omega) (by show 0 + (1 * ρ 1 + 0) = _; omega) k0) (okM_c (pvp 46 (by show 0 + (1 * ρ 0 + 0) = _; omega) (by show 0 + (1 * ρ 3 + 0) = _; omega) k1) (okM_c (pvp 47 (by show 0 + (1 * ρ 0 + 0) = _; omega) (by show (-1) + 0 = _; omega) k2) okM_n))), okB_n, okF_n⟩
-- tkS
theorem cr_87 (M : pM) (s0 s1 s2 s3 s4 : Int) (b0 : 0 ≤ s0 ∧ s0 ≤ 1900) (b1 : 0 ≤ s1 ∧ s1 ≤ 1900) (b2 : 0 ≤ s2 ∧ s2 ≤ 1900) (b3 : 0 ≤ s3 ∧ s3 ≤ 255) (b4 : 0 ≤ s4 ∧ s4 ≤ 127) (m0 : (0 ≤ (1 : Int) ∧ M 2 (1 : Int).toNat = (s2))) (m1 : HP 44 (s0) (s1) M) (m2 : HP 44 (s1 + 2048) (s1) M) (m3 : HP 44 (s1 + 4096) (s1) M) (m4 : (0 ≤ (s1) ∧ M 1 (s1).toNat = (s3))) (m5 : HP 70 (s4) (0 : Int) M) (f0 : 0 ≤ ((-1) * s1 + s2 - 1)) (f1 : 0 ≤ (s3 + (-1) * s4)) (f2 : 0 ≤ ((-1) * s3 + s4)) (hG : gI M) : (HP 45 (s0) (s1) M ∧ HP 46 (s0) (s1 + 1) M ∧ HP 47 (s0) (s3 + 524288) M ∧ True) := by
  have hn := tn_o m0 b2
  have e0 := ru_o (P := 0) (p := s0.toNat) m1 ⟨by omega, by decide, by omega⟩
  have e1 := ru_o (P := 1) (p := s1.toNat) m2 ⟨by omega, by decide, by omega⟩
  have e2 := ru_o (P := 2) (p := s1.toNat) m3 ⟨by omega, by decide, by omega⟩
  have q := tk_sign (M := M) (p := s0.toNat) (s := s1.toNat) (by omega) (by omega) (by omega) (by omega)
  rw [m4.2] at q
  have hs : s3 ∈ sgs := by have := Eq.mp hp_70 m5; rw [show s3 = s4 by omega]; exact this
  rw [if_pos hs] at q
  exact tk_fin q (by omega) (by omega) (by omega) (by omega)
theorem rul_87 : Rul r_87 := by
  refine ⟨fun _ ρ M hm hB hF hG => ?_, fun gi gv hg => (by cases hg)⟩
  have H := cr_87 M (ρ 0) (ρ 1) (ρ 2) (ρ 3) (ρ 4) (hB _ List.mem_cons_self) (hB _ (List.mem_cons_of_mem _ List.mem_cons_self)) (hB _ (List.mem_cons_of_mem _ (List.mem_cons_of_mem _ List.mem_cons_self))) (hB _ (List.mem_cons_of_mem _ (List.mem_cons_of_mem _ (List.mem_cons_of_mem _ List.mem_cons_self)))) (hB _ (List.mem_cons_of_mem _ (List.mem_cons_of_mem _ (List.mem_cons_of_mem _ (List.mem_cons_of_mem _ List.mem_cons_self))))) (cvm (c := 2) (by decide) (x' := (1 : Int)) (y' := ((ρ 2))) (by show 1 + 0 = _; omega) (by show 0 + (1 * ρ 2 + 0) = _; omega) (hm _ List.mem_cons_self)) (cvp 44 (x' := ((ρ 0))) (y' := ((ρ 1))) (by show 0 + (1 * ρ 0 + 0) = _; omega) (by show 0 + (1 * ρ 1 + 0) = _; omega) (hm _ (List.mem_cons_of_mem _ List.mem_cons_self))) (cvp 44 (x' := ((ρ 1) + 2048)) (y' := ((ρ 1))) (by show 2048 + (1 * ρ 1 + 0) = _; omega) (by show 0 + (1 * ρ 1 + 0) = _; omega) (hm _ (List.mem_cons_of_mem _ (List.mem_cons_of_mem _ List.mem_cons_self)))) (cvp 44 (x' := ((ρ 1) + 4096)) (y' := ((ρ 1))) (by show 4096 + (1 * ρ 1 + 0) = _; omega) (by show 0 + (1 * ρ 1 + 0) = _; omega) (hm _ (List.mem_cons_of_mem _ (List.mem_cons_of_mem _ (List.mem_cons_of_mem _ List.mem_cons_self))))) (cvm (c := 1) (by decide) (x' := ((ρ 1))) (y' := ((ρ 3))) (by show 0 + (1 * ρ 1 + 0) = _; omega) (by show 0 + (1 * ρ 3 + 0) = _; omega) (hm _ (List.mem_cons_of_mem _ (List.mem_cons_of_mem _ (List.mem_cons_of_mem _ (List.mem_cons_of_mem _ List.mem_cons_self)))))) (cvp 70 (x' := ((ρ 4))) (y' := (0 : Int)) (by show 0 + (1 * ρ 4 + 0) = _; omega) (by show 0 + 0 = _; omega) (hm _ (List.mem_cons_of_mem _ (List.mem_cons_of_mem _ (List.mem_cons_of_mem _ (List.mem_cons_of_mem _ (List.mem_cons_of_mem _ List.mem_cons_self))))))) (by have h := hF _ List.mem_cons_self; have h : 0 ≤ (-1) + ((-1) * ρ 1 + (1 * ρ 2 + 0)) := h; omega) (by have h := hF _ (List.mem_cons_of_mem _ List.mem_cons_self); have h : 0 ≤ 0 + (1 * ρ 3 + ((-1) * ρ 4 + 0)) := h; omega) (by have h := hF _ (List.mem_cons_of_mem _ (List.mem_cons_of_mem _ List.mem_cons_self)); have h : 0 ≤ 0 + ((-1) * ρ 3 + (1 * ρ 4 + 0)) := h; omega) hG
  obtain ⟨k0, k1, k2, -⟩ := H
  exact ⟨_, List.mem_cons_self, ρ, fun _ _ => rfl, (okM_c (pvp 45 (by show 0 + (1 * ρ 0 + 0) = _; omega) (by show 0 + (1 * ρ 1 + 0) = _; omega) k0) (okM_c (pvp 46 (by show 0 + (1 * ρ 0 + 0) = _; omega) (by show 1 + (1 * ρ 1 + 0) = _; omega) k1) (okM_c (pvp 47 (by show 0 + (1 * ρ 0 + 0) = _; omega) (by show 524288 + (1 * ρ 3 + 0) = _; omega) k2) okM_n))), okB_n, okF_n⟩
-- tkT
theorem cr_88 (M : pM) (s0 s1 s2 s3 : Int) (b0 : 0 ≤ s0 ∧ s0 ≤ 1900) (b1 : 0 ≤ s1 ∧ s1 ≤ 1900) (b2 : 0 ≤ s2 ∧ s2 ≤ 1900) (b3 : 0 ≤ s3 ∧ s3 ≤ 255) (m0 : (0 ≤ (1 : Int) ∧ M 2 (1 : Int).toNat = (s2))) (m1 : HP 44 (s0) (s1) M) (m2 : HP 40 (0 : Int) (0 : Int) M) (m3 : HP 44 (s1 + 2048) (s1) M) (m4 : HP 44 (s1 + 4096) (s1) M) (m5 : (0 ≤ (s1) ∧ M 1 (s1).toNat = (s3))) (m6 : HP 69 (10 : Int) (s3) M) (f0 : 0 ≤ ((-1) * s1 + s2 - 1)) (hG : gI M) : (HP 45 (s0) (s1) M ∧ HP 46 (s0) (s1 + 1) M ∧ HP 47 (s0) (s3) M ∧ True) := by
  have hn := tn_o m0 b2
  have e0 := ru_o (P := 0) (p := s0.toNat) m1 ⟨by omega, by decide, by omega⟩
  have e1 := ru_o (P := 1) (p := s1.toNat) m3 ⟨by omega, by decide, by omega⟩
  have e2 := ru_o (P := 2) (p := s1.toNat) m4 ⟨by omega, by decide, by omega⟩
  have q := tk_sign (M := M) (p := s0.toNat) (s := s1.toNat) (by omega) (by omega) (by omega) (by omega)
  rw [m5.2] at q
  rw [if_neg (sn_no m2 m6)] at q
  exact tk_fin q (by omega) (by omega) (by omega) (by omega)
theorem rul_88 : Rul r_88 := by
  refine ⟨fun _ ρ M hm hB hF hG => ?_, fun gi gv hg => (by cases hg)⟩
  have H := cr_88 M (ρ 0) (ρ 1) (ρ 2) (ρ 3) (hB _ List.mem_cons_self) (hB _ (List.mem_cons_of_mem _ List.mem_cons_self)) (hB _ (List.mem_cons_of_mem _ (List.mem_cons_of_mem _ List.mem_cons_self))) (hB _ (List.mem_cons_of_mem _ (List.mem_cons_of_mem _ (List.mem_cons_of_mem _ List.mem_cons_self)))) (cvm (c := 2) (by decide) (x' := (1 : Int)) (y' := ((ρ 2))) (by show 1 + 0 = _; omega) (by show 0 + (1 * ρ 2 + 0) = _; omega) (hm _ List.mem_cons_self)) (cvp 44 (x' := ((ρ 0))) (y' := ((ρ 1))) (by show 0 + (1 * ρ 0 + 0) = _; omega) (by show 0 + (1 * ρ 1 + 0) = _; omega) (hm _ (List.mem_cons_of_mem _ List.mem_cons_self))) (cvp 40 (x' := (0 : Int)) (y' := (0 : Int)) (by show 0 + 0 = _; omega) (by show 0 + 0 = _; omega) (hm _ (List.mem_cons_of_mem _ (List.mem_cons_of_mem _ List.mem_cons_self)))) (cvp 44 (x' := ((ρ 1) + 2048)) (y' := ((ρ 1))) (by show 2048 + (1 * ρ 1 + 0) = _; omega) (by show 0 + (1 * ρ 1 + 0) = _; omega) (hm _ (List.mem_cons_of_mem _ (List.mem_cons_of_mem _ (List.mem_cons_of_mem _ List.mem_cons_self))))) (cvp 44 (x' := ((ρ 1) + 4096)) (y' := ((ρ 1))) (by show 4096 + (1 * ρ 1 + 0) = _; omega) (by show 0 + (1 * ρ 1 + 0) = _; omega) (hm _ (List.mem_cons_of_mem _ (List.mem_cons_of_mem _ (List.mem_cons_of_mem _ (List.mem_cons_of_mem _ List.mem_cons_self)))))) (cvm (c := 1) (by decide) (x' := ((ρ 1))) (y' := ((ρ 3))) (by show 0 + (1 * ρ 1 + 0) = _; omega) (by show 0 + (1 * ρ 3 + 0) = _; omega) (hm _ (List.mem_cons_of_mem _ (List.mem_cons_of_mem _ (List.mem_cons_of_mem _ (List.mem_cons_of_mem _ (List.mem_cons_of_mem _ List.mem_cons_self))))))) (cvp 69 (x' := (10 : Int)) (y' := ((ρ 3))) (by show 10 + 0 = _; omega) (by show 0 + (1 * ρ 3 + 0) = _; omega) (hm _ (List.mem_cons_of_mem _ (List.mem_cons_of_mem _ (List.mem_cons_of_mem _ (List.mem_cons_of_mem _ (List.mem_cons_of_mem _ (List.mem_cons_of_mem _ List.mem_cons_self)))))))) (by have h := hF _ List.mem_cons_self; have h : 0 ≤ (-1) + ((-1) * ρ 1 + (1 * ρ 2 + 0)) := h; omega) hG
  obtain ⟨k0, k1, k2, -⟩ := H
  exact ⟨_, List.mem_cons_self, ρ, fun _ _ => rfl, (okM_c (pvp 45 (by show 0 + (1 * ρ 0 + 0) = _; omega) (by show 0 + (1 * ρ 1 + 0) = _; omega) k0) (okM_c (pvp 46 (by show 0 + (1 * ρ 0 + 0) = _; omega) (by show 1 + (1 * ρ 1 + 0) = _; omega) k1) (okM_c (pvp 47 (by show 0 + (1 * ρ 0 + 0) = _; omega) (by show 0 + (1 * ρ 3 + 0) = _; omega) k2) okM_n))), okB_n, okF_n⟩
-- sgf
theorem cr_89 (M : pM) (s0 s1 : Int) (b0 : 0 ≤ s0 ∧ s0 ≤ 9) (b1 : 0 ≤ s1 ∧ s1 ≤ 127) (m0 : HP 40 (0 : Int) (0 : Int) M) (m1 : (0 ≤ (s0) ∧ M 1007 (s0).toNat = (s1))) (hG : gI M) : (HP 70 (s1) (0 : Int) M ∧ True) := by
  exact ⟨Eq.mpr hp_70 (by rw [← m1.2, (Eq.mp hp_40 m0).2 s0.toNat (by omega)]; exact sgs_at _ (by omega)), trivial⟩
theorem rul_89 : Rul r_89 := by
  refine ⟨fun _ ρ M hm hB hF hG => ?_, fun gi gv hg => (by cases hg)⟩
  have H := cr_89 M (ρ 0) (ρ 1) (hB _ List.mem_cons_self) (hB _ (List.mem_cons_of_mem _ List.mem_cons_self)) (cvp 40 (x' := (0 : Int)) (y' := (0 : Int)) (by show 0 + 0 = _; omega) (by show 0 + 0 = _; omega) (hm _ List.mem_cons_self)) (cvm (c := 1007) (by decide) (x' := ((ρ 0))) (y' := ((ρ 1))) (by show 0 + (1 * ρ 0 + 0) = _; omega) (by show 0 + (1 * ρ 1 + 0) = _; omega) (hm _ (List.mem_cons_of_mem _ List.mem_cons_self))) hG
  obtain ⟨k0, -⟩ := H
  exact ⟨_, List.mem_cons_self, ρ, fun _ _ => rfl, (okM_c (pvp 70 (by show 0 + (1 * ρ 1 + 0) = _; omega) (by show 0 + 0 = _; omega) k0) okM_n), okB_n, okF_n⟩
-- sn0
theorem cr_90 (M : pM) (s0 : Int) (b0 : 0 ≤ s0 ∧ s0 ≤ 255) (hG : gI M) : (HP 69 (0 : Int) (s0) M ∧ True) := by
  exact ⟨Eq.mpr hp_69 (fun i h1 h2 => by omega), trivial⟩
theorem rul_90 : Rul r_90 := by
  refine ⟨fun _ ρ M hm hB hF hG => ?_, fun gi gv hg => (by cases hg)⟩
  have H := cr_90 M (ρ 0) (hB _ List.mem_cons_self) hG
  obtain ⟨k0, -⟩ := H
  exact ⟨_, List.mem_cons_self, ρ, fun _ _ => rfl, (okM_c (pvp 69 (by show 0 + 0 = _; omega) (by show 0 + (1 * ρ 0 + 0) = _; omega) k0) okM_n), okB_n, okF_n⟩
-- snn
theorem cr_91 (M : pM) (s0 s1 s2 : Int) (b0 : 0 ≤ s0 ∧ s0 ≤ 255) (b1 : 0 ≤ s1 ∧ s1 ≤ 9) (b2 : 0 ≤ s2 ∧ s2 ≤ 127) (m0 : HP 69 (s1) (s0) M) (m1 : (0 ≤ (s1) ∧ M 1007 (s1).toNat = (s2))) (f0 : 0 ≤ (s0 + (-1) * s2 - 1)) (hG : gI M) : (HP 69 (s1 + 1) (s0) M ∧ True) := by
  exact ⟨Eq.mpr hp_69 (fun i h1 h2 => if e : i = s1.toNat then (by rw [e, m1.2]; omega) else Eq.mp hp_69 m0 i h1 (by omega)), trivial⟩
theorem rul_91 : Rul r_91 := by
  refine ⟨fun _ ρ M hm hB hF hG => ?_, fun gi gv hg => (by cases hg)⟩
  have H := cr_91 M (ρ 0) (ρ 1) (ρ 2) (hB _ List.mem_cons_self) (hB _ (List.mem_cons_of_mem _ List.mem_cons_self)) (hB _ (List.mem_cons_of_mem _ (List.mem_cons_of_mem _ List.mem_cons_self))) (cvp 69 (x' := ((ρ 1))) (y' := ((ρ 0))) (by show 0 + (1 * ρ 1 + 0) = _; omega) (by show 0 + (1 * ρ 0 + 0) = _; omega) (hm _ List.mem_cons_self)) (cvm (c := 1007) (by decide) (x' := ((ρ 1))) (y' := ((ρ 2))) (by show 0 + (1 * ρ 1 + 0) = _; omega) (by show 0 + (1 * ρ 2 + 0) = _; omega) (hm _ (List.mem_cons_of_mem _ List.mem_cons_self))) (by have h := hF _ List.mem_cons_self; have h : 0 ≤ (-1) + (1 * ρ 0 + ((-1) * ρ 2 + 0)) := h; omega) hG
  obtain ⟨k0, -⟩ := H
  exact ⟨_, List.mem_cons_self, ρ, fun _ _ => rfl, (okM_c (pvp 69 (by show 1 + (1 * ρ 1 + 0) = _; omega) (by show 0 + (1 * ρ 0 + 0) = _; omega) k0) okM_n), okB_n, okF_n⟩
-- sno
theorem cr_92 (M : pM) (s0 s1 s2 : Int) (b0 : 0 ≤ s0 ∧ s0 ≤ 255) (b1 : 0 ≤ s1 ∧ s1 ≤ 9) (b2 : 0 ≤ s2 ∧ s2 ≤ 127) (m0 : HP 69 (s1) (s0) M) (m1 : (0 ≤ (s1) ∧ M 1007 (s1).toNat = (s2))) (f0 : 0 ≤ ((-1) * s0 + s2 - 1)) (hG : gI M) : (HP 69 (s1 + 1) (s0) M ∧ True) := by
  exact ⟨Eq.mpr hp_69 (fun i h1 h2 => if e : i = s1.toNat then (by rw [e, m1.2]; omega) else Eq.mp hp_69 m0 i h1 (by omega)), trivial⟩
theorem rul_92 : Rul r_92 := by
  refine ⟨fun _ ρ M hm hB hF hG => ?_, fun gi gv hg => (by cases hg)⟩
  have H := cr_92 M (ρ 0) (ρ 1) (ρ 2) (hB _ List.mem_cons_self) (hB _ (List.mem_cons_of_mem _ List.mem_cons_self)) (hB _ (List.mem_cons_of_mem _ (List.mem_cons_of_mem _ List.mem_cons_self))) (cvp 69 (x' := ((ρ 1))) (y' := ((ρ 0))) (by show 0 + (1 * ρ 1 + 0) = _; omega) (by show 0 + (1 * ρ 0 + 0) = _; omega) (hm _ List.mem_cons_self)) (cvm (c := 1007) (by decide) (x' := ((ρ 1))) (y' := ((ρ 2))) (by show 0 + (1 * ρ 1 + 0) = _; omega) (by show 0 + (1 * ρ 2 + 0) = _; omega) (hm _ (List.mem_cons_of_mem _ List.mem_cons_self))) (by have h := hF _ List.mem_cons_self; have h : 0 ≤ (-1) + ((-1) * ρ 0 + (1 * ρ 2 + 0)) := h; omega) hG
  obtain ⟨k0, -⟩ := H
  exact ⟨_, List.mem_cons_self, ρ, fun _ _ => rfl, (okM_c (pvp 69 (by show 1 + (1 * ρ 1 + 0) = _; omega) (by show 0 + (1 * ρ 0 + 0) = _; omega) k0) okM_n), okB_n, okF_n⟩
-- snx
theorem cr_93 (M : pM) (s0 s1 : Int) (b0 : 0 ≤ s0 ∧ s0 ≤ 255) (b1 : 0 ≤ s1 ∧ s1 ≤ 10) (m0 : HP 69 (s1) (s0) M) (f0 : 0 ≤ (s1 - 10)) (hG : gI M) : (HP 69 (10 : Int) (s0) M ∧ True) := by
  exact ⟨Eq.mpr hp_69 (fun i h1 h2 => Eq.mp hp_69 m0 i h1 (by omega)), trivial⟩
theorem rul_93 : Rul r_93 := by
  refine ⟨fun _ ρ M hm hB hF hG => ?_, fun gi gv hg => (by cases hg)⟩
  have H := cr_93 M (ρ 0) (ρ 1) (hB _ List.mem_cons_self) (hB _ (List.mem_cons_of_mem _ List.mem_cons_self)) (cvp 69 (x' := ((ρ 1))) (y' := ((ρ 0))) (by show 0 + (1 * ρ 1 + 0) = _; omega) (by show 0 + (1 * ρ 0 + 0) = _; omega) (hm _ List.mem_cons_self)) (by have h := hF _ List.mem_cons_self; have h : 0 ≤ (-10) + (1 * ρ 1 + 0) := h; omega) hG
  obtain ⟨k0, -⟩ := H
  exact ⟨_, List.mem_cons_self, ρ, fun _ _ => rfl, (okM_c (pvp 69 (by show 10 + 0 = _; omega) (by show 0 + (1 * ρ 0 + 0) = _; omega) k0) okM_n), okB_n, okF_n⟩
-- i2c
theorem cr_94 (M : pM) (s0 s1 : Int) (b0 : 0 ≤ s0 ∧ s0 ≤ 65535) (b1 : (-2147483648) ≤ s1 ∧ s1 ≤ 2147483647) (m0 : HP 121 (s0) (s1) M) (hG : gI M) : (0 ≤ (s0 + (-1) * s1) ∧ 0 ≤ ((-1) * s0 + s1) ∧ True) := by
  have e := n_i2c m0
  rw [i2c_id (by omega)] at e
  exact ⟨by omega, by omega, trivial⟩
theorem rul_94 : Rul r_94 := by
  refine ⟨fun _ ρ M hm hB hF hG => ?_, fun gi gv hg => (by cases hg)⟩
  have H := cr_94 M (ρ 0) (ρ 1) (hB _ List.mem_cons_self) (hB _ (List.mem_cons_of_mem _ List.mem_cons_self)) (cvp 121 (x' := ((ρ 0))) (y' := ((ρ 1))) (by show 0 + (1 * ρ 0 + 0) = _; omega) (by show 0 + (1 * ρ 1 + 0) = _; omega) (hm _ List.mem_cons_self)) hG
  obtain ⟨f0, f1, -⟩ := H
  exact ⟨_, List.mem_cons_self, ρ, fun _ _ => rfl, okM_n, okB_n, (okF_c (by show 0 ≤ 0 + (1 * ρ 0 + ((-1) * ρ 1 + 0)); omega) (okF_c (by show 0 ≤ 0 + ((-1) * ρ 0 + (1 * ρ 1 + 0)); omega) okF_n))⟩
-- kw0
theorem cr_95 (M : pM) (s0 s1 : Int) (b0 : 0 ≤ s0 ∧ s0 ≤ 1900) (b1 : 0 ≤ s1 ∧ s1 ≤ 1900) (f0 : 0 ≤ ((-1) * s0 + s1)) (hG : gI M) : (HP 178 (0 : Int) (0 : Int) M ∧ HP 179 (2048 * s0 + s1) (0 : Int) M ∧ HP 180 (2048 * s0 + s1) (0 : Int) M ∧ True) := by
  refine ⟨Eq.mpr hp_178 ⟨0, by decide, rfl, rfl⟩, Eq.mpr hp_179 ⟨s0.toNat, s1.toNat, 0, ⟨by omega, by omega, by decide⟩, by omega, rfl, fun k hk => absurd hk (Nat.not_lt_zero k)⟩, Eq.mpr hp_180 ⟨s0.toNat, s1.toNat, 0, ⟨by omega, by omega, by decide⟩, by omega, rfl, Nat.zero_le _, fun k hk => absurd hk (Nat.not_lt_zero k)⟩, trivial⟩
theorem rul_95 : Rul r_95 := by
  refine ⟨fun _ ρ M hm hB hF hG => ?_, fun gi gv hg => (by cases hg)⟩
  have H := cr_95 M (ρ 0) (ρ 1) (hB _ List.mem_cons_self) (hB _ (List.mem_cons_of_mem _ List.mem_cons_self)) (by have h := hF _ List.mem_cons_self; have h : 0 ≤ 0 + ((-1) * ρ 0 + (1 * ρ 1 + 0)) := h; omega) hG
  obtain ⟨k0, k1, k2, -⟩ := H
  exact ⟨_, List.mem_cons_self, ρ, fun _ _ => rfl, (okM_c (pvp 178 (by show 0 + 0 = _; omega) (by show 0 + 0 = _; omega) k0) (okM_c (pvp 179 (by show 0 + (2048 * ρ 0 + (1 * ρ 1 + 0)) = _; omega) (by show 0 + 0 = _; omega) k1) (okM_c (pvp 180 (by show 0 + (2048 * ρ 0 + (1 * ρ 1 + 0)) = _; omega) (by show 0 + 0 = _; omega) k2) okM_n))), okB_n, okF_n⟩
-- kwn0
theorem cr_96 (M : pM) (s0 s1 s2 s3 s4 s5 : Int) (b0 : 0 ≤ s0 ∧ s0 ≤ 1900) (b1 : 0 ≤ s1 ∧ s1 ≤ 1900) (b2 : 0 ≤ s2 ∧ s2 ≤ 125) (b3 : 0 ≤ s3 ∧ s3 ≤ 24) (b4 : 0 ≤ s4 ∧ s4 ≤ 15) (b5 : 0 ≤ s5 ∧ s5 ≤ 255) (m0 : HP 40 (0 : Int) (0 : Int) M) (m1 : HP 178 (s2) (32 * s3 + s4) M) (m2 : HP 179 (2048 * s0 + s1) (s2) M) (m3 : (0 ≤ (s2) ∧ M 1005 (s2).toNat = (s5))) (f0 : 0 ≤ ((-1) * s5 + 31)) (hG : gI M) : (HP 178 (s2 + 1) (32 * s3 + s4 + 1) M ∧ HP 179 (2048 * s0 + s1) (s2 + 1) M ∧ 0 ≤ ((-1) * s4 + 14) ∧ 0 ≤ ((-1) * s3 + 23) ∧ True) := by
  have hd : M 1005 s2.toNat = s5 := m3.2
  obtain ⟨w1, w2, w3⟩ := kw_o (i := s2) (n := s3) (m := s4) m0 m1 rfl (by omega) (by omega) (by omega) hd
  have hne : wds.getD s2.toNat 0 ≠ 32 := by omega
  have hs := qws_sn hne
  obtain ⟨q1, q2, q3, q4⟩ := qws_n s2.toNat (by omega) hne
  obtain ⟨ks, ke, ki, ⟨ka, kb, kc⟩, kx, ky, kh⟩ := Eq.mp hp_179 m2
  have kes : ks = s0.toNat := by omega
  have kee : ke = s1.toNat := by omega
  have kei : ki = s2.toNat := by omega
  subst kes kee kei
  exact ⟨Eq.mpr hp_178 ⟨s2.toNat + 1, by omega, by omega, by rw [hs]; show _ = 32 * ((qws s2.toNat).1 : Int) + (((qws s2.toNat).2 + 1 : Nat) : Int); omega⟩, Eq.mpr hp_179 ⟨s0.toNat, s1.toNat, s2.toNat + 1, ⟨by omega, by omega, by omega⟩, by omega, by omega, by rw [hs]; exact kh⟩, by omega, by omega, trivial⟩
theorem rul_96 : Rul r_96 := by
  refine ⟨fun _ ρ M hm hB hF hG => ?_, fun gi gv hg => (by cases hg)⟩
  have H := cr_96 M (ρ 0) (ρ 1) (ρ 2) (ρ 3) (ρ 4) (ρ 5) (hB _ List.mem_cons_self) (hB _ (List.mem_cons_of_mem _ List.mem_cons_self)) (hB _ (List.mem_cons_of_mem _ (List.mem_cons_of_mem _ List.mem_cons_self))) (hB _ (List.mem_cons_of_mem _ (List.mem_cons_of_mem _ (List.mem_cons_of_mem _ List.mem_cons_self)))) (hB _ (List.mem_cons_of_mem _ (List.mem_cons_of_mem _ (List.mem_cons_of_mem _ (List.mem_cons_of_mem _ List.mem_cons_self))))) (hB _ (List.mem_cons_of_mem _ (List.mem_cons_of_mem _ (List.mem_cons_of_mem _ (List.mem_cons_of_mem _ (List.mem_cons_of_mem _ List.mem_cons_self)))))) (cvp 40 (x' := (0 : Int)) (y' := (0 : Int)) (by show 0 + 0 = _; omega) (by show 0 + 0 = _; omega) (hm _ List.mem_cons_self)) (cvp 178 (x' := ((ρ 2))) (y' := (32 * (ρ 3) + (ρ 4))) (by show 0 + (1 * ρ 2 + 0) = _; omega) (by show 0 + (32 * ρ 3 + (1 * ρ 4 + 0)) = _; omega) (hm _ (List.mem_cons_of_mem _ List.mem_cons_self))) (cvp 179 (x' := (2048 * (ρ 0) + (ρ 1))) (y' := ((ρ 2))) (by show 0 + (2048 * ρ 0 + (1 * ρ 1 + 0)) = _; omega) (by show 0 + (1 * ρ 2 + 0) = _; omega) (hm _ (List.mem_cons_of_mem _ (List.mem_cons_of_mem _ List.mem_cons_self)))) (cvm (c := 1005) (by decide) (x' := ((ρ 2))) (y' := ((ρ 5))) (by show 0 + (1 * ρ 2 + 0) = _; omega) (by show 0 + (1 * ρ 5 + 0) = _; omega) (hm _ (List.mem_cons_of_mem _ (List.mem_cons_of_mem _ (List.mem_cons_of_mem _ List.mem_cons_self))))) (by have h := hF _ List.mem_cons_self; have h : 0 ≤ 31 + ((-1) * ρ 5 + 0) := h; omega) hG
  obtain ⟨k0, k1, f0, f1, -⟩ := H
  exact ⟨_, List.mem_cons_self, ρ, fun _ _ => rfl, (okM_c (pvp 178 (by show 1 + (1 * ρ 2 + 0) = _; omega) (by show 1 + (32 * ρ 3 + (1 * ρ 4 + 0)) = _; omega) k0) (okM_c (pvp 179 (by show 0 + (2048 * ρ 0 + (1 * ρ 1 + 0)) = _; omega) (by show 1 + (1 * ρ 2 + 0) = _; omega) k1) okM_n)), okB_n, (okF_c (by show 0 ≤ 14 + ((-1) * ρ 4 + 0); omega) (okF_c (by show 0 ≤ 23 + ((-1) * ρ 3 + 0); omega) okF_n))⟩
-- kwa0
theorem cr_97 (M : pM) (s0 s1 s2 s3 s4 s5 s6 : Int) (b0 : 0 ≤ s0 ∧ s0 ≤ 1900) (b1 : 0 ≤ s1 ∧ s1 ≤ 1900) (b2 : 0 ≤ s2 ∧ s2 ≤ 125) (b3 : 0 ≤ s3 ∧ s3 ≤ 24) (b4 : 0 ≤ s4 ∧ s4 ≤ 15) (b5 : 0 ≤ s5 ∧ s5 ≤ 255) (b6 : 0 ≤ s6 ∧ s6 ≤ 255) (m0 : HP 40 (0 : Int) (0 : Int) M) (m1 : HP 178 (s2) (32 * s3 + s4) M) (m2 : HP 180 (2048 * s0 + s1) (s2) M) (m3 : (0 ≤ (s2) ∧ M 1005 (s2).toNat = (s5))) (m4 : (0 ≤ (s0 + s4) ∧ M 1 (s0 + s4).toNat = (s6))) (f0 : 0 ≤ ((-1) * s5 + 31)) (f1 : 0 ≤ (s5 + (-1) * s6)) (f2 : 0 ≤ ((-1) * s5 + s6)) (f3 : 0 ≤ ((-1) * s0 + s1 + (-1) * s4 - 1)) (hG : gI M) : (HP 180 (2048 * s0 + s1) (s2 + 1) M ∧ True) := by
  have hd : M 1005 s2.toNat = s5 := m3.2
  obtain ⟨w1, w2, w3⟩ := kw_o (i := s2) (n := s3) (m := s4) m0 m1 rfl (by omega) (by omega) (by omega) hd
  have hne : wds.getD s2.toNat 0 ≠ 32 := by omega
  have hs := qws_sn hne
  obtain ⟨q1, q2, q3, q4⟩ := qws_n s2.toNat (by omega) hne
  obtain ⟨ks, ke, ki, ⟨ka, kb, kc⟩, kx, ky, kh⟩ := Eq.mp hp_180 m2
  have kes : ks = s0.toNat := by omega
  have kee : ke = s1.toNat := by omega
  have kei : ki = s2.toNat := by omega
  subst kes kee kei
  obtain ⟨kh, kj⟩ := kh
  have hr := rd1 m4 (by omega)
  refine ⟨Eq.mpr hp_180 ⟨s0.toNat, s1.toNat, s2.toNat + 1, ⟨by omega, by omega, by omega⟩, by omega, by omega, ?_⟩, trivial⟩
  rw [hs]
  refine ⟨by show (qws s2.toNat).2 + 1 ≤ _; omega, fun j hj => ?_⟩
  show _ = (kws.getD (qws s2.toNat).1 []).getD j 0
  have hj : j < (qws s2.toNat).2 + 1 := hj
  by_cases e : j = (qws s2.toNat).2
  · rw [e, q3, w1, show s0.toNat + (qws s2.toNat).2 = (s0 + s4).toNat by omega]
    first | (rw [hr]; omega) | (rw [show (s0 + s4).toNat = (s4 + s0).toNat by omega, hr]; omega)
  · exact kj j (by omega)
theorem rul_97 : Rul r_97 := by
  refine ⟨fun _ ρ M hm hB hF hG => ?_, fun gi gv hg => (by cases hg)⟩
  have H := cr_97 M (ρ 0) (ρ 1) (ρ 2) (ρ 3) (ρ 4) (ρ 5) (ρ 6) (hB _ List.mem_cons_self) (hB _ (List.mem_cons_of_mem _ List.mem_cons_self)) (hB _ (List.mem_cons_of_mem _ (List.mem_cons_of_mem _ List.mem_cons_self))) (hB _ (List.mem_cons_of_mem _ (List.mem_cons_of_mem _ (List.mem_cons_of_mem _ List.mem_cons_self)))) (hB _ (List.mem_cons_of_mem _ (List.mem_cons_of_mem _ (List.mem_cons_of_mem _ (List.mem_cons_of_mem _ List.mem_cons_self))))) (hB _ (List.mem_cons_of_mem _ (List.mem_cons_of_mem _ (List.mem_cons_of_mem _ (List.mem_cons_of_mem _ (List.mem_cons_of_mem _ List.mem_cons_self)))))) (hB _ (List.mem_cons_of_mem _ (List.mem_cons_of_mem _ (List.mem_cons_of_mem _ (List.mem_cons_of_mem _ (List.mem_cons_of_mem _ (List.mem_cons_of_mem _ List.mem_cons_self))))))) (cvp 40 (x' := (0 : Int)) (y' := (0 : Int)) (by show 0 + 0 = _; omega) (by show 0 + 0 = _; omega) (hm _ List.mem_cons_self)) (cvp 178 (x' := ((ρ 2))) (y' := (32 * (ρ 3) + (ρ 4))) (by show 0 + (1 * ρ 2 + 0) = _; omega) (by show 0 + (32 * ρ 3 + (1 * ρ 4 + 0)) = _; omega) (hm _ (List.mem_cons_of_mem _ List.mem_cons_self))) (cvp 180 (x' := (2048 * (ρ 0) + (ρ 1))) (y' := ((ρ 2))) (by show 0 + (2048 * ρ 0 + (1 * ρ 1 + 0)) = _; omega) (by show 0 + (1 * ρ 2 + 0) = _; omega) (hm _ (List.mem_cons_of_mem _ (List.mem_cons_of_mem _ List.mem_cons_self)))) (cvm (c := 1005) (by decide) (x' := ((ρ 2))) (y' := ((ρ 5))) (by show 0 + (1 * ρ 2 + 0) = _; omega) (by show 0 + (1 * ρ 5 + 0) = _; omega) (hm _ (List.mem_cons_of_mem _ (List.mem_cons_of_mem _ (List.mem_cons_of_mem _ List.mem_cons_self))))) (cvm (c := 1) (by decide) (x' := ((ρ 0) + (ρ 4))) (y' := ((ρ 6))) (by show 0 + (1 * ρ 0 + (1 * ρ 4 + 0)) = _; omega) (by show 0 + (1 * ρ 6 + 0) = _; omega) (hm _ (List.mem_cons_of_mem _ (List.mem_cons_of_mem _ (List.mem_cons_of_mem _ (List.mem_cons_of_mem _ List.mem_cons_self)))))) (by have h := hF _ List.mem_cons_self; have h : 0 ≤ 31 + ((-1) * ρ 5 + 0) := h; omega) (by have h := hF _ (List.mem_cons_of_mem _ List.mem_cons_self); have h : 0 ≤ 0 + (1 * ρ 5 + ((-1) * ρ 6 + 0)) := h; omega) (by have h := hF _ (List.mem_cons_of_mem _ (List.mem_cons_of_mem _ List.mem_cons_self)); have h : 0 ≤ 0 + ((-1) * ρ 5 + (1 * ρ 6 + 0)) := h; omega) (by have h := hF _ (List.mem_cons_of_mem _ (List.mem_cons_of_mem _ (List.mem_cons_of_mem _ List.mem_cons_self))); have h : 0 ≤ (-1) + ((-1) * ρ 0 + (1 * ρ 1 + ((-1) * ρ 4 + 0))) := h; omega) hG
  obtain ⟨k0, -⟩ := H
  exact ⟨_, List.mem_cons_self, ρ, fun _ _ => rfl, (okM_c (pvp 180 (by show 0 + (2048 * ρ 0 + (1 * ρ 1 + 0)) = _; omega) (by show 1 + (1 * ρ 2 + 0) = _; omega) k0) okM_n), okB_n, okF_n⟩
-- kwb0_0
theorem cr_98 (M : pM) (s0 s1 s2 s3 s4 s5 s6 : Int) (b0 : 0 ≤ s0 ∧ s0 ≤ 1900) (b1 : 0 ≤ s1 ∧ s1 ≤ 1900) (b2 : 0 ≤ s2 ∧ s2 ≤ 125) (b3 : 0 ≤ s3 ∧ s3 ≤ 24) (b4 : 0 ≤ s4 ∧ s4 ≤ 15) (b5 : 0 ≤ s5 ∧ s5 ≤ 255) (b6 : 0 ≤ s6 ∧ s6 ≤ 255) (m0 : HP 40 (0 : Int) (0 : Int) M) (m1 : HP 178 (s2) (32 * s3 + s4) M) (m2 : (0 ≤ (s2) ∧ M 1005 (s2).toNat = (s5))) (m3 : (0 ≤ (s0 + s4) ∧ M 1 (s0 + s4).toNat = (s6))) (f0 : 0 ≤ ((-1) * s5 + 31)) (f1 : 0 ≤ (s5 + (-1) * s6 - 1)) (f2 : 0 ≤ ((-1) * s0 + s1 + (-1) * s4 - 1)) (hG : gI M) : (HP 181 (2048 * s0 + s1) (s2 + 1) M ∧ True) := by
  have hd : M 1005 s2.toNat = s5 := m2.2
  obtain ⟨w1, w2, w3⟩ := kw_o (i := s2) (n := s3) (m := s4) m0 m1 rfl (by omega) (by omega) (by omega) hd
  have hne : wds.getD s2.toNat 0 ≠ 32 := by omega
  have hs := qws_sn hne
  obtain ⟨q1, q2, q3, q4⟩ := qws_n s2.toNat (by omega) hne
  have hr := rd1 m3 (by omega)
  refine ⟨Eq.mpr hp_181 ⟨s0.toNat, s1.toNat, s2.toNat + 1, ⟨by omega, by omega, by omega⟩, by omega, by omega, fun hb => ?_⟩, trivial⟩
  rw [hs] at hb
  have hb : bts (tm M) s0.toNat (s1.toNat - s0.toNat) = kws.getD (qws s2.toNat).1 [] := hb
  have h1 := bts_at (N := tm M) (s := s0.toNat) (k := s1.toNat - s0.toNat) (j := (qws s2.toNat).2) (by omega)
  rw [hb, q3, w1, show s0.toNat + (qws s2.toNat).2 = (s0 + s4).toNat by omega] at h1
  first | (rw [hr] at h1; omega) | (rw [show (s0 + s4).toNat = (s4 + s0).toNat by omega, hr] at h1; omega)
theorem rul_98 : Rul r_98 := by
  refine ⟨fun _ ρ M hm hB hF hG => ?_, fun gi gv hg => (by cases hg)⟩
  have H := cr_98 M (ρ 0) (ρ 1) (ρ 2) (ρ 3) (ρ 4) (ρ 5) (ρ 6) (hB _ List.mem_cons_self) (hB _ (List.mem_cons_of_mem _ List.mem_cons_self)) (hB _ (List.mem_cons_of_mem _ (List.mem_cons_of_mem _ List.mem_cons_self))) (hB _ (List.mem_cons_of_mem _ (List.mem_cons_of_mem _ (List.mem_cons_of_mem _ List.mem_cons_self)))) (hB _ (List.mem_cons_of_mem _ (List.mem_cons_of_mem _ (List.mem_cons_of_mem _ (List.mem_cons_of_mem _ List.mem_cons_self))))) (hB _ (List.mem_cons_of_mem _ (List.mem_cons_of_mem _ (List.mem_cons_of_mem _ (List.mem_cons_of_mem _ (List.mem_cons_of_mem _ List.mem_cons_self)))))) (hB _ (List.mem_cons_of_mem _ (List.mem_cons_of_mem _ (List.mem_cons_of_mem _ (List.mem_cons_of_mem _ (List.mem_cons_of_mem _ (List.mem_cons_of_mem _ List.mem_cons_self))))))) (cvp 40 (x' := (0 : Int)) (y' := (0 : Int)) (by show 0 + 0 = _; omega) (by show 0 + 0 = _; omega) (hm _ List.mem_cons_self)) (cvp 178 (x' := ((ρ 2))) (y' := (32 * (ρ 3) + (ρ 4))) (by show 0 + (1 * ρ 2 + 0) = _; omega) (by show 0 + (32 * ρ 3 + (1 * ρ 4 + 0)) = _; omega) (hm _ (List.mem_cons_of_mem _ List.mem_cons_self))) (cvm (c := 1005) (by decide) (x' := ((ρ 2))) (y' := ((ρ 5))) (by show 0 + (1 * ρ 2 + 0) = _; omega) (by show 0 + (1 * ρ 5 + 0) = _; omega) (hm _ (List.mem_cons_of_mem _ (List.mem_cons_of_mem _ List.mem_cons_self)))) (cvm (c := 1) (by decide) (x' := ((ρ 0) + (ρ 4))) (y' := ((ρ 6))) (by show 0 + (1 * ρ 0 + (1 * ρ 4 + 0)) = _; omega) (by show 0 + (1 * ρ 6 + 0) = _; omega) (hm _ (List.mem_cons_of_mem _ (List.mem_cons_of_mem _ (List.mem_cons_of_mem _ List.mem_cons_self))))) (by have h := hF _ List.mem_cons_self; have h : 0 ≤ 31 + ((-1) * ρ 5 + 0) := h; omega) (by have h := hF _ (List.mem_cons_of_mem _ List.mem_cons_self); have h : 0 ≤ (-1) + (1 * ρ 5 + ((-1) * ρ 6 + 0)) := h; omega) (by have h := hF _ (List.mem_cons_of_mem _ (List.mem_cons_of_mem _ List.mem_cons_self)); have h : 0 ≤ (-1) + ((-1) * ρ 0 + (1 * ρ 1 + ((-1) * ρ 4 + 0))) := h; omega) hG
  obtain ⟨k0, -⟩ := H
  exact ⟨_, List.mem_cons_self, ρ, fun _ _ => rfl, (okM_c (pvp 181 (by show 0 + (2048 * ρ 0 + (1 * ρ 1 + 0)) = _; omega) (by show 1 + (1 * ρ 2 + 0) = _; omega) k0) okM_n), okB_n, okF_n⟩
-- kwb0_1
theorem cr_99 (M : pM) (s0 s1 s2 s3 s4 s5 s6 : Int) (b0 : 0 ≤ s0 ∧ s0 ≤ 1900) (b1 : 0 ≤ s1 ∧ s1 ≤ 1900) (b2 : 0 ≤ s2 ∧ s2 ≤ 125) (b3 : 0 ≤ s3 ∧ s3 ≤ 24) (b4 : 0 ≤ s4 ∧ s4 ≤ 15) (b5 : 0 ≤ s5 ∧ s5 ≤ 255) (b6 : 0 ≤ s6 ∧ s6 ≤ 255) (m0 : HP 40 (0 : Int) (0 : Int) M) (m1 : HP 178 (s2) (32 * s3 + s4) M) (m2 : (0 ≤ (s2) ∧ M 1005 (s2).toNat = (s5))) (m3 : (0 ≤ (s0 + s4) ∧ M 1 (s0 + s4).toNat = (s6))) (f0 : 0 ≤ ((-1) * s5 + 31)) (f1 : 0 ≤ ((-1) * s5 + s6 - 1)) (f2 : 0 ≤ ((-1) * s0 + s1 + (-1) * s4 - 1)) (hG : gI M) : (HP 181 (2048 * s0 + s1) (s2 + 1) M ∧ True) := by
  have hd : M 1005 s2.toNat = s5 := m2.2
  obtain ⟨w1, w2, w3⟩ := kw_o (i := s2) (n := s3) (m := s4) m0 m1 rfl (by omega) (by omega) (by omega) hd
  have hne : wds.getD s2.toNat 0 ≠ 32 := by omega
  have hs := qws_sn hne
  obtain ⟨q1, q2, q3, q4⟩ := qws_n s2.toNat (by omega) hne
  have hr := rd1 m3 (by omega)
  refine ⟨Eq.mpr hp_181 ⟨s0.toNat, s1.toNat, s2.toNat + 1, ⟨by omega, by omega, by omega⟩, by omega, by omega, fun hb => ?_⟩, trivial⟩
  rw [hs] at hb
  have hb : bts (tm M) s0.toNat (s1.toNat - s0.toNat) = kws.getD (qws s2.toNat).1 [] := hb
  have h1 := bts_at (N := tm M) (s := s0.toNat) (k := s1.toNat - s0.toNat) (j := (qws s2.toNat).2) (by omega)
  rw [hb, q3, w1, show s0.toNat + (qws s2.toNat).2 = (s0 + s4).toNat by omega] at h1
  first | (rw [hr] at h1; omega) | (rw [show (s0 + s4).toNat = (s4 + s0).toNat by omega, hr] at h1; omega)
theorem rul_99 : Rul r_99 := by
  refine ⟨fun _ ρ M hm hB hF hG => ?_, fun gi gv hg => (by cases hg)⟩
  have H := cr_99 M (ρ 0) (ρ 1) (ρ 2) (ρ 3) (ρ 4) (ρ 5) (ρ 6) (hB _ List.mem_cons_self) (hB _ (List.mem_cons_of_mem _ List.mem_cons_self)) (hB _ (List.mem_cons_of_mem _ (List.mem_cons_of_mem _ List.mem_cons_self))) (hB _ (List.mem_cons_of_mem _ (List.mem_cons_of_mem _ (List.mem_cons_of_mem _ List.mem_cons_self)))) (hB _ (List.mem_cons_of_mem _ (List.mem_cons_of_mem _ (List.mem_cons_of_mem _ (List.mem_cons_of_mem _ List.mem_cons_self))))) (hB _ (List.mem_cons_of_mem _ (List.mem_cons_of_mem _ (List.mem_cons_of_mem _ (List.mem_cons_of_mem _ (List.mem_cons_of_mem _ List.mem_cons_self)))))) (hB _ (List.mem_cons_of_mem _ (List.mem_cons_of_mem _ (List.mem_cons_of_mem _ (List.mem_cons_of_mem _ (List.mem_cons_of_mem _ (List.mem_cons_of_mem _ List.mem_cons_self))))))) (cvp 40 (x' := (0 : Int)) (y' := (0 : Int)) (by show 0 + 0 = _; omega) (by show 0 + 0 = _; omega) (hm _ List.mem_cons_self)) (cvp 178 (x' := ((ρ 2))) (y' := (32 * (ρ 3) + (ρ 4))) (by show 0 + (1 * ρ 2 + 0) = _; omega) (by show 0 + (32 * ρ 3 + (1 * ρ 4 + 0)) = _; omega) (hm _ (List.mem_cons_of_mem _ List.mem_cons_self))) (cvm (c := 1005) (by decide) (x' := ((ρ 2))) (y' := ((ρ 5))) (by show 0 + (1 * ρ 2 + 0) = _; omega) (by show 0 + (1 * ρ 5 + 0) = _; omega) (hm _ (List.mem_cons_of_mem _ (List.mem_cons_of_mem _ List.mem_cons_self)))) (cvm (c := 1) (by decide) (x' := ((ρ 0) + (ρ 4))) (y' := ((ρ 6))) (by show 0 + (1 * ρ 0 + (1 * ρ 4 + 0)) = _; omega) (by show 0 + (1 * ρ 6 + 0) = _; omega) (hm _ (List.mem_cons_of_mem _ (List.mem_cons_of_mem _ (List.mem_cons_of_mem _ List.mem_cons_self))))) (by have h := hF _ List.mem_cons_self; have h : 0 ≤ 31 + ((-1) * ρ 5 + 0) := h; omega) (by have h := hF _ (List.mem_cons_of_mem _ List.mem_cons_self); have h : 0 ≤ (-1) + ((-1) * ρ 5 + (1 * ρ 6 + 0)) := h; omega) (by have h := hF _ (List.mem_cons_of_mem _ (List.mem_cons_of_mem _ List.mem_cons_self)); have h : 0 ≤ (-1) + ((-1) * ρ 0 + (1 * ρ 1 + ((-1) * ρ 4 + 0))) := h; omega) hG
  obtain ⟨k0, -⟩ := H
  exact ⟨_, List.mem_cons_self, ρ, fun _ _ => rfl, (okM_c (pvp 181 (by show 0 + (2048 * ρ 0 + (1 * ρ 1 + 0)) = _; omega) (by show 1 + (1 * ρ 2 + 0) = _; omega) k0) okM_n), okB_n, okF_n⟩
