-- and255
theorem cr_1000 (M : pM) (s0 s1 : Int) (b0 : (-2147483648) ≤ s0 ∧ s0 ≤ 2147483647) (b1 : (-2147483648) ≤ s1 ∧ s1 ≤ 2147483647) (m0 : HP 100 (4294967296 * s0 + 255) (s1) M) (hG : gI M) : (0 ≤ (s1) ∧ 0 ≤ ((-1) * s1 + 255) ∧ True) := by
  have e := n_and (a := s0) (b := 255) m0 (by omega) (by unfold r32; omega)
  have h := and255_bd s0
  rw [← e] at h
  exact ⟨by omega, by omega, trivial⟩
theorem rul_1000 : Rul r_1000 := by
  refine ⟨fun _ ρ M hm hB hF hG => ?_, fun gi gv hg => (by cases hg)⟩
  have H := cr_1000 M (ρ 0) (ρ 1) (hB _ List.mem_cons_self) (hB _ (List.mem_cons_of_mem _ List.mem_cons_self)) (cvp 100 (x' := (4294967296 * (ρ 0) + 255)) (y' := ((ρ 1))) (by show 255 + (4294967296 * ρ 0 + 0) = _; omega) (by show 0 + (1 * ρ 1 + 0) = _; omega) (hm _ List.mem_cons_self)) hG
  obtain ⟨f0, f1, -⟩ := H
  exact ⟨_, List.mem_cons_self, ρ, fun _ _ => rfl, okM_n, okB_n, (okF_c (by show 0 ≤ 0 + (1 * ρ 1 + 0); omega) (okF_c (by show 0 ≤ 255 + ((-1) * ρ 1 + 0); omega) okF_n))⟩
-- i2bf
theorem cr_1001 (M : pM) (s0 s1 : Int) (b0 : (-2147483648) ≤ s0 ∧ s0 ≤ 2147483647) (b1 : (-2147483648) ≤ s1 ∧ s1 ≤ 2147483647) (m0 : HP 120 (s0) (s1) M) (hG : gI M) : (0 ≤ (s1 + 128) ∧ 0 ≤ ((-1) * s1 + 127) ∧ True) := by
  have e := n_i2b m0
  unfold w8 at e
  exact ⟨by omega, by omega, trivial⟩
theorem rul_1001 : Rul r_1001 := by
  refine ⟨fun _ ρ M hm hB hF hG => ?_, fun gi gv hg => (by cases hg)⟩
  have H := cr_1001 M (ρ 0) (ρ 1) (hB _ List.mem_cons_self) (hB _ (List.mem_cons_of_mem _ List.mem_cons_self)) (cvp 120 (x' := ((ρ 0))) (y' := ((ρ 1))) (by show 0 + (1 * ρ 0 + 0) = _; omega) (by show 0 + (1 * ρ 1 + 0) = _; omega) (hm _ List.mem_cons_self)) hG
  obtain ⟨f0, f1, -⟩ := H
  exact ⟨_, List.mem_cons_self, ρ, fun _ _ => rfl, okM_n, okB_n, (okF_c (by show 0 ≤ 128 + (1 * ρ 1 + 0); omega) (okF_c (by show 0 ≤ 127 + ((-1) * ρ 1 + 0); omega) okF_n))⟩
-- and3
theorem cr_1002 (M : pM) (s0 s1 : Int) (b0 : 0 ≤ s0 ∧ s0 ≤ 19) (b1 : (-2147483648) ≤ s1 ∧ s1 ≤ 2147483647) (m0 : HP 100 (4294967296 * s0 + 3) (s1) M) (hG : gI M) : (0 ≤ (s0) ∧ 0 ≤ ((-1) * s0 + 3) ∧ 0 ≤ (s0 + (-1) * s1) ∧ 0 ≤ ((-1) * s0 + s1) ∧ True) ∨ (0 ≤ (s0 - 4) ∧ 0 ≤ ((-1) * s0 + 7) ∧ 0 ≤ (s0 + (-1) * s1 - 4) ∧ 0 ≤ ((-1) * s0 + s1 + 4) ∧ True) ∨ (0 ≤ (s0 - 8) ∧ 0 ≤ ((-1) * s0 + 11) ∧ 0 ≤ (s0 + (-1) * s1 - 8) ∧ 0 ≤ ((-1) * s0 + s1 + 8) ∧ True) ∨ (0 ≤ (s0 - 12) ∧ 0 ≤ ((-1) * s0 + 15) ∧ 0 ≤ (s0 + (-1) * s1 - 12) ∧ 0 ≤ ((-1) * s0 + s1 + 12) ∧ True) ∨ (0 ≤ (s0 - 16) ∧ 0 ≤ ((-1) * s0 + 19) ∧ 0 ≤ (s0 + (-1) * s1 - 16) ∧ 0 ≤ ((-1) * s0 + s1 + 16) ∧ True) := by
  have e := n_and (a := s0) (b := 3) m0 (by omega) (by unfold r32; omega)
  have h : s1 = s0 - 4 * (s0 / 4) := by
    have hk := (by decide +kernel : ∀ k : Nat, k < 20 → (Int32.ofInt (k : Nat) &&& Int32.ofInt 3).toInt = (k : Int) - 4 * ((k : Int) / 4)) s0.toNat (by omega)
    rw [show ((s0.toNat : Nat) : Int) = s0 by omega] at hk
    rw [e]; exact hk
  have hq : s0 / 4 = 0 ∨ s0 / 4 = 1 ∨ s0 / 4 = 2 ∨ s0 / 4 = 3 ∨ s0 / 4 = 4 := by omega
  rcases hq with q | q | q | q | q
  · exact Or.inl ⟨by omega, by omega, by omega, by omega, trivial⟩
  · exact Or.inr (Or.inl ⟨by omega, by omega, by omega, by omega, trivial⟩)
  · exact Or.inr (Or.inr (Or.inl ⟨by omega, by omega, by omega, by omega, trivial⟩))
  · exact Or.inr (Or.inr (Or.inr (Or.inl ⟨by omega, by omega, by omega, by omega, trivial⟩)))
  · exact Or.inr (Or.inr (Or.inr (Or.inr (⟨by omega, by omega, by omega, by omega, trivial⟩))))
theorem rul_1002 : Rul r_1002 := by
  refine ⟨fun _ ρ M hm hB hF hG => ?_, fun gi gv hg => (by cases hg)⟩
  have H := cr_1002 M (ρ 0) (ρ 1) (hB _ List.mem_cons_self) (hB _ (List.mem_cons_of_mem _ List.mem_cons_self)) (cvp 100 (x' := (4294967296 * (ρ 0) + 3)) (y' := ((ρ 1))) (by show 3 + (4294967296 * ρ 0 + 0) = _; omega) (by show 0 + (1 * ρ 1 + 0) = _; omega) (hm _ List.mem_cons_self)) hG
  rcases H with H | H
  · skip
    obtain ⟨f0, f1, f2, f3, -⟩ := H
    exact ⟨_, List.mem_cons_self, ρ, fun _ _ => rfl, okM_n, okB_n, (okF_c (by show 0 ≤ 0 + (1 * ρ 0 + 0); omega) (okF_c (by show 0 ≤ 3 + ((-1) * ρ 0 + 0); omega) (okF_c (by show 0 ≤ 0 + (1 * ρ 0 + ((-1) * ρ 1 + 0)); omega) (okF_c (by show 0 ≤ 0 + ((-1) * ρ 0 + (1 * ρ 1 + 0)); omega) okF_n))))⟩
  rcases H with H | H
  · skip
    obtain ⟨f0, f1, f2, f3, -⟩ := H
    exact ⟨_, (List.mem_cons_of_mem _ List.mem_cons_self), ρ, fun _ _ => rfl, okM_n, okB_n, (okF_c (by show 0 ≤ (-4) + (1 * ρ 0 + 0); omega) (okF_c (by show 0 ≤ 7 + ((-1) * ρ 0 + 0); omega) (okF_c (by show 0 ≤ (-4) + (1 * ρ 0 + ((-1) * ρ 1 + 0)); omega) (okF_c (by show 0 ≤ 4 + ((-1) * ρ 0 + (1 * ρ 1 + 0)); omega) okF_n))))⟩
  rcases H with H | H
  · skip
    obtain ⟨f0, f1, f2, f3, -⟩ := H
    exact ⟨_, (List.mem_cons_of_mem _ (List.mem_cons_of_mem _ List.mem_cons_self)), ρ, fun _ _ => rfl, okM_n, okB_n, (okF_c (by show 0 ≤ (-8) + (1 * ρ 0 + 0); omega) (okF_c (by show 0 ≤ 11 + ((-1) * ρ 0 + 0); omega) (okF_c (by show 0 ≤ (-8) + (1 * ρ 0 + ((-1) * ρ 1 + 0)); omega) (okF_c (by show 0 ≤ 8 + ((-1) * ρ 0 + (1 * ρ 1 + 0)); omega) okF_n))))⟩
  rcases H with H | H
  · skip
    obtain ⟨f0, f1, f2, f3, -⟩ := H
    exact ⟨_, (List.mem_cons_of_mem _ (List.mem_cons_of_mem _ (List.mem_cons_of_mem _ List.mem_cons_self))), ρ, fun _ _ => rfl, okM_n, okB_n, (okF_c (by show 0 ≤ (-12) + (1 * ρ 0 + 0); omega) (okF_c (by show 0 ≤ 15 + ((-1) * ρ 0 + 0); omega) (okF_c (by show 0 ≤ (-12) + (1 * ρ 0 + ((-1) * ρ 1 + 0)); omega) (okF_c (by show 0 ≤ 12 + ((-1) * ρ 0 + (1 * ρ 1 + 0)); omega) okF_n))))⟩
  · skip
    obtain ⟨f0, f1, f2, f3, -⟩ := H
    exact ⟨_, (List.mem_cons_of_mem _ (List.mem_cons_of_mem _ (List.mem_cons_of_mem _ (List.mem_cons_of_mem _ List.mem_cons_self)))), ρ, fun _ _ => rfl, okM_n, okB_n, (okF_c (by show 0 ≤ (-16) + (1 * ρ 0 + 0); omega) (okF_c (by show 0 ≤ 19 + ((-1) * ρ 0 + 0); omega) (okF_c (by show 0 ≤ (-16) + (1 * ρ 0 + ((-1) * ρ 1 + 0)); omega) (okF_c (by show 0 ≤ 16 + ((-1) * ρ 0 + (1 * ρ 1 + 0)); omega) okF_n))))⟩
-- fdw
theorem cr_1003 (M : pM) (s0 s1 s2 s3 s4 s5 s6 s7 : Int) (b0 : 0 ≤ s0 ∧ s0 ≤ 1900) (b1 : 0 ≤ s1 ∧ s1 ≤ 4) (b3 : 0 ≤ s3 ∧ s3 ≤ 1900) (b4 : 0 ≤ s4 ∧ s4 ≤ 3) (b5 : (-2147483648) ≤ s5 ∧ s5 ≤ 2147483647) (b6 : (-2147483648) ≤ s6 ∧ s6 ≤ 2147483647) (b7 : 0 ≤ s7 ∧ s7 ≤ 255) (m0 : HP 96 (8 * s3 + s4) (s5) M) (m1 : HP 97 (8 * s0 + s1) (s2) M) (m2 : HP 41 (s0) (0 : Int) M) (m3 : HP 105 ((-8) * s4 + 4294967296 * s5 + 24) (s6) M) (m4 : HP 100 (4294967296 * s6 + 255) (s7) M) (f0 : 0 ≤ (s0 + 4 * s1 + (-1) * s3)) (f1 : 0 ≤ ((-1) * s0 + (-4) * s1 + s3)) (hG : gI M) : (HP 96 (8 * s3 + s4 + 1) (s5) (st M 1 (s3 + s4).toNat (s7)) ∧ HP 97 (8 * s0 + s1) (s2) (st M 1 (s3 + s4).toNat (s7)) ∧ HP 41 (s0) (0 : Int) (st M 1 (s3 + s4).toNat (s7)) ∧ True) := by
  obtain ⟨p, gg, h1, h2, h3, h4⟩ := Eq.mp hp_96 m0
  obtain ⟨x, k, k1, k2, k3, k4⟩ := Eq.mp hp_97 m1
  obtain ⟨t1, t2, t3⟩ := Eq.mp hp_41 m2
  have eg : gg = s4.toNat := by omega
  have ep : p = s3.toNat := by omega
  have ex : x = s0.toNat := by omega
  have ek : k = s1.toNat := by omega
  have b1 := n_ushr (a := s5) (b := 24 - 8 * (gg : Int)) m3 (by omega) (by unfold r32; omega)
  have b2 := n_and (a := s6) (b := 255) m4 (by omega) (by unfold r32; omega)
  have hz : s7 = qby s5 gg := by rw [b2, b1]; rfl
  have hn : ∀ j : Nat, j ≠ (s3 + s4).toNat → st M 1 (s3 + s4).toNat (s7) 1 j = M 1 j := fun j hj => if_neg (fun h => hj h.2)
  refine ⟨Eq.mpr hp_96 ⟨p, gg + 1, h1, by omega, by omega, fun j hj => ?_⟩, Eq.mpr hp_97 ⟨x, k, k1, k2, k3, qfd_n (fun i hi => hn i (by omega)) k4⟩, Eq.mpr hp_41 ⟨t1, t2, fun i hi => ?_⟩, trivial⟩
  · by_cases e : j = gg
    · rw [e, show (s3 + s4).toNat = p + gg by omega, cw0, if_pos rfl]; exact hz
    · rw [hn _ (by omega)]; exact h4 j (by omega)
  · rw [hn _ (by omega), show st M 1 (s3 + s4).toNat (s7) 62 i = M 62 i from if_neg (fun h => absurd h.1 (by decide))]; exact t3 i hi
theorem rul_1003 : Rul r_1003 := by
  refine ⟨fun h => (by cases h), fun gi gv hg ρ M hm hB hF hG => ?_⟩
  obtain ⟨g1, g2⟩ := List.cons.inj (show ([aI ((0 : Int), ([(3, 1), (4, 1)] : List (Nat × Int))), aI ((0 : Int), ([(7, 1)] : List (Nat × Int)))] : List av) = [.inl gi, .inl gv] from hg)
  obtain ⟨g2, -⟩ := List.cons.inj g2
  cases g1
  cases g2
  have ei : ev ρ ((0 : Int), ([(3, 1), (4, 1)] : List (Nat × Int))) = ((ρ 3) + (ρ 4)) := by show 0 + (1 * ρ 3 + (1 * ρ 4 + 0)) = _; omega
  have ew : ev ρ ((0 : Int), ([(7, 1)] : List (Nat × Int))) = ((ρ 7)) := by show 0 + (1 * ρ 7 + 0) = _; omega
  rw [show (st M (ctj r_1003) (ev ρ ((0 : Int), ([(3, 1), (4, 1)] : List (Nat × Int)))).toNat (ev ρ ((0 : Int), ([(7, 1)] : List (Nat × Int))))) = (st M 1 ((ρ 3) + (ρ 4)).toNat ((ρ 7))) from by rw [ei, ew]; rfl]
  have H := cr_1003 M (ρ 0) (ρ 1) (ρ 2) (ρ 3) (ρ 4) (ρ 5) (ρ 6) (ρ 7) (hB _ List.mem_cons_self) (hB _ (List.mem_cons_of_mem _ List.mem_cons_self)) (hB _ (List.mem_cons_of_mem _ (List.mem_cons_of_mem _ List.mem_cons_self))) (hB _ (List.mem_cons_of_mem _ (List.mem_cons_of_mem _ (List.mem_cons_of_mem _ List.mem_cons_self)))) (hB _ (List.mem_cons_of_mem _ (List.mem_cons_of_mem _ (List.mem_cons_of_mem _ (List.mem_cons_of_mem _ List.mem_cons_self))))) (hB _ (List.mem_cons_of_mem _ (List.mem_cons_of_mem _ (List.mem_cons_of_mem _ (List.mem_cons_of_mem _ (List.mem_cons_of_mem _ List.mem_cons_self)))))) (hB _ (List.mem_cons_of_mem _ (List.mem_cons_of_mem _ (List.mem_cons_of_mem _ (List.mem_cons_of_mem _ (List.mem_cons_of_mem _ (List.mem_cons_of_mem _ List.mem_cons_self))))))) (cvp 96 (x' := (8 * (ρ 3) + (ρ 4))) (y' := ((ρ 5))) (by show 0 + (8 * ρ 3 + (1 * ρ 4 + 0)) = _; omega) (by show 0 + (1 * ρ 5 + 0) = _; omega) (hm _ List.mem_cons_self)) (cvp 97 (x' := (8 * (ρ 0) + (ρ 1))) (y' := ((ρ 2))) (by show 0 + (8 * ρ 0 + (1 * ρ 1 + 0)) = _; omega) (by show 0 + (1 * ρ 2 + 0) = _; omega) (hm _ (List.mem_cons_of_mem _ List.mem_cons_self))) (cvp 41 (x' := ((ρ 0))) (y' := (0 : Int)) (by show 0 + (1 * ρ 0 + 0) = _; omega) (by show 0 + 0 = _; omega) (hm _ (List.mem_cons_of_mem _ (List.mem_cons_of_mem _ List.mem_cons_self)))) (cvp 105 (x' := ((-8) * (ρ 4) + 4294967296 * (ρ 5) + 24)) (y' := ((ρ 6))) (by show 24 + ((-8) * ρ 4 + (4294967296 * ρ 5 + 0)) = _; omega) (by show 0 + (1 * ρ 6 + 0) = _; omega) (hm _ (List.mem_cons_of_mem _ (List.mem_cons_of_mem _ (List.mem_cons_of_mem _ List.mem_cons_self))))) (cvp 100 (x' := (4294967296 * (ρ 6) + 255)) (y' := ((ρ 7))) (by show 255 + (4294967296 * ρ 6 + 0) = _; omega) (by show 0 + (1 * ρ 7 + 0) = _; omega) (hm _ (List.mem_cons_of_mem _ (List.mem_cons_of_mem _ (List.mem_cons_of_mem _ (List.mem_cons_of_mem _ List.mem_cons_self)))))) (by have h := hF _ List.mem_cons_self; have h : 0 ≤ 0 + (1 * ρ 0 + (4 * ρ 1 + ((-1) * ρ 3 + 0))) := h; omega) (by have h := hF _ (List.mem_cons_of_mem _ List.mem_cons_self); have h : 0 ≤ 0 + ((-1) * ρ 0 + ((-4) * ρ 1 + (1 * ρ 3 + 0))) := h; omega) hG
  obtain ⟨k0, k1, k2, -⟩ := H
  exact ⟨_, List.mem_cons_self, ρ, fun _ _ => rfl, (okM_c (pvp 96 (by show 1 + (8 * ρ 3 + (1 * ρ 4 + 0)) = _; omega) (by show 0 + (1 * ρ 5 + 0) = _; omega) k0) (okM_c (pvp 97 (by show 0 + (8 * ρ 0 + (1 * ρ 1 + 0)) = _; omega) (by show 0 + (1 * ρ 2 + 0) = _; omega) k1) (okM_c (pvp 41 (by show 0 + (1 * ρ 0 + 0) = _; omega) (by show 0 + 0 = _; omega) k2) okM_n))), okB_n, okF_n⟩
-- fdx
theorem cr_1004 (M : pM) (s0 s1 s2 s3 s4 s5 : Int) (b0 : 0 ≤ s0 ∧ s0 ≤ 1900) (b1 : 0 ≤ s1 ∧ s1 ≤ 4) (b3 : 0 ≤ s3 ∧ s3 ≤ 1900) (b4 : (-2147483648) ≤ s4 ∧ s4 ≤ 2147483647) (b5 : 0 ≤ s5 ∧ s5 ≤ 4) (m0 : HP 96 (8 * s3 + s5) (s4) M) (m1 : HP 97 (8 * s0 + s1) (s2) M) (f0 : 0 ≤ (s0 + 4 * s1 + (-1) * s3)) (f1 : 0 ≤ ((-1) * s0 + (-4) * s1 + s3)) (f2 : 0 ≤ (s5 - 4)) (hG : gI M) : (HP 97 (8 * s0 + s1 + 1) (4294967296 * s2 + s4) M ∧ True) := by
  obtain ⟨p, gg, h1, h2, h3, h4⟩ := Eq.mp hp_96 m0
  obtain ⟨x, k, k1, k2, k3, k4⟩ := Eq.mp hp_97 m1
  have eg : gg = 4 := by omega
  subst eg
  refine ⟨Eq.mpr hp_97 ⟨x, k + 1, k1, by omega, by omega, ⟨s2, s4, by unfold r32; omega, by omega, k4, fun j hj => by rw [show x + 4 * k + j = p + j by omega]; exact h4 j hj⟩⟩, trivial⟩
theorem rul_1004 : Rul r_1004 := by
  refine ⟨fun _ ρ M hm hB hF hG => ?_, fun gi gv hg => (by cases hg)⟩
  have H := cr_1004 M (ρ 0) (ρ 1) (ρ 2) (ρ 3) (ρ 4) (ρ 5) (hB _ List.mem_cons_self) (hB _ (List.mem_cons_of_mem _ List.mem_cons_self)) (hB _ (List.mem_cons_of_mem _ (List.mem_cons_of_mem _ List.mem_cons_self))) (hB _ (List.mem_cons_of_mem _ (List.mem_cons_of_mem _ (List.mem_cons_of_mem _ List.mem_cons_self)))) (hB _ (List.mem_cons_of_mem _ (List.mem_cons_of_mem _ (List.mem_cons_of_mem _ (List.mem_cons_of_mem _ List.mem_cons_self))))) (cvp 96 (x' := (8 * (ρ 3) + (ρ 5))) (y' := ((ρ 4))) (by show 0 + (8 * ρ 3 + (1 * ρ 5 + 0)) = _; omega) (by show 0 + (1 * ρ 4 + 0) = _; omega) (hm _ List.mem_cons_self)) (cvp 97 (x' := (8 * (ρ 0) + (ρ 1))) (y' := ((ρ 2))) (by show 0 + (8 * ρ 0 + (1 * ρ 1 + 0)) = _; omega) (by show 0 + (1 * ρ 2 + 0) = _; omega) (hm _ (List.mem_cons_of_mem _ List.mem_cons_self))) (by have h := hF _ List.mem_cons_self; have h : 0 ≤ 0 + (1 * ρ 0 + (4 * ρ 1 + ((-1) * ρ 3 + 0))) := h; omega) (by have h := hF _ (List.mem_cons_of_mem _ List.mem_cons_self); have h : 0 ≤ 0 + ((-1) * ρ 0 + ((-4) * ρ 1 + (1 * ρ 3 + 0))) := h; omega) (by have h := hF _ (List.mem_cons_of_mem _ (List.mem_cons_of_mem _ List.mem_cons_self)); have h : 0 ≤ (-4) + (1 * ρ 5 + 0) := h; omega) hG
  obtain ⟨k0, -⟩ := H
  exact ⟨_, List.mem_cons_self, ρ, fun _ _ => rfl, (okM_c (pvp 97 (by show 1 + (8 * ρ 0 + (1 * ρ 1 + 0)) = _; omega) (by show 0 + (4294967296 * ρ 2 + (1 * ρ 4 + 0)) = _; omega) k0) okM_n), okB_n, okF_n⟩
-- txw0
theorem cr_1005 (M : pM) (s0 s1 s2 s3 s4 s5 s6 s7 s8 s9 : Int) (b0 : 0 ≤ s0 ∧ s0 ≤ 1900) (b1 : 0 ≤ s1 ∧ s1 ≤ 3) (b2 : (-2147483648) ≤ s2 ∧ s2 ≤ 2147483647) (b3 : (-2147483648) ≤ s3 ∧ s3 ≤ 2147483647) (b4 : (-2147483648) ≤ s4 ∧ s4 ≤ 2147483647) (b5 : (-2147483648) ≤ s5 ∧ s5 ≤ 2147483647) (b6 : (-2147483648) ≤ s6 ∧ s6 ≤ 2147483647) (b7 : 0 ≤ s7 ∧ s7 ≤ 3) (b8 : (-2147483648) ≤ s8 ∧ s8 ≤ 2147483647) (b9 : (-128) ≤ s9 ∧ s9 ≤ 127) (m0 : HP 97 (8 * s0 + 5) (340282366920938463463374607431768211456 * s2 + 79228162514264337593543950336 * s3 + 18446744073709551616 * s4 + 4294967296 * s5 + s6) M) (m1 : HP 41 (s0 + s1) (0 : Int) M) (m2 : HP 104 (4294967296 * s2 + (-8) * s7 + 24) (s8) M) (m3 : HP 120 (s8) (s9) M) (f0 : 0 ≤ (s1 + (-1) * s7)) (f1 : 0 ≤ ((-1) * s1 + s7)) (hG : gI M) : (HP 41 (s0 + s1 + 1) (0 : Int) (st M 62 (s0 + s1).toNat (s9)) ∧ HP 97 (8 * s0 + 5) (340282366920938463463374607431768211456 * s2 + 79228162514264337593543950336 * s3 + 18446744073709551616 * s4 + 4294967296 * s5 + s6) (st M 62 (s0 + s1).toNat (s9)) ∧ True) := by
  obtain ⟨x, k, k1, k2, k3, k4⟩ := Eq.mp hp_97 m0
  obtain ⟨t1, t2, t3⟩ := Eq.mp hp_41 m1
  have ex : x = s0.toNat := by omega
  have ek : k = 5 := by omega
  subst ek
  have hb := qfd_5 (v0 := s2) (v1 := s3) (v2 := s4) (v3 := s5) (v4 := s6) k4 (by omega) (by unfold r32; omega) (by unfold r32; omega) (by unfold r32; omega) (by unfold r32; omega) (by unfold r32; omega)
  have b1 := n_shr (a := s2) (b := 24 - 8 * ((s7.toNat : Nat) : Int)) m2 (by omega) (by unfold r32; omega)
  have b2 := n_i2b m3
  have hz : s9 = w8 (M 1 (s0 + s1).toNat) := by rw [show (s0 + s1).toNat = x + 4 * 0 + s7.toNat by omega, hb.1 s7.toNat (by omega), b2, b1]; exact by_w8 s7.toNat (by omega)
  have hn : ∀ c j : Nat, c ≠ 62 → st M 62 (s0 + s1).toNat (s9) c j = M c j := fun c j hj => if_neg (fun h => hj h.1)
  refine ⟨Eq.mpr hp_41 ⟨by omega, by omega, fun i hi => ?_⟩, Eq.mpr hp_97 ⟨x, 5, k1, k2, k3, qfd_n (fun i hi => hn 1 i (by decide)) k4⟩, trivial⟩
  rw [hn 1 _ (by decide), cw0]
  by_cases e : i = (s0 + s1).toNat
  · rw [if_pos e, e]; exact hz
  · rw [if_neg e]; exact t3 i (by omega)
theorem rul_1005 : Rul r_1005 := by
  refine ⟨fun h => (by cases h), fun gi gv hg ρ M hm hB hF hG => ?_⟩
  obtain ⟨g1, g2⟩ := List.cons.inj (show ([aI ((0 : Int), ([(0, 1), (1, 1)] : List (Nat × Int))), aI ((0 : Int), ([(9, 1)] : List (Nat × Int)))] : List av) = [.inl gi, .inl gv] from hg)
  obtain ⟨g2, -⟩ := List.cons.inj g2
  cases g1
  cases g2
  have ei : ev ρ ((0 : Int), ([(0, 1), (1, 1)] : List (Nat × Int))) = ((ρ 0) + (ρ 1)) := by show 0 + (1 * ρ 0 + (1 * ρ 1 + 0)) = _; omega
  have ew : ev ρ ((0 : Int), ([(9, 1)] : List (Nat × Int))) = ((ρ 9)) := by show 0 + (1 * ρ 9 + 0) = _; omega
  rw [show (st M (ctj r_1005) (ev ρ ((0 : Int), ([(0, 1), (1, 1)] : List (Nat × Int)))).toNat (ev ρ ((0 : Int), ([(9, 1)] : List (Nat × Int))))) = (st M 62 ((ρ 0) + (ρ 1)).toNat ((ρ 9))) from by rw [ei, ew]; rfl]
  have H := cr_1005 M (ρ 0) (ρ 1) (ρ 2) (ρ 3) (ρ 4) (ρ 5) (ρ 6) (ρ 7) (ρ 8) (ρ 9) (hB _ List.mem_cons_self) (hB _ (List.mem_cons_of_mem _ List.mem_cons_self)) (hB _ (List.mem_cons_of_mem _ (List.mem_cons_of_mem _ List.mem_cons_self))) (hB _ (List.mem_cons_of_mem _ (List.mem_cons_of_mem _ (List.mem_cons_of_mem _ List.mem_cons_self)))) (hB _ (List.mem_cons_of_mem _ (List.mem_cons_of_mem _ (List.mem_cons_of_mem _ (List.mem_cons_of_mem _ List.mem_cons_self))))) (hB _ (List.mem_cons_of_mem _ (List.mem_cons_of_mem _ (List.mem_cons_of_mem _ (List.mem_cons_of_mem _ (List.mem_cons_of_mem _ List.mem_cons_self)))))) (hB _ (List.mem_cons_of_mem _ (List.mem_cons_of_mem _ (List.mem_cons_of_mem _ (List.mem_cons_of_mem _ (List.mem_cons_of_mem _ (List.mem_cons_of_mem _ List.mem_cons_self))))))) (hB _ (List.mem_cons_of_mem _ (List.mem_cons_of_mem _ (List.mem_cons_of_mem _ (List.mem_cons_of_mem _ (List.mem_cons_of_mem _ (List.mem_cons_of_mem _ (List.mem_cons_of_mem _ List.mem_cons_self)))))))) (hB _ (List.mem_cons_of_mem _ (List.mem_cons_of_mem _ (List.mem_cons_of_mem _ (List.mem_cons_of_mem _ (List.mem_cons_of_mem _ (List.mem_cons_of_mem _ (List.mem_cons_of_mem _ (List.mem_cons_of_mem _ List.mem_cons_self))))))))) (hB _ (List.mem_cons_of_mem _ (List.mem_cons_of_mem _ (List.mem_cons_of_mem _ (List.mem_cons_of_mem _ (List.mem_cons_of_mem _ (List.mem_cons_of_mem _ (List.mem_cons_of_mem _ (List.mem_cons_of_mem _ (List.mem_cons_of_mem _ List.mem_cons_self)))))))))) (cvp 97 (x' := (8 * (ρ 0) + 5)) (y' := (340282366920938463463374607431768211456 * (ρ 2) + 79228162514264337593543950336 * (ρ 3) + 18446744073709551616 * (ρ 4) + 4294967296 * (ρ 5) + (ρ 6))) (by show 5 + (8 * ρ 0 + 0) = _; omega) (by show 0 + (340282366920938463463374607431768211456 * ρ 2 + (79228162514264337593543950336 * ρ 3 + (18446744073709551616 * ρ 4 + (4294967296 * ρ 5 + (1 * ρ 6 + 0))))) = _; omega) (hm _ List.mem_cons_self)) (cvp 41 (x' := ((ρ 0) + (ρ 1))) (y' := (0 : Int)) (by show 0 + (1 * ρ 0 + (1 * ρ 1 + 0)) = _; omega) (by show 0 + 0 = _; omega) (hm _ (List.mem_cons_of_mem _ List.mem_cons_self))) (cvp 104 (x' := (4294967296 * (ρ 2) + (-8) * (ρ 7) + 24)) (y' := ((ρ 8))) (by show 24 + (4294967296 * ρ 2 + ((-8) * ρ 7 + 0)) = _; omega) (by show 0 + (1 * ρ 8 + 0) = _; omega) (hm _ (List.mem_cons_of_mem _ (List.mem_cons_of_mem _ List.mem_cons_self)))) (cvp 120 (x' := ((ρ 8))) (y' := ((ρ 9))) (by show 0 + (1 * ρ 8 + 0) = _; omega) (by show 0 + (1 * ρ 9 + 0) = _; omega) (hm _ (List.mem_cons_of_mem _ (List.mem_cons_of_mem _ (List.mem_cons_of_mem _ List.mem_cons_self))))) (by have h := hF _ List.mem_cons_self; have h : 0 ≤ 0 + (1 * ρ 1 + ((-1) * ρ 7 + 0)) := h; omega) (by have h := hF _ (List.mem_cons_of_mem _ List.mem_cons_self); have h : 0 ≤ 0 + ((-1) * ρ 1 + (1 * ρ 7 + 0)) := h; omega) hG
  obtain ⟨k0, k1, -⟩ := H
  exact ⟨_, List.mem_cons_self, ρ, fun _ _ => rfl, (okM_c (pvp 41 (by show 1 + (1 * ρ 0 + (1 * ρ 1 + 0)) = _; omega) (by show 0 + 0 = _; omega) k0) (okM_c (pvp 97 (by show 5 + (8 * ρ 0 + 0) = _; omega) (by show 0 + (340282366920938463463374607431768211456 * ρ 2 + (79228162514264337593543950336 * ρ 3 + (18446744073709551616 * ρ 4 + (4294967296 * ρ 5 + (1 * ρ 6 + 0))))) = _; omega) k1) okM_n)), okB_n, okF_n⟩
-- txw1
theorem cr_1006 (M : pM) (s0 s1 s2 s3 s4 s5 s6 s7 s8 s9 : Int) (b0 : 0 ≤ s0 ∧ s0 ≤ 1900) (b1 : 4 ≤ s1 ∧ s1 ≤ 7) (b2 : (-2147483648) ≤ s2 ∧ s2 ≤ 2147483647) (b3 : (-2147483648) ≤ s3 ∧ s3 ≤ 2147483647) (b4 : (-2147483648) ≤ s4 ∧ s4 ≤ 2147483647) (b5 : (-2147483648) ≤ s5 ∧ s5 ≤ 2147483647) (b6 : (-2147483648) ≤ s6 ∧ s6 ≤ 2147483647) (b7 : 0 ≤ s7 ∧ s7 ≤ 3) (b8 : (-2147483648) ≤ s8 ∧ s8 ≤ 2147483647) (b9 : (-128) ≤ s9 ∧ s9 ≤ 127) (m0 : HP 97 (8 * s0 + 5) (340282366920938463463374607431768211456 * s2 + 79228162514264337593543950336 * s3 + 18446744073709551616 * s4 + 4294967296 * s5 + s6) M) (m1 : HP 41 (s0 + s1) (0 : Int) M) (m2 : HP 104 (4294967296 * s3 + (-8) * s7 + 24) (s8) M) (m3 : HP 120 (s8) (s9) M) (f0 : 0 ≤ (s1 + (-1) * s7 - 4)) (f1 : 0 ≤ ((-1) * s1 + s7 + 4)) (hG : gI M) : (HP 41 (s0 + s1 + 1) (0 : Int) (st M 62 (s0 + s1).toNat (s9)) ∧ HP 97 (8 * s0 + 5) (340282366920938463463374607431768211456 * s2 + 79228162514264337593543950336 * s3 + 18446744073709551616 * s4 + 4294967296 * s5 + s6) (st M 62 (s0 + s1).toNat (s9)) ∧ True) := by
  obtain ⟨x, k, k1, k2, k3, k4⟩ := Eq.mp hp_97 m0
  obtain ⟨t1, t2, t3⟩ := Eq.mp hp_41 m1
  have ex : x = s0.toNat := by omega
  have ek : k = 5 := by omega
  subst ek
  have hb := qfd_5 (v0 := s2) (v1 := s3) (v2 := s4) (v3 := s5) (v4 := s6) k4 (by omega) (by unfold r32; omega) (by unfold r32; omega) (by unfold r32; omega) (by unfold r32; omega) (by unfold r32; omega)
  have b1 := n_shr (a := s3) (b := 24 - 8 * ((s7.toNat : Nat) : Int)) m2 (by omega) (by unfold r32; omega)
  have b2 := n_i2b m3
  have hz : s9 = w8 (M 1 (s0 + s1).toNat) := by rw [show (s0 + s1).toNat = x + 4 * 1 + s7.toNat by omega, hb.2.1 s7.toNat (by omega), b2, b1]; exact by_w8 s7.toNat (by omega)
  have hn : ∀ c j : Nat, c ≠ 62 → st M 62 (s0 + s1).toNat (s9) c j = M c j := fun c j hj => if_neg (fun h => hj h.1)
  refine ⟨Eq.mpr hp_41 ⟨by omega, by omega, fun i hi => ?_⟩, Eq.mpr hp_97 ⟨x, 5, k1, k2, k3, qfd_n (fun i hi => hn 1 i (by decide)) k4⟩, trivial⟩
  rw [hn 1 _ (by decide), cw0]
  by_cases e : i = (s0 + s1).toNat
  · rw [if_pos e, e]; exact hz
  · rw [if_neg e]; exact t3 i (by omega)
theorem rul_1006 : Rul r_1006 := by
  refine ⟨fun h => (by cases h), fun gi gv hg ρ M hm hB hF hG => ?_⟩
  obtain ⟨g1, g2⟩ := List.cons.inj (show ([aI ((0 : Int), ([(0, 1), (1, 1)] : List (Nat × Int))), aI ((0 : Int), ([(9, 1)] : List (Nat × Int)))] : List av) = [.inl gi, .inl gv] from hg)
  obtain ⟨g2, -⟩ := List.cons.inj g2
  cases g1
  cases g2
  have ei : ev ρ ((0 : Int), ([(0, 1), (1, 1)] : List (Nat × Int))) = ((ρ 0) + (ρ 1)) := by show 0 + (1 * ρ 0 + (1 * ρ 1 + 0)) = _; omega
  have ew : ev ρ ((0 : Int), ([(9, 1)] : List (Nat × Int))) = ((ρ 9)) := by show 0 + (1 * ρ 9 + 0) = _; omega
  rw [show (st M (ctj r_1006) (ev ρ ((0 : Int), ([(0, 1), (1, 1)] : List (Nat × Int)))).toNat (ev ρ ((0 : Int), ([(9, 1)] : List (Nat × Int))))) = (st M 62 ((ρ 0) + (ρ 1)).toNat ((ρ 9))) from by rw [ei, ew]; rfl]
  have H := cr_1006 M (ρ 0) (ρ 1) (ρ 2) (ρ 3) (ρ 4) (ρ 5) (ρ 6) (ρ 7) (ρ 8) (ρ 9) (hB _ List.mem_cons_self) (hB _ (List.mem_cons_of_mem _ List.mem_cons_self)) (hB _ (List.mem_cons_of_mem _ (List.mem_cons_of_mem _ List.mem_cons_self))) (hB _ (List.mem_cons_of_mem _ (List.mem_cons_of_mem _ (List.mem_cons_of_mem _ List.mem_cons_self)))) (hB _ (List.mem_cons_of_mem _ (List.mem_cons_of_mem _ (List.mem_cons_of_mem _ (List.mem_cons_of_mem _ List.mem_cons_self))))) (hB _ (List.mem_cons_of_mem _ (List.mem_cons_of_mem _ (List.mem_cons_of_mem _ (List.mem_cons_of_mem _ (List.mem_cons_of_mem _ List.mem_cons_self)))))) (hB _ (List.mem_cons_of_mem _ (List.mem_cons_of_mem _ (List.mem_cons_of_mem _ (List.mem_cons_of_mem _ (List.mem_cons_of_mem _ (List.mem_cons_of_mem _ List.mem_cons_self))))))) (hB _ (List.mem_cons_of_mem _ (List.mem_cons_of_mem _ (List.mem_cons_of_mem _ (List.mem_cons_of_mem _ (List.mem_cons_of_mem _ (List.mem_cons_of_mem _ (List.mem_cons_of_mem _ List.mem_cons_self)))))))) (hB _ (List.mem_cons_of_mem _ (List.mem_cons_of_mem _ (List.mem_cons_of_mem _ (List.mem_cons_of_mem _ (List.mem_cons_of_mem _ (List.mem_cons_of_mem _ (List.mem_cons_of_mem _ (List.mem_cons_of_mem _ List.mem_cons_self))))))))) (hB _ (List.mem_cons_of_mem _ (List.mem_cons_of_mem _ (List.mem_cons_of_mem _ (List.mem_cons_of_mem _ (List.mem_cons_of_mem _ (List.mem_cons_of_mem _ (List.mem_cons_of_mem _ (List.mem_cons_of_mem _ (List.mem_cons_of_mem _ List.mem_cons_self)))))))))) (cvp 97 (x' := (8 * (ρ 0) + 5)) (y' := (340282366920938463463374607431768211456 * (ρ 2) + 79228162514264337593543950336 * (ρ 3) + 18446744073709551616 * (ρ 4) + 4294967296 * (ρ 5) + (ρ 6))) (by show 5 + (8 * ρ 0 + 0) = _; omega) (by show 0 + (340282366920938463463374607431768211456 * ρ 2 + (79228162514264337593543950336 * ρ 3 + (18446744073709551616 * ρ 4 + (4294967296 * ρ 5 + (1 * ρ 6 + 0))))) = _; omega) (hm _ List.mem_cons_self)) (cvp 41 (x' := ((ρ 0) + (ρ 1))) (y' := (0 : Int)) (by show 0 + (1 * ρ 0 + (1 * ρ 1 + 0)) = _; omega) (by show 0 + 0 = _; omega) (hm _ (List.mem_cons_of_mem _ List.mem_cons_self))) (cvp 104 (x' := (4294967296 * (ρ 3) + (-8) * (ρ 7) + 24)) (y' := ((ρ 8))) (by show 24 + (4294967296 * ρ 3 + ((-8) * ρ 7 + 0)) = _; omega) (by show 0 + (1 * ρ 8 + 0) = _; omega) (hm _ (List.mem_cons_of_mem _ (List.mem_cons_of_mem _ List.mem_cons_self)))) (cvp 120 (x' := ((ρ 8))) (y' := ((ρ 9))) (by show 0 + (1 * ρ 8 + 0) = _; omega) (by show 0 + (1 * ρ 9 + 0) = _; omega) (hm _ (List.mem_cons_of_mem _ (List.mem_cons_of_mem _ (List.mem_cons_of_mem _ List.mem_cons_self))))) (by have h := hF _ List.mem_cons_self; have h : 0 ≤ (-4) + (1 * ρ 1 + ((-1) * ρ 7 + 0)) := h; omega) (by have h := hF _ (List.mem_cons_of_mem _ List.mem_cons_self); have h : 0 ≤ 4 + ((-1) * ρ 1 + (1 * ρ 7 + 0)) := h; omega) hG
  obtain ⟨k0, k1, -⟩ := H
  exact ⟨_, List.mem_cons_self, ρ, fun _ _ => rfl, (okM_c (pvp 41 (by show 1 + (1 * ρ 0 + (1 * ρ 1 + 0)) = _; omega) (by show 0 + 0 = _; omega) k0) (okM_c (pvp 97 (by show 5 + (8 * ρ 0 + 0) = _; omega) (by show 0 + (340282366920938463463374607431768211456 * ρ 2 + (79228162514264337593543950336 * ρ 3 + (18446744073709551616 * ρ 4 + (4294967296 * ρ 5 + (1 * ρ 6 + 0))))) = _; omega) k1) okM_n)), okB_n, okF_n⟩
-- txw2
theorem cr_1007 (M : pM) (s0 s1 s2 s3 s4 s5 s6 s7 s8 s9 : Int) (b0 : 0 ≤ s0 ∧ s0 ≤ 1900) (b1 : 8 ≤ s1 ∧ s1 ≤ 11) (b2 : (-2147483648) ≤ s2 ∧ s2 ≤ 2147483647) (b3 : (-2147483648) ≤ s3 ∧ s3 ≤ 2147483647) (b4 : (-2147483648) ≤ s4 ∧ s4 ≤ 2147483647) (b5 : (-2147483648) ≤ s5 ∧ s5 ≤ 2147483647) (b6 : (-2147483648) ≤ s6 ∧ s6 ≤ 2147483647) (b7 : 0 ≤ s7 ∧ s7 ≤ 3) (b8 : (-2147483648) ≤ s8 ∧ s8 ≤ 2147483647) (b9 : (-128) ≤ s9 ∧ s9 ≤ 127) (m0 : HP 97 (8 * s0 + 5) (340282366920938463463374607431768211456 * s2 + 79228162514264337593543950336 * s3 + 18446744073709551616 * s4 + 4294967296 * s5 + s6) M) (m1 : HP 41 (s0 + s1) (0 : Int) M) (m2 : HP 104 (4294967296 * s4 + (-8) * s7 + 24) (s8) M) (m3 : HP 120 (s8) (s9) M) (f0 : 0 ≤ (s1 + (-1) * s7 - 8)) (f1 : 0 ≤ ((-1) * s1 + s7 + 8)) (hG : gI M) : (HP 41 (s0 + s1 + 1) (0 : Int) (st M 62 (s0 + s1).toNat (s9)) ∧ HP 97 (8 * s0 + 5) (340282366920938463463374607431768211456 * s2 + 79228162514264337593543950336 * s3 + 18446744073709551616 * s4 + 4294967296 * s5 + s6) (st M 62 (s0 + s1).toNat (s9)) ∧ True) := by
  obtain ⟨x, k, k1, k2, k3, k4⟩ := Eq.mp hp_97 m0
  obtain ⟨t1, t2, t3⟩ := Eq.mp hp_41 m1
  have ex : x = s0.toNat := by omega
  have ek : k = 5 := by omega
  subst ek
  have hb := qfd_5 (v0 := s2) (v1 := s3) (v2 := s4) (v3 := s5) (v4 := s6) k4 (by omega) (by unfold r32; omega) (by unfold r32; omega) (by unfold r32; omega) (by unfold r32; omega) (by unfold r32; omega)
  have b1 := n_shr (a := s4) (b := 24 - 8 * ((s7.toNat : Nat) : Int)) m2 (by omega) (by unfold r32; omega)
  have b2 := n_i2b m3
  have hz : s9 = w8 (M 1 (s0 + s1).toNat) := by rw [show (s0 + s1).toNat = x + 4 * 2 + s7.toNat by omega, hb.2.2.1 s7.toNat (by omega), b2, b1]; exact by_w8 s7.toNat (by omega)
  have hn : ∀ c j : Nat, c ≠ 62 → st M 62 (s0 + s1).toNat (s9) c j = M c j := fun c j hj => if_neg (fun h => hj h.1)
  refine ⟨Eq.mpr hp_41 ⟨by omega, by omega, fun i hi => ?_⟩, Eq.mpr hp_97 ⟨x, 5, k1, k2, k3, qfd_n (fun i hi => hn 1 i (by decide)) k4⟩, trivial⟩
  rw [hn 1 _ (by decide), cw0]
  by_cases e : i = (s0 + s1).toNat
  · rw [if_pos e, e]; exact hz
  · rw [if_neg e]; exact t3 i (by omega)
theorem rul_1007 : Rul r_1007 := by
  refine ⟨fun h => (by cases h), fun gi gv hg ρ M hm hB hF hG => ?_⟩
  obtain ⟨g1, g2⟩ := List.cons.inj (show ([aI ((0 : Int), ([(0, 1), (1, 1)] : List (Nat × Int))), aI ((0 : Int), ([(9, 1)] : List (Nat × Int)))] : List av) = [.inl gi, .inl gv] from hg)
  obtain ⟨g2, -⟩ := List.cons.inj g2
  cases g1
  cases g2
  have ei : ev ρ ((0 : Int), ([(0, 1), (1, 1)] : List (Nat × Int))) = ((ρ 0) + (ρ 1)) := by show 0 + (1 * ρ 0 + (1 * ρ 1 + 0)) = _; omega
  have ew : ev ρ ((0 : Int), ([(9, 1)] : List (Nat × Int))) = ((ρ 9)) := by show 0 + (1 * ρ 9 + 0) = _; omega
  rw [show (st M (ctj r_1007) (ev ρ ((0 : Int), ([(0, 1), (1, 1)] : List (Nat × Int)))).toNat (ev ρ ((0 : Int), ([(9, 1)] : List (Nat × Int))))) = (st M 62 ((ρ 0) + (ρ 1)).toNat ((ρ 9))) from by rw [ei, ew]; rfl]
  have H := cr_1007 M (ρ 0) (ρ 1) (ρ 2) (ρ 3) (ρ 4) (ρ 5) (ρ 6) (ρ 7) (ρ 8) (ρ 9) (hB _ List.mem_cons_self) (hB _ (List.mem_cons_of_mem _ List.mem_cons_self)) (hB _ (List.mem_cons_of_mem _ (List.mem_cons_of_mem _ List.mem_cons_self))) (hB _ (List.mem_cons_of_mem _ (List.mem_cons_of_mem _ (List.mem_cons_of_mem _ List.mem_cons_self)))) (hB _ (List.mem_cons_of_mem _ (List.mem_cons_of_mem _ (List.mem_cons_of_mem _ (List.mem_cons_of_mem _ List.mem_cons_self))))) (hB _ (List.mem_cons_of_mem _ (List.mem_cons_of_mem _ (List.mem_cons_of_mem _ (List.mem_cons_of_mem _ (List.mem_cons_of_mem _ List.mem_cons_self)))))) (hB _ (List.mem_cons_of_mem _ (List.mem_cons_of_mem _ (List.mem_cons_of_mem _ (List.mem_cons_of_mem _ (List.mem_cons_of_mem _ (List.mem_cons_of_mem _ List.mem_cons_self))))))) (hB _ (List.mem_cons_of_mem _ (List.mem_cons_of_mem _ (List.mem_cons_of_mem _ (List.mem_cons_of_mem _ (List.mem_cons_of_mem _ (List.mem_cons_of_mem _ (List.mem_cons_of_mem _ List.mem_cons_self)))))))) (hB _ (List.mem_cons_of_mem _ (List.mem_cons_of_mem _ (List.mem_cons_of_mem _ (List.mem_cons_of_mem _ (List.mem_cons_of_mem _ (List.mem_cons_of_mem _ (List.mem_cons_of_mem _ (List.mem_cons_of_mem _ List.mem_cons_self))))))))) (hB _ (List.mem_cons_of_mem _ (List.mem_cons_of_mem _ (List.mem_cons_of_mem _ (List.mem_cons_of_mem _ (List.mem_cons_of_mem _ (List.mem_cons_of_mem _ (List.mem_cons_of_mem _ (List.mem_cons_of_mem _ (List.mem_cons_of_mem _ List.mem_cons_self)))))))))) (cvp 97 (x' := (8 * (ρ 0) + 5)) (y' := (340282366920938463463374607431768211456 * (ρ 2) + 79228162514264337593543950336 * (ρ 3) + 18446744073709551616 * (ρ 4) + 4294967296 * (ρ 5) + (ρ 6))) (by show 5 + (8 * ρ 0 + 0) = _; omega) (by show 0 + (340282366920938463463374607431768211456 * ρ 2 + (79228162514264337593543950336 * ρ 3 + (18446744073709551616 * ρ 4 + (4294967296 * ρ 5 + (1 * ρ 6 + 0))))) = _; omega) (hm _ List.mem_cons_self)) (cvp 41 (x' := ((ρ 0) + (ρ 1))) (y' := (0 : Int)) (by show 0 + (1 * ρ 0 + (1 * ρ 1 + 0)) = _; omega) (by show 0 + 0 = _; omega) (hm _ (List.mem_cons_of_mem _ List.mem_cons_self))) (cvp 104 (x' := (4294967296 * (ρ 4) + (-8) * (ρ 7) + 24)) (y' := ((ρ 8))) (by show 24 + (4294967296 * ρ 4 + ((-8) * ρ 7 + 0)) = _; omega) (by show 0 + (1 * ρ 8 + 0) = _; omega) (hm _ (List.mem_cons_of_mem _ (List.mem_cons_of_mem _ List.mem_cons_self)))) (cvp 120 (x' := ((ρ 8))) (y' := ((ρ 9))) (by show 0 + (1 * ρ 8 + 0) = _; omega) (by show 0 + (1 * ρ 9 + 0) = _; omega) (hm _ (List.mem_cons_of_mem _ (List.mem_cons_of_mem _ (List.mem_cons_of_mem _ List.mem_cons_self))))) (by have h := hF _ List.mem_cons_self; have h : 0 ≤ (-8) + (1 * ρ 1 + ((-1) * ρ 7 + 0)) := h; omega) (by have h := hF _ (List.mem_cons_of_mem _ List.mem_cons_self); have h : 0 ≤ 8 + ((-1) * ρ 1 + (1 * ρ 7 + 0)) := h; omega) hG
  obtain ⟨k0, k1, -⟩ := H
  exact ⟨_, List.mem_cons_self, ρ, fun _ _ => rfl, (okM_c (pvp 41 (by show 1 + (1 * ρ 0 + (1 * ρ 1 + 0)) = _; omega) (by show 0 + 0 = _; omega) k0) (okM_c (pvp 97 (by show 5 + (8 * ρ 0 + 0) = _; omega) (by show 0 + (340282366920938463463374607431768211456 * ρ 2 + (79228162514264337593543950336 * ρ 3 + (18446744073709551616 * ρ 4 + (4294967296 * ρ 5 + (1 * ρ 6 + 0))))) = _; omega) k1) okM_n)), okB_n, okF_n⟩
-- txw3
theorem cr_1008 (M : pM) (s0 s1 s2 s3 s4 s5 s6 s7 s8 s9 : Int) (b0 : 0 ≤ s0 ∧ s0 ≤ 1900) (b1 : 12 ≤ s1 ∧ s1 ≤ 15) (b2 : (-2147483648) ≤ s2 ∧ s2 ≤ 2147483647) (b3 : (-2147483648) ≤ s3 ∧ s3 ≤ 2147483647) (b4 : (-2147483648) ≤ s4 ∧ s4 ≤ 2147483647) (b5 : (-2147483648) ≤ s5 ∧ s5 ≤ 2147483647) (b6 : (-2147483648) ≤ s6 ∧ s6 ≤ 2147483647) (b7 : 0 ≤ s7 ∧ s7 ≤ 3) (b8 : (-2147483648) ≤ s8 ∧ s8 ≤ 2147483647) (b9 : (-128) ≤ s9 ∧ s9 ≤ 127) (m0 : HP 97 (8 * s0 + 5) (340282366920938463463374607431768211456 * s2 + 79228162514264337593543950336 * s3 + 18446744073709551616 * s4 + 4294967296 * s5 + s6) M) (m1 : HP 41 (s0 + s1) (0 : Int) M) (m2 : HP 104 (4294967296 * s5 + (-8) * s7 + 24) (s8) M) (m3 : HP 120 (s8) (s9) M) (f0 : 0 ≤ (s1 + (-1) * s7 - 12)) (f1 : 0 ≤ ((-1) * s1 + s7 + 12)) (hG : gI M) : (HP 41 (s0 + s1 + 1) (0 : Int) (st M 62 (s0 + s1).toNat (s9)) ∧ HP 97 (8 * s0 + 5) (340282366920938463463374607431768211456 * s2 + 79228162514264337593543950336 * s3 + 18446744073709551616 * s4 + 4294967296 * s5 + s6) (st M 62 (s0 + s1).toNat (s9)) ∧ True) := by
  obtain ⟨x, k, k1, k2, k3, k4⟩ := Eq.mp hp_97 m0
  obtain ⟨t1, t2, t3⟩ := Eq.mp hp_41 m1
  have ex : x = s0.toNat := by omega
  have ek : k = 5 := by omega
  subst ek
  have hb := qfd_5 (v0 := s2) (v1 := s3) (v2 := s4) (v3 := s5) (v4 := s6) k4 (by omega) (by unfold r32; omega) (by unfold r32; omega) (by unfold r32; omega) (by unfold r32; omega) (by unfold r32; omega)
  have b1 := n_shr (a := s5) (b := 24 - 8 * ((s7.toNat : Nat) : Int)) m2 (by omega) (by unfold r32; omega)
  have b2 := n_i2b m3
  have hz : s9 = w8 (M 1 (s0 + s1).toNat) := by rw [show (s0 + s1).toNat = x + 4 * 3 + s7.toNat by omega, hb.2.2.2.1 s7.toNat (by omega), b2, b1]; exact by_w8 s7.toNat (by omega)
  have hn : ∀ c j : Nat, c ≠ 62 → st M 62 (s0 + s1).toNat (s9) c j = M c j := fun c j hj => if_neg (fun h => hj h.1)
  refine ⟨Eq.mpr hp_41 ⟨by omega, by omega, fun i hi => ?_⟩, Eq.mpr hp_97 ⟨x, 5, k1, k2, k3, qfd_n (fun i hi => hn 1 i (by decide)) k4⟩, trivial⟩
  rw [hn 1 _ (by decide), cw0]
  by_cases e : i = (s0 + s1).toNat
  · rw [if_pos e, e]; exact hz
  · rw [if_neg e]; exact t3 i (by omega)
theorem rul_1008 : Rul r_1008 := by
  refine ⟨fun h => (by cases h), fun gi gv hg ρ M hm hB hF hG => ?_⟩
  obtain ⟨g1, g2⟩ := List.cons.inj (show ([aI ((0 : Int), ([(0, 1), (1, 1)] : List (Nat × Int))), aI ((0 : Int), ([(9, 1)] : List (Nat × Int)))] : List av) = [.inl gi, .inl gv] from hg)
  obtain ⟨g2, -⟩ := List.cons.inj g2
  cases g1
  cases g2
  have ei : ev ρ ((0 : Int), ([(0, 1), (1, 1)] : List (Nat × Int))) = ((ρ 0) + (ρ 1)) := by show 0 + (1 * ρ 0 + (1 * ρ 1 + 0)) = _; omega
  have ew : ev ρ ((0 : Int), ([(9, 1)] : List (Nat × Int))) = ((ρ 9)) := by show 0 + (1 * ρ 9 + 0) = _; omega
  rw [show (st M (ctj r_1008) (ev ρ ((0 : Int), ([(0, 1), (1, 1)] : List (Nat × Int)))).toNat (ev ρ ((0 : Int), ([(9, 1)] : List (Nat × Int))))) = (st M 62 ((ρ 0) + (ρ 1)).toNat ((ρ 9))) from by rw [ei, ew]; rfl]
  have H := cr_1008 M (ρ 0) (ρ 1) (ρ 2) (ρ 3) (ρ 4) (ρ 5) (ρ 6) (ρ 7) (ρ 8) (ρ 9) (hB _ List.mem_cons_self) (hB _ (List.mem_cons_of_mem _ List.mem_cons_self)) (hB _ (List.mem_cons_of_mem _ (List.mem_cons_of_mem _ List.mem_cons_self))) (hB _ (List.mem_cons_of_mem _ (List.mem_cons_of_mem _ (List.mem_cons_of_mem _ List.mem_cons_self)))) (hB _ (List.mem_cons_of_mem _ (List.mem_cons_of_mem _ (List.mem_cons_of_mem _ (List.mem_cons_of_mem _ List.mem_cons_self))))) (hB _ (List.mem_cons_of_mem _ (List.mem_cons_of_mem _ (List.mem_cons_of_mem _ (List.mem_cons_of_mem _ (List.mem_cons_of_mem _ List.mem_cons_self)))))) (hB _ (List.mem_cons_of_mem _ (List.mem_cons_of_mem _ (List.mem_cons_of_mem _ (List.mem_cons_of_mem _ (List.mem_cons_of_mem _ (List.mem_cons_of_mem _ List.mem_cons_self))))))) (hB _ (List.mem_cons_of_mem _ (List.mem_cons_of_mem _ (List.mem_cons_of_mem _ (List.mem_cons_of_mem _ (List.mem_cons_of_mem _ (List.mem_cons_of_mem _ (List.mem_cons_of_mem _ List.mem_cons_self)))))))) (hB _ (List.mem_cons_of_mem _ (List.mem_cons_of_mem _ (List.mem_cons_of_mem _ (List.mem_cons_of_mem _ (List.mem_cons_of_mem _ (List.mem_cons_of_mem _ (List.mem_cons_of_mem _ (List.mem_cons_of_mem _ List.mem_cons_self))))))))) (hB _ (List.mem_cons_of_mem _ (List.mem_cons_of_mem _ (List.mem_cons_of_mem _ (List.mem_cons_of_mem _ (List.mem_cons_of_mem _ (List.mem_cons_of_mem _ (List.mem_cons_of_mem _ (List.mem_cons_of_mem _ (List.mem_cons_of_mem _ List.mem_cons_self)))))))))) (cvp 97 (x' := (8 * (ρ 0) + 5)) (y' := (340282366920938463463374607431768211456 * (ρ 2) + 79228162514264337593543950336 * (ρ 3) + 18446744073709551616 * (ρ 4) + 4294967296 * (ρ 5) + (ρ 6))) (by show 5 + (8 * ρ 0 + 0) = _; omega) (by show 0 + (340282366920938463463374607431768211456 * ρ 2 + (79228162514264337593543950336 * ρ 3 + (18446744073709551616 * ρ 4 + (4294967296 * ρ 5 + (1 * ρ 6 + 0))))) = _; omega) (hm _ List.mem_cons_self)) (cvp 41 (x' := ((ρ 0) + (ρ 1))) (y' := (0 : Int)) (by show 0 + (1 * ρ 0 + (1 * ρ 1 + 0)) = _; omega) (by show 0 + 0 = _; omega) (hm _ (List.mem_cons_of_mem _ List.mem_cons_self))) (cvp 104 (x' := (4294967296 * (ρ 5) + (-8) * (ρ 7) + 24)) (y' := ((ρ 8))) (by show 24 + (4294967296 * ρ 5 + ((-8) * ρ 7 + 0)) = _; omega) (by show 0 + (1 * ρ 8 + 0) = _; omega) (hm _ (List.mem_cons_of_mem _ (List.mem_cons_of_mem _ List.mem_cons_self)))) (cvp 120 (x' := ((ρ 8))) (y' := ((ρ 9))) (by show 0 + (1 * ρ 8 + 0) = _; omega) (by show 0 + (1 * ρ 9 + 0) = _; omega) (hm _ (List.mem_cons_of_mem _ (List.mem_cons_of_mem _ (List.mem_cons_of_mem _ List.mem_cons_self))))) (by have h := hF _ List.mem_cons_self; have h : 0 ≤ (-12) + (1 * ρ 1 + ((-1) * ρ 7 + 0)) := h; omega) (by have h := hF _ (List.mem_cons_of_mem _ List.mem_cons_self); have h : 0 ≤ 12 + ((-1) * ρ 1 + (1 * ρ 7 + 0)) := h; omega) hG
  obtain ⟨k0, k1, -⟩ := H
  exact ⟨_, List.mem_cons_self, ρ, fun _ _ => rfl, (okM_c (pvp 41 (by show 1 + (1 * ρ 0 + (1 * ρ 1 + 0)) = _; omega) (by show 0 + 0 = _; omega) k0) (okM_c (pvp 97 (by show 5 + (8 * ρ 0 + 0) = _; omega) (by show 0 + (340282366920938463463374607431768211456 * ρ 2 + (79228162514264337593543950336 * ρ 3 + (18446744073709551616 * ρ 4 + (4294967296 * ρ 5 + (1 * ρ 6 + 0))))) = _; omega) k1) okM_n)), okB_n, okF_n⟩
-- txw4
theorem cr_1009 (M : pM) (s0 s1 s2 s3 s4 s5 s6 s7 s8 s9 : Int) (b0 : 0 ≤ s0 ∧ s0 ≤ 1900) (b1 : 16 ≤ s1 ∧ s1 ≤ 19) (b2 : (-2147483648) ≤ s2 ∧ s2 ≤ 2147483647) (b3 : (-2147483648) ≤ s3 ∧ s3 ≤ 2147483647) (b4 : (-2147483648) ≤ s4 ∧ s4 ≤ 2147483647) (b5 : (-2147483648) ≤ s5 ∧ s5 ≤ 2147483647) (b6 : (-2147483648) ≤ s6 ∧ s6 ≤ 2147483647) (b7 : 0 ≤ s7 ∧ s7 ≤ 3) (b8 : (-2147483648) ≤ s8 ∧ s8 ≤ 2147483647) (b9 : (-128) ≤ s9 ∧ s9 ≤ 127) (m0 : HP 97 (8 * s0 + 5) (340282366920938463463374607431768211456 * s2 + 79228162514264337593543950336 * s3 + 18446744073709551616 * s4 + 4294967296 * s5 + s6) M) (m1 : HP 41 (s0 + s1) (0 : Int) M) (m2 : HP 104 (4294967296 * s6 + (-8) * s7 + 24) (s8) M) (m3 : HP 120 (s8) (s9) M) (f0 : 0 ≤ (s1 + (-1) * s7 - 16)) (f1 : 0 ≤ ((-1) * s1 + s7 + 16)) (hG : gI M) : (HP 41 (s0 + s1 + 1) (0 : Int) (st M 62 (s0 + s1).toNat (s9)) ∧ HP 97 (8 * s0 + 5) (340282366920938463463374607431768211456 * s2 + 79228162514264337593543950336 * s3 + 18446744073709551616 * s4 + 4294967296 * s5 + s6) (st M 62 (s0 + s1).toNat (s9)) ∧ True) := by
  obtain ⟨x, k, k1, k2, k3, k4⟩ := Eq.mp hp_97 m0
  obtain ⟨t1, t2, t3⟩ := Eq.mp hp_41 m1
  have ex : x = s0.toNat := by omega
  have ek : k = 5 := by omega
  subst ek
  have hb := qfd_5 (v0 := s2) (v1 := s3) (v2 := s4) (v3 := s5) (v4 := s6) k4 (by omega) (by unfold r32; omega) (by unfold r32; omega) (by unfold r32; omega) (by unfold r32; omega) (by unfold r32; omega)
  have b1 := n_shr (a := s6) (b := 24 - 8 * ((s7.toNat : Nat) : Int)) m2 (by omega) (by unfold r32; omega)
  have b2 := n_i2b m3
  have hz : s9 = w8 (M 1 (s0 + s1).toNat) := by rw [show (s0 + s1).toNat = x + 4 * 4 + s7.toNat by omega, hb.2.2.2.2 s7.toNat (by omega), b2, b1]; exact by_w8 s7.toNat (by omega)
  have hn : ∀ c j : Nat, c ≠ 62 → st M 62 (s0 + s1).toNat (s9) c j = M c j := fun c j hj => if_neg (fun h => hj h.1)
  refine ⟨Eq.mpr hp_41 ⟨by omega, by omega, fun i hi => ?_⟩, Eq.mpr hp_97 ⟨x, 5, k1, k2, k3, qfd_n (fun i hi => hn 1 i (by decide)) k4⟩, trivial⟩
  rw [hn 1 _ (by decide), cw0]
  by_cases e : i = (s0 + s1).toNat
  · rw [if_pos e, e]; exact hz
  · rw [if_neg e]; exact t3 i (by omega)
theorem rul_1009 : Rul r_1009 := by
  refine ⟨fun h => (by cases h), fun gi gv hg ρ M hm hB hF hG => ?_⟩
  obtain ⟨g1, g2⟩ := List.cons.inj (show ([aI ((0 : Int), ([(0, 1), (1, 1)] : List (Nat × Int))), aI ((0 : Int), ([(9, 1)] : List (Nat × Int)))] : List av) = [.inl gi, .inl gv] from hg)
  obtain ⟨g2, -⟩ := List.cons.inj g2
  cases g1
  cases g2
  have ei : ev ρ ((0 : Int), ([(0, 1), (1, 1)] : List (Nat × Int))) = ((ρ 0) + (ρ 1)) := by show 0 + (1 * ρ 0 + (1 * ρ 1 + 0)) = _; omega
  have ew : ev ρ ((0 : Int), ([(9, 1)] : List (Nat × Int))) = ((ρ 9)) := by show 0 + (1 * ρ 9 + 0) = _; omega
  rw [show (st M (ctj r_1009) (ev ρ ((0 : Int), ([(0, 1), (1, 1)] : List (Nat × Int)))).toNat (ev ρ ((0 : Int), ([(9, 1)] : List (Nat × Int))))) = (st M 62 ((ρ 0) + (ρ 1)).toNat ((ρ 9))) from by rw [ei, ew]; rfl]
  have H := cr_1009 M (ρ 0) (ρ 1) (ρ 2) (ρ 3) (ρ 4) (ρ 5) (ρ 6) (ρ 7) (ρ 8) (ρ 9) (hB _ List.mem_cons_self) (hB _ (List.mem_cons_of_mem _ List.mem_cons_self)) (hB _ (List.mem_cons_of_mem _ (List.mem_cons_of_mem _ List.mem_cons_self))) (hB _ (List.mem_cons_of_mem _ (List.mem_cons_of_mem _ (List.mem_cons_of_mem _ List.mem_cons_self)))) (hB _ (List.mem_cons_of_mem _ (List.mem_cons_of_mem _ (List.mem_cons_of_mem _ (List.mem_cons_of_mem _ List.mem_cons_self))))) (hB _ (List.mem_cons_of_mem _ (List.mem_cons_of_mem _ (List.mem_cons_of_mem _ (List.mem_cons_of_mem _ (List.mem_cons_of_mem _ List.mem_cons_self)))))) (hB _ (List.mem_cons_of_mem _ (List.mem_cons_of_mem _ (List.mem_cons_of_mem _ (List.mem_cons_of_mem _ (List.mem_cons_of_mem _ (List.mem_cons_of_mem _ List.mem_cons_self))))))) (hB _ (List.mem_cons_of_mem _ (List.mem_cons_of_mem _ (List.mem_cons_of_mem _ (List.mem_cons_of_mem _ (List.mem_cons_of_mem _ (List.mem_cons_of_mem _ (List.mem_cons_of_mem _ List.mem_cons_self)))))))) (hB _ (List.mem_cons_of_mem _ (List.mem_cons_of_mem _ (List.mem_cons_of_mem _ (List.mem_cons_of_mem _ (List.mem_cons_of_mem _ (List.mem_cons_of_mem _ (List.mem_cons_of_mem _ (List.mem_cons_of_mem _ List.mem_cons_self))))))))) (hB _ (List.mem_cons_of_mem _ (List.mem_cons_of_mem _ (List.mem_cons_of_mem _ (List.mem_cons_of_mem _ (List.mem_cons_of_mem _ (List.mem_cons_of_mem _ (List.mem_cons_of_mem _ (List.mem_cons_of_mem _ (List.mem_cons_of_mem _ List.mem_cons_self)))))))))) (cvp 97 (x' := (8 * (ρ 0) + 5)) (y' := (340282366920938463463374607431768211456 * (ρ 2) + 79228162514264337593543950336 * (ρ 3) + 18446744073709551616 * (ρ 4) + 4294967296 * (ρ 5) + (ρ 6))) (by show 5 + (8 * ρ 0 + 0) = _; omega) (by show 0 + (340282366920938463463374607431768211456 * ρ 2 + (79228162514264337593543950336 * ρ 3 + (18446744073709551616 * ρ 4 + (4294967296 * ρ 5 + (1 * ρ 6 + 0))))) = _; omega) (hm _ List.mem_cons_self)) (cvp 41 (x' := ((ρ 0) + (ρ 1))) (y' := (0 : Int)) (by show 0 + (1 * ρ 0 + (1 * ρ 1 + 0)) = _; omega) (by show 0 + 0 = _; omega) (hm _ (List.mem_cons_of_mem _ List.mem_cons_self))) (cvp 104 (x' := (4294967296 * (ρ 6) + (-8) * (ρ 7) + 24)) (y' := ((ρ 8))) (by show 24 + (4294967296 * ρ 6 + ((-8) * ρ 7 + 0)) = _; omega) (by show 0 + (1 * ρ 8 + 0) = _; omega) (hm _ (List.mem_cons_of_mem _ (List.mem_cons_of_mem _ List.mem_cons_self)))) (cvp 120 (x' := ((ρ 8))) (y' := ((ρ 9))) (by show 0 + (1 * ρ 8 + 0) = _; omega) (by show 0 + (1 * ρ 9 + 0) = _; omega) (hm _ (List.mem_cons_of_mem _ (List.mem_cons_of_mem _ (List.mem_cons_of_mem _ List.mem_cons_self))))) (by have h := hF _ List.mem_cons_self; have h : 0 ≤ (-16) + (1 * ρ 1 + ((-1) * ρ 7 + 0)) := h; omega) (by have h := hF _ (List.mem_cons_of_mem _ List.mem_cons_self); have h : 0 ≤ 16 + ((-1) * ρ 1 + (1 * ρ 7 + 0)) := h; omega) hG
  obtain ⟨k0, k1, -⟩ := H
  exact ⟨_, List.mem_cons_self, ρ, fun _ _ => rfl, (okM_c (pvp 41 (by show 1 + (1 * ρ 0 + (1 * ρ 1 + 0)) = _; omega) (by show 0 + 0 = _; omega) k0) (okM_c (pvp 97 (by show 5 + (8 * ρ 0 + 0) = _; omega) (by show 0 + (340282366920938463463374607431768211456 * ρ 2 + (79228162514264337593543950336 * ρ 3 + (18446744073709551616 * ρ 4 + (4294967296 * ρ 5 + (1 * ρ 6 + 0))))) = _; omega) k1) okM_n)), okB_n, okF_n⟩
-- txd
theorem cr_1010 (M : pM) (s0 s1 : Int) (b0 : 0 ≤ s0 ∧ s0 ≤ 1900) (b1 : 0 ≤ s1 ∧ s1 ≤ 1900) (m0 : HP 41 (s0) (0 : Int) M) (f0 : 0 ≤ (s0 + (-1) * s1)) (hG : gI M) : (HP 41 (s1) (0 : Int) M ∧ True) := by
  obtain ⟨t1, t2, t3⟩ := Eq.mp hp_41 m0
  exact ⟨Eq.mpr hp_41 ⟨by omega, by omega, fun i hi => t3 i (by omega)⟩, trivial⟩
theorem rul_1010 : Rul r_1010 := by
  refine ⟨fun _ ρ M hm hB hF hG => ?_, fun gi gv hg => (by cases hg)⟩
  have H := cr_1010 M (ρ 0) (ρ 1) (hB _ List.mem_cons_self) (hB _ (List.mem_cons_of_mem _ List.mem_cons_self)) (cvp 41 (x' := ((ρ 0))) (y' := (0 : Int)) (by show 0 + (1 * ρ 0 + 0) = _; omega) (by show 0 + 0 = _; omega) (hm _ List.mem_cons_self)) (by have h := hF _ List.mem_cons_self; have h : 0 ≤ 0 + (1 * ρ 0 + ((-1) * ρ 1 + 0)) := h; omega) hG
  obtain ⟨k0, -⟩ := H
  exact ⟨_, List.mem_cons_self, ρ, fun _ _ => rfl, (okM_c (pvp 41 (by show 0 + (1 * ρ 1 + 0) = _; omega) (by show 0 + 0 = _; omega) k0) okM_n), okB_n, okF_n⟩
-- tx0
theorem cr_1011 (M : pM)  (hG : gI M) : (HP 41 (0 : Int) (0 : Int) M ∧ True) := by
  exact ⟨Eq.mpr hp_41 ⟨by decide, by decide, fun i hi => by omega⟩, trivial⟩
theorem rul_1011 : Rul r_1011 := by
  refine ⟨fun _ ρ M hm hB hF hG => ?_, fun gi gv hg => (by cases hg)⟩
  have H := cr_1011 M hG
  obtain ⟨k0, -⟩ := H
  exact ⟨_, List.mem_cons_self, ρ, fun _ _ => rfl, (okM_c (pvp 41 (by show 0 + 0 = _; omega) (by show 0 + 0 = _; omega) k0) okM_n), okB_n, okF_n⟩
-- flq
theorem cr_1012 (M : pM) (s0 s1 s2 s3 : Int) (b0 : (-2147483648) ≤ s0 ∧ s0 ≤ 2147483647) (b1 : 1 ≤ s1 ∧ s1 ≤ 5) (b2 : (-2147483648) ≤ s2 ∧ s2 ≤ 2147483647) (b3 : 1 ≤ s3 ∧ s3 ≤ 5) (m0 : HP 66 (s0) (s1) M) (m1 : HP 66 (s2) (s3) M) (hG : gI M) : (0 ≤ ((-1) * s0 + s2) ∧ 0 ≤ (s0 + (-1) * s2) ∧ 0 ≤ ((-1) * s1 + s3) ∧ 0 ≤ (s1 + (-1) * s3) ∧ True) := by
  obtain ⟨l, s, h1, h2⟩ := Eq.mp hp_66 m0
  obtain ⟨l', t, k1, k2⟩ := Eq.mp hp_66 m1
  obtain ⟨e1, e2⟩ := stuck_u h1 (fa_nx h2) k1 (fa_nx k2)
  subst e2
  rw [h2] at k2
  have k3 := Option.some.inj k2
  have e3 := congrArg Prod.fst k3
  have e4 := congrArg Prod.snd k3
  have e3 : s0 = s2 := e3
  have e4 : s1 = s3 := e4
  exact ⟨by omega, by omega, by omega, by omega, trivial⟩
theorem rul_1012 : Rul r_1012 := by
  refine ⟨fun _ ρ M hm hB hF hG => ?_, fun gi gv hg => (by cases hg)⟩
  have H := cr_1012 M (ρ 0) (ρ 1) (ρ 2) (ρ 3) (hB _ List.mem_cons_self) (hB _ (List.mem_cons_of_mem _ List.mem_cons_self)) (hB _ (List.mem_cons_of_mem _ (List.mem_cons_of_mem _ List.mem_cons_self))) (hB _ (List.mem_cons_of_mem _ (List.mem_cons_of_mem _ (List.mem_cons_of_mem _ List.mem_cons_self)))) (cvp 66 (x' := ((ρ 0))) (y' := ((ρ 1))) (by show 0 + (1 * ρ 0 + 0) = _; omega) (by show 0 + (1 * ρ 1 + 0) = _; omega) (hm _ List.mem_cons_self)) (cvp 66 (x' := ((ρ 2))) (y' := ((ρ 3))) (by show 0 + (1 * ρ 2 + 0) = _; omega) (by show 0 + (1 * ρ 3 + 0) = _; omega) (hm _ (List.mem_cons_of_mem _ List.mem_cons_self))) hG
  obtain ⟨f0, f1, f2, f3, -⟩ := H
  exact ⟨_, List.mem_cons_self, ρ, fun _ _ => rfl, okM_n, okB_n, (okF_c (by show 0 ≤ 0 + ((-1) * ρ 0 + (1 * ρ 2 + 0)); omega) (okF_c (by show 0 ≤ 0 + (1 * ρ 0 + ((-1) * ρ 2 + 0)); omega) (okF_c (by show 0 ≤ 0 + ((-1) * ρ 1 + (1 * ρ 3 + 0)); omega) (okF_c (by show 0 ≤ 0 + (1 * ρ 1 + ((-1) * ρ 3 + 0)); omega) okF_n))))⟩
-- c01
theorem cr_1013 (M : pM) (s0 : Int) (b0 : 0 ≤ s0 ∧ s0 ≤ 1) (hG : gI M) : (0 ≤ ((-1) * s0) ∧ 0 ≤ (s0) ∧ True) ∨ (0 ≤ ((-1) * s0 + 1) ∧ 0 ≤ (s0 - 1) ∧ True) := by
  by_cases h : s0 = 0
  · exact Or.inl ⟨by omega, by omega, trivial⟩
  · exact Or.inr ⟨by omega, by omega, trivial⟩
theorem rul_1013 : Rul r_1013 := by
  refine ⟨fun _ ρ M hm hB hF hG => ?_, fun gi gv hg => (by cases hg)⟩
  have H := cr_1013 M (ρ 0) (hB _ List.mem_cons_self) hG
  rcases H with H | H
  · skip
    obtain ⟨f0, f1, -⟩ := H
    exact ⟨_, List.mem_cons_self, ρ, fun _ _ => rfl, okM_n, okB_n, (okF_c (by show 0 ≤ 0 + ((-1) * ρ 0 + 0); omega) (okF_c (by show 0 ≤ 0 + (1 * ρ 0 + 0); omega) okF_n))⟩
  · skip
    obtain ⟨f0, f1, -⟩ := H
    exact ⟨_, (List.mem_cons_of_mem _ List.mem_cons_self), ρ, fun _ _ => rfl, okM_n, okB_n, (okF_c (by show 0 ≤ 1 + ((-1) * ρ 0 + 0); omega) (okF_c (by show 0 ≤ (-1) + (1 * ρ 0 + 0); omega) okF_n))⟩
