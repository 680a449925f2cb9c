-- rexs8_0
theorem cr_600 (M : pM) (s0 s1 s2 s3 s4 s5 : Int) (b0 : 0 ≤ s0 ∧ s0 ≤ 1900) (b1 : 0 ≤ s1 ∧ s1 ≤ 950) (b2 : 0 ≤ s2 ∧ s2 ≤ 1900) (b3 : 0 ≤ s3 ∧ s3 ≤ 12) (b4 : 0 ≤ s4 ∧ s4 ≤ 20) (b5 : 0 ≤ s5 ∧ s5 ≤ 4) (m0 : HP 60 (4096 * s0 + s1) (s3 + 32 * s4 + 1024 * s5) M) (m1 : HP 47 (s0) (262152 : Int) M) (m2 : HP 46 (s0) (s2) M) (hG : gI M) : (HP 53 (4096 * s0 + s1) (256 * s2 + 129) M ∧ True) := by
  obtain ⟨s, h1, hw, ha⟩ := Eq.mp hp_60 m0
  obtain ⟨c1, c2, c3⟩ := qW_o (w := s3) (r := s4) (g := s5) hw (by omega) (by omega) (by omega) (by omega)
  exact ⟨Eq.mpr hp_53 (r_exs (P := s0) (l := s1) (K := 8) h1 ⟨by omega, by omega, by omega⟩ (by have := (q47 m1).2; omega) (q46 m2).2 (by decide) (by unfold qfu; exact decide_eq_false (by omega)) (by omega)), trivial⟩
theorem rul_600 : Rul r_600 := by
  refine ⟨fun _ ρ M hm hB hF hG => ?_, fun gi gv hg => (by cases hg)⟩
  have H := cr_600 M (ρ 0) (ρ 1) (ρ 2) (ρ 3) (ρ 4) (ρ 5) (hB _ List.mem_cons_self) (hB _ (List.mem_cons_of_mem _ List.mem_cons_self)) (hB _ (List.mem_cons_of_mem _ (List.mem_cons_of_mem _ List.mem_cons_self))) (hB _ (List.mem_cons_of_mem _ (List.mem_cons_of_mem _ (List.mem_cons_of_mem _ List.mem_cons_self)))) (hB _ (List.mem_cons_of_mem _ (List.mem_cons_of_mem _ (List.mem_cons_of_mem _ (List.mem_cons_of_mem _ List.mem_cons_self))))) (hB _ (List.mem_cons_of_mem _ (List.mem_cons_of_mem _ (List.mem_cons_of_mem _ (List.mem_cons_of_mem _ (List.mem_cons_of_mem _ List.mem_cons_self)))))) (cvp 60 (x' := (4096 * (ρ 0) + (ρ 1))) (y' := ((ρ 3) + 32 * (ρ 4) + 1024 * (ρ 5))) (by show 0 + (4096 * ρ 0 + (1 * ρ 1 + 0)) = _; omega) (by show 0 + (1 * ρ 3 + (32 * ρ 4 + (1024 * ρ 5 + 0))) = _; omega) (hm _ List.mem_cons_self)) (cvp 47 (x' := ((ρ 0))) (y' := (262152 : Int)) (by show 0 + (1 * ρ 0 + 0) = _; omega) (by show 262152 + 0 = _; omega) (hm _ (List.mem_cons_of_mem _ List.mem_cons_self))) (cvp 46 (x' := ((ρ 0))) (y' := ((ρ 2))) (by show 0 + (1 * ρ 0 + 0) = _; omega) (by show 0 + (1 * ρ 2 + 0) = _; omega) (hm _ (List.mem_cons_of_mem _ (List.mem_cons_of_mem _ List.mem_cons_self)))) hG
  obtain ⟨k0, -⟩ := H
  exact ⟨_, List.mem_cons_self, ρ, fun _ _ => rfl, (okM_c (pvp 53 (by show 0 + (4096 * ρ 0 + (1 * ρ 1 + 0)) = _; omega) (by show 129 + (256 * ρ 2 + 0) = _; omega) k0) okM_n), okB_n, okF_n⟩
-- rftk0_0
theorem cr_601 (M : pM) (s0 s1 s2 s3 s4 s5 s6 : Int) (b0 : 0 ≤ s0 ∧ s0 ≤ 1900) (b1 : 0 ≤ s1 ∧ s1 ≤ 950) (b2 : 0 ≤ s2 ∧ s2 ≤ 1900) (b3 : 0 ≤ s3 ∧ s3 ≤ 12) (b4 : 0 ≤ s4 ∧ s4 ≤ 20) (b5 : 0 ≤ s5 ∧ s5 ≤ 4) (b6 : (-1) ≤ s6 ∧ s6 ≤ 600000) (m0 : HP 60 (4096 * s0 + s1) (s3 + 32 * s4 + 1024 * s5) M) (m1 : HP 47 (s0) (s6) M) (m2 : HP 45 (s0) (s2) M) (f0 : 0 ≤ ((-1) * s6 + 255)) (hG : gI M) : (HP 66 (s2) (1 : Int) M ∧ True) := by
  obtain ⟨s, h1, hw, ha⟩ := Eq.mp hp_60 m0
  obtain ⟨c1, c2, c3⟩ := qW_o (w := s3) (r := s4) (g := s5) hw (by omega) (by omega) (by omega) (by omega)
  exact ⟨Eq.mpr hp_66 (r_ftk (P := s0) (l := s1) h1 ⟨by omega, by omega, by omega⟩ (q47 m1).2 (q45 m2).2 (by omega) (by rw [if_pos (by omega)])), trivial⟩
theorem rul_601 : Rul r_601 := by
  refine ⟨fun _ ρ M hm hB hF hG => ?_, fun gi gv hg => (by cases hg)⟩
  have H := cr_601 M (ρ 0) (ρ 1) (ρ 2) (ρ 3) (ρ 4) (ρ 5) (ρ 6) (hB _ List.mem_cons_self) (hB _ (List.mem_cons_of_mem _ List.mem_cons_self)) (hB _ (List.mem_cons_of_mem _ (List.mem_cons_of_mem _ List.mem_cons_self))) (hB _ (List.mem_cons_of_mem _ (List.mem_cons_of_mem _ (List.mem_cons_of_mem _ List.mem_cons_self)))) (hB _ (List.mem_cons_of_mem _ (List.mem_cons_of_mem _ (List.mem_cons_of_mem _ (List.mem_cons_of_mem _ List.mem_cons_self))))) (hB _ (List.mem_cons_of_mem _ (List.mem_cons_of_mem _ (List.mem_cons_of_mem _ (List.mem_cons_of_mem _ (List.mem_cons_of_mem _ List.mem_cons_self)))))) (hB _ (List.mem_cons_of_mem _ (List.mem_cons_of_mem _ (List.mem_cons_of_mem _ (List.mem_cons_of_mem _ (List.mem_cons_of_mem _ (List.mem_cons_of_mem _ List.mem_cons_self))))))) (cvp 60 (x' := (4096 * (ρ 0) + (ρ 1))) (y' := ((ρ 3) + 32 * (ρ 4) + 1024 * (ρ 5))) (by show 0 + (4096 * ρ 0 + (1 * ρ 1 + 0)) = _; omega) (by show 0 + (1 * ρ 3 + (32 * ρ 4 + (1024 * ρ 5 + 0))) = _; omega) (hm _ List.mem_cons_self)) (cvp 47 (x' := ((ρ 0))) (y' := ((ρ 6))) (by show 0 + (1 * ρ 0 + 0) = _; omega) (by show 0 + (1 * ρ 6 + 0) = _; omega) (hm _ (List.mem_cons_of_mem _ List.mem_cons_self))) (cvp 45 (x' := ((ρ 0))) (y' := ((ρ 2))) (by show 0 + (1 * ρ 0 + 0) = _; omega) (by show 0 + (1 * ρ 2 + 0) = _; omega) (hm _ (List.mem_cons_of_mem _ (List.mem_cons_of_mem _ List.mem_cons_self)))) (by have h := hF _ List.mem_cons_self; have h : 0 ≤ 255 + ((-1) * ρ 6 + 0) := h; omega) hG
  obtain ⟨k0, -⟩ := H
  exact ⟨_, List.mem_cons_self, ρ, fun _ _ => rfl, (okM_c (pvp 66 (by show 0 + (1 * ρ 2 + 0) = _; omega) (by show 1 + 0 = _; omega) k0) okM_n), okB_n, okF_n⟩
-- rftk1_0
theorem cr_602 (M : pM) (s0 s1 s2 s3 s4 s5 s6 : Int) (b0 : 0 ≤ s0 ∧ s0 ≤ 1900) (b1 : 0 ≤ s1 ∧ s1 ≤ 950) (b2 : 0 ≤ s2 ∧ s2 ≤ 1900) (b3 : 0 ≤ s3 ∧ s3 ≤ 12) (b4 : 0 ≤ s4 ∧ s4 ≤ 20) (b5 : 0 ≤ s5 ∧ s5 ≤ 4) (b6 : (-1) ≤ s6 ∧ s6 ≤ 600000) (m0 : HP 60 (4096 * s0 + s1) (s3 + 32 * s4 + 1024 * s5) M) (m1 : HP 47 (s0) (s6) M) (m2 : HP 45 (s0) (s2) M) (f0 : 0 ≤ (s6 - 262143)) (f1 : 0 ≤ ((-1) * s6 + 262143)) (hG : gI M) : (HP 66 (s2) (2 : Int) M ∧ True) := by
  obtain ⟨s, h1, hw, ha⟩ := Eq.mp hp_60 m0
  obtain ⟨c1, c2, c3⟩ := qW_o (w := s3) (r := s4) (g := s5) hw (by omega) (by omega) (by omega) (by omega)
  exact ⟨Eq.mpr hp_66 (r_ftk (P := s0) (l := s1) h1 ⟨by omega, by omega, by omega⟩ (q47 m1).2 (q45 m2).2 (by omega) (by rw [if_neg (by omega)])), trivial⟩
theorem rul_602 : Rul r_602 := by
  refine ⟨fun _ ρ M hm hB hF hG => ?_, fun gi gv hg => (by cases hg)⟩
  have H := cr_602 M (ρ 0) (ρ 1) (ρ 2) (ρ 3) (ρ 4) (ρ 5) (ρ 6) (hB _ List.mem_cons_self) (hB _ (List.mem_cons_of_mem _ List.mem_cons_self)) (hB _ (List.mem_cons_of_mem _ (List.mem_cons_of_mem _ List.mem_cons_self))) (hB _ (List.mem_cons_of_mem _ (List.mem_cons_of_mem _ (List.mem_cons_of_mem _ List.mem_cons_self)))) (hB _ (List.mem_cons_of_mem _ (List.mem_cons_of_mem _ (List.mem_cons_of_mem _ (List.mem_cons_of_mem _ List.mem_cons_self))))) (hB _ (List.mem_cons_of_mem _ (List.mem_cons_of_mem _ (List.mem_cons_of_mem _ (List.mem_cons_of_mem _ (List.mem_cons_of_mem _ List.mem_cons_self)))))) (hB _ (List.mem_cons_of_mem _ (List.mem_cons_of_mem _ (List.mem_cons_of_mem _ (List.mem_cons_of_mem _ (List.mem_cons_of_mem _ (List.mem_cons_of_mem _ List.mem_cons_self))))))) (cvp 60 (x' := (4096 * (ρ 0) + (ρ 1))) (y' := ((ρ 3) + 32 * (ρ 4) + 1024 * (ρ 5))) (by show 0 + (4096 * ρ 0 + (1 * ρ 1 + 0)) = _; omega) (by show 0 + (1 * ρ 3 + (32 * ρ 4 + (1024 * ρ 5 + 0))) = _; omega) (hm _ List.mem_cons_self)) (cvp 47 (x' := ((ρ 0))) (y' := ((ρ 6))) (by show 0 + (1 * ρ 0 + 0) = _; omega) (by show 0 + (1 * ρ 6 + 0) = _; omega) (hm _ (List.mem_cons_of_mem _ List.mem_cons_self))) (cvp 45 (x' := ((ρ 0))) (y' := ((ρ 2))) (by show 0 + (1 * ρ 0 + 0) = _; omega) (by show 0 + (1 * ρ 2 + 0) = _; omega) (hm _ (List.mem_cons_of_mem _ (List.mem_cons_of_mem _ List.mem_cons_self)))) (by have h := hF _ List.mem_cons_self; have h : 0 ≤ (-262143) + (1 * ρ 6 + 0) := h; omega) (by have h := hF _ (List.mem_cons_of_mem _ List.mem_cons_self); have h : 0 ≤ 262143 + ((-1) * ρ 6 + 0) := h; omega) hG
  obtain ⟨k0, -⟩ := H
  exact ⟨_, List.mem_cons_self, ρ, fun _ _ => rfl, (okM_c (pvp 66 (by show 0 + (1 * ρ 2 + 0) = _; omega) (by show 2 + 0 = _; omega) k0) okM_n), okB_n, okF_n⟩
-- rftk2_0
theorem cr_603 (M : pM) (s0 s1 s2 s3 s4 s5 s6 : Int) (b0 : 0 ≤ s0 ∧ s0 ≤ 1900) (b1 : 0 ≤ s1 ∧ s1 ≤ 950) (b2 : 0 ≤ s2 ∧ s2 ≤ 1900) (b3 : 0 ≤ s3 ∧ s3 ≤ 12) (b4 : 0 ≤ s4 ∧ s4 ≤ 20) (b5 : 0 ≤ s5 ∧ s5 ≤ 4) (b6 : (-1) ≤ s6 ∧ s6 ≤ 600000) (m0 : HP 60 (4096 * s0 + s1) (s3 + 32 * s4 + 1024 * s5) M) (m1 : HP 47 (s0) (s6) M) (m2 : HP 45 (s0) (s2) M) (f0 : 0 ≤ (s6 - 262149)) (f1 : 0 ≤ ((-1) * s6 + 262151)) (hG : gI M) : (HP 66 (s2) (2 : Int) M ∧ True) := by
  obtain ⟨s, h1, hw, ha⟩ := Eq.mp hp_60 m0
  obtain ⟨c1, c2, c3⟩ := qW_o (w := s3) (r := s4) (g := s5) hw (by omega) (by omega) (by omega) (by omega)
  exact ⟨Eq.mpr hp_66 (r_ftk (P := s0) (l := s1) h1 ⟨by omega, by omega, by omega⟩ (q47 m1).2 (q45 m2).2 (by omega) (by rw [if_neg (by omega)])), trivial⟩
theorem rul_603 : Rul r_603 := by
  refine ⟨fun _ ρ M hm hB hF hG => ?_, fun gi gv hg => (by cases hg)⟩
  have H := cr_603 M (ρ 0) (ρ 1) (ρ 2) (ρ 3) (ρ 4) (ρ 5) (ρ 6) (hB _ List.mem_cons_self) (hB _ (List.mem_cons_of_mem _ List.mem_cons_self)) (hB _ (List.mem_cons_of_mem _ (List.mem_cons_of_mem _ List.mem_cons_self))) (hB _ (List.mem_cons_of_mem _ (List.mem_cons_of_mem _ (List.mem_cons_of_mem _ List.mem_cons_self)))) (hB _ (List.mem_cons_of_mem _ (List.mem_cons_of_mem _ (List.mem_cons_of_mem _ (List.mem_cons_of_mem _ List.mem_cons_self))))) (hB _ (List.mem_cons_of_mem _ (List.mem_cons_of_mem _ (List.mem_cons_of_mem _ (List.mem_cons_of_mem _ (List.mem_cons_of_mem _ List.mem_cons_self)))))) (hB _ (List.mem_cons_of_mem _ (List.mem_cons_of_mem _ (List.mem_cons_of_mem _ (List.mem_cons_of_mem _ (List.mem_cons_of_mem _ (List.mem_cons_of_mem _ List.mem_cons_self))))))) (cvp 60 (x' := (4096 * (ρ 0) + (ρ 1))) (y' := ((ρ 3) + 32 * (ρ 4) + 1024 * (ρ 5))) (by show 0 + (4096 * ρ 0 + (1 * ρ 1 + 0)) = _; omega) (by show 0 + (1 * ρ 3 + (32 * ρ 4 + (1024 * ρ 5 + 0))) = _; omega) (hm _ List.mem_cons_self)) (cvp 47 (x' := ((ρ 0))) (y' := ((ρ 6))) (by show 0 + (1 * ρ 0 + 0) = _; omega) (by show 0 + (1 * ρ 6 + 0) = _; omega) (hm _ (List.mem_cons_of_mem _ List.mem_cons_self))) (cvp 45 (x' := ((ρ 0))) (y' := ((ρ 2))) (by show 0 + (1 * ρ 0 + 0) = _; omega) (by show 0 + (1 * ρ 2 + 0) = _; omega) (hm _ (List.mem_cons_of_mem _ (List.mem_cons_of_mem _ List.mem_cons_self)))) (by have h := hF _ List.mem_cons_self; have h : 0 ≤ (-262149) + (1 * ρ 6 + 0) := h; omega) (by have h := hF _ (List.mem_cons_of_mem _ List.mem_cons_self); have h : 0 ≤ 262151 + ((-1) * ρ 6 + 0) := h; omega) hG
  obtain ⟨k0, -⟩ := H
  exact ⟨_, List.mem_cons_self, ρ, fun _ _ => rfl, (okM_c (pvp 66 (by show 0 + (1 * ρ 2 + 0) = _; omega) (by show 2 + 0 = _; omega) k0) okM_n), okB_n, okF_n⟩
-- rftk3_0
theorem cr_604 (M : pM) (s0 s1 s2 s3 s4 s5 s6 : Int) (b0 : 0 ≤ s0 ∧ s0 ≤ 1900) (b1 : 0 ≤ s1 ∧ s1 ≤ 950) (b2 : 0 ≤ s2 ∧ s2 ≤ 1900) (b3 : 0 ≤ s3 ∧ s3 ≤ 12) (b4 : 0 ≤ s4 ∧ s4 ≤ 20) (b5 : 0 ≤ s5 ∧ s5 ≤ 4) (b6 : (-1) ≤ s6 ∧ s6 ≤ 600000) (m0 : HP 60 (4096 * s0 + s1) (s3 + 32 * s4 + 1024 * s5) M) (m1 : HP 47 (s0) (s6) M) (m2 : HP 45 (s0) (s2) M) (f0 : 0 ≤ (s6 - 262155)) (hG : gI M) : (HP 66 (s2) (2 : Int) M ∧ True) := by
  obtain ⟨s, h1, hw, ha⟩ := Eq.mp hp_60 m0
  obtain ⟨c1, c2, c3⟩ := qW_o (w := s3) (r := s4) (g := s5) hw (by omega) (by omega) (by omega) (by omega)
  exact ⟨Eq.mpr hp_66 (r_ftk (P := s0) (l := s1) h1 ⟨by omega, by omega, by omega⟩ (q47 m1).2 (q45 m2).2 (by omega) (by rw [if_neg (by omega)])), trivial⟩
theorem rul_604 : Rul r_604 := by
  refine ⟨fun _ ρ M hm hB hF hG => ?_, fun gi gv hg => (by cases hg)⟩
  have H := cr_604 M (ρ 0) (ρ 1) (ρ 2) (ρ 3) (ρ 4) (ρ 5) (ρ 6) (hB _ List.mem_cons_self) (hB _ (List.mem_cons_of_mem _ List.mem_cons_self)) (hB _ (List.mem_cons_of_mem _ (List.mem_cons_of_mem _ List.mem_cons_self))) (hB _ (List.mem_cons_of_mem _ (List.mem_cons_of_mem _ (List.mem_cons_of_mem _ List.mem_cons_self)))) (hB _ (List.mem_cons_of_mem _ (List.mem_cons_of_mem _ (List.mem_cons_of_mem _ (List.mem_cons_of_mem _ List.mem_cons_self))))) (hB _ (List.mem_cons_of_mem _ (List.mem_cons_of_mem _ (List.mem_cons_of_mem _ (List.mem_cons_of_mem _ (List.mem_cons_of_mem _ List.mem_cons_self)))))) (hB _ (List.mem_cons_of_mem _ (List.mem_cons_of_mem _ (List.mem_cons_of_mem _ (List.mem_cons_of_mem _ (List.mem_cons_of_mem _ (List.mem_cons_of_mem _ List.mem_cons_self))))))) (cvp 60 (x' := (4096 * (ρ 0) + (ρ 1))) (y' := ((ρ 3) + 32 * (ρ 4) + 1024 * (ρ 5))) (by show 0 + (4096 * ρ 0 + (1 * ρ 1 + 0)) = _; omega) (by show 0 + (1 * ρ 3 + (32 * ρ 4 + (1024 * ρ 5 + 0))) = _; omega) (hm _ List.mem_cons_self)) (cvp 47 (x' := ((ρ 0))) (y' := ((ρ 6))) (by show 0 + (1 * ρ 0 + 0) = _; omega) (by show 0 + (1 * ρ 6 + 0) = _; omega) (hm _ (List.mem_cons_of_mem _ List.mem_cons_self))) (cvp 45 (x' := ((ρ 0))) (y' := ((ρ 2))) (by show 0 + (1 * ρ 0 + 0) = _; omega) (by show 0 + (1 * ρ 2 + 0) = _; omega) (hm _ (List.mem_cons_of_mem _ (List.mem_cons_of_mem _ List.mem_cons_self)))) (by have h := hF _ List.mem_cons_self; have h : 0 ≤ (-262155) + (1 * ρ 6 + 0) := h; omega) hG
  obtain ⟨k0, -⟩ := H
  exact ⟨_, List.mem_cons_self, ρ, fun _ _ => rfl, (okM_c (pvp 66 (by show 0 + (1 * ρ 2 + 0) = _; omega) (by show 2 + 0 = _; omega) k0) okM_n), okB_n, okF_n⟩
-- rsemi_0
theorem cr_605 (M : pM) (s0 s1 s2 s3 s4 s5 s6 : Int) (b0 : 0 ≤ s0 ∧ s0 ≤ 1900) (b1 : 0 ≤ s1 ∧ s1 ≤ 950) (b2 : 0 ≤ s2 ∧ s2 ≤ 1900) (b3 : 0 ≤ s3 ∧ s3 ≤ 1900) (b4 : 0 ≤ s4 ∧ s4 ≤ 12) (b5 : 0 ≤ s5 ∧ s5 ≤ 20) (b6 : 0 ≤ s6 ∧ s6 ≤ 4) (m0 : HP 89 (4096 * s0 + s1) (s2) M) (m1 : HP 47 (s2) (524347 : Int) M) (m2 : HP 46 (s2) (s3) M) (m3 : HP 62 (4096 * s0 + s1) (s4 + 32 * s5 + 1024 * s6) M) (hG : gI M) : (HP 60 (s1 + 4096 * s3 + 1) (s4 + 32 * s5 + 1024 * s6) M ∧ 0 ≤ ((-1) * s1 + 949) ∧ True) := by
  obtain ⟨k1, k2⟩ := k_semiR (P := s0) (l := s1) (x' := (s1 + 4096 * s3 + 1)) (Eq.mp hp_62 m3)  (Eq.mp hp_89 m0) (by omega) ⟨by omega, by omega, by omega⟩ (q47 m1).2 (q46 m2).2 (by omega) (by omega)
  exact ⟨Eq.mpr hp_60 k1, by omega, trivial⟩
theorem rul_605 : Rul r_605 := by
  refine ⟨fun _ ρ M hm hB hF hG => ?_, fun gi gv hg => (by cases hg)⟩
  have H := cr_605 M (ρ 0) (ρ 1) (ρ 2) (ρ 3) (ρ 4) (ρ 5) (ρ 6) (hB _ List.mem_cons_self) (hB _ (List.mem_cons_of_mem _ List.mem_cons_self)) (hB _ (List.mem_cons_of_mem _ (List.mem_cons_of_mem _ List.mem_cons_self))) (hB _ (List.mem_cons_of_mem _ (List.mem_cons_of_mem _ (List.mem_cons_of_mem _ List.mem_cons_self)))) (hB _ (List.mem_cons_of_mem _ (List.mem_cons_of_mem _ (List.mem_cons_of_mem _ (List.mem_cons_of_mem _ List.mem_cons_self))))) (hB _ (List.mem_cons_of_mem _ (List.mem_cons_of_mem _ (List.mem_cons_of_mem _ (List.mem_cons_of_mem _ (List.mem_cons_of_mem _ List.mem_cons_self)))))) (hB _ (List.mem_cons_of_mem _ (List.mem_cons_of_mem _ (List.mem_cons_of_mem _ (List.mem_cons_of_mem _ (List.mem_cons_of_mem _ (List.mem_cons_of_mem _ List.mem_cons_self))))))) (cvp 89 (x' := (4096 * (ρ 0) + (ρ 1))) (y' := ((ρ 2))) (by show 0 + (4096 * ρ 0 + (1 * ρ 1 + 0)) = _; omega) (by show 0 + (1 * ρ 2 + 0) = _; omega) (hm _ List.mem_cons_self)) (cvp 47 (x' := ((ρ 2))) (y' := (524347 : Int)) (by show 0 + (1 * ρ 2 + 0) = _; omega) (by show 524347 + 0 = _; omega) (hm _ (List.mem_cons_of_mem _ List.mem_cons_self))) (cvp 46 (x' := ((ρ 2))) (y' := ((ρ 3))) (by show 0 + (1 * ρ 2 + 0) = _; omega) (by show 0 + (1 * ρ 3 + 0) = _; omega) (hm _ (List.mem_cons_of_mem _ (List.mem_cons_of_mem _ List.mem_cons_self)))) (cvp 62 (x' := (4096 * (ρ 0) + (ρ 1))) (y' := ((ρ 4) + 32 * (ρ 5) + 1024 * (ρ 6))) (by show 0 + (4096 * ρ 0 + (1 * ρ 1 + 0)) = _; omega) (by show 0 + (1 * ρ 4 + (32 * ρ 5 + (1024 * ρ 6 + 0))) = _; omega) (hm _ (List.mem_cons_of_mem _ (List.mem_cons_of_mem _ (List.mem_cons_of_mem _ List.mem_cons_self))))) hG
  obtain ⟨k0, f0, -⟩ := H
  exact ⟨_, List.mem_cons_self, ρ, fun _ _ => rfl, (okM_c (pvp 60 (by show 1 + (1 * ρ 1 + (4096 * ρ 3 + 0)) = _; omega) (by show 0 + (1 * ρ 4 + (32 * ρ 5 + (1024 * ρ 6 + 0))) = _; omega) k0) okM_n), okB_n, (okF_c (by show 0 ≤ 949 + ((-1) * ρ 1 + 0); omega) okF_n)⟩
-- rend_0
theorem cr_606 (M : pM) (s0 s1 s2 s3 s4 : Int) (b0 : 0 ≤ s0 ∧ s0 ≤ 1900) (b1 : 0 ≤ s1 ∧ s1 ≤ 950) (b2 : 0 ≤ s2 ∧ s2 ≤ 12) (b3 : 0 ≤ s3 ∧ s3 ≤ 20) (b4 : 0 ≤ s4 ∧ s4 ≤ 4) (m0 : HP 60 (4096 * s0 + s1) (s2 + 32 * s3 + 1024 * s4) M) (m1 : HP 47 (s0) (131071 : Int) M) (m2 : (0 ≤ (0 : Int) ∧ M 65 (0 : Int).toNat = (s2))) (m3 : (0 ≤ (0 : Int) ∧ M 67 (0 : Int).toNat = (s3))) (m4 : (0 ≤ (0 : Int) ∧ M 68 (0 : Int).toNat = (s4))) (hG : gI M) : (HP 64 (s1) (s2 + 32 * s3 + 1024 * s4) M ∧ True) := by
  have f0_ : M 65 0 = s2 := m2.2
  have f1_ : M 67 0 = s3 := m3.2
  have f2_ : M 68 0 = s4 := m4.2
  refine ⟨Eq.mpr hp_64 ⟨l_rend (P := s0) (l := s1) (Eq.mp hp_60 m0) ⟨by omega, by omega, by omega⟩ (q47 m1).2, ?_⟩, trivial⟩
  show _ = M 65 0 + 32 * M 67 0 + 1024 * M 68 0 ∧ (0 ≤ M 65 0 ∧ M 65 0 ≤ 12) ∧ (0 ≤ M 67 0 ∧ M 67 0 ≤ 20) ∧ 0 ≤ M 68 0 ∧ M 68 0 ≤ 4
  rw [show M 65 0 = s2 from f0_]
  rw [show M 67 0 = s3 from f1_]
  rw [show M 68 0 = s4 from f2_]
  omega
theorem rul_606 : Rul r_606 := by
  refine ⟨fun _ ρ M hm hB hF hG => ?_, fun gi gv hg => (by cases hg)⟩
  have H := cr_606 M (ρ 0) (ρ 1) (ρ 2) (ρ 3) (ρ 4) (hB _ List.mem_cons_self) (hB _ (List.mem_cons_of_mem _ List.mem_cons_self)) (hB _ (List.mem_cons_of_mem _ (List.mem_cons_of_mem _ List.mem_cons_self))) (hB _ (List.mem_cons_of_mem _ (List.mem_cons_of_mem _ (List.mem_cons_of_mem _ List.mem_cons_self)))) (hB _ (List.mem_cons_of_mem _ (List.mem_cons_of_mem _ (List.mem_cons_of_mem _ (List.mem_cons_of_mem _ List.mem_cons_self))))) (cvp 60 (x' := (4096 * (ρ 0) + (ρ 1))) (y' := ((ρ 2) + 32 * (ρ 3) + 1024 * (ρ 4))) (by show 0 + (4096 * ρ 0 + (1 * ρ 1 + 0)) = _; omega) (by show 0 + (1 * ρ 2 + (32 * ρ 3 + (1024 * ρ 4 + 0))) = _; omega) (hm _ List.mem_cons_self)) (cvp 47 (x' := ((ρ 0))) (y' := (131071 : Int)) (by show 0 + (1 * ρ 0 + 0) = _; omega) (by show 131071 + 0 = _; omega) (hm _ (List.mem_cons_of_mem _ List.mem_cons_self))) (cvm (c := 65) (by decide) (x' := (0 : Int)) (y' := ((ρ 2))) (by show 0 + 0 = _; omega) (by show 0 + (1 * ρ 2 + 0) = _; omega) (hm _ (List.mem_cons_of_mem _ (List.mem_cons_of_mem _ List.mem_cons_self)))) (cvm (c := 67) (by decide) (x' := (0 : Int)) (y' := ((ρ 3))) (by show 0 + 0 = _; omega) (by show 0 + (1 * ρ 3 + 0) = _; omega) (hm _ (List.mem_cons_of_mem _ (List.mem_cons_of_mem _ (List.mem_cons_of_mem _ List.mem_cons_self))))) (cvm (c := 68) (by decide) (x' := (0 : Int)) (y' := ((ρ 4))) (by show 0 + 0 = _; omega) (by show 0 + (1 * ρ 4 + 0) = _; omega) (hm _ (List.mem_cons_of_mem _ (List.mem_cons_of_mem _ (List.mem_cons_of_mem _ (List.mem_cons_of_mem _ List.mem_cons_self)))))) hG
  obtain ⟨k0, -⟩ := H
  exact ⟨_, List.mem_cons_self, ρ, fun _ _ => rfl, (okM_c (pvp 64 (by show 0 + (1 * ρ 1 + 0) = _; omega) (by show 0 + (1 * ρ 2 + (32 * ρ 3 + (1024 * ρ 4 + 0))) = _; omega) k0) okM_n), okB_n, okF_n⟩
-- rt0_1_0
theorem cr_607 (M : pM) (s0 s1 s2 s3 s4 s5 s6 s7 s8 : Int) (b0 : 0 ≤ s0 ∧ s0 ≤ 1900) (b1 : 0 ≤ s1 ∧ s1 ≤ 950) (b2 : 0 ≤ s2 ∧ s2 ≤ 1900) (b3 : 0 ≤ s3 ∧ s3 ≤ 1900) (b4 : 0 ≤ s4 ∧ s4 ≤ 12) (b5 : 0 ≤ s5 ∧ s5 ≤ 20) (b6 : 0 ≤ s6 ∧ s6 ≤ 4) (b7 : 0 ≤ s7 ∧ s7 ≤ 7) (b8 : 0 ≤ s8 ∧ s8 ≤ 0) (m0 : HP 61 (4096 * s0 + s1) (s4 + 32 * s5 + 1024 * s6) M) (m1 : HP 53 (4096 * s0 + s1) (256 * s2 + 1) M) (m2 : HP 47 (s2) (s7 + 393216) M) (m3 : HP 46 (s2) (s3) M) (m4 : (0 ≤ (s7) ∧ M 84 (s7).toNat = (s8))) (hG : gI M) : (HP 53 (4096 * s0 + s1) (256 * s3 + 2) M ∧ HP 79 (16 * s0 + 1) (s7) M ∧ True) := by
  obtain ⟨S, hS, hw, ha⟩ := Eq.mp hp_61 m0
  have hr : M 84 s7.toNat = S.2 15 s7.toNat := ha.2.2.2.2.2.2.2.2.2.2.1 s7.toNat (by omega)
  rw [m4.2] at hr
  have hc : ∀ s : Nat × pM, qat (tm M) (4096 * s0 + s1) s → tK (tm M) (qps (tm M) s.1 1) = (s7 + 393216) → qck (tm M) s.1 s.2 0 1 = none := by
    intro s hs e
    have es := qat_u hS hs
    have ev : qvl (tm M) s.1 1 = s7 := by unfold qvl; omega
    show qcN 0 7 (qtd (s.2 15 (qvl (tm M) s.1 1).toNat)) (tK (tm M) (qps (tm M) s.1 1)) = _
    rw [e, qcN_x (by omega) (by omega), ev, es]
    exact qtd_0 (by omega)
  exact ⟨r_ex (K := 0) (j := 0) m1 m2 m3 ⟨by omega, by omega, by decide⟩ (by omega) (by decide) (fun s hs hE e => hc s hs e), r_va (P := s0) (l := s1) (K := 0) (j := 0) m1 m2 ⟨by omega, by omega, by omega⟩ ⟨by omega, by omega, by decide⟩ (by omega) (by omega), trivial⟩
theorem rul_607 : Rul r_607 := by
  refine ⟨fun _ ρ M hm hB hF hG => ?_, fun gi gv hg => (by cases hg)⟩
  have H := cr_607 M (ρ 0) (ρ 1) (ρ 2) (ρ 3) (ρ 4) (ρ 5) (ρ 6) (ρ 7) (ρ 8) (hB _ List.mem_cons_self) (hB _ (List.mem_cons_of_mem _ List.mem_cons_self)) (hB _ (List.mem_cons_of_mem _ (List.mem_cons_of_mem _ List.mem_cons_self))) (hB _ (List.mem_cons_of_mem _ (List.mem_cons_of_mem _ (List.mem_cons_of_mem _ List.mem_cons_self)))) (hB _ (List.mem_cons_of_mem _ (List.mem_cons_of_mem _ (List.mem_cons_of_mem _ (List.mem_cons_of_mem _ List.mem_cons_self))))) (hB _ (List.mem_cons_of_mem _ (List.mem_cons_of_mem _ (List.mem_cons_of_mem _ (List.mem_cons_of_mem _ (List.mem_cons_of_mem _ List.mem_cons_self)))))) (hB _ (List.mem_cons_of_mem _ (List.mem_cons_of_mem _ (List.mem_cons_of_mem _ (List.mem_cons_of_mem _ (List.mem_cons_of_mem _ (List.mem_cons_of_mem _ List.mem_cons_self))))))) (hB _ (List.mem_cons_of_mem _ (List.mem_cons_of_mem _ (List.mem_cons_of_mem _ (List.mem_cons_of_mem _ (List.mem_cons_of_mem _ (List.mem_cons_of_mem _ (List.mem_cons_of_mem _ List.mem_cons_self)))))))) (hB _ (List.mem_cons_of_mem _ (List.mem_cons_of_mem _ (List.mem_cons_of_mem _ (List.mem_cons_of_mem _ (List.mem_cons_of_mem _ (List.mem_cons_of_mem _ (List.mem_cons_of_mem _ (List.mem_cons_of_mem _ List.mem_cons_self))))))))) (cvp 61 (x' := (4096 * (ρ 0) + (ρ 1))) (y' := ((ρ 4) + 32 * (ρ 5) + 1024 * (ρ 6))) (by show 0 + (4096 * ρ 0 + (1 * ρ 1 + 0)) = _; omega) (by show 0 + (1 * ρ 4 + (32 * ρ 5 + (1024 * ρ 6 + 0))) = _; omega) (hm _ List.mem_cons_self)) (cvp 53 (x' := (4096 * (ρ 0) + (ρ 1))) (y' := (256 * (ρ 2) + 1)) (by show 0 + (4096 * ρ 0 + (1 * ρ 1 + 0)) = _; omega) (by show 1 + (256 * ρ 2 + 0) = _; omega) (hm _ (List.mem_cons_of_mem _ List.mem_cons_self))) (cvp 47 (x' := ((ρ 2))) (y' := ((ρ 7) + 393216)) (by show 0 + (1 * ρ 2 + 0) = _; omega) (by show 393216 + (1 * ρ 7 + 0) = _; omega) (hm _ (List.mem_cons_of_mem _ (List.mem_cons_of_mem _ List.mem_cons_self)))) (cvp 46 (x' := ((ρ 2))) (y' := ((ρ 3))) (by show 0 + (1 * ρ 2 + 0) = _; omega) (by show 0 + (1 * ρ 3 + 0) = _; omega) (hm _ (List.mem_cons_of_mem _ (List.mem_cons_of_mem _ (List.mem_cons_of_mem _ List.mem_cons_self))))) (cvm (c := 84) (by decide) (x' := ((ρ 7))) (y' := ((ρ 8))) (by show 0 + (1 * ρ 7 + 0) = _; omega) (by show 0 + (1 * ρ 8 + 0) = _; omega) (hm _ (List.mem_cons_of_mem _ (List.mem_cons_of_mem _ (List.mem_cons_of_mem _ (List.mem_cons_of_mem _ List.mem_cons_self)))))) hG
  obtain ⟨k0, k1, -⟩ := H
  exact ⟨_, List.mem_cons_self, ρ, fun _ _ => rfl, (okM_c (pvp 53 (by show 0 + (4096 * ρ 0 + (1 * ρ 1 + 0)) = _; omega) (by show 2 + (256 * ρ 3 + 0) = _; omega) k0) (okM_c (pvp 79 (by show 1 + (16 * ρ 0 + 0) = _; omega) (by show 0 + (1 * ρ 7 + 0) = _; omega) k1) okM_n)), okB_n, okF_n⟩
-- rt1_1_0
theorem cr_608 (M : pM) (s0 s1 s2 s3 s4 s5 s6 s7 s8 s9 s10 : Int) (b0 : 0 ≤ s0 ∧ s0 ≤ 1900) (b1 : 0 ≤ s1 ∧ s1 ≤ 950) (b2 : 0 ≤ s2 ∧ s2 ≤ 1900) (b3 : 0 ≤ s3 ∧ s3 ≤ 1900) (b4 : 0 ≤ s4 ∧ s4 ≤ 12) (b5 : 0 ≤ s5 ∧ s5 ≤ 20) (b6 : 0 ≤ s6 ∧ s6 ≤ 4) (b7 : 0 ≤ s7 ∧ s7 ≤ 7) (b8 : 0 ≤ s8 ∧ s8 ≤ 0) (b9 : 262143 ≤ s9 ∧ s9 ≤ 262168) (b10 : 0 ≤ s10 ∧ s10 ≤ 1900) (m0 : HP 61 (4096 * s0 + s1) (s4 + 32 * s5 + 1024 * s6) M) (m1 : HP 53 (4096 * s0 + s1) (256 * s2 + 17) M) (m2 : HP 47 (s2) (s9) M) (m3 : HP 45 (s2) (s3) M) (m4 : HP 46 (s2) (s10) M) (m5 : (0 ≤ (s3) ∧ M 1 (s3).toNat = (s7 + 97))) (m6 : (0 ≤ (s7) ∧ M 85 (s7).toNat = (s8))) (f0 : 0 ≤ (s3 + (-1) * s10 + 1)) (f1 : 0 ≤ ((-1) * s3 + s10 - 1)) (hG : gI M) : (HP 53 (4096 * s0 + s1) (256 * s10 + 18) M ∧ HP 87 (s0) (s7) M ∧ True) := by
  obtain ⟨S, hS, hw, hA⟩ := Eq.mp hp_61 m0
  have hf : M 85 s7.toNat = S.2 16 s7.toNat := hA.2.2.2.2.2.2.2.2.2.2.2.1 s7.toNat (by omega)
  rw [m6.2] at hf
  obtain ⟨S2, hS2, hE2⟩ := ex_o (K := 1) (j := 0) (a := s2) (Eq.mp hp_53 m1) ⟨by omega, by omega, by decide, by decide⟩
  have ha2 : s2 = (qps (tm M) S2.1 1 : Int) := hE2.2.2.2.2
  have ha : qps (tm M) S2.1 1 = s2.toNat := by omega
  have g1 := (q45 m3).2
  have g2 := (q46 m4).2
  have hr := rd1 m5 (by omega)
  have hl : qlt (tm M) S2.1 1 0 = 97 + s7 := by unfold qlt; rw [ha, show tS (tm M) s2.toNat + 0 = s3.toNat by omega, hr]; omega
  have hc : ∀ s : Nat × pM, qat (tm M) (4096 * s0 + s1) s → tK (tm M) (qps (tm M) s.1 1) = s9 → qck (tm M) s.1 s.2 1 1 = none := by
    intro s hs e
    have es := qat_u hS hs
    have e2 := qat_u hS2 hs
    subst e2
    show qcW (if qsz (tm M) s.1 1 = 1 ∧ qgr (tm M) (tS (tm M) (qps (tm M) s.1 1)) 1 = true then qtd (s.2 16 (qlt (tm M) s.1 1 0 - 97).toNat) else some 4) (tK (tm M) (qps (tm M) s.1 1)) = _
    rw [e, qcW_x (by omega), if_pos ⟨by unfold qsz; rw [ha]; omega, qgr_i (fun i hi => by rw [ha, show tS (tm M) s2.toNat + i = s3.toNat by omega, hr]; omega)⟩, hl, show (97 + s7 - 97).toNat = s7.toNat by omega, es]
    exact qtd_0 (by omega)
  exact ⟨r_ex (K := 1) (j := 0) m1 m2 m4 ⟨by omega, by omega, by decide⟩ (by omega) (by decide) (fun s hs hE e => hc s hs e), Eq.mpr hp_87 ⟨by omega, by rw [show s0.toNat = S2.1 by have := qat_p (P := s0) (l := s1) hS2 ⟨by omega, by omega, by omega⟩; omega]; exact hl⟩, trivial⟩
theorem rul_608 : Rul r_608 := by
  refine ⟨fun _ ρ M hm hB hF hG => ?_, fun gi gv hg => (by cases hg)⟩
  have H := cr_608 M (ρ 0) (ρ 1) (ρ 2) (ρ 3) (ρ 4) (ρ 5) (ρ 6) (ρ 7) (ρ 8) (ρ 9) (ρ 10) (hB _ List.mem_cons_self) (hB _ (List.mem_cons_of_mem _ List.mem_cons_self)) (hB _ (List.mem_cons_of_mem _ (List.mem_cons_of_mem _ List.mem_cons_self))) (hB _ (List.mem_cons_of_mem _ (List.mem_cons_of_mem _ (List.mem_cons_of_mem _ List.mem_cons_self)))) (hB _ (List.mem_cons_of_mem _ (List.mem_cons_of_mem _ (List.mem_cons_of_mem _ (List.mem_cons_of_mem _ List.mem_cons_self))))) (hB _ (List.mem_cons_of_mem _ (List.mem_cons_of_mem _ (List.mem_cons_of_mem _ (List.mem_cons_of_mem _ (List.mem_cons_of_mem _ List.mem_cons_self)))))) (hB _ (List.mem_cons_of_mem _ (List.mem_cons_of_mem _ (List.mem_cons_of_mem _ (List.mem_cons_of_mem _ (List.mem_cons_of_mem _ (List.mem_cons_of_mem _ List.mem_cons_self))))))) (hB _ (List.mem_cons_of_mem _ (List.mem_cons_of_mem _ (List.mem_cons_of_mem _ (List.mem_cons_of_mem _ (List.mem_cons_of_mem _ (List.mem_cons_of_mem _ (List.mem_cons_of_mem _ List.mem_cons_self)))))))) (hB _ (List.mem_cons_of_mem _ (List.mem_cons_of_mem _ (List.mem_cons_of_mem _ (List.mem_cons_of_mem _ (List.mem_cons_of_mem _ (List.mem_cons_of_mem _ (List.mem_cons_of_mem _ (List.mem_cons_of_mem _ List.mem_cons_self))))))))) (hB _ (List.mem_cons_of_mem _ (List.mem_cons_of_mem _ (List.mem_cons_of_mem _ (List.mem_cons_of_mem _ (List.mem_cons_of_mem _ (List.mem_cons_of_mem _ (List.mem_cons_of_mem _ (List.mem_cons_of_mem _ (List.mem_cons_of_mem _ List.mem_cons_self)))))))))) (hB _ (List.mem_cons_of_mem _ (List.mem_cons_of_mem _ (List.mem_cons_of_mem _ (List.mem_cons_of_mem _ (List.mem_cons_of_mem _ (List.mem_cons_of_mem _ (List.mem_cons_of_mem _ (List.mem_cons_of_mem _ (List.mem_cons_of_mem _ (List.mem_cons_of_mem _ List.mem_cons_self))))))))))) (cvp 61 (x' := (4096 * (ρ 0) + (ρ 1))) (y' := ((ρ 4) + 32 * (ρ 5) + 1024 * (ρ 6))) (by show 0 + (4096 * ρ 0 + (1 * ρ 1 + 0)) = _; omega) (by show 0 + (1 * ρ 4 + (32 * ρ 5 + (1024 * ρ 6 + 0))) = _; omega) (hm _ List.mem_cons_self)) (cvp 53 (x' := (4096 * (ρ 0) + (ρ 1))) (y' := (256 * (ρ 2) + 17)) (by show 0 + (4096 * ρ 0 + (1 * ρ 1 + 0)) = _; omega) (by show 17 + (256 * ρ 2 + 0) = _; omega) (hm _ (List.mem_cons_of_mem _ List.mem_cons_self))) (cvp 47 (x' := ((ρ 2))) (y' := ((ρ 9))) (by show 0 + (1 * ρ 2 + 0) = _; omega) (by show 0 + (1 * ρ 9 + 0) = _; omega) (hm _ (List.mem_cons_of_mem _ (List.mem_cons_of_mem _ List.mem_cons_self)))) (cvp 45 (x' := ((ρ 2))) (y' := ((ρ 3))) (by show 0 + (1 * ρ 2 + 0) = _; omega) (by show 0 + (1 * ρ 3 + 0) = _; omega) (hm _ (List.mem_cons_of_mem _ (List.mem_cons_of_mem _ (List.mem_cons_of_mem _ List.mem_cons_self))))) (cvp 46 (x' := ((ρ 2))) (y' := ((ρ 10))) (by show 0 + (1 * ρ 2 + 0) = _; omega) (by show 0 + (1 * ρ 10 + 0) = _; omega) (hm _ (List.mem_cons_of_mem _ (List.mem_cons_of_mem _ (List.mem_cons_of_mem _ (List.mem_cons_of_mem _ List.mem_cons_self)))))) (cvm (c := 1) (by decide) (x' := ((ρ 3))) (y' := ((ρ 7) + 97)) (by show 0 + (1 * ρ 3 + 0) = _; omega) (by show 97 + (1 * ρ 7 + 0) = _; omega) (hm _ (List.mem_cons_of_mem _ (List.mem_cons_of_mem _ (List.mem_cons_of_mem _ (List.mem_cons_of_mem _ (List.mem_cons_of_mem _ List.mem_cons_self))))))) (cvm (c := 85) (by decide) (x' := ((ρ 7))) (y' := ((ρ 8))) (by show 0 + (1 * ρ 7 + 0) = _; omega) (by show 0 + (1 * ρ 8 + 0) = _; omega) (hm _ (List.mem_cons_of_mem _ (List.mem_cons_of_mem _ (List.mem_cons_of_mem _ (List.mem_cons_of_mem _ (List.mem_cons_of_mem _ (List.mem_cons_of_mem _ List.mem_cons_self)))))))) (by have h := hF _ List.mem_cons_self; have h : 0 ≤ 1 + (1 * ρ 3 + ((-1) * ρ 10 + 0)) := h; omega) (by have h := hF _ (List.mem_cons_of_mem _ List.mem_cons_self); have h : 0 ≤ (-1) + ((-1) * ρ 3 + (1 * ρ 10 + 0)) := h; omega) hG
  obtain ⟨k0, k1, -⟩ := H
  exact ⟨_, List.mem_cons_self, ρ, fun _ _ => rfl, (okM_c (pvp 53 (by show 0 + (4096 * ρ 0 + (1 * ρ 1 + 0)) = _; omega) (by show 18 + (256 * ρ 10 + 0) = _; omega) k0) (okM_c (pvp 87 (by show 0 + (1 * ρ 0 + 0) = _; omega) (by show 0 + (1 * ρ 7 + 0) = _; omega) k1) okM_n)), okB_n, okF_n⟩
-- rt2_1_0
theorem cr_609 (M : pM) (s0 s1 s2 s3 s4 s5 s6 s7 s8 : Int) (b0 : 0 ≤ s0 ∧ s0 ≤ 1900) (b1 : 0 ≤ s1 ∧ s1 ≤ 950) (b2 : 0 ≤ s2 ∧ s2 ≤ 1900) (b3 : 0 ≤ s3 ∧ s3 ≤ 1900) (b4 : 0 ≤ s4 ∧ s4 ≤ 12) (b5 : 0 ≤ s5 ∧ s5 ≤ 20) (b6 : 0 ≤ s6 ∧ s6 ≤ 4) (b7 : 0 ≤ s7 ∧ s7 ≤ 5) (b8 : (-1) ≤ s8 ∧ s8 ≤ (-1)) (m0 : HP 61 (4096 * s0 + s1) (s4 + 32 * s5 + 1024 * s6) M) (m1 : HP 53 (4096 * s0 + s1) (256 * s2 + 33) M) (m2 : HP 47 (s2) (s7 + 393216) M) (m3 : HP 46 (s2) (s3) M) (m4 : (0 ≤ (s7 + 6) ∧ M 71 (s7 + 6).toNat = (s8))) (hG : gI M) : (HP 53 (4096 * s0 + s1) (256 * s3 + 34) M ∧ HP 79 (16 * s0 + 1) (s7) M ∧ True) := by
  obtain ⟨S, hS, hw, ha⟩ := Eq.mp hp_61 m0
  have hr : M 71 (6 + s7.toNat) = S.2 3 s7.toNat := ha.2.2.1 s7.toNat (by omega)
  have hv := m4.2
  rw [show (s7 + 6).toNat = 6 + s7.toNat by omega] at hv
  have hs0 : S.2 3 s7.toNat = s8 := by rw [← hr]; exact hv
  have hc : ∀ s : Nat × pM, qat (tm M) (4096 * s0 + s1) s → tK (tm M) (qps (tm M) s.1 1) = (s7 + 393216) → qck (tm M) s.1 s.2 2 1 = none := by
    intro s hs e
    have es := qat_u hS hs
    have ev : qvl (tm M) s.1 1 = s7 := by unfold qvl; omega
    show qcN 0 5 (if 0 ≤ s.2 3 (qvl (tm M) s.1 1).toNat then some 3 else none) (tK (tm M) (qps (tm M) s.1 1)) = _
    rw [e, qcN_x (by omega) (by omega), ev, es]
    exact if_neg (by omega)
  exact ⟨r_ex (K := 2) (j := 0) m1 m2 m3 ⟨by omega, by omega, by decide⟩ (by omega) (by decide) (fun s hs hE e => hc s hs e), r_va (P := s0) (l := s1) (K := 2) (j := 0) m1 m2 ⟨by omega, by omega, by omega⟩ ⟨by omega, by omega, by decide⟩ (by omega) (by omega), trivial⟩
theorem rul_609 : Rul r_609 := by
  refine ⟨fun _ ρ M hm hB hF hG => ?_, fun gi gv hg => (by cases hg)⟩
  have H := cr_609 M (ρ 0) (ρ 1) (ρ 2) (ρ 3) (ρ 4) (ρ 5) (ρ 6) (ρ 7) (ρ 8) (hB _ List.mem_cons_self) (hB _ (List.mem_cons_of_mem _ List.mem_cons_self)) (hB _ (List.mem_cons_of_mem _ (List.mem_cons_of_mem _ List.mem_cons_self))) (hB _ (List.mem_cons_of_mem _ (List.mem_cons_of_mem _ (List.mem_cons_of_mem _ List.mem_cons_self)))) (hB _ (List.mem_cons_of_mem _ (List.mem_cons_of_mem _ (List.mem_cons_of_mem _ (List.mem_cons_of_mem _ List.mem_cons_self))))) (hB _ (List.mem_cons_of_mem _ (List.mem_cons_of_mem _ (List.mem_cons_of_mem _ (List.mem_cons_of_mem _ (List.mem_cons_of_mem _ List.mem_cons_self)))))) (hB _ (List.mem_cons_of_mem _ (List.mem_cons_of_mem _ (List.mem_cons_of_mem _ (List.mem_cons_of_mem _ (List.mem_cons_of_mem _ (List.mem_cons_of_mem _ List.mem_cons_self))))))) (hB _ (List.mem_cons_of_mem _ (List.mem_cons_of_mem _ (List.mem_cons_of_mem _ (List.mem_cons_of_mem _ (List.mem_cons_of_mem _ (List.mem_cons_of_mem _ (List.mem_cons_of_mem _ List.mem_cons_self)))))))) (hB _ (List.mem_cons_of_mem _ (List.mem_cons_of_mem _ (List.mem_cons_of_mem _ (List.mem_cons_of_mem _ (List.mem_cons_of_mem _ (List.mem_cons_of_mem _ (List.mem_cons_of_mem _ (List.mem_cons_of_mem _ List.mem_cons_self))))))))) (cvp 61 (x' := (4096 * (ρ 0) + (ρ 1))) (y' := ((ρ 4) + 32 * (ρ 5) + 1024 * (ρ 6))) (by show 0 + (4096 * ρ 0 + (1 * ρ 1 + 0)) = _; omega) (by show 0 + (1 * ρ 4 + (32 * ρ 5 + (1024 * ρ 6 + 0))) = _; omega) (hm _ List.mem_cons_self)) (cvp 53 (x' := (4096 * (ρ 0) + (ρ 1))) (y' := (256 * (ρ 2) + 33)) (by show 0 + (4096 * ρ 0 + (1 * ρ 1 + 0)) = _; omega) (by show 33 + (256 * ρ 2 + 0) = _; omega) (hm _ (List.mem_cons_of_mem _ List.mem_cons_self))) (cvp 47 (x' := ((ρ 2))) (y' := ((ρ 7) + 393216)) (by show 0 + (1 * ρ 2 + 0) = _; omega) (by show 393216 + (1 * ρ 7 + 0) = _; omega) (hm _ (List.mem_cons_of_mem _ (List.mem_cons_of_mem _ List.mem_cons_self)))) (cvp 46 (x' := ((ρ 2))) (y' := ((ρ 3))) (by show 0 + (1 * ρ 2 + 0) = _; omega) (by show 0 + (1 * ρ 3 + 0) = _; omega) (hm _ (List.mem_cons_of_mem _ (List.mem_cons_of_mem _ (List.mem_cons_of_mem _ List.mem_cons_self))))) (cvm (c := 71) (by decide) (x' := ((ρ 7) + 6)) (y' := ((ρ 8))) (by show 6 + (1 * ρ 7 + 0) = _; omega) (by show 0 + (1 * ρ 8 + 0) = _; omega) (hm _ (List.mem_cons_of_mem _ (List.mem_cons_of_mem _ (List.mem_cons_of_mem _ (List.mem_cons_of_mem _ List.mem_cons_self)))))) hG
  obtain ⟨k0, k1, -⟩ := H
  exact ⟨_, List.mem_cons_self, ρ, fun _ _ => rfl, (okM_c (pvp 53 (by show 0 + (4096 * ρ 0 + (1 * ρ 1 + 0)) = _; omega) (by show 34 + (256 * ρ 3 + 0) = _; omega) k0) (okM_c (pvp 79 (by show 1 + (16 * ρ 0 + 0) = _; omega) (by show 0 + (1 * ρ 7 + 0) = _; omega) k1) okM_n)), okB_n, okF_n⟩
-- rt3_1_0
theorem cr_610 (M : pM) (s0 s1 s2 s3 s4 s5 s6 s7 s8 : Int) (b0 : 0 ≤ s0 ∧ s0 ≤ 1900) (b1 : 0 ≤ s1 ∧ s1 ≤ 950) (b2 : 0 ≤ s2 ∧ s2 ≤ 1900) (b3 : 0 ≤ s3 ∧ s3 ≤ 1900) (b4 : 0 ≤ s4 ∧ s4 ≤ 12) (b5 : 0 ≤ s5 ∧ s5 ≤ 20) (b6 : 0 ≤ s6 ∧ s6 ≤ 4) (b7 : 0 ≤ s7 ∧ s7 ≤ 5) (b8 : (-1) ≤ s8 ∧ s8 ≤ (-1)) (m0 : HP 61 (4096 * s0 + s1) (s4 + 32 * s5 + 1024 * s6) M) (m1 : HP 53 (4096 * s0 + s1) (256 * s2 + 49) M) (m2 : HP 47 (s2) (s7 + 393216) M) (m3 : HP 46 (s2) (s3) M) (m4 : (0 ≤ (s7 + 6) ∧ M 73 (s7 + 6).toNat = (s8))) (hG : gI M) : (HP 53 (4096 * s0 + s1) (256 * s3 + 50) M ∧ HP 79 (16 * s0 + 1) (s7) M ∧ True) := by
  obtain ⟨S, hS, hw, ha⟩ := Eq.mp hp_61 m0
  have hr : M 73 (6 + s7.toNat) = S.2 5 s7.toNat := ha.2.2.2.2.1 s7.toNat (by omega)
  have hv := m4.2
  rw [show (s7 + 6).toNat = 6 + s7.toNat by omega] at hv
  have hs0 : S.2 5 s7.toNat = s8 := by rw [← hr]; exact hv
  have hc : ∀ s : Nat × pM, qat (tm M) (4096 * s0 + s1) s → tK (tm M) (qps (tm M) s.1 1) = (s7 + 393216) → qck (tm M) s.1 s.2 3 1 = none := by
    intro s hs e
    have es := qat_u hS hs
    have ev : qvl (tm M) s.1 1 = s7 := by unfold qvl; omega
    show qcN 0 5 (if 0 ≤ s.2 5 (qvl (tm M) s.1 1).toNat then some 3 else none) (tK (tm M) (qps (tm M) s.1 1)) = _
    rw [e, qcN_x (by omega) (by omega), ev, es]
    exact if_neg (by omega)
  exact ⟨r_ex (K := 3) (j := 0) m1 m2 m3 ⟨by omega, by omega, by decide⟩ (by omega) (by decide) (fun s hs hE e => hc s hs e), r_va (P := s0) (l := s1) (K := 3) (j := 0) m1 m2 ⟨by omega, by omega, by omega⟩ ⟨by omega, by omega, by decide⟩ (by omega) (by omega), trivial⟩
theorem rul_610 : Rul r_610 := by
  refine ⟨fun _ ρ M hm hB hF hG => ?_, fun gi gv hg => (by cases hg)⟩
  have H := cr_610 M (ρ 0) (ρ 1) (ρ 2) (ρ 3) (ρ 4) (ρ 5) (ρ 6) (ρ 7) (ρ 8) (hB _ List.mem_cons_self) (hB _ (List.mem_cons_of_mem _ List.mem_cons_self)) (hB _ (List.mem_cons_of_mem _ (List.mem_cons_of_mem _ List.mem_cons_self))) (hB _ (List.mem_cons_of_mem _ (List.mem_cons_of_mem _ (List.mem_cons_of_mem _ List.mem_cons_self)))) (hB _ (List.mem_cons_of_mem _ (List.mem_cons_of_mem _ (List.mem_cons_of_mem _ (List.mem_cons_of_mem _ List.mem_cons_self))))) (hB _ (List.mem_cons_of_mem _ (List.mem_cons_of_mem _ (List.mem_cons_of_mem _ (List.mem_cons_of_mem _ (List.mem_cons_of_mem _ List.mem_cons_self)))))) (hB _ (List.mem_cons_of_mem _ (List.mem_cons_of_mem _ (List.mem_cons_of_mem _ (List.mem_cons_of_mem _ (List.mem_cons_of_mem _ (List.mem_cons_of_mem _ List.mem_cons_self))))))) (hB _ (List.mem_cons_of_mem _ (List.mem_cons_of_mem _ (List.mem_cons_of_mem _ (List.mem_cons_of_mem _ (List.mem_cons_of_mem _ (List.mem_cons_of_mem _ (List.mem_cons_of_mem _ List.mem_cons_self)))))))) (hB _ (List.mem_cons_of_mem _ (List.mem_cons_of_mem _ (List.mem_cons_of_mem _ (List.mem_cons_of_mem _ (List.mem_cons_of_mem _ (List.mem_cons_of_mem _ (List.mem_cons_of_mem _ (List.mem_cons_of_mem _ List.mem_cons_self))))))))) (cvp 61 (x' := (4096 * (ρ 0) + (ρ 1))) (y' := ((ρ 4) + 32 * (ρ 5) + 1024 * (ρ 6))) (by show 0 + (4096 * ρ 0 + (1 * ρ 1 + 0)) = _; omega) (by show 0 + (1 * ρ 4 + (32 * ρ 5 + (1024 * ρ 6 + 0))) = _; omega) (hm _ List.mem_cons_self)) (cvp 53 (x' := (4096 * (ρ 0) + (ρ 1))) (y' := (256 * (ρ 2) + 49)) (by show 0 + (4096 * ρ 0 + (1 * ρ 1 + 0)) = _; omega) (by show 49 + (256 * ρ 2 + 0) = _; omega) (hm _ (List.mem_cons_of_mem _ List.mem_cons_self))) (cvp 47 (x' := ((ρ 2))) (y' := ((ρ 7) + 393216)) (by show 0 + (1 * ρ 2 + 0) = _; omega) (by show 393216 + (1 * ρ 7 + 0) = _; omega) (hm _ (List.mem_cons_of_mem _ (List.mem_cons_of_mem _ List.mem_cons_self)))) (cvp 46 (x' := ((ρ 2))) (y' := ((ρ 3))) (by show 0 + (1 * ρ 2 + 0) = _; omega) (by show 0 + (1 * ρ 3 + 0) = _; omega) (hm _ (List.mem_cons_of_mem _ (List.mem_cons_of_mem _ (List.mem_cons_of_mem _ List.mem_cons_self))))) (cvm (c := 73) (by decide) (x' := ((ρ 7) + 6)) (y' := ((ρ 8))) (by show 6 + (1 * ρ 7 + 0) = _; omega) (by show 0 + (1 * ρ 8 + 0) = _; omega) (hm _ (List.mem_cons_of_mem _ (List.mem_cons_of_mem _ (List.mem_cons_of_mem _ (List.mem_cons_of_mem _ List.mem_cons_self)))))) hG
  obtain ⟨k0, k1, -⟩ := H
  exact ⟨_, List.mem_cons_self, ρ, fun _ _ => rfl, (okM_c (pvp 53 (by show 0 + (4096 * ρ 0 + (1 * ρ 1 + 0)) = _; omega) (by show 50 + (256 * ρ 3 + 0) = _; omega) k0) (okM_c (pvp 79 (by show 1 + (16 * ρ 0 + 0) = _; omega) (by show 0 + (1 * ρ 7 + 0) = _; omega) k1) okM_n)), okB_n, okF_n⟩
-- rt8_1_0
theorem cr_611 (M : pM) (s0 s1 s2 s3 s4 s5 s6 s7 s8 s9 : Int) (b0 : 0 ≤ s0 ∧ s0 ≤ 1900) (b1 : 0 ≤ s1 ∧ s1 ≤ 950) (b2 : 0 ≤ s2 ∧ s2 ≤ 1900) (b3 : 0 ≤ s3 ∧ s3 ≤ 1900) (b4 : 0 ≤ s4 ∧ s4 ≤ 12) (b5 : 0 ≤ s5 ∧ s5 ≤ 20) (b6 : 0 ≤ s6 ∧ s6 ≤ 4) (b7 : 0 ≤ s7 ∧ s7 ≤ 7) (b8 : 0 ≤ s8 ∧ s8 ≤ 7) (b9 : 0 ≤ s9 ∧ s9 ≤ 0) (m0 : HP 61 (4096 * s0 + s1) (s4 + 32 * s5 + 1024 * s6) M) (m1 : HP 53 (4096 * s0 + s1) (256 * s2 + 130) M) (m2 : HP 47 (s2) (s8 + 393216) M) (m3 : HP 46 (s2) (s3) M) (m4 : HP 79 (16 * s0 + 1) (s7) M) (m5 : (0 ≤ (s7 + 8 * s8 + 64) ∧ M 86 (s7 + 8 * s8 + 64).toNat = (s9))) (hG : gI M) : (HP 53 (4096 * s0 + s1) (256 * s3 + 131) M ∧ HP 79 (16 * s0 + 2) (s8) M ∧ True) := by
  obtain ⟨S, hS, hw, ha⟩ := Eq.mp hp_61 m0
  have hf : M 86 (64 + (s7 + 8 * s8).toNat) = S.2 17 (s7 + 8 * s8).toNat := ha.2.2.2.2.2.2.2.2.2.2.2.2 (s7 + 8 * s8).toNat (by omega)
  have hv := m5.2
  rw [show (s7 + 8 * s8 + 64).toNat = 64 + (s7 + 8 * s8).toNat by omega, hf] at hv
  have hc : ∀ s : Nat × pM, qat (tm M) (4096 * s0 + s1) s → tK (tm M) (qps (tm M) s.1 2) = (s8 + 393216) → qck (tm M) s.1 s.2 8 2 = none := by
    intro s hs e
    have es := qat_u hS hs
    have hp : s0.toNat = s.1 := by have := qat_p (P := s0) (l := s1) hs ⟨by omega, by omega, by omega⟩; omega
    have e1 := q79 (P := s0) (i := 1) m4 ⟨by omega, by decide⟩ (by omega)
    rw [hp] at e1
    have ev : qvl (tm M) s.1 2 = s8 := by unfold qvl; omega
    show qcN 0 7 (qtd (s.2 17 (qvl (tm M) s.1 1 + 8 * qvl (tm M) s.1 2).toNat)) (tK (tm M) (qps (tm M) s.1 2)) = _
    rw [e, qcN_x (by omega) (by omega), ev, ← e1, es]
    exact qtd_0 (by omega)
  exact ⟨r_ex (K := 8) (j := 1) m1 m2 m3 ⟨by omega, by omega, by decide⟩ (by omega) (by decide) (fun s hs hE e => hc s hs e), r_va (P := s0) (l := s1) (K := 8) (j := 1) m1 m2 ⟨by omega, by omega, by omega⟩ ⟨by omega, by omega, by decide⟩ (by omega) (by omega), trivial⟩
theorem rul_611 : Rul r_611 := by
  refine ⟨fun _ ρ M hm hB hF hG => ?_, fun gi gv hg => (by cases hg)⟩
  have H := cr_611 M (ρ 0) (ρ 1) (ρ 2) (ρ 3) (ρ 4) (ρ 5) (ρ 6) (ρ 7) (ρ 8) (ρ 9) (hB _ List.mem_cons_self) (hB _ (List.mem_cons_of_mem _ List.mem_cons_self)) (hB _ (List.mem_cons_of_mem _ (List.mem_cons_of_mem _ List.mem_cons_self))) (hB _ (List.mem_cons_of_mem _ (List.mem_cons_of_mem _ (List.mem_cons_of_mem _ List.mem_cons_self)))) (hB _ (List.mem_cons_of_mem _ (List.mem_cons_of_mem _ (List.mem_cons_of_mem _ (List.mem_cons_of_mem _ List.mem_cons_self))))) (hB _ (List.mem_cons_of_mem _ (List.mem_cons_of_mem _ (List.mem_cons_of_mem _ (List.mem_cons_of_mem _ (List.mem_cons_of_mem _ List.mem_cons_self)))))) (hB _ (List.mem_cons_of_mem _ (List.mem_cons_of_mem _ (List.mem_cons_of_mem _ (List.mem_cons_of_mem _ (List.mem_cons_of_mem _ (List.mem_cons_of_mem _ List.mem_cons_self))))))) (hB _ (List.mem_cons_of_mem _ (List.mem_cons_of_mem _ (List.mem_cons_of_mem _ (List.mem_cons_of_mem _ (List.mem_cons_of_mem _ (List.mem_cons_of_mem _ (List.mem_cons_of_mem _ List.mem_cons_self)))))))) (hB _ (List.mem_cons_of_mem _ (List.mem_cons_of_mem _ (List.mem_cons_of_mem _ (List.mem_cons_of_mem _ (List.mem_cons_of_mem _ (List.mem_cons_of_mem _ (List.mem_cons_of_mem _ (List.mem_cons_of_mem _ List.mem_cons_self))))))))) (hB _ (List.mem_cons_of_mem _ (List.mem_cons_of_mem _ (List.mem_cons_of_mem _ (List.mem_cons_of_mem _ (List.mem_cons_of_mem _ (List.mem_cons_of_mem _ (List.mem_cons_of_mem _ (List.mem_cons_of_mem _ (List.mem_cons_of_mem _ List.mem_cons_self)))))))))) (cvp 61 (x' := (4096 * (ρ 0) + (ρ 1))) (y' := ((ρ 4) + 32 * (ρ 5) + 1024 * (ρ 6))) (by show 0 + (4096 * ρ 0 + (1 * ρ 1 + 0)) = _; omega) (by show 0 + (1 * ρ 4 + (32 * ρ 5 + (1024 * ρ 6 + 0))) = _; omega) (hm _ List.mem_cons_self)) (cvp 53 (x' := (4096 * (ρ 0) + (ρ 1))) (y' := (256 * (ρ 2) + 130)) (by show 0 + (4096 * ρ 0 + (1 * ρ 1 + 0)) = _; omega) (by show 130 + (256 * ρ 2 + 0) = _; omega) (hm _ (List.mem_cons_of_mem _ List.mem_cons_self))) (cvp 47 (x' := ((ρ 2))) (y' := ((ρ 8) + 393216)) (by show 0 + (1 * ρ 2 + 0) = _; omega) (by show 393216 + (1 * ρ 8 + 0) = _; omega) (hm _ (List.mem_cons_of_mem _ (List.mem_cons_of_mem _ List.mem_cons_self)))) (cvp 46 (x' := ((ρ 2))) (y' := ((ρ 3))) (by show 0 + (1 * ρ 2 + 0) = _; omega) (by show 0 + (1 * ρ 3 + 0) = _; omega) (hm _ (List.mem_cons_of_mem _ (List.mem_cons_of_mem _ (List.mem_cons_of_mem _ List.mem_cons_self))))) (cvp 79 (x' := (16 * (ρ 0) + 1)) (y' := ((ρ 7))) (by show 1 + (16 * ρ 0 + 0) = _; omega) (by show 0 + (1 * ρ 7 + 0) = _; omega) (hm _ (List.mem_cons_of_mem _ (List.mem_cons_of_mem _ (List.mem_cons_of_mem _ (List.mem_cons_of_mem _ List.mem_cons_self)))))) (cvm (c := 86) (by decide) (x' := ((ρ 7) + 8 * (ρ 8) + 64)) (y' := ((ρ 9))) (by show 64 + (1 * ρ 7 + (8 * ρ 8 + 0)) = _; omega) (by show 0 + (1 * ρ 9 + 0) = _; omega) (hm _ (List.mem_cons_of_mem _ (List.mem_cons_of_mem _ (List.mem_cons_of_mem _ (List.mem_cons_of_mem _ (List.mem_cons_of_mem _ List.mem_cons_self))))))) hG
  obtain ⟨k0, k1, -⟩ := H
  exact ⟨_, List.mem_cons_self, ρ, fun _ _ => rfl, (okM_c (pvp 53 (by show 0 + (4096 * ρ 0 + (1 * ρ 1 + 0)) = _; omega) (by show 131 + (256 * ρ 3 + 0) = _; omega) k0) (okM_c (pvp 79 (by show 2 + (16 * ρ 0 + 0) = _; omega) (by show 0 + (1 * ρ 8 + 0) = _; omega) k1) okM_n)), okB_n, okF_n⟩
-- rt0_1_1
theorem cr_612 (M : pM) (s0 s1 s2 s3 s4 s5 s6 s7 s8 : Int) (b0 : 0 ≤ s0 ∧ s0 ≤ 1900) (b1 : 0 ≤ s1 ∧ s1 ≤ 950) (b2 : 0 ≤ s2 ∧ s2 ≤ 1900) (b3 : 0 ≤ s3 ∧ s3 ≤ 1900) (b4 : 0 ≤ s4 ∧ s4 ≤ 12) (b5 : 0 ≤ s5 ∧ s5 ≤ 20) (b6 : 0 ≤ s6 ∧ s6 ≤ 4) (b7 : 0 ≤ s7 ∧ s7 ≤ 7) (b8 : 1 ≤ s8 ∧ s8 ≤ 1) (m0 : HP 61 (4096 * s0 + s1) (s4 + 32 * s5 + 1024 * s6) M) (m1 : HP 53 (4096 * s0 + s1) (256 * s2 + 1) M) (m2 : HP 47 (s2) (s7 + 393216) M) (m3 : HP 45 (s2) (s3) M) (m4 : (0 ≤ (s7) ∧ M 84 (s7).toNat = (s8))) (hG : gI M) : (HP 66 (s3) (3 : Int) M ∧ True) := by
  obtain ⟨S, hS, hw, ha⟩ := Eq.mp hp_61 m0
  have hr : M 84 s7.toNat = S.2 15 s7.toNat := ha.2.2.2.2.2.2.2.2.2.2.1 s7.toNat (by omega)
  rw [m4.2] at hr
  have hc : ∀ s : Nat × pM, qat (tm M) (4096 * s0 + s1) s → tK (tm M) (qps (tm M) s.1 1) = (s7 + 393216) → qck (tm M) s.1 s.2 0 1 = some 3 := by
    intro s hs e
    have es := qat_u hS hs
    have ev : qvl (tm M) s.1 1 = s7 := by unfold qvl; omega
    show qcN 0 7 (qtd (s.2 15 (qvl (tm M) s.1 1).toNat)) (tK (tm M) (qps (tm M) s.1 1)) = _
    rw [e, qcN_x (by omega) (by omega), ev, es]
    exact qtd_1 (by omega)
  exact ⟨r_fl (K := 0) (j := 0) m1 m2 m3 ⟨by omega, by omega, by decide⟩ (fun s hs hE e => hc s hs e), trivial⟩
theorem rul_612 : Rul r_612 := by
  refine ⟨fun _ ρ M hm hB hF hG => ?_, fun gi gv hg => (by cases hg)⟩
  have H := cr_612 M (ρ 0) (ρ 1) (ρ 2) (ρ 3) (ρ 4) (ρ 5) (ρ 6) (ρ 7) (ρ 8) (hB _ List.mem_cons_self) (hB _ (List.mem_cons_of_mem _ List.mem_cons_self)) (hB _ (List.mem_cons_of_mem _ (List.mem_cons_of_mem _ List.mem_cons_self))) (hB _ (List.mem_cons_of_mem _ (List.mem_cons_of_mem _ (List.mem_cons_of_mem _ List.mem_cons_self)))) (hB _ (List.mem_cons_of_mem _ (List.mem_cons_of_mem _ (List.mem_cons_of_mem _ (List.mem_cons_of_mem _ List.mem_cons_self))))) (hB _ (List.mem_cons_of_mem _ (List.mem_cons_of_mem _ (List.mem_cons_of_mem _ (List.mem_cons_of_mem _ (List.mem_cons_of_mem _ List.mem_cons_self)))))) (hB _ (List.mem_cons_of_mem _ (List.mem_cons_of_mem _ (List.mem_cons_of_mem _ (List.mem_cons_of_mem _ (List.mem_cons_of_mem _ (List.mem_cons_of_mem _ List.mem_cons_self))))))) (hB _ (List.mem_cons_of_mem _ (List.mem_cons_of_mem _ (List.mem_cons_of_mem _ (List.mem_cons_of_mem _ (List.mem_cons_of_mem _ (List.mem_cons_of_mem _ (List.mem_cons_of_mem _ List.mem_cons_self)))))))) (hB _ (List.mem_cons_of_mem _ (List.mem_cons_of_mem _ (List.mem_cons_of_mem _ (List.mem_cons_of_mem _ (List.mem_cons_of_mem _ (List.mem_cons_of_mem _ (List.mem_cons_of_mem _ (List.mem_cons_of_mem _ List.mem_cons_self))))))))) (cvp 61 (x' := (4096 * (ρ 0) + (ρ 1))) (y' := ((ρ 4) + 32 * (ρ 5) + 1024 * (ρ 6))) (by show 0 + (4096 * ρ 0 + (1 * ρ 1 + 0)) = _; omega) (by show 0 + (1 * ρ 4 + (32 * ρ 5 + (1024 * ρ 6 + 0))) = _; omega) (hm _ List.mem_cons_self)) (cvp 53 (x' := (4096 * (ρ 0) + (ρ 1))) (y' := (256 * (ρ 2) + 1)) (by show 0 + (4096 * ρ 0 + (1 * ρ 1 + 0)) = _; omega) (by show 1 + (256 * ρ 2 + 0) = _; omega) (hm _ (List.mem_cons_of_mem _ List.mem_cons_self))) (cvp 47 (x' := ((ρ 2))) (y' := ((ρ 7) + 393216)) (by show 0 + (1 * ρ 2 + 0) = _; omega) (by show 393216 + (1 * ρ 7 + 0) = _; omega) (hm _ (List.mem_cons_of_mem _ (List.mem_cons_of_mem _ List.mem_cons_self)))) (cvp 45 (x' := ((ρ 2))) (y' := ((ρ 3))) (by show 0 + (1 * ρ 2 + 0) = _; omega) (by show 0 + (1 * ρ 3 + 0) = _; omega) (hm _ (List.mem_cons_of_mem _ (List.mem_cons_of_mem _ (List.mem_cons_of_mem _ List.mem_cons_self))))) (cvm (c := 84) (by decide) (x' := ((ρ 7))) (y' := ((ρ 8))) (by show 0 + (1 * ρ 7 + 0) = _; omega) (by show 0 + (1 * ρ 8 + 0) = _; omega) (hm _ (List.mem_cons_of_mem _ (List.mem_cons_of_mem _ (List.mem_cons_of_mem _ (List.mem_cons_of_mem _ List.mem_cons_self)))))) hG
  obtain ⟨k0, -⟩ := H
  exact ⟨_, List.mem_cons_self, ρ, fun _ _ => rfl, (okM_c (pvp 66 (by show 0 + (1 * ρ 3 + 0) = _; omega) (by show 3 + 0 = _; omega) k0) okM_n), okB_n, okF_n⟩
-- rt1_1_1
theorem cr_613 (M : pM) (s0 s1 s2 s3 s4 s5 s6 s7 s8 s9 s10 : Int) (b0 : 0 ≤ s0 ∧ s0 ≤ 1900) (b1 : 0 ≤ s1 ∧ s1 ≤ 950) (b2 : 0 ≤ s2 ∧ s2 ≤ 1900) (b3 : 0 ≤ s3 ∧ s3 ≤ 1900) (b4 : 0 ≤ s4 ∧ s4 ≤ 12) (b5 : 0 ≤ s5 ∧ s5 ≤ 20) (b6 : 0 ≤ s6 ∧ s6 ≤ 4) (b7 : 0 ≤ s7 ∧ s7 ≤ 7) (b8 : 1 ≤ s8 ∧ s8 ≤ 1) (b9 : 262143 ≤ s9 ∧ s9 ≤ 262168) (b10 : 0 ≤ s10 ∧ s10 ≤ 1900) (m0 : HP 61 (4096 * s0 + s1) (s4 + 32 * s5 + 1024 * s6) M) (m1 : HP 53 (4096 * s0 + s1) (256 * s2 + 17) M) (m2 : HP 47 (s2) (s9) M) (m3 : HP 45 (s2) (s3) M) (m4 : HP 46 (s2) (s10) M) (m5 : (0 ≤ (s3) ∧ M 1 (s3).toNat = (s7 + 97))) (m6 : (0 ≤ (s7) ∧ M 85 (s7).toNat = (s8))) (f0 : 0 ≤ (s3 + (-1) * s10 + 1)) (f1 : 0 ≤ ((-1) * s3 + s10 - 1)) (hG : gI M) : (HP 66 (s3) (3 : Int) M ∧ True) := by
  obtain ⟨S, hS, hw, hA⟩ := Eq.mp hp_61 m0
  have hf : M 85 s7.toNat = S.2 16 s7.toNat := hA.2.2.2.2.2.2.2.2.2.2.2.1 s7.toNat (by omega)
  rw [m6.2] at hf
  obtain ⟨S2, hS2, hE2⟩ := ex_o (K := 1) (j := 0) (a := s2) (Eq.mp hp_53 m1) ⟨by omega, by omega, by decide, by decide⟩
  have ha2 : s2 = (qps (tm M) S2.1 1 : Int) := hE2.2.2.2.2
  have ha : qps (tm M) S2.1 1 = s2.toNat := by omega
  have g1 := (q45 m3).2
  have g2 := (q46 m4).2
  have hr := rd1 m5 (by omega)
  have hl : qlt (tm M) S2.1 1 0 = 97 + s7 := by unfold qlt; rw [ha, show tS (tm M) s2.toNat + 0 = s3.toNat by omega, hr]; omega
  have hc : ∀ s : Nat × pM, qat (tm M) (4096 * s0 + s1) s → tK (tm M) (qps (tm M) s.1 1) = s9 → qck (tm M) s.1 s.2 1 1 = some 3 := by
    intro s hs e
    have es := qat_u hS hs
    have e2 := qat_u hS2 hs
    subst e2
    show qcW (if qsz (tm M) s.1 1 = 1 ∧ qgr (tm M) (tS (tm M) (qps (tm M) s.1 1)) 1 = true then qtd (s.2 16 (qlt (tm M) s.1 1 0 - 97).toNat) else some 4) (tK (tm M) (qps (tm M) s.1 1)) = _
    rw [e, qcW_x (by omega), if_pos ⟨by unfold qsz; rw [ha]; omega, qgr_i (fun i hi => by rw [ha, show tS (tm M) s2.toNat + i = s3.toNat by omega, hr]; omega)⟩, hl, show (97 + s7 - 97).toNat = s7.toNat by omega, es]
    exact qtd_1 (by omega)
  exact ⟨r_fl (K := 1) (j := 0) m1 m2 m3 ⟨by omega, by omega, by decide⟩ (fun s hs hE e => hc s hs e), trivial⟩
theorem rul_613 : Rul r_613 := by
  refine ⟨fun _ ρ M hm hB hF hG => ?_, fun gi gv hg => (by cases hg)⟩
  have H := cr_613 M (ρ 0) (ρ 1) (ρ 2) (ρ 3) (ρ 4) (ρ 5) (ρ 6) (ρ 7) (ρ 8) (ρ 9) (ρ 10) (hB _ List.mem_cons_self) (hB _ (List.mem_cons_of_mem _ List.mem_cons_self)) (hB _ (List.mem_cons_of_mem _ (List.mem_cons_of_mem _ List.mem_cons_self))) (hB _ (List.mem_cons_of_mem _ (List.mem_cons_of_mem _ (List.mem_cons_of_mem _ List.mem_cons_self)))) (hB _ (List.mem_cons_of_mem _ (List.mem_cons_of_mem _ (List.mem_cons_of_mem _ (List.mem_cons_of_mem _ List.mem_cons_self))))) (hB _ (List.mem_cons_of_mem _ (List.mem_cons_of_mem _ (List.mem_cons_of_mem _ (List.mem_cons_of_mem _ (List.mem_cons_of_mem _ List.mem_cons_self)))))) (hB _ (List.mem_cons_of_mem _ (List.mem_cons_of_mem _ (List.mem_cons_of_mem _ (List.mem_cons_of_mem _ (List.mem_cons_of_mem _ (List.mem_cons_of_mem _ List.mem_cons_self))))))) (hB _ (List.mem_cons_of_mem _ (List.mem_cons_of_mem _ (List.mem_cons_of_mem _ (List.mem_cons_of_mem _ (List.mem_cons_of_mem _ (List.mem_cons_of_mem _ (List.mem_cons_of_mem _ List.mem_cons_self)))))))) (hB _ (List.mem_cons_of_mem _ (List.mem_cons_of_mem _ (List.mem_cons_of_mem _ (List.mem_cons_of_mem _ (List.mem_cons_of_mem _ (List.mem_cons_of_mem _ (List.mem_cons_of_mem _ (List.mem_cons_of_mem _ List.mem_cons_self))))))))) (hB _ (List.mem_cons_of_mem _ (List.mem_cons_of_mem _ (List.mem_cons_of_mem _ (List.mem_cons_of_mem _ (List.mem_cons_of_mem _ (List.mem_cons_of_mem _ (List.mem_cons_of_mem _ (List.mem_cons_of_mem _ (List.mem_cons_of_mem _ List.mem_cons_self)))))))))) (hB _ (List.mem_cons_of_mem _ (List.mem_cons_of_mem _ (List.mem_cons_of_mem _ (List.mem_cons_of_mem _ (List.mem_cons_of_mem _ (List.mem_cons_of_mem _ (List.mem_cons_of_mem _ (List.mem_cons_of_mem _ (List.mem_cons_of_mem _ (List.mem_cons_of_mem _ List.mem_cons_self))))))))))) (cvp 61 (x' := (4096 * (ρ 0) + (ρ 1))) (y' := ((ρ 4) + 32 * (ρ 5) + 1024 * (ρ 6))) (by show 0 + (4096 * ρ 0 + (1 * ρ 1 + 0)) = _; omega) (by show 0 + (1 * ρ 4 + (32 * ρ 5 + (1024 * ρ 6 + 0))) = _; omega) (hm _ List.mem_cons_self)) (cvp 53 (x' := (4096 * (ρ 0) + (ρ 1))) (y' := (256 * (ρ 2) + 17)) (by show 0 + (4096 * ρ 0 + (1 * ρ 1 + 0)) = _; omega) (by show 17 + (256 * ρ 2 + 0) = _; omega) (hm _ (List.mem_cons_of_mem _ List.mem_cons_self))) (cvp 47 (x' := ((ρ 2))) (y' := ((ρ 9))) (by show 0 + (1 * ρ 2 + 0) = _; omega) (by show 0 + (1 * ρ 9 + 0) = _; omega) (hm _ (List.mem_cons_of_mem _ (List.mem_cons_of_mem _ List.mem_cons_self)))) (cvp 45 (x' := ((ρ 2))) (y' := ((ρ 3))) (by show 0 + (1 * ρ 2 + 0) = _; omega) (by show 0 + (1 * ρ 3 + 0) = _; omega) (hm _ (List.mem_cons_of_mem _ (List.mem_cons_of_mem _ (List.mem_cons_of_mem _ List.mem_cons_self))))) (cvp 46 (x' := ((ρ 2))) (y' := ((ρ 10))) (by show 0 + (1 * ρ 2 + 0) = _; omega) (by show 0 + (1 * ρ 10 + 0) = _; omega) (hm _ (List.mem_cons_of_mem _ (List.mem_cons_of_mem _ (List.mem_cons_of_mem _ (List.mem_cons_of_mem _ List.mem_cons_self)))))) (cvm (c := 1) (by decide) (x' := ((ρ 3))) (y' := ((ρ 7) + 97)) (by show 0 + (1 * ρ 3 + 0) = _; omega) (by show 97 + (1 * ρ 7 + 0) = _; omega) (hm _ (List.mem_cons_of_mem _ (List.mem_cons_of_mem _ (List.mem_cons_of_mem _ (List.mem_cons_of_mem _ (List.mem_cons_of_mem _ List.mem_cons_self))))))) (cvm (c := 85) (by decide) (x' := ((ρ 7))) (y' := ((ρ 8))) (by show 0 + (1 * ρ 7 + 0) = _; omega) (by show 0 + (1 * ρ 8 + 0) = _; omega) (hm _ (List.mem_cons_of_mem _ (List.mem_cons_of_mem _ (List.mem_cons_of_mem _ (List.mem_cons_of_mem _ (List.mem_cons_of_mem _ (List.mem_cons_of_mem _ List.mem_cons_self)))))))) (by have h := hF _ List.mem_cons_self; have h : 0 ≤ 1 + (1 * ρ 3 + ((-1) * ρ 10 + 0)) := h; omega) (by have h := hF _ (List.mem_cons_of_mem _ List.mem_cons_self); have h : 0 ≤ (-1) + ((-1) * ρ 3 + (1 * ρ 10 + 0)) := h; omega) hG
  obtain ⟨k0, -⟩ := H
  exact ⟨_, List.mem_cons_self, ρ, fun _ _ => rfl, (okM_c (pvp 66 (by show 0 + (1 * ρ 3 + 0) = _; omega) (by show 3 + 0 = _; omega) k0) okM_n), okB_n, okF_n⟩
-- rt2_1_1
theorem cr_614 (M : pM) (s0 s1 s2 s3 s4 s5 s6 s7 s8 : Int) (b0 : 0 ≤ s0 ∧ s0 ≤ 1900) (b1 : 0 ≤ s1 ∧ s1 ≤ 950) (b2 : 0 ≤ s2 ∧ s2 ≤ 1900) (b3 : 0 ≤ s3 ∧ s3 ≤ 1900) (b4 : 0 ≤ s4 ∧ s4 ≤ 12) (b5 : 0 ≤ s5 ∧ s5 ≤ 20) (b6 : 0 ≤ s6 ∧ s6 ≤ 4) (b7 : 0 ≤ s7 ∧ s7 ≤ 5) (b8 : 0 ≤ s8 ∧ s8 ≤ 40) (m0 : HP 61 (4096 * s0 + s1) (s4 + 32 * s5 + 1024 * s6) M) (m1 : HP 53 (4096 * s0 + s1) (256 * s2 + 33) M) (m2 : HP 47 (s2) (s7 + 393216) M) (m3 : HP 45 (s2) (s3) M) (m4 : (0 ≤ (s7 + 6) ∧ M 71 (s7 + 6).toNat = (s8))) (hG : gI M) : (HP 66 (s3) (3 : Int) M ∧ True) := by
  obtain ⟨S, hS, hw, ha⟩ := Eq.mp hp_61 m0
  have hr : M 71 (6 + s7.toNat) = S.2 3 s7.toNat := ha.2.2.1 s7.toNat (by omega)
  have hv := m4.2
  rw [show (s7 + 6).toNat = 6 + s7.toNat by omega] at hv
  have hs0 : S.2 3 s7.toNat = s8 := by rw [← hr]; exact hv
  have hc : ∀ s : Nat × pM, qat (tm M) (4096 * s0 + s1) s → tK (tm M) (qps (tm M) s.1 1) = (s7 + 393216) → qck (tm M) s.1 s.2 2 1 = some 3 := by
    intro s hs e
    have es := qat_u hS hs
    have ev : qvl (tm M) s.1 1 = s7 := by unfold qvl; omega
    show qcN 0 5 (if 0 ≤ s.2 3 (qvl (tm M) s.1 1).toNat then some 3 else none) (tK (tm M) (qps (tm M) s.1 1)) = _
    rw [e, qcN_x (by omega) (by omega), ev, es]
    exact if_pos (by omega)
  exact ⟨r_fl (K := 2) (j := 0) m1 m2 m3 ⟨by omega, by omega, by decide⟩ (fun s hs hE e => hc s hs e), trivial⟩
theorem rul_614 : Rul r_614 := by
  refine ⟨fun _ ρ M hm hB hF hG => ?_, fun gi gv hg => (by cases hg)⟩
  have H := cr_614 M (ρ 0) (ρ 1) (ρ 2) (ρ 3) (ρ 4) (ρ 5) (ρ 6) (ρ 7) (ρ 8) (hB _ List.mem_cons_self) (hB _ (List.mem_cons_of_mem _ List.mem_cons_self)) (hB _ (List.mem_cons_of_mem _ (List.mem_cons_of_mem _ List.mem_cons_self))) (hB _ (List.mem_cons_of_mem _ (List.mem_cons_of_mem _ (List.mem_cons_of_mem _ List.mem_cons_self)))) (hB _ (List.mem_cons_of_mem _ (List.mem_cons_of_mem _ (List.mem_cons_of_mem _ (List.mem_cons_of_mem _ List.mem_cons_self))))) (hB _ (List.mem_cons_of_mem _ (List.mem_cons_of_mem _ (List.mem_cons_of_mem _ (List.mem_cons_of_mem _ (List.mem_cons_of_mem _ List.mem_cons_self)))))) (hB _ (List.mem_cons_of_mem _ (List.mem_cons_of_mem _ (List.mem_cons_of_mem _ (List.mem_cons_of_mem _ (List.mem_cons_of_mem _ (List.mem_cons_of_mem _ List.mem_cons_self))))))) (hB _ (List.mem_cons_of_mem _ (List.mem_cons_of_mem _ (List.mem_cons_of_mem _ (List.mem_cons_of_mem _ (List.mem_cons_of_mem _ (List.mem_cons_of_mem _ (List.mem_cons_of_mem _ List.mem_cons_self)))))))) (hB _ (List.mem_cons_of_mem _ (List.mem_cons_of_mem _ (List.mem_cons_of_mem _ (List.mem_cons_of_mem _ (List.mem_cons_of_mem _ (List.mem_cons_of_mem _ (List.mem_cons_of_mem _ (List.mem_cons_of_mem _ List.mem_cons_self))))))))) (cvp 61 (x' := (4096 * (ρ 0) + (ρ 1))) (y' := ((ρ 4) + 32 * (ρ 5) + 1024 * (ρ 6))) (by show 0 + (4096 * ρ 0 + (1 * ρ 1 + 0)) = _; omega) (by show 0 + (1 * ρ 4 + (32 * ρ 5 + (1024 * ρ 6 + 0))) = _; omega) (hm _ List.mem_cons_self)) (cvp 53 (x' := (4096 * (ρ 0) + (ρ 1))) (y' := (256 * (ρ 2) + 33)) (by show 0 + (4096 * ρ 0 + (1 * ρ 1 + 0)) = _; omega) (by show 33 + (256 * ρ 2 + 0) = _; omega) (hm _ (List.mem_cons_of_mem _ List.mem_cons_self))) (cvp 47 (x' := ((ρ 2))) (y' := ((ρ 7) + 393216)) (by show 0 + (1 * ρ 2 + 0) = _; omega) (by show 393216 + (1 * ρ 7 + 0) = _; omega) (hm _ (List.mem_cons_of_mem _ (List.mem_cons_of_mem _ List.mem_cons_self)))) (cvp 45 (x' := ((ρ 2))) (y' := ((ρ 3))) (by show 0 + (1 * ρ 2 + 0) = _; omega) (by show 0 + (1 * ρ 3 + 0) = _; omega) (hm _ (List.mem_cons_of_mem _ (List.mem_cons_of_mem _ (List.mem_cons_of_mem _ List.mem_cons_self))))) (cvm (c := 71) (by decide) (x' := ((ρ 7) + 6)) (y' := ((ρ 8))) (by show 6 + (1 * ρ 7 + 0) = _; omega) (by show 0 + (1 * ρ 8 + 0) = _; omega) (hm _ (List.mem_cons_of_mem _ (List.mem_cons_of_mem _ (List.mem_cons_of_mem _ (List.mem_cons_of_mem _ List.mem_cons_self)))))) hG
  obtain ⟨k0, -⟩ := H
  exact ⟨_, List.mem_cons_self, ρ, fun _ _ => rfl, (okM_c (pvp 66 (by show 0 + (1 * ρ 3 + 0) = _; omega) (by show 3 + 0 = _; omega) k0) okM_n), okB_n, okF_n⟩
-- rt3_1_1
theorem cr_615 (M : pM) (s0 s1 s2 s3 s4 s5 s6 s7 s8 : Int) (b0 : 0 ≤ s0 ∧ s0 ≤ 1900) (b1 : 0 ≤ s1 ∧ s1 ≤ 950) (b2 : 0 ≤ s2 ∧ s2 ≤ 1900) (b3 : 0 ≤ s3 ∧ s3 ≤ 1900) (b4 : 0 ≤ s4 ∧ s4 ≤ 12) (b5 : 0 ≤ s5 ∧ s5 ≤ 20) (b6 : 0 ≤ s6 ∧ s6 ≤ 4) (b7 : 0 ≤ s7 ∧ s7 ≤ 5) (b8 : 0 ≤ s8 ∧ s8 ≤ 40) (m0 : HP 61 (4096 * s0 + s1) (s4 + 32 * s5 + 1024 * s6) M) (m1 : HP 53 (4096 * s0 + s1) (256 * s2 + 49) M) (m2 : HP 47 (s2) (s7 + 393216) M) (m3 : HP 45 (s2) (s3) M) (m4 : (0 ≤ (s7 + 6) ∧ M 73 (s7 + 6).toNat = (s8))) (hG : gI M) : (HP 66 (s3) (3 : Int) M ∧ True) := by
  obtain ⟨S, hS, hw, ha⟩ := Eq.mp hp_61 m0
  have hr : M 73 (6 + s7.toNat) = S.2 5 s7.toNat := ha.2.2.2.2.1 s7.toNat (by omega)
  have hv := m4.2
  rw [show (s7 + 6).toNat = 6 + s7.toNat by omega] at hv
  have hs0 : S.2 5 s7.toNat = s8 := by rw [← hr]; exact hv
  have hc : ∀ s : Nat × pM, qat (tm M) (4096 * s0 + s1) s → tK (tm M) (qps (tm M) s.1 1) = (s7 + 393216) → qck (tm M) s.1 s.2 3 1 = some 3 := by
    intro s hs e
    have es := qat_u hS hs
    have ev : qvl (tm M) s.1 1 = s7 := by unfold qvl; omega
    show qcN 0 5 (if 0 ≤ s.2 5 (qvl (tm M) s.1 1).toNat then some 3 else none) (tK (tm M) (qps (tm M) s.1 1)) = _
    rw [e, qcN_x (by omega) (by omega), ev, es]
    exact if_pos (by omega)
  exact ⟨r_fl (K := 3) (j := 0) m1 m2 m3 ⟨by omega, by omega, by decide⟩ (fun s hs hE e => hc s hs e), trivial⟩
theorem rul_615 : Rul r_615 := by
  refine ⟨fun _ ρ M hm hB hF hG => ?_, fun gi gv hg => (by cases hg)⟩
  have H := cr_615 M (ρ 0) (ρ 1) (ρ 2) (ρ 3) (ρ 4) (ρ 5) (ρ 6) (ρ 7) (ρ 8) (hB _ List.mem_cons_self) (hB _ (List.mem_cons_of_mem _ List.mem_cons_self)) (hB _ (List.mem_cons_of_mem _ (List.mem_cons_of_mem _ List.mem_cons_self))) (hB _ (List.mem_cons_of_mem _ (List.mem_cons_of_mem _ (List.mem_cons_of_mem _ List.mem_cons_self)))) (hB _ (List.mem_cons_of_mem _ (List.mem_cons_of_mem _ (List.mem_cons_of_mem _ (List.mem_cons_of_mem _ List.mem_cons_self))))) (hB _ (List.mem_cons_of_mem _ (List.mem_cons_of_mem _ (List.mem_cons_of_mem _ (List.mem_cons_of_mem _ (List.mem_cons_of_mem _ List.mem_cons_self)))))) (hB _ (List.mem_cons_of_mem _ (List.mem_cons_of_mem _ (List.mem_cons_of_mem _ (List.mem_cons_of_mem _ (List.mem_cons_of_mem _ (List.mem_cons_of_mem _ List.mem_cons_self))))))) (hB _ (List.mem_cons_of_mem _ (List.mem_cons_of_mem _ (List.mem_cons_of_mem _ (List.mem_cons_of_mem _ (List.mem_cons_of_mem _ (List.mem_cons_of_mem _ (List.mem_cons_of_mem _ List.mem_cons_self)))))))) (hB _ (List.mem_cons_of_mem _ (List.mem_cons_of_mem _ (List.mem_cons_of_mem _ (List.mem_cons_of_mem _ (List.mem_cons_of_mem _ (List.mem_cons_of_mem _ (List.mem_cons_of_mem _ (List.mem_cons_of_mem _ List.mem_cons_self))))))))) (cvp 61 (x' := (4096 * (ρ 0) + (ρ 1))) (y' := ((ρ 4) + 32 * (ρ 5) + 1024 * (ρ 6))) (by show 0 + (4096 * ρ 0 + (1 * ρ 1 + 0)) = _; omega) (by show 0 + (1 * ρ 4 + (32 * ρ 5 + (1024 * ρ 6 + 0))) = _; omega) (hm _ List.mem_cons_self)) (cvp 53 (x' := (4096 * (ρ 0) + (ρ 1))) (y' := (256 * (ρ 2) + 49)) (by show 0 + (4096 * ρ 0 + (1 * ρ 1 + 0)) = _; omega) (by show 49 + (256 * ρ 2 + 0) = _; omega) (hm _ (List.mem_cons_of_mem _ List.mem_cons_self))) (cvp 47 (x' := ((ρ 2))) (y' := ((ρ 7) + 393216)) (by show 0 + (1 * ρ 2 + 0) = _; omega) (by show 393216 + (1 * ρ 7 + 0) = _; omega) (hm _ (List.mem_cons_of_mem _ (List.mem_cons_of_mem _ List.mem_cons_self)))) (cvp 45 (x' := ((ρ 2))) (y' := ((ρ 3))) (by show 0 + (1 * ρ 2 + 0) = _; omega) (by show 0 + (1 * ρ 3 + 0) = _; omega) (hm _ (List.mem_cons_of_mem _ (List.mem_cons_of_mem _ (List.mem_cons_of_mem _ List.mem_cons_self))))) (cvm (c := 73) (by decide) (x' := ((ρ 7) + 6)) (y' := ((ρ 8))) (by show 6 + (1 * ρ 7 + 0) = _; omega) (by show 0 + (1 * ρ 8 + 0) = _; omega) (hm _ (List.mem_cons_of_mem _ (List.mem_cons_of_mem _ (List.mem_cons_of_mem _ (List.mem_cons_of_mem _ List.mem_cons_self)))))) hG
  obtain ⟨k0, -⟩ := H
  exact ⟨_, List.mem_cons_self, ρ, fun _ _ => rfl, (okM_c (pvp 66 (by show 0 + (1 * ρ 3 + 0) = _; omega) (by show 3 + 0 = _; omega) k0) okM_n), okB_n, okF_n⟩
-- rt8_1_1
theorem cr_616 (M : pM) (s0 s1 s2 s3 s4 s5 s6 s7 s8 s9 : Int) (b0 : 0 ≤ s0 ∧ s0 ≤ 1900) (b1 : 0 ≤ s1 ∧ s1 ≤ 950) (b2 : 0 ≤ s2 ∧ s2 ≤ 1900) (b3 : 0 ≤ s3 ∧ s3 ≤ 1900) (b4 : 0 ≤ s4 ∧ s4 ≤ 12) (b5 : 0 ≤ s5 ∧ s5 ≤ 20) (b6 : 0 ≤ s6 ∧ s6 ≤ 4) (b7 : 0 ≤ s7 ∧ s7 ≤ 7) (b8 : 0 ≤ s8 ∧ s8 ≤ 7) (b9 : 1 ≤ s9 ∧ s9 ≤ 1) (m0 : HP 61 (4096 * s0 + s1) (s4 + 32 * s5 + 1024 * s6) M) (m1 : HP 53 (4096 * s0 + s1) (256 * s2 + 130) M) (m2 : HP 47 (s2) (s8 + 393216) M) (m3 : HP 45 (s2) (s3) M) (m4 : HP 79 (16 * s0 + 1) (s7) M) (m5 : (0 ≤ (s7 + 8 * s8 + 64) ∧ M 86 (s7 + 8 * s8 + 64).toNat = (s9))) (hG : gI M) : (HP 66 (s3) (3 : Int) M ∧ True) := by
  obtain ⟨S, hS, hw, ha⟩ := Eq.mp hp_61 m0
  have hf : M 86 (64 + (s7 + 8 * s8).toNat) = S.2 17 (s7 + 8 * s8).toNat := ha.2.2.2.2.2.2.2.2.2.2.2.2 (s7 + 8 * s8).toNat (by omega)
  have hv := m5.2
  rw [show (s7 + 8 * s8 + 64).toNat = 64 + (s7 + 8 * s8).toNat by omega, hf] at hv
  have hc : ∀ s : Nat × pM, qat (tm M) (4096 * s0 + s1) s → tK (tm M) (qps (tm M) s.1 2) = (s8 + 393216) → qck (tm M) s.1 s.2 8 2 = some 3 := by
    intro s hs e
    have es := qat_u hS hs
    have hp : s0.toNat = s.1 := by have := qat_p (P := s0) (l := s1) hs ⟨by omega, by omega, by omega⟩; omega
    have e1 := q79 (P := s0) (i := 1) m4 ⟨by omega, by decide⟩ (by omega)
    rw [hp] at e1
    have ev : qvl (tm M) s.1 2 = s8 := by unfold qvl; omega
    show qcN 0 7 (qtd (s.2 17 (qvl (tm M) s.1 1 + 8 * qvl (tm M) s.1 2).toNat)) (tK (tm M) (qps (tm M) s.1 2)) = _
    rw [e, qcN_x (by omega) (by omega), ev, ← e1, es]
    exact qtd_1 (by omega)
  exact ⟨r_fl (K := 8) (j := 1) m1 m2 m3 ⟨by omega, by omega, by decide⟩ (fun s hs hE e => hc s hs e), trivial⟩
theorem rul_616 : Rul r_616 := by
  refine ⟨fun _ ρ M hm hB hF hG => ?_, fun gi gv hg => (by cases hg)⟩
  have H := cr_616 M (ρ 0) (ρ 1) (ρ 2) (ρ 3) (ρ 4) (ρ 5) (ρ 6) (ρ 7) (ρ 8) (ρ 9) (hB _ List.mem_cons_self) (hB _ (List.mem_cons_of_mem _ List.mem_cons_self)) (hB _ (List.mem_cons_of_mem _ (List.mem_cons_of_mem _ List.mem_cons_self))) (hB _ (List.mem_cons_of_mem _ (List.mem_cons_of_mem _ (List.mem_cons_of_mem _ List.mem_cons_self)))) (hB _ (List.mem_cons_of_mem _ (List.mem_cons_of_mem _ (List.mem_cons_of_mem _ (List.mem_cons_of_mem _ List.mem_cons_self))))) (hB _ (List.mem_cons_of_mem _ (List.mem_cons_of_mem _ (List.mem_cons_of_mem _ (List.mem_cons_of_mem _ (List.mem_cons_of_mem _ List.mem_cons_self)))))) (hB _ (List.mem_cons_of_mem _ (List.mem_cons_of_mem _ (List.mem_cons_of_mem _ (List.mem_cons_of_mem _ (List.mem_cons_of_mem _ (List.mem_cons_of_mem _ List.mem_cons_self))))))) (hB _ (List.mem_cons_of_mem _ (List.mem_cons_of_mem _ (List.mem_cons_of_mem _ (List.mem_cons_of_mem _ (List.mem_cons_of_mem _ (List.mem_cons_of_mem _ (List.mem_cons_of_mem _ List.mem_cons_self)))))))) (hB _ (List.mem_cons_of_mem _ (List.mem_cons_of_mem _ (List.mem_cons_of_mem _ (List.mem_cons_of_mem _ (List.mem_cons_of_mem _ (List.mem_cons_of_mem _ (List.mem_cons_of_mem _ (List.mem_cons_of_mem _ List.mem_cons_self))))))))) (hB _ (List.mem_cons_of_mem _ (List.mem_cons_of_mem _ (List.mem_cons_of_mem _ (List.mem_cons_of_mem _ (List.mem_cons_of_mem _ (List.mem_cons_of_mem _ (List.mem_cons_of_mem _ (List.mem_cons_of_mem _ (List.mem_cons_of_mem _ List.mem_cons_self)))))))))) (cvp 61 (x' := (4096 * (ρ 0) + (ρ 1))) (y' := ((ρ 4) + 32 * (ρ 5) + 1024 * (ρ 6))) (by show 0 + (4096 * ρ 0 + (1 * ρ 1 + 0)) = _; omega) (by show 0 + (1 * ρ 4 + (32 * ρ 5 + (1024 * ρ 6 + 0))) = _; omega) (hm _ List.mem_cons_self)) (cvp 53 (x' := (4096 * (ρ 0) + (ρ 1))) (y' := (256 * (ρ 2) + 130)) (by show 0 + (4096 * ρ 0 + (1 * ρ 1 + 0)) = _; omega) (by show 130 + (256 * ρ 2 + 0) = _; omega) (hm _ (List.mem_cons_of_mem _ List.mem_cons_self))) (cvp 47 (x' := ((ρ 2))) (y' := ((ρ 8) + 393216)) (by show 0 + (1 * ρ 2 + 0) = _; omega) (by show 393216 + (1 * ρ 8 + 0) = _; omega) (hm _ (List.mem_cons_of_mem _ (List.mem_cons_of_mem _ List.mem_cons_self)))) (cvp 45 (x' := ((ρ 2))) (y' := ((ρ 3))) (by show 0 + (1 * ρ 2 + 0) = _; omega) (by show 0 + (1 * ρ 3 + 0) = _; omega) (hm _ (List.mem_cons_of_mem _ (List.mem_cons_of_mem _ (List.mem_cons_of_mem _ List.mem_cons_self))))) (cvp 79 (x' := (16 * (ρ 0) + 1)) (y' := ((ρ 7))) (by show 1 + (16 * ρ 0 + 0) = _; omega) (by show 0 + (1 * ρ 7 + 0) = _; omega) (hm _ (List.mem_cons_of_mem _ (List.mem_cons_of_mem _ (List.mem_cons_of_mem _ (List.mem_cons_of_mem _ List.mem_cons_self)))))) (cvm (c := 86) (by decide) (x' := ((ρ 7) + 8 * (ρ 8) + 64)) (y' := ((ρ 9))) (by show 64 + (1 * ρ 7 + (8 * ρ 8 + 0)) = _; omega) (by show 0 + (1 * ρ 9 + 0) = _; omega) (hm _ (List.mem_cons_of_mem _ (List.mem_cons_of_mem _ (List.mem_cons_of_mem _ (List.mem_cons_of_mem _ (List.mem_cons_of_mem _ List.mem_cons_self))))))) hG
  obtain ⟨k0, -⟩ := H
  exact ⟨_, List.mem_cons_self, ρ, fun _ _ => rfl, (okM_c (pvp 66 (by show 0 + (1 * ρ 3 + 0) = _; omega) (by show 3 + 0 = _; omega) k0) okM_n), okB_n, okF_n⟩
-- rg0_1
theorem cr_617 (M : pM) (s0 s1 s2 s3 s4 s5 : Int) (b0 : 0 ≤ s0 ∧ s0 ≤ 1900) (b1 : 0 ≤ s1 ∧ s1 ≤ 950) (b2 : 0 ≤ s2 ∧ s2 ≤ 12) (b3 : 0 ≤ s3 ∧ s3 ≤ 20) (b4 : 0 ≤ s4 ∧ s4 ≤ 4) (b5 : 0 ≤ s5 ∧ s5 ≤ 7) (m0 : HP 61 (4096 * s0 + s1) (s2 + 32 * s3 + 1024 * s4) M) (hG : gI M) : (HP 146 (4096 * s0 + s1) (s2 + 32 * s3 + 1024 * s4 + 131072 * s5) M ∧ True) := by
  exact ⟨Eq.mpr hp_146 (l_rg0 (u := s5.toNat) (Eq.mp hp_61 m0) (by omega)), trivial⟩
theorem rul_617 : Rul r_617 := by
  refine ⟨fun _ ρ M hm hB hF hG => ?_, fun gi gv hg => (by cases hg)⟩
  have H := cr_617 M (ρ 0) (ρ 1) (ρ 2) (ρ 3) (ρ 4) (ρ 5) (hB _ List.mem_cons_self) (hB _ (List.mem_cons_of_mem _ List.mem_cons_self)) (hB _ (List.mem_cons_of_mem _ (List.mem_cons_of_mem _ List.mem_cons_self))) (hB _ (List.mem_cons_of_mem _ (List.mem_cons_of_mem _ (List.mem_cons_of_mem _ List.mem_cons_self)))) (hB _ (List.mem_cons_of_mem _ (List.mem_cons_of_mem _ (List.mem_cons_of_mem _ (List.mem_cons_of_mem _ List.mem_cons_self))))) (hB _ (List.mem_cons_of_mem _ (List.mem_cons_of_mem _ (List.mem_cons_of_mem _ (List.mem_cons_of_mem _ (List.mem_cons_of_mem _ List.mem_cons_self)))))) (cvp 61 (x' := (4096 * (ρ 0) + (ρ 1))) (y' := ((ρ 2) + 32 * (ρ 3) + 1024 * (ρ 4))) (by show 0 + (4096 * ρ 0 + (1 * ρ 1 + 0)) = _; omega) (by show 0 + (1 * ρ 2 + (32 * ρ 3 + (1024 * ρ 4 + 0))) = _; omega) (hm _ List.mem_cons_self)) hG
  obtain ⟨k0, -⟩ := H
  exact ⟨_, List.mem_cons_self, ρ, fun _ _ => rfl, (okM_c (pvp 146 (by show 0 + (4096 * ρ 0 + (1 * ρ 1 + 0)) = _; omega) (by show 0 + (1 * ρ 2 + (32 * ρ 3 + (1024 * ρ 4 + (131072 * ρ 5 + 0)))) = _; omega) k0) okM_n), okB_n, okF_n⟩
-- rgw_1
theorem cr_618 (M : pM) (s0 s1 s2 s3 s4 s5 s6 s7 s8 s9 : Int) (b0 : 0 ≤ s0 ∧ s0 ≤ 1900) (b1 : 0 ≤ s1 ∧ s1 ≤ 950) (b2 : 0 ≤ s2 ∧ s2 ≤ 1900) (b3 : 0 ≤ s3 ∧ s3 ≤ 12) (b4 : 0 ≤ s4 ∧ s4 ≤ 20) (b5 : 0 ≤ s5 ∧ s5 ≤ 4) (b6 : 0 ≤ s6 ∧ s6 ≤ 7) (b7 : 0 ≤ s7 ∧ s7 ≤ 7) (b8 : 0 ≤ s8 ∧ s8 ≤ 1900) (b9 : 97 ≤ s9 ∧ s9 ≤ 104) (m0 : HP 146 (4096 * s0 + s1) (s3 + 32 * s4 + 1024 * s5 + 8192 * s6 + 131072 * s7) M) (m1 : HP 157 (16 * s0 + 2) (s2) M) (m2 : HP 45 (s2) (s8) M) (m3 : (0 ≤ (s6 + s8) ∧ M 1 (s6 + s8).toNat = (s9))) (hG : gI M) : (HP 146 (4096 * s0 + s1) (s3 + 32 * s4 + 1024 * s5 + 8192 * s6 + 131072 * s7 + 8192) (st M 69 (s6 + 8 * s7 + 64).toNat (s9 - 97)) ∧ True) := by
  have ht : tm (st M 69 (64 * 1 + (8 * s7.toNat + s6.toNat)) (s9 - 97)) = tm M := tm_st (by decide) (by decide)
  rw [show (s6 + 8 * s7 + 64).toNat = 64 * 1 + (8 * s7.toNat + s6.toNat) by omega]
  have hv : ∀ s, qat (tm M) (4096 * s0 + s1) s → (s9 - 97) = qlt (tm M) s.1 2 s6.toNat - 97 := by
    intro s hs
    have hp := qat_p (P := s0) (l := s1) hs ⟨by omega, by omega, by omega⟩
    obtain ⟨p, i, t1, t2, t3⟩ := Eq.mp hp_157 m1
    have e1 : i = 2 := by omega
    have e2 : p = s.1 := by omega
    subst e1
    subst e2
    have g1 := (q45 m2).2
    have hr := rd1 m3 (by omega)
    unfold qlt
    rw [show qps (tm M) s.1 2 = s2.toNat by omega, show tS (tm M) s2.toNat + s6.toNat = (s6 + s8).toNat by omega, hr]
  refine ⟨Eq.mpr hp_146 ?_, trivial⟩
  rw [ht]
  exact RG_m (fun _ _ _ _ _ h => agR_w69 h) (l_rgw (k := s6.toNat) (u := s7.toNat) (w := s3) (r := s4) (g := s5) (Eq.mp hp_146 m0) (by omega) ⟨⟨by omega, by omega⟩, ⟨by omega, by omega⟩, by omega, by omega⟩ (by omega) (by omega) hv (by omega))
theorem rul_618 : Rul r_618 := by
  refine ⟨fun h => (by cases h), fun gi gv hg ρ M hm hB hF hG => ?_⟩
  obtain ⟨g1, g2⟩ := List.cons.inj (show ([aI ((64 : Int), ([(6, 1), (7, 8)] : List (Nat × Int))), aI (((-97) : Int), ([(9, 1)] : List (Nat × Int)))] : List av) = [.inl gi, .inl gv] from hg)
  obtain ⟨g2, -⟩ := List.cons.inj g2
  cases g1
  cases g2
  have ei : ev ρ ((64 : Int), ([(6, 1), (7, 8)] : List (Nat × Int))) = ((ρ 6) + 8 * (ρ 7) + 64) := by show 64 + (1 * ρ 6 + (8 * ρ 7 + 0)) = _; omega
  have ew : ev ρ (((-97) : Int), ([(9, 1)] : List (Nat × Int))) = ((ρ 9) - 97) := by show (-97) + (1 * ρ 9 + 0) = _; omega
  rw [show (st M (ctj r_618) (ev ρ ((64 : Int), ([(6, 1), (7, 8)] : List (Nat × Int)))).toNat (ev ρ (((-97) : Int), ([(9, 1)] : List (Nat × Int))))) = (st M 69 ((ρ 6) + 8 * (ρ 7) + 64).toNat ((ρ 9) - 97)) from by rw [ei, ew]; rfl]
  have H := cr_618 M (ρ 0) (ρ 1) (ρ 2) (ρ 3) (ρ 4) (ρ 5) (ρ 6) (ρ 7) (ρ 8) (ρ 9) (hB _ List.mem_cons_self) (hB _ (List.mem_cons_of_mem _ List.mem_cons_self)) (hB _ (List.mem_cons_of_mem _ (List.mem_cons_of_mem _ List.mem_cons_self))) (hB _ (List.mem_cons_of_mem _ (List.mem_cons_of_mem _ (List.mem_cons_of_mem _ List.mem_cons_self)))) (hB _ (List.mem_cons_of_mem _ (List.mem_cons_of_mem _ (List.mem_cons_of_mem _ (List.mem_cons_of_mem _ List.mem_cons_self))))) (hB _ (List.mem_cons_of_mem _ (List.mem_cons_of_mem _ (List.mem_cons_of_mem _ (List.mem_cons_of_mem _ (List.mem_cons_of_mem _ List.mem_cons_self)))))) (hB _ (List.mem_cons_of_mem _ (List.mem_cons_of_mem _ (List.mem_cons_of_mem _ (List.mem_cons_of_mem _ (List.mem_cons_of_mem _ (List.mem_cons_of_mem _ List.mem_cons_self))))))) (hB _ (List.mem_cons_of_mem _ (List.mem_cons_of_mem _ (List.mem_cons_of_mem _ (List.mem_cons_of_mem _ (List.mem_cons_of_mem _ (List.mem_cons_of_mem _ (List.mem_cons_of_mem _ List.mem_cons_self)))))))) (hB _ (List.mem_cons_of_mem _ (List.mem_cons_of_mem _ (List.mem_cons_of_mem _ (List.mem_cons_of_mem _ (List.mem_cons_of_mem _ (List.mem_cons_of_mem _ (List.mem_cons_of_mem _ (List.mem_cons_of_mem _ List.mem_cons_self))))))))) (hB _ (List.mem_cons_of_mem _ (List.mem_cons_of_mem _ (List.mem_cons_of_mem _ (List.mem_cons_of_mem _ (List.mem_cons_of_mem _ (List.mem_cons_of_mem _ (List.mem_cons_of_mem _ (List.mem_cons_of_mem _ (List.mem_cons_of_mem _ List.mem_cons_self)))))))))) (cvp 146 (x' := (4096 * (ρ 0) + (ρ 1))) (y' := ((ρ 3) + 32 * (ρ 4) + 1024 * (ρ 5) + 8192 * (ρ 6) + 131072 * (ρ 7))) (by show 0 + (4096 * ρ 0 + (1 * ρ 1 + 0)) = _; omega) (by show 0 + (1 * ρ 3 + (32 * ρ 4 + (1024 * ρ 5 + (8192 * ρ 6 + (131072 * ρ 7 + 0))))) = _; omega) (hm _ List.mem_cons_self)) (cvp 157 (x' := (16 * (ρ 0) + 2)) (y' := ((ρ 2))) (by show 2 + (16 * ρ 0 + 0) = _; omega) (by show 0 + (1 * ρ 2 + 0) = _; omega) (hm _ (List.mem_cons_of_mem _ List.mem_cons_self))) (cvp 45 (x' := ((ρ 2))) (y' := ((ρ 8))) (by show 0 + (1 * ρ 2 + 0) = _; omega) (by show 0 + (1 * ρ 8 + 0) = _; omega) (hm _ (List.mem_cons_of_mem _ (List.mem_cons_of_mem _ List.mem_cons_self)))) (cvm (c := 1) (by decide) (x' := ((ρ 6) + (ρ 8))) (y' := ((ρ 9))) (by show 0 + (1 * ρ 6 + (1 * ρ 8 + 0)) = _; omega) (by show 0 + (1 * ρ 9 + 0) = _; omega) (hm _ (List.mem_cons_of_mem _ (List.mem_cons_of_mem _ (List.mem_cons_of_mem _ List.mem_cons_self))))) hG
  obtain ⟨k0, -⟩ := H
  exact ⟨_, List.mem_cons_self, ρ, fun _ _ => rfl, (okM_c (pvp 146 (by show 0 + (4096 * ρ 0 + (1 * ρ 1 + 0)) = _; omega) (by show 8192 + (1 * ρ 3 + (32 * ρ 4 + (1024 * ρ 5 + (8192 * ρ 6 + (131072 * ρ 7 + 0))))) = _; omega) k0) okM_n), okB_n, okF_n⟩
-- rgh_1
theorem cr_619 (M : pM) (s0 s1 s2 s3 s4 s5 s6 : Int) (b0 : 0 ≤ s0 ∧ s0 ≤ 1900) (b1 : 0 ≤ s1 ∧ s1 ≤ 950) (b2 : 0 ≤ s2 ∧ s2 ≤ 1900) (b3 : 0 ≤ s3 ∧ s3 ≤ 12) (b4 : 0 ≤ s4 ∧ s4 ≤ 20) (b5 : 0 ≤ s5 ∧ s5 ≤ 4) (b6 : 0 ≤ s6 ∧ s6 ≤ 7) (m0 : HP 146 (4096 * s0 + s1) (s3 + 32 * s4 + 1024 * s5 + 131072 * s6 + 65536) M) (m1 : HP 53 (4096 * s0 + s1) (256 * s2 + 3) M) (m2 : HP 79 (16 * s0 + 1) (s6) M) (hG : gI M) : (HP 63 (4096 * s0 + s1) (s3 + 32 * s4 + 1024 * s5) (st M 84 (s6).toNat (1 : Int)) ∧ True) := by
  have hv := q79 (P := s0) (i := 1) m2 ⟨by omega, by decide⟩ (by omega)
  have ht : tm (st M 84 (s6.toNat) (1 : Int)) = tm M := tm_st (by decide) (by decide)
  rw [show (s6).toNat = s6.toNat by omega]
  refine ⟨Eq.mpr hp_63 ?_, trivial⟩
  rw [ht]
  exact RW_m (fun _ _ _ _ _ h => agR_w84 h) (l_rgh (u := s6.toNat) (w := s3) (r := s4) (g := s5) (P := s0) (l := s1) (Eq.mp hp_146 m0) (by omega) ⟨⟨by omega, by omega⟩, ⟨by omega, by omega⟩, by omega, by omega⟩ (ex_o (K := 0) (j := 2) (a := s2) (Eq.mp hp_53 m1) ⟨by omega, by omega, by decide, by decide⟩) ⟨by omega, by omega, by omega⟩ (by omega) (by omega))
theorem rul_619 : Rul r_619 := by
  refine ⟨fun h => (by cases h), fun gi gv hg ρ M hm hB hF hG => ?_⟩
  obtain ⟨g1, g2⟩ := List.cons.inj (show ([aI ((0 : Int), ([(6, 1)] : List (Nat × Int))), aI ((1 : Int), ([] : List (Nat × Int)))] : List av) = [.inl gi, .inl gv] from hg)
  obtain ⟨g2, -⟩ := List.cons.inj g2
  cases g1
  cases g2
  have ei : ev ρ ((0 : Int), ([(6, 1)] : List (Nat × Int))) = ((ρ 6)) := by show 0 + (1 * ρ 6 + 0) = _; omega
  have ew : ev ρ ((1 : Int), ([] : List (Nat × Int))) = (1 : Int) := by show 1 + 0 = _; omega
  rw [show (st M (ctj r_619) (ev ρ ((0 : Int), ([(6, 1)] : List (Nat × Int)))).toNat (ev ρ ((1 : Int), ([] : List (Nat × Int))))) = (st M 84 ((ρ 6)).toNat (1 : Int)) from by rw [ei, ew]; rfl]
  have H := cr_619 M (ρ 0) (ρ 1) (ρ 2) (ρ 3) (ρ 4) (ρ 5) (ρ 6) (hB _ List.mem_cons_self) (hB _ (List.mem_cons_of_mem _ List.mem_cons_self)) (hB _ (List.mem_cons_of_mem _ (List.mem_cons_of_mem _ List.mem_cons_self))) (hB _ (List.mem_cons_of_mem _ (List.mem_cons_of_mem _ (List.mem_cons_of_mem _ List.mem_cons_self)))) (hB _ (List.mem_cons_of_mem _ (List.mem_cons_of_mem _ (List.mem_cons_of_mem _ (List.mem_cons_of_mem _ List.mem_cons_self))))) (hB _ (List.mem_cons_of_mem _ (List.mem_cons_of_mem _ (List.mem_cons_of_mem _ (List.mem_cons_of_mem _ (List.mem_cons_of_mem _ List.mem_cons_self)))))) (hB _ (List.mem_cons_of_mem _ (List.mem_cons_of_mem _ (List.mem_cons_of_mem _ (List.mem_cons_of_mem _ (List.mem_cons_of_mem _ (List.mem_cons_of_mem _ List.mem_cons_self))))))) (cvp 146 (x' := (4096 * (ρ 0) + (ρ 1))) (y' := ((ρ 3) + 32 * (ρ 4) + 1024 * (ρ 5) + 131072 * (ρ 6) + 65536)) (by show 0 + (4096 * ρ 0 + (1 * ρ 1 + 0)) = _; omega) (by show 65536 + (1 * ρ 3 + (32 * ρ 4 + (1024 * ρ 5 + (131072 * ρ 6 + 0)))) = _; omega) (hm _ List.mem_cons_self)) (cvp 53 (x' := (4096 * (ρ 0) + (ρ 1))) (y' := (256 * (ρ 2) + 3)) (by show 0 + (4096 * ρ 0 + (1 * ρ 1 + 0)) = _; omega) (by show 3 + (256 * ρ 2 + 0) = _; omega) (hm _ (List.mem_cons_of_mem _ List.mem_cons_self))) (cvp 79 (x' := (16 * (ρ 0) + 1)) (y' := ((ρ 6))) (by show 1 + (16 * ρ 0 + 0) = _; omega) (by show 0 + (1 * ρ 6 + 0) = _; omega) (hm _ (List.mem_cons_of_mem _ (List.mem_cons_of_mem _ List.mem_cons_self)))) hG
  obtain ⟨k0, -⟩ := H
  exact ⟨_, List.mem_cons_self, ρ, fun _ _ => rfl, (okM_c (pvp 63 (by show 0 + (4096 * ρ 0 + (1 * ρ 1 + 0)) = _; omega) (by show 0 + (1 * ρ 3 + (32 * ρ 4 + (1024 * ρ 5 + 0))) = _; omega) k0) okM_n), okB_n, okF_n⟩
-- rlh_1
theorem cr_620 (M : pM) (s0 s1 s2 s3 s4 s5 : Int) (b0 : 0 ≤ s0 ∧ s0 ≤ 1900) (b1 : 0 ≤ s1 ∧ s1 ≤ 950) (b2 : 0 ≤ s2 ∧ s2 ≤ 12) (b3 : 0 ≤ s3 ∧ s3 ≤ 20) (b4 : 0 ≤ s4 ∧ s4 ≤ 4) (b5 : 0 ≤ s5 ∧ s5 ≤ 7) (m0 : HP 61 (4096 * s0 + s1) (s2 + 32 * s3 + 1024 * s4) M) (m1 : HP 87 (s0) (s5) M) (hG : gI M) : (HP 148 (4096 * s0 + s1) (s2 + 32 * s3 + 1024 * s4 + 131072 * s5) (st M 85 (s5).toNat (1 : Int)) ∧ True) := by
  have ht : tm (st M 85 (s5.toNat) (1 : Int)) = tm M := tm_st (by decide) (by decide)
  rw [show (s5).toNat = s5.toNat by omega]
  refine ⟨Eq.mpr hp_148 ?_, trivial⟩
  rw [ht]
  exact RL_m (fun _ _ _ _ _ h => agR_w85 h) (l_rlh (u := s5.toNat) (Eq.mp hp_61 m0) (by omega))
theorem rul_620 : Rul r_620 := by
  refine ⟨fun h => (by cases h), fun gi gv hg ρ M hm hB hF hG => ?_⟩
  obtain ⟨g1, g2⟩ := List.cons.inj (show ([aI ((0 : Int), ([(5, 1)] : List (Nat × Int))), aI ((1 : Int), ([] : List (Nat × Int)))] : List av) = [.inl gi, .inl gv] from hg)
  obtain ⟨g2, -⟩ := List.cons.inj g2
  cases g1
  cases g2
  have ei : ev ρ ((0 : Int), ([(5, 1)] : List (Nat × Int))) = ((ρ 5)) := by show 0 + (1 * ρ 5 + 0) = _; omega
  have ew : ev ρ ((1 : Int), ([] : List (Nat × Int))) = (1 : Int) := by show 1 + 0 = _; omega
  rw [show (st M (ctj r_620) (ev ρ ((0 : Int), ([(5, 1)] : List (Nat × Int)))).toNat (ev ρ ((1 : Int), ([] : List (Nat × Int))))) = (st M 85 ((ρ 5)).toNat (1 : Int)) from by rw [ei, ew]; rfl]
  have H := cr_620 M (ρ 0) (ρ 1) (ρ 2) (ρ 3) (ρ 4) (ρ 5) (hB _ List.mem_cons_self) (hB _ (List.mem_cons_of_mem _ List.mem_cons_self)) (hB _ (List.mem_cons_of_mem _ (List.mem_cons_of_mem _ List.mem_cons_self))) (hB _ (List.mem_cons_of_mem _ (List.mem_cons_of_mem _ (List.mem_cons_of_mem _ List.mem_cons_self)))) (hB _ (List.mem_cons_of_mem _ (List.mem_cons_of_mem _ (List.mem_cons_of_mem _ (List.mem_cons_of_mem _ List.mem_cons_self))))) (hB _ (List.mem_cons_of_mem _ (List.mem_cons_of_mem _ (List.mem_cons_of_mem _ (List.mem_cons_of_mem _ (List.mem_cons_of_mem _ List.mem_cons_self)))))) (cvp 61 (x' := (4096 * (ρ 0) + (ρ 1))) (y' := ((ρ 2) + 32 * (ρ 3) + 1024 * (ρ 4))) (by show 0 + (4096 * ρ 0 + (1 * ρ 1 + 0)) = _; omega) (by show 0 + (1 * ρ 2 + (32 * ρ 3 + (1024 * ρ 4 + 0))) = _; omega) (hm _ List.mem_cons_self)) (cvp 87 (x' := ((ρ 0))) (y' := ((ρ 5))) (by show 0 + (1 * ρ 0 + 0) = _; omega) (by show 0 + (1 * ρ 5 + 0) = _; omega) (hm _ (List.mem_cons_of_mem _ List.mem_cons_self))) hG
  obtain ⟨k0, -⟩ := H
  exact ⟨_, List.mem_cons_self, ρ, fun _ _ => rfl, (okM_c (pvp 148 (by show 0 + (4096 * ρ 0 + (1 * ρ 1 + 0)) = _; omega) (by show 0 + (1 * ρ 2 + (32 * ρ 3 + (1024 * ρ 4 + (131072 * ρ 5 + 0)))) = _; omega) k0) okM_n), okB_n, okF_n⟩
-- rlw_1
theorem cr_621 (M : pM) (s0 s1 s2 s3 s4 s5 s6 s7 : Int) (b0 : 0 ≤ s0 ∧ s0 ≤ 1900) (b1 : 0 ≤ s1 ∧ s1 ≤ 950) (b2 : 0 ≤ s2 ∧ s2 ≤ 12) (b3 : 0 ≤ s3 ∧ s3 ≤ 20) (b4 : 0 ≤ s4 ∧ s4 ≤ 4) (b5 : 0 ≤ s5 ∧ s5 ≤ 7) (b6 : 0 ≤ s6 ∧ s6 ≤ 5) (b7 : 0 ≤ s7 ∧ s7 ≤ 20) (m0 : HP 148 (4096 * s0 + s1) (s2 + 32 * s3 + 1024 * s4 + 131072 * s5 + 8192 * s6) M) (m1 : HP 87 (s0) (s5) M) (m2 : HP 79 (16 * s0 + s6 + 2) (s7) M) (hG : gI M) : (HP 148 (4096 * s0 + s1) (s2 + 32 * s3 + 1024 * s4 + 131072 * s5 + 8192 * s6 + 8192) (st M 70 (6 * s5 + s6 + 48).toNat (s7)) ∧ True) := by
  have hv := q79 (P := s0) (i := 2 + s6.toNat) m2 ⟨by omega, by omega⟩ (by omega)
  have ht : tm (st M 70 (48 * 1 + (6 * s5.toNat + s6.toNat)) (s7)) = tm M := tm_st (by decide) (by decide)
  rw [show (6 * s5 + s6 + 48).toNat = 48 * 1 + (6 * s5.toNat + s6.toNat) by omega]
  refine ⟨Eq.mpr hp_148 ?_, trivial⟩
  rw [ht]
  exact RL_m (fun _ _ _ _ _ h => agR_w70 h) (l_rlw (k := s6.toNat) (u := s5.toNat) (w := s2) (r := s3) (g := s4) (P := s0) (l := s1) (Eq.mp hp_148 m0) (by omega) ⟨⟨by omega, by omega⟩, ⟨by omega, by omega⟩, by omega, by omega⟩ (by omega) (by omega) ⟨by omega, by omega, by omega⟩ hv (by omega))
theorem rul_621 : Rul r_621 := by
  refine ⟨fun h => (by cases h), fun gi gv hg ρ M hm hB hF hG => ?_⟩
  obtain ⟨g1, g2⟩ := List.cons.inj (show ([aI ((48 : Int), ([(5, 6), (6, 1)] : List (Nat × Int))), aI ((0 : Int), ([(7, 1)] : List (Nat × Int)))] : List av) = [.inl gi, .inl gv] from hg)
  obtain ⟨g2, -⟩ := List.cons.inj g2
  cases g1
  cases g2
  have ei : ev ρ ((48 : Int), ([(5, 6), (6, 1)] : List (Nat × Int))) = (6 * (ρ 5) + (ρ 6) + 48) := by show 48 + (6 * ρ 5 + (1 * ρ 6 + 0)) = _; omega
  have ew : ev ρ ((0 : Int), ([(7, 1)] : List (Nat × Int))) = ((ρ 7)) := by show 0 + (1 * ρ 7 + 0) = _; omega
  rw [show (st M (ctj r_621) (ev ρ ((48 : Int), ([(5, 6), (6, 1)] : List (Nat × Int)))).toNat (ev ρ ((0 : Int), ([(7, 1)] : List (Nat × Int))))) = (st M 70 (6 * (ρ 5) + (ρ 6) + 48).toNat ((ρ 7))) from by rw [ei, ew]; rfl]
  have H := cr_621 M (ρ 0) (ρ 1) (ρ 2) (ρ 3) (ρ 4) (ρ 5) (ρ 6) (ρ 7) (hB _ List.mem_cons_self) (hB _ (List.mem_cons_of_mem _ List.mem_cons_self)) (hB _ (List.mem_cons_of_mem _ (List.mem_cons_of_mem _ List.mem_cons_self))) (hB _ (List.mem_cons_of_mem _ (List.mem_cons_of_mem _ (List.mem_cons_of_mem _ List.mem_cons_self)))) (hB _ (List.mem_cons_of_mem _ (List.mem_cons_of_mem _ (List.mem_cons_of_mem _ (List.mem_cons_of_mem _ List.mem_cons_self))))) (hB _ (List.mem_cons_of_mem _ (List.mem_cons_of_mem _ (List.mem_cons_of_mem _ (List.mem_cons_of_mem _ (List.mem_cons_of_mem _ List.mem_cons_self)))))) (hB _ (List.mem_cons_of_mem _ (List.mem_cons_of_mem _ (List.mem_cons_of_mem _ (List.mem_cons_of_mem _ (List.mem_cons_of_mem _ (List.mem_cons_of_mem _ List.mem_cons_self))))))) (hB _ (List.mem_cons_of_mem _ (List.mem_cons_of_mem _ (List.mem_cons_of_mem _ (List.mem_cons_of_mem _ (List.mem_cons_of_mem _ (List.mem_cons_of_mem _ (List.mem_cons_of_mem _ List.mem_cons_self)))))))) (cvp 148 (x' := (4096 * (ρ 0) + (ρ 1))) (y' := ((ρ 2) + 32 * (ρ 3) + 1024 * (ρ 4) + 131072 * (ρ 5) + 8192 * (ρ 6))) (by show 0 + (4096 * ρ 0 + (1 * ρ 1 + 0)) = _; omega) (by show 0 + (1 * ρ 2 + (32 * ρ 3 + (1024 * ρ 4 + (131072 * ρ 5 + (8192 * ρ 6 + 0))))) = _; omega) (hm _ List.mem_cons_self)) (cvp 87 (x' := ((ρ 0))) (y' := ((ρ 5))) (by show 0 + (1 * ρ 0 + 0) = _; omega) (by show 0 + (1 * ρ 5 + 0) = _; omega) (hm _ (List.mem_cons_of_mem _ List.mem_cons_self))) (cvp 79 (x' := (16 * (ρ 0) + (ρ 6) + 2)) (y' := ((ρ 7))) (by show 2 + (16 * ρ 0 + (1 * ρ 6 + 0)) = _; omega) (by show 0 + (1 * ρ 7 + 0) = _; omega) (hm _ (List.mem_cons_of_mem _ (List.mem_cons_of_mem _ List.mem_cons_self)))) hG
  obtain ⟨k0, -⟩ := H
  exact ⟨_, List.mem_cons_self, ρ, fun _ _ => rfl, (okM_c (pvp 148 (by show 0 + (4096 * ρ 0 + (1 * ρ 1 + 0)) = _; omega) (by show 8192 + (1 * ρ 2 + (32 * ρ 3 + (1024 * ρ 4 + (131072 * ρ 5 + (8192 * ρ 6 + 0))))) = _; omega) k0) okM_n), okB_n, okF_n⟩
-- rle_1
theorem cr_622 (M : pM) (s0 s1 s2 s3 s4 s5 s6 : Int) (b0 : 0 ≤ s0 ∧ s0 ≤ 1900) (b1 : 0 ≤ s1 ∧ s1 ≤ 950) (b2 : 0 ≤ s2 ∧ s2 ≤ 1900) (b3 : 0 ≤ s3 ∧ s3 ≤ 12) (b4 : 0 ≤ s4 ∧ s4 ≤ 20) (b5 : 0 ≤ s5 ∧ s5 ≤ 4) (b6 : 0 ≤ s6 ∧ s6 ≤ 7) (m0 : HP 148 (4096 * s0 + s1) (s3 + 32 * s4 + 1024 * s5 + 131072 * s6 + 49152) M) (m1 : HP 53 (4096 * s0 + s1) (256 * s2 + 24) M) (m2 : HP 87 (s0) (s6) M) (hG : gI M) : (HP 63 (4096 * s0 + s1) (s3 + 32 * s4 + 1024 * s5) M ∧ True) := by
  have hv := (Eq.mp hp_87 m2).2
  exact ⟨Eq.mpr hp_63 (l_rle (u := s6.toNat) (w := s3) (r := s4) (g := s5) (P := s0) (l := s1) (Eq.mp hp_148 m0) (by omega) ⟨⟨by omega, by omega⟩, ⟨by omega, by omega⟩, by omega, by omega⟩ (ex_o (K := 1) (j := 7) (a := s2) (Eq.mp hp_53 m1) ⟨by omega, by omega, by decide, by decide⟩) ⟨by omega, by omega, by omega⟩ (by omega) (by omega)), trivial⟩
theorem rul_622 : Rul r_622 := by
  refine ⟨fun _ ρ M hm hB hF hG => ?_, fun gi gv hg => (by cases hg)⟩
  have H := cr_622 M (ρ 0) (ρ 1) (ρ 2) (ρ 3) (ρ 4) (ρ 5) (ρ 6) (hB _ List.mem_cons_self) (hB _ (List.mem_cons_of_mem _ List.mem_cons_self)) (hB _ (List.mem_cons_of_mem _ (List.mem_cons_of_mem _ List.mem_cons_self))) (hB _ (List.mem_cons_of_mem _ (List.mem_cons_of_mem _ (List.mem_cons_of_mem _ List.mem_cons_self)))) (hB _ (List.mem_cons_of_mem _ (List.mem_cons_of_mem _ (List.mem_cons_of_mem _ (List.mem_cons_of_mem _ List.mem_cons_self))))) (hB _ (List.mem_cons_of_mem _ (List.mem_cons_of_mem _ (List.mem_cons_of_mem _ (List.mem_cons_of_mem _ (List.mem_cons_of_mem _ List.mem_cons_self)))))) (hB _ (List.mem_cons_of_mem _ (List.mem_cons_of_mem _ (List.mem_cons_of_mem _ (List.mem_cons_of_mem _ (List.mem_cons_of_mem _ (List.mem_cons_of_mem _ List.mem_cons_self))))))) (cvp 148 (x' := (4096 * (ρ 0) + (ρ 1))) (y' := ((ρ 3) + 32 * (ρ 4) + 1024 * (ρ 5) + 131072 * (ρ 6) + 49152)) (by show 0 + (4096 * ρ 0 + (1 * ρ 1 + 0)) = _; omega) (by show 49152 + (1 * ρ 3 + (32 * ρ 4 + (1024 * ρ 5 + (131072 * ρ 6 + 0)))) = _; omega) (hm _ List.mem_cons_self)) (cvp 53 (x' := (4096 * (ρ 0) + (ρ 1))) (y' := (256 * (ρ 2) + 24)) (by show 0 + (4096 * ρ 0 + (1 * ρ 1 + 0)) = _; omega) (by show 24 + (256 * ρ 2 + 0) = _; omega) (hm _ (List.mem_cons_of_mem _ List.mem_cons_self))) (cvp 87 (x' := ((ρ 0))) (y' := ((ρ 6))) (by show 0 + (1 * ρ 0 + 0) = _; omega) (by show 0 + (1 * ρ 6 + 0) = _; omega) (hm _ (List.mem_cons_of_mem _ (List.mem_cons_of_mem _ List.mem_cons_self)))) hG
  obtain ⟨k0, -⟩ := H
  exact ⟨_, List.mem_cons_self, ρ, fun _ _ => rfl, (okM_c (pvp 63 (by show 0 + (4096 * ρ 0 + (1 * ρ 1 + 0)) = _; omega) (by show 0 + (1 * ρ 3 + (32 * ρ 4 + (1024 * ρ 5 + 0))) = _; omega) k0) okM_n), okB_n, okF_n⟩
-- rxa_1
theorem cr_623 (M : pM) (s0 s1 s2 s3 s4 s5 s6 s7 : Int) (b0 : 0 ≤ s0 ∧ s0 ≤ 1900) (b1 : 0 ≤ s1 ∧ s1 ≤ 950) (b2 : 0 ≤ s2 ∧ s2 ≤ 1900) (b3 : 0 ≤ s3 ∧ s3 ≤ 12) (b4 : 0 ≤ s4 ∧ s4 ≤ 20) (b5 : 0 ≤ s5 ∧ s5 ≤ 4) (b6 : 0 ≤ s6 ∧ s6 ≤ 5) (b7 : 0 ≤ s7 ∧ s7 ≤ 3) (m0 : HP 61 (4096 * s0 + s1) (s3 + 32 * s4 + 1024 * s5) M) (m1 : HP 53 (4096 * s0 + s1) (256 * s2 + 36) M) (m2 : HP 79 (16 * s0 + 1) (s6) M) (m3 : HP 88 (s0) (s7) M) (hG : gI M) : (HP 152 (4096 * s0 + s1) (s3 + 32 * s4 + 1024 * s5) (st M 71 (s6 + 6).toNat (s7)) ∧ True) := by
  have ht : tm (st M 71 (6 * 1 + (s6.toNat)) (s7)) = tm M := tm_st (by decide) (by decide)
  rw [show (s6 + 6).toNat = 6 * 1 + (s6.toNat) by omega]
  refine ⟨Eq.mpr hp_152 ?_, trivial⟩
  rw [ht]
  exact RX_m (fun _ _ _ _ _ h => agR_w71 h) (l_rxa (P := s0) (l := s1) (Eq.mp hp_61 m0) ⟨by omega, by omega, by omega⟩ (q79 (P := s0) (i := 1) m2 ⟨by omega, by decide⟩ (by omega)) (Eq.mp hp_88 m3).2 (by omega))
theorem rul_623 : Rul r_623 := by
  refine ⟨fun h => (by cases h), fun gi gv hg ρ M hm hB hF hG => ?_⟩
  obtain ⟨g1, g2⟩ := List.cons.inj (show ([aI ((6 : Int), ([(6, 1)] : List (Nat × Int))), aI ((0 : Int), ([(7, 1)] : List (Nat × Int)))] : List av) = [.inl gi, .inl gv] from hg)
  obtain ⟨g2, -⟩ := List.cons.inj g2
  cases g1
  cases g2
  have ei : ev ρ ((6 : Int), ([(6, 1)] : List (Nat × Int))) = ((ρ 6) + 6) := by show 6 + (1 * ρ 6 + 0) = _; omega
  have ew : ev ρ ((0 : Int), ([(7, 1)] : List (Nat × Int))) = ((ρ 7)) := by show 0 + (1 * ρ 7 + 0) = _; omega
  rw [show (st M (ctj r_623) (ev ρ ((6 : Int), ([(6, 1)] : List (Nat × Int)))).toNat (ev ρ ((0 : Int), ([(7, 1)] : List (Nat × Int))))) = (st M 71 ((ρ 6) + 6).toNat ((ρ 7))) from by rw [ei, ew]; rfl]
  have H := cr_623 M (ρ 0) (ρ 1) (ρ 2) (ρ 3) (ρ 4) (ρ 5) (ρ 6) (ρ 7) (hB _ List.mem_cons_self) (hB _ (List.mem_cons_of_mem _ List.mem_cons_self)) (hB _ (List.mem_cons_of_mem _ (List.mem_cons_of_mem _ List.mem_cons_self))) (hB _ (List.mem_cons_of_mem _ (List.mem_cons_of_mem _ (List.mem_cons_of_mem _ List.mem_cons_self)))) (hB _ (List.mem_cons_of_mem _ (List.mem_cons_of_mem _ (List.mem_cons_of_mem _ (List.mem_cons_of_mem _ List.mem_cons_self))))) (hB _ (List.mem_cons_of_mem _ (List.mem_cons_of_mem _ (List.mem_cons_of_mem _ (List.mem_cons_of_mem _ (List.mem_cons_of_mem _ List.mem_cons_self)))))) (hB _ (List.mem_cons_of_mem _ (List.mem_cons_of_mem _ (List.mem_cons_of_mem _ (List.mem_cons_of_mem _ (List.mem_cons_of_mem _ (List.mem_cons_of_mem _ List.mem_cons_self))))))) (hB _ (List.mem_cons_of_mem _ (List.mem_cons_of_mem _ (List.mem_cons_of_mem _ (List.mem_cons_of_mem _ (List.mem_cons_of_mem _ (List.mem_cons_of_mem _ (List.mem_cons_of_mem _ List.mem_cons_self)))))))) (cvp 61 (x' := (4096 * (ρ 0) + (ρ 1))) (y' := ((ρ 3) + 32 * (ρ 4) + 1024 * (ρ 5))) (by show 0 + (4096 * ρ 0 + (1 * ρ 1 + 0)) = _; omega) (by show 0 + (1 * ρ 3 + (32 * ρ 4 + (1024 * ρ 5 + 0))) = _; omega) (hm _ List.mem_cons_self)) (cvp 53 (x' := (4096 * (ρ 0) + (ρ 1))) (y' := (256 * (ρ 2) + 36)) (by show 0 + (4096 * ρ 0 + (1 * ρ 1 + 0)) = _; omega) (by show 36 + (256 * ρ 2 + 0) = _; omega) (hm _ (List.mem_cons_of_mem _ List.mem_cons_self))) (cvp 79 (x' := (16 * (ρ 0) + 1)) (y' := ((ρ 6))) (by show 1 + (16 * ρ 0 + 0) = _; omega) (by show 0 + (1 * ρ 6 + 0) = _; omega) (hm _ (List.mem_cons_of_mem _ (List.mem_cons_of_mem _ List.mem_cons_self)))) (cvp 88 (x' := ((ρ 0))) (y' := ((ρ 7))) (by show 0 + (1 * ρ 0 + 0) = _; omega) (by show 0 + (1 * ρ 7 + 0) = _; omega) (hm _ (List.mem_cons_of_mem _ (List.mem_cons_of_mem _ (List.mem_cons_of_mem _ List.mem_cons_self))))) hG
  obtain ⟨k0, -⟩ := H
  exact ⟨_, List.mem_cons_self, ρ, fun _ _ => rfl, (okM_c (pvp 152 (by show 0 + (4096 * ρ 0 + (1 * ρ 1 + 0)) = _; omega) (by show 0 + (1 * ρ 3 + (32 * ρ 4 + (1024 * ρ 5 + 0))) = _; omega) k0) okM_n), okB_n, okF_n⟩
-- rxb_1
theorem cr_624 (M : pM) (s0 s1 s2 s3 s4 s5 s6 s7 : Int) (b0 : 0 ≤ s0 ∧ s0 ≤ 1900) (b1 : 0 ≤ s1 ∧ s1 ≤ 950) (b2 : 0 ≤ s2 ∧ s2 ≤ 1900) (b3 : 0 ≤ s3 ∧ s3 ≤ 12) (b4 : 0 ≤ s4 ∧ s4 ≤ 20) (b5 : 0 ≤ s5 ∧ s5 ≤ 4) (b6 : 0 ≤ s6 ∧ s6 ≤ 5) (b7 : 0 ≤ s7 ∧ s7 ≤ 3) (m0 : HP 152 (4096 * s0 + s1) (s3 + 32 * s4 + 1024 * s5) M) (m1 : HP 53 (4096 * s0 + s1) (256 * s2 + 36) M) (m2 : HP 79 (16 * s0 + 1) (s6) M) (m3 : HP 79 (16 * s0 + 3) (s7) M) (hG : gI M) : (HP 63 (4096 * s0 + s1) (s3 + 32 * s4 + 1024 * s5) (st M 72 (s6 + 6).toNat (s7)) ∧ True) := by
  have ht : tm (st M 72 (6 * 1 + (s6.toNat)) (s7)) = tm M := tm_st (by decide) (by decide)
  rw [show (s6 + 6).toNat = 6 * 1 + (s6.toNat) by omega]
  refine ⟨Eq.mpr hp_63 ?_, trivial⟩
  rw [ht]
  exact RW_m (fun _ _ _ _ _ h => agR_w72 h) (l_rxb (P := s0) (l := s1) (Eq.mp hp_152 m0) (ex_o (K := 2) (j := 3) (a := s2) (Eq.mp hp_53 m1) ⟨by omega, by omega, by decide, by decide⟩) ⟨by omega, by omega, by omega⟩ (q79 (P := s0) (i := 1) m2 ⟨by omega, by decide⟩ (by omega)) (q79 (P := s0) (i := 3) m3 ⟨by omega, by decide⟩ (by omega)) (by omega))
theorem rul_624 : Rul r_624 := by
  refine ⟨fun h => (by cases h), fun gi gv hg ρ M hm hB hF hG => ?_⟩
  obtain ⟨g1, g2⟩ := List.cons.inj (show ([aI ((6 : Int), ([(6, 1)] : List (Nat × Int))), aI ((0 : Int), ([(7, 1)] : List (Nat × Int)))] : List av) = [.inl gi, .inl gv] from hg)
  obtain ⟨g2, -⟩ := List.cons.inj g2
  cases g1
  cases g2
  have ei : ev ρ ((6 : Int), ([(6, 1)] : List (Nat × Int))) = ((ρ 6) + 6) := by show 6 + (1 * ρ 6 + 0) = _; omega
  have ew : ev ρ ((0 : Int), ([(7, 1)] : List (Nat × Int))) = ((ρ 7)) := by show 0 + (1 * ρ 7 + 0) = _; omega
  rw [show (st M (ctj r_624) (ev ρ ((6 : Int), ([(6, 1)] : List (Nat × Int)))).toNat (ev ρ ((0 : Int), ([(7, 1)] : List (Nat × Int))))) = (st M 72 ((ρ 6) + 6).toNat ((ρ 7))) from by rw [ei, ew]; rfl]
  have H := cr_624 M (ρ 0) (ρ 1) (ρ 2) (ρ 3) (ρ 4) (ρ 5) (ρ 6) (ρ 7) (hB _ List.mem_cons_self) (hB _ (List.mem_cons_of_mem _ List.mem_cons_self)) (hB _ (List.mem_cons_of_mem _ (List.mem_cons_of_mem _ List.mem_cons_self))) (hB _ (List.mem_cons_of_mem _ (List.mem_cons_of_mem _ (List.mem_cons_of_mem _ List.mem_cons_self)))) (hB _ (List.mem_cons_of_mem _ (List.mem_cons_of_mem _ (List.mem_cons_of_mem _ (List.mem_cons_of_mem _ List.mem_cons_self))))) (hB _ (List.mem_cons_of_mem _ (List.mem_cons_of_mem _ (List.mem_cons_of_mem _ (List.mem_cons_of_mem _ (List.mem_cons_of_mem _ List.mem_cons_self)))))) (hB _ (List.mem_cons_of_mem _ (List.mem_cons_of_mem _ (List.mem_cons_of_mem _ (List.mem_cons_of_mem _ (List.mem_cons_of_mem _ (List.mem_cons_of_mem _ List.mem_cons_self))))))) (hB _ (List.mem_cons_of_mem _ (List.mem_cons_of_mem _ (List.mem_cons_of_mem _ (List.mem_cons_of_mem _ (List.mem_cons_of_mem _ (List.mem_cons_of_mem _ (List.mem_cons_of_mem _ List.mem_cons_self)))))))) (cvp 152 (x' := (4096 * (ρ 0) + (ρ 1))) (y' := ((ρ 3) + 32 * (ρ 4) + 1024 * (ρ 5))) (by show 0 + (4096 * ρ 0 + (1 * ρ 1 + 0)) = _; omega) (by show 0 + (1 * ρ 3 + (32 * ρ 4 + (1024 * ρ 5 + 0))) = _; omega) (hm _ List.mem_cons_self)) (cvp 53 (x' := (4096 * (ρ 0) + (ρ 1))) (y' := (256 * (ρ 2) + 36)) (by show 0 + (4096 * ρ 0 + (1 * ρ 1 + 0)) = _; omega) (by show 36 + (256 * ρ 2 + 0) = _; omega) (hm _ (List.mem_cons_of_mem _ List.mem_cons_self))) (cvp 79 (x' := (16 * (ρ 0) + 1)) (y' := ((ρ 6))) (by show 1 + (16 * ρ 0 + 0) = _; omega) (by show 0 + (1 * ρ 6 + 0) = _; omega) (hm _ (List.mem_cons_of_mem _ (List.mem_cons_of_mem _ List.mem_cons_self)))) (cvp 79 (x' := (16 * (ρ 0) + 3)) (y' := ((ρ 7))) (by show 3 + (16 * ρ 0 + 0) = _; omega) (by show 0 + (1 * ρ 7 + 0) = _; omega) (hm _ (List.mem_cons_of_mem _ (List.mem_cons_of_mem _ (List.mem_cons_of_mem _ List.mem_cons_self))))) hG
  obtain ⟨k0, -⟩ := H
  exact ⟨_, List.mem_cons_self, ρ, fun _ _ => rfl, (okM_c (pvp 63 (by show 0 + (4096 * ρ 0 + (1 * ρ 1 + 0)) = _; omega) (by show 0 + (1 * ρ 3 + (32 * ρ 4 + (1024 * ρ 5 + 0))) = _; omega) k0) okM_n), okB_n, okF_n⟩
-- rtw_1
theorem cr_625 (M : pM) (s0 s1 s2 s3 s4 s5 s6 s7 : Int) (b0 : 0 ≤ s0 ∧ s0 ≤ 1900) (b1 : 0 ≤ s1 ∧ s1 ≤ 950) (b2 : 0 ≤ s2 ∧ s2 ≤ 1900) (b3 : 0 ≤ s3 ∧ s3 ≤ 12) (b4 : 0 ≤ s4 ∧ s4 ≤ 20) (b5 : 0 ≤ s5 ∧ s5 ≤ 4) (b6 : 0 ≤ s6 ∧ s6 ≤ 5) (b7 : 1 ≤ s7 ∧ s7 ≤ 40) (m0 : HP 61 (4096 * s0 + s1) (s3 + 32 * s4 + 1024 * s5) M) (m1 : HP 53 (4096 * s0 + s1) (256 * s2 + 51) M) (m2 : HP 79 (16 * s0 + 1) (s6) M) (m3 : HP 79 (16 * s0 + 2) (s7) M) (hG : gI M) : (HP 63 (4096 * s0 + s1) (s3 + 32 * s4 + 1024 * s5) (st M 73 (s6 + 6).toNat (s7)) ∧ True) := by
  have ht : tm (st M 73 (6 * 1 + (s6.toNat)) (s7)) = tm M := tm_st (by decide) (by decide)
  rw [show (s6 + 6).toNat = 6 * 1 + (s6.toNat) by omega]
  refine ⟨Eq.mpr hp_63 ?_, trivial⟩
  rw [ht]
  exact RW_m (fun _ _ _ _ _ h => agR_w73 h) (l_rtw (P := s0) (l := s1) (Eq.mp hp_61 m0) (ex_o (K := 3) (j := 2) (a := s2) (Eq.mp hp_53 m1) ⟨by omega, by omega, by decide, by decide⟩) ⟨by omega, by omega, by omega⟩ (q79 (P := s0) (i := 1) m2 ⟨by omega, by decide⟩ (by omega)) (q79 (P := s0) (i := 2) m3 ⟨by omega, by decide⟩ (by omega)) (by omega))
theorem rul_625 : Rul r_625 := by
  refine ⟨fun h => (by cases h), fun gi gv hg ρ M hm hB hF hG => ?_⟩
  obtain ⟨g1, g2⟩ := List.cons.inj (show ([aI ((6 : Int), ([(6, 1)] : List (Nat × Int))), aI ((0 : Int), ([(7, 1)] : List (Nat × Int)))] : List av) = [.inl gi, .inl gv] from hg)
  obtain ⟨g2, -⟩ := List.cons.inj g2
  cases g1
  cases g2
  have ei : ev ρ ((6 : Int), ([(6, 1)] : List (Nat × Int))) = ((ρ 6) + 6) := by show 6 + (1 * ρ 6 + 0) = _; omega
  have ew : ev ρ ((0 : Int), ([(7, 1)] : List (Nat × Int))) = ((ρ 7)) := by show 0 + (1 * ρ 7 + 0) = _; omega
  rw [show (st M (ctj r_625) (ev ρ ((6 : Int), ([(6, 1)] : List (Nat × Int)))).toNat (ev ρ ((0 : Int), ([(7, 1)] : List (Nat × Int))))) = (st M 73 ((ρ 6) + 6).toNat ((ρ 7))) from by rw [ei, ew]; rfl]
  have H := cr_625 M (ρ 0) (ρ 1) (ρ 2) (ρ 3) (ρ 4) (ρ 5) (ρ 6) (ρ 7) (hB _ List.mem_cons_self) (hB _ (List.mem_cons_of_mem _ List.mem_cons_self)) (hB _ (List.mem_cons_of_mem _ (List.mem_cons_of_mem _ List.mem_cons_self))) (hB _ (List.mem_cons_of_mem _ (List.mem_cons_of_mem _ (List.mem_cons_of_mem _ List.mem_cons_self)))) (hB _ (List.mem_cons_of_mem _ (List.mem_cons_of_mem _ (List.mem_cons_of_mem _ (List.mem_cons_of_mem _ List.mem_cons_self))))) (hB _ (List.mem_cons_of_mem _ (List.mem_cons_of_mem _ (List.mem_cons_of_mem _ (List.mem_cons_of_mem _ (List.mem_cons_of_mem _ List.mem_cons_self)))))) (hB _ (List.mem_cons_of_mem _ (List.mem_cons_of_mem _ (List.mem_cons_of_mem _ (List.mem_cons_of_mem _ (List.mem_cons_of_mem _ (List.mem_cons_of_mem _ List.mem_cons_self))))))) (hB _ (List.mem_cons_of_mem _ (List.mem_cons_of_mem _ (List.mem_cons_of_mem _ (List.mem_cons_of_mem _ (List.mem_cons_of_mem _ (List.mem_cons_of_mem _ (List.mem_cons_of_mem _ List.mem_cons_self)))))))) (cvp 61 (x' := (4096 * (ρ 0) + (ρ 1))) (y' := ((ρ 3) + 32 * (ρ 4) + 1024 * (ρ 5))) (by show 0 + (4096 * ρ 0 + (1 * ρ 1 + 0)) = _; omega) (by show 0 + (1 * ρ 3 + (32 * ρ 4 + (1024 * ρ 5 + 0))) = _; omega) (hm _ List.mem_cons_self)) (cvp 53 (x' := (4096 * (ρ 0) + (ρ 1))) (y' := (256 * (ρ 2) + 51)) (by show 0 + (4096 * ρ 0 + (1 * ρ 1 + 0)) = _; omega) (by show 51 + (256 * ρ 2 + 0) = _; omega) (hm _ (List.mem_cons_of_mem _ List.mem_cons_self))) (cvp 79 (x' := (16 * (ρ 0) + 1)) (y' := ((ρ 6))) (by show 1 + (16 * ρ 0 + 0) = _; omega) (by show 0 + (1 * ρ 6 + 0) = _; omega) (hm _ (List.mem_cons_of_mem _ (List.mem_cons_of_mem _ List.mem_cons_self)))) (cvp 79 (x' := (16 * (ρ 0) + 2)) (y' := ((ρ 7))) (by show 2 + (16 * ρ 0 + 0) = _; omega) (by show 0 + (1 * ρ 7 + 0) = _; omega) (hm _ (List.mem_cons_of_mem _ (List.mem_cons_of_mem _ (List.mem_cons_of_mem _ List.mem_cons_self))))) hG
  obtain ⟨k0, -⟩ := H
  exact ⟨_, List.mem_cons_self, ρ, fun _ _ => rfl, (okM_c (pvp 63 (by show 0 + (4096 * ρ 0 + (1 * ρ 1 + 0)) = _; omega) (by show 0 + (1 * ρ 3 + (32 * ρ 4 + (1024 * ρ 5 + 0))) = _; omega) k0) okM_n), okB_n, okF_n⟩
-- rap74_1
theorem cr_626 (M : pM) (s0 s1 s2 s3 s4 s5 s6 : Int) (b0 : 0 ≤ s0 ∧ s0 ≤ 1900) (b1 : 0 ≤ s1 ∧ s1 ≤ 950) (b2 : 0 ≤ s2 ∧ s2 ≤ 12) (b3 : 0 ≤ s3 ∧ s3 ≤ 20) (b4 : 0 ≤ s4 ∧ s4 ≤ 4) (b5 : 0 ≤ s5 ∧ s5 ≤ 23) (b6 : 0 ≤ s6 ∧ s6 ≤ 63) (m0 : HP 61 (4096 * s0 + s1) (s2 + 32 * s3 + 1024 * s4) M) (f0 : 0 ≤ ((-1) * s2 + s5 - 12)) (hG : gI M) : (HP 61 (4096 * s0 + s1) (s2 + 32 * s3 + 1024 * s4) (st M 74 (s5).toNat (s6)) ∧ True) := by
  have ht : tm (st M 74 (12 * 1 + ((s5 - 12).toNat)) (s6)) = tm M := tm_st (by decide) (by decide)
  rw [show (s5).toNat = 12 * 1 + ((s5 - 12).toNat) by omega]
  refine ⟨Eq.mpr hp_61 ?_, trivial⟩
  rw [ht]
  exact RA_m (fun _ _ _ _ _ h => agR_w74 h) (l_rap (c := 5) (w := s2) (r := s3) (g := s4) (Eq.mp hp_61 m0) (by omega) ⟨⟨by omega, by omega⟩, ⟨by omega, by omega⟩, by omega, by omega⟩ (by omega) (by decide))
theorem rul_626 : Rul r_626 := by
  refine ⟨fun h => (by cases h), fun gi gv hg ρ M hm hB hF hG => ?_⟩
  obtain ⟨g1, g2⟩ := List.cons.inj (show ([aI ((0 : Int), ([(5, 1)] : List (Nat × Int))), aI ((0 : Int), ([(6, 1)] : List (Nat × Int)))] : List av) = [.inl gi, .inl gv] from hg)
  obtain ⟨g2, -⟩ := List.cons.inj g2
  cases g1
  cases g2
  have ei : ev ρ ((0 : Int), ([(5, 1)] : List (Nat × Int))) = ((ρ 5)) := by show 0 + (1 * ρ 5 + 0) = _; omega
  have ew : ev ρ ((0 : Int), ([(6, 1)] : List (Nat × Int))) = ((ρ 6)) := by show 0 + (1 * ρ 6 + 0) = _; omega
  rw [show (st M (ctj r_626) (ev ρ ((0 : Int), ([(5, 1)] : List (Nat × Int)))).toNat (ev ρ ((0 : Int), ([(6, 1)] : List (Nat × Int))))) = (st M 74 ((ρ 5)).toNat ((ρ 6))) from by rw [ei, ew]; rfl]
  have H := cr_626 M (ρ 0) (ρ 1) (ρ 2) (ρ 3) (ρ 4) (ρ 5) (ρ 6) (hB _ List.mem_cons_self) (hB _ (List.mem_cons_of_mem _ List.mem_cons_self)) (hB _ (List.mem_cons_of_mem _ (List.mem_cons_of_mem _ List.mem_cons_self))) (hB _ (List.mem_cons_of_mem _ (List.mem_cons_of_mem _ (List.mem_cons_of_mem _ List.mem_cons_self)))) (hB _ (List.mem_cons_of_mem _ (List.mem_cons_of_mem _ (List.mem_cons_of_mem _ (List.mem_cons_of_mem _ List.mem_cons_self))))) (hB _ (List.mem_cons_of_mem _ (List.mem_cons_of_mem _ (List.mem_cons_of_mem _ (List.mem_cons_of_mem _ (List.mem_cons_of_mem _ List.mem_cons_self)))))) (hB _ (List.mem_cons_of_mem _ (List.mem_cons_of_mem _ (List.mem_cons_of_mem _ (List.mem_cons_of_mem _ (List.mem_cons_of_mem _ (List.mem_cons_of_mem _ List.mem_cons_self))))))) (cvp 61 (x' := (4096 * (ρ 0) + (ρ 1))) (y' := ((ρ 2) + 32 * (ρ 3) + 1024 * (ρ 4))) (by show 0 + (4096 * ρ 0 + (1 * ρ 1 + 0)) = _; omega) (by show 0 + (1 * ρ 2 + (32 * ρ 3 + (1024 * ρ 4 + 0))) = _; omega) (hm _ List.mem_cons_self)) (by have h := hF _ List.mem_cons_self; have h : 0 ≤ (-12) + ((-1) * ρ 2 + (1 * ρ 5 + 0)) := h; omega) hG
  obtain ⟨k0, -⟩ := H
  exact ⟨_, List.mem_cons_self, ρ, fun _ _ => rfl, (okM_c (pvp 61 (by show 0 + (4096 * ρ 0 + (1 * ρ 1 + 0)) = _; omega) (by show 0 + (1 * ρ 2 + (32 * ρ 3 + (1024 * ρ 4 + 0))) = _; omega) k0) okM_n), okB_n, okF_n⟩
-- rap75_1
theorem cr_627 (M : pM) (s0 s1 s2 s3 s4 s5 s6 : Int) (b0 : 0 ≤ s0 ∧ s0 ≤ 1900) (b1 : 0 ≤ s1 ∧ s1 ≤ 950) (b2 : 0 ≤ s2 ∧ s2 ≤ 12) (b3 : 0 ≤ s3 ∧ s3 ≤ 20) (b4 : 0 ≤ s4 ∧ s4 ≤ 4) (b5 : 0 ≤ s5 ∧ s5 ≤ 23) (b6 : 0 ≤ s6 ∧ s6 ≤ 63) (m0 : HP 61 (4096 * s0 + s1) (s2 + 32 * s3 + 1024 * s4) M) (f0 : 0 ≤ ((-1) * s2 + s5 - 12)) (hG : gI M) : (HP 61 (4096 * s0 + s1) (s2 + 32 * s3 + 1024 * s4) (st M 75 (s5).toNat (s6)) ∧ True) := by
  have ht : tm (st M 75 (12 * 1 + ((s5 - 12).toNat)) (s6)) = tm M := tm_st (by decide) (by decide)
  rw [show (s5).toNat = 12 * 1 + ((s5 - 12).toNat) by omega]
  refine ⟨Eq.mpr hp_61 ?_, trivial⟩
  rw [ht]
  exact RA_m (fun _ _ _ _ _ h => agR_w75 h) (l_rap (c := 6) (w := s2) (r := s3) (g := s4) (Eq.mp hp_61 m0) (by omega) ⟨⟨by omega, by omega⟩, ⟨by omega, by omega⟩, by omega, by omega⟩ (by omega) (by decide))
theorem rul_627 : Rul r_627 := by
  refine ⟨fun h => (by cases h), fun gi gv hg ρ M hm hB hF hG => ?_⟩
  obtain ⟨g1, g2⟩ := List.cons.inj (show ([aI ((0 : Int), ([(5, 1)] : List (Nat × Int))), aI ((0 : Int), ([(6, 1)] : List (Nat × Int)))] : List av) = [.inl gi, .inl gv] from hg)
  obtain ⟨g2, -⟩ := List.cons.inj g2
  cases g1
  cases g2
  have ei : ev ρ ((0 : Int), ([(5, 1)] : List (Nat × Int))) = ((ρ 5)) := by show 0 + (1 * ρ 5 + 0) = _; omega
  have ew : ev ρ ((0 : Int), ([(6, 1)] : List (Nat × Int))) = ((ρ 6)) := by show 0 + (1 * ρ 6 + 0) = _; omega
  rw [show (st M (ctj r_627) (ev ρ ((0 : Int), ([(5, 1)] : List (Nat × Int)))).toNat (ev ρ ((0 : Int), ([(6, 1)] : List (Nat × Int))))) = (st M 75 ((ρ 5)).toNat ((ρ 6))) from by rw [ei, ew]; rfl]
  have H := cr_627 M (ρ 0) (ρ 1) (ρ 2) (ρ 3) (ρ 4) (ρ 5) (ρ 6) (hB _ List.mem_cons_self) (hB _ (List.mem_cons_of_mem _ List.mem_cons_self)) (hB _ (List.mem_cons_of_mem _ (List.mem_cons_of_mem _ List.mem_cons_self))) (hB _ (List.mem_cons_of_mem _ (List.mem_cons_of_mem _ (List.mem_cons_of_mem _ List.mem_cons_self)))) (hB _ (List.mem_cons_of_mem _ (List.mem_cons_of_mem _ (List.mem_cons_of_mem _ (List.mem_cons_of_mem _ List.mem_cons_self))))) (hB _ (List.mem_cons_of_mem _ (List.mem_cons_of_mem _ (List.mem_cons_of_mem _ (List.mem_cons_of_mem _ (List.mem_cons_of_mem _ List.mem_cons_self)))))) (hB _ (List.mem_cons_of_mem _ (List.mem_cons_of_mem _ (List.mem_cons_of_mem _ (List.mem_cons_of_mem _ (List.mem_cons_of_mem _ (List.mem_cons_of_mem _ List.mem_cons_self))))))) (cvp 61 (x' := (4096 * (ρ 0) + (ρ 1))) (y' := ((ρ 2) + 32 * (ρ 3) + 1024 * (ρ 4))) (by show 0 + (4096 * ρ 0 + (1 * ρ 1 + 0)) = _; omega) (by show 0 + (1 * ρ 2 + (32 * ρ 3 + (1024 * ρ 4 + 0))) = _; omega) (hm _ List.mem_cons_self)) (by have h := hF _ List.mem_cons_self; have h : 0 ≤ (-12) + ((-1) * ρ 2 + (1 * ρ 5 + 0)) := h; omega) hG
  obtain ⟨k0, -⟩ := H
  exact ⟨_, List.mem_cons_self, ρ, fun _ _ => rfl, (okM_c (pvp 61 (by show 0 + (4096 * ρ 0 + (1 * ρ 1 + 0)) = _; omega) (by show 0 + (1 * ρ 2 + (32 * ρ 3 + (1024 * ρ 4 + 0))) = _; omega) k0) okM_n), okB_n, okF_n⟩
-- rap76_1
theorem cr_628 (M : pM) (s0 s1 s2 s3 s4 s5 s6 : Int) (b0 : 0 ≤ s0 ∧ s0 ≤ 1900) (b1 : 0 ≤ s1 ∧ s1 ≤ 950) (b2 : 0 ≤ s2 ∧ s2 ≤ 12) (b3 : 0 ≤ s3 ∧ s3 ≤ 20) (b4 : 0 ≤ s4 ∧ s4 ≤ 4) (b5 : 0 ≤ s5 ∧ s5 ≤ 23) (b6 : 0 ≤ s6 ∧ s6 ≤ 63) (m0 : HP 61 (4096 * s0 + s1) (s2 + 32 * s3 + 1024 * s4) M) (f0 : 0 ≤ ((-1) * s2 + s5 - 12)) (hG : gI M) : (HP 61 (4096 * s0 + s1) (s2 + 32 * s3 + 1024 * s4) (st M 76 (s5).toNat (s6)) ∧ True) := by
  have ht : tm (st M 76 (12 * 1 + ((s5 - 12).toNat)) (s6)) = tm M := tm_st (by decide) (by decide)
  rw [show (s5).toNat = 12 * 1 + ((s5 - 12).toNat) by omega]
  refine ⟨Eq.mpr hp_61 ?_, trivial⟩
  rw [ht]
  exact RA_m (fun _ _ _ _ _ h => agR_w76 h) (l_rap (c := 7) (w := s2) (r := s3) (g := s4) (Eq.mp hp_61 m0) (by omega) ⟨⟨by omega, by omega⟩, ⟨by omega, by omega⟩, by omega, by omega⟩ (by omega) (by decide))
theorem rul_628 : Rul r_628 := by
  refine ⟨fun h => (by cases h), fun gi gv hg ρ M hm hB hF hG => ?_⟩
  obtain ⟨g1, g2⟩ := List.cons.inj (show ([aI ((0 : Int), ([(5, 1)] : List (Nat × Int))), aI ((0 : Int), ([(6, 1)] : List (Nat × Int)))] : List av) = [.inl gi, .inl gv] from hg)
  obtain ⟨g2, -⟩ := List.cons.inj g2
  cases g1
  cases g2
  have ei : ev ρ ((0 : Int), ([(5, 1)] : List (Nat × Int))) = ((ρ 5)) := by show 0 + (1 * ρ 5 + 0) = _; omega
  have ew : ev ρ ((0 : Int), ([(6, 1)] : List (Nat × Int))) = ((ρ 6)) := by show 0 + (1 * ρ 6 + 0) = _; omega
  rw [show (st M (ctj r_628) (ev ρ ((0 : Int), ([(5, 1)] : List (Nat × Int)))).toNat (ev ρ ((0 : Int), ([(6, 1)] : List (Nat × Int))))) = (st M 76 ((ρ 5)).toNat ((ρ 6))) from by rw [ei, ew]; rfl]
  have H := cr_628 M (ρ 0) (ρ 1) (ρ 2) (ρ 3) (ρ 4) (ρ 5) (ρ 6) (hB _ List.mem_cons_self) (hB _ (List.mem_cons_of_mem _ List.mem_cons_self)) (hB _ (List.mem_cons_of_mem _ (List.mem_cons_of_mem _ List.mem_cons_self))) (hB _ (List.mem_cons_of_mem _ (List.mem_cons_of_mem _ (List.mem_cons_of_mem _ List.mem_cons_self)))) (hB _ (List.mem_cons_of_mem _ (List.mem_cons_of_mem _ (List.mem_cons_of_mem _ (List.mem_cons_of_mem _ List.mem_cons_self))))) (hB _ (List.mem_cons_of_mem _ (List.mem_cons_of_mem _ (List.mem_cons_of_mem _ (List.mem_cons_of_mem _ (List.mem_cons_of_mem _ List.mem_cons_self)))))) (hB _ (List.mem_cons_of_mem _ (List.mem_cons_of_mem _ (List.mem_cons_of_mem _ (List.mem_cons_of_mem _ (List.mem_cons_of_mem _ (List.mem_cons_of_mem _ List.mem_cons_self))))))) (cvp 61 (x' := (4096 * (ρ 0) + (ρ 1))) (y' := ((ρ 2) + 32 * (ρ 3) + 1024 * (ρ 4))) (by show 0 + (4096 * ρ 0 + (1 * ρ 1 + 0)) = _; omega) (by show 0 + (1 * ρ 2 + (32 * ρ 3 + (1024 * ρ 4 + 0))) = _; omega) (hm _ List.mem_cons_self)) (by have h := hF _ List.mem_cons_self; have h : 0 ≤ (-12) + ((-1) * ρ 2 + (1 * ρ 5 + 0)) := h; omega) hG
  obtain ⟨k0, -⟩ := H
  exact ⟨_, List.mem_cons_self, ρ, fun _ _ => rfl, (okM_c (pvp 61 (by show 0 + (4096 * ρ 0 + (1 * ρ 1 + 0)) = _; omega) (by show 0 + (1 * ρ 2 + (32 * ρ 3 + (1024 * ρ 4 + 0))) = _; omega) k0) okM_n), okB_n, okF_n⟩
-- rap77_1
theorem cr_629 (M : pM) (s0 s1 s2 s3 s4 s5 s6 : Int) (b0 : 0 ≤ s0 ∧ s0 ≤ 1900) (b1 : 0 ≤ s1 ∧ s1 ≤ 950) (b2 : 0 ≤ s2 ∧ s2 ≤ 12) (b3 : 0 ≤ s3 ∧ s3 ≤ 20) (b4 : 0 ≤ s4 ∧ s4 ≤ 4) (b5 : 0 ≤ s5 ∧ s5 ≤ 23) (b6 : 0 ≤ s6 ∧ s6 ≤ 63) (m0 : HP 61 (4096 * s0 + s1) (s2 + 32 * s3 + 1024 * s4) M) (f0 : 0 ≤ ((-1) * s2 + s5 - 12)) (hG : gI M) : (HP 61 (4096 * s0 + s1) (s2 + 32 * s3 + 1024 * s4) (st M 77 (s5).toNat (s6)) ∧ True) := by
  have ht : tm (st M 77 (12 * 1 + ((s5 - 12).toNat)) (s6)) = tm M := tm_st (by decide) (by decide)
  rw [show (s5).toNat = 12 * 1 + ((s5 - 12).toNat) by omega]
  refine ⟨Eq.mpr hp_61 ?_, trivial⟩
  rw [ht]
  exact RA_m (fun _ _ _ _ _ h => agR_w77 h) (l_rap (c := 8) (w := s2) (r := s3) (g := s4) (Eq.mp hp_61 m0) (by omega) ⟨⟨by omega, by omega⟩, ⟨by omega, by omega⟩, by omega, by omega⟩ (by omega) (by decide))
theorem rul_629 : Rul r_629 := by
  refine ⟨fun h => (by cases h), fun gi gv hg ρ M hm hB hF hG => ?_⟩
  obtain ⟨g1, g2⟩ := List.cons.inj (show ([aI ((0 : Int), ([(5, 1)] : List (Nat × Int))), aI ((0 : Int), ([(6, 1)] : List (Nat × Int)))] : List av) = [.inl gi, .inl gv] from hg)
  obtain ⟨g2, -⟩ := List.cons.inj g2
  cases g1
  cases g2
  have ei : ev ρ ((0 : Int), ([(5, 1)] : List (Nat × Int))) = ((ρ 5)) := by show 0 + (1 * ρ 5 + 0) = _; omega
  have ew : ev ρ ((0 : Int), ([(6, 1)] : List (Nat × Int))) = ((ρ 6)) := by show 0 + (1 * ρ 6 + 0) = _; omega
  rw [show (st M (ctj r_629) (ev ρ ((0 : Int), ([(5, 1)] : List (Nat × Int)))).toNat (ev ρ ((0 : Int), ([(6, 1)] : List (Nat × Int))))) = (st M 77 ((ρ 5)).toNat ((ρ 6))) from by rw [ei, ew]; rfl]
  have H := cr_629 M (ρ 0) (ρ 1) (ρ 2) (ρ 3) (ρ 4) (ρ 5) (ρ 6) (hB _ List.mem_cons_self) (hB _ (List.mem_cons_of_mem _ List.mem_cons_self)) (hB _ (List.mem_cons_of_mem _ (List.mem_cons_of_mem _ List.mem_cons_self))) (hB _ (List.mem_cons_of_mem _ (List.mem_cons_of_mem _ (List.mem_cons_of_mem _ List.mem_cons_self)))) (hB _ (List.mem_cons_of_mem _ (List.mem_cons_of_mem _ (List.mem_cons_of_mem _ (List.mem_cons_of_mem _ List.mem_cons_self))))) (hB _ (List.mem_cons_of_mem _ (List.mem_cons_of_mem _ (List.mem_cons_of_mem _ (List.mem_cons_of_mem _ (List.mem_cons_of_mem _ List.mem_cons_self)))))) (hB _ (List.mem_cons_of_mem _ (List.mem_cons_of_mem _ (List.mem_cons_of_mem _ (List.mem_cons_of_mem _ (List.mem_cons_of_mem _ (List.mem_cons_of_mem _ List.mem_cons_self))))))) (cvp 61 (x' := (4096 * (ρ 0) + (ρ 1))) (y' := ((ρ 2) + 32 * (ρ 3) + 1024 * (ρ 4))) (by show 0 + (4096 * ρ 0 + (1 * ρ 1 + 0)) = _; omega) (by show 0 + (1 * ρ 2 + (32 * ρ 3 + (1024 * ρ 4 + 0))) = _; omega) (hm _ List.mem_cons_self)) (by have h := hF _ List.mem_cons_self; have h : 0 ≤ (-12) + ((-1) * ρ 2 + (1 * ρ 5 + 0)) := h; omega) hG
  obtain ⟨k0, -⟩ := H
  exact ⟨_, List.mem_cons_self, ρ, fun _ _ => rfl, (okM_c (pvp 61 (by show 0 + (4096 * ρ 0 + (1 * ρ 1 + 0)) = _; omega) (by show 0 + (1 * ρ 2 + (32 * ρ 3 + (1024 * ρ 4 + 0))) = _; omega) k0) okM_n), okB_n, okF_n⟩
-- rrp78_1
theorem cr_630 (M : pM) (s0 s1 s2 s3 s4 s5 s6 : Int) (b0 : 0 ≤ s0 ∧ s0 ≤ 1900) (b1 : 0 ≤ s1 ∧ s1 ≤ 950) (b2 : 0 ≤ s2 ∧ s2 ≤ 12) (b3 : 0 ≤ s3 ∧ s3 ≤ 20) (b4 : 0 ≤ s4 ∧ s4 ≤ 4) (b5 : 0 ≤ s5 ∧ s5 ≤ 39) (b6 : 0 ≤ s6 ∧ s6 ≤ 99) (m0 : HP 61 (4096 * s0 + s1) (s2 + 32 * s3 + 1024 * s4) M) (f0 : 0 ≤ ((-1) * s3 + s5 - 20)) (hG : gI M) : (HP 61 (4096 * s0 + s1) (s2 + 32 * s3 + 1024 * s4) (st M 78 (s5).toNat (s6)) ∧ True) := by
  have ht : tm (st M 78 (20 * 1 + ((s5 - 20).toNat)) (s6)) = tm M := tm_st (by decide) (by decide)
  rw [show (s5).toNat = 20 * 1 + ((s5 - 20).toNat) by omega]
  refine ⟨Eq.mpr hp_61 ?_, trivial⟩
  rw [ht]
  exact RA_m (fun _ _ _ _ _ h => agR_w78 h) (l_rrp (c := 9) (w := s2) (r := s3) (g := s4) (Eq.mp hp_61 m0) (by omega) ⟨⟨by omega, by omega⟩, ⟨by omega, by omega⟩, by omega, by omega⟩ (by omega) (by decide))
theorem rul_630 : Rul r_630 := by
  refine ⟨fun h => (by cases h), fun gi gv hg ρ M hm hB hF hG => ?_⟩
  obtain ⟨g1, g2⟩ := List.cons.inj (show ([aI ((0 : Int), ([(5, 1)] : List (Nat × Int))), aI ((0 : Int), ([(6, 1)] : List (Nat × Int)))] : List av) = [.inl gi, .inl gv] from hg)
  obtain ⟨g2, -⟩ := List.cons.inj g2
  cases g1
  cases g2
  have ei : ev ρ ((0 : Int), ([(5, 1)] : List (Nat × Int))) = ((ρ 5)) := by show 0 + (1 * ρ 5 + 0) = _; omega
  have ew : ev ρ ((0 : Int), ([(6, 1)] : List (Nat × Int))) = ((ρ 6)) := by show 0 + (1 * ρ 6 + 0) = _; omega
  rw [show (st M (ctj r_630) (ev ρ ((0 : Int), ([(5, 1)] : List (Nat × Int)))).toNat (ev ρ ((0 : Int), ([(6, 1)] : List (Nat × Int))))) = (st M 78 ((ρ 5)).toNat ((ρ 6))) from by rw [ei, ew]; rfl]
  have H := cr_630 M (ρ 0) (ρ 1) (ρ 2) (ρ 3) (ρ 4) (ρ 5) (ρ 6) (hB _ List.mem_cons_self) (hB _ (List.mem_cons_of_mem _ List.mem_cons_self)) (hB _ (List.mem_cons_of_mem _ (List.mem_cons_of_mem _ List.mem_cons_self))) (hB _ (List.mem_cons_of_mem _ (List.mem_cons_of_mem _ (List.mem_cons_of_mem _ List.mem_cons_self)))) (hB _ (List.mem_cons_of_mem _ (List.mem_cons_of_mem _ (List.mem_cons_of_mem _ (List.mem_cons_of_mem _ List.mem_cons_self))))) (hB _ (List.mem_cons_of_mem _ (List.mem_cons_of_mem _ (List.mem_cons_of_mem _ (List.mem_cons_of_mem _ (List.mem_cons_of_mem _ List.mem_cons_self)))))) (hB _ (List.mem_cons_of_mem _ (List.mem_cons_of_mem _ (List.mem_cons_of_mem _ (List.mem_cons_of_mem _ (List.mem_cons_of_mem _ (List.mem_cons_of_mem _ List.mem_cons_self))))))) (cvp 61 (x' := (4096 * (ρ 0) + (ρ 1))) (y' := ((ρ 2) + 32 * (ρ 3) + 1024 * (ρ 4))) (by show 0 + (4096 * ρ 0 + (1 * ρ 1 + 0)) = _; omega) (by show 0 + (1 * ρ 2 + (32 * ρ 3 + (1024 * ρ 4 + 0))) = _; omega) (hm _ List.mem_cons_self)) (by have h := hF _ List.mem_cons_self; have h : 0 ≤ (-20) + ((-1) * ρ 3 + (1 * ρ 5 + 0)) := h; omega) hG
  obtain ⟨k0, -⟩ := H
  exact ⟨_, List.mem_cons_self, ρ, fun _ _ => rfl, (okM_c (pvp 61 (by show 0 + (4096 * ρ 0 + (1 * ρ 1 + 0)) = _; omega) (by show 0 + (1 * ρ 2 + (32 * ρ 3 + (1024 * ρ 4 + 0))) = _; omega) k0) okM_n), okB_n, okF_n⟩
-- rrp79_1
theorem cr_631 (M : pM) (s0 s1 s2 s3 s4 s5 s6 : Int) (b0 : 0 ≤ s0 ∧ s0 ≤ 1900) (b1 : 0 ≤ s1 ∧ s1 ≤ 950) (b2 : 0 ≤ s2 ∧ s2 ≤ 12) (b3 : 0 ≤ s3 ∧ s3 ≤ 20) (b4 : 0 ≤ s4 ∧ s4 ≤ 4) (b5 : 0 ≤ s5 ∧ s5 ≤ 39) (b6 : 0 ≤ s6 ∧ s6 ≤ 99) (m0 : HP 61 (4096 * s0 + s1) (s2 + 32 * s3 + 1024 * s4) M) (f0 : 0 ≤ ((-1) * s3 + s5 - 20)) (hG : gI M) : (HP 61 (4096 * s0 + s1) (s2 + 32 * s3 + 1024 * s4) (st M 79 (s5).toNat (s6)) ∧ True) := by
  have ht : tm (st M 79 (20 * 1 + ((s5 - 20).toNat)) (s6)) = tm M := tm_st (by decide) (by decide)
  rw [show (s5).toNat = 20 * 1 + ((s5 - 20).toNat) by omega]
  refine ⟨Eq.mpr hp_61 ?_, trivial⟩
  rw [ht]
  exact RA_m (fun _ _ _ _ _ h => agR_w79 h) (l_rrp (c := 10) (w := s2) (r := s3) (g := s4) (Eq.mp hp_61 m0) (by omega) ⟨⟨by omega, by omega⟩, ⟨by omega, by omega⟩, by omega, by omega⟩ (by omega) (by decide))
theorem rul_631 : Rul r_631 := by
  refine ⟨fun h => (by cases h), fun gi gv hg ρ M hm hB hF hG => ?_⟩
  obtain ⟨g1, g2⟩ := List.cons.inj (show ([aI ((0 : Int), ([(5, 1)] : List (Nat × Int))), aI ((0 : Int), ([(6, 1)] : List (Nat × Int)))] : List av) = [.inl gi, .inl gv] from hg)
  obtain ⟨g2, -⟩ := List.cons.inj g2
  cases g1
  cases g2
  have ei : ev ρ ((0 : Int), ([(5, 1)] : List (Nat × Int))) = ((ρ 5)) := by show 0 + (1 * ρ 5 + 0) = _; omega
  have ew : ev ρ ((0 : Int), ([(6, 1)] : List (Nat × Int))) = ((ρ 6)) := by show 0 + (1 * ρ 6 + 0) = _; omega
  rw [show (st M (ctj r_631) (ev ρ ((0 : Int), ([(5, 1)] : List (Nat × Int)))).toNat (ev ρ ((0 : Int), ([(6, 1)] : List (Nat × Int))))) = (st M 79 ((ρ 5)).toNat ((ρ 6))) from by rw [ei, ew]; rfl]
  have H := cr_631 M (ρ 0) (ρ 1) (ρ 2) (ρ 3) (ρ 4) (ρ 5) (ρ 6) (hB _ List.mem_cons_self) (hB _ (List.mem_cons_of_mem _ List.mem_cons_self)) (hB _ (List.mem_cons_of_mem _ (List.mem_cons_of_mem _ List.mem_cons_self))) (hB _ (List.mem_cons_of_mem _ (List.mem_cons_of_mem _ (List.mem_cons_of_mem _ List.mem_cons_self)))) (hB _ (List.mem_cons_of_mem _ (List.mem_cons_of_mem _ (List.mem_cons_of_mem _ (List.mem_cons_of_mem _ List.mem_cons_self))))) (hB _ (List.mem_cons_of_mem _ (List.mem_cons_of_mem _ (List.mem_cons_of_mem _ (List.mem_cons_of_mem _ (List.mem_cons_of_mem _ List.mem_cons_self)))))) (hB _ (List.mem_cons_of_mem _ (List.mem_cons_of_mem _ (List.mem_cons_of_mem _ (List.mem_cons_of_mem _ (List.mem_cons_of_mem _ (List.mem_cons_of_mem _ List.mem_cons_self))))))) (cvp 61 (x' := (4096 * (ρ 0) + (ρ 1))) (y' := ((ρ 2) + 32 * (ρ 3) + 1024 * (ρ 4))) (by show 0 + (4096 * ρ 0 + (1 * ρ 1 + 0)) = _; omega) (by show 0 + (1 * ρ 2 + (32 * ρ 3 + (1024 * ρ 4 + 0))) = _; omega) (hm _ List.mem_cons_self)) (by have h := hF _ List.mem_cons_self; have h : 0 ≤ (-20) + ((-1) * ρ 3 + (1 * ρ 5 + 0)) := h; omega) hG
  obtain ⟨k0, -⟩ := H
  exact ⟨_, List.mem_cons_self, ρ, fun _ _ => rfl, (okM_c (pvp 61 (by show 0 + (4096 * ρ 0 + (1 * ρ 1 + 0)) = _; omega) (by show 0 + (1 * ρ 2 + (32 * ρ 3 + (1024 * ρ 4 + 0))) = _; omega) k0) okM_n), okB_n, okF_n⟩
-- rrp80_1
theorem cr_632 (M : pM) (s0 s1 s2 s3 s4 s5 s6 : Int) (b0 : 0 ≤ s0 ∧ s0 ≤ 1900) (b1 : 0 ≤ s1 ∧ s1 ≤ 950) (b2 : 0 ≤ s2 ∧ s2 ≤ 12) (b3 : 0 ≤ s3 ∧ s3 ≤ 20) (b4 : 0 ≤ s4 ∧ s4 ≤ 4) (b5 : 0 ≤ s5 ∧ s5 ≤ 39) (b6 : 0 ≤ s6 ∧ s6 ≤ 99) (m0 : HP 61 (4096 * s0 + s1) (s2 + 32 * s3 + 1024 * s4) M) (f0 : 0 ≤ ((-1) * s3 + s5 - 20)) (hG : gI M) : (HP 61 (4096 * s0 + s1) (s2 + 32 * s3 + 1024 * s4) (st M 80 (s5).toNat (s6)) ∧ True) := by
  have ht : tm (st M 80 (20 * 1 + ((s5 - 20).toNat)) (s6)) = tm M := tm_st (by decide) (by decide)
  rw [show (s5).toNat = 20 * 1 + ((s5 - 20).toNat) by omega]
  refine ⟨Eq.mpr hp_61 ?_, trivial⟩
  rw [ht]
  exact RA_m (fun _ _ _ _ _ h => agR_w80 h) (l_rrp (c := 11) (w := s2) (r := s3) (g := s4) (Eq.mp hp_61 m0) (by omega) ⟨⟨by omega, by omega⟩, ⟨by omega, by omega⟩, by omega, by omega⟩ (by omega) (by decide))
theorem rul_632 : Rul r_632 := by
  refine ⟨fun h => (by cases h), fun gi gv hg ρ M hm hB hF hG => ?_⟩
  obtain ⟨g1, g2⟩ := List.cons.inj (show ([aI ((0 : Int), ([(5, 1)] : List (Nat × Int))), aI ((0 : Int), ([(6, 1)] : List (Nat × Int)))] : List av) = [.inl gi, .inl gv] from hg)
  obtain ⟨g2, -⟩ := List.cons.inj g2
  cases g1
  cases g2
  have ei : ev ρ ((0 : Int), ([(5, 1)] : List (Nat × Int))) = ((ρ 5)) := by show 0 + (1 * ρ 5 + 0) = _; omega
  have ew : ev ρ ((0 : Int), ([(6, 1)] : List (Nat × Int))) = ((ρ 6)) := by show 0 + (1 * ρ 6 + 0) = _; omega
  rw [show (st M (ctj r_632) (ev ρ ((0 : Int), ([(5, 1)] : List (Nat × Int)))).toNat (ev ρ ((0 : Int), ([(6, 1)] : List (Nat × Int))))) = (st M 80 ((ρ 5)).toNat ((ρ 6))) from by rw [ei, ew]; rfl]
  have H := cr_632 M (ρ 0) (ρ 1) (ρ 2) (ρ 3) (ρ 4) (ρ 5) (ρ 6) (hB _ List.mem_cons_self) (hB _ (List.mem_cons_of_mem _ List.mem_cons_self)) (hB _ (List.mem_cons_of_mem _ (List.mem_cons_of_mem _ List.mem_cons_self))) (hB _ (List.mem_cons_of_mem _ (List.mem_cons_of_mem _ (List.mem_cons_of_mem _ List.mem_cons_self)))) (hB _ (List.mem_cons_of_mem _ (List.mem_cons_of_mem _ (List.mem_cons_of_mem _ (List.mem_cons_of_mem _ List.mem_cons_self))))) (hB _ (List.mem_cons_of_mem _ (List.mem_cons_of_mem _ (List.mem_cons_of_mem _ (List.mem_cons_of_mem _ (List.mem_cons_of_mem _ List.mem_cons_self)))))) (hB _ (List.mem_cons_of_mem _ (List.mem_cons_of_mem _ (List.mem_cons_of_mem _ (List.mem_cons_of_mem _ (List.mem_cons_of_mem _ (List.mem_cons_of_mem _ List.mem_cons_self))))))) (cvp 61 (x' := (4096 * (ρ 0) + (ρ 1))) (y' := ((ρ 2) + 32 * (ρ 3) + 1024 * (ρ 4))) (by show 0 + (4096 * ρ 0 + (1 * ρ 1 + 0)) = _; omega) (by show 0 + (1 * ρ 2 + (32 * ρ 3 + (1024 * ρ 4 + 0))) = _; omega) (hm _ List.mem_cons_self)) (by have h := hF _ List.mem_cons_self; have h : 0 ≤ (-20) + ((-1) * ρ 3 + (1 * ρ 5 + 0)) := h; omega) hG
  obtain ⟨k0, -⟩ := H
  exact ⟨_, List.mem_cons_self, ρ, fun _ _ => rfl, (okM_c (pvp 61 (by show 0 + (4096 * ρ 0 + (1 * ρ 1 + 0)) = _; omega) (by show 0 + (1 * ρ 2 + (32 * ρ 3 + (1024 * ρ 4 + 0))) = _; omega) k0) okM_n), okB_n, okF_n⟩
-- rae_1
theorem cr_633 (M : pM) (s0 s1 s2 s3 s4 s5 s6 s7 s8 s9 s10 : Int) (b0 : 0 ≤ s0 ∧ s0 ≤ 1900) (b1 : 0 ≤ s1 ∧ s1 ≤ 950) (b2 : 0 ≤ s2 ∧ s2 ≤ 1900) (b3 : 0 ≤ s3 ∧ s3 ≤ 12) (b4 : 0 ≤ s4 ∧ s4 ≤ 20) (b5 : 0 ≤ s5 ∧ s5 ≤ 4) (b6 : 0 ≤ s6 ∧ s6 ≤ 7) (b7 : 0 ≤ s7 ∧ s7 ≤ 7) (b8 : 0 ≤ s8 ∧ s8 ≤ 40) (b9 : 0 ≤ s9 ∧ s9 ≤ 36) (b10 : 1 ≤ s10 ∧ s10 ≤ 36) (m0 : HP 61 (4096 * s0 + s1) (s3 + 32 * s4 + 1024 * s5) M) (m1 : HP 53 (4096 * s0 + s1) (256 * s2 + 73) M) (m2 : HP 79 (16 * s0 + 1) (s6) M) (m3 : HP 79 (16 * s0 + 2) (s7) M) (m4 : HP 79 (16 * s0 + 4) (s8) M) (m5 : HP 79 (16 * s0 + 6) (s9) M) (m6 : HP 79 (16 * s0 + 8) (s10) M) (m7 : (0 ≤ (s3 + 12) ∧ M 74 (s3 + 12).toNat = (s6 + 8 * s7))) (m8 : (0 ≤ (s3 + 12) ∧ M 75 (s3 + 12).toNat = (s8))) (m9 : (0 ≤ (s3 + 12) ∧ M 76 (s3 + 12).toNat = (s9))) (m10 : (0 ≤ (s3 + 12) ∧ M 77 (s3 + 12).toNat = (s10))) (f0 : 0 ≤ ((-1) * s3 + 11)) (hG : gI M) : (HP 63 (4096 * s0 + s1) (s3 + 32 * s4 + 1024 * s5 + 1) M ∧ True) := by
  have hj : (12 + s3).toNat = 12 * 1 + s3.toNat := by omega
  have r0 : M 74 (12 * 1 + s3.toNat) = (s6 + 8 * s7) := by rw [← show (s3 + 12).toNat = 12 * 1 + s3.toNat by omega]; exact m7.2
  have r1 : M 75 (12 * 1 + s3.toNat) = (s8) := by rw [← show (s3 + 12).toNat = 12 * 1 + s3.toNat by omega]; exact m8.2
  have r2 : M 76 (12 * 1 + s3.toNat) = (s9) := by rw [← show (s3 + 12).toNat = 12 * 1 + s3.toNat by omega]; exact m9.2
  have r3 : M 77 (12 * 1 + s3.toNat) = (s10) := by rw [← show (s3 + 12).toNat = 12 * 1 + s3.toNat by omega]; exact m10.2
  exact ⟨Eq.mpr hp_63 (l_rae (w := s3) (r := s4) (g := s5) (P := s0) (l := s1) (Eq.mp hp_61 m0) (by omega) ⟨⟨by omega, by omega⟩, ⟨by omega, by omega⟩, by omega, by omega⟩ (ex_o (K := 4) (j := 8) (a := s2) (Eq.mp hp_53 m1) ⟨by omega, by omega, by decide, by decide⟩) ⟨by omega, by omega, by omega⟩ (q79 (P := s0) (i := 1) m2 ⟨by omega, by decide⟩ (by omega)) (q79 (P := s0) (i := 2) m3 ⟨by omega, by decide⟩ (by omega)) (q79 (P := s0) (i := 4) m4 ⟨by omega, by decide⟩ (by omega)) (q79 (P := s0) (i := 6) m5 ⟨by omega, by decide⟩ (by omega)) (q79 (P := s0) (i := 8) m6 ⟨by omega, by decide⟩ (by omega)) r0 r1 r2 r3 (by omega) (by omega)), trivial⟩
theorem rul_633 : Rul r_633 := by
  refine ⟨fun _ ρ M hm hB hF hG => ?_, fun gi gv hg => (by cases hg)⟩
  have H := cr_633 M (ρ 0) (ρ 1) (ρ 2) (ρ 3) (ρ 4) (ρ 5) (ρ 6) (ρ 7) (ρ 8) (ρ 9) (ρ 10) (hB _ List.mem_cons_self) (hB _ (List.mem_cons_of_mem _ List.mem_cons_self)) (hB _ (List.mem_cons_of_mem _ (List.mem_cons_of_mem _ List.mem_cons_self))) (hB _ (List.mem_cons_of_mem _ (List.mem_cons_of_mem _ (List.mem_cons_of_mem _ List.mem_cons_self)))) (hB _ (List.mem_cons_of_mem _ (List.mem_cons_of_mem _ (List.mem_cons_of_mem _ (List.mem_cons_of_mem _ List.mem_cons_self))))) (hB _ (List.mem_cons_of_mem _ (List.mem_cons_of_mem _ (List.mem_cons_of_mem _ (List.mem_cons_of_mem _ (List.mem_cons_of_mem _ List.mem_cons_self)))))) (hB _ (List.mem_cons_of_mem _ (List.mem_cons_of_mem _ (List.mem_cons_of_mem _ (List.mem_cons_of_mem _ (List.mem_cons_of_mem _ (List.mem_cons_of_mem _ List.mem_cons_self))))))) (hB _ (List.mem_cons_of_mem _ (List.mem_cons_of_mem _ (List.mem_cons_of_mem _ (List.mem_cons_of_mem _ (List.mem_cons_of_mem _ (List.mem_cons_of_mem _ (List.mem_cons_of_mem _ List.mem_cons_self)))))))) (hB _ (List.mem_cons_of_mem _ (List.mem_cons_of_mem _ (List.mem_cons_of_mem _ (List.mem_cons_of_mem _ (List.mem_cons_of_mem _ (List.mem_cons_of_mem _ (List.mem_cons_of_mem _ (List.mem_cons_of_mem _ List.mem_cons_self))))))))) (hB _ (List.mem_cons_of_mem _ (List.mem_cons_of_mem _ (List.mem_cons_of_mem _ (List.mem_cons_of_mem _ (List.mem_cons_of_mem _ (List.mem_cons_of_mem _ (List.mem_cons_of_mem _ (List.mem_cons_of_mem _ (List.mem_cons_of_mem _ List.mem_cons_self)))))))))) (hB _ (List.mem_cons_of_mem _ (List.mem_cons_of_mem _ (List.mem_cons_of_mem _ (List.mem_cons_of_mem _ (List.mem_cons_of_mem _ (List.mem_cons_of_mem _ (List.mem_cons_of_mem _ (List.mem_cons_of_mem _ (List.mem_cons_of_mem _ (List.mem_cons_of_mem _ List.mem_cons_self))))))))))) (cvp 61 (x' := (4096 * (ρ 0) + (ρ 1))) (y' := ((ρ 3) + 32 * (ρ 4) + 1024 * (ρ 5))) (by show 0 + (4096 * ρ 0 + (1 * ρ 1 + 0)) = _; omega) (by show 0 + (1 * ρ 3 + (32 * ρ 4 + (1024 * ρ 5 + 0))) = _; omega) (hm _ List.mem_cons_self)) (cvp 53 (x' := (4096 * (ρ 0) + (ρ 1))) (y' := (256 * (ρ 2) + 73)) (by show 0 + (4096 * ρ 0 + (1 * ρ 1 + 0)) = _; omega) (by show 73 + (256 * ρ 2 + 0) = _; omega) (hm _ (List.mem_cons_of_mem _ List.mem_cons_self))) (cvp 79 (x' := (16 * (ρ 0) + 1)) (y' := ((ρ 6))) (by show 1 + (16 * ρ 0 + 0) = _; omega) (by show 0 + (1 * ρ 6 + 0) = _; omega) (hm _ (List.mem_cons_of_mem _ (List.mem_cons_of_mem _ List.mem_cons_self)))) (cvp 79 (x' := (16 * (ρ 0) + 2)) (y' := ((ρ 7))) (by show 2 + (16 * ρ 0 + 0) = _; omega) (by show 0 + (1 * ρ 7 + 0) = _; omega) (hm _ (List.mem_cons_of_mem _ (List.mem_cons_of_mem _ (List.mem_cons_of_mem _ List.mem_cons_self))))) (cvp 79 (x' := (16 * (ρ 0) + 4)) (y' := ((ρ 8))) (by show 4 + (16 * ρ 0 + 0) = _; omega) (by show 0 + (1 * ρ 8 + 0) = _; omega) (hm _ (List.mem_cons_of_mem _ (List.mem_cons_of_mem _ (List.mem_cons_of_mem _ (List.mem_cons_of_mem _ List.mem_cons_self)))))) (cvp 79 (x' := (16 * (ρ 0) + 6)) (y' := ((ρ 9))) (by show 6 + (16 * ρ 0 + 0) = _; omega) (by show 0 + (1 * ρ 9 + 0) = _; omega) (hm _ (List.mem_cons_of_mem _ (List.mem_cons_of_mem _ (List.mem_cons_of_mem _ (List.mem_cons_of_mem _ (List.mem_cons_of_mem _ List.mem_cons_self))))))) (cvp 79 (x' := (16 * (ρ 0) + 8)) (y' := ((ρ 10))) (by show 8 + (16 * ρ 0 + 0) = _; omega) (by show 0 + (1 * ρ 10 + 0) = _; omega) (hm _ (List.mem_cons_of_mem _ (List.mem_cons_of_mem _ (List.mem_cons_of_mem _ (List.mem_cons_of_mem _ (List.mem_cons_of_mem _ (List.mem_cons_of_mem _ List.mem_cons_self)))))))) (cvm (c := 74) (by decide) (x' := ((ρ 3) + 12)) (y' := ((ρ 6) + 8 * (ρ 7))) (by show 12 + (1 * ρ 3 + 0) = _; omega) (by show 0 + (1 * ρ 6 + (8 * ρ 7 + 0)) = _; omega) (hm _ (List.mem_cons_of_mem _ (List.mem_cons_of_mem _ (List.mem_cons_of_mem _ (List.mem_cons_of_mem _ (List.mem_cons_of_mem _ (List.mem_cons_of_mem _ (List.mem_cons_of_mem _ List.mem_cons_self))))))))) (cvm (c := 75) (by decide) (x' := ((ρ 3) + 12)) (y' := ((ρ 8))) (by show 12 + (1 * ρ 3 + 0) = _; omega) (by show 0 + (1 * ρ 8 + 0) = _; omega) (hm _ (List.mem_cons_of_mem _ (List.mem_cons_of_mem _ (List.mem_cons_of_mem _ (List.mem_cons_of_mem _ (List.mem_cons_of_mem _ (List.mem_cons_of_mem _ (List.mem_cons_of_mem _ (List.mem_cons_of_mem _ List.mem_cons_self)))))))))) (cvm (c := 76) (by decide) (x' := ((ρ 3) + 12)) (y' := ((ρ 9))) (by show 12 + (1 * ρ 3 + 0) = _; omega) (by show 0 + (1 * ρ 9 + 0) = _; omega) (hm _ (List.mem_cons_of_mem _ (List.mem_cons_of_mem _ (List.mem_cons_of_mem _ (List.mem_cons_of_mem _ (List.mem_cons_of_mem _ (List.mem_cons_of_mem _ (List.mem_cons_of_mem _ (List.mem_cons_of_mem _ (List.mem_cons_of_mem _ List.mem_cons_self))))))))))) (cvm (c := 77) (by decide) (x' := ((ρ 3) + 12)) (y' := ((ρ 10))) (by show 12 + (1 * ρ 3 + 0) = _; omega) (by show 0 + (1 * ρ 10 + 0) = _; omega) (hm _ (List.mem_cons_of_mem _ (List.mem_cons_of_mem _ (List.mem_cons_of_mem _ (List.mem_cons_of_mem _ (List.mem_cons_of_mem _ (List.mem_cons_of_mem _ (List.mem_cons_of_mem _ (List.mem_cons_of_mem _ (List.mem_cons_of_mem _ (List.mem_cons_of_mem _ List.mem_cons_self)))))))))))) (by have h := hF _ List.mem_cons_self; have h : 0 ≤ 11 + ((-1) * ρ 3 + 0) := h; omega) hG
  obtain ⟨k0, -⟩ := H
  exact ⟨_, List.mem_cons_self, ρ, fun _ _ => rfl, (okM_c (pvp 63 (by show 0 + (4096 * ρ 0 + (1 * ρ 1 + 0)) = _; omega) (by show 1 + (1 * ρ 3 + (32 * ρ 4 + (1024 * ρ 5 + 0))) = _; omega) k0) okM_n), okB_n, okF_n⟩
-- rre_1
theorem cr_634 (M : pM) (s0 s1 s2 s3 s4 s5 s6 s7 s8 s9 s10 : Int) (b0 : 0 ≤ s0 ∧ s0 ≤ 1900) (b1 : 0 ≤ s1 ∧ s1 ≤ 950) (b2 : 0 ≤ s2 ∧ s2 ≤ 1900) (b3 : 0 ≤ s3 ∧ s3 ≤ 12) (b4 : 0 ≤ s4 ∧ s4 ≤ 20) (b5 : 0 ≤ s5 ∧ s5 ≤ 4) (b6 : 0 ≤ s6 ∧ s6 ≤ 7) (b7 : 0 ≤ s7 ∧ s7 ≤ 7) (b8 : 0 ≤ s8 ∧ s8 ≤ 7) (b9 : 0 ≤ s9 ∧ s9 ≤ 7) (b10 : 1 ≤ s10 ∧ s10 ≤ 99) (m0 : HP 61 (4096 * s0 + s1) (s3 + 32 * s4 + 1024 * s5) M) (m1 : HP 53 (4096 * s0 + s1) (256 * s2 + 150) M) (m2 : HP 79 (16 * s0 + 1) (s6) M) (m3 : HP 79 (16 * s0 + 2) (s7) M) (m4 : HP 79 (16 * s0 + 3) (s8) M) (m5 : HP 79 (16 * s0 + 4) (s9) M) (m6 : HP 79 (16 * s0 + 5) (s10) M) (m7 : (0 ≤ (s4 + 20) ∧ M 78 (s4 + 20).toNat = (s6 + 8 * s7))) (m8 : (0 ≤ (s4 + 20) ∧ M 79 (s4 + 20).toNat = (s8 + 8 * s9))) (m9 : (0 ≤ (s4 + 20) ∧ M 80 (s4 + 20).toNat = (s10))) (f0 : 0 ≤ ((-1) * s4 + 19)) (hG : gI M) : (HP 63 (4096 * s0 + s1) (s3 + 32 * s4 + 1024 * s5 + 32) M ∧ True) := by
  have hj : (20 + s4).toNat = 20 * 1 + s4.toNat := by omega
  have r0 : M 78 (20 * 1 + s4.toNat) = (s6 + 8 * s7) := by rw [← show (s4 + 20).toNat = 20 * 1 + s4.toNat by omega]; exact m7.2
  have r1 : M 79 (20 * 1 + s4.toNat) = (s8 + 8 * s9) := by rw [← show (s4 + 20).toNat = 20 * 1 + s4.toNat by omega]; exact m8.2
  have r2 : M 80 (20 * 1 + s4.toNat) = (s10) := by rw [← show (s4 + 20).toNat = 20 * 1 + s4.toNat by omega]; exact m9.2
  exact ⟨Eq.mpr hp_63 (l_rre (w := s3) (r := s4) (g := s5) (P := s0) (l := s1) (Eq.mp hp_61 m0) (by omega) ⟨⟨by omega, by omega⟩, ⟨by omega, by omega⟩, by omega, by omega⟩ (ex_o (K := 9) (j := 5) (a := s2) (Eq.mp hp_53 m1) ⟨by omega, by omega, by decide, by decide⟩) ⟨by omega, by omega, by omega⟩ (q79 (P := s0) (i := 1) m2 ⟨by omega, by decide⟩ (by omega)) (q79 (P := s0) (i := 2) m3 ⟨by omega, by decide⟩ (by omega)) (q79 (P := s0) (i := 3) m4 ⟨by omega, by decide⟩ (by omega)) (q79 (P := s0) (i := 4) m5 ⟨by omega, by decide⟩ (by omega)) (q79 (P := s0) (i := 5) m6 ⟨by omega, by decide⟩ (by omega)) r0 r1 r2 (by omega) (by omega)), trivial⟩
theorem rul_634 : Rul r_634 := by
  refine ⟨fun _ ρ M hm hB hF hG => ?_, fun gi gv hg => (by cases hg)⟩
  have H := cr_634 M (ρ 0) (ρ 1) (ρ 2) (ρ 3) (ρ 4) (ρ 5) (ρ 6) (ρ 7) (ρ 8) (ρ 9) (ρ 10) (hB _ List.mem_cons_self) (hB _ (List.mem_cons_of_mem _ List.mem_cons_self)) (hB _ (List.mem_cons_of_mem _ (List.mem_cons_of_mem _ List.mem_cons_self))) (hB _ (List.mem_cons_of_mem _ (List.mem_cons_of_mem _ (List.mem_cons_of_mem _ List.mem_cons_self)))) (hB _ (List.mem_cons_of_mem _ (List.mem_cons_of_mem _ (List.mem_cons_of_mem _ (List.mem_cons_of_mem _ List.mem_cons_self))))) (hB _ (List.mem_cons_of_mem _ (List.mem_cons_of_mem _ (List.mem_cons_of_mem _ (List.mem_cons_of_mem _ (List.mem_cons_of_mem _ List.mem_cons_self)))))) (hB _ (List.mem_cons_of_mem _ (List.mem_cons_of_mem _ (List.mem_cons_of_mem _ (List.mem_cons_of_mem _ (List.mem_cons_of_mem _ (List.mem_cons_of_mem _ List.mem_cons_self))))))) (hB _ (List.mem_cons_of_mem _ (List.mem_cons_of_mem _ (List.mem_cons_of_mem _ (List.mem_cons_of_mem _ (List.mem_cons_of_mem _ (List.mem_cons_of_mem _ (List.mem_cons_of_mem _ List.mem_cons_self)))))))) (hB _ (List.mem_cons_of_mem _ (List.mem_cons_of_mem _ (List.mem_cons_of_mem _ (List.mem_cons_of_mem _ (List.mem_cons_of_mem _ (List.mem_cons_of_mem _ (List.mem_cons_of_mem _ (List.mem_cons_of_mem _ List.mem_cons_self))))))))) (hB _ (List.mem_cons_of_mem _ (List.mem_cons_of_mem _ (List.mem_cons_of_mem _ (List.mem_cons_of_mem _ (List.mem_cons_of_mem _ (List.mem_cons_of_mem _ (List.mem_cons_of_mem _ (List.mem_cons_of_mem _ (List.mem_cons_of_mem _ List.mem_cons_self)))))))))) (hB _ (List.mem_cons_of_mem _ (List.mem_cons_of_mem _ (List.mem_cons_of_mem _ (List.mem_cons_of_mem _ (List.mem_cons_of_mem _ (List.mem_cons_of_mem _ (List.mem_cons_of_mem _ (List.mem_cons_of_mem _ (List.mem_cons_of_mem _ (List.mem_cons_of_mem _ List.mem_cons_self))))))))))) (cvp 61 (x' := (4096 * (ρ 0) + (ρ 1))) (y' := ((ρ 3) + 32 * (ρ 4) + 1024 * (ρ 5))) (by show 0 + (4096 * ρ 0 + (1 * ρ 1 + 0)) = _; omega) (by show 0 + (1 * ρ 3 + (32 * ρ 4 + (1024 * ρ 5 + 0))) = _; omega) (hm _ List.mem_cons_self)) (cvp 53 (x' := (4096 * (ρ 0) + (ρ 1))) (y' := (256 * (ρ 2) + 150)) (by show 0 + (4096 * ρ 0 + (1 * ρ 1 + 0)) = _; omega) (by show 150 + (256 * ρ 2 + 0) = _; omega) (hm _ (List.mem_cons_of_mem _ List.mem_cons_self))) (cvp 79 (x' := (16 * (ρ 0) + 1)) (y' := ((ρ 6))) (by show 1 + (16 * ρ 0 + 0) = _; omega) (by show 0 + (1 * ρ 6 + 0) = _; omega) (hm _ (List.mem_cons_of_mem _ (List.mem_cons_of_mem _ List.mem_cons_self)))) (cvp 79 (x' := (16 * (ρ 0) + 2)) (y' := ((ρ 7))) (by show 2 + (16 * ρ 0 + 0) = _; omega) (by show 0 + (1 * ρ 7 + 0) = _; omega) (hm _ (List.mem_cons_of_mem _ (List.mem_cons_of_mem _ (List.mem_cons_of_mem _ List.mem_cons_self))))) (cvp 79 (x' := (16 * (ρ 0) + 3)) (y' := ((ρ 8))) (by show 3 + (16 * ρ 0 + 0) = _; omega) (by show 0 + (1 * ρ 8 + 0) = _; omega) (hm _ (List.mem_cons_of_mem _ (List.mem_cons_of_mem _ (List.mem_cons_of_mem _ (List.mem_cons_of_mem _ List.mem_cons_self)))))) (cvp 79 (x' := (16 * (ρ 0) + 4)) (y' := ((ρ 9))) (by show 4 + (16 * ρ 0 + 0) = _; omega) (by show 0 + (1 * ρ 9 + 0) = _; omega) (hm _ (List.mem_cons_of_mem _ (List.mem_cons_of_mem _ (List.mem_cons_of_mem _ (List.mem_cons_of_mem _ (List.mem_cons_of_mem _ List.mem_cons_self))))))) (cvp 79 (x' := (16 * (ρ 0) + 5)) (y' := ((ρ 10))) (by show 5 + (16 * ρ 0 + 0) = _; omega) (by show 0 + (1 * ρ 10 + 0) = _; omega) (hm _ (List.mem_cons_of_mem _ (List.mem_cons_of_mem _ (List.mem_cons_of_mem _ (List.mem_cons_of_mem _ (List.mem_cons_of_mem _ (List.mem_cons_of_mem _ List.mem_cons_self)))))))) (cvm (c := 78) (by decide) (x' := ((ρ 4) + 20)) (y' := ((ρ 6) + 8 * (ρ 7))) (by show 20 + (1 * ρ 4 + 0) = _; omega) (by show 0 + (1 * ρ 6 + (8 * ρ 7 + 0)) = _; omega) (hm _ (List.mem_cons_of_mem _ (List.mem_cons_of_mem _ (List.mem_cons_of_mem _ (List.mem_cons_of_mem _ (List.mem_cons_of_mem _ (List.mem_cons_of_mem _ (List.mem_cons_of_mem _ List.mem_cons_self))))))))) (cvm (c := 79) (by decide) (x' := ((ρ 4) + 20)) (y' := ((ρ 8) + 8 * (ρ 9))) (by show 20 + (1 * ρ 4 + 0) = _; omega) (by show 0 + (1 * ρ 8 + (8 * ρ 9 + 0)) = _; omega) (hm _ (List.mem_cons_of_mem _ (List.mem_cons_of_mem _ (List.mem_cons_of_mem _ (List.mem_cons_of_mem _ (List.mem_cons_of_mem _ (List.mem_cons_of_mem _ (List.mem_cons_of_mem _ (List.mem_cons_of_mem _ List.mem_cons_self)))))))))) (cvm (c := 80) (by decide) (x' := ((ρ 4) + 20)) (y' := ((ρ 10))) (by show 20 + (1 * ρ 4 + 0) = _; omega) (by show 0 + (1 * ρ 10 + 0) = _; omega) (hm _ (List.mem_cons_of_mem _ (List.mem_cons_of_mem _ (List.mem_cons_of_mem _ (List.mem_cons_of_mem _ (List.mem_cons_of_mem _ (List.mem_cons_of_mem _ (List.mem_cons_of_mem _ (List.mem_cons_of_mem _ (List.mem_cons_of_mem _ List.mem_cons_self))))))))))) (by have h := hF _ List.mem_cons_self; have h : 0 ≤ 19 + ((-1) * ρ 4 + 0) := h; omega) hG
  obtain ⟨k0, -⟩ := H
  exact ⟨_, List.mem_cons_self, ρ, fun _ _ => rfl, (okM_c (pvp 63 (by show 0 + (4096 * ρ 0 + (1 * ρ 1 + 0)) = _; omega) (by show 32 + (1 * ρ 3 + (32 * ρ 4 + (1024 * ρ 5 + 0))) = _; omega) k0) okM_n), okB_n, okF_n⟩
-- rfw_1
theorem cr_635 (M : pM) (s0 s1 s2 s3 s4 s5 s6 s7 : Int) (b0 : 0 ≤ s0 ∧ s0 ≤ 1900) (b1 : 0 ≤ s1 ∧ s1 ≤ 950) (b2 : 0 ≤ s2 ∧ s2 ≤ 1900) (b3 : 0 ≤ s3 ∧ s3 ≤ 12) (b4 : 0 ≤ s4 ∧ s4 ≤ 20) (b5 : 0 ≤ s5 ∧ s5 ≤ 4) (b6 : 0 ≤ s6 ∧ s6 ≤ 7) (b7 : 0 ≤ s7 ∧ s7 ≤ 7) (m0 : HP 61 (4096 * s0 + s1) (s3 + 32 * s4 + 1024 * s5) M) (m1 : HP 53 (4096 * s0 + s1) (256 * s2 + 131) M) (m2 : HP 79 (16 * s0 + 1) (s6) M) (m3 : HP 79 (16 * s0 + 2) (s7) M) (hG : gI M) : (HP 63 (4096 * s0 + s1) (s3 + 32 * s4 + 1024 * s5) (st M 86 (s6 + 8 * s7 + 64).toNat (1 : Int)) ∧ True) := by
  have ht : tm (st M 86 (64 * 1 + ((s6 + 8 * s7).toNat)) (1 : Int)) = tm M := tm_st (by decide) (by decide)
  rw [show (s6 + 8 * s7 + 64).toNat = 64 * 1 + ((s6 + 8 * s7).toNat) by omega]
  refine ⟨Eq.mpr hp_63 ?_, trivial⟩
  rw [ht]
  exact RW_m (fun _ _ _ _ _ h => agR_w86 h) (l_rfw (P := s0) (l := s1) (Eq.mp hp_61 m0) (ex_o (K := 8) (j := 2) (a := s2) (Eq.mp hp_53 m1) ⟨by omega, by omega, by decide, by decide⟩) ⟨by omega, by omega, by omega⟩ (q79 (P := s0) (i := 1) m2 ⟨by omega, by decide⟩ (by omega)) (q79 (P := s0) (i := 2) m3 ⟨by omega, by decide⟩ (by omega)) (by omega))
theorem rul_635 : Rul r_635 := by
  refine ⟨fun h => (by cases h), fun gi gv hg ρ M hm hB hF hG => ?_⟩
  obtain ⟨g1, g2⟩ := List.cons.inj (show ([aI ((64 : Int), ([(6, 1), (7, 8)] : List (Nat × Int))), aI ((1 : Int), ([] : List (Nat × Int)))] : List av) = [.inl gi, .inl gv] from hg)
  obtain ⟨g2, -⟩ := List.cons.inj g2
  cases g1
  cases g2
  have ei : ev ρ ((64 : Int), ([(6, 1), (7, 8)] : List (Nat × Int))) = ((ρ 6) + 8 * (ρ 7) + 64) := by show 64 + (1 * ρ 6 + (8 * ρ 7 + 0)) = _; omega
  have ew : ev ρ ((1 : Int), ([] : List (Nat × Int))) = (1 : Int) := by show 1 + 0 = _; omega
  rw [show (st M (ctj r_635) (ev ρ ((64 : Int), ([(6, 1), (7, 8)] : List (Nat × Int)))).toNat (ev ρ ((1 : Int), ([] : List (Nat × Int))))) = (st M 86 ((ρ 6) + 8 * (ρ 7) + 64).toNat (1 : Int)) from by rw [ei, ew]; rfl]
  have H := cr_635 M (ρ 0) (ρ 1) (ρ 2) (ρ 3) (ρ 4) (ρ 5) (ρ 6) (ρ 7) (hB _ List.mem_cons_self) (hB _ (List.mem_cons_of_mem _ List.mem_cons_self)) (hB _ (List.mem_cons_of_mem _ (List.mem_cons_of_mem _ List.mem_cons_self))) (hB _ (List.mem_cons_of_mem _ (List.mem_cons_of_mem _ (List.mem_cons_of_mem _ List.mem_cons_self)))) (hB _ (List.mem_cons_of_mem _ (List.mem_cons_of_mem _ (List.mem_cons_of_mem _ (List.mem_cons_of_mem _ List.mem_cons_self))))) (hB _ (List.mem_cons_of_mem _ (List.mem_cons_of_mem _ (List.mem_cons_of_mem _ (List.mem_cons_of_mem _ (List.mem_cons_of_mem _ List.mem_cons_self)))))) (hB _ (List.mem_cons_of_mem _ (List.mem_cons_of_mem _ (List.mem_cons_of_mem _ (List.mem_cons_of_mem _ (List.mem_cons_of_mem _ (List.mem_cons_of_mem _ List.mem_cons_self))))))) (hB _ (List.mem_cons_of_mem _ (List.mem_cons_of_mem _ (List.mem_cons_of_mem _ (List.mem_cons_of_mem _ (List.mem_cons_of_mem _ (List.mem_cons_of_mem _ (List.mem_cons_of_mem _ List.mem_cons_self)))))))) (cvp 61 (x' := (4096 * (ρ 0) + (ρ 1))) (y' := ((ρ 3) + 32 * (ρ 4) + 1024 * (ρ 5))) (by show 0 + (4096 * ρ 0 + (1 * ρ 1 + 0)) = _; omega) (by show 0 + (1 * ρ 3 + (32 * ρ 4 + (1024 * ρ 5 + 0))) = _; omega) (hm _ List.mem_cons_self)) (cvp 53 (x' := (4096 * (ρ 0) + (ρ 1))) (y' := (256 * (ρ 2) + 131)) (by show 0 + (4096 * ρ 0 + (1 * ρ 1 + 0)) = _; omega) (by show 131 + (256 * ρ 2 + 0) = _; omega) (hm _ (List.mem_cons_of_mem _ List.mem_cons_self))) (cvp 79 (x' := (16 * (ρ 0) + 1)) (y' := ((ρ 6))) (by show 1 + (16 * ρ 0 + 0) = _; omega) (by show 0 + (1 * ρ 6 + 0) = _; omega) (hm _ (List.mem_cons_of_mem _ (List.mem_cons_of_mem _ List.mem_cons_self)))) (cvp 79 (x' := (16 * (ρ 0) + 2)) (y' := ((ρ 7))) (by show 2 + (16 * ρ 0 + 0) = _; omega) (by show 0 + (1 * ρ 7 + 0) = _; omega) (hm _ (List.mem_cons_of_mem _ (List.mem_cons_of_mem _ (List.mem_cons_of_mem _ List.mem_cons_self))))) hG
  obtain ⟨k0, -⟩ := H
  exact ⟨_, List.mem_cons_self, ρ, fun _ _ => rfl, (okM_c (pvp 63 (by show 0 + (4096 * ρ 0 + (1 * ρ 1 + 0)) = _; omega) (by show 0 + (1 * ρ 3 + (32 * ρ 4 + (1024 * ρ 5 + 0))) = _; omega) k0) okM_n), okB_n, okF_n⟩
-- on0_1
theorem cr_636 (M : pM) (s0 : Int) (b0 : 0 ≤ s0 ∧ s0 ≤ 9223372036854775807) (hG : gI M) : (HP 154 (4 : Int) (s0) M ∧ True) := by
  exact ⟨Eq.mpr hp_154 (fun i h1 h2 => by omega), trivial⟩
theorem rul_636 : Rul r_636 := by
  refine ⟨fun _ ρ M hm hB hF hG => ?_, fun gi gv hg => (by cases hg)⟩
  have H := cr_636 M (ρ 0) (hB _ List.mem_cons_self) hG
  obtain ⟨k0, -⟩ := H
  exact ⟨_, List.mem_cons_self, ρ, fun _ _ => rfl, (okM_c (pvp 154 (by show 4 + 0 = _; omega) (by show 0 + (1 * ρ 0 + 0) = _; omega) k0) okM_n), okB_n, okF_n⟩
-- onn0_1
theorem cr_637 (M : pM) (s0 s1 s2 : Int) (b0 : 0 ≤ s0 ∧ s0 ≤ 9223372036854775807) (b1 : 4 ≤ s1 ∧ s1 ≤ 7) (m0 : HP 154 (s1) (s0) M) (m1 : (0 ≤ (s1) ∧ M 83 (s1).toNat = (s2))) (f0 : 0 ≤ (s0 + (-1) * s2 - 1)) (hG : gI M) : (HP 154 (s1 + 1) (s0) M ∧ True) := by
  exact ⟨Eq.mpr hp_154 (fun i h1 h2 => if e : 4 + i = s1.toNat then (by rw [e, m1.2]; omega) else Eq.mp hp_154 m0 i h1 (by omega)), trivial⟩
theorem rul_637 : Rul r_637 := by
  refine ⟨fun _ ρ M hm hB hF hG => ?_, fun gi gv hg => (by cases hg)⟩
  have H := cr_637 M (ρ 0) (ρ 1) (ρ 2) (hB _ List.mem_cons_self) (hB _ (List.mem_cons_of_mem _ List.mem_cons_self)) (cvp 154 (x' := ((ρ 1))) (y' := ((ρ 0))) (by show 0 + (1 * ρ 1 + 0) = _; omega) (by show 0 + (1 * ρ 0 + 0) = _; omega) (hm _ List.mem_cons_self)) (cvm (c := 83) (by decide) (x' := ((ρ 1))) (y' := ((ρ 2))) (by show 0 + (1 * ρ 1 + 0) = _; omega) (by show 0 + (1 * ρ 2 + 0) = _; omega) (hm _ (List.mem_cons_of_mem _ List.mem_cons_self))) (by have h := hF _ List.mem_cons_self; have h : 0 ≤ (-1) + (1 * ρ 0 + ((-1) * ρ 2 + 0)) := h; omega) hG
  obtain ⟨k0, -⟩ := H
  exact ⟨_, List.mem_cons_self, ρ, fun _ _ => rfl, (okM_c (pvp 154 (by show 1 + (1 * ρ 1 + 0) = _; omega) (by show 0 + (1 * ρ 0 + 0) = _; omega) k0) okM_n), okB_n, okF_n⟩
-- onn1_1
theorem cr_638 (M : pM) (s0 s1 s2 : Int) (b0 : 0 ≤ s0 ∧ s0 ≤ 9223372036854775807) (b1 : 4 ≤ s1 ∧ s1 ≤ 7) (m0 : HP 154 (s1) (s0) M) (m1 : (0 ≤ (s1) ∧ M 83 (s1).toNat = (s2))) (f0 : 0 ≤ ((-1) * s0 + s2 - 1)) (hG : gI M) : (HP 154 (s1 + 1) (s0) M ∧ True) := by
  exact ⟨Eq.mpr hp_154 (fun i h1 h2 => if e : 4 + i = s1.toNat then (by rw [e, m1.2]; omega) else Eq.mp hp_154 m0 i h1 (by omega)), trivial⟩
theorem rul_638 : Rul r_638 := by
  refine ⟨fun _ ρ M hm hB hF hG => ?_, fun gi gv hg => (by cases hg)⟩
  have H := cr_638 M (ρ 0) (ρ 1) (ρ 2) (hB _ List.mem_cons_self) (hB _ (List.mem_cons_of_mem _ List.mem_cons_self)) (cvp 154 (x' := ((ρ 1))) (y' := ((ρ 0))) (by show 0 + (1 * ρ 1 + 0) = _; omega) (by show 0 + (1 * ρ 0 + 0) = _; omega) (hm _ List.mem_cons_self)) (cvm (c := 83) (by decide) (x' := ((ρ 1))) (y' := ((ρ 2))) (by show 0 + (1 * ρ 1 + 0) = _; omega) (by show 0 + (1 * ρ 2 + 0) = _; omega) (hm _ (List.mem_cons_of_mem _ List.mem_cons_self))) (by have h := hF _ List.mem_cons_self; have h : 0 ≤ (-1) + ((-1) * ρ 0 + (1 * ρ 2 + 0)) := h; omega) hG
  obtain ⟨k0, -⟩ := H
  exact ⟨_, List.mem_cons_self, ρ, fun _ _ => rfl, (okM_c (pvp 154 (by show 1 + (1 * ρ 1 + 0) = _; omega) (by show 0 + (1 * ρ 0 + 0) = _; omega) k0) okM_n), okB_n, okF_n⟩
-- rt10_1
theorem cr_639 (M : pM) (s0 s1 s2 s3 s4 s5 s6 s7 s8 s9 s10 : Int) (b0 : 0 ≤ s0 ∧ s0 ≤ 1900) (b1 : 0 ≤ s1 ∧ s1 ≤ 950) (b2 : 0 ≤ s2 ∧ s2 ≤ 1900) (b3 : 0 ≤ s3 ∧ s3 ≤ 1900) (b4 : 0 ≤ s4 ∧ s4 ≤ 1900) (b5 : 0 ≤ s5 ∧ s5 ≤ 9223372036854775807) (b6 : 0 ≤ s6 ∧ s6 ≤ 12) (b7 : 0 ≤ s7 ∧ s7 ≤ 20) (b8 : 0 ≤ s8 ∧ s8 ≤ 4) (b9 : 4 ≤ s9 ∧ s9 ≤ 7) (m0 : HP 53 (4096 * s0 + s1) (256 * s2 + 161) M) (m1 : HP 47 (s2) (262143 : Int) M) (m2 : HP 45 (s2) (s3) M) (m3 : HP 46 (s2) (s4) M) (m4 : HP 143 (2048 * s3 + s4) (s5) M) (m5 : HP 61 (4096 * s0 + s1) (s6 + 32 * s7 + 1024 * s8) M) (m6 : (0 ≤ (s9) ∧ M 83 (s9).toNat = (s10))) (f0 : 0 ≤ (s8 + (-1) * s9 + 3)) (f1 : 0 ≤ (s5 + (-1) * s10)) (f2 : 0 ≤ ((-1) * s5 + s10)) (hG : gI M) : (HP 66 (s3) (3 : Int) M ∧ True) := by
  have hby := hby_tm hG
  obtain ⟨S, hS, hw, ha⟩ := Eq.mp hp_61 m5
  obtain ⟨c1, c2, c3⟩ := qW_o (w := s6) (r := s7) (g := s8) hw (by omega) (by omega) (by omega) (by omega)
  obtain ⟨S2, hS2, hE2⟩ := ex_o (K := 10) (j := 0) (a := s2) (Eq.mp hp_53 m0) ⟨by omega, by omega, by decide, by decide⟩
  have e2 := qat_u hS hS2
  subst e2
  have ha2 : s2 = (qps (tm M) S2.1 1 : Int) := hE2.2.2.2.2
  have hz := (q47 m1).2
  rw [show s2.toNat = qps (tm M) S2.1 1 by omega] at hz
  have g1 := (q45 m2).2
  have g2 := (q46 m3).2
  rw [show s2.toNat = qps (tm M) S2.1 1 by omega] at g1 g2
  obtain ⟨p1, p2, p3⟩ := pk_o (s := s3.toNat) (e := s4.toNat) (Eq.mp hp_143 m4) ⟨by omega, by omega, by omega⟩
  have hv : s5 = qpk 256 0 (tm M) (qps (tm M) S2.1 1) := by unfold qpk; rw [show tS (tm M) (qps (tm M) S2.1 1) = s3.toNat by omega, show tE (tm M) (qps (tm M) S2.1 1) = s4.toNat by omega]; exact p2
  have hnm := ha.2.2.2.2.2.2.2.2.2.1
  have hi : M 83 s9.toNat = s10 := m6.2
  have hn2 := hnm (s9 - 4).toNat (by omega) (by omega)
  have hn1 : M 83 (4 * 1 + (s9 - 4).toNat) = _ := hn2.1
  rw [show 4 * 1 + (s9 - 4).toNat = s9.toNat by omega] at hn1
  have hq : qtn (tm M) S2.1 S2.2 = true := qtn_i (i := (s9 - 4).toNat) (by omega) (by omega) (nm_eq (m := 256) (a := 0) (hi := 122) (by decide) (by decide) hby (fun c _ _ => by omega) hn2.2 (by omega) (by rw [← hn1, ← hv]; omega))
  refine ⟨r_fl (K := 10) (j := 0) m0 m1 m2 ⟨by omega, by omega, by decide⟩ (fun s hs hE e => ?_), trivial⟩
  have e3 := qat_u hS hs
  subst e3
  show (if tK (tm M) (qps (tm M) s.1 1) ≤ 255 then some 1 else if tK (tm M) (qps (tm M) s.1 1) = 262143 then (if qtn (tm M) s.1 s.2 = true then some 3 else none) else some 2) = some 3
  rw [e, if_neg (by decide), if_pos rfl, if_pos hq]
theorem rul_639 : Rul r_639 := by
  refine ⟨fun _ ρ M hm hB hF hG => ?_, fun gi gv hg => (by cases hg)⟩
  have H := cr_639 M (ρ 0) (ρ 1) (ρ 2) (ρ 3) (ρ 4) (ρ 5) (ρ 6) (ρ 7) (ρ 8) (ρ 9) (ρ 10) (hB _ List.mem_cons_self) (hB _ (List.mem_cons_of_mem _ List.mem_cons_self)) (hB _ (List.mem_cons_of_mem _ (List.mem_cons_of_mem _ List.mem_cons_self))) (hB _ (List.mem_cons_of_mem _ (List.mem_cons_of_mem _ (List.mem_cons_of_mem _ List.mem_cons_self)))) (hB _ (List.mem_cons_of_mem _ (List.mem_cons_of_mem _ (List.mem_cons_of_mem _ (List.mem_cons_of_mem _ List.mem_cons_self))))) (hB _ (List.mem_cons_of_mem _ (List.mem_cons_of_mem _ (List.mem_cons_of_mem _ (List.mem_cons_of_mem _ (List.mem_cons_of_mem _ List.mem_cons_self)))))) (hB _ (List.mem_cons_of_mem _ (List.mem_cons_of_mem _ (List.mem_cons_of_mem _ (List.mem_cons_of_mem _ (List.mem_cons_of_mem _ (List.mem_cons_of_mem _ List.mem_cons_self))))))) (hB _ (List.mem_cons_of_mem _ (List.mem_cons_of_mem _ (List.mem_cons_of_mem _ (List.mem_cons_of_mem _ (List.mem_cons_of_mem _ (List.mem_cons_of_mem _ (List.mem_cons_of_mem _ List.mem_cons_self)))))))) (hB _ (List.mem_cons_of_mem _ (List.mem_cons_of_mem _ (List.mem_cons_of_mem _ (List.mem_cons_of_mem _ (List.mem_cons_of_mem _ (List.mem_cons_of_mem _ (List.mem_cons_of_mem _ (List.mem_cons_of_mem _ List.mem_cons_self))))))))) (hB _ (List.mem_cons_of_mem _ (List.mem_cons_of_mem _ (List.mem_cons_of_mem _ (List.mem_cons_of_mem _ (List.mem_cons_of_mem _ (List.mem_cons_of_mem _ (List.mem_cons_of_mem _ (List.mem_cons_of_mem _ (List.mem_cons_of_mem _ List.mem_cons_self)))))))))) (cvp 53 (x' := (4096 * (ρ 0) + (ρ 1))) (y' := (256 * (ρ 2) + 161)) (by show 0 + (4096 * ρ 0 + (1 * ρ 1 + 0)) = _; omega) (by show 161 + (256 * ρ 2 + 0) = _; omega) (hm _ List.mem_cons_self)) (cvp 47 (x' := ((ρ 2))) (y' := (262143 : Int)) (by show 0 + (1 * ρ 2 + 0) = _; omega) (by show 262143 + 0 = _; omega) (hm _ (List.mem_cons_of_mem _ List.mem_cons_self))) (cvp 45 (x' := ((ρ 2))) (y' := ((ρ 3))) (by show 0 + (1 * ρ 2 + 0) = _; omega) (by show 0 + (1 * ρ 3 + 0) = _; omega) (hm _ (List.mem_cons_of_mem _ (List.mem_cons_of_mem _ List.mem_cons_self)))) (cvp 46 (x' := ((ρ 2))) (y' := ((ρ 4))) (by show 0 + (1 * ρ 2 + 0) = _; omega) (by show 0 + (1 * ρ 4 + 0) = _; omega) (hm _ (List.mem_cons_of_mem _ (List.mem_cons_of_mem _ (List.mem_cons_of_mem _ List.mem_cons_self))))) (cvp 143 (x' := (2048 * (ρ 3) + (ρ 4))) (y' := ((ρ 5))) (by show 0 + (2048 * ρ 3 + (1 * ρ 4 + 0)) = _; omega) (by show 0 + (1 * ρ 5 + 0) = _; omega) (hm _ (List.mem_cons_of_mem _ (List.mem_cons_of_mem _ (List.mem_cons_of_mem _ (List.mem_cons_of_mem _ List.mem_cons_self)))))) (cvp 61 (x' := (4096 * (ρ 0) + (ρ 1))) (y' := ((ρ 6) + 32 * (ρ 7) + 1024 * (ρ 8))) (by show 0 + (4096 * ρ 0 + (1 * ρ 1 + 0)) = _; omega) (by show 0 + (1 * ρ 6 + (32 * ρ 7 + (1024 * ρ 8 + 0))) = _; omega) (hm _ (List.mem_cons_of_mem _ (List.mem_cons_of_mem _ (List.mem_cons_of_mem _ (List.mem_cons_of_mem _ (List.mem_cons_of_mem _ List.mem_cons_self))))))) (cvm (c := 83) (by decide) (x' := ((ρ 9))) (y' := ((ρ 10))) (by show 0 + (1 * ρ 9 + 0) = _; omega) (by show 0 + (1 * ρ 10 + 0) = _; omega) (hm _ (List.mem_cons_of_mem _ (List.mem_cons_of_mem _ (List.mem_cons_of_mem _ (List.mem_cons_of_mem _ (List.mem_cons_of_mem _ (List.mem_cons_of_mem _ List.mem_cons_self)))))))) (by have h := hF _ List.mem_cons_self; have h : 0 ≤ 3 + (1 * ρ 8 + ((-1) * ρ 9 + 0)) := h; omega) (by have h := hF _ (List.mem_cons_of_mem _ List.mem_cons_self); have h : 0 ≤ 0 + (1 * ρ 5 + ((-1) * ρ 10 + 0)) := h; omega) (by have h := hF _ (List.mem_cons_of_mem _ (List.mem_cons_of_mem _ List.mem_cons_self)); have h : 0 ≤ 0 + ((-1) * ρ 5 + (1 * ρ 10 + 0)) := h; omega) hG
  obtain ⟨k0, -⟩ := H
  exact ⟨_, List.mem_cons_self, ρ, fun _ _ => rfl, (okM_c (pvp 66 (by show 0 + (1 * ρ 3 + 0) = _; omega) (by show 3 + 0 = _; omega) k0) okM_n), okB_n, okF_n⟩
-- rx161_1
theorem cr_640 (M : pM) (s0 s1 s2 s3 s4 s5 s6 s7 s8 s9 : Int) (b0 : 0 ≤ s0 ∧ s0 ≤ 1900) (b1 : 0 ≤ s1 ∧ s1 ≤ 950) (b2 : 0 ≤ s2 ∧ s2 ≤ 1900) (b3 : 0 ≤ s3 ∧ s3 ≤ 1900) (b4 : 0 ≤ s4 ∧ s4 ≤ 1900) (b5 : 0 ≤ s5 ∧ s5 ≤ 9223372036854775807) (b6 : 0 ≤ s6 ∧ s6 ≤ 12) (b7 : 0 ≤ s7 ∧ s7 ≤ 20) (b8 : 0 ≤ s8 ∧ s8 ≤ 4) (b9 : 4 ≤ s9 ∧ s9 ≤ 8) (m0 : HP 53 (4096 * s0 + s1) (256 * s2 + 161) M) (m1 : HP 47 (s2) (262143 : Int) M) (m2 : HP 45 (s2) (s3) M) (m3 : HP 46 (s2) (s4) M) (m4 : HP 143 (2048 * s3 + s4) (s5) M) (m5 : HP 61 (4096 * s0 + s1) (s6 + 32 * s7 + 1024 * s8) M) (m6 : HP 154 (s9) (s5) M) (f0 : 0 ≤ (s8 + (-1) * s9 + 4)) (f1 : 0 ≤ ((-1) * s8 + s9 - 4)) (hG : gI M) : (HP 53 (4096 * s0 + s1) (256 * s4 + 162) M ∧ True) := by
  have hby := hby_tm hG
  obtain ⟨S, hS, hw, ha⟩ := Eq.mp hp_61 m5
  obtain ⟨c1, c2, c3⟩ := qW_o (w := s6) (r := s7) (g := s8) hw (by omega) (by omega) (by omega) (by omega)
  obtain ⟨S2, hS2, hE2⟩ := ex_o (K := 10) (j := 0) (a := s2) (Eq.mp hp_53 m0) ⟨by omega, by omega, by decide, by decide⟩
  have e2 := qat_u hS hS2
  subst e2
  have ha2 : s2 = (qps (tm M) S2.1 1 : Int) := hE2.2.2.2.2
  have hz := (q47 m1).2
  rw [show s2.toNat = qps (tm M) S2.1 1 by omega] at hz
  have g1 := (q45 m2).2
  have g2 := (q46 m3).2
  rw [show s2.toNat = qps (tm M) S2.1 1 by omega] at g1 g2
  obtain ⟨p1, p2, p3⟩ := pk_o (s := s3.toNat) (e := s4.toNat) (Eq.mp hp_143 m4) ⟨by omega, by omega, by omega⟩
  have hv : s5 = qpk 256 0 (tm M) (qps (tm M) S2.1 1) := by unfold qpk; rw [show tS (tm M) (qps (tm M) S2.1 1) = s3.toNat by omega, show tE (tm M) (qps (tm M) S2.1 1) = s4.toNat by omega]; exact p2
  have hnm := ha.2.2.2.2.2.2.2.2.2.1
  have hno : ∀ i : Nat, i < 4 → (i : Int) < S2.2 0 2 → qnm (tm M) (S2.2 13 i).toNat ≠ qnm (tm M) (qps (tm M) S2.1 1) := by
    intro i hi hg he
    have hn2 := hnm i hi hg
    have hn1 : M 83 (4 * 1 + i) = _ := hn2.1
    refine Eq.mp hp_154 m6 i hi (by omega) ?_
    rw [show (4 + i) = 4 * 1 + i by omega, hn1, hv]
    unfold qpk
    rw [pkd_l, pkd_l]
    exact congrArg (lpk 256 0) he
  have hx := r_ex (y' := 256 * s4 + 162) (K := 10) (j := 0) m0 m1 m3 ⟨by omega, by omega, by decide⟩ (by omega) (by decide) (fun s hs hE e => by
    have e3 := qat_u hS hs
    subst e3
    show (if tK (tm M) (qps (tm M) s.1 1) ≤ 255 then some 1 else if tK (tm M) (qps (tm M) s.1 1) = 262143 then (if qtn (tm M) s.1 s.2 = true then some 3 else none) else some 2) = none
    rw [e, if_neg (by decide), if_pos rfl, if_neg (qtn_n hno)])
  exact ⟨hx, trivial⟩
theorem rul_640 : Rul r_640 := by
  refine ⟨fun _ ρ M hm hB hF hG => ?_, fun gi gv hg => (by cases hg)⟩
  have H := cr_640 M (ρ 0) (ρ 1) (ρ 2) (ρ 3) (ρ 4) (ρ 5) (ρ 6) (ρ 7) (ρ 8) (ρ 9) (hB _ List.mem_cons_self) (hB _ (List.mem_cons_of_mem _ List.mem_cons_self)) (hB _ (List.mem_cons_of_mem _ (List.mem_cons_of_mem _ List.mem_cons_self))) (hB _ (List.mem_cons_of_mem _ (List.mem_cons_of_mem _ (List.mem_cons_of_mem _ List.mem_cons_self)))) (hB _ (List.mem_cons_of_mem _ (List.mem_cons_of_mem _ (List.mem_cons_of_mem _ (List.mem_cons_of_mem _ List.mem_cons_self))))) (hB _ (List.mem_cons_of_mem _ (List.mem_cons_of_mem _ (List.mem_cons_of_mem _ (List.mem_cons_of_mem _ (List.mem_cons_of_mem _ List.mem_cons_self)))))) (hB _ (List.mem_cons_of_mem _ (List.mem_cons_of_mem _ (List.mem_cons_of_mem _ (List.mem_cons_of_mem _ (List.mem_cons_of_mem _ (List.mem_cons_of_mem _ List.mem_cons_self))))))) (hB _ (List.mem_cons_of_mem _ (List.mem_cons_of_mem _ (List.mem_cons_of_mem _ (List.mem_cons_of_mem _ (List.mem_cons_of_mem _ (List.mem_cons_of_mem _ (List.mem_cons_of_mem _ List.mem_cons_self)))))))) (hB _ (List.mem_cons_of_mem _ (List.mem_cons_of_mem _ (List.mem_cons_of_mem _ (List.mem_cons_of_mem _ (List.mem_cons_of_mem _ (List.mem_cons_of_mem _ (List.mem_cons_of_mem _ (List.mem_cons_of_mem _ List.mem_cons_self))))))))) (hB _ (List.mem_cons_of_mem _ (List.mem_cons_of_mem _ (List.mem_cons_of_mem _ (List.mem_cons_of_mem _ (List.mem_cons_of_mem _ (List.mem_cons_of_mem _ (List.mem_cons_of_mem _ (List.mem_cons_of_mem _ (List.mem_cons_of_mem _ List.mem_cons_self)))))))))) (cvp 53 (x' := (4096 * (ρ 0) + (ρ 1))) (y' := (256 * (ρ 2) + 161)) (by show 0 + (4096 * ρ 0 + (1 * ρ 1 + 0)) = _; omega) (by show 161 + (256 * ρ 2 + 0) = _; omega) (hm _ List.mem_cons_self)) (cvp 47 (x' := ((ρ 2))) (y' := (262143 : Int)) (by show 0 + (1 * ρ 2 + 0) = _; omega) (by show 262143 + 0 = _; omega) (hm _ (List.mem_cons_of_mem _ List.mem_cons_self))) (cvp 45 (x' := ((ρ 2))) (y' := ((ρ 3))) (by show 0 + (1 * ρ 2 + 0) = _; omega) (by show 0 + (1 * ρ 3 + 0) = _; omega) (hm _ (List.mem_cons_of_mem _ (List.mem_cons_of_mem _ List.mem_cons_self)))) (cvp 46 (x' := ((ρ 2))) (y' := ((ρ 4))) (by show 0 + (1 * ρ 2 + 0) = _; omega) (by show 0 + (1 * ρ 4 + 0) = _; omega) (hm _ (List.mem_cons_of_mem _ (List.mem_cons_of_mem _ (List.mem_cons_of_mem _ List.mem_cons_self))))) (cvp 143 (x' := (2048 * (ρ 3) + (ρ 4))) (y' := ((ρ 5))) (by show 0 + (2048 * ρ 3 + (1 * ρ 4 + 0)) = _; omega) (by show 0 + (1 * ρ 5 + 0) = _; omega) (hm _ (List.mem_cons_of_mem _ (List.mem_cons_of_mem _ (List.mem_cons_of_mem _ (List.mem_cons_of_mem _ List.mem_cons_self)))))) (cvp 61 (x' := (4096 * (ρ 0) + (ρ 1))) (y' := ((ρ 6) + 32 * (ρ 7) + 1024 * (ρ 8))) (by show 0 + (4096 * ρ 0 + (1 * ρ 1 + 0)) = _; omega) (by show 0 + (1 * ρ 6 + (32 * ρ 7 + (1024 * ρ 8 + 0))) = _; omega) (hm _ (List.mem_cons_of_mem _ (List.mem_cons_of_mem _ (List.mem_cons_of_mem _ (List.mem_cons_of_mem _ (List.mem_cons_of_mem _ List.mem_cons_self))))))) (cvp 154 (x' := ((ρ 9))) (y' := ((ρ 5))) (by show 0 + (1 * ρ 9 + 0) = _; omega) (by show 0 + (1 * ρ 5 + 0) = _; omega) (hm _ (List.mem_cons_of_mem _ (List.mem_cons_of_mem _ (List.mem_cons_of_mem _ (List.mem_cons_of_mem _ (List.mem_cons_of_mem _ (List.mem_cons_of_mem _ List.mem_cons_self)))))))) (by have h := hF _ List.mem_cons_self; have h : 0 ≤ 4 + (1 * ρ 8 + ((-1) * ρ 9 + 0)) := h; omega) (by have h := hF _ (List.mem_cons_of_mem _ List.mem_cons_self); have h : 0 ≤ (-4) + ((-1) * ρ 8 + (1 * ρ 9 + 0)) := h; omega) hG
  obtain ⟨k0, -⟩ := H
  exact ⟨_, List.mem_cons_self, ρ, fun _ _ => rfl, (okM_c (pvp 53 (by show 0 + (4096 * ρ 0 + (1 * ρ 1 + 0)) = _; omega) (by show 162 + (256 * ρ 4 + 0) = _; omega) k0) okM_n), okB_n, okF_n⟩
-- rnw_1
theorem cr_641 (M : pM) (s0 s1 s2 s3 s4 s5 : Int) (b0 : 0 ≤ s0 ∧ s0 ≤ 1900) (b1 : 0 ≤ s1 ∧ s1 ≤ 950) (b2 : 0 ≤ s2 ∧ s2 ≤ 12) (b3 : 0 ≤ s3 ∧ s3 ≤ 20) (b4 : 0 ≤ s4 ∧ s4 ≤ 3) (m0 : HP 61 (4096 * s0 + s1) (s2 + 32 * s3 + 1024 * s4) M) (hG : gI M) : (HP 61 (4096 * s0 + s1) (s2 + 32 * s3 + 1024 * s4) (st M 83 (s4 + 4).toNat (s5)) ∧ (0 ≤ (s4 + 4) ∧ (st M 83 (s4 + 4).toNat (s5)) 83 (s4 + 4).toNat = (s5)) ∧ True) := by
  have ht : tm (st M 83 (4 * 1 + (s4.toNat)) (s5)) = tm M := tm_st (by decide) (by decide)
  rw [show (s4 + 4).toNat = 4 * 1 + (s4.toNat) by omega]
  refine ⟨Eq.mpr hp_61 ?_, ⟨by omega, ?_⟩, trivial⟩
  · rw [ht]
    exact RA_m (fun _ _ _ _ _ h => agR_w83 h) (l_rnw (w := s2) (r := s3) (g := s4) (Eq.mp hp_61 m0) (by omega) ⟨⟨by omega, by omega⟩, ⟨by omega, by omega⟩, by omega, by omega⟩ (by omega))
  · rw [cw0, if_pos rfl]
theorem rul_641 : Rul r_641 := by
  refine ⟨fun h => (by cases h), fun gi gv hg ρ M hm hB hF hG => ?_⟩
  obtain ⟨g1, g2⟩ := List.cons.inj (show ([aI ((4 : Int), ([(4, 1)] : List (Nat × Int))), aI ((0 : Int), ([(5, 1)] : List (Nat × Int)))] : List av) = [.inl gi, .inl gv] from hg)
  obtain ⟨g2, -⟩ := List.cons.inj g2
  cases g1
  cases g2
  have ei : ev ρ ((4 : Int), ([(4, 1)] : List (Nat × Int))) = ((ρ 4) + 4) := by show 4 + (1 * ρ 4 + 0) = _; omega
  have ew : ev ρ ((0 : Int), ([(5, 1)] : List (Nat × Int))) = ((ρ 5)) := by show 0 + (1 * ρ 5 + 0) = _; omega
  rw [show (st M (ctj r_641) (ev ρ ((4 : Int), ([(4, 1)] : List (Nat × Int)))).toNat (ev ρ ((0 : Int), ([(5, 1)] : List (Nat × Int))))) = (st M 83 ((ρ 4) + 4).toNat ((ρ 5))) from by rw [ei, ew]; rfl]
  have H := cr_641 M (ρ 0) (ρ 1) (ρ 2) (ρ 3) (ρ 4) (ρ 5) (hB _ List.mem_cons_self) (hB _ (List.mem_cons_of_mem _ List.mem_cons_self)) (hB _ (List.mem_cons_of_mem _ (List.mem_cons_of_mem _ List.mem_cons_self))) (hB _ (List.mem_cons_of_mem _ (List.mem_cons_of_mem _ (List.mem_cons_of_mem _ List.mem_cons_self)))) (hB _ (List.mem_cons_of_mem _ (List.mem_cons_of_mem _ (List.mem_cons_of_mem _ (List.mem_cons_of_mem _ List.mem_cons_self))))) (cvp 61 (x' := (4096 * (ρ 0) + (ρ 1))) (y' := ((ρ 2) + 32 * (ρ 3) + 1024 * (ρ 4))) (by show 0 + (4096 * ρ 0 + (1 * ρ 1 + 0)) = _; omega) (by show 0 + (1 * ρ 2 + (32 * ρ 3 + (1024 * ρ 4 + 0))) = _; omega) (hm _ List.mem_cons_self)) hG
  obtain ⟨k0, k1, -⟩ := H
  exact ⟨_, List.mem_cons_self, ρ, fun _ _ => rfl, (okM_c (pvp 61 (by show 0 + (4096 * ρ 0 + (1 * ρ 1 + 0)) = _; omega) (by show 0 + (1 * ρ 2 + (32 * ρ 3 + (1024 * ρ 4 + 0))) = _; omega) k0) (okM_c (pvm (c := 83) (by decide) (by show 4 + (1 * ρ 4 + 0) = _; omega) (by show 0 + (1 * ρ 5 + 0) = _; omega) k1) okM_n)), okB_n, okF_n⟩
-- rnv_1
theorem cr_642 (M : pM) (s0 s1 s2 s3 s4 s5 s6 s7 : Int) (b0 : 0 ≤ s0 ∧ s0 ≤ 1900) (b1 : 0 ≤ s1 ∧ s1 ≤ 1900) (b2 : 0 ≤ s2 ∧ s2 ≤ 1900) (b3 : 0 ≤ s3 ∧ s3 ≤ 1900) (b4 : 0 ≤ s4 ∧ s4 ≤ 9223372036854775807) (b5 : 0 ≤ s5 ∧ s5 ≤ 12) (b6 : 0 ≤ s6 ∧ s6 ≤ 20) (b7 : 0 ≤ s7 ∧ s7 ≤ 3) (m0 : HP 157 (16 * s0 + 1) (s1) M) (m1 : HP 47 (s1) (262143 : Int) M) (m2 : HP 45 (s1) (s2) M) (m3 : HP 46 (s1) (s3) M) (m4 : HP 143 (2048 * s2 + s3) (s4) M) (m5 : (0 ≤ (s7 + 4) ∧ M 83 (s7 + 4).toNat = (s4))) (hG : gI M) : (HP 156 (s0) (s7) M ∧ True) := by
  obtain ⟨p, i, t1, t2, t3⟩ := Eq.mp hp_157 m0
  have e1 : i = 1 := by omega
  have e2 : p = s0.toNat := by omega
  subst e1
  subst e2
  have g1 := (q45 m2).2
  have g2 := (q46 m3).2
  rw [show s1.toNat = qps (tm M) s0.toNat 1 by omega] at g1 g2
  obtain ⟨p1, p2, p3⟩ := pk_o (s := s2.toNat) (e := s3.toNat) (Eq.mp hp_143 m4) ⟨by omega, by omega, by omega⟩
  refine ⟨Eq.mpr hp_156 ⟨by omega, s7.toNat, by omega, by omega, ?_⟩, trivial⟩
  rw [show 4 + s7.toNat = (s7 + 4).toNat by omega, m5.2]
  unfold qpk
  rw [show tS (tm M) (qps (tm M) s0.toNat 1) = s2.toNat by omega, show tE (tm M) (qps (tm M) s0.toNat 1) = s3.toNat by omega]
  exact p2
theorem rul_642 : Rul r_642 := by
  refine ⟨fun _ ρ M hm hB hF hG => ?_, fun gi gv hg => (by cases hg)⟩
  have H := cr_642 M (ρ 0) (ρ 1) (ρ 2) (ρ 3) (ρ 4) (ρ 5) (ρ 6) (ρ 7) (hB _ List.mem_cons_self) (hB _ (List.mem_cons_of_mem _ List.mem_cons_self)) (hB _ (List.mem_cons_of_mem _ (List.mem_cons_of_mem _ List.mem_cons_self))) (hB _ (List.mem_cons_of_mem _ (List.mem_cons_of_mem _ (List.mem_cons_of_mem _ List.mem_cons_self)))) (hB _ (List.mem_cons_of_mem _ (List.mem_cons_of_mem _ (List.mem_cons_of_mem _ (List.mem_cons_of_mem _ List.mem_cons_self))))) (hB _ (List.mem_cons_of_mem _ (List.mem_cons_of_mem _ (List.mem_cons_of_mem _ (List.mem_cons_of_mem _ (List.mem_cons_of_mem _ List.mem_cons_self)))))) (hB _ (List.mem_cons_of_mem _ (List.mem_cons_of_mem _ (List.mem_cons_of_mem _ (List.mem_cons_of_mem _ (List.mem_cons_of_mem _ (List.mem_cons_of_mem _ List.mem_cons_self))))))) (hB _ (List.mem_cons_of_mem _ (List.mem_cons_of_mem _ (List.mem_cons_of_mem _ (List.mem_cons_of_mem _ (List.mem_cons_of_mem _ (List.mem_cons_of_mem _ (List.mem_cons_of_mem _ List.mem_cons_self)))))))) (cvp 157 (x' := (16 * (ρ 0) + 1)) (y' := ((ρ 1))) (by show 1 + (16 * ρ 0 + 0) = _; omega) (by show 0 + (1 * ρ 1 + 0) = _; omega) (hm _ List.mem_cons_self)) (cvp 47 (x' := ((ρ 1))) (y' := (262143 : Int)) (by show 0 + (1 * ρ 1 + 0) = _; omega) (by show 262143 + 0 = _; omega) (hm _ (List.mem_cons_of_mem _ List.mem_cons_self))) (cvp 45 (x' := ((ρ 1))) (y' := ((ρ 2))) (by show 0 + (1 * ρ 1 + 0) = _; omega) (by show 0 + (1 * ρ 2 + 0) = _; omega) (hm _ (List.mem_cons_of_mem _ (List.mem_cons_of_mem _ List.mem_cons_self)))) (cvp 46 (x' := ((ρ 1))) (y' := ((ρ 3))) (by show 0 + (1 * ρ 1 + 0) = _; omega) (by show 0 + (1 * ρ 3 + 0) = _; omega) (hm _ (List.mem_cons_of_mem _ (List.mem_cons_of_mem _ (List.mem_cons_of_mem _ List.mem_cons_self))))) (cvp 143 (x' := (2048 * (ρ 2) + (ρ 3))) (y' := ((ρ 4))) (by show 0 + (2048 * ρ 2 + (1 * ρ 3 + 0)) = _; omega) (by show 0 + (1 * ρ 4 + 0) = _; omega) (hm _ (List.mem_cons_of_mem _ (List.mem_cons_of_mem _ (List.mem_cons_of_mem _ (List.mem_cons_of_mem _ List.mem_cons_self)))))) (cvm (c := 83) (by decide) (x' := ((ρ 7) + 4)) (y' := ((ρ 4))) (by show 4 + (1 * ρ 7 + 0) = _; omega) (by show 0 + (1 * ρ 4 + 0) = _; omega) (hm _ (List.mem_cons_of_mem _ (List.mem_cons_of_mem _ (List.mem_cons_of_mem _ (List.mem_cons_of_mem _ (List.mem_cons_of_mem _ List.mem_cons_self))))))) hG
  obtain ⟨k0, -⟩ := H
  exact ⟨_, List.mem_cons_self, ρ, fun _ _ => rfl, (okM_c (pvp 156 (by show 0 + (1 * ρ 0 + 0) = _; omega) (by show 0 + (1 * ρ 7 + 0) = _; omega) k0) okM_n), okB_n, okF_n⟩
-- rsw_1
theorem cr_643 (M : pM) (s0 s1 s2 s3 s4 s5 s6 : Int) (b0 : 0 ≤ s0 ∧ s0 ≤ 1900) (b1 : 0 ≤ s1 ∧ s1 ≤ 950) (b2 : 0 ≤ s2 ∧ s2 ≤ 12) (b3 : 0 ≤ s3 ∧ s3 ≤ 20) (b4 : 0 ≤ s4 ∧ s4 ≤ 3) (b5 : 0 ≤ s5 ∧ s5 ≤ 3) (b6 : 0 ≤ s6 ∧ s6 ≤ 30) (m0 : HP 61 (4096 * s0 + s1) (s2 + 32 * s3 + 1024 * s4) M) (m1 : HP 150 (4096 * s0 + s1) (s2 + 32 * s3 + 1024 * s4 + 8192 * s5) M) (m2 : HP 79 (16 * s0 + s5 + 3) (s6) M) (hG : gI M) : (HP 61 (4096 * s0 + s1) (s2 + 32 * s3 + 1024 * s4) (st M 81 (4 * s4 + s5 + 16).toNat (s6)) ∧ HP 150 (4096 * s0 + s1) (s2 + 32 * s3 + 1024 * s4 + 8192 * s5 + 8192) (st M 81 (4 * s4 + s5 + 16).toNat (s6)) ∧ True) := by
  have hv := q79 (P := s0) (i := 3 + s5.toNat) m2 ⟨by omega, by omega⟩ (by omega)
  have ht : tm (st M 81 (16 * 1 + (4 * s4.toNat + s5.toNat)) (s6)) = tm M := tm_st (by decide) (by decide)
  rw [show (4 * s4 + s5 + 16).toNat = 16 * 1 + (4 * s4.toNat + s5.toNat) by omega]
  refine ⟨Eq.mpr hp_61 ?_, Eq.mpr hp_150 ?_, trivial⟩
  · rw [ht]
    exact RA_m (fun _ _ _ _ _ h => agR_w81 h) (l_ras (w := s2) (r := s3) (g := s4) (Eq.mp hp_61 m0) (by omega) ⟨⟨by omega, by omega⟩, ⟨by omega, by omega⟩, by omega, by omega⟩ (by omega))
  · rw [ht]
    exact RS_m (R := qU (qRr 1 M) 12 (4 * s4.toNat + s5.toNat) (s6)) (R' := qRr 1 (st M 81 (16 * 1 + (4 * s4.toNat + s5.toNat)) (s6))) (fun i _ => cw) (fun i _ => rfl) (k := s5.toNat + 1) (w := s2) (r := s3) (g := s4) (l_rsw (y' := (s2 + 32 * s3 + 1024 * s4 + 8192 * s5 + 8192)) (k := s5.toNat) (w := s2) (r := s3) (g := s4) (P := s0) (l := s1) (Eq.mp hp_150 m1) (by omega) ⟨⟨by omega, by omega⟩, ⟨by omega, by omega⟩, by omega, by omega⟩ (by omega) ⟨by omega, by omega, by omega⟩ hv (by omega)) (by omega) ⟨⟨by omega, by omega⟩, ⟨by omega, by omega⟩, by omega, by omega⟩
theorem rul_643 : Rul r_643 := by
  refine ⟨fun h => (by cases h), fun gi gv hg ρ M hm hB hF hG => ?_⟩
  obtain ⟨g1, g2⟩ := List.cons.inj (show ([aI ((16 : Int), ([(4, 4), (5, 1)] : List (Nat × Int))), aI ((0 : Int), ([(6, 1)] : List (Nat × Int)))] : List av) = [.inl gi, .inl gv] from hg)
  obtain ⟨g2, -⟩ := List.cons.inj g2
  cases g1
  cases g2
  have ei : ev ρ ((16 : Int), ([(4, 4), (5, 1)] : List (Nat × Int))) = (4 * (ρ 4) + (ρ 5) + 16) := by show 16 + (4 * ρ 4 + (1 * ρ 5 + 0)) = _; omega
  have ew : ev ρ ((0 : Int), ([(6, 1)] : List (Nat × Int))) = ((ρ 6)) := by show 0 + (1 * ρ 6 + 0) = _; omega
  rw [show (st M (ctj r_643) (ev ρ ((16 : Int), ([(4, 4), (5, 1)] : List (Nat × Int)))).toNat (ev ρ ((0 : Int), ([(6, 1)] : List (Nat × Int))))) = (st M 81 (4 * (ρ 4) + (ρ 5) + 16).toNat ((ρ 6))) from by rw [ei, ew]; rfl]
  have H := cr_643 M (ρ 0) (ρ 1) (ρ 2) (ρ 3) (ρ 4) (ρ 5) (ρ 6) (hB _ List.mem_cons_self) (hB _ (List.mem_cons_of_mem _ List.mem_cons_self)) (hB _ (List.mem_cons_of_mem _ (List.mem_cons_of_mem _ List.mem_cons_self))) (hB _ (List.mem_cons_of_mem _ (List.mem_cons_of_mem _ (List.mem_cons_of_mem _ List.mem_cons_self)))) (hB _ (List.mem_cons_of_mem _ (List.mem_cons_of_mem _ (List.mem_cons_of_mem _ (List.mem_cons_of_mem _ List.mem_cons_self))))) (hB _ (List.mem_cons_of_mem _ (List.mem_cons_of_mem _ (List.mem_cons_of_mem _ (List.mem_cons_of_mem _ (List.mem_cons_of_mem _ List.mem_cons_self)))))) (hB _ (List.mem_cons_of_mem _ (List.mem_cons_of_mem _ (List.mem_cons_of_mem _ (List.mem_cons_of_mem _ (List.mem_cons_of_mem _ (List.mem_cons_of_mem _ List.mem_cons_self))))))) (cvp 61 (x' := (4096 * (ρ 0) + (ρ 1))) (y' := ((ρ 2) + 32 * (ρ 3) + 1024 * (ρ 4))) (by show 0 + (4096 * ρ 0 + (1 * ρ 1 + 0)) = _; omega) (by show 0 + (1 * ρ 2 + (32 * ρ 3 + (1024 * ρ 4 + 0))) = _; omega) (hm _ List.mem_cons_self)) (cvp 150 (x' := (4096 * (ρ 0) + (ρ 1))) (y' := ((ρ 2) + 32 * (ρ 3) + 1024 * (ρ 4) + 8192 * (ρ 5))) (by show 0 + (4096 * ρ 0 + (1 * ρ 1 + 0)) = _; omega) (by show 0 + (1 * ρ 2 + (32 * ρ 3 + (1024 * ρ 4 + (8192 * ρ 5 + 0)))) = _; omega) (hm _ (List.mem_cons_of_mem _ List.mem_cons_self))) (cvp 79 (x' := (16 * (ρ 0) + (ρ 5) + 3)) (y' := ((ρ 6))) (by show 3 + (16 * ρ 0 + (1 * ρ 5 + 0)) = _; omega) (by show 0 + (1 * ρ 6 + 0) = _; omega) (hm _ (List.mem_cons_of_mem _ (List.mem_cons_of_mem _ List.mem_cons_self)))) hG
  obtain ⟨k0, k1, -⟩ := H
  exact ⟨_, List.mem_cons_self, ρ, fun _ _ => rfl, (okM_c (pvp 61 (by show 0 + (4096 * ρ 0 + (1 * ρ 1 + 0)) = _; omega) (by show 0 + (1 * ρ 2 + (32 * ρ 3 + (1024 * ρ 4 + 0))) = _; omega) k0) (okM_c (pvp 150 (by show 0 + (4096 * ρ 0 + (1 * ρ 1 + 0)) = _; omega) (by show 8192 + (1 * ρ 2 + (32 * ρ 3 + (1024 * ρ 4 + (8192 * ρ 5 + 0)))) = _; omega) k1) okM_n)), okB_n, okF_n⟩
-- rs0_1
theorem cr_644 (M : pM) (s0 s1 s2 s3 s4 : Int) (b0 : 0 ≤ s0 ∧ s0 ≤ 1900) (b1 : 0 ≤ s1 ∧ s1 ≤ 950) (b2 : 0 ≤ s2 ∧ s2 ≤ 12) (b3 : 0 ≤ s3 ∧ s3 ≤ 20) (b4 : 0 ≤ s4 ∧ s4 ≤ 4) (m0 : HP 61 (4096 * s0 + s1) (s2 + 32 * s3 + 1024 * s4) M) (hG : gI M) : (HP 150 (4096 * s0 + s1) (s2 + 32 * s3 + 1024 * s4) M ∧ True) := by
  exact ⟨Eq.mpr hp_150 (l_rs0 (Eq.mp hp_61 m0)), trivial⟩
theorem rul_644 : Rul r_644 := by
  refine ⟨fun _ ρ M hm hB hF hG => ?_, fun gi gv hg => (by cases hg)⟩
  have H := cr_644 M (ρ 0) (ρ 1) (ρ 2) (ρ 3) (ρ 4) (hB _ List.mem_cons_self) (hB _ (List.mem_cons_of_mem _ List.mem_cons_self)) (hB _ (List.mem_cons_of_mem _ (List.mem_cons_of_mem _ List.mem_cons_self))) (hB _ (List.mem_cons_of_mem _ (List.mem_cons_of_mem _ (List.mem_cons_of_mem _ List.mem_cons_self)))) (hB _ (List.mem_cons_of_mem _ (List.mem_cons_of_mem _ (List.mem_cons_of_mem _ (List.mem_cons_of_mem _ List.mem_cons_self))))) (cvp 61 (x' := (4096 * (ρ 0) + (ρ 1))) (y' := ((ρ 2) + 32 * (ρ 3) + 1024 * (ρ 4))) (by show 0 + (4096 * ρ 0 + (1 * ρ 1 + 0)) = _; omega) (by show 0 + (1 * ρ 2 + (32 * ρ 3 + (1024 * ρ 4 + 0))) = _; omega) (hm _ List.mem_cons_self)) hG
  obtain ⟨k0, -⟩ := H
  exact ⟨_, List.mem_cons_self, ρ, fun _ _ => rfl, (okM_c (pvp 150 (by show 0 + (4096 * ρ 0 + (1 * ρ 1 + 0)) = _; omega) (by show 0 + (1 * ρ 2 + (32 * ρ 3 + (1024 * ρ 4 + 0))) = _; omega) k0) okM_n), okB_n, okF_n⟩
-- rhw_1
theorem cr_645 (M : pM) (s0 s1 s2 s3 s4 s5 : Int) (b0 : 0 ≤ s0 ∧ s0 ≤ 1900) (b1 : 0 ≤ s1 ∧ s1 ≤ 950) (b2 : 0 ≤ s2 ∧ s2 ≤ 12) (b3 : 0 ≤ s3 ∧ s3 ≤ 20) (b4 : 0 ≤ s4 ∧ s4 ≤ 3) (b5 : 50 ≤ s5 ∧ s5 ≤ 200) (m0 : HP 61 (4096 * s0 + s1) (s2 + 32 * s3 + 1024 * s4) M) (m1 : HP 150 (4096 * s0 + s1) (s2 + 32 * s3 + 1024 * s4 + 32768) M) (m2 : HP 79 (16 * s0 + 8) (s5) M) (hG : gI M) : (HP 61 (4096 * s0 + s1) (s2 + 32 * s3 + 1024 * s4) (st M 82 (s4 + 4).toNat (s5)) ∧ HP 150 (4096 * s0 + s1) (s2 + 32 * s3 + 1024 * s4 + 40960) (st M 82 (s4 + 4).toNat (s5)) ∧ True) := by
  have hv := q79 (P := s0) (i := 8) m2 ⟨by omega, by omega⟩ (by omega)
  have ht : tm (st M 82 (4 * 1 + (s4.toNat)) (s5)) = tm M := tm_st (by decide) (by decide)
  rw [show (s4 + 4).toNat = 4 * 1 + (s4.toNat) by omega]
  refine ⟨Eq.mpr hp_61 ?_, Eq.mpr hp_150 ?_, trivial⟩
  · rw [ht]
    exact RA_m (fun _ _ _ _ _ h => agR_w82 h) (l_rah (w := s2) (r := s3) (g := s4) (Eq.mp hp_61 m0) (by omega) ⟨⟨by omega, by omega⟩, ⟨by omega, by omega⟩, by omega, by omega⟩ (by omega))
  · rw [ht]
    exact RS_m (R := qU (qRr 1 M) 13 (s4.toNat) (s5)) (R' := qRr 1 (st M 82 (4 * 1 + (s4.toNat)) (s5))) (fun i _ => rfl) (fun i _ => cw) (k := 5) (w := s2) (r := s3) (g := s4) (l_rhw (y' := (s2 + 32 * s3 + 1024 * s4 + 40960)) (w := s2) (r := s3) (g := s4) (P := s0) (l := s1) (Eq.mp hp_150 m1) (by omega) ⟨⟨by omega, by omega⟩, ⟨by omega, by omega⟩, by omega, by omega⟩ ⟨by omega, by omega, by omega⟩ hv (by omega)) (by omega) ⟨⟨by omega, by omega⟩, ⟨by omega, by omega⟩, by omega, by omega⟩
theorem rul_645 : Rul r_645 := by
  refine ⟨fun h => (by cases h), fun gi gv hg ρ M hm hB hF hG => ?_⟩
  obtain ⟨g1, g2⟩ := List.cons.inj (show ([aI ((4 : Int), ([(4, 1)] : List (Nat × Int))), aI ((0 : Int), ([(5, 1)] : List (Nat × Int)))] : List av) = [.inl gi, .inl gv] from hg)
  obtain ⟨g2, -⟩ := List.cons.inj g2
  cases g1
  cases g2
  have ei : ev ρ ((4 : Int), ([(4, 1)] : List (Nat × Int))) = ((ρ 4) + 4) := by show 4 + (1 * ρ 4 + 0) = _; omega
  have ew : ev ρ ((0 : Int), ([(5, 1)] : List (Nat × Int))) = ((ρ 5)) := by show 0 + (1 * ρ 5 + 0) = _; omega
  rw [show (st M (ctj r_645) (ev ρ ((4 : Int), ([(4, 1)] : List (Nat × Int)))).toNat (ev ρ ((0 : Int), ([(5, 1)] : List (Nat × Int))))) = (st M 82 ((ρ 4) + 4).toNat ((ρ 5))) from by rw [ei, ew]; rfl]
  have H := cr_645 M (ρ 0) (ρ 1) (ρ 2) (ρ 3) (ρ 4) (ρ 5) (hB _ List.mem_cons_self) (hB _ (List.mem_cons_of_mem _ List.mem_cons_self)) (hB _ (List.mem_cons_of_mem _ (List.mem_cons_of_mem _ List.mem_cons_self))) (hB _ (List.mem_cons_of_mem _ (List.mem_cons_of_mem _ (List.mem_cons_of_mem _ List.mem_cons_self)))) (hB _ (List.mem_cons_of_mem _ (List.mem_cons_of_mem _ (List.mem_cons_of_mem _ (List.mem_cons_of_mem _ List.mem_cons_self))))) (hB _ (List.mem_cons_of_mem _ (List.mem_cons_of_mem _ (List.mem_cons_of_mem _ (List.mem_cons_of_mem _ (List.mem_cons_of_mem _ List.mem_cons_self)))))) (cvp 61 (x' := (4096 * (ρ 0) + (ρ 1))) (y' := ((ρ 2) + 32 * (ρ 3) + 1024 * (ρ 4))) (by show 0 + (4096 * ρ 0 + (1 * ρ 1 + 0)) = _; omega) (by show 0 + (1 * ρ 2 + (32 * ρ 3 + (1024 * ρ 4 + 0))) = _; omega) (hm _ List.mem_cons_self)) (cvp 150 (x' := (4096 * (ρ 0) + (ρ 1))) (y' := ((ρ 2) + 32 * (ρ 3) + 1024 * (ρ 4) + 32768)) (by show 0 + (4096 * ρ 0 + (1 * ρ 1 + 0)) = _; omega) (by show 32768 + (1 * ρ 2 + (32 * ρ 3 + (1024 * ρ 4 + 0))) = _; omega) (hm _ (List.mem_cons_of_mem _ List.mem_cons_self))) (cvp 79 (x' := (16 * (ρ 0) + 8)) (y' := ((ρ 5))) (by show 8 + (16 * ρ 0 + 0) = _; omega) (by show 0 + (1 * ρ 5 + 0) = _; omega) (hm _ (List.mem_cons_of_mem _ (List.mem_cons_of_mem _ List.mem_cons_self)))) hG
  obtain ⟨k0, k1, -⟩ := H
  exact ⟨_, List.mem_cons_self, ρ, fun _ _ => rfl, (okM_c (pvp 61 (by show 0 + (4096 * ρ 0 + (1 * ρ 1 + 0)) = _; omega) (by show 0 + (1 * ρ 2 + (32 * ρ 3 + (1024 * ρ 4 + 0))) = _; omega) k0) (okM_c (pvp 150 (by show 0 + (4096 * ρ 0 + (1 * ρ 1 + 0)) = _; omega) (by show 40960 + (1 * ρ 2 + (32 * ρ 3 + (1024 * ρ 4 + 0))) = _; omega) k1) okM_n)), okB_n, okF_n⟩
-- rge_1
theorem cr_646 (M : pM) (s0 s1 s2 s3 s4 s5 : Int) (b0 : 0 ≤ s0 ∧ s0 ≤ 1900) (b1 : 0 ≤ s1 ∧ s1 ≤ 950) (b2 : 0 ≤ s2 ∧ s2 ≤ 1900) (b3 : 0 ≤ s3 ∧ s3 ≤ 12) (b4 : 0 ≤ s4 ∧ s4 ≤ 20) (b5 : 0 ≤ s5 ∧ s5 ≤ 3) (m0 : HP 61 (4096 * s0 + s1) (s3 + 32 * s4 + 1024 * s5) M) (m1 : HP 150 (4096 * s0 + s1) (s3 + 32 * s4 + 1024 * s5 + 40960) M) (m2 : HP 156 (s0) (s5) M) (m3 : HP 53 (4096 * s0 + s1) (256 * s2 + 169) M) (hG : gI M) : (HP 63 (4096 * s0 + s1) (s3 + 32 * s4 + 1024 * s5 + 1024) M ∧ True) := by
  obtain ⟨h0, gg, h1, h2, h3⟩ := Eq.mp hp_156 m2
  have hg : gg = s5.toNat := by omega
  subst hg
  exact ⟨Eq.mpr hp_63 (l_rge (v := 0) (w := s3) (r := s4) (g := s5) (P := s0) (l := s1) (Eq.mp hp_61 m0) (Eq.mp hp_150 m1) (by omega) (by omega) ⟨⟨by omega, by omega⟩, ⟨by omega, by omega⟩, by omega, by omega⟩ (ex_o (K := 10) (j := 8) (a := s2) (Eq.mp hp_53 m3) ⟨by omega, by omega, by decide, by decide⟩) ⟨by omega, by omega, by omega⟩ h3 (by omega)), trivial⟩
theorem rul_646 : Rul r_646 := by
  refine ⟨fun _ ρ M hm hB hF hG => ?_, fun gi gv hg => (by cases hg)⟩
  have H := cr_646 M (ρ 0) (ρ 1) (ρ 2) (ρ 3) (ρ 4) (ρ 5) (hB _ List.mem_cons_self) (hB _ (List.mem_cons_of_mem _ List.mem_cons_self)) (hB _ (List.mem_cons_of_mem _ (List.mem_cons_of_mem _ List.mem_cons_self))) (hB _ (List.mem_cons_of_mem _ (List.mem_cons_of_mem _ (List.mem_cons_of_mem _ List.mem_cons_self)))) (hB _ (List.mem_cons_of_mem _ (List.mem_cons_of_mem _ (List.mem_cons_of_mem _ (List.mem_cons_of_mem _ List.mem_cons_self))))) (hB _ (List.mem_cons_of_mem _ (List.mem_cons_of_mem _ (List.mem_cons_of_mem _ (List.mem_cons_of_mem _ (List.mem_cons_of_mem _ List.mem_cons_self)))))) (cvp 61 (x' := (4096 * (ρ 0) + (ρ 1))) (y' := ((ρ 3) + 32 * (ρ 4) + 1024 * (ρ 5))) (by show 0 + (4096 * ρ 0 + (1 * ρ 1 + 0)) = _; omega) (by show 0 + (1 * ρ 3 + (32 * ρ 4 + (1024 * ρ 5 + 0))) = _; omega) (hm _ List.mem_cons_self)) (cvp 150 (x' := (4096 * (ρ 0) + (ρ 1))) (y' := ((ρ 3) + 32 * (ρ 4) + 1024 * (ρ 5) + 40960)) (by show 0 + (4096 * ρ 0 + (1 * ρ 1 + 0)) = _; omega) (by show 40960 + (1 * ρ 3 + (32 * ρ 4 + (1024 * ρ 5 + 0))) = _; omega) (hm _ (List.mem_cons_of_mem _ List.mem_cons_self))) (cvp 156 (x' := ((ρ 0))) (y' := ((ρ 5))) (by show 0 + (1 * ρ 0 + 0) = _; omega) (by show 0 + (1 * ρ 5 + 0) = _; omega) (hm _ (List.mem_cons_of_mem _ (List.mem_cons_of_mem _ List.mem_cons_self)))) (cvp 53 (x' := (4096 * (ρ 0) + (ρ 1))) (y' := (256 * (ρ 2) + 169)) (by show 0 + (4096 * ρ 0 + (1 * ρ 1 + 0)) = _; omega) (by show 169 + (256 * ρ 2 + 0) = _; omega) (hm _ (List.mem_cons_of_mem _ (List.mem_cons_of_mem _ (List.mem_cons_of_mem _ List.mem_cons_self))))) hG
  obtain ⟨k0, -⟩ := H
  exact ⟨_, List.mem_cons_self, ρ, fun _ _ => rfl, (okM_c (pvp 63 (by show 0 + (4096 * ρ 0 + (1 * ρ 1 + 0)) = _; omega) (by show 1024 + (1 * ρ 3 + (32 * ρ 4 + (1024 * ρ 5 + 0))) = _; omega) k0) okM_n), okB_n, okF_n⟩
-- rexs4_1
theorem cr_647 (M : pM) (s0 s1 s2 s3 s4 s5 : Int) (b0 : 0 ≤ s0 ∧ s0 ≤ 1900) (b1 : 0 ≤ s1 ∧ s1 ≤ 950) (b2 : 0 ≤ s2 ∧ s2 ≤ 1900) (b3 : 0 ≤ s3 ∧ s3 ≤ 12) (b4 : 0 ≤ s4 ∧ s4 ≤ 20) (b5 : 0 ≤ s5 ∧ s5 ≤ 4) (m0 : HP 61 (4096 * s0 + s1) (s3 + 32 * s4 + 1024 * s5) M) (m1 : HP 47 (s0) (262148 : Int) M) (m2 : HP 46 (s0) (s2) M) (f0 : 0 ≤ ((-1) * s3 + 11)) (hG : gI M) : (HP 53 (4096 * s0 + s1) (256 * s2 + 65) M ∧ True) := by
  obtain ⟨s, h1, hw, ha⟩ := Eq.mp hp_61 m0
  obtain ⟨c1, c2, c3⟩ := qW_o (w := s3) (r := s4) (g := s5) hw (by omega) (by omega) (by omega) (by omega)
  exact ⟨Eq.mpr hp_53 (r_exs (P := s0) (l := s1) (K := 4) h1 ⟨by omega, by omega, by omega⟩ (by have := (q47 m1).2; omega) (q46 m2).2 (by decide) (by unfold qfu; exact decide_eq_false (by omega)) (by omega)), trivial⟩
theorem rul_647 : Rul r_647 := by
  refine ⟨fun _ ρ M hm hB hF hG => ?_, fun gi gv hg => (by cases hg)⟩
  have H := cr_647 M (ρ 0) (ρ 1) (ρ 2) (ρ 3) (ρ 4) (ρ 5) (hB _ List.mem_cons_self) (hB _ (List.mem_cons_of_mem _ List.mem_cons_self)) (hB _ (List.mem_cons_of_mem _ (List.mem_cons_of_mem _ List.mem_cons_self))) (hB _ (List.mem_cons_of_mem _ (List.mem_cons_of_mem _ (List.mem_cons_of_mem _ List.mem_cons_self)))) (hB _ (List.mem_cons_of_mem _ (List.mem_cons_of_mem _ (List.mem_cons_of_mem _ (List.mem_cons_of_mem _ List.mem_cons_self))))) (hB _ (List.mem_cons_of_mem _ (List.mem_cons_of_mem _ (List.mem_cons_of_mem _ (List.mem_cons_of_mem _ (List.mem_cons_of_mem _ List.mem_cons_self)))))) (cvp 61 (x' := (4096 * (ρ 0) + (ρ 1))) (y' := ((ρ 3) + 32 * (ρ 4) + 1024 * (ρ 5))) (by show 0 + (4096 * ρ 0 + (1 * ρ 1 + 0)) = _; omega) (by show 0 + (1 * ρ 3 + (32 * ρ 4 + (1024 * ρ 5 + 0))) = _; omega) (hm _ List.mem_cons_self)) (cvp 47 (x' := ((ρ 0))) (y' := (262148 : Int)) (by show 0 + (1 * ρ 0 + 0) = _; omega) (by show 262148 + 0 = _; omega) (hm _ (List.mem_cons_of_mem _ List.mem_cons_self))) (cvp 46 (x' := ((ρ 0))) (y' := ((ρ 2))) (by show 0 + (1 * ρ 0 + 0) = _; omega) (by show 0 + (1 * ρ 2 + 0) = _; omega) (hm _ (List.mem_cons_of_mem _ (List.mem_cons_of_mem _ List.mem_cons_self)))) (by have h := hF _ List.mem_cons_self; have h : 0 ≤ 11 + ((-1) * ρ 3 + 0) := h; omega) hG
  obtain ⟨k0, -⟩ := H
  exact ⟨_, List.mem_cons_self, ρ, fun _ _ => rfl, (okM_c (pvp 53 (by show 0 + (4096 * ρ 0 + (1 * ρ 1 + 0)) = _; omega) (by show 65 + (256 * ρ 2 + 0) = _; omega) k0) okM_n), okB_n, okF_n⟩
-- rful4_1
theorem cr_648 (M : pM) (s0 s1 s2 s3 s4 s5 : Int) (b0 : 0 ≤ s0 ∧ s0 ≤ 1900) (b1 : 0 ≤ s1 ∧ s1 ≤ 950) (b2 : 0 ≤ s2 ∧ s2 ≤ 1900) (b3 : 0 ≤ s3 ∧ s3 ≤ 12) (b4 : 0 ≤ s4 ∧ s4 ≤ 20) (b5 : 0 ≤ s5 ∧ s5 ≤ 4) (m0 : HP 61 (4096 * s0 + s1) (s3 + 32 * s4 + 1024 * s5) M) (m1 : HP 47 (s0) (262148 : Int) M) (m2 : HP 45 (s0) (s2) M) (f0 : 0 ≤ (s3 - 12)) (hG : gI M) : (HP 66 (s2) (2 : Int) M ∧ True) := by
  obtain ⟨s, h1, hw, ha⟩ := Eq.mp hp_61 m0
  obtain ⟨c1, c2, c3⟩ := qW_o (w := s3) (r := s4) (g := s5) hw (by omega) (by omega) (by omega) (by omega)
  exact ⟨Eq.mpr hp_66 (r_ful (P := s0) (l := s1) (K := 4) h1 ⟨by omega, by omega, by omega⟩ (by have := (q47 m1).2; omega) (q45 m2).2 (by decide) (by unfold qfu; exact decide_eq_true (by omega))), trivial⟩
theorem rul_648 : Rul r_648 := by
  refine ⟨fun _ ρ M hm hB hF hG => ?_, fun gi gv hg => (by cases hg)⟩
  have H := cr_648 M (ρ 0) (ρ 1) (ρ 2) (ρ 3) (ρ 4) (ρ 5) (hB _ List.mem_cons_self) (hB _ (List.mem_cons_of_mem _ List.mem_cons_self)) (hB _ (List.mem_cons_of_mem _ (List.mem_cons_of_mem _ List.mem_cons_self))) (hB _ (List.mem_cons_of_mem _ (List.mem_cons_of_mem _ (List.mem_cons_of_mem _ List.mem_cons_self)))) (hB _ (List.mem_cons_of_mem _ (List.mem_cons_of_mem _ (List.mem_cons_of_mem _ (List.mem_cons_of_mem _ List.mem_cons_self))))) (hB _ (List.mem_cons_of_mem _ (List.mem_cons_of_mem _ (List.mem_cons_of_mem _ (List.mem_cons_of_mem _ (List.mem_cons_of_mem _ List.mem_cons_self)))))) (cvp 61 (x' := (4096 * (ρ 0) + (ρ 1))) (y' := ((ρ 3) + 32 * (ρ 4) + 1024 * (ρ 5))) (by show 0 + (4096 * ρ 0 + (1 * ρ 1 + 0)) = _; omega) (by show 0 + (1 * ρ 3 + (32 * ρ 4 + (1024 * ρ 5 + 0))) = _; omega) (hm _ List.mem_cons_self)) (cvp 47 (x' := ((ρ 0))) (y' := (262148 : Int)) (by show 0 + (1 * ρ 0 + 0) = _; omega) (by show 262148 + 0 = _; omega) (hm _ (List.mem_cons_of_mem _ List.mem_cons_self))) (cvp 45 (x' := ((ρ 0))) (y' := ((ρ 2))) (by show 0 + (1 * ρ 0 + 0) = _; omega) (by show 0 + (1 * ρ 2 + 0) = _; omega) (hm _ (List.mem_cons_of_mem _ (List.mem_cons_of_mem _ List.mem_cons_self)))) (by have h := hF _ List.mem_cons_self; have h : 0 ≤ (-12) + (1 * ρ 3 + 0) := h; omega) hG
  obtain ⟨k0, -⟩ := H
  exact ⟨_, List.mem_cons_self, ρ, fun _ _ => rfl, (okM_c (pvp 66 (by show 0 + (1 * ρ 2 + 0) = _; omega) (by show 2 + 0 = _; omega) k0) okM_n), okB_n, okF_n⟩
-- rexs9_1
theorem cr_649 (M : pM) (s0 s1 s2 s3 s4 s5 : Int) (b0 : 0 ≤ s0 ∧ s0 ≤ 1900) (b1 : 0 ≤ s1 ∧ s1 ≤ 950) (b2 : 0 ≤ s2 ∧ s2 ≤ 1900) (b3 : 0 ≤ s3 ∧ s3 ≤ 12) (b4 : 0 ≤ s4 ∧ s4 ≤ 20) (b5 : 0 ≤ s5 ∧ s5 ≤ 4) (m0 : HP 61 (4096 * s0 + s1) (s3 + 32 * s4 + 1024 * s5) M) (m1 : HP 47 (s0) (262153 : Int) M) (m2 : HP 46 (s0) (s2) M) (f0 : 0 ≤ ((-1) * s4 + 19)) (hG : gI M) : (HP 53 (4096 * s0 + s1) (256 * s2 + 145) M ∧ True) := by
  obtain ⟨s, h1, hw, ha⟩ := Eq.mp hp_61 m0
  obtain ⟨c1, c2, c3⟩ := qW_o (w := s3) (r := s4) (g := s5) hw (by omega) (by omega) (by omega) (by omega)
  exact ⟨Eq.mpr hp_53 (r_exs (P := s0) (l := s1) (K := 9) h1 ⟨by omega, by omega, by omega⟩ (by have := (q47 m1).2; omega) (q46 m2).2 (by decide) (by unfold qfu; exact decide_eq_false (by omega)) (by omega)), trivial⟩
theorem rul_649 : Rul r_649 := by
  refine ⟨fun _ ρ M hm hB hF hG => ?_, fun gi gv hg => (by cases hg)⟩
  have H := cr_649 M (ρ 0) (ρ 1) (ρ 2) (ρ 3) (ρ 4) (ρ 5) (hB _ List.mem_cons_self) (hB _ (List.mem_cons_of_mem _ List.mem_cons_self)) (hB _ (List.mem_cons_of_mem _ (List.mem_cons_of_mem _ List.mem_cons_self))) (hB _ (List.mem_cons_of_mem _ (List.mem_cons_of_mem _ (List.mem_cons_of_mem _ List.mem_cons_self)))) (hB _ (List.mem_cons_of_mem _ (List.mem_cons_of_mem _ (List.mem_cons_of_mem _ (List.mem_cons_of_mem _ List.mem_cons_self))))) (hB _ (List.mem_cons_of_mem _ (List.mem_cons_of_mem _ (List.mem_cons_of_mem _ (List.mem_cons_of_mem _ (List.mem_cons_of_mem _ List.mem_cons_self)))))) (cvp 61 (x' := (4096 * (ρ 0) + (ρ 1))) (y' := ((ρ 3) + 32 * (ρ 4) + 1024 * (ρ 5))) (by show 0 + (4096 * ρ 0 + (1 * ρ 1 + 0)) = _; omega) (by show 0 + (1 * ρ 3 + (32 * ρ 4 + (1024 * ρ 5 + 0))) = _; omega) (hm _ List.mem_cons_self)) (cvp 47 (x' := ((ρ 0))) (y' := (262153 : Int)) (by show 0 + (1 * ρ 0 + 0) = _; omega) (by show 262153 + 0 = _; omega) (hm _ (List.mem_cons_of_mem _ List.mem_cons_self))) (cvp 46 (x' := ((ρ 0))) (y' := ((ρ 2))) (by show 0 + (1 * ρ 0 + 0) = _; omega) (by show 0 + (1 * ρ 2 + 0) = _; omega) (hm _ (List.mem_cons_of_mem _ (List.mem_cons_of_mem _ List.mem_cons_self)))) (by have h := hF _ List.mem_cons_self; have h : 0 ≤ 19 + ((-1) * ρ 4 + 0) := h; omega) hG
  obtain ⟨k0, -⟩ := H
  exact ⟨_, List.mem_cons_self, ρ, fun _ _ => rfl, (okM_c (pvp 53 (by show 0 + (4096 * ρ 0 + (1 * ρ 1 + 0)) = _; omega) (by show 145 + (256 * ρ 2 + 0) = _; omega) k0) okM_n), okB_n, okF_n⟩
-- rful9_1
theorem cr_650 (M : pM) (s0 s1 s2 s3 s4 s5 : Int) (b0 : 0 ≤ s0 ∧ s0 ≤ 1900) (b1 : 0 ≤ s1 ∧ s1 ≤ 950) (b2 : 0 ≤ s2 ∧ s2 ≤ 1900) (b3 : 0 ≤ s3 ∧ s3 ≤ 12) (b4 : 0 ≤ s4 ∧ s4 ≤ 20) (b5 : 0 ≤ s5 ∧ s5 ≤ 4) (m0 : HP 61 (4096 * s0 + s1) (s3 + 32 * s4 + 1024 * s5) M) (m1 : HP 47 (s0) (262153 : Int) M) (m2 : HP 45 (s0) (s2) M) (f0 : 0 ≤ (s4 - 20)) (hG : gI M) : (HP 66 (s2) (2 : Int) M ∧ True) := by
  obtain ⟨s, h1, hw, ha⟩ := Eq.mp hp_61 m0
  obtain ⟨c1, c2, c3⟩ := qW_o (w := s3) (r := s4) (g := s5) hw (by omega) (by omega) (by omega) (by omega)
  exact ⟨Eq.mpr hp_66 (r_ful (P := s0) (l := s1) (K := 9) h1 ⟨by omega, by omega, by omega⟩ (by have := (q47 m1).2; omega) (q45 m2).2 (by decide) (by unfold qfu; exact decide_eq_true (by omega))), trivial⟩
theorem rul_650 : Rul r_650 := by
  refine ⟨fun _ ρ M hm hB hF hG => ?_, fun gi gv hg => (by cases hg)⟩
  have H := cr_650 M (ρ 0) (ρ 1) (ρ 2) (ρ 3) (ρ 4) (ρ 5) (hB _ List.mem_cons_self) (hB _ (List.mem_cons_of_mem _ List.mem_cons_self)) (hB _ (List.mem_cons_of_mem _ (List.mem_cons_of_mem _ List.mem_cons_self))) (hB _ (List.mem_cons_of_mem _ (List.mem_cons_of_mem _ (List.mem_cons_of_mem _ List.mem_cons_self)))) (hB _ (List.mem_cons_of_mem _ (List.mem_cons_of_mem _ (List.mem_cons_of_mem _ (List.mem_cons_of_mem _ List.mem_cons_self))))) (hB _ (List.mem_cons_of_mem _ (List.mem_cons_of_mem _ (List.mem_cons_of_mem _ (List.mem_cons_of_mem _ (List.mem_cons_of_mem _ List.mem_cons_self)))))) (cvp 61 (x' := (4096 * (ρ 0) + (ρ 1))) (y' := ((ρ 3) + 32 * (ρ 4) + 1024 * (ρ 5))) (by show 0 + (4096 * ρ 0 + (1 * ρ 1 + 0)) = _; omega) (by show 0 + (1 * ρ 3 + (32 * ρ 4 + (1024 * ρ 5 + 0))) = _; omega) (hm _ List.mem_cons_self)) (cvp 47 (x' := ((ρ 0))) (y' := (262153 : Int)) (by show 0 + (1 * ρ 0 + 0) = _; omega) (by show 262153 + 0 = _; omega) (hm _ (List.mem_cons_of_mem _ List.mem_cons_self))) (cvp 45 (x' := ((ρ 0))) (y' := ((ρ 2))) (by show 0 + (1 * ρ 0 + 0) = _; omega) (by show 0 + (1 * ρ 2 + 0) = _; omega) (hm _ (List.mem_cons_of_mem _ (List.mem_cons_of_mem _ List.mem_cons_self)))) (by have h := hF _ List.mem_cons_self; have h : 0 ≤ (-20) + (1 * ρ 4 + 0) := h; omega) hG
  obtain ⟨k0, -⟩ := H
  exact ⟨_, List.mem_cons_self, ρ, fun _ _ => rfl, (okM_c (pvp 66 (by show 0 + (1 * ρ 2 + 0) = _; omega) (by show 2 + 0 = _; omega) k0) okM_n), okB_n, okF_n⟩
-- rexs10_1
theorem cr_651 (M : pM) (s0 s1 s2 s3 s4 s5 : Int) (b0 : 0 ≤ s0 ∧ s0 ≤ 1900) (b1 : 0 ≤ s1 ∧ s1 ≤ 950) (b2 : 0 ≤ s2 ∧ s2 ≤ 1900) (b3 : 0 ≤ s3 ∧ s3 ≤ 12) (b4 : 0 ≤ s4 ∧ s4 ≤ 20) (b5 : 0 ≤ s5 ∧ s5 ≤ 4) (m0 : HP 61 (4096 * s0 + s1) (s3 + 32 * s4 + 1024 * s5) M) (m1 : HP 47 (s0) (262154 : Int) M) (m2 : HP 46 (s0) (s2) M) (f0 : 0 ≤ ((-1) * s5 + 3)) (hG : gI M) : (HP 53 (4096 * s0 + s1) (256 * s2 + 161) M ∧ True) := by
  obtain ⟨s, h1, hw, ha⟩ := Eq.mp hp_61 m0
  obtain ⟨c1, c2, c3⟩ := qW_o (w := s3) (r := s4) (g := s5) hw (by omega) (by omega) (by omega) (by omega)
  exact ⟨Eq.mpr hp_53 (r_exs (P := s0) (l := s1) (K := 10) h1 ⟨by omega, by omega, by omega⟩ (by have := (q47 m1).2; omega) (q46 m2).2 (by decide) (by unfold qfu; exact decide_eq_false (by omega)) (by omega)), trivial⟩
theorem rul_651 : Rul r_651 := by
  refine ⟨fun _ ρ M hm hB hF hG => ?_, fun gi gv hg => (by cases hg)⟩
  have H := cr_651 M (ρ 0) (ρ 1) (ρ 2) (ρ 3) (ρ 4) (ρ 5) (hB _ List.mem_cons_self) (hB _ (List.mem_cons_of_mem _ List.mem_cons_self)) (hB _ (List.mem_cons_of_mem _ (List.mem_cons_of_mem _ List.mem_cons_self))) (hB _ (List.mem_cons_of_mem _ (List.mem_cons_of_mem _ (List.mem_cons_of_mem _ List.mem_cons_self)))) (hB _ (List.mem_cons_of_mem _ (List.mem_cons_of_mem _ (List.mem_cons_of_mem _ (List.mem_cons_of_mem _ List.mem_cons_self))))) (hB _ (List.mem_cons_of_mem _ (List.mem_cons_of_mem _ (List.mem_cons_of_mem _ (List.mem_cons_of_mem _ (List.mem_cons_of_mem _ List.mem_cons_self)))))) (cvp 61 (x' := (4096 * (ρ 0) + (ρ 1))) (y' := ((ρ 3) + 32 * (ρ 4) + 1024 * (ρ 5))) (by show 0 + (4096 * ρ 0 + (1 * ρ 1 + 0)) = _; omega) (by show 0 + (1 * ρ 3 + (32 * ρ 4 + (1024 * ρ 5 + 0))) = _; omega) (hm _ List.mem_cons_self)) (cvp 47 (x' := ((ρ 0))) (y' := (262154 : Int)) (by show 0 + (1 * ρ 0 + 0) = _; omega) (by show 262154 + 0 = _; omega) (hm _ (List.mem_cons_of_mem _ List.mem_cons_self))) (cvp 46 (x' := ((ρ 0))) (y' := ((ρ 2))) (by show 0 + (1 * ρ 0 + 0) = _; omega) (by show 0 + (1 * ρ 2 + 0) = _; omega) (hm _ (List.mem_cons_of_mem _ (List.mem_cons_of_mem _ List.mem_cons_self)))) (by have h := hF _ List.mem_cons_self; have h : 0 ≤ 3 + ((-1) * ρ 5 + 0) := h; omega) hG
  obtain ⟨k0, -⟩ := H
  exact ⟨_, List.mem_cons_self, ρ, fun _ _ => rfl, (okM_c (pvp 53 (by show 0 + (4096 * ρ 0 + (1 * ρ 1 + 0)) = _; omega) (by show 161 + (256 * ρ 2 + 0) = _; omega) k0) okM_n), okB_n, okF_n⟩
-- rful10_1
theorem cr_652 (M : pM) (s0 s1 s2 s3 s4 s5 : Int) (b0 : 0 ≤ s0 ∧ s0 ≤ 1900) (b1 : 0 ≤ s1 ∧ s1 ≤ 950) (b2 : 0 ≤ s2 ∧ s2 ≤ 1900) (b3 : 0 ≤ s3 ∧ s3 ≤ 12) (b4 : 0 ≤ s4 ∧ s4 ≤ 20) (b5 : 0 ≤ s5 ∧ s5 ≤ 4) (m0 : HP 61 (4096 * s0 + s1) (s3 + 32 * s4 + 1024 * s5) M) (m1 : HP 47 (s0) (262154 : Int) M) (m2 : HP 45 (s0) (s2) M) (f0 : 0 ≤ (s5 - 4)) (hG : gI M) : (HP 66 (s2) (2 : Int) M ∧ True) := by
  obtain ⟨s, h1, hw, ha⟩ := Eq.mp hp_61 m0
  obtain ⟨c1, c2, c3⟩ := qW_o (w := s3) (r := s4) (g := s5) hw (by omega) (by omega) (by omega) (by omega)
  exact ⟨Eq.mpr hp_66 (r_ful (P := s0) (l := s1) (K := 10) h1 ⟨by omega, by omega, by omega⟩ (by have := (q47 m1).2; omega) (q45 m2).2 (by decide) (by unfold qfu; exact decide_eq_true (by omega))), trivial⟩
theorem rul_652 : Rul r_652 := by
  refine ⟨fun _ ρ M hm hB hF hG => ?_, fun gi gv hg => (by cases hg)⟩
  have H := cr_652 M (ρ 0) (ρ 1) (ρ 2) (ρ 3) (ρ 4) (ρ 5) (hB _ List.mem_cons_self) (hB _ (List.mem_cons_of_mem _ List.mem_cons_self)) (hB _ (List.mem_cons_of_mem _ (List.mem_cons_of_mem _ List.mem_cons_self))) (hB _ (List.mem_cons_of_mem _ (List.mem_cons_of_mem _ (List.mem_cons_of_mem _ List.mem_cons_self)))) (hB _ (List.mem_cons_of_mem _ (List.mem_cons_of_mem _ (List.mem_cons_of_mem _ (List.mem_cons_of_mem _ List.mem_cons_self))))) (hB _ (List.mem_cons_of_mem _ (List.mem_cons_of_mem _ (List.mem_cons_of_mem _ (List.mem_cons_of_mem _ (List.mem_cons_of_mem _ List.mem_cons_self)))))) (cvp 61 (x' := (4096 * (ρ 0) + (ρ 1))) (y' := ((ρ 3) + 32 * (ρ 4) + 1024 * (ρ 5))) (by show 0 + (4096 * ρ 0 + (1 * ρ 1 + 0)) = _; omega) (by show 0 + (1 * ρ 3 + (32 * ρ 4 + (1024 * ρ 5 + 0))) = _; omega) (hm _ List.mem_cons_self)) (cvp 47 (x' := ((ρ 0))) (y' := (262154 : Int)) (by show 0 + (1 * ρ 0 + 0) = _; omega) (by show 262154 + 0 = _; omega) (hm _ (List.mem_cons_of_mem _ List.mem_cons_self))) (cvp 45 (x' := ((ρ 0))) (y' := ((ρ 2))) (by show 0 + (1 * ρ 0 + 0) = _; omega) (by show 0 + (1 * ρ 2 + 0) = _; omega) (hm _ (List.mem_cons_of_mem _ (List.mem_cons_of_mem _ List.mem_cons_self)))) (by have h := hF _ List.mem_cons_self; have h : 0 ≤ (-4) + (1 * ρ 5 + 0) := h; omega) hG
  obtain ⟨k0, -⟩ := H
  exact ⟨_, List.mem_cons_self, ρ, fun _ _ => rfl, (okM_c (pvp 66 (by show 0 + (1 * ρ 2 + 0) = _; omega) (by show 2 + 0 = _; omega) k0) okM_n), okB_n, okF_n⟩
-- rexs0_1
theorem cr_653 (M : pM) (s0 s1 s2 s3 s4 s5 : Int) (b0 : 0 ≤ s0 ∧ s0 ≤ 1900) (b1 : 0 ≤ s1 ∧ s1 ≤ 950) (b2 : 0 ≤ s2 ∧ s2 ≤ 1900) (b3 : 0 ≤ s3 ∧ s3 ≤ 12) (b4 : 0 ≤ s4 ∧ s4 ≤ 20) (b5 : 0 ≤ s5 ∧ s5 ≤ 4) (m0 : HP 61 (4096 * s0 + s1) (s3 + 32 * s4 + 1024 * s5) M) (m1 : HP 47 (s0) (262144 : Int) M) (m2 : HP 46 (s0) (s2) M) (hG : gI M) : (HP 53 (4096 * s0 + s1) (256 * s2 + 1) M ∧ True) := by
  obtain ⟨s, h1, hw, ha⟩ := Eq.mp hp_61 m0
  obtain ⟨c1, c2, c3⟩ := qW_o (w := s3) (r := s4) (g := s5) hw (by omega) (by omega) (by omega) (by omega)
  exact ⟨Eq.mpr hp_53 (r_exs (P := s0) (l := s1) (K := 0) h1 ⟨by omega, by omega, by omega⟩ (by have := (q47 m1).2; omega) (q46 m2).2 (by decide) (by unfold qfu; exact decide_eq_false (by omega)) (by omega)), trivial⟩
theorem rul_653 : Rul r_653 := by
  refine ⟨fun _ ρ M hm hB hF hG => ?_, fun gi gv hg => (by cases hg)⟩
  have H := cr_653 M (ρ 0) (ρ 1) (ρ 2) (ρ 3) (ρ 4) (ρ 5) (hB _ List.mem_cons_self) (hB _ (List.mem_cons_of_mem _ List.mem_cons_self)) (hB _ (List.mem_cons_of_mem _ (List.mem_cons_of_mem _ List.mem_cons_self))) (hB _ (List.mem_cons_of_mem _ (List.mem_cons_of_mem _ (List.mem_cons_of_mem _ List.mem_cons_self)))) (hB _ (List.mem_cons_of_mem _ (List.mem_cons_of_mem _ (List.mem_cons_of_mem _ (List.mem_cons_of_mem _ List.mem_cons_self))))) (hB _ (List.mem_cons_of_mem _ (List.mem_cons_of_mem _ (List.mem_cons_of_mem _ (List.mem_cons_of_mem _ (List.mem_cons_of_mem _ List.mem_cons_self)))))) (cvp 61 (x' := (4096 * (ρ 0) + (ρ 1))) (y' := ((ρ 3) + 32 * (ρ 4) + 1024 * (ρ 5))) (by show 0 + (4096 * ρ 0 + (1 * ρ 1 + 0)) = _; omega) (by show 0 + (1 * ρ 3 + (32 * ρ 4 + (1024 * ρ 5 + 0))) = _; omega) (hm _ List.mem_cons_self)) (cvp 47 (x' := ((ρ 0))) (y' := (262144 : Int)) (by show 0 + (1 * ρ 0 + 0) = _; omega) (by show 262144 + 0 = _; omega) (hm _ (List.mem_cons_of_mem _ List.mem_cons_self))) (cvp 46 (x' := ((ρ 0))) (y' := ((ρ 2))) (by show 0 + (1 * ρ 0 + 0) = _; omega) (by show 0 + (1 * ρ 2 + 0) = _; omega) (hm _ (List.mem_cons_of_mem _ (List.mem_cons_of_mem _ List.mem_cons_self)))) hG
  obtain ⟨k0, -⟩ := H
  exact ⟨_, List.mem_cons_self, ρ, fun _ _ => rfl, (okM_c (pvp 53 (by show 0 + (4096 * ρ 0 + (1 * ρ 1 + 0)) = _; omega) (by show 1 + (256 * ρ 2 + 0) = _; omega) k0) okM_n), okB_n, okF_n⟩
-- rexs1_1
theorem cr_654 (M : pM) (s0 s1 s2 s3 s4 s5 : Int) (b0 : 0 ≤ s0 ∧ s0 ≤ 1900) (b1 : 0 ≤ s1 ∧ s1 ≤ 950) (b2 : 0 ≤ s2 ∧ s2 ≤ 1900) (b3 : 0 ≤ s3 ∧ s3 ≤ 12) (b4 : 0 ≤ s4 ∧ s4 ≤ 20) (b5 : 0 ≤ s5 ∧ s5 ≤ 4) (m0 : HP 61 (4096 * s0 + s1) (s3 + 32 * s4 + 1024 * s5) M) (m1 : HP 47 (s0) (262145 : Int) M) (m2 : HP 46 (s0) (s2) M) (hG : gI M) : (HP 53 (4096 * s0 + s1) (256 * s2 + 17) M ∧ True) := by
  obtain ⟨s, h1, hw, ha⟩ := Eq.mp hp_61 m0
  obtain ⟨c1, c2, c3⟩ := qW_o (w := s3) (r := s4) (g := s5) hw (by omega) (by omega) (by omega) (by omega)
  exact ⟨Eq.mpr hp_53 (r_exs (P := s0) (l := s1) (K := 1) h1 ⟨by omega, by omega, by omega⟩ (by have := (q47 m1).2; omega) (q46 m2).2 (by decide) (by unfold qfu; exact decide_eq_false (by omega)) (by omega)), trivial⟩
theorem rul_654 : Rul r_654 := by
  refine ⟨fun _ ρ M hm hB hF hG => ?_, fun gi gv hg => (by cases hg)⟩
  have H := cr_654 M (ρ 0) (ρ 1) (ρ 2) (ρ 3) (ρ 4) (ρ 5) (hB _ List.mem_cons_self) (hB _ (List.mem_cons_of_mem _ List.mem_cons_self)) (hB _ (List.mem_cons_of_mem _ (List.mem_cons_of_mem _ List.mem_cons_self))) (hB _ (List.mem_cons_of_mem _ (List.mem_cons_of_mem _ (List.mem_cons_of_mem _ List.mem_cons_self)))) (hB _ (List.mem_cons_of_mem _ (List.mem_cons_of_mem _ (List.mem_cons_of_mem _ (List.mem_cons_of_mem _ List.mem_cons_self))))) (hB _ (List.mem_cons_of_mem _ (List.mem_cons_of_mem _ (List.mem_cons_of_mem _ (List.mem_cons_of_mem _ (List.mem_cons_of_mem _ List.mem_cons_self)))))) (cvp 61 (x' := (4096 * (ρ 0) + (ρ 1))) (y' := ((ρ 3) + 32 * (ρ 4) + 1024 * (ρ 5))) (by show 0 + (4096 * ρ 0 + (1 * ρ 1 + 0)) = _; omega) (by show 0 + (1 * ρ 3 + (32 * ρ 4 + (1024 * ρ 5 + 0))) = _; omega) (hm _ List.mem_cons_self)) (cvp 47 (x' := ((ρ 0))) (y' := (262145 : Int)) (by show 0 + (1 * ρ 0 + 0) = _; omega) (by show 262145 + 0 = _; omega) (hm _ (List.mem_cons_of_mem _ List.mem_cons_self))) (cvp 46 (x' := ((ρ 0))) (y' := ((ρ 2))) (by show 0 + (1 * ρ 0 + 0) = _; omega) (by show 0 + (1 * ρ 2 + 0) = _; omega) (hm _ (List.mem_cons_of_mem _ (List.mem_cons_of_mem _ List.mem_cons_self)))) hG
  obtain ⟨k0, -⟩ := H
  exact ⟨_, List.mem_cons_self, ρ, fun _ _ => rfl, (okM_c (pvp 53 (by show 0 + (4096 * ρ 0 + (1 * ρ 1 + 0)) = _; omega) (by show 17 + (256 * ρ 2 + 0) = _; omega) k0) okM_n), okB_n, okF_n⟩
-- rexs2_1
theorem cr_655 (M : pM) (s0 s1 s2 s3 s4 s5 : Int) (b0 : 0 ≤ s0 ∧ s0 ≤ 1900) (b1 : 0 ≤ s1 ∧ s1 ≤ 950) (b2 : 0 ≤ s2 ∧ s2 ≤ 1900) (b3 : 0 ≤ s3 ∧ s3 ≤ 12) (b4 : 0 ≤ s4 ∧ s4 ≤ 20) (b5 : 0 ≤ s5 ∧ s5 ≤ 4) (m0 : HP 61 (4096 * s0 + s1) (s3 + 32 * s4 + 1024 * s5) M) (m1 : HP 47 (s0) (262146 : Int) M) (m2 : HP 46 (s0) (s2) M) (hG : gI M) : (HP 53 (4096 * s0 + s1) (256 * s2 + 33) M ∧ True) := by
  obtain ⟨s, h1, hw, ha⟩ := Eq.mp hp_61 m0
  obtain ⟨c1, c2, c3⟩ := qW_o (w := s3) (r := s4) (g := s5) hw (by omega) (by omega) (by omega) (by omega)
  exact ⟨Eq.mpr hp_53 (r_exs (P := s0) (l := s1) (K := 2) h1 ⟨by omega, by omega, by omega⟩ (by have := (q47 m1).2; omega) (q46 m2).2 (by decide) (by unfold qfu; exact decide_eq_false (by omega)) (by omega)), trivial⟩
theorem rul_655 : Rul r_655 := by
  refine ⟨fun _ ρ M hm hB hF hG => ?_, fun gi gv hg => (by cases hg)⟩
  have H := cr_655 M (ρ 0) (ρ 1) (ρ 2) (ρ 3) (ρ 4) (ρ 5) (hB _ List.mem_cons_self) (hB _ (List.mem_cons_of_mem _ List.mem_cons_self)) (hB _ (List.mem_cons_of_mem _ (List.mem_cons_of_mem _ List.mem_cons_self))) (hB _ (List.mem_cons_of_mem _ (List.mem_cons_of_mem _ (List.mem_cons_of_mem _ List.mem_cons_self)))) (hB _ (List.mem_cons_of_mem _ (List.mem_cons_of_mem _ (List.mem_cons_of_mem _ (List.mem_cons_of_mem _ List.mem_cons_self))))) (hB _ (List.mem_cons_of_mem _ (List.mem_cons_of_mem _ (List.mem_cons_of_mem _ (List.mem_cons_of_mem _ (List.mem_cons_of_mem _ List.mem_cons_self)))))) (cvp 61 (x' := (4096 * (ρ 0) + (ρ 1))) (y' := ((ρ 3) + 32 * (ρ 4) + 1024 * (ρ 5))) (by show 0 + (4096 * ρ 0 + (1 * ρ 1 + 0)) = _; omega) (by show 0 + (1 * ρ 3 + (32 * ρ 4 + (1024 * ρ 5 + 0))) = _; omega) (hm _ List.mem_cons_self)) (cvp 47 (x' := ((ρ 0))) (y' := (262146 : Int)) (by show 0 + (1 * ρ 0 + 0) = _; omega) (by show 262146 + 0 = _; omega) (hm _ (List.mem_cons_of_mem _ List.mem_cons_self))) (cvp 46 (x' := ((ρ 0))) (y' := ((ρ 2))) (by show 0 + (1 * ρ 0 + 0) = _; omega) (by show 0 + (1 * ρ 2 + 0) = _; omega) (hm _ (List.mem_cons_of_mem _ (List.mem_cons_of_mem _ List.mem_cons_self)))) hG
  obtain ⟨k0, -⟩ := H
  exact ⟨_, List.mem_cons_self, ρ, fun _ _ => rfl, (okM_c (pvp 53 (by show 0 + (4096 * ρ 0 + (1 * ρ 1 + 0)) = _; omega) (by show 33 + (256 * ρ 2 + 0) = _; omega) k0) okM_n), okB_n, okF_n⟩
-- rexs3_1
theorem cr_656 (M : pM) (s0 s1 s2 s3 s4 s5 : Int) (b0 : 0 ≤ s0 ∧ s0 ≤ 1900) (b1 : 0 ≤ s1 ∧ s1 ≤ 950) (b2 : 0 ≤ s2 ∧ s2 ≤ 1900) (b3 : 0 ≤ s3 ∧ s3 ≤ 12) (b4 : 0 ≤ s4 ∧ s4 ≤ 20) (b5 : 0 ≤ s5 ∧ s5 ≤ 4) (m0 : HP 61 (4096 * s0 + s1) (s3 + 32 * s4 + 1024 * s5) M) (m1 : HP 47 (s0) (262147 : Int) M) (m2 : HP 46 (s0) (s2) M) (hG : gI M) : (HP 53 (4096 * s0 + s1) (256 * s2 + 49) M ∧ True) := by
  obtain ⟨s, h1, hw, ha⟩ := Eq.mp hp_61 m0
  obtain ⟨c1, c2, c3⟩ := qW_o (w := s3) (r := s4) (g := s5) hw (by omega) (by omega) (by omega) (by omega)
  exact ⟨Eq.mpr hp_53 (r_exs (P := s0) (l := s1) (K := 3) h1 ⟨by omega, by omega, by omega⟩ (by have := (q47 m1).2; omega) (q46 m2).2 (by decide) (by unfold qfu; exact decide_eq_false (by omega)) (by omega)), trivial⟩
theorem rul_656 : Rul r_656 := by
  refine ⟨fun _ ρ M hm hB hF hG => ?_, fun gi gv hg => (by cases hg)⟩
  have H := cr_656 M (ρ 0) (ρ 1) (ρ 2) (ρ 3) (ρ 4) (ρ 5) (hB _ List.mem_cons_self) (hB _ (List.mem_cons_of_mem _ List.mem_cons_self)) (hB _ (List.mem_cons_of_mem _ (List.mem_cons_of_mem _ List.mem_cons_self))) (hB _ (List.mem_cons_of_mem _ (List.mem_cons_of_mem _ (List.mem_cons_of_mem _ List.mem_cons_self)))) (hB _ (List.mem_cons_of_mem _ (List.mem_cons_of_mem _ (List.mem_cons_of_mem _ (List.mem_cons_of_mem _ List.mem_cons_self))))) (hB _ (List.mem_cons_of_mem _ (List.mem_cons_of_mem _ (List.mem_cons_of_mem _ (List.mem_cons_of_mem _ (List.mem_cons_of_mem _ List.mem_cons_self)))))) (cvp 61 (x' := (4096 * (ρ 0) + (ρ 1))) (y' := ((ρ 3) + 32 * (ρ 4) + 1024 * (ρ 5))) (by show 0 + (4096 * ρ 0 + (1 * ρ 1 + 0)) = _; omega) (by show 0 + (1 * ρ 3 + (32 * ρ 4 + (1024 * ρ 5 + 0))) = _; omega) (hm _ List.mem_cons_self)) (cvp 47 (x' := ((ρ 0))) (y' := (262147 : Int)) (by show 0 + (1 * ρ 0 + 0) = _; omega) (by show 262147 + 0 = _; omega) (hm _ (List.mem_cons_of_mem _ List.mem_cons_self))) (cvp 46 (x' := ((ρ 0))) (y' := ((ρ 2))) (by show 0 + (1 * ρ 0 + 0) = _; omega) (by show 0 + (1 * ρ 2 + 0) = _; omega) (hm _ (List.mem_cons_of_mem _ (List.mem_cons_of_mem _ List.mem_cons_self)))) hG
  obtain ⟨k0, -⟩ := H
  exact ⟨_, List.mem_cons_self, ρ, fun _ _ => rfl, (okM_c (pvp 53 (by show 0 + (4096 * ρ 0 + (1 * ρ 1 + 0)) = _; omega) (by show 49 + (256 * ρ 2 + 0) = _; omega) k0) okM_n), okB_n, okF_n⟩
-- rexs8_1
theorem cr_657 (M : pM) (s0 s1 s2 s3 s4 s5 : Int) (b0 : 0 ≤ s0 ∧ s0 ≤ 1900) (b1 : 0 ≤ s1 ∧ s1 ≤ 950) (b2 : 0 ≤ s2 ∧ s2 ≤ 1900) (b3 : 0 ≤ s3 ∧ s3 ≤ 12) (b4 : 0 ≤ s4 ∧ s4 ≤ 20) (b5 : 0 ≤ s5 ∧ s5 ≤ 4) (m0 : HP 61 (4096 * s0 + s1) (s3 + 32 * s4 + 1024 * s5) M) (m1 : HP 47 (s0) (262152 : Int) M) (m2 : HP 46 (s0) (s2) M) (hG : gI M) : (HP 53 (4096 * s0 + s1) (256 * s2 + 129) M ∧ True) := by
  obtain ⟨s, h1, hw, ha⟩ := Eq.mp hp_61 m0
  obtain ⟨c1, c2, c3⟩ := qW_o (w := s3) (r := s4) (g := s5) hw (by omega) (by omega) (by omega) (by omega)
  exact ⟨Eq.mpr hp_53 (r_exs (P := s0) (l := s1) (K := 8) h1 ⟨by omega, by omega, by omega⟩ (by have := (q47 m1).2; omega) (q46 m2).2 (by decide) (by unfold qfu; exact decide_eq_false (by omega)) (by omega)), trivial⟩
theorem rul_657 : Rul r_657 := by
  refine ⟨fun _ ρ M hm hB hF hG => ?_, fun gi gv hg => (by cases hg)⟩
  have H := cr_657 M (ρ 0) (ρ 1) (ρ 2) (ρ 3) (ρ 4) (ρ 5) (hB _ List.mem_cons_self) (hB _ (List.mem_cons_of_mem _ List.mem_cons_self)) (hB _ (List.mem_cons_of_mem _ (List.mem_cons_of_mem _ List.mem_cons_self))) (hB _ (List.mem_cons_of_mem _ (List.mem_cons_of_mem _ (List.mem_cons_of_mem _ List.mem_cons_self)))) (hB _ (List.mem_cons_of_mem _ (List.mem_cons_of_mem _ (List.mem_cons_of_mem _ (List.mem_cons_of_mem _ List.mem_cons_self))))) (hB _ (List.mem_cons_of_mem _ (List.mem_cons_of_mem _ (List.mem_cons_of_mem _ (List.mem_cons_of_mem _ (List.mem_cons_of_mem _ List.mem_cons_self)))))) (cvp 61 (x' := (4096 * (ρ 0) + (ρ 1))) (y' := ((ρ 3) + 32 * (ρ 4) + 1024 * (ρ 5))) (by show 0 + (4096 * ρ 0 + (1 * ρ 1 + 0)) = _; omega) (by show 0 + (1 * ρ 3 + (32 * ρ 4 + (1024 * ρ 5 + 0))) = _; omega) (hm _ List.mem_cons_self)) (cvp 47 (x' := ((ρ 0))) (y' := (262152 : Int)) (by show 0 + (1 * ρ 0 + 0) = _; omega) (by show 262152 + 0 = _; omega) (hm _ (List.mem_cons_of_mem _ List.mem_cons_self))) (cvp 46 (x' := ((ρ 0))) (y' := ((ρ 2))) (by show 0 + (1 * ρ 0 + 0) = _; omega) (by show 0 + (1 * ρ 2 + 0) = _; omega) (hm _ (List.mem_cons_of_mem _ (List.mem_cons_of_mem _ List.mem_cons_self)))) hG
  obtain ⟨k0, -⟩ := H
  exact ⟨_, List.mem_cons_self, ρ, fun _ _ => rfl, (okM_c (pvp 53 (by show 0 + (4096 * ρ 0 + (1 * ρ 1 + 0)) = _; omega) (by show 129 + (256 * ρ 2 + 0) = _; omega) k0) okM_n), okB_n, okF_n⟩
-- rftk0_1
theorem cr_658 (M : pM) (s0 s1 s2 s3 s4 s5 s6 : Int) (b0 : 0 ≤ s0 ∧ s0 ≤ 1900) (b1 : 0 ≤ s1 ∧ s1 ≤ 950) (b2 : 0 ≤ s2 ∧ s2 ≤ 1900) (b3 : 0 ≤ s3 ∧ s3 ≤ 12) (b4 : 0 ≤ s4 ∧ s4 ≤ 20) (b5 : 0 ≤ s5 ∧ s5 ≤ 4) (b6 : (-1) ≤ s6 ∧ s6 ≤ 600000) (m0 : HP 61 (4096 * s0 + s1) (s3 + 32 * s4 + 1024 * s5) M) (m1 : HP 47 (s0) (s6) M) (m2 : HP 45 (s0) (s2) M) (f0 : 0 ≤ ((-1) * s6 + 255)) (hG : gI M) : (HP 66 (s2) (1 : Int) M ∧ True) := by
  obtain ⟨s, h1, hw, ha⟩ := Eq.mp hp_61 m0
  obtain ⟨c1, c2, c3⟩ := qW_o (w := s3) (r := s4) (g := s5) hw (by omega) (by omega) (by omega) (by omega)
  exact ⟨Eq.mpr hp_66 (r_ftk (P := s0) (l := s1) h1 ⟨by omega, by omega, by omega⟩ (q47 m1).2 (q45 m2).2 (by omega) (by rw [if_pos (by omega)])), trivial⟩
theorem rul_658 : Rul r_658 := by
  refine ⟨fun _ ρ M hm hB hF hG => ?_, fun gi gv hg => (by cases hg)⟩
  have H := cr_658 M (ρ 0) (ρ 1) (ρ 2) (ρ 3) (ρ 4) (ρ 5) (ρ 6) (hB _ List.mem_cons_self) (hB _ (List.mem_cons_of_mem _ List.mem_cons_self)) (hB _ (List.mem_cons_of_mem _ (List.mem_cons_of_mem _ List.mem_cons_self))) (hB _ (List.mem_cons_of_mem _ (List.mem_cons_of_mem _ (List.mem_cons_of_mem _ List.mem_cons_self)))) (hB _ (List.mem_cons_of_mem _ (List.mem_cons_of_mem _ (List.mem_cons_of_mem _ (List.mem_cons_of_mem _ List.mem_cons_self))))) (hB _ (List.mem_cons_of_mem _ (List.mem_cons_of_mem _ (List.mem_cons_of_mem _ (List.mem_cons_of_mem _ (List.mem_cons_of_mem _ List.mem_cons_self)))))) (hB _ (List.mem_cons_of_mem _ (List.mem_cons_of_mem _ (List.mem_cons_of_mem _ (List.mem_cons_of_mem _ (List.mem_cons_of_mem _ (List.mem_cons_of_mem _ List.mem_cons_self))))))) (cvp 61 (x' := (4096 * (ρ 0) + (ρ 1))) (y' := ((ρ 3) + 32 * (ρ 4) + 1024 * (ρ 5))) (by show 0 + (4096 * ρ 0 + (1 * ρ 1 + 0)) = _; omega) (by show 0 + (1 * ρ 3 + (32 * ρ 4 + (1024 * ρ 5 + 0))) = _; omega) (hm _ List.mem_cons_self)) (cvp 47 (x' := ((ρ 0))) (y' := ((ρ 6))) (by show 0 + (1 * ρ 0 + 0) = _; omega) (by show 0 + (1 * ρ 6 + 0) = _; omega) (hm _ (List.mem_cons_of_mem _ List.mem_cons_self))) (cvp 45 (x' := ((ρ 0))) (y' := ((ρ 2))) (by show 0 + (1 * ρ 0 + 0) = _; omega) (by show 0 + (1 * ρ 2 + 0) = _; omega) (hm _ (List.mem_cons_of_mem _ (List.mem_cons_of_mem _ List.mem_cons_self)))) (by have h := hF _ List.mem_cons_self; have h : 0 ≤ 255 + ((-1) * ρ 6 + 0) := h; omega) hG
  obtain ⟨k0, -⟩ := H
  exact ⟨_, List.mem_cons_self, ρ, fun _ _ => rfl, (okM_c (pvp 66 (by show 0 + (1 * ρ 2 + 0) = _; omega) (by show 1 + 0 = _; omega) k0) okM_n), okB_n, okF_n⟩
-- rftk1_1
theorem cr_659 (M : pM) (s0 s1 s2 s3 s4 s5 s6 : Int) (b0 : 0 ≤ s0 ∧ s0 ≤ 1900) (b1 : 0 ≤ s1 ∧ s1 ≤ 950) (b2 : 0 ≤ s2 ∧ s2 ≤ 1900) (b3 : 0 ≤ s3 ∧ s3 ≤ 12) (b4 : 0 ≤ s4 ∧ s4 ≤ 20) (b5 : 0 ≤ s5 ∧ s5 ≤ 4) (b6 : (-1) ≤ s6 ∧ s6 ≤ 600000) (m0 : HP 61 (4096 * s0 + s1) (s3 + 32 * s4 + 1024 * s5) M) (m1 : HP 47 (s0) (s6) M) (m2 : HP 45 (s0) (s2) M) (f0 : 0 ≤ (s6 - 262143)) (f1 : 0 ≤ ((-1) * s6 + 262143)) (hG : gI M) : (HP 66 (s2) (2 : Int) M ∧ True) := by
  obtain ⟨s, h1, hw, ha⟩ := Eq.mp hp_61 m0
  obtain ⟨c1, c2, c3⟩ := qW_o (w := s3) (r := s4) (g := s5) hw (by omega) (by omega) (by omega) (by omega)
  exact ⟨Eq.mpr hp_66 (r_ftk (P := s0) (l := s1) h1 ⟨by omega, by omega, by omega⟩ (q47 m1).2 (q45 m2).2 (by omega) (by rw [if_neg (by omega)])), trivial⟩
theorem rul_659 : Rul r_659 := by
  refine ⟨fun _ ρ M hm hB hF hG => ?_, fun gi gv hg => (by cases hg)⟩
  have H := cr_659 M (ρ 0) (ρ 1) (ρ 2) (ρ 3) (ρ 4) (ρ 5) (ρ 6) (hB _ List.mem_cons_self) (hB _ (List.mem_cons_of_mem _ List.mem_cons_self)) (hB _ (List.mem_cons_of_mem _ (List.mem_cons_of_mem _ List.mem_cons_self))) (hB _ (List.mem_cons_of_mem _ (List.mem_cons_of_mem _ (List.mem_cons_of_mem _ List.mem_cons_self)))) (hB _ (List.mem_cons_of_mem _ (List.mem_cons_of_mem _ (List.mem_cons_of_mem _ (List.mem_cons_of_mem _ List.mem_cons_self))))) (hB _ (List.mem_cons_of_mem _ (List.mem_cons_of_mem _ (List.mem_cons_of_mem _ (List.mem_cons_of_mem _ (List.mem_cons_of_mem _ List.mem_cons_self)))))) (hB _ (List.mem_cons_of_mem _ (List.mem_cons_of_mem _ (List.mem_cons_of_mem _ (List.mem_cons_of_mem _ (List.mem_cons_of_mem _ (List.mem_cons_of_mem _ List.mem_cons_self))))))) (cvp 61 (x' := (4096 * (ρ 0) + (ρ 1))) (y' := ((ρ 3) + 32 * (ρ 4) + 1024 * (ρ 5))) (by show 0 + (4096 * ρ 0 + (1 * ρ 1 + 0)) = _; omega) (by show 0 + (1 * ρ 3 + (32 * ρ 4 + (1024 * ρ 5 + 0))) = _; omega) (hm _ List.mem_cons_self)) (cvp 47 (x' := ((ρ 0))) (y' := ((ρ 6))) (by show 0 + (1 * ρ 0 + 0) = _; omega) (by show 0 + (1 * ρ 6 + 0) = _; omega) (hm _ (List.mem_cons_of_mem _ List.mem_cons_self))) (cvp 45 (x' := ((ρ 0))) (y' := ((ρ 2))) (by show 0 + (1 * ρ 0 + 0) = _; omega) (by show 0 + (1 * ρ 2 + 0) = _; omega) (hm _ (List.mem_cons_of_mem _ (List.mem_cons_of_mem _ List.mem_cons_self)))) (by have h := hF _ List.mem_cons_self; have h : 0 ≤ (-262143) + (1 * ρ 6 + 0) := h; omega) (by have h := hF _ (List.mem_cons_of_mem _ List.mem_cons_self); have h : 0 ≤ 262143 + ((-1) * ρ 6 + 0) := h; omega) hG
  obtain ⟨k0, -⟩ := H
  exact ⟨_, List.mem_cons_self, ρ, fun _ _ => rfl, (okM_c (pvp 66 (by show 0 + (1 * ρ 2 + 0) = _; omega) (by show 2 + 0 = _; omega) k0) okM_n), okB_n, okF_n⟩
-- rftk2_1
theorem cr_660 (M : pM) (s0 s1 s2 s3 s4 s5 s6 : Int) (b0 : 0 ≤ s0 ∧ s0 ≤ 1900) (b1 : 0 ≤ s1 ∧ s1 ≤ 950) (b2 : 0 ≤ s2 ∧ s2 ≤ 1900) (b3 : 0 ≤ s3 ∧ s3 ≤ 12) (b4 : 0 ≤ s4 ∧ s4 ≤ 20) (b5 : 0 ≤ s5 ∧ s5 ≤ 4) (b6 : (-1) ≤ s6 ∧ s6 ≤ 600000) (m0 : HP 61 (4096 * s0 + s1) (s3 + 32 * s4 + 1024 * s5) M) (m1 : HP 47 (s0) (s6) M) (m2 : HP 45 (s0) (s2) M) (f0 : 0 ≤ (s6 - 262149)) (f1 : 0 ≤ ((-1) * s6 + 262151)) (hG : gI M) : (HP 66 (s2) (2 : Int) M ∧ True) := by
  obtain ⟨s, h1, hw, ha⟩ := Eq.mp hp_61 m0
  obtain ⟨c1, c2, c3⟩ := qW_o (w := s3) (r := s4) (g := s5) hw (by omega) (by omega) (by omega) (by omega)
  exact ⟨Eq.mpr hp_66 (r_ftk (P := s0) (l := s1) h1 ⟨by omega, by omega, by omega⟩ (q47 m1).2 (q45 m2).2 (by omega) (by rw [if_neg (by omega)])), trivial⟩
theorem rul_660 : Rul r_660 := by
  refine ⟨fun _ ρ M hm hB hF hG => ?_, fun gi gv hg => (by cases hg)⟩
  have H := cr_660 M (ρ 0) (ρ 1) (ρ 2) (ρ 3) (ρ 4) (ρ 5) (ρ 6) (hB _ List.mem_cons_self) (hB _ (List.mem_cons_of_mem _ List.mem_cons_self)) (hB _ (List.mem_cons_of_mem _ (List.mem_cons_of_mem _ List.mem_cons_self))) (hB _ (List.mem_cons_of_mem _ (List.mem_cons_of_mem _ (List.mem_cons_of_mem _ List.mem_cons_self)))) (hB _ (List.mem_cons_of_mem _ (List.mem_cons_of_mem _ (List.mem_cons_of_mem _ (List.mem_cons_of_mem _ List.mem_cons_self))))) (hB _ (List.mem_cons_of_mem _ (List.mem_cons_of_mem _ (List.mem_cons_of_mem _ (List.mem_cons_of_mem _ (List.mem_cons_of_mem _ List.mem_cons_self)))))) (hB _ (List.mem_cons_of_mem _ (List.mem_cons_of_mem _ (List.mem_cons_of_mem _ (List.mem_cons_of_mem _ (List.mem_cons_of_mem _ (List.mem_cons_of_mem _ List.mem_cons_self))))))) (cvp 61 (x' := (4096 * (ρ 0) + (ρ 1))) (y' := ((ρ 3) + 32 * (ρ 4) + 1024 * (ρ 5))) (by show 0 + (4096 * ρ 0 + (1 * ρ 1 + 0)) = _; omega) (by show 0 + (1 * ρ 3 + (32 * ρ 4 + (1024 * ρ 5 + 0))) = _; omega) (hm _ List.mem_cons_self)) (cvp 47 (x' := ((ρ 0))) (y' := ((ρ 6))) (by show 0 + (1 * ρ 0 + 0) = _; omega) (by show 0 + (1 * ρ 6 + 0) = _; omega) (hm _ (List.mem_cons_of_mem _ List.mem_cons_self))) (cvp 45 (x' := ((ρ 0))) (y' := ((ρ 2))) (by show 0 + (1 * ρ 0 + 0) = _; omega) (by show 0 + (1 * ρ 2 + 0) = _; omega) (hm _ (List.mem_cons_of_mem _ (List.mem_cons_of_mem _ List.mem_cons_self)))) (by have h := hF _ List.mem_cons_self; have h : 0 ≤ (-262149) + (1 * ρ 6 + 0) := h; omega) (by have h := hF _ (List.mem_cons_of_mem _ List.mem_cons_self); have h : 0 ≤ 262151 + ((-1) * ρ 6 + 0) := h; omega) hG
  obtain ⟨k0, -⟩ := H
  exact ⟨_, List.mem_cons_self, ρ, fun _ _ => rfl, (okM_c (pvp 66 (by show 0 + (1 * ρ 2 + 0) = _; omega) (by show 2 + 0 = _; omega) k0) okM_n), okB_n, okF_n⟩
-- rftk3_1
theorem cr_661 (M : pM) (s0 s1 s2 s3 s4 s5 s6 : Int) (b0 : 0 ≤ s0 ∧ s0 ≤ 1900) (b1 : 0 ≤ s1 ∧ s1 ≤ 950) (b2 : 0 ≤ s2 ∧ s2 ≤ 1900) (b3 : 0 ≤ s3 ∧ s3 ≤ 12) (b4 : 0 ≤ s4 ∧ s4 ≤ 20) (b5 : 0 ≤ s5 ∧ s5 ≤ 4) (b6 : (-1) ≤ s6 ∧ s6 ≤ 600000) (m0 : HP 61 (4096 * s0 + s1) (s3 + 32 * s4 + 1024 * s5) M) (m1 : HP 47 (s0) (s6) M) (m2 : HP 45 (s0) (s2) M) (f0 : 0 ≤ (s6 - 262155)) (hG : gI M) : (HP 66 (s2) (2 : Int) M ∧ True) := by
  obtain ⟨s, h1, hw, ha⟩ := Eq.mp hp_61 m0
  obtain ⟨c1, c2, c3⟩ := qW_o (w := s3) (r := s4) (g := s5) hw (by omega) (by omega) (by omega) (by omega)
  exact ⟨Eq.mpr hp_66 (r_ftk (P := s0) (l := s1) h1 ⟨by omega, by omega, by omega⟩ (q47 m1).2 (q45 m2).2 (by omega) (by rw [if_neg (by omega)])), trivial⟩
theorem rul_661 : Rul r_661 := by
  refine ⟨fun _ ρ M hm hB hF hG => ?_, fun gi gv hg => (by cases hg)⟩
  have H := cr_661 M (ρ 0) (ρ 1) (ρ 2) (ρ 3) (ρ 4) (ρ 5) (ρ 6) (hB _ List.mem_cons_self) (hB _ (List.mem_cons_of_mem _ List.mem_cons_self)) (hB _ (List.mem_cons_of_mem _ (List.mem_cons_of_mem _ List.mem_cons_self))) (hB _ (List.mem_cons_of_mem _ (List.mem_cons_of_mem _ (List.mem_cons_of_mem _ List.mem_cons_self)))) (hB _ (List.mem_cons_of_mem _ (List.mem_cons_of_mem _ (List.mem_cons_of_mem _ (List.mem_cons_of_mem _ List.mem_cons_self))))) (hB _ (List.mem_cons_of_mem _ (List.mem_cons_of_mem _ (List.mem_cons_of_mem _ (List.mem_cons_of_mem _ (List.mem_cons_of_mem _ List.mem_cons_self)))))) (hB _ (List.mem_cons_of_mem _ (List.mem_cons_of_mem _ (List.mem_cons_of_mem _ (List.mem_cons_of_mem _ (List.mem_cons_of_mem _ (List.mem_cons_of_mem _ List.mem_cons_self))))))) (cvp 61 (x' := (4096 * (ρ 0) + (ρ 1))) (y' := ((ρ 3) + 32 * (ρ 4) + 1024 * (ρ 5))) (by show 0 + (4096 * ρ 0 + (1 * ρ 1 + 0)) = _; omega) (by show 0 + (1 * ρ 3 + (32 * ρ 4 + (1024 * ρ 5 + 0))) = _; omega) (hm _ List.mem_cons_self)) (cvp 47 (x' := ((ρ 0))) (y' := ((ρ 6))) (by show 0 + (1 * ρ 0 + 0) = _; omega) (by show 0 + (1 * ρ 6 + 0) = _; omega) (hm _ (List.mem_cons_of_mem _ List.mem_cons_self))) (cvp 45 (x' := ((ρ 0))) (y' := ((ρ 2))) (by show 0 + (1 * ρ 0 + 0) = _; omega) (by show 0 + (1 * ρ 2 + 0) = _; omega) (hm _ (List.mem_cons_of_mem _ (List.mem_cons_of_mem _ List.mem_cons_self)))) (by have h := hF _ List.mem_cons_self; have h : 0 ≤ (-262155) + (1 * ρ 6 + 0) := h; omega) hG
  obtain ⟨k0, -⟩ := H
  exact ⟨_, List.mem_cons_self, ρ, fun _ _ => rfl, (okM_c (pvp 66 (by show 0 + (1 * ρ 2 + 0) = _; omega) (by show 2 + 0 = _; omega) k0) okM_n), okB_n, okF_n⟩
-- rsemi_1
theorem cr_662 (M : pM) (s0 s1 s2 s3 s4 s5 s6 : Int) (b0 : 0 ≤ s0 ∧ s0 ≤ 1900) (b1 : 0 ≤ s1 ∧ s1 ≤ 950) (b2 : 0 ≤ s2 ∧ s2 ≤ 1900) (b3 : 0 ≤ s3 ∧ s3 ≤ 1900) (b4 : 0 ≤ s4 ∧ s4 ≤ 12) (b5 : 0 ≤ s5 ∧ s5 ≤ 20) (b6 : 0 ≤ s6 ∧ s6 ≤ 4) (m0 : HP 89 (4096 * s0 + s1) (s2) M) (m1 : HP 47 (s2) (524347 : Int) M) (m2 : HP 46 (s2) (s3) M) (m3 : HP 63 (4096 * s0 + s1) (s4 + 32 * s5 + 1024 * s6) M) (hG : gI M) : (HP 61 (s1 + 4096 * s3 + 1) (s4 + 32 * s5 + 1024 * s6) M ∧ 0 ≤ ((-1) * s1 + 949) ∧ True) := by
  obtain ⟨k1, k2⟩ := k_semiR (P := s0) (l := s1) (x' := (s1 + 4096 * s3 + 1)) (Eq.mp hp_63 m3)  (Eq.mp hp_89 m0) (by omega) ⟨by omega, by omega, by omega⟩ (q47 m1).2 (q46 m2).2 (by omega) (by omega)
  exact ⟨Eq.mpr hp_61 k1, by omega, trivial⟩
theorem rul_662 : Rul r_662 := by
  refine ⟨fun _ ρ M hm hB hF hG => ?_, fun gi gv hg => (by cases hg)⟩
  have H := cr_662 M (ρ 0) (ρ 1) (ρ 2) (ρ 3) (ρ 4) (ρ 5) (ρ 6) (hB _ List.mem_cons_self) (hB _ (List.mem_cons_of_mem _ List.mem_cons_self)) (hB _ (List.mem_cons_of_mem _ (List.mem_cons_of_mem _ List.mem_cons_self))) (hB _ (List.mem_cons_of_mem _ (List.mem_cons_of_mem _ (List.mem_cons_of_mem _ List.mem_cons_self)))) (hB _ (List.mem_cons_of_mem _ (List.mem_cons_of_mem _ (List.mem_cons_of_mem _ (List.mem_cons_of_mem _ List.mem_cons_self))))) (hB _ (List.mem_cons_of_mem _ (List.mem_cons_of_mem _ (List.mem_cons_of_mem _ (List.mem_cons_of_mem _ (List.mem_cons_of_mem _ List.mem_cons_self)))))) (hB _ (List.mem_cons_of_mem _ (List.mem_cons_of_mem _ (List.mem_cons_of_mem _ (List.mem_cons_of_mem _ (List.mem_cons_of_mem _ (List.mem_cons_of_mem _ List.mem_cons_self))))))) (cvp 89 (x' := (4096 * (ρ 0) + (ρ 1))) (y' := ((ρ 2))) (by show 0 + (4096 * ρ 0 + (1 * ρ 1 + 0)) = _; omega) (by show 0 + (1 * ρ 2 + 0) = _; omega) (hm _ List.mem_cons_self)) (cvp 47 (x' := ((ρ 2))) (y' := (524347 : Int)) (by show 0 + (1 * ρ 2 + 0) = _; omega) (by show 524347 + 0 = _; omega) (hm _ (List.mem_cons_of_mem _ List.mem_cons_self))) (cvp 46 (x' := ((ρ 2))) (y' := ((ρ 3))) (by show 0 + (1 * ρ 2 + 0) = _; omega) (by show 0 + (1 * ρ 3 + 0) = _; omega) (hm _ (List.mem_cons_of_mem _ (List.mem_cons_of_mem _ List.mem_cons_self)))) (cvp 63 (x' := (4096 * (ρ 0) + (ρ 1))) (y' := ((ρ 4) + 32 * (ρ 5) + 1024 * (ρ 6))) (by show 0 + (4096 * ρ 0 + (1 * ρ 1 + 0)) = _; omega) (by show 0 + (1 * ρ 4 + (32 * ρ 5 + (1024 * ρ 6 + 0))) = _; omega) (hm _ (List.mem_cons_of_mem _ (List.mem_cons_of_mem _ (List.mem_cons_of_mem _ List.mem_cons_self))))) hG
  obtain ⟨k0, f0, -⟩ := H
  exact ⟨_, List.mem_cons_self, ρ, fun _ _ => rfl, (okM_c (pvp 61 (by show 1 + (1 * ρ 1 + (4096 * ρ 3 + 0)) = _; omega) (by show 0 + (1 * ρ 4 + (32 * ρ 5 + (1024 * ρ 6 + 0))) = _; omega) k0) okM_n), okB_n, (okF_c (by show 0 ≤ 949 + ((-1) * ρ 1 + 0); omega) okF_n)⟩
-- rend_1
theorem cr_663 (M : pM) (s0 s1 s2 s3 s4 : Int) (b0 : 0 ≤ s0 ∧ s0 ≤ 1900) (b1 : 0 ≤ s1 ∧ s1 ≤ 950) (b2 : 0 ≤ s2 ∧ s2 ≤ 12) (b3 : 0 ≤ s3 ∧ s3 ≤ 20) (b4 : 0 ≤ s4 ∧ s4 ≤ 4) (m0 : HP 61 (4096 * s0 + s1) (s2 + 32 * s3 + 1024 * s4) M) (m1 : HP 47 (s0) (131071 : Int) M) (m2 : (0 ≤ (1 : Int) ∧ M 65 (1 : Int).toNat = (s2))) (m3 : (0 ≤ (1 : Int) ∧ M 67 (1 : Int).toNat = (s3))) (m4 : (0 ≤ (1 : Int) ∧ M 68 (1 : Int).toNat = (s4))) (hG : gI M) : (HP 65 (s1) (s2 + 32 * s3 + 1024 * s4) M ∧ True) := by
  have f0_ : M 65 1 = s2 := m2.2
  have f1_ : M 67 1 = s3 := m3.2
  have f2_ : M 68 1 = s4 := m4.2
  refine ⟨Eq.mpr hp_65 ⟨l_rend (P := s0) (l := s1) (Eq.mp hp_61 m0) ⟨by omega, by omega, by omega⟩ (q47 m1).2, ?_⟩, trivial⟩
  show _ = M 65 1 + 32 * M 67 1 + 1024 * M 68 1 ∧ (0 ≤ M 65 1 ∧ M 65 1 ≤ 12) ∧ (0 ≤ M 67 1 ∧ M 67 1 ≤ 20) ∧ 0 ≤ M 68 1 ∧ M 68 1 ≤ 4
  rw [show M 65 1 = s2 from f0_]
  rw [show M 67 1 = s3 from f1_]
  rw [show M 68 1 = s4 from f2_]
  omega
theorem rul_663 : Rul r_663 := by
  refine ⟨fun _ ρ M hm hB hF hG => ?_, fun gi gv hg => (by cases hg)⟩
  have H := cr_663 M (ρ 0) (ρ 1) (ρ 2) (ρ 3) (ρ 4) (hB _ List.mem_cons_self) (hB _ (List.mem_cons_of_mem _ List.mem_cons_self)) (hB _ (List.mem_cons_of_mem _ (List.mem_cons_of_mem _ List.mem_cons_self))) (hB _ (List.mem_cons_of_mem _ (List.mem_cons_of_mem _ (List.mem_cons_of_mem _ List.mem_cons_self)))) (hB _ (List.mem_cons_of_mem _ (List.mem_cons_of_mem _ (List.mem_cons_of_mem _ (List.mem_cons_of_mem _ List.mem_cons_self))))) (cvp 61 (x' := (4096 * (ρ 0) + (ρ 1))) (y' := ((ρ 2) + 32 * (ρ 3) + 1024 * (ρ 4))) (by show 0 + (4096 * ρ 0 + (1 * ρ 1 + 0)) = _; omega) (by show 0 + (1 * ρ 2 + (32 * ρ 3 + (1024 * ρ 4 + 0))) = _; omega) (hm _ List.mem_cons_self)) (cvp 47 (x' := ((ρ 0))) (y' := (131071 : Int)) (by show 0 + (1 * ρ 0 + 0) = _; omega) (by show 131071 + 0 = _; omega) (hm _ (List.mem_cons_of_mem _ List.mem_cons_self))) (cvm (c := 65) (by decide) (x' := (1 : Int)) (y' := ((ρ 2))) (by show 1 + 0 = _; omega) (by show 0 + (1 * ρ 2 + 0) = _; omega) (hm _ (List.mem_cons_of_mem _ (List.mem_cons_of_mem _ List.mem_cons_self)))) (cvm (c := 67) (by decide) (x' := (1 : Int)) (y' := ((ρ 3))) (by show 1 + 0 = _; omega) (by show 0 + (1 * ρ 3 + 0) = _; omega) (hm _ (List.mem_cons_of_mem _ (List.mem_cons_of_mem _ (List.mem_cons_of_mem _ List.mem_cons_self))))) (cvm (c := 68) (by decide) (x' := (1 : Int)) (y' := ((ρ 4))) (by show 1 + 0 = _; omega) (by show 0 + (1 * ρ 4 + 0) = _; omega) (hm _ (List.mem_cons_of_mem _ (List.mem_cons_of_mem _ (List.mem_cons_of_mem _ (List.mem_cons_of_mem _ List.mem_cons_self)))))) hG
  obtain ⟨k0, -⟩ := H
  exact ⟨_, List.mem_cons_self, ρ, fun _ _ => rfl, (okM_c (pvp 65 (by show 0 + (1 * ρ 1 + 0) = _; omega) (by show 0 + (1 * ρ 2 + (32 * ρ 3 + (1024 * ρ 4 + 0))) = _; omega) k0) okM_n), okB_n, okF_n⟩
-- fj0_69_0
theorem cr_664 (M : pM)  (hG : gI M) : (HP 160 (0 : Int) (0 : Int) M ∧ True) := by
  exact ⟨Eq.mpr hp_160 ⟨by decide, fun i hi => by omega⟩, trivial⟩
theorem rul_664 : Rul r_664 := by
  refine ⟨fun _ ρ M hm hB hF hG => ?_, fun gi gv hg => (by cases hg)⟩
  have H := cr_664 M hG
  obtain ⟨k0, -⟩ := H
  exact ⟨_, List.mem_cons_self, ρ, fun _ _ => rfl, (okM_c (pvp 160 (by show 0 + 0 = _; omega) (by show 0 + 0 = _; omega) k0) okM_n), okB_n, okF_n⟩
-- fjw_69_0
theorem cr_665 (M : pM) (s0 : Int) (b0 : 0 ≤ s0 ∧ s0 ≤ 63) (m0 : HP 160 (s0) (0 : Int) M) (hG : gI M) : (HP 160 (s0 + 1) (0 : Int) (st M 69 (s0).toNat (0 : Int)) ∧ True) := by
  refine ⟨Eq.mpr hp_160 ⟨by omega, fun i hi => ?_⟩, trivial⟩
  rw [show (s0).toNat = 0 + s0.toNat by omega, cw]
  by_cases e : i = s0.toNat
  · rw [if_pos e]
  · rw [if_neg e]; exact (Eq.mp hp_160 m0).2 i (by omega)
theorem rul_665 : Rul r_665 := by
  refine ⟨fun h => (by cases h), fun gi gv hg ρ M hm hB hF hG => ?_⟩
  obtain ⟨g1, g2⟩ := List.cons.inj (show ([aI ((0 : Int), ([(0, 1)] : List (Nat × Int))), aI ((0 : Int), ([] : List (Nat × Int)))] : List av) = [.inl gi, .inl gv] from hg)
  obtain ⟨g2, -⟩ := List.cons.inj g2
  cases g1
  cases g2
  have ei : ev ρ ((0 : Int), ([(0, 1)] : List (Nat × Int))) = ((ρ 0)) := by show 0 + (1 * ρ 0 + 0) = _; omega
  have ew : ev ρ ((0 : Int), ([] : List (Nat × Int))) = (0 : Int) := by show 0 + 0 = _; omega
  rw [show (st M (ctj r_665) (ev ρ ((0 : Int), ([(0, 1)] : List (Nat × Int)))).toNat (ev ρ ((0 : Int), ([] : List (Nat × Int))))) = (st M 69 ((ρ 0)).toNat (0 : Int)) from by rw [ei, ew]; rfl]
  have H := cr_665 M (ρ 0) (hB _ List.mem_cons_self) (cvp 160 (x' := ((ρ 0))) (y' := (0 : Int)) (by show 0 + (1 * ρ 0 + 0) = _; omega) (by show 0 + 0 = _; omega) (hm _ List.mem_cons_self)) hG
  obtain ⟨k0, -⟩ := H
  exact ⟨_, List.mem_cons_self, ρ, fun _ _ => rfl, (okM_c (pvp 160 (by show 1 + (1 * ρ 0 + 0) = _; omega) (by show 0 + 0 = _; omega) k0) okM_n), okB_n, okF_n⟩
-- fjx_69_0
theorem cr_666 (M : pM) (s0 s1 : Int) (b0 : 0 ≤ s0 ∧ s0 ≤ 64) (b1 : 0 ≤ s1 ∧ s1 ≤ 64) (m0 : HP 160 (s0) (0 : Int) M) (f0 : 0 ≤ ((-1) * s0 + s1)) (f1 : 0 ≤ (s0 + (-1) * s1)) (hG : gI M) : (HP 160 (s1) (0 : Int) M ∧ True) := by
  have e : s0 = s1 := by omega
  subst e
  exact ⟨m0, trivial⟩
theorem rul_666 : Rul r_666 := by
  refine ⟨fun _ ρ M hm hB hF hG => ?_, fun gi gv hg => (by cases hg)⟩
  have H := cr_666 M (ρ 0) (ρ 1) (hB _ List.mem_cons_self) (hB _ (List.mem_cons_of_mem _ List.mem_cons_self)) (cvp 160 (x' := ((ρ 0))) (y' := (0 : Int)) (by show 0 + (1 * ρ 0 + 0) = _; omega) (by show 0 + 0 = _; omega) (hm _ List.mem_cons_self)) (by have h := hF _ List.mem_cons_self; have h : 0 ≤ 0 + ((-1) * ρ 0 + (1 * ρ 1 + 0)) := h; omega) (by have h := hF _ (List.mem_cons_of_mem _ List.mem_cons_self); have h : 0 ≤ 0 + (1 * ρ 0 + ((-1) * ρ 1 + 0)) := h; omega) hG
  obtain ⟨k0, -⟩ := H
  exact ⟨_, List.mem_cons_self, ρ, fun _ _ => rfl, (okM_c (pvp 160 (by show 0 + (1 * ρ 1 + 0) = _; omega) (by show 0 + 0 = _; omega) k0) okM_n), okB_n, okF_n⟩
-- fj0_70_0
theorem cr_667 (M : pM)  (hG : gI M) : (HP 161 (0 : Int) (0 : Int) M ∧ True) := by
  exact ⟨Eq.mpr hp_161 ⟨by decide, fun i hi => by omega⟩, trivial⟩
theorem rul_667 : Rul r_667 := by
  refine ⟨fun _ ρ M hm hB hF hG => ?_, fun gi gv hg => (by cases hg)⟩
  have H := cr_667 M hG
  obtain ⟨k0, -⟩ := H
  exact ⟨_, List.mem_cons_self, ρ, fun _ _ => rfl, (okM_c (pvp 161 (by show 0 + 0 = _; omega) (by show 0 + 0 = _; omega) k0) okM_n), okB_n, okF_n⟩
-- fjw_70_0
theorem cr_668 (M : pM) (s0 : Int) (b0 : 0 ≤ s0 ∧ s0 ≤ 47) (m0 : HP 161 (s0) (0 : Int) M) (hG : gI M) : (HP 161 (s0 + 1) (0 : Int) (st M 70 (s0).toNat (0 : Int)) ∧ True) := by
  refine ⟨Eq.mpr hp_161 ⟨by omega, fun i hi => ?_⟩, trivial⟩
  rw [show (s0).toNat = 0 + s0.toNat by omega, cw]
  by_cases e : i = s0.toNat
  · rw [if_pos e]
  · rw [if_neg e]; exact (Eq.mp hp_161 m0).2 i (by omega)
theorem rul_668 : Rul r_668 := by
  refine ⟨fun h => (by cases h), fun gi gv hg ρ M hm hB hF hG => ?_⟩
  obtain ⟨g1, g2⟩ := List.cons.inj (show ([aI ((0 : Int), ([(0, 1)] : List (Nat × Int))), aI ((0 : Int), ([] : List (Nat × Int)))] : List av) = [.inl gi, .inl gv] from hg)
  obtain ⟨g2, -⟩ := List.cons.inj g2
  cases g1
  cases g2
  have ei : ev ρ ((0 : Int), ([(0, 1)] : List (Nat × Int))) = ((ρ 0)) := by show 0 + (1 * ρ 0 + 0) = _; omega
  have ew : ev ρ ((0 : Int), ([] : List (Nat × Int))) = (0 : Int) := by show 0 + 0 = _; omega
  rw [show (st M (ctj r_668) (ev ρ ((0 : Int), ([(0, 1)] : List (Nat × Int)))).toNat (ev ρ ((0 : Int), ([] : List (Nat × Int))))) = (st M 70 ((ρ 0)).toNat (0 : Int)) from by rw [ei, ew]; rfl]
  have H := cr_668 M (ρ 0) (hB _ List.mem_cons_self) (cvp 161 (x' := ((ρ 0))) (y' := (0 : Int)) (by show 0 + (1 * ρ 0 + 0) = _; omega) (by show 0 + 0 = _; omega) (hm _ List.mem_cons_self)) hG
  obtain ⟨k0, -⟩ := H
  exact ⟨_, List.mem_cons_self, ρ, fun _ _ => rfl, (okM_c (pvp 161 (by show 1 + (1 * ρ 0 + 0) = _; omega) (by show 0 + 0 = _; omega) k0) okM_n), okB_n, okF_n⟩
-- fjx_70_0
theorem cr_669 (M : pM) (s0 s1 : Int) (b0 : 0 ≤ s0 ∧ s0 ≤ 48) (b1 : 0 ≤ s1 ∧ s1 ≤ 48) (m0 : HP 161 (s0) (0 : Int) M) (f0 : 0 ≤ ((-1) * s0 + s1)) (f1 : 0 ≤ (s0 + (-1) * s1)) (hG : gI M) : (HP 161 (s1) (0 : Int) M ∧ True) := by
  have e : s0 = s1 := by omega
  subst e
  exact ⟨m0, trivial⟩
theorem rul_669 : Rul r_669 := by
  refine ⟨fun _ ρ M hm hB hF hG => ?_, fun gi gv hg => (by cases hg)⟩
  have H := cr_669 M (ρ 0) (ρ 1) (hB _ List.mem_cons_self) (hB _ (List.mem_cons_of_mem _ List.mem_cons_self)) (cvp 161 (x' := ((ρ 0))) (y' := (0 : Int)) (by show 0 + (1 * ρ 0 + 0) = _; omega) (by show 0 + 0 = _; omega) (hm _ List.mem_cons_self)) (by have h := hF _ List.mem_cons_self; have h : 0 ≤ 0 + ((-1) * ρ 0 + (1 * ρ 1 + 0)) := h; omega) (by have h := hF _ (List.mem_cons_of_mem _ List.mem_cons_self); have h : 0 ≤ 0 + (1 * ρ 0 + ((-1) * ρ 1 + 0)) := h; omega) hG
  obtain ⟨k0, -⟩ := H
  exact ⟨_, List.mem_cons_self, ρ, fun _ _ => rfl, (okM_c (pvp 161 (by show 0 + (1 * ρ 1 + 0) = _; omega) (by show 0 + 0 = _; omega) k0) okM_n), okB_n, okF_n⟩
-- fj0_71_0
theorem cr_670 (M : pM)  (hG : gI M) : (HP 162 (0 : Int) (-1 : Int) M ∧ True) := by
  exact ⟨Eq.mpr hp_162 ⟨by decide, fun i hi => by omega⟩, trivial⟩
theorem rul_670 : Rul r_670 := by
  refine ⟨fun _ ρ M hm hB hF hG => ?_, fun gi gv hg => (by cases hg)⟩
  have H := cr_670 M hG
  obtain ⟨k0, -⟩ := H
  exact ⟨_, List.mem_cons_self, ρ, fun _ _ => rfl, (okM_c (pvp 162 (by show 0 + 0 = _; omega) (by show (-1) + 0 = _; omega) k0) okM_n), okB_n, okF_n⟩
-- fjw_71_0
theorem cr_671 (M : pM) (s0 : Int) (b0 : 0 ≤ s0 ∧ s0 ≤ 5) (m0 : HP 162 (s0) (-1 : Int) M) (hG : gI M) : (HP 162 (s0 + 1) (-1 : Int) (st M 71 (s0).toNat (-1 : Int)) ∧ True) := by
  refine ⟨Eq.mpr hp_162 ⟨by omega, fun i hi => ?_⟩, trivial⟩
  rw [show (s0).toNat = 0 + s0.toNat by omega, cw]
  by_cases e : i = s0.toNat
  · rw [if_pos e]
  · rw [if_neg e]; exact (Eq.mp hp_162 m0).2 i (by omega)
theorem rul_671 : Rul r_671 := by
  refine ⟨fun h => (by cases h), fun gi gv hg ρ M hm hB hF hG => ?_⟩
  obtain ⟨g1, g2⟩ := List.cons.inj (show ([aI ((0 : Int), ([(0, 1)] : List (Nat × Int))), aI (((-1) : Int), ([] : List (Nat × Int)))] : List av) = [.inl gi, .inl gv] from hg)
  obtain ⟨g2, -⟩ := List.cons.inj g2
  cases g1
  cases g2
  have ei : ev ρ ((0 : Int), ([(0, 1)] : List (Nat × Int))) = ((ρ 0)) := by show 0 + (1 * ρ 0 + 0) = _; omega
  have ew : ev ρ (((-1) : Int), ([] : List (Nat × Int))) = (-1 : Int) := by show (-1) + 0 = _; omega
  rw [show (st M (ctj r_671) (ev ρ ((0 : Int), ([(0, 1)] : List (Nat × Int)))).toNat (ev ρ (((-1) : Int), ([] : List (Nat × Int))))) = (st M 71 ((ρ 0)).toNat (-1 : Int)) from by rw [ei, ew]; rfl]
  have H := cr_671 M (ρ 0) (hB _ List.mem_cons_self) (cvp 162 (x' := ((ρ 0))) (y' := (-1 : Int)) (by show 0 + (1 * ρ 0 + 0) = _; omega) (by show (-1) + 0 = _; omega) (hm _ List.mem_cons_self)) hG
  obtain ⟨k0, -⟩ := H
  exact ⟨_, List.mem_cons_self, ρ, fun _ _ => rfl, (okM_c (pvp 162 (by show 1 + (1 * ρ 0 + 0) = _; omega) (by show (-1) + 0 = _; omega) k0) okM_n), okB_n, okF_n⟩
-- fjx_71_0
theorem cr_672 (M : pM) (s0 s1 : Int) (b0 : 0 ≤ s0 ∧ s0 ≤ 6) (b1 : 0 ≤ s1 ∧ s1 ≤ 6) (m0 : HP 162 (s0) (-1 : Int) M) (f0 : 0 ≤ ((-1) * s0 + s1)) (f1 : 0 ≤ (s0 + (-1) * s1)) (hG : gI M) : (HP 162 (s1) (-1 : Int) M ∧ True) := by
  have e : s0 = s1 := by omega
  subst e
  exact ⟨m0, trivial⟩
theorem rul_672 : Rul r_672 := by
  refine ⟨fun _ ρ M hm hB hF hG => ?_, fun gi gv hg => (by cases hg)⟩
  have H := cr_672 M (ρ 0) (ρ 1) (hB _ List.mem_cons_self) (hB _ (List.mem_cons_of_mem _ List.mem_cons_self)) (cvp 162 (x' := ((ρ 0))) (y' := (-1 : Int)) (by show 0 + (1 * ρ 0 + 0) = _; omega) (by show (-1) + 0 = _; omega) (hm _ List.mem_cons_self)) (by have h := hF _ List.mem_cons_self; have h : 0 ≤ 0 + ((-1) * ρ 0 + (1 * ρ 1 + 0)) := h; omega) (by have h := hF _ (List.mem_cons_of_mem _ List.mem_cons_self); have h : 0 ≤ 0 + (1 * ρ 0 + ((-1) * ρ 1 + 0)) := h; omega) hG
  obtain ⟨k0, -⟩ := H
  exact ⟨_, List.mem_cons_self, ρ, fun _ _ => rfl, (okM_c (pvp 162 (by show 0 + (1 * ρ 1 + 0) = _; omega) (by show (-1) + 0 = _; omega) k0) okM_n), okB_n, okF_n⟩
-- fj0_72_0
theorem cr_673 (M : pM)  (hG : gI M) : (HP 163 (0 : Int) (0 : Int) M ∧ True) := by
  exact ⟨Eq.mpr hp_163 ⟨by decide, fun i hi => by omega⟩, trivial⟩
theorem rul_673 : Rul r_673 := by
  refine ⟨fun _ ρ M hm hB hF hG => ?_, fun gi gv hg => (by cases hg)⟩
  have H := cr_673 M hG
  obtain ⟨k0, -⟩ := H
  exact ⟨_, List.mem_cons_self, ρ, fun _ _ => rfl, (okM_c (pvp 163 (by show 0 + 0 = _; omega) (by show 0 + 0 = _; omega) k0) okM_n), okB_n, okF_n⟩
-- fjw_72_0
theorem cr_674 (M : pM) (s0 : Int) (b0 : 0 ≤ s0 ∧ s0 ≤ 5) (m0 : HP 163 (s0) (0 : Int) M) (hG : gI M) : (HP 163 (s0 + 1) (0 : Int) (st M 72 (s0).toNat (0 : Int)) ∧ True) := by
  refine ⟨Eq.mpr hp_163 ⟨by omega, fun i hi => ?_⟩, trivial⟩
  rw [show (s0).toNat = 0 + s0.toNat by omega, cw]
  by_cases e : i = s0.toNat
  · rw [if_pos e]
  · rw [if_neg e]; exact (Eq.mp hp_163 m0).2 i (by omega)
theorem rul_674 : Rul r_674 := by
  refine ⟨fun h => (by cases h), fun gi gv hg ρ M hm hB hF hG => ?_⟩
  obtain ⟨g1, g2⟩ := List.cons.inj (show ([aI ((0 : Int), ([(0, 1)] : List (Nat × Int))), aI ((0 : Int), ([] : List (Nat × Int)))] : List av) = [.inl gi, .inl gv] from hg)
  obtain ⟨g2, -⟩ := List.cons.inj g2
  cases g1
  cases g2
  have ei : ev ρ ((0 : Int), ([(0, 1)] : List (Nat × Int))) = ((ρ 0)) := by show 0 + (1 * ρ 0 + 0) = _; omega
  have ew : ev ρ ((0 : Int), ([] : List (Nat × Int))) = (0 : Int) := by show 0 + 0 = _; omega
  rw [show (st M (ctj r_674) (ev ρ ((0 : Int), ([(0, 1)] : List (Nat × Int)))).toNat (ev ρ ((0 : Int), ([] : List (Nat × Int))))) = (st M 72 ((ρ 0)).toNat (0 : Int)) from by rw [ei, ew]; rfl]
  have H := cr_674 M (ρ 0) (hB _ List.mem_cons_self) (cvp 163 (x' := ((ρ 0))) (y' := (0 : Int)) (by show 0 + (1 * ρ 0 + 0) = _; omega) (by show 0 + 0 = _; omega) (hm _ List.mem_cons_self)) hG
  obtain ⟨k0, -⟩ := H
  exact ⟨_, List.mem_cons_self, ρ, fun _ _ => rfl, (okM_c (pvp 163 (by show 1 + (1 * ρ 0 + 0) = _; omega) (by show 0 + 0 = _; omega) k0) okM_n), okB_n, okF_n⟩
-- fjx_72_0
theorem cr_675 (M : pM) (s0 s1 : Int) (b0 : 0 ≤ s0 ∧ s0 ≤ 6) (b1 : 0 ≤ s1 ∧ s1 ≤ 6) (m0 : HP 163 (s0) (0 : Int) M) (f0 : 0 ≤ ((-1) * s0 + s1)) (f1 : 0 ≤ (s0 + (-1) * s1)) (hG : gI M) : (HP 163 (s1) (0 : Int) M ∧ True) := by
  have e : s0 = s1 := by omega
  subst e
  exact ⟨m0, trivial⟩
theorem rul_675 : Rul r_675 := by
  refine ⟨fun _ ρ M hm hB hF hG => ?_, fun gi gv hg => (by cases hg)⟩
  have H := cr_675 M (ρ 0) (ρ 1) (hB _ List.mem_cons_self) (hB _ (List.mem_cons_of_mem _ List.mem_cons_self)) (cvp 163 (x' := ((ρ 0))) (y' := (0 : Int)) (by show 0 + (1 * ρ 0 + 0) = _; omega) (by show 0 + 0 = _; omega) (hm _ List.mem_cons_self)) (by have h := hF _ List.mem_cons_self; have h : 0 ≤ 0 + ((-1) * ρ 0 + (1 * ρ 1 + 0)) := h; omega) (by have h := hF _ (List.mem_cons_of_mem _ List.mem_cons_self); have h : 0 ≤ 0 + (1 * ρ 0 + ((-1) * ρ 1 + 0)) := h; omega) hG
  obtain ⟨k0, -⟩ := H
  exact ⟨_, List.mem_cons_self, ρ, fun _ _ => rfl, (okM_c (pvp 163 (by show 0 + (1 * ρ 1 + 0) = _; omega) (by show 0 + 0 = _; omega) k0) okM_n), okB_n, okF_n⟩
-- fj0_73_0
theorem cr_676 (M : pM)  (hG : gI M) : (HP 164 (0 : Int) (-1 : Int) M ∧ True) := by
  exact ⟨Eq.mpr hp_164 ⟨by decide, fun i hi => by omega⟩, trivial⟩
theorem rul_676 : Rul r_676 := by
  refine ⟨fun _ ρ M hm hB hF hG => ?_, fun gi gv hg => (by cases hg)⟩
  have H := cr_676 M hG
  obtain ⟨k0, -⟩ := H
  exact ⟨_, List.mem_cons_self, ρ, fun _ _ => rfl, (okM_c (pvp 164 (by show 0 + 0 = _; omega) (by show (-1) + 0 = _; omega) k0) okM_n), okB_n, okF_n⟩
-- fjw_73_0
theorem cr_677 (M : pM) (s0 : Int) (b0 : 0 ≤ s0 ∧ s0 ≤ 5) (m0 : HP 164 (s0) (-1 : Int) M) (hG : gI M) : (HP 164 (s0 + 1) (-1 : Int) (st M 73 (s0).toNat (-1 : Int)) ∧ True) := by
  refine ⟨Eq.mpr hp_164 ⟨by omega, fun i hi => ?_⟩, trivial⟩
  rw [show (s0).toNat = 0 + s0.toNat by omega, cw]
  by_cases e : i = s0.toNat
  · rw [if_pos e]
  · rw [if_neg e]; exact (Eq.mp hp_164 m0).2 i (by omega)
theorem rul_677 : Rul r_677 := by
  refine ⟨fun h => (by cases h), fun gi gv hg ρ M hm hB hF hG => ?_⟩
  obtain ⟨g1, g2⟩ := List.cons.inj (show ([aI ((0 : Int), ([(0, 1)] : List (Nat × Int))), aI (((-1) : Int), ([] : List (Nat × Int)))] : List av) = [.inl gi, .inl gv] from hg)
  obtain ⟨g2, -⟩ := List.cons.inj g2
  cases g1
  cases g2
  have ei : ev ρ ((0 : Int), ([(0, 1)] : List (Nat × Int))) = ((ρ 0)) := by show 0 + (1 * ρ 0 + 0) = _; omega
  have ew : ev ρ (((-1) : Int), ([] : List (Nat × Int))) = (-1 : Int) := by show (-1) + 0 = _; omega
  rw [show (st M (ctj r_677) (ev ρ ((0 : Int), ([(0, 1)] : List (Nat × Int)))).toNat (ev ρ (((-1) : Int), ([] : List (Nat × Int))))) = (st M 73 ((ρ 0)).toNat (-1 : Int)) from by rw [ei, ew]; rfl]
  have H := cr_677 M (ρ 0) (hB _ List.mem_cons_self) (cvp 164 (x' := ((ρ 0))) (y' := (-1 : Int)) (by show 0 + (1 * ρ 0 + 0) = _; omega) (by show (-1) + 0 = _; omega) (hm _ List.mem_cons_self)) hG
  obtain ⟨k0, -⟩ := H
  exact ⟨_, List.mem_cons_self, ρ, fun _ _ => rfl, (okM_c (pvp 164 (by show 1 + (1 * ρ 0 + 0) = _; omega) (by show (-1) + 0 = _; omega) k0) okM_n), okB_n, okF_n⟩
-- fjx_73_0
theorem cr_678 (M : pM) (s0 s1 : Int) (b0 : 0 ≤ s0 ∧ s0 ≤ 6) (b1 : 0 ≤ s1 ∧ s1 ≤ 6) (m0 : HP 164 (s0) (-1 : Int) M) (f0 : 0 ≤ ((-1) * s0 + s1)) (f1 : 0 ≤ (s0 + (-1) * s1)) (hG : gI M) : (HP 164 (s1) (-1 : Int) M ∧ True) := by
  have e : s0 = s1 := by omega
  subst e
  exact ⟨m0, trivial⟩
theorem rul_678 : Rul r_678 := by
  refine ⟨fun _ ρ M hm hB hF hG => ?_, fun gi gv hg => (by cases hg)⟩
  have H := cr_678 M (ρ 0) (ρ 1) (hB _ List.mem_cons_self) (hB _ (List.mem_cons_of_mem _ List.mem_cons_self)) (cvp 164 (x' := ((ρ 0))) (y' := (-1 : Int)) (by show 0 + (1 * ρ 0 + 0) = _; omega) (by show (-1) + 0 = _; omega) (hm _ List.mem_cons_self)) (by have h := hF _ List.mem_cons_self; have h : 0 ≤ 0 + ((-1) * ρ 0 + (1 * ρ 1 + 0)) := h; omega) (by have h := hF _ (List.mem_cons_of_mem _ List.mem_cons_self); have h : 0 ≤ 0 + (1 * ρ 0 + ((-1) * ρ 1 + 0)) := h; omega) hG
  obtain ⟨k0, -⟩ := H
  exact ⟨_, List.mem_cons_self, ρ, fun _ _ => rfl, (okM_c (pvp 164 (by show 0 + (1 * ρ 1 + 0) = _; omega) (by show (-1) + 0 = _; omega) k0) okM_n), okB_n, okF_n⟩
-- fj0_86_0
theorem cr_679 (M : pM)  (hG : gI M) : (HP 165 (0 : Int) (0 : Int) M ∧ True) := by
  exact ⟨Eq.mpr hp_165 ⟨by decide, fun i hi => by omega⟩, trivial⟩
theorem rul_679 : Rul r_679 := by
  refine ⟨fun _ ρ M hm hB hF hG => ?_, fun gi gv hg => (by cases hg)⟩
  have H := cr_679 M hG
  obtain ⟨k0, -⟩ := H
  exact ⟨_, List.mem_cons_self, ρ, fun _ _ => rfl, (okM_c (pvp 165 (by show 0 + 0 = _; omega) (by show 0 + 0 = _; omega) k0) okM_n), okB_n, okF_n⟩
-- fjw_86_0
theorem cr_680 (M : pM) (s0 : Int) (b0 : 0 ≤ s0 ∧ s0 ≤ 63) (m0 : HP 165 (s0) (0 : Int) M) (hG : gI M) : (HP 165 (s0 + 1) (0 : Int) (st M 86 (s0).toNat (0 : Int)) ∧ True) := by
  refine ⟨Eq.mpr hp_165 ⟨by omega, fun i hi => ?_⟩, trivial⟩
  rw [show (s0).toNat = 0 + s0.toNat by omega, cw]
  by_cases e : i = s0.toNat
  · rw [if_pos e]
  · rw [if_neg e]; exact (Eq.mp hp_165 m0).2 i (by omega)
theorem rul_680 : Rul r_680 := by
  refine ⟨fun h => (by cases h), fun gi gv hg ρ M hm hB hF hG => ?_⟩
  obtain ⟨g1, g2⟩ := List.cons.inj (show ([aI ((0 : Int), ([(0, 1)] : List (Nat × Int))), aI ((0 : Int), ([] : List (Nat × Int)))] : List av) = [.inl gi, .inl gv] from hg)
  obtain ⟨g2, -⟩ := List.cons.inj g2
  cases g1
  cases g2
  have ei : ev ρ ((0 : Int), ([(0, 1)] : List (Nat × Int))) = ((ρ 0)) := by show 0 + (1 * ρ 0 + 0) = _; omega
  have ew : ev ρ ((0 : Int), ([] : List (Nat × Int))) = (0 : Int) := by show 0 + 0 = _; omega
  rw [show (st M (ctj r_680) (ev ρ ((0 : Int), ([(0, 1)] : List (Nat × Int)))).toNat (ev ρ ((0 : Int), ([] : List (Nat × Int))))) = (st M 86 ((ρ 0)).toNat (0 : Int)) from by rw [ei, ew]; rfl]
  have H := cr_680 M (ρ 0) (hB _ List.mem_cons_self) (cvp 165 (x' := ((ρ 0))) (y' := (0 : Int)) (by show 0 + (1 * ρ 0 + 0) = _; omega) (by show 0 + 0 = _; omega) (hm _ List.mem_cons_self)) hG
  obtain ⟨k0, -⟩ := H
  exact ⟨_, List.mem_cons_self, ρ, fun _ _ => rfl, (okM_c (pvp 165 (by show 1 + (1 * ρ 0 + 0) = _; omega) (by show 0 + 0 = _; omega) k0) okM_n), okB_n, okF_n⟩
-- fjx_86_0
theorem cr_681 (M : pM) (s0 s1 : Int) (b0 : 0 ≤ s0 ∧ s0 ≤ 64) (b1 : 0 ≤ s1 ∧ s1 ≤ 64) (m0 : HP 165 (s0) (0 : Int) M) (f0 : 0 ≤ ((-1) * s0 + s1)) (f1 : 0 ≤ (s0 + (-1) * s1)) (hG : gI M) : (HP 165 (s1) (0 : Int) M ∧ True) := by
  have e : s0 = s1 := by omega
  subst e
  exact ⟨m0, trivial⟩
theorem rul_681 : Rul r_681 := by
  refine ⟨fun _ ρ M hm hB hF hG => ?_, fun gi gv hg => (by cases hg)⟩
  have H := cr_681 M (ρ 0) (ρ 1) (hB _ List.mem_cons_self) (hB _ (List.mem_cons_of_mem _ List.mem_cons_self)) (cvp 165 (x' := ((ρ 0))) (y' := (0 : Int)) (by show 0 + (1 * ρ 0 + 0) = _; omega) (by show 0 + 0 = _; omega) (hm _ List.mem_cons_self)) (by have h := hF _ List.mem_cons_self; have h : 0 ≤ 0 + ((-1) * ρ 0 + (1 * ρ 1 + 0)) := h; omega) (by have h := hF _ (List.mem_cons_of_mem _ List.mem_cons_self); have h : 0 ≤ 0 + (1 * ρ 0 + ((-1) * ρ 1 + 0)) := h; omega) hG
  obtain ⟨k0, -⟩ := H
  exact ⟨_, List.mem_cons_self, ρ, fun _ _ => rfl, (okM_c (pvp 165 (by show 0 + (1 * ρ 1 + 0) = _; omega) (by show 0 + 0 = _; omega) k0) okM_n), okB_n, okF_n⟩
-- fj0_84_0
theorem cr_682 (M : pM)  (hG : gI M) : (HP 166 (0 : Int) (0 : Int) M ∧ True) := by
  exact ⟨Eq.mpr hp_166 ⟨by decide, fun i hi => by omega⟩, trivial⟩
theorem rul_682 : Rul r_682 := by
  refine ⟨fun _ ρ M hm hB hF hG => ?_, fun gi gv hg => (by cases hg)⟩
  have H := cr_682 M hG
  obtain ⟨k0, -⟩ := H
  exact ⟨_, List.mem_cons_self, ρ, fun _ _ => rfl, (okM_c (pvp 166 (by show 0 + 0 = _; omega) (by show 0 + 0 = _; omega) k0) okM_n), okB_n, okF_n⟩
-- fjw_84_0
theorem cr_683 (M : pM) (s0 : Int) (b0 : 0 ≤ s0 ∧ s0 ≤ 7) (m0 : HP 166 (s0) (0 : Int) M) (hG : gI M) : (HP 166 (s0 + 1) (0 : Int) (st M 84 (s0).toNat (0 : Int)) ∧ True) := by
  refine ⟨Eq.mpr hp_166 ⟨by omega, fun i hi => ?_⟩, trivial⟩
  rw [show (s0).toNat = 0 + s0.toNat by omega, cw]
  by_cases e : i = s0.toNat
  · rw [if_pos e]
  · rw [if_neg e]; exact (Eq.mp hp_166 m0).2 i (by omega)
theorem rul_683 : Rul r_683 := by
  refine ⟨fun h => (by cases h), fun gi gv hg ρ M hm hB hF hG => ?_⟩
  obtain ⟨g1, g2⟩ := List.cons.inj (show ([aI ((0 : Int), ([(0, 1)] : List (Nat × Int))), aI ((0 : Int), ([] : List (Nat × Int)))] : List av) = [.inl gi, .inl gv] from hg)
  obtain ⟨g2, -⟩ := List.cons.inj g2
  cases g1
  cases g2
  have ei : ev ρ ((0 : Int), ([(0, 1)] : List (Nat × Int))) = ((ρ 0)) := by show 0 + (1 * ρ 0 + 0) = _; omega
  have ew : ev ρ ((0 : Int), ([] : List (Nat × Int))) = (0 : Int) := by show 0 + 0 = _; omega
  rw [show (st M (ctj r_683) (ev ρ ((0 : Int), ([(0, 1)] : List (Nat × Int)))).toNat (ev ρ ((0 : Int), ([] : List (Nat × Int))))) = (st M 84 ((ρ 0)).toNat (0 : Int)) from by rw [ei, ew]; rfl]
  have H := cr_683 M (ρ 0) (hB _ List.mem_cons_self) (cvp 166 (x' := ((ρ 0))) (y' := (0 : Int)) (by show 0 + (1 * ρ 0 + 0) = _; omega) (by show 0 + 0 = _; omega) (hm _ List.mem_cons_self)) hG
  obtain ⟨k0, -⟩ := H
  exact ⟨_, List.mem_cons_self, ρ, fun _ _ => rfl, (okM_c (pvp 166 (by show 1 + (1 * ρ 0 + 0) = _; omega) (by show 0 + 0 = _; omega) k0) okM_n), okB_n, okF_n⟩
-- fjx_84_0
theorem cr_684 (M : pM) (s0 s1 : Int) (b0 : 0 ≤ s0 ∧ s0 ≤ 8) (b1 : 0 ≤ s1 ∧ s1 ≤ 8) (m0 : HP 166 (s0) (0 : Int) M) (f0 : 0 ≤ ((-1) * s0 + s1)) (f1 : 0 ≤ (s0 + (-1) * s1)) (hG : gI M) : (HP 166 (s1) (0 : Int) M ∧ True) := by
  have e : s0 = s1 := by omega
  subst e
  exact ⟨m0, trivial⟩
theorem rul_684 : Rul r_684 := by
  refine ⟨fun _ ρ M hm hB hF hG => ?_, fun gi gv hg => (by cases hg)⟩
  have H := cr_684 M (ρ 0) (ρ 1) (hB _ List.mem_cons_self) (hB _ (List.mem_cons_of_mem _ List.mem_cons_self)) (cvp 166 (x' := ((ρ 0))) (y' := (0 : Int)) (by show 0 + (1 * ρ 0 + 0) = _; omega) (by show 0 + 0 = _; omega) (hm _ List.mem_cons_self)) (by have h := hF _ List.mem_cons_self; have h : 0 ≤ 0 + ((-1) * ρ 0 + (1 * ρ 1 + 0)) := h; omega) (by have h := hF _ (List.mem_cons_of_mem _ List.mem_cons_self); have h : 0 ≤ 0 + (1 * ρ 0 + ((-1) * ρ 1 + 0)) := h; omega) hG
  obtain ⟨k0, -⟩ := H
  exact ⟨_, List.mem_cons_self, ρ, fun _ _ => rfl, (okM_c (pvp 166 (by show 0 + (1 * ρ 1 + 0) = _; omega) (by show 0 + 0 = _; omega) k0) okM_n), okB_n, okF_n⟩
-- fj0_85_0
theorem cr_685 (M : pM)  (hG : gI M) : (HP 167 (0 : Int) (0 : Int) M ∧ True) := by
  exact ⟨Eq.mpr hp_167 ⟨by decide, fun i hi => by omega⟩, trivial⟩
theorem rul_685 : Rul r_685 := by
  refine ⟨fun _ ρ M hm hB hF hG => ?_, fun gi gv hg => (by cases hg)⟩
  have H := cr_685 M hG
  obtain ⟨k0, -⟩ := H
  exact ⟨_, List.mem_cons_self, ρ, fun _ _ => rfl, (okM_c (pvp 167 (by show 0 + 0 = _; omega) (by show 0 + 0 = _; omega) k0) okM_n), okB_n, okF_n⟩
-- fjw_85_0
theorem cr_686 (M : pM) (s0 : Int) (b0 : 0 ≤ s0 ∧ s0 ≤ 7) (m0 : HP 167 (s0) (0 : Int) M) (hG : gI M) : (HP 167 (s0 + 1) (0 : Int) (st M 85 (s0).toNat (0 : Int)) ∧ True) := by
  refine ⟨Eq.mpr hp_167 ⟨by omega, fun i hi => ?_⟩, trivial⟩
  rw [show (s0).toNat = 0 + s0.toNat by omega, cw]
  by_cases e : i = s0.toNat
  · rw [if_pos e]
  · rw [if_neg e]; exact (Eq.mp hp_167 m0).2 i (by omega)
theorem rul_686 : Rul r_686 := by
  refine ⟨fun h => (by cases h), fun gi gv hg ρ M hm hB hF hG => ?_⟩
  obtain ⟨g1, g2⟩ := List.cons.inj (show ([aI ((0 : Int), ([(0, 1)] : List (Nat × Int))), aI ((0 : Int), ([] : List (Nat × Int)))] : List av) = [.inl gi, .inl gv] from hg)
  obtain ⟨g2, -⟩ := List.cons.inj g2
  cases g1
  cases g2
  have ei : ev ρ ((0 : Int), ([(0, 1)] : List (Nat × Int))) = ((ρ 0)) := by show 0 + (1 * ρ 0 + 0) = _; omega
  have ew : ev ρ ((0 : Int), ([] : List (Nat × Int))) = (0 : Int) := by show 0 + 0 = _; omega
  rw [show (st M (ctj r_686) (ev ρ ((0 : Int), ([(0, 1)] : List (Nat × Int)))).toNat (ev ρ ((0 : Int), ([] : List (Nat × Int))))) = (st M 85 ((ρ 0)).toNat (0 : Int)) from by rw [ei, ew]; rfl]
  have H := cr_686 M (ρ 0) (hB _ List.mem_cons_self) (cvp 167 (x' := ((ρ 0))) (y' := (0 : Int)) (by show 0 + (1 * ρ 0 + 0) = _; omega) (by show 0 + 0 = _; omega) (hm _ List.mem_cons_self)) hG
  obtain ⟨k0, -⟩ := H
  exact ⟨_, List.mem_cons_self, ρ, fun _ _ => rfl, (okM_c (pvp 167 (by show 1 + (1 * ρ 0 + 0) = _; omega) (by show 0 + 0 = _; omega) k0) okM_n), okB_n, okF_n⟩
-- fjx_85_0
theorem cr_687 (M : pM) (s0 s1 : Int) (b0 : 0 ≤ s0 ∧ s0 ≤ 8) (b1 : 0 ≤ s1 ∧ s1 ≤ 8) (m0 : HP 167 (s0) (0 : Int) M) (f0 : 0 ≤ ((-1) * s0 + s1)) (f1 : 0 ≤ (s0 + (-1) * s1)) (hG : gI M) : (HP 167 (s1) (0 : Int) M ∧ True) := by
  have e : s0 = s1 := by omega
  subst e
  exact ⟨m0, trivial⟩
theorem rul_687 : Rul r_687 := by
  refine ⟨fun _ ρ M hm hB hF hG => ?_, fun gi gv hg => (by cases hg)⟩
  have H := cr_687 M (ρ 0) (ρ 1) (hB _ List.mem_cons_self) (hB _ (List.mem_cons_of_mem _ List.mem_cons_self)) (cvp 167 (x' := ((ρ 0))) (y' := (0 : Int)) (by show 0 + (1 * ρ 0 + 0) = _; omega) (by show 0 + 0 = _; omega) (hm _ List.mem_cons_self)) (by have h := hF _ List.mem_cons_self; have h : 0 ≤ 0 + ((-1) * ρ 0 + (1 * ρ 1 + 0)) := h; omega) (by have h := hF _ (List.mem_cons_of_mem _ List.mem_cons_self); have h : 0 ≤ 0 + (1 * ρ 0 + ((-1) * ρ 1 + 0)) := h; omega) hG
  obtain ⟨k0, -⟩ := H
  exact ⟨_, List.mem_cons_self, ρ, fun _ _ => rfl, (okM_c (pvp 167 (by show 0 + (1 * ρ 1 + 0) = _; omega) (by show 0 + 0 = _; omega) k0) okM_n), okB_n, okF_n⟩
-- ra0_0
theorem cr_688 (M : pM) (m0 : HP 160 (64 : Int) (0 : Int) M) (m1 : HP 161 (48 : Int) (0 : Int) M) (m2 : HP 162 (6 : Int) (-1 : Int) M) (m3 : HP 163 (6 : Int) (0 : Int) M) (m4 : HP 164 (6 : Int) (-1 : Int) M) (m5 : HP 165 (64 : Int) (0 : Int) M) (m6 : HP 166 (8 : Int) (0 : Int) M) (m7 : HP 167 (8 : Int) (0 : Int) M) (hG : gI M) : (HP 60 (0 : Int) (0 : Int) M ∧ True) := by
  have q0 : qat (tm M) 0 (0, qA0) := ⟨0, by decide, by decide, rfl⟩
  refine ⟨Eq.mpr hp_60 ⟨(0, qA0), q0, ⟨by decide, by decide, by decide, by decide⟩, ?_⟩, trivial⟩
  refine ⟨fun i hi => by have h := (Eq.mp hp_160 m0).2 i (by omega); exact h, fun i hi => by have h := (Eq.mp hp_161 m1).2 i (by omega); exact h, fun i hi => by have h := (Eq.mp hp_162 m2).2 i (by omega); exact h, fun i hi => by have h := (Eq.mp hp_163 m3).2 i (by omega); exact h, fun i hi => by have h := (Eq.mp hp_164 m4).2 i (by omega); exact h, fun i hi hw => ?_, fun i hi hw => ?_, fun i j hi hj hw => ?_, fun i hi hw => ?_, fun i hi hw => ?_, fun i hi => by have h := (Eq.mp hp_166 m6).2 i (by omega); rw [Nat.zero_add] at h; exact h, fun i hi => by have h := (Eq.mp hp_167 m7).2 i (by omega); rw [Nat.zero_add] at h; exact h, fun i hi => by have h := (Eq.mp hp_165 m5).2 i (by omega); exact h⟩
  all_goals (have hw : (i : Int) < 0 := hw; omega)
theorem rul_688 : Rul r_688 := by
  refine ⟨fun _ ρ M hm hB hF hG => ?_, fun gi gv hg => (by cases hg)⟩
  have H := cr_688 M (cvp 160 (x' := (64 : Int)) (y' := (0 : Int)) (by show 64 + 0 = _; omega) (by show 0 + 0 = _; omega) (hm _ List.mem_cons_self)) (cvp 161 (x' := (48 : Int)) (y' := (0 : Int)) (by show 48 + 0 = _; omega) (by show 0 + 0 = _; omega) (hm _ (List.mem_cons_of_mem _ List.mem_cons_self))) (cvp 162 (x' := (6 : Int)) (y' := (-1 : Int)) (by show 6 + 0 = _; omega) (by show (-1) + 0 = _; omega) (hm _ (List.mem_cons_of_mem _ (List.mem_cons_of_mem _ List.mem_cons_self)))) (cvp 163 (x' := (6 : Int)) (y' := (0 : Int)) (by show 6 + 0 = _; omega) (by show 0 + 0 = _; omega) (hm _ (List.mem_cons_of_mem _ (List.mem_cons_of_mem _ (List.mem_cons_of_mem _ List.mem_cons_self))))) (cvp 164 (x' := (6 : Int)) (y' := (-1 : Int)) (by show 6 + 0 = _; omega) (by show (-1) + 0 = _; omega) (hm _ (List.mem_cons_of_mem _ (List.mem_cons_of_mem _ (List.mem_cons_of_mem _ (List.mem_cons_of_mem _ List.mem_cons_self)))))) (cvp 165 (x' := (64 : Int)) (y' := (0 : Int)) (by show 64 + 0 = _; omega) (by show 0 + 0 = _; omega) (hm _ (List.mem_cons_of_mem _ (List.mem_cons_of_mem _ (List.mem_cons_of_mem _ (List.mem_cons_of_mem _ (List.mem_cons_of_mem _ List.mem_cons_self))))))) (cvp 166 (x' := (8 : Int)) (y' := (0 : Int)) (by show 8 + 0 = _; omega) (by show 0 + 0 = _; omega) (hm _ (List.mem_cons_of_mem _ (List.mem_cons_of_mem _ (List.mem_cons_of_mem _ (List.mem_cons_of_mem _ (List.mem_cons_of_mem _ (List.mem_cons_of_mem _ List.mem_cons_self)))))))) (cvp 167 (x' := (8 : Int)) (y' := (0 : Int)) (by show 8 + 0 = _; omega) (by show 0 + 0 = _; omega) (hm _ (List.mem_cons_of_mem _ (List.mem_cons_of_mem _ (List.mem_cons_of_mem _ (List.mem_cons_of_mem _ (List.mem_cons_of_mem _ (List.mem_cons_of_mem _ (List.mem_cons_of_mem _ List.mem_cons_self))))))))) hG
  obtain ⟨k0, -⟩ := H
  exact ⟨_, List.mem_cons_self, ρ, fun _ _ => rfl, (okM_c (pvp 60 (by show 0 + 0 = _; omega) (by show 0 + 0 = _; omega) k0) okM_n), okB_n, okF_n⟩
-- fj0_69_1
theorem cr_689 (M : pM)  (hG : gI M) : (HP 170 (0 : Int) (0 : Int) M ∧ True) := by
  exact ⟨Eq.mpr hp_170 ⟨by decide, fun i hi => by omega⟩, trivial⟩
theorem rul_689 : Rul r_689 := by
  refine ⟨fun _ ρ M hm hB hF hG => ?_, fun gi gv hg => (by cases hg)⟩
  have H := cr_689 M hG
  obtain ⟨k0, -⟩ := H
  exact ⟨_, List.mem_cons_self, ρ, fun _ _ => rfl, (okM_c (pvp 170 (by show 0 + 0 = _; omega) (by show 0 + 0 = _; omega) k0) okM_n), okB_n, okF_n⟩
-- fjw_69_1
theorem cr_690 (M : pM) (s0 : Int) (b0 : 0 ≤ s0 ∧ s0 ≤ 63) (m0 : HP 170 (s0) (0 : Int) M) (hG : gI M) : (HP 170 (s0 + 1) (0 : Int) (st M 69 (s0 + 64).toNat (0 : Int)) ∧ True) := by
  refine ⟨Eq.mpr hp_170 ⟨by omega, fun i hi => ?_⟩, trivial⟩
  rw [show (s0 + 64).toNat = 64 + s0.toNat by omega, cw]
  by_cases e : i = s0.toNat
  · rw [if_pos e]
  · rw [if_neg e]; exact (Eq.mp hp_170 m0).2 i (by omega)
theorem rul_690 : Rul r_690 := by
  refine ⟨fun h => (by cases h), fun gi gv hg ρ M hm hB hF hG => ?_⟩
  obtain ⟨g1, g2⟩ := List.cons.inj (show ([aI ((64 : Int), ([(0, 1)] : List (Nat × Int))), aI ((0 : Int), ([] : List (Nat × Int)))] : List av) = [.inl gi, .inl gv] from hg)
  obtain ⟨g2, -⟩ := List.cons.inj g2
  cases g1
  cases g2
  have ei : ev ρ ((64 : Int), ([(0, 1)] : List (Nat × Int))) = ((ρ 0) + 64) := by show 64 + (1 * ρ 0 + 0) = _; omega
  have ew : ev ρ ((0 : Int), ([] : List (Nat × Int))) = (0 : Int) := by show 0 + 0 = _; omega
  rw [show (st M (ctj r_690) (ev ρ ((64 : Int), ([(0, 1)] : List (Nat × Int)))).toNat (ev ρ ((0 : Int), ([] : List (Nat × Int))))) = (st M 69 ((ρ 0) + 64).toNat (0 : Int)) from by rw [ei, ew]; rfl]
  have H := cr_690 M (ρ 0) (hB _ List.mem_cons_self) (cvp 170 (x' := ((ρ 0))) (y' := (0 : Int)) (by show 0 + (1 * ρ 0 + 0) = _; omega) (by show 0 + 0 = _; omega) (hm _ List.mem_cons_self)) hG
  obtain ⟨k0, -⟩ := H
  exact ⟨_, List.mem_cons_self, ρ, fun _ _ => rfl, (okM_c (pvp 170 (by show 1 + (1 * ρ 0 + 0) = _; omega) (by show 0 + 0 = _; omega) k0) okM_n), okB_n, okF_n⟩
-- fjx_69_1
theorem cr_691 (M : pM) (s0 s1 : Int) (b0 : 0 ≤ s0 ∧ s0 ≤ 64) (b1 : 0 ≤ s1 ∧ s1 ≤ 64) (m0 : HP 170 (s0) (0 : Int) M) (f0 : 0 ≤ ((-1) * s0 + s1)) (f1 : 0 ≤ (s0 + (-1) * s1)) (hG : gI M) : (HP 170 (s1) (0 : Int) M ∧ True) := by
  have e : s0 = s1 := by omega
  subst e
  exact ⟨m0, trivial⟩
theorem rul_691 : Rul r_691 := by
  refine ⟨fun _ ρ M hm hB hF hG => ?_, fun gi gv hg => (by cases hg)⟩
  have H := cr_691 M (ρ 0) (ρ 1) (hB _ List.mem_cons_self) (hB _ (List.mem_cons_of_mem _ List.mem_cons_self)) (cvp 170 (x' := ((ρ 0))) (y' := (0 : Int)) (by show 0 + (1 * ρ 0 + 0) = _; omega) (by show 0 + 0 = _; omega) (hm _ List.mem_cons_self)) (by have h := hF _ List.mem_cons_self; have h : 0 ≤ 0 + ((-1) * ρ 0 + (1 * ρ 1 + 0)) := h; omega) (by have h := hF _ (List.mem_cons_of_mem _ List.mem_cons_self); have h : 0 ≤ 0 + (1 * ρ 0 + ((-1) * ρ 1 + 0)) := h; omega) hG
  obtain ⟨k0, -⟩ := H
  exact ⟨_, List.mem_cons_self, ρ, fun _ _ => rfl, (okM_c (pvp 170 (by show 0 + (1 * ρ 1 + 0) = _; omega) (by show 0 + 0 = _; omega) k0) okM_n), okB_n, okF_n⟩
-- fj0_70_1
theorem cr_692 (M : pM)  (hG : gI M) : (HP 171 (0 : Int) (0 : Int) M ∧ True) := by
  exact ⟨Eq.mpr hp_171 ⟨by decide, fun i hi => by omega⟩, trivial⟩
theorem rul_692 : Rul r_692 := by
  refine ⟨fun _ ρ M hm hB hF hG => ?_, fun gi gv hg => (by cases hg)⟩
  have H := cr_692 M hG
  obtain ⟨k0, -⟩ := H
  exact ⟨_, List.mem_cons_self, ρ, fun _ _ => rfl, (okM_c (pvp 171 (by show 0 + 0 = _; omega) (by show 0 + 0 = _; omega) k0) okM_n), okB_n, okF_n⟩
-- fjw_70_1
theorem cr_693 (M : pM) (s0 : Int) (b0 : 0 ≤ s0 ∧ s0 ≤ 47) (m0 : HP 171 (s0) (0 : Int) M) (hG : gI M) : (HP 171 (s0 + 1) (0 : Int) (st M 70 (s0 + 48).toNat (0 : Int)) ∧ True) := by
  refine ⟨Eq.mpr hp_171 ⟨by omega, fun i hi => ?_⟩, trivial⟩
  rw [show (s0 + 48).toNat = 48 + s0.toNat by omega, cw]
  by_cases e : i = s0.toNat
  · rw [if_pos e]
  · rw [if_neg e]; exact (Eq.mp hp_171 m0).2 i (by omega)
theorem rul_693 : Rul r_693 := by
  refine ⟨fun h => (by cases h), fun gi gv hg ρ M hm hB hF hG => ?_⟩
  obtain ⟨g1, g2⟩ := List.cons.inj (show ([aI ((48 : Int), ([(0, 1)] : List (Nat × Int))), aI ((0 : Int), ([] : List (Nat × Int)))] : List av) = [.inl gi, .inl gv] from hg)
  obtain ⟨g2, -⟩ := List.cons.inj g2
  cases g1
  cases g2
  have ei : ev ρ ((48 : Int), ([(0, 1)] : List (Nat × Int))) = ((ρ 0) + 48) := by show 48 + (1 * ρ 0 + 0) = _; omega
  have ew : ev ρ ((0 : Int), ([] : List (Nat × Int))) = (0 : Int) := by show 0 + 0 = _; omega
  rw [show (st M (ctj r_693) (ev ρ ((48 : Int), ([(0, 1)] : List (Nat × Int)))).toNat (ev ρ ((0 : Int), ([] : List (Nat × Int))))) = (st M 70 ((ρ 0) + 48).toNat (0 : Int)) from by rw [ei, ew]; rfl]
  have H := cr_693 M (ρ 0) (hB _ List.mem_cons_self) (cvp 171 (x' := ((ρ 0))) (y' := (0 : Int)) (by show 0 + (1 * ρ 0 + 0) = _; omega) (by show 0 + 0 = _; omega) (hm _ List.mem_cons_self)) hG
  obtain ⟨k0, -⟩ := H
  exact ⟨_, List.mem_cons_self, ρ, fun _ _ => rfl, (okM_c (pvp 171 (by show 1 + (1 * ρ 0 + 0) = _; omega) (by show 0 + 0 = _; omega) k0) okM_n), okB_n, okF_n⟩
-- fjx_70_1
theorem cr_694 (M : pM) (s0 s1 : Int) (b0 : 0 ≤ s0 ∧ s0 ≤ 48) (b1 : 0 ≤ s1 ∧ s1 ≤ 48) (m0 : HP 171 (s0) (0 : Int) M) (f0 : 0 ≤ ((-1) * s0 + s1)) (f1 : 0 ≤ (s0 + (-1) * s1)) (hG : gI M) : (HP 171 (s1) (0 : Int) M ∧ True) := by
  have e : s0 = s1 := by omega
  subst e
  exact ⟨m0, trivial⟩
theorem rul_694 : Rul r_694 := by
  refine ⟨fun _ ρ M hm hB hF hG => ?_, fun gi gv hg => (by cases hg)⟩
  have H := cr_694 M (ρ 0) (ρ 1) (hB _ List.mem_cons_self) (hB _ (List.mem_cons_of_mem _ List.mem_cons_self)) (cvp 171 (x' := ((ρ 0))) (y' := (0 : Int)) (by show 0 + (1 * ρ 0 + 0) = _; omega) (by show 0 + 0 = _; omega) (hm _ List.mem_cons_self)) (by have h := hF _ List.mem_cons_self; have h : 0 ≤ 0 + ((-1) * ρ 0 + (1 * ρ 1 + 0)) := h; omega) (by have h := hF _ (List.mem_cons_of_mem _ List.mem_cons_self); have h : 0 ≤ 0 + (1 * ρ 0 + ((-1) * ρ 1 + 0)) := h; omega) hG
  obtain ⟨k0, -⟩ := H
  exact ⟨_, List.mem_cons_self, ρ, fun _ _ => rfl, (okM_c (pvp 171 (by show 0 + (1 * ρ 1 + 0) = _; omega) (by show 0 + 0 = _; omega) k0) okM_n), okB_n, okF_n⟩
-- fj0_71_1
theorem cr_695 (M : pM)  (hG : gI M) : (HP 172 (0 : Int) (-1 : Int) M ∧ True) := by
  exact ⟨Eq.mpr hp_172 ⟨by decide, fun i hi => by omega⟩, trivial⟩
theorem rul_695 : Rul r_695 := by
  refine ⟨fun _ ρ M hm hB hF hG => ?_, fun gi gv hg => (by cases hg)⟩
  have H := cr_695 M hG
  obtain ⟨k0, -⟩ := H
  exact ⟨_, List.mem_cons_self, ρ, fun _ _ => rfl, (okM_c (pvp 172 (by show 0 + 0 = _; omega) (by show (-1) + 0 = _; omega) k0) okM_n), okB_n, okF_n⟩
-- fjw_71_1
theorem cr_696 (M : pM) (s0 : Int) (b0 : 0 ≤ s0 ∧ s0 ≤ 5) (m0 : HP 172 (s0) (-1 : Int) M) (hG : gI M) : (HP 172 (s0 + 1) (-1 : Int) (st M 71 (s0 + 6).toNat (-1 : Int)) ∧ True) := by
  refine ⟨Eq.mpr hp_172 ⟨by omega, fun i hi => ?_⟩, trivial⟩
  rw [show (s0 + 6).toNat = 6 + s0.toNat by omega, cw]
  by_cases e : i = s0.toNat
  · rw [if_pos e]
  · rw [if_neg e]; exact (Eq.mp hp_172 m0).2 i (by omega)
theorem rul_696 : Rul r_696 := by
  refine ⟨fun h => (by cases h), fun gi gv hg ρ M hm hB hF hG => ?_⟩
  obtain ⟨g1, g2⟩ := List.cons.inj (show ([aI ((6 : Int), ([(0, 1)] : List (Nat × Int))), aI (((-1) : Int), ([] : List (Nat × Int)))] : List av) = [.inl gi, .inl gv] from hg)
  obtain ⟨g2, -⟩ := List.cons.inj g2
  cases g1
  cases g2
  have ei : ev ρ ((6 : Int), ([(0, 1)] : List (Nat × Int))) = ((ρ 0) + 6) := by show 6 + (1 * ρ 0 + 0) = _; omega
  have ew : ev ρ (((-1) : Int), ([] : List (Nat × Int))) = (-1 : Int) := by show (-1) + 0 = _; omega
  rw [show (st M (ctj r_696) (ev ρ ((6 : Int), ([(0, 1)] : List (Nat × Int)))).toNat (ev ρ (((-1) : Int), ([] : List (Nat × Int))))) = (st M 71 ((ρ 0) + 6).toNat (-1 : Int)) from by rw [ei, ew]; rfl]
  have H := cr_696 M (ρ 0) (hB _ List.mem_cons_self) (cvp 172 (x' := ((ρ 0))) (y' := (-1 : Int)) (by show 0 + (1 * ρ 0 + 0) = _; omega) (by show (-1) + 0 = _; omega) (hm _ List.mem_cons_self)) hG
  obtain ⟨k0, -⟩ := H
  exact ⟨_, List.mem_cons_self, ρ, fun _ _ => rfl, (okM_c (pvp 172 (by show 1 + (1 * ρ 0 + 0) = _; omega) (by show (-1) + 0 = _; omega) k0) okM_n), okB_n, okF_n⟩
-- fjx_71_1
theorem cr_697 (M : pM) (s0 s1 : Int) (b0 : 0 ≤ s0 ∧ s0 ≤ 6) (b1 : 0 ≤ s1 ∧ s1 ≤ 6) (m0 : HP 172 (s0) (-1 : Int) M) (f0 : 0 ≤ ((-1) * s0 + s1)) (f1 : 0 ≤ (s0 + (-1) * s1)) (hG : gI M) : (HP 172 (s1) (-1 : Int) M ∧ True) := by
  have e : s0 = s1 := by omega
  subst e
  exact ⟨m0, trivial⟩
theorem rul_697 : Rul r_697 := by
  refine ⟨fun _ ρ M hm hB hF hG => ?_, fun gi gv hg => (by cases hg)⟩
  have H := cr_697 M (ρ 0) (ρ 1) (hB _ List.mem_cons_self) (hB _ (List.mem_cons_of_mem _ List.mem_cons_self)) (cvp 172 (x' := ((ρ 0))) (y' := (-1 : Int)) (by show 0 + (1 * ρ 0 + 0) = _; omega) (by show (-1) + 0 = _; omega) (hm _ List.mem_cons_self)) (by have h := hF _ List.mem_cons_self; have h : 0 ≤ 0 + ((-1) * ρ 0 + (1 * ρ 1 + 0)) := h; omega) (by have h := hF _ (List.mem_cons_of_mem _ List.mem_cons_self); have h : 0 ≤ 0 + (1 * ρ 0 + ((-1) * ρ 1 + 0)) := h; omega) hG
  obtain ⟨k0, -⟩ := H
  exact ⟨_, List.mem_cons_self, ρ, fun _ _ => rfl, (okM_c (pvp 172 (by show 0 + (1 * ρ 1 + 0) = _; omega) (by show (-1) + 0 = _; omega) k0) okM_n), okB_n, okF_n⟩
-- fj0_72_1
theorem cr_698 (M : pM)  (hG : gI M) : (HP 173 (0 : Int) (0 : Int) M ∧ True) := by
  exact ⟨Eq.mpr hp_173 ⟨by decide, fun i hi => by omega⟩, trivial⟩
theorem rul_698 : Rul r_698 := by
  refine ⟨fun _ ρ M hm hB hF hG => ?_, fun gi gv hg => (by cases hg)⟩
  have H := cr_698 M hG
  obtain ⟨k0, -⟩ := H
  exact ⟨_, List.mem_cons_self, ρ, fun _ _ => rfl, (okM_c (pvp 173 (by show 0 + 0 = _; omega) (by show 0 + 0 = _; omega) k0) okM_n), okB_n, okF_n⟩
-- fjw_72_1
theorem cr_699 (M : pM) (s0 : Int) (b0 : 0 ≤ s0 ∧ s0 ≤ 5) (m0 : HP 173 (s0) (0 : Int) M) (hG : gI M) : (HP 173 (s0 + 1) (0 : Int) (st M 72 (s0 + 6).toNat (0 : Int)) ∧ True) := by
  refine ⟨Eq.mpr hp_173 ⟨by omega, fun i hi => ?_⟩, trivial⟩
  rw [show (s0 + 6).toNat = 6 + s0.toNat by omega, cw]
  by_cases e : i = s0.toNat
  · rw [if_pos e]
  · rw [if_neg e]; exact (Eq.mp hp_173 m0).2 i (by omega)
theorem rul_699 : Rul r_699 := by
  refine ⟨fun h => (by cases h), fun gi gv hg ρ M hm hB hF hG => ?_⟩
  obtain ⟨g1, g2⟩ := List.cons.inj (show ([aI ((6 : Int), ([(0, 1)] : List (Nat × Int))), aI ((0 : Int), ([] : List (Nat × Int)))] : List av) = [.inl gi, .inl gv] from hg)
  obtain ⟨g2, -⟩ := List.cons.inj g2
  cases g1
  cases g2
  have ei : ev ρ ((6 : Int), ([(0, 1)] : List (Nat × Int))) = ((ρ 0) + 6) := by show 6 + (1 * ρ 0 + 0) = _; omega
  have ew : ev ρ ((0 : Int), ([] : List (Nat × Int))) = (0 : Int) := by show 0 + 0 = _; omega
  rw [show (st M (ctj r_699) (ev ρ ((6 : Int), ([(0, 1)] : List (Nat × Int)))).toNat (ev ρ ((0 : Int), ([] : List (Nat × Int))))) = (st M 72 ((ρ 0) + 6).toNat (0 : Int)) from by rw [ei, ew]; rfl]
  have H := cr_699 M (ρ 0) (hB _ List.mem_cons_self) (cvp 173 (x' := ((ρ 0))) (y' := (0 : Int)) (by show 0 + (1 * ρ 0 + 0) = _; omega) (by show 0 + 0 = _; omega) (hm _ List.mem_cons_self)) hG
  obtain ⟨k0, -⟩ := H
  exact ⟨_, List.mem_cons_self, ρ, fun _ _ => rfl, (okM_c (pvp 173 (by show 1 + (1 * ρ 0 + 0) = _; omega) (by show 0 + 0 = _; omega) k0) okM_n), okB_n, okF_n⟩
