-- trc0
theorem cr_400 (M : pM) (s0 s1 s2 : Int) (b0 : 0 ≤ s0 ∧ s0 ≤ 1900) (b1 : 0 ≤ s1 ∧ s1 ≤ 1900) (b2 : 0 ≤ s2 ∧ s2 ≤ 127) (m0 : HP 42 (0 : Int) (0 : Int) M) (m1 : (0 ≤ (3 : Int) ∧ M 61 (3 : Int).toNat = (s1))) (m2 : (0 ≤ (s0) ∧ M 63 (s0).toNat = (s2))) (f0 : 0 ≤ ((-1) * s0 + s1 - 1)) (hG : gI M) : ((0 ≤ (s0) ∧ M 1 (s0).toNat = (s2)) ∧ True) := by
  obtain ⟨h1, h2, h3, h4⟩ := Eq.mp hp_42 m0
  have h5 : M 61 3 = s1 := m1.2
  have h6 := h4 s0.toNat (by unfold tN; omega)
  rw [m2.2] at h6
  have h7 := gI_bt hG (i := s0.toNat) (by omega)
  unfold w8 at h6
  exact ⟨⟨by omega, by omega⟩, trivial⟩
theorem rul_400 : Rul r_400 := by
  refine ⟨fun _ ρ M hm hB hF hG => ?_, fun gi gv hg => (by cases hg)⟩
  have H := cr_400 M (ρ 0) (ρ 1) (ρ 2) (hB _ List.mem_cons_self) (hB _ (List.mem_cons_of_mem _ List.mem_cons_self)) (hB _ (List.mem_cons_of_mem _ (List.mem_cons_of_mem _ List.mem_cons_self))) (cvp 42 (x' := (0 : Int)) (y' := (0 : Int)) (by show 0 + 0 = _; omega) (by show 0 + 0 = _; omega) (hm _ List.mem_cons_self)) (cvm (c := 61) (by decide) (x' := (3 : Int)) (y' := ((ρ 1))) (by show 3 + 0 = _; omega) (by show 0 + (1 * ρ 1 + 0) = _; omega) (hm _ (List.mem_cons_of_mem _ List.mem_cons_self))) (cvm (c := 63) (by decide) (x' := ((ρ 0))) (y' := ((ρ 2))) (by show 0 + (1 * ρ 0 + 0) = _; omega) (by show 0 + (1 * ρ 2 + 0) = _; omega) (hm _ (List.mem_cons_of_mem _ (List.mem_cons_of_mem _ List.mem_cons_self)))) (by have h := hF _ List.mem_cons_self; have h : 0 ≤ (-1) + ((-1) * ρ 0 + (1 * ρ 1 + 0)) := h; omega) hG
  obtain ⟨k0, -⟩ := H
  exact ⟨_, List.mem_cons_self, ρ, fun _ _ => rfl, (okM_c (pvm (c := 1) (by decide) (by show 0 + (1 * ρ 0 + 0) = _; omega) (by show 0 + (1 * ρ 2 + 0) = _; omega) k0) okM_n), okB_n, okF_n⟩
-- trc1
theorem cr_401 (M : pM) (s0 s1 s2 : Int) (b0 : 0 ≤ s0 ∧ s0 ≤ 1900) (b1 : 0 ≤ s1 ∧ s1 ≤ 1900) (b2 : (-128) ≤ s2 ∧ s2 ≤ (-1)) (m0 : HP 42 (0 : Int) (0 : Int) M) (m1 : (0 ≤ (3 : Int) ∧ M 61 (3 : Int).toNat = (s1))) (m2 : (0 ≤ (s0) ∧ M 63 (s0).toNat = (s2))) (f0 : 0 ≤ ((-1) * s0 + s1 - 1)) (hG : gI M) : ((0 ≤ (s0) ∧ M 1 (s0).toNat = (s2 + 256)) ∧ True) := by
  obtain ⟨h1, h2, h3, h4⟩ := Eq.mp hp_42 m0
  have h5 : M 61 3 = s1 := m1.2
  have h6 := h4 s0.toNat (by unfold tN; omega)
  rw [m2.2] at h6
  have h7 := gI_bt hG (i := s0.toNat) (by omega)
  unfold w8 at h6
  exact ⟨⟨by omega, by omega⟩, trivial⟩
theorem rul_401 : Rul r_401 := by
  refine ⟨fun _ ρ M hm hB hF hG => ?_, fun gi gv hg => (by cases hg)⟩
  have H := cr_401 M (ρ 0) (ρ 1) (ρ 2) (hB _ List.mem_cons_self) (hB _ (List.mem_cons_of_mem _ List.mem_cons_self)) (hB _ (List.mem_cons_of_mem _ (List.mem_cons_of_mem _ List.mem_cons_self))) (cvp 42 (x' := (0 : Int)) (y' := (0 : Int)) (by show 0 + 0 = _; omega) (by show 0 + 0 = _; omega) (hm _ List.mem_cons_self)) (cvm (c := 61) (by decide) (x' := (3 : Int)) (y' := ((ρ 1))) (by show 3 + 0 = _; omega) (by show 0 + (1 * ρ 1 + 0) = _; omega) (hm _ (List.mem_cons_of_mem _ List.mem_cons_self))) (cvm (c := 63) (by decide) (x' := ((ρ 0))) (y' := ((ρ 2))) (by show 0 + (1 * ρ 0 + 0) = _; omega) (by show 0 + (1 * ρ 2 + 0) = _; omega) (hm _ (List.mem_cons_of_mem _ (List.mem_cons_of_mem _ List.mem_cons_self)))) (by have h := hF _ List.mem_cons_self; have h : 0 ≤ (-1) + ((-1) * ρ 0 + (1 * ρ 1 + 0)) := h; omega) hG
  obtain ⟨k0, -⟩ := H
  exact ⟨_, List.mem_cons_self, ρ, fun _ _ => rfl, (okM_c (pvm (c := 1) (by decide) (by show 0 + (1 * ρ 0 + 0) = _; omega) (by show 256 + (1 * ρ 2 + 0) = _; omega) k0) okM_n), okB_n, okF_n⟩
-- trd0
theorem cr_402 (M : pM) (s0 s1 s2 s3 : Int) (b0 : 0 ≤ s0 ∧ s0 ≤ 1900) (b1 : 0 ≤ s1 ∧ s1 ≤ 1900) (b2 : 0 ≤ s2 ∧ s2 ≤ 127) (b3 : 0 ≤ s3 ∧ s3 ≤ 255) (m0 : HP 42 (0 : Int) (0 : Int) M) (m1 : (0 ≤ (3 : Int) ∧ M 61 (3 : Int).toNat = (s1))) (m2 : (0 ≤ (s0) ∧ M 63 (s0).toNat = (s2))) (m3 : (0 ≤ (s0) ∧ M 1 (s0).toNat = (s3))) (f0 : 0 ≤ ((-1) * s0 + s1 - 1)) (hG : gI M) : (0 ≤ (s2 + (-1) * s3) ∧ 0 ≤ ((-1) * s2 + s3) ∧ True) := by
  obtain ⟨h1, h2, h3, h4⟩ := Eq.mp hp_42 m0
  have h5 : M 61 3 = s1 := m1.2
  have h6 := h4 s0.toNat (by unfold tN; omega)
  rw [m2.2] at h6
  have h7 := gI_bt hG (i := s0.toNat) (by omega)
  unfold w8 at h6
  rw [m3.2] at h6 h7
  exact ⟨by omega, by omega, trivial⟩
theorem rul_402 : Rul r_402 := by
  refine ⟨fun _ ρ M hm hB hF hG => ?_, fun gi gv hg => (by cases hg)⟩
  have H := cr_402 M (ρ 0) (ρ 1) (ρ 2) (ρ 3) (hB _ List.mem_cons_self) (hB _ (List.mem_cons_of_mem _ List.mem_cons_self)) (hB _ (List.mem_cons_of_mem _ (List.mem_cons_of_mem _ List.mem_cons_self))) (hB _ (List.mem_cons_of_mem _ (List.mem_cons_of_mem _ (List.mem_cons_of_mem _ List.mem_cons_self)))) (cvp 42 (x' := (0 : Int)) (y' := (0 : Int)) (by show 0 + 0 = _; omega) (by show 0 + 0 = _; omega) (hm _ List.mem_cons_self)) (cvm (c := 61) (by decide) (x' := (3 : Int)) (y' := ((ρ 1))) (by show 3 + 0 = _; omega) (by show 0 + (1 * ρ 1 + 0) = _; omega) (hm _ (List.mem_cons_of_mem _ List.mem_cons_self))) (cvm (c := 63) (by decide) (x' := ((ρ 0))) (y' := ((ρ 2))) (by show 0 + (1 * ρ 0 + 0) = _; omega) (by show 0 + (1 * ρ 2 + 0) = _; omega) (hm _ (List.mem_cons_of_mem _ (List.mem_cons_of_mem _ List.mem_cons_self)))) (cvm (c := 1) (by decide) (x' := ((ρ 0))) (y' := ((ρ 3))) (by show 0 + (1 * ρ 0 + 0) = _; omega) (by show 0 + (1 * ρ 3 + 0) = _; omega) (hm _ (List.mem_cons_of_mem _ (List.mem_cons_of_mem _ (List.mem_cons_of_mem _ List.mem_cons_self))))) (by have h := hF _ List.mem_cons_self; have h : 0 ≤ (-1) + ((-1) * ρ 0 + (1 * ρ 1 + 0)) := h; omega) hG
  obtain ⟨f0, f1, -⟩ := H
  exact ⟨_, List.mem_cons_self, ρ, fun _ _ => rfl, okM_n, okB_n, (okF_c (by show 0 ≤ 0 + (1 * ρ 2 + ((-1) * ρ 3 + 0)); omega) (okF_c (by show 0 ≤ 0 + ((-1) * ρ 2 + (1 * ρ 3 + 0)); omega) okF_n))⟩
-- trd1
theorem cr_403 (M : pM) (s0 s1 s2 s3 : Int) (b0 : 0 ≤ s0 ∧ s0 ≤ 1900) (b1 : 0 ≤ s1 ∧ s1 ≤ 1900) (b2 : (-128) ≤ s2 ∧ s2 ≤ (-1)) (b3 : 0 ≤ s3 ∧ s3 ≤ 255) (m0 : HP 42 (0 : Int) (0 : Int) M) (m1 : (0 ≤ (3 : Int) ∧ M 61 (3 : Int).toNat = (s1))) (m2 : (0 ≤ (s0) ∧ M 63 (s0).toNat = (s2))) (m3 : (0 ≤ (s0) ∧ M 1 (s0).toNat = (s3))) (f0 : 0 ≤ ((-1) * s0 + s1 - 1)) (hG : gI M) : (0 ≤ (s2 + (-1) * s3 + 256) ∧ 0 ≤ ((-1) * s2 + s3 - 256) ∧ True) := by
  obtain ⟨h1, h2, h3, h4⟩ := Eq.mp hp_42 m0
  have h5 : M 61 3 = s1 := m1.2
  have h6 := h4 s0.toNat (by unfold tN; omega)
  rw [m2.2] at h6
  have h7 := gI_bt hG (i := s0.toNat) (by omega)
  unfold w8 at h6
  rw [m3.2] at h6 h7
  exact ⟨by omega, by omega, trivial⟩
theorem rul_403 : Rul r_403 := by
  refine ⟨fun _ ρ M hm hB hF hG => ?_, fun gi gv hg => (by cases hg)⟩
  have H := cr_403 M (ρ 0) (ρ 1) (ρ 2) (ρ 3) (hB _ List.mem_cons_self) (hB _ (List.mem_cons_of_mem _ List.mem_cons_self)) (hB _ (List.mem_cons_of_mem _ (List.mem_cons_of_mem _ List.mem_cons_self))) (hB _ (List.mem_cons_of_mem _ (List.mem_cons_of_mem _ (List.mem_cons_of_mem _ List.mem_cons_self)))) (cvp 42 (x' := (0 : Int)) (y' := (0 : Int)) (by show 0 + 0 = _; omega) (by show 0 + 0 = _; omega) (hm _ List.mem_cons_self)) (cvm (c := 61) (by decide) (x' := (3 : Int)) (y' := ((ρ 1))) (by show 3 + 0 = _; omega) (by show 0 + (1 * ρ 1 + 0) = _; omega) (hm _ (List.mem_cons_of_mem _ List.mem_cons_self))) (cvm (c := 63) (by decide) (x' := ((ρ 0))) (y' := ((ρ 2))) (by show 0 + (1 * ρ 0 + 0) = _; omega) (by show 0 + (1 * ρ 2 + 0) = _; omega) (hm _ (List.mem_cons_of_mem _ (List.mem_cons_of_mem _ List.mem_cons_self)))) (cvm (c := 1) (by decide) (x' := ((ρ 0))) (y' := ((ρ 3))) (by show 0 + (1 * ρ 0 + 0) = _; omega) (by show 0 + (1 * ρ 3 + 0) = _; omega) (hm _ (List.mem_cons_of_mem _ (List.mem_cons_of_mem _ (List.mem_cons_of_mem _ List.mem_cons_self))))) (by have h := hF _ List.mem_cons_self; have h : 0 ≤ (-1) + ((-1) * ρ 0 + (1 * ρ 1 + 0)) := h; omega) hG
  obtain ⟨f0, f1, -⟩ := H
  exact ⟨_, List.mem_cons_self, ρ, fun _ _ => rfl, okM_n, okB_n, (okF_c (by show 0 ≤ 256 + (1 * ρ 2 + ((-1) * ρ 3 + 0)); omega) (okF_c (by show 0 ≤ (-256) + ((-1) * ρ 2 + (1 * ρ 3 + 0)); omega) okF_n))⟩
-- nk0
theorem cr_404 (M : pM) (s0 : Int) (b0 : (-9223372036854775808) ≤ s0 ∧ s0 ≤ 9223372036854775807) (hG : gI M) : (HP 142 (0 : Int) (s0) M ∧ True) := by
  exact ⟨Eq.mpr hp_142 (fun k h1 h2 => by omega), trivial⟩
theorem rul_404 : Rul r_404 := by
  refine ⟨fun _ ρ M hm hB hF hG => ?_, fun gi gv hg => (by cases hg)⟩
  have H := cr_404 M (ρ 0) (hB _ List.mem_cons_self) hG
  obtain ⟨k0, -⟩ := H
  exact ⟨_, List.mem_cons_self, ρ, fun _ _ => rfl, (okM_c (pvp 142 (by show 0 + 0 = _; omega) (by show 0 + (1 * ρ 0 + 0) = _; omega) k0) okM_n), okB_n, okF_n⟩
-- nk1_0
theorem cr_405 (M : pM) (s0 : Int) (b0 : (-9223372036854775808) ≤ s0 ∧ s0 ≤ 9223372036854775807) (m0 : HP 142 (0 : Int) (s0) M) (f0 : 0 ≤ ((-1) * s0 + 7499638)) (hG : gI M) : (HP 142 (1 : Int) (s0) M ∧ True) := by
  exact ⟨Eq.mpr hp_142 (fun k h1 h2 => if e : k = 0 then (by subst e; exact qwn_v 7499639 (by decide) (by omega)) else Eq.mp hp_142 m0 k h1 (by omega)), trivial⟩
theorem rul_405 : Rul r_405 := by
  refine ⟨fun _ ρ M hm hB hF hG => ?_, fun gi gv hg => (by cases hg)⟩
  have H := cr_405 M (ρ 0) (hB _ List.mem_cons_self) (cvp 142 (x' := (0 : Int)) (y' := ((ρ 0))) (by show 0 + 0 = _; omega) (by show 0 + (1 * ρ 0 + 0) = _; omega) (hm _ List.mem_cons_self)) (by have h := hF _ List.mem_cons_self; have h : 0 ≤ 7499638 + ((-1) * ρ 0 + 0) := h; omega) hG
  obtain ⟨k0, -⟩ := H
  exact ⟨_, List.mem_cons_self, ρ, fun _ _ => rfl, (okM_c (pvp 142 (by show 1 + 0 = _; omega) (by show 0 + (1 * ρ 0 + 0) = _; omega) k0) okM_n), okB_n, okF_n⟩
-- nk1_1
theorem cr_406 (M : pM) (s0 : Int) (b0 : (-9223372036854775808) ≤ s0 ∧ s0 ≤ 9223372036854775807) (m0 : HP 142 (0 : Int) (s0) M) (f0 : 0 ≤ (s0 - 7499640)) (hG : gI M) : (HP 142 (1 : Int) (s0) M ∧ True) := by
  exact ⟨Eq.mpr hp_142 (fun k h1 h2 => if e : k = 0 then (by subst e; exact qwn_v 7499639 (by decide) (by omega)) else Eq.mp hp_142 m0 k h1 (by omega)), trivial⟩
theorem rul_406 : Rul r_406 := by
  refine ⟨fun _ ρ M hm hB hF hG => ?_, fun gi gv hg => (by cases hg)⟩
  have H := cr_406 M (ρ 0) (hB _ List.mem_cons_self) (cvp 142 (x' := (0 : Int)) (y' := ((ρ 0))) (by show 0 + 0 = _; omega) (by show 0 + (1 * ρ 0 + 0) = _; omega) (hm _ List.mem_cons_self)) (by have h := hF _ List.mem_cons_self; have h : 0 ≤ (-7499640) + (1 * ρ 0 + 0) := h; omega) hG
  obtain ⟨k0, -⟩ := H
  exact ⟨_, List.mem_cons_self, ρ, fun _ _ => rfl, (okM_c (pvp 142 (by show 1 + 0 = _; omega) (by show 0 + (1 * ρ 0 + 0) = _; omega) k0) okM_n), okB_n, okF_n⟩
-- wk0
theorem cr_407 (M : pM) (s0 : Int) (b0 : (-9223372036854775808) ≤ s0 ∧ s0 ≤ 9223372036854775807) (f0 : 0 ≤ ((-1) * s0 + 7499639)) (f1 : 0 ≤ (s0 - 7499639)) (hG : gI M) : (HP 140 (0 : Int) (s0) M ∧ True) := by
  exact ⟨Eq.mpr hp_140 ⟨0, by decide, by decide, by rw [show qwn 0 = 7499639 by decide]; omega⟩, trivial⟩
theorem rul_407 : Rul r_407 := by
  refine ⟨fun _ ρ M hm hB hF hG => ?_, fun gi gv hg => (by cases hg)⟩
  have H := cr_407 M (ρ 0) (hB _ List.mem_cons_self) (by have h := hF _ List.mem_cons_self; have h : 0 ≤ 7499639 + ((-1) * ρ 0 + 0) := h; omega) (by have h := hF _ (List.mem_cons_of_mem _ List.mem_cons_self); have h : 0 ≤ (-7499639) + (1 * ρ 0 + 0) := h; omega) hG
  obtain ⟨k0, -⟩ := H
  exact ⟨_, List.mem_cons_self, ρ, fun _ _ => rfl, (okM_c (pvp 140 (by show 0 + 0 = _; omega) (by show 0 + (1 * ρ 0 + 0) = _; omega) k0) okM_n), okB_n, okF_n⟩
-- nk2_0
theorem cr_408 (M : pM) (s0 : Int) (b0 : (-9223372036854775808) ≤ s0 ∧ s0 ≤ 9223372036854775807) (m0 : HP 142 (1 : Int) (s0) M) (f0 : 0 ≤ ((-1) * s0 + 1818846835)) (hG : gI M) : (HP 142 (2 : Int) (s0) M ∧ True) := by
  exact ⟨Eq.mpr hp_142 (fun k h1 h2 => if e : k = 1 then (by subst e; exact qwn_v 1818846836 (by decide) (by omega)) else Eq.mp hp_142 m0 k h1 (by omega)), trivial⟩
theorem rul_408 : Rul r_408 := by
  refine ⟨fun _ ρ M hm hB hF hG => ?_, fun gi gv hg => (by cases hg)⟩
  have H := cr_408 M (ρ 0) (hB _ List.mem_cons_self) (cvp 142 (x' := (1 : Int)) (y' := ((ρ 0))) (by show 1 + 0 = _; omega) (by show 0 + (1 * ρ 0 + 0) = _; omega) (hm _ List.mem_cons_self)) (by have h := hF _ List.mem_cons_self; have h : 0 ≤ 1818846835 + ((-1) * ρ 0 + 0) := h; omega) hG
  obtain ⟨k0, -⟩ := H
  exact ⟨_, List.mem_cons_self, ρ, fun _ _ => rfl, (okM_c (pvp 142 (by show 2 + 0 = _; omega) (by show 0 + (1 * ρ 0 + 0) = _; omega) k0) okM_n), okB_n, okF_n⟩
-- nk2_1
theorem cr_409 (M : pM) (s0 : Int) (b0 : (-9223372036854775808) ≤ s0 ∧ s0 ≤ 9223372036854775807) (m0 : HP 142 (1 : Int) (s0) M) (f0 : 0 ≤ (s0 - 1818846837)) (hG : gI M) : (HP 142 (2 : Int) (s0) M ∧ True) := by
  exact ⟨Eq.mpr hp_142 (fun k h1 h2 => if e : k = 1 then (by subst e; exact qwn_v 1818846836 (by decide) (by omega)) else Eq.mp hp_142 m0 k h1 (by omega)), trivial⟩
theorem rul_409 : Rul r_409 := by
  refine ⟨fun _ ρ M hm hB hF hG => ?_, fun gi gv hg => (by cases hg)⟩
  have H := cr_409 M (ρ 0) (hB _ List.mem_cons_self) (cvp 142 (x' := (1 : Int)) (y' := ((ρ 0))) (by show 1 + 0 = _; omega) (by show 0 + (1 * ρ 0 + 0) = _; omega) (hm _ List.mem_cons_self)) (by have h := hF _ List.mem_cons_self; have h : 0 ≤ (-1818846837) + (1 * ρ 0 + 0) := h; omega) hG
  obtain ⟨k0, -⟩ := H
  exact ⟨_, List.mem_cons_self, ρ, fun _ _ => rfl, (okM_c (pvp 142 (by show 2 + 0 = _; omega) (by show 0 + (1 * ρ 0 + 0) = _; omega) k0) okM_n), okB_n, okF_n⟩
-- wk1
theorem cr_410 (M : pM) (s0 : Int) (b0 : (-9223372036854775808) ≤ s0 ∧ s0 ≤ 9223372036854775807) (f0 : 0 ≤ ((-1) * s0 + 1818846836)) (f1 : 0 ≤ (s0 - 1818846836)) (hG : gI M) : (HP 140 (1 : Int) (s0) M ∧ True) := by
  exact ⟨Eq.mpr hp_140 ⟨1, by decide, by decide, by rw [show qwn 1 = 1818846836 by decide]; omega⟩, trivial⟩
theorem rul_410 : Rul r_410 := by
  refine ⟨fun _ ρ M hm hB hF hG => ?_, fun gi gv hg => (by cases hg)⟩
  have H := cr_410 M (ρ 0) (hB _ List.mem_cons_self) (by have h := hF _ List.mem_cons_self; have h : 0 ≤ 1818846836 + ((-1) * ρ 0 + 0) := h; omega) (by have h := hF _ (List.mem_cons_of_mem _ List.mem_cons_self); have h : 0 ≤ (-1818846836) + (1 * ρ 0 + 0) := h; omega) hG
  obtain ⟨k0, -⟩ := H
  exact ⟨_, List.mem_cons_self, ρ, fun _ _ => rfl, (okM_c (pvp 140 (by show 1 + 0 = _; omega) (by show 0 + (1 * ρ 0 + 0) = _; omega) k0) okM_n), okB_n, okF_n⟩
-- nk3_0
theorem cr_411 (M : pM) (s0 : Int) (b0 : (-9223372036854775808) ≤ s0 ∧ s0 ≤ 9223372036854775807) (m0 : HP 142 (2 : Int) (s0) M) (f0 : 0 ≤ ((-1) * s0 + 2003398243)) (hG : gI M) : (HP 142 (3 : Int) (s0) M ∧ True) := by
  exact ⟨Eq.mpr hp_142 (fun k h1 h2 => if e : k = 2 then (by subst e; exact qwn_v 2003398244 (by decide) (by omega)) else Eq.mp hp_142 m0 k h1 (by omega)), trivial⟩
theorem rul_411 : Rul r_411 := by
  refine ⟨fun _ ρ M hm hB hF hG => ?_, fun gi gv hg => (by cases hg)⟩
  have H := cr_411 M (ρ 0) (hB _ List.mem_cons_self) (cvp 142 (x' := (2 : Int)) (y' := ((ρ 0))) (by show 2 + 0 = _; omega) (by show 0 + (1 * ρ 0 + 0) = _; omega) (hm _ List.mem_cons_self)) (by have h := hF _ List.mem_cons_self; have h : 0 ≤ 2003398243 + ((-1) * ρ 0 + 0) := h; omega) hG
  obtain ⟨k0, -⟩ := H
  exact ⟨_, List.mem_cons_self, ρ, fun _ _ => rfl, (okM_c (pvp 142 (by show 3 + 0 = _; omega) (by show 0 + (1 * ρ 0 + 0) = _; omega) k0) okM_n), okB_n, okF_n⟩
-- nk3_1
theorem cr_412 (M : pM) (s0 : Int) (b0 : (-9223372036854775808) ≤ s0 ∧ s0 ≤ 9223372036854775807) (m0 : HP 142 (2 : Int) (s0) M) (f0 : 0 ≤ (s0 - 2003398245)) (hG : gI M) : (HP 142 (3 : Int) (s0) M ∧ True) := by
  exact ⟨Eq.mpr hp_142 (fun k h1 h2 => if e : k = 2 then (by subst e; exact qwn_v 2003398244 (by decide) (by omega)) else Eq.mp hp_142 m0 k h1 (by omega)), trivial⟩
theorem rul_412 : Rul r_412 := by
  refine ⟨fun _ ρ M hm hB hF hG => ?_, fun gi gv hg => (by cases hg)⟩
  have H := cr_412 M (ρ 0) (hB _ List.mem_cons_self) (cvp 142 (x' := (2 : Int)) (y' := ((ρ 0))) (by show 2 + 0 = _; omega) (by show 0 + (1 * ρ 0 + 0) = _; omega) (hm _ List.mem_cons_self)) (by have h := hF _ List.mem_cons_self; have h : 0 ≤ (-2003398245) + (1 * ρ 0 + 0) := h; omega) hG
  obtain ⟨k0, -⟩ := H
  exact ⟨_, List.mem_cons_self, ρ, fun _ _ => rfl, (okM_c (pvp 142 (by show 3 + 0 = _; omega) (by show 0 + (1 * ρ 0 + 0) = _; omega) k0) okM_n), okB_n, okF_n⟩
-- wk2
theorem cr_413 (M : pM) (s0 : Int) (b0 : (-9223372036854775808) ≤ s0 ∧ s0 ≤ 9223372036854775807) (f0 : 0 ≤ ((-1) * s0 + 2003398244)) (f1 : 0 ≤ (s0 - 2003398244)) (hG : gI M) : (HP 140 (2 : Int) (s0) M ∧ True) := by
  exact ⟨Eq.mpr hp_140 ⟨2, by decide, by decide, by rw [show qwn 2 = 2003398244 by decide]; omega⟩, trivial⟩
theorem rul_413 : Rul r_413 := by
  refine ⟨fun _ ρ M hm hB hF hG => ?_, fun gi gv hg => (by cases hg)⟩
  have H := cr_413 M (ρ 0) (hB _ List.mem_cons_self) (by have h := hF _ List.mem_cons_self; have h : 0 ≤ 2003398244 + ((-1) * ρ 0 + 0) := h; omega) (by have h := hF _ (List.mem_cons_of_mem _ List.mem_cons_self); have h : 0 ≤ (-2003398244) + (1 * ρ 0 + 0) := h; omega) hG
  obtain ⟨k0, -⟩ := H
  exact ⟨_, List.mem_cons_self, ρ, fun _ _ => rfl, (okM_c (pvp 140 (by show 2 + 0 = _; omega) (by show 0 + (1 * ρ 0 + 0) = _; omega) k0) okM_n), okB_n, okF_n⟩
-- nk4_0
theorem cr_414 (M : pM) (s0 : Int) (b0 : (-9223372036854775808) ≤ s0 ∧ s0 ≤ 9223372036854775807) (m0 : HP 142 (3 : Int) (s0) M) (f0 : 0 ≤ ((-1) * s0 + 7630703)) (hG : gI M) : (HP 142 (4 : Int) (s0) M ∧ True) := by
  exact ⟨Eq.mpr hp_142 (fun k h1 h2 => if e : k = 3 then (by subst e; exact qwn_v 7630704 (by decide) (by omega)) else Eq.mp hp_142 m0 k h1 (by omega)), trivial⟩
theorem rul_414 : Rul r_414 := by
  refine ⟨fun _ ρ M hm hB hF hG => ?_, fun gi gv hg => (by cases hg)⟩
  have H := cr_414 M (ρ 0) (hB _ List.mem_cons_self) (cvp 142 (x' := (3 : Int)) (y' := ((ρ 0))) (by show 3 + 0 = _; omega) (by show 0 + (1 * ρ 0 + 0) = _; omega) (hm _ List.mem_cons_self)) (by have h := hF _ List.mem_cons_self; have h : 0 ≤ 7630703 + ((-1) * ρ 0 + 0) := h; omega) hG
  obtain ⟨k0, -⟩ := H
  exact ⟨_, List.mem_cons_self, ρ, fun _ _ => rfl, (okM_c (pvp 142 (by show 4 + 0 = _; omega) (by show 0 + (1 * ρ 0 + 0) = _; omega) k0) okM_n), okB_n, okF_n⟩
-- nk4_1
theorem cr_415 (M : pM) (s0 : Int) (b0 : (-9223372036854775808) ≤ s0 ∧ s0 ≤ 9223372036854775807) (m0 : HP 142 (3 : Int) (s0) M) (f0 : 0 ≤ (s0 - 7630705)) (hG : gI M) : (HP 142 (4 : Int) (s0) M ∧ True) := by
  exact ⟨Eq.mpr hp_142 (fun k h1 h2 => if e : k = 3 then (by subst e; exact qwn_v 7630704 (by decide) (by omega)) else Eq.mp hp_142 m0 k h1 (by omega)), trivial⟩
theorem rul_415 : Rul r_415 := by
  refine ⟨fun _ ρ M hm hB hF hG => ?_, fun gi gv hg => (by cases hg)⟩
  have H := cr_415 M (ρ 0) (hB _ List.mem_cons_self) (cvp 142 (x' := (3 : Int)) (y' := ((ρ 0))) (by show 3 + 0 = _; omega) (by show 0 + (1 * ρ 0 + 0) = _; omega) (hm _ List.mem_cons_self)) (by have h := hF _ List.mem_cons_self; have h : 0 ≤ (-7630705) + (1 * ρ 0 + 0) := h; omega) hG
  obtain ⟨k0, -⟩ := H
  exact ⟨_, List.mem_cons_self, ρ, fun _ _ => rfl, (okM_c (pvp 142 (by show 4 + 0 = _; omega) (by show 0 + (1 * ρ 0 + 0) = _; omega) k0) okM_n), okB_n, okF_n⟩
-- wk3
theorem cr_416 (M : pM) (s0 : Int) (b0 : (-9223372036854775808) ≤ s0 ∧ s0 ≤ 9223372036854775807) (f0 : 0 ≤ ((-1) * s0 + 7630704)) (f1 : 0 ≤ (s0 - 7630704)) (hG : gI M) : (HP 140 (3 : Int) (s0) M ∧ True) := by
  exact ⟨Eq.mpr hp_140 ⟨3, by decide, by decide, by rw [show qwn 3 = 7630704 by decide]; omega⟩, trivial⟩
theorem rul_416 : Rul r_416 := by
  refine ⟨fun _ ρ M hm hB hF hG => ?_, fun gi gv hg => (by cases hg)⟩
  have H := cr_416 M (ρ 0) (hB _ List.mem_cons_self) (by have h := hF _ List.mem_cons_self; have h : 0 ≤ 7630704 + ((-1) * ρ 0 + 0) := h; omega) (by have h := hF _ (List.mem_cons_of_mem _ List.mem_cons_self); have h : 0 ≤ (-7630704) + (1 * ρ 0 + 0) := h; omega) hG
  obtain ⟨k0, -⟩ := H
  exact ⟨_, List.mem_cons_self, ρ, fun _ _ => rfl, (okM_c (pvp 140 (by show 3 + 0 = _; omega) (by show 0 + (1 * ρ 0 + 0) = _; omega) k0) okM_n), okB_n, okF_n⟩
-- nk5_0
theorem cr_417 (M : pM) (s0 : Int) (b0 : (-9223372036854775808) ≤ s0 ∧ s0 ≤ 9223372036854775807) (m0 : HP 142 (4 : Int) (s0) M) (f0 : 0 ≤ ((-1) * s0 + 2002873451)) (hG : gI M) : (HP 142 (5 : Int) (s0) M ∧ True) := by
  exact ⟨Eq.mpr hp_142 (fun k h1 h2 => if e : k = 4 then (by subst e; exact qwn_v 2002873452 (by decide) (by omega)) else Eq.mp hp_142 m0 k h1 (by omega)), trivial⟩
theorem rul_417 : Rul r_417 := by
  refine ⟨fun _ ρ M hm hB hF hG => ?_, fun gi gv hg => (by cases hg)⟩
  have H := cr_417 M (ρ 0) (hB _ List.mem_cons_self) (cvp 142 (x' := (4 : Int)) (y' := ((ρ 0))) (by show 4 + 0 = _; omega) (by show 0 + (1 * ρ 0 + 0) = _; omega) (hm _ List.mem_cons_self)) (by have h := hF _ List.mem_cons_self; have h : 0 ≤ 2002873451 + ((-1) * ρ 0 + 0) := h; omega) hG
  obtain ⟨k0, -⟩ := H
  exact ⟨_, List.mem_cons_self, ρ, fun _ _ => rfl, (okM_c (pvp 142 (by show 5 + 0 = _; omega) (by show 0 + (1 * ρ 0 + 0) = _; omega) k0) okM_n), okB_n, okF_n⟩
-- nk5_1
theorem cr_418 (M : pM) (s0 : Int) (b0 : (-9223372036854775808) ≤ s0 ∧ s0 ≤ 9223372036854775807) (m0 : HP 142 (4 : Int) (s0) M) (f0 : 0 ≤ (s0 - 2002873453)) (hG : gI M) : (HP 142 (5 : Int) (s0) M ∧ True) := by
  exact ⟨Eq.mpr hp_142 (fun k h1 h2 => if e : k = 4 then (by subst e; exact qwn_v 2002873452 (by decide) (by omega)) else Eq.mp hp_142 m0 k h1 (by omega)), trivial⟩
theorem rul_418 : Rul r_418 := by
  refine ⟨fun _ ρ M hm hB hF hG => ?_, fun gi gv hg => (by cases hg)⟩
  have H := cr_418 M (ρ 0) (hB _ List.mem_cons_self) (cvp 142 (x' := (4 : Int)) (y' := ((ρ 0))) (by show 4 + 0 = _; omega) (by show 0 + (1 * ρ 0 + 0) = _; omega) (hm _ List.mem_cons_self)) (by have h := hF _ List.mem_cons_self; have h : 0 ≤ (-2002873453) + (1 * ρ 0 + 0) := h; omega) hG
  obtain ⟨k0, -⟩ := H
  exact ⟨_, List.mem_cons_self, ρ, fun _ _ => rfl, (okM_c (pvp 142 (by show 5 + 0 = _; omega) (by show 0 + (1 * ρ 0 + 0) = _; omega) k0) okM_n), okB_n, okF_n⟩
-- wk4
theorem cr_419 (M : pM) (s0 : Int) (b0 : (-9223372036854775808) ≤ s0 ∧ s0 ≤ 9223372036854775807) (f0 : 0 ≤ ((-1) * s0 + 2002873452)) (f1 : 0 ≤ (s0 - 2002873452)) (hG : gI M) : (HP 140 (4 : Int) (s0) M ∧ True) := by
  exact ⟨Eq.mpr hp_140 ⟨4, by decide, by decide, by rw [show qwn 4 = 2002873452 by decide]; omega⟩, trivial⟩
theorem rul_419 : Rul r_419 := by
  refine ⟨fun _ ρ M hm hB hF hG => ?_, fun gi gv hg => (by cases hg)⟩
  have H := cr_419 M (ρ 0) (hB _ List.mem_cons_self) (by have h := hF _ List.mem_cons_self; have h : 0 ≤ 2002873452 + ((-1) * ρ 0 + 0) := h; omega) (by have h := hF _ (List.mem_cons_of_mem _ List.mem_cons_self); have h : 0 ≤ (-2002873452) + (1 * ρ 0 + 0) := h; omega) hG
  obtain ⟨k0, -⟩ := H
  exact ⟨_, List.mem_cons_self, ρ, fun _ _ => rfl, (okM_c (pvp 140 (by show 4 + 0 = _; omega) (by show 0 + (1 * ρ 0 + 0) = _; omega) k0) okM_n), okB_n, okF_n⟩
-- nk6_0
theorem cr_420 (M : pM) (s0 : Int) (b0 : (-9223372036854775808) ≤ s0 ∧ s0 ≤ 9223372036854775807) (m0 : HP 142 (5 : Int) (s0) M) (f0 : 0 ≤ ((-1) * s0 + 418263299684)) (hG : gI M) : (HP 142 (6 : Int) (s0) M ∧ True) := by
  exact ⟨Eq.mpr hp_142 (fun k h1 h2 => if e : k = 5 then (by subst e; exact qwn_v 418263299685 (by decide) (by omega)) else Eq.mp hp_142 m0 k h1 (by omega)), trivial⟩
theorem rul_420 : Rul r_420 := by
  refine ⟨fun _ ρ M hm hB hF hG => ?_, fun gi gv hg => (by cases hg)⟩
  have H := cr_420 M (ρ 0) (hB _ List.mem_cons_self) (cvp 142 (x' := (5 : Int)) (y' := ((ρ 0))) (by show 5 + 0 = _; omega) (by show 0 + (1 * ρ 0 + 0) = _; omega) (hm _ List.mem_cons_self)) (by have h := hF _ List.mem_cons_self; have h : 0 ≤ 418263299684 + ((-1) * ρ 0 + 0) := h; omega) hG
  obtain ⟨k0, -⟩ := H
  exact ⟨_, List.mem_cons_self, ρ, fun _ _ => rfl, (okM_c (pvp 142 (by show 6 + 0 = _; omega) (by show 0 + (1 * ρ 0 + 0) = _; omega) k0) okM_n), okB_n, okF_n⟩
-- nk6_1
theorem cr_421 (M : pM) (s0 : Int) (b0 : (-9223372036854775808) ≤ s0 ∧ s0 ≤ 9223372036854775807) (m0 : HP 142 (5 : Int) (s0) M) (f0 : 0 ≤ (s0 - 418263299686)) (hG : gI M) : (HP 142 (6 : Int) (s0) M ∧ True) := by
  exact ⟨Eq.mpr hp_142 (fun k h1 h2 => if e : k = 5 then (by subst e; exact qwn_v 418263299685 (by decide) (by omega)) else Eq.mp hp_142 m0 k h1 (by omega)), trivial⟩
theorem rul_421 : Rul r_421 := by
  refine ⟨fun _ ρ M hm hB hF hG => ?_, fun gi gv hg => (by cases hg)⟩
  have H := cr_421 M (ρ 0) (hB _ List.mem_cons_self) (cvp 142 (x' := (5 : Int)) (y' := ((ρ 0))) (by show 5 + 0 = _; omega) (by show 0 + (1 * ρ 0 + 0) = _; omega) (hm _ List.mem_cons_self)) (by have h := hF _ List.mem_cons_self; have h : 0 ≤ (-418263299686) + (1 * ρ 0 + 0) := h; omega) hG
  obtain ⟨k0, -⟩ := H
  exact ⟨_, List.mem_cons_self, ρ, fun _ _ => rfl, (okM_c (pvp 142 (by show 6 + 0 = _; omega) (by show 0 + (1 * ρ 0 + 0) = _; omega) k0) okM_n), okB_n, okF_n⟩
-- wk5
theorem cr_422 (M : pM) (s0 : Int) (b0 : (-9223372036854775808) ≤ s0 ∧ s0 ≤ 9223372036854775807) (f0 : 0 ≤ ((-1) * s0 + 418263299685)) (f1 : 0 ≤ (s0 - 418263299685)) (hG : gI M) : (HP 140 (5 : Int) (s0) M ∧ True) := by
  exact ⟨Eq.mpr hp_140 ⟨5, by decide, by decide, by rw [show qwn 5 = 418263299685 by decide]; omega⟩, trivial⟩
theorem rul_422 : Rul r_422 := by
  refine ⟨fun _ ρ M hm hB hF hG => ?_, fun gi gv hg => (by cases hg)⟩
  have H := cr_422 M (ρ 0) (hB _ List.mem_cons_self) (by have h := hF _ List.mem_cons_self; have h : 0 ≤ 418263299685 + ((-1) * ρ 0 + 0) := h; omega) (by have h := hF _ (List.mem_cons_of_mem _ List.mem_cons_self); have h : 0 ≤ (-418263299685) + (1 * ρ 0 + 0) := h; omega) hG
  obtain ⟨k0, -⟩ := H
  exact ⟨_, List.mem_cons_self, ρ, fun _ _ => rfl, (okM_c (pvp 140 (by show 5 + 0 = _; omega) (by show 0 + (1 * ρ 0 + 0) = _; omega) k0) okM_n), okB_n, okF_n⟩
-- nk7_0
theorem cr_423 (M : pM) (s0 : Int) (b0 : (-9223372036854775808) ≤ s0 ∧ s0 ≤ 9223372036854775807) (m0 : HP 142 (6 : Int) (s0) M) (f0 : 0 ≤ ((-1) * s0 + 1718775660)) (hG : gI M) : (HP 142 (7 : Int) (s0) M ∧ True) := by
  exact ⟨Eq.mpr hp_142 (fun k h1 h2 => if e : k = 6 then (by subst e; exact qwn_v 1718775661 (by decide) (by omega)) else Eq.mp hp_142 m0 k h1 (by omega)), trivial⟩
theorem rul_423 : Rul r_423 := by
  refine ⟨fun _ ρ M hm hB hF hG => ?_, fun gi gv hg => (by cases hg)⟩
  have H := cr_423 M (ρ 0) (hB _ List.mem_cons_self) (cvp 142 (x' := (6 : Int)) (y' := ((ρ 0))) (by show 6 + 0 = _; omega) (by show 0 + (1 * ρ 0 + 0) = _; omega) (hm _ List.mem_cons_self)) (by have h := hF _ List.mem_cons_self; have h : 0 ≤ 1718775660 + ((-1) * ρ 0 + 0) := h; omega) hG
  obtain ⟨k0, -⟩ := H
  exact ⟨_, List.mem_cons_self, ρ, fun _ _ => rfl, (okM_c (pvp 142 (by show 7 + 0 = _; omega) (by show 0 + (1 * ρ 0 + 0) = _; omega) k0) okM_n), okB_n, okF_n⟩
-- nk7_1
theorem cr_424 (M : pM) (s0 : Int) (b0 : (-9223372036854775808) ≤ s0 ∧ s0 ≤ 9223372036854775807) (m0 : HP 142 (6 : Int) (s0) M) (f0 : 0 ≤ (s0 - 1718775662)) (hG : gI M) : (HP 142 (7 : Int) (s0) M ∧ True) := by
  exact ⟨Eq.mpr hp_142 (fun k h1 h2 => if e : k = 6 then (by subst e; exact qwn_v 1718775661 (by decide) (by omega)) else Eq.mp hp_142 m0 k h1 (by omega)), trivial⟩
theorem rul_424 : Rul r_424 := by
  refine ⟨fun _ ρ M hm hB hF hG => ?_, fun gi gv hg => (by cases hg)⟩
  have H := cr_424 M (ρ 0) (hB _ List.mem_cons_self) (cvp 142 (x' := (6 : Int)) (y' := ((ρ 0))) (by show 6 + 0 = _; omega) (by show 0 + (1 * ρ 0 + 0) = _; omega) (hm _ List.mem_cons_self)) (by have h := hF _ List.mem_cons_self; have h : 0 ≤ (-1718775662) + (1 * ρ 0 + 0) := h; omega) hG
  obtain ⟨k0, -⟩ := H
  exact ⟨_, List.mem_cons_self, ρ, fun _ _ => rfl, (okM_c (pvp 142 (by show 7 + 0 = _; omega) (by show 0 + (1 * ρ 0 + 0) = _; omega) k0) okM_n), okB_n, okF_n⟩
-- wk6
theorem cr_425 (M : pM) (s0 : Int) (b0 : (-9223372036854775808) ≤ s0 ∧ s0 ≤ 9223372036854775807) (f0 : 0 ≤ ((-1) * s0 + 1718775661)) (f1 : 0 ≤ (s0 - 1718775661)) (hG : gI M) : (HP 140 (6 : Int) (s0) M ∧ True) := by
  exact ⟨Eq.mpr hp_140 ⟨6, by decide, by decide, by rw [show qwn 6 = 1718775661 by decide]; omega⟩, trivial⟩
theorem rul_425 : Rul r_425 := by
  refine ⟨fun _ ρ M hm hB hF hG => ?_, fun gi gv hg => (by cases hg)⟩
  have H := cr_425 M (ρ 0) (hB _ List.mem_cons_self) (by have h := hF _ List.mem_cons_self; have h : 0 ≤ 1718775661 + ((-1) * ρ 0 + 0) := h; omega) (by have h := hF _ (List.mem_cons_of_mem _ List.mem_cons_self); have h : 0 ≤ (-1718775661) + (1 * ρ 0 + 0) := h; omega) hG
  obtain ⟨k0, -⟩ := H
  exact ⟨_, List.mem_cons_self, ρ, fun _ _ => rfl, (okM_c (pvp 140 (by show 6 + 0 = _; omega) (by show 0 + (1 * ρ 0 + 0) = _; omega) k0) okM_n), okB_n, okF_n⟩
-- nk8_0
theorem cr_426 (M : pM) (s0 : Int) (b0 : (-9223372036854775808) ≤ s0 ∧ s0 ≤ 9223372036854775807) (m0 : HP 142 (7 : Int) (s0) M) (f0 : 0 ≤ ((-1) * s0 + 29806)) (hG : gI M) : (HP 142 (8 : Int) (s0) M ∧ True) := by
  exact ⟨Eq.mpr hp_142 (fun k h1 h2 => if e : k = 7 then (by subst e; exact qwn_v 29807 (by decide) (by omega)) else Eq.mp hp_142 m0 k h1 (by omega)), trivial⟩
theorem rul_426 : Rul r_426 := by
  refine ⟨fun _ ρ M hm hB hF hG => ?_, fun gi gv hg => (by cases hg)⟩
  have H := cr_426 M (ρ 0) (hB _ List.mem_cons_self) (cvp 142 (x' := (7 : Int)) (y' := ((ρ 0))) (by show 7 + 0 = _; omega) (by show 0 + (1 * ρ 0 + 0) = _; omega) (hm _ List.mem_cons_self)) (by have h := hF _ List.mem_cons_self; have h : 0 ≤ 29806 + ((-1) * ρ 0 + 0) := h; omega) hG
  obtain ⟨k0, -⟩ := H
  exact ⟨_, List.mem_cons_self, ρ, fun _ _ => rfl, (okM_c (pvp 142 (by show 8 + 0 = _; omega) (by show 0 + (1 * ρ 0 + 0) = _; omega) k0) okM_n), okB_n, okF_n⟩
-- nk8_1
theorem cr_427 (M : pM) (s0 : Int) (b0 : (-9223372036854775808) ≤ s0 ∧ s0 ≤ 9223372036854775807) (m0 : HP 142 (7 : Int) (s0) M) (f0 : 0 ≤ (s0 - 29808)) (hG : gI M) : (HP 142 (8 : Int) (s0) M ∧ True) := by
  exact ⟨Eq.mpr hp_142 (fun k h1 h2 => if e : k = 7 then (by subst e; exact qwn_v 29807 (by decide) (by omega)) else Eq.mp hp_142 m0 k h1 (by omega)), trivial⟩
theorem rul_427 : Rul r_427 := by
  refine ⟨fun _ ρ M hm hB hF hG => ?_, fun gi gv hg => (by cases hg)⟩
  have H := cr_427 M (ρ 0) (hB _ List.mem_cons_self) (cvp 142 (x' := (7 : Int)) (y' := ((ρ 0))) (by show 7 + 0 = _; omega) (by show 0 + (1 * ρ 0 + 0) = _; omega) (hm _ List.mem_cons_self)) (by have h := hF _ List.mem_cons_self; have h : 0 ≤ (-29808) + (1 * ρ 0 + 0) := h; omega) hG
  obtain ⟨k0, -⟩ := H
  exact ⟨_, List.mem_cons_self, ρ, fun _ _ => rfl, (okM_c (pvp 142 (by show 8 + 0 = _; omega) (by show 0 + (1 * ρ 0 + 0) = _; omega) k0) okM_n), okB_n, okF_n⟩
-- wk7
theorem cr_428 (M : pM) (s0 : Int) (b0 : (-9223372036854775808) ≤ s0 ∧ s0 ≤ 9223372036854775807) (f0 : 0 ≤ ((-1) * s0 + 29807)) (f1 : 0 ≤ (s0 - 29807)) (hG : gI M) : (HP 140 (7 : Int) (s0) M ∧ True) := by
  exact ⟨Eq.mpr hp_140 ⟨7, by decide, by decide, by rw [show qwn 7 = 29807 by decide]; omega⟩, trivial⟩
theorem rul_428 : Rul r_428 := by
  refine ⟨fun _ ρ M hm hB hF hG => ?_, fun gi gv hg => (by cases hg)⟩
  have H := cr_428 M (ρ 0) (hB _ List.mem_cons_self) (by have h := hF _ List.mem_cons_self; have h : 0 ≤ 29807 + ((-1) * ρ 0 + 0) := h; omega) (by have h := hF _ (List.mem_cons_of_mem _ List.mem_cons_self); have h : 0 ≤ (-29807) + (1 * ρ 0 + 0) := h; omega) hG
  obtain ⟨k0, -⟩ := H
  exact ⟨_, List.mem_cons_self, ρ, fun _ _ => rfl, (okM_c (pvp 140 (by show 7 + 0 = _; omega) (by show 0 + (1 * ρ 0 + 0) = _; omega) k0) okM_n), okB_n, okF_n⟩
-- nk9_0
theorem cr_429 (M : pM) (s0 : Int) (b0 : (-9223372036854775808) ≤ s0 ∧ s0 ≤ 9223372036854775807) (m0 : HP 142 (8 : Int) (s0) M) (f0 : 0 ≤ ((-1) * s0 + 439854918755)) (hG : gI M) : (HP 142 (9 : Int) (s0) M ∧ True) := by
  exact ⟨Eq.mpr hp_142 (fun k h1 h2 => if e : k = 8 then (by subst e; exact qwn_v 439854918756 (by decide) (by omega)) else Eq.mp hp_142 m0 k h1 (by omega)), trivial⟩
theorem rul_429 : Rul r_429 := by
  refine ⟨fun _ ρ M hm hB hF hG => ?_, fun gi gv hg => (by cases hg)⟩
  have H := cr_429 M (ρ 0) (hB _ List.mem_cons_self) (cvp 142 (x' := (8 : Int)) (y' := ((ρ 0))) (by show 8 + 0 = _; omega) (by show 0 + (1 * ρ 0 + 0) = _; omega) (hm _ List.mem_cons_self)) (by have h := hF _ List.mem_cons_self; have h : 0 ≤ 439854918755 + ((-1) * ρ 0 + 0) := h; omega) hG
  obtain ⟨k0, -⟩ := H
  exact ⟨_, List.mem_cons_self, ρ, fun _ _ => rfl, (okM_c (pvp 142 (by show 9 + 0 = _; omega) (by show 0 + (1 * ρ 0 + 0) = _; omega) k0) okM_n), okB_n, okF_n⟩
-- nk9_1
theorem cr_430 (M : pM) (s0 : Int) (b0 : (-9223372036854775808) ≤ s0 ∧ s0 ≤ 9223372036854775807) (m0 : HP 142 (8 : Int) (s0) M) (f0 : 0 ≤ (s0 - 439854918757)) (hG : gI M) : (HP 142 (9 : Int) (s0) M ∧ True) := by
  exact ⟨Eq.mpr hp_142 (fun k h1 h2 => if e : k = 8 then (by subst e; exact qwn_v 439854918756 (by decide) (by omega)) else Eq.mp hp_142 m0 k h1 (by omega)), trivial⟩
theorem rul_430 : Rul r_430 := by
  refine ⟨fun _ ρ M hm hB hF hG => ?_, fun gi gv hg => (by cases hg)⟩
  have H := cr_430 M (ρ 0) (hB _ List.mem_cons_self) (cvp 142 (x' := (8 : Int)) (y' := ((ρ 0))) (by show 8 + 0 = _; omega) (by show 0 + (1 * ρ 0 + 0) = _; omega) (hm _ List.mem_cons_self)) (by have h := hF _ List.mem_cons_self; have h : 0 ≤ (-439854918757) + (1 * ρ 0 + 0) := h; omega) hG
  obtain ⟨k0, -⟩ := H
  exact ⟨_, List.mem_cons_self, ρ, fun _ _ => rfl, (okM_c (pvp 142 (by show 9 + 0 = _; omega) (by show 0 + (1 * ρ 0 + 0) = _; omega) k0) okM_n), okB_n, okF_n⟩
-- wk8
theorem cr_431 (M : pM) (s0 : Int) (b0 : (-9223372036854775808) ≤ s0 ∧ s0 ≤ 9223372036854775807) (f0 : 0 ≤ ((-1) * s0 + 439854918756)) (f1 : 0 ≤ (s0 - 439854918756)) (hG : gI M) : (HP 140 (8 : Int) (s0) M ∧ True) := by
  exact ⟨Eq.mpr hp_140 ⟨8, by decide, by decide, by rw [show qwn 8 = 439854918756 by decide]; omega⟩, trivial⟩
theorem rul_431 : Rul r_431 := by
  refine ⟨fun _ ρ M hm hB hF hG => ?_, fun gi gv hg => (by cases hg)⟩
  have H := cr_431 M (ρ 0) (hB _ List.mem_cons_self) (by have h := hF _ List.mem_cons_self; have h : 0 ≤ 439854918756 + ((-1) * ρ 0 + 0) := h; omega) (by have h := hF _ (List.mem_cons_of_mem _ List.mem_cons_self); have h : 0 ≤ (-439854918756) + (1 * ρ 0 + 0) := h; omega) hG
  obtain ⟨k0, -⟩ := H
  exact ⟨_, List.mem_cons_self, ρ, fun _ _ => rfl, (okM_c (pvp 140 (by show 8 + 0 = _; omega) (by show 0 + (1 * ρ 0 + 0) = _; omega) k0) okM_n), okB_n, okF_n⟩
-- nk10_0
theorem cr_432 (M : pM) (s0 : Int) (b0 : (-9223372036854775808) ≤ s0 ∧ s0 ≤ 9223372036854775807) (m0 : HP 142 (9 : Int) (s0) M) (f0 : 0 ≤ ((-1) * s0 + 1919902051)) (hG : gI M) : (HP 142 (10 : Int) (s0) M ∧ True) := by
  exact ⟨Eq.mpr hp_142 (fun k h1 h2 => if e : k = 9 then (by subst e; exact qwn_v 1919902052 (by decide) (by omega)) else Eq.mp hp_142 m0 k h1 (by omega)), trivial⟩
theorem rul_432 : Rul r_432 := by
  refine ⟨fun _ ρ M hm hB hF hG => ?_, fun gi gv hg => (by cases hg)⟩
  have H := cr_432 M (ρ 0) (hB _ List.mem_cons_self) (cvp 142 (x' := (9 : Int)) (y' := ((ρ 0))) (by show 9 + 0 = _; omega) (by show 0 + (1 * ρ 0 + 0) = _; omega) (hm _ List.mem_cons_self)) (by have h := hF _ List.mem_cons_self; have h : 0 ≤ 1919902051 + ((-1) * ρ 0 + 0) := h; omega) hG
  obtain ⟨k0, -⟩ := H
  exact ⟨_, List.mem_cons_self, ρ, fun _ _ => rfl, (okM_c (pvp 142 (by show 10 + 0 = _; omega) (by show 0 + (1 * ρ 0 + 0) = _; omega) k0) okM_n), okB_n, okF_n⟩
-- nk10_1
theorem cr_433 (M : pM) (s0 : Int) (b0 : (-9223372036854775808) ≤ s0 ∧ s0 ≤ 9223372036854775807) (m0 : HP 142 (9 : Int) (s0) M) (f0 : 0 ≤ (s0 - 1919902053)) (hG : gI M) : (HP 142 (10 : Int) (s0) M ∧ True) := by
  exact ⟨Eq.mpr hp_142 (fun k h1 h2 => if e : k = 9 then (by subst e; exact qwn_v 1919902052 (by decide) (by omega)) else Eq.mp hp_142 m0 k h1 (by omega)), trivial⟩
theorem rul_433 : Rul r_433 := by
  refine ⟨fun _ ρ M hm hB hF hG => ?_, fun gi gv hg => (by cases hg)⟩
  have H := cr_433 M (ρ 0) (hB _ List.mem_cons_self) (cvp 142 (x' := (9 : Int)) (y' := ((ρ 0))) (by show 9 + 0 = _; omega) (by show 0 + (1 * ρ 0 + 0) = _; omega) (hm _ List.mem_cons_self)) (by have h := hF _ List.mem_cons_self; have h : 0 ≤ (-1919902053) + (1 * ρ 0 + 0) := h; omega) hG
  obtain ⟨k0, -⟩ := H
  exact ⟨_, List.mem_cons_self, ρ, fun _ _ => rfl, (okM_c (pvp 142 (by show 10 + 0 = _; omega) (by show 0 + (1 * ρ 0 + 0) = _; omega) k0) okM_n), okB_n, okF_n⟩
-- wk9
theorem cr_434 (M : pM) (s0 : Int) (b0 : (-9223372036854775808) ≤ s0 ∧ s0 ≤ 9223372036854775807) (f0 : 0 ≤ ((-1) * s0 + 1919902052)) (f1 : 0 ≤ (s0 - 1919902052)) (hG : gI M) : (HP 140 (9 : Int) (s0) M ∧ True) := by
  exact ⟨Eq.mpr hp_140 ⟨9, by decide, by decide, by rw [show qwn 9 = 1919902052 by decide]; omega⟩, trivial⟩
theorem rul_434 : Rul r_434 := by
  refine ⟨fun _ ρ M hm hB hF hG => ?_, fun gi gv hg => (by cases hg)⟩
  have H := cr_434 M (ρ 0) (hB _ List.mem_cons_self) (by have h := hF _ List.mem_cons_self; have h : 0 ≤ 1919902052 + ((-1) * ρ 0 + 0) := h; omega) (by have h := hF _ (List.mem_cons_of_mem _ List.mem_cons_self); have h : 0 ≤ (-1919902052) + (1 * ρ 0 + 0) := h; omega) hG
  obtain ⟨k0, -⟩ := H
  exact ⟨_, List.mem_cons_self, ρ, fun _ _ => rfl, (okM_c (pvp 140 (by show 9 + 0 = _; omega) (by show 0 + (1 * ρ 0 + 0) = _; omega) k0) okM_n), okB_n, okF_n⟩
-- nk11_0
theorem cr_435 (M : pM) (s0 : Int) (b0 : (-9223372036854775808) ≤ s0 ∧ s0 ≤ 9223372036854775807) (m0 : HP 142 (10 : Int) (s0) M) (f0 : 0 ≤ ((-1) * s0 + 113715322316145)) (hG : gI M) : (HP 142 (11 : Int) (s0) M ∧ True) := by
  exact ⟨Eq.mpr hp_142 (fun k h1 h2 => if e : k = 10 then (by subst e; exact qwn_v 113715322316146 (by decide) (by omega)) else Eq.mp hp_142 m0 k h1 (by omega)), trivial⟩
theorem rul_435 : Rul r_435 := by
  refine ⟨fun _ ρ M hm hB hF hG => ?_, fun gi gv hg => (by cases hg)⟩
  have H := cr_435 M (ρ 0) (hB _ List.mem_cons_self) (cvp 142 (x' := (10 : Int)) (y' := ((ρ 0))) (by show 10 + 0 = _; omega) (by show 0 + (1 * ρ 0 + 0) = _; omega) (hm _ List.mem_cons_self)) (by have h := hF _ List.mem_cons_self; have h : 0 ≤ 113715322316145 + ((-1) * ρ 0 + 0) := h; omega) hG
  obtain ⟨k0, -⟩ := H
  exact ⟨_, List.mem_cons_self, ρ, fun _ _ => rfl, (okM_c (pvp 142 (by show 11 + 0 = _; omega) (by show 0 + (1 * ρ 0 + 0) = _; omega) k0) okM_n), okB_n, okF_n⟩
-- nk11_1
theorem cr_436 (M : pM) (s0 : Int) (b0 : (-9223372036854775808) ≤ s0 ∧ s0 ≤ 9223372036854775807) (m0 : HP 142 (10 : Int) (s0) M) (f0 : 0 ≤ (s0 - 113715322316147)) (hG : gI M) : (HP 142 (11 : Int) (s0) M ∧ True) := by
  exact ⟨Eq.mpr hp_142 (fun k h1 h2 => if e : k = 10 then (by subst e; exact qwn_v 113715322316146 (by decide) (by omega)) else Eq.mp hp_142 m0 k h1 (by omega)), trivial⟩
theorem rul_436 : Rul r_436 := by
  refine ⟨fun _ ρ M hm hB hF hG => ?_, fun gi gv hg => (by cases hg)⟩
  have H := cr_436 M (ρ 0) (hB _ List.mem_cons_self) (cvp 142 (x' := (10 : Int)) (y' := ((ρ 0))) (by show 10 + 0 = _; omega) (by show 0 + (1 * ρ 0 + 0) = _; omega) (hm _ List.mem_cons_self)) (by have h := hF _ List.mem_cons_self; have h : 0 ≤ (-113715322316147) + (1 * ρ 0 + 0) := h; omega) hG
  obtain ⟨k0, -⟩ := H
  exact ⟨_, List.mem_cons_self, ρ, fun _ _ => rfl, (okM_c (pvp 142 (by show 11 + 0 = _; omega) (by show 0 + (1 * ρ 0 + 0) = _; omega) k0) okM_n), okB_n, okF_n⟩
-- wk10
theorem cr_437 (M : pM) (s0 : Int) (b0 : (-9223372036854775808) ≤ s0 ∧ s0 ≤ 9223372036854775807) (f0 : 0 ≤ ((-1) * s0 + 113715322316146)) (f1 : 0 ≤ (s0 - 113715322316146)) (hG : gI M) : (HP 140 (10 : Int) (s0) M ∧ True) := by
  exact ⟨Eq.mpr hp_140 ⟨10, by decide, by decide, by rw [show qwn 10 = 113715322316146 by decide]; omega⟩, trivial⟩
theorem rul_437 : Rul r_437 := by
  refine ⟨fun _ ρ M hm hB hF hG => ?_, fun gi gv hg => (by cases hg)⟩
  have H := cr_437 M (ρ 0) (hB _ List.mem_cons_self) (by have h := hF _ List.mem_cons_self; have h : 0 ≤ 113715322316146 + ((-1) * ρ 0 + 0) := h; omega) (by have h := hF _ (List.mem_cons_of_mem _ List.mem_cons_self); have h : 0 ≤ (-113715322316146) + (1 * ρ 0 + 0) := h; omega) hG
  obtain ⟨k0, -⟩ := H
  exact ⟨_, List.mem_cons_self, ρ, fun _ _ => rfl, (okM_c (pvp 140 (by show 10 + 0 = _; omega) (by show 0 + (1 * ρ 0 + 0) = _; omega) k0) okM_n), okB_n, okF_n⟩
-- nk12_0
theorem cr_438 (M : pM) (s0 : Int) (b0 : (-9223372036854775808) ≤ s0 ∧ s0 ≤ 9223372036854775807) (m0 : HP 142 (11 : Int) (s0) M) (f0 : 0 ≤ ((-1) * s0 + 1936289386)) (hG : gI M) : (HP 142 (12 : Int) (s0) M ∧ True) := by
  exact ⟨Eq.mpr hp_142 (fun k h1 h2 => if e : k = 11 then (by subst e; exact qwn_v 1936289387 (by decide) (by omega)) else Eq.mp hp_142 m0 k h1 (by omega)), trivial⟩
theorem rul_438 : Rul r_438 := by
  refine ⟨fun _ ρ M hm hB hF hG => ?_, fun gi gv hg => (by cases hg)⟩
  have H := cr_438 M (ρ 0) (hB _ List.mem_cons_self) (cvp 142 (x' := (11 : Int)) (y' := ((ρ 0))) (by show 11 + 0 = _; omega) (by show 0 + (1 * ρ 0 + 0) = _; omega) (hm _ List.mem_cons_self)) (by have h := hF _ List.mem_cons_self; have h : 0 ≤ 1936289386 + ((-1) * ρ 0 + 0) := h; omega) hG
  obtain ⟨k0, -⟩ := H
  exact ⟨_, List.mem_cons_self, ρ, fun _ _ => rfl, (okM_c (pvp 142 (by show 12 + 0 = _; omega) (by show 0 + (1 * ρ 0 + 0) = _; omega) k0) okM_n), okB_n, okF_n⟩
-- nk12_1
theorem cr_439 (M : pM) (s0 : Int) (b0 : (-9223372036854775808) ≤ s0 ∧ s0 ≤ 9223372036854775807) (m0 : HP 142 (11 : Int) (s0) M) (f0 : 0 ≤ (s0 - 1936289388)) (hG : gI M) : (HP 142 (12 : Int) (s0) M ∧ True) := by
  exact ⟨Eq.mpr hp_142 (fun k h1 h2 => if e : k = 11 then (by subst e; exact qwn_v 1936289387 (by decide) (by omega)) else Eq.mp hp_142 m0 k h1 (by omega)), trivial⟩
theorem rul_439 : Rul r_439 := by
  refine ⟨fun _ ρ M hm hB hF hG => ?_, fun gi gv hg => (by cases hg)⟩
  have H := cr_439 M (ρ 0) (hB _ List.mem_cons_self) (cvp 142 (x' := (11 : Int)) (y' := ((ρ 0))) (by show 11 + 0 = _; omega) (by show 0 + (1 * ρ 0 + 0) = _; omega) (hm _ List.mem_cons_self)) (by have h := hF _ List.mem_cons_self; have h : 0 ≤ (-1936289388) + (1 * ρ 0 + 0) := h; omega) hG
  obtain ⟨k0, -⟩ := H
  exact ⟨_, List.mem_cons_self, ρ, fun _ _ => rfl, (okM_c (pvp 142 (by show 12 + 0 = _; omega) (by show 0 + (1 * ρ 0 + 0) = _; omega) k0) okM_n), okB_n, okF_n⟩
-- wk11
theorem cr_440 (M : pM) (s0 : Int) (b0 : (-9223372036854775808) ≤ s0 ∧ s0 ≤ 9223372036854775807) (f0 : 0 ≤ ((-1) * s0 + 1936289387)) (f1 : 0 ≤ (s0 - 1936289387)) (hG : gI M) : (HP 140 (11 : Int) (s0) M ∧ True) := by
  exact ⟨Eq.mpr hp_140 ⟨11, by decide, by decide, by rw [show qwn 11 = 1936289387 by decide]; omega⟩, trivial⟩
theorem rul_440 : Rul r_440 := by
  refine ⟨fun _ ρ M hm hB hF hG => ?_, fun gi gv hg => (by cases hg)⟩
  have H := cr_440 M (ρ 0) (hB _ List.mem_cons_self) (by have h := hF _ List.mem_cons_self; have h : 0 ≤ 1936289387 + ((-1) * ρ 0 + 0) := h; omega) (by have h := hF _ (List.mem_cons_of_mem _ List.mem_cons_self); have h : 0 ≤ (-1936289387) + (1 * ρ 0 + 0) := h; omega) hG
  obtain ⟨k0, -⟩ := H
  exact ⟨_, List.mem_cons_self, ρ, fun _ _ => rfl, (okM_c (pvp 140 (by show 11 + 0 = _; omega) (by show 0 + (1 * ρ 0 + 0) = _; omega) k0) okM_n), okB_n, okF_n⟩
-- nk13_0
theorem cr_441 (M : pM) (s0 : Int) (b0 : (-9223372036854775808) ≤ s0 ∧ s0 ≤ 9223372036854775807) (m0 : HP 142 (12 : Int) (s0) M) (f0 : 0 ≤ ((-1) * s0 + 7521414230229344623)) (hG : gI M) : (HP 142 (13 : Int) (s0) M ∧ True) := by
  exact ⟨Eq.mpr hp_142 (fun k h1 h2 => if e : k = 12 then (by subst e; exact qwn_v 7521414230229344624 (by decide) (by omega)) else Eq.mp hp_142 m0 k h1 (by omega)), trivial⟩
theorem rul_441 : Rul r_441 := by
  refine ⟨fun _ ρ M hm hB hF hG => ?_, fun gi gv hg => (by cases hg)⟩
  have H := cr_441 M (ρ 0) (hB _ List.mem_cons_self) (cvp 142 (x' := (12 : Int)) (y' := ((ρ 0))) (by show 12 + 0 = _; omega) (by show 0 + (1 * ρ 0 + 0) = _; omega) (hm _ List.mem_cons_self)) (by have h := hF _ List.mem_cons_self; have h : 0 ≤ 7521414230229344623 + ((-1) * ρ 0 + 0) := h; omega) hG
  obtain ⟨k0, -⟩ := H
  exact ⟨_, List.mem_cons_self, ρ, fun _ _ => rfl, (okM_c (pvp 142 (by show 13 + 0 = _; omega) (by show 0 + (1 * ρ 0 + 0) = _; omega) k0) okM_n), okB_n, okF_n⟩
-- nk13_1
theorem cr_442 (M : pM) (s0 : Int) (b0 : (-9223372036854775808) ≤ s0 ∧ s0 ≤ 9223372036854775807) (m0 : HP 142 (12 : Int) (s0) M) (f0 : 0 ≤ (s0 - 7521414230229344625)) (hG : gI M) : (HP 142 (13 : Int) (s0) M ∧ True) := by
  exact ⟨Eq.mpr hp_142 (fun k h1 h2 => if e : k = 12 then (by subst e; exact qwn_v 7521414230229344624 (by decide) (by omega)) else Eq.mp hp_142 m0 k h1 (by omega)), trivial⟩
theorem rul_442 : Rul r_442 := by
  refine ⟨fun _ ρ M hm hB hF hG => ?_, fun gi gv hg => (by cases hg)⟩
  have H := cr_442 M (ρ 0) (hB _ List.mem_cons_self) (cvp 142 (x' := (12 : Int)) (y' := ((ρ 0))) (by show 12 + 0 = _; omega) (by show 0 + (1 * ρ 0 + 0) = _; omega) (hm _ List.mem_cons_self)) (by have h := hF _ List.mem_cons_self; have h : 0 ≤ (-7521414230229344625) + (1 * ρ 0 + 0) := h; omega) hG
  obtain ⟨k0, -⟩ := H
  exact ⟨_, List.mem_cons_self, ρ, fun _ _ => rfl, (okM_c (pvp 142 (by show 13 + 0 = _; omega) (by show 0 + (1 * ρ 0 + 0) = _; omega) k0) okM_n), okB_n, okF_n⟩
-- wk12
theorem cr_443 (M : pM) (s0 : Int) (b0 : (-9223372036854775808) ≤ s0 ∧ s0 ≤ 9223372036854775807) (f0 : 0 ≤ ((-1) * s0 + 7521414230229344624)) (f1 : 0 ≤ (s0 - 7521414230229344624)) (hG : gI M) : (HP 140 (12 : Int) (s0) M ∧ True) := by
  exact ⟨Eq.mpr hp_140 ⟨12, by decide, by decide, by rw [show qwn 12 = 7521414230229344624 by decide]; omega⟩, trivial⟩
theorem rul_443 : Rul r_443 := by
  refine ⟨fun _ ρ M hm hB hF hG => ?_, fun gi gv hg => (by cases hg)⟩
  have H := cr_443 M (ρ 0) (hB _ List.mem_cons_self) (by have h := hF _ List.mem_cons_self; have h : 0 ≤ 7521414230229344624 + ((-1) * ρ 0 + 0) := h; omega) (by have h := hF _ (List.mem_cons_of_mem _ List.mem_cons_self); have h : 0 ≤ (-7521414230229344624) + (1 * ρ 0 + 0) := h; omega) hG
  obtain ⟨k0, -⟩ := H
  exact ⟨_, List.mem_cons_self, ρ, fun _ _ => rfl, (okM_c (pvp 140 (by show 12 + 0 = _; omega) (by show 0 + (1 * ρ 0 + 0) = _; omega) k0) okM_n), okB_n, okF_n⟩
-- nk14_0
theorem cr_444 (M : pM) (s0 : Int) (b0 : (-9223372036854775808) ≤ s0 ∧ s0 ≤ 9223372036854775807) (m0 : HP 142 (13 : Int) (s0) M) (f0 : 0 ≤ ((-1) * s0 + 495589487204)) (hG : gI M) : (HP 142 (14 : Int) (s0) M ∧ True) := by
  exact ⟨Eq.mpr hp_142 (fun k h1 h2 => if e : k = 13 then (by subst e; exact qwn_v 495589487205 (by decide) (by omega)) else Eq.mp hp_142 m0 k h1 (by omega)), trivial⟩
theorem rul_444 : Rul r_444 := by
  refine ⟨fun _ ρ M hm hB hF hG => ?_, fun gi gv hg => (by cases hg)⟩
  have H := cr_444 M (ρ 0) (hB _ List.mem_cons_self) (cvp 142 (x' := (13 : Int)) (y' := ((ρ 0))) (by show 13 + 0 = _; omega) (by show 0 + (1 * ρ 0 + 0) = _; omega) (hm _ List.mem_cons_self)) (by have h := hF _ List.mem_cons_self; have h : 0 ≤ 495589487204 + ((-1) * ρ 0 + 0) := h; omega) hG
  obtain ⟨k0, -⟩ := H
  exact ⟨_, List.mem_cons_self, ρ, fun _ _ => rfl, (okM_c (pvp 142 (by show 14 + 0 = _; omega) (by show 0 + (1 * ρ 0 + 0) = _; omega) k0) okM_n), okB_n, okF_n⟩
-- nk14_1
theorem cr_445 (M : pM) (s0 : Int) (b0 : (-9223372036854775808) ≤ s0 ∧ s0 ≤ 9223372036854775807) (m0 : HP 142 (13 : Int) (s0) M) (f0 : 0 ≤ (s0 - 495589487206)) (hG : gI M) : (HP 142 (14 : Int) (s0) M ∧ True) := by
  exact ⟨Eq.mpr hp_142 (fun k h1 h2 => if e : k = 13 then (by subst e; exact qwn_v 495589487205 (by decide) (by omega)) else Eq.mp hp_142 m0 k h1 (by omega)), trivial⟩
theorem rul_445 : Rul r_445 := by
  refine ⟨fun _ ρ M hm hB hF hG => ?_, fun gi gv hg => (by cases hg)⟩
  have H := cr_445 M (ρ 0) (hB _ List.mem_cons_self) (cvp 142 (x' := (13 : Int)) (y' := ((ρ 0))) (by show 13 + 0 = _; omega) (by show 0 + (1 * ρ 0 + 0) = _; omega) (hm _ List.mem_cons_self)) (by have h := hF _ List.mem_cons_self; have h : 0 ≤ (-495589487206) + (1 * ρ 0 + 0) := h; omega) hG
  obtain ⟨k0, -⟩ := H
  exact ⟨_, List.mem_cons_self, ρ, fun _ _ => rfl, (okM_c (pvp 142 (by show 14 + 0 = _; omega) (by show 0 + (1 * ρ 0 + 0) = _; omega) k0) okM_n), okB_n, okF_n⟩
-- wk13
theorem cr_446 (M : pM) (s0 : Int) (b0 : (-9223372036854775808) ≤ s0 ∧ s0 ≤ 9223372036854775807) (f0 : 0 ≤ ((-1) * s0 + 495589487205)) (f1 : 0 ≤ (s0 - 495589487205)) (hG : gI M) : (HP 140 (13 : Int) (s0) M ∧ True) := by
  exact ⟨Eq.mpr hp_140 ⟨13, by decide, by decide, by rw [show qwn 13 = 495589487205 by decide]; omega⟩, trivial⟩
theorem rul_446 : Rul r_446 := by
  refine ⟨fun _ ρ M hm hB hF hG => ?_, fun gi gv hg => (by cases hg)⟩
  have H := cr_446 M (ρ 0) (hB _ List.mem_cons_self) (by have h := hF _ List.mem_cons_self; have h : 0 ≤ 495589487205 + ((-1) * ρ 0 + 0) := h; omega) (by have h := hF _ (List.mem_cons_of_mem _ List.mem_cons_self); have h : 0 ≤ (-495589487205) + (1 * ρ 0 + 0) := h; omega) hG
  obtain ⟨k0, -⟩ := H
  exact ⟨_, List.mem_cons_self, ρ, fun _ _ => rfl, (okM_c (pvp 140 (by show 13 + 0 = _; omega) (by show 0 + (1 * ρ 0 + 0) = _; omega) k0) okM_n), okB_n, okF_n⟩
-- nk15_0
theorem cr_447 (M : pM) (s0 : Int) (b0 : (-9223372036854775808) ≤ s0 ∧ s0 ≤ 9223372036854775807) (m0 : HP 142 (14 : Int) (s0) M) (f0 : 0 ≤ ((-1) * s0 + 6385251)) (hG : gI M) : (HP 142 (15 : Int) (s0) M ∧ True) := by
  exact ⟨Eq.mpr hp_142 (fun k h1 h2 => if e : k = 14 then (by subst e; exact qwn_v 6385252 (by decide) (by omega)) else Eq.mp hp_142 m0 k h1 (by omega)), trivial⟩
theorem rul_447 : Rul r_447 := by
  refine ⟨fun _ ρ M hm hB hF hG => ?_, fun gi gv hg => (by cases hg)⟩
  have H := cr_447 M (ρ 0) (hB _ List.mem_cons_self) (cvp 142 (x' := (14 : Int)) (y' := ((ρ 0))) (by show 14 + 0 = _; omega) (by show 0 + (1 * ρ 0 + 0) = _; omega) (hm _ List.mem_cons_self)) (by have h := hF _ List.mem_cons_self; have h : 0 ≤ 6385251 + ((-1) * ρ 0 + 0) := h; omega) hG
  obtain ⟨k0, -⟩ := H
  exact ⟨_, List.mem_cons_self, ρ, fun _ _ => rfl, (okM_c (pvp 142 (by show 15 + 0 = _; omega) (by show 0 + (1 * ρ 0 + 0) = _; omega) k0) okM_n), okB_n, okF_n⟩
-- nk15_1
theorem cr_448 (M : pM) (s0 : Int) (b0 : (-9223372036854775808) ≤ s0 ∧ s0 ≤ 9223372036854775807) (m0 : HP 142 (14 : Int) (s0) M) (f0 : 0 ≤ (s0 - 6385253)) (hG : gI M) : (HP 142 (15 : Int) (s0) M ∧ True) := by
  exact ⟨Eq.mpr hp_142 (fun k h1 h2 => if e : k = 14 then (by subst e; exact qwn_v 6385252 (by decide) (by omega)) else Eq.mp hp_142 m0 k h1 (by omega)), trivial⟩
theorem rul_448 : Rul r_448 := by
  refine ⟨fun _ ρ M hm hB hF hG => ?_, fun gi gv hg => (by cases hg)⟩
  have H := cr_448 M (ρ 0) (hB _ List.mem_cons_self) (cvp 142 (x' := (14 : Int)) (y' := ((ρ 0))) (by show 14 + 0 = _; omega) (by show 0 + (1 * ρ 0 + 0) = _; omega) (hm _ List.mem_cons_self)) (by have h := hF _ List.mem_cons_self; have h : 0 ≤ (-6385253) + (1 * ρ 0 + 0) := h; omega) hG
  obtain ⟨k0, -⟩ := H
  exact ⟨_, List.mem_cons_self, ρ, fun _ _ => rfl, (okM_c (pvp 142 (by show 15 + 0 = _; omega) (by show 0 + (1 * ρ 0 + 0) = _; omega) k0) okM_n), okB_n, okF_n⟩
-- wk14
theorem cr_449 (M : pM) (s0 : Int) (b0 : (-9223372036854775808) ≤ s0 ∧ s0 ≤ 9223372036854775807) (f0 : 0 ≤ ((-1) * s0 + 6385252)) (f1 : 0 ≤ (s0 - 6385252)) (hG : gI M) : (HP 140 (14 : Int) (s0) M ∧ True) := by
  exact ⟨Eq.mpr hp_140 ⟨14, by decide, by decide, by rw [show qwn 14 = 6385252 by decide]; omega⟩, trivial⟩
theorem rul_449 : Rul r_449 := by
  refine ⟨fun _ ρ M hm hB hF hG => ?_, fun gi gv hg => (by cases hg)⟩
  have H := cr_449 M (ρ 0) (hB _ List.mem_cons_self) (by have h := hF _ List.mem_cons_self; have h : 0 ≤ 6385252 + ((-1) * ρ 0 + 0) := h; omega) (by have h := hF _ (List.mem_cons_of_mem _ List.mem_cons_self); have h : 0 ≤ (-6385252) + (1 * ρ 0 + 0) := h; omega) hG
  obtain ⟨k0, -⟩ := H
  exact ⟨_, List.mem_cons_self, ρ, fun _ _ => rfl, (okM_c (pvp 140 (by show 14 + 0 = _; omega) (by show 0 + (1 * ρ 0 + 0) = _; omega) k0) okM_n), okB_n, okF_n⟩
-- nk16_0
theorem cr_450 (M : pM) (s0 : Int) (b0 : (-9223372036854775808) ≤ s0 ∧ s0 ≤ 9223372036854775807) (m0 : HP 142 (15 : Int) (s0) M) (f0 : 0 ≤ ((-1) * s0 + 28529)) (hG : gI M) : (HP 142 (16 : Int) (s0) M ∧ True) := by
  exact ⟨Eq.mpr hp_142 (fun k h1 h2 => if e : k = 15 then (by subst e; exact qwn_v 28530 (by decide) (by omega)) else Eq.mp hp_142 m0 k h1 (by omega)), trivial⟩
theorem rul_450 : Rul r_450 := by
  refine ⟨fun _ ρ M hm hB hF hG => ?_, fun gi gv hg => (by cases hg)⟩
  have H := cr_450 M (ρ 0) (hB _ List.mem_cons_self) (cvp 142 (x' := (15 : Int)) (y' := ((ρ 0))) (by show 15 + 0 = _; omega) (by show 0 + (1 * ρ 0 + 0) = _; omega) (hm _ List.mem_cons_self)) (by have h := hF _ List.mem_cons_self; have h : 0 ≤ 28529 + ((-1) * ρ 0 + 0) := h; omega) hG
  obtain ⟨k0, -⟩ := H
  exact ⟨_, List.mem_cons_self, ρ, fun _ _ => rfl, (okM_c (pvp 142 (by show 16 + 0 = _; omega) (by show 0 + (1 * ρ 0 + 0) = _; omega) k0) okM_n), okB_n, okF_n⟩
-- nk16_1
theorem cr_451 (M : pM) (s0 : Int) (b0 : (-9223372036854775808) ≤ s0 ∧ s0 ≤ 9223372036854775807) (m0 : HP 142 (15 : Int) (s0) M) (f0 : 0 ≤ (s0 - 28531)) (hG : gI M) : (HP 142 (16 : Int) (s0) M ∧ True) := by
  exact ⟨Eq.mpr hp_142 (fun k h1 h2 => if e : k = 15 then (by subst e; exact qwn_v 28530 (by decide) (by omega)) else Eq.mp hp_142 m0 k h1 (by omega)), trivial⟩
theorem rul_451 : Rul r_451 := by
  refine ⟨fun _ ρ M hm hB hF hG => ?_, fun gi gv hg => (by cases hg)⟩
  have H := cr_451 M (ρ 0) (hB _ List.mem_cons_self) (cvp 142 (x' := (15 : Int)) (y' := ((ρ 0))) (by show 15 + 0 = _; omega) (by show 0 + (1 * ρ 0 + 0) = _; omega) (hm _ List.mem_cons_self)) (by have h := hF _ List.mem_cons_self; have h : 0 ≤ (-28531) + (1 * ρ 0 + 0) := h; omega) hG
  obtain ⟨k0, -⟩ := H
  exact ⟨_, List.mem_cons_self, ρ, fun _ _ => rfl, (okM_c (pvp 142 (by show 16 + 0 = _; omega) (by show 0 + (1 * ρ 0 + 0) = _; omega) k0) okM_n), okB_n, okF_n⟩
-- wk15
theorem cr_452 (M : pM) (s0 : Int) (b0 : (-9223372036854775808) ≤ s0 ∧ s0 ≤ 9223372036854775807) (f0 : 0 ≤ ((-1) * s0 + 28530)) (f1 : 0 ≤ (s0 - 28530)) (hG : gI M) : (HP 140 (15 : Int) (s0) M ∧ True) := by
  exact ⟨Eq.mpr hp_140 ⟨15, by decide, by decide, by rw [show qwn 15 = 28530 by decide]; omega⟩, trivial⟩
theorem rul_452 : Rul r_452 := by
  refine ⟨fun _ ρ M hm hB hF hG => ?_, fun gi gv hg => (by cases hg)⟩
  have H := cr_452 M (ρ 0) (hB _ List.mem_cons_self) (by have h := hF _ List.mem_cons_self; have h : 0 ≤ 28530 + ((-1) * ρ 0 + 0) := h; omega) (by have h := hF _ (List.mem_cons_of_mem _ List.mem_cons_self); have h : 0 ≤ (-28530) + (1 * ρ 0 + 0) := h; omega) hG
  obtain ⟨k0, -⟩ := H
  exact ⟨_, List.mem_cons_self, ρ, fun _ _ => rfl, (okM_c (pvp 140 (by show 15 + 0 = _; omega) (by show 0 + (1 * ρ 0 + 0) = _; omega) k0) okM_n), okB_n, okF_n⟩
-- nk17_0
theorem cr_453 (M : pM) (s0 : Int) (b0 : (-9223372036854775808) ≤ s0 ∧ s0 ≤ 9223372036854775807) (m0 : HP 142 (16 : Int) (s0) M) (f0 : 0 ≤ ((-1) * s0 + 7237491)) (hG : gI M) : (HP 142 (17 : Int) (s0) M ∧ True) := by
  exact ⟨Eq.mpr hp_142 (fun k h1 h2 => if e : k = 16 then (by subst e; exact qwn_v 7237492 (by decide) (by omega)) else Eq.mp hp_142 m0 k h1 (by omega)), trivial⟩
theorem rul_453 : Rul r_453 := by
  refine ⟨fun _ ρ M hm hB hF hG => ?_, fun gi gv hg => (by cases hg)⟩
  have H := cr_453 M (ρ 0) (hB _ List.mem_cons_self) (cvp 142 (x' := (16 : Int)) (y' := ((ρ 0))) (by show 16 + 0 = _; omega) (by show 0 + (1 * ρ 0 + 0) = _; omega) (hm _ List.mem_cons_self)) (by have h := hF _ List.mem_cons_self; have h : 0 ≤ 7237491 + ((-1) * ρ 0 + 0) := h; omega) hG
  obtain ⟨k0, -⟩ := H
  exact ⟨_, List.mem_cons_self, ρ, fun _ _ => rfl, (okM_c (pvp 142 (by show 17 + 0 = _; omega) (by show 0 + (1 * ρ 0 + 0) = _; omega) k0) okM_n), okB_n, okF_n⟩
-- nk17_1
theorem cr_454 (M : pM) (s0 : Int) (b0 : (-9223372036854775808) ≤ s0 ∧ s0 ≤ 9223372036854775807) (m0 : HP 142 (16 : Int) (s0) M) (f0 : 0 ≤ (s0 - 7237493)) (hG : gI M) : (HP 142 (17 : Int) (s0) M ∧ True) := by
  exact ⟨Eq.mpr hp_142 (fun k h1 h2 => if e : k = 16 then (by subst e; exact qwn_v 7237492 (by decide) (by omega)) else Eq.mp hp_142 m0 k h1 (by omega)), trivial⟩
theorem rul_454 : Rul r_454 := by
  refine ⟨fun _ ρ M hm hB hF hG => ?_, fun gi gv hg => (by cases hg)⟩
  have H := cr_454 M (ρ 0) (hB _ List.mem_cons_self) (cvp 142 (x' := (16 : Int)) (y' := ((ρ 0))) (by show 16 + 0 = _; omega) (by show 0 + (1 * ρ 0 + 0) = _; omega) (hm _ List.mem_cons_self)) (by have h := hF _ List.mem_cons_self; have h : 0 ≤ (-7237493) + (1 * ρ 0 + 0) := h; omega) hG
  obtain ⟨k0, -⟩ := H
  exact ⟨_, List.mem_cons_self, ρ, fun _ _ => rfl, (okM_c (pvp 142 (by show 17 + 0 = _; omega) (by show 0 + (1 * ρ 0 + 0) = _; omega) k0) okM_n), okB_n, okF_n⟩
-- wk16
theorem cr_455 (M : pM) (s0 : Int) (b0 : (-9223372036854775808) ≤ s0 ∧ s0 ≤ 9223372036854775807) (f0 : 0 ≤ ((-1) * s0 + 7237492)) (f1 : 0 ≤ (s0 - 7237492)) (hG : gI M) : (HP 140 (16 : Int) (s0) M ∧ True) := by
  exact ⟨Eq.mpr hp_140 ⟨16, by decide, by decide, by rw [show qwn 16 = 7237492 by decide]; omega⟩, trivial⟩
theorem rul_455 : Rul r_455 := by
  refine ⟨fun _ ρ M hm hB hF hG => ?_, fun gi gv hg => (by cases hg)⟩
  have H := cr_455 M (ρ 0) (hB _ List.mem_cons_self) (by have h := hF _ List.mem_cons_self; have h : 0 ≤ 7237492 + ((-1) * ρ 0 + 0) := h; omega) (by have h := hF _ (List.mem_cons_of_mem _ List.mem_cons_self); have h : 0 ≤ (-7237492) + (1 * ρ 0 + 0) := h; omega) hG
  obtain ⟨k0, -⟩ := H
  exact ⟨_, List.mem_cons_self, ρ, fun _ _ => rfl, (okM_c (pvp 140 (by show 16 + 0 = _; omega) (by show 0 + (1 * ρ 0 + 0) = _; omega) k0) okM_n), okB_n, okF_n⟩
-- nk18_0
theorem cr_456 (M : pM) (s0 : Int) (b0 : (-9223372036854775808) ≤ s0 ∧ s0 ≤ 9223372036854775807) (m0 : HP 142 (17 : Int) (s0) M) (f0 : 0 ≤ ((-1) * s0 + 1685024356)) (hG : gI M) : (HP 142 (18 : Int) (s0) M ∧ True) := by
  exact ⟨Eq.mpr hp_142 (fun k h1 h2 => if e : k = 17 then (by subst e; exact qwn_v 1685024357 (by decide) (by omega)) else Eq.mp hp_142 m0 k h1 (by omega)), trivial⟩
theorem rul_456 : Rul r_456 := by
  refine ⟨fun _ ρ M hm hB hF hG => ?_, fun gi gv hg => (by cases hg)⟩
  have H := cr_456 M (ρ 0) (hB _ List.mem_cons_self) (cvp 142 (x' := (17 : Int)) (y' := ((ρ 0))) (by show 17 + 0 = _; omega) (by show 0 + (1 * ρ 0 + 0) = _; omega) (hm _ List.mem_cons_self)) (by have h := hF _ List.mem_cons_self; have h : 0 ≤ 1685024356 + ((-1) * ρ 0 + 0) := h; omega) hG
  obtain ⟨k0, -⟩ := H
  exact ⟨_, List.mem_cons_self, ρ, fun _ _ => rfl, (okM_c (pvp 142 (by show 18 + 0 = _; omega) (by show 0 + (1 * ρ 0 + 0) = _; omega) k0) okM_n), okB_n, okF_n⟩
-- nk18_1
theorem cr_457 (M : pM) (s0 : Int) (b0 : (-9223372036854775808) ≤ s0 ∧ s0 ≤ 9223372036854775807) (m0 : HP 142 (17 : Int) (s0) M) (f0 : 0 ≤ (s0 - 1685024358)) (hG : gI M) : (HP 142 (18 : Int) (s0) M ∧ True) := by
  exact ⟨Eq.mpr hp_142 (fun k h1 h2 => if e : k = 17 then (by subst e; exact qwn_v 1685024357 (by decide) (by omega)) else Eq.mp hp_142 m0 k h1 (by omega)), trivial⟩
theorem rul_457 : Rul r_457 := by
  refine ⟨fun _ ρ M hm hB hF hG => ?_, fun gi gv hg => (by cases hg)⟩
  have H := cr_457 M (ρ 0) (hB _ List.mem_cons_self) (cvp 142 (x' := (17 : Int)) (y' := ((ρ 0))) (by show 17 + 0 = _; omega) (by show 0 + (1 * ρ 0 + 0) = _; omega) (hm _ List.mem_cons_self)) (by have h := hF _ List.mem_cons_self; have h : 0 ≤ (-1685024358) + (1 * ρ 0 + 0) := h; omega) hG
  obtain ⟨k0, -⟩ := H
  exact ⟨_, List.mem_cons_self, ρ, fun _ _ => rfl, (okM_c (pvp 142 (by show 18 + 0 = _; omega) (by show 0 + (1 * ρ 0 + 0) = _; omega) k0) okM_n), okB_n, okF_n⟩
-- wk17
theorem cr_458 (M : pM) (s0 : Int) (b0 : (-9223372036854775808) ≤ s0 ∧ s0 ≤ 9223372036854775807) (f0 : 0 ≤ ((-1) * s0 + 1685024357)) (f1 : 0 ≤ (s0 - 1685024357)) (hG : gI M) : (HP 140 (17 : Int) (s0) M ∧ True) := by
  exact ⟨Eq.mpr hp_140 ⟨17, by decide, by decide, by rw [show qwn 17 = 1685024357 by decide]; omega⟩, trivial⟩
theorem rul_458 : Rul r_458 := by
  refine ⟨fun _ ρ M hm hB hF hG => ?_, fun gi gv hg => (by cases hg)⟩
  have H := cr_458 M (ρ 0) (hB _ List.mem_cons_self) (by have h := hF _ List.mem_cons_self; have h : 0 ≤ 1685024357 + ((-1) * ρ 0 + 0) := h; omega) (by have h := hF _ (List.mem_cons_of_mem _ List.mem_cons_self); have h : 0 ≤ (-1685024357) + (1 * ρ 0 + 0) := h; omega) hG
  obtain ⟨k0, -⟩ := H
  exact ⟨_, List.mem_cons_self, ρ, fun _ _ => rfl, (okM_c (pvp 140 (by show 17 + 0 = _; omega) (by show 0 + (1 * ρ 0 + 0) = _; omega) k0) okM_n), okB_n, okF_n⟩
-- nk19_0
theorem cr_459 (M : pM) (s0 : Int) (b0 : (-9223372036854775808) ≤ s0 ∧ s0 ≤ 9223372036854775807) (m0 : HP 142 (18 : Int) (s0) M) (f0 : 0 ≤ ((-1) * s0 + 1818584946)) (hG : gI M) : (HP 142 (19 : Int) (s0) M ∧ True) := by
  exact ⟨Eq.mpr hp_142 (fun k h1 h2 => if e : k = 18 then (by subst e; exact qwn_v 1818584947 (by decide) (by omega)) else Eq.mp hp_142 m0 k h1 (by omega)), trivial⟩
theorem rul_459 : Rul r_459 := by
  refine ⟨fun _ ρ M hm hB hF hG => ?_, fun gi gv hg => (by cases hg)⟩
  have H := cr_459 M (ρ 0) (hB _ List.mem_cons_self) (cvp 142 (x' := (18 : Int)) (y' := ((ρ 0))) (by show 18 + 0 = _; omega) (by show 0 + (1 * ρ 0 + 0) = _; omega) (hm _ List.mem_cons_self)) (by have h := hF _ List.mem_cons_self; have h : 0 ≤ 1818584946 + ((-1) * ρ 0 + 0) := h; omega) hG
  obtain ⟨k0, -⟩ := H
  exact ⟨_, List.mem_cons_self, ρ, fun _ _ => rfl, (okM_c (pvp 142 (by show 19 + 0 = _; omega) (by show 0 + (1 * ρ 0 + 0) = _; omega) k0) okM_n), okB_n, okF_n⟩
-- nk19_1
theorem cr_460 (M : pM) (s0 : Int) (b0 : (-9223372036854775808) ≤ s0 ∧ s0 ≤ 9223372036854775807) (m0 : HP 142 (18 : Int) (s0) M) (f0 : 0 ≤ (s0 - 1818584948)) (hG : gI M) : (HP 142 (19 : Int) (s0) M ∧ True) := by
  exact ⟨Eq.mpr hp_142 (fun k h1 h2 => if e : k = 18 then (by subst e; exact qwn_v 1818584947 (by decide) (by omega)) else Eq.mp hp_142 m0 k h1 (by omega)), trivial⟩
theorem rul_460 : Rul r_460 := by
  refine ⟨fun _ ρ M hm hB hF hG => ?_, fun gi gv hg => (by cases hg)⟩
  have H := cr_460 M (ρ 0) (hB _ List.mem_cons_self) (cvp 142 (x' := (18 : Int)) (y' := ((ρ 0))) (by show 18 + 0 = _; omega) (by show 0 + (1 * ρ 0 + 0) = _; omega) (hm _ List.mem_cons_self)) (by have h := hF _ List.mem_cons_self; have h : 0 ≤ (-1818584948) + (1 * ρ 0 + 0) := h; omega) hG
  obtain ⟨k0, -⟩ := H
  exact ⟨_, List.mem_cons_self, ρ, fun _ _ => rfl, (okM_c (pvp 142 (by show 19 + 0 = _; omega) (by show 0 + (1 * ρ 0 + 0) = _; omega) k0) okM_n), okB_n, okF_n⟩
-- wk18
theorem cr_461 (M : pM) (s0 : Int) (b0 : (-9223372036854775808) ≤ s0 ∧ s0 ≤ 9223372036854775807) (f0 : 0 ≤ ((-1) * s0 + 1818584947)) (f1 : 0 ≤ (s0 - 1818584947)) (hG : gI M) : (HP 140 (18 : Int) (s0) M ∧ True) := by
  exact ⟨Eq.mpr hp_140 ⟨18, by decide, by decide, by rw [show qwn 18 = 1818584947 by decide]; omega⟩, trivial⟩
theorem rul_461 : Rul r_461 := by
  refine ⟨fun _ ρ M hm hB hF hG => ?_, fun gi gv hg => (by cases hg)⟩
  have H := cr_461 M (ρ 0) (hB _ List.mem_cons_self) (by have h := hF _ List.mem_cons_self; have h : 0 ≤ 1818584947 + ((-1) * ρ 0 + 0) := h; omega) (by have h := hF _ (List.mem_cons_of_mem _ List.mem_cons_self); have h : 0 ≤ (-1818584947) + (1 * ρ 0 + 0) := h; omega) hG
  obtain ⟨k0, -⟩ := H
  exact ⟨_, List.mem_cons_self, ρ, fun _ _ => rfl, (okM_c (pvp 140 (by show 18 + 0 = _; omega) (by show 0 + (1 * ρ 0 + 0) = _; omega) k0) okM_n), okB_n, okF_n⟩
-- nk20_0
theorem cr_462 (M : pM) (s0 : Int) (b0 : (-9223372036854775808) ≤ s0 ∧ s0 ≤ 9223372036854775807) (m0 : HP 142 (19 : Int) (s0) M) (f0 : 0 ≤ ((-1) * s0 + 1953066340)) (hG : gI M) : (HP 142 (20 : Int) (s0) M ∧ True) := by
  exact ⟨Eq.mpr hp_142 (fun k h1 h2 => if e : k = 19 then (by subst e; exact qwn_v 1953066341 (by decide) (by omega)) else Eq.mp hp_142 m0 k h1 (by omega)), trivial⟩
theorem rul_462 : Rul r_462 := by
  refine ⟨fun _ ρ M hm hB hF hG => ?_, fun gi gv hg => (by cases hg)⟩
  have H := cr_462 M (ρ 0) (hB _ List.mem_cons_self) (cvp 142 (x' := (19 : Int)) (y' := ((ρ 0))) (by show 19 + 0 = _; omega) (by show 0 + (1 * ρ 0 + 0) = _; omega) (hm _ List.mem_cons_self)) (by have h := hF _ List.mem_cons_self; have h : 0 ≤ 1953066340 + ((-1) * ρ 0 + 0) := h; omega) hG
  obtain ⟨k0, -⟩ := H
  exact ⟨_, List.mem_cons_self, ρ, fun _ _ => rfl, (okM_c (pvp 142 (by show 20 + 0 = _; omega) (by show 0 + (1 * ρ 0 + 0) = _; omega) k0) okM_n), okB_n, okF_n⟩
-- nk20_1
theorem cr_463 (M : pM) (s0 : Int) (b0 : (-9223372036854775808) ≤ s0 ∧ s0 ≤ 9223372036854775807) (m0 : HP 142 (19 : Int) (s0) M) (f0 : 0 ≤ (s0 - 1953066342)) (hG : gI M) : (HP 142 (20 : Int) (s0) M ∧ True) := by
  exact ⟨Eq.mpr hp_142 (fun k h1 h2 => if e : k = 19 then (by subst e; exact qwn_v 1953066341 (by decide) (by omega)) else Eq.mp hp_142 m0 k h1 (by omega)), trivial⟩
theorem rul_463 : Rul r_463 := by
  refine ⟨fun _ ρ M hm hB hF hG => ?_, fun gi gv hg => (by cases hg)⟩
  have H := cr_463 M (ρ 0) (hB _ List.mem_cons_self) (cvp 142 (x' := (19 : Int)) (y' := ((ρ 0))) (by show 19 + 0 = _; omega) (by show 0 + (1 * ρ 0 + 0) = _; omega) (hm _ List.mem_cons_self)) (by have h := hF _ List.mem_cons_self; have h : 0 ≤ (-1953066342) + (1 * ρ 0 + 0) := h; omega) hG
  obtain ⟨k0, -⟩ := H
  exact ⟨_, List.mem_cons_self, ρ, fun _ _ => rfl, (okM_c (pvp 142 (by show 20 + 0 = _; omega) (by show 0 + (1 * ρ 0 + 0) = _; omega) k0) okM_n), okB_n, okF_n⟩
-- wk19
theorem cr_464 (M : pM) (s0 : Int) (b0 : (-9223372036854775808) ≤ s0 ∧ s0 ≤ 9223372036854775807) (f0 : 0 ≤ ((-1) * s0 + 1953066341)) (f1 : 0 ≤ (s0 - 1953066341)) (hG : gI M) : (HP 140 (19 : Int) (s0) M ∧ True) := by
  exact ⟨Eq.mpr hp_140 ⟨19, by decide, by decide, by rw [show qwn 19 = 1953066341 by decide]; omega⟩, trivial⟩
theorem rul_464 : Rul r_464 := by
  refine ⟨fun _ ρ M hm hB hF hG => ?_, fun gi gv hg => (by cases hg)⟩
  have H := cr_464 M (ρ 0) (hB _ List.mem_cons_self) (by have h := hF _ List.mem_cons_self; have h : 0 ≤ 1953066341 + ((-1) * ρ 0 + 0) := h; omega) (by have h := hF _ (List.mem_cons_of_mem _ List.mem_cons_self); have h : 0 ≤ (-1953066341) + (1 * ρ 0 + 0) := h; omega) hG
  obtain ⟨k0, -⟩ := H
  exact ⟨_, List.mem_cons_self, ρ, fun _ _ => rfl, (okM_c (pvp 140 (by show 19 + 0 = _; omega) (by show 0 + (1 * ρ 0 + 0) = _; omega) k0) okM_n), okB_n, okF_n⟩
-- nk21_0
theorem cr_465 (M : pM) (s0 : Int) (b0 : (-9223372036854775808) ≤ s0 ∧ s0 ≤ 9223372036854775807) (m0 : HP 142 (20 : Int) (s0) M) (f0 : 0 ≤ ((-1) * s0 + 1650815859)) (hG : gI M) : (HP 142 (21 : Int) (s0) M ∧ True) := by
  exact ⟨Eq.mpr hp_142 (fun k h1 h2 => if e : k = 20 then (by subst e; exact qwn_v 1650815860 (by decide) (by omega)) else Eq.mp hp_142 m0 k h1 (by omega)), trivial⟩
theorem rul_465 : Rul r_465 := by
  refine ⟨fun _ ρ M hm hB hF hG => ?_, fun gi gv hg => (by cases hg)⟩
  have H := cr_465 M (ρ 0) (hB _ List.mem_cons_self) (cvp 142 (x' := (20 : Int)) (y' := ((ρ 0))) (by show 20 + 0 = _; omega) (by show 0 + (1 * ρ 0 + 0) = _; omega) (hm _ List.mem_cons_self)) (by have h := hF _ List.mem_cons_self; have h : 0 ≤ 1650815859 + ((-1) * ρ 0 + 0) := h; omega) hG
  obtain ⟨k0, -⟩ := H
  exact ⟨_, List.mem_cons_self, ρ, fun _ _ => rfl, (okM_c (pvp 142 (by show 21 + 0 = _; omega) (by show 0 + (1 * ρ 0 + 0) = _; omega) k0) okM_n), okB_n, okF_n⟩
-- nk21_1
theorem cr_466 (M : pM) (s0 : Int) (b0 : (-9223372036854775808) ≤ s0 ∧ s0 ≤ 9223372036854775807) (m0 : HP 142 (20 : Int) (s0) M) (f0 : 0 ≤ (s0 - 1650815861)) (hG : gI M) : (HP 142 (21 : Int) (s0) M ∧ True) := by
  exact ⟨Eq.mpr hp_142 (fun k h1 h2 => if e : k = 20 then (by subst e; exact qwn_v 1650815860 (by decide) (by omega)) else Eq.mp hp_142 m0 k h1 (by omega)), trivial⟩
theorem rul_466 : Rul r_466 := by
  refine ⟨fun _ ρ M hm hB hF hG => ?_, fun gi gv hg => (by cases hg)⟩
  have H := cr_466 M (ρ 0) (hB _ List.mem_cons_self) (cvp 142 (x' := (20 : Int)) (y' := ((ρ 0))) (by show 20 + 0 = _; omega) (by show 0 + (1 * ρ 0 + 0) = _; omega) (hm _ List.mem_cons_self)) (by have h := hF _ List.mem_cons_self; have h : 0 ≤ (-1650815861) + (1 * ρ 0 + 0) := h; omega) hG
  obtain ⟨k0, -⟩ := H
  exact ⟨_, List.mem_cons_self, ρ, fun _ _ => rfl, (okM_c (pvp 142 (by show 21 + 0 = _; omega) (by show 0 + (1 * ρ 0 + 0) = _; omega) k0) okM_n), okB_n, okF_n⟩
-- wk20
theorem cr_467 (M : pM) (s0 : Int) (b0 : (-9223372036854775808) ≤ s0 ∧ s0 ≤ 9223372036854775807) (f0 : 0 ≤ ((-1) * s0 + 1650815860)) (f1 : 0 ≤ (s0 - 1650815860)) (hG : gI M) : (HP 140 (20 : Int) (s0) M ∧ True) := by
  exact ⟨Eq.mpr hp_140 ⟨20, by decide, by decide, by rw [show qwn 20 = 1650815860 by decide]; omega⟩, trivial⟩
theorem rul_467 : Rul r_467 := by
  refine ⟨fun _ ρ M hm hB hF hG => ?_, fun gi gv hg => (by cases hg)⟩
  have H := cr_467 M (ρ 0) (hB _ List.mem_cons_self) (by have h := hF _ List.mem_cons_self; have h : 0 ≤ 1650815860 + ((-1) * ρ 0 + 0) := h; omega) (by have h := hF _ (List.mem_cons_of_mem _ List.mem_cons_self); have h : 0 ≤ (-1650815860) + (1 * ρ 0 + 0) := h; omega) hG
  obtain ⟨k0, -⟩ := H
  exact ⟨_, List.mem_cons_self, ρ, fun _ _ => rfl, (okM_c (pvp 140 (by show 20 + 0 = _; omega) (by show 0 + (1 * ρ 0 + 0) = _; omega) k0) okM_n), okB_n, okF_n⟩
-- nk22_0
theorem cr_468 (M : pM) (s0 : Int) (b0 : (-9223372036854775808) ≤ s0 ∧ s0 ≤ 9223372036854775807) (m0 : HP 142 (21 : Int) (s0) M) (f0 : 0 ≤ ((-1) * s0 + 439855772531)) (hG : gI M) : (HP 142 (22 : Int) (s0) M ∧ True) := by
  exact ⟨Eq.mpr hp_142 (fun k h1 h2 => if e : k = 21 then (by subst e; exact qwn_v 439855772532 (by decide) (by omega)) else Eq.mp hp_142 m0 k h1 (by omega)), trivial⟩
theorem rul_468 : Rul r_468 := by
  refine ⟨fun _ ρ M hm hB hF hG => ?_, fun gi gv hg => (by cases hg)⟩
  have H := cr_468 M (ρ 0) (hB _ List.mem_cons_self) (cvp 142 (x' := (21 : Int)) (y' := ((ρ 0))) (by show 21 + 0 = _; omega) (by show 0 + (1 * ρ 0 + 0) = _; omega) (hm _ List.mem_cons_self)) (by have h := hF _ List.mem_cons_self; have h : 0 ≤ 439855772531 + ((-1) * ρ 0 + 0) := h; omega) hG
  obtain ⟨k0, -⟩ := H
  exact ⟨_, List.mem_cons_self, ρ, fun _ _ => rfl, (okM_c (pvp 142 (by show 22 + 0 = _; omega) (by show 0 + (1 * ρ 0 + 0) = _; omega) k0) okM_n), okB_n, okF_n⟩
-- nk22_1
theorem cr_469 (M : pM) (s0 : Int) (b0 : (-9223372036854775808) ≤ s0 ∧ s0 ≤ 9223372036854775807) (m0 : HP 142 (21 : Int) (s0) M) (f0 : 0 ≤ (s0 - 439855772533)) (hG : gI M) : (HP 142 (22 : Int) (s0) M ∧ True) := by
  exact ⟨Eq.mpr hp_142 (fun k h1 h2 => if e : k = 21 then (by subst e; exact qwn_v 439855772532 (by decide) (by omega)) else Eq.mp hp_142 m0 k h1 (by omega)), trivial⟩
theorem rul_469 : Rul r_469 := by
  refine ⟨fun _ ρ M hm hB hF hG => ?_, fun gi gv hg => (by cases hg)⟩
  have H := cr_469 M (ρ 0) (hB _ List.mem_cons_self) (cvp 142 (x' := (21 : Int)) (y' := ((ρ 0))) (by show 21 + 0 = _; omega) (by show 0 + (1 * ρ 0 + 0) = _; omega) (hm _ List.mem_cons_self)) (by have h := hF _ List.mem_cons_self; have h : 0 ≤ (-439855772533) + (1 * ρ 0 + 0) := h; omega) hG
  obtain ⟨k0, -⟩ := H
  exact ⟨_, List.mem_cons_self, ρ, fun _ _ => rfl, (okM_c (pvp 142 (by show 22 + 0 = _; omega) (by show 0 + (1 * ρ 0 + 0) = _; omega) k0) okM_n), okB_n, okF_n⟩
-- wk21
theorem cr_470 (M : pM) (s0 : Int) (b0 : (-9223372036854775808) ≤ s0 ∧ s0 ≤ 9223372036854775807) (f0 : 0 ≤ ((-1) * s0 + 439855772532)) (f1 : 0 ≤ (s0 - 439855772532)) (hG : gI M) : (HP 140 (21 : Int) (s0) M ∧ True) := by
  exact ⟨Eq.mpr hp_140 ⟨21, by decide, by decide, by rw [show qwn 21 = 439855772532 by decide]; omega⟩, trivial⟩
theorem rul_470 : Rul r_470 := by
  refine ⟨fun _ ρ M hm hB hF hG => ?_, fun gi gv hg => (by cases hg)⟩
  have H := cr_470 M (ρ 0) (hB _ List.mem_cons_self) (by have h := hF _ List.mem_cons_self; have h : 0 ≤ 439855772532 + ((-1) * ρ 0 + 0) := h; omega) (by have h := hF _ (List.mem_cons_of_mem _ List.mem_cons_self); have h : 0 ≤ (-439855772532) + (1 * ρ 0 + 0) := h; omega) hG
  obtain ⟨k0, -⟩ := H
  exact ⟨_, List.mem_cons_self, ρ, fun _ _ => rfl, (okM_c (pvp 140 (by show 21 + 0 = _; omega) (by show 0 + (1 * ρ 0 + 0) = _; omega) k0) okM_n), okB_n, okF_n⟩
-- nk23_0
theorem cr_471 (M : pM) (s0 : Int) (b0 : (-9223372036854775808) ≤ s0 ∧ s0 ≤ 9223372036854775807) (m0 : HP 142 (22 : Int) (s0) M) (f0 : 0 ≤ ((-1) * s0 + 512735603826)) (hG : gI M) : (HP 142 (23 : Int) (s0) M ∧ True) := by
  exact ⟨Eq.mpr hp_142 (fun k h1 h2 => if e : k = 22 then (by subst e; exact qwn_v 512735603827 (by decide) (by omega)) else Eq.mp hp_142 m0 k h1 (by omega)), trivial⟩
theorem rul_471 : Rul r_471 := by
  refine ⟨fun _ ρ M hm hB hF hG => ?_, fun gi gv hg => (by cases hg)⟩
  have H := cr_471 M (ρ 0) (hB _ List.mem_cons_self) (cvp 142 (x' := (22 : Int)) (y' := ((ρ 0))) (by show 22 + 0 = _; omega) (by show 0 + (1 * ρ 0 + 0) = _; omega) (hm _ List.mem_cons_self)) (by have h := hF _ List.mem_cons_self; have h : 0 ≤ 512735603826 + ((-1) * ρ 0 + 0) := h; omega) hG
  obtain ⟨k0, -⟩ := H
  exact ⟨_, List.mem_cons_self, ρ, fun _ _ => rfl, (okM_c (pvp 142 (by show 23 + 0 = _; omega) (by show 0 + (1 * ρ 0 + 0) = _; omega) k0) okM_n), okB_n, okF_n⟩
-- nk23_1
theorem cr_472 (M : pM) (s0 : Int) (b0 : (-9223372036854775808) ≤ s0 ∧ s0 ≤ 9223372036854775807) (m0 : HP 142 (22 : Int) (s0) M) (f0 : 0 ≤ (s0 - 512735603828)) (hG : gI M) : (HP 142 (23 : Int) (s0) M ∧ True) := by
  exact ⟨Eq.mpr hp_142 (fun k h1 h2 => if e : k = 22 then (by subst e; exact qwn_v 512735603827 (by decide) (by omega)) else Eq.mp hp_142 m0 k h1 (by omega)), trivial⟩
theorem rul_472 : Rul r_472 := by
  refine ⟨fun _ ρ M hm hB hF hG => ?_, fun gi gv hg => (by cases hg)⟩
  have H := cr_472 M (ρ 0) (hB _ List.mem_cons_self) (cvp 142 (x' := (22 : Int)) (y' := ((ρ 0))) (by show 22 + 0 = _; omega) (by show 0 + (1 * ρ 0 + 0) = _; omega) (hm _ List.mem_cons_self)) (by have h := hF _ List.mem_cons_self; have h : 0 ≤ (-512735603828) + (1 * ρ 0 + 0) := h; omega) hG
  obtain ⟨k0, -⟩ := H
  exact ⟨_, List.mem_cons_self, ρ, fun _ _ => rfl, (okM_c (pvp 142 (by show 23 + 0 = _; omega) (by show 0 + (1 * ρ 0 + 0) = _; omega) k0) okM_n), okB_n, okF_n⟩
-- wk22
theorem cr_473 (M : pM) (s0 : Int) (b0 : (-9223372036854775808) ≤ s0 ∧ s0 ≤ 9223372036854775807) (f0 : 0 ≤ ((-1) * s0 + 512735603827)) (f1 : 0 ≤ (s0 - 512735603827)) (hG : gI M) : (HP 140 (22 : Int) (s0) M ∧ True) := by
  exact ⟨Eq.mpr hp_140 ⟨22, by decide, by decide, by rw [show qwn 22 = 512735603827 by decide]; omega⟩, trivial⟩
theorem rul_473 : Rul r_473 := by
  refine ⟨fun _ ρ M hm hB hF hG => ?_, fun gi gv hg => (by cases hg)⟩
  have H := cr_473 M (ρ 0) (hB _ List.mem_cons_self) (by have h := hF _ List.mem_cons_self; have h : 0 ≤ 512735603827 + ((-1) * ρ 0 + 0) := h; omega) (by have h := hF _ (List.mem_cons_of_mem _ List.mem_cons_self); have h : 0 ≤ (-512735603827) + (1 * ρ 0 + 0) := h; omega) hG
  obtain ⟨k0, -⟩ := H
  exact ⟨_, List.mem_cons_self, ρ, fun _ _ => rfl, (okM_c (pvp 140 (by show 22 + 0 = _; omega) (by show 0 + (1 * ρ 0 + 0) = _; omega) k0) okM_n), okB_n, okF_n⟩
-- nk24_0
theorem cr_474 (M : pM) (s0 : Int) (b0 : (-9223372036854775808) ≤ s0 ∧ s0 ≤ 9223372036854775807) (m0 : HP 142 (23 : Int) (s0) M) (f0 : 0 ≤ ((-1) * s0 + 32210697498944867)) (hG : gI M) : (HP 142 (24 : Int) (s0) M ∧ True) := by
  exact ⟨Eq.mpr hp_142 (fun k h1 h2 => if e : k = 23 then (by subst e; exact qwn_v 32210697498944868 (by decide) (by omega)) else Eq.mp hp_142 m0 k h1 (by omega)), trivial⟩
theorem rul_474 : Rul r_474 := by
  refine ⟨fun _ ρ M hm hB hF hG => ?_, fun gi gv hg => (by cases hg)⟩
  have H := cr_474 M (ρ 0) (hB _ List.mem_cons_self) (cvp 142 (x' := (23 : Int)) (y' := ((ρ 0))) (by show 23 + 0 = _; omega) (by show 0 + (1 * ρ 0 + 0) = _; omega) (hm _ List.mem_cons_self)) (by have h := hF _ List.mem_cons_self; have h : 0 ≤ 32210697498944867 + ((-1) * ρ 0 + 0) := h; omega) hG
  obtain ⟨k0, -⟩ := H
  exact ⟨_, List.mem_cons_self, ρ, fun _ _ => rfl, (okM_c (pvp 142 (by show 24 + 0 = _; omega) (by show 0 + (1 * ρ 0 + 0) = _; omega) k0) okM_n), okB_n, okF_n⟩
-- nk24_1
theorem cr_475 (M : pM) (s0 : Int) (b0 : (-9223372036854775808) ≤ s0 ∧ s0 ≤ 9223372036854775807) (m0 : HP 142 (23 : Int) (s0) M) (f0 : 0 ≤ (s0 - 32210697498944869)) (hG : gI M) : (HP 142 (24 : Int) (s0) M ∧ True) := by
  exact ⟨Eq.mpr hp_142 (fun k h1 h2 => if e : k = 23 then (by subst e; exact qwn_v 32210697498944868 (by decide) (by omega)) else Eq.mp hp_142 m0 k h1 (by omega)), trivial⟩
theorem rul_475 : Rul r_475 := by
  refine ⟨fun _ ρ M hm hB hF hG => ?_, fun gi gv hg => (by cases hg)⟩
  have H := cr_475 M (ρ 0) (hB _ List.mem_cons_self) (cvp 142 (x' := (23 : Int)) (y' := ((ρ 0))) (by show 23 + 0 = _; omega) (by show 0 + (1 * ρ 0 + 0) = _; omega) (hm _ List.mem_cons_self)) (by have h := hF _ List.mem_cons_self; have h : 0 ≤ (-32210697498944869) + (1 * ρ 0 + 0) := h; omega) hG
  obtain ⟨k0, -⟩ := H
  exact ⟨_, List.mem_cons_self, ρ, fun _ _ => rfl, (okM_c (pvp 142 (by show 24 + 0 = _; omega) (by show 0 + (1 * ρ 0 + 0) = _; omega) k0) okM_n), okB_n, okF_n⟩
-- wk23
theorem cr_476 (M : pM) (s0 : Int) (b0 : (-9223372036854775808) ≤ s0 ∧ s0 ≤ 9223372036854775807) (f0 : 0 ≤ ((-1) * s0 + 32210697498944868)) (f1 : 0 ≤ (s0 - 32210697498944868)) (hG : gI M) : (HP 140 (23 : Int) (s0) M ∧ True) := by
  exact ⟨Eq.mpr hp_140 ⟨23, by decide, by decide, by rw [show qwn 23 = 32210697498944868 by decide]; omega⟩, trivial⟩
theorem rul_476 : Rul r_476 := by
  refine ⟨fun _ ρ M hm hB hF hG => ?_, fun gi gv hg => (by cases hg)⟩
  have H := cr_476 M (ρ 0) (hB _ List.mem_cons_self) (by have h := hF _ List.mem_cons_self; have h : 0 ≤ 32210697498944868 + ((-1) * ρ 0 + 0) := h; omega) (by have h := hF _ (List.mem_cons_of_mem _ List.mem_cons_self); have h : 0 ≤ (-32210697498944868) + (1 * ρ 0 + 0) := h; omega) hG
  obtain ⟨k0, -⟩ := H
  exact ⟨_, List.mem_cons_self, ρ, fun _ _ => rfl, (okM_c (pvp 140 (by show 23 + 0 = _; omega) (by show 0 + (1 * ρ 0 + 0) = _; omega) k0) okM_n), okB_n, okF_n⟩
-- ng0
theorem cr_477 (M : pM) (s0 : Int) (b0 : 0 ≤ s0 ∧ s0 ≤ 255) (hG : gI M) : (HP 144 (0 : Int) (s0) M ∧ True) := by
  exact ⟨Eq.mpr hp_144 (fun k h1 h2 => by omega), trivial⟩
theorem rul_477 : Rul r_477 := by
  refine ⟨fun _ ρ M hm hB hF hG => ?_, fun gi gv hg => (by cases hg)⟩
  have H := cr_477 M (ρ 0) (hB _ List.mem_cons_self) hG
  obtain ⟨k0, -⟩ := H
  exact ⟨_, List.mem_cons_self, ρ, fun _ _ => rfl, (okM_c (pvp 144 (by show 0 + 0 = _; omega) (by show 0 + (1 * ρ 0 + 0) = _; omega) k0) okM_n), okB_n, okF_n⟩
-- ng1_0
theorem cr_478 (M : pM) (s0 : Int) (b0 : 0 ≤ s0 ∧ s0 ≤ 255) (m0 : HP 144 (0 : Int) (s0) M) (f0 : 0 ≤ ((-1) * s0 + 58)) (hG : gI M) : (HP 144 (1 : Int) (s0) M ∧ True) := by
  exact ⟨Eq.mpr hp_144 (fun k h1 h2 => if e : k = 0 then (by subst e; rw [show sgs.getD 0 0 = 59 by decide]; omega) else Eq.mp hp_144 m0 k h1 (by omega)), trivial⟩
theorem rul_478 : Rul r_478 := by
  refine ⟨fun _ ρ M hm hB hF hG => ?_, fun gi gv hg => (by cases hg)⟩
  have H := cr_478 M (ρ 0) (hB _ List.mem_cons_self) (cvp 144 (x' := (0 : Int)) (y' := ((ρ 0))) (by show 0 + 0 = _; omega) (by show 0 + (1 * ρ 0 + 0) = _; omega) (hm _ List.mem_cons_self)) (by have h := hF _ List.mem_cons_self; have h : 0 ≤ 58 + ((-1) * ρ 0 + 0) := h; omega) hG
  obtain ⟨k0, -⟩ := H
  exact ⟨_, List.mem_cons_self, ρ, fun _ _ => rfl, (okM_c (pvp 144 (by show 1 + 0 = _; omega) (by show 0 + (1 * ρ 0 + 0) = _; omega) k0) okM_n), okB_n, okF_n⟩
-- ng1_1
theorem cr_479 (M : pM) (s0 : Int) (b0 : 0 ≤ s0 ∧ s0 ≤ 255) (m0 : HP 144 (0 : Int) (s0) M) (f0 : 0 ≤ (s0 - 60)) (hG : gI M) : (HP 144 (1 : Int) (s0) M ∧ True) := by
  exact ⟨Eq.mpr hp_144 (fun k h1 h2 => if e : k = 0 then (by subst e; rw [show sgs.getD 0 0 = 59 by decide]; omega) else Eq.mp hp_144 m0 k h1 (by omega)), trivial⟩
theorem rul_479 : Rul r_479 := by
  refine ⟨fun _ ρ M hm hB hF hG => ?_, fun gi gv hg => (by cases hg)⟩
  have H := cr_479 M (ρ 0) (hB _ List.mem_cons_self) (cvp 144 (x' := (0 : Int)) (y' := ((ρ 0))) (by show 0 + 0 = _; omega) (by show 0 + (1 * ρ 0 + 0) = _; omega) (hm _ List.mem_cons_self)) (by have h := hF _ List.mem_cons_self; have h : 0 ≤ (-60) + (1 * ρ 0 + 0) := h; omega) hG
  obtain ⟨k0, -⟩ := H
  exact ⟨_, List.mem_cons_self, ρ, fun _ _ => rfl, (okM_c (pvp 144 (by show 1 + 0 = _; omega) (by show 0 + (1 * ρ 0 + 0) = _; omega) k0) okM_n), okB_n, okF_n⟩
-- sg0
theorem cr_480 (M : pM) (s0 : Int) (b0 : 0 ≤ s0 ∧ s0 ≤ 255) (f0 : 0 ≤ ((-1) * s0 + 59)) (f1 : 0 ≤ (s0 - 59)) (hG : gI M) : (HP 70 (s0) (0 : Int) M ∧ True) := by
  have e : s0 = 59 := by omega
  subst e
  exact ⟨Eq.mpr hp_70 (by decide), trivial⟩
theorem rul_480 : Rul r_480 := by
  refine ⟨fun _ ρ M hm hB hF hG => ?_, fun gi gv hg => (by cases hg)⟩
  have H := cr_480 M (ρ 0) (hB _ List.mem_cons_self) (by have h := hF _ List.mem_cons_self; have h : 0 ≤ 59 + ((-1) * ρ 0 + 0) := h; omega) (by have h := hF _ (List.mem_cons_of_mem _ List.mem_cons_self); have h : 0 ≤ (-59) + (1 * ρ 0 + 0) := h; omega) hG
  obtain ⟨k0, -⟩ := H
  exact ⟨_, List.mem_cons_self, ρ, fun _ _ => rfl, (okM_c (pvp 70 (by show 0 + (1 * ρ 0 + 0) = _; omega) (by show 0 + 0 = _; omega) k0) okM_n), okB_n, okF_n⟩
-- ng2_0
theorem cr_481 (M : pM) (s0 : Int) (b0 : 0 ≤ s0 ∧ s0 ≤ 255) (m0 : HP 144 (1 : Int) (s0) M) (f0 : 0 ≤ ((-1) * s0 + 39)) (hG : gI M) : (HP 144 (2 : Int) (s0) M ∧ True) := by
  exact ⟨Eq.mpr hp_144 (fun k h1 h2 => if e : k = 1 then (by subst e; rw [show sgs.getD 1 0 = 40 by decide]; omega) else Eq.mp hp_144 m0 k h1 (by omega)), trivial⟩
theorem rul_481 : Rul r_481 := by
  refine ⟨fun _ ρ M hm hB hF hG => ?_, fun gi gv hg => (by cases hg)⟩
  have H := cr_481 M (ρ 0) (hB _ List.mem_cons_self) (cvp 144 (x' := (1 : Int)) (y' := ((ρ 0))) (by show 1 + 0 = _; omega) (by show 0 + (1 * ρ 0 + 0) = _; omega) (hm _ List.mem_cons_self)) (by have h := hF _ List.mem_cons_self; have h : 0 ≤ 39 + ((-1) * ρ 0 + 0) := h; omega) hG
  obtain ⟨k0, -⟩ := H
  exact ⟨_, List.mem_cons_self, ρ, fun _ _ => rfl, (okM_c (pvp 144 (by show 2 + 0 = _; omega) (by show 0 + (1 * ρ 0 + 0) = _; omega) k0) okM_n), okB_n, okF_n⟩
-- ng2_1
theorem cr_482 (M : pM) (s0 : Int) (b0 : 0 ≤ s0 ∧ s0 ≤ 255) (m0 : HP 144 (1 : Int) (s0) M) (f0 : 0 ≤ (s0 - 41)) (hG : gI M) : (HP 144 (2 : Int) (s0) M ∧ True) := by
  exact ⟨Eq.mpr hp_144 (fun k h1 h2 => if e : k = 1 then (by subst e; rw [show sgs.getD 1 0 = 40 by decide]; omega) else Eq.mp hp_144 m0 k h1 (by omega)), trivial⟩
theorem rul_482 : Rul r_482 := by
  refine ⟨fun _ ρ M hm hB hF hG => ?_, fun gi gv hg => (by cases hg)⟩
  have H := cr_482 M (ρ 0) (hB _ List.mem_cons_self) (cvp 144 (x' := (1 : Int)) (y' := ((ρ 0))) (by show 1 + 0 = _; omega) (by show 0 + (1 * ρ 0 + 0) = _; omega) (hm _ List.mem_cons_self)) (by have h := hF _ List.mem_cons_self; have h : 0 ≤ (-41) + (1 * ρ 0 + 0) := h; omega) hG
  obtain ⟨k0, -⟩ := H
  exact ⟨_, List.mem_cons_self, ρ, fun _ _ => rfl, (okM_c (pvp 144 (by show 2 + 0 = _; omega) (by show 0 + (1 * ρ 0 + 0) = _; omega) k0) okM_n), okB_n, okF_n⟩
-- sg1
theorem cr_483 (M : pM) (s0 : Int) (b0 : 0 ≤ s0 ∧ s0 ≤ 255) (f0 : 0 ≤ ((-1) * s0 + 40)) (f1 : 0 ≤ (s0 - 40)) (hG : gI M) : (HP 70 (s0) (0 : Int) M ∧ True) := by
  have e : s0 = 40 := by omega
  subst e
  exact ⟨Eq.mpr hp_70 (by decide), trivial⟩
theorem rul_483 : Rul r_483 := by
  refine ⟨fun _ ρ M hm hB hF hG => ?_, fun gi gv hg => (by cases hg)⟩
  have H := cr_483 M (ρ 0) (hB _ List.mem_cons_self) (by have h := hF _ List.mem_cons_self; have h : 0 ≤ 40 + ((-1) * ρ 0 + 0) := h; omega) (by have h := hF _ (List.mem_cons_of_mem _ List.mem_cons_self); have h : 0 ≤ (-40) + (1 * ρ 0 + 0) := h; omega) hG
  obtain ⟨k0, -⟩ := H
  exact ⟨_, List.mem_cons_self, ρ, fun _ _ => rfl, (okM_c (pvp 70 (by show 0 + (1 * ρ 0 + 0) = _; omega) (by show 0 + 0 = _; omega) k0) okM_n), okB_n, okF_n⟩
-- ng3_0
theorem cr_484 (M : pM) (s0 : Int) (b0 : 0 ≤ s0 ∧ s0 ≤ 255) (m0 : HP 144 (2 : Int) (s0) M) (f0 : 0 ≤ ((-1) * s0 + 40)) (hG : gI M) : (HP 144 (3 : Int) (s0) M ∧ True) := by
  exact ⟨Eq.mpr hp_144 (fun k h1 h2 => if e : k = 2 then (by subst e; rw [show sgs.getD 2 0 = 41 by decide]; omega) else Eq.mp hp_144 m0 k h1 (by omega)), trivial⟩
theorem rul_484 : Rul r_484 := by
  refine ⟨fun _ ρ M hm hB hF hG => ?_, fun gi gv hg => (by cases hg)⟩
  have H := cr_484 M (ρ 0) (hB _ List.mem_cons_self) (cvp 144 (x' := (2 : Int)) (y' := ((ρ 0))) (by show 2 + 0 = _; omega) (by show 0 + (1 * ρ 0 + 0) = _; omega) (hm _ List.mem_cons_self)) (by have h := hF _ List.mem_cons_self; have h : 0 ≤ 40 + ((-1) * ρ 0 + 0) := h; omega) hG
  obtain ⟨k0, -⟩ := H
  exact ⟨_, List.mem_cons_self, ρ, fun _ _ => rfl, (okM_c (pvp 144 (by show 3 + 0 = _; omega) (by show 0 + (1 * ρ 0 + 0) = _; omega) k0) okM_n), okB_n, okF_n⟩
-- ng3_1
theorem cr_485 (M : pM) (s0 : Int) (b0 : 0 ≤ s0 ∧ s0 ≤ 255) (m0 : HP 144 (2 : Int) (s0) M) (f0 : 0 ≤ (s0 - 42)) (hG : gI M) : (HP 144 (3 : Int) (s0) M ∧ True) := by
  exact ⟨Eq.mpr hp_144 (fun k h1 h2 => if e : k = 2 then (by subst e; rw [show sgs.getD 2 0 = 41 by decide]; omega) else Eq.mp hp_144 m0 k h1 (by omega)), trivial⟩
theorem rul_485 : Rul r_485 := by
  refine ⟨fun _ ρ M hm hB hF hG => ?_, fun gi gv hg => (by cases hg)⟩
  have H := cr_485 M (ρ 0) (hB _ List.mem_cons_self) (cvp 144 (x' := (2 : Int)) (y' := ((ρ 0))) (by show 2 + 0 = _; omega) (by show 0 + (1 * ρ 0 + 0) = _; omega) (hm _ List.mem_cons_self)) (by have h := hF _ List.mem_cons_self; have h : 0 ≤ (-42) + (1 * ρ 0 + 0) := h; omega) hG
  obtain ⟨k0, -⟩ := H
  exact ⟨_, List.mem_cons_self, ρ, fun _ _ => rfl, (okM_c (pvp 144 (by show 3 + 0 = _; omega) (by show 0 + (1 * ρ 0 + 0) = _; omega) k0) okM_n), okB_n, okF_n⟩
-- sg2
theorem cr_486 (M : pM) (s0 : Int) (b0 : 0 ≤ s0 ∧ s0 ≤ 255) (f0 : 0 ≤ ((-1) * s0 + 41)) (f1 : 0 ≤ (s0 - 41)) (hG : gI M) : (HP 70 (s0) (0 : Int) M ∧ True) := by
  have e : s0 = 41 := by omega
  subst e
  exact ⟨Eq.mpr hp_70 (by decide), trivial⟩
theorem rul_486 : Rul r_486 := by
  refine ⟨fun _ ρ M hm hB hF hG => ?_, fun gi gv hg => (by cases hg)⟩
  have H := cr_486 M (ρ 0) (hB _ List.mem_cons_self) (by have h := hF _ List.mem_cons_self; have h : 0 ≤ 41 + ((-1) * ρ 0 + 0) := h; omega) (by have h := hF _ (List.mem_cons_of_mem _ List.mem_cons_self); have h : 0 ≤ (-41) + (1 * ρ 0 + 0) := h; omega) hG
  obtain ⟨k0, -⟩ := H
  exact ⟨_, List.mem_cons_self, ρ, fun _ _ => rfl, (okM_c (pvp 70 (by show 0 + (1 * ρ 0 + 0) = _; omega) (by show 0 + 0 = _; omega) k0) okM_n), okB_n, okF_n⟩
-- ng4_0
theorem cr_487 (M : pM) (s0 : Int) (b0 : 0 ≤ s0 ∧ s0 ≤ 255) (m0 : HP 144 (3 : Int) (s0) M) (f0 : 0 ≤ ((-1) * s0 + 59)) (hG : gI M) : (HP 144 (4 : Int) (s0) M ∧ True) := by
  exact ⟨Eq.mpr hp_144 (fun k h1 h2 => if e : k = 3 then (by subst e; rw [show sgs.getD 3 0 = 60 by decide]; omega) else Eq.mp hp_144 m0 k h1 (by omega)), trivial⟩
theorem rul_487 : Rul r_487 := by
  refine ⟨fun _ ρ M hm hB hF hG => ?_, fun gi gv hg => (by cases hg)⟩
  have H := cr_487 M (ρ 0) (hB _ List.mem_cons_self) (cvp 144 (x' := (3 : Int)) (y' := ((ρ 0))) (by show 3 + 0 = _; omega) (by show 0 + (1 * ρ 0 + 0) = _; omega) (hm _ List.mem_cons_self)) (by have h := hF _ List.mem_cons_self; have h : 0 ≤ 59 + ((-1) * ρ 0 + 0) := h; omega) hG
  obtain ⟨k0, -⟩ := H
  exact ⟨_, List.mem_cons_self, ρ, fun _ _ => rfl, (okM_c (pvp 144 (by show 4 + 0 = _; omega) (by show 0 + (1 * ρ 0 + 0) = _; omega) k0) okM_n), okB_n, okF_n⟩
-- ng4_1
theorem cr_488 (M : pM) (s0 : Int) (b0 : 0 ≤ s0 ∧ s0 ≤ 255) (m0 : HP 144 (3 : Int) (s0) M) (f0 : 0 ≤ (s0 - 61)) (hG : gI M) : (HP 144 (4 : Int) (s0) M ∧ True) := by
  exact ⟨Eq.mpr hp_144 (fun k h1 h2 => if e : k = 3 then (by subst e; rw [show sgs.getD 3 0 = 60 by decide]; omega) else Eq.mp hp_144 m0 k h1 (by omega)), trivial⟩
theorem rul_488 : Rul r_488 := by
  refine ⟨fun _ ρ M hm hB hF hG => ?_, fun gi gv hg => (by cases hg)⟩
  have H := cr_488 M (ρ 0) (hB _ List.mem_cons_self) (cvp 144 (x' := (3 : Int)) (y' := ((ρ 0))) (by show 3 + 0 = _; omega) (by show 0 + (1 * ρ 0 + 0) = _; omega) (hm _ List.mem_cons_self)) (by have h := hF _ List.mem_cons_self; have h : 0 ≤ (-61) + (1 * ρ 0 + 0) := h; omega) hG
  obtain ⟨k0, -⟩ := H
  exact ⟨_, List.mem_cons_self, ρ, fun _ _ => rfl, (okM_c (pvp 144 (by show 4 + 0 = _; omega) (by show 0 + (1 * ρ 0 + 0) = _; omega) k0) okM_n), okB_n, okF_n⟩
-- sg3
theorem cr_489 (M : pM) (s0 : Int) (b0 : 0 ≤ s0 ∧ s0 ≤ 255) (f0 : 0 ≤ ((-1) * s0 + 60)) (f1 : 0 ≤ (s0 - 60)) (hG : gI M) : (HP 70 (s0) (0 : Int) M ∧ True) := by
  have e : s0 = 60 := by omega
  subst e
  exact ⟨Eq.mpr hp_70 (by decide), trivial⟩
theorem rul_489 : Rul r_489 := by
  refine ⟨fun _ ρ M hm hB hF hG => ?_, fun gi gv hg => (by cases hg)⟩
  have H := cr_489 M (ρ 0) (hB _ List.mem_cons_self) (by have h := hF _ List.mem_cons_self; have h : 0 ≤ 60 + ((-1) * ρ 0 + 0) := h; omega) (by have h := hF _ (List.mem_cons_of_mem _ List.mem_cons_self); have h : 0 ≤ (-60) + (1 * ρ 0 + 0) := h; omega) hG
  obtain ⟨k0, -⟩ := H
  exact ⟨_, List.mem_cons_self, ρ, fun _ _ => rfl, (okM_c (pvp 70 (by show 0 + (1 * ρ 0 + 0) = _; omega) (by show 0 + 0 = _; omega) k0) okM_n), okB_n, okF_n⟩
-- ng5_0
theorem cr_490 (M : pM) (s0 : Int) (b0 : 0 ≤ s0 ∧ s0 ≤ 255) (m0 : HP 144 (4 : Int) (s0) M) (f0 : 0 ≤ ((-1) * s0 + 61)) (hG : gI M) : (HP 144 (5 : Int) (s0) M ∧ True) := by
  exact ⟨Eq.mpr hp_144 (fun k h1 h2 => if e : k = 4 then (by subst e; rw [show sgs.getD 4 0 = 62 by decide]; omega) else Eq.mp hp_144 m0 k h1 (by omega)), trivial⟩
theorem rul_490 : Rul r_490 := by
  refine ⟨fun _ ρ M hm hB hF hG => ?_, fun gi gv hg => (by cases hg)⟩
  have H := cr_490 M (ρ 0) (hB _ List.mem_cons_self) (cvp 144 (x' := (4 : Int)) (y' := ((ρ 0))) (by show 4 + 0 = _; omega) (by show 0 + (1 * ρ 0 + 0) = _; omega) (hm _ List.mem_cons_self)) (by have h := hF _ List.mem_cons_self; have h : 0 ≤ 61 + ((-1) * ρ 0 + 0) := h; omega) hG
  obtain ⟨k0, -⟩ := H
  exact ⟨_, List.mem_cons_self, ρ, fun _ _ => rfl, (okM_c (pvp 144 (by show 5 + 0 = _; omega) (by show 0 + (1 * ρ 0 + 0) = _; omega) k0) okM_n), okB_n, okF_n⟩
-- ng5_1
theorem cr_491 (M : pM) (s0 : Int) (b0 : 0 ≤ s0 ∧ s0 ≤ 255) (m0 : HP 144 (4 : Int) (s0) M) (f0 : 0 ≤ (s0 - 63)) (hG : gI M) : (HP 144 (5 : Int) (s0) M ∧ True) := by
  exact ⟨Eq.mpr hp_144 (fun k h1 h2 => if e : k = 4 then (by subst e; rw [show sgs.getD 4 0 = 62 by decide]; omega) else Eq.mp hp_144 m0 k h1 (by omega)), trivial⟩
theorem rul_491 : Rul r_491 := by
  refine ⟨fun _ ρ M hm hB hF hG => ?_, fun gi gv hg => (by cases hg)⟩
  have H := cr_491 M (ρ 0) (hB _ List.mem_cons_self) (cvp 144 (x' := (4 : Int)) (y' := ((ρ 0))) (by show 4 + 0 = _; omega) (by show 0 + (1 * ρ 0 + 0) = _; omega) (hm _ List.mem_cons_self)) (by have h := hF _ List.mem_cons_self; have h : 0 ≤ (-63) + (1 * ρ 0 + 0) := h; omega) hG
  obtain ⟨k0, -⟩ := H
  exact ⟨_, List.mem_cons_self, ρ, fun _ _ => rfl, (okM_c (pvp 144 (by show 5 + 0 = _; omega) (by show 0 + (1 * ρ 0 + 0) = _; omega) k0) okM_n), okB_n, okF_n⟩
-- sg4
theorem cr_492 (M : pM) (s0 : Int) (b0 : 0 ≤ s0 ∧ s0 ≤ 255) (f0 : 0 ≤ ((-1) * s0 + 62)) (f1 : 0 ≤ (s0 - 62)) (hG : gI M) : (HP 70 (s0) (0 : Int) M ∧ True) := by
  have e : s0 = 62 := by omega
  subst e
  exact ⟨Eq.mpr hp_70 (by decide), trivial⟩
theorem rul_492 : Rul r_492 := by
  refine ⟨fun _ ρ M hm hB hF hG => ?_, fun gi gv hg => (by cases hg)⟩
  have H := cr_492 M (ρ 0) (hB _ List.mem_cons_self) (by have h := hF _ List.mem_cons_self; have h : 0 ≤ 62 + ((-1) * ρ 0 + 0) := h; omega) (by have h := hF _ (List.mem_cons_of_mem _ List.mem_cons_self); have h : 0 ≤ (-62) + (1 * ρ 0 + 0) := h; omega) hG
  obtain ⟨k0, -⟩ := H
  exact ⟨_, List.mem_cons_self, ρ, fun _ _ => rfl, (okM_c (pvp 70 (by show 0 + (1 * ρ 0 + 0) = _; omega) (by show 0 + 0 = _; omega) k0) okM_n), okB_n, okF_n⟩
-- ng6_0
theorem cr_493 (M : pM) (s0 : Int) (b0 : 0 ≤ s0 ∧ s0 ≤ 255) (m0 : HP 144 (5 : Int) (s0) M) (f0 : 0 ≤ ((-1) * s0 + 60)) (hG : gI M) : (HP 144 (6 : Int) (s0) M ∧ True) := by
  exact ⟨Eq.mpr hp_144 (fun k h1 h2 => if e : k = 5 then (by subst e; rw [show sgs.getD 5 0 = 61 by decide]; omega) else Eq.mp hp_144 m0 k h1 (by omega)), trivial⟩
theorem rul_493 : Rul r_493 := by
  refine ⟨fun _ ρ M hm hB hF hG => ?_, fun gi gv hg => (by cases hg)⟩
  have H := cr_493 M (ρ 0) (hB _ List.mem_cons_self) (cvp 144 (x' := (5 : Int)) (y' := ((ρ 0))) (by show 5 + 0 = _; omega) (by show 0 + (1 * ρ 0 + 0) = _; omega) (hm _ List.mem_cons_self)) (by have h := hF _ List.mem_cons_self; have h : 0 ≤ 60 + ((-1) * ρ 0 + 0) := h; omega) hG
  obtain ⟨k0, -⟩ := H
  exact ⟨_, List.mem_cons_self, ρ, fun _ _ => rfl, (okM_c (pvp 144 (by show 6 + 0 = _; omega) (by show 0 + (1 * ρ 0 + 0) = _; omega) k0) okM_n), okB_n, okF_n⟩
-- ng6_1
theorem cr_494 (M : pM) (s0 : Int) (b0 : 0 ≤ s0 ∧ s0 ≤ 255) (m0 : HP 144 (5 : Int) (s0) M) (f0 : 0 ≤ (s0 - 62)) (hG : gI M) : (HP 144 (6 : Int) (s0) M ∧ True) := by
  exact ⟨Eq.mpr hp_144 (fun k h1 h2 => if e : k = 5 then (by subst e; rw [show sgs.getD 5 0 = 61 by decide]; omega) else Eq.mp hp_144 m0 k h1 (by omega)), trivial⟩
theorem rul_494 : Rul r_494 := by
  refine ⟨fun _ ρ M hm hB hF hG => ?_, fun gi gv hg => (by cases hg)⟩
  have H := cr_494 M (ρ 0) (hB _ List.mem_cons_self) (cvp 144 (x' := (5 : Int)) (y' := ((ρ 0))) (by show 5 + 0 = _; omega) (by show 0 + (1 * ρ 0 + 0) = _; omega) (hm _ List.mem_cons_self)) (by have h := hF _ List.mem_cons_self; have h : 0 ≤ (-62) + (1 * ρ 0 + 0) := h; omega) hG
  obtain ⟨k0, -⟩ := H
  exact ⟨_, List.mem_cons_self, ρ, fun _ _ => rfl, (okM_c (pvp 144 (by show 6 + 0 = _; omega) (by show 0 + (1 * ρ 0 + 0) = _; omega) k0) okM_n), okB_n, okF_n⟩
-- sg5
theorem cr_495 (M : pM) (s0 : Int) (b0 : 0 ≤ s0 ∧ s0 ≤ 255) (f0 : 0 ≤ ((-1) * s0 + 61)) (f1 : 0 ≤ (s0 - 61)) (hG : gI M) : (HP 70 (s0) (0 : Int) M ∧ True) := by
  have e : s0 = 61 := by omega
  subst e
  exact ⟨Eq.mpr hp_70 (by decide), trivial⟩
theorem rul_495 : Rul r_495 := by
  refine ⟨fun _ ρ M hm hB hF hG => ?_, fun gi gv hg => (by cases hg)⟩
  have H := cr_495 M (ρ 0) (hB _ List.mem_cons_self) (by have h := hF _ List.mem_cons_self; have h : 0 ≤ 61 + ((-1) * ρ 0 + 0) := h; omega) (by have h := hF _ (List.mem_cons_of_mem _ List.mem_cons_self); have h : 0 ≤ (-61) + (1 * ρ 0 + 0) := h; omega) hG
  obtain ⟨k0, -⟩ := H
  exact ⟨_, List.mem_cons_self, ρ, fun _ _ => rfl, (okM_c (pvp 70 (by show 0 + (1 * ρ 0 + 0) = _; omega) (by show 0 + 0 = _; omega) k0) okM_n), okB_n, okF_n⟩
-- ng7_0
theorem cr_496 (M : pM) (s0 : Int) (b0 : 0 ≤ s0 ∧ s0 ≤ 255) (m0 : HP 144 (6 : Int) (s0) M) (f0 : 0 ≤ ((-1) * s0 + 42)) (hG : gI M) : (HP 144 (7 : Int) (s0) M ∧ True) := by
  exact ⟨Eq.mpr hp_144 (fun k h1 h2 => if e : k = 6 then (by subst e; rw [show sgs.getD 6 0 = 43 by decide]; omega) else Eq.mp hp_144 m0 k h1 (by omega)), trivial⟩
theorem rul_496 : Rul r_496 := by
  refine ⟨fun _ ρ M hm hB hF hG => ?_, fun gi gv hg => (by cases hg)⟩
  have H := cr_496 M (ρ 0) (hB _ List.mem_cons_self) (cvp 144 (x' := (6 : Int)) (y' := ((ρ 0))) (by show 6 + 0 = _; omega) (by show 0 + (1 * ρ 0 + 0) = _; omega) (hm _ List.mem_cons_self)) (by have h := hF _ List.mem_cons_self; have h : 0 ≤ 42 + ((-1) * ρ 0 + 0) := h; omega) hG
  obtain ⟨k0, -⟩ := H
  exact ⟨_, List.mem_cons_self, ρ, fun _ _ => rfl, (okM_c (pvp 144 (by show 7 + 0 = _; omega) (by show 0 + (1 * ρ 0 + 0) = _; omega) k0) okM_n), okB_n, okF_n⟩
-- ng7_1
theorem cr_497 (M : pM) (s0 : Int) (b0 : 0 ≤ s0 ∧ s0 ≤ 255) (m0 : HP 144 (6 : Int) (s0) M) (f0 : 0 ≤ (s0 - 44)) (hG : gI M) : (HP 144 (7 : Int) (s0) M ∧ True) := by
  exact ⟨Eq.mpr hp_144 (fun k h1 h2 => if e : k = 6 then (by subst e; rw [show sgs.getD 6 0 = 43 by decide]; omega) else Eq.mp hp_144 m0 k h1 (by omega)), trivial⟩
theorem rul_497 : Rul r_497 := by
  refine ⟨fun _ ρ M hm hB hF hG => ?_, fun gi gv hg => (by cases hg)⟩
  have H := cr_497 M (ρ 0) (hB _ List.mem_cons_self) (cvp 144 (x' := (6 : Int)) (y' := ((ρ 0))) (by show 6 + 0 = _; omega) (by show 0 + (1 * ρ 0 + 0) = _; omega) (hm _ List.mem_cons_self)) (by have h := hF _ List.mem_cons_self; have h : 0 ≤ (-44) + (1 * ρ 0 + 0) := h; omega) hG
  obtain ⟨k0, -⟩ := H
  exact ⟨_, List.mem_cons_self, ρ, fun _ _ => rfl, (okM_c (pvp 144 (by show 7 + 0 = _; omega) (by show 0 + (1 * ρ 0 + 0) = _; omega) k0) okM_n), okB_n, okF_n⟩
-- sg6
theorem cr_498 (M : pM) (s0 : Int) (b0 : 0 ≤ s0 ∧ s0 ≤ 255) (f0 : 0 ≤ ((-1) * s0 + 43)) (f1 : 0 ≤ (s0 - 43)) (hG : gI M) : (HP 70 (s0) (0 : Int) M ∧ True) := by
  have e : s0 = 43 := by omega
  subst e
  exact ⟨Eq.mpr hp_70 (by decide), trivial⟩
theorem rul_498 : Rul r_498 := by
  refine ⟨fun _ ρ M hm hB hF hG => ?_, fun gi gv hg => (by cases hg)⟩
  have H := cr_498 M (ρ 0) (hB _ List.mem_cons_self) (by have h := hF _ List.mem_cons_self; have h : 0 ≤ 43 + ((-1) * ρ 0 + 0) := h; omega) (by have h := hF _ (List.mem_cons_of_mem _ List.mem_cons_self); have h : 0 ≤ (-43) + (1 * ρ 0 + 0) := h; omega) hG
  obtain ⟨k0, -⟩ := H
  exact ⟨_, List.mem_cons_self, ρ, fun _ _ => rfl, (okM_c (pvp 70 (by show 0 + (1 * ρ 0 + 0) = _; omega) (by show 0 + 0 = _; omega) k0) okM_n), okB_n, okF_n⟩
-- ng8_0
theorem cr_499 (M : pM) (s0 : Int) (b0 : 0 ≤ s0 ∧ s0 ≤ 255) (m0 : HP 144 (7 : Int) (s0) M) (f0 : 0 ≤ ((-1) * s0 + 44)) (hG : gI M) : (HP 144 (8 : Int) (s0) M ∧ True) := by
  exact ⟨Eq.mpr hp_144 (fun k h1 h2 => if e : k = 7 then (by subst e; rw [show sgs.getD 7 0 = 45 by decide]; omega) else Eq.mp hp_144 m0 k h1 (by omega)), trivial⟩
theorem rul_499 : Rul r_499 := by
  refine ⟨fun _ ρ M hm hB hF hG => ?_, fun gi gv hg => (by cases hg)⟩
  have H := cr_499 M (ρ 0) (hB _ List.mem_cons_self) (cvp 144 (x' := (7 : Int)) (y' := ((ρ 0))) (by show 7 + 0 = _; omega) (by show 0 + (1 * ρ 0 + 0) = _; omega) (hm _ List.mem_cons_self)) (by have h := hF _ List.mem_cons_self; have h : 0 ≤ 44 + ((-1) * ρ 0 + 0) := h; omega) hG
  obtain ⟨k0, -⟩ := H
  exact ⟨_, List.mem_cons_self, ρ, fun _ _ => rfl, (okM_c (pvp 144 (by show 8 + 0 = _; omega) (by show 0 + (1 * ρ 0 + 0) = _; omega) k0) okM_n), okB_n, okF_n⟩
