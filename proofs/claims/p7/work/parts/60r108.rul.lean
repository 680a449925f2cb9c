-- nxw_1
theorem cr_800 (M : pM) (s0 s1 s2 s3 s4 : Int) (b0 : 0 ≤ s0 ∧ s0 ≤ 5) (b1 : 0 ≤ s1 ∧ s1 ≤ 5) (b2 : 0 ≤ s2 ∧ s2 ≤ 100) (b3 : 0 ≤ s3 ∧ s3 ≤ 5) (b4 : 0 ≤ s4 ∧ s4 ≤ 100) (m0 : HP 184 (0 : Int) (0 : Int) M) (m1 : HP 190 (8 * s0 + s1 + 1) (s1 + 1) M) (m2 : (0 ≤ (s1) ∧ M 15 (s1).toNat = (s2))) (m3 : HP 192 (8 * s0 + s3 + 1) (s3 + 1) M) (m4 : (0 ≤ (s3 + 6) ∧ M 71 (s3 + 6).toNat = (s4))) (f0 : 0 ≤ (s0 + (-1) * s1)) (f1 : 0 ≤ (s0 + (-1) * s3)) (hG : gI M) : (0 ≤ ((-1) * s1 + s3) ∧ 0 ≤ (s1 + (-1) * s3) ∧ True) := by
  have hE := Eq.mp hp_184 m0
  have hq : ∀ i : Nat, i < 6 → (M 15 (0 + i) < 0 ↔ M 71 (6 + i) < 0) := by
    intro i hi
    have z : M 15 (0 + i) = M 15 i := by rw [Nat.zero_add]
    have z2 : M 71 (6 * 1 + i) = M 71 (6 + i) := by rw [show 6 * 1 + i = 6 + i by omega]
    rw [z, ← z2]
    exact eq_w (b := 1) hE hi
  obtain ⟨pa, pi, p1, p2, p3, p4, p5⟩ := Eq.mp hp_190 m1
  have hu := m2.2
  rw [show (s1).toNat = 0 + s1.toNat by omega] at hu
  obtain ⟨qa, qi, q1, q2, q3, q4, q5⟩ := Eq.mp hp_192 m3
  have hv := m4.2
  rw [show (s3 + 6).toNat = 6 + s3.toNat by omega] at hv
  have hij : s1 = s3 := by
    by_cases h1 : s1 < s3
    · have := p5 s3.toNat (by omega) (by omega)
      rw [hq s3.toNat (by omega), hv] at this
      omega
    · by_cases h2 : s3 < s1
      · have := q5 s1.toNat (by omega) (by omega)
        rw [← hq s1.toNat (by omega), hu] at this
        omega
      · omega
  exact ⟨by omega, by omega, trivial⟩
theorem rul_800 : Rul r_800 := by
  refine ⟨fun _ ρ M hm hB hF hG => ?_, fun gi gv hg => (by cases hg)⟩
  have H := cr_800 M (ρ 0) (ρ 1) (ρ 2) (ρ 3) (ρ 4) (hB _ List.mem_cons_self) (hB _ (List.mem_cons_of_mem _ List.mem_cons_self)) (hB _ (List.mem_cons_of_mem _ (List.mem_cons_of_mem _ List.mem_cons_self))) (hB _ (List.mem_cons_of_mem _ (List.mem_cons_of_mem _ (List.mem_cons_of_mem _ List.mem_cons_self)))) (hB _ (List.mem_cons_of_mem _ (List.mem_cons_of_mem _ (List.mem_cons_of_mem _ (List.mem_cons_of_mem _ List.mem_cons_self))))) (cvp 184 (x' := (0 : Int)) (y' := (0 : Int)) (by show 0 + 0 = _; omega) (by show 0 + 0 = _; omega) (hm _ List.mem_cons_self)) (cvp 190 (x' := (8 * (ρ 0) + (ρ 1) + 1)) (y' := ((ρ 1) + 1)) (by show 1 + (8 * ρ 0 + (1 * ρ 1 + 0)) = _; omega) (by show 1 + (1 * ρ 1 + 0) = _; omega) (hm _ (List.mem_cons_of_mem _ List.mem_cons_self))) (cvm (c := 15) (by decide) (x' := ((ρ 1))) (y' := ((ρ 2))) (by show 0 + (1 * ρ 1 + 0) = _; omega) (by show 0 + (1 * ρ 2 + 0) = _; omega) (hm _ (List.mem_cons_of_mem _ (List.mem_cons_of_mem _ List.mem_cons_self)))) (cvp 192 (x' := (8 * (ρ 0) + (ρ 3) + 1)) (y' := ((ρ 3) + 1)) (by show 1 + (8 * ρ 0 + (1 * ρ 3 + 0)) = _; omega) (by show 1 + (1 * ρ 3 + 0) = _; omega) (hm _ (List.mem_cons_of_mem _ (List.mem_cons_of_mem _ (List.mem_cons_of_mem _ List.mem_cons_self))))) (cvm (c := 71) (by decide) (x' := ((ρ 3) + 6)) (y' := ((ρ 4))) (by show 6 + (1 * ρ 3 + 0) = _; omega) (by show 0 + (1 * ρ 4 + 0) = _; omega) (hm _ (List.mem_cons_of_mem _ (List.mem_cons_of_mem _ (List.mem_cons_of_mem _ (List.mem_cons_of_mem _ List.mem_cons_self)))))) (by have h := hF _ List.mem_cons_self; have h : 0 ≤ 0 + (1 * ρ 0 + ((-1) * ρ 1 + 0)) := h; omega) (by have h := hF _ (List.mem_cons_of_mem _ List.mem_cons_self); have h : 0 ≤ 0 + (1 * ρ 0 + ((-1) * ρ 3 + 0)) := h; omega) hG
  obtain ⟨f0, f1, -⟩ := H
  exact ⟨_, List.mem_cons_self, ρ, fun _ _ => rfl, okM_n, okB_n, (okF_c (by show 0 ≤ 0 + ((-1) * ρ 1 + (1 * ρ 3 + 0)); omega) (okF_c (by show 0 ≤ 0 + (1 * ρ 1 + ((-1) * ρ 3 + 0)); omega) okF_n))⟩
-- nyw_1
theorem cr_801 (M : pM) (s0 s1 s2 : Int) (b0 : 0 ≤ s0 ∧ s0 ≤ 5) (b1 : 0 ≤ s1 ∧ s1 ≤ 5) (b2 : 0 ≤ s2 ∧ s2 ≤ 100) (m0 : HP 184 (0 : Int) (0 : Int) M) (m1 : HP 190 (8 * s0) (0 : Int) M) (m2 : HP 192 (8 * s0 + s1 + 1) (s1 + 1) M) (m3 : (0 ≤ (s1 + 6) ∧ M 71 (s1 + 6).toNat = (s2))) (f0 : 0 ≤ (s0 + (-1) * s1)) (hG : gI M) : (0 ≤ ((-1) * s2 - 1) ∧ True) := by
  have hE := Eq.mp hp_184 m0
  have hq : ∀ i : Nat, i < 6 → (M 15 (0 + i) < 0 ↔ M 71 (6 + i) < 0) := by
    intro i hi
    have z : M 15 (0 + i) = M 15 i := by rw [Nat.zero_add]
    have z2 : M 71 (6 * 1 + i) = M 71 (6 + i) := by rw [show 6 * 1 + i = 6 + i by omega]
    rw [z, ← z2]
    exact eq_w (b := 1) hE hi
  obtain ⟨pa, pi, p1, p2, p3, p4, p5⟩ := Eq.mp hp_190 m1
  have hv := m3.2
  rw [show (s1 + 6).toNat = 6 + s1.toNat by omega] at hv
  have := p5 s1.toNat (by omega) (by omega)
  rw [hq s1.toNat (by omega), hv] at this
  exact ⟨by omega, trivial⟩
theorem rul_801 : Rul r_801 := by
  refine ⟨fun _ ρ M hm hB hF hG => ?_, fun gi gv hg => (by cases hg)⟩
  have H := cr_801 M (ρ 0) (ρ 1) (ρ 2) (hB _ List.mem_cons_self) (hB _ (List.mem_cons_of_mem _ List.mem_cons_self)) (hB _ (List.mem_cons_of_mem _ (List.mem_cons_of_mem _ List.mem_cons_self))) (cvp 184 (x' := (0 : Int)) (y' := (0 : Int)) (by show 0 + 0 = _; omega) (by show 0 + 0 = _; omega) (hm _ List.mem_cons_self)) (cvp 190 (x' := (8 * (ρ 0))) (y' := (0 : Int)) (by show 0 + (8 * ρ 0 + 0) = _; omega) (by show 0 + 0 = _; omega) (hm _ (List.mem_cons_of_mem _ List.mem_cons_self))) (cvp 192 (x' := (8 * (ρ 0) + (ρ 1) + 1)) (y' := ((ρ 1) + 1)) (by show 1 + (8 * ρ 0 + (1 * ρ 1 + 0)) = _; omega) (by show 1 + (1 * ρ 1 + 0) = _; omega) (hm _ (List.mem_cons_of_mem _ (List.mem_cons_of_mem _ List.mem_cons_self)))) (cvm (c := 71) (by decide) (x' := ((ρ 1) + 6)) (y' := ((ρ 2))) (by show 6 + (1 * ρ 1 + 0) = _; omega) (by show 0 + (1 * ρ 2 + 0) = _; omega) (hm _ (List.mem_cons_of_mem _ (List.mem_cons_of_mem _ (List.mem_cons_of_mem _ List.mem_cons_self))))) (by have h := hF _ List.mem_cons_self; have h : 0 ≤ 0 + (1 * ρ 0 + ((-1) * ρ 1 + 0)) := h; omega) hG
  obtain ⟨f0, -⟩ := H
  exact ⟨_, List.mem_cons_self, ρ, fun _ _ => rfl, okM_n, okB_n, (okF_c (by show 0 ≤ (-1) + ((-1) * ρ 2 + 0); omega) okF_n)⟩
-- nzw_1
theorem cr_802 (M : pM) (s0 s1 s2 : Int) (b0 : 0 ≤ s0 ∧ s0 ≤ 5) (b1 : 0 ≤ s1 ∧ s1 ≤ 5) (b2 : 0 ≤ s2 ∧ s2 ≤ 100) (m0 : HP 184 (0 : Int) (0 : Int) M) (m1 : HP 192 (8 * s0) (0 : Int) M) (m2 : HP 190 (8 * s0 + s1 + 1) (s1 + 1) M) (m3 : (0 ≤ (s1) ∧ M 15 (s1).toNat = (s2))) (f0 : 0 ≤ (s0 + (-1) * s1)) (hG : gI M) : (0 ≤ ((-1) * s2 - 1) ∧ True) := by
  have hE := Eq.mp hp_184 m0
  have hq : ∀ i : Nat, i < 6 → (M 15 (0 + i) < 0 ↔ M 71 (6 + i) < 0) := by
    intro i hi
    have z : M 15 (0 + i) = M 15 i := by rw [Nat.zero_add]
    have z2 : M 71 (6 * 1 + i) = M 71 (6 + i) := by rw [show 6 * 1 + i = 6 + i by omega]
    rw [z, ← z2]
    exact eq_w (b := 1) hE hi
  obtain ⟨pa, pi, p1, p2, p3, p4, p5⟩ := Eq.mp hp_192 m1
  have hu := m3.2
  rw [show (s1).toNat = 0 + s1.toNat by omega] at hu
  have := p5 s1.toNat (by omega) (by omega)
  rw [← hq s1.toNat (by omega), hu] at this
  exact ⟨by omega, trivial⟩
theorem rul_802 : Rul r_802 := by
  refine ⟨fun _ ρ M hm hB hF hG => ?_, fun gi gv hg => (by cases hg)⟩
  have H := cr_802 M (ρ 0) (ρ 1) (ρ 2) (hB _ List.mem_cons_self) (hB _ (List.mem_cons_of_mem _ List.mem_cons_self)) (hB _ (List.mem_cons_of_mem _ (List.mem_cons_of_mem _ List.mem_cons_self))) (cvp 184 (x' := (0 : Int)) (y' := (0 : Int)) (by show 0 + 0 = _; omega) (by show 0 + 0 = _; omega) (hm _ List.mem_cons_self)) (cvp 192 (x' := (8 * (ρ 0))) (y' := (0 : Int)) (by show 0 + (8 * ρ 0 + 0) = _; omega) (by show 0 + 0 = _; omega) (hm _ (List.mem_cons_of_mem _ List.mem_cons_self))) (cvp 190 (x' := (8 * (ρ 0) + (ρ 1) + 1)) (y' := ((ρ 1) + 1)) (by show 1 + (8 * ρ 0 + (1 * ρ 1 + 0)) = _; omega) (by show 1 + (1 * ρ 1 + 0) = _; omega) (hm _ (List.mem_cons_of_mem _ (List.mem_cons_of_mem _ List.mem_cons_self)))) (cvm (c := 15) (by decide) (x' := ((ρ 1))) (y' := ((ρ 2))) (by show 0 + (1 * ρ 1 + 0) = _; omega) (by show 0 + (1 * ρ 2 + 0) = _; omega) (hm _ (List.mem_cons_of_mem _ (List.mem_cons_of_mem _ (List.mem_cons_of_mem _ List.mem_cons_self))))) (by have h := hF _ List.mem_cons_self; have h : 0 ≤ 0 + (1 * ρ 0 + ((-1) * ρ 1 + 0)) := h; omega) hG
  obtain ⟨f0, -⟩ := H
  exact ⟨_, List.mem_cons_self, ρ, fun _ _ => rfl, okM_n, okB_n, (okF_c (by show 0 ≤ (-1) + ((-1) * ρ 2 + 0); omega) okF_n)⟩
-- cl0_0_
theorem cr_803 (M : pM) (s0 s1 : Int) (b0 : 0 ≤ s0 ∧ s0 ≤ 63) (b1 : 0 ≤ s1 ∧ s1 ≤ 36) (hG : gI M) : (HP 193 (s0 + 64 * s1) (40 : Int) M ∧ True) := by
  exact ⟨Eq.mpr hp_193 ⟨s0.toNat, s1.toNat, 0, 40, ⟨by omega, by omega, by omega⟩, by omega, by omega, fun w hw => by omega, Or.inl rfl⟩, trivial⟩
theorem rul_803 : Rul r_803 := by
  refine ⟨fun _ ρ M hm hB hF hG => ?_, fun gi gv hg => (by cases hg)⟩
  have H := cr_803 M (ρ 0) (ρ 1) (hB _ List.mem_cons_self) (hB _ (List.mem_cons_of_mem _ List.mem_cons_self)) hG
  obtain ⟨k0, -⟩ := H
  exact ⟨_, List.mem_cons_self, ρ, fun _ _ => rfl, (okM_c (pvp 193 (by show 0 + (1 * ρ 0 + (64 * ρ 1 + 0)) = _; omega) (by show 40 + 0 = _; omega) k0) okM_n), okB_n, okF_n⟩
-- cln0_0
theorem cr_804 (M : pM) (s0 s1 s2 s3 s4 : Int) (b0 : 0 ≤ s0 ∧ s0 ≤ 63) (b1 : 0 ≤ s1 ∧ s1 ≤ 36) (b2 : 0 ≤ s2 ∧ s2 ≤ 11) (b3 : 0 ≤ s3 ∧ s3 ≤ 40) (b4 : (-2147483648) ≤ s4 ∧ s4 ≤ 2147483647) (m0 : HP 193 (s0 + 64 * s1) (64 * s2 + s3) M) (m1 : (0 ≤ (4 * s2) ∧ M 8 (4 * s2).toNat = (s4))) (f0 : 0 ≤ (s0 + (-1) * s4 - 1)) (hG : gI M) : (HP 193 (s0 + 64 * s1) (64 * s2 + s3 + 64) M ∧ True) := by
  have hv := m1.2
  rw [show (4 * s2).toNat = 4 * s2.toNat by omega] at hv
  obtain ⟨c, mm, k, h, ⟨p1, p2, p3⟩, p4, p5, p6, p7⟩ := Eq.mp hp_193 m0
  have ec : c = s0.toNat := by omega
  have em : mm = s1.toNat := by omega
  have ek : k = s2.toNat := by omega
  have eh : h = s3.toNat := by omega
  subst ec
  subst em
  subst ek
  subst eh
  have hn : ¬ qhs (M 8) (s0.toNat : Int) (s1.toNat : Int) s2.toNat := by
    intro hh
    obtain ⟨g1, g2, g3⟩ := hh
    rw [hv] at g1
    omega
  refine ⟨Eq.mpr hp_193 ⟨s0.toNat, s1.toNat, s2.toNat + 1, s3.toNat, ⟨p1, by omega, p3⟩, by omega, by omega, fun w hw hh => ?_, ?_⟩, trivial⟩
  · by_cases e : w = s2.toNat
    · rw [e] at hh; exact absurd hh hn
    · exact p6 w (by omega) hh
  · rcases p7 with p7 | ⟨w, w1, w2, w3⟩
    · exact Or.inl p7
    · exact Or.inr ⟨w, by omega, w2, w3⟩
theorem rul_804 : Rul r_804 := by
  refine ⟨fun _ ρ M hm hB hF hG => ?_, fun gi gv hg => (by cases hg)⟩
  have H := cr_804 M (ρ 0) (ρ 1) (ρ 2) (ρ 3) (ρ 4) (hB _ List.mem_cons_self) (hB _ (List.mem_cons_of_mem _ List.mem_cons_self)) (hB _ (List.mem_cons_of_mem _ (List.mem_cons_of_mem _ List.mem_cons_self))) (hB _ (List.mem_cons_of_mem _ (List.mem_cons_of_mem _ (List.mem_cons_of_mem _ List.mem_cons_self)))) (hB _ (List.mem_cons_of_mem _ (List.mem_cons_of_mem _ (List.mem_cons_of_mem _ (List.mem_cons_of_mem _ List.mem_cons_self))))) (cvp 193 (x' := ((ρ 0) + 64 * (ρ 1))) (y' := (64 * (ρ 2) + (ρ 3))) (by show 0 + (1 * ρ 0 + (64 * ρ 1 + 0)) = _; omega) (by show 0 + (64 * ρ 2 + (1 * ρ 3 + 0)) = _; omega) (hm _ List.mem_cons_self)) (cvm (c := 8) (by decide) (x' := (4 * (ρ 2))) (y' := ((ρ 4))) (by show 0 + (4 * ρ 2 + 0) = _; omega) (by show 0 + (1 * ρ 4 + 0) = _; omega) (hm _ (List.mem_cons_of_mem _ List.mem_cons_self))) (by have h := hF _ List.mem_cons_self; have h : 0 ≤ (-1) + (1 * ρ 0 + ((-1) * ρ 4 + 0)) := h; omega) hG
  obtain ⟨k0, -⟩ := H
  exact ⟨_, List.mem_cons_self, ρ, fun _ _ => rfl, (okM_c (pvp 193 (by show 0 + (1 * ρ 0 + (64 * ρ 1 + 0)) = _; omega) (by show 64 + (64 * ρ 2 + (1 * ρ 3 + 0)) = _; omega) k0) okM_n), okB_n, okF_n⟩
-- cln1_0
theorem cr_805 (M : pM) (s0 s1 s2 s3 s4 : Int) (b0 : 0 ≤ s0 ∧ s0 ≤ 63) (b1 : 0 ≤ s1 ∧ s1 ≤ 36) (b2 : 0 ≤ s2 ∧ s2 ≤ 11) (b3 : 0 ≤ s3 ∧ s3 ≤ 40) (b4 : (-2147483648) ≤ s4 ∧ s4 ≤ 2147483647) (m0 : HP 193 (s0 + 64 * s1) (64 * s2 + s3) M) (m1 : (0 ≤ (4 * s2) ∧ M 8 (4 * s2).toNat = (s4))) (f0 : 0 ≤ ((-1) * s0 + s4 - 1)) (hG : gI M) : (HP 193 (s0 + 64 * s1) (64 * s2 + s3 + 64) M ∧ True) := by
  have hv := m1.2
  rw [show (4 * s2).toNat = 4 * s2.toNat by omega] at hv
  obtain ⟨c, mm, k, h, ⟨p1, p2, p3⟩, p4, p5, p6, p7⟩ := Eq.mp hp_193 m0
  have ec : c = s0.toNat := by omega
  have em : mm = s1.toNat := by omega
  have ek : k = s2.toNat := by omega
  have eh : h = s3.toNat := by omega
  subst ec
  subst em
  subst ek
  subst eh
  have hn : ¬ qhs (M 8) (s0.toNat : Int) (s1.toNat : Int) s2.toNat := by
    intro hh
    obtain ⟨g1, g2, g3⟩ := hh
    rw [hv] at g1
    omega
  refine ⟨Eq.mpr hp_193 ⟨s0.toNat, s1.toNat, s2.toNat + 1, s3.toNat, ⟨p1, by omega, p3⟩, by omega, by omega, fun w hw hh => ?_, ?_⟩, trivial⟩
  · by_cases e : w = s2.toNat
    · rw [e] at hh; exact absurd hh hn
    · exact p6 w (by omega) hh
  · rcases p7 with p7 | ⟨w, w1, w2, w3⟩
    · exact Or.inl p7
    · exact Or.inr ⟨w, by omega, w2, w3⟩
theorem rul_805 : Rul r_805 := by
  refine ⟨fun _ ρ M hm hB hF hG => ?_, fun gi gv hg => (by cases hg)⟩
  have H := cr_805 M (ρ 0) (ρ 1) (ρ 2) (ρ 3) (ρ 4) (hB _ List.mem_cons_self) (hB _ (List.mem_cons_of_mem _ List.mem_cons_self)) (hB _ (List.mem_cons_of_mem _ (List.mem_cons_of_mem _ List.mem_cons_self))) (hB _ (List.mem_cons_of_mem _ (List.mem_cons_of_mem _ (List.mem_cons_of_mem _ List.mem_cons_self)))) (hB _ (List.mem_cons_of_mem _ (List.mem_cons_of_mem _ (List.mem_cons_of_mem _ (List.mem_cons_of_mem _ List.mem_cons_self))))) (cvp 193 (x' := ((ρ 0) + 64 * (ρ 1))) (y' := (64 * (ρ 2) + (ρ 3))) (by show 0 + (1 * ρ 0 + (64 * ρ 1 + 0)) = _; omega) (by show 0 + (64 * ρ 2 + (1 * ρ 3 + 0)) = _; omega) (hm _ List.mem_cons_self)) (cvm (c := 8) (by decide) (x' := (4 * (ρ 2))) (y' := ((ρ 4))) (by show 0 + (4 * ρ 2 + 0) = _; omega) (by show 0 + (1 * ρ 4 + 0) = _; omega) (hm _ (List.mem_cons_of_mem _ List.mem_cons_self))) (by have h := hF _ List.mem_cons_self; have h : 0 ≤ (-1) + ((-1) * ρ 0 + (1 * ρ 4 + 0)) := h; omega) hG
  obtain ⟨k0, -⟩ := H
  exact ⟨_, List.mem_cons_self, ρ, fun _ _ => rfl, (okM_c (pvp 193 (by show 0 + (1 * ρ 0 + (64 * ρ 1 + 0)) = _; omega) (by show 64 + (64 * ρ 2 + (1 * ρ 3 + 0)) = _; omega) k0) okM_n), okB_n, okF_n⟩
-- cln2_0
theorem cr_806 (M : pM) (s0 s1 s2 s3 s4 : Int) (b0 : 0 ≤ s0 ∧ s0 ≤ 63) (b1 : 0 ≤ s1 ∧ s1 ≤ 36) (b2 : 0 ≤ s2 ∧ s2 ≤ 11) (b3 : 0 ≤ s3 ∧ s3 ≤ 40) (b4 : (-2147483648) ≤ s4 ∧ s4 ≤ 2147483647) (m0 : HP 193 (s0 + 64 * s1) (64 * s2 + s3) M) (m1 : (0 ≤ (4 * s2 + 2) ∧ M 8 (4 * s2 + 2).toNat = (s4))) (f0 : 0 ≤ ((-1) * s1 + s4 - 1)) (hG : gI M) : (HP 193 (s0 + 64 * s1) (64 * s2 + s3 + 64) M ∧ True) := by
  have hv := m1.2
  rw [show (4 * s2 + 2).toNat = 4 * s2.toNat + 2 by omega] at hv
  obtain ⟨c, mm, k, h, ⟨p1, p2, p3⟩, p4, p5, p6, p7⟩ := Eq.mp hp_193 m0
  have ec : c = s0.toNat := by omega
  have em : mm = s1.toNat := by omega
  have ek : k = s2.toNat := by omega
  have eh : h = s3.toNat := by omega
  subst ec
  subst em
  subst ek
  subst eh
  have hn : ¬ qhs (M 8) (s0.toNat : Int) (s1.toNat : Int) s2.toNat := by
    intro hh
    obtain ⟨g1, g2, g3⟩ := hh
    rw [hv] at g2
    omega
  refine ⟨Eq.mpr hp_193 ⟨s0.toNat, s1.toNat, s2.toNat + 1, s3.toNat, ⟨p1, by omega, p3⟩, by omega, by omega, fun w hw hh => ?_, ?_⟩, trivial⟩
  · by_cases e : w = s2.toNat
    · rw [e] at hh; exact absurd hh hn
    · exact p6 w (by omega) hh
  · rcases p7 with p7 | ⟨w, w1, w2, w3⟩
    · exact Or.inl p7
    · exact Or.inr ⟨w, by omega, w2, w3⟩
theorem rul_806 : Rul r_806 := by
  refine ⟨fun _ ρ M hm hB hF hG => ?_, fun gi gv hg => (by cases hg)⟩
  have H := cr_806 M (ρ 0) (ρ 1) (ρ 2) (ρ 3) (ρ 4) (hB _ List.mem_cons_self) (hB _ (List.mem_cons_of_mem _ List.mem_cons_self)) (hB _ (List.mem_cons_of_mem _ (List.mem_cons_of_mem _ List.mem_cons_self))) (hB _ (List.mem_cons_of_mem _ (List.mem_cons_of_mem _ (List.mem_cons_of_mem _ List.mem_cons_self)))) (hB _ (List.mem_cons_of_mem _ (List.mem_cons_of_mem _ (List.mem_cons_of_mem _ (List.mem_cons_of_mem _ List.mem_cons_self))))) (cvp 193 (x' := ((ρ 0) + 64 * (ρ 1))) (y' := (64 * (ρ 2) + (ρ 3))) (by show 0 + (1 * ρ 0 + (64 * ρ 1 + 0)) = _; omega) (by show 0 + (64 * ρ 2 + (1 * ρ 3 + 0)) = _; omega) (hm _ List.mem_cons_self)) (cvm (c := 8) (by decide) (x' := (4 * (ρ 2) + 2)) (y' := ((ρ 4))) (by show 2 + (4 * ρ 2 + 0) = _; omega) (by show 0 + (1 * ρ 4 + 0) = _; omega) (hm _ (List.mem_cons_of_mem _ List.mem_cons_self))) (by have h := hF _ List.mem_cons_self; have h : 0 ≤ (-1) + ((-1) * ρ 1 + (1 * ρ 4 + 0)) := h; omega) hG
  obtain ⟨k0, -⟩ := H
  exact ⟨_, List.mem_cons_self, ρ, fun _ _ => rfl, (okM_c (pvp 193 (by show 0 + (1 * ρ 0 + (64 * ρ 1 + 0)) = _; omega) (by show 64 + (64 * ρ 2 + (1 * ρ 3 + 0)) = _; omega) k0) okM_n), okB_n, okF_n⟩
-- cln3_0
theorem cr_807 (M : pM) (s0 s1 s2 s3 s4 : Int) (b0 : 0 ≤ s0 ∧ s0 ≤ 63) (b1 : 0 ≤ s1 ∧ s1 ≤ 36) (b2 : 0 ≤ s2 ∧ s2 ≤ 11) (b3 : 0 ≤ s3 ∧ s3 ≤ 40) (b4 : (-2147483648) ≤ s4 ∧ s4 ≤ 2147483647) (m0 : HP 193 (s0 + 64 * s1) (64 * s2 + s3) M) (m1 : (0 ≤ (4 * s2 + 3) ∧ M 8 (4 * s2 + 3).toNat = (s4))) (f0 : 0 ≤ (s1 + (-1) * s4)) (hG : gI M) : (HP 193 (s0 + 64 * s1) (64 * s2 + s3 + 64) M ∧ True) := by
  have hv := m1.2
  rw [show (4 * s2 + 3).toNat = 4 * s2.toNat + 3 by omega] at hv
  obtain ⟨c, mm, k, h, ⟨p1, p2, p3⟩, p4, p5, p6, p7⟩ := Eq.mp hp_193 m0
  have ec : c = s0.toNat := by omega
  have em : mm = s1.toNat := by omega
  have ek : k = s2.toNat := by omega
  have eh : h = s3.toNat := by omega
  subst ec
  subst em
  subst ek
  subst eh
  have hn : ¬ qhs (M 8) (s0.toNat : Int) (s1.toNat : Int) s2.toNat := by
    intro hh
    obtain ⟨g1, g2, g3⟩ := hh
    rw [hv] at g3
    omega
  refine ⟨Eq.mpr hp_193 ⟨s0.toNat, s1.toNat, s2.toNat + 1, s3.toNat, ⟨p1, by omega, p3⟩, by omega, by omega, fun w hw hh => ?_, ?_⟩, trivial⟩
  · by_cases e : w = s2.toNat
    · rw [e] at hh; exact absurd hh hn
    · exact p6 w (by omega) hh
  · rcases p7 with p7 | ⟨w, w1, w2, w3⟩
    · exact Or.inl p7
    · exact Or.inr ⟨w, by omega, w2, w3⟩
theorem rul_807 : Rul r_807 := by
  refine ⟨fun _ ρ M hm hB hF hG => ?_, fun gi gv hg => (by cases hg)⟩
  have H := cr_807 M (ρ 0) (ρ 1) (ρ 2) (ρ 3) (ρ 4) (hB _ List.mem_cons_self) (hB _ (List.mem_cons_of_mem _ List.mem_cons_self)) (hB _ (List.mem_cons_of_mem _ (List.mem_cons_of_mem _ List.mem_cons_self))) (hB _ (List.mem_cons_of_mem _ (List.mem_cons_of_mem _ (List.mem_cons_of_mem _ List.mem_cons_self)))) (hB _ (List.mem_cons_of_mem _ (List.mem_cons_of_mem _ (List.mem_cons_of_mem _ (List.mem_cons_of_mem _ List.mem_cons_self))))) (cvp 193 (x' := ((ρ 0) + 64 * (ρ 1))) (y' := (64 * (ρ 2) + (ρ 3))) (by show 0 + (1 * ρ 0 + (64 * ρ 1 + 0)) = _; omega) (by show 0 + (64 * ρ 2 + (1 * ρ 3 + 0)) = _; omega) (hm _ List.mem_cons_self)) (cvm (c := 8) (by decide) (x' := (4 * (ρ 2) + 3)) (y' := ((ρ 4))) (by show 3 + (4 * ρ 2 + 0) = _; omega) (by show 0 + (1 * ρ 4 + 0) = _; omega) (hm _ (List.mem_cons_of_mem _ List.mem_cons_self))) (by have h := hF _ List.mem_cons_self; have h : 0 ≤ 0 + (1 * ρ 1 + ((-1) * ρ 4 + 0)) := h; omega) hG
  obtain ⟨k0, -⟩ := H
  exact ⟨_, List.mem_cons_self, ρ, fun _ _ => rfl, (okM_c (pvp 193 (by show 0 + (1 * ρ 0 + (64 * ρ 1 + 0)) = _; omega) (by show 64 + (64 * ρ 2 + (1 * ρ 3 + 0)) = _; omega) k0) okM_n), okB_n, okF_n⟩
-- cly0_0
theorem cr_808 (M : pM) (s0 s1 s2 s3 s4 s5 s6 : Int) (b0 : 0 ≤ s0 ∧ s0 ≤ 63) (b1 : 0 ≤ s1 ∧ s1 ≤ 36) (b2 : 0 ≤ s2 ∧ s2 ≤ 11) (b3 : 0 ≤ s3 ∧ s3 ≤ 40) (b4 : 0 ≤ s4 ∧ s4 ≤ 63) (b5 : (-2147483648) ≤ s5 ∧ s5 ≤ 2147483647) (b6 : (-2147483648) ≤ s6 ∧ s6 ≤ 2147483647) (m0 : HP 193 (s0 + 64 * s1) (64 * s2 + s3) M) (m1 : (0 ≤ (4 * s2) ∧ M 8 (4 * s2).toNat = (s0))) (m2 : (0 ≤ (4 * s2 + 1) ∧ M 8 (4 * s2 + 1).toNat = (s4))) (m3 : (0 ≤ (4 * s2 + 2) ∧ M 8 (4 * s2 + 2).toNat = (s5))) (m4 : (0 ≤ (4 * s2 + 3) ∧ M 8 (4 * s2 + 3).toNat = (s6))) (f0 : 0 ≤ (s1 + (-1) * s5)) (f1 : 0 ≤ ((-1) * s1 + s6 - 1)) (f2 : 0 ≤ ((-1) * s3 + s4)) (hG : gI M) : (HP 193 (s0 + 64 * s1) (64 * s2 + s3 + 64) M ∧ True) := by
  have v0 := m1.2
  rw [show (4 * s2).toNat = 4 * s2.toNat by omega] at v0
  have v1 := m2.2
  rw [show (4 * s2 + 1).toNat = 4 * s2.toNat + 1 by omega] at v1
  have v2 := m3.2
  rw [show (4 * s2 + 2).toNat = 4 * s2.toNat + 2 by omega] at v2
  have v3 := m4.2
  rw [show (4 * s2 + 3).toNat = 4 * s2.toNat + 3 by omega] at v3
  obtain ⟨c, mm, k, h, ⟨p1, p2, p3⟩, p4, p5, p6, p7⟩ := Eq.mp hp_193 m0
  have ec : c = s0.toNat := by omega
  have em : mm = s1.toNat := by omega
  have ek : k = s2.toNat := by omega
  have eh : h = s3.toNat := by omega
  subst ec
  subst em
  subst ek
  subst eh
  have hh : qhs (M 8) (s0.toNat : Int) (s1.toNat : Int) s2.toNat := ⟨by rw [v0]; omega, by rw [v2]; omega, by rw [v3]; omega⟩
  refine ⟨Eq.mpr hp_193 ⟨s0.toNat, s1.toNat, s2.toNat + 1, s3.toNat, ⟨p1, by omega, by omega⟩, by omega, by omega, fun w hw hw2 => ?_, ?_⟩, trivial⟩
  · by_cases e : w = s2.toNat
    · rw [e, v1]; omega
    · have := p6 w (by omega) hw2; omega
  · rcases p7 with p7 | ⟨w, w1, w2, w3⟩
    · exact Or.inl p7
    · exact Or.inr ⟨w, by omega, w2, w3⟩
theorem rul_808 : Rul r_808 := by
  refine ⟨fun _ ρ M hm hB hF hG => ?_, fun gi gv hg => (by cases hg)⟩
  have H := cr_808 M (ρ 0) (ρ 1) (ρ 2) (ρ 3) (ρ 4) (ρ 5) (ρ 6) (hB _ List.mem_cons_self) (hB _ (List.mem_cons_of_mem _ List.mem_cons_self)) (hB _ (List.mem_cons_of_mem _ (List.mem_cons_of_mem _ List.mem_cons_self))) (hB _ (List.mem_cons_of_mem _ (List.mem_cons_of_mem _ (List.mem_cons_of_mem _ List.mem_cons_self)))) (hB _ (List.mem_cons_of_mem _ (List.mem_cons_of_mem _ (List.mem_cons_of_mem _ (List.mem_cons_of_mem _ List.mem_cons_self))))) (hB _ (List.mem_cons_of_mem _ (List.mem_cons_of_mem _ (List.mem_cons_of_mem _ (List.mem_cons_of_mem _ (List.mem_cons_of_mem _ List.mem_cons_self)))))) (hB _ (List.mem_cons_of_mem _ (List.mem_cons_of_mem _ (List.mem_cons_of_mem _ (List.mem_cons_of_mem _ (List.mem_cons_of_mem _ (List.mem_cons_of_mem _ List.mem_cons_self))))))) (cvp 193 (x' := ((ρ 0) + 64 * (ρ 1))) (y' := (64 * (ρ 2) + (ρ 3))) (by show 0 + (1 * ρ 0 + (64 * ρ 1 + 0)) = _; omega) (by show 0 + (64 * ρ 2 + (1 * ρ 3 + 0)) = _; omega) (hm _ List.mem_cons_self)) (cvm (c := 8) (by decide) (x' := (4 * (ρ 2))) (y' := ((ρ 0))) (by show 0 + (4 * ρ 2 + 0) = _; omega) (by show 0 + (1 * ρ 0 + 0) = _; omega) (hm _ (List.mem_cons_of_mem _ List.mem_cons_self))) (cvm (c := 8) (by decide) (x' := (4 * (ρ 2) + 1)) (y' := ((ρ 4))) (by show 1 + (4 * ρ 2 + 0) = _; omega) (by show 0 + (1 * ρ 4 + 0) = _; omega) (hm _ (List.mem_cons_of_mem _ (List.mem_cons_of_mem _ List.mem_cons_self)))) (cvm (c := 8) (by decide) (x' := (4 * (ρ 2) + 2)) (y' := ((ρ 5))) (by show 2 + (4 * ρ 2 + 0) = _; omega) (by show 0 + (1 * ρ 5 + 0) = _; omega) (hm _ (List.mem_cons_of_mem _ (List.mem_cons_of_mem _ (List.mem_cons_of_mem _ List.mem_cons_self))))) (cvm (c := 8) (by decide) (x' := (4 * (ρ 2) + 3)) (y' := ((ρ 6))) (by show 3 + (4 * ρ 2 + 0) = _; omega) (by show 0 + (1 * ρ 6 + 0) = _; omega) (hm _ (List.mem_cons_of_mem _ (List.mem_cons_of_mem _ (List.mem_cons_of_mem _ (List.mem_cons_of_mem _ List.mem_cons_self)))))) (by have h := hF _ List.mem_cons_self; have h : 0 ≤ 0 + (1 * ρ 1 + ((-1) * ρ 5 + 0)) := h; omega) (by have h := hF _ (List.mem_cons_of_mem _ List.mem_cons_self); have h : 0 ≤ (-1) + ((-1) * ρ 1 + (1 * ρ 6 + 0)) := h; omega) (by have h := hF _ (List.mem_cons_of_mem _ (List.mem_cons_of_mem _ List.mem_cons_self)); have h : 0 ≤ 0 + ((-1) * ρ 3 + (1 * ρ 4 + 0)) := h; omega) hG
  obtain ⟨k0, -⟩ := H
  exact ⟨_, List.mem_cons_self, ρ, fun _ _ => rfl, (okM_c (pvp 193 (by show 0 + (1 * ρ 0 + (64 * ρ 1 + 0)) = _; omega) (by show 64 + (64 * ρ 2 + (1 * ρ 3 + 0)) = _; omega) k0) okM_n), okB_n, okF_n⟩
-- cly1_0
theorem cr_809 (M : pM) (s0 s1 s2 s3 s4 s5 s6 : Int) (b0 : 0 ≤ s0 ∧ s0 ≤ 63) (b1 : 0 ≤ s1 ∧ s1 ≤ 36) (b2 : 0 ≤ s2 ∧ s2 ≤ 11) (b3 : 0 ≤ s3 ∧ s3 ≤ 40) (b4 : 0 ≤ s4 ∧ s4 ≤ 63) (b5 : (-2147483648) ≤ s5 ∧ s5 ≤ 2147483647) (b6 : (-2147483648) ≤ s6 ∧ s6 ≤ 2147483647) (m0 : HP 193 (s0 + 64 * s1) (64 * s2 + s3) M) (m1 : (0 ≤ (4 * s2) ∧ M 8 (4 * s2).toNat = (s0))) (m2 : (0 ≤ (4 * s2 + 1) ∧ M 8 (4 * s2 + 1).toNat = (s4))) (m3 : (0 ≤ (4 * s2 + 2) ∧ M 8 (4 * s2 + 2).toNat = (s5))) (m4 : (0 ≤ (4 * s2 + 3) ∧ M 8 (4 * s2 + 3).toNat = (s6))) (f0 : 0 ≤ (s1 + (-1) * s5)) (f1 : 0 ≤ ((-1) * s1 + s6 - 1)) (f2 : 0 ≤ (s3 + (-1) * s4)) (hG : gI M) : (HP 193 (s0 + 64 * s1) (64 * s2 + s4 + 64) M ∧ True) := by
  have v0 := m1.2
  rw [show (4 * s2).toNat = 4 * s2.toNat by omega] at v0
  have v1 := m2.2
  rw [show (4 * s2 + 1).toNat = 4 * s2.toNat + 1 by omega] at v1
  have v2 := m3.2
  rw [show (4 * s2 + 2).toNat = 4 * s2.toNat + 2 by omega] at v2
  have v3 := m4.2
  rw [show (4 * s2 + 3).toNat = 4 * s2.toNat + 3 by omega] at v3
  obtain ⟨c, mm, k, h, ⟨p1, p2, p3⟩, p4, p5, p6, p7⟩ := Eq.mp hp_193 m0
  have ec : c = s0.toNat := by omega
  have em : mm = s1.toNat := by omega
  have ek : k = s2.toNat := by omega
  have eh : h = s3.toNat := by omega
  subst ec
  subst em
  subst ek
  subst eh
  have hh : qhs (M 8) (s0.toNat : Int) (s1.toNat : Int) s2.toNat := ⟨by rw [v0]; omega, by rw [v2]; omega, by rw [v3]; omega⟩
  clear p7
  refine ⟨Eq.mpr hp_193 ⟨s0.toNat, s1.toNat, s2.toNat + 1, s4.toNat, ⟨p1, by omega, by omega⟩, by omega, by omega, fun w hw hw2 => ?_, ?_⟩, trivial⟩
  · by_cases e : w = s2.toNat
    · rw [e, v1]; omega
    · have := p6 w (by omega) hw2; omega
  · exact Or.inr ⟨s2.toNat, by omega, hh, by rw [v1]; omega⟩
theorem rul_809 : Rul r_809 := by
  refine ⟨fun _ ρ M hm hB hF hG => ?_, fun gi gv hg => (by cases hg)⟩
  have H := cr_809 M (ρ 0) (ρ 1) (ρ 2) (ρ 3) (ρ 4) (ρ 5) (ρ 6) (hB _ List.mem_cons_self) (hB _ (List.mem_cons_of_mem _ List.mem_cons_self)) (hB _ (List.mem_cons_of_mem _ (List.mem_cons_of_mem _ List.mem_cons_self))) (hB _ (List.mem_cons_of_mem _ (List.mem_cons_of_mem _ (List.mem_cons_of_mem _ List.mem_cons_self)))) (hB _ (List.mem_cons_of_mem _ (List.mem_cons_of_mem _ (List.mem_cons_of_mem _ (List.mem_cons_of_mem _ List.mem_cons_self))))) (hB _ (List.mem_cons_of_mem _ (List.mem_cons_of_mem _ (List.mem_cons_of_mem _ (List.mem_cons_of_mem _ (List.mem_cons_of_mem _ List.mem_cons_self)))))) (hB _ (List.mem_cons_of_mem _ (List.mem_cons_of_mem _ (List.mem_cons_of_mem _ (List.mem_cons_of_mem _ (List.mem_cons_of_mem _ (List.mem_cons_of_mem _ List.mem_cons_self))))))) (cvp 193 (x' := ((ρ 0) + 64 * (ρ 1))) (y' := (64 * (ρ 2) + (ρ 3))) (by show 0 + (1 * ρ 0 + (64 * ρ 1 + 0)) = _; omega) (by show 0 + (64 * ρ 2 + (1 * ρ 3 + 0)) = _; omega) (hm _ List.mem_cons_self)) (cvm (c := 8) (by decide) (x' := (4 * (ρ 2))) (y' := ((ρ 0))) (by show 0 + (4 * ρ 2 + 0) = _; omega) (by show 0 + (1 * ρ 0 + 0) = _; omega) (hm _ (List.mem_cons_of_mem _ List.mem_cons_self))) (cvm (c := 8) (by decide) (x' := (4 * (ρ 2) + 1)) (y' := ((ρ 4))) (by show 1 + (4 * ρ 2 + 0) = _; omega) (by show 0 + (1 * ρ 4 + 0) = _; omega) (hm _ (List.mem_cons_of_mem _ (List.mem_cons_of_mem _ List.mem_cons_self)))) (cvm (c := 8) (by decide) (x' := (4 * (ρ 2) + 2)) (y' := ((ρ 5))) (by show 2 + (4 * ρ 2 + 0) = _; omega) (by show 0 + (1 * ρ 5 + 0) = _; omega) (hm _ (List.mem_cons_of_mem _ (List.mem_cons_of_mem _ (List.mem_cons_of_mem _ List.mem_cons_self))))) (cvm (c := 8) (by decide) (x' := (4 * (ρ 2) + 3)) (y' := ((ρ 6))) (by show 3 + (4 * ρ 2 + 0) = _; omega) (by show 0 + (1 * ρ 6 + 0) = _; omega) (hm _ (List.mem_cons_of_mem _ (List.mem_cons_of_mem _ (List.mem_cons_of_mem _ (List.mem_cons_of_mem _ List.mem_cons_self)))))) (by have h := hF _ List.mem_cons_self; have h : 0 ≤ 0 + (1 * ρ 1 + ((-1) * ρ 5 + 0)) := h; omega) (by have h := hF _ (List.mem_cons_of_mem _ List.mem_cons_self); have h : 0 ≤ (-1) + ((-1) * ρ 1 + (1 * ρ 6 + 0)) := h; omega) (by have h := hF _ (List.mem_cons_of_mem _ (List.mem_cons_of_mem _ List.mem_cons_self)); have h : 0 ≤ 0 + (1 * ρ 3 + ((-1) * ρ 4 + 0)) := h; omega) hG
  obtain ⟨k0, -⟩ := H
  exact ⟨_, List.mem_cons_self, ρ, fun _ _ => rfl, (okM_c (pvp 193 (by show 0 + (1 * ρ 0 + (64 * ρ 1 + 0)) = _; omega) (by show 64 + (64 * ρ 2 + (1 * ρ 4 + 0)) = _; omega) k0) okM_n), okB_n, okF_n⟩
-- ns0_0
theorem cr_810 (M : pM) (s0 s1 s2 : Int) (b0 : 0 ≤ s0 ∧ s0 ≤ 63) (b1 : 0 ≤ s1 ∧ s1 ≤ 36) (b2 : 0 ≤ s2 ∧ s2 ≤ 40) (hG : gI M) : (HP 195 (s0 + 64 * s1) (s2) M ∧ True) := by
  exact ⟨Eq.mpr hp_195 ⟨s0.toNat, s1.toNat, 0, s2.toNat, ⟨by omega, by omega, by omega⟩, by omega, by omega, fun w hw => by omega⟩, trivial⟩
theorem rul_810 : Rul r_810 := by
  refine ⟨fun _ ρ M hm hB hF hG => ?_, fun gi gv hg => (by cases hg)⟩
  have H := cr_810 M (ρ 0) (ρ 1) (ρ 2) (hB _ List.mem_cons_self) (hB _ (List.mem_cons_of_mem _ List.mem_cons_self)) (hB _ (List.mem_cons_of_mem _ (List.mem_cons_of_mem _ List.mem_cons_self))) hG
  obtain ⟨k0, -⟩ := H
  exact ⟨_, List.mem_cons_self, ρ, fun _ _ => rfl, (okM_c (pvp 195 (by show 0 + (1 * ρ 0 + (64 * ρ 1 + 0)) = _; omega) (by show 0 + (1 * ρ 2 + 0) = _; omega) k0) okM_n), okB_n, okF_n⟩
-- nsn0_0
theorem cr_811 (M : pM) (s0 s1 s2 s3 s4 : Int) (b0 : 0 ≤ s0 ∧ s0 ≤ 63) (b1 : 0 ≤ s1 ∧ s1 ≤ 36) (b2 : 0 ≤ s2 ∧ s2 ≤ 11) (b3 : 0 ≤ s3 ∧ s3 ≤ 40) (b4 : (-2147483648) ≤ s4 ∧ s4 ≤ 2147483647) (m0 : HP 195 (s0 + 64 * s1) (64 * s2 + s3) M) (m1 : (0 ≤ (s2) ∧ M 74 (s2).toNat = (s4))) (f0 : 0 ≤ (s0 + (-1) * s4 - 1)) (hG : gI M) : (HP 195 (s0 + 64 * s1) (64 * s2 + s3 + 64) M ∧ True) := by
  obtain ⟨c, mm, k, H, ⟨p1, p2, p3⟩, p4, p5, p6⟩ := Eq.mp hp_195 m0
  have ec : c = s0.toNat := by omega
  have em : mm = s1.toNat := by omega
  have ek : k = s2.toNat := by omega
  have eh : H = s3.toNat := by omega
  subst ec
  subst em
  subst ek
  subst eh
  have hv := m1.2
  rw [show (s2).toNat = 0 + s2.toNat by omega] at hv
  refine ⟨Eq.mpr hp_195 ⟨s0.toNat, s1.toNat, s2.toNat + 1, s3.toNat, ⟨p1, by omega, p3⟩, by omega, by omega, fun w hw hh => ?_⟩, trivial⟩
  by_cases e : w = s2.toNat
  · rw [e] at hh
    obtain ⟨g1, g2, g3, g4⟩ := hh
    have g : M 74 (0 + s2.toNat) = (s0.toNat : Int) := g1
    rw [hv] at g
    omega
  · exact p6 w (by omega) hh
theorem rul_811 : Rul r_811 := by
  refine ⟨fun _ ρ M hm hB hF hG => ?_, fun gi gv hg => (by cases hg)⟩
  have H := cr_811 M (ρ 0) (ρ 1) (ρ 2) (ρ 3) (ρ 4) (hB _ List.mem_cons_self) (hB _ (List.mem_cons_of_mem _ List.mem_cons_self)) (hB _ (List.mem_cons_of_mem _ (List.mem_cons_of_mem _ List.mem_cons_self))) (hB _ (List.mem_cons_of_mem _ (List.mem_cons_of_mem _ (List.mem_cons_of_mem _ List.mem_cons_self)))) (hB _ (List.mem_cons_of_mem _ (List.mem_cons_of_mem _ (List.mem_cons_of_mem _ (List.mem_cons_of_mem _ List.mem_cons_self))))) (cvp 195 (x' := ((ρ 0) + 64 * (ρ 1))) (y' := (64 * (ρ 2) + (ρ 3))) (by show 0 + (1 * ρ 0 + (64 * ρ 1 + 0)) = _; omega) (by show 0 + (64 * ρ 2 + (1 * ρ 3 + 0)) = _; omega) (hm _ List.mem_cons_self)) (cvm (c := 74) (by decide) (x' := ((ρ 2))) (y' := ((ρ 4))) (by show 0 + (1 * ρ 2 + 0) = _; omega) (by show 0 + (1 * ρ 4 + 0) = _; omega) (hm _ (List.mem_cons_of_mem _ List.mem_cons_self))) (by have h := hF _ List.mem_cons_self; have h : 0 ≤ (-1) + (1 * ρ 0 + ((-1) * ρ 4 + 0)) := h; omega) hG
  obtain ⟨k0, -⟩ := H
  exact ⟨_, List.mem_cons_self, ρ, fun _ _ => rfl, (okM_c (pvp 195 (by show 0 + (1 * ρ 0 + (64 * ρ 1 + 0)) = _; omega) (by show 64 + (64 * ρ 2 + (1 * ρ 3 + 0)) = _; omega) k0) okM_n), okB_n, okF_n⟩
-- nsn1_0
theorem cr_812 (M : pM) (s0 s1 s2 s3 s4 : Int) (b0 : 0 ≤ s0 ∧ s0 ≤ 63) (b1 : 0 ≤ s1 ∧ s1 ≤ 36) (b2 : 0 ≤ s2 ∧ s2 ≤ 11) (b3 : 0 ≤ s3 ∧ s3 ≤ 40) (b4 : (-2147483648) ≤ s4 ∧ s4 ≤ 2147483647) (m0 : HP 195 (s0 + 64 * s1) (64 * s2 + s3) M) (m1 : (0 ≤ (s2) ∧ M 74 (s2).toNat = (s4))) (f0 : 0 ≤ ((-1) * s0 + s4 - 1)) (hG : gI M) : (HP 195 (s0 + 64 * s1) (64 * s2 + s3 + 64) M ∧ True) := by
  obtain ⟨c, mm, k, H, ⟨p1, p2, p3⟩, p4, p5, p6⟩ := Eq.mp hp_195 m0
  have ec : c = s0.toNat := by omega
  have em : mm = s1.toNat := by omega
  have ek : k = s2.toNat := by omega
  have eh : H = s3.toNat := by omega
  subst ec
  subst em
  subst ek
  subst eh
  have hv := m1.2
  rw [show (s2).toNat = 0 + s2.toNat by omega] at hv
  refine ⟨Eq.mpr hp_195 ⟨s0.toNat, s1.toNat, s2.toNat + 1, s3.toNat, ⟨p1, by omega, p3⟩, by omega, by omega, fun w hw hh => ?_⟩, trivial⟩
  by_cases e : w = s2.toNat
  · rw [e] at hh
    obtain ⟨g1, g2, g3, g4⟩ := hh
    have g : M 74 (0 + s2.toNat) = (s0.toNat : Int) := g1
    rw [hv] at g
    omega
  · exact p6 w (by omega) hh
theorem rul_812 : Rul r_812 := by
  refine ⟨fun _ ρ M hm hB hF hG => ?_, fun gi gv hg => (by cases hg)⟩
  have H := cr_812 M (ρ 0) (ρ 1) (ρ 2) (ρ 3) (ρ 4) (hB _ List.mem_cons_self) (hB _ (List.mem_cons_of_mem _ List.mem_cons_self)) (hB _ (List.mem_cons_of_mem _ (List.mem_cons_of_mem _ List.mem_cons_self))) (hB _ (List.mem_cons_of_mem _ (List.mem_cons_of_mem _ (List.mem_cons_of_mem _ List.mem_cons_self)))) (hB _ (List.mem_cons_of_mem _ (List.mem_cons_of_mem _ (List.mem_cons_of_mem _ (List.mem_cons_of_mem _ List.mem_cons_self))))) (cvp 195 (x' := ((ρ 0) + 64 * (ρ 1))) (y' := (64 * (ρ 2) + (ρ 3))) (by show 0 + (1 * ρ 0 + (64 * ρ 1 + 0)) = _; omega) (by show 0 + (64 * ρ 2 + (1 * ρ 3 + 0)) = _; omega) (hm _ List.mem_cons_self)) (cvm (c := 74) (by decide) (x' := ((ρ 2))) (y' := ((ρ 4))) (by show 0 + (1 * ρ 2 + 0) = _; omega) (by show 0 + (1 * ρ 4 + 0) = _; omega) (hm _ (List.mem_cons_of_mem _ List.mem_cons_self))) (by have h := hF _ List.mem_cons_self; have h : 0 ≤ (-1) + ((-1) * ρ 0 + (1 * ρ 4 + 0)) := h; omega) hG
  obtain ⟨k0, -⟩ := H
  exact ⟨_, List.mem_cons_self, ρ, fun _ _ => rfl, (okM_c (pvp 195 (by show 0 + (1 * ρ 0 + (64 * ρ 1 + 0)) = _; omega) (by show 64 + (64 * ρ 2 + (1 * ρ 3 + 0)) = _; omega) k0) okM_n), okB_n, okF_n⟩
-- nsn2_0
theorem cr_813 (M : pM) (s0 s1 s2 s3 s4 : Int) (b0 : 0 ≤ s0 ∧ s0 ≤ 63) (b1 : 0 ≤ s1 ∧ s1 ≤ 36) (b2 : 0 ≤ s2 ∧ s2 ≤ 11) (b3 : 0 ≤ s3 ∧ s3 ≤ 40) (b4 : (-2147483648) ≤ s4 ∧ s4 ≤ 2147483647) (m0 : HP 195 (s0 + 64 * s1) (64 * s2 + s3) M) (m1 : (0 ≤ (s2) ∧ M 75 (s2).toNat = (s4))) (f0 : 0 ≤ ((-1) * s3 + s4)) (hG : gI M) : (HP 195 (s0 + 64 * s1) (64 * s2 + s3 + 64) M ∧ True) := by
  obtain ⟨c, mm, k, H, ⟨p1, p2, p3⟩, p4, p5, p6⟩ := Eq.mp hp_195 m0
  have ec : c = s0.toNat := by omega
  have em : mm = s1.toNat := by omega
  have ek : k = s2.toNat := by omega
  have eh : H = s3.toNat := by omega
  subst ec
  subst em
  subst ek
  subst eh
  have hv := m1.2
  rw [show (s2).toNat = 0 + s2.toNat by omega] at hv
  refine ⟨Eq.mpr hp_195 ⟨s0.toNat, s1.toNat, s2.toNat + 1, s3.toNat, ⟨p1, by omega, p3⟩, by omega, by omega, fun w hw hh => ?_⟩, trivial⟩
  by_cases e : w = s2.toNat
  · rw [e] at hh
    obtain ⟨g1, g2, g3, g4⟩ := hh
    have g : M 75 (0 + s2.toNat) < (s3.toNat : Int) := g2
    rw [hv] at g
    omega
  · exact p6 w (by omega) hh
theorem rul_813 : Rul r_813 := by
  refine ⟨fun _ ρ M hm hB hF hG => ?_, fun gi gv hg => (by cases hg)⟩
  have H := cr_813 M (ρ 0) (ρ 1) (ρ 2) (ρ 3) (ρ 4) (hB _ List.mem_cons_self) (hB _ (List.mem_cons_of_mem _ List.mem_cons_self)) (hB _ (List.mem_cons_of_mem _ (List.mem_cons_of_mem _ List.mem_cons_self))) (hB _ (List.mem_cons_of_mem _ (List.mem_cons_of_mem _ (List.mem_cons_of_mem _ List.mem_cons_self)))) (hB _ (List.mem_cons_of_mem _ (List.mem_cons_of_mem _ (List.mem_cons_of_mem _ (List.mem_cons_of_mem _ List.mem_cons_self))))) (cvp 195 (x' := ((ρ 0) + 64 * (ρ 1))) (y' := (64 * (ρ 2) + (ρ 3))) (by show 0 + (1 * ρ 0 + (64 * ρ 1 + 0)) = _; omega) (by show 0 + (64 * ρ 2 + (1 * ρ 3 + 0)) = _; omega) (hm _ List.mem_cons_self)) (cvm (c := 75) (by decide) (x' := ((ρ 2))) (y' := ((ρ 4))) (by show 0 + (1 * ρ 2 + 0) = _; omega) (by show 0 + (1 * ρ 4 + 0) = _; omega) (hm _ (List.mem_cons_of_mem _ List.mem_cons_self))) (by have h := hF _ List.mem_cons_self; have h : 0 ≤ 0 + ((-1) * ρ 3 + (1 * ρ 4 + 0)) := h; omega) hG
  obtain ⟨k0, -⟩ := H
  exact ⟨_, List.mem_cons_self, ρ, fun _ _ => rfl, (okM_c (pvp 195 (by show 0 + (1 * ρ 0 + (64 * ρ 1 + 0)) = _; omega) (by show 64 + (64 * ρ 2 + (1 * ρ 3 + 0)) = _; omega) k0) okM_n), okB_n, okF_n⟩
-- nsn3_0
theorem cr_814 (M : pM) (s0 s1 s2 s3 s4 : Int) (b0 : 0 ≤ s0 ∧ s0 ≤ 63) (b1 : 0 ≤ s1 ∧ s1 ≤ 36) (b2 : 0 ≤ s2 ∧ s2 ≤ 11) (b3 : 0 ≤ s3 ∧ s3 ≤ 40) (b4 : (-2147483648) ≤ s4 ∧ s4 ≤ 2147483647) (m0 : HP 195 (s0 + 64 * s1) (64 * s2 + s3) M) (m1 : (0 ≤ (s2) ∧ M 76 (s2).toNat = (s4))) (f0 : 0 ≤ ((-1) * s1 + s4 - 1)) (hG : gI M) : (HP 195 (s0 + 64 * s1) (64 * s2 + s3 + 64) M ∧ True) := by
  obtain ⟨c, mm, k, H, ⟨p1, p2, p3⟩, p4, p5, p6⟩ := Eq.mp hp_195 m0
  have ec : c = s0.toNat := by omega
  have em : mm = s1.toNat := by omega
  have ek : k = s2.toNat := by omega
  have eh : H = s3.toNat := by omega
  subst ec
  subst em
  subst ek
  subst eh
  have hv := m1.2
  rw [show (s2).toNat = 0 + s2.toNat by omega] at hv
  refine ⟨Eq.mpr hp_195 ⟨s0.toNat, s1.toNat, s2.toNat + 1, s3.toNat, ⟨p1, by omega, p3⟩, by omega, by omega, fun w hw hh => ?_⟩, trivial⟩
  by_cases e : w = s2.toNat
  · rw [e] at hh
    obtain ⟨g1, g2, g3, g4⟩ := hh
    have g : M 76 (0 + s2.toNat) ≤ (s1.toNat : Int) := g3
    rw [hv] at g
    omega
  · exact p6 w (by omega) hh
theorem rul_814 : Rul r_814 := by
  refine ⟨fun _ ρ M hm hB hF hG => ?_, fun gi gv hg => (by cases hg)⟩
  have H := cr_814 M (ρ 0) (ρ 1) (ρ 2) (ρ 3) (ρ 4) (hB _ List.mem_cons_self) (hB _ (List.mem_cons_of_mem _ List.mem_cons_self)) (hB _ (List.mem_cons_of_mem _ (List.mem_cons_of_mem _ List.mem_cons_self))) (hB _ (List.mem_cons_of_mem _ (List.mem_cons_of_mem _ (List.mem_cons_of_mem _ List.mem_cons_self)))) (hB _ (List.mem_cons_of_mem _ (List.mem_cons_of_mem _ (List.mem_cons_of_mem _ (List.mem_cons_of_mem _ List.mem_cons_self))))) (cvp 195 (x' := ((ρ 0) + 64 * (ρ 1))) (y' := (64 * (ρ 2) + (ρ 3))) (by show 0 + (1 * ρ 0 + (64 * ρ 1 + 0)) = _; omega) (by show 0 + (64 * ρ 2 + (1 * ρ 3 + 0)) = _; omega) (hm _ List.mem_cons_self)) (cvm (c := 76) (by decide) (x' := ((ρ 2))) (y' := ((ρ 4))) (by show 0 + (1 * ρ 2 + 0) = _; omega) (by show 0 + (1 * ρ 4 + 0) = _; omega) (hm _ (List.mem_cons_of_mem _ List.mem_cons_self))) (by have h := hF _ List.mem_cons_self; have h : 0 ≤ (-1) + ((-1) * ρ 1 + (1 * ρ 4 + 0)) := h; omega) hG
  obtain ⟨k0, -⟩ := H
  exact ⟨_, List.mem_cons_self, ρ, fun _ _ => rfl, (okM_c (pvp 195 (by show 0 + (1 * ρ 0 + (64 * ρ 1 + 0)) = _; omega) (by show 64 + (64 * ρ 2 + (1 * ρ 3 + 0)) = _; omega) k0) okM_n), okB_n, okF_n⟩
-- nsn4_0
theorem cr_815 (M : pM) (s0 s1 s2 s3 s4 : Int) (b0 : 0 ≤ s0 ∧ s0 ≤ 63) (b1 : 0 ≤ s1 ∧ s1 ≤ 36) (b2 : 0 ≤ s2 ∧ s2 ≤ 11) (b3 : 0 ≤ s3 ∧ s3 ≤ 40) (b4 : (-2147483648) ≤ s4 ∧ s4 ≤ 2147483647) (m0 : HP 195 (s0 + 64 * s1) (64 * s2 + s3) M) (m1 : (0 ≤ (s2) ∧ M 77 (s2).toNat = (s4))) (f0 : 0 ≤ (s1 + (-1) * s4)) (hG : gI M) : (HP 195 (s0 + 64 * s1) (64 * s2 + s3 + 64) M ∧ True) := by
  obtain ⟨c, mm, k, H, ⟨p1, p2, p3⟩, p4, p5, p6⟩ := Eq.mp hp_195 m0
  have ec : c = s0.toNat := by omega
  have em : mm = s1.toNat := by omega
  have ek : k = s2.toNat := by omega
  have eh : H = s3.toNat := by omega
  subst ec
  subst em
  subst ek
  subst eh
  have hv := m1.2
  rw [show (s2).toNat = 0 + s2.toNat by omega] at hv
  refine ⟨Eq.mpr hp_195 ⟨s0.toNat, s1.toNat, s2.toNat + 1, s3.toNat, ⟨p1, by omega, p3⟩, by omega, by omega, fun w hw hh => ?_⟩, trivial⟩
  by_cases e : w = s2.toNat
  · rw [e] at hh
    obtain ⟨g1, g2, g3, g4⟩ := hh
    have g : (s1.toNat : Int) < M 77 (0 + s2.toNat) := g4
    rw [hv] at g
    omega
  · exact p6 w (by omega) hh
theorem rul_815 : Rul r_815 := by
  refine ⟨fun _ ρ M hm hB hF hG => ?_, fun gi gv hg => (by cases hg)⟩
  have H := cr_815 M (ρ 0) (ρ 1) (ρ 2) (ρ 3) (ρ 4) (hB _ List.mem_cons_self) (hB _ (List.mem_cons_of_mem _ List.mem_cons_self)) (hB _ (List.mem_cons_of_mem _ (List.mem_cons_of_mem _ List.mem_cons_self))) (hB _ (List.mem_cons_of_mem _ (List.mem_cons_of_mem _ (List.mem_cons_of_mem _ List.mem_cons_self)))) (hB _ (List.mem_cons_of_mem _ (List.mem_cons_of_mem _ (List.mem_cons_of_mem _ (List.mem_cons_of_mem _ List.mem_cons_self))))) (cvp 195 (x' := ((ρ 0) + 64 * (ρ 1))) (y' := (64 * (ρ 2) + (ρ 3))) (by show 0 + (1 * ρ 0 + (64 * ρ 1 + 0)) = _; omega) (by show 0 + (64 * ρ 2 + (1 * ρ 3 + 0)) = _; omega) (hm _ List.mem_cons_self)) (cvm (c := 77) (by decide) (x' := ((ρ 2))) (y' := ((ρ 4))) (by show 0 + (1 * ρ 2 + 0) = _; omega) (by show 0 + (1 * ρ 4 + 0) = _; omega) (hm _ (List.mem_cons_of_mem _ List.mem_cons_self))) (by have h := hF _ List.mem_cons_self; have h : 0 ≤ 0 + (1 * ρ 1 + ((-1) * ρ 4 + 0)) := h; omega) hG
  obtain ⟨k0, -⟩ := H
  exact ⟨_, List.mem_cons_self, ρ, fun _ _ => rfl, (okM_c (pvp 195 (by show 0 + (1 * ρ 0 + (64 * ρ 1 + 0)) = _; omega) (by show 64 + (64 * ρ 2 + (1 * ρ 3 + 0)) = _; omega) k0) okM_n), okB_n, okF_n⟩
-- sh1_0
theorem cr_816 (M : pM) (s0 s1 s2 s3 s4 s5 s6 s7 : Int) (b0 : 0 ≤ s0 ∧ s0 ≤ 63) (b1 : 0 ≤ s1 ∧ s1 ≤ 36) (b2 : 0 ≤ s2 ∧ s2 ≤ 40) (b3 : 0 ≤ s3 ∧ s3 ≤ 40) (b4 : 0 ≤ s4 ∧ s4 ≤ 12) (b5 : 0 ≤ s5 ∧ s5 ≤ 12) (b6 : 0 ≤ s6 ∧ s6 ≤ 63) (b7 : 0 ≤ s7 ∧ s7 ≤ 36) (m0 : HP 183 (0 : Int) (0 : Int) M) (m1 : (0 ≤ (7 : Int) ∧ M 3 (7 : Int).toNat = (s4))) (m2 : HP 193 (s0 + 64 * s1) (s2 + 64 * s4) M) (m3 : (0 ≤ (0 : Int) ∧ M 65 (0 : Int).toNat = (s5))) (m4 : HP 195 (s6 + 64 * s7) (s3 + 64 * s5) M) (f0 : 0 ≤ ((-1) * s4 + s5)) (f1 : 0 ≤ (s4 + (-1) * s5)) (f2 : 0 ≤ ((-1) * s0 + s6)) (f3 : 0 ≤ (s0 + (-1) * s6)) (f4 : 0 ≤ ((-1) * s1 + s7)) (f5 : 0 ≤ (s1 + (-1) * s7)) (hG : gI M) : (0 ≤ (s2 + (-1) * s3) ∧ True) := by
  have hE := Eq.mp hp_183 m0
  have hW : M 3 7 = s4 := m1.2
  have hW : M (3 + 9 * 0) 7 = s4 := hW
  obtain ⟨c, mm, k, h, ⟨p1, p2, p3⟩, p4, p5, p6, p7⟩ := Eq.mp hp_193 m2
  have ec : c = s0.toNat := by omega
  have em : mm = s1.toNat := by omega
  have ek : k = s4.toNat := by omega
  have eh : h = s2.toNat := by omega
  subst ec
  subst em
  subst ek
  subst eh
  obtain ⟨c, mm, k, H, ⟨q1, q2, q3⟩, q4, q5, q6⟩ := Eq.mp hp_195 m4
  have ec : c = s0.toNat := by omega
  have em : mm = s1.toNat := by omega
  have ek : k = s4.toNat := by omega
  have eh : H = s3.toNat := by omega
  subst ec
  subst em
  subst ek
  subst eh
  have hh : s3 ≤ s2 := by
    rcases p7 with p7 | ⟨w, w1, ⟨w2, w3, w4⟩, w5⟩
    · omega
    · obtain ⟨t0, t1, t2, t3⟩ := eq_wa (b := 0) hE (i := w) (by omega) (by omega)
      have w2 : M (8 + 9 * 0) (4 * w) = (s0.toNat : Int) := w2
      have w3 : M (8 + 9 * 0) (4 * w + 2) ≤ (s1.toNat : Int) := w3
      have w4 : (s1.toNat : Int) < M (8 + 9 * 0) (4 * w + 3) := w4
      have w5 : M (8 + 9 * 0) (4 * w + 1) = (s2.toNat : Int) := w5
      refine Decidable.byContradiction (fun hn => q6 w w1 ⟨?_, ?_, ?_, ?_⟩)
      · show M 74 (12 * 0 + w) = (s0.toNat : Int); rw [← t0]; exact w2
      · show M 75 (12 * 0 + w) < (s3.toNat : Int); rw [← t1, w5]; omega
      · show M 76 (12 * 0 + w) ≤ (s1.toNat : Int); rw [← t2]; exact w3
      · show (s1.toNat : Int) < M 77 (12 * 0 + w); rw [← t3]; exact w4
  exact ⟨by omega, trivial⟩
theorem rul_816 : Rul r_816 := by
  refine ⟨fun _ ρ M hm hB hF hG => ?_, fun gi gv hg => (by cases hg)⟩
  have H := cr_816 M (ρ 0) (ρ 1) (ρ 2) (ρ 3) (ρ 4) (ρ 5) (ρ 6) (ρ 7) (hB _ List.mem_cons_self) (hB _ (List.mem_cons_of_mem _ List.mem_cons_self)) (hB _ (List.mem_cons_of_mem _ (List.mem_cons_of_mem _ List.mem_cons_self))) (hB _ (List.mem_cons_of_mem _ (List.mem_cons_of_mem _ (List.mem_cons_of_mem _ List.mem_cons_self)))) (hB _ (List.mem_cons_of_mem _ (List.mem_cons_of_mem _ (List.mem_cons_of_mem _ (List.mem_cons_of_mem _ List.mem_cons_self))))) (hB _ (List.mem_cons_of_mem _ (List.mem_cons_of_mem _ (List.mem_cons_of_mem _ (List.mem_cons_of_mem _ (List.mem_cons_of_mem _ List.mem_cons_self)))))) (hB _ (List.mem_cons_of_mem _ (List.mem_cons_of_mem _ (List.mem_cons_of_mem _ (List.mem_cons_of_mem _ (List.mem_cons_of_mem _ (List.mem_cons_of_mem _ List.mem_cons_self))))))) (hB _ (List.mem_cons_of_mem _ (List.mem_cons_of_mem _ (List.mem_cons_of_mem _ (List.mem_cons_of_mem _ (List.mem_cons_of_mem _ (List.mem_cons_of_mem _ (List.mem_cons_of_mem _ List.mem_cons_self)))))))) (cvp 183 (x' := (0 : Int)) (y' := (0 : Int)) (by show 0 + 0 = _; omega) (by show 0 + 0 = _; omega) (hm _ List.mem_cons_self)) (cvm (c := 3) (by decide) (x' := (7 : Int)) (y' := ((ρ 4))) (by show 7 + 0 = _; omega) (by show 0 + (1 * ρ 4 + 0) = _; omega) (hm _ (List.mem_cons_of_mem _ List.mem_cons_self))) (cvp 193 (x' := ((ρ 0) + 64 * (ρ 1))) (y' := ((ρ 2) + 64 * (ρ 4))) (by show 0 + (1 * ρ 0 + (64 * ρ 1 + 0)) = _; omega) (by show 0 + (1 * ρ 2 + (64 * ρ 4 + 0)) = _; omega) (hm _ (List.mem_cons_of_mem _ (List.mem_cons_of_mem _ List.mem_cons_self)))) (cvm (c := 65) (by decide) (x' := (0 : Int)) (y' := ((ρ 5))) (by show 0 + 0 = _; omega) (by show 0 + (1 * ρ 5 + 0) = _; omega) (hm _ (List.mem_cons_of_mem _ (List.mem_cons_of_mem _ (List.mem_cons_of_mem _ List.mem_cons_self))))) (cvp 195 (x' := ((ρ 6) + 64 * (ρ 7))) (y' := ((ρ 3) + 64 * (ρ 5))) (by show 0 + (1 * ρ 6 + (64 * ρ 7 + 0)) = _; omega) (by show 0 + (1 * ρ 3 + (64 * ρ 5 + 0)) = _; omega) (hm _ (List.mem_cons_of_mem _ (List.mem_cons_of_mem _ (List.mem_cons_of_mem _ (List.mem_cons_of_mem _ List.mem_cons_self)))))) (by have h := hF _ List.mem_cons_self; have h : 0 ≤ 0 + ((-1) * ρ 4 + (1 * ρ 5 + 0)) := h; omega) (by have h := hF _ (List.mem_cons_of_mem _ List.mem_cons_self); have h : 0 ≤ 0 + (1 * ρ 4 + ((-1) * ρ 5 + 0)) := h; omega) (by have h := hF _ (List.mem_cons_of_mem _ (List.mem_cons_of_mem _ List.mem_cons_self)); have h : 0 ≤ 0 + ((-1) * ρ 0 + (1 * ρ 6 + 0)) := h; omega) (by have h := hF _ (List.mem_cons_of_mem _ (List.mem_cons_of_mem _ (List.mem_cons_of_mem _ List.mem_cons_self))); have h : 0 ≤ 0 + (1 * ρ 0 + ((-1) * ρ 6 + 0)) := h; omega) (by have h := hF _ (List.mem_cons_of_mem _ (List.mem_cons_of_mem _ (List.mem_cons_of_mem _ (List.mem_cons_of_mem _ List.mem_cons_self)))); have h : 0 ≤ 0 + ((-1) * ρ 1 + (1 * ρ 7 + 0)) := h; omega) (by have h := hF _ (List.mem_cons_of_mem _ (List.mem_cons_of_mem _ (List.mem_cons_of_mem _ (List.mem_cons_of_mem _ (List.mem_cons_of_mem _ List.mem_cons_self))))); have h : 0 ≤ 0 + (1 * ρ 1 + ((-1) * ρ 7 + 0)) := h; omega) hG
  obtain ⟨f0, -⟩ := H
  exact ⟨_, List.mem_cons_self, ρ, fun _ _ => rfl, okM_n, okB_n, (okF_c (by show 0 ≤ 0 + (1 * ρ 2 + ((-1) * ρ 3 + 0)); omega) okF_n)⟩
-- sh2_0
theorem cr_817 (M : pM) (s0 s1 s2 s3 s4 s5 s6 s7 s8 : Int) (b0 : 0 ≤ s0 ∧ s0 ≤ 63) (b1 : 0 ≤ s1 ∧ s1 ≤ 36) (b2 : 0 ≤ s2 ∧ s2 ≤ 40) (b3 : 0 ≤ s3 ∧ s3 ≤ 12) (b4 : 0 ≤ s4 ∧ s4 ≤ 11) (b5 : (-2147483648) ≤ s5 ∧ s5 ≤ 2147483647) (b6 : (-2147483648) ≤ s6 ∧ s6 ≤ 2147483647) (b7 : (-2147483648) ≤ s7 ∧ s7 ≤ 2147483647) (b8 : (-2147483648) ≤ s8 ∧ s8 ≤ 2147483647) (m0 : HP 183 (0 : Int) (0 : Int) M) (m1 : (0 ≤ (7 : Int) ∧ M 3 (7 : Int).toNat = (s3))) (m2 : HP 193 (s0 + 64 * s1) (s2 + 64 * s3) M) (m3 : (0 ≤ (s4) ∧ M 74 (s4).toNat = (s8))) (m4 : (0 ≤ (s4) ∧ M 75 (s4).toNat = (s5))) (m5 : (0 ≤ (s4) ∧ M 76 (s4).toNat = (s6))) (m6 : (0 ≤ (s4) ∧ M 77 (s4).toNat = (s7))) (f0 : 0 ≤ (s0 + (-1) * s8)) (f1 : 0 ≤ ((-1) * s0 + s8)) (f2 : 0 ≤ (s3 + (-1) * s4 - 1)) (f3 : 0 ≤ (s1 + (-1) * s6)) (f4 : 0 ≤ ((-1) * s1 + s7 - 1)) (hG : gI M) : (0 ≤ ((-1) * s2 + s5) ∧ True) := by
  have hE := Eq.mp hp_183 m0
  have hW : M 3 7 = s3 := m1.2
  have hW : M (3 + 9 * 0) 7 = s3 := hW
  obtain ⟨c, mm, k, h, ⟨p1, p2, p3⟩, p4, p5, p6, p7⟩ := Eq.mp hp_193 m2
  have ec : c = s0.toNat := by omega
  have em : mm = s1.toNat := by omega
  have ek : k = s3.toNat := by omega
  have eh : h = s2.toNat := by omega
  subst ec
  subst em
  subst ek
  subst eh
  obtain ⟨t0, t1, t2, t3⟩ := eq_wa (b := 0) hE (i := s4.toNat) (by omega) (by omega)
  have r0 := m3.2
  rw [show (s4).toNat = 12 * 0 + s4.toNat by omega] at r0
  have r1 := m4.2
  rw [show (s4).toNat = 12 * 0 + s4.toNat by omega] at r1
  have r2 := m5.2
  rw [show (s4).toNat = 12 * 0 + s4.toNat by omega] at r2
  have r3 := m6.2
  rw [show (s4).toNat = 12 * 0 + s4.toNat by omega] at r3
  have hh : qhs (M (8 + 9 * 0)) (s0.toNat : Int) (s1.toNat : Int) s4.toNat := ⟨by show M (8 + 9 * 0) (4 * s4.toNat) = (s0.toNat : Int); rw [t0, r0]; omega, by show M (8 + 9 * 0) (4 * s4.toNat + 2) ≤ (s1.toNat : Int); rw [t2, r2]; omega, by show (s1.toNat : Int) < M (8 + 9 * 0) (4 * s4.toNat + 3); rw [t3, r3]; omega⟩
  have this : (s2.toNat : Int) ≤ M (8 + 9 * 0) (4 * s4.toNat + 1) := p6 s4.toNat (by omega) hh
  rw [t1, r1] at this
  exact ⟨by omega, trivial⟩
theorem rul_817 : Rul r_817 := by
  refine ⟨fun _ ρ M hm hB hF hG => ?_, fun gi gv hg => (by cases hg)⟩
  have H := cr_817 M (ρ 0) (ρ 1) (ρ 2) (ρ 3) (ρ 4) (ρ 5) (ρ 6) (ρ 7) (ρ 8) (hB _ List.mem_cons_self) (hB _ (List.mem_cons_of_mem _ List.mem_cons_self)) (hB _ (List.mem_cons_of_mem _ (List.mem_cons_of_mem _ List.mem_cons_self))) (hB _ (List.mem_cons_of_mem _ (List.mem_cons_of_mem _ (List.mem_cons_of_mem _ List.mem_cons_self)))) (hB _ (List.mem_cons_of_mem _ (List.mem_cons_of_mem _ (List.mem_cons_of_mem _ (List.mem_cons_of_mem _ List.mem_cons_self))))) (hB _ (List.mem_cons_of_mem _ (List.mem_cons_of_mem _ (List.mem_cons_of_mem _ (List.mem_cons_of_mem _ (List.mem_cons_of_mem _ List.mem_cons_self)))))) (hB _ (List.mem_cons_of_mem _ (List.mem_cons_of_mem _ (List.mem_cons_of_mem _ (List.mem_cons_of_mem _ (List.mem_cons_of_mem _ (List.mem_cons_of_mem _ List.mem_cons_self))))))) (hB _ (List.mem_cons_of_mem _ (List.mem_cons_of_mem _ (List.mem_cons_of_mem _ (List.mem_cons_of_mem _ (List.mem_cons_of_mem _ (List.mem_cons_of_mem _ (List.mem_cons_of_mem _ List.mem_cons_self)))))))) (hB _ (List.mem_cons_of_mem _ (List.mem_cons_of_mem _ (List.mem_cons_of_mem _ (List.mem_cons_of_mem _ (List.mem_cons_of_mem _ (List.mem_cons_of_mem _ (List.mem_cons_of_mem _ (List.mem_cons_of_mem _ List.mem_cons_self))))))))) (cvp 183 (x' := (0 : Int)) (y' := (0 : Int)) (by show 0 + 0 = _; omega) (by show 0 + 0 = _; omega) (hm _ List.mem_cons_self)) (cvm (c := 3) (by decide) (x' := (7 : Int)) (y' := ((ρ 3))) (by show 7 + 0 = _; omega) (by show 0 + (1 * ρ 3 + 0) = _; omega) (hm _ (List.mem_cons_of_mem _ List.mem_cons_self))) (cvp 193 (x' := ((ρ 0) + 64 * (ρ 1))) (y' := ((ρ 2) + 64 * (ρ 3))) (by show 0 + (1 * ρ 0 + (64 * ρ 1 + 0)) = _; omega) (by show 0 + (1 * ρ 2 + (64 * ρ 3 + 0)) = _; omega) (hm _ (List.mem_cons_of_mem _ (List.mem_cons_of_mem _ List.mem_cons_self)))) (cvm (c := 74) (by decide) (x' := ((ρ 4))) (y' := ((ρ 8))) (by show 0 + (1 * ρ 4 + 0) = _; omega) (by show 0 + (1 * ρ 8 + 0) = _; omega) (hm _ (List.mem_cons_of_mem _ (List.mem_cons_of_mem _ (List.mem_cons_of_mem _ List.mem_cons_self))))) (cvm (c := 75) (by decide) (x' := ((ρ 4))) (y' := ((ρ 5))) (by show 0 + (1 * ρ 4 + 0) = _; omega) (by show 0 + (1 * ρ 5 + 0) = _; omega) (hm _ (List.mem_cons_of_mem _ (List.mem_cons_of_mem _ (List.mem_cons_of_mem _ (List.mem_cons_of_mem _ List.mem_cons_self)))))) (cvm (c := 76) (by decide) (x' := ((ρ 4))) (y' := ((ρ 6))) (by show 0 + (1 * ρ 4 + 0) = _; omega) (by show 0 + (1 * ρ 6 + 0) = _; omega) (hm _ (List.mem_cons_of_mem _ (List.mem_cons_of_mem _ (List.mem_cons_of_mem _ (List.mem_cons_of_mem _ (List.mem_cons_of_mem _ List.mem_cons_self))))))) (cvm (c := 77) (by decide) (x' := ((ρ 4))) (y' := ((ρ 7))) (by show 0 + (1 * ρ 4 + 0) = _; omega) (by show 0 + (1 * ρ 7 + 0) = _; omega) (hm _ (List.mem_cons_of_mem _ (List.mem_cons_of_mem _ (List.mem_cons_of_mem _ (List.mem_cons_of_mem _ (List.mem_cons_of_mem _ (List.mem_cons_of_mem _ List.mem_cons_self)))))))) (by have h := hF _ List.mem_cons_self; have h : 0 ≤ 0 + (1 * ρ 0 + ((-1) * ρ 8 + 0)) := h; omega) (by have h := hF _ (List.mem_cons_of_mem _ List.mem_cons_self); have h : 0 ≤ 0 + ((-1) * ρ 0 + (1 * ρ 8 + 0)) := h; omega) (by have h := hF _ (List.mem_cons_of_mem _ (List.mem_cons_of_mem _ List.mem_cons_self)); have h : 0 ≤ (-1) + (1 * ρ 3 + ((-1) * ρ 4 + 0)) := h; omega) (by have h := hF _ (List.mem_cons_of_mem _ (List.mem_cons_of_mem _ (List.mem_cons_of_mem _ List.mem_cons_self))); have h : 0 ≤ 0 + (1 * ρ 1 + ((-1) * ρ 6 + 0)) := h; omega) (by have h := hF _ (List.mem_cons_of_mem _ (List.mem_cons_of_mem _ (List.mem_cons_of_mem _ (List.mem_cons_of_mem _ List.mem_cons_self)))); have h : 0 ≤ (-1) + ((-1) * ρ 1 + (1 * ρ 7 + 0)) := h; omega) hG
  obtain ⟨f0, -⟩ := H
  exact ⟨_, List.mem_cons_self, ρ, fun _ _ => rfl, okM_n, okB_n, (okF_c (by show 0 ≤ 0 + ((-1) * ρ 2 + (1 * ρ 5 + 0)); omega) okF_n)⟩
-- cl0_1_
theorem cr_818 (M : pM) (s0 s1 : Int) (b0 : 0 ≤ s0 ∧ s0 ≤ 63) (b1 : 0 ≤ s1 ∧ s1 ≤ 36) (hG : gI M) : (HP 194 (s0 + 64 * s1) (40 : Int) M ∧ True) := by
  exact ⟨Eq.mpr hp_194 ⟨s0.toNat, s1.toNat, 0, 40, ⟨by omega, by omega, by omega⟩, by omega, by omega, fun w hw => by omega, Or.inl rfl⟩, trivial⟩
theorem rul_818 : Rul r_818 := by
  refine ⟨fun _ ρ M hm hB hF hG => ?_, fun gi gv hg => (by cases hg)⟩
  have H := cr_818 M (ρ 0) (ρ 1) (hB _ List.mem_cons_self) (hB _ (List.mem_cons_of_mem _ List.mem_cons_self)) hG
  obtain ⟨k0, -⟩ := H
  exact ⟨_, List.mem_cons_self, ρ, fun _ _ => rfl, (okM_c (pvp 194 (by show 0 + (1 * ρ 0 + (64 * ρ 1 + 0)) = _; omega) (by show 40 + 0 = _; omega) k0) okM_n), okB_n, okF_n⟩
-- cln0_1
theorem cr_819 (M : pM) (s0 s1 s2 s3 s4 : Int) (b0 : 0 ≤ s0 ∧ s0 ≤ 63) (b1 : 0 ≤ s1 ∧ s1 ≤ 36) (b2 : 0 ≤ s2 ∧ s2 ≤ 11) (b3 : 0 ≤ s3 ∧ s3 ≤ 40) (b4 : (-2147483648) ≤ s4 ∧ s4 ≤ 2147483647) (m0 : HP 194 (s0 + 64 * s1) (64 * s2 + s3) M) (m1 : (0 ≤ (4 * s2) ∧ M 17 (4 * s2).toNat = (s4))) (f0 : 0 ≤ (s0 + (-1) * s4 - 1)) (hG : gI M) : (HP 194 (s0 + 64 * s1) (64 * s2 + s3 + 64) M ∧ True) := by
  have hv := m1.2
  rw [show (4 * s2).toNat = 4 * s2.toNat by omega] at hv
  obtain ⟨c, mm, k, h, ⟨p1, p2, p3⟩, p4, p5, p6, p7⟩ := Eq.mp hp_194 m0
  have ec : c = s0.toNat := by omega
  have em : mm = s1.toNat := by omega
  have ek : k = s2.toNat := by omega
  have eh : h = s3.toNat := by omega
  subst ec
  subst em
  subst ek
  subst eh
  have hn : ¬ qhs (M 17) (s0.toNat : Int) (s1.toNat : Int) s2.toNat := by
    intro hh
    obtain ⟨g1, g2, g3⟩ := hh
    rw [hv] at g1
    omega
  refine ⟨Eq.mpr hp_194 ⟨s0.toNat, s1.toNat, s2.toNat + 1, s3.toNat, ⟨p1, by omega, p3⟩, by omega, by omega, fun w hw hh => ?_, ?_⟩, trivial⟩
  · by_cases e : w = s2.toNat
    · rw [e] at hh; exact absurd hh hn
    · exact p6 w (by omega) hh
  · rcases p7 with p7 | ⟨w, w1, w2, w3⟩
    · exact Or.inl p7
    · exact Or.inr ⟨w, by omega, w2, w3⟩
theorem rul_819 : Rul r_819 := by
  refine ⟨fun _ ρ M hm hB hF hG => ?_, fun gi gv hg => (by cases hg)⟩
  have H := cr_819 M (ρ 0) (ρ 1) (ρ 2) (ρ 3) (ρ 4) (hB _ List.mem_cons_self) (hB _ (List.mem_cons_of_mem _ List.mem_cons_self)) (hB _ (List.mem_cons_of_mem _ (List.mem_cons_of_mem _ List.mem_cons_self))) (hB _ (List.mem_cons_of_mem _ (List.mem_cons_of_mem _ (List.mem_cons_of_mem _ List.mem_cons_self)))) (hB _ (List.mem_cons_of_mem _ (List.mem_cons_of_mem _ (List.mem_cons_of_mem _ (List.mem_cons_of_mem _ List.mem_cons_self))))) (cvp 194 (x' := ((ρ 0) + 64 * (ρ 1))) (y' := (64 * (ρ 2) + (ρ 3))) (by show 0 + (1 * ρ 0 + (64 * ρ 1 + 0)) = _; omega) (by show 0 + (64 * ρ 2 + (1 * ρ 3 + 0)) = _; omega) (hm _ List.mem_cons_self)) (cvm (c := 17) (by decide) (x' := (4 * (ρ 2))) (y' := ((ρ 4))) (by show 0 + (4 * ρ 2 + 0) = _; omega) (by show 0 + (1 * ρ 4 + 0) = _; omega) (hm _ (List.mem_cons_of_mem _ List.mem_cons_self))) (by have h := hF _ List.mem_cons_self; have h : 0 ≤ (-1) + (1 * ρ 0 + ((-1) * ρ 4 + 0)) := h; omega) hG
  obtain ⟨k0, -⟩ := H
  exact ⟨_, List.mem_cons_self, ρ, fun _ _ => rfl, (okM_c (pvp 194 (by show 0 + (1 * ρ 0 + (64 * ρ 1 + 0)) = _; omega) (by show 64 + (64 * ρ 2 + (1 * ρ 3 + 0)) = _; omega) k0) okM_n), okB_n, okF_n⟩
-- cln1_1
theorem cr_820 (M : pM) (s0 s1 s2 s3 s4 : Int) (b0 : 0 ≤ s0 ∧ s0 ≤ 63) (b1 : 0 ≤ s1 ∧ s1 ≤ 36) (b2 : 0 ≤ s2 ∧ s2 ≤ 11) (b3 : 0 ≤ s3 ∧ s3 ≤ 40) (b4 : (-2147483648) ≤ s4 ∧ s4 ≤ 2147483647) (m0 : HP 194 (s0 + 64 * s1) (64 * s2 + s3) M) (m1 : (0 ≤ (4 * s2) ∧ M 17 (4 * s2).toNat = (s4))) (f0 : 0 ≤ ((-1) * s0 + s4 - 1)) (hG : gI M) : (HP 194 (s0 + 64 * s1) (64 * s2 + s3 + 64) M ∧ True) := by
  have hv := m1.2
  rw [show (4 * s2).toNat = 4 * s2.toNat by omega] at hv
  obtain ⟨c, mm, k, h, ⟨p1, p2, p3⟩, p4, p5, p6, p7⟩ := Eq.mp hp_194 m0
  have ec : c = s0.toNat := by omega
  have em : mm = s1.toNat := by omega
  have ek : k = s2.toNat := by omega
  have eh : h = s3.toNat := by omega
  subst ec
  subst em
  subst ek
  subst eh
  have hn : ¬ qhs (M 17) (s0.toNat : Int) (s1.toNat : Int) s2.toNat := by
    intro hh
    obtain ⟨g1, g2, g3⟩ := hh
    rw [hv] at g1
    omega
  refine ⟨Eq.mpr hp_194 ⟨s0.toNat, s1.toNat, s2.toNat + 1, s3.toNat, ⟨p1, by omega, p3⟩, by omega, by omega, fun w hw hh => ?_, ?_⟩, trivial⟩
  · by_cases e : w = s2.toNat
    · rw [e] at hh; exact absurd hh hn
    · exact p6 w (by omega) hh
  · rcases p7 with p7 | ⟨w, w1, w2, w3⟩
    · exact Or.inl p7
    · exact Or.inr ⟨w, by omega, w2, w3⟩
theorem rul_820 : Rul r_820 := by
  refine ⟨fun _ ρ M hm hB hF hG => ?_, fun gi gv hg => (by cases hg)⟩
  have H := cr_820 M (ρ 0) (ρ 1) (ρ 2) (ρ 3) (ρ 4) (hB _ List.mem_cons_self) (hB _ (List.mem_cons_of_mem _ List.mem_cons_self)) (hB _ (List.mem_cons_of_mem _ (List.mem_cons_of_mem _ List.mem_cons_self))) (hB _ (List.mem_cons_of_mem _ (List.mem_cons_of_mem _ (List.mem_cons_of_mem _ List.mem_cons_self)))) (hB _ (List.mem_cons_of_mem _ (List.mem_cons_of_mem _ (List.mem_cons_of_mem _ (List.mem_cons_of_mem _ List.mem_cons_self))))) (cvp 194 (x' := ((ρ 0) + 64 * (ρ 1))) (y' := (64 * (ρ 2) + (ρ 3))) (by show 0 + (1 * ρ 0 + (64 * ρ 1 + 0)) = _; omega) (by show 0 + (64 * ρ 2 + (1 * ρ 3 + 0)) = _; omega) (hm _ List.mem_cons_self)) (cvm (c := 17) (by decide) (x' := (4 * (ρ 2))) (y' := ((ρ 4))) (by show 0 + (4 * ρ 2 + 0) = _; omega) (by show 0 + (1 * ρ 4 + 0) = _; omega) (hm _ (List.mem_cons_of_mem _ List.mem_cons_self))) (by have h := hF _ List.mem_cons_self; have h : 0 ≤ (-1) + ((-1) * ρ 0 + (1 * ρ 4 + 0)) := h; omega) hG
  obtain ⟨k0, -⟩ := H
  exact ⟨_, List.mem_cons_self, ρ, fun _ _ => rfl, (okM_c (pvp 194 (by show 0 + (1 * ρ 0 + (64 * ρ 1 + 0)) = _; omega) (by show 64 + (64 * ρ 2 + (1 * ρ 3 + 0)) = _; omega) k0) okM_n), okB_n, okF_n⟩
-- cln2_1
theorem cr_821 (M : pM) (s0 s1 s2 s3 s4 : Int) (b0 : 0 ≤ s0 ∧ s0 ≤ 63) (b1 : 0 ≤ s1 ∧ s1 ≤ 36) (b2 : 0 ≤ s2 ∧ s2 ≤ 11) (b3 : 0 ≤ s3 ∧ s3 ≤ 40) (b4 : (-2147483648) ≤ s4 ∧ s4 ≤ 2147483647) (m0 : HP 194 (s0 + 64 * s1) (64 * s2 + s3) M) (m1 : (0 ≤ (4 * s2 + 2) ∧ M 17 (4 * s2 + 2).toNat = (s4))) (f0 : 0 ≤ ((-1) * s1 + s4 - 1)) (hG : gI M) : (HP 194 (s0 + 64 * s1) (64 * s2 + s3 + 64) M ∧ True) := by
  have hv := m1.2
  rw [show (4 * s2 + 2).toNat = 4 * s2.toNat + 2 by omega] at hv
  obtain ⟨c, mm, k, h, ⟨p1, p2, p3⟩, p4, p5, p6, p7⟩ := Eq.mp hp_194 m0
  have ec : c = s0.toNat := by omega
  have em : mm = s1.toNat := by omega
  have ek : k = s2.toNat := by omega
  have eh : h = s3.toNat := by omega
  subst ec
  subst em
  subst ek
  subst eh
  have hn : ¬ qhs (M 17) (s0.toNat : Int) (s1.toNat : Int) s2.toNat := by
    intro hh
    obtain ⟨g1, g2, g3⟩ := hh
    rw [hv] at g2
    omega
  refine ⟨Eq.mpr hp_194 ⟨s0.toNat, s1.toNat, s2.toNat + 1, s3.toNat, ⟨p1, by omega, p3⟩, by omega, by omega, fun w hw hh => ?_, ?_⟩, trivial⟩
  · by_cases e : w = s2.toNat
    · rw [e] at hh; exact absurd hh hn
    · exact p6 w (by omega) hh
  · rcases p7 with p7 | ⟨w, w1, w2, w3⟩
    · exact Or.inl p7
    · exact Or.inr ⟨w, by omega, w2, w3⟩
theorem rul_821 : Rul r_821 := by
  refine ⟨fun _ ρ M hm hB hF hG => ?_, fun gi gv hg => (by cases hg)⟩
  have H := cr_821 M (ρ 0) (ρ 1) (ρ 2) (ρ 3) (ρ 4) (hB _ List.mem_cons_self) (hB _ (List.mem_cons_of_mem _ List.mem_cons_self)) (hB _ (List.mem_cons_of_mem _ (List.mem_cons_of_mem _ List.mem_cons_self))) (hB _ (List.mem_cons_of_mem _ (List.mem_cons_of_mem _ (List.mem_cons_of_mem _ List.mem_cons_self)))) (hB _ (List.mem_cons_of_mem _ (List.mem_cons_of_mem _ (List.mem_cons_of_mem _ (List.mem_cons_of_mem _ List.mem_cons_self))))) (cvp 194 (x' := ((ρ 0) + 64 * (ρ 1))) (y' := (64 * (ρ 2) + (ρ 3))) (by show 0 + (1 * ρ 0 + (64 * ρ 1 + 0)) = _; omega) (by show 0 + (64 * ρ 2 + (1 * ρ 3 + 0)) = _; omega) (hm _ List.mem_cons_self)) (cvm (c := 17) (by decide) (x' := (4 * (ρ 2) + 2)) (y' := ((ρ 4))) (by show 2 + (4 * ρ 2 + 0) = _; omega) (by show 0 + (1 * ρ 4 + 0) = _; omega) (hm _ (List.mem_cons_of_mem _ List.mem_cons_self))) (by have h := hF _ List.mem_cons_self; have h : 0 ≤ (-1) + ((-1) * ρ 1 + (1 * ρ 4 + 0)) := h; omega) hG
  obtain ⟨k0, -⟩ := H
  exact ⟨_, List.mem_cons_self, ρ, fun _ _ => rfl, (okM_c (pvp 194 (by show 0 + (1 * ρ 0 + (64 * ρ 1 + 0)) = _; omega) (by show 64 + (64 * ρ 2 + (1 * ρ 3 + 0)) = _; omega) k0) okM_n), okB_n, okF_n⟩
-- cln3_1
theorem cr_822 (M : pM) (s0 s1 s2 s3 s4 : Int) (b0 : 0 ≤ s0 ∧ s0 ≤ 63) (b1 : 0 ≤ s1 ∧ s1 ≤ 36) (b2 : 0 ≤ s2 ∧ s2 ≤ 11) (b3 : 0 ≤ s3 ∧ s3 ≤ 40) (b4 : (-2147483648) ≤ s4 ∧ s4 ≤ 2147483647) (m0 : HP 194 (s0 + 64 * s1) (64 * s2 + s3) M) (m1 : (0 ≤ (4 * s2 + 3) ∧ M 17 (4 * s2 + 3).toNat = (s4))) (f0 : 0 ≤ (s1 + (-1) * s4)) (hG : gI M) : (HP 194 (s0 + 64 * s1) (64 * s2 + s3 + 64) M ∧ True) := by
  have hv := m1.2
  rw [show (4 * s2 + 3).toNat = 4 * s2.toNat + 3 by omega] at hv
  obtain ⟨c, mm, k, h, ⟨p1, p2, p3⟩, p4, p5, p6, p7⟩ := Eq.mp hp_194 m0
  have ec : c = s0.toNat := by omega
  have em : mm = s1.toNat := by omega
  have ek : k = s2.toNat := by omega
  have eh : h = s3.toNat := by omega
  subst ec
  subst em
  subst ek
  subst eh
  have hn : ¬ qhs (M 17) (s0.toNat : Int) (s1.toNat : Int) s2.toNat := by
    intro hh
    obtain ⟨g1, g2, g3⟩ := hh
    rw [hv] at g3
    omega
  refine ⟨Eq.mpr hp_194 ⟨s0.toNat, s1.toNat, s2.toNat + 1, s3.toNat, ⟨p1, by omega, p3⟩, by omega, by omega, fun w hw hh => ?_, ?_⟩, trivial⟩
  · by_cases e : w = s2.toNat
    · rw [e] at hh; exact absurd hh hn
    · exact p6 w (by omega) hh
  · rcases p7 with p7 | ⟨w, w1, w2, w3⟩
    · exact Or.inl p7
    · exact Or.inr ⟨w, by omega, w2, w3⟩
theorem rul_822 : Rul r_822 := by
  refine ⟨fun _ ρ M hm hB hF hG => ?_, fun gi gv hg => (by cases hg)⟩
  have H := cr_822 M (ρ 0) (ρ 1) (ρ 2) (ρ 3) (ρ 4) (hB _ List.mem_cons_self) (hB _ (List.mem_cons_of_mem _ List.mem_cons_self)) (hB _ (List.mem_cons_of_mem _ (List.mem_cons_of_mem _ List.mem_cons_self))) (hB _ (List.mem_cons_of_mem _ (List.mem_cons_of_mem _ (List.mem_cons_of_mem _ List.mem_cons_self)))) (hB _ (List.mem_cons_of_mem _ (List.mem_cons_of_mem _ (List.mem_cons_of_mem _ (List.mem_cons_of_mem _ List.mem_cons_self))))) (cvp 194 (x' := ((ρ 0) + 64 * (ρ 1))) (y' := (64 * (ρ 2) + (ρ 3))) (by show 0 + (1 * ρ 0 + (64 * ρ 1 + 0)) = _; omega) (by show 0 + (64 * ρ 2 + (1 * ρ 3 + 0)) = _; omega) (hm _ List.mem_cons_self)) (cvm (c := 17) (by decide) (x' := (4 * (ρ 2) + 3)) (y' := ((ρ 4))) (by show 3 + (4 * ρ 2 + 0) = _; omega) (by show 0 + (1 * ρ 4 + 0) = _; omega) (hm _ (List.mem_cons_of_mem _ List.mem_cons_self))) (by have h := hF _ List.mem_cons_self; have h : 0 ≤ 0 + (1 * ρ 1 + ((-1) * ρ 4 + 0)) := h; omega) hG
  obtain ⟨k0, -⟩ := H
  exact ⟨_, List.mem_cons_self, ρ, fun _ _ => rfl, (okM_c (pvp 194 (by show 0 + (1 * ρ 0 + (64 * ρ 1 + 0)) = _; omega) (by show 64 + (64 * ρ 2 + (1 * ρ 3 + 0)) = _; omega) k0) okM_n), okB_n, okF_n⟩
-- cly0_1
theorem cr_823 (M : pM) (s0 s1 s2 s3 s4 s5 s6 : Int) (b0 : 0 ≤ s0 ∧ s0 ≤ 63) (b1 : 0 ≤ s1 ∧ s1 ≤ 36) (b2 : 0 ≤ s2 ∧ s2 ≤ 11) (b3 : 0 ≤ s3 ∧ s3 ≤ 40) (b4 : 0 ≤ s4 ∧ s4 ≤ 63) (b5 : (-2147483648) ≤ s5 ∧ s5 ≤ 2147483647) (b6 : (-2147483648) ≤ s6 ∧ s6 ≤ 2147483647) (m0 : HP 194 (s0 + 64 * s1) (64 * s2 + s3) M) (m1 : (0 ≤ (4 * s2) ∧ M 17 (4 * s2).toNat = (s0))) (m2 : (0 ≤ (4 * s2 + 1) ∧ M 17 (4 * s2 + 1).toNat = (s4))) (m3 : (0 ≤ (4 * s2 + 2) ∧ M 17 (4 * s2 + 2).toNat = (s5))) (m4 : (0 ≤ (4 * s2 + 3) ∧ M 17 (4 * s2 + 3).toNat = (s6))) (f0 : 0 ≤ (s1 + (-1) * s5)) (f1 : 0 ≤ ((-1) * s1 + s6 - 1)) (f2 : 0 ≤ ((-1) * s3 + s4)) (hG : gI M) : (HP 194 (s0 + 64 * s1) (64 * s2 + s3 + 64) M ∧ True) := by
  have v0 := m1.2
  rw [show (4 * s2).toNat = 4 * s2.toNat by omega] at v0
  have v1 := m2.2
  rw [show (4 * s2 + 1).toNat = 4 * s2.toNat + 1 by omega] at v1
  have v2 := m3.2
  rw [show (4 * s2 + 2).toNat = 4 * s2.toNat + 2 by omega] at v2
  have v3 := m4.2
  rw [show (4 * s2 + 3).toNat = 4 * s2.toNat + 3 by omega] at v3
  obtain ⟨c, mm, k, h, ⟨p1, p2, p3⟩, p4, p5, p6, p7⟩ := Eq.mp hp_194 m0
  have ec : c = s0.toNat := by omega
  have em : mm = s1.toNat := by omega
  have ek : k = s2.toNat := by omega
  have eh : h = s3.toNat := by omega
  subst ec
  subst em
  subst ek
  subst eh
  have hh : qhs (M 17) (s0.toNat : Int) (s1.toNat : Int) s2.toNat := ⟨by rw [v0]; omega, by rw [v2]; omega, by rw [v3]; omega⟩
  refine ⟨Eq.mpr hp_194 ⟨s0.toNat, s1.toNat, s2.toNat + 1, s3.toNat, ⟨p1, by omega, by omega⟩, by omega, by omega, fun w hw hw2 => ?_, ?_⟩, trivial⟩
  · by_cases e : w = s2.toNat
    · rw [e, v1]; omega
    · have := p6 w (by omega) hw2; omega
  · rcases p7 with p7 | ⟨w, w1, w2, w3⟩
    · exact Or.inl p7
    · exact Or.inr ⟨w, by omega, w2, w3⟩
theorem rul_823 : Rul r_823 := by
  refine ⟨fun _ ρ M hm hB hF hG => ?_, fun gi gv hg => (by cases hg)⟩
  have H := cr_823 M (ρ 0) (ρ 1) (ρ 2) (ρ 3) (ρ 4) (ρ 5) (ρ 6) (hB _ List.mem_cons_self) (hB _ (List.mem_cons_of_mem _ List.mem_cons_self)) (hB _ (List.mem_cons_of_mem _ (List.mem_cons_of_mem _ List.mem_cons_self))) (hB _ (List.mem_cons_of_mem _ (List.mem_cons_of_mem _ (List.mem_cons_of_mem _ List.mem_cons_self)))) (hB _ (List.mem_cons_of_mem _ (List.mem_cons_of_mem _ (List.mem_cons_of_mem _ (List.mem_cons_of_mem _ List.mem_cons_self))))) (hB _ (List.mem_cons_of_mem _ (List.mem_cons_of_mem _ (List.mem_cons_of_mem _ (List.mem_cons_of_mem _ (List.mem_cons_of_mem _ List.mem_cons_self)))))) (hB _ (List.mem_cons_of_mem _ (List.mem_cons_of_mem _ (List.mem_cons_of_mem _ (List.mem_cons_of_mem _ (List.mem_cons_of_mem _ (List.mem_cons_of_mem _ List.mem_cons_self))))))) (cvp 194 (x' := ((ρ 0) + 64 * (ρ 1))) (y' := (64 * (ρ 2) + (ρ 3))) (by show 0 + (1 * ρ 0 + (64 * ρ 1 + 0)) = _; omega) (by show 0 + (64 * ρ 2 + (1 * ρ 3 + 0)) = _; omega) (hm _ List.mem_cons_self)) (cvm (c := 17) (by decide) (x' := (4 * (ρ 2))) (y' := ((ρ 0))) (by show 0 + (4 * ρ 2 + 0) = _; omega) (by show 0 + (1 * ρ 0 + 0) = _; omega) (hm _ (List.mem_cons_of_mem _ List.mem_cons_self))) (cvm (c := 17) (by decide) (x' := (4 * (ρ 2) + 1)) (y' := ((ρ 4))) (by show 1 + (4 * ρ 2 + 0) = _; omega) (by show 0 + (1 * ρ 4 + 0) = _; omega) (hm _ (List.mem_cons_of_mem _ (List.mem_cons_of_mem _ List.mem_cons_self)))) (cvm (c := 17) (by decide) (x' := (4 * (ρ 2) + 2)) (y' := ((ρ 5))) (by show 2 + (4 * ρ 2 + 0) = _; omega) (by show 0 + (1 * ρ 5 + 0) = _; omega) (hm _ (List.mem_cons_of_mem _ (List.mem_cons_of_mem _ (List.mem_cons_of_mem _ List.mem_cons_self))))) (cvm (c := 17) (by decide) (x' := (4 * (ρ 2) + 3)) (y' := ((ρ 6))) (by show 3 + (4 * ρ 2 + 0) = _; omega) (by show 0 + (1 * ρ 6 + 0) = _; omega) (hm _ (List.mem_cons_of_mem _ (List.mem_cons_of_mem _ (List.mem_cons_of_mem _ (List.mem_cons_of_mem _ List.mem_cons_self)))))) (by have h := hF _ List.mem_cons_self; have h : 0 ≤ 0 + (1 * ρ 1 + ((-1) * ρ 5 + 0)) := h; omega) (by have h := hF _ (List.mem_cons_of_mem _ List.mem_cons_self); have h : 0 ≤ (-1) + ((-1) * ρ 1 + (1 * ρ 6 + 0)) := h; omega) (by have h := hF _ (List.mem_cons_of_mem _ (List.mem_cons_of_mem _ List.mem_cons_self)); have h : 0 ≤ 0 + ((-1) * ρ 3 + (1 * ρ 4 + 0)) := h; omega) hG
  obtain ⟨k0, -⟩ := H
  exact ⟨_, List.mem_cons_self, ρ, fun _ _ => rfl, (okM_c (pvp 194 (by show 0 + (1 * ρ 0 + (64 * ρ 1 + 0)) = _; omega) (by show 64 + (64 * ρ 2 + (1 * ρ 3 + 0)) = _; omega) k0) okM_n), okB_n, okF_n⟩
-- cly1_1
theorem cr_824 (M : pM) (s0 s1 s2 s3 s4 s5 s6 : Int) (b0 : 0 ≤ s0 ∧ s0 ≤ 63) (b1 : 0 ≤ s1 ∧ s1 ≤ 36) (b2 : 0 ≤ s2 ∧ s2 ≤ 11) (b3 : 0 ≤ s3 ∧ s3 ≤ 40) (b4 : 0 ≤ s4 ∧ s4 ≤ 63) (b5 : (-2147483648) ≤ s5 ∧ s5 ≤ 2147483647) (b6 : (-2147483648) ≤ s6 ∧ s6 ≤ 2147483647) (m0 : HP 194 (s0 + 64 * s1) (64 * s2 + s3) M) (m1 : (0 ≤ (4 * s2) ∧ M 17 (4 * s2).toNat = (s0))) (m2 : (0 ≤ (4 * s2 + 1) ∧ M 17 (4 * s2 + 1).toNat = (s4))) (m3 : (0 ≤ (4 * s2 + 2) ∧ M 17 (4 * s2 + 2).toNat = (s5))) (m4 : (0 ≤ (4 * s2 + 3) ∧ M 17 (4 * s2 + 3).toNat = (s6))) (f0 : 0 ≤ (s1 + (-1) * s5)) (f1 : 0 ≤ ((-1) * s1 + s6 - 1)) (f2 : 0 ≤ (s3 + (-1) * s4)) (hG : gI M) : (HP 194 (s0 + 64 * s1) (64 * s2 + s4 + 64) M ∧ True) := by
  have v0 := m1.2
  rw [show (4 * s2).toNat = 4 * s2.toNat by omega] at v0
  have v1 := m2.2
  rw [show (4 * s2 + 1).toNat = 4 * s2.toNat + 1 by omega] at v1
  have v2 := m3.2
  rw [show (4 * s2 + 2).toNat = 4 * s2.toNat + 2 by omega] at v2
  have v3 := m4.2
  rw [show (4 * s2 + 3).toNat = 4 * s2.toNat + 3 by omega] at v3
  obtain ⟨c, mm, k, h, ⟨p1, p2, p3⟩, p4, p5, p6, p7⟩ := Eq.mp hp_194 m0
  have ec : c = s0.toNat := by omega
  have em : mm = s1.toNat := by omega
  have ek : k = s2.toNat := by omega
  have eh : h = s3.toNat := by omega
  subst ec
  subst em
  subst ek
  subst eh
  have hh : qhs (M 17) (s0.toNat : Int) (s1.toNat : Int) s2.toNat := ⟨by rw [v0]; omega, by rw [v2]; omega, by rw [v3]; omega⟩
  clear p7
  refine ⟨Eq.mpr hp_194 ⟨s0.toNat, s1.toNat, s2.toNat + 1, s4.toNat, ⟨p1, by omega, by omega⟩, by omega, by omega, fun w hw hw2 => ?_, ?_⟩, trivial⟩
  · by_cases e : w = s2.toNat
    · rw [e, v1]; omega
    · have := p6 w (by omega) hw2; omega
  · exact Or.inr ⟨s2.toNat, by omega, hh, by rw [v1]; omega⟩
theorem rul_824 : Rul r_824 := by
  refine ⟨fun _ ρ M hm hB hF hG => ?_, fun gi gv hg => (by cases hg)⟩
  have H := cr_824 M (ρ 0) (ρ 1) (ρ 2) (ρ 3) (ρ 4) (ρ 5) (ρ 6) (hB _ List.mem_cons_self) (hB _ (List.mem_cons_of_mem _ List.mem_cons_self)) (hB _ (List.mem_cons_of_mem _ (List.mem_cons_of_mem _ List.mem_cons_self))) (hB _ (List.mem_cons_of_mem _ (List.mem_cons_of_mem _ (List.mem_cons_of_mem _ List.mem_cons_self)))) (hB _ (List.mem_cons_of_mem _ (List.mem_cons_of_mem _ (List.mem_cons_of_mem _ (List.mem_cons_of_mem _ List.mem_cons_self))))) (hB _ (List.mem_cons_of_mem _ (List.mem_cons_of_mem _ (List.mem_cons_of_mem _ (List.mem_cons_of_mem _ (List.mem_cons_of_mem _ List.mem_cons_self)))))) (hB _ (List.mem_cons_of_mem _ (List.mem_cons_of_mem _ (List.mem_cons_of_mem _ (List.mem_cons_of_mem _ (List.mem_cons_of_mem _ (List.mem_cons_of_mem _ List.mem_cons_self))))))) (cvp 194 (x' := ((ρ 0) + 64 * (ρ 1))) (y' := (64 * (ρ 2) + (ρ 3))) (by show 0 + (1 * ρ 0 + (64 * ρ 1 + 0)) = _; omega) (by show 0 + (64 * ρ 2 + (1 * ρ 3 + 0)) = _; omega) (hm _ List.mem_cons_self)) (cvm (c := 17) (by decide) (x' := (4 * (ρ 2))) (y' := ((ρ 0))) (by show 0 + (4 * ρ 2 + 0) = _; omega) (by show 0 + (1 * ρ 0 + 0) = _; omega) (hm _ (List.mem_cons_of_mem _ List.mem_cons_self))) (cvm (c := 17) (by decide) (x' := (4 * (ρ 2) + 1)) (y' := ((ρ 4))) (by show 1 + (4 * ρ 2 + 0) = _; omega) (by show 0 + (1 * ρ 4 + 0) = _; omega) (hm _ (List.mem_cons_of_mem _ (List.mem_cons_of_mem _ List.mem_cons_self)))) (cvm (c := 17) (by decide) (x' := (4 * (ρ 2) + 2)) (y' := ((ρ 5))) (by show 2 + (4 * ρ 2 + 0) = _; omega) (by show 0 + (1 * ρ 5 + 0) = _; omega) (hm _ (List.mem_cons_of_mem _ (List.mem_cons_of_mem _ (List.mem_cons_of_mem _ List.mem_cons_self))))) (cvm (c := 17) (by decide) (x' := (4 * (ρ 2) + 3)) (y' := ((ρ 6))) (by show 3 + (4 * ρ 2 + 0) = _; omega) (by show 0 + (1 * ρ 6 + 0) = _; omega) (hm _ (List.mem_cons_of_mem _ (List.mem_cons_of_mem _ (List.mem_cons_of_mem _ (List.mem_cons_of_mem _ List.mem_cons_self)))))) (by have h := hF _ List.mem_cons_self; have h : 0 ≤ 0 + (1 * ρ 1 + ((-1) * ρ 5 + 0)) := h; omega) (by have h := hF _ (List.mem_cons_of_mem _ List.mem_cons_self); have h : 0 ≤ (-1) + ((-1) * ρ 1 + (1 * ρ 6 + 0)) := h; omega) (by have h := hF _ (List.mem_cons_of_mem _ (List.mem_cons_of_mem _ List.mem_cons_self)); have h : 0 ≤ 0 + (1 * ρ 3 + ((-1) * ρ 4 + 0)) := h; omega) hG
  obtain ⟨k0, -⟩ := H
  exact ⟨_, List.mem_cons_self, ρ, fun _ _ => rfl, (okM_c (pvp 194 (by show 0 + (1 * ρ 0 + (64 * ρ 1 + 0)) = _; omega) (by show 64 + (64 * ρ 2 + (1 * ρ 4 + 0)) = _; omega) k0) okM_n), okB_n, okF_n⟩
-- ns0_1
theorem cr_825 (M : pM) (s0 s1 s2 : Int) (b0 : 0 ≤ s0 ∧ s0 ≤ 63) (b1 : 0 ≤ s1 ∧ s1 ≤ 36) (b2 : 0 ≤ s2 ∧ s2 ≤ 40) (hG : gI M) : (HP 196 (s0 + 64 * s1) (s2) M ∧ True) := by
  exact ⟨Eq.mpr hp_196 ⟨s0.toNat, s1.toNat, 0, s2.toNat, ⟨by omega, by omega, by omega⟩, by omega, by omega, fun w hw => by omega⟩, trivial⟩
theorem rul_825 : Rul r_825 := by
  refine ⟨fun _ ρ M hm hB hF hG => ?_, fun gi gv hg => (by cases hg)⟩
  have H := cr_825 M (ρ 0) (ρ 1) (ρ 2) (hB _ List.mem_cons_self) (hB _ (List.mem_cons_of_mem _ List.mem_cons_self)) (hB _ (List.mem_cons_of_mem _ (List.mem_cons_of_mem _ List.mem_cons_self))) hG
  obtain ⟨k0, -⟩ := H
  exact ⟨_, List.mem_cons_self, ρ, fun _ _ => rfl, (okM_c (pvp 196 (by show 0 + (1 * ρ 0 + (64 * ρ 1 + 0)) = _; omega) (by show 0 + (1 * ρ 2 + 0) = _; omega) k0) okM_n), okB_n, okF_n⟩
-- nsn0_1
theorem cr_826 (M : pM) (s0 s1 s2 s3 s4 : Int) (b0 : 0 ≤ s0 ∧ s0 ≤ 63) (b1 : 0 ≤ s1 ∧ s1 ≤ 36) (b2 : 0 ≤ s2 ∧ s2 ≤ 11) (b3 : 0 ≤ s3 ∧ s3 ≤ 40) (b4 : (-2147483648) ≤ s4 ∧ s4 ≤ 2147483647) (m0 : HP 196 (s0 + 64 * s1) (64 * s2 + s3) M) (m1 : (0 ≤ (s2 + 12) ∧ M 74 (s2 + 12).toNat = (s4))) (f0 : 0 ≤ (s0 + (-1) * s4 - 1)) (hG : gI M) : (HP 196 (s0 + 64 * s1) (64 * s2 + s3 + 64) M ∧ True) := by
  obtain ⟨c, mm, k, H, ⟨p1, p2, p3⟩, p4, p5, p6⟩ := Eq.mp hp_196 m0
  have ec : c = s0.toNat := by omega
  have em : mm = s1.toNat := by omega
  have ek : k = s2.toNat := by omega
  have eh : H = s3.toNat := by omega
  subst ec
  subst em
  subst ek
  subst eh
  have hv := m1.2
  rw [show (s2 + 12).toNat = 12 + s2.toNat by omega] at hv
  refine ⟨Eq.mpr hp_196 ⟨s0.toNat, s1.toNat, s2.toNat + 1, s3.toNat, ⟨p1, by omega, p3⟩, by omega, by omega, fun w hw hh => ?_⟩, trivial⟩
  by_cases e : w = s2.toNat
  · rw [e] at hh
    obtain ⟨g1, g2, g3, g4⟩ := hh
    have g : M 74 (12 + s2.toNat) = (s0.toNat : Int) := g1
    rw [hv] at g
    omega
  · exact p6 w (by omega) hh
theorem rul_826 : Rul r_826 := by
  refine ⟨fun _ ρ M hm hB hF hG => ?_, fun gi gv hg => (by cases hg)⟩
  have H := cr_826 M (ρ 0) (ρ 1) (ρ 2) (ρ 3) (ρ 4) (hB _ List.mem_cons_self) (hB _ (List.mem_cons_of_mem _ List.mem_cons_self)) (hB _ (List.mem_cons_of_mem _ (List.mem_cons_of_mem _ List.mem_cons_self))) (hB _ (List.mem_cons_of_mem _ (List.mem_cons_of_mem _ (List.mem_cons_of_mem _ List.mem_cons_self)))) (hB _ (List.mem_cons_of_mem _ (List.mem_cons_of_mem _ (List.mem_cons_of_mem _ (List.mem_cons_of_mem _ List.mem_cons_self))))) (cvp 196 (x' := ((ρ 0) + 64 * (ρ 1))) (y' := (64 * (ρ 2) + (ρ 3))) (by show 0 + (1 * ρ 0 + (64 * ρ 1 + 0)) = _; omega) (by show 0 + (64 * ρ 2 + (1 * ρ 3 + 0)) = _; omega) (hm _ List.mem_cons_self)) (cvm (c := 74) (by decide) (x' := ((ρ 2) + 12)) (y' := ((ρ 4))) (by show 12 + (1 * ρ 2 + 0) = _; omega) (by show 0 + (1 * ρ 4 + 0) = _; omega) (hm _ (List.mem_cons_of_mem _ List.mem_cons_self))) (by have h := hF _ List.mem_cons_self; have h : 0 ≤ (-1) + (1 * ρ 0 + ((-1) * ρ 4 + 0)) := h; omega) hG
  obtain ⟨k0, -⟩ := H
  exact ⟨_, List.mem_cons_self, ρ, fun _ _ => rfl, (okM_c (pvp 196 (by show 0 + (1 * ρ 0 + (64 * ρ 1 + 0)) = _; omega) (by show 64 + (64 * ρ 2 + (1 * ρ 3 + 0)) = _; omega) k0) okM_n), okB_n, okF_n⟩
-- nsn1_1
theorem cr_827 (M : pM) (s0 s1 s2 s3 s4 : Int) (b0 : 0 ≤ s0 ∧ s0 ≤ 63) (b1 : 0 ≤ s1 ∧ s1 ≤ 36) (b2 : 0 ≤ s2 ∧ s2 ≤ 11) (b3 : 0 ≤ s3 ∧ s3 ≤ 40) (b4 : (-2147483648) ≤ s4 ∧ s4 ≤ 2147483647) (m0 : HP 196 (s0 + 64 * s1) (64 * s2 + s3) M) (m1 : (0 ≤ (s2 + 12) ∧ M 74 (s2 + 12).toNat = (s4))) (f0 : 0 ≤ ((-1) * s0 + s4 - 1)) (hG : gI M) : (HP 196 (s0 + 64 * s1) (64 * s2 + s3 + 64) M ∧ True) := by
  obtain ⟨c, mm, k, H, ⟨p1, p2, p3⟩, p4, p5, p6⟩ := Eq.mp hp_196 m0
  have ec : c = s0.toNat := by omega
  have em : mm = s1.toNat := by omega
  have ek : k = s2.toNat := by omega
  have eh : H = s3.toNat := by omega
  subst ec
  subst em
  subst ek
  subst eh
  have hv := m1.2
  rw [show (s2 + 12).toNat = 12 + s2.toNat by omega] at hv
  refine ⟨Eq.mpr hp_196 ⟨s0.toNat, s1.toNat, s2.toNat + 1, s3.toNat, ⟨p1, by omega, p3⟩, by omega, by omega, fun w hw hh => ?_⟩, trivial⟩
  by_cases e : w = s2.toNat
  · rw [e] at hh
    obtain ⟨g1, g2, g3, g4⟩ := hh
    have g : M 74 (12 + s2.toNat) = (s0.toNat : Int) := g1
    rw [hv] at g
    omega
  · exact p6 w (by omega) hh
theorem rul_827 : Rul r_827 := by
  refine ⟨fun _ ρ M hm hB hF hG => ?_, fun gi gv hg => (by cases hg)⟩
  have H := cr_827 M (ρ 0) (ρ 1) (ρ 2) (ρ 3) (ρ 4) (hB _ List.mem_cons_self) (hB _ (List.mem_cons_of_mem _ List.mem_cons_self)) (hB _ (List.mem_cons_of_mem _ (List.mem_cons_of_mem _ List.mem_cons_self))) (hB _ (List.mem_cons_of_mem _ (List.mem_cons_of_mem _ (List.mem_cons_of_mem _ List.mem_cons_self)))) (hB _ (List.mem_cons_of_mem _ (List.mem_cons_of_mem _ (List.mem_cons_of_mem _ (List.mem_cons_of_mem _ List.mem_cons_self))))) (cvp 196 (x' := ((ρ 0) + 64 * (ρ 1))) (y' := (64 * (ρ 2) + (ρ 3))) (by show 0 + (1 * ρ 0 + (64 * ρ 1 + 0)) = _; omega) (by show 0 + (64 * ρ 2 + (1 * ρ 3 + 0)) = _; omega) (hm _ List.mem_cons_self)) (cvm (c := 74) (by decide) (x' := ((ρ 2) + 12)) (y' := ((ρ 4))) (by show 12 + (1 * ρ 2 + 0) = _; omega) (by show 0 + (1 * ρ 4 + 0) = _; omega) (hm _ (List.mem_cons_of_mem _ List.mem_cons_self))) (by have h := hF _ List.mem_cons_self; have h : 0 ≤ (-1) + ((-1) * ρ 0 + (1 * ρ 4 + 0)) := h; omega) hG
  obtain ⟨k0, -⟩ := H
  exact ⟨_, List.mem_cons_self, ρ, fun _ _ => rfl, (okM_c (pvp 196 (by show 0 + (1 * ρ 0 + (64 * ρ 1 + 0)) = _; omega) (by show 64 + (64 * ρ 2 + (1 * ρ 3 + 0)) = _; omega) k0) okM_n), okB_n, okF_n⟩
-- nsn2_1
theorem cr_828 (M : pM) (s0 s1 s2 s3 s4 : Int) (b0 : 0 ≤ s0 ∧ s0 ≤ 63) (b1 : 0 ≤ s1 ∧ s1 ≤ 36) (b2 : 0 ≤ s2 ∧ s2 ≤ 11) (b3 : 0 ≤ s3 ∧ s3 ≤ 40) (b4 : (-2147483648) ≤ s4 ∧ s4 ≤ 2147483647) (m0 : HP 196 (s0 + 64 * s1) (64 * s2 + s3) M) (m1 : (0 ≤ (s2 + 12) ∧ M 75 (s2 + 12).toNat = (s4))) (f0 : 0 ≤ ((-1) * s3 + s4)) (hG : gI M) : (HP 196 (s0 + 64 * s1) (64 * s2 + s3 + 64) M ∧ True) := by
  obtain ⟨c, mm, k, H, ⟨p1, p2, p3⟩, p4, p5, p6⟩ := Eq.mp hp_196 m0
  have ec : c = s0.toNat := by omega
  have em : mm = s1.toNat := by omega
  have ek : k = s2.toNat := by omega
  have eh : H = s3.toNat := by omega
  subst ec
  subst em
  subst ek
  subst eh
  have hv := m1.2
  rw [show (s2 + 12).toNat = 12 + s2.toNat by omega] at hv
  refine ⟨Eq.mpr hp_196 ⟨s0.toNat, s1.toNat, s2.toNat + 1, s3.toNat, ⟨p1, by omega, p3⟩, by omega, by omega, fun w hw hh => ?_⟩, trivial⟩
  by_cases e : w = s2.toNat
  · rw [e] at hh
    obtain ⟨g1, g2, g3, g4⟩ := hh
    have g : M 75 (12 + s2.toNat) < (s3.toNat : Int) := g2
    rw [hv] at g
    omega
  · exact p6 w (by omega) hh
theorem rul_828 : Rul r_828 := by
  refine ⟨fun _ ρ M hm hB hF hG => ?_, fun gi gv hg => (by cases hg)⟩
  have H := cr_828 M (ρ 0) (ρ 1) (ρ 2) (ρ 3) (ρ 4) (hB _ List.mem_cons_self) (hB _ (List.mem_cons_of_mem _ List.mem_cons_self)) (hB _ (List.mem_cons_of_mem _ (List.mem_cons_of_mem _ List.mem_cons_self))) (hB _ (List.mem_cons_of_mem _ (List.mem_cons_of_mem _ (List.mem_cons_of_mem _ List.mem_cons_self)))) (hB _ (List.mem_cons_of_mem _ (List.mem_cons_of_mem _ (List.mem_cons_of_mem _ (List.mem_cons_of_mem _ List.mem_cons_self))))) (cvp 196 (x' := ((ρ 0) + 64 * (ρ 1))) (y' := (64 * (ρ 2) + (ρ 3))) (by show 0 + (1 * ρ 0 + (64 * ρ 1 + 0)) = _; omega) (by show 0 + (64 * ρ 2 + (1 * ρ 3 + 0)) = _; omega) (hm _ List.mem_cons_self)) (cvm (c := 75) (by decide) (x' := ((ρ 2) + 12)) (y' := ((ρ 4))) (by show 12 + (1 * ρ 2 + 0) = _; omega) (by show 0 + (1 * ρ 4 + 0) = _; omega) (hm _ (List.mem_cons_of_mem _ List.mem_cons_self))) (by have h := hF _ List.mem_cons_self; have h : 0 ≤ 0 + ((-1) * ρ 3 + (1 * ρ 4 + 0)) := h; omega) hG
  obtain ⟨k0, -⟩ := H
  exact ⟨_, List.mem_cons_self, ρ, fun _ _ => rfl, (okM_c (pvp 196 (by show 0 + (1 * ρ 0 + (64 * ρ 1 + 0)) = _; omega) (by show 64 + (64 * ρ 2 + (1 * ρ 3 + 0)) = _; omega) k0) okM_n), okB_n, okF_n⟩
-- nsn3_1
theorem cr_829 (M : pM) (s0 s1 s2 s3 s4 : Int) (b0 : 0 ≤ s0 ∧ s0 ≤ 63) (b1 : 0 ≤ s1 ∧ s1 ≤ 36) (b2 : 0 ≤ s2 ∧ s2 ≤ 11) (b3 : 0 ≤ s3 ∧ s3 ≤ 40) (b4 : (-2147483648) ≤ s4 ∧ s4 ≤ 2147483647) (m0 : HP 196 (s0 + 64 * s1) (64 * s2 + s3) M) (m1 : (0 ≤ (s2 + 12) ∧ M 76 (s2 + 12).toNat = (s4))) (f0 : 0 ≤ ((-1) * s1 + s4 - 1)) (hG : gI M) : (HP 196 (s0 + 64 * s1) (64 * s2 + s3 + 64) M ∧ True) := by
  obtain ⟨c, mm, k, H, ⟨p1, p2, p3⟩, p4, p5, p6⟩ := Eq.mp hp_196 m0
  have ec : c = s0.toNat := by omega
  have em : mm = s1.toNat := by omega
  have ek : k = s2.toNat := by omega
  have eh : H = s3.toNat := by omega
  subst ec
  subst em
  subst ek
  subst eh
  have hv := m1.2
  rw [show (s2 + 12).toNat = 12 + s2.toNat by omega] at hv
  refine ⟨Eq.mpr hp_196 ⟨s0.toNat, s1.toNat, s2.toNat + 1, s3.toNat, ⟨p1, by omega, p3⟩, by omega, by omega, fun w hw hh => ?_⟩, trivial⟩
  by_cases e : w = s2.toNat
  · rw [e] at hh
    obtain ⟨g1, g2, g3, g4⟩ := hh
    have g : M 76 (12 + s2.toNat) ≤ (s1.toNat : Int) := g3
    rw [hv] at g
    omega
  · exact p6 w (by omega) hh
theorem rul_829 : Rul r_829 := by
  refine ⟨fun _ ρ M hm hB hF hG => ?_, fun gi gv hg => (by cases hg)⟩
  have H := cr_829 M (ρ 0) (ρ 1) (ρ 2) (ρ 3) (ρ 4) (hB _ List.mem_cons_self) (hB _ (List.mem_cons_of_mem _ List.mem_cons_self)) (hB _ (List.mem_cons_of_mem _ (List.mem_cons_of_mem _ List.mem_cons_self))) (hB _ (List.mem_cons_of_mem _ (List.mem_cons_of_mem _ (List.mem_cons_of_mem _ List.mem_cons_self)))) (hB _ (List.mem_cons_of_mem _ (List.mem_cons_of_mem _ (List.mem_cons_of_mem _ (List.mem_cons_of_mem _ List.mem_cons_self))))) (cvp 196 (x' := ((ρ 0) + 64 * (ρ 1))) (y' := (64 * (ρ 2) + (ρ 3))) (by show 0 + (1 * ρ 0 + (64 * ρ 1 + 0)) = _; omega) (by show 0 + (64 * ρ 2 + (1 * ρ 3 + 0)) = _; omega) (hm _ List.mem_cons_self)) (cvm (c := 76) (by decide) (x' := ((ρ 2) + 12)) (y' := ((ρ 4))) (by show 12 + (1 * ρ 2 + 0) = _; omega) (by show 0 + (1 * ρ 4 + 0) = _; omega) (hm _ (List.mem_cons_of_mem _ List.mem_cons_self))) (by have h := hF _ List.mem_cons_self; have h : 0 ≤ (-1) + ((-1) * ρ 1 + (1 * ρ 4 + 0)) := h; omega) hG
  obtain ⟨k0, -⟩ := H
  exact ⟨_, List.mem_cons_self, ρ, fun _ _ => rfl, (okM_c (pvp 196 (by show 0 + (1 * ρ 0 + (64 * ρ 1 + 0)) = _; omega) (by show 64 + (64 * ρ 2 + (1 * ρ 3 + 0)) = _; omega) k0) okM_n), okB_n, okF_n⟩
-- nsn4_1
theorem cr_830 (M : pM) (s0 s1 s2 s3 s4 : Int) (b0 : 0 ≤ s0 ∧ s0 ≤ 63) (b1 : 0 ≤ s1 ∧ s1 ≤ 36) (b2 : 0 ≤ s2 ∧ s2 ≤ 11) (b3 : 0 ≤ s3 ∧ s3 ≤ 40) (b4 : (-2147483648) ≤ s4 ∧ s4 ≤ 2147483647) (m0 : HP 196 (s0 + 64 * s1) (64 * s2 + s3) M) (m1 : (0 ≤ (s2 + 12) ∧ M 77 (s2 + 12).toNat = (s4))) (f0 : 0 ≤ (s1 + (-1) * s4)) (hG : gI M) : (HP 196 (s0 + 64 * s1) (64 * s2 + s3 + 64) M ∧ True) := by
  obtain ⟨c, mm, k, H, ⟨p1, p2, p3⟩, p4, p5, p6⟩ := Eq.mp hp_196 m0
  have ec : c = s0.toNat := by omega
  have em : mm = s1.toNat := by omega
  have ek : k = s2.toNat := by omega
  have eh : H = s3.toNat := by omega
  subst ec
  subst em
  subst ek
  subst eh
  have hv := m1.2
  rw [show (s2 + 12).toNat = 12 + s2.toNat by omega] at hv
  refine ⟨Eq.mpr hp_196 ⟨s0.toNat, s1.toNat, s2.toNat + 1, s3.toNat, ⟨p1, by omega, p3⟩, by omega, by omega, fun w hw hh => ?_⟩, trivial⟩
  by_cases e : w = s2.toNat
  · rw [e] at hh
    obtain ⟨g1, g2, g3, g4⟩ := hh
    have g : (s1.toNat : Int) < M 77 (12 + s2.toNat) := g4
    rw [hv] at g
    omega
  · exact p6 w (by omega) hh
theorem rul_830 : Rul r_830 := by
  refine ⟨fun _ ρ M hm hB hF hG => ?_, fun gi gv hg => (by cases hg)⟩
  have H := cr_830 M (ρ 0) (ρ 1) (ρ 2) (ρ 3) (ρ 4) (hB _ List.mem_cons_self) (hB _ (List.mem_cons_of_mem _ List.mem_cons_self)) (hB _ (List.mem_cons_of_mem _ (List.mem_cons_of_mem _ List.mem_cons_self))) (hB _ (List.mem_cons_of_mem _ (List.mem_cons_of_mem _ (List.mem_cons_of_mem _ List.mem_cons_self)))) (hB _ (List.mem_cons_of_mem _ (List.mem_cons_of_mem _ (List.mem_cons_of_mem _ (List.mem_cons_of_mem _ List.mem_cons_self))))) (cvp 196 (x' := ((ρ 0) + 64 * (ρ 1))) (y' := (64 * (ρ 2) + (ρ 3))) (by show 0 + (1 * ρ 0 + (64 * ρ 1 + 0)) = _; omega) (by show 0 + (64 * ρ 2 + (1 * ρ 3 + 0)) = _; omega) (hm _ List.mem_cons_self)) (cvm (c := 77) (by decide) (x' := ((ρ 2) + 12)) (y' := ((ρ 4))) (by show 12 + (1 * ρ 2 + 0) = _; omega) (by show 0 + (1 * ρ 4 + 0) = _; omega) (hm _ (List.mem_cons_of_mem _ List.mem_cons_self))) (by have h := hF _ List.mem_cons_self; have h : 0 ≤ 0 + (1 * ρ 1 + ((-1) * ρ 4 + 0)) := h; omega) hG
  obtain ⟨k0, -⟩ := H
  exact ⟨_, List.mem_cons_self, ρ, fun _ _ => rfl, (okM_c (pvp 196 (by show 0 + (1 * ρ 0 + (64 * ρ 1 + 0)) = _; omega) (by show 64 + (64 * ρ 2 + (1 * ρ 3 + 0)) = _; omega) k0) okM_n), okB_n, okF_n⟩
-- sh1_1
theorem cr_831 (M : pM) (s0 s1 s2 s3 s4 s5 s6 s7 : Int) (b0 : 0 ≤ s0 ∧ s0 ≤ 63) (b1 : 0 ≤ s1 ∧ s1 ≤ 36) (b2 : 0 ≤ s2 ∧ s2 ≤ 40) (b3 : 0 ≤ s3 ∧ s3 ≤ 40) (b4 : 0 ≤ s4 ∧ s4 ≤ 12) (b5 : 0 ≤ s5 ∧ s5 ≤ 12) (b6 : 0 ≤ s6 ∧ s6 ≤ 63) (b7 : 0 ≤ s7 ∧ s7 ≤ 36) (m0 : HP 184 (0 : Int) (0 : Int) M) (m1 : (0 ≤ (7 : Int) ∧ M 12 (7 : Int).toNat = (s4))) (m2 : HP 194 (s0 + 64 * s1) (s2 + 64 * s4) M) (m3 : (0 ≤ (1 : Int) ∧ M 65 (1 : Int).toNat = (s5))) (m4 : HP 196 (s6 + 64 * s7) (s3 + 64 * s5) M) (f0 : 0 ≤ ((-1) * s4 + s5)) (f1 : 0 ≤ (s4 + (-1) * s5)) (f2 : 0 ≤ ((-1) * s0 + s6)) (f3 : 0 ≤ (s0 + (-1) * s6)) (f4 : 0 ≤ ((-1) * s1 + s7)) (f5 : 0 ≤ (s1 + (-1) * s7)) (hG : gI M) : (0 ≤ (s2 + (-1) * s3) ∧ True) := by
  have hE := Eq.mp hp_184 m0
  have hW : M 12 7 = s4 := m1.2
  have hW : M (3 + 9 * 1) 7 = s4 := hW
  obtain ⟨c, mm, k, h, ⟨p1, p2, p3⟩, p4, p5, p6, p7⟩ := Eq.mp hp_194 m2
  have ec : c = s0.toNat := by omega
  have em : mm = s1.toNat := by omega
  have ek : k = s4.toNat := by omega
  have eh : h = s2.toNat := by omega
  subst ec
  subst em
  subst ek
  subst eh
  obtain ⟨c, mm, k, H, ⟨q1, q2, q3⟩, q4, q5, q6⟩ := Eq.mp hp_196 m4
  have ec : c = s0.toNat := by omega
  have em : mm = s1.toNat := by omega
  have ek : k = s4.toNat := by omega
  have eh : H = s3.toNat := by omega
  subst ec
  subst em
  subst ek
  subst eh
  have hh : s3 ≤ s2 := by
    rcases p7 with p7 | ⟨w, w1, ⟨w2, w3, w4⟩, w5⟩
    · omega
    · obtain ⟨t0, t1, t2, t3⟩ := eq_wa (b := 1) hE (i := w) (by omega) (by omega)
      have w2 : M (8 + 9 * 1) (4 * w) = (s0.toNat : Int) := w2
      have w3 : M (8 + 9 * 1) (4 * w + 2) ≤ (s1.toNat : Int) := w3
      have w4 : (s1.toNat : Int) < M (8 + 9 * 1) (4 * w + 3) := w4
      have w5 : M (8 + 9 * 1) (4 * w + 1) = (s2.toNat : Int) := w5
      refine Decidable.byContradiction (fun hn => q6 w w1 ⟨?_, ?_, ?_, ?_⟩)
      · show M 74 (12 * 1 + w) = (s0.toNat : Int); rw [← t0]; exact w2
      · show M 75 (12 * 1 + w) < (s3.toNat : Int); rw [← t1, w5]; omega
      · show M 76 (12 * 1 + w) ≤ (s1.toNat : Int); rw [← t2]; exact w3
      · show (s1.toNat : Int) < M 77 (12 * 1 + w); rw [← t3]; exact w4
  exact ⟨by omega, trivial⟩
theorem rul_831 : Rul r_831 := by
  refine ⟨fun _ ρ M hm hB hF hG => ?_, fun gi gv hg => (by cases hg)⟩
  have H := cr_831 M (ρ 0) (ρ 1) (ρ 2) (ρ 3) (ρ 4) (ρ 5) (ρ 6) (ρ 7) (hB _ List.mem_cons_self) (hB _ (List.mem_cons_of_mem _ List.mem_cons_self)) (hB _ (List.mem_cons_of_mem _ (List.mem_cons_of_mem _ List.mem_cons_self))) (hB _ (List.mem_cons_of_mem _ (List.mem_cons_of_mem _ (List.mem_cons_of_mem _ List.mem_cons_self)))) (hB _ (List.mem_cons_of_mem _ (List.mem_cons_of_mem _ (List.mem_cons_of_mem _ (List.mem_cons_of_mem _ List.mem_cons_self))))) (hB _ (List.mem_cons_of_mem _ (List.mem_cons_of_mem _ (List.mem_cons_of_mem _ (List.mem_cons_of_mem _ (List.mem_cons_of_mem _ List.mem_cons_self)))))) (hB _ (List.mem_cons_of_mem _ (List.mem_cons_of_mem _ (List.mem_cons_of_mem _ (List.mem_cons_of_mem _ (List.mem_cons_of_mem _ (List.mem_cons_of_mem _ List.mem_cons_self))))))) (hB _ (List.mem_cons_of_mem _ (List.mem_cons_of_mem _ (List.mem_cons_of_mem _ (List.mem_cons_of_mem _ (List.mem_cons_of_mem _ (List.mem_cons_of_mem _ (List.mem_cons_of_mem _ List.mem_cons_self)))))))) (cvp 184 (x' := (0 : Int)) (y' := (0 : Int)) (by show 0 + 0 = _; omega) (by show 0 + 0 = _; omega) (hm _ List.mem_cons_self)) (cvm (c := 12) (by decide) (x' := (7 : Int)) (y' := ((ρ 4))) (by show 7 + 0 = _; omega) (by show 0 + (1 * ρ 4 + 0) = _; omega) (hm _ (List.mem_cons_of_mem _ List.mem_cons_self))) (cvp 194 (x' := ((ρ 0) + 64 * (ρ 1))) (y' := ((ρ 2) + 64 * (ρ 4))) (by show 0 + (1 * ρ 0 + (64 * ρ 1 + 0)) = _; omega) (by show 0 + (1 * ρ 2 + (64 * ρ 4 + 0)) = _; omega) (hm _ (List.mem_cons_of_mem _ (List.mem_cons_of_mem _ List.mem_cons_self)))) (cvm (c := 65) (by decide) (x' := (1 : Int)) (y' := ((ρ 5))) (by show 1 + 0 = _; omega) (by show 0 + (1 * ρ 5 + 0) = _; omega) (hm _ (List.mem_cons_of_mem _ (List.mem_cons_of_mem _ (List.mem_cons_of_mem _ List.mem_cons_self))))) (cvp 196 (x' := ((ρ 6) + 64 * (ρ 7))) (y' := ((ρ 3) + 64 * (ρ 5))) (by show 0 + (1 * ρ 6 + (64 * ρ 7 + 0)) = _; omega) (by show 0 + (1 * ρ 3 + (64 * ρ 5 + 0)) = _; omega) (hm _ (List.mem_cons_of_mem _ (List.mem_cons_of_mem _ (List.mem_cons_of_mem _ (List.mem_cons_of_mem _ List.mem_cons_self)))))) (by have h := hF _ List.mem_cons_self; have h : 0 ≤ 0 + ((-1) * ρ 4 + (1 * ρ 5 + 0)) := h; omega) (by have h := hF _ (List.mem_cons_of_mem _ List.mem_cons_self); have h : 0 ≤ 0 + (1 * ρ 4 + ((-1) * ρ 5 + 0)) := h; omega) (by have h := hF _ (List.mem_cons_of_mem _ (List.mem_cons_of_mem _ List.mem_cons_self)); have h : 0 ≤ 0 + ((-1) * ρ 0 + (1 * ρ 6 + 0)) := h; omega) (by have h := hF _ (List.mem_cons_of_mem _ (List.mem_cons_of_mem _ (List.mem_cons_of_mem _ List.mem_cons_self))); have h : 0 ≤ 0 + (1 * ρ 0 + ((-1) * ρ 6 + 0)) := h; omega) (by have h := hF _ (List.mem_cons_of_mem _ (List.mem_cons_of_mem _ (List.mem_cons_of_mem _ (List.mem_cons_of_mem _ List.mem_cons_self)))); have h : 0 ≤ 0 + ((-1) * ρ 1 + (1 * ρ 7 + 0)) := h; omega) (by have h := hF _ (List.mem_cons_of_mem _ (List.mem_cons_of_mem _ (List.mem_cons_of_mem _ (List.mem_cons_of_mem _ (List.mem_cons_of_mem _ List.mem_cons_self))))); have h : 0 ≤ 0 + (1 * ρ 1 + ((-1) * ρ 7 + 0)) := h; omega) hG
  obtain ⟨f0, -⟩ := H
  exact ⟨_, List.mem_cons_self, ρ, fun _ _ => rfl, okM_n, okB_n, (okF_c (by show 0 ≤ 0 + (1 * ρ 2 + ((-1) * ρ 3 + 0)); omega) okF_n)⟩
-- sh2_1
theorem cr_832 (M : pM) (s0 s1 s2 s3 s4 s5 s6 s7 s8 : Int) (b0 : 0 ≤ s0 ∧ s0 ≤ 63) (b1 : 0 ≤ s1 ∧ s1 ≤ 36) (b2 : 0 ≤ s2 ∧ s2 ≤ 40) (b3 : 0 ≤ s3 ∧ s3 ≤ 12) (b4 : 0 ≤ s4 ∧ s4 ≤ 11) (b5 : (-2147483648) ≤ s5 ∧ s5 ≤ 2147483647) (b6 : (-2147483648) ≤ s6 ∧ s6 ≤ 2147483647) (b7 : (-2147483648) ≤ s7 ∧ s7 ≤ 2147483647) (b8 : (-2147483648) ≤ s8 ∧ s8 ≤ 2147483647) (m0 : HP 184 (0 : Int) (0 : Int) M) (m1 : (0 ≤ (7 : Int) ∧ M 12 (7 : Int).toNat = (s3))) (m2 : HP 194 (s0 + 64 * s1) (s2 + 64 * s3) M) (m3 : (0 ≤ (s4 + 12) ∧ M 74 (s4 + 12).toNat = (s8))) (m4 : (0 ≤ (s4 + 12) ∧ M 75 (s4 + 12).toNat = (s5))) (m5 : (0 ≤ (s4 + 12) ∧ M 76 (s4 + 12).toNat = (s6))) (m6 : (0 ≤ (s4 + 12) ∧ M 77 (s4 + 12).toNat = (s7))) (f0 : 0 ≤ (s0 + (-1) * s8)) (f1 : 0 ≤ ((-1) * s0 + s8)) (f2 : 0 ≤ (s3 + (-1) * s4 - 1)) (f3 : 0 ≤ (s1 + (-1) * s6)) (f4 : 0 ≤ ((-1) * s1 + s7 - 1)) (hG : gI M) : (0 ≤ ((-1) * s2 + s5) ∧ True) := by
  have hE := Eq.mp hp_184 m0
  have hW : M 12 7 = s3 := m1.2
  have hW : M (3 + 9 * 1) 7 = s3 := hW
  obtain ⟨c, mm, k, h, ⟨p1, p2, p3⟩, p4, p5, p6, p7⟩ := Eq.mp hp_194 m2
  have ec : c = s0.toNat := by omega
  have em : mm = s1.toNat := by omega
  have ek : k = s3.toNat := by omega
  have eh : h = s2.toNat := by omega
  subst ec
  subst em
  subst ek
  subst eh
  obtain ⟨t0, t1, t2, t3⟩ := eq_wa (b := 1) hE (i := s4.toNat) (by omega) (by omega)
  have r0 := m3.2
  rw [show (s4 + 12).toNat = 12 * 1 + s4.toNat by omega] at r0
  have r1 := m4.2
  rw [show (s4 + 12).toNat = 12 * 1 + s4.toNat by omega] at r1
  have r2 := m5.2
  rw [show (s4 + 12).toNat = 12 * 1 + s4.toNat by omega] at r2
  have r3 := m6.2
  rw [show (s4 + 12).toNat = 12 * 1 + s4.toNat by omega] at r3
  have hh : qhs (M (8 + 9 * 1)) (s0.toNat : Int) (s1.toNat : Int) s4.toNat := ⟨by show M (8 + 9 * 1) (4 * s4.toNat) = (s0.toNat : Int); rw [t0, r0]; omega, by show M (8 + 9 * 1) (4 * s4.toNat + 2) ≤ (s1.toNat : Int); rw [t2, r2]; omega, by show (s1.toNat : Int) < M (8 + 9 * 1) (4 * s4.toNat + 3); rw [t3, r3]; omega⟩
  have this : (s2.toNat : Int) ≤ M (8 + 9 * 1) (4 * s4.toNat + 1) := p6 s4.toNat (by omega) hh
  rw [t1, r1] at this
  exact ⟨by omega, trivial⟩
theorem rul_832 : Rul r_832 := by
  refine ⟨fun _ ρ M hm hB hF hG => ?_, fun gi gv hg => (by cases hg)⟩
  have H := cr_832 M (ρ 0) (ρ 1) (ρ 2) (ρ 3) (ρ 4) (ρ 5) (ρ 6) (ρ 7) (ρ 8) (hB _ List.mem_cons_self) (hB _ (List.mem_cons_of_mem _ List.mem_cons_self)) (hB _ (List.mem_cons_of_mem _ (List.mem_cons_of_mem _ List.mem_cons_self))) (hB _ (List.mem_cons_of_mem _ (List.mem_cons_of_mem _ (List.mem_cons_of_mem _ List.mem_cons_self)))) (hB _ (List.mem_cons_of_mem _ (List.mem_cons_of_mem _ (List.mem_cons_of_mem _ (List.mem_cons_of_mem _ List.mem_cons_self))))) (hB _ (List.mem_cons_of_mem _ (List.mem_cons_of_mem _ (List.mem_cons_of_mem _ (List.mem_cons_of_mem _ (List.mem_cons_of_mem _ List.mem_cons_self)))))) (hB _ (List.mem_cons_of_mem _ (List.mem_cons_of_mem _ (List.mem_cons_of_mem _ (List.mem_cons_of_mem _ (List.mem_cons_of_mem _ (List.mem_cons_of_mem _ List.mem_cons_self))))))) (hB _ (List.mem_cons_of_mem _ (List.mem_cons_of_mem _ (List.mem_cons_of_mem _ (List.mem_cons_of_mem _ (List.mem_cons_of_mem _ (List.mem_cons_of_mem _ (List.mem_cons_of_mem _ List.mem_cons_self)))))))) (hB _ (List.mem_cons_of_mem _ (List.mem_cons_of_mem _ (List.mem_cons_of_mem _ (List.mem_cons_of_mem _ (List.mem_cons_of_mem _ (List.mem_cons_of_mem _ (List.mem_cons_of_mem _ (List.mem_cons_of_mem _ List.mem_cons_self))))))))) (cvp 184 (x' := (0 : Int)) (y' := (0 : Int)) (by show 0 + 0 = _; omega) (by show 0 + 0 = _; omega) (hm _ List.mem_cons_self)) (cvm (c := 12) (by decide) (x' := (7 : Int)) (y' := ((ρ 3))) (by show 7 + 0 = _; omega) (by show 0 + (1 * ρ 3 + 0) = _; omega) (hm _ (List.mem_cons_of_mem _ List.mem_cons_self))) (cvp 194 (x' := ((ρ 0) + 64 * (ρ 1))) (y' := ((ρ 2) + 64 * (ρ 3))) (by show 0 + (1 * ρ 0 + (64 * ρ 1 + 0)) = _; omega) (by show 0 + (1 * ρ 2 + (64 * ρ 3 + 0)) = _; omega) (hm _ (List.mem_cons_of_mem _ (List.mem_cons_of_mem _ List.mem_cons_self)))) (cvm (c := 74) (by decide) (x' := ((ρ 4) + 12)) (y' := ((ρ 8))) (by show 12 + (1 * ρ 4 + 0) = _; omega) (by show 0 + (1 * ρ 8 + 0) = _; omega) (hm _ (List.mem_cons_of_mem _ (List.mem_cons_of_mem _ (List.mem_cons_of_mem _ List.mem_cons_self))))) (cvm (c := 75) (by decide) (x' := ((ρ 4) + 12)) (y' := ((ρ 5))) (by show 12 + (1 * ρ 4 + 0) = _; omega) (by show 0 + (1 * ρ 5 + 0) = _; omega) (hm _ (List.mem_cons_of_mem _ (List.mem_cons_of_mem _ (List.mem_cons_of_mem _ (List.mem_cons_of_mem _ List.mem_cons_self)))))) (cvm (c := 76) (by decide) (x' := ((ρ 4) + 12)) (y' := ((ρ 6))) (by show 12 + (1 * ρ 4 + 0) = _; omega) (by show 0 + (1 * ρ 6 + 0) = _; omega) (hm _ (List.mem_cons_of_mem _ (List.mem_cons_of_mem _ (List.mem_cons_of_mem _ (List.mem_cons_of_mem _ (List.mem_cons_of_mem _ List.mem_cons_self))))))) (cvm (c := 77) (by decide) (x' := ((ρ 4) + 12)) (y' := ((ρ 7))) (by show 12 + (1 * ρ 4 + 0) = _; omega) (by show 0 + (1 * ρ 7 + 0) = _; omega) (hm _ (List.mem_cons_of_mem _ (List.mem_cons_of_mem _ (List.mem_cons_of_mem _ (List.mem_cons_of_mem _ (List.mem_cons_of_mem _ (List.mem_cons_of_mem _ List.mem_cons_self)))))))) (by have h := hF _ List.mem_cons_self; have h : 0 ≤ 0 + (1 * ρ 0 + ((-1) * ρ 8 + 0)) := h; omega) (by have h := hF _ (List.mem_cons_of_mem _ List.mem_cons_self); have h : 0 ≤ 0 + ((-1) * ρ 0 + (1 * ρ 8 + 0)) := h; omega) (by have h := hF _ (List.mem_cons_of_mem _ (List.mem_cons_of_mem _ List.mem_cons_self)); have h : 0 ≤ (-1) + (1 * ρ 3 + ((-1) * ρ 4 + 0)) := h; omega) (by have h := hF _ (List.mem_cons_of_mem _ (List.mem_cons_of_mem _ (List.mem_cons_of_mem _ List.mem_cons_self))); have h : 0 ≤ 0 + (1 * ρ 1 + ((-1) * ρ 6 + 0)) := h; omega) (by have h := hF _ (List.mem_cons_of_mem _ (List.mem_cons_of_mem _ (List.mem_cons_of_mem _ (List.mem_cons_of_mem _ List.mem_cons_self)))); have h : 0 ≤ (-1) + ((-1) * ρ 1 + (1 * ρ 7 + 0)) := h; omega) hG
  obtain ⟨f0, -⟩ := H
  exact ⟨_, List.mem_cons_self, ρ, fun _ _ => rfl, okM_n, okB_n, (okF_c (by show 0 ≤ 0 + ((-1) * ρ 2 + (1 * ρ 5 + 0)); omega) okF_n)⟩
-- tq0
theorem cr_833 (M : pM)  (hG : gI M) : (HP 197 (0 : Int) (0 : Int) M ∧ True) := by
  exact ⟨Eq.mpr hp_197 ⟨0, 0, by omega, by omega, by omega, ⟨fun j hj => absurd hj (Nat.not_lt_zero j), fun j hj => absurd hj (Nat.not_lt_zero j)⟩⟩, trivial⟩
theorem rul_833 : Rul r_833 := by
  refine ⟨fun _ ρ M hm hB hF hG => ?_, fun gi gv hg => (by cases hg)⟩
  have H := cr_833 M hG
  obtain ⟨k0, -⟩ := H
  exact ⟨_, List.mem_cons_self, ρ, fun _ _ => rfl, (okM_c (pvp 197 (by show 0 + 0 = _; omega) (by show 0 + 0 = _; omega) k0) okM_n), okB_n, okF_n⟩
-- tqw42
theorem cr_834 (M : pM) (s0 s1 s2 s3 : Int) (b0 : 0 ≤ s0 ∧ s0 ≤ 8) (b1 : 0 ≤ s1 ∧ s1 ≤ 200) (b2 : 0 ≤ s2 ∧ s2 ≤ 199) (b3 : (-2147483648) ≤ s3 ∧ s3 ≤ 2147483647) (m0 : HP 197 (256 * s0 + s1) (0 : Int) M) (f0 : 0 ≤ ((-1) * s1 + s2)) (hG : gI M) : (HP 197 (256 * s0 + s1) (0 : Int) (st M 42 (s2).toNat (s3)) ∧ True) := by
  have hq := tq_o (P := s0.toNat) (F := s1.toNat) m0 ⟨by omega, by omega⟩
  exact ⟨Eq.mpr hp_197 ⟨s0.toNat, s1.toNat, by omega, by omega, by omega, qtr_st (fun h => by omega) (fun h => by omega) hq⟩, trivial⟩
theorem rul_834 : Rul r_834 := by
  refine ⟨fun h => (by cases h), fun gi gv hg ρ M hm hB hF hG => ?_⟩
  obtain ⟨g1, g2⟩ := List.cons.inj (show ([aI ((0 : Int), ([(2, 1)] : List (Nat × Int))), aI ((0 : Int), ([(3, 1)] : List (Nat × Int)))] : List av) = [.inl gi, .inl gv] from hg)
  obtain ⟨g2, -⟩ := List.cons.inj g2
  cases g1
  cases g2
  have ei : ev ρ ((0 : Int), ([(2, 1)] : List (Nat × Int))) = ((ρ 2)) := by show 0 + (1 * ρ 2 + 0) = _; omega
  have ew : ev ρ ((0 : Int), ([(3, 1)] : List (Nat × Int))) = ((ρ 3)) := by show 0 + (1 * ρ 3 + 0) = _; omega
  rw [show (st M (ctj r_834) (ev ρ ((0 : Int), ([(2, 1)] : List (Nat × Int)))).toNat (ev ρ ((0 : Int), ([(3, 1)] : List (Nat × Int))))) = (st M 42 ((ρ 2)).toNat ((ρ 3))) from by rw [ei, ew]; rfl]
  have H := cr_834 M (ρ 0) (ρ 1) (ρ 2) (ρ 3) (hB _ List.mem_cons_self) (hB _ (List.mem_cons_of_mem _ List.mem_cons_self)) (hB _ (List.mem_cons_of_mem _ (List.mem_cons_of_mem _ List.mem_cons_self))) (hB _ (List.mem_cons_of_mem _ (List.mem_cons_of_mem _ (List.mem_cons_of_mem _ List.mem_cons_self)))) (cvp 197 (x' := (256 * (ρ 0) + (ρ 1))) (y' := (0 : Int)) (by show 0 + (256 * ρ 0 + (1 * ρ 1 + 0)) = _; omega) (by show 0 + 0 = _; omega) (hm _ List.mem_cons_self)) (by have h := hF _ List.mem_cons_self; have h : 0 ≤ 0 + ((-1) * ρ 1 + (1 * ρ 2 + 0)) := h; omega) hG
  obtain ⟨k0, -⟩ := H
  exact ⟨_, List.mem_cons_self, ρ, fun _ _ => rfl, (okM_c (pvp 197 (by show 0 + (256 * ρ 0 + (1 * ρ 1 + 0)) = _; omega) (by show 0 + 0 = _; omega) k0) okM_n), okB_n, okF_n⟩
-- tqw43
theorem cr_835 (M : pM) (s0 s1 s2 s3 : Int) (b0 : 0 ≤ s0 ∧ s0 ≤ 8) (b1 : 0 ≤ s1 ∧ s1 ≤ 200) (b2 : 0 ≤ s2 ∧ s2 ≤ 199) (b3 : (-2147483648) ≤ s3 ∧ s3 ≤ 2147483647) (m0 : HP 197 (256 * s0 + s1) (0 : Int) M) (f0 : 0 ≤ ((-1) * s1 + s2)) (hG : gI M) : (HP 197 (256 * s0 + s1) (0 : Int) (st M 43 (s2).toNat (s3)) ∧ True) := by
  have hq := tq_o (P := s0.toNat) (F := s1.toNat) m0 ⟨by omega, by omega⟩
  exact ⟨Eq.mpr hp_197 ⟨s0.toNat, s1.toNat, by omega, by omega, by omega, qtr_st (fun h => by omega) (fun h => by omega) hq⟩, trivial⟩
theorem rul_835 : Rul r_835 := by
  refine ⟨fun h => (by cases h), fun gi gv hg ρ M hm hB hF hG => ?_⟩
  obtain ⟨g1, g2⟩ := List.cons.inj (show ([aI ((0 : Int), ([(2, 1)] : List (Nat × Int))), aI ((0 : Int), ([(3, 1)] : List (Nat × Int)))] : List av) = [.inl gi, .inl gv] from hg)
  obtain ⟨g2, -⟩ := List.cons.inj g2
  cases g1
  cases g2
  have ei : ev ρ ((0 : Int), ([(2, 1)] : List (Nat × Int))) = ((ρ 2)) := by show 0 + (1 * ρ 2 + 0) = _; omega
  have ew : ev ρ ((0 : Int), ([(3, 1)] : List (Nat × Int))) = ((ρ 3)) := by show 0 + (1 * ρ 3 + 0) = _; omega
  rw [show (st M (ctj r_835) (ev ρ ((0 : Int), ([(2, 1)] : List (Nat × Int)))).toNat (ev ρ ((0 : Int), ([(3, 1)] : List (Nat × Int))))) = (st M 43 ((ρ 2)).toNat ((ρ 3))) from by rw [ei, ew]; rfl]
  have H := cr_835 M (ρ 0) (ρ 1) (ρ 2) (ρ 3) (hB _ List.mem_cons_self) (hB _ (List.mem_cons_of_mem _ List.mem_cons_self)) (hB _ (List.mem_cons_of_mem _ (List.mem_cons_of_mem _ List.mem_cons_self))) (hB _ (List.mem_cons_of_mem _ (List.mem_cons_of_mem _ (List.mem_cons_of_mem _ List.mem_cons_self)))) (cvp 197 (x' := (256 * (ρ 0) + (ρ 1))) (y' := (0 : Int)) (by show 0 + (256 * ρ 0 + (1 * ρ 1 + 0)) = _; omega) (by show 0 + 0 = _; omega) (hm _ List.mem_cons_self)) (by have h := hF _ List.mem_cons_self; have h : 0 ≤ 0 + ((-1) * ρ 1 + (1 * ρ 2 + 0)) := h; omega) hG
  obtain ⟨k0, -⟩ := H
  exact ⟨_, List.mem_cons_self, ρ, fun _ _ => rfl, (okM_c (pvp 197 (by show 0 + (256 * ρ 0 + (1 * ρ 1 + 0)) = _; omega) (by show 0 + 0 = _; omega) k0) okM_n), okB_n, okF_n⟩
-- tqw44
theorem cr_836 (M : pM) (s0 s1 s2 s3 : Int) (b0 : 0 ≤ s0 ∧ s0 ≤ 8) (b1 : 0 ≤ s1 ∧ s1 ≤ 200) (b2 : 0 ≤ s2 ∧ s2 ≤ 199) (b3 : (-2147483648) ≤ s3 ∧ s3 ≤ 2147483647) (m0 : HP 197 (256 * s0 + s1) (0 : Int) M) (f0 : 0 ≤ ((-1) * s1 + s2)) (hG : gI M) : (HP 197 (256 * s0 + s1) (0 : Int) (st M 44 (s2).toNat (s3)) ∧ True) := by
  have hq := tq_o (P := s0.toNat) (F := s1.toNat) m0 ⟨by omega, by omega⟩
  exact ⟨Eq.mpr hp_197 ⟨s0.toNat, s1.toNat, by omega, by omega, by omega, qtr_st (fun h => by omega) (fun h => by omega) hq⟩, trivial⟩
theorem rul_836 : Rul r_836 := by
  refine ⟨fun h => (by cases h), fun gi gv hg ρ M hm hB hF hG => ?_⟩
  obtain ⟨g1, g2⟩ := List.cons.inj (show ([aI ((0 : Int), ([(2, 1)] : List (Nat × Int))), aI ((0 : Int), ([(3, 1)] : List (Nat × Int)))] : List av) = [.inl gi, .inl gv] from hg)
  obtain ⟨g2, -⟩ := List.cons.inj g2
  cases g1
  cases g2
  have ei : ev ρ ((0 : Int), ([(2, 1)] : List (Nat × Int))) = ((ρ 2)) := by show 0 + (1 * ρ 2 + 0) = _; omega
  have ew : ev ρ ((0 : Int), ([(3, 1)] : List (Nat × Int))) = ((ρ 3)) := by show 0 + (1 * ρ 3 + 0) = _; omega
  rw [show (st M (ctj r_836) (ev ρ ((0 : Int), ([(2, 1)] : List (Nat × Int)))).toNat (ev ρ ((0 : Int), ([(3, 1)] : List (Nat × Int))))) = (st M 44 ((ρ 2)).toNat ((ρ 3))) from by rw [ei, ew]; rfl]
  have H := cr_836 M (ρ 0) (ρ 1) (ρ 2) (ρ 3) (hB _ List.mem_cons_self) (hB _ (List.mem_cons_of_mem _ List.mem_cons_self)) (hB _ (List.mem_cons_of_mem _ (List.mem_cons_of_mem _ List.mem_cons_self))) (hB _ (List.mem_cons_of_mem _ (List.mem_cons_of_mem _ (List.mem_cons_of_mem _ List.mem_cons_self)))) (cvp 197 (x' := (256 * (ρ 0) + (ρ 1))) (y' := (0 : Int)) (by show 0 + (256 * ρ 0 + (1 * ρ 1 + 0)) = _; omega) (by show 0 + 0 = _; omega) (hm _ List.mem_cons_self)) (by have h := hF _ List.mem_cons_self; have h : 0 ≤ 0 + ((-1) * ρ 1 + (1 * ρ 2 + 0)) := h; omega) hG
  obtain ⟨k0, -⟩ := H
  exact ⟨_, List.mem_cons_self, ρ, fun _ _ => rfl, (okM_c (pvp 197 (by show 0 + (256 * ρ 0 + (1 * ρ 1 + 0)) = _; omega) (by show 0 + 0 = _; omega) k0) okM_n), okB_n, okF_n⟩
-- tqw45
theorem cr_837 (M : pM) (s0 s1 s2 s3 : Int) (b0 : 0 ≤ s0 ∧ s0 ≤ 8) (b1 : 0 ≤ s1 ∧ s1 ≤ 200) (b2 : 0 ≤ s2 ∧ s2 ≤ 199) (b3 : (-2147483648) ≤ s3 ∧ s3 ≤ 2147483647) (m0 : HP 197 (256 * s0 + s1) (0 : Int) M) (f0 : 0 ≤ ((-1) * s1 + s2)) (hG : gI M) : (HP 197 (256 * s0 + s1) (0 : Int) (st M 45 (s2).toNat (s3)) ∧ True) := by
  have hq := tq_o (P := s0.toNat) (F := s1.toNat) m0 ⟨by omega, by omega⟩
  exact ⟨Eq.mpr hp_197 ⟨s0.toNat, s1.toNat, by omega, by omega, by omega, qtr_st (fun h => by omega) (fun h => by omega) hq⟩, trivial⟩
theorem rul_837 : Rul r_837 := by
  refine ⟨fun h => (by cases h), fun gi gv hg ρ M hm hB hF hG => ?_⟩
  obtain ⟨g1, g2⟩ := List.cons.inj (show ([aI ((0 : Int), ([(2, 1)] : List (Nat × Int))), aI ((0 : Int), ([(3, 1)] : List (Nat × Int)))] : List av) = [.inl gi, .inl gv] from hg)
  obtain ⟨g2, -⟩ := List.cons.inj g2
  cases g1
  cases g2
  have ei : ev ρ ((0 : Int), ([(2, 1)] : List (Nat × Int))) = ((ρ 2)) := by show 0 + (1 * ρ 2 + 0) = _; omega
  have ew : ev ρ ((0 : Int), ([(3, 1)] : List (Nat × Int))) = ((ρ 3)) := by show 0 + (1 * ρ 3 + 0) = _; omega
  rw [show (st M (ctj r_837) (ev ρ ((0 : Int), ([(2, 1)] : List (Nat × Int)))).toNat (ev ρ ((0 : Int), ([(3, 1)] : List (Nat × Int))))) = (st M 45 ((ρ 2)).toNat ((ρ 3))) from by rw [ei, ew]; rfl]
  have H := cr_837 M (ρ 0) (ρ 1) (ρ 2) (ρ 3) (hB _ List.mem_cons_self) (hB _ (List.mem_cons_of_mem _ List.mem_cons_self)) (hB _ (List.mem_cons_of_mem _ (List.mem_cons_of_mem _ List.mem_cons_self))) (hB _ (List.mem_cons_of_mem _ (List.mem_cons_of_mem _ (List.mem_cons_of_mem _ List.mem_cons_self)))) (cvp 197 (x' := (256 * (ρ 0) + (ρ 1))) (y' := (0 : Int)) (by show 0 + (256 * ρ 0 + (1 * ρ 1 + 0)) = _; omega) (by show 0 + 0 = _; omega) (hm _ List.mem_cons_self)) (by have h := hF _ List.mem_cons_self; have h : 0 ≤ 0 + ((-1) * ρ 1 + (1 * ρ 2 + 0)) := h; omega) hG
  obtain ⟨k0, -⟩ := H
  exact ⟨_, List.mem_cons_self, ρ, fun _ _ => rfl, (okM_c (pvp 197 (by show 0 + (256 * ρ 0 + (1 * ρ 1 + 0)) = _; omega) (by show 0 + 0 = _; omega) k0) okM_n), okB_n, okF_n⟩
-- tqw46
theorem cr_838 (M : pM) (s0 s1 s2 s3 : Int) (b0 : 0 ≤ s0 ∧ s0 ≤ 8) (b1 : 0 ≤ s1 ∧ s1 ≤ 200) (b2 : 0 ≤ s2 ∧ s2 ≤ 199) (b3 : (-2147483648) ≤ s3 ∧ s3 ≤ 2147483647) (m0 : HP 197 (256 * s0 + s1) (0 : Int) M) (f0 : 0 ≤ ((-1) * s1 + s2)) (hG : gI M) : (HP 197 (256 * s0 + s1) (0 : Int) (st M 46 (s2).toNat (s3)) ∧ True) := by
  have hq := tq_o (P := s0.toNat) (F := s1.toNat) m0 ⟨by omega, by omega⟩
  exact ⟨Eq.mpr hp_197 ⟨s0.toNat, s1.toNat, by omega, by omega, by omega, qtr_st (fun h => by omega) (fun h => by omega) hq⟩, trivial⟩
theorem rul_838 : Rul r_838 := by
  refine ⟨fun h => (by cases h), fun gi gv hg ρ M hm hB hF hG => ?_⟩
  obtain ⟨g1, g2⟩ := List.cons.inj (show ([aI ((0 : Int), ([(2, 1)] : List (Nat × Int))), aI ((0 : Int), ([(3, 1)] : List (Nat × Int)))] : List av) = [.inl gi, .inl gv] from hg)
  obtain ⟨g2, -⟩ := List.cons.inj g2
  cases g1
  cases g2
  have ei : ev ρ ((0 : Int), ([(2, 1)] : List (Nat × Int))) = ((ρ 2)) := by show 0 + (1 * ρ 2 + 0) = _; omega
  have ew : ev ρ ((0 : Int), ([(3, 1)] : List (Nat × Int))) = ((ρ 3)) := by show 0 + (1 * ρ 3 + 0) = _; omega
  rw [show (st M (ctj r_838) (ev ρ ((0 : Int), ([(2, 1)] : List (Nat × Int)))).toNat (ev ρ ((0 : Int), ([(3, 1)] : List (Nat × Int))))) = (st M 46 ((ρ 2)).toNat ((ρ 3))) from by rw [ei, ew]; rfl]
  have H := cr_838 M (ρ 0) (ρ 1) (ρ 2) (ρ 3) (hB _ List.mem_cons_self) (hB _ (List.mem_cons_of_mem _ List.mem_cons_self)) (hB _ (List.mem_cons_of_mem _ (List.mem_cons_of_mem _ List.mem_cons_self))) (hB _ (List.mem_cons_of_mem _ (List.mem_cons_of_mem _ (List.mem_cons_of_mem _ List.mem_cons_self)))) (cvp 197 (x' := (256 * (ρ 0) + (ρ 1))) (y' := (0 : Int)) (by show 0 + (256 * ρ 0 + (1 * ρ 1 + 0)) = _; omega) (by show 0 + 0 = _; omega) (hm _ List.mem_cons_self)) (by have h := hF _ List.mem_cons_self; have h : 0 ≤ 0 + ((-1) * ρ 1 + (1 * ρ 2 + 0)) := h; omega) hG
  obtain ⟨k0, -⟩ := H
  exact ⟨_, List.mem_cons_self, ρ, fun _ _ => rfl, (okM_c (pvp 197 (by show 0 + (256 * ρ 0 + (1 * ρ 1 + 0)) = _; omega) (by show 0 + 0 = _; omega) k0) okM_n), okB_n, okF_n⟩
-- tqw47
theorem cr_839 (M : pM) (s0 s1 s2 s3 : Int) (b0 : 0 ≤ s0 ∧ s0 ≤ 8) (b1 : 0 ≤ s1 ∧ s1 ≤ 200) (b2 : 0 ≤ s2 ∧ s2 ≤ 199) (b3 : (-2147483648) ≤ s3 ∧ s3 ≤ 2147483647) (m0 : HP 197 (256 * s0 + s1) (0 : Int) M) (f0 : 0 ≤ ((-1) * s1 + s2)) (hG : gI M) : (HP 197 (256 * s0 + s1) (0 : Int) (st M 47 (s2).toNat (s3)) ∧ True) := by
  have hq := tq_o (P := s0.toNat) (F := s1.toNat) m0 ⟨by omega, by omega⟩
  exact ⟨Eq.mpr hp_197 ⟨s0.toNat, s1.toNat, by omega, by omega, by omega, qtr_st (fun h => by omega) (fun h => by omega) hq⟩, trivial⟩
theorem rul_839 : Rul r_839 := by
  refine ⟨fun h => (by cases h), fun gi gv hg ρ M hm hB hF hG => ?_⟩
  obtain ⟨g1, g2⟩ := List.cons.inj (show ([aI ((0 : Int), ([(2, 1)] : List (Nat × Int))), aI ((0 : Int), ([(3, 1)] : List (Nat × Int)))] : List av) = [.inl gi, .inl gv] from hg)
  obtain ⟨g2, -⟩ := List.cons.inj g2
  cases g1
  cases g2
  have ei : ev ρ ((0 : Int), ([(2, 1)] : List (Nat × Int))) = ((ρ 2)) := by show 0 + (1 * ρ 2 + 0) = _; omega
  have ew : ev ρ ((0 : Int), ([(3, 1)] : List (Nat × Int))) = ((ρ 3)) := by show 0 + (1 * ρ 3 + 0) = _; omega
  rw [show (st M (ctj r_839) (ev ρ ((0 : Int), ([(2, 1)] : List (Nat × Int)))).toNat (ev ρ ((0 : Int), ([(3, 1)] : List (Nat × Int))))) = (st M 47 ((ρ 2)).toNat ((ρ 3))) from by rw [ei, ew]; rfl]
  have H := cr_839 M (ρ 0) (ρ 1) (ρ 2) (ρ 3) (hB _ List.mem_cons_self) (hB _ (List.mem_cons_of_mem _ List.mem_cons_self)) (hB _ (List.mem_cons_of_mem _ (List.mem_cons_of_mem _ List.mem_cons_self))) (hB _ (List.mem_cons_of_mem _ (List.mem_cons_of_mem _ (List.mem_cons_of_mem _ List.mem_cons_self)))) (cvp 197 (x' := (256 * (ρ 0) + (ρ 1))) (y' := (0 : Int)) (by show 0 + (256 * ρ 0 + (1 * ρ 1 + 0)) = _; omega) (by show 0 + 0 = _; omega) (hm _ List.mem_cons_self)) (by have h := hF _ List.mem_cons_self; have h : 0 ≤ 0 + ((-1) * ρ 1 + (1 * ρ 2 + 0)) := h; omega) hG
  obtain ⟨k0, -⟩ := H
  exact ⟨_, List.mem_cons_self, ρ, fun _ _ => rfl, (okM_c (pvp 197 (by show 0 + (256 * ρ 0 + (1 * ρ 1 + 0)) = _; omega) (by show 0 + 0 = _; omega) k0) okM_n), okB_n, okF_n⟩
-- tqw97
theorem cr_840 (M : pM) (s0 s1 s2 s3 : Int) (b0 : 0 ≤ s0 ∧ s0 ≤ 8) (b1 : 0 ≤ s1 ∧ s1 ≤ 200) (b2 : 0 ≤ s2 ∧ s2 ≤ 199) (b3 : (-2147483648) ≤ s3 ∧ s3 ≤ 2147483647) (m0 : HP 197 (256 * s0 + s1) (0 : Int) M) (f0 : 0 ≤ ((-1) * s1 + s2)) (hG : gI M) : (HP 197 (256 * s0 + s1) (0 : Int) (st M 97 (s2).toNat (s3)) ∧ True) := by
  have hq := tq_o (P := s0.toNat) (F := s1.toNat) m0 ⟨by omega, by omega⟩
  exact ⟨Eq.mpr hp_197 ⟨s0.toNat, s1.toNat, by omega, by omega, by omega, qtr_st (fun h => by omega) (fun h => by omega) hq⟩, trivial⟩
theorem rul_840 : Rul r_840 := by
  refine ⟨fun h => (by cases h), fun gi gv hg ρ M hm hB hF hG => ?_⟩
  obtain ⟨g1, g2⟩ := List.cons.inj (show ([aI ((0 : Int), ([(2, 1)] : List (Nat × Int))), aI ((0 : Int), ([(3, 1)] : List (Nat × Int)))] : List av) = [.inl gi, .inl gv] from hg)
  obtain ⟨g2, -⟩ := List.cons.inj g2
  cases g1
  cases g2
  have ei : ev ρ ((0 : Int), ([(2, 1)] : List (Nat × Int))) = ((ρ 2)) := by show 0 + (1 * ρ 2 + 0) = _; omega
  have ew : ev ρ ((0 : Int), ([(3, 1)] : List (Nat × Int))) = ((ρ 3)) := by show 0 + (1 * ρ 3 + 0) = _; omega
  rw [show (st M (ctj r_840) (ev ρ ((0 : Int), ([(2, 1)] : List (Nat × Int)))).toNat (ev ρ ((0 : Int), ([(3, 1)] : List (Nat × Int))))) = (st M 97 ((ρ 2)).toNat ((ρ 3))) from by rw [ei, ew]; rfl]
  have H := cr_840 M (ρ 0) (ρ 1) (ρ 2) (ρ 3) (hB _ List.mem_cons_self) (hB _ (List.mem_cons_of_mem _ List.mem_cons_self)) (hB _ (List.mem_cons_of_mem _ (List.mem_cons_of_mem _ List.mem_cons_self))) (hB _ (List.mem_cons_of_mem _ (List.mem_cons_of_mem _ (List.mem_cons_of_mem _ List.mem_cons_self)))) (cvp 197 (x' := (256 * (ρ 0) + (ρ 1))) (y' := (0 : Int)) (by show 0 + (256 * ρ 0 + (1 * ρ 1 + 0)) = _; omega) (by show 0 + 0 = _; omega) (hm _ List.mem_cons_self)) (by have h := hF _ List.mem_cons_self; have h : 0 ≤ 0 + ((-1) * ρ 1 + (1 * ρ 2 + 0)) := h; omega) hG
  obtain ⟨k0, -⟩ := H
  exact ⟨_, List.mem_cons_self, ρ, fun _ _ => rfl, (okM_c (pvp 197 (by show 0 + (256 * ρ 0 + (1 * ρ 1 + 0)) = _; omega) (by show 0 + 0 = _; omega) k0) okM_n), okB_n, okF_n⟩
-- tqw98
theorem cr_841 (M : pM) (s0 s1 s2 s3 : Int) (b0 : 0 ≤ s0 ∧ s0 ≤ 8) (b1 : 0 ≤ s1 ∧ s1 ≤ 200) (b2 : 0 ≤ s2 ∧ s2 ≤ 199) (b3 : (-2147483648) ≤ s3 ∧ s3 ≤ 2147483647) (m0 : HP 197 (256 * s0 + s1) (0 : Int) M) (f0 : 0 ≤ ((-1) * s1 + s2)) (hG : gI M) : (HP 197 (256 * s0 + s1) (0 : Int) (st M 98 (s2).toNat (s3)) ∧ True) := by
  have hq := tq_o (P := s0.toNat) (F := s1.toNat) m0 ⟨by omega, by omega⟩
  exact ⟨Eq.mpr hp_197 ⟨s0.toNat, s1.toNat, by omega, by omega, by omega, qtr_st (fun h => by omega) (fun h => by omega) hq⟩, trivial⟩
theorem rul_841 : Rul r_841 := by
  refine ⟨fun h => (by cases h), fun gi gv hg ρ M hm hB hF hG => ?_⟩
  obtain ⟨g1, g2⟩ := List.cons.inj (show ([aI ((0 : Int), ([(2, 1)] : List (Nat × Int))), aI ((0 : Int), ([(3, 1)] : List (Nat × Int)))] : List av) = [.inl gi, .inl gv] from hg)
  obtain ⟨g2, -⟩ := List.cons.inj g2
  cases g1
  cases g2
  have ei : ev ρ ((0 : Int), ([(2, 1)] : List (Nat × Int))) = ((ρ 2)) := by show 0 + (1 * ρ 2 + 0) = _; omega
  have ew : ev ρ ((0 : Int), ([(3, 1)] : List (Nat × Int))) = ((ρ 3)) := by show 0 + (1 * ρ 3 + 0) = _; omega
  rw [show (st M (ctj r_841) (ev ρ ((0 : Int), ([(2, 1)] : List (Nat × Int)))).toNat (ev ρ ((0 : Int), ([(3, 1)] : List (Nat × Int))))) = (st M 98 ((ρ 2)).toNat ((ρ 3))) from by rw [ei, ew]; rfl]
  have H := cr_841 M (ρ 0) (ρ 1) (ρ 2) (ρ 3) (hB _ List.mem_cons_self) (hB _ (List.mem_cons_of_mem _ List.mem_cons_self)) (hB _ (List.mem_cons_of_mem _ (List.mem_cons_of_mem _ List.mem_cons_self))) (hB _ (List.mem_cons_of_mem _ (List.mem_cons_of_mem _ (List.mem_cons_of_mem _ List.mem_cons_self)))) (cvp 197 (x' := (256 * (ρ 0) + (ρ 1))) (y' := (0 : Int)) (by show 0 + (256 * ρ 0 + (1 * ρ 1 + 0)) = _; omega) (by show 0 + 0 = _; omega) (hm _ List.mem_cons_self)) (by have h := hF _ List.mem_cons_self; have h : 0 ≤ 0 + ((-1) * ρ 1 + (1 * ρ 2 + 0)) := h; omega) hG
  obtain ⟨k0, -⟩ := H
  exact ⟨_, List.mem_cons_self, ρ, fun _ _ => rfl, (okM_c (pvp 197 (by show 0 + (256 * ρ 0 + (1 * ρ 1 + 0)) = _; omega) (by show 0 + 0 = _; omega) k0) okM_n), okB_n, okF_n⟩
-- tqw99
theorem cr_842 (M : pM) (s0 s1 s2 s3 : Int) (b0 : 0 ≤ s0 ∧ s0 ≤ 8) (b1 : 0 ≤ s1 ∧ s1 ≤ 200) (b2 : 0 ≤ s2 ∧ s2 ≤ 199) (b3 : (-2147483648) ≤ s3 ∧ s3 ≤ 2147483647) (m0 : HP 197 (256 * s0 + s1) (0 : Int) M) (f0 : 0 ≤ ((-1) * s1 + s2)) (hG : gI M) : (HP 197 (256 * s0 + s1) (0 : Int) (st M 99 (s2).toNat (s3)) ∧ True) := by
  have hq := tq_o (P := s0.toNat) (F := s1.toNat) m0 ⟨by omega, by omega⟩
  exact ⟨Eq.mpr hp_197 ⟨s0.toNat, s1.toNat, by omega, by omega, by omega, qtr_st (fun h => by omega) (fun h => by omega) hq⟩, trivial⟩
theorem rul_842 : Rul r_842 := by
  refine ⟨fun h => (by cases h), fun gi gv hg ρ M hm hB hF hG => ?_⟩
  obtain ⟨g1, g2⟩ := List.cons.inj (show ([aI ((0 : Int), ([(2, 1)] : List (Nat × Int))), aI ((0 : Int), ([(3, 1)] : List (Nat × Int)))] : List av) = [.inl gi, .inl gv] from hg)
  obtain ⟨g2, -⟩ := List.cons.inj g2
  cases g1
  cases g2
  have ei : ev ρ ((0 : Int), ([(2, 1)] : List (Nat × Int))) = ((ρ 2)) := by show 0 + (1 * ρ 2 + 0) = _; omega
  have ew : ev ρ ((0 : Int), ([(3, 1)] : List (Nat × Int))) = ((ρ 3)) := by show 0 + (1 * ρ 3 + 0) = _; omega
  rw [show (st M (ctj r_842) (ev ρ ((0 : Int), ([(2, 1)] : List (Nat × Int)))).toNat (ev ρ ((0 : Int), ([(3, 1)] : List (Nat × Int))))) = (st M 99 ((ρ 2)).toNat ((ρ 3))) from by rw [ei, ew]; rfl]
  have H := cr_842 M (ρ 0) (ρ 1) (ρ 2) (ρ 3) (hB _ List.mem_cons_self) (hB _ (List.mem_cons_of_mem _ List.mem_cons_self)) (hB _ (List.mem_cons_of_mem _ (List.mem_cons_of_mem _ List.mem_cons_self))) (hB _ (List.mem_cons_of_mem _ (List.mem_cons_of_mem _ (List.mem_cons_of_mem _ List.mem_cons_self)))) (cvp 197 (x' := (256 * (ρ 0) + (ρ 1))) (y' := (0 : Int)) (by show 0 + (256 * ρ 0 + (1 * ρ 1 + 0)) = _; omega) (by show 0 + 0 = _; omega) (hm _ List.mem_cons_self)) (by have h := hF _ List.mem_cons_self; have h : 0 ≤ 0 + ((-1) * ρ 1 + (1 * ρ 2 + 0)) := h; omega) hG
  obtain ⟨k0, -⟩ := H
  exact ⟨_, List.mem_cons_self, ρ, fun _ _ => rfl, (okM_c (pvp 197 (by show 0 + (256 * ρ 0 + (1 * ρ 1 + 0)) = _; omega) (by show 0 + 0 = _; omega) k0) okM_n), okB_n, okF_n⟩
-- tqw100
theorem cr_843 (M : pM) (s0 s1 s2 s3 : Int) (b0 : 0 ≤ s0 ∧ s0 ≤ 8) (b1 : 0 ≤ s1 ∧ s1 ≤ 200) (b2 : 0 ≤ s2 ∧ s2 ≤ 199) (b3 : (-2147483648) ≤ s3 ∧ s3 ≤ 2147483647) (m0 : HP 197 (256 * s0 + s1) (0 : Int) M) (f0 : 0 ≤ ((-1) * s1 + s2)) (hG : gI M) : (HP 197 (256 * s0 + s1) (0 : Int) (st M 100 (s2).toNat (s3)) ∧ True) := by
  have hq := tq_o (P := s0.toNat) (F := s1.toNat) m0 ⟨by omega, by omega⟩
  exact ⟨Eq.mpr hp_197 ⟨s0.toNat, s1.toNat, by omega, by omega, by omega, qtr_st (fun h => by omega) (fun h => by omega) hq⟩, trivial⟩
theorem rul_843 : Rul r_843 := by
  refine ⟨fun h => (by cases h), fun gi gv hg ρ M hm hB hF hG => ?_⟩
  obtain ⟨g1, g2⟩ := List.cons.inj (show ([aI ((0 : Int), ([(2, 1)] : List (Nat × Int))), aI ((0 : Int), ([(3, 1)] : List (Nat × Int)))] : List av) = [.inl gi, .inl gv] from hg)
  obtain ⟨g2, -⟩ := List.cons.inj g2
  cases g1
  cases g2
  have ei : ev ρ ((0 : Int), ([(2, 1)] : List (Nat × Int))) = ((ρ 2)) := by show 0 + (1 * ρ 2 + 0) = _; omega
  have ew : ev ρ ((0 : Int), ([(3, 1)] : List (Nat × Int))) = ((ρ 3)) := by show 0 + (1 * ρ 3 + 0) = _; omega
  rw [show (st M (ctj r_843) (ev ρ ((0 : Int), ([(2, 1)] : List (Nat × Int)))).toNat (ev ρ ((0 : Int), ([(3, 1)] : List (Nat × Int))))) = (st M 100 ((ρ 2)).toNat ((ρ 3))) from by rw [ei, ew]; rfl]
  have H := cr_843 M (ρ 0) (ρ 1) (ρ 2) (ρ 3) (hB _ List.mem_cons_self) (hB _ (List.mem_cons_of_mem _ List.mem_cons_self)) (hB _ (List.mem_cons_of_mem _ (List.mem_cons_of_mem _ List.mem_cons_self))) (hB _ (List.mem_cons_of_mem _ (List.mem_cons_of_mem _ (List.mem_cons_of_mem _ List.mem_cons_self)))) (cvp 197 (x' := (256 * (ρ 0) + (ρ 1))) (y' := (0 : Int)) (by show 0 + (256 * ρ 0 + (1 * ρ 1 + 0)) = _; omega) (by show 0 + 0 = _; omega) (hm _ List.mem_cons_self)) (by have h := hF _ List.mem_cons_self; have h : 0 ≤ 0 + ((-1) * ρ 1 + (1 * ρ 2 + 0)) := h; omega) hG
  obtain ⟨k0, -⟩ := H
  exact ⟨_, List.mem_cons_self, ρ, fun _ _ => rfl, (okM_c (pvp 197 (by show 0 + (256 * ρ 0 + (1 * ρ 1 + 0)) = _; omega) (by show 0 + 0 = _; omega) k0) okM_n), okB_n, okF_n⟩
-- tqw101
theorem cr_844 (M : pM) (s0 s1 s2 s3 : Int) (b0 : 0 ≤ s0 ∧ s0 ≤ 8) (b1 : 0 ≤ s1 ∧ s1 ≤ 200) (b2 : 0 ≤ s2 ∧ s2 ≤ 199) (b3 : (-2147483648) ≤ s3 ∧ s3 ≤ 2147483647) (m0 : HP 197 (256 * s0 + s1) (0 : Int) M) (f0 : 0 ≤ ((-1) * s1 + s2)) (hG : gI M) : (HP 197 (256 * s0 + s1) (0 : Int) (st M 101 (s2).toNat (s3)) ∧ True) := by
  have hq := tq_o (P := s0.toNat) (F := s1.toNat) m0 ⟨by omega, by omega⟩
  exact ⟨Eq.mpr hp_197 ⟨s0.toNat, s1.toNat, by omega, by omega, by omega, qtr_st (fun h => by omega) (fun h => by omega) hq⟩, trivial⟩
theorem rul_844 : Rul r_844 := by
  refine ⟨fun h => (by cases h), fun gi gv hg ρ M hm hB hF hG => ?_⟩
  obtain ⟨g1, g2⟩ := List.cons.inj (show ([aI ((0 : Int), ([(2, 1)] : List (Nat × Int))), aI ((0 : Int), ([(3, 1)] : List (Nat × Int)))] : List av) = [.inl gi, .inl gv] from hg)
  obtain ⟨g2, -⟩ := List.cons.inj g2
  cases g1
  cases g2
  have ei : ev ρ ((0 : Int), ([(2, 1)] : List (Nat × Int))) = ((ρ 2)) := by show 0 + (1 * ρ 2 + 0) = _; omega
  have ew : ev ρ ((0 : Int), ([(3, 1)] : List (Nat × Int))) = ((ρ 3)) := by show 0 + (1 * ρ 3 + 0) = _; omega
  rw [show (st M (ctj r_844) (ev ρ ((0 : Int), ([(2, 1)] : List (Nat × Int)))).toNat (ev ρ ((0 : Int), ([(3, 1)] : List (Nat × Int))))) = (st M 101 ((ρ 2)).toNat ((ρ 3))) from by rw [ei, ew]; rfl]
  have H := cr_844 M (ρ 0) (ρ 1) (ρ 2) (ρ 3) (hB _ List.mem_cons_self) (hB _ (List.mem_cons_of_mem _ List.mem_cons_self)) (hB _ (List.mem_cons_of_mem _ (List.mem_cons_of_mem _ List.mem_cons_self))) (hB _ (List.mem_cons_of_mem _ (List.mem_cons_of_mem _ (List.mem_cons_of_mem _ List.mem_cons_self)))) (cvp 197 (x' := (256 * (ρ 0) + (ρ 1))) (y' := (0 : Int)) (by show 0 + (256 * ρ 0 + (1 * ρ 1 + 0)) = _; omega) (by show 0 + 0 = _; omega) (hm _ List.mem_cons_self)) (by have h := hF _ List.mem_cons_self; have h : 0 ≤ 0 + ((-1) * ρ 1 + (1 * ρ 2 + 0)) := h; omega) hG
  obtain ⟨k0, -⟩ := H
  exact ⟨_, List.mem_cons_self, ρ, fun _ _ => rfl, (okM_c (pvp 197 (by show 0 + (256 * ρ 0 + (1 * ρ 1 + 0)) = _; omega) (by show 0 + 0 = _; omega) k0) okM_n), okB_n, okF_n⟩
-- tqw102
theorem cr_845 (M : pM) (s0 s1 s2 s3 : Int) (b0 : 0 ≤ s0 ∧ s0 ≤ 8) (b1 : 0 ≤ s1 ∧ s1 ≤ 200) (b2 : 0 ≤ s2 ∧ s2 ≤ 199) (b3 : (-2147483648) ≤ s3 ∧ s3 ≤ 2147483647) (m0 : HP 197 (256 * s0 + s1) (0 : Int) M) (f0 : 0 ≤ ((-1) * s1 + s2)) (hG : gI M) : (HP 197 (256 * s0 + s1) (0 : Int) (st M 102 (s2).toNat (s3)) ∧ True) := by
  have hq := tq_o (P := s0.toNat) (F := s1.toNat) m0 ⟨by omega, by omega⟩
  exact ⟨Eq.mpr hp_197 ⟨s0.toNat, s1.toNat, by omega, by omega, by omega, qtr_st (fun h => by omega) (fun h => by omega) hq⟩, trivial⟩
theorem rul_845 : Rul r_845 := by
  refine ⟨fun h => (by cases h), fun gi gv hg ρ M hm hB hF hG => ?_⟩
  obtain ⟨g1, g2⟩ := List.cons.inj (show ([aI ((0 : Int), ([(2, 1)] : List (Nat × Int))), aI ((0 : Int), ([(3, 1)] : List (Nat × Int)))] : List av) = [.inl gi, .inl gv] from hg)
  obtain ⟨g2, -⟩ := List.cons.inj g2
  cases g1
  cases g2
  have ei : ev ρ ((0 : Int), ([(2, 1)] : List (Nat × Int))) = ((ρ 2)) := by show 0 + (1 * ρ 2 + 0) = _; omega
  have ew : ev ρ ((0 : Int), ([(3, 1)] : List (Nat × Int))) = ((ρ 3)) := by show 0 + (1 * ρ 3 + 0) = _; omega
  rw [show (st M (ctj r_845) (ev ρ ((0 : Int), ([(2, 1)] : List (Nat × Int)))).toNat (ev ρ ((0 : Int), ([(3, 1)] : List (Nat × Int))))) = (st M 102 ((ρ 2)).toNat ((ρ 3))) from by rw [ei, ew]; rfl]
  have H := cr_845 M (ρ 0) (ρ 1) (ρ 2) (ρ 3) (hB _ List.mem_cons_self) (hB _ (List.mem_cons_of_mem _ List.mem_cons_self)) (hB _ (List.mem_cons_of_mem _ (List.mem_cons_of_mem _ List.mem_cons_self))) (hB _ (List.mem_cons_of_mem _ (List.mem_cons_of_mem _ (List.mem_cons_of_mem _ List.mem_cons_self)))) (cvp 197 (x' := (256 * (ρ 0) + (ρ 1))) (y' := (0 : Int)) (by show 0 + (256 * ρ 0 + (1 * ρ 1 + 0)) = _; omega) (by show 0 + 0 = _; omega) (hm _ List.mem_cons_self)) (by have h := hF _ List.mem_cons_self; have h : 0 ≤ 0 + ((-1) * ρ 1 + (1 * ρ 2 + 0)) := h; omega) hG
  obtain ⟨k0, -⟩ := H
  exact ⟨_, List.mem_cons_self, ρ, fun _ _ => rfl, (okM_c (pvp 197 (by show 0 + (256 * ρ 0 + (1 * ρ 1 + 0)) = _; omega) (by show 0 + 0 = _; omega) k0) okM_n), okB_n, okF_n⟩
-- tqw41
theorem cr_846 (M : pM) (s0 s1 s2 s3 : Int) (b0 : 0 ≤ s0 ∧ s0 ≤ 8) (b1 : 0 ≤ s1 ∧ s1 ≤ 200) (b2 : 0 ≤ s2 ∧ s2 ≤ 7) (b3 : (-2147483648) ≤ s3 ∧ s3 ≤ 2147483647) (m0 : HP 197 (256 * s0 + s1) (0 : Int) M) (f0 : 0 ≤ ((-1) * s0 + s2)) (hG : gI M) : (HP 197 (256 * s0 + s1) (0 : Int) (st M 41 (s2).toNat (s3)) ∧ True) := by
  have hq := tq_o (P := s0.toNat) (F := s1.toNat) m0 ⟨by omega, by omega⟩
  exact ⟨Eq.mpr hp_197 ⟨s0.toNat, s1.toNat, by omega, by omega, by omega, qtr_st (fun h => by omega) (fun h => by omega) hq⟩, trivial⟩
theorem rul_846 : Rul r_846 := by
  refine ⟨fun h => (by cases h), fun gi gv hg ρ M hm hB hF hG => ?_⟩
  obtain ⟨g1, g2⟩ := List.cons.inj (show ([aI ((0 : Int), ([(2, 1)] : List (Nat × Int))), aI ((0 : Int), ([(3, 1)] : List (Nat × Int)))] : List av) = [.inl gi, .inl gv] from hg)
  obtain ⟨g2, -⟩ := List.cons.inj g2
  cases g1
  cases g2
  have ei : ev ρ ((0 : Int), ([(2, 1)] : List (Nat × Int))) = ((ρ 2)) := by show 0 + (1 * ρ 2 + 0) = _; omega
  have ew : ev ρ ((0 : Int), ([(3, 1)] : List (Nat × Int))) = ((ρ 3)) := by show 0 + (1 * ρ 3 + 0) = _; omega
  rw [show (st M (ctj r_846) (ev ρ ((0 : Int), ([(2, 1)] : List (Nat × Int)))).toNat (ev ρ ((0 : Int), ([(3, 1)] : List (Nat × Int))))) = (st M 41 ((ρ 2)).toNat ((ρ 3))) from by rw [ei, ew]; rfl]
  have H := cr_846 M (ρ 0) (ρ 1) (ρ 2) (ρ 3) (hB _ List.mem_cons_self) (hB _ (List.mem_cons_of_mem _ List.mem_cons_self)) (hB _ (List.mem_cons_of_mem _ (List.mem_cons_of_mem _ List.mem_cons_self))) (hB _ (List.mem_cons_of_mem _ (List.mem_cons_of_mem _ (List.mem_cons_of_mem _ List.mem_cons_self)))) (cvp 197 (x' := (256 * (ρ 0) + (ρ 1))) (y' := (0 : Int)) (by show 0 + (256 * ρ 0 + (1 * ρ 1 + 0)) = _; omega) (by show 0 + 0 = _; omega) (hm _ List.mem_cons_self)) (by have h := hF _ List.mem_cons_self; have h : 0 ≤ 0 + ((-1) * ρ 0 + (1 * ρ 2 + 0)) := h; omega) hG
  obtain ⟨k0, -⟩ := H
  exact ⟨_, List.mem_cons_self, ρ, fun _ _ => rfl, (okM_c (pvp 197 (by show 0 + (256 * ρ 0 + (1 * ρ 1 + 0)) = _; omega) (by show 0 + 0 = _; omega) k0) okM_n), okB_n, okF_n⟩
-- tqw96
theorem cr_847 (M : pM) (s0 s1 s2 s3 : Int) (b0 : 0 ≤ s0 ∧ s0 ≤ 8) (b1 : 0 ≤ s1 ∧ s1 ≤ 200) (b2 : 0 ≤ s2 ∧ s2 ≤ 7) (b3 : (-2147483648) ≤ s3 ∧ s3 ≤ 2147483647) (m0 : HP 197 (256 * s0 + s1) (0 : Int) M) (f0 : 0 ≤ ((-1) * s0 + s2)) (hG : gI M) : (HP 197 (256 * s0 + s1) (0 : Int) (st M 96 (s2).toNat (s3)) ∧ True) := by
  have hq := tq_o (P := s0.toNat) (F := s1.toNat) m0 ⟨by omega, by omega⟩
  exact ⟨Eq.mpr hp_197 ⟨s0.toNat, s1.toNat, by omega, by omega, by omega, qtr_st (fun h => by omega) (fun h => by omega) hq⟩, trivial⟩
theorem rul_847 : Rul r_847 := by
  refine ⟨fun h => (by cases h), fun gi gv hg ρ M hm hB hF hG => ?_⟩
  obtain ⟨g1, g2⟩ := List.cons.inj (show ([aI ((0 : Int), ([(2, 1)] : List (Nat × Int))), aI ((0 : Int), ([(3, 1)] : List (Nat × Int)))] : List av) = [.inl gi, .inl gv] from hg)
  obtain ⟨g2, -⟩ := List.cons.inj g2
  cases g1
  cases g2
  have ei : ev ρ ((0 : Int), ([(2, 1)] : List (Nat × Int))) = ((ρ 2)) := by show 0 + (1 * ρ 2 + 0) = _; omega
  have ew : ev ρ ((0 : Int), ([(3, 1)] : List (Nat × Int))) = ((ρ 3)) := by show 0 + (1 * ρ 3 + 0) = _; omega
  rw [show (st M (ctj r_847) (ev ρ ((0 : Int), ([(2, 1)] : List (Nat × Int)))).toNat (ev ρ ((0 : Int), ([(3, 1)] : List (Nat × Int))))) = (st M 96 ((ρ 2)).toNat ((ρ 3))) from by rw [ei, ew]; rfl]
  have H := cr_847 M (ρ 0) (ρ 1) (ρ 2) (ρ 3) (hB _ List.mem_cons_self) (hB _ (List.mem_cons_of_mem _ List.mem_cons_self)) (hB _ (List.mem_cons_of_mem _ (List.mem_cons_of_mem _ List.mem_cons_self))) (hB _ (List.mem_cons_of_mem _ (List.mem_cons_of_mem _ (List.mem_cons_of_mem _ List.mem_cons_self)))) (cvp 197 (x' := (256 * (ρ 0) + (ρ 1))) (y' := (0 : Int)) (by show 0 + (256 * ρ 0 + (1 * ρ 1 + 0)) = _; omega) (by show 0 + 0 = _; omega) (hm _ List.mem_cons_self)) (by have h := hF _ List.mem_cons_self; have h : 0 ≤ 0 + ((-1) * ρ 0 + (1 * ρ 2 + 0)) := h; omega) hG
  obtain ⟨k0, -⟩ := H
  exact ⟨_, List.mem_cons_self, ρ, fun _ _ => rfl, (okM_c (pvp 197 (by show 0 + (256 * ρ 0 + (1 * ρ 1 + 0)) = _; omega) (by show 0 + 0 = _; omega) k0) okM_n), okB_n, okF_n⟩
-- tqp
theorem cr_848 (M : pM) (s0 s1 s2 s3 s4 : Int) (b0 : 0 ≤ s0 ∧ s0 ≤ 7) (b1 : 0 ≤ s1 ∧ s1 ≤ 200) (b2 : 0 ≤ s2 ∧ s2 ≤ 7) (b3 : (-2147483648) ≤ s3 ∧ s3 ≤ 2147483647) (b4 : (-2147483648) ≤ s4 ∧ s4 ≤ 2147483647) (m0 : HP 197 (256 * s0 + s1) (0 : Int) M) (m1 : (0 ≤ (s2) ∧ M 41 (s2).toNat = (s3))) (m2 : (0 ≤ (s0) ∧ M 96 (s0).toNat = (s4))) (f0 : 0 ≤ ((-1) * s3 + s4)) (f1 : 0 ≤ (s3 + (-1) * s4)) (f2 : 0 ≤ (s0 + (-1) * s2)) (f3 : 0 ≤ ((-1) * s0 + s2)) (hG : gI M) : (HP 197 (256 * s0 + s1 + 256) (0 : Int) M ∧ True) := by
  have hq := tq_o (P := s0.toNat) (F := s1.toNat) m0 ⟨by omega, by omega⟩
  have e1 := m1.2
  have e2 := m2.2
  rw [show s2.toNat = s0.toNat by omega] at e1
  exact ⟨Eq.mpr hp_197 ⟨s0.toNat + 1, s1.toNat, by omega, by omega, by omega, ⟨fun j hj => if e : j = s0.toNat then (by rw [e, e1, e2]; omega) else hq.1 j (by omega), hq.2⟩⟩, trivial⟩
theorem rul_848 : Rul r_848 := by
  refine ⟨fun _ ρ M hm hB hF hG => ?_, fun gi gv hg => (by cases hg)⟩
  have H := cr_848 M (ρ 0) (ρ 1) (ρ 2) (ρ 3) (ρ 4) (hB _ List.mem_cons_self) (hB _ (List.mem_cons_of_mem _ List.mem_cons_self)) (hB _ (List.mem_cons_of_mem _ (List.mem_cons_of_mem _ List.mem_cons_self))) (hB _ (List.mem_cons_of_mem _ (List.mem_cons_of_mem _ (List.mem_cons_of_mem _ List.mem_cons_self)))) (hB _ (List.mem_cons_of_mem _ (List.mem_cons_of_mem _ (List.mem_cons_of_mem _ (List.mem_cons_of_mem _ List.mem_cons_self))))) (cvp 197 (x' := (256 * (ρ 0) + (ρ 1))) (y' := (0 : Int)) (by show 0 + (256 * ρ 0 + (1 * ρ 1 + 0)) = _; omega) (by show 0 + 0 = _; omega) (hm _ List.mem_cons_self)) (cvm (c := 41) (by decide) (x' := ((ρ 2))) (y' := ((ρ 3))) (by show 0 + (1 * ρ 2 + 0) = _; omega) (by show 0 + (1 * ρ 3 + 0) = _; omega) (hm _ (List.mem_cons_of_mem _ List.mem_cons_self))) (cvm (c := 96) (by decide) (x' := ((ρ 0))) (y' := ((ρ 4))) (by show 0 + (1 * ρ 0 + 0) = _; omega) (by show 0 + (1 * ρ 4 + 0) = _; omega) (hm _ (List.mem_cons_of_mem _ (List.mem_cons_of_mem _ List.mem_cons_self)))) (by have h := hF _ List.mem_cons_self; have h : 0 ≤ 0 + ((-1) * ρ 3 + (1 * ρ 4 + 0)) := h; omega) (by have h := hF _ (List.mem_cons_of_mem _ List.mem_cons_self); have h : 0 ≤ 0 + (1 * ρ 3 + ((-1) * ρ 4 + 0)) := h; omega) (by have h := hF _ (List.mem_cons_of_mem _ (List.mem_cons_of_mem _ List.mem_cons_self)); have h : 0 ≤ 0 + (1 * ρ 0 + ((-1) * ρ 2 + 0)) := h; omega) (by have h := hF _ (List.mem_cons_of_mem _ (List.mem_cons_of_mem _ (List.mem_cons_of_mem _ List.mem_cons_self))); have h : 0 ≤ 0 + ((-1) * ρ 0 + (1 * ρ 2 + 0)) := h; omega) hG
  obtain ⟨k0, -⟩ := H
  exact ⟨_, List.mem_cons_self, ρ, fun _ _ => rfl, (okM_c (pvp 197 (by show 256 + (256 * ρ 0 + (1 * ρ 1 + 0)) = _; omega) (by show 0 + 0 = _; omega) k0) okM_n), okB_n, okF_n⟩
-- tqf
theorem cr_849 (M : pM) (s0 s1 s2 s3 s4 s5 s6 s7 s8 s9 s10 s11 s12 s13 s14 : Int) (b0 : 0 ≤ s0 ∧ s0 ≤ 8) (b1 : 0 ≤ s1 ∧ s1 ≤ 199) (b2 : 0 ≤ s2 ∧ s2 ≤ 199) (b3 : (-2147483648) ≤ s3 ∧ s3 ≤ 2147483647) (b4 : (-2147483648) ≤ s4 ∧ s4 ≤ 2147483647) (b5 : (-2147483648) ≤ s5 ∧ s5 ≤ 2147483647) (b6 : (-2147483648) ≤ s6 ∧ s6 ≤ 2147483647) (b7 : (-2147483648) ≤ s7 ∧ s7 ≤ 2147483647) (b8 : (-2147483648) ≤ s8 ∧ s8 ≤ 2147483647) (b9 : (-2147483648) ≤ s9 ∧ s9 ≤ 2147483647) (b10 : (-2147483648) ≤ s10 ∧ s10 ≤ 2147483647) (b11 : (-2147483648) ≤ s11 ∧ s11 ≤ 2147483647) (b12 : (-2147483648) ≤ s12 ∧ s12 ≤ 2147483647) (b13 : (-2147483648) ≤ s13 ∧ s13 ≤ 2147483647) (b14 : (-2147483648) ≤ s14 ∧ s14 ≤ 2147483647) (m0 : HP 197 (256 * s0 + s1) (0 : Int) M) (m1 : (0 ≤ (s2) ∧ M 42 (s2).toNat = (s3))) (m2 : (0 ≤ (s2) ∧ M 43 (s2).toNat = (s4))) (m3 : (0 ≤ (s2) ∧ M 44 (s2).toNat = (s5))) (m4 : (0 ≤ (s2) ∧ M 45 (s2).toNat = (s6))) (m5 : (0 ≤ (s2) ∧ M 46 (s2).toNat = (s7))) (m6 : (0 ≤ (s2) ∧ M 47 (s2).toNat = (s8))) (m7 : (0 ≤ (s1) ∧ M 97 (s1).toNat = (s9))) (m8 : (0 ≤ (s1) ∧ M 98 (s1).toNat = (s10))) (m9 : (0 ≤ (s1) ∧ M 99 (s1).toNat = (s11))) (m10 : (0 ≤ (s1) ∧ M 100 (s1).toNat = (s12))) (m11 : (0 ≤ (s1) ∧ M 101 (s1).toNat = (s13))) (m12 : (0 ≤ (s1) ∧ M 102 (s1).toNat = (s14))) (f0 : 0 ≤ ((-1) * s3 + s9)) (f1 : 0 ≤ (s3 + (-1) * s9)) (f2 : 0 ≤ ((-1) * s4 + s10)) (f3 : 0 ≤ (s4 + (-1) * s10)) (f4 : 0 ≤ ((-1) * s5 + s11)) (f5 : 0 ≤ (s5 + (-1) * s11)) (f6 : 0 ≤ ((-1) * s6 + s12)) (f7 : 0 ≤ (s6 + (-1) * s12)) (f8 : 0 ≤ ((-1) * s7 + s13)) (f9 : 0 ≤ (s7 + (-1) * s13)) (f10 : 0 ≤ ((-1) * s8 + s14)) (f11 : 0 ≤ (s8 + (-1) * s14)) (f12 : 0 ≤ (s1 + (-1) * s2)) (f13 : 0 ≤ ((-1) * s1 + s2)) (hG : gI M) : (HP 197 (256 * s0 + s1 + 1) (0 : Int) M ∧ True) := by
  have hq := tq_o (P := s0.toNat) (F := s1.toNat) m0 ⟨by omega, by omega⟩
  have e0 := m1.2
  rw [show s2.toNat = s1.toNat by omega] at e0
  have e1 := m2.2
  rw [show s2.toNat = s1.toNat by omega] at e1
  have e2 := m3.2
  rw [show s2.toNat = s1.toNat by omega] at e2
  have e3 := m4.2
  rw [show s2.toNat = s1.toNat by omega] at e3
  have e4 := m5.2
  rw [show s2.toNat = s1.toNat by omega] at e4
  have e5 := m6.2
  rw [show s2.toNat = s1.toNat by omega] at e5
  have e6 := m7.2
  have e7 := m8.2
  have e8 := m9.2
  have e9 := m10.2
  have e10 := m11.2
  have e11 := m12.2
  have h5 : qt5 M s1.toNat := ⟨by rw [e0, e6]; omega, by rw [e1, e7]; omega, by rw [e2, e8]; omega, by rw [e3, e9]; omega, by rw [e4, e10]; omega⟩
  have h6 : M 47 s1.toNat = M 102 s1.toNat := by rw [e5, e11]; omega
  exact ⟨Eq.mpr hp_197 ⟨s0.toNat, s1.toNat + 1, by omega, by omega, by omega, ⟨hq.1, fun j hj => if e : j = s1.toNat then (by rw [e]; exact ⟨h5, h6⟩) else hq.2 j (by omega)⟩⟩, trivial⟩
theorem rul_849 : Rul r_849 := by
  refine ⟨fun _ ρ M hm hB hF hG => ?_, fun gi gv hg => (by cases hg)⟩
  have H := cr_849 M (ρ 0) (ρ 1) (ρ 2) (ρ 3) (ρ 4) (ρ 5) (ρ 6) (ρ 7) (ρ 8) (ρ 9) (ρ 10) (ρ 11) (ρ 12) (ρ 13) (ρ 14) (hB _ List.mem_cons_self) (hB _ (List.mem_cons_of_mem _ List.mem_cons_self)) (hB _ (List.mem_cons_of_mem _ (List.mem_cons_of_mem _ List.mem_cons_self))) (hB _ (List.mem_cons_of_mem _ (List.mem_cons_of_mem _ (List.mem_cons_of_mem _ List.mem_cons_self)))) (hB _ (List.mem_cons_of_mem _ (List.mem_cons_of_mem _ (List.mem_cons_of_mem _ (List.mem_cons_of_mem _ List.mem_cons_self))))) (hB _ (List.mem_cons_of_mem _ (List.mem_cons_of_mem _ (List.mem_cons_of_mem _ (List.mem_cons_of_mem _ (List.mem_cons_of_mem _ List.mem_cons_self)))))) (hB _ (List.mem_cons_of_mem _ (List.mem_cons_of_mem _ (List.mem_cons_of_mem _ (List.mem_cons_of_mem _ (List.mem_cons_of_mem _ (List.mem_cons_of_mem _ List.mem_cons_self))))))) (hB _ (List.mem_cons_of_mem _ (List.mem_cons_of_mem _ (List.mem_cons_of_mem _ (List.mem_cons_of_mem _ (List.mem_cons_of_mem _ (List.mem_cons_of_mem _ (List.mem_cons_of_mem _ List.mem_cons_self)))))))) (hB _ (List.mem_cons_of_mem _ (List.mem_cons_of_mem _ (List.mem_cons_of_mem _ (List.mem_cons_of_mem _ (List.mem_cons_of_mem _ (List.mem_cons_of_mem _ (List.mem_cons_of_mem _ (List.mem_cons_of_mem _ List.mem_cons_self))))))))) (hB _ (List.mem_cons_of_mem _ (List.mem_cons_of_mem _ (List.mem_cons_of_mem _ (List.mem_cons_of_mem _ (List.mem_cons_of_mem _ (List.mem_cons_of_mem _ (List.mem_cons_of_mem _ (List.mem_cons_of_mem _ (List.mem_cons_of_mem _ List.mem_cons_self)))))))))) (hB _ (List.mem_cons_of_mem _ (List.mem_cons_of_mem _ (List.mem_cons_of_mem _ (List.mem_cons_of_mem _ (List.mem_cons_of_mem _ (List.mem_cons_of_mem _ (List.mem_cons_of_mem _ (List.mem_cons_of_mem _ (List.mem_cons_of_mem _ (List.mem_cons_of_mem _ List.mem_cons_self))))))))))) (hB _ (List.mem_cons_of_mem _ (List.mem_cons_of_mem _ (List.mem_cons_of_mem _ (List.mem_cons_of_mem _ (List.mem_cons_of_mem _ (List.mem_cons_of_mem _ (List.mem_cons_of_mem _ (List.mem_cons_of_mem _ (List.mem_cons_of_mem _ (List.mem_cons_of_mem _ (List.mem_cons_of_mem _ List.mem_cons_self)))))))))))) (hB _ (List.mem_cons_of_mem _ (List.mem_cons_of_mem _ (List.mem_cons_of_mem _ (List.mem_cons_of_mem _ (List.mem_cons_of_mem _ (List.mem_cons_of_mem _ (List.mem_cons_of_mem _ (List.mem_cons_of_mem _ (List.mem_cons_of_mem _ (List.mem_cons_of_mem _ (List.mem_cons_of_mem _ (List.mem_cons_of_mem _ List.mem_cons_self))))))))))))) (hB _ (List.mem_cons_of_mem _ (List.mem_cons_of_mem _ (List.mem_cons_of_mem _ (List.mem_cons_of_mem _ (List.mem_cons_of_mem _ (List.mem_cons_of_mem _ (List.mem_cons_of_mem _ (List.mem_cons_of_mem _ (List.mem_cons_of_mem _ (List.mem_cons_of_mem _ (List.mem_cons_of_mem _ (List.mem_cons_of_mem _ (List.mem_cons_of_mem _ List.mem_cons_self)))))))))))))) (hB _ (List.mem_cons_of_mem _ (List.mem_cons_of_mem _ (List.mem_cons_of_mem _ (List.mem_cons_of_mem _ (List.mem_cons_of_mem _ (List.mem_cons_of_mem _ (List.mem_cons_of_mem _ (List.mem_cons_of_mem _ (List.mem_cons_of_mem _ (List.mem_cons_of_mem _ (List.mem_cons_of_mem _ (List.mem_cons_of_mem _ (List.mem_cons_of_mem _ (List.mem_cons_of_mem _ List.mem_cons_self))))))))))))))) (cvp 197 (x' := (256 * (ρ 0) + (ρ 1))) (y' := (0 : Int)) (by show 0 + (256 * ρ 0 + (1 * ρ 1 + 0)) = _; omega) (by show 0 + 0 = _; omega) (hm _ List.mem_cons_self)) (cvm (c := 42) (by decide) (x' := ((ρ 2))) (y' := ((ρ 3))) (by show 0 + (1 * ρ 2 + 0) = _; omega) (by show 0 + (1 * ρ 3 + 0) = _; omega) (hm _ (List.mem_cons_of_mem _ List.mem_cons_self))) (cvm (c := 43) (by decide) (x' := ((ρ 2))) (y' := ((ρ 4))) (by show 0 + (1 * ρ 2 + 0) = _; omega) (by show 0 + (1 * ρ 4 + 0) = _; omega) (hm _ (List.mem_cons_of_mem _ (List.mem_cons_of_mem _ List.mem_cons_self)))) (cvm (c := 44) (by decide) (x' := ((ρ 2))) (y' := ((ρ 5))) (by show 0 + (1 * ρ 2 + 0) = _; omega) (by show 0 + (1 * ρ 5 + 0) = _; omega) (hm _ (List.mem_cons_of_mem _ (List.mem_cons_of_mem _ (List.mem_cons_of_mem _ List.mem_cons_self))))) (cvm (c := 45) (by decide) (x' := ((ρ 2))) (y' := ((ρ 6))) (by show 0 + (1 * ρ 2 + 0) = _; omega) (by show 0 + (1 * ρ 6 + 0) = _; omega) (hm _ (List.mem_cons_of_mem _ (List.mem_cons_of_mem _ (List.mem_cons_of_mem _ (List.mem_cons_of_mem _ List.mem_cons_self)))))) (cvm (c := 46) (by decide) (x' := ((ρ 2))) (y' := ((ρ 7))) (by show 0 + (1 * ρ 2 + 0) = _; omega) (by show 0 + (1 * ρ 7 + 0) = _; omega) (hm _ (List.mem_cons_of_mem _ (List.mem_cons_of_mem _ (List.mem_cons_of_mem _ (List.mem_cons_of_mem _ (List.mem_cons_of_mem _ List.mem_cons_self))))))) (cvm (c := 47) (by decide) (x' := ((ρ 2))) (y' := ((ρ 8))) (by show 0 + (1 * ρ 2 + 0) = _; omega) (by show 0 + (1 * ρ 8 + 0) = _; omega) (hm _ (List.mem_cons_of_mem _ (List.mem_cons_of_mem _ (List.mem_cons_of_mem _ (List.mem_cons_of_mem _ (List.mem_cons_of_mem _ (List.mem_cons_of_mem _ List.mem_cons_self)))))))) (cvm (c := 97) (by decide) (x' := ((ρ 1))) (y' := ((ρ 9))) (by show 0 + (1 * ρ 1 + 0) = _; omega) (by show 0 + (1 * ρ 9 + 0) = _; omega) (hm _ (List.mem_cons_of_mem _ (List.mem_cons_of_mem _ (List.mem_cons_of_mem _ (List.mem_cons_of_mem _ (List.mem_cons_of_mem _ (List.mem_cons_of_mem _ (List.mem_cons_of_mem _ List.mem_cons_self))))))))) (cvm (c := 98) (by decide) (x' := ((ρ 1))) (y' := ((ρ 10))) (by show 0 + (1 * ρ 1 + 0) = _; omega) (by show 0 + (1 * ρ 10 + 0) = _; omega) (hm _ (List.mem_cons_of_mem _ (List.mem_cons_of_mem _ (List.mem_cons_of_mem _ (List.mem_cons_of_mem _ (List.mem_cons_of_mem _ (List.mem_cons_of_mem _ (List.mem_cons_of_mem _ (List.mem_cons_of_mem _ List.mem_cons_self)))))))))) (cvm (c := 99) (by decide) (x' := ((ρ 1))) (y' := ((ρ 11))) (by show 0 + (1 * ρ 1 + 0) = _; omega) (by show 0 + (1 * ρ 11 + 0) = _; omega) (hm _ (List.mem_cons_of_mem _ (List.mem_cons_of_mem _ (List.mem_cons_of_mem _ (List.mem_cons_of_mem _ (List.mem_cons_of_mem _ (List.mem_cons_of_mem _ (List.mem_cons_of_mem _ (List.mem_cons_of_mem _ (List.mem_cons_of_mem _ List.mem_cons_self))))))))))) (cvm (c := 100) (by decide) (x' := ((ρ 1))) (y' := ((ρ 12))) (by show 0 + (1 * ρ 1 + 0) = _; omega) (by show 0 + (1 * ρ 12 + 0) = _; omega) (hm _ (List.mem_cons_of_mem _ (List.mem_cons_of_mem _ (List.mem_cons_of_mem _ (List.mem_cons_of_mem _ (List.mem_cons_of_mem _ (List.mem_cons_of_mem _ (List.mem_cons_of_mem _ (List.mem_cons_of_mem _ (List.mem_cons_of_mem _ (List.mem_cons_of_mem _ List.mem_cons_self)))))))))))) (cvm (c := 101) (by decide) (x' := ((ρ 1))) (y' := ((ρ 13))) (by show 0 + (1 * ρ 1 + 0) = _; omega) (by show 0 + (1 * ρ 13 + 0) = _; omega) (hm _ (List.mem_cons_of_mem _ (List.mem_cons_of_mem _ (List.mem_cons_of_mem _ (List.mem_cons_of_mem _ (List.mem_cons_of_mem _ (List.mem_cons_of_mem _ (List.mem_cons_of_mem _ (List.mem_cons_of_mem _ (List.mem_cons_of_mem _ (List.mem_cons_of_mem _ (List.mem_cons_of_mem _ List.mem_cons_self))))))))))))) (cvm (c := 102) (by decide) (x' := ((ρ 1))) (y' := ((ρ 14))) (by show 0 + (1 * ρ 1 + 0) = _; omega) (by show 0 + (1 * ρ 14 + 0) = _; omega) (hm _ (List.mem_cons_of_mem _ (List.mem_cons_of_mem _ (List.mem_cons_of_mem _ (List.mem_cons_of_mem _ (List.mem_cons_of_mem _ (List.mem_cons_of_mem _ (List.mem_cons_of_mem _ (List.mem_cons_of_mem _ (List.mem_cons_of_mem _ (List.mem_cons_of_mem _ (List.mem_cons_of_mem _ (List.mem_cons_of_mem _ List.mem_cons_self)))))))))))))) (by have h := hF _ List.mem_cons_self; have h : 0 ≤ 0 + ((-1) * ρ 3 + (1 * ρ 9 + 0)) := h; omega) (by have h := hF _ (List.mem_cons_of_mem _ List.mem_cons_self); have h : 0 ≤ 0 + (1 * ρ 3 + ((-1) * ρ 9 + 0)) := h; omega) (by have h := hF _ (List.mem_cons_of_mem _ (List.mem_cons_of_mem _ List.mem_cons_self)); have h : 0 ≤ 0 + ((-1) * ρ 4 + (1 * ρ 10 + 0)) := h; omega) (by have h := hF _ (List.mem_cons_of_mem _ (List.mem_cons_of_mem _ (List.mem_cons_of_mem _ List.mem_cons_self))); have h : 0 ≤ 0 + (1 * ρ 4 + ((-1) * ρ 10 + 0)) := h; omega) (by have h := hF _ (List.mem_cons_of_mem _ (List.mem_cons_of_mem _ (List.mem_cons_of_mem _ (List.mem_cons_of_mem _ List.mem_cons_self)))); have h : 0 ≤ 0 + ((-1) * ρ 5 + (1 * ρ 11 + 0)) := h; omega) (by have h := hF _ (List.mem_cons_of_mem _ (List.mem_cons_of_mem _ (List.mem_cons_of_mem _ (List.mem_cons_of_mem _ (List.mem_cons_of_mem _ List.mem_cons_self))))); have h : 0 ≤ 0 + (1 * ρ 5 + ((-1) * ρ 11 + 0)) := h; omega) (by have h := hF _ (List.mem_cons_of_mem _ (List.mem_cons_of_mem _ (List.mem_cons_of_mem _ (List.mem_cons_of_mem _ (List.mem_cons_of_mem _ (List.mem_cons_of_mem _ List.mem_cons_self)))))); have h : 0 ≤ 0 + ((-1) * ρ 6 + (1 * ρ 12 + 0)) := h; omega) (by have h := hF _ (List.mem_cons_of_mem _ (List.mem_cons_of_mem _ (List.mem_cons_of_mem _ (List.mem_cons_of_mem _ (List.mem_cons_of_mem _ (List.mem_cons_of_mem _ (List.mem_cons_of_mem _ List.mem_cons_self))))))); have h : 0 ≤ 0 + (1 * ρ 6 + ((-1) * ρ 12 + 0)) := h; omega) (by have h := hF _ (List.mem_cons_of_mem _ (List.mem_cons_of_mem _ (List.mem_cons_of_mem _ (List.mem_cons_of_mem _ (List.mem_cons_of_mem _ (List.mem_cons_of_mem _ (List.mem_cons_of_mem _ (List.mem_cons_of_mem _ List.mem_cons_self)))))))); have h : 0 ≤ 0 + ((-1) * ρ 7 + (1 * ρ 13 + 0)) := h; omega) (by have h := hF _ (List.mem_cons_of_mem _ (List.mem_cons_of_mem _ (List.mem_cons_of_mem _ (List.mem_cons_of_mem _ (List.mem_cons_of_mem _ (List.mem_cons_of_mem _ (List.mem_cons_of_mem _ (List.mem_cons_of_mem _ (List.mem_cons_of_mem _ List.mem_cons_self))))))))); have h : 0 ≤ 0 + (1 * ρ 7 + ((-1) * ρ 13 + 0)) := h; omega) (by have h := hF _ (List.mem_cons_of_mem _ (List.mem_cons_of_mem _ (List.mem_cons_of_mem _ (List.mem_cons_of_mem _ (List.mem_cons_of_mem _ (List.mem_cons_of_mem _ (List.mem_cons_of_mem _ (List.mem_cons_of_mem _ (List.mem_cons_of_mem _ (List.mem_cons_of_mem _ List.mem_cons_self)))))))))); have h : 0 ≤ 0 + ((-1) * ρ 8 + (1 * ρ 14 + 0)) := h; omega) (by have h := hF _ (List.mem_cons_of_mem _ (List.mem_cons_of_mem _ (List.mem_cons_of_mem _ (List.mem_cons_of_mem _ (List.mem_cons_of_mem _ (List.mem_cons_of_mem _ (List.mem_cons_of_mem _ (List.mem_cons_of_mem _ (List.mem_cons_of_mem _ (List.mem_cons_of_mem _ (List.mem_cons_of_mem _ List.mem_cons_self))))))))))); have h : 0 ≤ 0 + (1 * ρ 8 + ((-1) * ρ 14 + 0)) := h; omega) (by have h := hF _ (List.mem_cons_of_mem _ (List.mem_cons_of_mem _ (List.mem_cons_of_mem _ (List.mem_cons_of_mem _ (List.mem_cons_of_mem _ (List.mem_cons_of_mem _ (List.mem_cons_of_mem _ (List.mem_cons_of_mem _ (List.mem_cons_of_mem _ (List.mem_cons_of_mem _ (List.mem_cons_of_mem _ (List.mem_cons_of_mem _ List.mem_cons_self)))))))))))); have h : 0 ≤ 0 + (1 * ρ 1 + ((-1) * ρ 2 + 0)) := h; omega) (by have h := hF _ (List.mem_cons_of_mem _ (List.mem_cons_of_mem _ (List.mem_cons_of_mem _ (List.mem_cons_of_mem _ (List.mem_cons_of_mem _ (List.mem_cons_of_mem _ (List.mem_cons_of_mem _ (List.mem_cons_of_mem _ (List.mem_cons_of_mem _ (List.mem_cons_of_mem _ (List.mem_cons_of_mem _ (List.mem_cons_of_mem _ (List.mem_cons_of_mem _ List.mem_cons_self))))))))))))); have h : 0 ≤ 0 + ((-1) * ρ 1 + (1 * ρ 2 + 0)) := h; omega) hG
  obtain ⟨k0, -⟩ := H
  exact ⟨_, List.mem_cons_self, ρ, fun _ _ => rfl, (okM_c (pvp 197 (by show 1 + (256 * ρ 0 + (1 * ρ 1 + 0)) = _; omega) (by show 0 + 0 = _; omega) k0) okM_n), okB_n, okF_n⟩
-- tqu
theorem cr_850 (M : pM) (s0 s1 s2 s3 s4 : Int) (b0 : 0 ≤ s0 ∧ s0 ≤ 8) (b1 : 0 ≤ s1 ∧ s1 ≤ 200) (b2 : 0 ≤ s2 ∧ s2 ≤ 199) (b3 : (-2147483648) ≤ s3 ∧ s3 ≤ 2147483647) (b4 : (-2147483648) ≤ s4 ∧ s4 ≤ 2147483647) (m0 : HP 197 (256 * s0 + s1) (0 : Int) M) (m1 : (0 ≤ (s2) ∧ M 47 (s2).toNat = (s3))) (m2 : (0 ≤ (s2) ∧ M 102 (s2).toNat = (s4))) (f0 : 0 ≤ (s1 + (-1) * s2 - 1)) (hG : gI M) : (0 ≤ ((-1) * s3 + s4) ∧ 0 ≤ (s3 + (-1) * s4) ∧ True) := by
  have hq := tq_o (P := s0.toNat) (F := s1.toNat) m0 ⟨by omega, by omega⟩
  have h := (hq.2 s2.toNat (by omega)).2
  rw [m1.2, m2.2] at h
  exact ⟨by omega, by omega, trivial⟩
theorem rul_850 : Rul r_850 := by
  refine ⟨fun _ ρ M hm hB hF hG => ?_, fun gi gv hg => (by cases hg)⟩
  have H := cr_850 M (ρ 0) (ρ 1) (ρ 2) (ρ 3) (ρ 4) (hB _ List.mem_cons_self) (hB _ (List.mem_cons_of_mem _ List.mem_cons_self)) (hB _ (List.mem_cons_of_mem _ (List.mem_cons_of_mem _ List.mem_cons_self))) (hB _ (List.mem_cons_of_mem _ (List.mem_cons_of_mem _ (List.mem_cons_of_mem _ List.mem_cons_self)))) (hB _ (List.mem_cons_of_mem _ (List.mem_cons_of_mem _ (List.mem_cons_of_mem _ (List.mem_cons_of_mem _ List.mem_cons_self))))) (cvp 197 (x' := (256 * (ρ 0) + (ρ 1))) (y' := (0 : Int)) (by show 0 + (256 * ρ 0 + (1 * ρ 1 + 0)) = _; omega) (by show 0 + 0 = _; omega) (hm _ List.mem_cons_self)) (cvm (c := 47) (by decide) (x' := ((ρ 2))) (y' := ((ρ 3))) (by show 0 + (1 * ρ 2 + 0) = _; omega) (by show 0 + (1 * ρ 3 + 0) = _; omega) (hm _ (List.mem_cons_of_mem _ List.mem_cons_self))) (cvm (c := 102) (by decide) (x' := ((ρ 2))) (y' := ((ρ 4))) (by show 0 + (1 * ρ 2 + 0) = _; omega) (by show 0 + (1 * ρ 4 + 0) = _; omega) (hm _ (List.mem_cons_of_mem _ (List.mem_cons_of_mem _ List.mem_cons_self)))) (by have h := hF _ List.mem_cons_self; have h : 0 ≤ (-1) + (1 * ρ 1 + ((-1) * ρ 2 + 0)) := h; omega) hG
  obtain ⟨f0, f1, -⟩ := H
  exact ⟨_, List.mem_cons_self, ρ, fun _ _ => rfl, okM_n, okB_n, (okF_c (by show 0 ≤ 0 + ((-1) * ρ 3 + (1 * ρ 4 + 0)); omega) (okF_c (by show 0 ≤ 0 + (1 * ρ 3 + ((-1) * ρ 4 + 0)); omega) okF_n))⟩
-- txw
theorem cr_851 (M : pM) (s0 s1 s2 s3 s4 : Int) (b0 : 0 ≤ s0 ∧ s0 ≤ 8) (b1 : 0 ≤ s1 ∧ s1 ≤ 200) (b2 : 0 ≤ s2 ∧ s2 ≤ 199) (b3 : (-1) ≤ s3 ∧ s3 ≤ (-1)) (b4 : 0 ≤ s4 ∧ s4 ≤ 100000) (m0 : HP 197 (256 * s0 + s1) (0 : Int) M) (m1 : (0 ≤ (s2) ∧ M 47 (s2).toNat = (s3))) (f0 : 0 ≤ (s1 + (-1) * s2 - 1)) (hG : gI M) : (HP 198 (256 * s0 + s1) (s2) (st M 47 (s2).toNat (s4)) ∧ (0 ≤ (s2) ∧ (st M 47 (s2).toNat (s4)) 47 (s2).toNat = (s4)) ∧ True) := by
  have hq := tq_o (P := s0.toNat) (F := s1.toNat) m0 ⟨by omega, by omega⟩
  have h := (hq.2 s2.toNat (by omega)).2
  rw [m1.2] at h
  refine ⟨Eq.mpr hp_198 ⟨s0.toNat, s1.toNat, s2.toNat, by omega, by omega, by omega, by omega, by omega, fun j hj => ?_, fun j hj => ⟨qt5_c (fun c hc => stq_ne (fun ⟨e1, e2⟩ => by omega)) (hq.2 j hj).1, fun hn => ?_⟩, ?_⟩, ⟨by omega, ?_⟩, trivial⟩
  · rw [stq_ne (by omega), stq_ne (by omega)]; exact hq.1 j hj
  · rw [stq_ne (by omega), stq_ne (by omega)]; exact (hq.2 j hj).2
  · rw [stq_ne (by omega)]; omega
  · rw [cw0, if_pos rfl]
theorem rul_851 : Rul r_851 := by
  refine ⟨fun h => (by cases h), fun gi gv hg ρ M hm hB hF hG => ?_⟩
  obtain ⟨g1, g2⟩ := List.cons.inj (show ([aI ((0 : Int), ([(2, 1)] : List (Nat × Int))), aI ((0 : Int), ([(4, 1)] : List (Nat × Int)))] : List av) = [.inl gi, .inl gv] from hg)
  obtain ⟨g2, -⟩ := List.cons.inj g2
  cases g1
  cases g2
  have ei : ev ρ ((0 : Int), ([(2, 1)] : List (Nat × Int))) = ((ρ 2)) := by show 0 + (1 * ρ 2 + 0) = _; omega
  have ew : ev ρ ((0 : Int), ([(4, 1)] : List (Nat × Int))) = ((ρ 4)) := by show 0 + (1 * ρ 4 + 0) = _; omega
  rw [show (st M (ctj r_851) (ev ρ ((0 : Int), ([(2, 1)] : List (Nat × Int)))).toNat (ev ρ ((0 : Int), ([(4, 1)] : List (Nat × Int))))) = (st M 47 ((ρ 2)).toNat ((ρ 4))) from by rw [ei, ew]; rfl]
  have H := cr_851 M (ρ 0) (ρ 1) (ρ 2) (ρ 3) (ρ 4) (hB _ List.mem_cons_self) (hB _ (List.mem_cons_of_mem _ List.mem_cons_self)) (hB _ (List.mem_cons_of_mem _ (List.mem_cons_of_mem _ List.mem_cons_self))) (hB _ (List.mem_cons_of_mem _ (List.mem_cons_of_mem _ (List.mem_cons_of_mem _ List.mem_cons_self)))) (hB _ (List.mem_cons_of_mem _ (List.mem_cons_of_mem _ (List.mem_cons_of_mem _ (List.mem_cons_of_mem _ List.mem_cons_self))))) (cvp 197 (x' := (256 * (ρ 0) + (ρ 1))) (y' := (0 : Int)) (by show 0 + (256 * ρ 0 + (1 * ρ 1 + 0)) = _; omega) (by show 0 + 0 = _; omega) (hm _ List.mem_cons_self)) (cvm (c := 47) (by decide) (x' := ((ρ 2))) (y' := ((ρ 3))) (by show 0 + (1 * ρ 2 + 0) = _; omega) (by show 0 + (1 * ρ 3 + 0) = _; omega) (hm _ (List.mem_cons_of_mem _ List.mem_cons_self))) (by have h := hF _ List.mem_cons_self; have h : 0 ≤ (-1) + (1 * ρ 1 + ((-1) * ρ 2 + 0)) := h; omega) hG
  obtain ⟨k0, k1, -⟩ := H
  exact ⟨_, List.mem_cons_self, ρ, fun _ _ => rfl, (okM_c (pvp 198 (by show 0 + (256 * ρ 0 + (1 * ρ 1 + 0)) = _; omega) (by show 0 + (1 * ρ 2 + 0) = _; omega) k0) (okM_c (pvm (c := 47) (by decide) (by show 0 + (1 * ρ 2 + 0) = _; omega) (by show 0 + (1 * ρ 4 + 0) = _; omega) k1) okM_n)), okB_n, okF_n⟩
-- txr
theorem cr_852 (M : pM) (s0 s1 s2 s3 : Int) (b0 : 0 ≤ s0 ∧ s0 ≤ 8) (b1 : 0 ≤ s1 ∧ s1 ≤ 200) (b2 : 0 ≤ s2 ∧ s2 ≤ 199) (b3 : (-2147483648) ≤ s3 ∧ s3 ≤ 2147483647) (m0 : HP 198 (256 * s0 + s1) (s2) M) (m1 : (0 ≤ (s2) ∧ M 102 (s2).toNat = (s3))) (hG : gI M) : (0 ≤ ((-1) * s3 - 1) ∧ 0 ≤ (s3 + 1) ∧ True) := by
  obtain ⟨hq, hi⟩ := tx_o (P := s0.toNat) (F := s1.toNat) (i := s2.toNat) m0 ⟨by omega, by omega⟩ (by omega)
  have h := hq.2.2
  rw [m1.2] at h
  exact ⟨by omega, by omega, trivial⟩
theorem rul_852 : Rul r_852 := by
  refine ⟨fun _ ρ M hm hB hF hG => ?_, fun gi gv hg => (by cases hg)⟩
  have H := cr_852 M (ρ 0) (ρ 1) (ρ 2) (ρ 3) (hB _ List.mem_cons_self) (hB _ (List.mem_cons_of_mem _ List.mem_cons_self)) (hB _ (List.mem_cons_of_mem _ (List.mem_cons_of_mem _ List.mem_cons_self))) (hB _ (List.mem_cons_of_mem _ (List.mem_cons_of_mem _ (List.mem_cons_of_mem _ List.mem_cons_self)))) (cvp 198 (x' := (256 * (ρ 0) + (ρ 1))) (y' := ((ρ 2))) (by show 0 + (256 * ρ 0 + (1 * ρ 1 + 0)) = _; omega) (by show 0 + (1 * ρ 2 + 0) = _; omega) (hm _ List.mem_cons_self)) (cvm (c := 102) (by decide) (x' := ((ρ 2))) (y' := ((ρ 3))) (by show 0 + (1 * ρ 2 + 0) = _; omega) (by show 0 + (1 * ρ 3 + 0) = _; omega) (hm _ (List.mem_cons_of_mem _ List.mem_cons_self))) hG
  obtain ⟨f0, f1, -⟩ := H
  exact ⟨_, List.mem_cons_self, ρ, fun _ _ => rfl, okM_n, okB_n, (okF_c (by show 0 ≤ (-1) + ((-1) * ρ 3 + 0); omega) (okF_c (by show 0 ≤ 1 + (1 * ρ 3 + 0); omega) okF_n))⟩
-- txq
theorem cr_853 (M : pM) (s0 s1 s2 s3 s4 : Int) (b0 : 0 ≤ s0 ∧ s0 ≤ 8) (b1 : 0 ≤ s1 ∧ s1 ≤ 200) (b2 : 0 ≤ s2 ∧ s2 ≤ 199) (b3 : 0 ≤ s3 ∧ s3 ≤ 100000) (b4 : 0 ≤ s4 ∧ s4 ≤ 100000) (m0 : HP 198 (256 * s0 + s1) (s2) M) (m1 : (0 ≤ (s2) ∧ M 47 (s2).toNat = (s4))) (f0 : 0 ≤ (s3 + (-1) * s4)) (f1 : 0 ≤ ((-1) * s3 + s4)) (hG : gI M) : (HP 197 (256 * s0 + s1) (0 : Int) (st M 102 (s2).toNat (s3)) ∧ True) := by
  obtain ⟨hq, hi⟩ := tx_o (P := s0.toNat) (F := s1.toNat) (i := s2.toNat) m0 ⟨by omega, by omega⟩ (by omega)
  have e7 := m1.2
  refine ⟨Eq.mpr hp_197 ⟨s0.toNat, s1.toNat, by omega, by omega, by omega, fun j hj => ?_, fun j hj => ⟨qt5_c (fun c hc => stq_ne (fun ⟨e1, e2⟩ => by omega)) (hq.2.1 j hj).1, ?_⟩⟩, trivial⟩
  · rw [stq_ne (by omega), stq_ne (by omega)]; exact hq.1 j hj
  · by_cases e : j = s2.toNat
    · rw [e, stq_ne (by omega), cw0, if_pos rfl, e7]; omega
    · rw [stq_ne (by omega), stq_ne (by omega)]; exact (hq.2.1 j hj).2 e
theorem rul_853 : Rul r_853 := by
  refine ⟨fun h => (by cases h), fun gi gv hg ρ M hm hB hF hG => ?_⟩
  obtain ⟨g1, g2⟩ := List.cons.inj (show ([aI ((0 : Int), ([(2, 1)] : List (Nat × Int))), aI ((0 : Int), ([(3, 1)] : List (Nat × Int)))] : List av) = [.inl gi, .inl gv] from hg)
  obtain ⟨g2, -⟩ := List.cons.inj g2
  cases g1
  cases g2
  have ei : ev ρ ((0 : Int), ([(2, 1)] : List (Nat × Int))) = ((ρ 2)) := by show 0 + (1 * ρ 2 + 0) = _; omega
  have ew : ev ρ ((0 : Int), ([(3, 1)] : List (Nat × Int))) = ((ρ 3)) := by show 0 + (1 * ρ 3 + 0) = _; omega
  rw [show (st M (ctj r_853) (ev ρ ((0 : Int), ([(2, 1)] : List (Nat × Int)))).toNat (ev ρ ((0 : Int), ([(3, 1)] : List (Nat × Int))))) = (st M 102 ((ρ 2)).toNat ((ρ 3))) from by rw [ei, ew]; rfl]
  have H := cr_853 M (ρ 0) (ρ 1) (ρ 2) (ρ 3) (ρ 4) (hB _ List.mem_cons_self) (hB _ (List.mem_cons_of_mem _ List.mem_cons_self)) (hB _ (List.mem_cons_of_mem _ (List.mem_cons_of_mem _ List.mem_cons_self))) (hB _ (List.mem_cons_of_mem _ (List.mem_cons_of_mem _ (List.mem_cons_of_mem _ List.mem_cons_self)))) (hB _ (List.mem_cons_of_mem _ (List.mem_cons_of_mem _ (List.mem_cons_of_mem _ (List.mem_cons_of_mem _ List.mem_cons_self))))) (cvp 198 (x' := (256 * (ρ 0) + (ρ 1))) (y' := ((ρ 2))) (by show 0 + (256 * ρ 0 + (1 * ρ 1 + 0)) = _; omega) (by show 0 + (1 * ρ 2 + 0) = _; omega) (hm _ List.mem_cons_self)) (cvm (c := 47) (by decide) (x' := ((ρ 2))) (y' := ((ρ 4))) (by show 0 + (1 * ρ 2 + 0) = _; omega) (by show 0 + (1 * ρ 4 + 0) = _; omega) (hm _ (List.mem_cons_of_mem _ List.mem_cons_self))) (by have h := hF _ List.mem_cons_self; have h : 0 ≤ 0 + (1 * ρ 3 + ((-1) * ρ 4 + 0)) := h; omega) (by have h := hF _ (List.mem_cons_of_mem _ List.mem_cons_self); have h : 0 ≤ 0 + ((-1) * ρ 3 + (1 * ρ 4 + 0)) := h; omega) hG
  obtain ⟨k0, -⟩ := H
  exact ⟨_, List.mem_cons_self, ρ, fun _ _ => rfl, (okM_c (pvp 197 (by show 0 + (256 * ρ 0 + (1 * ρ 1 + 0)) = _; omega) (by show 0 + 0 = _; omega) k0) okM_n), okB_n, okF_n⟩
-- txx
theorem cr_854 (M : pM) (s0 s1 s2 : Int) (b0 : 0 ≤ s0 ∧ s0 ≤ 2500) (b1 : 0 ≤ s1 ∧ s1 ≤ 2500) (b2 : 0 ≤ s2 ∧ s2 ≤ 199) (m0 : HP 198 (s0) (s2) M) (f0 : 0 ≤ ((-1) * s0 + s1)) (f1 : 0 ≤ (s0 + (-1) * s1)) (hG : gI M) : (HP 198 (s1) (s2) M ∧ True) := by
  have e : s0 = s1 := by omega
  subst e
  exact ⟨m0, trivial⟩
theorem rul_854 : Rul r_854 := by
  refine ⟨fun _ ρ M hm hB hF hG => ?_, fun gi gv hg => (by cases hg)⟩
  have H := cr_854 M (ρ 0) (ρ 1) (ρ 2) (hB _ List.mem_cons_self) (hB _ (List.mem_cons_of_mem _ List.mem_cons_self)) (hB _ (List.mem_cons_of_mem _ (List.mem_cons_of_mem _ List.mem_cons_self))) (cvp 198 (x' := ((ρ 0))) (y' := ((ρ 2))) (by show 0 + (1 * ρ 0 + 0) = _; omega) (by show 0 + (1 * ρ 2 + 0) = _; omega) (hm _ List.mem_cons_self)) (by have h := hF _ List.mem_cons_self; have h : 0 ≤ 0 + ((-1) * ρ 0 + (1 * ρ 1 + 0)) := h; omega) (by have h := hF _ (List.mem_cons_of_mem _ List.mem_cons_self); have h : 0 ≤ 0 + (1 * ρ 0 + ((-1) * ρ 1 + 0)) := h; omega) hG
  obtain ⟨k0, -⟩ := H
  exact ⟨_, List.mem_cons_self, ρ, fun _ _ => rfl, (okM_c (pvp 198 (by show 0 + (1 * ρ 1 + 0) = _; omega) (by show 0 + (1 * ρ 2 + 0) = _; omega) k0) okM_n), okB_n, okF_n⟩
-- tqx
theorem cr_855 (M : pM) (s0 s1 : Int) (b0 : 0 ≤ s0 ∧ s0 ≤ 2500) (b1 : 0 ≤ s1 ∧ s1 ≤ 2500) (m0 : HP 197 (s0) (0 : Int) M) (f0 : 0 ≤ ((-1) * s0 + s1)) (f1 : 0 ≤ (s0 + (-1) * s1)) (hG : gI M) : (HP 197 (s1) (0 : Int) M ∧ True) := by
  have e : s0 = s1 := by omega
  subst e
  exact ⟨m0, trivial⟩
theorem rul_855 : Rul r_855 := by
  refine ⟨fun _ ρ M hm hB hF hG => ?_, fun gi gv hg => (by cases hg)⟩
  have H := cr_855 M (ρ 0) (ρ 1) (hB _ List.mem_cons_self) (hB _ (List.mem_cons_of_mem _ List.mem_cons_self)) (cvp 197 (x' := ((ρ 0))) (y' := (0 : Int)) (by show 0 + (1 * ρ 0 + 0) = _; omega) (by show 0 + 0 = _; omega) (hm _ List.mem_cons_self)) (by have h := hF _ List.mem_cons_self; have h : 0 ≤ 0 + ((-1) * ρ 0 + (1 * ρ 1 + 0)) := h; omega) (by have h := hF _ (List.mem_cons_of_mem _ List.mem_cons_self); have h : 0 ≤ 0 + (1 * ρ 0 + ((-1) * ρ 1 + 0)) := h; omega) hG
  obtain ⟨k0, -⟩ := H
  exact ⟨_, List.mem_cons_self, ρ, fun _ _ => rfl, (okM_c (pvp 197 (by show 0 + (1 * ρ 1 + 0) = _; omega) (by show 0 + 0 = _; omega) k0) okM_n), okB_n, okF_n⟩
-- cf0
theorem cr_856 (M : pM) (s0 : Int) (b0 : 0 ≤ s0 ∧ s0 ≤ 1900) (hG : gI M) : (HP 97 (8 * s0) (0 : Int) M ∧ True) := by
  exact ⟨Eq.mpr hp_97 ⟨s0.toNat, 0, by omega, by decide, by omega, rfl⟩, trivial⟩
theorem rul_856 : Rul r_856 := by
  refine ⟨fun _ ρ M hm hB hF hG => ?_, fun gi gv hg => (by cases hg)⟩
  have H := cr_856 M (ρ 0) (hB _ List.mem_cons_self) hG
  obtain ⟨k0, -⟩ := H
  exact ⟨_, List.mem_cons_self, ρ, fun _ _ => rfl, (okM_c (pvp 97 (by show 0 + (8 * ρ 0 + 0) = _; omega) (by show 0 + 0 = _; omega) k0) okM_n), okB_n, okF_n⟩
-- qf0
theorem cr_857 (M : pM) (s0 s1 : Int) (b0 : 0 ≤ s0 ∧ s0 ≤ 1900) (b1 : (-2147483648) ≤ s1 ∧ s1 ≤ 2147483647) (hG : gI M) : (HP 96 (8 * s0) (s1) M ∧ True) := by
  exact ⟨Eq.mpr hp_96 ⟨s0.toNat, 0, by omega, by decide, by omega, fun j hj => by omega⟩, trivial⟩
theorem rul_857 : Rul r_857 := by
  refine ⟨fun _ ρ M hm hB hF hG => ?_, fun gi gv hg => (by cases hg)⟩
  have H := cr_857 M (ρ 0) (ρ 1) (hB _ List.mem_cons_self) (hB _ (List.mem_cons_of_mem _ List.mem_cons_self)) hG
  obtain ⟨k0, -⟩ := H
  exact ⟨_, List.mem_cons_self, ρ, fun _ _ => rfl, (okM_c (pvp 96 (by show 0 + (8 * ρ 0 + 0) = _; omega) (by show 0 + (1 * ρ 1 + 0) = _; omega) k0) okM_n), okB_n, okF_n⟩
-- and255
theorem cr_858 (M : pM) (s0 s1 : Int) (b0 : (-2147483648) ≤ s0 ∧ s0 ≤ 2147483647) (b1 : (-2147483648) ≤ s1 ∧ s1 ≤ 2147483647) (m0 : HP 100 (4294967296 * s0 + 255) (s1) M) (hG : gI M) : (0 ≤ (s1) ∧ 0 ≤ ((-1) * s1 + 255) ∧ True) := by
  have e := n_and (a := s0) (b := 255) m0 (by omega) (by unfold r32; omega)
  have h := and255_bd s0
  rw [← e] at h
  exact ⟨by omega, by omega, trivial⟩
theorem rul_858 : Rul r_858 := by
  refine ⟨fun _ ρ M hm hB hF hG => ?_, fun gi gv hg => (by cases hg)⟩
  have H := cr_858 M (ρ 0) (ρ 1) (hB _ List.mem_cons_self) (hB _ (List.mem_cons_of_mem _ List.mem_cons_self)) (cvp 100 (x' := (4294967296 * (ρ 0) + 255)) (y' := ((ρ 1))) (by show 255 + (4294967296 * ρ 0 + 0) = _; omega) (by show 0 + (1 * ρ 1 + 0) = _; omega) (hm _ List.mem_cons_self)) hG
  obtain ⟨f0, f1, -⟩ := H
  exact ⟨_, List.mem_cons_self, ρ, fun _ _ => rfl, okM_n, okB_n, (okF_c (by show 0 ≤ 0 + (1 * ρ 1 + 0); omega) (okF_c (by show 0 ≤ 255 + ((-1) * ρ 1 + 0); omega) okF_n))⟩
-- i2bf
theorem cr_859 (M : pM) (s0 s1 : Int) (b0 : (-2147483648) ≤ s0 ∧ s0 ≤ 2147483647) (b1 : (-2147483648) ≤ s1 ∧ s1 ≤ 2147483647) (m0 : HP 120 (s0) (s1) M) (hG : gI M) : (0 ≤ (s1 + 128) ∧ 0 ≤ ((-1) * s1 + 127) ∧ True) := by
  have e := n_i2b m0
  unfold w8 at e
  exact ⟨by omega, by omega, trivial⟩
theorem rul_859 : Rul r_859 := by
  refine ⟨fun _ ρ M hm hB hF hG => ?_, fun gi gv hg => (by cases hg)⟩
  have H := cr_859 M (ρ 0) (ρ 1) (hB _ List.mem_cons_self) (hB _ (List.mem_cons_of_mem _ List.mem_cons_self)) (cvp 120 (x' := ((ρ 0))) (y' := ((ρ 1))) (by show 0 + (1 * ρ 0 + 0) = _; omega) (by show 0 + (1 * ρ 1 + 0) = _; omega) (hm _ List.mem_cons_self)) hG
  obtain ⟨f0, f1, -⟩ := H
  exact ⟨_, List.mem_cons_self, ρ, fun _ _ => rfl, okM_n, okB_n, (okF_c (by show 0 ≤ 128 + (1 * ρ 1 + 0); omega) (okF_c (by show 0 ≤ 127 + ((-1) * ρ 1 + 0); omega) okF_n))⟩
-- and3
theorem cr_860 (M : pM) (s0 s1 : Int) (b0 : 0 ≤ s0 ∧ s0 ≤ 19) (b1 : (-2147483648) ≤ s1 ∧ s1 ≤ 2147483647) (m0 : HP 100 (4294967296 * s0 + 3) (s1) M) (hG : gI M) : (0 ≤ (s0) ∧ 0 ≤ ((-1) * s0 + 3) ∧ 0 ≤ (s0 + (-1) * s1) ∧ 0 ≤ ((-1) * s0 + s1) ∧ True) ∨ (0 ≤ (s0 - 4) ∧ 0 ≤ ((-1) * s0 + 7) ∧ 0 ≤ (s0 + (-1) * s1 - 4) ∧ 0 ≤ ((-1) * s0 + s1 + 4) ∧ True) ∨ (0 ≤ (s0 - 8) ∧ 0 ≤ ((-1) * s0 + 11) ∧ 0 ≤ (s0 + (-1) * s1 - 8) ∧ 0 ≤ ((-1) * s0 + s1 + 8) ∧ True) ∨ (0 ≤ (s0 - 12) ∧ 0 ≤ ((-1) * s0 + 15) ∧ 0 ≤ (s0 + (-1) * s1 - 12) ∧ 0 ≤ ((-1) * s0 + s1 + 12) ∧ True) ∨ (0 ≤ (s0 - 16) ∧ 0 ≤ ((-1) * s0 + 19) ∧ 0 ≤ (s0 + (-1) * s1 - 16) ∧ 0 ≤ ((-1) * s0 + s1 + 16) ∧ True) := by
  have e := n_and (a := s0) (b := 3) m0 (by omega) (by unfold r32; omega)
  have h : s1 = s0 - 4 * (s0 / 4) := by
    have hk := (by decide +kernel : ∀ k : Nat, k < 20 → (Int32.ofInt (k : Nat) &&& Int32.ofInt 3).toInt = (k : Int) - 4 * ((k : Int) / 4)) s0.toNat (by omega)
    rw [show ((s0.toNat : Nat) : Int) = s0 by omega] at hk
    rw [e]; exact hk
  have hq : s0 / 4 = 0 ∨ s0 / 4 = 1 ∨ s0 / 4 = 2 ∨ s0 / 4 = 3 ∨ s0 / 4 = 4 := by omega
  rcases hq with q | q | q | q | q
  · exact Or.inl ⟨by omega, by omega, by omega, by omega, trivial⟩
  · exact Or.inr (Or.inl ⟨by omega, by omega, by omega, by omega, trivial⟩)
  · exact Or.inr (Or.inr (Or.inl ⟨by omega, by omega, by omega, by omega, trivial⟩))
  · exact Or.inr (Or.inr (Or.inr (Or.inl ⟨by omega, by omega, by omega, by omega, trivial⟩)))
  · exact Or.inr (Or.inr (Or.inr (Or.inr (⟨by omega, by omega, by omega, by omega, trivial⟩))))
theorem rul_860 : Rul r_860 := by
  refine ⟨fun _ ρ M hm hB hF hG => ?_, fun gi gv hg => (by cases hg)⟩
  have H := cr_860 M (ρ 0) (ρ 1) (hB _ List.mem_cons_self) (hB _ (List.mem_cons_of_mem _ List.mem_cons_self)) (cvp 100 (x' := (4294967296 * (ρ 0) + 3)) (y' := ((ρ 1))) (by show 3 + (4294967296 * ρ 0 + 0) = _; omega) (by show 0 + (1 * ρ 1 + 0) = _; omega) (hm _ List.mem_cons_self)) hG
  rcases H with H | H
  · skip
    obtain ⟨f0, f1, f2, f3, -⟩ := H
    exact ⟨_, List.mem_cons_self, ρ, fun _ _ => rfl, okM_n, okB_n, (okF_c (by show 0 ≤ 0 + (1 * ρ 0 + 0); omega) (okF_c (by show 0 ≤ 3 + ((-1) * ρ 0 + 0); omega) (okF_c (by show 0 ≤ 0 + (1 * ρ 0 + ((-1) * ρ 1 + 0)); omega) (okF_c (by show 0 ≤ 0 + ((-1) * ρ 0 + (1 * ρ 1 + 0)); omega) okF_n))))⟩
  rcases H with H | H
  · skip
    obtain ⟨f0, f1, f2, f3, -⟩ := H
    exact ⟨_, (List.mem_cons_of_mem _ List.mem_cons_self), ρ, fun _ _ => rfl, okM_n, okB_n, (okF_c (by show 0 ≤ (-4) + (1 * ρ 0 + 0); omega) (okF_c (by show 0 ≤ 7 + ((-1) * ρ 0 + 0); omega) (okF_c (by show 0 ≤ (-4) + (1 * ρ 0 + ((-1) * ρ 1 + 0)); omega) (okF_c (by show 0 ≤ 4 + ((-1) * ρ 0 + (1 * ρ 1 + 0)); omega) okF_n))))⟩
  rcases H with H | H
  · skip
    obtain ⟨f0, f1, f2, f3, -⟩ := H
    exact ⟨_, (List.mem_cons_of_mem _ (List.mem_cons_of_mem _ List.mem_cons_self)), ρ, fun _ _ => rfl, okM_n, okB_n, (okF_c (by show 0 ≤ (-8) + (1 * ρ 0 + 0); omega) (okF_c (by show 0 ≤ 11 + ((-1) * ρ 0 + 0); omega) (okF_c (by show 0 ≤ (-8) + (1 * ρ 0 + ((-1) * ρ 1 + 0)); omega) (okF_c (by show 0 ≤ 8 + ((-1) * ρ 0 + (1 * ρ 1 + 0)); omega) okF_n))))⟩
  rcases H with H | H
  · skip
    obtain ⟨f0, f1, f2, f3, -⟩ := H
    exact ⟨_, (List.mem_cons_of_mem _ (List.mem_cons_of_mem _ (List.mem_cons_of_mem _ List.mem_cons_self))), ρ, fun _ _ => rfl, okM_n, okB_n, (okF_c (by show 0 ≤ (-12) + (1 * ρ 0 + 0); omega) (okF_c (by show 0 ≤ 15 + ((-1) * ρ 0 + 0); omega) (okF_c (by show 0 ≤ (-12) + (1 * ρ 0 + ((-1) * ρ 1 + 0)); omega) (okF_c (by show 0 ≤ 12 + ((-1) * ρ 0 + (1 * ρ 1 + 0)); omega) okF_n))))⟩
  · skip
    obtain ⟨f0, f1, f2, f3, -⟩ := H
    exact ⟨_, (List.mem_cons_of_mem _ (List.mem_cons_of_mem _ (List.mem_cons_of_mem _ (List.mem_cons_of_mem _ List.mem_cons_self)))), ρ, fun _ _ => rfl, okM_n, okB_n, (okF_c (by show 0 ≤ (-16) + (1 * ρ 0 + 0); omega) (okF_c (by show 0 ≤ 19 + ((-1) * ρ 0 + 0); omega) (okF_c (by show 0 ≤ (-16) + (1 * ρ 0 + ((-1) * ρ 1 + 0)); omega) (okF_c (by show 0 ≤ 16 + ((-1) * ρ 0 + (1 * ρ 1 + 0)); omega) okF_n))))⟩
-- fdw
theorem cr_861 (M : pM) (s0 s1 s2 s3 s4 s5 s6 s7 : Int) (b0 : 0 ≤ s0 ∧ s0 ≤ 1900) (b1 : 0 ≤ s1 ∧ s1 ≤ 4) (b3 : 0 ≤ s3 ∧ s3 ≤ 1900) (b4 : 0 ≤ s4 ∧ s4 ≤ 3) (b5 : (-2147483648) ≤ s5 ∧ s5 ≤ 2147483647) (b6 : (-2147483648) ≤ s6 ∧ s6 ≤ 2147483647) (b7 : 0 ≤ s7 ∧ s7 ≤ 255) (m0 : HP 96 (8 * s3 + s4) (s5) M) (m1 : HP 97 (8 * s0 + s1) (s2) M) (m2 : HP 41 (s0) (0 : Int) M) (m3 : HP 105 ((-8) * s4 + 4294967296 * s5 + 24) (s6) M) (m4 : HP 100 (4294967296 * s6 + 255) (s7) M) (f0 : 0 ≤ (s0 + 4 * s1 + (-1) * s3)) (f1 : 0 ≤ ((-1) * s0 + (-4) * s1 + s3)) (hG : gI M) : (HP 96 (8 * s3 + s4 + 1) (s5) (st M 1 (s3 + s4).toNat (s7)) ∧ HP 97 (8 * s0 + s1) (s2) (st M 1 (s3 + s4).toNat (s7)) ∧ HP 41 (s0) (0 : Int) (st M 1 (s3 + s4).toNat (s7)) ∧ True) := by
  obtain ⟨p, gg, h1, h2, h3, h4⟩ := Eq.mp hp_96 m0
  obtain ⟨x, k, k1, k2, k3, k4⟩ := Eq.mp hp_97 m1
  obtain ⟨t1, t2, t3⟩ := Eq.mp hp_41 m2
  have eg : gg = s4.toNat := by omega
  have ep : p = s3.toNat := by omega
  have ex : x = s0.toNat := by omega
  have ek : k = s1.toNat := by omega
  have b1 := n_ushr (a := s5) (b := 24 - 8 * (gg : Int)) m3 (by omega) (by unfold r32; omega)
  have b2 := n_and (a := s6) (b := 255) m4 (by omega) (by unfold r32; omega)
  have hz : s7 = qby s5 gg := by rw [b2, b1]; rfl
  have hn : ∀ j : Nat, j ≠ (s3 + s4).toNat → st M 1 (s3 + s4).toNat (s7) 1 j = M 1 j := fun j hj => if_neg (fun h => hj h.2)
  refine ⟨Eq.mpr hp_96 ⟨p, gg + 1, h1, by omega, by omega, fun j hj => ?_⟩, Eq.mpr hp_97 ⟨x, k, k1, k2, k3, qfd_n (fun i hi => hn i (by omega)) k4⟩, Eq.mpr hp_41 ⟨t1, t2, fun i hi => ?_⟩, trivial⟩
  · by_cases e : j = gg
    · rw [e, show (s3 + s4).toNat = p + gg by omega, cw0, if_pos rfl]; exact hz
    · rw [hn _ (by omega)]; exact h4 j (by omega)
  · rw [hn _ (by omega), show st M 1 (s3 + s4).toNat (s7) 62 i = M 62 i from if_neg (fun h => absurd h.1 (by decide))]; exact t3 i hi
theorem rul_861 : Rul r_861 := by
  refine ⟨fun h => (by cases h), fun gi gv hg ρ M hm hB hF hG => ?_⟩
  obtain ⟨g1, g2⟩ := List.cons.inj (show ([aI ((0 : Int), ([(3, 1), (4, 1)] : List (Nat × Int))), aI ((0 : Int), ([(7, 1)] : List (Nat × Int)))] : List av) = [.inl gi, .inl gv] from hg)
  obtain ⟨g2, -⟩ := List.cons.inj g2
  cases g1
  cases g2
  have ei : ev ρ ((0 : Int), ([(3, 1), (4, 1)] : List (Nat × Int))) = ((ρ 3) + (ρ 4)) := by show 0 + (1 * ρ 3 + (1 * ρ 4 + 0)) = _; omega
  have ew : ev ρ ((0 : Int), ([(7, 1)] : List (Nat × Int))) = ((ρ 7)) := by show 0 + (1 * ρ 7 + 0) = _; omega
  rw [show (st M (ctj r_861) (ev ρ ((0 : Int), ([(3, 1), (4, 1)] : List (Nat × Int)))).toNat (ev ρ ((0 : Int), ([(7, 1)] : List (Nat × Int))))) = (st M 1 ((ρ 3) + (ρ 4)).toNat ((ρ 7))) from by rw [ei, ew]; rfl]
  have H := cr_861 M (ρ 0) (ρ 1) (ρ 2) (ρ 3) (ρ 4) (ρ 5) (ρ 6) (ρ 7) (hB _ List.mem_cons_self) (hB _ (List.mem_cons_of_mem _ List.mem_cons_self)) (hB _ (List.mem_cons_of_mem _ (List.mem_cons_of_mem _ List.mem_cons_self))) (hB _ (List.mem_cons_of_mem _ (List.mem_cons_of_mem _ (List.mem_cons_of_mem _ List.mem_cons_self)))) (hB _ (List.mem_cons_of_mem _ (List.mem_cons_of_mem _ (List.mem_cons_of_mem _ (List.mem_cons_of_mem _ List.mem_cons_self))))) (hB _ (List.mem_cons_of_mem _ (List.mem_cons_of_mem _ (List.mem_cons_of_mem _ (List.mem_cons_of_mem _ (List.mem_cons_of_mem _ List.mem_cons_self)))))) (hB _ (List.mem_cons_of_mem _ (List.mem_cons_of_mem _ (List.mem_cons_of_mem _ (List.mem_cons_of_mem _ (List.mem_cons_of_mem _ (List.mem_cons_of_mem _ List.mem_cons_self))))))) (cvp 96 (x' := (8 * (ρ 3) + (ρ 4))) (y' := ((ρ 5))) (by show 0 + (8 * ρ 3 + (1 * ρ 4 + 0)) = _; omega) (by show 0 + (1 * ρ 5 + 0) = _; omega) (hm _ List.mem_cons_self)) (cvp 97 (x' := (8 * (ρ 0) + (ρ 1))) (y' := ((ρ 2))) (by show 0 + (8 * ρ 0 + (1 * ρ 1 + 0)) = _; omega) (by show 0 + (1 * ρ 2 + 0) = _; omega) (hm _ (List.mem_cons_of_mem _ List.mem_cons_self))) (cvp 41 (x' := ((ρ 0))) (y' := (0 : Int)) (by show 0 + (1 * ρ 0 + 0) = _; omega) (by show 0 + 0 = _; omega) (hm _ (List.mem_cons_of_mem _ (List.mem_cons_of_mem _ List.mem_cons_self)))) (cvp 105 (x' := ((-8) * (ρ 4) + 4294967296 * (ρ 5) + 24)) (y' := ((ρ 6))) (by show 24 + ((-8) * ρ 4 + (4294967296 * ρ 5 + 0)) = _; omega) (by show 0 + (1 * ρ 6 + 0) = _; omega) (hm _ (List.mem_cons_of_mem _ (List.mem_cons_of_mem _ (List.mem_cons_of_mem _ List.mem_cons_self))))) (cvp 100 (x' := (4294967296 * (ρ 6) + 255)) (y' := ((ρ 7))) (by show 255 + (4294967296 * ρ 6 + 0) = _; omega) (by show 0 + (1 * ρ 7 + 0) = _; omega) (hm _ (List.mem_cons_of_mem _ (List.mem_cons_of_mem _ (List.mem_cons_of_mem _ (List.mem_cons_of_mem _ List.mem_cons_self)))))) (by have h := hF _ List.mem_cons_self; have h : 0 ≤ 0 + (1 * ρ 0 + (4 * ρ 1 + ((-1) * ρ 3 + 0))) := h; omega) (by have h := hF _ (List.mem_cons_of_mem _ List.mem_cons_self); have h : 0 ≤ 0 + ((-1) * ρ 0 + ((-4) * ρ 1 + (1 * ρ 3 + 0))) := h; omega) hG
  obtain ⟨k0, k1, k2, -⟩ := H
  exact ⟨_, List.mem_cons_self, ρ, fun _ _ => rfl, (okM_c (pvp 96 (by show 1 + (8 * ρ 3 + (1 * ρ 4 + 0)) = _; omega) (by show 0 + (1 * ρ 5 + 0) = _; omega) k0) (okM_c (pvp 97 (by show 0 + (8 * ρ 0 + (1 * ρ 1 + 0)) = _; omega) (by show 0 + (1 * ρ 2 + 0) = _; omega) k1) (okM_c (pvp 41 (by show 0 + (1 * ρ 0 + 0) = _; omega) (by show 0 + 0 = _; omega) k2) okM_n))), okB_n, okF_n⟩
-- fdx
theorem cr_862 (M : pM) (s0 s1 s2 s3 s4 s5 : Int) (b0 : 0 ≤ s0 ∧ s0 ≤ 1900) (b1 : 0 ≤ s1 ∧ s1 ≤ 4) (b3 : 0 ≤ s3 ∧ s3 ≤ 1900) (b4 : (-2147483648) ≤ s4 ∧ s4 ≤ 2147483647) (b5 : 0 ≤ s5 ∧ s5 ≤ 4) (m0 : HP 96 (8 * s3 + s5) (s4) M) (m1 : HP 97 (8 * s0 + s1) (s2) M) (f0 : 0 ≤ (s0 + 4 * s1 + (-1) * s3)) (f1 : 0 ≤ ((-1) * s0 + (-4) * s1 + s3)) (f2 : 0 ≤ (s5 - 4)) (hG : gI M) : (HP 97 (8 * s0 + s1 + 1) (4294967296 * s2 + s4) M ∧ True) := by
  obtain ⟨p, gg, h1, h2, h3, h4⟩ := Eq.mp hp_96 m0
  obtain ⟨x, k, k1, k2, k3, k4⟩ := Eq.mp hp_97 m1
  have eg : gg = 4 := by omega
  subst eg
  refine ⟨Eq.mpr hp_97 ⟨x, k + 1, k1, by omega, by omega, ⟨s2, s4, by unfold r32; omega, by omega, k4, fun j hj => by rw [show x + 4 * k + j = p + j by omega]; exact h4 j hj⟩⟩, trivial⟩
theorem rul_862 : Rul r_862 := by
  refine ⟨fun _ ρ M hm hB hF hG => ?_, fun gi gv hg => (by cases hg)⟩
  have H := cr_862 M (ρ 0) (ρ 1) (ρ 2) (ρ 3) (ρ 4) (ρ 5) (hB _ List.mem_cons_self) (hB _ (List.mem_cons_of_mem _ List.mem_cons_self)) (hB _ (List.mem_cons_of_mem _ (List.mem_cons_of_mem _ List.mem_cons_self))) (hB _ (List.mem_cons_of_mem _ (List.mem_cons_of_mem _ (List.mem_cons_of_mem _ List.mem_cons_self)))) (hB _ (List.mem_cons_of_mem _ (List.mem_cons_of_mem _ (List.mem_cons_of_mem _ (List.mem_cons_of_mem _ List.mem_cons_self))))) (cvp 96 (x' := (8 * (ρ 3) + (ρ 5))) (y' := ((ρ 4))) (by show 0 + (8 * ρ 3 + (1 * ρ 5 + 0)) = _; omega) (by show 0 + (1 * ρ 4 + 0) = _; omega) (hm _ List.mem_cons_self)) (cvp 97 (x' := (8 * (ρ 0) + (ρ 1))) (y' := ((ρ 2))) (by show 0 + (8 * ρ 0 + (1 * ρ 1 + 0)) = _; omega) (by show 0 + (1 * ρ 2 + 0) = _; omega) (hm _ (List.mem_cons_of_mem _ List.mem_cons_self))) (by have h := hF _ List.mem_cons_self; have h : 0 ≤ 0 + (1 * ρ 0 + (4 * ρ 1 + ((-1) * ρ 3 + 0))) := h; omega) (by have h := hF _ (List.mem_cons_of_mem _ List.mem_cons_self); have h : 0 ≤ 0 + ((-1) * ρ 0 + ((-4) * ρ 1 + (1 * ρ 3 + 0))) := h; omega) (by have h := hF _ (List.mem_cons_of_mem _ (List.mem_cons_of_mem _ List.mem_cons_self)); have h : 0 ≤ (-4) + (1 * ρ 5 + 0) := h; omega) hG
  obtain ⟨k0, -⟩ := H
  exact ⟨_, List.mem_cons_self, ρ, fun _ _ => rfl, (okM_c (pvp 97 (by show 1 + (8 * ρ 0 + (1 * ρ 1 + 0)) = _; omega) (by show 0 + (4294967296 * ρ 2 + (1 * ρ 4 + 0)) = _; omega) k0) okM_n), okB_n, okF_n⟩
-- txw0
theorem cr_863 (M : pM) (s0 s1 s2 s3 s4 s5 s6 s7 s8 s9 : Int) (b0 : 0 ≤ s0 ∧ s0 ≤ 1900) (b1 : 0 ≤ s1 ∧ s1 ≤ 3) (b2 : (-2147483648) ≤ s2 ∧ s2 ≤ 2147483647) (b3 : (-2147483648) ≤ s3 ∧ s3 ≤ 2147483647) (b4 : (-2147483648) ≤ s4 ∧ s4 ≤ 2147483647) (b5 : (-2147483648) ≤ s5 ∧ s5 ≤ 2147483647) (b6 : (-2147483648) ≤ s6 ∧ s6 ≤ 2147483647) (b7 : 0 ≤ s7 ∧ s7 ≤ 3) (b8 : (-2147483648) ≤ s8 ∧ s8 ≤ 2147483647) (b9 : (-128) ≤ s9 ∧ s9 ≤ 127) (m0 : HP 97 (8 * s0 + 5) (340282366920938463463374607431768211456 * s2 + 79228162514264337593543950336 * s3 + 18446744073709551616 * s4 + 4294967296 * s5 + s6) M) (m1 : HP 41 (s0 + s1) (0 : Int) M) (m2 : HP 104 (4294967296 * s2 + (-8) * s7 + 24) (s8) M) (m3 : HP 120 (s8) (s9) M) (f0 : 0 ≤ (s1 + (-1) * s7)) (f1 : 0 ≤ ((-1) * s1 + s7)) (hG : gI M) : (HP 41 (s0 + s1 + 1) (0 : Int) (st M 62 (s0 + s1).toNat (s9)) ∧ HP 97 (8 * s0 + 5) (340282366920938463463374607431768211456 * s2 + 79228162514264337593543950336 * s3 + 18446744073709551616 * s4 + 4294967296 * s5 + s6) (st M 62 (s0 + s1).toNat (s9)) ∧ True) := by
  obtain ⟨x, k, k1, k2, k3, k4⟩ := Eq.mp hp_97 m0
  obtain ⟨t1, t2, t3⟩ := Eq.mp hp_41 m1
  have ex : x = s0.toNat := by omega
  have ek : k = 5 := by omega
  subst ek
  have hb := qfd_5 (v0 := s2) (v1 := s3) (v2 := s4) (v3 := s5) (v4 := s6) k4 (by omega) (by unfold r32; omega) (by unfold r32; omega) (by unfold r32; omega) (by unfold r32; omega) (by unfold r32; omega)
  have b1 := n_shr (a := s2) (b := 24 - 8 * ((s7.toNat : Nat) : Int)) m2 (by omega) (by unfold r32; omega)
  have b2 := n_i2b m3
  have hz : s9 = w8 (M 1 (s0 + s1).toNat) := by rw [show (s0 + s1).toNat = x + 4 * 0 + s7.toNat by omega, hb.1 s7.toNat (by omega), b2, b1]; exact by_w8 s7.toNat (by omega)
  have hn : ∀ c j : Nat, c ≠ 62 → st M 62 (s0 + s1).toNat (s9) c j = M c j := fun c j hj => if_neg (fun h => hj h.1)
  refine ⟨Eq.mpr hp_41 ⟨by omega, by omega, fun i hi => ?_⟩, Eq.mpr hp_97 ⟨x, 5, k1, k2, k3, qfd_n (fun i hi => hn 1 i (by decide)) k4⟩, trivial⟩
  rw [hn 1 _ (by decide), cw0]
  by_cases e : i = (s0 + s1).toNat
  · rw [if_pos e, e]; exact hz
  · rw [if_neg e]; exact t3 i (by omega)
theorem rul_863 : Rul r_863 := by
  refine ⟨fun h => (by cases h), fun gi gv hg ρ M hm hB hF hG => ?_⟩
  obtain ⟨g1, g2⟩ := List.cons.inj (show ([aI ((0 : Int), ([(0, 1), (1, 1)] : List (Nat × Int))), aI ((0 : Int), ([(9, 1)] : List (Nat × Int)))] : List av) = [.inl gi, .inl gv] from hg)
  obtain ⟨g2, -⟩ := List.cons.inj g2
  cases g1
  cases g2
  have ei : ev ρ ((0 : Int), ([(0, 1), (1, 1)] : List (Nat × Int))) = ((ρ 0) + (ρ 1)) := by show 0 + (1 * ρ 0 + (1 * ρ 1 + 0)) = _; omega
  have ew : ev ρ ((0 : Int), ([(9, 1)] : List (Nat × Int))) = ((ρ 9)) := by show 0 + (1 * ρ 9 + 0) = _; omega
  rw [show (st M (ctj r_863) (ev ρ ((0 : Int), ([(0, 1), (1, 1)] : List (Nat × Int)))).toNat (ev ρ ((0 : Int), ([(9, 1)] : List (Nat × Int))))) = (st M 62 ((ρ 0) + (ρ 1)).toNat ((ρ 9))) from by rw [ei, ew]; rfl]
  have H := cr_863 M (ρ 0) (ρ 1) (ρ 2) (ρ 3) (ρ 4) (ρ 5) (ρ 6) (ρ 7) (ρ 8) (ρ 9) (hB _ List.mem_cons_self) (hB _ (List.mem_cons_of_mem _ List.mem_cons_self)) (hB _ (List.mem_cons_of_mem _ (List.mem_cons_of_mem _ List.mem_cons_self))) (hB _ (List.mem_cons_of_mem _ (List.mem_cons_of_mem _ (List.mem_cons_of_mem _ List.mem_cons_self)))) (hB _ (List.mem_cons_of_mem _ (List.mem_cons_of_mem _ (List.mem_cons_of_mem _ (List.mem_cons_of_mem _ List.mem_cons_self))))) (hB _ (List.mem_cons_of_mem _ (List.mem_cons_of_mem _ (List.mem_cons_of_mem _ (List.mem_cons_of_mem _ (List.mem_cons_of_mem _ List.mem_cons_self)))))) (hB _ (List.mem_cons_of_mem _ (List.mem_cons_of_mem _ (List.mem_cons_of_mem _ (List.mem_cons_of_mem _ (List.mem_cons_of_mem _ (List.mem_cons_of_mem _ List.mem_cons_self))))))) (hB _ (List.mem_cons_of_mem _ (List.mem_cons_of_mem _ (List.mem_cons_of_mem _ (List.mem_cons_of_mem _ (List.mem_cons_of_mem _ (List.mem_cons_of_mem _ (List.mem_cons_of_mem _ List.mem_cons_self)))))))) (hB _ (List.mem_cons_of_mem _ (List.mem_cons_of_mem _ (List.mem_cons_of_mem _ (List.mem_cons_of_mem _ (List.mem_cons_of_mem _ (List.mem_cons_of_mem _ (List.mem_cons_of_mem _ (List.mem_cons_of_mem _ List.mem_cons_self))))))))) (hB _ (List.mem_cons_of_mem _ (List.mem_cons_of_mem _ (List.mem_cons_of_mem _ (List.mem_cons_of_mem _ (List.mem_cons_of_mem _ (List.mem_cons_of_mem _ (List.mem_cons_of_mem _ (List.mem_cons_of_mem _ (List.mem_cons_of_mem _ List.mem_cons_self)))))))))) (cvp 97 (x' := (8 * (ρ 0) + 5)) (y' := (340282366920938463463374607431768211456 * (ρ 2) + 79228162514264337593543950336 * (ρ 3) + 18446744073709551616 * (ρ 4) + 4294967296 * (ρ 5) + (ρ 6))) (by show 5 + (8 * ρ 0 + 0) = _; omega) (by show 0 + (340282366920938463463374607431768211456 * ρ 2 + (79228162514264337593543950336 * ρ 3 + (18446744073709551616 * ρ 4 + (4294967296 * ρ 5 + (1 * ρ 6 + 0))))) = _; omega) (hm _ List.mem_cons_self)) (cvp 41 (x' := ((ρ 0) + (ρ 1))) (y' := (0 : Int)) (by show 0 + (1 * ρ 0 + (1 * ρ 1 + 0)) = _; omega) (by show 0 + 0 = _; omega) (hm _ (List.mem_cons_of_mem _ List.mem_cons_self))) (cvp 104 (x' := (4294967296 * (ρ 2) + (-8) * (ρ 7) + 24)) (y' := ((ρ 8))) (by show 24 + (4294967296 * ρ 2 + ((-8) * ρ 7 + 0)) = _; omega) (by show 0 + (1 * ρ 8 + 0) = _; omega) (hm _ (List.mem_cons_of_mem _ (List.mem_cons_of_mem _ List.mem_cons_self)))) (cvp 120 (x' := ((ρ 8))) (y' := ((ρ 9))) (by show 0 + (1 * ρ 8 + 0) = _; omega) (by show 0 + (1 * ρ 9 + 0) = _; omega) (hm _ (List.mem_cons_of_mem _ (List.mem_cons_of_mem _ (List.mem_cons_of_mem _ List.mem_cons_self))))) (by have h := hF _ List.mem_cons_self; have h : 0 ≤ 0 + (1 * ρ 1 + ((-1) * ρ 7 + 0)) := h; omega) (by have h := hF _ (List.mem_cons_of_mem _ List.mem_cons_self); have h : 0 ≤ 0 + ((-1) * ρ 1 + (1 * ρ 7 + 0)) := h; omega) hG
  obtain ⟨k0, k1, -⟩ := H
  exact ⟨_, List.mem_cons_self, ρ, fun _ _ => rfl, (okM_c (pvp 41 (by show 1 + (1 * ρ 0 + (1 * ρ 1 + 0)) = _; omega) (by show 0 + 0 = _; omega) k0) (okM_c (pvp 97 (by show 5 + (8 * ρ 0 + 0) = _; omega) (by show 0 + (340282366920938463463374607431768211456 * ρ 2 + (79228162514264337593543950336 * ρ 3 + (18446744073709551616 * ρ 4 + (4294967296 * ρ 5 + (1 * ρ 6 + 0))))) = _; omega) k1) okM_n)), okB_n, okF_n⟩
-- txw1
theorem cr_864 (M : pM) (s0 s1 s2 s3 s4 s5 s6 s7 s8 s9 : Int) (b0 : 0 ≤ s0 ∧ s0 ≤ 1900) (b1 : 4 ≤ s1 ∧ s1 ≤ 7) (b2 : (-2147483648) ≤ s2 ∧ s2 ≤ 2147483647) (b3 : (-2147483648) ≤ s3 ∧ s3 ≤ 2147483647) (b4 : (-2147483648) ≤ s4 ∧ s4 ≤ 2147483647) (b5 : (-2147483648) ≤ s5 ∧ s5 ≤ 2147483647) (b6 : (-2147483648) ≤ s6 ∧ s6 ≤ 2147483647) (b7 : 0 ≤ s7 ∧ s7 ≤ 3) (b8 : (-2147483648) ≤ s8 ∧ s8 ≤ 2147483647) (b9 : (-128) ≤ s9 ∧ s9 ≤ 127) (m0 : HP 97 (8 * s0 + 5) (340282366920938463463374607431768211456 * s2 + 79228162514264337593543950336 * s3 + 18446744073709551616 * s4 + 4294967296 * s5 + s6) M) (m1 : HP 41 (s0 + s1) (0 : Int) M) (m2 : HP 104 (4294967296 * s3 + (-8) * s7 + 24) (s8) M) (m3 : HP 120 (s8) (s9) M) (f0 : 0 ≤ (s1 + (-1) * s7 - 4)) (f1 : 0 ≤ ((-1) * s1 + s7 + 4)) (hG : gI M) : (HP 41 (s0 + s1 + 1) (0 : Int) (st M 62 (s0 + s1).toNat (s9)) ∧ HP 97 (8 * s0 + 5) (340282366920938463463374607431768211456 * s2 + 79228162514264337593543950336 * s3 + 18446744073709551616 * s4 + 4294967296 * s5 + s6) (st M 62 (s0 + s1).toNat (s9)) ∧ True) := by
  obtain ⟨x, k, k1, k2, k3, k4⟩ := Eq.mp hp_97 m0
  obtain ⟨t1, t2, t3⟩ := Eq.mp hp_41 m1
  have ex : x = s0.toNat := by omega
  have ek : k = 5 := by omega
  subst ek
  have hb := qfd_5 (v0 := s2) (v1 := s3) (v2 := s4) (v3 := s5) (v4 := s6) k4 (by omega) (by unfold r32; omega) (by unfold r32; omega) (by unfold r32; omega) (by unfold r32; omega) (by unfold r32; omega)
  have b1 := n_shr (a := s3) (b := 24 - 8 * ((s7.toNat : Nat) : Int)) m2 (by omega) (by unfold r32; omega)
  have b2 := n_i2b m3
  have hz : s9 = w8 (M 1 (s0 + s1).toNat) := by rw [show (s0 + s1).toNat = x + 4 * 1 + s7.toNat by omega, hb.2.1 s7.toNat (by omega), b2, b1]; exact by_w8 s7.toNat (by omega)
  have hn : ∀ c j : Nat, c ≠ 62 → st M 62 (s0 + s1).toNat (s9) c j = M c j := fun c j hj => if_neg (fun h => hj h.1)
  refine ⟨Eq.mpr hp_41 ⟨by omega, by omega, fun i hi => ?_⟩, Eq.mpr hp_97 ⟨x, 5, k1, k2, k3, qfd_n (fun i hi => hn 1 i (by decide)) k4⟩, trivial⟩
  rw [hn 1 _ (by decide), cw0]
  by_cases e : i = (s0 + s1).toNat
  · rw [if_pos e, e]; exact hz
  · rw [if_neg e]; exact t3 i (by omega)
theorem rul_864 : Rul r_864 := by
  refine ⟨fun h => (by cases h), fun gi gv hg ρ M hm hB hF hG => ?_⟩
  obtain ⟨g1, g2⟩ := List.cons.inj (show ([aI ((0 : Int), ([(0, 1), (1, 1)] : List (Nat × Int))), aI ((0 : Int), ([(9, 1)] : List (Nat × Int)))] : List av) = [.inl gi, .inl gv] from hg)
  obtain ⟨g2, -⟩ := List.cons.inj g2
  cases g1
  cases g2
  have ei : ev ρ ((0 : Int), ([(0, 1), (1, 1)] : List (Nat × Int))) = ((ρ 0) + (ρ 1)) := by show 0 + (1 * ρ 0 + (1 * ρ 1 + 0)) = _; omega
  have ew : ev ρ ((0 : Int), ([(9, 1)] : List (Nat × Int))) = ((ρ 9)) := by show 0 + (1 * ρ 9 + 0) = _; omega
  rw [show (st M (ctj r_864) (ev ρ ((0 : Int), ([(0, 1), (1, 1)] : List (Nat × Int)))).toNat (ev ρ ((0 : Int), ([(9, 1)] : List (Nat × Int))))) = (st M 62 ((ρ 0) + (ρ 1)).toNat ((ρ 9))) from by rw [ei, ew]; rfl]
  have H := cr_864 M (ρ 0) (ρ 1) (ρ 2) (ρ 3) (ρ 4) (ρ 5) (ρ 6) (ρ 7) (ρ 8) (ρ 9) (hB _ List.mem_cons_self) (hB _ (List.mem_cons_of_mem _ List.mem_cons_self)) (hB _ (List.mem_cons_of_mem _ (List.mem_cons_of_mem _ List.mem_cons_self))) (hB _ (List.mem_cons_of_mem _ (List.mem_cons_of_mem _ (List.mem_cons_of_mem _ List.mem_cons_self)))) (hB _ (List.mem_cons_of_mem _ (List.mem_cons_of_mem _ (List.mem_cons_of_mem _ (List.mem_cons_of_mem _ List.mem_cons_self))))) (hB _ (List.mem_cons_of_mem _ (List.mem_cons_of_mem _ (List.mem_cons_of_mem _ (List.mem_cons_of_mem _ (List.mem_cons_of_mem _ List.mem_cons_self)))))) (hB _ (List.mem_cons_of_mem _ (List.mem_cons_of_mem _ (List.mem_cons_of_mem _ (List.mem_cons_of_mem _ (List.mem_cons_of_mem _ (List.mem_cons_of_mem _ List.mem_cons_self))))))) (hB _ (List.mem_cons_of_mem _ (List.mem_cons_of_mem _ (List.mem_cons_of_mem _ (List.mem_cons_of_mem _ (List.mem_cons_of_mem _ (List.mem_cons_of_mem _ (List.mem_cons_of_mem _ List.mem_cons_self)))))))) (hB _ (List.mem_cons_of_mem _ (List.mem_cons_of_mem _ (List.mem_cons_of_mem _ (List.mem_cons_of_mem _ (List.mem_cons_of_mem _ (List.mem_cons_of_mem _ (List.mem_cons_of_mem _ (List.mem_cons_of_mem _ List.mem_cons_self))))))))) (hB _ (List.mem_cons_of_mem _ (List.mem_cons_of_mem _ (List.mem_cons_of_mem _ (List.mem_cons_of_mem _ (List.mem_cons_of_mem _ (List.mem_cons_of_mem _ (List.mem_cons_of_mem _ (List.mem_cons_of_mem _ (List.mem_cons_of_mem _ List.mem_cons_self)))))))))) (cvp 97 (x' := (8 * (ρ 0) + 5)) (y' := (340282366920938463463374607431768211456 * (ρ 2) + 79228162514264337593543950336 * (ρ 3) + 18446744073709551616 * (ρ 4) + 4294967296 * (ρ 5) + (ρ 6))) (by show 5 + (8 * ρ 0 + 0) = _; omega) (by show 0 + (340282366920938463463374607431768211456 * ρ 2 + (79228162514264337593543950336 * ρ 3 + (18446744073709551616 * ρ 4 + (4294967296 * ρ 5 + (1 * ρ 6 + 0))))) = _; omega) (hm _ List.mem_cons_self)) (cvp 41 (x' := ((ρ 0) + (ρ 1))) (y' := (0 : Int)) (by show 0 + (1 * ρ 0 + (1 * ρ 1 + 0)) = _; omega) (by show 0 + 0 = _; omega) (hm _ (List.mem_cons_of_mem _ List.mem_cons_self))) (cvp 104 (x' := (4294967296 * (ρ 3) + (-8) * (ρ 7) + 24)) (y' := ((ρ 8))) (by show 24 + (4294967296 * ρ 3 + ((-8) * ρ 7 + 0)) = _; omega) (by show 0 + (1 * ρ 8 + 0) = _; omega) (hm _ (List.mem_cons_of_mem _ (List.mem_cons_of_mem _ List.mem_cons_self)))) (cvp 120 (x' := ((ρ 8))) (y' := ((ρ 9))) (by show 0 + (1 * ρ 8 + 0) = _; omega) (by show 0 + (1 * ρ 9 + 0) = _; omega) (hm _ (List.mem_cons_of_mem _ (List.mem_cons_of_mem _ (List.mem_cons_of_mem _ List.mem_cons_self))))) (by have h := hF _ List.mem_cons_self; have h : 0 ≤ (-4) + (1 * ρ 1 + ((-1) * ρ 7 + 0)) := h; omega) (by have h := hF _ (List.mem_cons_of_mem _ List.mem_cons_self); have h : 0 ≤ 4 + ((-1) * ρ 1 + (1 * ρ 7 + 0)) := h; omega) hG
  obtain ⟨k0, k1, -⟩ := H
  exact ⟨_, List.mem_cons_self, ρ, fun _ _ => rfl, (okM_c (pvp 41 (by show 1 + (1 * ρ 0 + (1 * ρ 1 + 0)) = _; omega) (by show 0 + 0 = _; omega) k0) (okM_c (pvp 97 (by show 5 + (8 * ρ 0 + 0) = _; omega) (by show 0 + (340282366920938463463374607431768211456 * ρ 2 + (79228162514264337593543950336 * ρ 3 + (18446744073709551616 * ρ 4 + (4294967296 * ρ 5 + (1 * ρ 6 + 0))))) = _; omega) k1) okM_n)), okB_n, okF_n⟩
-- txw2
theorem cr_865 (M : pM) (s0 s1 s2 s3 s4 s5 s6 s7 s8 s9 : Int) (b0 : 0 ≤ s0 ∧ s0 ≤ 1900) (b1 : 8 ≤ s1 ∧ s1 ≤ 11) (b2 : (-2147483648) ≤ s2 ∧ s2 ≤ 2147483647) (b3 : (-2147483648) ≤ s3 ∧ s3 ≤ 2147483647) (b4 : (-2147483648) ≤ s4 ∧ s4 ≤ 2147483647) (b5 : (-2147483648) ≤ s5 ∧ s5 ≤ 2147483647) (b6 : (-2147483648) ≤ s6 ∧ s6 ≤ 2147483647) (b7 : 0 ≤ s7 ∧ s7 ≤ 3) (b8 : (-2147483648) ≤ s8 ∧ s8 ≤ 2147483647) (b9 : (-128) ≤ s9 ∧ s9 ≤ 127) (m0 : HP 97 (8 * s0 + 5) (340282366920938463463374607431768211456 * s2 + 79228162514264337593543950336 * s3 + 18446744073709551616 * s4 + 4294967296 * s5 + s6) M) (m1 : HP 41 (s0 + s1) (0 : Int) M) (m2 : HP 104 (4294967296 * s4 + (-8) * s7 + 24) (s8) M) (m3 : HP 120 (s8) (s9) M) (f0 : 0 ≤ (s1 + (-1) * s7 - 8)) (f1 : 0 ≤ ((-1) * s1 + s7 + 8)) (hG : gI M) : (HP 41 (s0 + s1 + 1) (0 : Int) (st M 62 (s0 + s1).toNat (s9)) ∧ HP 97 (8 * s0 + 5) (340282366920938463463374607431768211456 * s2 + 79228162514264337593543950336 * s3 + 18446744073709551616 * s4 + 4294967296 * s5 + s6) (st M 62 (s0 + s1).toNat (s9)) ∧ True) := by
  obtain ⟨x, k, k1, k2, k3, k4⟩ := Eq.mp hp_97 m0
  obtain ⟨t1, t2, t3⟩ := Eq.mp hp_41 m1
  have ex : x = s0.toNat := by omega
  have ek : k = 5 := by omega
  subst ek
  have hb := qfd_5 (v0 := s2) (v1 := s3) (v2 := s4) (v3 := s5) (v4 := s6) k4 (by omega) (by unfold r32; omega) (by unfold r32; omega) (by unfold r32; omega) (by unfold r32; omega) (by unfold r32; omega)
  have b1 := n_shr (a := s4) (b := 24 - 8 * ((s7.toNat : Nat) : Int)) m2 (by omega) (by unfold r32; omega)
  have b2 := n_i2b m3
  have hz : s9 = w8 (M 1 (s0 + s1).toNat) := by rw [show (s0 + s1).toNat = x + 4 * 2 + s7.toNat by omega, hb.2.2.1 s7.toNat (by omega), b2, b1]; exact by_w8 s7.toNat (by omega)
  have hn : ∀ c j : Nat, c ≠ 62 → st M 62 (s0 + s1).toNat (s9) c j = M c j := fun c j hj => if_neg (fun h => hj h.1)
  refine ⟨Eq.mpr hp_41 ⟨by omega, by omega, fun i hi => ?_⟩, Eq.mpr hp_97 ⟨x, 5, k1, k2, k3, qfd_n (fun i hi => hn 1 i (by decide)) k4⟩, trivial⟩
  rw [hn 1 _ (by decide), cw0]
  by_cases e : i = (s0 + s1).toNat
  · rw [if_pos e, e]; exact hz
  · rw [if_neg e]; exact t3 i (by omega)
theorem rul_865 : Rul r_865 := by
  refine ⟨fun h => (by cases h), fun gi gv hg ρ M hm hB hF hG => ?_⟩
  obtain ⟨g1, g2⟩ := List.cons.inj (show ([aI ((0 : Int), ([(0, 1), (1, 1)] : List (Nat × Int))), aI ((0 : Int), ([(9, 1)] : List (Nat × Int)))] : List av) = [.inl gi, .inl gv] from hg)
  obtain ⟨g2, -⟩ := List.cons.inj g2
  cases g1
  cases g2
  have ei : ev ρ ((0 : Int), ([(0, 1), (1, 1)] : List (Nat × Int))) = ((ρ 0) + (ρ 1)) := by show 0 + (1 * ρ 0 + (1 * ρ 1 + 0)) = _; omega
  have ew : ev ρ ((0 : Int), ([(9, 1)] : List (Nat × Int))) = ((ρ 9)) := by show 0 + (1 * ρ 9 + 0) = _; omega
  rw [show (st M (ctj r_865) (ev ρ ((0 : Int), ([(0, 1), (1, 1)] : List (Nat × Int)))).toNat (ev ρ ((0 : Int), ([(9, 1)] : List (Nat × Int))))) = (st M 62 ((ρ 0) + (ρ 1)).toNat ((ρ 9))) from by rw [ei, ew]; rfl]
  have H := cr_865 M (ρ 0) (ρ 1) (ρ 2) (ρ 3) (ρ 4) (ρ 5) (ρ 6) (ρ 7) (ρ 8) (ρ 9) (hB _ List.mem_cons_self) (hB _ (List.mem_cons_of_mem _ List.mem_cons_self)) (hB _ (List.mem_cons_of_mem _ (List.mem_cons_of_mem _ List.mem_cons_self))) (hB _ (List.mem_cons_of_mem _ (List.mem_cons_of_mem _ (List.mem_cons_of_mem _ List.mem_cons_self)))) (hB _ (List.mem_cons_of_mem _ (List.mem_cons_of_mem _ (List.mem_cons_of_mem _ (List.mem_cons_of_mem _ List.mem_cons_self))))) (hB _ (List.mem_cons_of_mem _ (List.mem_cons_of_mem _ (List.mem_cons_of_mem _ (List.mem_cons_of_mem _ (List.mem_cons_of_mem _ List.mem_cons_self)))))) (hB _ (List.mem_cons_of_mem _ (List.mem_cons_of_mem _ (List.mem_cons_of_mem _ (List.mem_cons_of_mem _ (List.mem_cons_of_mem _ (List.mem_cons_of_mem _ List.mem_cons_self))))))) (hB _ (List.mem_cons_of_mem _ (List.mem_cons_of_mem _ (List.mem_cons_of_mem _ (List.mem_cons_of_mem _ (List.mem_cons_of_mem _ (List.mem_cons_of_mem _ (List.mem_cons_of_mem _ List.mem_cons_self)))))))) (hB _ (List.mem_cons_of_mem _ (List.mem_cons_of_mem _ (List.mem_cons_of_mem _ (List.mem_cons_of_mem _ (List.mem_cons_of_mem _ (List.mem_cons_of_mem _ (List.mem_cons_of_mem _ (List.mem_cons_of_mem _ List.mem_cons_self))))))))) (hB _ (List.mem_cons_of_mem _ (List.mem_cons_of_mem _ (List.mem_cons_of_mem _ (List.mem_cons_of_mem _ (List.mem_cons_of_mem _ (List.mem_cons_of_mem _ (List.mem_cons_of_mem _ (List.mem_cons_of_mem _ (List.mem_cons_of_mem _ List.mem_cons_self)))))))))) (cvp 97 (x' := (8 * (ρ 0) + 5)) (y' := (340282366920938463463374607431768211456 * (ρ 2) + 79228162514264337593543950336 * (ρ 3) + 18446744073709551616 * (ρ 4) + 4294967296 * (ρ 5) + (ρ 6))) (by show 5 + (8 * ρ 0 + 0) = _; omega) (by show 0 + (340282366920938463463374607431768211456 * ρ 2 + (79228162514264337593543950336 * ρ 3 + (18446744073709551616 * ρ 4 + (4294967296 * ρ 5 + (1 * ρ 6 + 0))))) = _; omega) (hm _ List.mem_cons_self)) (cvp 41 (x' := ((ρ 0) + (ρ 1))) (y' := (0 : Int)) (by show 0 + (1 * ρ 0 + (1 * ρ 1 + 0)) = _; omega) (by show 0 + 0 = _; omega) (hm _ (List.mem_cons_of_mem _ List.mem_cons_self))) (cvp 104 (x' := (4294967296 * (ρ 4) + (-8) * (ρ 7) + 24)) (y' := ((ρ 8))) (by show 24 + (4294967296 * ρ 4 + ((-8) * ρ 7 + 0)) = _; omega) (by show 0 + (1 * ρ 8 + 0) = _; omega) (hm _ (List.mem_cons_of_mem _ (List.mem_cons_of_mem _ List.mem_cons_self)))) (cvp 120 (x' := ((ρ 8))) (y' := ((ρ 9))) (by show 0 + (1 * ρ 8 + 0) = _; omega) (by show 0 + (1 * ρ 9 + 0) = _; omega) (hm _ (List.mem_cons_of_mem _ (List.mem_cons_of_mem _ (List.mem_cons_of_mem _ List.mem_cons_self))))) (by have h := hF _ List.mem_cons_self; have h : 0 ≤ (-8) + (1 * ρ 1 + ((-1) * ρ 7 + 0)) := h; omega) (by have h := hF _ (List.mem_cons_of_mem _ List.mem_cons_self); have h : 0 ≤ 8 + ((-1) * ρ 1 + (1 * ρ 7 + 0)) := h; omega) hG
  obtain ⟨k0, k1, -⟩ := H
  exact ⟨_, List.mem_cons_self, ρ, fun _ _ => rfl, (okM_c (pvp 41 (by show 1 + (1 * ρ 0 + (1 * ρ 1 + 0)) = _; omega) (by show 0 + 0 = _; omega) k0) (okM_c (pvp 97 (by show 5 + (8 * ρ 0 + 0) = _; omega) (by show 0 + (340282366920938463463374607431768211456 * ρ 2 + (79228162514264337593543950336 * ρ 3 + (18446744073709551616 * ρ 4 + (4294967296 * ρ 5 + (1 * ρ 6 + 0))))) = _; omega) k1) okM_n)), okB_n, okF_n⟩
-- txw3
theorem cr_866 (M : pM) (s0 s1 s2 s3 s4 s5 s6 s7 s8 s9 : Int) (b0 : 0 ≤ s0 ∧ s0 ≤ 1900) (b1 : 12 ≤ s1 ∧ s1 ≤ 15) (b2 : (-2147483648) ≤ s2 ∧ s2 ≤ 2147483647) (b3 : (-2147483648) ≤ s3 ∧ s3 ≤ 2147483647) (b4 : (-2147483648) ≤ s4 ∧ s4 ≤ 2147483647) (b5 : (-2147483648) ≤ s5 ∧ s5 ≤ 2147483647) (b6 : (-2147483648) ≤ s6 ∧ s6 ≤ 2147483647) (b7 : 0 ≤ s7 ∧ s7 ≤ 3) (b8 : (-2147483648) ≤ s8 ∧ s8 ≤ 2147483647) (b9 : (-128) ≤ s9 ∧ s9 ≤ 127) (m0 : HP 97 (8 * s0 + 5) (340282366920938463463374607431768211456 * s2 + 79228162514264337593543950336 * s3 + 18446744073709551616 * s4 + 4294967296 * s5 + s6) M) (m1 : HP 41 (s0 + s1) (0 : Int) M) (m2 : HP 104 (4294967296 * s5 + (-8) * s7 + 24) (s8) M) (m3 : HP 120 (s8) (s9) M) (f0 : 0 ≤ (s1 + (-1) * s7 - 12)) (f1 : 0 ≤ ((-1) * s1 + s7 + 12)) (hG : gI M) : (HP 41 (s0 + s1 + 1) (0 : Int) (st M 62 (s0 + s1).toNat (s9)) ∧ HP 97 (8 * s0 + 5) (340282366920938463463374607431768211456 * s2 + 79228162514264337593543950336 * s3 + 18446744073709551616 * s4 + 4294967296 * s5 + s6) (st M 62 (s0 + s1).toNat (s9)) ∧ True) := by
  obtain ⟨x, k, k1, k2, k3, k4⟩ := Eq.mp hp_97 m0
  obtain ⟨t1, t2, t3⟩ := Eq.mp hp_41 m1
  have ex : x = s0.toNat := by omega
  have ek : k = 5 := by omega
  subst ek
  have hb := qfd_5 (v0 := s2) (v1 := s3) (v2 := s4) (v3 := s5) (v4 := s6) k4 (by omega) (by unfold r32; omega) (by unfold r32; omega) (by unfold r32; omega) (by unfold r32; omega) (by unfold r32; omega)
  have b1 := n_shr (a := s5) (b := 24 - 8 * ((s7.toNat : Nat) : Int)) m2 (by omega) (by unfold r32; omega)
  have b2 := n_i2b m3
  have hz : s9 = w8 (M 1 (s0 + s1).toNat) := by rw [show (s0 + s1).toNat = x + 4 * 3 + s7.toNat by omega, hb.2.2.2.1 s7.toNat (by omega), b2, b1]; exact by_w8 s7.toNat (by omega)
  have hn : ∀ c j : Nat, c ≠ 62 → st M 62 (s0 + s1).toNat (s9) c j = M c j := fun c j hj => if_neg (fun h => hj h.1)
  refine ⟨Eq.mpr hp_41 ⟨by omega, by omega, fun i hi => ?_⟩, Eq.mpr hp_97 ⟨x, 5, k1, k2, k3, qfd_n (fun i hi => hn 1 i (by decide)) k4⟩, trivial⟩
  rw [hn 1 _ (by decide), cw0]
  by_cases e : i = (s0 + s1).toNat
  · rw [if_pos e, e]; exact hz
  · rw [if_neg e]; exact t3 i (by omega)
theorem rul_866 : Rul r_866 := by
  refine ⟨fun h => (by cases h), fun gi gv hg ρ M hm hB hF hG => ?_⟩
  obtain ⟨g1, g2⟩ := List.cons.inj (show ([aI ((0 : Int), ([(0, 1), (1, 1)] : List (Nat × Int))), aI ((0 : Int), ([(9, 1)] : List (Nat × Int)))] : List av) = [.inl gi, .inl gv] from hg)
  obtain ⟨g2, -⟩ := List.cons.inj g2
  cases g1
  cases g2
  have ei : ev ρ ((0 : Int), ([(0, 1), (1, 1)] : List (Nat × Int))) = ((ρ 0) + (ρ 1)) := by show 0 + (1 * ρ 0 + (1 * ρ 1 + 0)) = _; omega
  have ew : ev ρ ((0 : Int), ([(9, 1)] : List (Nat × Int))) = ((ρ 9)) := by show 0 + (1 * ρ 9 + 0) = _; omega
  rw [show (st M (ctj r_866) (ev ρ ((0 : Int), ([(0, 1), (1, 1)] : List (Nat × Int)))).toNat (ev ρ ((0 : Int), ([(9, 1)] : List (Nat × Int))))) = (st M 62 ((ρ 0) + (ρ 1)).toNat ((ρ 9))) from by rw [ei, ew]; rfl]
  have H := cr_866 M (ρ 0) (ρ 1) (ρ 2) (ρ 3) (ρ 4) (ρ 5) (ρ 6) (ρ 7) (ρ 8) (ρ 9) (hB _ List.mem_cons_self) (hB _ (List.mem_cons_of_mem _ List.mem_cons_self)) (hB _ (List.mem_cons_of_mem _ (List.mem_cons_of_mem _ List.mem_cons_self))) (hB _ (List.mem_cons_of_mem _ (List.mem_cons_of_mem _ (List.mem_cons_of_mem _ List.mem_cons_self)))) (hB _ (List.mem_cons_of_mem _ (List.mem_cons_of_mem _ (List.mem_cons_of_mem _ (List.mem_cons_of_mem _ List.mem_cons_self))))) (hB _ (List.mem_cons_of_mem _ (List.mem_cons_of_mem _ (List.mem_cons_of_mem _ (List.mem_cons_of_mem _ (List.mem_cons_of_mem _ List.mem_cons_self)))))) (hB _ (List.mem_cons_of_mem _ (List.mem_cons_of_mem _ (List.mem_cons_of_mem _ (List.mem_cons_of_mem _ (List.mem_cons_of_mem _ (List.mem_cons_of_mem _ List.mem_cons_self))))))) (hB _ (List.mem_cons_of_mem _ (List.mem_cons_of_mem _ (List.mem_cons_of_mem _ (List.mem_cons_of_mem _ (List.mem_cons_of_mem _ (List.mem_cons_of_mem _ (List.mem_cons_of_mem _ List.mem_cons_self)))))))) (hB _ (List.mem_cons_of_mem _ (List.mem_cons_of_mem _ (List.mem_cons_of_mem _ (List.mem_cons_of_mem _ (List.mem_cons_of_mem _ (List.mem_cons_of_mem _ (List.mem_cons_of_mem _ (List.mem_cons_of_mem _ List.mem_cons_self))))))))) (hB _ (List.mem_cons_of_mem _ (List.mem_cons_of_mem _ (List.mem_cons_of_mem _ (List.mem_cons_of_mem _ (List.mem_cons_of_mem _ (List.mem_cons_of_mem _ (List.mem_cons_of_mem _ (List.mem_cons_of_mem _ (List.mem_cons_of_mem _ List.mem_cons_self)))))))))) (cvp 97 (x' := (8 * (ρ 0) + 5)) (y' := (340282366920938463463374607431768211456 * (ρ 2) + 79228162514264337593543950336 * (ρ 3) + 18446744073709551616 * (ρ 4) + 4294967296 * (ρ 5) + (ρ 6))) (by show 5 + (8 * ρ 0 + 0) = _; omega) (by show 0 + (340282366920938463463374607431768211456 * ρ 2 + (79228162514264337593543950336 * ρ 3 + (18446744073709551616 * ρ 4 + (4294967296 * ρ 5 + (1 * ρ 6 + 0))))) = _; omega) (hm _ List.mem_cons_self)) (cvp 41 (x' := ((ρ 0) + (ρ 1))) (y' := (0 : Int)) (by show 0 + (1 * ρ 0 + (1 * ρ 1 + 0)) = _; omega) (by show 0 + 0 = _; omega) (hm _ (List.mem_cons_of_mem _ List.mem_cons_self))) (cvp 104 (x' := (4294967296 * (ρ 5) + (-8) * (ρ 7) + 24)) (y' := ((ρ 8))) (by show 24 + (4294967296 * ρ 5 + ((-8) * ρ 7 + 0)) = _; omega) (by show 0 + (1 * ρ 8 + 0) = _; omega) (hm _ (List.mem_cons_of_mem _ (List.mem_cons_of_mem _ List.mem_cons_self)))) (cvp 120 (x' := ((ρ 8))) (y' := ((ρ 9))) (by show 0 + (1 * ρ 8 + 0) = _; omega) (by show 0 + (1 * ρ 9 + 0) = _; omega) (hm _ (List.mem_cons_of_mem _ (List.mem_cons_of_mem _ (List.mem_cons_of_mem _ List.mem_cons_self))))) (by have h := hF _ List.mem_cons_self; have h : 0 ≤ (-12) + (1 * ρ 1 + ((-1) * ρ 7 + 0)) := h; omega) (by have h := hF _ (List.mem_cons_of_mem _ List.mem_cons_self); have h : 0 ≤ 12 + ((-1) * ρ 1 + (1 * ρ 7 + 0)) := h; omega) hG
  obtain ⟨k0, k1, -⟩ := H
  exact ⟨_, List.mem_cons_self, ρ, fun _ _ => rfl, (okM_c (pvp 41 (by show 1 + (1 * ρ 0 + (1 * ρ 1 + 0)) = _; omega) (by show 0 + 0 = _; omega) k0) (okM_c (pvp 97 (by show 5 + (8 * ρ 0 + 0) = _; omega) (by show 0 + (340282366920938463463374607431768211456 * ρ 2 + (79228162514264337593543950336 * ρ 3 + (18446744073709551616 * ρ 4 + (4294967296 * ρ 5 + (1 * ρ 6 + 0))))) = _; omega) k1) okM_n)), okB_n, okF_n⟩
-- txw4
theorem cr_867 (M : pM) (s0 s1 s2 s3 s4 s5 s6 s7 s8 s9 : Int) (b0 : 0 ≤ s0 ∧ s0 ≤ 1900) (b1 : 16 ≤ s1 ∧ s1 ≤ 19) (b2 : (-2147483648) ≤ s2 ∧ s2 ≤ 2147483647) (b3 : (-2147483648) ≤ s3 ∧ s3 ≤ 2147483647) (b4 : (-2147483648) ≤ s4 ∧ s4 ≤ 2147483647) (b5 : (-2147483648) ≤ s5 ∧ s5 ≤ 2147483647) (b6 : (-2147483648) ≤ s6 ∧ s6 ≤ 2147483647) (b7 : 0 ≤ s7 ∧ s7 ≤ 3) (b8 : (-2147483648) ≤ s8 ∧ s8 ≤ 2147483647) (b9 : (-128) ≤ s9 ∧ s9 ≤ 127) (m0 : HP 97 (8 * s0 + 5) (340282366920938463463374607431768211456 * s2 + 79228162514264337593543950336 * s3 + 18446744073709551616 * s4 + 4294967296 * s5 + s6) M) (m1 : HP 41 (s0 + s1) (0 : Int) M) (m2 : HP 104 (4294967296 * s6 + (-8) * s7 + 24) (s8) M) (m3 : HP 120 (s8) (s9) M) (f0 : 0 ≤ (s1 + (-1) * s7 - 16)) (f1 : 0 ≤ ((-1) * s1 + s7 + 16)) (hG : gI M) : (HP 41 (s0 + s1 + 1) (0 : Int) (st M 62 (s0 + s1).toNat (s9)) ∧ HP 97 (8 * s0 + 5) (340282366920938463463374607431768211456 * s2 + 79228162514264337593543950336 * s3 + 18446744073709551616 * s4 + 4294967296 * s5 + s6) (st M 62 (s0 + s1).toNat (s9)) ∧ True) := by
  obtain ⟨x, k, k1, k2, k3, k4⟩ := Eq.mp hp_97 m0
  obtain ⟨t1, t2, t3⟩ := Eq.mp hp_41 m1
  have ex : x = s0.toNat := by omega
  have ek : k = 5 := by omega
  subst ek
  have hb := qfd_5 (v0 := s2) (v1 := s3) (v2 := s4) (v3 := s5) (v4 := s6) k4 (by omega) (by unfold r32; omega) (by unfold r32; omega) (by unfold r32; omega) (by unfold r32; omega) (by unfold r32; omega)
  have b1 := n_shr (a := s6) (b := 24 - 8 * ((s7.toNat : Nat) : Int)) m2 (by omega) (by unfold r32; omega)
  have b2 := n_i2b m3
  have hz : s9 = w8 (M 1 (s0 + s1).toNat) := by rw [show (s0 + s1).toNat = x + 4 * 4 + s7.toNat by omega, hb.2.2.2.2 s7.toNat (by omega), b2, b1]; exact by_w8 s7.toNat (by omega)
  have hn : ∀ c j : Nat, c ≠ 62 → st M 62 (s0 + s1).toNat (s9) c j = M c j := fun c j hj => if_neg (fun h => hj h.1)
  refine ⟨Eq.mpr hp_41 ⟨by omega, by omega, fun i hi => ?_⟩, Eq.mpr hp_97 ⟨x, 5, k1, k2, k3, qfd_n (fun i hi => hn 1 i (by decide)) k4⟩, trivial⟩
  rw [hn 1 _ (by decide), cw0]
  by_cases e : i = (s0 + s1).toNat
  · rw [if_pos e, e]; exact hz
  · rw [if_neg e]; exact t3 i (by omega)
theorem rul_867 : Rul r_867 := by
  refine ⟨fun h => (by cases h), fun gi gv hg ρ M hm hB hF hG => ?_⟩
  obtain ⟨g1, g2⟩ := List.cons.inj (show ([aI ((0 : Int), ([(0, 1), (1, 1)] : List (Nat × Int))), aI ((0 : Int), ([(9, 1)] : List (Nat × Int)))] : List av) = [.inl gi, .inl gv] from hg)
  obtain ⟨g2, -⟩ := List.cons.inj g2
  cases g1
  cases g2
  have ei : ev ρ ((0 : Int), ([(0, 1), (1, 1)] : List (Nat × Int))) = ((ρ 0) + (ρ 1)) := by show 0 + (1 * ρ 0 + (1 * ρ 1 + 0)) = _; omega
  have ew : ev ρ ((0 : Int), ([(9, 1)] : List (Nat × Int))) = ((ρ 9)) := by show 0 + (1 * ρ 9 + 0) = _; omega
  rw [show (st M (ctj r_867) (ev ρ ((0 : Int), ([(0, 1), (1, 1)] : List (Nat × Int)))).toNat (ev ρ ((0 : Int), ([(9, 1)] : List (Nat × Int))))) = (st M 62 ((ρ 0) + (ρ 1)).toNat ((ρ 9))) from by rw [ei, ew]; rfl]
  have H := cr_867 M (ρ 0) (ρ 1) (ρ 2) (ρ 3) (ρ 4) (ρ 5) (ρ 6) (ρ 7) (ρ 8) (ρ 9) (hB _ List.mem_cons_self) (hB _ (List.mem_cons_of_mem _ List.mem_cons_self)) (hB _ (List.mem_cons_of_mem _ (List.mem_cons_of_mem _ List.mem_cons_self))) (hB _ (List.mem_cons_of_mem _ (List.mem_cons_of_mem _ (List.mem_cons_of_mem _ List.mem_cons_self)))) (hB _ (List.mem_cons_of_mem _ (List.mem_cons_of_mem _ (List.mem_cons_of_mem _ (List.mem_cons_of_mem _ List.mem_cons_self))))) (hB _ (List.mem_cons_of_mem _ (List.mem_cons_of_mem _ (List.mem_cons_of_mem _ (List.mem_cons_of_mem _ (List.mem_cons_of_mem _ List.mem_cons_self)))))) (hB _ (List.mem_cons_of_mem _ (List.mem_cons_of_mem _ (List.mem_cons_of_mem _ (List.mem_cons_of_mem _ (List.mem_cons_of_mem _ (List.mem_cons_of_mem _ List.mem_cons_self))))))) (hB _ (List.mem_cons_of_mem _ (List.mem_cons_of_mem _ (List.mem_cons_of_mem _ (List.mem_cons_of_mem _ (List.mem_cons_of_mem _ (List.mem_cons_of_mem _ (List.mem_cons_of_mem _ List.mem_cons_self)))))))) (hB _ (List.mem_cons_of_mem _ (List.mem_cons_of_mem _ (List.mem_cons_of_mem _ (List.mem_cons_of_mem _ (List.mem_cons_of_mem _ (List.mem_cons_of_mem _ (List.mem_cons_of_mem _ (List.mem_cons_of_mem _ List.mem_cons_self))))))))) (hB _ (List.mem_cons_of_mem _ (List.mem_cons_of_mem _ (List.mem_cons_of_mem _ (List.mem_cons_of_mem _ (List.mem_cons_of_mem _ (List.mem_cons_of_mem _ (List.mem_cons_of_mem _ (List.mem_cons_of_mem _ (List.mem_cons_of_mem _ List.mem_cons_self)))))))))) (cvp 97 (x' := (8 * (ρ 0) + 5)) (y' := (340282366920938463463374607431768211456 * (ρ 2) + 79228162514264337593543950336 * (ρ 3) + 18446744073709551616 * (ρ 4) + 4294967296 * (ρ 5) + (ρ 6))) (by show 5 + (8 * ρ 0 + 0) = _; omega) (by show 0 + (340282366920938463463374607431768211456 * ρ 2 + (79228162514264337593543950336 * ρ 3 + (18446744073709551616 * ρ 4 + (4294967296 * ρ 5 + (1 * ρ 6 + 0))))) = _; omega) (hm _ List.mem_cons_self)) (cvp 41 (x' := ((ρ 0) + (ρ 1))) (y' := (0 : Int)) (by show 0 + (1 * ρ 0 + (1 * ρ 1 + 0)) = _; omega) (by show 0 + 0 = _; omega) (hm _ (List.mem_cons_of_mem _ List.mem_cons_self))) (cvp 104 (x' := (4294967296 * (ρ 6) + (-8) * (ρ 7) + 24)) (y' := ((ρ 8))) (by show 24 + (4294967296 * ρ 6 + ((-8) * ρ 7 + 0)) = _; omega) (by show 0 + (1 * ρ 8 + 0) = _; omega) (hm _ (List.mem_cons_of_mem _ (List.mem_cons_of_mem _ List.mem_cons_self)))) (cvp 120 (x' := ((ρ 8))) (y' := ((ρ 9))) (by show 0 + (1 * ρ 8 + 0) = _; omega) (by show 0 + (1 * ρ 9 + 0) = _; omega) (hm _ (List.mem_cons_of_mem _ (List.mem_cons_of_mem _ (List.mem_cons_of_mem _ List.mem_cons_self))))) (by have h := hF _ List.mem_cons_self; have h : 0 ≤ (-16) + (1 * ρ 1 + ((-1) * ρ 7 + 0)) := h; omega) (by have h := hF _ (List.mem_cons_of_mem _ List.mem_cons_self); have h : 0 ≤ 16 + ((-1) * ρ 1 + (1 * ρ 7 + 0)) := h; omega) hG
  obtain ⟨k0, k1, -⟩ := H
  exact ⟨_, List.mem_cons_self, ρ, fun _ _ => rfl, (okM_c (pvp 41 (by show 1 + (1 * ρ 0 + (1 * ρ 1 + 0)) = _; omega) (by show 0 + 0 = _; omega) k0) (okM_c (pvp 97 (by show 5 + (8 * ρ 0 + 0) = _; omega) (by show 0 + (340282366920938463463374607431768211456 * ρ 2 + (79228162514264337593543950336 * ρ 3 + (18446744073709551616 * ρ 4 + (4294967296 * ρ 5 + (1 * ρ 6 + 0))))) = _; omega) k1) okM_n)), okB_n, okF_n⟩
-- txd
theorem cr_868 (M : pM) (s0 s1 : Int) (b0 : 0 ≤ s0 ∧ s0 ≤ 1900) (b1 : 0 ≤ s1 ∧ s1 ≤ 1900) (m0 : HP 41 (s0) (0 : Int) M) (f0 : 0 ≤ (s0 + (-1) * s1)) (hG : gI M) : (HP 41 (s1) (0 : Int) M ∧ True) := by
  obtain ⟨t1, t2, t3⟩ := Eq.mp hp_41 m0
  exact ⟨Eq.mpr hp_41 ⟨by omega, by omega, fun i hi => t3 i (by omega)⟩, trivial⟩
theorem rul_868 : Rul r_868 := by
  refine ⟨fun _ ρ M hm hB hF hG => ?_, fun gi gv hg => (by cases hg)⟩
  have H := cr_868 M (ρ 0) (ρ 1) (hB _ List.mem_cons_self) (hB _ (List.mem_cons_of_mem _ List.mem_cons_self)) (cvp 41 (x' := ((ρ 0))) (y' := (0 : Int)) (by show 0 + (1 * ρ 0 + 0) = _; omega) (by show 0 + 0 = _; omega) (hm _ List.mem_cons_self)) (by have h := hF _ List.mem_cons_self; have h : 0 ≤ 0 + (1 * ρ 0 + ((-1) * ρ 1 + 0)) := h; omega) hG
  obtain ⟨k0, -⟩ := H
  exact ⟨_, List.mem_cons_self, ρ, fun _ _ => rfl, (okM_c (pvp 41 (by show 0 + (1 * ρ 1 + 0) = _; omega) (by show 0 + 0 = _; omega) k0) okM_n), okB_n, okF_n⟩
-- tx0
theorem cr_869 (M : pM)  (hG : gI M) : (HP 41 (0 : Int) (0 : Int) M ∧ True) := by
  exact ⟨Eq.mpr hp_41 ⟨by decide, by decide, fun i hi => by omega⟩, trivial⟩
theorem rul_869 : Rul r_869 := by
  refine ⟨fun _ ρ M hm hB hF hG => ?_, fun gi gv hg => (by cases hg)⟩
  have H := cr_869 M hG
  obtain ⟨k0, -⟩ := H
  exact ⟨_, List.mem_cons_self, ρ, fun _ _ => rfl, (okM_c (pvp 41 (by show 0 + 0 = _; omega) (by show 0 + 0 = _; omega) k0) okM_n), okB_n, okF_n⟩
-- flq
theorem cr_870 (M : pM) (s0 s1 s2 s3 : Int) (b0 : (-2147483648) ≤ s0 ∧ s0 ≤ 2147483647) (b1 : 1 ≤ s1 ∧ s1 ≤ 5) (b2 : (-2147483648) ≤ s2 ∧ s2 ≤ 2147483647) (b3 : 1 ≤ s3 ∧ s3 ≤ 5) (m0 : HP 66 (s0) (s1) M) (m1 : HP 66 (s2) (s3) M) (hG : gI M) : (0 ≤ ((-1) * s0 + s2) ∧ 0 ≤ (s0 + (-1) * s2) ∧ 0 ≤ ((-1) * s1 + s3) ∧ 0 ≤ (s1 + (-1) * s3) ∧ True) := by
  obtain ⟨l, s, h1, h2⟩ := Eq.mp hp_66 m0
  obtain ⟨l', t, k1, k2⟩ := Eq.mp hp_66 m1
  obtain ⟨e1, e2⟩ := stuck_u h1 (fa_nx h2) k1 (fa_nx k2)
  subst e2
  rw [h2] at k2
  have k3 := Option.some.inj k2
  have e3 := congrArg Prod.fst k3
  have e4 := congrArg Prod.snd k3
  have e3 : s0 = s2 := e3
  have e4 : s1 = s3 := e4
  exact ⟨by omega, by omega, by omega, by omega, trivial⟩
theorem rul_870 : Rul r_870 := by
  refine ⟨fun _ ρ M hm hB hF hG => ?_, fun gi gv hg => (by cases hg)⟩
  have H := cr_870 M (ρ 0) (ρ 1) (ρ 2) (ρ 3) (hB _ List.mem_cons_self) (hB _ (List.mem_cons_of_mem _ List.mem_cons_self)) (hB _ (List.mem_cons_of_mem _ (List.mem_cons_of_mem _ List.mem_cons_self))) (hB _ (List.mem_cons_of_mem _ (List.mem_cons_of_mem _ (List.mem_cons_of_mem _ List.mem_cons_self)))) (cvp 66 (x' := ((ρ 0))) (y' := ((ρ 1))) (by show 0 + (1 * ρ 0 + 0) = _; omega) (by show 0 + (1 * ρ 1 + 0) = _; omega) (hm _ List.mem_cons_self)) (cvp 66 (x' := ((ρ 2))) (y' := ((ρ 3))) (by show 0 + (1 * ρ 2 + 0) = _; omega) (by show 0 + (1 * ρ 3 + 0) = _; omega) (hm _ (List.mem_cons_of_mem _ List.mem_cons_self))) hG
  obtain ⟨f0, f1, f2, f3, -⟩ := H
  exact ⟨_, List.mem_cons_self, ρ, fun _ _ => rfl, okM_n, okB_n, (okF_c (by show 0 ≤ 0 + ((-1) * ρ 0 + (1 * ρ 2 + 0)); omega) (okF_c (by show 0 ≤ 0 + (1 * ρ 0 + ((-1) * ρ 2 + 0)); omega) (okF_c (by show 0 ≤ 0 + ((-1) * ρ 1 + (1 * ρ 3 + 0)); omega) (okF_c (by show 0 ≤ 0 + (1 * ρ 1 + ((-1) * ρ 3 + 0)); omega) okF_n))))⟩
-- c01
theorem cr_871 (M : pM) (s0 : Int) (b0 : 0 ≤ s0 ∧ s0 ≤ 1) (hG : gI M) : (0 ≤ ((-1) * s0) ∧ 0 ≤ (s0) ∧ True) ∨ (0 ≤ ((-1) * s0 + 1) ∧ 0 ≤ (s0 - 1) ∧ True) := by
  by_cases h : s0 = 0
  · exact Or.inl ⟨by omega, by omega, trivial⟩
  · exact Or.inr ⟨by omega, by omega, trivial⟩
theorem rul_871 : Rul r_871 := by
  refine ⟨fun _ ρ M hm hB hF hG => ?_, fun gi gv hg => (by cases hg)⟩
  have H := cr_871 M (ρ 0) (hB _ List.mem_cons_self) hG
  rcases H with H | H
  · skip
    obtain ⟨f0, f1, -⟩ := H
    exact ⟨_, List.mem_cons_self, ρ, fun _ _ => rfl, okM_n, okB_n, (okF_c (by show 0 ≤ 0 + ((-1) * ρ 0 + 0); omega) (okF_c (by show 0 ≤ 0 + (1 * ρ 0 + 0); omega) okF_n))⟩
  · skip
    obtain ⟨f0, f1, -⟩ := H
    exact ⟨_, (List.mem_cons_of_mem _ List.mem_cons_self), ρ, fun _ _ => rfl, okM_n, okB_n, (okF_c (by show 0 ≤ 1 + ((-1) * ρ 0 + 0); omega) (okF_c (by show 0 ≤ (-1) + (1 * ρ 0 + 0); omega) okF_n))⟩
