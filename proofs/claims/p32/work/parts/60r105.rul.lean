-- ng8_1
theorem cr_500 (M : pM) (s0 : Int) (b0 : 0 ≤ s0 ∧ s0 ≤ 255) (m0 : HP 144 (7 : Int) (s0) M) (f0 : 0 ≤ (s0 - 46)) (hG : gI M) : (HP 144 (8 : Int) (s0) M ∧ True) := by
  exact ⟨Eq.mpr hp_144 (fun k h1 h2 => if e : k = 7 then (by subst e; rw [show sgs.getD 7 0 = 45 by decide]; omega) else Eq.mp hp_144 m0 k h1 (by omega)), trivial⟩
theorem rul_500 : Rul r_500 := by
  refine ⟨fun _ ρ M hm hB hF hG => ?_, fun gi gv hg => (by cases hg)⟩
  have H := cr_500 M (ρ 0) (hB _ List.mem_cons_self) (cvp 144 (x' := (7 : Int)) (y' := ((ρ 0))) (by show 7 + 0 = _; omega) (by show 0 + (1 * ρ 0 + 0) = _; omega) (hm _ List.mem_cons_self)) (by have h := hF _ List.mem_cons_self; have h : 0 ≤ (-46) + (1 * ρ 0 + 0) := h; omega) hG
  obtain ⟨k0, -⟩ := H
  exact ⟨_, List.mem_cons_self, ρ, fun _ _ => rfl, (okM_c (pvp 144 (by show 8 + 0 = _; omega) (by show 0 + (1 * ρ 0 + 0) = _; omega) k0) okM_n), okB_n, okF_n⟩
-- sg7
theorem cr_501 (M : pM) (s0 : Int) (b0 : 0 ≤ s0 ∧ s0 ≤ 255) (f0 : 0 ≤ ((-1) * s0 + 45)) (f1 : 0 ≤ (s0 - 45)) (hG : gI M) : (HP 70 (s0) (0 : Int) M ∧ True) := by
  have e : s0 = 45 := by omega
  subst e
  exact ⟨Eq.mpr hp_70 (by decide), trivial⟩
theorem rul_501 : Rul r_501 := by
  refine ⟨fun _ ρ M hm hB hF hG => ?_, fun gi gv hg => (by cases hg)⟩
  have H := cr_501 M (ρ 0) (hB _ List.mem_cons_self) (by have h := hF _ List.mem_cons_self; have h : 0 ≤ 45 + ((-1) * ρ 0 + 0) := h; omega) (by have h := hF _ (List.mem_cons_of_mem _ List.mem_cons_self); have h : 0 ≤ (-45) + (1 * ρ 0 + 0) := h; omega) hG
  obtain ⟨k0, -⟩ := H
  exact ⟨_, List.mem_cons_self, ρ, fun _ _ => rfl, (okM_c (pvp 70 (by show 0 + (1 * ρ 0 + 0) = _; omega) (by show 0 + 0 = _; omega) k0) okM_n), okB_n, okF_n⟩
-- ng9_0
theorem cr_502 (M : pM) (s0 : Int) (b0 : 0 ≤ s0 ∧ s0 ≤ 255) (m0 : HP 144 (8 : Int) (s0) M) (f0 : 0 ≤ ((-1) * s0 + 41)) (hG : gI M) : (HP 144 (9 : Int) (s0) M ∧ True) := by
  exact ⟨Eq.mpr hp_144 (fun k h1 h2 => if e : k = 8 then (by subst e; rw [show sgs.getD 8 0 = 42 by decide]; omega) else Eq.mp hp_144 m0 k h1 (by omega)), trivial⟩
theorem rul_502 : Rul r_502 := by
  refine ⟨fun _ ρ M hm hB hF hG => ?_, fun gi gv hg => (by cases hg)⟩
  have H := cr_502 M (ρ 0) (hB _ List.mem_cons_self) (cvp 144 (x' := (8 : Int)) (y' := ((ρ 0))) (by show 8 + 0 = _; omega) (by show 0 + (1 * ρ 0 + 0) = _; omega) (hm _ List.mem_cons_self)) (by have h := hF _ List.mem_cons_self; have h : 0 ≤ 41 + ((-1) * ρ 0 + 0) := h; omega) hG
  obtain ⟨k0, -⟩ := H
  exact ⟨_, List.mem_cons_self, ρ, fun _ _ => rfl, (okM_c (pvp 144 (by show 9 + 0 = _; omega) (by show 0 + (1 * ρ 0 + 0) = _; omega) k0) okM_n), okB_n, okF_n⟩
-- ng9_1
theorem cr_503 (M : pM) (s0 : Int) (b0 : 0 ≤ s0 ∧ s0 ≤ 255) (m0 : HP 144 (8 : Int) (s0) M) (f0 : 0 ≤ (s0 - 43)) (hG : gI M) : (HP 144 (9 : Int) (s0) M ∧ True) := by
  exact ⟨Eq.mpr hp_144 (fun k h1 h2 => if e : k = 8 then (by subst e; rw [show sgs.getD 8 0 = 42 by decide]; omega) else Eq.mp hp_144 m0 k h1 (by omega)), trivial⟩
theorem rul_503 : Rul r_503 := by
  refine ⟨fun _ ρ M hm hB hF hG => ?_, fun gi gv hg => (by cases hg)⟩
  have H := cr_503 M (ρ 0) (hB _ List.mem_cons_self) (cvp 144 (x' := (8 : Int)) (y' := ((ρ 0))) (by show 8 + 0 = _; omega) (by show 0 + (1 * ρ 0 + 0) = _; omega) (hm _ List.mem_cons_self)) (by have h := hF _ List.mem_cons_self; have h : 0 ≤ (-43) + (1 * ρ 0 + 0) := h; omega) hG
  obtain ⟨k0, -⟩ := H
  exact ⟨_, List.mem_cons_self, ρ, fun _ _ => rfl, (okM_c (pvp 144 (by show 9 + 0 = _; omega) (by show 0 + (1 * ρ 0 + 0) = _; omega) k0) okM_n), okB_n, okF_n⟩
-- sg8
theorem cr_504 (M : pM) (s0 : Int) (b0 : 0 ≤ s0 ∧ s0 ≤ 255) (f0 : 0 ≤ ((-1) * s0 + 42)) (f1 : 0 ≤ (s0 - 42)) (hG : gI M) : (HP 70 (s0) (0 : Int) M ∧ True) := by
  have e : s0 = 42 := by omega
  subst e
  exact ⟨Eq.mpr hp_70 (by decide), trivial⟩
theorem rul_504 : Rul r_504 := by
  refine ⟨fun _ ρ M hm hB hF hG => ?_, fun gi gv hg => (by cases hg)⟩
  have H := cr_504 M (ρ 0) (hB _ List.mem_cons_self) (by have h := hF _ List.mem_cons_self; have h : 0 ≤ 42 + ((-1) * ρ 0 + 0) := h; omega) (by have h := hF _ (List.mem_cons_of_mem _ List.mem_cons_self); have h : 0 ≤ (-42) + (1 * ρ 0 + 0) := h; omega) hG
  obtain ⟨k0, -⟩ := H
  exact ⟨_, List.mem_cons_self, ρ, fun _ _ => rfl, (okM_c (pvp 70 (by show 0 + (1 * ρ 0 + 0) = _; omega) (by show 0 + 0 = _; omega) k0) okM_n), okB_n, okF_n⟩
-- ng10_0
theorem cr_505 (M : pM) (s0 : Int) (b0 : 0 ≤ s0 ∧ s0 ≤ 255) (m0 : HP 144 (9 : Int) (s0) M) (f0 : 0 ≤ ((-1) * s0 + 46)) (hG : gI M) : (HP 144 (10 : Int) (s0) M ∧ True) := by
  exact ⟨Eq.mpr hp_144 (fun k h1 h2 => if e : k = 9 then (by subst e; rw [show sgs.getD 9 0 = 47 by decide]; omega) else Eq.mp hp_144 m0 k h1 (by omega)), trivial⟩
theorem rul_505 : Rul r_505 := by
  refine ⟨fun _ ρ M hm hB hF hG => ?_, fun gi gv hg => (by cases hg)⟩
  have H := cr_505 M (ρ 0) (hB _ List.mem_cons_self) (cvp 144 (x' := (9 : Int)) (y' := ((ρ 0))) (by show 9 + 0 = _; omega) (by show 0 + (1 * ρ 0 + 0) = _; omega) (hm _ List.mem_cons_self)) (by have h := hF _ List.mem_cons_self; have h : 0 ≤ 46 + ((-1) * ρ 0 + 0) := h; omega) hG
  obtain ⟨k0, -⟩ := H
  exact ⟨_, List.mem_cons_self, ρ, fun _ _ => rfl, (okM_c (pvp 144 (by show 10 + 0 = _; omega) (by show 0 + (1 * ρ 0 + 0) = _; omega) k0) okM_n), okB_n, okF_n⟩
-- ng10_1
theorem cr_506 (M : pM) (s0 : Int) (b0 : 0 ≤ s0 ∧ s0 ≤ 255) (m0 : HP 144 (9 : Int) (s0) M) (f0 : 0 ≤ (s0 - 48)) (hG : gI M) : (HP 144 (10 : Int) (s0) M ∧ True) := by
  exact ⟨Eq.mpr hp_144 (fun k h1 h2 => if e : k = 9 then (by subst e; rw [show sgs.getD 9 0 = 47 by decide]; omega) else Eq.mp hp_144 m0 k h1 (by omega)), trivial⟩
theorem rul_506 : Rul r_506 := by
  refine ⟨fun _ ρ M hm hB hF hG => ?_, fun gi gv hg => (by cases hg)⟩
  have H := cr_506 M (ρ 0) (hB _ List.mem_cons_self) (cvp 144 (x' := (9 : Int)) (y' := ((ρ 0))) (by show 9 + 0 = _; omega) (by show 0 + (1 * ρ 0 + 0) = _; omega) (hm _ List.mem_cons_self)) (by have h := hF _ List.mem_cons_self; have h : 0 ≤ (-48) + (1 * ρ 0 + 0) := h; omega) hG
  obtain ⟨k0, -⟩ := H
  exact ⟨_, List.mem_cons_self, ρ, fun _ _ => rfl, (okM_c (pvp 144 (by show 10 + 0 = _; omega) (by show 0 + (1 * ρ 0 + 0) = _; omega) k0) okM_n), okB_n, okF_n⟩
-- sg9
theorem cr_507 (M : pM) (s0 : Int) (b0 : 0 ≤ s0 ∧ s0 ≤ 255) (f0 : 0 ≤ ((-1) * s0 + 47)) (f1 : 0 ≤ (s0 - 47)) (hG : gI M) : (HP 70 (s0) (0 : Int) M ∧ True) := by
  have e : s0 = 47 := by omega
  subst e
  exact ⟨Eq.mpr hp_70 (by decide), trivial⟩
theorem rul_507 : Rul r_507 := by
  refine ⟨fun _ ρ M hm hB hF hG => ?_, fun gi gv hg => (by cases hg)⟩
  have H := cr_507 M (ρ 0) (hB _ List.mem_cons_self) (by have h := hF _ List.mem_cons_self; have h : 0 ≤ 47 + ((-1) * ρ 0 + 0) := h; omega) (by have h := hF _ (List.mem_cons_of_mem _ List.mem_cons_self); have h : 0 ≤ (-47) + (1 * ρ 0 + 0) := h; omega) hG
  obtain ⟨k0, -⟩ := H
  exact ⟨_, List.mem_cons_self, ρ, fun _ _ => rfl, (okM_c (pvp 70 (by show 0 + (1 * ρ 0 + 0) = _; omega) (by show 0 + 0 = _; omega) k0) okM_n), okB_n, okF_n⟩
-- qk0
theorem cr_508 (M : pM) (s0 : Int) (b0 : 0 ≤ s0 ∧ s0 ≤ 1900) (hG : gI M) : (HP 143 (2049 * s0) (0 : Int) M ∧ True) := by
  exact ⟨Eq.mpr hp_143 ⟨s0.toNat, 0, by omega, by omega, rfl, fun i hi => by omega⟩, trivial⟩
theorem rul_508 : Rul r_508 := by
  refine ⟨fun _ ρ M hm hB hF hG => ?_, fun gi gv hg => (by cases hg)⟩
  have H := cr_508 M (ρ 0) (hB _ List.mem_cons_self) hG
  obtain ⟨k0, -⟩ := H
  exact ⟨_, List.mem_cons_self, ρ, fun _ _ => rfl, (okM_c (pvp 143 (by show 0 + (2049 * ρ 0 + 0) = _; omega) (by show 0 + 0 = _; omega) k0) okM_n), okB_n, okF_n⟩
-- qkn
theorem cr_509 (M : pM) (s0 s1 s2 s3 s4 s5 : Int) (b0 : 0 ≤ s0 ∧ s0 ≤ 1900) (b1 : 0 ≤ s1 ∧ s1 ≤ 1900) (b2 : 0 ≤ s2 ∧ s2 ≤ 9223372036854775807) (b3 : 97 ≤ s3 ∧ s3 ≤ 122) (b4 : (-9223372036854775808) ≤ s4 ∧ s4 ≤ 9223372036854775807) (b5 : (-9223372036854775808) ≤ s5 ∧ s5 ≤ 9223372036854775807) (m0 : HP 143 (2048 * s0 + s1) (s2) M) (m1 : (0 ≤ (s1) ∧ M 1 (s1).toNat = (s3))) (m2 : HP 116 (4294967296 * s2 + 8) (s4) M) (m3 : HP 111 (s3 + 18446744073709551616 * s4) (s5) M) (f0 : 0 ≤ ((-1) * s0 + s1)) (f1 : 0 ≤ (s0 + (-1) * s1 + 7)) (hG : gI M) : (HP 143 (2048 * s0 + s1 + 1) (s5) M ∧ 0 ≤ (s5) ∧ True) := by
  obtain ⟨p1, p2, p3⟩ := pk_o (s := s0.toNat) (e := s1.toNat) (Eq.mp hp_143 m0) ⟨by omega, by omega, by omega⟩
  have hr := rd1 m1 (by omega)
  have p4 : ∀ i, i < s1.toNat - s0.toNat + 1 → 97 ≤ tm M 1 (s0.toNat + i) ∧ tm M 1 (s0.toNat + i) ≤ 122 := by
    intro i hi
    by_cases e : i = s1.toNat - s0.toNat
    · rw [show s0.toNat + i = s1.toNat by omega, hr]; omega
    · exact p3 i (by omega)
  have hb := pk_bd (m := 256) (a := 0) (hi := 122) (by decide) (by decide) (N := tm M) (s := s0.toNat) (k := s1.toNat - s0.toNat) (fun i hi => by have := p3 i hi; omega)
  have hb2 := pk_b2 (N := tm M) (s := s0.toNat) (k := s1.toNat - s0.toNat) (fun i hi => by have := p3 i hi; omega)
  have hp : (256 : Int) ^ (s1.toNat - s0.toNat) ≤ 72057594037927936 := by
    have : s1.toNat - s0.toNat ≤ 7 := by omega
    have h8 : ∀ k, k ≤ 7 → (256 : Int) ^ k ≤ 72057594037927936 := by decide
    exact h8 _ this
  have e1 := n_lshl (a := s2) (b := 8) m2 (by omega) (by unfold r32; omega)
  have e2 := n_lor (a := s4) (b := s3) m3 (by omega) (by unfold r64; omega)
  rw [l64_shl8 (by omega) (by omega)] at e1
  rw [e1, l64_or (by omega) (by omega) (by omega) (by omega)] at e2
  refine ⟨Eq.mpr hp_143 ⟨s0.toNat, s1.toNat - s0.toNat + 1, by omega, by omega, ?_, p4⟩, by omega, trivial⟩
  show s5 = 256 * pkd 256 0 (tm M) s0.toNat (s1.toNat - s0.toNat) + (tm M 1 (s0.toNat + (s1.toNat - s0.toNat)) - 0)
  rw [← p2, show s0.toNat + (s1.toNat - s0.toNat) = s1.toNat by omega, hr]
  omega
theorem rul_509 : Rul r_509 := by
  refine ⟨fun _ ρ M hm hB hF hG => ?_, fun gi gv hg => (by cases hg)⟩
  have H := cr_509 M (ρ 0) (ρ 1) (ρ 2) (ρ 3) (ρ 4) (ρ 5) (hB _ List.mem_cons_self) (hB _ (List.mem_cons_of_mem _ List.mem_cons_self)) (hB _ (List.mem_cons_of_mem _ (List.mem_cons_of_mem _ List.mem_cons_self))) (hB _ (List.mem_cons_of_mem _ (List.mem_cons_of_mem _ (List.mem_cons_of_mem _ List.mem_cons_self)))) (hB _ (List.mem_cons_of_mem _ (List.mem_cons_of_mem _ (List.mem_cons_of_mem _ (List.mem_cons_of_mem _ List.mem_cons_self))))) (hB _ (List.mem_cons_of_mem _ (List.mem_cons_of_mem _ (List.mem_cons_of_mem _ (List.mem_cons_of_mem _ (List.mem_cons_of_mem _ List.mem_cons_self)))))) (cvp 143 (x' := (2048 * (ρ 0) + (ρ 1))) (y' := ((ρ 2))) (by show 0 + (2048 * ρ 0 + (1 * ρ 1 + 0)) = _; omega) (by show 0 + (1 * ρ 2 + 0) = _; omega) (hm _ List.mem_cons_self)) (cvm (c := 1) (by decide) (x' := ((ρ 1))) (y' := ((ρ 3))) (by show 0 + (1 * ρ 1 + 0) = _; omega) (by show 0 + (1 * ρ 3 + 0) = _; omega) (hm _ (List.mem_cons_of_mem _ List.mem_cons_self))) (cvp 116 (x' := (4294967296 * (ρ 2) + 8)) (y' := ((ρ 4))) (by show 8 + (4294967296 * ρ 2 + 0) = _; omega) (by show 0 + (1 * ρ 4 + 0) = _; omega) (hm _ (List.mem_cons_of_mem _ (List.mem_cons_of_mem _ List.mem_cons_self)))) (cvp 111 (x' := ((ρ 3) + 18446744073709551616 * (ρ 4))) (y' := ((ρ 5))) (by show 0 + (1 * ρ 3 + (18446744073709551616 * ρ 4 + 0)) = _; omega) (by show 0 + (1 * ρ 5 + 0) = _; omega) (hm _ (List.mem_cons_of_mem _ (List.mem_cons_of_mem _ (List.mem_cons_of_mem _ List.mem_cons_self))))) (by have h := hF _ List.mem_cons_self; have h : 0 ≤ 0 + ((-1) * ρ 0 + (1 * ρ 1 + 0)) := h; omega) (by have h := hF _ (List.mem_cons_of_mem _ List.mem_cons_self); have h : 0 ≤ 7 + (1 * ρ 0 + ((-1) * ρ 1 + 0)) := h; omega) hG
  obtain ⟨k0, f0, -⟩ := H
  exact ⟨_, List.mem_cons_self, ρ, fun _ _ => rfl, (okM_c (pvp 143 (by show 1 + (2048 * ρ 0 + (1 * ρ 1 + 0)) = _; omega) (by show 0 + (1 * ρ 5 + 0) = _; omega) k0) okM_n), okB_n, (okF_c (by show 0 ≤ 0 + (1 * ρ 5 + 0); omega) okF_n)⟩
-- qkx
theorem cr_510 (M : pM) (s0 s1 s2 : Int) (b0 : 0 ≤ s0 ∧ s0 ≤ 3893100) (b1 : 0 ≤ s1 ∧ s1 ≤ 3893100) (b2 : 0 ≤ s2 ∧ s2 ≤ 9223372036854775807) (m0 : HP 143 (s0) (s2) M) (f0 : 0 ≤ ((-1) * s0 + s1)) (f1 : 0 ≤ (s0 + (-1) * s1)) (hG : gI M) : (HP 143 (s1) (s2) M ∧ True) := by
  have e : s0 = s1 := by omega
  subst e
  exact ⟨m0, trivial⟩
theorem rul_510 : Rul r_510 := by
  refine ⟨fun _ ρ M hm hB hF hG => ?_, fun gi gv hg => (by cases hg)⟩
  have H := cr_510 M (ρ 0) (ρ 1) (ρ 2) (hB _ List.mem_cons_self) (hB _ (List.mem_cons_of_mem _ List.mem_cons_self)) (hB _ (List.mem_cons_of_mem _ (List.mem_cons_of_mem _ List.mem_cons_self))) (cvp 143 (x' := ((ρ 0))) (y' := ((ρ 2))) (by show 0 + (1 * ρ 0 + 0) = _; omega) (by show 0 + (1 * ρ 2 + 0) = _; omega) (hm _ List.mem_cons_self)) (by have h := hF _ List.mem_cons_self; have h : 0 ≤ 0 + ((-1) * ρ 0 + (1 * ρ 1 + 0)) := h; omega) (by have h := hF _ (List.mem_cons_of_mem _ List.mem_cons_self); have h : 0 ≤ 0 + (1 * ρ 0 + ((-1) * ρ 1 + 0)) := h; omega) hG
  obtain ⟨k0, -⟩ := H
  exact ⟨_, List.mem_cons_self, ρ, fun _ _ => rfl, (okM_c (pvp 143 (by show 0 + (1 * ρ 1 + 0) = _; omega) (by show 0 + (1 * ρ 2 + 0) = _; omega) k0) okM_n), okB_n, okF_n⟩
-- tkL2
theorem cr_511 (M : pM) (s0 s1 s2 s3 : Int) (b0 : 0 ≤ s0 ∧ s0 ≤ 1900) (b1 : 0 ≤ s1 ∧ s1 ≤ 1900) (b2 : 0 ≤ s2 ∧ s2 ≤ 1900) (b3 : 0 ≤ s3 ∧ s3 ≤ 1900) (m0 : (0 ≤ (1 : Int) ∧ M 2 (1 : Int).toNat = (s2))) (m1 : HP 44 (s0) (s1) M) (m2 : HP 44 (s1 + 2048) (s3) M) (f0 : 0 ≤ ((-1) * s1 + s2 - 1)) (f1 : 0 ≤ ((-1) * s1 + s3 - 9)) (hG : gI M) : (HP 45 (s0) (s1) M ∧ HP 46 (s0) (s3) M ∧ HP 47 (s0) (-1 : Int) M ∧ True) := by
  have hn := tn_o m0 b2
  have e0 := ru_o (P := 0) (p := s0.toNat) m1 ⟨by omega, by decide, by omega⟩
  have e1 := ru_o (P := 1) (p := s1.toNat) m2 ⟨by omega, by decide, by omega⟩
  exact tk_fin (tk_long (p := s0.toNat) (s := s1.toNat) (e := s3.toNat) (by omega) (by omega) (by omega) (by omega)) (by omega) (by omega) (by omega) (by omega)
theorem rul_511 : Rul r_511 := by
  refine ⟨fun _ ρ M hm hB hF hG => ?_, fun gi gv hg => (by cases hg)⟩
  have H := cr_511 M (ρ 0) (ρ 1) (ρ 2) (ρ 3) (hB _ List.mem_cons_self) (hB _ (List.mem_cons_of_mem _ List.mem_cons_self)) (hB _ (List.mem_cons_of_mem _ (List.mem_cons_of_mem _ List.mem_cons_self))) (hB _ (List.mem_cons_of_mem _ (List.mem_cons_of_mem _ (List.mem_cons_of_mem _ List.mem_cons_self)))) (cvm (c := 2) (by decide) (x' := (1 : Int)) (y' := ((ρ 2))) (by show 1 + 0 = _; omega) (by show 0 + (1 * ρ 2 + 0) = _; omega) (hm _ List.mem_cons_self)) (cvp 44 (x' := ((ρ 0))) (y' := ((ρ 1))) (by show 0 + (1 * ρ 0 + 0) = _; omega) (by show 0 + (1 * ρ 1 + 0) = _; omega) (hm _ (List.mem_cons_of_mem _ List.mem_cons_self))) (cvp 44 (x' := ((ρ 1) + 2048)) (y' := ((ρ 3))) (by show 2048 + (1 * ρ 1 + 0) = _; omega) (by show 0 + (1 * ρ 3 + 0) = _; omega) (hm _ (List.mem_cons_of_mem _ (List.mem_cons_of_mem _ List.mem_cons_self)))) (by have h := hF _ List.mem_cons_self; have h : 0 ≤ (-1) + ((-1) * ρ 1 + (1 * ρ 2 + 0)) := h; omega) (by have h := hF _ (List.mem_cons_of_mem _ List.mem_cons_self); have h : 0 ≤ (-9) + ((-1) * ρ 1 + (1 * ρ 3 + 0)) := h; omega) hG
  obtain ⟨k0, k1, k2, -⟩ := H
  exact ⟨_, List.mem_cons_self, ρ, fun _ _ => rfl, (okM_c (pvp 45 (by show 0 + (1 * ρ 0 + 0) = _; omega) (by show 0 + (1 * ρ 1 + 0) = _; omega) k0) (okM_c (pvp 46 (by show 0 + (1 * ρ 0 + 0) = _; omega) (by show 0 + (1 * ρ 3 + 0) = _; omega) k1) (okM_c (pvp 47 (by show 0 + (1 * ρ 0 + 0) = _; omega) (by show (-1) + 0 = _; omega) k2) okM_n))), okB_n, okF_n⟩
-- tkK
theorem cr_512 (M : pM) (s0 s1 s2 s3 s4 s5 : Int) (b0 : 0 ≤ s0 ∧ s0 ≤ 1900) (b1 : 0 ≤ s1 ∧ s1 ≤ 1900) (b2 : 0 ≤ s2 ∧ s2 ≤ 1900) (b3 : 0 ≤ s3 ∧ s3 ≤ 1900) (b4 : 0 ≤ s4 ∧ s4 ≤ 9223372036854775807) (b5 : 0 ≤ s5 ∧ s5 ≤ 23) (m0 : (0 ≤ (1 : Int) ∧ M 2 (1 : Int).toNat = (s2))) (m1 : HP 44 (s0) (s1) M) (m2 : HP 44 (s1 + 2048) (s3) M) (m3 : HP 143 (2048 * s1 + s3) (s4) M) (m4 : HP 140 (s5) (s4) M) (f0 : 0 ≤ ((-1) * s1 + s2 - 1)) (f1 : 0 ≤ ((-1) * s1 + s3 - 1)) (f2 : 0 ≤ (s1 + (-1) * s3 + 8)) (hG : gI M) : (HP 45 (s0) (s1) M ∧ HP 46 (s0) (s3) M ∧ HP 47 (s0) (s5 + 262144) M ∧ True) := by
  have hn := tn_o m0 b2
  have e0 := ru_o (P := 0) (p := s0.toNat) m1 ⟨by omega, by decide, by omega⟩
  have e1 := ru_o (P := 1) (p := s1.toNat) m2 ⟨by omega, by decide, by omega⟩
  obtain ⟨p1, p2, p3⟩ := pk_o (s := s1.toNat) (e := s3.toNat) (Eq.mp hp_143 m3) ⟨by omega, by omega, by omega⟩
  obtain ⟨k, w1, w2, w3⟩ := Eq.mp hp_140 m4
  have w := qk_wid (N := tm M) (s := s1.toNat) (e := s3.toNat) w1 p3 (by omega)
  rw [wid_ag agtm (by omega) (by omega)] at w
  exact tk_fin (tk_word (p := s0.toNat) (s := s1.toNat) (e := s3.toNat) (by omega) (by omega) (by omega) (by omega) (by omega)) (by omega) (by omega) (by omega) (by omega)
theorem rul_512 : Rul r_512 := by
  refine ⟨fun _ ρ M hm hB hF hG => ?_, fun gi gv hg => (by cases hg)⟩
  have H := cr_512 M (ρ 0) (ρ 1) (ρ 2) (ρ 3) (ρ 4) (ρ 5) (hB _ List.mem_cons_self) (hB _ (List.mem_cons_of_mem _ List.mem_cons_self)) (hB _ (List.mem_cons_of_mem _ (List.mem_cons_of_mem _ List.mem_cons_self))) (hB _ (List.mem_cons_of_mem _ (List.mem_cons_of_mem _ (List.mem_cons_of_mem _ List.mem_cons_self)))) (hB _ (List.mem_cons_of_mem _ (List.mem_cons_of_mem _ (List.mem_cons_of_mem _ (List.mem_cons_of_mem _ List.mem_cons_self))))) (hB _ (List.mem_cons_of_mem _ (List.mem_cons_of_mem _ (List.mem_cons_of_mem _ (List.mem_cons_of_mem _ (List.mem_cons_of_mem _ List.mem_cons_self)))))) (cvm (c := 2) (by decide) (x' := (1 : Int)) (y' := ((ρ 2))) (by show 1 + 0 = _; omega) (by show 0 + (1 * ρ 2 + 0) = _; omega) (hm _ List.mem_cons_self)) (cvp 44 (x' := ((ρ 0))) (y' := ((ρ 1))) (by show 0 + (1 * ρ 0 + 0) = _; omega) (by show 0 + (1 * ρ 1 + 0) = _; omega) (hm _ (List.mem_cons_of_mem _ List.mem_cons_self))) (cvp 44 (x' := ((ρ 1) + 2048)) (y' := ((ρ 3))) (by show 2048 + (1 * ρ 1 + 0) = _; omega) (by show 0 + (1 * ρ 3 + 0) = _; omega) (hm _ (List.mem_cons_of_mem _ (List.mem_cons_of_mem _ List.mem_cons_self)))) (cvp 143 (x' := (2048 * (ρ 1) + (ρ 3))) (y' := ((ρ 4))) (by show 0 + (2048 * ρ 1 + (1 * ρ 3 + 0)) = _; omega) (by show 0 + (1 * ρ 4 + 0) = _; omega) (hm _ (List.mem_cons_of_mem _ (List.mem_cons_of_mem _ (List.mem_cons_of_mem _ List.mem_cons_self))))) (cvp 140 (x' := ((ρ 5))) (y' := ((ρ 4))) (by show 0 + (1 * ρ 5 + 0) = _; omega) (by show 0 + (1 * ρ 4 + 0) = _; omega) (hm _ (List.mem_cons_of_mem _ (List.mem_cons_of_mem _ (List.mem_cons_of_mem _ (List.mem_cons_of_mem _ List.mem_cons_self)))))) (by have h := hF _ List.mem_cons_self; have h : 0 ≤ (-1) + ((-1) * ρ 1 + (1 * ρ 2 + 0)) := h; omega) (by have h := hF _ (List.mem_cons_of_mem _ List.mem_cons_self); have h : 0 ≤ (-1) + ((-1) * ρ 1 + (1 * ρ 3 + 0)) := h; omega) (by have h := hF _ (List.mem_cons_of_mem _ (List.mem_cons_of_mem _ List.mem_cons_self)); have h : 0 ≤ 8 + (1 * ρ 1 + ((-1) * ρ 3 + 0)) := h; omega) hG
  obtain ⟨k0, k1, k2, -⟩ := H
  exact ⟨_, List.mem_cons_self, ρ, fun _ _ => rfl, (okM_c (pvp 45 (by show 0 + (1 * ρ 0 + 0) = _; omega) (by show 0 + (1 * ρ 1 + 0) = _; omega) k0) (okM_c (pvp 46 (by show 0 + (1 * ρ 0 + 0) = _; omega) (by show 0 + (1 * ρ 3 + 0) = _; omega) k1) (okM_c (pvp 47 (by show 0 + (1 * ρ 0 + 0) = _; omega) (by show 262144 + (1 * ρ 5 + 0) = _; omega) k2) okM_n))), okB_n, okF_n⟩
-- tkA
theorem cr_513 (M : pM) (s0 s1 s2 s3 s4 : Int) (b0 : 0 ≤ s0 ∧ s0 ≤ 1900) (b1 : 0 ≤ s1 ∧ s1 ≤ 1900) (b2 : 0 ≤ s2 ∧ s2 ≤ 1900) (b3 : 0 ≤ s3 ∧ s3 ≤ 1900) (b4 : 0 ≤ s4 ∧ s4 ≤ 9223372036854775807) (m0 : (0 ≤ (1 : Int) ∧ M 2 (1 : Int).toNat = (s2))) (m1 : HP 44 (s0) (s1) M) (m2 : HP 44 (s1 + 2048) (s3) M) (m3 : HP 143 (2048 * s1 + s3) (s4) M) (m4 : HP 142 (24 : Int) (s4) M) (f0 : 0 ≤ ((-1) * s1 + s2 - 1)) (f1 : 0 ≤ ((-1) * s1 + s3 - 1)) (f2 : 0 ≤ (s1 + (-1) * s3 + 8)) (hG : gI M) : (HP 45 (s0) (s1) M ∧ HP 46 (s0) (s3) M ∧ HP 47 (s0) (262143 : Int) M ∧ True) := by
  have hn := tn_o m0 b2
  have e0 := ru_o (P := 0) (p := s0.toNat) m1 ⟨by omega, by decide, by omega⟩
  have e1 := ru_o (P := 1) (p := s1.toNat) m2 ⟨by omega, by decide, by omega⟩
  obtain ⟨p1, p2, p3⟩ := pk_o (s := s1.toNat) (e := s3.toNat) (Eq.mp hp_143 m3) ⟨by omega, by omega, by omega⟩
  have w := qk_nwid (N := tm M) (s := s1.toNat) (e := s3.toNat) (fun k hk => by rw [← p2]; exact Eq.mp hp_142 m4 k hk (by omega))
  rw [wid_ag agtm (by omega) (by omega)] at w
  exact tk_fin (tk_word (p := s0.toNat) (s := s1.toNat) (e := s3.toNat) (by omega) (by omega) (by omega) (by omega) (by omega)) (by omega) (by omega) (by omega) (by omega)
theorem rul_513 : Rul r_513 := by
  refine ⟨fun _ ρ M hm hB hF hG => ?_, fun gi gv hg => (by cases hg)⟩
  have H := cr_513 M (ρ 0) (ρ 1) (ρ 2) (ρ 3) (ρ 4) (hB _ List.mem_cons_self) (hB _ (List.mem_cons_of_mem _ List.mem_cons_self)) (hB _ (List.mem_cons_of_mem _ (List.mem_cons_of_mem _ List.mem_cons_self))) (hB _ (List.mem_cons_of_mem _ (List.mem_cons_of_mem _ (List.mem_cons_of_mem _ List.mem_cons_self)))) (hB _ (List.mem_cons_of_mem _ (List.mem_cons_of_mem _ (List.mem_cons_of_mem _ (List.mem_cons_of_mem _ List.mem_cons_self))))) (cvm (c := 2) (by decide) (x' := (1 : Int)) (y' := ((ρ 2))) (by show 1 + 0 = _; omega) (by show 0 + (1 * ρ 2 + 0) = _; omega) (hm _ List.mem_cons_self)) (cvp 44 (x' := ((ρ 0))) (y' := ((ρ 1))) (by show 0 + (1 * ρ 0 + 0) = _; omega) (by show 0 + (1 * ρ 1 + 0) = _; omega) (hm _ (List.mem_cons_of_mem _ List.mem_cons_self))) (cvp 44 (x' := ((ρ 1) + 2048)) (y' := ((ρ 3))) (by show 2048 + (1 * ρ 1 + 0) = _; omega) (by show 0 + (1 * ρ 3 + 0) = _; omega) (hm _ (List.mem_cons_of_mem _ (List.mem_cons_of_mem _ List.mem_cons_self)))) (cvp 143 (x' := (2048 * (ρ 1) + (ρ 3))) (y' := ((ρ 4))) (by show 0 + (2048 * ρ 1 + (1 * ρ 3 + 0)) = _; omega) (by show 0 + (1 * ρ 4 + 0) = _; omega) (hm _ (List.mem_cons_of_mem _ (List.mem_cons_of_mem _ (List.mem_cons_of_mem _ List.mem_cons_self))))) (cvp 142 (x' := (24 : Int)) (y' := ((ρ 4))) (by show 24 + 0 = _; omega) (by show 0 + (1 * ρ 4 + 0) = _; omega) (hm _ (List.mem_cons_of_mem _ (List.mem_cons_of_mem _ (List.mem_cons_of_mem _ (List.mem_cons_of_mem _ List.mem_cons_self)))))) (by have h := hF _ List.mem_cons_self; have h : 0 ≤ (-1) + ((-1) * ρ 1 + (1 * ρ 2 + 0)) := h; omega) (by have h := hF _ (List.mem_cons_of_mem _ List.mem_cons_self); have h : 0 ≤ (-1) + ((-1) * ρ 1 + (1 * ρ 3 + 0)) := h; omega) (by have h := hF _ (List.mem_cons_of_mem _ (List.mem_cons_of_mem _ List.mem_cons_self)); have h : 0 ≤ 8 + (1 * ρ 1 + ((-1) * ρ 3 + 0)) := h; omega) hG
  obtain ⟨k0, k1, k2, -⟩ := H
  exact ⟨_, List.mem_cons_self, ρ, fun _ _ => rfl, (okM_c (pvp 45 (by show 0 + (1 * ρ 0 + 0) = _; omega) (by show 0 + (1 * ρ 1 + 0) = _; omega) k0) (okM_c (pvp 46 (by show 0 + (1 * ρ 0 + 0) = _; omega) (by show 0 + (1 * ρ 3 + 0) = _; omega) k1) (okM_c (pvp 47 (by show 0 + (1 * ρ 0 + 0) = _; omega) (by show 262143 + 0 = _; omega) k2) okM_n))), okB_n, okF_n⟩
-- tkO2
theorem cr_514 (M : pM) (s0 s1 s2 s3 s4 : Int) (b0 : 0 ≤ s0 ∧ s0 ≤ 1900) (b1 : 0 ≤ s1 ∧ s1 ≤ 1900) (b2 : 0 ≤ s2 ∧ s2 ≤ 1900) (b3 : 0 ≤ s3 ∧ s3 ≤ 1900) (b4 : 97 ≤ s4 ∧ s4 ≤ 122) (m0 : (0 ≤ (1 : Int) ∧ M 2 (1 : Int).toNat = (s2))) (m1 : HP 44 (s0) (s1) M) (m2 : HP 44 (s1 + 2048) (s1) M) (m3 : HP 44 (s1 + 4096) (s3) M) (m4 : (0 ≤ (s3) ∧ M 1 (s3).toNat = (s4))) (f0 : 0 ≤ ((-1) * s1 + s2 - 1)) (f1 : 0 ≤ ((-1) * s1 + s3 - 1)) (f2 : 0 ≤ (s2 + (-1) * s3 - 1)) (hG : gI M) : (HP 45 (s0) (s1) M ∧ HP 46 (s0) (s3) M ∧ HP 47 (s0) (-1 : Int) M ∧ True) := by
  have hn := tn_o m0 b2
  have e0 := ru_o (P := 0) (p := s0.toNat) m1 ⟨by omega, by decide, by omega⟩
  have e1 := ru_o (P := 1) (p := s1.toNat) m2 ⟨by omega, by decide, by omega⟩
  have e2 := ru_o (P := 2) (p := s1.toNat) m3 ⟨by omega, by decide, by omega⟩
  have e3 := ru_lt (M := M) (P := 1) (p := s3.toNat) (by omega) (by rw [m4.2]; exact decide_eq_true (by omega))
  exact tk_fin (tk_bad (p := s0.toNat) (s := s1.toNat) (e := s3.toNat) (by omega) (by omega) (by omega) (by omega) (by omega) (fun h => by omega)) (by omega) (by omega) (by omega) (by omega)
theorem rul_514 : Rul r_514 := by
  refine ⟨fun _ ρ M hm hB hF hG => ?_, fun gi gv hg => (by cases hg)⟩
  have H := cr_514 M (ρ 0) (ρ 1) (ρ 2) (ρ 3) (ρ 4) (hB _ List.mem_cons_self) (hB _ (List.mem_cons_of_mem _ List.mem_cons_self)) (hB _ (List.mem_cons_of_mem _ (List.mem_cons_of_mem _ List.mem_cons_self))) (hB _ (List.mem_cons_of_mem _ (List.mem_cons_of_mem _ (List.mem_cons_of_mem _ List.mem_cons_self)))) (hB _ (List.mem_cons_of_mem _ (List.mem_cons_of_mem _ (List.mem_cons_of_mem _ (List.mem_cons_of_mem _ List.mem_cons_self))))) (cvm (c := 2) (by decide) (x' := (1 : Int)) (y' := ((ρ 2))) (by show 1 + 0 = _; omega) (by show 0 + (1 * ρ 2 + 0) = _; omega) (hm _ List.mem_cons_self)) (cvp 44 (x' := ((ρ 0))) (y' := ((ρ 1))) (by show 0 + (1 * ρ 0 + 0) = _; omega) (by show 0 + (1 * ρ 1 + 0) = _; omega) (hm _ (List.mem_cons_of_mem _ List.mem_cons_self))) (cvp 44 (x' := ((ρ 1) + 2048)) (y' := ((ρ 1))) (by show 2048 + (1 * ρ 1 + 0) = _; omega) (by show 0 + (1 * ρ 1 + 0) = _; omega) (hm _ (List.mem_cons_of_mem _ (List.mem_cons_of_mem _ List.mem_cons_self)))) (cvp 44 (x' := ((ρ 1) + 4096)) (y' := ((ρ 3))) (by show 4096 + (1 * ρ 1 + 0) = _; omega) (by show 0 + (1 * ρ 3 + 0) = _; omega) (hm _ (List.mem_cons_of_mem _ (List.mem_cons_of_mem _ (List.mem_cons_of_mem _ List.mem_cons_self))))) (cvm (c := 1) (by decide) (x' := ((ρ 3))) (y' := ((ρ 4))) (by show 0 + (1 * ρ 3 + 0) = _; omega) (by show 0 + (1 * ρ 4 + 0) = _; omega) (hm _ (List.mem_cons_of_mem _ (List.mem_cons_of_mem _ (List.mem_cons_of_mem _ (List.mem_cons_of_mem _ List.mem_cons_self)))))) (by have h := hF _ List.mem_cons_self; have h : 0 ≤ (-1) + ((-1) * ρ 1 + (1 * ρ 2 + 0)) := h; omega) (by have h := hF _ (List.mem_cons_of_mem _ List.mem_cons_self); have h : 0 ≤ (-1) + ((-1) * ρ 1 + (1 * ρ 3 + 0)) := h; omega) (by have h := hF _ (List.mem_cons_of_mem _ (List.mem_cons_of_mem _ List.mem_cons_self)); have h : 0 ≤ (-1) + (1 * ρ 2 + ((-1) * ρ 3 + 0)) := h; omega) hG
  obtain ⟨k0, k1, k2, -⟩ := H
  exact ⟨_, List.mem_cons_self, ρ, fun _ _ => rfl, (okM_c (pvp 45 (by show 0 + (1 * ρ 0 + 0) = _; omega) (by show 0 + (1 * ρ 1 + 0) = _; omega) k0) (okM_c (pvp 46 (by show 0 + (1 * ρ 0 + 0) = _; omega) (by show 0 + (1 * ρ 3 + 0) = _; omega) k1) (okM_c (pvp 47 (by show 0 + (1 * ρ 0 + 0) = _; omega) (by show (-1) + 0 = _; omega) k2) okM_n))), okB_n, okF_n⟩
-- tkT2
theorem cr_515 (M : pM) (s0 s1 s2 s3 : Int) (b0 : 0 ≤ s0 ∧ s0 ≤ 1900) (b1 : 0 ≤ s1 ∧ s1 ≤ 1900) (b2 : 0 ≤ s2 ∧ s2 ≤ 1900) (b3 : 0 ≤ s3 ∧ s3 ≤ 255) (m0 : (0 ≤ (1 : Int) ∧ M 2 (1 : Int).toNat = (s2))) (m1 : HP 44 (s0) (s1) M) (m2 : HP 44 (s1 + 2048) (s1) M) (m3 : HP 44 (s1 + 4096) (s1) M) (m4 : (0 ≤ (s1) ∧ M 1 (s1).toNat = (s3))) (m5 : HP 144 (10 : Int) (s3) M) (f0 : 0 ≤ ((-1) * s1 + s2 - 1)) (hG : gI M) : (HP 45 (s0) (s1) M ∧ HP 46 (s0) (s1 + 1) M ∧ HP 47 (s0) (s3) M ∧ True) := by
  have hn := tn_o m0 b2
  have e0 := ru_o (P := 0) (p := s0.toNat) m1 ⟨by omega, by decide, by omega⟩
  have e1 := ru_o (P := 1) (p := s1.toNat) m2 ⟨by omega, by decide, by omega⟩
  have e2 := ru_o (P := 2) (p := s1.toNat) m3 ⟨by omega, by decide, by omega⟩
  have q := tk_sign (M := M) (p := s0.toNat) (s := s1.toNat) (by omega) (by omega) (by omega) (by omega)
  rw [m4.2] at q
  rw [if_neg (ng_no m5)] at q
  exact tk_fin q (by omega) (by omega) (by omega) (by omega)
theorem rul_515 : Rul r_515 := by
  refine ⟨fun _ ρ M hm hB hF hG => ?_, fun gi gv hg => (by cases hg)⟩
  have H := cr_515 M (ρ 0) (ρ 1) (ρ 2) (ρ 3) (hB _ List.mem_cons_self) (hB _ (List.mem_cons_of_mem _ List.mem_cons_self)) (hB _ (List.mem_cons_of_mem _ (List.mem_cons_of_mem _ List.mem_cons_self))) (hB _ (List.mem_cons_of_mem _ (List.mem_cons_of_mem _ (List.mem_cons_of_mem _ List.mem_cons_self)))) (cvm (c := 2) (by decide) (x' := (1 : Int)) (y' := ((ρ 2))) (by show 1 + 0 = _; omega) (by show 0 + (1 * ρ 2 + 0) = _; omega) (hm _ List.mem_cons_self)) (cvp 44 (x' := ((ρ 0))) (y' := ((ρ 1))) (by show 0 + (1 * ρ 0 + 0) = _; omega) (by show 0 + (1 * ρ 1 + 0) = _; omega) (hm _ (List.mem_cons_of_mem _ List.mem_cons_self))) (cvp 44 (x' := ((ρ 1) + 2048)) (y' := ((ρ 1))) (by show 2048 + (1 * ρ 1 + 0) = _; omega) (by show 0 + (1 * ρ 1 + 0) = _; omega) (hm _ (List.mem_cons_of_mem _ (List.mem_cons_of_mem _ List.mem_cons_self)))) (cvp 44 (x' := ((ρ 1) + 4096)) (y' := ((ρ 1))) (by show 4096 + (1 * ρ 1 + 0) = _; omega) (by show 0 + (1 * ρ 1 + 0) = _; omega) (hm _ (List.mem_cons_of_mem _ (List.mem_cons_of_mem _ (List.mem_cons_of_mem _ List.mem_cons_self))))) (cvm (c := 1) (by decide) (x' := ((ρ 1))) (y' := ((ρ 3))) (by show 0 + (1 * ρ 1 + 0) = _; omega) (by show 0 + (1 * ρ 3 + 0) = _; omega) (hm _ (List.mem_cons_of_mem _ (List.mem_cons_of_mem _ (List.mem_cons_of_mem _ (List.mem_cons_of_mem _ List.mem_cons_self)))))) (cvp 144 (x' := (10 : Int)) (y' := ((ρ 3))) (by show 10 + 0 = _; omega) (by show 0 + (1 * ρ 3 + 0) = _; omega) (hm _ (List.mem_cons_of_mem _ (List.mem_cons_of_mem _ (List.mem_cons_of_mem _ (List.mem_cons_of_mem _ (List.mem_cons_of_mem _ List.mem_cons_self))))))) (by have h := hF _ List.mem_cons_self; have h : 0 ≤ (-1) + ((-1) * ρ 1 + (1 * ρ 2 + 0)) := h; omega) hG
  obtain ⟨k0, k1, k2, -⟩ := H
  exact ⟨_, List.mem_cons_self, ρ, fun _ _ => rfl, (okM_c (pvp 45 (by show 0 + (1 * ρ 0 + 0) = _; omega) (by show 0 + (1 * ρ 1 + 0) = _; omega) k0) (okM_c (pvp 46 (by show 0 + (1 * ρ 0 + 0) = _; omega) (by show 1 + (1 * ρ 1 + 0) = _; omega) k1) (okM_c (pvp 47 (by show 0 + (1 * ρ 0 + 0) = _; omega) (by show 0 + (1 * ρ 3 + 0) = _; omega) k2) okM_n))), okB_n, okF_n⟩
-- rti0
theorem cr_516 (M : pM) (s0 s1 s2 : Int) (b0 : 0 ≤ s0 ∧ s0 ≤ 1900) (b1 : 0 ≤ s1 ∧ s1 ≤ 1900) (b2 : 0 ≤ s2 ∧ s2 ≤ 1900) (m0 : (0 ≤ (6 : Int) ∧ M 61 (6 : Int).toNat = (s1))) (m1 : (0 ≤ (7 : Int) ∧ M 61 (7 : Int).toNat = (s2))) (m2 : HP 45 (s0) (s1) M) (m3 : HP 46 (s0) (s2) M) (m4 : (0 ≤ (8 : Int) ∧ M 61 (8 : Int).toNat = (0 : Int))) (m5 : HP 47 (s0) (131071 : Int) M) (hG : gI M) : (HP 49 (s0) (0 : Int) M ∧ True) := by
  have h1 := (Eq.mp hp_45 m2)
  have h2 := (Eq.mp hp_46 m3).2
  have h3 := (Eq.mp hp_47 m5).2
  have h6 : M 61 6 = s1 := m0.2
  have h7 : M 61 7 = s2 := m1.2
  have h8 : M 61 8 = 0 := m4.2
  exact ⟨Eq.mpr hp_49 ⟨h1.1, by rw [h6]; exact h1.2, by rw [h7]; exact h2, Or.inl ⟨h8, by omega⟩⟩, trivial⟩
theorem rul_516 : Rul r_516 := by
  refine ⟨fun _ ρ M hm hB hF hG => ?_, fun gi gv hg => (by cases hg)⟩
  have H := cr_516 M (ρ 0) (ρ 1) (ρ 2) (hB _ List.mem_cons_self) (hB _ (List.mem_cons_of_mem _ List.mem_cons_self)) (hB _ (List.mem_cons_of_mem _ (List.mem_cons_of_mem _ List.mem_cons_self))) (cvm (c := 61) (by decide) (x' := (6 : Int)) (y' := ((ρ 1))) (by show 6 + 0 = _; omega) (by show 0 + (1 * ρ 1 + 0) = _; omega) (hm _ List.mem_cons_self)) (cvm (c := 61) (by decide) (x' := (7 : Int)) (y' := ((ρ 2))) (by show 7 + 0 = _; omega) (by show 0 + (1 * ρ 2 + 0) = _; omega) (hm _ (List.mem_cons_of_mem _ List.mem_cons_self))) (cvp 45 (x' := ((ρ 0))) (y' := ((ρ 1))) (by show 0 + (1 * ρ 0 + 0) = _; omega) (by show 0 + (1 * ρ 1 + 0) = _; omega) (hm _ (List.mem_cons_of_mem _ (List.mem_cons_of_mem _ List.mem_cons_self)))) (cvp 46 (x' := ((ρ 0))) (y' := ((ρ 2))) (by show 0 + (1 * ρ 0 + 0) = _; omega) (by show 0 + (1 * ρ 2 + 0) = _; omega) (hm _ (List.mem_cons_of_mem _ (List.mem_cons_of_mem _ (List.mem_cons_of_mem _ List.mem_cons_self))))) (cvm (c := 61) (by decide) (x' := (8 : Int)) (y' := (0 : Int)) (by show 8 + 0 = _; omega) (by show 0 + 0 = _; omega) (hm _ (List.mem_cons_of_mem _ (List.mem_cons_of_mem _ (List.mem_cons_of_mem _ (List.mem_cons_of_mem _ List.mem_cons_self)))))) (cvp 47 (x' := ((ρ 0))) (y' := (131071 : Int)) (by show 0 + (1 * ρ 0 + 0) = _; omega) (by show 131071 + 0 = _; omega) (hm _ (List.mem_cons_of_mem _ (List.mem_cons_of_mem _ (List.mem_cons_of_mem _ (List.mem_cons_of_mem _ (List.mem_cons_of_mem _ List.mem_cons_self))))))) hG
  obtain ⟨k0, -⟩ := H
  exact ⟨_, List.mem_cons_self, ρ, fun _ _ => rfl, (okM_c (pvp 49 (by show 0 + (1 * ρ 0 + 0) = _; omega) (by show 0 + 0 = _; omega) k0) okM_n), okB_n, okF_n⟩
-- rti1
theorem cr_517 (M : pM) (s0 s1 s2 s3 : Int) (b0 : 0 ≤ s0 ∧ s0 ≤ 1900) (b1 : 0 ≤ s1 ∧ s1 ≤ 1900) (b2 : 0 ≤ s2 ∧ s2 ≤ 1900) (b3 : (-1) ≤ s3 ∧ s3 ≤ 255) (m0 : (0 ≤ (6 : Int) ∧ M 61 (6 : Int).toNat = (s1))) (m1 : (0 ≤ (7 : Int) ∧ M 61 (7 : Int).toNat = (s2))) (m2 : HP 45 (s0) (s1) M) (m3 : HP 46 (s0) (s2) M) (m4 : (0 ≤ (8 : Int) ∧ M 61 (8 : Int).toNat = (1 : Int))) (m5 : HP 47 (s0) (s3) M) (hG : gI M) : (HP 49 (s0) (0 : Int) M ∧ True) := by
  have h1 := (Eq.mp hp_45 m2)
  have h2 := (Eq.mp hp_46 m3).2
  have h3 := (Eq.mp hp_47 m5).2
  have h6 : M 61 6 = s1 := m0.2
  have h7 : M 61 7 = s2 := m1.2
  have h8 : M 61 8 = 1 := m4.2
  exact ⟨Eq.mpr hp_49 ⟨h1.1, by rw [h6]; exact h1.2, by rw [h7]; exact h2, Or.inr (Or.inl ⟨h8, by omega, by omega⟩)⟩, trivial⟩
theorem rul_517 : Rul r_517 := by
  refine ⟨fun _ ρ M hm hB hF hG => ?_, fun gi gv hg => (by cases hg)⟩
  have H := cr_517 M (ρ 0) (ρ 1) (ρ 2) (ρ 3) (hB _ List.mem_cons_self) (hB _ (List.mem_cons_of_mem _ List.mem_cons_self)) (hB _ (List.mem_cons_of_mem _ (List.mem_cons_of_mem _ List.mem_cons_self))) (hB _ (List.mem_cons_of_mem _ (List.mem_cons_of_mem _ (List.mem_cons_of_mem _ List.mem_cons_self)))) (cvm (c := 61) (by decide) (x' := (6 : Int)) (y' := ((ρ 1))) (by show 6 + 0 = _; omega) (by show 0 + (1 * ρ 1 + 0) = _; omega) (hm _ List.mem_cons_self)) (cvm (c := 61) (by decide) (x' := (7 : Int)) (y' := ((ρ 2))) (by show 7 + 0 = _; omega) (by show 0 + (1 * ρ 2 + 0) = _; omega) (hm _ (List.mem_cons_of_mem _ List.mem_cons_self))) (cvp 45 (x' := ((ρ 0))) (y' := ((ρ 1))) (by show 0 + (1 * ρ 0 + 0) = _; omega) (by show 0 + (1 * ρ 1 + 0) = _; omega) (hm _ (List.mem_cons_of_mem _ (List.mem_cons_of_mem _ List.mem_cons_self)))) (cvp 46 (x' := ((ρ 0))) (y' := ((ρ 2))) (by show 0 + (1 * ρ 0 + 0) = _; omega) (by show 0 + (1 * ρ 2 + 0) = _; omega) (hm _ (List.mem_cons_of_mem _ (List.mem_cons_of_mem _ (List.mem_cons_of_mem _ List.mem_cons_self))))) (cvm (c := 61) (by decide) (x' := (8 : Int)) (y' := (1 : Int)) (by show 8 + 0 = _; omega) (by show 1 + 0 = _; omega) (hm _ (List.mem_cons_of_mem _ (List.mem_cons_of_mem _ (List.mem_cons_of_mem _ (List.mem_cons_of_mem _ List.mem_cons_self)))))) (cvp 47 (x' := ((ρ 0))) (y' := ((ρ 3))) (by show 0 + (1 * ρ 0 + 0) = _; omega) (by show 0 + (1 * ρ 3 + 0) = _; omega) (hm _ (List.mem_cons_of_mem _ (List.mem_cons_of_mem _ (List.mem_cons_of_mem _ (List.mem_cons_of_mem _ (List.mem_cons_of_mem _ List.mem_cons_self))))))) hG
  obtain ⟨k0, -⟩ := H
  exact ⟨_, List.mem_cons_self, ρ, fun _ _ => rfl, (okM_c (pvp 49 (by show 0 + (1 * ρ 0 + 0) = _; omega) (by show 0 + 0 = _; omega) k0) okM_n), okB_n, okF_n⟩
-- rti2
theorem cr_518 (M : pM) (s0 s1 s2 s3 : Int) (b0 : 0 ≤ s0 ∧ s0 ≤ 1900) (b1 : 0 ≤ s1 ∧ s1 ≤ 1900) (b2 : 0 ≤ s2 ∧ s2 ≤ 1900) (b3 : 0 ≤ s3 ∧ s3 ≤ 9223372036854775807) (m0 : (0 ≤ (6 : Int) ∧ M 61 (6 : Int).toNat = (s1))) (m1 : (0 ≤ (7 : Int) ∧ M 61 (7 : Int).toNat = (s2))) (m2 : HP 45 (s0) (s1) M) (m3 : HP 46 (s0) (s2) M) (m4 : (0 ≤ (8 : Int) ∧ M 61 (8 : Int).toNat = (2 : Int))) (m5 : HP 47 (s0) (262143 : Int) M) (m6 : (0 ≤ (10 : Int) ∧ M 61 (10 : Int).toNat = (s3))) (m7 : HP 143 (2048 * s1 + s2) (s3) M) (hG : gI M) : (HP 49 (s0) (0 : Int) M ∧ True) := by
  have h1 := (Eq.mp hp_45 m2)
  have h2 := (Eq.mp hp_46 m3).2
  have h3 := (Eq.mp hp_47 m5).2
  have h6 : M 61 6 = s1 := m0.2
  have h7 : M 61 7 = s2 := m1.2
  have h8 : M 61 8 = 2 := m4.2
  exact ⟨Eq.mpr hp_49 ⟨h1.1, by rw [h6]; exact h1.2, by rw [h7]; exact h2, Or.inr (Or.inr (Or.inl ⟨h8, by omega, by have h9 : M 61 10 = s3 := m6.2; rw [h9, ← h1.2, ← h2]; exact Eq.mp hp_143 m7⟩))⟩, trivial⟩
theorem rul_518 : Rul r_518 := by
  refine ⟨fun _ ρ M hm hB hF hG => ?_, fun gi gv hg => (by cases hg)⟩
  have H := cr_518 M (ρ 0) (ρ 1) (ρ 2) (ρ 3) (hB _ List.mem_cons_self) (hB _ (List.mem_cons_of_mem _ List.mem_cons_self)) (hB _ (List.mem_cons_of_mem _ (List.mem_cons_of_mem _ List.mem_cons_self))) (hB _ (List.mem_cons_of_mem _ (List.mem_cons_of_mem _ (List.mem_cons_of_mem _ List.mem_cons_self)))) (cvm (c := 61) (by decide) (x' := (6 : Int)) (y' := ((ρ 1))) (by show 6 + 0 = _; omega) (by show 0 + (1 * ρ 1 + 0) = _; omega) (hm _ List.mem_cons_self)) (cvm (c := 61) (by decide) (x' := (7 : Int)) (y' := ((ρ 2))) (by show 7 + 0 = _; omega) (by show 0 + (1 * ρ 2 + 0) = _; omega) (hm _ (List.mem_cons_of_mem _ List.mem_cons_self))) (cvp 45 (x' := ((ρ 0))) (y' := ((ρ 1))) (by show 0 + (1 * ρ 0 + 0) = _; omega) (by show 0 + (1 * ρ 1 + 0) = _; omega) (hm _ (List.mem_cons_of_mem _ (List.mem_cons_of_mem _ List.mem_cons_self)))) (cvp 46 (x' := ((ρ 0))) (y' := ((ρ 2))) (by show 0 + (1 * ρ 0 + 0) = _; omega) (by show 0 + (1 * ρ 2 + 0) = _; omega) (hm _ (List.mem_cons_of_mem _ (List.mem_cons_of_mem _ (List.mem_cons_of_mem _ List.mem_cons_self))))) (cvm (c := 61) (by decide) (x' := (8 : Int)) (y' := (2 : Int)) (by show 8 + 0 = _; omega) (by show 2 + 0 = _; omega) (hm _ (List.mem_cons_of_mem _ (List.mem_cons_of_mem _ (List.mem_cons_of_mem _ (List.mem_cons_of_mem _ List.mem_cons_self)))))) (cvp 47 (x' := ((ρ 0))) (y' := (262143 : Int)) (by show 0 + (1 * ρ 0 + 0) = _; omega) (by show 262143 + 0 = _; omega) (hm _ (List.mem_cons_of_mem _ (List.mem_cons_of_mem _ (List.mem_cons_of_mem _ (List.mem_cons_of_mem _ (List.mem_cons_of_mem _ List.mem_cons_self))))))) (cvm (c := 61) (by decide) (x' := (10 : Int)) (y' := ((ρ 3))) (by show 10 + 0 = _; omega) (by show 0 + (1 * ρ 3 + 0) = _; omega) (hm _ (List.mem_cons_of_mem _ (List.mem_cons_of_mem _ (List.mem_cons_of_mem _ (List.mem_cons_of_mem _ (List.mem_cons_of_mem _ (List.mem_cons_of_mem _ List.mem_cons_self)))))))) (cvp 143 (x' := (2048 * (ρ 1) + (ρ 2))) (y' := ((ρ 3))) (by show 0 + (2048 * ρ 1 + (1 * ρ 2 + 0)) = _; omega) (by show 0 + (1 * ρ 3 + 0) = _; omega) (hm _ (List.mem_cons_of_mem _ (List.mem_cons_of_mem _ (List.mem_cons_of_mem _ (List.mem_cons_of_mem _ (List.mem_cons_of_mem _ (List.mem_cons_of_mem _ (List.mem_cons_of_mem _ List.mem_cons_self))))))))) hG
  obtain ⟨k0, -⟩ := H
  exact ⟨_, List.mem_cons_self, ρ, fun _ _ => rfl, (okM_c (pvp 49 (by show 0 + (1 * ρ 0 + 0) = _; omega) (by show 0 + 0 = _; omega) k0) okM_n), okB_n, okF_n⟩
-- rti3
theorem cr_519 (M : pM) (s0 s1 s2 s3 s4 : Int) (b0 : 0 ≤ s0 ∧ s0 ≤ 1900) (b1 : 0 ≤ s1 ∧ s1 ≤ 1900) (b2 : 0 ≤ s2 ∧ s2 ≤ 1900) (b3 : 0 ≤ s3 ∧ s3 ≤ 9223372036854775807) (b4 : 0 ≤ s4 ∧ s4 ≤ 23) (m0 : (0 ≤ (6 : Int) ∧ M 61 (6 : Int).toNat = (s1))) (m1 : (0 ≤ (7 : Int) ∧ M 61 (7 : Int).toNat = (s2))) (m2 : HP 45 (s0) (s1) M) (m3 : HP 46 (s0) (s2) M) (m4 : (0 ≤ (8 : Int) ∧ M 61 (8 : Int).toNat = (3 : Int))) (m5 : HP 47 (s0) (s4 + 262144) M) (m6 : (0 ≤ (10 : Int) ∧ M 61 (10 : Int).toNat = (s3))) (m7 : HP 140 (s4) (s3) M) (hG : gI M) : (HP 49 (s0) (0 : Int) M ∧ True) := by
  have h1 := (Eq.mp hp_45 m2)
  have h2 := (Eq.mp hp_46 m3).2
  have h3 := (Eq.mp hp_47 m5).2
  have h6 : M 61 6 = s1 := m0.2
  have h7 : M 61 7 = s2 := m1.2
  have h8 : M 61 8 = 3 := m4.2
  exact ⟨Eq.mpr hp_49 ⟨h1.1, by rw [h6]; exact h1.2, by rw [h7]; exact h2, Or.inr (Or.inr (Or.inr (Or.inl ⟨h8, by obtain ⟨k, w1, w2, w3⟩ := Eq.mp hp_140 m7; have h9 : M 61 10 = s3 := m6.2; exact ⟨k, w1, by omega, by omega⟩⟩)))⟩, trivial⟩
theorem rul_519 : Rul r_519 := by
  refine ⟨fun _ ρ M hm hB hF hG => ?_, fun gi gv hg => (by cases hg)⟩
  have H := cr_519 M (ρ 0) (ρ 1) (ρ 2) (ρ 3) (ρ 4) (hB _ List.mem_cons_self) (hB _ (List.mem_cons_of_mem _ List.mem_cons_self)) (hB _ (List.mem_cons_of_mem _ (List.mem_cons_of_mem _ List.mem_cons_self))) (hB _ (List.mem_cons_of_mem _ (List.mem_cons_of_mem _ (List.mem_cons_of_mem _ List.mem_cons_self)))) (hB _ (List.mem_cons_of_mem _ (List.mem_cons_of_mem _ (List.mem_cons_of_mem _ (List.mem_cons_of_mem _ List.mem_cons_self))))) (cvm (c := 61) (by decide) (x' := (6 : Int)) (y' := ((ρ 1))) (by show 6 + 0 = _; omega) (by show 0 + (1 * ρ 1 + 0) = _; omega) (hm _ List.mem_cons_self)) (cvm (c := 61) (by decide) (x' := (7 : Int)) (y' := ((ρ 2))) (by show 7 + 0 = _; omega) (by show 0 + (1 * ρ 2 + 0) = _; omega) (hm _ (List.mem_cons_of_mem _ List.mem_cons_self))) (cvp 45 (x' := ((ρ 0))) (y' := ((ρ 1))) (by show 0 + (1 * ρ 0 + 0) = _; omega) (by show 0 + (1 * ρ 1 + 0) = _; omega) (hm _ (List.mem_cons_of_mem _ (List.mem_cons_of_mem _ List.mem_cons_self)))) (cvp 46 (x' := ((ρ 0))) (y' := ((ρ 2))) (by show 0 + (1 * ρ 0 + 0) = _; omega) (by show 0 + (1 * ρ 2 + 0) = _; omega) (hm _ (List.mem_cons_of_mem _ (List.mem_cons_of_mem _ (List.mem_cons_of_mem _ List.mem_cons_self))))) (cvm (c := 61) (by decide) (x' := (8 : Int)) (y' := (3 : Int)) (by show 8 + 0 = _; omega) (by show 3 + 0 = _; omega) (hm _ (List.mem_cons_of_mem _ (List.mem_cons_of_mem _ (List.mem_cons_of_mem _ (List.mem_cons_of_mem _ List.mem_cons_self)))))) (cvp 47 (x' := ((ρ 0))) (y' := ((ρ 4) + 262144)) (by show 0 + (1 * ρ 0 + 0) = _; omega) (by show 262144 + (1 * ρ 4 + 0) = _; omega) (hm _ (List.mem_cons_of_mem _ (List.mem_cons_of_mem _ (List.mem_cons_of_mem _ (List.mem_cons_of_mem _ (List.mem_cons_of_mem _ List.mem_cons_self))))))) (cvm (c := 61) (by decide) (x' := (10 : Int)) (y' := ((ρ 3))) (by show 10 + 0 = _; omega) (by show 0 + (1 * ρ 3 + 0) = _; omega) (hm _ (List.mem_cons_of_mem _ (List.mem_cons_of_mem _ (List.mem_cons_of_mem _ (List.mem_cons_of_mem _ (List.mem_cons_of_mem _ (List.mem_cons_of_mem _ List.mem_cons_self)))))))) (cvp 140 (x' := ((ρ 4))) (y' := ((ρ 3))) (by show 0 + (1 * ρ 4 + 0) = _; omega) (by show 0 + (1 * ρ 3 + 0) = _; omega) (hm _ (List.mem_cons_of_mem _ (List.mem_cons_of_mem _ (List.mem_cons_of_mem _ (List.mem_cons_of_mem _ (List.mem_cons_of_mem _ (List.mem_cons_of_mem _ (List.mem_cons_of_mem _ List.mem_cons_self))))))))) hG
  obtain ⟨k0, -⟩ := H
  exact ⟨_, List.mem_cons_self, ρ, fun _ _ => rfl, (okM_c (pvp 49 (by show 0 + (1 * ρ 0 + 0) = _; omega) (by show 0 + 0 = _; omega) k0) okM_n), okB_n, okF_n⟩
-- rti4
theorem cr_520 (M : pM) (s0 s1 s2 s3 : Int) (b0 : 0 ≤ s0 ∧ s0 ≤ 1900) (b1 : 0 ≤ s1 ∧ s1 ≤ 1900) (b2 : 0 ≤ s2 ∧ s2 ≤ 1900) (b3 : 0 ≤ s3 ∧ s3 ≤ 9999) (m0 : (0 ≤ (6 : Int) ∧ M 61 (6 : Int).toNat = (s1))) (m1 : (0 ≤ (7 : Int) ∧ M 61 (7 : Int).toNat = (s2))) (m2 : HP 45 (s0) (s1) M) (m3 : HP 46 (s0) (s2) M) (m4 : (0 ≤ (8 : Int) ∧ M 61 (8 : Int).toNat = (4 : Int))) (m5 : HP 47 (s0) (s3 + 393216) M) (m6 : (0 ≤ (9 : Int) ∧ M 61 (9 : Int).toNat = (s3))) (hG : gI M) : (HP 49 (s0) (0 : Int) M ∧ True) := by
  have h1 := (Eq.mp hp_45 m2)
  have h2 := (Eq.mp hp_46 m3).2
  have h3 := (Eq.mp hp_47 m5).2
  have h6 : M 61 6 = s1 := m0.2
  have h7 : M 61 7 = s2 := m1.2
  have h8 : M 61 8 = 4 := m4.2
  exact ⟨Eq.mpr hp_49 ⟨h1.1, by rw [h6]; exact h1.2, by rw [h7]; exact h2, Or.inr (Or.inr (Or.inr (Or.inr (Or.inl ⟨h8, by have h9 : M 61 9 = s3 := m6.2; omega⟩))))⟩, trivial⟩
theorem rul_520 : Rul r_520 := by
  refine ⟨fun _ ρ M hm hB hF hG => ?_, fun gi gv hg => (by cases hg)⟩
  have H := cr_520 M (ρ 0) (ρ 1) (ρ 2) (ρ 3) (hB _ List.mem_cons_self) (hB _ (List.mem_cons_of_mem _ List.mem_cons_self)) (hB _ (List.mem_cons_of_mem _ (List.mem_cons_of_mem _ List.mem_cons_self))) (hB _ (List.mem_cons_of_mem _ (List.mem_cons_of_mem _ (List.mem_cons_of_mem _ List.mem_cons_self)))) (cvm (c := 61) (by decide) (x' := (6 : Int)) (y' := ((ρ 1))) (by show 6 + 0 = _; omega) (by show 0 + (1 * ρ 1 + 0) = _; omega) (hm _ List.mem_cons_self)) (cvm (c := 61) (by decide) (x' := (7 : Int)) (y' := ((ρ 2))) (by show 7 + 0 = _; omega) (by show 0 + (1 * ρ 2 + 0) = _; omega) (hm _ (List.mem_cons_of_mem _ List.mem_cons_self))) (cvp 45 (x' := ((ρ 0))) (y' := ((ρ 1))) (by show 0 + (1 * ρ 0 + 0) = _; omega) (by show 0 + (1 * ρ 1 + 0) = _; omega) (hm _ (List.mem_cons_of_mem _ (List.mem_cons_of_mem _ List.mem_cons_self)))) (cvp 46 (x' := ((ρ 0))) (y' := ((ρ 2))) (by show 0 + (1 * ρ 0 + 0) = _; omega) (by show 0 + (1 * ρ 2 + 0) = _; omega) (hm _ (List.mem_cons_of_mem _ (List.mem_cons_of_mem _ (List.mem_cons_of_mem _ List.mem_cons_self))))) (cvm (c := 61) (by decide) (x' := (8 : Int)) (y' := (4 : Int)) (by show 8 + 0 = _; omega) (by show 4 + 0 = _; omega) (hm _ (List.mem_cons_of_mem _ (List.mem_cons_of_mem _ (List.mem_cons_of_mem _ (List.mem_cons_of_mem _ List.mem_cons_self)))))) (cvp 47 (x' := ((ρ 0))) (y' := ((ρ 3) + 393216)) (by show 0 + (1 * ρ 0 + 0) = _; omega) (by show 393216 + (1 * ρ 3 + 0) = _; omega) (hm _ (List.mem_cons_of_mem _ (List.mem_cons_of_mem _ (List.mem_cons_of_mem _ (List.mem_cons_of_mem _ (List.mem_cons_of_mem _ List.mem_cons_self))))))) (cvm (c := 61) (by decide) (x' := (9 : Int)) (y' := ((ρ 3))) (by show 9 + 0 = _; omega) (by show 0 + (1 * ρ 3 + 0) = _; omega) (hm _ (List.mem_cons_of_mem _ (List.mem_cons_of_mem _ (List.mem_cons_of_mem _ (List.mem_cons_of_mem _ (List.mem_cons_of_mem _ (List.mem_cons_of_mem _ List.mem_cons_self)))))))) hG
  obtain ⟨k0, -⟩ := H
  exact ⟨_, List.mem_cons_self, ρ, fun _ _ => rfl, (okM_c (pvp 49 (by show 0 + (1 * ρ 0 + 0) = _; omega) (by show 0 + 0 = _; omega) k0) okM_n), okB_n, okF_n⟩
-- rti5
theorem cr_521 (M : pM) (s0 s1 s2 s3 : Int) (b0 : 0 ≤ s0 ∧ s0 ≤ 1900) (b1 : 0 ≤ s1 ∧ s1 ≤ 1900) (b2 : 0 ≤ s2 ∧ s2 ≤ 1900) (b3 : 0 ≤ s3 ∧ s3 ≤ 255) (m0 : (0 ≤ (6 : Int) ∧ M 61 (6 : Int).toNat = (s1))) (m1 : (0 ≤ (7 : Int) ∧ M 61 (7 : Int).toNat = (s2))) (m2 : HP 45 (s0) (s1) M) (m3 : HP 46 (s0) (s2) M) (m4 : (0 ≤ (8 : Int) ∧ M 61 (8 : Int).toNat = (5 : Int))) (m5 : HP 47 (s0) (s3 + 524288) M) (hG : gI M) : (HP 49 (s0) (0 : Int) M ∧ True) := by
  have h1 := (Eq.mp hp_45 m2)
  have h2 := (Eq.mp hp_46 m3).2
  have h3 := (Eq.mp hp_47 m5).2
  have h6 : M 61 6 = s1 := m0.2
  have h7 : M 61 7 = s2 := m1.2
  have h8 : M 61 8 = 5 := m4.2
  exact ⟨Eq.mpr hp_49 ⟨h1.1, by rw [h6]; exact h1.2, by rw [h7]; exact h2, Or.inr (Or.inr (Or.inr (Or.inr (Or.inr ⟨h8, by omega, by omega⟩))))⟩, trivial⟩
theorem rul_521 : Rul r_521 := by
  refine ⟨fun _ ρ M hm hB hF hG => ?_, fun gi gv hg => (by cases hg)⟩
  have H := cr_521 M (ρ 0) (ρ 1) (ρ 2) (ρ 3) (hB _ List.mem_cons_self) (hB _ (List.mem_cons_of_mem _ List.mem_cons_self)) (hB _ (List.mem_cons_of_mem _ (List.mem_cons_of_mem _ List.mem_cons_self))) (hB _ (List.mem_cons_of_mem _ (List.mem_cons_of_mem _ (List.mem_cons_of_mem _ List.mem_cons_self)))) (cvm (c := 61) (by decide) (x' := (6 : Int)) (y' := ((ρ 1))) (by show 6 + 0 = _; omega) (by show 0 + (1 * ρ 1 + 0) = _; omega) (hm _ List.mem_cons_self)) (cvm (c := 61) (by decide) (x' := (7 : Int)) (y' := ((ρ 2))) (by show 7 + 0 = _; omega) (by show 0 + (1 * ρ 2 + 0) = _; omega) (hm _ (List.mem_cons_of_mem _ List.mem_cons_self))) (cvp 45 (x' := ((ρ 0))) (y' := ((ρ 1))) (by show 0 + (1 * ρ 0 + 0) = _; omega) (by show 0 + (1 * ρ 1 + 0) = _; omega) (hm _ (List.mem_cons_of_mem _ (List.mem_cons_of_mem _ List.mem_cons_self)))) (cvp 46 (x' := ((ρ 0))) (y' := ((ρ 2))) (by show 0 + (1 * ρ 0 + 0) = _; omega) (by show 0 + (1 * ρ 2 + 0) = _; omega) (hm _ (List.mem_cons_of_mem _ (List.mem_cons_of_mem _ (List.mem_cons_of_mem _ List.mem_cons_self))))) (cvm (c := 61) (by decide) (x' := (8 : Int)) (y' := (5 : Int)) (by show 8 + 0 = _; omega) (by show 5 + 0 = _; omega) (hm _ (List.mem_cons_of_mem _ (List.mem_cons_of_mem _ (List.mem_cons_of_mem _ (List.mem_cons_of_mem _ List.mem_cons_self)))))) (cvp 47 (x' := ((ρ 0))) (y' := ((ρ 3) + 524288)) (by show 0 + (1 * ρ 0 + 0) = _; omega) (by show 524288 + (1 * ρ 3 + 0) = _; omega) (hm _ (List.mem_cons_of_mem _ (List.mem_cons_of_mem _ (List.mem_cons_of_mem _ (List.mem_cons_of_mem _ (List.mem_cons_of_mem _ List.mem_cons_self))))))) hG
  obtain ⟨k0, -⟩ := H
  exact ⟨_, List.mem_cons_self, ρ, fun _ _ => rfl, (okM_c (pvp 49 (by show 0 + (1 * ρ 0 + 0) = _; omega) (by show 0 + 0 = _; omega) k0) okM_n), okB_n, okF_n⟩
-- rto
theorem cr_522 (M : pM) (s0 s1 s2 s3 s4 : Int) (b0 : 0 ≤ s0 ∧ s0 ≤ 1900) (b1 : 0 ≤ s1 ∧ s1 ≤ 1900) (b2 : 0 ≤ s2 ∧ s2 ≤ 1900) (b3 : 0 ≤ s3 ∧ s3 ≤ 5) (b4 : 0 ≤ s4 ∧ s4 ≤ 9999) (m0 : HP 49 (s0) (0 : Int) M) (m1 : (0 ≤ (6 : Int) ∧ M 61 (6 : Int).toNat = (s1))) (m2 : (0 ≤ (7 : Int) ∧ M 61 (7 : Int).toNat = (s2))) (m3 : (0 ≤ (8 : Int) ∧ M 61 (8 : Int).toNat = (s3))) (m4 : (0 ≤ (9 : Int) ∧ M 61 (9 : Int).toNat = (s4))) (hG : gI M) : (HP 45 (s0) (s1) M ∧ HP 46 (s0) (s2) M ∧ HP 47 (s0) (131071 : Int) M ∧ 0 ≤ ((-1) * s3) ∧ 0 ≤ (s3) ∧ True) ∨ (∃ t0 : Int, (-1) ≤ t0 ∧ t0 ≤ 255 ∧ HP 45 (s0) (s1) M ∧ HP 46 (s0) (s2) M ∧ HP 47 (s0) (t0) M ∧ 0 ≤ ((-1) * s3 + 1) ∧ 0 ≤ (s3 - 1) ∧ True) ∨ (∃ t0 : Int, 0 ≤ t0 ∧ t0 ≤ 9223372036854775807 ∧ HP 45 (s0) (s1) M ∧ HP 46 (s0) (s2) M ∧ HP 47 (s0) (262143 : Int) M ∧ (0 ≤ (10 : Int) ∧ M 61 (10 : Int).toNat = (t0)) ∧ HP 143 (2048 * s1 + s2) (t0) M ∧ 0 ≤ ((-1) * s3 + 2) ∧ 0 ≤ (s3 - 2) ∧ 0 ≤ ((-1) * s1 + s2 - 1) ∧ 0 ≤ (s1 + (-1) * s2 + 8) ∧ True) ∨ (∃ t0 t1 : Int, 0 ≤ t0 ∧ t0 ≤ 9223372036854775807 ∧ 0 ≤ t1 ∧ t1 ≤ 23 ∧ HP 45 (s0) (s1) M ∧ HP 46 (s0) (s2) M ∧ HP 47 (s0) (t1 + 262144) M ∧ (0 ≤ (10 : Int) ∧ M 61 (10 : Int).toNat = (t0)) ∧ HP 140 (t1) (t0) M ∧ 0 ≤ ((-1) * s3 + 3) ∧ 0 ≤ (s3 - 3) ∧ 0 ≤ ((-1) * s1 + s2 - 2) ∧ 0 ≤ (s1 + (-1) * s2 + 8) ∧ True) ∨ (HP 45 (s0) (s1) M ∧ HP 46 (s0) (s2) M ∧ HP 47 (s0) (s4 + 393216) M ∧ 0 ≤ ((-1) * s3 + 4) ∧ 0 ≤ (s3 - 4) ∧ 0 ≤ ((-1) * s1 + s2 - 1) ∧ True) ∨ (∃ t0 : Int, 33 ≤ t0 ∧ t0 ≤ 126 ∧ HP 45 (s0) (s1) M ∧ HP 46 (s0) (s2) M ∧ HP 47 (s0) (t0 + 524288) M ∧ (0 ≤ (s1) ∧ M 1 (s1).toNat = (t0)) ∧ 0 ≤ ((-1) * s3 + 5) ∧ 0 ≤ (s3 - 5) ∧ 0 ≤ (s1 + (-1) * s2 + 1) ∧ 0 ≤ ((-1) * s1 + s2 - 1) ∧ True) := by
  obtain ⟨h0, h1, h2, h3⟩ := Eq.mp hp_49 m0
  have e6 : M 61 6 = s1 := m1.2
  have e7 : M 61 7 = s2 := m2.2
  have e8 : M 61 8 = s3 := m3.2
  have e9 : M 61 9 = s4 := m4.2
  rw [e6] at h1
  rw [e7] at h2
  rw [e8, e9] at h3
  have hb := hby_M hG
  have k1 : HP 45 s0 s1 M := Eq.mpr hp_45 ⟨h0, h1⟩
  have k2 : HP 46 s0 s2 M := Eq.mpr hp_46 ⟨h0, h2⟩
  have k3 : ∀ z, z = tK M s0.toNat → HP 47 s0 z M := fun z hz => Eq.mpr hp_47 ⟨h0, hz⟩
  rcases h3 with ⟨t, h⟩ | ⟨t, h, h'⟩ | ⟨t, h, h'⟩ | ⟨t, k, hk, h, h'⟩ | ⟨t, h⟩ | ⟨t, h, h'⟩
  · exact Or.inl ⟨k1, k2, k3 _ h.symm, by omega, by omega, trivial⟩
  · exact Or.inr (Or.inl ⟨tK M s0.toNat, by omega, by omega, k1, k2, k3 _ rfl, by omega, by omega, trivial⟩)
  · have w := tk_wd hb (p := s0.toNat) (by omega) (by omega)
    have h8 := pk_o (s := s1.toNat) (e := s2.toNat) h' ⟨by omega, by omega, by omega⟩
    have h9 := pk_bd (m := 256) (a := 0) (hi := 122) (by decide) (by decide) (N := tm M) (s := s1.toNat) (k := s2.toNat - s1.toNat) (fun i hi => by have := h8.2.2 i hi; omega)
    have h10 := pk_b2 (N := tm M) (s := s1.toNat) (k := s2.toNat - s1.toNat) (fun i hi => by have := h8.2.2 i hi; omega)
    have hp : (256 : Int) ^ (s2.toNat - s1.toNat) ≤ 18446744073709551616 := by
      have : s2.toNat - s1.toNat ≤ 8 := by omega
      have h8 : ∀ k, k ≤ 8 → (256 : Int) ^ k ≤ 18446744073709551616 := by decide
      exact h8 _ this
    exact Or.inr (Or.inr (Or.inl ⟨M 61 10, by omega, by omega, k1, k2, k3 _ h.symm, ⟨by decide, rfl⟩, Eq.mpr hp_143 (by rw [h1, h2]; exact h'), by omega, by omega, by omega, by omega, trivial⟩))
  · have w := tk_wd hb (p := s0.toNat) (by omega) (by omega)
    have w2 := wid_len (N := M) (s := tS M s0.toNat) (e := tE M s0.toNat) (by omega)
    have hq : 0 ≤ qwn k ∧ qwn k ≤ 9223372036854775807 := (by decide : ∀ k, k < 24 → 0 ≤ qwn k ∧ qwn k ≤ 9223372036854775807) k hk
    exact Or.inr (Or.inr (Or.inr (Or.inl ⟨M 61 10, (k : Int), by omega, by omega, by omega, by omega, k1, k2, k3 _ (by omega), ⟨by decide, rfl⟩, Eq.mpr hp_140 ⟨k, hk, rfl, h'⟩, by omega, by omega, by omega, by omega, trivial⟩)))
  · have w := tE_gt (N := M) (p := s0.toNat) (by omega)
    exact Or.inr (Or.inr (Or.inr (Or.inr (Or.inl ⟨k1, k2, k3 _ (by omega), by omega, by omega, by omega, trivial⟩))))
  · rcases tk_cl hb s0.toNat with q | q | q | q | q | q
    · omega
    · have := wid_bd (N := M) (s := tS M s0.toNat) (e := tE M s0.toNat); omega
    · omega
    · omega
    · have hs := sgs_bd q.2.2.1
      have hc : M 1 s1.toNat = M 1 (tS M s0.toNat) := by rw [show s1.toNat = tS M s0.toNat by omega]
      exact Or.inr (Or.inr (Or.inr (Or.inr (Or.inr ⟨M 1 (tS M s0.toNat), by omega, by omega, k1, k2, k3 _ (by omega), ⟨by omega, hc⟩, by omega, by omega, by omega, by omega, trivial⟩))))
    · omega
theorem rul_522 : Rul r_522 := by
  refine ⟨fun _ ρ M hm hB hF hG => ?_, fun gi gv hg => (by cases hg)⟩
  have H := cr_522 M (ρ 0) (ρ 1) (ρ 2) (ρ 3) (ρ 4) (hB _ List.mem_cons_self) (hB _ (List.mem_cons_of_mem _ List.mem_cons_self)) (hB _ (List.mem_cons_of_mem _ (List.mem_cons_of_mem _ List.mem_cons_self))) (hB _ (List.mem_cons_of_mem _ (List.mem_cons_of_mem _ (List.mem_cons_of_mem _ List.mem_cons_self)))) (hB _ (List.mem_cons_of_mem _ (List.mem_cons_of_mem _ (List.mem_cons_of_mem _ (List.mem_cons_of_mem _ List.mem_cons_self))))) (cvp 49 (x' := ((ρ 0))) (y' := (0 : Int)) (by show 0 + (1 * ρ 0 + 0) = _; omega) (by show 0 + 0 = _; omega) (hm _ List.mem_cons_self)) (cvm (c := 61) (by decide) (x' := (6 : Int)) (y' := ((ρ 1))) (by show 6 + 0 = _; omega) (by show 0 + (1 * ρ 1 + 0) = _; omega) (hm _ (List.mem_cons_of_mem _ List.mem_cons_self))) (cvm (c := 61) (by decide) (x' := (7 : Int)) (y' := ((ρ 2))) (by show 7 + 0 = _; omega) (by show 0 + (1 * ρ 2 + 0) = _; omega) (hm _ (List.mem_cons_of_mem _ (List.mem_cons_of_mem _ List.mem_cons_self)))) (cvm (c := 61) (by decide) (x' := (8 : Int)) (y' := ((ρ 3))) (by show 8 + 0 = _; omega) (by show 0 + (1 * ρ 3 + 0) = _; omega) (hm _ (List.mem_cons_of_mem _ (List.mem_cons_of_mem _ (List.mem_cons_of_mem _ List.mem_cons_self))))) (cvm (c := 61) (by decide) (x' := (9 : Int)) (y' := ((ρ 4))) (by show 9 + 0 = _; omega) (by show 0 + (1 * ρ 4 + 0) = _; omega) (hm _ (List.mem_cons_of_mem _ (List.mem_cons_of_mem _ (List.mem_cons_of_mem _ (List.mem_cons_of_mem _ List.mem_cons_self)))))) hG
  rcases H with H | H
  · skip
    obtain ⟨k0, k1, k2, f0, f1, -⟩ := H
    exact ⟨_, List.mem_cons_self, ρ, fun _ _ => rfl, (okM_c (pvp 45 (by show 0 + (1 * ρ 0 + 0) = _; omega) (by show 0 + (1 * ρ 1 + 0) = _; omega) k0) (okM_c (pvp 46 (by show 0 + (1 * ρ 0 + 0) = _; omega) (by show 0 + (1 * ρ 2 + 0) = _; omega) k1) (okM_c (pvp 47 (by show 0 + (1 * ρ 0 + 0) = _; omega) (by show 131071 + 0 = _; omega) k2) okM_n))), okB_n, (okF_c (by show 0 ≤ 0 + ((-1) * ρ 3 + 0); omega) (okF_c (by show 0 ≤ 0 + (1 * ρ 3 + 0); omega) okF_n))⟩
  rcases H with H | H
  · skip
    obtain ⟨t0, u0, v0, k0, k1, k2, f0, f1, -⟩ := H
    obtain ⟨ρ', ha, a0, a1, a2, a3, a4, a5⟩ : ∃ ρ' : Nat → Int, agr 5 ρ ρ' ∧ ρ' 0 = ρ 0 ∧ ρ' 1 = ρ 1 ∧ ρ' 2 = ρ 2 ∧ ρ' 3 = ρ 3 ∧ ρ' 4 = ρ 4 ∧ ρ' 5 = t0 := ⟨fun s => if s = 5 then t0 else ρ s, fun s hs => by show (if s = 5 then t0 else ρ s) = _; rw [if_neg (by omega)], rfl, rfl, rfl, rfl, rfl, rfl⟩
    exact ⟨_, (List.mem_cons_of_mem _ List.mem_cons_self), ρ', ha, (okM_c (pvp 45 (by show 0 + (1 * ρ' 0 + 0) = _; omega) (by show 0 + (1 * ρ' 1 + 0) = _; omega) k0) (okM_c (pvp 46 (by show 0 + (1 * ρ' 0 + 0) = _; omega) (by show 0 + (1 * ρ' 2 + 0) = _; omega) k1) (okM_c (pvp 47 (by show 0 + (1 * ρ' 0 + 0) = _; omega) (by show 0 + (1 * ρ' 5 + 0) = _; omega) k2) okM_n))), (okB_c (by omega) okB_n), (okF_c (by show 0 ≤ 1 + ((-1) * ρ' 3 + 0); omega) (okF_c (by show 0 ≤ (-1) + (1 * ρ' 3 + 0); omega) okF_n))⟩
  rcases H with H | H
  · skip
    obtain ⟨t0, u0, v0, k0, k1, k2, k3, k4, f0, f1, f2, f3, -⟩ := H
    obtain ⟨ρ', ha, a0, a1, a2, a3, a4, a5⟩ : ∃ ρ' : Nat → Int, agr 5 ρ ρ' ∧ ρ' 0 = ρ 0 ∧ ρ' 1 = ρ 1 ∧ ρ' 2 = ρ 2 ∧ ρ' 3 = ρ 3 ∧ ρ' 4 = ρ 4 ∧ ρ' 5 = t0 := ⟨fun s => if s = 5 then t0 else ρ s, fun s hs => by show (if s = 5 then t0 else ρ s) = _; rw [if_neg (by omega)], rfl, rfl, rfl, rfl, rfl, rfl⟩
    exact ⟨_, (List.mem_cons_of_mem _ (List.mem_cons_of_mem _ List.mem_cons_self)), ρ', ha, (okM_c (pvp 45 (by show 0 + (1 * ρ' 0 + 0) = _; omega) (by show 0 + (1 * ρ' 1 + 0) = _; omega) k0) (okM_c (pvp 46 (by show 0 + (1 * ρ' 0 + 0) = _; omega) (by show 0 + (1 * ρ' 2 + 0) = _; omega) k1) (okM_c (pvp 47 (by show 0 + (1 * ρ' 0 + 0) = _; omega) (by show 262143 + 0 = _; omega) k2) (okM_c (pvm (c := 61) (by decide) (by show 10 + 0 = _; omega) (by show 0 + (1 * ρ' 5 + 0) = _; omega) k3) (okM_c (pvp 143 (by show 0 + (2048 * ρ' 1 + (1 * ρ' 2 + 0)) = _; omega) (by show 0 + (1 * ρ' 5 + 0) = _; omega) k4) okM_n))))), (okB_c (by omega) okB_n), (okF_c (by show 0 ≤ 2 + ((-1) * ρ' 3 + 0); omega) (okF_c (by show 0 ≤ (-2) + (1 * ρ' 3 + 0); omega) (okF_c (by show 0 ≤ (-1) + ((-1) * ρ' 1 + (1 * ρ' 2 + 0)); omega) (okF_c (by show 0 ≤ 8 + (1 * ρ' 1 + ((-1) * ρ' 2 + 0)); omega) okF_n))))⟩
  rcases H with H | H
  · skip
    obtain ⟨t0, t1, u0, v0, u1, v1, k0, k1, k2, k3, k4, f0, f1, f2, f3, -⟩ := H
    obtain ⟨ρ', ha, a0, a1, a2, a3, a4, a5, a6⟩ : ∃ ρ' : Nat → Int, agr 5 ρ ρ' ∧ ρ' 0 = ρ 0 ∧ ρ' 1 = ρ 1 ∧ ρ' 2 = ρ 2 ∧ ρ' 3 = ρ 3 ∧ ρ' 4 = ρ 4 ∧ ρ' 5 = t0 ∧ ρ' 6 = t1 := ⟨fun s => if s = 6 then t1 else if s = 5 then t0 else ρ s, fun s hs => by show (if s = 6 then t1 else if s = 5 then t0 else ρ s) = _; rw [if_neg (by omega)]; rw [if_neg (by omega)], rfl, rfl, rfl, rfl, rfl, rfl, rfl⟩
    exact ⟨_, (List.mem_cons_of_mem _ (List.mem_cons_of_mem _ (List.mem_cons_of_mem _ List.mem_cons_self))), ρ', ha, (okM_c (pvp 45 (by show 0 + (1 * ρ' 0 + 0) = _; omega) (by show 0 + (1 * ρ' 1 + 0) = _; omega) k0) (okM_c (pvp 46 (by show 0 + (1 * ρ' 0 + 0) = _; omega) (by show 0 + (1 * ρ' 2 + 0) = _; omega) k1) (okM_c (pvp 47 (by show 0 + (1 * ρ' 0 + 0) = _; omega) (by show 262144 + (1 * ρ' 6 + 0) = _; omega) k2) (okM_c (pvm (c := 61) (by decide) (by show 10 + 0 = _; omega) (by show 0 + (1 * ρ' 5 + 0) = _; omega) k3) (okM_c (pvp 140 (by show 0 + (1 * ρ' 6 + 0) = _; omega) (by show 0 + (1 * ρ' 5 + 0) = _; omega) k4) okM_n))))), (okB_c (by omega) (okB_c (by omega) okB_n)), (okF_c (by show 0 ≤ 3 + ((-1) * ρ' 3 + 0); omega) (okF_c (by show 0 ≤ (-3) + (1 * ρ' 3 + 0); omega) (okF_c (by show 0 ≤ (-2) + ((-1) * ρ' 1 + (1 * ρ' 2 + 0)); omega) (okF_c (by show 0 ≤ 8 + (1 * ρ' 1 + ((-1) * ρ' 2 + 0)); omega) okF_n))))⟩
  rcases H with H | H
  · skip
    obtain ⟨k0, k1, k2, f0, f1, f2, -⟩ := H
    exact ⟨_, (List.mem_cons_of_mem _ (List.mem_cons_of_mem _ (List.mem_cons_of_mem _ (List.mem_cons_of_mem _ List.mem_cons_self)))), ρ, fun _ _ => rfl, (okM_c (pvp 45 (by show 0 + (1 * ρ 0 + 0) = _; omega) (by show 0 + (1 * ρ 1 + 0) = _; omega) k0) (okM_c (pvp 46 (by show 0 + (1 * ρ 0 + 0) = _; omega) (by show 0 + (1 * ρ 2 + 0) = _; omega) k1) (okM_c (pvp 47 (by show 0 + (1 * ρ 0 + 0) = _; omega) (by show 393216 + (1 * ρ 4 + 0) = _; omega) k2) okM_n))), okB_n, (okF_c (by show 0 ≤ 4 + ((-1) * ρ 3 + 0); omega) (okF_c (by show 0 ≤ (-4) + (1 * ρ 3 + 0); omega) (okF_c (by show 0 ≤ (-1) + ((-1) * ρ 1 + (1 * ρ 2 + 0)); omega) okF_n)))⟩
  · skip
    obtain ⟨t0, u0, v0, k0, k1, k2, k3, f0, f1, f2, f3, -⟩ := H
    obtain ⟨ρ', ha, a0, a1, a2, a3, a4, a5⟩ : ∃ ρ' : Nat → Int, agr 5 ρ ρ' ∧ ρ' 0 = ρ 0 ∧ ρ' 1 = ρ 1 ∧ ρ' 2 = ρ 2 ∧ ρ' 3 = ρ 3 ∧ ρ' 4 = ρ 4 ∧ ρ' 5 = t0 := ⟨fun s => if s = 5 then t0 else ρ s, fun s hs => by show (if s = 5 then t0 else ρ s) = _; rw [if_neg (by omega)], rfl, rfl, rfl, rfl, rfl, rfl⟩
    exact ⟨_, (List.mem_cons_of_mem _ (List.mem_cons_of_mem _ (List.mem_cons_of_mem _ (List.mem_cons_of_mem _ (List.mem_cons_of_mem _ List.mem_cons_self))))), ρ', ha, (okM_c (pvp 45 (by show 0 + (1 * ρ' 0 + 0) = _; omega) (by show 0 + (1 * ρ' 1 + 0) = _; omega) k0) (okM_c (pvp 46 (by show 0 + (1 * ρ' 0 + 0) = _; omega) (by show 0 + (1 * ρ' 2 + 0) = _; omega) k1) (okM_c (pvp 47 (by show 0 + (1 * ρ' 0 + 0) = _; omega) (by show 524288 + (1 * ρ' 5 + 0) = _; omega) k2) (okM_c (pvm (c := 1) (by decide) (by show 0 + (1 * ρ' 1 + 0) = _; omega) (by show 0 + (1 * ρ' 5 + 0) = _; omega) k3) okM_n)))), (okB_c (by omega) okB_n), (okF_c (by show 0 ≤ 5 + ((-1) * ρ' 3 + 0); omega) (okF_c (by show 0 ≤ (-5) + (1 * ρ' 3 + 0); omega) (okF_c (by show 0 ≤ 1 + (1 * ρ' 1 + ((-1) * ρ' 2 + 0)); omega) (okF_c (by show 0 ≤ (-1) + ((-1) * ρ' 1 + (1 * ρ' 2 + 0)); omega) okF_n))))⟩
-- wkc
theorem cr_523 (M : pM) (s0 s1 : Int) (b0 : 0 ≤ s0 ∧ s0 ≤ 23) (b1 : 0 ≤ s1 ∧ s1 ≤ 9223372036854775807) (m0 : HP 140 (s0) (s1) M) (hG : gI M) : (0 ≤ ((-1) * s0) ∧ 0 ≤ (s0) ∧ 0 ≤ ((-1) * s1 + 7499639) ∧ 0 ≤ (s1 - 7499639) ∧ True) ∨ (0 ≤ ((-1) * s0 + 1) ∧ 0 ≤ (s0 - 1) ∧ 0 ≤ ((-1) * s1 + 1818846836) ∧ 0 ≤ (s1 - 1818846836) ∧ True) ∨ (0 ≤ ((-1) * s0 + 2) ∧ 0 ≤ (s0 - 2) ∧ 0 ≤ ((-1) * s1 + 2003398244) ∧ 0 ≤ (s1 - 2003398244) ∧ True) ∨ (0 ≤ ((-1) * s0 + 3) ∧ 0 ≤ (s0 - 3) ∧ 0 ≤ ((-1) * s1 + 7630704) ∧ 0 ≤ (s1 - 7630704) ∧ True) ∨ (0 ≤ ((-1) * s0 + 4) ∧ 0 ≤ (s0 - 4) ∧ 0 ≤ ((-1) * s1 + 2002873452) ∧ 0 ≤ (s1 - 2002873452) ∧ True) ∨ (0 ≤ ((-1) * s0 + 8) ∧ 0 ≤ (s0 - 8) ∧ 0 ≤ ((-1) * s1 + 439854918756) ∧ 0 ≤ (s1 - 439854918756) ∧ True) ∨ (0 ≤ ((-1) * s0 + 9) ∧ 0 ≤ (s0 - 9) ∧ 0 ≤ ((-1) * s1 + 1919902052) ∧ 0 ≤ (s1 - 1919902052) ∧ True) ∨ (0 ≤ ((-1) * s0 + 10) ∧ 0 ≤ (s0 - 10) ∧ 0 ≤ ((-1) * s1 + 113715322316146) ∧ 0 ≤ (s1 - 113715322316146) ∧ True) ∨ (0 ≤ (s0 - 5) ∧ 0 ≤ ((-1) * s0 + 7) ∧ True) ∨ (0 ≤ (s0 - 11) ∧ True) := by
  obtain ⟨k, w1, w2, w3⟩ := Eq.mp hp_140 m0
  have hk : k = 0 ∨ k = 1 ∨ k = 2 ∨ k = 3 ∨ k = 4 ∨ k = 8 ∨ k = 9 ∨ k = 10 ∨ 5 ≤ k ∧ k ≤ 7 ∨ 11 ≤ k := by omega
  rcases hk with e | e | e | e | e | e | e | e | e | e
  · subst e
    rw [show qwn 0 = 7499639 by decide] at w3
    exact Or.inl ⟨by omega, by omega, by omega, by omega, trivial⟩
  · subst e
    rw [show qwn 1 = 1818846836 by decide] at w3
    exact Or.inr (Or.inl ⟨by omega, by omega, by omega, by omega, trivial⟩)
  · subst e
    rw [show qwn 2 = 2003398244 by decide] at w3
    exact Or.inr (Or.inr (Or.inl ⟨by omega, by omega, by omega, by omega, trivial⟩))
  · subst e
    rw [show qwn 3 = 7630704 by decide] at w3
    exact Or.inr (Or.inr (Or.inr (Or.inl ⟨by omega, by omega, by omega, by omega, trivial⟩)))
  · subst e
    rw [show qwn 4 = 2002873452 by decide] at w3
    exact Or.inr (Or.inr (Or.inr (Or.inr (Or.inl ⟨by omega, by omega, by omega, by omega, trivial⟩))))
  · subst e
    rw [show qwn 8 = 439854918756 by decide] at w3
    exact Or.inr (Or.inr (Or.inr (Or.inr (Or.inr (Or.inl ⟨by omega, by omega, by omega, by omega, trivial⟩)))))
  · subst e
    rw [show qwn 9 = 1919902052 by decide] at w3
    exact Or.inr (Or.inr (Or.inr (Or.inr (Or.inr (Or.inr (Or.inl ⟨by omega, by omega, by omega, by omega, trivial⟩))))))
  · subst e
    rw [show qwn 10 = 113715322316146 by decide] at w3
    exact Or.inr (Or.inr (Or.inr (Or.inr (Or.inr (Or.inr (Or.inr (Or.inl ⟨by omega, by omega, by omega, by omega, trivial⟩)))))))
  · exact Or.inr (Or.inr (Or.inr (Or.inr (Or.inr (Or.inr (Or.inr (Or.inr (Or.inl ⟨by omega, by omega, trivial⟩))))))))
  · exact Or.inr (Or.inr (Or.inr (Or.inr (Or.inr (Or.inr (Or.inr (Or.inr (Or.inr (⟨by omega, trivial⟩)))))))))
theorem rul_523 : Rul r_523 := by
  refine ⟨fun _ ρ M hm hB hF hG => ?_, fun gi gv hg => (by cases hg)⟩
  have H := cr_523 M (ρ 0) (ρ 1) (hB _ List.mem_cons_self) (hB _ (List.mem_cons_of_mem _ List.mem_cons_self)) (cvp 140 (x' := ((ρ 0))) (y' := ((ρ 1))) (by show 0 + (1 * ρ 0 + 0) = _; omega) (by show 0 + (1 * ρ 1 + 0) = _; omega) (hm _ List.mem_cons_self)) hG
  rcases H with H | H
  · skip
    obtain ⟨f0, f1, f2, f3, -⟩ := H
    exact ⟨_, List.mem_cons_self, ρ, fun _ _ => rfl, okM_n, okB_n, (okF_c (by show 0 ≤ 0 + ((-1) * ρ 0 + 0); omega) (okF_c (by show 0 ≤ 0 + (1 * ρ 0 + 0); omega) (okF_c (by show 0 ≤ 7499639 + ((-1) * ρ 1 + 0); omega) (okF_c (by show 0 ≤ (-7499639) + (1 * ρ 1 + 0); omega) okF_n))))⟩
  rcases H with H | H
  · skip
    obtain ⟨f0, f1, f2, f3, -⟩ := H
    exact ⟨_, (List.mem_cons_of_mem _ List.mem_cons_self), ρ, fun _ _ => rfl, okM_n, okB_n, (okF_c (by show 0 ≤ 1 + ((-1) * ρ 0 + 0); omega) (okF_c (by show 0 ≤ (-1) + (1 * ρ 0 + 0); omega) (okF_c (by show 0 ≤ 1818846836 + ((-1) * ρ 1 + 0); omega) (okF_c (by show 0 ≤ (-1818846836) + (1 * ρ 1 + 0); omega) okF_n))))⟩
  rcases H with H | H
  · skip
    obtain ⟨f0, f1, f2, f3, -⟩ := H
    exact ⟨_, (List.mem_cons_of_mem _ (List.mem_cons_of_mem _ List.mem_cons_self)), ρ, fun _ _ => rfl, okM_n, okB_n, (okF_c (by show 0 ≤ 2 + ((-1) * ρ 0 + 0); omega) (okF_c (by show 0 ≤ (-2) + (1 * ρ 0 + 0); omega) (okF_c (by show 0 ≤ 2003398244 + ((-1) * ρ 1 + 0); omega) (okF_c (by show 0 ≤ (-2003398244) + (1 * ρ 1 + 0); omega) okF_n))))⟩
  rcases H with H | H
  · skip
    obtain ⟨f0, f1, f2, f3, -⟩ := H
    exact ⟨_, (List.mem_cons_of_mem _ (List.mem_cons_of_mem _ (List.mem_cons_of_mem _ List.mem_cons_self))), ρ, fun _ _ => rfl, okM_n, okB_n, (okF_c (by show 0 ≤ 3 + ((-1) * ρ 0 + 0); omega) (okF_c (by show 0 ≤ (-3) + (1 * ρ 0 + 0); omega) (okF_c (by show 0 ≤ 7630704 + ((-1) * ρ 1 + 0); omega) (okF_c (by show 0 ≤ (-7630704) + (1 * ρ 1 + 0); omega) okF_n))))⟩
  rcases H with H | H
  · skip
    obtain ⟨f0, f1, f2, f3, -⟩ := H
    exact ⟨_, (List.mem_cons_of_mem _ (List.mem_cons_of_mem _ (List.mem_cons_of_mem _ (List.mem_cons_of_mem _ List.mem_cons_self)))), ρ, fun _ _ => rfl, okM_n, okB_n, (okF_c (by show 0 ≤ 4 + ((-1) * ρ 0 + 0); omega) (okF_c (by show 0 ≤ (-4) + (1 * ρ 0 + 0); omega) (okF_c (by show 0 ≤ 2002873452 + ((-1) * ρ 1 + 0); omega) (okF_c (by show 0 ≤ (-2002873452) + (1 * ρ 1 + 0); omega) okF_n))))⟩
  rcases H with H | H
  · skip
    obtain ⟨f0, f1, f2, f3, -⟩ := H
    exact ⟨_, (List.mem_cons_of_mem _ (List.mem_cons_of_mem _ (List.mem_cons_of_mem _ (List.mem_cons_of_mem _ (List.mem_cons_of_mem _ List.mem_cons_self))))), ρ, fun _ _ => rfl, okM_n, okB_n, (okF_c (by show 0 ≤ 8 + ((-1) * ρ 0 + 0); omega) (okF_c (by show 0 ≤ (-8) + (1 * ρ 0 + 0); omega) (okF_c (by show 0 ≤ 439854918756 + ((-1) * ρ 1 + 0); omega) (okF_c (by show 0 ≤ (-439854918756) + (1 * ρ 1 + 0); omega) okF_n))))⟩
  rcases H with H | H
  · skip
    obtain ⟨f0, f1, f2, f3, -⟩ := H
    exact ⟨_, (List.mem_cons_of_mem _ (List.mem_cons_of_mem _ (List.mem_cons_of_mem _ (List.mem_cons_of_mem _ (List.mem_cons_of_mem _ (List.mem_cons_of_mem _ List.mem_cons_self)))))), ρ, fun _ _ => rfl, okM_n, okB_n, (okF_c (by show 0 ≤ 9 + ((-1) * ρ 0 + 0); omega) (okF_c (by show 0 ≤ (-9) + (1 * ρ 0 + 0); omega) (okF_c (by show 0 ≤ 1919902052 + ((-1) * ρ 1 + 0); omega) (okF_c (by show 0 ≤ (-1919902052) + (1 * ρ 1 + 0); omega) okF_n))))⟩
  rcases H with H | H
  · skip
    obtain ⟨f0, f1, f2, f3, -⟩ := H
    exact ⟨_, (List.mem_cons_of_mem _ (List.mem_cons_of_mem _ (List.mem_cons_of_mem _ (List.mem_cons_of_mem _ (List.mem_cons_of_mem _ (List.mem_cons_of_mem _ (List.mem_cons_of_mem _ List.mem_cons_self))))))), ρ, fun _ _ => rfl, okM_n, okB_n, (okF_c (by show 0 ≤ 10 + ((-1) * ρ 0 + 0); omega) (okF_c (by show 0 ≤ (-10) + (1 * ρ 0 + 0); omega) (okF_c (by show 0 ≤ 113715322316146 + ((-1) * ρ 1 + 0); omega) (okF_c (by show 0 ≤ (-113715322316146) + (1 * ρ 1 + 0); omega) okF_n))))⟩
  rcases H with H | H
  · skip
    obtain ⟨f0, f1, -⟩ := H
    exact ⟨_, (List.mem_cons_of_mem _ (List.mem_cons_of_mem _ (List.mem_cons_of_mem _ (List.mem_cons_of_mem _ (List.mem_cons_of_mem _ (List.mem_cons_of_mem _ (List.mem_cons_of_mem _ (List.mem_cons_of_mem _ List.mem_cons_self)))))))), ρ, fun _ _ => rfl, okM_n, okB_n, (okF_c (by show 0 ≤ (-5) + (1 * ρ 0 + 0); omega) (okF_c (by show 0 ≤ 7 + ((-1) * ρ 0 + 0); omega) okF_n))⟩
  · skip
    obtain ⟨f0, -⟩ := H
    exact ⟨_, (List.mem_cons_of_mem _ (List.mem_cons_of_mem _ (List.mem_cons_of_mem _ (List.mem_cons_of_mem _ (List.mem_cons_of_mem _ (List.mem_cons_of_mem _ (List.mem_cons_of_mem _ (List.mem_cons_of_mem _ (List.mem_cons_of_mem _ List.mem_cons_self))))))))), ρ, fun _ _ => rfl, okM_n, okB_n, (okF_c (by show 0 ≤ (-11) + (1 * ρ 0 + 0); omega) okF_n)⟩
-- wkn5_0
theorem cr_524 (M : pM) (s0 s1 : Int) (b0 : 0 ≤ s0 ∧ s0 ≤ 23) (b1 : 0 ≤ s1 ∧ s1 ≤ 9223372036854775807) (m0 : HP 140 (s0) (s1) M) (f0 : 0 ≤ ((-1) * s1 + 418263299684)) (hG : gI M) : (0 ≤ ((-1) * s0 + 4) ∧ True) ∨ (0 ≤ (s0 - 6) ∧ True) := by
  obtain ⟨k, w1, w2, w3⟩ := Eq.mp hp_140 m0
  have hk : k < 5 ∨ k = 5 ∨ 5 < k := by omega
  rcases hk with e | e | e
  · exact Or.inl ⟨by omega, trivial⟩
  · subst e
    rw [show qwn 5 = 418263299685 by decide] at w3
    omega
  · exact Or.inr ⟨by omega, trivial⟩
theorem rul_524 : Rul r_524 := by
  refine ⟨fun _ ρ M hm hB hF hG => ?_, fun gi gv hg => (by cases hg)⟩
  have H := cr_524 M (ρ 0) (ρ 1) (hB _ List.mem_cons_self) (hB _ (List.mem_cons_of_mem _ List.mem_cons_self)) (cvp 140 (x' := ((ρ 0))) (y' := ((ρ 1))) (by show 0 + (1 * ρ 0 + 0) = _; omega) (by show 0 + (1 * ρ 1 + 0) = _; omega) (hm _ List.mem_cons_self)) (by have h := hF _ List.mem_cons_self; have h : 0 ≤ 418263299684 + ((-1) * ρ 1 + 0) := h; omega) hG
  rcases H with H | H
  · skip
    obtain ⟨f0, -⟩ := H
    exact ⟨_, List.mem_cons_self, ρ, fun _ _ => rfl, okM_n, okB_n, (okF_c (by show 0 ≤ 4 + ((-1) * ρ 0 + 0); omega) okF_n)⟩
  · skip
    obtain ⟨f0, -⟩ := H
    exact ⟨_, (List.mem_cons_of_mem _ List.mem_cons_self), ρ, fun _ _ => rfl, okM_n, okB_n, (okF_c (by show 0 ≤ (-6) + (1 * ρ 0 + 0); omega) okF_n)⟩
-- wkn5_1
theorem cr_525 (M : pM) (s0 s1 : Int) (b0 : 0 ≤ s0 ∧ s0 ≤ 23) (b1 : 0 ≤ s1 ∧ s1 ≤ 9223372036854775807) (m0 : HP 140 (s0) (s1) M) (f0 : 0 ≤ (s1 - 418263299686)) (hG : gI M) : (0 ≤ ((-1) * s0 + 4) ∧ True) ∨ (0 ≤ (s0 - 6) ∧ True) := by
  obtain ⟨k, w1, w2, w3⟩ := Eq.mp hp_140 m0
  have hk : k < 5 ∨ k = 5 ∨ 5 < k := by omega
  rcases hk with e | e | e
  · exact Or.inl ⟨by omega, trivial⟩
  · subst e
    rw [show qwn 5 = 418263299685 by decide] at w3
    omega
  · exact Or.inr ⟨by omega, trivial⟩
theorem rul_525 : Rul r_525 := by
  refine ⟨fun _ ρ M hm hB hF hG => ?_, fun gi gv hg => (by cases hg)⟩
  have H := cr_525 M (ρ 0) (ρ 1) (hB _ List.mem_cons_self) (hB _ (List.mem_cons_of_mem _ List.mem_cons_self)) (cvp 140 (x' := ((ρ 0))) (y' := ((ρ 1))) (by show 0 + (1 * ρ 0 + 0) = _; omega) (by show 0 + (1 * ρ 1 + 0) = _; omega) (hm _ List.mem_cons_self)) (by have h := hF _ List.mem_cons_self; have h : 0 ≤ (-418263299686) + (1 * ρ 1 + 0) := h; omega) hG
  rcases H with H | H
  · skip
    obtain ⟨f0, -⟩ := H
    exact ⟨_, List.mem_cons_self, ρ, fun _ _ => rfl, okM_n, okB_n, (okF_c (by show 0 ≤ 4 + ((-1) * ρ 0 + 0); omega) okF_n)⟩
  · skip
    obtain ⟨f0, -⟩ := H
    exact ⟨_, (List.mem_cons_of_mem _ List.mem_cons_self), ρ, fun _ _ => rfl, okM_n, okB_n, (okF_c (by show 0 ≤ (-6) + (1 * ρ 0 + 0); omega) okF_n)⟩
-- wkn6_0
theorem cr_526 (M : pM) (s0 s1 : Int) (b0 : 0 ≤ s0 ∧ s0 ≤ 23) (b1 : 0 ≤ s1 ∧ s1 ≤ 9223372036854775807) (m0 : HP 140 (s0) (s1) M) (f0 : 0 ≤ ((-1) * s1 + 1718775660)) (hG : gI M) : (0 ≤ ((-1) * s0 + 5) ∧ True) ∨ (0 ≤ (s0 - 7) ∧ True) := by
  obtain ⟨k, w1, w2, w3⟩ := Eq.mp hp_140 m0
  have hk : k < 6 ∨ k = 6 ∨ 6 < k := by omega
  rcases hk with e | e | e
  · exact Or.inl ⟨by omega, trivial⟩
  · subst e
    rw [show qwn 6 = 1718775661 by decide] at w3
    omega
  · exact Or.inr ⟨by omega, trivial⟩
theorem rul_526 : Rul r_526 := by
  refine ⟨fun _ ρ M hm hB hF hG => ?_, fun gi gv hg => (by cases hg)⟩
  have H := cr_526 M (ρ 0) (ρ 1) (hB _ List.mem_cons_self) (hB _ (List.mem_cons_of_mem _ List.mem_cons_self)) (cvp 140 (x' := ((ρ 0))) (y' := ((ρ 1))) (by show 0 + (1 * ρ 0 + 0) = _; omega) (by show 0 + (1 * ρ 1 + 0) = _; omega) (hm _ List.mem_cons_self)) (by have h := hF _ List.mem_cons_self; have h : 0 ≤ 1718775660 + ((-1) * ρ 1 + 0) := h; omega) hG
  rcases H with H | H
  · skip
    obtain ⟨f0, -⟩ := H
    exact ⟨_, List.mem_cons_self, ρ, fun _ _ => rfl, okM_n, okB_n, (okF_c (by show 0 ≤ 5 + ((-1) * ρ 0 + 0); omega) okF_n)⟩
  · skip
    obtain ⟨f0, -⟩ := H
    exact ⟨_, (List.mem_cons_of_mem _ List.mem_cons_self), ρ, fun _ _ => rfl, okM_n, okB_n, (okF_c (by show 0 ≤ (-7) + (1 * ρ 0 + 0); omega) okF_n)⟩
-- wkn6_1
theorem cr_527 (M : pM) (s0 s1 : Int) (b0 : 0 ≤ s0 ∧ s0 ≤ 23) (b1 : 0 ≤ s1 ∧ s1 ≤ 9223372036854775807) (m0 : HP 140 (s0) (s1) M) (f0 : 0 ≤ (s1 - 1718775662)) (hG : gI M) : (0 ≤ ((-1) * s0 + 5) ∧ True) ∨ (0 ≤ (s0 - 7) ∧ True) := by
  obtain ⟨k, w1, w2, w3⟩ := Eq.mp hp_140 m0
  have hk : k < 6 ∨ k = 6 ∨ 6 < k := by omega
  rcases hk with e | e | e
  · exact Or.inl ⟨by omega, trivial⟩
  · subst e
    rw [show qwn 6 = 1718775661 by decide] at w3
    omega
  · exact Or.inr ⟨by omega, trivial⟩
theorem rul_527 : Rul r_527 := by
  refine ⟨fun _ ρ M hm hB hF hG => ?_, fun gi gv hg => (by cases hg)⟩
  have H := cr_527 M (ρ 0) (ρ 1) (hB _ List.mem_cons_self) (hB _ (List.mem_cons_of_mem _ List.mem_cons_self)) (cvp 140 (x' := ((ρ 0))) (y' := ((ρ 1))) (by show 0 + (1 * ρ 0 + 0) = _; omega) (by show 0 + (1 * ρ 1 + 0) = _; omega) (hm _ List.mem_cons_self)) (by have h := hF _ List.mem_cons_self; have h : 0 ≤ (-1718775662) + (1 * ρ 1 + 0) := h; omega) hG
  rcases H with H | H
  · skip
    obtain ⟨f0, -⟩ := H
    exact ⟨_, List.mem_cons_self, ρ, fun _ _ => rfl, okM_n, okB_n, (okF_c (by show 0 ≤ 5 + ((-1) * ρ 0 + 0); omega) okF_n)⟩
  · skip
    obtain ⟨f0, -⟩ := H
    exact ⟨_, (List.mem_cons_of_mem _ List.mem_cons_self), ρ, fun _ _ => rfl, okM_n, okB_n, (okF_c (by show 0 ≤ (-7) + (1 * ρ 0 + 0); omega) okF_n)⟩
-- wkn7_0
theorem cr_528 (M : pM) (s0 s1 : Int) (b0 : 0 ≤ s0 ∧ s0 ≤ 23) (b1 : 0 ≤ s1 ∧ s1 ≤ 9223372036854775807) (m0 : HP 140 (s0) (s1) M) (f0 : 0 ≤ ((-1) * s1 + 29806)) (hG : gI M) : (0 ≤ ((-1) * s0 + 6) ∧ True) ∨ (0 ≤ (s0 - 8) ∧ True) := by
  obtain ⟨k, w1, w2, w3⟩ := Eq.mp hp_140 m0
  have hk : k < 7 ∨ k = 7 ∨ 7 < k := by omega
  rcases hk with e | e | e
  · exact Or.inl ⟨by omega, trivial⟩
  · subst e
    rw [show qwn 7 = 29807 by decide] at w3
    omega
  · exact Or.inr ⟨by omega, trivial⟩
theorem rul_528 : Rul r_528 := by
  refine ⟨fun _ ρ M hm hB hF hG => ?_, fun gi gv hg => (by cases hg)⟩
  have H := cr_528 M (ρ 0) (ρ 1) (hB _ List.mem_cons_self) (hB _ (List.mem_cons_of_mem _ List.mem_cons_self)) (cvp 140 (x' := ((ρ 0))) (y' := ((ρ 1))) (by show 0 + (1 * ρ 0 + 0) = _; omega) (by show 0 + (1 * ρ 1 + 0) = _; omega) (hm _ List.mem_cons_self)) (by have h := hF _ List.mem_cons_self; have h : 0 ≤ 29806 + ((-1) * ρ 1 + 0) := h; omega) hG
  rcases H with H | H
  · skip
    obtain ⟨f0, -⟩ := H
    exact ⟨_, List.mem_cons_self, ρ, fun _ _ => rfl, okM_n, okB_n, (okF_c (by show 0 ≤ 6 + ((-1) * ρ 0 + 0); omega) okF_n)⟩
  · skip
    obtain ⟨f0, -⟩ := H
    exact ⟨_, (List.mem_cons_of_mem _ List.mem_cons_self), ρ, fun _ _ => rfl, okM_n, okB_n, (okF_c (by show 0 ≤ (-8) + (1 * ρ 0 + 0); omega) okF_n)⟩
-- wkn7_1
theorem cr_529 (M : pM) (s0 s1 : Int) (b0 : 0 ≤ s0 ∧ s0 ≤ 23) (b1 : 0 ≤ s1 ∧ s1 ≤ 9223372036854775807) (m0 : HP 140 (s0) (s1) M) (f0 : 0 ≤ (s1 - 29808)) (hG : gI M) : (0 ≤ ((-1) * s0 + 6) ∧ True) ∨ (0 ≤ (s0 - 8) ∧ True) := by
  obtain ⟨k, w1, w2, w3⟩ := Eq.mp hp_140 m0
  have hk : k < 7 ∨ k = 7 ∨ 7 < k := by omega
  rcases hk with e | e | e
  · exact Or.inl ⟨by omega, trivial⟩
  · subst e
    rw [show qwn 7 = 29807 by decide] at w3
    omega
  · exact Or.inr ⟨by omega, trivial⟩
theorem rul_529 : Rul r_529 := by
  refine ⟨fun _ ρ M hm hB hF hG => ?_, fun gi gv hg => (by cases hg)⟩
  have H := cr_529 M (ρ 0) (ρ 1) (hB _ List.mem_cons_self) (hB _ (List.mem_cons_of_mem _ List.mem_cons_self)) (cvp 140 (x' := ((ρ 0))) (y' := ((ρ 1))) (by show 0 + (1 * ρ 0 + 0) = _; omega) (by show 0 + (1 * ρ 1 + 0) = _; omega) (hm _ List.mem_cons_self)) (by have h := hF _ List.mem_cons_self; have h : 0 ≤ (-29808) + (1 * ρ 1 + 0) := h; omega) hG
  rcases H with H | H
  · skip
    obtain ⟨f0, -⟩ := H
    exact ⟨_, List.mem_cons_self, ρ, fun _ _ => rfl, okM_n, okB_n, (okF_c (by show 0 ≤ 6 + ((-1) * ρ 0 + 0); omega) okF_n)⟩
  · skip
    obtain ⟨f0, -⟩ := H
    exact ⟨_, (List.mem_cons_of_mem _ List.mem_cons_self), ρ, fun _ _ => rfl, okM_n, okB_n, (okF_c (by show 0 ≤ (-8) + (1 * ρ 0 + 0); omega) okF_n)⟩
-- wkn11_0
theorem cr_530 (M : pM) (s0 s1 : Int) (b0 : 0 ≤ s0 ∧ s0 ≤ 23) (b1 : 0 ≤ s1 ∧ s1 ≤ 9223372036854775807) (m0 : HP 140 (s0) (s1) M) (f0 : 0 ≤ ((-1) * s1 + 1936289386)) (hG : gI M) : (0 ≤ ((-1) * s0 + 10) ∧ True) ∨ (0 ≤ (s0 - 12) ∧ True) := by
  obtain ⟨k, w1, w2, w3⟩ := Eq.mp hp_140 m0
  have hk : k < 11 ∨ k = 11 ∨ 11 < k := by omega
  rcases hk with e | e | e
  · exact Or.inl ⟨by omega, trivial⟩
  · subst e
    rw [show qwn 11 = 1936289387 by decide] at w3
    omega
  · exact Or.inr ⟨by omega, trivial⟩
theorem rul_530 : Rul r_530 := by
  refine ⟨fun _ ρ M hm hB hF hG => ?_, fun gi gv hg => (by cases hg)⟩
  have H := cr_530 M (ρ 0) (ρ 1) (hB _ List.mem_cons_self) (hB _ (List.mem_cons_of_mem _ List.mem_cons_self)) (cvp 140 (x' := ((ρ 0))) (y' := ((ρ 1))) (by show 0 + (1 * ρ 0 + 0) = _; omega) (by show 0 + (1 * ρ 1 + 0) = _; omega) (hm _ List.mem_cons_self)) (by have h := hF _ List.mem_cons_self; have h : 0 ≤ 1936289386 + ((-1) * ρ 1 + 0) := h; omega) hG
  rcases H with H | H
  · skip
    obtain ⟨f0, -⟩ := H
    exact ⟨_, List.mem_cons_self, ρ, fun _ _ => rfl, okM_n, okB_n, (okF_c (by show 0 ≤ 10 + ((-1) * ρ 0 + 0); omega) okF_n)⟩
  · skip
    obtain ⟨f0, -⟩ := H
    exact ⟨_, (List.mem_cons_of_mem _ List.mem_cons_self), ρ, fun _ _ => rfl, okM_n, okB_n, (okF_c (by show 0 ≤ (-12) + (1 * ρ 0 + 0); omega) okF_n)⟩
-- wkn11_1
theorem cr_531 (M : pM) (s0 s1 : Int) (b0 : 0 ≤ s0 ∧ s0 ≤ 23) (b1 : 0 ≤ s1 ∧ s1 ≤ 9223372036854775807) (m0 : HP 140 (s0) (s1) M) (f0 : 0 ≤ (s1 - 1936289388)) (hG : gI M) : (0 ≤ ((-1) * s0 + 10) ∧ True) ∨ (0 ≤ (s0 - 12) ∧ True) := by
  obtain ⟨k, w1, w2, w3⟩ := Eq.mp hp_140 m0
  have hk : k < 11 ∨ k = 11 ∨ 11 < k := by omega
  rcases hk with e | e | e
  · exact Or.inl ⟨by omega, trivial⟩
  · subst e
    rw [show qwn 11 = 1936289387 by decide] at w3
    omega
  · exact Or.inr ⟨by omega, trivial⟩
theorem rul_531 : Rul r_531 := by
  refine ⟨fun _ ρ M hm hB hF hG => ?_, fun gi gv hg => (by cases hg)⟩
  have H := cr_531 M (ρ 0) (ρ 1) (hB _ List.mem_cons_self) (hB _ (List.mem_cons_of_mem _ List.mem_cons_self)) (cvp 140 (x' := ((ρ 0))) (y' := ((ρ 1))) (by show 0 + (1 * ρ 0 + 0) = _; omega) (by show 0 + (1 * ρ 1 + 0) = _; omega) (hm _ List.mem_cons_self)) (by have h := hF _ List.mem_cons_self; have h : 0 ≤ (-1936289388) + (1 * ρ 1 + 0) := h; omega) hG
  rcases H with H | H
  · skip
    obtain ⟨f0, -⟩ := H
    exact ⟨_, List.mem_cons_self, ρ, fun _ _ => rfl, okM_n, okB_n, (okF_c (by show 0 ≤ 10 + ((-1) * ρ 0 + 0); omega) okF_n)⟩
  · skip
    obtain ⟨f0, -⟩ := H
    exact ⟨_, (List.mem_cons_of_mem _ List.mem_cons_self), ρ, fun _ _ => rfl, okM_n, okB_n, (okF_c (by show 0 ≤ (-12) + (1 * ρ 0 + 0); omega) okF_n)⟩
-- wkn12_0
theorem cr_532 (M : pM) (s0 s1 : Int) (b0 : 0 ≤ s0 ∧ s0 ≤ 23) (b1 : 0 ≤ s1 ∧ s1 ≤ 9223372036854775807) (m0 : HP 140 (s0) (s1) M) (f0 : 0 ≤ ((-1) * s1 + 7521414230229344623)) (hG : gI M) : (0 ≤ ((-1) * s0 + 11) ∧ True) ∨ (0 ≤ (s0 - 13) ∧ True) := by
  obtain ⟨k, w1, w2, w3⟩ := Eq.mp hp_140 m0
  have hk : k < 12 ∨ k = 12 ∨ 12 < k := by omega
  rcases hk with e | e | e
  · exact Or.inl ⟨by omega, trivial⟩
  · subst e
    rw [show qwn 12 = 7521414230229344624 by decide] at w3
    omega
  · exact Or.inr ⟨by omega, trivial⟩
theorem rul_532 : Rul r_532 := by
  refine ⟨fun _ ρ M hm hB hF hG => ?_, fun gi gv hg => (by cases hg)⟩
  have H := cr_532 M (ρ 0) (ρ 1) (hB _ List.mem_cons_self) (hB _ (List.mem_cons_of_mem _ List.mem_cons_self)) (cvp 140 (x' := ((ρ 0))) (y' := ((ρ 1))) (by show 0 + (1 * ρ 0 + 0) = _; omega) (by show 0 + (1 * ρ 1 + 0) = _; omega) (hm _ List.mem_cons_self)) (by have h := hF _ List.mem_cons_self; have h : 0 ≤ 7521414230229344623 + ((-1) * ρ 1 + 0) := h; omega) hG
  rcases H with H | H
  · skip
    obtain ⟨f0, -⟩ := H
    exact ⟨_, List.mem_cons_self, ρ, fun _ _ => rfl, okM_n, okB_n, (okF_c (by show 0 ≤ 11 + ((-1) * ρ 0 + 0); omega) okF_n)⟩
  · skip
    obtain ⟨f0, -⟩ := H
    exact ⟨_, (List.mem_cons_of_mem _ List.mem_cons_self), ρ, fun _ _ => rfl, okM_n, okB_n, (okF_c (by show 0 ≤ (-13) + (1 * ρ 0 + 0); omega) okF_n)⟩
-- wkn12_1
theorem cr_533 (M : pM) (s0 s1 : Int) (b0 : 0 ≤ s0 ∧ s0 ≤ 23) (b1 : 0 ≤ s1 ∧ s1 ≤ 9223372036854775807) (m0 : HP 140 (s0) (s1) M) (f0 : 0 ≤ (s1 - 7521414230229344625)) (hG : gI M) : (0 ≤ ((-1) * s0 + 11) ∧ True) ∨ (0 ≤ (s0 - 13) ∧ True) := by
  obtain ⟨k, w1, w2, w3⟩ := Eq.mp hp_140 m0
  have hk : k < 12 ∨ k = 12 ∨ 12 < k := by omega
  rcases hk with e | e | e
  · exact Or.inl ⟨by omega, trivial⟩
  · subst e
    rw [show qwn 12 = 7521414230229344624 by decide] at w3
    omega
  · exact Or.inr ⟨by omega, trivial⟩
theorem rul_533 : Rul r_533 := by
  refine ⟨fun _ ρ M hm hB hF hG => ?_, fun gi gv hg => (by cases hg)⟩
  have H := cr_533 M (ρ 0) (ρ 1) (hB _ List.mem_cons_self) (hB _ (List.mem_cons_of_mem _ List.mem_cons_self)) (cvp 140 (x' := ((ρ 0))) (y' := ((ρ 1))) (by show 0 + (1 * ρ 0 + 0) = _; omega) (by show 0 + (1 * ρ 1 + 0) = _; omega) (hm _ List.mem_cons_self)) (by have h := hF _ List.mem_cons_self; have h : 0 ≤ (-7521414230229344625) + (1 * ρ 1 + 0) := h; omega) hG
  rcases H with H | H
  · skip
    obtain ⟨f0, -⟩ := H
    exact ⟨_, List.mem_cons_self, ρ, fun _ _ => rfl, okM_n, okB_n, (okF_c (by show 0 ≤ 11 + ((-1) * ρ 0 + 0); omega) okF_n)⟩
  · skip
    obtain ⟨f0, -⟩ := H
    exact ⟨_, (List.mem_cons_of_mem _ List.mem_cons_self), ρ, fun _ _ => rfl, okM_n, okB_n, (okF_c (by show 0 ≤ (-13) + (1 * ρ 0 + 0); omega) okF_n)⟩
-- wkq0
theorem cr_534 (M : pM) (s0 s1 : Int) (b0 : 0 ≤ s0 ∧ s0 ≤ 23) (b1 : 0 ≤ s1 ∧ s1 ≤ 9223372036854775807) (m0 : HP 140 (s0) (s1) M) (f0 : 0 ≤ ((-1) * s1 + 7499639)) (f1 : 0 ≤ (s1 - 7499639)) (hG : gI M) : (0 ≤ ((-1) * s0) ∧ 0 ≤ (s0) ∧ True) := by
  obtain ⟨k, w1, w2, w3⟩ := Eq.mp hp_140 m0
  have hk : k = 0 := (by decide : ∀ k, k < 24 → qwn k = 7499639 → k = 0) k w1 (by omega)
  exact ⟨by omega, by omega, trivial⟩
theorem rul_534 : Rul r_534 := by
  refine ⟨fun _ ρ M hm hB hF hG => ?_, fun gi gv hg => (by cases hg)⟩
  have H := cr_534 M (ρ 0) (ρ 1) (hB _ List.mem_cons_self) (hB _ (List.mem_cons_of_mem _ List.mem_cons_self)) (cvp 140 (x' := ((ρ 0))) (y' := ((ρ 1))) (by show 0 + (1 * ρ 0 + 0) = _; omega) (by show 0 + (1 * ρ 1 + 0) = _; omega) (hm _ List.mem_cons_self)) (by have h := hF _ List.mem_cons_self; have h : 0 ≤ 7499639 + ((-1) * ρ 1 + 0) := h; omega) (by have h := hF _ (List.mem_cons_of_mem _ List.mem_cons_self); have h : 0 ≤ (-7499639) + (1 * ρ 1 + 0) := h; omega) hG
  obtain ⟨f0, f1, -⟩ := H
  exact ⟨_, List.mem_cons_self, ρ, fun _ _ => rfl, okM_n, okB_n, (okF_c (by show 0 ≤ 0 + ((-1) * ρ 0 + 0); omega) (okF_c (by show 0 ≤ 0 + (1 * ρ 0 + 0); omega) okF_n))⟩
-- wkq1
theorem cr_535 (M : pM) (s0 s1 : Int) (b0 : 0 ≤ s0 ∧ s0 ≤ 23) (b1 : 0 ≤ s1 ∧ s1 ≤ 9223372036854775807) (m0 : HP 140 (s0) (s1) M) (f0 : 0 ≤ ((-1) * s1 + 1818846836)) (f1 : 0 ≤ (s1 - 1818846836)) (hG : gI M) : (0 ≤ ((-1) * s0 + 1) ∧ 0 ≤ (s0 - 1) ∧ True) := by
  obtain ⟨k, w1, w2, w3⟩ := Eq.mp hp_140 m0
  have hk : k = 1 := (by decide : ∀ k, k < 24 → qwn k = 1818846836 → k = 1) k w1 (by omega)
  exact ⟨by omega, by omega, trivial⟩
theorem rul_535 : Rul r_535 := by
  refine ⟨fun _ ρ M hm hB hF hG => ?_, fun gi gv hg => (by cases hg)⟩
  have H := cr_535 M (ρ 0) (ρ 1) (hB _ List.mem_cons_self) (hB _ (List.mem_cons_of_mem _ List.mem_cons_self)) (cvp 140 (x' := ((ρ 0))) (y' := ((ρ 1))) (by show 0 + (1 * ρ 0 + 0) = _; omega) (by show 0 + (1 * ρ 1 + 0) = _; omega) (hm _ List.mem_cons_self)) (by have h := hF _ List.mem_cons_self; have h : 0 ≤ 1818846836 + ((-1) * ρ 1 + 0) := h; omega) (by have h := hF _ (List.mem_cons_of_mem _ List.mem_cons_self); have h : 0 ≤ (-1818846836) + (1 * ρ 1 + 0) := h; omega) hG
  obtain ⟨f0, f1, -⟩ := H
  exact ⟨_, List.mem_cons_self, ρ, fun _ _ => rfl, okM_n, okB_n, (okF_c (by show 0 ≤ 1 + ((-1) * ρ 0 + 0); omega) (okF_c (by show 0 ≤ (-1) + (1 * ρ 0 + 0); omega) okF_n))⟩
-- wkq2
theorem cr_536 (M : pM) (s0 s1 : Int) (b0 : 0 ≤ s0 ∧ s0 ≤ 23) (b1 : 0 ≤ s1 ∧ s1 ≤ 9223372036854775807) (m0 : HP 140 (s0) (s1) M) (f0 : 0 ≤ ((-1) * s1 + 2003398244)) (f1 : 0 ≤ (s1 - 2003398244)) (hG : gI M) : (0 ≤ ((-1) * s0 + 2) ∧ 0 ≤ (s0 - 2) ∧ True) := by
  obtain ⟨k, w1, w2, w3⟩ := Eq.mp hp_140 m0
  have hk : k = 2 := (by decide : ∀ k, k < 24 → qwn k = 2003398244 → k = 2) k w1 (by omega)
  exact ⟨by omega, by omega, trivial⟩
theorem rul_536 : Rul r_536 := by
  refine ⟨fun _ ρ M hm hB hF hG => ?_, fun gi gv hg => (by cases hg)⟩
  have H := cr_536 M (ρ 0) (ρ 1) (hB _ List.mem_cons_self) (hB _ (List.mem_cons_of_mem _ List.mem_cons_self)) (cvp 140 (x' := ((ρ 0))) (y' := ((ρ 1))) (by show 0 + (1 * ρ 0 + 0) = _; omega) (by show 0 + (1 * ρ 1 + 0) = _; omega) (hm _ List.mem_cons_self)) (by have h := hF _ List.mem_cons_self; have h : 0 ≤ 2003398244 + ((-1) * ρ 1 + 0) := h; omega) (by have h := hF _ (List.mem_cons_of_mem _ List.mem_cons_self); have h : 0 ≤ (-2003398244) + (1 * ρ 1 + 0) := h; omega) hG
  obtain ⟨f0, f1, -⟩ := H
  exact ⟨_, List.mem_cons_self, ρ, fun _ _ => rfl, okM_n, okB_n, (okF_c (by show 0 ≤ 2 + ((-1) * ρ 0 + 0); omega) (okF_c (by show 0 ≤ (-2) + (1 * ρ 0 + 0); omega) okF_n))⟩
-- wkq3
theorem cr_537 (M : pM) (s0 s1 : Int) (b0 : 0 ≤ s0 ∧ s0 ≤ 23) (b1 : 0 ≤ s1 ∧ s1 ≤ 9223372036854775807) (m0 : HP 140 (s0) (s1) M) (f0 : 0 ≤ ((-1) * s1 + 7630704)) (f1 : 0 ≤ (s1 - 7630704)) (hG : gI M) : (0 ≤ ((-1) * s0 + 3) ∧ 0 ≤ (s0 - 3) ∧ True) := by
  obtain ⟨k, w1, w2, w3⟩ := Eq.mp hp_140 m0
  have hk : k = 3 := (by decide : ∀ k, k < 24 → qwn k = 7630704 → k = 3) k w1 (by omega)
  exact ⟨by omega, by omega, trivial⟩
theorem rul_537 : Rul r_537 := by
  refine ⟨fun _ ρ M hm hB hF hG => ?_, fun gi gv hg => (by cases hg)⟩
  have H := cr_537 M (ρ 0) (ρ 1) (hB _ List.mem_cons_self) (hB _ (List.mem_cons_of_mem _ List.mem_cons_self)) (cvp 140 (x' := ((ρ 0))) (y' := ((ρ 1))) (by show 0 + (1 * ρ 0 + 0) = _; omega) (by show 0 + (1 * ρ 1 + 0) = _; omega) (hm _ List.mem_cons_self)) (by have h := hF _ List.mem_cons_self; have h : 0 ≤ 7630704 + ((-1) * ρ 1 + 0) := h; omega) (by have h := hF _ (List.mem_cons_of_mem _ List.mem_cons_self); have h : 0 ≤ (-7630704) + (1 * ρ 1 + 0) := h; omega) hG
  obtain ⟨f0, f1, -⟩ := H
  exact ⟨_, List.mem_cons_self, ρ, fun _ _ => rfl, okM_n, okB_n, (okF_c (by show 0 ≤ 3 + ((-1) * ρ 0 + 0); omega) (okF_c (by show 0 ≤ (-3) + (1 * ρ 0 + 0); omega) okF_n))⟩
-- wkq4
theorem cr_538 (M : pM) (s0 s1 : Int) (b0 : 0 ≤ s0 ∧ s0 ≤ 23) (b1 : 0 ≤ s1 ∧ s1 ≤ 9223372036854775807) (m0 : HP 140 (s0) (s1) M) (f0 : 0 ≤ ((-1) * s1 + 2002873452)) (f1 : 0 ≤ (s1 - 2002873452)) (hG : gI M) : (0 ≤ ((-1) * s0 + 4) ∧ 0 ≤ (s0 - 4) ∧ True) := by
  obtain ⟨k, w1, w2, w3⟩ := Eq.mp hp_140 m0
  have hk : k = 4 := (by decide : ∀ k, k < 24 → qwn k = 2002873452 → k = 4) k w1 (by omega)
  exact ⟨by omega, by omega, trivial⟩
theorem rul_538 : Rul r_538 := by
  refine ⟨fun _ ρ M hm hB hF hG => ?_, fun gi gv hg => (by cases hg)⟩
  have H := cr_538 M (ρ 0) (ρ 1) (hB _ List.mem_cons_self) (hB _ (List.mem_cons_of_mem _ List.mem_cons_self)) (cvp 140 (x' := ((ρ 0))) (y' := ((ρ 1))) (by show 0 + (1 * ρ 0 + 0) = _; omega) (by show 0 + (1 * ρ 1 + 0) = _; omega) (hm _ List.mem_cons_self)) (by have h := hF _ List.mem_cons_self; have h : 0 ≤ 2002873452 + ((-1) * ρ 1 + 0) := h; omega) (by have h := hF _ (List.mem_cons_of_mem _ List.mem_cons_self); have h : 0 ≤ (-2002873452) + (1 * ρ 1 + 0) := h; omega) hG
  obtain ⟨f0, f1, -⟩ := H
  exact ⟨_, List.mem_cons_self, ρ, fun _ _ => rfl, okM_n, okB_n, (okF_c (by show 0 ≤ 4 + ((-1) * ρ 0 + 0); omega) (okF_c (by show 0 ≤ (-4) + (1 * ρ 0 + 0); omega) okF_n))⟩
-- wkq5
theorem cr_539 (M : pM) (s0 s1 : Int) (b0 : 0 ≤ s0 ∧ s0 ≤ 23) (b1 : 0 ≤ s1 ∧ s1 ≤ 9223372036854775807) (m0 : HP 140 (s0) (s1) M) (f0 : 0 ≤ ((-1) * s1 + 418263299685)) (f1 : 0 ≤ (s1 - 418263299685)) (hG : gI M) : (0 ≤ ((-1) * s0 + 5) ∧ 0 ≤ (s0 - 5) ∧ True) := by
  obtain ⟨k, w1, w2, w3⟩ := Eq.mp hp_140 m0
  have hk : k = 5 := (by decide : ∀ k, k < 24 → qwn k = 418263299685 → k = 5) k w1 (by omega)
  exact ⟨by omega, by omega, trivial⟩
theorem rul_539 : Rul r_539 := by
  refine ⟨fun _ ρ M hm hB hF hG => ?_, fun gi gv hg => (by cases hg)⟩
  have H := cr_539 M (ρ 0) (ρ 1) (hB _ List.mem_cons_self) (hB _ (List.mem_cons_of_mem _ List.mem_cons_self)) (cvp 140 (x' := ((ρ 0))) (y' := ((ρ 1))) (by show 0 + (1 * ρ 0 + 0) = _; omega) (by show 0 + (1 * ρ 1 + 0) = _; omega) (hm _ List.mem_cons_self)) (by have h := hF _ List.mem_cons_self; have h : 0 ≤ 418263299685 + ((-1) * ρ 1 + 0) := h; omega) (by have h := hF _ (List.mem_cons_of_mem _ List.mem_cons_self); have h : 0 ≤ (-418263299685) + (1 * ρ 1 + 0) := h; omega) hG
  obtain ⟨f0, f1, -⟩ := H
  exact ⟨_, List.mem_cons_self, ρ, fun _ _ => rfl, okM_n, okB_n, (okF_c (by show 0 ≤ 5 + ((-1) * ρ 0 + 0); omega) (okF_c (by show 0 ≤ (-5) + (1 * ρ 0 + 0); omega) okF_n))⟩
-- wkq6
theorem cr_540 (M : pM) (s0 s1 : Int) (b0 : 0 ≤ s0 ∧ s0 ≤ 23) (b1 : 0 ≤ s1 ∧ s1 ≤ 9223372036854775807) (m0 : HP 140 (s0) (s1) M) (f0 : 0 ≤ ((-1) * s1 + 1718775661)) (f1 : 0 ≤ (s1 - 1718775661)) (hG : gI M) : (0 ≤ ((-1) * s0 + 6) ∧ 0 ≤ (s0 - 6) ∧ True) := by
  obtain ⟨k, w1, w2, w3⟩ := Eq.mp hp_140 m0
  have hk : k = 6 := (by decide : ∀ k, k < 24 → qwn k = 1718775661 → k = 6) k w1 (by omega)
  exact ⟨by omega, by omega, trivial⟩
theorem rul_540 : Rul r_540 := by
  refine ⟨fun _ ρ M hm hB hF hG => ?_, fun gi gv hg => (by cases hg)⟩
  have H := cr_540 M (ρ 0) (ρ 1) (hB _ List.mem_cons_self) (hB _ (List.mem_cons_of_mem _ List.mem_cons_self)) (cvp 140 (x' := ((ρ 0))) (y' := ((ρ 1))) (by show 0 + (1 * ρ 0 + 0) = _; omega) (by show 0 + (1 * ρ 1 + 0) = _; omega) (hm _ List.mem_cons_self)) (by have h := hF _ List.mem_cons_self; have h : 0 ≤ 1718775661 + ((-1) * ρ 1 + 0) := h; omega) (by have h := hF _ (List.mem_cons_of_mem _ List.mem_cons_self); have h : 0 ≤ (-1718775661) + (1 * ρ 1 + 0) := h; omega) hG
  obtain ⟨f0, f1, -⟩ := H
  exact ⟨_, List.mem_cons_self, ρ, fun _ _ => rfl, okM_n, okB_n, (okF_c (by show 0 ≤ 6 + ((-1) * ρ 0 + 0); omega) (okF_c (by show 0 ≤ (-6) + (1 * ρ 0 + 0); omega) okF_n))⟩
-- wkq7
theorem cr_541 (M : pM) (s0 s1 : Int) (b0 : 0 ≤ s0 ∧ s0 ≤ 23) (b1 : 0 ≤ s1 ∧ s1 ≤ 9223372036854775807) (m0 : HP 140 (s0) (s1) M) (f0 : 0 ≤ ((-1) * s1 + 29807)) (f1 : 0 ≤ (s1 - 29807)) (hG : gI M) : (0 ≤ ((-1) * s0 + 7) ∧ 0 ≤ (s0 - 7) ∧ True) := by
  obtain ⟨k, w1, w2, w3⟩ := Eq.mp hp_140 m0
  have hk : k = 7 := (by decide : ∀ k, k < 24 → qwn k = 29807 → k = 7) k w1 (by omega)
  exact ⟨by omega, by omega, trivial⟩
theorem rul_541 : Rul r_541 := by
  refine ⟨fun _ ρ M hm hB hF hG => ?_, fun gi gv hg => (by cases hg)⟩
  have H := cr_541 M (ρ 0) (ρ 1) (hB _ List.mem_cons_self) (hB _ (List.mem_cons_of_mem _ List.mem_cons_self)) (cvp 140 (x' := ((ρ 0))) (y' := ((ρ 1))) (by show 0 + (1 * ρ 0 + 0) = _; omega) (by show 0 + (1 * ρ 1 + 0) = _; omega) (hm _ List.mem_cons_self)) (by have h := hF _ List.mem_cons_self; have h : 0 ≤ 29807 + ((-1) * ρ 1 + 0) := h; omega) (by have h := hF _ (List.mem_cons_of_mem _ List.mem_cons_self); have h : 0 ≤ (-29807) + (1 * ρ 1 + 0) := h; omega) hG
  obtain ⟨f0, f1, -⟩ := H
  exact ⟨_, List.mem_cons_self, ρ, fun _ _ => rfl, okM_n, okB_n, (okF_c (by show 0 ≤ 7 + ((-1) * ρ 0 + 0); omega) (okF_c (by show 0 ≤ (-7) + (1 * ρ 0 + 0); omega) okF_n))⟩
-- wkq8
theorem cr_542 (M : pM) (s0 s1 : Int) (b0 : 0 ≤ s0 ∧ s0 ≤ 23) (b1 : 0 ≤ s1 ∧ s1 ≤ 9223372036854775807) (m0 : HP 140 (s0) (s1) M) (f0 : 0 ≤ ((-1) * s1 + 439854918756)) (f1 : 0 ≤ (s1 - 439854918756)) (hG : gI M) : (0 ≤ ((-1) * s0 + 8) ∧ 0 ≤ (s0 - 8) ∧ True) := by
  obtain ⟨k, w1, w2, w3⟩ := Eq.mp hp_140 m0
  have hk : k = 8 := (by decide : ∀ k, k < 24 → qwn k = 439854918756 → k = 8) k w1 (by omega)
  exact ⟨by omega, by omega, trivial⟩
theorem rul_542 : Rul r_542 := by
  refine ⟨fun _ ρ M hm hB hF hG => ?_, fun gi gv hg => (by cases hg)⟩
  have H := cr_542 M (ρ 0) (ρ 1) (hB _ List.mem_cons_self) (hB _ (List.mem_cons_of_mem _ List.mem_cons_self)) (cvp 140 (x' := ((ρ 0))) (y' := ((ρ 1))) (by show 0 + (1 * ρ 0 + 0) = _; omega) (by show 0 + (1 * ρ 1 + 0) = _; omega) (hm _ List.mem_cons_self)) (by have h := hF _ List.mem_cons_self; have h : 0 ≤ 439854918756 + ((-1) * ρ 1 + 0) := h; omega) (by have h := hF _ (List.mem_cons_of_mem _ List.mem_cons_self); have h : 0 ≤ (-439854918756) + (1 * ρ 1 + 0) := h; omega) hG
  obtain ⟨f0, f1, -⟩ := H
  exact ⟨_, List.mem_cons_self, ρ, fun _ _ => rfl, okM_n, okB_n, (okF_c (by show 0 ≤ 8 + ((-1) * ρ 0 + 0); omega) (okF_c (by show 0 ≤ (-8) + (1 * ρ 0 + 0); omega) okF_n))⟩
-- wkq9
theorem cr_543 (M : pM) (s0 s1 : Int) (b0 : 0 ≤ s0 ∧ s0 ≤ 23) (b1 : 0 ≤ s1 ∧ s1 ≤ 9223372036854775807) (m0 : HP 140 (s0) (s1) M) (f0 : 0 ≤ ((-1) * s1 + 1919902052)) (f1 : 0 ≤ (s1 - 1919902052)) (hG : gI M) : (0 ≤ ((-1) * s0 + 9) ∧ 0 ≤ (s0 - 9) ∧ True) := by
  obtain ⟨k, w1, w2, w3⟩ := Eq.mp hp_140 m0
  have hk : k = 9 := (by decide : ∀ k, k < 24 → qwn k = 1919902052 → k = 9) k w1 (by omega)
  exact ⟨by omega, by omega, trivial⟩
theorem rul_543 : Rul r_543 := by
  refine ⟨fun _ ρ M hm hB hF hG => ?_, fun gi gv hg => (by cases hg)⟩
  have H := cr_543 M (ρ 0) (ρ 1) (hB _ List.mem_cons_self) (hB _ (List.mem_cons_of_mem _ List.mem_cons_self)) (cvp 140 (x' := ((ρ 0))) (y' := ((ρ 1))) (by show 0 + (1 * ρ 0 + 0) = _; omega) (by show 0 + (1 * ρ 1 + 0) = _; omega) (hm _ List.mem_cons_self)) (by have h := hF _ List.mem_cons_self; have h : 0 ≤ 1919902052 + ((-1) * ρ 1 + 0) := h; omega) (by have h := hF _ (List.mem_cons_of_mem _ List.mem_cons_self); have h : 0 ≤ (-1919902052) + (1 * ρ 1 + 0) := h; omega) hG
  obtain ⟨f0, f1, -⟩ := H
  exact ⟨_, List.mem_cons_self, ρ, fun _ _ => rfl, okM_n, okB_n, (okF_c (by show 0 ≤ 9 + ((-1) * ρ 0 + 0); omega) (okF_c (by show 0 ≤ (-9) + (1 * ρ 0 + 0); omega) okF_n))⟩
-- wkq10
theorem cr_544 (M : pM) (s0 s1 : Int) (b0 : 0 ≤ s0 ∧ s0 ≤ 23) (b1 : 0 ≤ s1 ∧ s1 ≤ 9223372036854775807) (m0 : HP 140 (s0) (s1) M) (f0 : 0 ≤ ((-1) * s1 + 113715322316146)) (f1 : 0 ≤ (s1 - 113715322316146)) (hG : gI M) : (0 ≤ ((-1) * s0 + 10) ∧ 0 ≤ (s0 - 10) ∧ True) := by
  obtain ⟨k, w1, w2, w3⟩ := Eq.mp hp_140 m0
  have hk : k = 10 := (by decide : ∀ k, k < 24 → qwn k = 113715322316146 → k = 10) k w1 (by omega)
  exact ⟨by omega, by omega, trivial⟩
theorem rul_544 : Rul r_544 := by
  refine ⟨fun _ ρ M hm hB hF hG => ?_, fun gi gv hg => (by cases hg)⟩
  have H := cr_544 M (ρ 0) (ρ 1) (hB _ List.mem_cons_self) (hB _ (List.mem_cons_of_mem _ List.mem_cons_self)) (cvp 140 (x' := ((ρ 0))) (y' := ((ρ 1))) (by show 0 + (1 * ρ 0 + 0) = _; omega) (by show 0 + (1 * ρ 1 + 0) = _; omega) (hm _ List.mem_cons_self)) (by have h := hF _ List.mem_cons_self; have h : 0 ≤ 113715322316146 + ((-1) * ρ 1 + 0) := h; omega) (by have h := hF _ (List.mem_cons_of_mem _ List.mem_cons_self); have h : 0 ≤ (-113715322316146) + (1 * ρ 1 + 0) := h; omega) hG
  obtain ⟨f0, f1, -⟩ := H
  exact ⟨_, List.mem_cons_self, ρ, fun _ _ => rfl, okM_n, okB_n, (okF_c (by show 0 ≤ 10 + ((-1) * ρ 0 + 0); omega) (okF_c (by show 0 ≤ (-10) + (1 * ρ 0 + 0); omega) okF_n))⟩
-- wkq11
theorem cr_545 (M : pM) (s0 s1 : Int) (b0 : 0 ≤ s0 ∧ s0 ≤ 23) (b1 : 0 ≤ s1 ∧ s1 ≤ 9223372036854775807) (m0 : HP 140 (s0) (s1) M) (f0 : 0 ≤ ((-1) * s1 + 1936289387)) (f1 : 0 ≤ (s1 - 1936289387)) (hG : gI M) : (0 ≤ ((-1) * s0 + 11) ∧ 0 ≤ (s0 - 11) ∧ True) := by
  obtain ⟨k, w1, w2, w3⟩ := Eq.mp hp_140 m0
  have hk : k = 11 := (by decide : ∀ k, k < 24 → qwn k = 1936289387 → k = 11) k w1 (by omega)
  exact ⟨by omega, by omega, trivial⟩
theorem rul_545 : Rul r_545 := by
  refine ⟨fun _ ρ M hm hB hF hG => ?_, fun gi gv hg => (by cases hg)⟩
  have H := cr_545 M (ρ 0) (ρ 1) (hB _ List.mem_cons_self) (hB _ (List.mem_cons_of_mem _ List.mem_cons_self)) (cvp 140 (x' := ((ρ 0))) (y' := ((ρ 1))) (by show 0 + (1 * ρ 0 + 0) = _; omega) (by show 0 + (1 * ρ 1 + 0) = _; omega) (hm _ List.mem_cons_self)) (by have h := hF _ List.mem_cons_self; have h : 0 ≤ 1936289387 + ((-1) * ρ 1 + 0) := h; omega) (by have h := hF _ (List.mem_cons_of_mem _ List.mem_cons_self); have h : 0 ≤ (-1936289387) + (1 * ρ 1 + 0) := h; omega) hG
  obtain ⟨f0, f1, -⟩ := H
  exact ⟨_, List.mem_cons_self, ρ, fun _ _ => rfl, okM_n, okB_n, (okF_c (by show 0 ≤ 11 + ((-1) * ρ 0 + 0); omega) (okF_c (by show 0 ≤ (-11) + (1 * ρ 0 + 0); omega) okF_n))⟩
-- wkq12
theorem cr_546 (M : pM) (s0 s1 : Int) (b0 : 0 ≤ s0 ∧ s0 ≤ 23) (b1 : 0 ≤ s1 ∧ s1 ≤ 9223372036854775807) (m0 : HP 140 (s0) (s1) M) (f0 : 0 ≤ ((-1) * s1 + 7521414230229344624)) (f1 : 0 ≤ (s1 - 7521414230229344624)) (hG : gI M) : (0 ≤ ((-1) * s0 + 12) ∧ 0 ≤ (s0 - 12) ∧ True) := by
  obtain ⟨k, w1, w2, w3⟩ := Eq.mp hp_140 m0
  have hk : k = 12 := (by decide : ∀ k, k < 24 → qwn k = 7521414230229344624 → k = 12) k w1 (by omega)
  exact ⟨by omega, by omega, trivial⟩
theorem rul_546 : Rul r_546 := by
  refine ⟨fun _ ρ M hm hB hF hG => ?_, fun gi gv hg => (by cases hg)⟩
  have H := cr_546 M (ρ 0) (ρ 1) (hB _ List.mem_cons_self) (hB _ (List.mem_cons_of_mem _ List.mem_cons_self)) (cvp 140 (x' := ((ρ 0))) (y' := ((ρ 1))) (by show 0 + (1 * ρ 0 + 0) = _; omega) (by show 0 + (1 * ρ 1 + 0) = _; omega) (hm _ List.mem_cons_self)) (by have h := hF _ List.mem_cons_self; have h : 0 ≤ 7521414230229344624 + ((-1) * ρ 1 + 0) := h; omega) (by have h := hF _ (List.mem_cons_of_mem _ List.mem_cons_self); have h : 0 ≤ (-7521414230229344624) + (1 * ρ 1 + 0) := h; omega) hG
  obtain ⟨f0, f1, -⟩ := H
  exact ⟨_, List.mem_cons_self, ρ, fun _ _ => rfl, okM_n, okB_n, (okF_c (by show 0 ≤ 12 + ((-1) * ρ 0 + 0); omega) (okF_c (by show 0 ≤ (-12) + (1 * ρ 0 + 0); omega) okF_n))⟩
-- grc
theorem cr_547 (M : pM) (s0 s1 s2 : Int) (b0 : 0 ≤ s0 ∧ s0 ≤ 1900) (b1 : 0 ≤ s1 ∧ s1 ≤ 7) (b2 : 0 ≤ s2 ∧ s2 ≤ 255) (m0 : HP 80 (16 * s0 + 8) (0 : Int) M) (m1 : (0 ≤ (s0 + s1) ∧ M 1 (s0 + s1).toNat = (s2))) (hG : gI M) : (0 ≤ (s2 - 97) ∧ 0 ≤ ((-1) * s2 + 104) ∧ True) := by
  have hh := gr_o (s := s0.toNat) (k := 8) (Eq.mp hp_80 m0) ⟨by omega, by decide⟩ s1.toNat (by omega)
  rw [show s0.toNat + s1.toNat = (s0 + s1).toNat by omega] at hh
  have hr := rd1 m1 (by omega)
  have hh : 97 ≤ s2 ∧ s2 ≤ 104 := by first | (rw [hr] at hh; exact hh) | (rw [show (s0 + s1).toNat = (s1 + s0).toNat by omega, hr] at hh; exact hh)
  exact ⟨by omega, by omega, trivial⟩
theorem rul_547 : Rul r_547 := by
  refine ⟨fun _ ρ M hm hB hF hG => ?_, fun gi gv hg => (by cases hg)⟩
  have H := cr_547 M (ρ 0) (ρ 1) (ρ 2) (hB _ List.mem_cons_self) (hB _ (List.mem_cons_of_mem _ List.mem_cons_self)) (hB _ (List.mem_cons_of_mem _ (List.mem_cons_of_mem _ List.mem_cons_self))) (cvp 80 (x' := (16 * (ρ 0) + 8)) (y' := (0 : Int)) (by show 8 + (16 * ρ 0 + 0) = _; omega) (by show 0 + 0 = _; omega) (hm _ List.mem_cons_self)) (cvm (c := 1) (by decide) (x' := ((ρ 0) + (ρ 1))) (y' := ((ρ 2))) (by show 0 + (1 * ρ 0 + (1 * ρ 1 + 0)) = _; omega) (by show 0 + (1 * ρ 2 + 0) = _; omega) (hm _ (List.mem_cons_of_mem _ List.mem_cons_self))) hG
  obtain ⟨f0, f1, -⟩ := H
  exact ⟨_, List.mem_cons_self, ρ, fun _ _ => rfl, okM_n, okB_n, (okF_c (by show 0 ≤ (-97) + (1 * ρ 2 + 0); omega) (okF_c (by show 0 ≤ 104 + ((-1) * ρ 2 + 0); omega) okF_n))⟩
-- ti1
theorem cr_548 (M : pM) (s0 s1 s2 : Int) (b0 : 0 ≤ s0 ∧ s0 ≤ 1900) (b1 : 0 ≤ s1 ∧ s1 ≤ 950) (b2 : 0 ≤ s2 ∧ s2 ≤ 1900) (m0 : HP 53 (4096 * s0 + s1) (256 * s2 + 161) M) (hG : gI M) : (HP 157 (16 * s0 + 1) (s2) M ∧ True) := by
  obtain ⟨s, h1, h2⟩ := ex_o (K := 10) (j := 0) (a := s2) (Eq.mp hp_53 m0) ⟨by omega, by omega, by decide, by decide⟩
  exact ⟨Eq.mpr hp_157 ⟨s.1, 1, by decide, by have := qat_p (P := s0) (l := s1) h1 ⟨by omega, by omega, by omega⟩; omega, h2.2.2.2.2⟩, trivial⟩
theorem rul_548 : Rul r_548 := by
  refine ⟨fun _ ρ M hm hB hF hG => ?_, fun gi gv hg => (by cases hg)⟩
  have H := cr_548 M (ρ 0) (ρ 1) (ρ 2) (hB _ List.mem_cons_self) (hB _ (List.mem_cons_of_mem _ List.mem_cons_self)) (hB _ (List.mem_cons_of_mem _ (List.mem_cons_of_mem _ List.mem_cons_self))) (cvp 53 (x' := (4096 * (ρ 0) + (ρ 1))) (y' := (256 * (ρ 2) + 161)) (by show 0 + (4096 * ρ 0 + (1 * ρ 1 + 0)) = _; omega) (by show 161 + (256 * ρ 2 + 0) = _; omega) (hm _ List.mem_cons_self)) hG
  obtain ⟨k0, -⟩ := H
  exact ⟨_, List.mem_cons_self, ρ, fun _ _ => rfl, (okM_c (pvp 157 (by show 1 + (16 * ρ 0 + 0) = _; omega) (by show 0 + (1 * ρ 2 + 0) = _; omega) k0) okM_n), okB_n, okF_n⟩
-- ti2
theorem cr_549 (M : pM) (s0 s1 s2 : Int) (b0 : 0 ≤ s0 ∧ s0 ≤ 1900) (b1 : 0 ≤ s1 ∧ s1 ≤ 950) (b2 : 0 ≤ s2 ∧ s2 ≤ 1900) (m0 : HP 53 (4096 * s0 + s1) (256 * s2 + 2) M) (hG : gI M) : (HP 157 (16 * s0 + 2) (s2) M ∧ True) := by
  obtain ⟨s, h1, h2⟩ := ex_o (K := 0) (j := 1) (a := s2) (Eq.mp hp_53 m0) ⟨by omega, by omega, by decide, by decide⟩
  exact ⟨Eq.mpr hp_157 ⟨s.1, 2, by decide, by have := qat_p (P := s0) (l := s1) h1 ⟨by omega, by omega, by omega⟩; omega, h2.2.2.2.2⟩, trivial⟩
theorem rul_549 : Rul r_549 := by
  refine ⟨fun _ ρ M hm hB hF hG => ?_, fun gi gv hg => (by cases hg)⟩
  have H := cr_549 M (ρ 0) (ρ 1) (ρ 2) (hB _ List.mem_cons_self) (hB _ (List.mem_cons_of_mem _ List.mem_cons_self)) (hB _ (List.mem_cons_of_mem _ (List.mem_cons_of_mem _ List.mem_cons_self))) (cvp 53 (x' := (4096 * (ρ 0) + (ρ 1))) (y' := (256 * (ρ 2) + 2)) (by show 0 + (4096 * ρ 0 + (1 * ρ 1 + 0)) = _; omega) (by show 2 + (256 * ρ 2 + 0) = _; omega) (hm _ List.mem_cons_self)) hG
  obtain ⟨k0, -⟩ := H
  exact ⟨_, List.mem_cons_self, ρ, fun _ _ => rfl, (okM_c (pvp 157 (by show 2 + (16 * ρ 0 + 0) = _; omega) (by show 0 + (1 * ρ 2 + 0) = _; omega) k0) okM_n), okB_n, okF_n⟩
-- rt0_0_0
theorem cr_550 (M : pM) (s0 s1 s2 s3 s4 s5 s6 s7 s8 : Int) (b0 : 0 ≤ s0 ∧ s0 ≤ 1900) (b1 : 0 ≤ s1 ∧ s1 ≤ 950) (b2 : 0 ≤ s2 ∧ s2 ≤ 1900) (b3 : 0 ≤ s3 ∧ s3 ≤ 1900) (b4 : 0 ≤ s4 ∧ s4 ≤ 12) (b5 : 0 ≤ s5 ∧ s5 ≤ 20) (b6 : 0 ≤ s6 ∧ s6 ≤ 4) (b7 : 0 ≤ s7 ∧ s7 ≤ 7) (b8 : 0 ≤ s8 ∧ s8 ≤ 0) (m0 : HP 60 (4096 * s0 + s1) (s4 + 32 * s5 + 1024 * s6) M) (m1 : HP 53 (4096 * s0 + s1) (256 * s2 + 1) M) (m2 : HP 47 (s2) (s7 + 393216) M) (m3 : HP 46 (s2) (s3) M) (m4 : (0 ≤ (s7) ∧ M 84 (s7).toNat = (s8))) (hG : gI M) : (HP 53 (4096 * s0 + s1) (256 * s3 + 2) M ∧ HP 79 (16 * s0 + 1) (s7) M ∧ True) := by
  obtain ⟨S, hS, hw, ha⟩ := Eq.mp hp_60 m0
  have hr : M 84 s7.toNat = S.2 15 s7.toNat := ha.2.2.2.2.2.2.2.2.2.2.1 s7.toNat (by omega)
  rw [m4.2] at hr
  have hc : ∀ s : Nat × pM, qat (tm M) (4096 * s0 + s1) s → tK (tm M) (qps (tm M) s.1 1) = (s7 + 393216) → qck (tm M) s.1 s.2 0 1 = none := by
    intro s hs e
    have es := qat_u hS hs
    have ev : qvl (tm M) s.1 1 = s7 := by unfold qvl; omega
    show qcN 0 7 (qtd (s.2 15 (qvl (tm M) s.1 1).toNat)) (tK (tm M) (qps (tm M) s.1 1)) = _
    rw [e, qcN_x (by omega) (by omega), ev, es]
    exact qtd_0 (by omega)
  exact ⟨r_ex (K := 0) (j := 0) m1 m2 m3 ⟨by omega, by omega, by decide⟩ (by omega) (by decide) (fun s hs hE e => hc s hs e), r_va (P := s0) (l := s1) (K := 0) (j := 0) m1 m2 ⟨by omega, by omega, by omega⟩ ⟨by omega, by omega, by decide⟩ (by omega) (by omega), trivial⟩
theorem rul_550 : Rul r_550 := by
  refine ⟨fun _ ρ M hm hB hF hG => ?_, fun gi gv hg => (by cases hg)⟩
  have H := cr_550 M (ρ 0) (ρ 1) (ρ 2) (ρ 3) (ρ 4) (ρ 5) (ρ 6) (ρ 7) (ρ 8) (hB _ List.mem_cons_self) (hB _ (List.mem_cons_of_mem _ List.mem_cons_self)) (hB _ (List.mem_cons_of_mem _ (List.mem_cons_of_mem _ List.mem_cons_self))) (hB _ (List.mem_cons_of_mem _ (List.mem_cons_of_mem _ (List.mem_cons_of_mem _ List.mem_cons_self)))) (hB _ (List.mem_cons_of_mem _ (List.mem_cons_of_mem _ (List.mem_cons_of_mem _ (List.mem_cons_of_mem _ List.mem_cons_self))))) (hB _ (List.mem_cons_of_mem _ (List.mem_cons_of_mem _ (List.mem_cons_of_mem _ (List.mem_cons_of_mem _ (List.mem_cons_of_mem _ List.mem_cons_self)))))) (hB _ (List.mem_cons_of_mem _ (List.mem_cons_of_mem _ (List.mem_cons_of_mem _ (List.mem_cons_of_mem _ (List.mem_cons_of_mem _ (List.mem_cons_of_mem _ List.mem_cons_self))))))) (hB _ (List.mem_cons_of_mem _ (List.mem_cons_of_mem _ (List.mem_cons_of_mem _ (List.mem_cons_of_mem _ (List.mem_cons_of_mem _ (List.mem_cons_of_mem _ (List.mem_cons_of_mem _ List.mem_cons_self)))))))) (hB _ (List.mem_cons_of_mem _ (List.mem_cons_of_mem _ (List.mem_cons_of_mem _ (List.mem_cons_of_mem _ (List.mem_cons_of_mem _ (List.mem_cons_of_mem _ (List.mem_cons_of_mem _ (List.mem_cons_of_mem _ List.mem_cons_self))))))))) (cvp 60 (x' := (4096 * (ρ 0) + (ρ 1))) (y' := ((ρ 4) + 32 * (ρ 5) + 1024 * (ρ 6))) (by show 0 + (4096 * ρ 0 + (1 * ρ 1 + 0)) = _; omega) (by show 0 + (1 * ρ 4 + (32 * ρ 5 + (1024 * ρ 6 + 0))) = _; omega) (hm _ List.mem_cons_self)) (cvp 53 (x' := (4096 * (ρ 0) + (ρ 1))) (y' := (256 * (ρ 2) + 1)) (by show 0 + (4096 * ρ 0 + (1 * ρ 1 + 0)) = _; omega) (by show 1 + (256 * ρ 2 + 0) = _; omega) (hm _ (List.mem_cons_of_mem _ List.mem_cons_self))) (cvp 47 (x' := ((ρ 2))) (y' := ((ρ 7) + 393216)) (by show 0 + (1 * ρ 2 + 0) = _; omega) (by show 393216 + (1 * ρ 7 + 0) = _; omega) (hm _ (List.mem_cons_of_mem _ (List.mem_cons_of_mem _ List.mem_cons_self)))) (cvp 46 (x' := ((ρ 2))) (y' := ((ρ 3))) (by show 0 + (1 * ρ 2 + 0) = _; omega) (by show 0 + (1 * ρ 3 + 0) = _; omega) (hm _ (List.mem_cons_of_mem _ (List.mem_cons_of_mem _ (List.mem_cons_of_mem _ List.mem_cons_self))))) (cvm (c := 84) (by decide) (x' := ((ρ 7))) (y' := ((ρ 8))) (by show 0 + (1 * ρ 7 + 0) = _; omega) (by show 0 + (1 * ρ 8 + 0) = _; omega) (hm _ (List.mem_cons_of_mem _ (List.mem_cons_of_mem _ (List.mem_cons_of_mem _ (List.mem_cons_of_mem _ List.mem_cons_self)))))) hG
  obtain ⟨k0, k1, -⟩ := H
  exact ⟨_, List.mem_cons_self, ρ, fun _ _ => rfl, (okM_c (pvp 53 (by show 0 + (4096 * ρ 0 + (1 * ρ 1 + 0)) = _; omega) (by show 2 + (256 * ρ 3 + 0) = _; omega) k0) (okM_c (pvp 79 (by show 1 + (16 * ρ 0 + 0) = _; omega) (by show 0 + (1 * ρ 7 + 0) = _; omega) k1) okM_n)), okB_n, okF_n⟩
-- rt1_0_0
theorem cr_551 (M : pM) (s0 s1 s2 s3 s4 s5 s6 s7 s8 s9 s10 : Int) (b0 : 0 ≤ s0 ∧ s0 ≤ 1900) (b1 : 0 ≤ s1 ∧ s1 ≤ 950) (b2 : 0 ≤ s2 ∧ s2 ≤ 1900) (b3 : 0 ≤ s3 ∧ s3 ≤ 1900) (b4 : 0 ≤ s4 ∧ s4 ≤ 12) (b5 : 0 ≤ s5 ∧ s5 ≤ 20) (b6 : 0 ≤ s6 ∧ s6 ≤ 4) (b7 : 0 ≤ s7 ∧ s7 ≤ 7) (b8 : 0 ≤ s8 ∧ s8 ≤ 0) (b9 : 262143 ≤ s9 ∧ s9 ≤ 262168) (b10 : 0 ≤ s10 ∧ s10 ≤ 1900) (m0 : HP 60 (4096 * s0 + s1) (s4 + 32 * s5 + 1024 * s6) M) (m1 : HP 53 (4096 * s0 + s1) (256 * s2 + 17) M) (m2 : HP 47 (s2) (s9) M) (m3 : HP 45 (s2) (s3) M) (m4 : HP 46 (s2) (s10) M) (m5 : (0 ≤ (s3) ∧ M 1 (s3).toNat = (s7 + 97))) (m6 : (0 ≤ (s7) ∧ M 85 (s7).toNat = (s8))) (f0 : 0 ≤ (s3 + (-1) * s10 + 1)) (f1 : 0 ≤ ((-1) * s3 + s10 - 1)) (hG : gI M) : (HP 53 (4096 * s0 + s1) (256 * s10 + 18) M ∧ HP 87 (s0) (s7) M ∧ True) := by
  obtain ⟨S, hS, hw, hA⟩ := Eq.mp hp_60 m0
  have hf : M 85 s7.toNat = S.2 16 s7.toNat := hA.2.2.2.2.2.2.2.2.2.2.2.1 s7.toNat (by omega)
  rw [m6.2] at hf
  obtain ⟨S2, hS2, hE2⟩ := ex_o (K := 1) (j := 0) (a := s2) (Eq.mp hp_53 m1) ⟨by omega, by omega, by decide, by decide⟩
  have ha2 : s2 = (qps (tm M) S2.1 1 : Int) := hE2.2.2.2.2
  have ha : qps (tm M) S2.1 1 = s2.toNat := by omega
  have g1 := (q45 m3).2
  have g2 := (q46 m4).2
  have hr := rd1 m5 (by omega)
  have hl : qlt (tm M) S2.1 1 0 = 97 + s7 := by unfold qlt; rw [ha, show tS (tm M) s2.toNat + 0 = s3.toNat by omega, hr]; omega
  have hc : ∀ s : Nat × pM, qat (tm M) (4096 * s0 + s1) s → tK (tm M) (qps (tm M) s.1 1) = s9 → qck (tm M) s.1 s.2 1 1 = none := by
    intro s hs e
    have es := qat_u hS hs
    have e2 := qat_u hS2 hs
    subst e2
    show qcW (if qsz (tm M) s.1 1 = 1 ∧ qgr (tm M) (tS (tm M) (qps (tm M) s.1 1)) 1 = true then qtd (s.2 16 (qlt (tm M) s.1 1 0 - 97).toNat) else some 4) (tK (tm M) (qps (tm M) s.1 1)) = _
    rw [e, qcW_x (by omega), if_pos ⟨by unfold qsz; rw [ha]; omega, qgr_i (fun i hi => by rw [ha, show tS (tm M) s2.toNat + i = s3.toNat by omega, hr]; omega)⟩, hl, show (97 + s7 - 97).toNat = s7.toNat by omega, es]
    exact qtd_0 (by omega)
  exact ⟨r_ex (K := 1) (j := 0) m1 m2 m4 ⟨by omega, by omega, by decide⟩ (by omega) (by decide) (fun s hs hE e => hc s hs e), Eq.mpr hp_87 ⟨by omega, by rw [show s0.toNat = S2.1 by have := qat_p (P := s0) (l := s1) hS2 ⟨by omega, by omega, by omega⟩; omega]; exact hl⟩, trivial⟩
theorem rul_551 : Rul r_551 := by
  refine ⟨fun _ ρ M hm hB hF hG => ?_, fun gi gv hg => (by cases hg)⟩
  have H := cr_551 M (ρ 0) (ρ 1) (ρ 2) (ρ 3) (ρ 4) (ρ 5) (ρ 6) (ρ 7) (ρ 8) (ρ 9) (ρ 10) (hB _ List.mem_cons_self) (hB _ (List.mem_cons_of_mem _ List.mem_cons_self)) (hB _ (List.mem_cons_of_mem _ (List.mem_cons_of_mem _ List.mem_cons_self))) (hB _ (List.mem_cons_of_mem _ (List.mem_cons_of_mem _ (List.mem_cons_of_mem _ List.mem_cons_self)))) (hB _ (List.mem_cons_of_mem _ (List.mem_cons_of_mem _ (List.mem_cons_of_mem _ (List.mem_cons_of_mem _ List.mem_cons_self))))) (hB _ (List.mem_cons_of_mem _ (List.mem_cons_of_mem _ (List.mem_cons_of_mem _ (List.mem_cons_of_mem _ (List.mem_cons_of_mem _ List.mem_cons_self)))))) (hB _ (List.mem_cons_of_mem _ (List.mem_cons_of_mem _ (List.mem_cons_of_mem _ (List.mem_cons_of_mem _ (List.mem_cons_of_mem _ (List.mem_cons_of_mem _ List.mem_cons_self))))))) (hB _ (List.mem_cons_of_mem _ (List.mem_cons_of_mem _ (List.mem_cons_of_mem _ (List.mem_cons_of_mem _ (List.mem_cons_of_mem _ (List.mem_cons_of_mem _ (List.mem_cons_of_mem _ List.mem_cons_self)))))))) (hB _ (List.mem_cons_of_mem _ (List.mem_cons_of_mem _ (List.mem_cons_of_mem _ (List.mem_cons_of_mem _ (List.mem_cons_of_mem _ (List.mem_cons_of_mem _ (List.mem_cons_of_mem _ (List.mem_cons_of_mem _ List.mem_cons_self))))))))) (hB _ (List.mem_cons_of_mem _ (List.mem_cons_of_mem _ (List.mem_cons_of_mem _ (List.mem_cons_of_mem _ (List.mem_cons_of_mem _ (List.mem_cons_of_mem _ (List.mem_cons_of_mem _ (List.mem_cons_of_mem _ (List.mem_cons_of_mem _ List.mem_cons_self)))))))))) (hB _ (List.mem_cons_of_mem _ (List.mem_cons_of_mem _ (List.mem_cons_of_mem _ (List.mem_cons_of_mem _ (List.mem_cons_of_mem _ (List.mem_cons_of_mem _ (List.mem_cons_of_mem _ (List.mem_cons_of_mem _ (List.mem_cons_of_mem _ (List.mem_cons_of_mem _ List.mem_cons_self))))))))))) (cvp 60 (x' := (4096 * (ρ 0) + (ρ 1))) (y' := ((ρ 4) + 32 * (ρ 5) + 1024 * (ρ 6))) (by show 0 + (4096 * ρ 0 + (1 * ρ 1 + 0)) = _; omega) (by show 0 + (1 * ρ 4 + (32 * ρ 5 + (1024 * ρ 6 + 0))) = _; omega) (hm _ List.mem_cons_self)) (cvp 53 (x' := (4096 * (ρ 0) + (ρ 1))) (y' := (256 * (ρ 2) + 17)) (by show 0 + (4096 * ρ 0 + (1 * ρ 1 + 0)) = _; omega) (by show 17 + (256 * ρ 2 + 0) = _; omega) (hm _ (List.mem_cons_of_mem _ List.mem_cons_self))) (cvp 47 (x' := ((ρ 2))) (y' := ((ρ 9))) (by show 0 + (1 * ρ 2 + 0) = _; omega) (by show 0 + (1 * ρ 9 + 0) = _; omega) (hm _ (List.mem_cons_of_mem _ (List.mem_cons_of_mem _ List.mem_cons_self)))) (cvp 45 (x' := ((ρ 2))) (y' := ((ρ 3))) (by show 0 + (1 * ρ 2 + 0) = _; omega) (by show 0 + (1 * ρ 3 + 0) = _; omega) (hm _ (List.mem_cons_of_mem _ (List.mem_cons_of_mem _ (List.mem_cons_of_mem _ List.mem_cons_self))))) (cvp 46 (x' := ((ρ 2))) (y' := ((ρ 10))) (by show 0 + (1 * ρ 2 + 0) = _; omega) (by show 0 + (1 * ρ 10 + 0) = _; omega) (hm _ (List.mem_cons_of_mem _ (List.mem_cons_of_mem _ (List.mem_cons_of_mem _ (List.mem_cons_of_mem _ List.mem_cons_self)))))) (cvm (c := 1) (by decide) (x' := ((ρ 3))) (y' := ((ρ 7) + 97)) (by show 0 + (1 * ρ 3 + 0) = _; omega) (by show 97 + (1 * ρ 7 + 0) = _; omega) (hm _ (List.mem_cons_of_mem _ (List.mem_cons_of_mem _ (List.mem_cons_of_mem _ (List.mem_cons_of_mem _ (List.mem_cons_of_mem _ List.mem_cons_self))))))) (cvm (c := 85) (by decide) (x' := ((ρ 7))) (y' := ((ρ 8))) (by show 0 + (1 * ρ 7 + 0) = _; omega) (by show 0 + (1 * ρ 8 + 0) = _; omega) (hm _ (List.mem_cons_of_mem _ (List.mem_cons_of_mem _ (List.mem_cons_of_mem _ (List.mem_cons_of_mem _ (List.mem_cons_of_mem _ (List.mem_cons_of_mem _ List.mem_cons_self)))))))) (by have h := hF _ List.mem_cons_self; have h : 0 ≤ 1 + (1 * ρ 3 + ((-1) * ρ 10 + 0)) := h; omega) (by have h := hF _ (List.mem_cons_of_mem _ List.mem_cons_self); have h : 0 ≤ (-1) + ((-1) * ρ 3 + (1 * ρ 10 + 0)) := h; omega) hG
  obtain ⟨k0, k1, -⟩ := H
  exact ⟨_, List.mem_cons_self, ρ, fun _ _ => rfl, (okM_c (pvp 53 (by show 0 + (4096 * ρ 0 + (1 * ρ 1 + 0)) = _; omega) (by show 18 + (256 * ρ 10 + 0) = _; omega) k0) (okM_c (pvp 87 (by show 0 + (1 * ρ 0 + 0) = _; omega) (by show 0 + (1 * ρ 7 + 0) = _; omega) k1) okM_n)), okB_n, okF_n⟩
-- rt2_0_0
theorem cr_552 (M : pM) (s0 s1 s2 s3 s4 s5 s6 s7 s8 : Int) (b0 : 0 ≤ s0 ∧ s0 ≤ 1900) (b1 : 0 ≤ s1 ∧ s1 ≤ 950) (b2 : 0 ≤ s2 ∧ s2 ≤ 1900) (b3 : 0 ≤ s3 ∧ s3 ≤ 1900) (b4 : 0 ≤ s4 ∧ s4 ≤ 12) (b5 : 0 ≤ s5 ∧ s5 ≤ 20) (b6 : 0 ≤ s6 ∧ s6 ≤ 4) (b7 : 0 ≤ s7 ∧ s7 ≤ 5) (b8 : (-1) ≤ s8 ∧ s8 ≤ (-1)) (m0 : HP 60 (4096 * s0 + s1) (s4 + 32 * s5 + 1024 * s6) M) (m1 : HP 53 (4096 * s0 + s1) (256 * s2 + 33) M) (m2 : HP 47 (s2) (s7 + 393216) M) (m3 : HP 46 (s2) (s3) M) (m4 : (0 ≤ (s7) ∧ M 71 (s7).toNat = (s8))) (hG : gI M) : (HP 53 (4096 * s0 + s1) (256 * s3 + 34) M ∧ HP 79 (16 * s0 + 1) (s7) M ∧ True) := by
  obtain ⟨S, hS, hw, ha⟩ := Eq.mp hp_60 m0
  have hr : M 71 (0 + s7.toNat) = S.2 3 s7.toNat := ha.2.2.1 s7.toNat (by omega)
  have hv := m4.2
  rw [show (s7).toNat = 0 + s7.toNat by omega] at hv
  have hs0 : S.2 3 s7.toNat = s8 := by rw [← hr]; exact hv
  have hc : ∀ s : Nat × pM, qat (tm M) (4096 * s0 + s1) s → tK (tm M) (qps (tm M) s.1 1) = (s7 + 393216) → qck (tm M) s.1 s.2 2 1 = none := by
    intro s hs e
    have es := qat_u hS hs
    have ev : qvl (tm M) s.1 1 = s7 := by unfold qvl; omega
    show qcN 0 5 (if 0 ≤ s.2 3 (qvl (tm M) s.1 1).toNat then some 3 else none) (tK (tm M) (qps (tm M) s.1 1)) = _
    rw [e, qcN_x (by omega) (by omega), ev, es]
    exact if_neg (by omega)
  exact ⟨r_ex (K := 2) (j := 0) m1 m2 m3 ⟨by omega, by omega, by decide⟩ (by omega) (by decide) (fun s hs hE e => hc s hs e), r_va (P := s0) (l := s1) (K := 2) (j := 0) m1 m2 ⟨by omega, by omega, by omega⟩ ⟨by omega, by omega, by decide⟩ (by omega) (by omega), trivial⟩
theorem rul_552 : Rul r_552 := by
  refine ⟨fun _ ρ M hm hB hF hG => ?_, fun gi gv hg => (by cases hg)⟩
  have H := cr_552 M (ρ 0) (ρ 1) (ρ 2) (ρ 3) (ρ 4) (ρ 5) (ρ 6) (ρ 7) (ρ 8) (hB _ List.mem_cons_self) (hB _ (List.mem_cons_of_mem _ List.mem_cons_self)) (hB _ (List.mem_cons_of_mem _ (List.mem_cons_of_mem _ List.mem_cons_self))) (hB _ (List.mem_cons_of_mem _ (List.mem_cons_of_mem _ (List.mem_cons_of_mem _ List.mem_cons_self)))) (hB _ (List.mem_cons_of_mem _ (List.mem_cons_of_mem _ (List.mem_cons_of_mem _ (List.mem_cons_of_mem _ List.mem_cons_self))))) (hB _ (List.mem_cons_of_mem _ (List.mem_cons_of_mem _ (List.mem_cons_of_mem _ (List.mem_cons_of_mem _ (List.mem_cons_of_mem _ List.mem_cons_self)))))) (hB _ (List.mem_cons_of_mem _ (List.mem_cons_of_mem _ (List.mem_cons_of_mem _ (List.mem_cons_of_mem _ (List.mem_cons_of_mem _ (List.mem_cons_of_mem _ List.mem_cons_self))))))) (hB _ (List.mem_cons_of_mem _ (List.mem_cons_of_mem _ (List.mem_cons_of_mem _ (List.mem_cons_of_mem _ (List.mem_cons_of_mem _ (List.mem_cons_of_mem _ (List.mem_cons_of_mem _ List.mem_cons_self)))))))) (hB _ (List.mem_cons_of_mem _ (List.mem_cons_of_mem _ (List.mem_cons_of_mem _ (List.mem_cons_of_mem _ (List.mem_cons_of_mem _ (List.mem_cons_of_mem _ (List.mem_cons_of_mem _ (List.mem_cons_of_mem _ List.mem_cons_self))))))))) (cvp 60 (x' := (4096 * (ρ 0) + (ρ 1))) (y' := ((ρ 4) + 32 * (ρ 5) + 1024 * (ρ 6))) (by show 0 + (4096 * ρ 0 + (1 * ρ 1 + 0)) = _; omega) (by show 0 + (1 * ρ 4 + (32 * ρ 5 + (1024 * ρ 6 + 0))) = _; omega) (hm _ List.mem_cons_self)) (cvp 53 (x' := (4096 * (ρ 0) + (ρ 1))) (y' := (256 * (ρ 2) + 33)) (by show 0 + (4096 * ρ 0 + (1 * ρ 1 + 0)) = _; omega) (by show 33 + (256 * ρ 2 + 0) = _; omega) (hm _ (List.mem_cons_of_mem _ List.mem_cons_self))) (cvp 47 (x' := ((ρ 2))) (y' := ((ρ 7) + 393216)) (by show 0 + (1 * ρ 2 + 0) = _; omega) (by show 393216 + (1 * ρ 7 + 0) = _; omega) (hm _ (List.mem_cons_of_mem _ (List.mem_cons_of_mem _ List.mem_cons_self)))) (cvp 46 (x' := ((ρ 2))) (y' := ((ρ 3))) (by show 0 + (1 * ρ 2 + 0) = _; omega) (by show 0 + (1 * ρ 3 + 0) = _; omega) (hm _ (List.mem_cons_of_mem _ (List.mem_cons_of_mem _ (List.mem_cons_of_mem _ List.mem_cons_self))))) (cvm (c := 71) (by decide) (x' := ((ρ 7))) (y' := ((ρ 8))) (by show 0 + (1 * ρ 7 + 0) = _; omega) (by show 0 + (1 * ρ 8 + 0) = _; omega) (hm _ (List.mem_cons_of_mem _ (List.mem_cons_of_mem _ (List.mem_cons_of_mem _ (List.mem_cons_of_mem _ List.mem_cons_self)))))) hG
  obtain ⟨k0, k1, -⟩ := H
  exact ⟨_, List.mem_cons_self, ρ, fun _ _ => rfl, (okM_c (pvp 53 (by show 0 + (4096 * ρ 0 + (1 * ρ 1 + 0)) = _; omega) (by show 34 + (256 * ρ 3 + 0) = _; omega) k0) (okM_c (pvp 79 (by show 1 + (16 * ρ 0 + 0) = _; omega) (by show 0 + (1 * ρ 7 + 0) = _; omega) k1) okM_n)), okB_n, okF_n⟩
-- rt3_0_0
theorem cr_553 (M : pM) (s0 s1 s2 s3 s4 s5 s6 s7 s8 : Int) (b0 : 0 ≤ s0 ∧ s0 ≤ 1900) (b1 : 0 ≤ s1 ∧ s1 ≤ 950) (b2 : 0 ≤ s2 ∧ s2 ≤ 1900) (b3 : 0 ≤ s3 ∧ s3 ≤ 1900) (b4 : 0 ≤ s4 ∧ s4 ≤ 12) (b5 : 0 ≤ s5 ∧ s5 ≤ 20) (b6 : 0 ≤ s6 ∧ s6 ≤ 4) (b7 : 0 ≤ s7 ∧ s7 ≤ 5) (b8 : (-1) ≤ s8 ∧ s8 ≤ (-1)) (m0 : HP 60 (4096 * s0 + s1) (s4 + 32 * s5 + 1024 * s6) M) (m1 : HP 53 (4096 * s0 + s1) (256 * s2 + 49) M) (m2 : HP 47 (s2) (s7 + 393216) M) (m3 : HP 46 (s2) (s3) M) (m4 : (0 ≤ (s7) ∧ M 73 (s7).toNat = (s8))) (hG : gI M) : (HP 53 (4096 * s0 + s1) (256 * s3 + 50) M ∧ HP 79 (16 * s0 + 1) (s7) M ∧ True) := by
  obtain ⟨S, hS, hw, ha⟩ := Eq.mp hp_60 m0
  have hr : M 73 (0 + s7.toNat) = S.2 5 s7.toNat := ha.2.2.2.2.1 s7.toNat (by omega)
  have hv := m4.2
  rw [show (s7).toNat = 0 + s7.toNat by omega] at hv
  have hs0 : S.2 5 s7.toNat = s8 := by rw [← hr]; exact hv
  have hc : ∀ s : Nat × pM, qat (tm M) (4096 * s0 + s1) s → tK (tm M) (qps (tm M) s.1 1) = (s7 + 393216) → qck (tm M) s.1 s.2 3 1 = none := by
    intro s hs e
    have es := qat_u hS hs
    have ev : qvl (tm M) s.1 1 = s7 := by unfold qvl; omega
    show qcN 0 5 (if 0 ≤ s.2 5 (qvl (tm M) s.1 1).toNat then some 3 else none) (tK (tm M) (qps (tm M) s.1 1)) = _
    rw [e, qcN_x (by omega) (by omega), ev, es]
    exact if_neg (by omega)
  exact ⟨r_ex (K := 3) (j := 0) m1 m2 m3 ⟨by omega, by omega, by decide⟩ (by omega) (by decide) (fun s hs hE e => hc s hs e), r_va (P := s0) (l := s1) (K := 3) (j := 0) m1 m2 ⟨by omega, by omega, by omega⟩ ⟨by omega, by omega, by decide⟩ (by omega) (by omega), trivial⟩
theorem rul_553 : Rul r_553 := by
  refine ⟨fun _ ρ M hm hB hF hG => ?_, fun gi gv hg => (by cases hg)⟩
  have H := cr_553 M (ρ 0) (ρ 1) (ρ 2) (ρ 3) (ρ 4) (ρ 5) (ρ 6) (ρ 7) (ρ 8) (hB _ List.mem_cons_self) (hB _ (List.mem_cons_of_mem _ List.mem_cons_self)) (hB _ (List.mem_cons_of_mem _ (List.mem_cons_of_mem _ List.mem_cons_self))) (hB _ (List.mem_cons_of_mem _ (List.mem_cons_of_mem _ (List.mem_cons_of_mem _ List.mem_cons_self)))) (hB _ (List.mem_cons_of_mem _ (List.mem_cons_of_mem _ (List.mem_cons_of_mem _ (List.mem_cons_of_mem _ List.mem_cons_self))))) (hB _ (List.mem_cons_of_mem _ (List.mem_cons_of_mem _ (List.mem_cons_of_mem _ (List.mem_cons_of_mem _ (List.mem_cons_of_mem _ List.mem_cons_self)))))) (hB _ (List.mem_cons_of_mem _ (List.mem_cons_of_mem _ (List.mem_cons_of_mem _ (List.mem_cons_of_mem _ (List.mem_cons_of_mem _ (List.mem_cons_of_mem _ List.mem_cons_self))))))) (hB _ (List.mem_cons_of_mem _ (List.mem_cons_of_mem _ (List.mem_cons_of_mem _ (List.mem_cons_of_mem _ (List.mem_cons_of_mem _ (List.mem_cons_of_mem _ (List.mem_cons_of_mem _ List.mem_cons_self)))))))) (hB _ (List.mem_cons_of_mem _ (List.mem_cons_of_mem _ (List.mem_cons_of_mem _ (List.mem_cons_of_mem _ (List.mem_cons_of_mem _ (List.mem_cons_of_mem _ (List.mem_cons_of_mem _ (List.mem_cons_of_mem _ List.mem_cons_self))))))))) (cvp 60 (x' := (4096 * (ρ 0) + (ρ 1))) (y' := ((ρ 4) + 32 * (ρ 5) + 1024 * (ρ 6))) (by show 0 + (4096 * ρ 0 + (1 * ρ 1 + 0)) = _; omega) (by show 0 + (1 * ρ 4 + (32 * ρ 5 + (1024 * ρ 6 + 0))) = _; omega) (hm _ List.mem_cons_self)) (cvp 53 (x' := (4096 * (ρ 0) + (ρ 1))) (y' := (256 * (ρ 2) + 49)) (by show 0 + (4096 * ρ 0 + (1 * ρ 1 + 0)) = _; omega) (by show 49 + (256 * ρ 2 + 0) = _; omega) (hm _ (List.mem_cons_of_mem _ List.mem_cons_self))) (cvp 47 (x' := ((ρ 2))) (y' := ((ρ 7) + 393216)) (by show 0 + (1 * ρ 2 + 0) = _; omega) (by show 393216 + (1 * ρ 7 + 0) = _; omega) (hm _ (List.mem_cons_of_mem _ (List.mem_cons_of_mem _ List.mem_cons_self)))) (cvp 46 (x' := ((ρ 2))) (y' := ((ρ 3))) (by show 0 + (1 * ρ 2 + 0) = _; omega) (by show 0 + (1 * ρ 3 + 0) = _; omega) (hm _ (List.mem_cons_of_mem _ (List.mem_cons_of_mem _ (List.mem_cons_of_mem _ List.mem_cons_self))))) (cvm (c := 73) (by decide) (x' := ((ρ 7))) (y' := ((ρ 8))) (by show 0 + (1 * ρ 7 + 0) = _; omega) (by show 0 + (1 * ρ 8 + 0) = _; omega) (hm _ (List.mem_cons_of_mem _ (List.mem_cons_of_mem _ (List.mem_cons_of_mem _ (List.mem_cons_of_mem _ List.mem_cons_self)))))) hG
  obtain ⟨k0, k1, -⟩ := H
  exact ⟨_, List.mem_cons_self, ρ, fun _ _ => rfl, (okM_c (pvp 53 (by show 0 + (4096 * ρ 0 + (1 * ρ 1 + 0)) = _; omega) (by show 50 + (256 * ρ 3 + 0) = _; omega) k0) (okM_c (pvp 79 (by show 1 + (16 * ρ 0 + 0) = _; omega) (by show 0 + (1 * ρ 7 + 0) = _; omega) k1) okM_n)), okB_n, okF_n⟩
-- rt8_0_0
theorem cr_554 (M : pM) (s0 s1 s2 s3 s4 s5 s6 s7 s8 s9 : Int) (b0 : 0 ≤ s0 ∧ s0 ≤ 1900) (b1 : 0 ≤ s1 ∧ s1 ≤ 950) (b2 : 0 ≤ s2 ∧ s2 ≤ 1900) (b3 : 0 ≤ s3 ∧ s3 ≤ 1900) (b4 : 0 ≤ s4 ∧ s4 ≤ 12) (b5 : 0 ≤ s5 ∧ s5 ≤ 20) (b6 : 0 ≤ s6 ∧ s6 ≤ 4) (b7 : 0 ≤ s7 ∧ s7 ≤ 7) (b8 : 0 ≤ s8 ∧ s8 ≤ 7) (b9 : 0 ≤ s9 ∧ s9 ≤ 0) (m0 : HP 60 (4096 * s0 + s1) (s4 + 32 * s5 + 1024 * s6) M) (m1 : HP 53 (4096 * s0 + s1) (256 * s2 + 130) M) (m2 : HP 47 (s2) (s8 + 393216) M) (m3 : HP 46 (s2) (s3) M) (m4 : HP 79 (16 * s0 + 1) (s7) M) (m5 : (0 ≤ (s7 + 8 * s8) ∧ M 86 (s7 + 8 * s8).toNat = (s9))) (hG : gI M) : (HP 53 (4096 * s0 + s1) (256 * s3 + 131) M ∧ HP 79 (16 * s0 + 2) (s8) M ∧ True) := by
  obtain ⟨S, hS, hw, ha⟩ := Eq.mp hp_60 m0
  have hf : M 86 (0 + (s7 + 8 * s8).toNat) = S.2 17 (s7 + 8 * s8).toNat := ha.2.2.2.2.2.2.2.2.2.2.2.2 (s7 + 8 * s8).toNat (by omega)
  have hv := m5.2
  rw [show (s7 + 8 * s8).toNat = 0 + (s7 + 8 * s8).toNat by omega, hf] at hv
  have hc : ∀ s : Nat × pM, qat (tm M) (4096 * s0 + s1) s → tK (tm M) (qps (tm M) s.1 2) = (s8 + 393216) → qck (tm M) s.1 s.2 8 2 = none := by
    intro s hs e
    have es := qat_u hS hs
    have hp : s0.toNat = s.1 := by have := qat_p (P := s0) (l := s1) hs ⟨by omega, by omega, by omega⟩; omega
    have e1 := q79 (P := s0) (i := 1) m4 ⟨by omega, by decide⟩ (by omega)
    rw [hp] at e1
    have ev : qvl (tm M) s.1 2 = s8 := by unfold qvl; omega
    show qcN 0 7 (qtd (s.2 17 (qvl (tm M) s.1 1 + 8 * qvl (tm M) s.1 2).toNat)) (tK (tm M) (qps (tm M) s.1 2)) = _
    rw [e, qcN_x (by omega) (by omega), ev, ← e1, es]
    exact qtd_0 (by omega)
  exact ⟨r_ex (K := 8) (j := 1) m1 m2 m3 ⟨by omega, by omega, by decide⟩ (by omega) (by decide) (fun s hs hE e => hc s hs e), r_va (P := s0) (l := s1) (K := 8) (j := 1) m1 m2 ⟨by omega, by omega, by omega⟩ ⟨by omega, by omega, by decide⟩ (by omega) (by omega), trivial⟩
theorem rul_554 : Rul r_554 := by
  refine ⟨fun _ ρ M hm hB hF hG => ?_, fun gi gv hg => (by cases hg)⟩
  have H := cr_554 M (ρ 0) (ρ 1) (ρ 2) (ρ 3) (ρ 4) (ρ 5) (ρ 6) (ρ 7) (ρ 8) (ρ 9) (hB _ List.mem_cons_self) (hB _ (List.mem_cons_of_mem _ List.mem_cons_self)) (hB _ (List.mem_cons_of_mem _ (List.mem_cons_of_mem _ List.mem_cons_self))) (hB _ (List.mem_cons_of_mem _ (List.mem_cons_of_mem _ (List.mem_cons_of_mem _ List.mem_cons_self)))) (hB _ (List.mem_cons_of_mem _ (List.mem_cons_of_mem _ (List.mem_cons_of_mem _ (List.mem_cons_of_mem _ List.mem_cons_self))))) (hB _ (List.mem_cons_of_mem _ (List.mem_cons_of_mem _ (List.mem_cons_of_mem _ (List.mem_cons_of_mem _ (List.mem_cons_of_mem _ List.mem_cons_self)))))) (hB _ (List.mem_cons_of_mem _ (List.mem_cons_of_mem _ (List.mem_cons_of_mem _ (List.mem_cons_of_mem _ (List.mem_cons_of_mem _ (List.mem_cons_of_mem _ List.mem_cons_self))))))) (hB _ (List.mem_cons_of_mem _ (List.mem_cons_of_mem _ (List.mem_cons_of_mem _ (List.mem_cons_of_mem _ (List.mem_cons_of_mem _ (List.mem_cons_of_mem _ (List.mem_cons_of_mem _ List.mem_cons_self)))))))) (hB _ (List.mem_cons_of_mem _ (List.mem_cons_of_mem _ (List.mem_cons_of_mem _ (List.mem_cons_of_mem _ (List.mem_cons_of_mem _ (List.mem_cons_of_mem _ (List.mem_cons_of_mem _ (List.mem_cons_of_mem _ List.mem_cons_self))))))))) (hB _ (List.mem_cons_of_mem _ (List.mem_cons_of_mem _ (List.mem_cons_of_mem _ (List.mem_cons_of_mem _ (List.mem_cons_of_mem _ (List.mem_cons_of_mem _ (List.mem_cons_of_mem _ (List.mem_cons_of_mem _ (List.mem_cons_of_mem _ List.mem_cons_self)))))))))) (cvp 60 (x' := (4096 * (ρ 0) + (ρ 1))) (y' := ((ρ 4) + 32 * (ρ 5) + 1024 * (ρ 6))) (by show 0 + (4096 * ρ 0 + (1 * ρ 1 + 0)) = _; omega) (by show 0 + (1 * ρ 4 + (32 * ρ 5 + (1024 * ρ 6 + 0))) = _; omega) (hm _ List.mem_cons_self)) (cvp 53 (x' := (4096 * (ρ 0) + (ρ 1))) (y' := (256 * (ρ 2) + 130)) (by show 0 + (4096 * ρ 0 + (1 * ρ 1 + 0)) = _; omega) (by show 130 + (256 * ρ 2 + 0) = _; omega) (hm _ (List.mem_cons_of_mem _ List.mem_cons_self))) (cvp 47 (x' := ((ρ 2))) (y' := ((ρ 8) + 393216)) (by show 0 + (1 * ρ 2 + 0) = _; omega) (by show 393216 + (1 * ρ 8 + 0) = _; omega) (hm _ (List.mem_cons_of_mem _ (List.mem_cons_of_mem _ List.mem_cons_self)))) (cvp 46 (x' := ((ρ 2))) (y' := ((ρ 3))) (by show 0 + (1 * ρ 2 + 0) = _; omega) (by show 0 + (1 * ρ 3 + 0) = _; omega) (hm _ (List.mem_cons_of_mem _ (List.mem_cons_of_mem _ (List.mem_cons_of_mem _ List.mem_cons_self))))) (cvp 79 (x' := (16 * (ρ 0) + 1)) (y' := ((ρ 7))) (by show 1 + (16 * ρ 0 + 0) = _; omega) (by show 0 + (1 * ρ 7 + 0) = _; omega) (hm _ (List.mem_cons_of_mem _ (List.mem_cons_of_mem _ (List.mem_cons_of_mem _ (List.mem_cons_of_mem _ List.mem_cons_self)))))) (cvm (c := 86) (by decide) (x' := ((ρ 7) + 8 * (ρ 8))) (y' := ((ρ 9))) (by show 0 + (1 * ρ 7 + (8 * ρ 8 + 0)) = _; omega) (by show 0 + (1 * ρ 9 + 0) = _; omega) (hm _ (List.mem_cons_of_mem _ (List.mem_cons_of_mem _ (List.mem_cons_of_mem _ (List.mem_cons_of_mem _ (List.mem_cons_of_mem _ List.mem_cons_self))))))) hG
  obtain ⟨k0, k1, -⟩ := H
  exact ⟨_, List.mem_cons_self, ρ, fun _ _ => rfl, (okM_c (pvp 53 (by show 0 + (4096 * ρ 0 + (1 * ρ 1 + 0)) = _; omega) (by show 131 + (256 * ρ 3 + 0) = _; omega) k0) (okM_c (pvp 79 (by show 2 + (16 * ρ 0 + 0) = _; omega) (by show 0 + (1 * ρ 8 + 0) = _; omega) k1) okM_n)), okB_n, okF_n⟩
-- rt0_0_1
theorem cr_555 (M : pM) (s0 s1 s2 s3 s4 s5 s6 s7 s8 : Int) (b0 : 0 ≤ s0 ∧ s0 ≤ 1900) (b1 : 0 ≤ s1 ∧ s1 ≤ 950) (b2 : 0 ≤ s2 ∧ s2 ≤ 1900) (b3 : 0 ≤ s3 ∧ s3 ≤ 1900) (b4 : 0 ≤ s4 ∧ s4 ≤ 12) (b5 : 0 ≤ s5 ∧ s5 ≤ 20) (b6 : 0 ≤ s6 ∧ s6 ≤ 4) (b7 : 0 ≤ s7 ∧ s7 ≤ 7) (b8 : 1 ≤ s8 ∧ s8 ≤ 1) (m0 : HP 60 (4096 * s0 + s1) (s4 + 32 * s5 + 1024 * s6) M) (m1 : HP 53 (4096 * s0 + s1) (256 * s2 + 1) M) (m2 : HP 47 (s2) (s7 + 393216) M) (m3 : HP 45 (s2) (s3) M) (m4 : (0 ≤ (s7) ∧ M 84 (s7).toNat = (s8))) (hG : gI M) : (HP 66 (s3) (3 : Int) M ∧ True) := by
  obtain ⟨S, hS, hw, ha⟩ := Eq.mp hp_60 m0
  have hr : M 84 s7.toNat = S.2 15 s7.toNat := ha.2.2.2.2.2.2.2.2.2.2.1 s7.toNat (by omega)
  rw [m4.2] at hr
  have hc : ∀ s : Nat × pM, qat (tm M) (4096 * s0 + s1) s → tK (tm M) (qps (tm M) s.1 1) = (s7 + 393216) → qck (tm M) s.1 s.2 0 1 = some 3 := by
    intro s hs e
    have es := qat_u hS hs
    have ev : qvl (tm M) s.1 1 = s7 := by unfold qvl; omega
    show qcN 0 7 (qtd (s.2 15 (qvl (tm M) s.1 1).toNat)) (tK (tm M) (qps (tm M) s.1 1)) = _
    rw [e, qcN_x (by omega) (by omega), ev, es]
    exact qtd_1 (by omega)
  exact ⟨r_fl (K := 0) (j := 0) m1 m2 m3 ⟨by omega, by omega, by decide⟩ (fun s hs hE e => hc s hs e), trivial⟩
theorem rul_555 : Rul r_555 := by
  refine ⟨fun _ ρ M hm hB hF hG => ?_, fun gi gv hg => (by cases hg)⟩
  have H := cr_555 M (ρ 0) (ρ 1) (ρ 2) (ρ 3) (ρ 4) (ρ 5) (ρ 6) (ρ 7) (ρ 8) (hB _ List.mem_cons_self) (hB _ (List.mem_cons_of_mem _ List.mem_cons_self)) (hB _ (List.mem_cons_of_mem _ (List.mem_cons_of_mem _ List.mem_cons_self))) (hB _ (List.mem_cons_of_mem _ (List.mem_cons_of_mem _ (List.mem_cons_of_mem _ List.mem_cons_self)))) (hB _ (List.mem_cons_of_mem _ (List.mem_cons_of_mem _ (List.mem_cons_of_mem _ (List.mem_cons_of_mem _ List.mem_cons_self))))) (hB _ (List.mem_cons_of_mem _ (List.mem_cons_of_mem _ (List.mem_cons_of_mem _ (List.mem_cons_of_mem _ (List.mem_cons_of_mem _ List.mem_cons_self)))))) (hB _ (List.mem_cons_of_mem _ (List.mem_cons_of_mem _ (List.mem_cons_of_mem _ (List.mem_cons_of_mem _ (List.mem_cons_of_mem _ (List.mem_cons_of_mem _ List.mem_cons_self))))))) (hB _ (List.mem_cons_of_mem _ (List.mem_cons_of_mem _ (List.mem_cons_of_mem _ (List.mem_cons_of_mem _ (List.mem_cons_of_mem _ (List.mem_cons_of_mem _ (List.mem_cons_of_mem _ List.mem_cons_self)))))))) (hB _ (List.mem_cons_of_mem _ (List.mem_cons_of_mem _ (List.mem_cons_of_mem _ (List.mem_cons_of_mem _ (List.mem_cons_of_mem _ (List.mem_cons_of_mem _ (List.mem_cons_of_mem _ (List.mem_cons_of_mem _ List.mem_cons_self))))))))) (cvp 60 (x' := (4096 * (ρ 0) + (ρ 1))) (y' := ((ρ 4) + 32 * (ρ 5) + 1024 * (ρ 6))) (by show 0 + (4096 * ρ 0 + (1 * ρ 1 + 0)) = _; omega) (by show 0 + (1 * ρ 4 + (32 * ρ 5 + (1024 * ρ 6 + 0))) = _; omega) (hm _ List.mem_cons_self)) (cvp 53 (x' := (4096 * (ρ 0) + (ρ 1))) (y' := (256 * (ρ 2) + 1)) (by show 0 + (4096 * ρ 0 + (1 * ρ 1 + 0)) = _; omega) (by show 1 + (256 * ρ 2 + 0) = _; omega) (hm _ (List.mem_cons_of_mem _ List.mem_cons_self))) (cvp 47 (x' := ((ρ 2))) (y' := ((ρ 7) + 393216)) (by show 0 + (1 * ρ 2 + 0) = _; omega) (by show 393216 + (1 * ρ 7 + 0) = _; omega) (hm _ (List.mem_cons_of_mem _ (List.mem_cons_of_mem _ List.mem_cons_self)))) (cvp 45 (x' := ((ρ 2))) (y' := ((ρ 3))) (by show 0 + (1 * ρ 2 + 0) = _; omega) (by show 0 + (1 * ρ 3 + 0) = _; omega) (hm _ (List.mem_cons_of_mem _ (List.mem_cons_of_mem _ (List.mem_cons_of_mem _ List.mem_cons_self))))) (cvm (c := 84) (by decide) (x' := ((ρ 7))) (y' := ((ρ 8))) (by show 0 + (1 * ρ 7 + 0) = _; omega) (by show 0 + (1 * ρ 8 + 0) = _; omega) (hm _ (List.mem_cons_of_mem _ (List.mem_cons_of_mem _ (List.mem_cons_of_mem _ (List.mem_cons_of_mem _ List.mem_cons_self)))))) hG
  obtain ⟨k0, -⟩ := H
  exact ⟨_, List.mem_cons_self, ρ, fun _ _ => rfl, (okM_c (pvp 66 (by show 0 + (1 * ρ 3 + 0) = _; omega) (by show 3 + 0 = _; omega) k0) okM_n), okB_n, okF_n⟩
-- rt1_0_1
theorem cr_556 (M : pM) (s0 s1 s2 s3 s4 s5 s6 s7 s8 s9 s10 : Int) (b0 : 0 ≤ s0 ∧ s0 ≤ 1900) (b1 : 0 ≤ s1 ∧ s1 ≤ 950) (b2 : 0 ≤ s2 ∧ s2 ≤ 1900) (b3 : 0 ≤ s3 ∧ s3 ≤ 1900) (b4 : 0 ≤ s4 ∧ s4 ≤ 12) (b5 : 0 ≤ s5 ∧ s5 ≤ 20) (b6 : 0 ≤ s6 ∧ s6 ≤ 4) (b7 : 0 ≤ s7 ∧ s7 ≤ 7) (b8 : 1 ≤ s8 ∧ s8 ≤ 1) (b9 : 262143 ≤ s9 ∧ s9 ≤ 262168) (b10 : 0 ≤ s10 ∧ s10 ≤ 1900) (m0 : HP 60 (4096 * s0 + s1) (s4 + 32 * s5 + 1024 * s6) M) (m1 : HP 53 (4096 * s0 + s1) (256 * s2 + 17) M) (m2 : HP 47 (s2) (s9) M) (m3 : HP 45 (s2) (s3) M) (m4 : HP 46 (s2) (s10) M) (m5 : (0 ≤ (s3) ∧ M 1 (s3).toNat = (s7 + 97))) (m6 : (0 ≤ (s7) ∧ M 85 (s7).toNat = (s8))) (f0 : 0 ≤ (s3 + (-1) * s10 + 1)) (f1 : 0 ≤ ((-1) * s3 + s10 - 1)) (hG : gI M) : (HP 66 (s3) (3 : Int) M ∧ True) := by
  obtain ⟨S, hS, hw, hA⟩ := Eq.mp hp_60 m0
  have hf : M 85 s7.toNat = S.2 16 s7.toNat := hA.2.2.2.2.2.2.2.2.2.2.2.1 s7.toNat (by omega)
  rw [m6.2] at hf
  obtain ⟨S2, hS2, hE2⟩ := ex_o (K := 1) (j := 0) (a := s2) (Eq.mp hp_53 m1) ⟨by omega, by omega, by decide, by decide⟩
  have ha2 : s2 = (qps (tm M) S2.1 1 : Int) := hE2.2.2.2.2
  have ha : qps (tm M) S2.1 1 = s2.toNat := by omega
  have g1 := (q45 m3).2
  have g2 := (q46 m4).2
  have hr := rd1 m5 (by omega)
  have hl : qlt (tm M) S2.1 1 0 = 97 + s7 := by unfold qlt; rw [ha, show tS (tm M) s2.toNat + 0 = s3.toNat by omega, hr]; omega
  have hc : ∀ s : Nat × pM, qat (tm M) (4096 * s0 + s1) s → tK (tm M) (qps (tm M) s.1 1) = s9 → qck (tm M) s.1 s.2 1 1 = some 3 := by
    intro s hs e
    have es := qat_u hS hs
    have e2 := qat_u hS2 hs
    subst e2
    show qcW (if qsz (tm M) s.1 1 = 1 ∧ qgr (tm M) (tS (tm M) (qps (tm M) s.1 1)) 1 = true then qtd (s.2 16 (qlt (tm M) s.1 1 0 - 97).toNat) else some 4) (tK (tm M) (qps (tm M) s.1 1)) = _
    rw [e, qcW_x (by omega), if_pos ⟨by unfold qsz; rw [ha]; omega, qgr_i (fun i hi => by rw [ha, show tS (tm M) s2.toNat + i = s3.toNat by omega, hr]; omega)⟩, hl, show (97 + s7 - 97).toNat = s7.toNat by omega, es]
    exact qtd_1 (by omega)
  exact ⟨r_fl (K := 1) (j := 0) m1 m2 m3 ⟨by omega, by omega, by decide⟩ (fun s hs hE e => hc s hs e), trivial⟩
theorem rul_556 : Rul r_556 := by
  refine ⟨fun _ ρ M hm hB hF hG => ?_, fun gi gv hg => (by cases hg)⟩
  have H := cr_556 M (ρ 0) (ρ 1) (ρ 2) (ρ 3) (ρ 4) (ρ 5) (ρ 6) (ρ 7) (ρ 8) (ρ 9) (ρ 10) (hB _ List.mem_cons_self) (hB _ (List.mem_cons_of_mem _ List.mem_cons_self)) (hB _ (List.mem_cons_of_mem _ (List.mem_cons_of_mem _ List.mem_cons_self))) (hB _ (List.mem_cons_of_mem _ (List.mem_cons_of_mem _ (List.mem_cons_of_mem _ List.mem_cons_self)))) (hB _ (List.mem_cons_of_mem _ (List.mem_cons_of_mem _ (List.mem_cons_of_mem _ (List.mem_cons_of_mem _ List.mem_cons_self))))) (hB _ (List.mem_cons_of_mem _ (List.mem_cons_of_mem _ (List.mem_cons_of_mem _ (List.mem_cons_of_mem _ (List.mem_cons_of_mem _ List.mem_cons_self)))))) (hB _ (List.mem_cons_of_mem _ (List.mem_cons_of_mem _ (List.mem_cons_of_mem _ (List.mem_cons_of_mem _ (List.mem_cons_of_mem _ (List.mem_cons_of_mem _ List.mem_cons_self))))))) (hB _ (List.mem_cons_of_mem _ (List.mem_cons_of_mem _ (List.mem_cons_of_mem _ (List.mem_cons_of_mem _ (List.mem_cons_of_mem _ (List.mem_cons_of_mem _ (List.mem_cons_of_mem _ List.mem_cons_self)))))))) (hB _ (List.mem_cons_of_mem _ (List.mem_cons_of_mem _ (List.mem_cons_of_mem _ (List.mem_cons_of_mem _ (List.mem_cons_of_mem _ (List.mem_cons_of_mem _ (List.mem_cons_of_mem _ (List.mem_cons_of_mem _ List.mem_cons_self))))))))) (hB _ (List.mem_cons_of_mem _ (List.mem_cons_of_mem _ (List.mem_cons_of_mem _ (List.mem_cons_of_mem _ (List.mem_cons_of_mem _ (List.mem_cons_of_mem _ (List.mem_cons_of_mem _ (List.mem_cons_of_mem _ (List.mem_cons_of_mem _ List.mem_cons_self)))))))))) (hB _ (List.mem_cons_of_mem _ (List.mem_cons_of_mem _ (List.mem_cons_of_mem _ (List.mem_cons_of_mem _ (List.mem_cons_of_mem _ (List.mem_cons_of_mem _ (List.mem_cons_of_mem _ (List.mem_cons_of_mem _ (List.mem_cons_of_mem _ (List.mem_cons_of_mem _ List.mem_cons_self))))))))))) (cvp 60 (x' := (4096 * (ρ 0) + (ρ 1))) (y' := ((ρ 4) + 32 * (ρ 5) + 1024 * (ρ 6))) (by show 0 + (4096 * ρ 0 + (1 * ρ 1 + 0)) = _; omega) (by show 0 + (1 * ρ 4 + (32 * ρ 5 + (1024 * ρ 6 + 0))) = _; omega) (hm _ List.mem_cons_self)) (cvp 53 (x' := (4096 * (ρ 0) + (ρ 1))) (y' := (256 * (ρ 2) + 17)) (by show 0 + (4096 * ρ 0 + (1 * ρ 1 + 0)) = _; omega) (by show 17 + (256 * ρ 2 + 0) = _; omega) (hm _ (List.mem_cons_of_mem _ List.mem_cons_self))) (cvp 47 (x' := ((ρ 2))) (y' := ((ρ 9))) (by show 0 + (1 * ρ 2 + 0) = _; omega) (by show 0 + (1 * ρ 9 + 0) = _; omega) (hm _ (List.mem_cons_of_mem _ (List.mem_cons_of_mem _ List.mem_cons_self)))) (cvp 45 (x' := ((ρ 2))) (y' := ((ρ 3))) (by show 0 + (1 * ρ 2 + 0) = _; omega) (by show 0 + (1 * ρ 3 + 0) = _; omega) (hm _ (List.mem_cons_of_mem _ (List.mem_cons_of_mem _ (List.mem_cons_of_mem _ List.mem_cons_self))))) (cvp 46 (x' := ((ρ 2))) (y' := ((ρ 10))) (by show 0 + (1 * ρ 2 + 0) = _; omega) (by show 0 + (1 * ρ 10 + 0) = _; omega) (hm _ (List.mem_cons_of_mem _ (List.mem_cons_of_mem _ (List.mem_cons_of_mem _ (List.mem_cons_of_mem _ List.mem_cons_self)))))) (cvm (c := 1) (by decide) (x' := ((ρ 3))) (y' := ((ρ 7) + 97)) (by show 0 + (1 * ρ 3 + 0) = _; omega) (by show 97 + (1 * ρ 7 + 0) = _; omega) (hm _ (List.mem_cons_of_mem _ (List.mem_cons_of_mem _ (List.mem_cons_of_mem _ (List.mem_cons_of_mem _ (List.mem_cons_of_mem _ List.mem_cons_self))))))) (cvm (c := 85) (by decide) (x' := ((ρ 7))) (y' := ((ρ 8))) (by show 0 + (1 * ρ 7 + 0) = _; omega) (by show 0 + (1 * ρ 8 + 0) = _; omega) (hm _ (List.mem_cons_of_mem _ (List.mem_cons_of_mem _ (List.mem_cons_of_mem _ (List.mem_cons_of_mem _ (List.mem_cons_of_mem _ (List.mem_cons_of_mem _ List.mem_cons_self)))))))) (by have h := hF _ List.mem_cons_self; have h : 0 ≤ 1 + (1 * ρ 3 + ((-1) * ρ 10 + 0)) := h; omega) (by have h := hF _ (List.mem_cons_of_mem _ List.mem_cons_self); have h : 0 ≤ (-1) + ((-1) * ρ 3 + (1 * ρ 10 + 0)) := h; omega) hG
  obtain ⟨k0, -⟩ := H
  exact ⟨_, List.mem_cons_self, ρ, fun _ _ => rfl, (okM_c (pvp 66 (by show 0 + (1 * ρ 3 + 0) = _; omega) (by show 3 + 0 = _; omega) k0) okM_n), okB_n, okF_n⟩
-- rt2_0_1
theorem cr_557 (M : pM) (s0 s1 s2 s3 s4 s5 s6 s7 s8 : Int) (b0 : 0 ≤ s0 ∧ s0 ≤ 1900) (b1 : 0 ≤ s1 ∧ s1 ≤ 950) (b2 : 0 ≤ s2 ∧ s2 ≤ 1900) (b3 : 0 ≤ s3 ∧ s3 ≤ 1900) (b4 : 0 ≤ s4 ∧ s4 ≤ 12) (b5 : 0 ≤ s5 ∧ s5 ≤ 20) (b6 : 0 ≤ s6 ∧ s6 ≤ 4) (b7 : 0 ≤ s7 ∧ s7 ≤ 5) (b8 : 0 ≤ s8 ∧ s8 ≤ 40) (m0 : HP 60 (4096 * s0 + s1) (s4 + 32 * s5 + 1024 * s6) M) (m1 : HP 53 (4096 * s0 + s1) (256 * s2 + 33) M) (m2 : HP 47 (s2) (s7 + 393216) M) (m3 : HP 45 (s2) (s3) M) (m4 : (0 ≤ (s7) ∧ M 71 (s7).toNat = (s8))) (hG : gI M) : (HP 66 (s3) (3 : Int) M ∧ True) := by
  obtain ⟨S, hS, hw, ha⟩ := Eq.mp hp_60 m0
  have hr : M 71 (0 + s7.toNat) = S.2 3 s7.toNat := ha.2.2.1 s7.toNat (by omega)
  have hv := m4.2
  rw [show (s7).toNat = 0 + s7.toNat by omega] at hv
  have hs0 : S.2 3 s7.toNat = s8 := by rw [← hr]; exact hv
  have hc : ∀ s : Nat × pM, qat (tm M) (4096 * s0 + s1) s → tK (tm M) (qps (tm M) s.1 1) = (s7 + 393216) → qck (tm M) s.1 s.2 2 1 = some 3 := by
    intro s hs e
    have es := qat_u hS hs
    have ev : qvl (tm M) s.1 1 = s7 := by unfold qvl; omega
    show qcN 0 5 (if 0 ≤ s.2 3 (qvl (tm M) s.1 1).toNat then some 3 else none) (tK (tm M) (qps (tm M) s.1 1)) = _
    rw [e, qcN_x (by omega) (by omega), ev, es]
    exact if_pos (by omega)
  exact ⟨r_fl (K := 2) (j := 0) m1 m2 m3 ⟨by omega, by omega, by decide⟩ (fun s hs hE e => hc s hs e), trivial⟩
theorem rul_557 : Rul r_557 := by
  refine ⟨fun _ ρ M hm hB hF hG => ?_, fun gi gv hg => (by cases hg)⟩
  have H := cr_557 M (ρ 0) (ρ 1) (ρ 2) (ρ 3) (ρ 4) (ρ 5) (ρ 6) (ρ 7) (ρ 8) (hB _ List.mem_cons_self) (hB _ (List.mem_cons_of_mem _ List.mem_cons_self)) (hB _ (List.mem_cons_of_mem _ (List.mem_cons_of_mem _ List.mem_cons_self))) (hB _ (List.mem_cons_of_mem _ (List.mem_cons_of_mem _ (List.mem_cons_of_mem _ List.mem_cons_self)))) (hB _ (List.mem_cons_of_mem _ (List.mem_cons_of_mem _ (List.mem_cons_of_mem _ (List.mem_cons_of_mem _ List.mem_cons_self))))) (hB _ (List.mem_cons_of_mem _ (List.mem_cons_of_mem _ (List.mem_cons_of_mem _ (List.mem_cons_of_mem _ (List.mem_cons_of_mem _ List.mem_cons_self)))))) (hB _ (List.mem_cons_of_mem _ (List.mem_cons_of_mem _ (List.mem_cons_of_mem _ (List.mem_cons_of_mem _ (List.mem_cons_of_mem _ (List.mem_cons_of_mem _ List.mem_cons_self))))))) (hB _ (List.mem_cons_of_mem _ (List.mem_cons_of_mem _ (List.mem_cons_of_mem _ (List.mem_cons_of_mem _ (List.mem_cons_of_mem _ (List.mem_cons_of_mem _ (List.mem_cons_of_mem _ List.mem_cons_self)))))))) (hB _ (List.mem_cons_of_mem _ (List.mem_cons_of_mem _ (List.mem_cons_of_mem _ (List.mem_cons_of_mem _ (List.mem_cons_of_mem _ (List.mem_cons_of_mem _ (List.mem_cons_of_mem _ (List.mem_cons_of_mem _ List.mem_cons_self))))))))) (cvp 60 (x' := (4096 * (ρ 0) + (ρ 1))) (y' := ((ρ 4) + 32 * (ρ 5) + 1024 * (ρ 6))) (by show 0 + (4096 * ρ 0 + (1 * ρ 1 + 0)) = _; omega) (by show 0 + (1 * ρ 4 + (32 * ρ 5 + (1024 * ρ 6 + 0))) = _; omega) (hm _ List.mem_cons_self)) (cvp 53 (x' := (4096 * (ρ 0) + (ρ 1))) (y' := (256 * (ρ 2) + 33)) (by show 0 + (4096 * ρ 0 + (1 * ρ 1 + 0)) = _; omega) (by show 33 + (256 * ρ 2 + 0) = _; omega) (hm _ (List.mem_cons_of_mem _ List.mem_cons_self))) (cvp 47 (x' := ((ρ 2))) (y' := ((ρ 7) + 393216)) (by show 0 + (1 * ρ 2 + 0) = _; omega) (by show 393216 + (1 * ρ 7 + 0) = _; omega) (hm _ (List.mem_cons_of_mem _ (List.mem_cons_of_mem _ List.mem_cons_self)))) (cvp 45 (x' := ((ρ 2))) (y' := ((ρ 3))) (by show 0 + (1 * ρ 2 + 0) = _; omega) (by show 0 + (1 * ρ 3 + 0) = _; omega) (hm _ (List.mem_cons_of_mem _ (List.mem_cons_of_mem _ (List.mem_cons_of_mem _ List.mem_cons_self))))) (cvm (c := 71) (by decide) (x' := ((ρ 7))) (y' := ((ρ 8))) (by show 0 + (1 * ρ 7 + 0) = _; omega) (by show 0 + (1 * ρ 8 + 0) = _; omega) (hm _ (List.mem_cons_of_mem _ (List.mem_cons_of_mem _ (List.mem_cons_of_mem _ (List.mem_cons_of_mem _ List.mem_cons_self)))))) hG
  obtain ⟨k0, -⟩ := H
  exact ⟨_, List.mem_cons_self, ρ, fun _ _ => rfl, (okM_c (pvp 66 (by show 0 + (1 * ρ 3 + 0) = _; omega) (by show 3 + 0 = _; omega) k0) okM_n), okB_n, okF_n⟩
-- rt3_0_1
theorem cr_558 (M : pM) (s0 s1 s2 s3 s4 s5 s6 s7 s8 : Int) (b0 : 0 ≤ s0 ∧ s0 ≤ 1900) (b1 : 0 ≤ s1 ∧ s1 ≤ 950) (b2 : 0 ≤ s2 ∧ s2 ≤ 1900) (b3 : 0 ≤ s3 ∧ s3 ≤ 1900) (b4 : 0 ≤ s4 ∧ s4 ≤ 12) (b5 : 0 ≤ s5 ∧ s5 ≤ 20) (b6 : 0 ≤ s6 ∧ s6 ≤ 4) (b7 : 0 ≤ s7 ∧ s7 ≤ 5) (b8 : 0 ≤ s8 ∧ s8 ≤ 40) (m0 : HP 60 (4096 * s0 + s1) (s4 + 32 * s5 + 1024 * s6) M) (m1 : HP 53 (4096 * s0 + s1) (256 * s2 + 49) M) (m2 : HP 47 (s2) (s7 + 393216) M) (m3 : HP 45 (s2) (s3) M) (m4 : (0 ≤ (s7) ∧ M 73 (s7).toNat = (s8))) (hG : gI M) : (HP 66 (s3) (3 : Int) M ∧ True) := by
  obtain ⟨S, hS, hw, ha⟩ := Eq.mp hp_60 m0
  have hr : M 73 (0 + s7.toNat) = S.2 5 s7.toNat := ha.2.2.2.2.1 s7.toNat (by omega)
  have hv := m4.2
  rw [show (s7).toNat = 0 + s7.toNat by omega] at hv
  have hs0 : S.2 5 s7.toNat = s8 := by rw [← hr]; exact hv
  have hc : ∀ s : Nat × pM, qat (tm M) (4096 * s0 + s1) s → tK (tm M) (qps (tm M) s.1 1) = (s7 + 393216) → qck (tm M) s.1 s.2 3 1 = some 3 := by
    intro s hs e
    have es := qat_u hS hs
    have ev : qvl (tm M) s.1 1 = s7 := by unfold qvl; omega
    show qcN 0 5 (if 0 ≤ s.2 5 (qvl (tm M) s.1 1).toNat then some 3 else none) (tK (tm M) (qps (tm M) s.1 1)) = _
    rw [e, qcN_x (by omega) (by omega), ev, es]
    exact if_pos (by omega)
  exact ⟨r_fl (K := 3) (j := 0) m1 m2 m3 ⟨by omega, by omega, by decide⟩ (fun s hs hE e => hc s hs e), trivial⟩
theorem rul_558 : Rul r_558 := by
  refine ⟨fun _ ρ M hm hB hF hG => ?_, fun gi gv hg => (by cases hg)⟩
  have H := cr_558 M (ρ 0) (ρ 1) (ρ 2) (ρ 3) (ρ 4) (ρ 5) (ρ 6) (ρ 7) (ρ 8) (hB _ List.mem_cons_self) (hB _ (List.mem_cons_of_mem _ List.mem_cons_self)) (hB _ (List.mem_cons_of_mem _ (List.mem_cons_of_mem _ List.mem_cons_self))) (hB _ (List.mem_cons_of_mem _ (List.mem_cons_of_mem _ (List.mem_cons_of_mem _ List.mem_cons_self)))) (hB _ (List.mem_cons_of_mem _ (List.mem_cons_of_mem _ (List.mem_cons_of_mem _ (List.mem_cons_of_mem _ List.mem_cons_self))))) (hB _ (List.mem_cons_of_mem _ (List.mem_cons_of_mem _ (List.mem_cons_of_mem _ (List.mem_cons_of_mem _ (List.mem_cons_of_mem _ List.mem_cons_self)))))) (hB _ (List.mem_cons_of_mem _ (List.mem_cons_of_mem _ (List.mem_cons_of_mem _ (List.mem_cons_of_mem _ (List.mem_cons_of_mem _ (List.mem_cons_of_mem _ List.mem_cons_self))))))) (hB _ (List.mem_cons_of_mem _ (List.mem_cons_of_mem _ (List.mem_cons_of_mem _ (List.mem_cons_of_mem _ (List.mem_cons_of_mem _ (List.mem_cons_of_mem _ (List.mem_cons_of_mem _ List.mem_cons_self)))))))) (hB _ (List.mem_cons_of_mem _ (List.mem_cons_of_mem _ (List.mem_cons_of_mem _ (List.mem_cons_of_mem _ (List.mem_cons_of_mem _ (List.mem_cons_of_mem _ (List.mem_cons_of_mem _ (List.mem_cons_of_mem _ List.mem_cons_self))))))))) (cvp 60 (x' := (4096 * (ρ 0) + (ρ 1))) (y' := ((ρ 4) + 32 * (ρ 5) + 1024 * (ρ 6))) (by show 0 + (4096 * ρ 0 + (1 * ρ 1 + 0)) = _; omega) (by show 0 + (1 * ρ 4 + (32 * ρ 5 + (1024 * ρ 6 + 0))) = _; omega) (hm _ List.mem_cons_self)) (cvp 53 (x' := (4096 * (ρ 0) + (ρ 1))) (y' := (256 * (ρ 2) + 49)) (by show 0 + (4096 * ρ 0 + (1 * ρ 1 + 0)) = _; omega) (by show 49 + (256 * ρ 2 + 0) = _; omega) (hm _ (List.mem_cons_of_mem _ List.mem_cons_self))) (cvp 47 (x' := ((ρ 2))) (y' := ((ρ 7) + 393216)) (by show 0 + (1 * ρ 2 + 0) = _; omega) (by show 393216 + (1 * ρ 7 + 0) = _; omega) (hm _ (List.mem_cons_of_mem _ (List.mem_cons_of_mem _ List.mem_cons_self)))) (cvp 45 (x' := ((ρ 2))) (y' := ((ρ 3))) (by show 0 + (1 * ρ 2 + 0) = _; omega) (by show 0 + (1 * ρ 3 + 0) = _; omega) (hm _ (List.mem_cons_of_mem _ (List.mem_cons_of_mem _ (List.mem_cons_of_mem _ List.mem_cons_self))))) (cvm (c := 73) (by decide) (x' := ((ρ 7))) (y' := ((ρ 8))) (by show 0 + (1 * ρ 7 + 0) = _; omega) (by show 0 + (1 * ρ 8 + 0) = _; omega) (hm _ (List.mem_cons_of_mem _ (List.mem_cons_of_mem _ (List.mem_cons_of_mem _ (List.mem_cons_of_mem _ List.mem_cons_self)))))) hG
  obtain ⟨k0, -⟩ := H
  exact ⟨_, List.mem_cons_self, ρ, fun _ _ => rfl, (okM_c (pvp 66 (by show 0 + (1 * ρ 3 + 0) = _; omega) (by show 3 + 0 = _; omega) k0) okM_n), okB_n, okF_n⟩
-- rt8_0_1
theorem cr_559 (M : pM) (s0 s1 s2 s3 s4 s5 s6 s7 s8 s9 : Int) (b0 : 0 ≤ s0 ∧ s0 ≤ 1900) (b1 : 0 ≤ s1 ∧ s1 ≤ 950) (b2 : 0 ≤ s2 ∧ s2 ≤ 1900) (b3 : 0 ≤ s3 ∧ s3 ≤ 1900) (b4 : 0 ≤ s4 ∧ s4 ≤ 12) (b5 : 0 ≤ s5 ∧ s5 ≤ 20) (b6 : 0 ≤ s6 ∧ s6 ≤ 4) (b7 : 0 ≤ s7 ∧ s7 ≤ 7) (b8 : 0 ≤ s8 ∧ s8 ≤ 7) (b9 : 1 ≤ s9 ∧ s9 ≤ 1) (m0 : HP 60 (4096 * s0 + s1) (s4 + 32 * s5 + 1024 * s6) M) (m1 : HP 53 (4096 * s0 + s1) (256 * s2 + 130) M) (m2 : HP 47 (s2) (s8 + 393216) M) (m3 : HP 45 (s2) (s3) M) (m4 : HP 79 (16 * s0 + 1) (s7) M) (m5 : (0 ≤ (s7 + 8 * s8) ∧ M 86 (s7 + 8 * s8).toNat = (s9))) (hG : gI M) : (HP 66 (s3) (3 : Int) M ∧ True) := by
  obtain ⟨S, hS, hw, ha⟩ := Eq.mp hp_60 m0
  have hf : M 86 (0 + (s7 + 8 * s8).toNat) = S.2 17 (s7 + 8 * s8).toNat := ha.2.2.2.2.2.2.2.2.2.2.2.2 (s7 + 8 * s8).toNat (by omega)
  have hv := m5.2
  rw [show (s7 + 8 * s8).toNat = 0 + (s7 + 8 * s8).toNat by omega, hf] at hv
  have hc : ∀ s : Nat × pM, qat (tm M) (4096 * s0 + s1) s → tK (tm M) (qps (tm M) s.1 2) = (s8 + 393216) → qck (tm M) s.1 s.2 8 2 = some 3 := by
    intro s hs e
    have es := qat_u hS hs
    have hp : s0.toNat = s.1 := by have := qat_p (P := s0) (l := s1) hs ⟨by omega, by omega, by omega⟩; omega
    have e1 := q79 (P := s0) (i := 1) m4 ⟨by omega, by decide⟩ (by omega)
    rw [hp] at e1
    have ev : qvl (tm M) s.1 2 = s8 := by unfold qvl; omega
    show qcN 0 7 (qtd (s.2 17 (qvl (tm M) s.1 1 + 8 * qvl (tm M) s.1 2).toNat)) (tK (tm M) (qps (tm M) s.1 2)) = _
    rw [e, qcN_x (by omega) (by omega), ev, ← e1, es]
    exact qtd_1 (by omega)
  exact ⟨r_fl (K := 8) (j := 1) m1 m2 m3 ⟨by omega, by omega, by decide⟩ (fun s hs hE e => hc s hs e), trivial⟩
theorem rul_559 : Rul r_559 := by
  refine ⟨fun _ ρ M hm hB hF hG => ?_, fun gi gv hg => (by cases hg)⟩
  have H := cr_559 M (ρ 0) (ρ 1) (ρ 2) (ρ 3) (ρ 4) (ρ 5) (ρ 6) (ρ 7) (ρ 8) (ρ 9) (hB _ List.mem_cons_self) (hB _ (List.mem_cons_of_mem _ List.mem_cons_self)) (hB _ (List.mem_cons_of_mem _ (List.mem_cons_of_mem _ List.mem_cons_self))) (hB _ (List.mem_cons_of_mem _ (List.mem_cons_of_mem _ (List.mem_cons_of_mem _ List.mem_cons_self)))) (hB _ (List.mem_cons_of_mem _ (List.mem_cons_of_mem _ (List.mem_cons_of_mem _ (List.mem_cons_of_mem _ List.mem_cons_self))))) (hB _ (List.mem_cons_of_mem _ (List.mem_cons_of_mem _ (List.mem_cons_of_mem _ (List.mem_cons_of_mem _ (List.mem_cons_of_mem _ List.mem_cons_self)))))) (hB _ (List.mem_cons_of_mem _ (List.mem_cons_of_mem _ (List.mem_cons_of_mem _ (List.mem_cons_of_mem _ (List.mem_cons_of_mem _ (List.mem_cons_of_mem _ List.mem_cons_self))))))) (hB _ (List.mem_cons_of_mem _ (List.mem_cons_of_mem _ (List.mem_cons_of_mem _ (List.mem_cons_of_mem _ (List.mem_cons_of_mem _ (List.mem_cons_of_mem _ (List.mem_cons_of_mem _ List.mem_cons_self)))))))) (hB _ (List.mem_cons_of_mem _ (List.mem_cons_of_mem _ (List.mem_cons_of_mem _ (List.mem_cons_of_mem _ (List.mem_cons_of_mem _ (List.mem_cons_of_mem _ (List.mem_cons_of_mem _ (List.mem_cons_of_mem _ List.mem_cons_self))))))))) (hB _ (List.mem_cons_of_mem _ (List.mem_cons_of_mem _ (List.mem_cons_of_mem _ (List.mem_cons_of_mem _ (List.mem_cons_of_mem _ (List.mem_cons_of_mem _ (List.mem_cons_of_mem _ (List.mem_cons_of_mem _ (List.mem_cons_of_mem _ List.mem_cons_self)))))))))) (cvp 60 (x' := (4096 * (ρ 0) + (ρ 1))) (y' := ((ρ 4) + 32 * (ρ 5) + 1024 * (ρ 6))) (by show 0 + (4096 * ρ 0 + (1 * ρ 1 + 0)) = _; omega) (by show 0 + (1 * ρ 4 + (32 * ρ 5 + (1024 * ρ 6 + 0))) = _; omega) (hm _ List.mem_cons_self)) (cvp 53 (x' := (4096 * (ρ 0) + (ρ 1))) (y' := (256 * (ρ 2) + 130)) (by show 0 + (4096 * ρ 0 + (1 * ρ 1 + 0)) = _; omega) (by show 130 + (256 * ρ 2 + 0) = _; omega) (hm _ (List.mem_cons_of_mem _ List.mem_cons_self))) (cvp 47 (x' := ((ρ 2))) (y' := ((ρ 8) + 393216)) (by show 0 + (1 * ρ 2 + 0) = _; omega) (by show 393216 + (1 * ρ 8 + 0) = _; omega) (hm _ (List.mem_cons_of_mem _ (List.mem_cons_of_mem _ List.mem_cons_self)))) (cvp 45 (x' := ((ρ 2))) (y' := ((ρ 3))) (by show 0 + (1 * ρ 2 + 0) = _; omega) (by show 0 + (1 * ρ 3 + 0) = _; omega) (hm _ (List.mem_cons_of_mem _ (List.mem_cons_of_mem _ (List.mem_cons_of_mem _ List.mem_cons_self))))) (cvp 79 (x' := (16 * (ρ 0) + 1)) (y' := ((ρ 7))) (by show 1 + (16 * ρ 0 + 0) = _; omega) (by show 0 + (1 * ρ 7 + 0) = _; omega) (hm _ (List.mem_cons_of_mem _ (List.mem_cons_of_mem _ (List.mem_cons_of_mem _ (List.mem_cons_of_mem _ List.mem_cons_self)))))) (cvm (c := 86) (by decide) (x' := ((ρ 7) + 8 * (ρ 8))) (y' := ((ρ 9))) (by show 0 + (1 * ρ 7 + (8 * ρ 8 + 0)) = _; omega) (by show 0 + (1 * ρ 9 + 0) = _; omega) (hm _ (List.mem_cons_of_mem _ (List.mem_cons_of_mem _ (List.mem_cons_of_mem _ (List.mem_cons_of_mem _ (List.mem_cons_of_mem _ List.mem_cons_self))))))) hG
  obtain ⟨k0, -⟩ := H
  exact ⟨_, List.mem_cons_self, ρ, fun _ _ => rfl, (okM_c (pvp 66 (by show 0 + (1 * ρ 3 + 0) = _; omega) (by show 3 + 0 = _; omega) k0) okM_n), okB_n, okF_n⟩
-- rg0_0
theorem cr_560 (M : pM) (s0 s1 s2 s3 s4 s5 : Int) (b0 : 0 ≤ s0 ∧ s0 ≤ 1900) (b1 : 0 ≤ s1 ∧ s1 ≤ 950) (b2 : 0 ≤ s2 ∧ s2 ≤ 12) (b3 : 0 ≤ s3 ∧ s3 ≤ 20) (b4 : 0 ≤ s4 ∧ s4 ≤ 4) (b5 : 0 ≤ s5 ∧ s5 ≤ 7) (m0 : HP 60 (4096 * s0 + s1) (s2 + 32 * s3 + 1024 * s4) M) (hG : gI M) : (HP 145 (4096 * s0 + s1) (s2 + 32 * s3 + 1024 * s4 + 131072 * s5) M ∧ True) := by
  exact ⟨Eq.mpr hp_145 (l_rg0 (u := s5.toNat) (Eq.mp hp_60 m0) (by omega)), trivial⟩
theorem rul_560 : Rul r_560 := by
  refine ⟨fun _ ρ M hm hB hF hG => ?_, fun gi gv hg => (by cases hg)⟩
  have H := cr_560 M (ρ 0) (ρ 1) (ρ 2) (ρ 3) (ρ 4) (ρ 5) (hB _ List.mem_cons_self) (hB _ (List.mem_cons_of_mem _ List.mem_cons_self)) (hB _ (List.mem_cons_of_mem _ (List.mem_cons_of_mem _ List.mem_cons_self))) (hB _ (List.mem_cons_of_mem _ (List.mem_cons_of_mem _ (List.mem_cons_of_mem _ List.mem_cons_self)))) (hB _ (List.mem_cons_of_mem _ (List.mem_cons_of_mem _ (List.mem_cons_of_mem _ (List.mem_cons_of_mem _ List.mem_cons_self))))) (hB _ (List.mem_cons_of_mem _ (List.mem_cons_of_mem _ (List.mem_cons_of_mem _ (List.mem_cons_of_mem _ (List.mem_cons_of_mem _ List.mem_cons_self)))))) (cvp 60 (x' := (4096 * (ρ 0) + (ρ 1))) (y' := ((ρ 2) + 32 * (ρ 3) + 1024 * (ρ 4))) (by show 0 + (4096 * ρ 0 + (1 * ρ 1 + 0)) = _; omega) (by show 0 + (1 * ρ 2 + (32 * ρ 3 + (1024 * ρ 4 + 0))) = _; omega) (hm _ List.mem_cons_self)) hG
  obtain ⟨k0, -⟩ := H
  exact ⟨_, List.mem_cons_self, ρ, fun _ _ => rfl, (okM_c (pvp 145 (by show 0 + (4096 * ρ 0 + (1 * ρ 1 + 0)) = _; omega) (by show 0 + (1 * ρ 2 + (32 * ρ 3 + (1024 * ρ 4 + (131072 * ρ 5 + 0)))) = _; omega) k0) okM_n), okB_n, okF_n⟩
-- rgw_0
theorem cr_561 (M : pM) (s0 s1 s2 s3 s4 s5 s6 s7 s8 s9 : Int) (b0 : 0 ≤ s0 ∧ s0 ≤ 1900) (b1 : 0 ≤ s1 ∧ s1 ≤ 950) (b2 : 0 ≤ s2 ∧ s2 ≤ 1900) (b3 : 0 ≤ s3 ∧ s3 ≤ 12) (b4 : 0 ≤ s4 ∧ s4 ≤ 20) (b5 : 0 ≤ s5 ∧ s5 ≤ 4) (b6 : 0 ≤ s6 ∧ s6 ≤ 7) (b7 : 0 ≤ s7 ∧ s7 ≤ 7) (b8 : 0 ≤ s8 ∧ s8 ≤ 1900) (b9 : 97 ≤ s9 ∧ s9 ≤ 104) (m0 : HP 145 (4096 * s0 + s1) (s3 + 32 * s4 + 1024 * s5 + 8192 * s6 + 131072 * s7) M) (m1 : HP 157 (16 * s0 + 2) (s2) M) (m2 : HP 45 (s2) (s8) M) (m3 : (0 ≤ (s6 + s8) ∧ M 1 (s6 + s8).toNat = (s9))) (hG : gI M) : (HP 145 (4096 * s0 + s1) (s3 + 32 * s4 + 1024 * s5 + 8192 * s6 + 131072 * s7 + 8192) (st M 69 (s6 + 8 * s7).toNat (s9 - 97)) ∧ True) := by
  have ht : tm (st M 69 (64 * 0 + (8 * s7.toNat + s6.toNat)) (s9 - 97)) = tm M := tm_st (by decide) (by decide)
  rw [show (s6 + 8 * s7).toNat = 64 * 0 + (8 * s7.toNat + s6.toNat) by omega]
  have hv : ∀ s, qat (tm M) (4096 * s0 + s1) s → (s9 - 97) = qlt (tm M) s.1 2 s6.toNat - 97 := by
    intro s hs
    have hp := qat_p (P := s0) (l := s1) hs ⟨by omega, by omega, by omega⟩
    obtain ⟨p, i, t1, t2, t3⟩ := Eq.mp hp_157 m1
    have e1 : i = 2 := by omega
    have e2 : p = s.1 := by omega
    subst e1
    subst e2
    have g1 := (q45 m2).2
    have hr := rd1 m3 (by omega)
    unfold qlt
    rw [show qps (tm M) s.1 2 = s2.toNat by omega, show tS (tm M) s2.toNat + s6.toNat = (s6 + s8).toNat by omega, hr]
  refine ⟨Eq.mpr hp_145 ?_, trivial⟩
  rw [ht]
  exact RG_m (fun _ _ _ _ _ h => agR_w69 h) (l_rgw (k := s6.toNat) (u := s7.toNat) (w := s3) (r := s4) (g := s5) (Eq.mp hp_145 m0) (by omega) ⟨⟨by omega, by omega⟩, ⟨by omega, by omega⟩, by omega, by omega⟩ (by omega) (by omega) hv (by omega))
theorem rul_561 : Rul r_561 := by
  refine ⟨fun h => (by cases h), fun gi gv hg ρ M hm hB hF hG => ?_⟩
  obtain ⟨g1, g2⟩ := List.cons.inj (show ([aI ((0 : Int), ([(6, 1), (7, 8)] : List (Nat × Int))), aI (((-97) : Int), ([(9, 1)] : List (Nat × Int)))] : List av) = [.inl gi, .inl gv] from hg)
  obtain ⟨g2, -⟩ := List.cons.inj g2
  cases g1
  cases g2
  have ei : ev ρ ((0 : Int), ([(6, 1), (7, 8)] : List (Nat × Int))) = ((ρ 6) + 8 * (ρ 7)) := by show 0 + (1 * ρ 6 + (8 * ρ 7 + 0)) = _; omega
  have ew : ev ρ (((-97) : Int), ([(9, 1)] : List (Nat × Int))) = ((ρ 9) - 97) := by show (-97) + (1 * ρ 9 + 0) = _; omega
  rw [show (st M (ctj r_561) (ev ρ ((0 : Int), ([(6, 1), (7, 8)] : List (Nat × Int)))).toNat (ev ρ (((-97) : Int), ([(9, 1)] : List (Nat × Int))))) = (st M 69 ((ρ 6) + 8 * (ρ 7)).toNat ((ρ 9) - 97)) from by rw [ei, ew]; rfl]
  have H := cr_561 M (ρ 0) (ρ 1) (ρ 2) (ρ 3) (ρ 4) (ρ 5) (ρ 6) (ρ 7) (ρ 8) (ρ 9) (hB _ List.mem_cons_self) (hB _ (List.mem_cons_of_mem _ List.mem_cons_self)) (hB _ (List.mem_cons_of_mem _ (List.mem_cons_of_mem _ List.mem_cons_self))) (hB _ (List.mem_cons_of_mem _ (List.mem_cons_of_mem _ (List.mem_cons_of_mem _ List.mem_cons_self)))) (hB _ (List.mem_cons_of_mem _ (List.mem_cons_of_mem _ (List.mem_cons_of_mem _ (List.mem_cons_of_mem _ List.mem_cons_self))))) (hB _ (List.mem_cons_of_mem _ (List.mem_cons_of_mem _ (List.mem_cons_of_mem _ (List.mem_cons_of_mem _ (List.mem_cons_of_mem _ List.mem_cons_self)))))) (hB _ (List.mem_cons_of_mem _ (List.mem_cons_of_mem _ (List.mem_cons_of_mem _ (List.mem_cons_of_mem _ (List.mem_cons_of_mem _ (List.mem_cons_of_mem _ List.mem_cons_self))))))) (hB _ (List.mem_cons_of_mem _ (List.mem_cons_of_mem _ (List.mem_cons_of_mem _ (List.mem_cons_of_mem _ (List.mem_cons_of_mem _ (List.mem_cons_of_mem _ (List.mem_cons_of_mem _ List.mem_cons_self)))))))) (hB _ (List.mem_cons_of_mem _ (List.mem_cons_of_mem _ (List.mem_cons_of_mem _ (List.mem_cons_of_mem _ (List.mem_cons_of_mem _ (List.mem_cons_of_mem _ (List.mem_cons_of_mem _ (List.mem_cons_of_mem _ List.mem_cons_self))))))))) (hB _ (List.mem_cons_of_mem _ (List.mem_cons_of_mem _ (List.mem_cons_of_mem _ (List.mem_cons_of_mem _ (List.mem_cons_of_mem _ (List.mem_cons_of_mem _ (List.mem_cons_of_mem _ (List.mem_cons_of_mem _ (List.mem_cons_of_mem _ List.mem_cons_self)))))))))) (cvp 145 (x' := (4096 * (ρ 0) + (ρ 1))) (y' := ((ρ 3) + 32 * (ρ 4) + 1024 * (ρ 5) + 8192 * (ρ 6) + 131072 * (ρ 7))) (by show 0 + (4096 * ρ 0 + (1 * ρ 1 + 0)) = _; omega) (by show 0 + (1 * ρ 3 + (32 * ρ 4 + (1024 * ρ 5 + (8192 * ρ 6 + (131072 * ρ 7 + 0))))) = _; omega) (hm _ List.mem_cons_self)) (cvp 157 (x' := (16 * (ρ 0) + 2)) (y' := ((ρ 2))) (by show 2 + (16 * ρ 0 + 0) = _; omega) (by show 0 + (1 * ρ 2 + 0) = _; omega) (hm _ (List.mem_cons_of_mem _ List.mem_cons_self))) (cvp 45 (x' := ((ρ 2))) (y' := ((ρ 8))) (by show 0 + (1 * ρ 2 + 0) = _; omega) (by show 0 + (1 * ρ 8 + 0) = _; omega) (hm _ (List.mem_cons_of_mem _ (List.mem_cons_of_mem _ List.mem_cons_self)))) (cvm (c := 1) (by decide) (x' := ((ρ 6) + (ρ 8))) (y' := ((ρ 9))) (by show 0 + (1 * ρ 6 + (1 * ρ 8 + 0)) = _; omega) (by show 0 + (1 * ρ 9 + 0) = _; omega) (hm _ (List.mem_cons_of_mem _ (List.mem_cons_of_mem _ (List.mem_cons_of_mem _ List.mem_cons_self))))) hG
  obtain ⟨k0, -⟩ := H
  exact ⟨_, List.mem_cons_self, ρ, fun _ _ => rfl, (okM_c (pvp 145 (by show 0 + (4096 * ρ 0 + (1 * ρ 1 + 0)) = _; omega) (by show 8192 + (1 * ρ 3 + (32 * ρ 4 + (1024 * ρ 5 + (8192 * ρ 6 + (131072 * ρ 7 + 0))))) = _; omega) k0) okM_n), okB_n, okF_n⟩
-- rgh_0
theorem cr_562 (M : pM) (s0 s1 s2 s3 s4 s5 s6 : Int) (b0 : 0 ≤ s0 ∧ s0 ≤ 1900) (b1 : 0 ≤ s1 ∧ s1 ≤ 950) (b2 : 0 ≤ s2 ∧ s2 ≤ 1900) (b3 : 0 ≤ s3 ∧ s3 ≤ 12) (b4 : 0 ≤ s4 ∧ s4 ≤ 20) (b5 : 0 ≤ s5 ∧ s5 ≤ 4) (b6 : 0 ≤ s6 ∧ s6 ≤ 7) (m0 : HP 145 (4096 * s0 + s1) (s3 + 32 * s4 + 1024 * s5 + 131072 * s6 + 65536) M) (m1 : HP 53 (4096 * s0 + s1) (256 * s2 + 3) M) (m2 : HP 79 (16 * s0 + 1) (s6) M) (hG : gI M) : (HP 62 (4096 * s0 + s1) (s3 + 32 * s4 + 1024 * s5) (st M 84 (s6).toNat (1 : Int)) ∧ True) := by
  have hv := q79 (P := s0) (i := 1) m2 ⟨by omega, by decide⟩ (by omega)
  have ht : tm (st M 84 (s6.toNat) (1 : Int)) = tm M := tm_st (by decide) (by decide)
  rw [show (s6).toNat = s6.toNat by omega]
  refine ⟨Eq.mpr hp_62 ?_, trivial⟩
  rw [ht]
  exact RW_m (fun _ _ _ _ _ h => agR_w84 h) (l_rgh (u := s6.toNat) (w := s3) (r := s4) (g := s5) (P := s0) (l := s1) (Eq.mp hp_145 m0) (by omega) ⟨⟨by omega, by omega⟩, ⟨by omega, by omega⟩, by omega, by omega⟩ (ex_o (K := 0) (j := 2) (a := s2) (Eq.mp hp_53 m1) ⟨by omega, by omega, by decide, by decide⟩) ⟨by omega, by omega, by omega⟩ (by omega) (by omega))
theorem rul_562 : Rul r_562 := by
  refine ⟨fun h => (by cases h), fun gi gv hg ρ M hm hB hF hG => ?_⟩
  obtain ⟨g1, g2⟩ := List.cons.inj (show ([aI ((0 : Int), ([(6, 1)] : List (Nat × Int))), aI ((1 : Int), ([] : List (Nat × Int)))] : List av) = [.inl gi, .inl gv] from hg)
  obtain ⟨g2, -⟩ := List.cons.inj g2
  cases g1
  cases g2
  have ei : ev ρ ((0 : Int), ([(6, 1)] : List (Nat × Int))) = ((ρ 6)) := by show 0 + (1 * ρ 6 + 0) = _; omega
  have ew : ev ρ ((1 : Int), ([] : List (Nat × Int))) = (1 : Int) := by show 1 + 0 = _; omega
  rw [show (st M (ctj r_562) (ev ρ ((0 : Int), ([(6, 1)] : List (Nat × Int)))).toNat (ev ρ ((1 : Int), ([] : List (Nat × Int))))) = (st M 84 ((ρ 6)).toNat (1 : Int)) from by rw [ei, ew]; rfl]
  have H := cr_562 M (ρ 0) (ρ 1) (ρ 2) (ρ 3) (ρ 4) (ρ 5) (ρ 6) (hB _ List.mem_cons_self) (hB _ (List.mem_cons_of_mem _ List.mem_cons_self)) (hB _ (List.mem_cons_of_mem _ (List.mem_cons_of_mem _ List.mem_cons_self))) (hB _ (List.mem_cons_of_mem _ (List.mem_cons_of_mem _ (List.mem_cons_of_mem _ List.mem_cons_self)))) (hB _ (List.mem_cons_of_mem _ (List.mem_cons_of_mem _ (List.mem_cons_of_mem _ (List.mem_cons_of_mem _ List.mem_cons_self))))) (hB _ (List.mem_cons_of_mem _ (List.mem_cons_of_mem _ (List.mem_cons_of_mem _ (List.mem_cons_of_mem _ (List.mem_cons_of_mem _ List.mem_cons_self)))))) (hB _ (List.mem_cons_of_mem _ (List.mem_cons_of_mem _ (List.mem_cons_of_mem _ (List.mem_cons_of_mem _ (List.mem_cons_of_mem _ (List.mem_cons_of_mem _ List.mem_cons_self))))))) (cvp 145 (x' := (4096 * (ρ 0) + (ρ 1))) (y' := ((ρ 3) + 32 * (ρ 4) + 1024 * (ρ 5) + 131072 * (ρ 6) + 65536)) (by show 0 + (4096 * ρ 0 + (1 * ρ 1 + 0)) = _; omega) (by show 65536 + (1 * ρ 3 + (32 * ρ 4 + (1024 * ρ 5 + (131072 * ρ 6 + 0)))) = _; omega) (hm _ List.mem_cons_self)) (cvp 53 (x' := (4096 * (ρ 0) + (ρ 1))) (y' := (256 * (ρ 2) + 3)) (by show 0 + (4096 * ρ 0 + (1 * ρ 1 + 0)) = _; omega) (by show 3 + (256 * ρ 2 + 0) = _; omega) (hm _ (List.mem_cons_of_mem _ List.mem_cons_self))) (cvp 79 (x' := (16 * (ρ 0) + 1)) (y' := ((ρ 6))) (by show 1 + (16 * ρ 0 + 0) = _; omega) (by show 0 + (1 * ρ 6 + 0) = _; omega) (hm _ (List.mem_cons_of_mem _ (List.mem_cons_of_mem _ List.mem_cons_self)))) hG
  obtain ⟨k0, -⟩ := H
  exact ⟨_, List.mem_cons_self, ρ, fun _ _ => rfl, (okM_c (pvp 62 (by show 0 + (4096 * ρ 0 + (1 * ρ 1 + 0)) = _; omega) (by show 0 + (1 * ρ 3 + (32 * ρ 4 + (1024 * ρ 5 + 0))) = _; omega) k0) okM_n), okB_n, okF_n⟩
-- rlh_0
theorem cr_563 (M : pM) (s0 s1 s2 s3 s4 s5 : Int) (b0 : 0 ≤ s0 ∧ s0 ≤ 1900) (b1 : 0 ≤ s1 ∧ s1 ≤ 950) (b2 : 0 ≤ s2 ∧ s2 ≤ 12) (b3 : 0 ≤ s3 ∧ s3 ≤ 20) (b4 : 0 ≤ s4 ∧ s4 ≤ 4) (b5 : 0 ≤ s5 ∧ s5 ≤ 7) (m0 : HP 60 (4096 * s0 + s1) (s2 + 32 * s3 + 1024 * s4) M) (m1 : HP 87 (s0) (s5) M) (hG : gI M) : (HP 147 (4096 * s0 + s1) (s2 + 32 * s3 + 1024 * s4 + 131072 * s5) (st M 85 (s5).toNat (1 : Int)) ∧ True) := by
  have ht : tm (st M 85 (s5.toNat) (1 : Int)) = tm M := tm_st (by decide) (by decide)
  rw [show (s5).toNat = s5.toNat by omega]
  refine ⟨Eq.mpr hp_147 ?_, trivial⟩
  rw [ht]
  exact RL_m (fun _ _ _ _ _ h => agR_w85 h) (l_rlh (u := s5.toNat) (Eq.mp hp_60 m0) (by omega))
theorem rul_563 : Rul r_563 := by
  refine ⟨fun h => (by cases h), fun gi gv hg ρ M hm hB hF hG => ?_⟩
  obtain ⟨g1, g2⟩ := List.cons.inj (show ([aI ((0 : Int), ([(5, 1)] : List (Nat × Int))), aI ((1 : Int), ([] : List (Nat × Int)))] : List av) = [.inl gi, .inl gv] from hg)
  obtain ⟨g2, -⟩ := List.cons.inj g2
  cases g1
  cases g2
  have ei : ev ρ ((0 : Int), ([(5, 1)] : List (Nat × Int))) = ((ρ 5)) := by show 0 + (1 * ρ 5 + 0) = _; omega
  have ew : ev ρ ((1 : Int), ([] : List (Nat × Int))) = (1 : Int) := by show 1 + 0 = _; omega
  rw [show (st M (ctj r_563) (ev ρ ((0 : Int), ([(5, 1)] : List (Nat × Int)))).toNat (ev ρ ((1 : Int), ([] : List (Nat × Int))))) = (st M 85 ((ρ 5)).toNat (1 : Int)) from by rw [ei, ew]; rfl]
  have H := cr_563 M (ρ 0) (ρ 1) (ρ 2) (ρ 3) (ρ 4) (ρ 5) (hB _ List.mem_cons_self) (hB _ (List.mem_cons_of_mem _ List.mem_cons_self)) (hB _ (List.mem_cons_of_mem _ (List.mem_cons_of_mem _ List.mem_cons_self))) (hB _ (List.mem_cons_of_mem _ (List.mem_cons_of_mem _ (List.mem_cons_of_mem _ List.mem_cons_self)))) (hB _ (List.mem_cons_of_mem _ (List.mem_cons_of_mem _ (List.mem_cons_of_mem _ (List.mem_cons_of_mem _ List.mem_cons_self))))) (hB _ (List.mem_cons_of_mem _ (List.mem_cons_of_mem _ (List.mem_cons_of_mem _ (List.mem_cons_of_mem _ (List.mem_cons_of_mem _ List.mem_cons_self)))))) (cvp 60 (x' := (4096 * (ρ 0) + (ρ 1))) (y' := ((ρ 2) + 32 * (ρ 3) + 1024 * (ρ 4))) (by show 0 + (4096 * ρ 0 + (1 * ρ 1 + 0)) = _; omega) (by show 0 + (1 * ρ 2 + (32 * ρ 3 + (1024 * ρ 4 + 0))) = _; omega) (hm _ List.mem_cons_self)) (cvp 87 (x' := ((ρ 0))) (y' := ((ρ 5))) (by show 0 + (1 * ρ 0 + 0) = _; omega) (by show 0 + (1 * ρ 5 + 0) = _; omega) (hm _ (List.mem_cons_of_mem _ List.mem_cons_self))) hG
  obtain ⟨k0, -⟩ := H
  exact ⟨_, List.mem_cons_self, ρ, fun _ _ => rfl, (okM_c (pvp 147 (by show 0 + (4096 * ρ 0 + (1 * ρ 1 + 0)) = _; omega) (by show 0 + (1 * ρ 2 + (32 * ρ 3 + (1024 * ρ 4 + (131072 * ρ 5 + 0)))) = _; omega) k0) okM_n), okB_n, okF_n⟩
-- rlw_0
theorem cr_564 (M : pM) (s0 s1 s2 s3 s4 s5 s6 s7 : Int) (b0 : 0 ≤ s0 ∧ s0 ≤ 1900) (b1 : 0 ≤ s1 ∧ s1 ≤ 950) (b2 : 0 ≤ s2 ∧ s2 ≤ 12) (b3 : 0 ≤ s3 ∧ s3 ≤ 20) (b4 : 0 ≤ s4 ∧ s4 ≤ 4) (b5 : 0 ≤ s5 ∧ s5 ≤ 7) (b6 : 0 ≤ s6 ∧ s6 ≤ 5) (b7 : 0 ≤ s7 ∧ s7 ≤ 20) (m0 : HP 147 (4096 * s0 + s1) (s2 + 32 * s3 + 1024 * s4 + 131072 * s5 + 8192 * s6) M) (m1 : HP 87 (s0) (s5) M) (m2 : HP 79 (16 * s0 + s6 + 2) (s7) M) (hG : gI M) : (HP 147 (4096 * s0 + s1) (s2 + 32 * s3 + 1024 * s4 + 131072 * s5 + 8192 * s6 + 8192) (st M 70 (6 * s5 + s6).toNat (s7)) ∧ True) := by
  have hv := q79 (P := s0) (i := 2 + s6.toNat) m2 ⟨by omega, by omega⟩ (by omega)
  have ht : tm (st M 70 (48 * 0 + (6 * s5.toNat + s6.toNat)) (s7)) = tm M := tm_st (by decide) (by decide)
  rw [show (6 * s5 + s6).toNat = 48 * 0 + (6 * s5.toNat + s6.toNat) by omega]
  refine ⟨Eq.mpr hp_147 ?_, trivial⟩
  rw [ht]
  exact RL_m (fun _ _ _ _ _ h => agR_w70 h) (l_rlw (k := s6.toNat) (u := s5.toNat) (w := s2) (r := s3) (g := s4) (P := s0) (l := s1) (Eq.mp hp_147 m0) (by omega) ⟨⟨by omega, by omega⟩, ⟨by omega, by omega⟩, by omega, by omega⟩ (by omega) (by omega) ⟨by omega, by omega, by omega⟩ hv (by omega))
theorem rul_564 : Rul r_564 := by
  refine ⟨fun h => (by cases h), fun gi gv hg ρ M hm hB hF hG => ?_⟩
  obtain ⟨g1, g2⟩ := List.cons.inj (show ([aI ((0 : Int), ([(5, 6), (6, 1)] : List (Nat × Int))), aI ((0 : Int), ([(7, 1)] : List (Nat × Int)))] : List av) = [.inl gi, .inl gv] from hg)
  obtain ⟨g2, -⟩ := List.cons.inj g2
  cases g1
  cases g2
  have ei : ev ρ ((0 : Int), ([(5, 6), (6, 1)] : List (Nat × Int))) = (6 * (ρ 5) + (ρ 6)) := by show 0 + (6 * ρ 5 + (1 * ρ 6 + 0)) = _; omega
  have ew : ev ρ ((0 : Int), ([(7, 1)] : List (Nat × Int))) = ((ρ 7)) := by show 0 + (1 * ρ 7 + 0) = _; omega
  rw [show (st M (ctj r_564) (ev ρ ((0 : Int), ([(5, 6), (6, 1)] : List (Nat × Int)))).toNat (ev ρ ((0 : Int), ([(7, 1)] : List (Nat × Int))))) = (st M 70 (6 * (ρ 5) + (ρ 6)).toNat ((ρ 7))) from by rw [ei, ew]; rfl]
  have H := cr_564 M (ρ 0) (ρ 1) (ρ 2) (ρ 3) (ρ 4) (ρ 5) (ρ 6) (ρ 7) (hB _ List.mem_cons_self) (hB _ (List.mem_cons_of_mem _ List.mem_cons_self)) (hB _ (List.mem_cons_of_mem _ (List.mem_cons_of_mem _ List.mem_cons_self))) (hB _ (List.mem_cons_of_mem _ (List.mem_cons_of_mem _ (List.mem_cons_of_mem _ List.mem_cons_self)))) (hB _ (List.mem_cons_of_mem _ (List.mem_cons_of_mem _ (List.mem_cons_of_mem _ (List.mem_cons_of_mem _ List.mem_cons_self))))) (hB _ (List.mem_cons_of_mem _ (List.mem_cons_of_mem _ (List.mem_cons_of_mem _ (List.mem_cons_of_mem _ (List.mem_cons_of_mem _ List.mem_cons_self)))))) (hB _ (List.mem_cons_of_mem _ (List.mem_cons_of_mem _ (List.mem_cons_of_mem _ (List.mem_cons_of_mem _ (List.mem_cons_of_mem _ (List.mem_cons_of_mem _ List.mem_cons_self))))))) (hB _ (List.mem_cons_of_mem _ (List.mem_cons_of_mem _ (List.mem_cons_of_mem _ (List.mem_cons_of_mem _ (List.mem_cons_of_mem _ (List.mem_cons_of_mem _ (List.mem_cons_of_mem _ List.mem_cons_self)))))))) (cvp 147 (x' := (4096 * (ρ 0) + (ρ 1))) (y' := ((ρ 2) + 32 * (ρ 3) + 1024 * (ρ 4) + 131072 * (ρ 5) + 8192 * (ρ 6))) (by show 0 + (4096 * ρ 0 + (1 * ρ 1 + 0)) = _; omega) (by show 0 + (1 * ρ 2 + (32 * ρ 3 + (1024 * ρ 4 + (131072 * ρ 5 + (8192 * ρ 6 + 0))))) = _; omega) (hm _ List.mem_cons_self)) (cvp 87 (x' := ((ρ 0))) (y' := ((ρ 5))) (by show 0 + (1 * ρ 0 + 0) = _; omega) (by show 0 + (1 * ρ 5 + 0) = _; omega) (hm _ (List.mem_cons_of_mem _ List.mem_cons_self))) (cvp 79 (x' := (16 * (ρ 0) + (ρ 6) + 2)) (y' := ((ρ 7))) (by show 2 + (16 * ρ 0 + (1 * ρ 6 + 0)) = _; omega) (by show 0 + (1 * ρ 7 + 0) = _; omega) (hm _ (List.mem_cons_of_mem _ (List.mem_cons_of_mem _ List.mem_cons_self)))) hG
  obtain ⟨k0, -⟩ := H
  exact ⟨_, List.mem_cons_self, ρ, fun _ _ => rfl, (okM_c (pvp 147 (by show 0 + (4096 * ρ 0 + (1 * ρ 1 + 0)) = _; omega) (by show 8192 + (1 * ρ 2 + (32 * ρ 3 + (1024 * ρ 4 + (131072 * ρ 5 + (8192 * ρ 6 + 0))))) = _; omega) k0) okM_n), okB_n, okF_n⟩
-- rle_0
theorem cr_565 (M : pM) (s0 s1 s2 s3 s4 s5 s6 : Int) (b0 : 0 ≤ s0 ∧ s0 ≤ 1900) (b1 : 0 ≤ s1 ∧ s1 ≤ 950) (b2 : 0 ≤ s2 ∧ s2 ≤ 1900) (b3 : 0 ≤ s3 ∧ s3 ≤ 12) (b4 : 0 ≤ s4 ∧ s4 ≤ 20) (b5 : 0 ≤ s5 ∧ s5 ≤ 4) (b6 : 0 ≤ s6 ∧ s6 ≤ 7) (m0 : HP 147 (4096 * s0 + s1) (s3 + 32 * s4 + 1024 * s5 + 131072 * s6 + 49152) M) (m1 : HP 53 (4096 * s0 + s1) (256 * s2 + 24) M) (m2 : HP 87 (s0) (s6) M) (hG : gI M) : (HP 62 (4096 * s0 + s1) (s3 + 32 * s4 + 1024 * s5) M ∧ True) := by
  have hv := (Eq.mp hp_87 m2).2
  exact ⟨Eq.mpr hp_62 (l_rle (u := s6.toNat) (w := s3) (r := s4) (g := s5) (P := s0) (l := s1) (Eq.mp hp_147 m0) (by omega) ⟨⟨by omega, by omega⟩, ⟨by omega, by omega⟩, by omega, by omega⟩ (ex_o (K := 1) (j := 7) (a := s2) (Eq.mp hp_53 m1) ⟨by omega, by omega, by decide, by decide⟩) ⟨by omega, by omega, by omega⟩ (by omega) (by omega)), trivial⟩
theorem rul_565 : Rul r_565 := by
  refine ⟨fun _ ρ M hm hB hF hG => ?_, fun gi gv hg => (by cases hg)⟩
  have H := cr_565 M (ρ 0) (ρ 1) (ρ 2) (ρ 3) (ρ 4) (ρ 5) (ρ 6) (hB _ List.mem_cons_self) (hB _ (List.mem_cons_of_mem _ List.mem_cons_self)) (hB _ (List.mem_cons_of_mem _ (List.mem_cons_of_mem _ List.mem_cons_self))) (hB _ (List.mem_cons_of_mem _ (List.mem_cons_of_mem _ (List.mem_cons_of_mem _ List.mem_cons_self)))) (hB _ (List.mem_cons_of_mem _ (List.mem_cons_of_mem _ (List.mem_cons_of_mem _ (List.mem_cons_of_mem _ List.mem_cons_self))))) (hB _ (List.mem_cons_of_mem _ (List.mem_cons_of_mem _ (List.mem_cons_of_mem _ (List.mem_cons_of_mem _ (List.mem_cons_of_mem _ List.mem_cons_self)))))) (hB _ (List.mem_cons_of_mem _ (List.mem_cons_of_mem _ (List.mem_cons_of_mem _ (List.mem_cons_of_mem _ (List.mem_cons_of_mem _ (List.mem_cons_of_mem _ List.mem_cons_self))))))) (cvp 147 (x' := (4096 * (ρ 0) + (ρ 1))) (y' := ((ρ 3) + 32 * (ρ 4) + 1024 * (ρ 5) + 131072 * (ρ 6) + 49152)) (by show 0 + (4096 * ρ 0 + (1 * ρ 1 + 0)) = _; omega) (by show 49152 + (1 * ρ 3 + (32 * ρ 4 + (1024 * ρ 5 + (131072 * ρ 6 + 0)))) = _; omega) (hm _ List.mem_cons_self)) (cvp 53 (x' := (4096 * (ρ 0) + (ρ 1))) (y' := (256 * (ρ 2) + 24)) (by show 0 + (4096 * ρ 0 + (1 * ρ 1 + 0)) = _; omega) (by show 24 + (256 * ρ 2 + 0) = _; omega) (hm _ (List.mem_cons_of_mem _ List.mem_cons_self))) (cvp 87 (x' := ((ρ 0))) (y' := ((ρ 6))) (by show 0 + (1 * ρ 0 + 0) = _; omega) (by show 0 + (1 * ρ 6 + 0) = _; omega) (hm _ (List.mem_cons_of_mem _ (List.mem_cons_of_mem _ List.mem_cons_self)))) hG
  obtain ⟨k0, -⟩ := H
  exact ⟨_, List.mem_cons_self, ρ, fun _ _ => rfl, (okM_c (pvp 62 (by show 0 + (4096 * ρ 0 + (1 * ρ 1 + 0)) = _; omega) (by show 0 + (1 * ρ 3 + (32 * ρ 4 + (1024 * ρ 5 + 0))) = _; omega) k0) okM_n), okB_n, okF_n⟩
-- rxa_0
theorem cr_566 (M : pM) (s0 s1 s2 s3 s4 s5 s6 s7 : Int) (b0 : 0 ≤ s0 ∧ s0 ≤ 1900) (b1 : 0 ≤ s1 ∧ s1 ≤ 950) (b2 : 0 ≤ s2 ∧ s2 ≤ 1900) (b3 : 0 ≤ s3 ∧ s3 ≤ 12) (b4 : 0 ≤ s4 ∧ s4 ≤ 20) (b5 : 0 ≤ s5 ∧ s5 ≤ 4) (b6 : 0 ≤ s6 ∧ s6 ≤ 5) (b7 : 0 ≤ s7 ∧ s7 ≤ 3) (m0 : HP 60 (4096 * s0 + s1) (s3 + 32 * s4 + 1024 * s5) M) (m1 : HP 53 (4096 * s0 + s1) (256 * s2 + 36) M) (m2 : HP 79 (16 * s0 + 1) (s6) M) (m3 : HP 88 (s0) (s7) M) (hG : gI M) : (HP 151 (4096 * s0 + s1) (s3 + 32 * s4 + 1024 * s5) (st M 71 (s6).toNat (s7)) ∧ True) := by
  have ht : tm (st M 71 (6 * 0 + (s6.toNat)) (s7)) = tm M := tm_st (by decide) (by decide)
  rw [show (s6).toNat = 6 * 0 + (s6.toNat) by omega]
  refine ⟨Eq.mpr hp_151 ?_, trivial⟩
  rw [ht]
  exact RX_m (fun _ _ _ _ _ h => agR_w71 h) (l_rxa (P := s0) (l := s1) (Eq.mp hp_60 m0) ⟨by omega, by omega, by omega⟩ (q79 (P := s0) (i := 1) m2 ⟨by omega, by decide⟩ (by omega)) (Eq.mp hp_88 m3).2 (by omega))
theorem rul_566 : Rul r_566 := by
  refine ⟨fun h => (by cases h), fun gi gv hg ρ M hm hB hF hG => ?_⟩
  obtain ⟨g1, g2⟩ := List.cons.inj (show ([aI ((0 : Int), ([(6, 1)] : List (Nat × Int))), aI ((0 : Int), ([(7, 1)] : List (Nat × Int)))] : List av) = [.inl gi, .inl gv] from hg)
  obtain ⟨g2, -⟩ := List.cons.inj g2
  cases g1
  cases g2
  have ei : ev ρ ((0 : Int), ([(6, 1)] : List (Nat × Int))) = ((ρ 6)) := by show 0 + (1 * ρ 6 + 0) = _; omega
  have ew : ev ρ ((0 : Int), ([(7, 1)] : List (Nat × Int))) = ((ρ 7)) := by show 0 + (1 * ρ 7 + 0) = _; omega
  rw [show (st M (ctj r_566) (ev ρ ((0 : Int), ([(6, 1)] : List (Nat × Int)))).toNat (ev ρ ((0 : Int), ([(7, 1)] : List (Nat × Int))))) = (st M 71 ((ρ 6)).toNat ((ρ 7))) from by rw [ei, ew]; rfl]
  have H := cr_566 M (ρ 0) (ρ 1) (ρ 2) (ρ 3) (ρ 4) (ρ 5) (ρ 6) (ρ 7) (hB _ List.mem_cons_self) (hB _ (List.mem_cons_of_mem _ List.mem_cons_self)) (hB _ (List.mem_cons_of_mem _ (List.mem_cons_of_mem _ List.mem_cons_self))) (hB _ (List.mem_cons_of_mem _ (List.mem_cons_of_mem _ (List.mem_cons_of_mem _ List.mem_cons_self)))) (hB _ (List.mem_cons_of_mem _ (List.mem_cons_of_mem _ (List.mem_cons_of_mem _ (List.mem_cons_of_mem _ List.mem_cons_self))))) (hB _ (List.mem_cons_of_mem _ (List.mem_cons_of_mem _ (List.mem_cons_of_mem _ (List.mem_cons_of_mem _ (List.mem_cons_of_mem _ List.mem_cons_self)))))) (hB _ (List.mem_cons_of_mem _ (List.mem_cons_of_mem _ (List.mem_cons_of_mem _ (List.mem_cons_of_mem _ (List.mem_cons_of_mem _ (List.mem_cons_of_mem _ List.mem_cons_self))))))) (hB _ (List.mem_cons_of_mem _ (List.mem_cons_of_mem _ (List.mem_cons_of_mem _ (List.mem_cons_of_mem _ (List.mem_cons_of_mem _ (List.mem_cons_of_mem _ (List.mem_cons_of_mem _ List.mem_cons_self)))))))) (cvp 60 (x' := (4096 * (ρ 0) + (ρ 1))) (y' := ((ρ 3) + 32 * (ρ 4) + 1024 * (ρ 5))) (by show 0 + (4096 * ρ 0 + (1 * ρ 1 + 0)) = _; omega) (by show 0 + (1 * ρ 3 + (32 * ρ 4 + (1024 * ρ 5 + 0))) = _; omega) (hm _ List.mem_cons_self)) (cvp 53 (x' := (4096 * (ρ 0) + (ρ 1))) (y' := (256 * (ρ 2) + 36)) (by show 0 + (4096 * ρ 0 + (1 * ρ 1 + 0)) = _; omega) (by show 36 + (256 * ρ 2 + 0) = _; omega) (hm _ (List.mem_cons_of_mem _ List.mem_cons_self))) (cvp 79 (x' := (16 * (ρ 0) + 1)) (y' := ((ρ 6))) (by show 1 + (16 * ρ 0 + 0) = _; omega) (by show 0 + (1 * ρ 6 + 0) = _; omega) (hm _ (List.mem_cons_of_mem _ (List.mem_cons_of_mem _ List.mem_cons_self)))) (cvp 88 (x' := ((ρ 0))) (y' := ((ρ 7))) (by show 0 + (1 * ρ 0 + 0) = _; omega) (by show 0 + (1 * ρ 7 + 0) = _; omega) (hm _ (List.mem_cons_of_mem _ (List.mem_cons_of_mem _ (List.mem_cons_of_mem _ List.mem_cons_self))))) hG
  obtain ⟨k0, -⟩ := H
  exact ⟨_, List.mem_cons_self, ρ, fun _ _ => rfl, (okM_c (pvp 151 (by show 0 + (4096 * ρ 0 + (1 * ρ 1 + 0)) = _; omega) (by show 0 + (1 * ρ 3 + (32 * ρ 4 + (1024 * ρ 5 + 0))) = _; omega) k0) okM_n), okB_n, okF_n⟩
-- rxb_0
theorem cr_567 (M : pM) (s0 s1 s2 s3 s4 s5 s6 s7 : Int) (b0 : 0 ≤ s0 ∧ s0 ≤ 1900) (b1 : 0 ≤ s1 ∧ s1 ≤ 950) (b2 : 0 ≤ s2 ∧ s2 ≤ 1900) (b3 : 0 ≤ s3 ∧ s3 ≤ 12) (b4 : 0 ≤ s4 ∧ s4 ≤ 20) (b5 : 0 ≤ s5 ∧ s5 ≤ 4) (b6 : 0 ≤ s6 ∧ s6 ≤ 5) (b7 : 0 ≤ s7 ∧ s7 ≤ 3) (m0 : HP 151 (4096 * s0 + s1) (s3 + 32 * s4 + 1024 * s5) M) (m1 : HP 53 (4096 * s0 + s1) (256 * s2 + 36) M) (m2 : HP 79 (16 * s0 + 1) (s6) M) (m3 : HP 79 (16 * s0 + 3) (s7) M) (hG : gI M) : (HP 62 (4096 * s0 + s1) (s3 + 32 * s4 + 1024 * s5) (st M 72 (s6).toNat (s7)) ∧ True) := by
  have ht : tm (st M 72 (6 * 0 + (s6.toNat)) (s7)) = tm M := tm_st (by decide) (by decide)
  rw [show (s6).toNat = 6 * 0 + (s6.toNat) by omega]
  refine ⟨Eq.mpr hp_62 ?_, trivial⟩
  rw [ht]
  exact RW_m (fun _ _ _ _ _ h => agR_w72 h) (l_rxb (P := s0) (l := s1) (Eq.mp hp_151 m0) (ex_o (K := 2) (j := 3) (a := s2) (Eq.mp hp_53 m1) ⟨by omega, by omega, by decide, by decide⟩) ⟨by omega, by omega, by omega⟩ (q79 (P := s0) (i := 1) m2 ⟨by omega, by decide⟩ (by omega)) (q79 (P := s0) (i := 3) m3 ⟨by omega, by decide⟩ (by omega)) (by omega))
theorem rul_567 : Rul r_567 := by
  refine ⟨fun h => (by cases h), fun gi gv hg ρ M hm hB hF hG => ?_⟩
  obtain ⟨g1, g2⟩ := List.cons.inj (show ([aI ((0 : Int), ([(6, 1)] : List (Nat × Int))), aI ((0 : Int), ([(7, 1)] : List (Nat × Int)))] : List av) = [.inl gi, .inl gv] from hg)
  obtain ⟨g2, -⟩ := List.cons.inj g2
  cases g1
  cases g2
  have ei : ev ρ ((0 : Int), ([(6, 1)] : List (Nat × Int))) = ((ρ 6)) := by show 0 + (1 * ρ 6 + 0) = _; omega
  have ew : ev ρ ((0 : Int), ([(7, 1)] : List (Nat × Int))) = ((ρ 7)) := by show 0 + (1 * ρ 7 + 0) = _; omega
  rw [show (st M (ctj r_567) (ev ρ ((0 : Int), ([(6, 1)] : List (Nat × Int)))).toNat (ev ρ ((0 : Int), ([(7, 1)] : List (Nat × Int))))) = (st M 72 ((ρ 6)).toNat ((ρ 7))) from by rw [ei, ew]; rfl]
  have H := cr_567 M (ρ 0) (ρ 1) (ρ 2) (ρ 3) (ρ 4) (ρ 5) (ρ 6) (ρ 7) (hB _ List.mem_cons_self) (hB _ (List.mem_cons_of_mem _ List.mem_cons_self)) (hB _ (List.mem_cons_of_mem _ (List.mem_cons_of_mem _ List.mem_cons_self))) (hB _ (List.mem_cons_of_mem _ (List.mem_cons_of_mem _ (List.mem_cons_of_mem _ List.mem_cons_self)))) (hB _ (List.mem_cons_of_mem _ (List.mem_cons_of_mem _ (List.mem_cons_of_mem _ (List.mem_cons_of_mem _ List.mem_cons_self))))) (hB _ (List.mem_cons_of_mem _ (List.mem_cons_of_mem _ (List.mem_cons_of_mem _ (List.mem_cons_of_mem _ (List.mem_cons_of_mem _ List.mem_cons_self)))))) (hB _ (List.mem_cons_of_mem _ (List.mem_cons_of_mem _ (List.mem_cons_of_mem _ (List.mem_cons_of_mem _ (List.mem_cons_of_mem _ (List.mem_cons_of_mem _ List.mem_cons_self))))))) (hB _ (List.mem_cons_of_mem _ (List.mem_cons_of_mem _ (List.mem_cons_of_mem _ (List.mem_cons_of_mem _ (List.mem_cons_of_mem _ (List.mem_cons_of_mem _ (List.mem_cons_of_mem _ List.mem_cons_self)))))))) (cvp 151 (x' := (4096 * (ρ 0) + (ρ 1))) (y' := ((ρ 3) + 32 * (ρ 4) + 1024 * (ρ 5))) (by show 0 + (4096 * ρ 0 + (1 * ρ 1 + 0)) = _; omega) (by show 0 + (1 * ρ 3 + (32 * ρ 4 + (1024 * ρ 5 + 0))) = _; omega) (hm _ List.mem_cons_self)) (cvp 53 (x' := (4096 * (ρ 0) + (ρ 1))) (y' := (256 * (ρ 2) + 36)) (by show 0 + (4096 * ρ 0 + (1 * ρ 1 + 0)) = _; omega) (by show 36 + (256 * ρ 2 + 0) = _; omega) (hm _ (List.mem_cons_of_mem _ List.mem_cons_self))) (cvp 79 (x' := (16 * (ρ 0) + 1)) (y' := ((ρ 6))) (by show 1 + (16 * ρ 0 + 0) = _; omega) (by show 0 + (1 * ρ 6 + 0) = _; omega) (hm _ (List.mem_cons_of_mem _ (List.mem_cons_of_mem _ List.mem_cons_self)))) (cvp 79 (x' := (16 * (ρ 0) + 3)) (y' := ((ρ 7))) (by show 3 + (16 * ρ 0 + 0) = _; omega) (by show 0 + (1 * ρ 7 + 0) = _; omega) (hm _ (List.mem_cons_of_mem _ (List.mem_cons_of_mem _ (List.mem_cons_of_mem _ List.mem_cons_self))))) hG
  obtain ⟨k0, -⟩ := H
  exact ⟨_, List.mem_cons_self, ρ, fun _ _ => rfl, (okM_c (pvp 62 (by show 0 + (4096 * ρ 0 + (1 * ρ 1 + 0)) = _; omega) (by show 0 + (1 * ρ 3 + (32 * ρ 4 + (1024 * ρ 5 + 0))) = _; omega) k0) okM_n), okB_n, okF_n⟩
-- rtw_0
theorem cr_568 (M : pM) (s0 s1 s2 s3 s4 s5 s6 s7 : Int) (b0 : 0 ≤ s0 ∧ s0 ≤ 1900) (b1 : 0 ≤ s1 ∧ s1 ≤ 950) (b2 : 0 ≤ s2 ∧ s2 ≤ 1900) (b3 : 0 ≤ s3 ∧ s3 ≤ 12) (b4 : 0 ≤ s4 ∧ s4 ≤ 20) (b5 : 0 ≤ s5 ∧ s5 ≤ 4) (b6 : 0 ≤ s6 ∧ s6 ≤ 5) (b7 : 1 ≤ s7 ∧ s7 ≤ 40) (m0 : HP 60 (4096 * s0 + s1) (s3 + 32 * s4 + 1024 * s5) M) (m1 : HP 53 (4096 * s0 + s1) (256 * s2 + 51) M) (m2 : HP 79 (16 * s0 + 1) (s6) M) (m3 : HP 79 (16 * s0 + 2) (s7) M) (hG : gI M) : (HP 62 (4096 * s0 + s1) (s3 + 32 * s4 + 1024 * s5) (st M 73 (s6).toNat (s7)) ∧ True) := by
  have ht : tm (st M 73 (6 * 0 + (s6.toNat)) (s7)) = tm M := tm_st (by decide) (by decide)
  rw [show (s6).toNat = 6 * 0 + (s6.toNat) by omega]
  refine ⟨Eq.mpr hp_62 ?_, trivial⟩
  rw [ht]
  exact RW_m (fun _ _ _ _ _ h => agR_w73 h) (l_rtw (P := s0) (l := s1) (Eq.mp hp_60 m0) (ex_o (K := 3) (j := 2) (a := s2) (Eq.mp hp_53 m1) ⟨by omega, by omega, by decide, by decide⟩) ⟨by omega, by omega, by omega⟩ (q79 (P := s0) (i := 1) m2 ⟨by omega, by decide⟩ (by omega)) (q79 (P := s0) (i := 2) m3 ⟨by omega, by decide⟩ (by omega)) (by omega))
theorem rul_568 : Rul r_568 := by
  refine ⟨fun h => (by cases h), fun gi gv hg ρ M hm hB hF hG => ?_⟩
  obtain ⟨g1, g2⟩ := List.cons.inj (show ([aI ((0 : Int), ([(6, 1)] : List (Nat × Int))), aI ((0 : Int), ([(7, 1)] : List (Nat × Int)))] : List av) = [.inl gi, .inl gv] from hg)
  obtain ⟨g2, -⟩ := List.cons.inj g2
  cases g1
  cases g2
  have ei : ev ρ ((0 : Int), ([(6, 1)] : List (Nat × Int))) = ((ρ 6)) := by show 0 + (1 * ρ 6 + 0) = _; omega
  have ew : ev ρ ((0 : Int), ([(7, 1)] : List (Nat × Int))) = ((ρ 7)) := by show 0 + (1 * ρ 7 + 0) = _; omega
  rw [show (st M (ctj r_568) (ev ρ ((0 : Int), ([(6, 1)] : List (Nat × Int)))).toNat (ev ρ ((0 : Int), ([(7, 1)] : List (Nat × Int))))) = (st M 73 ((ρ 6)).toNat ((ρ 7))) from by rw [ei, ew]; rfl]
  have H := cr_568 M (ρ 0) (ρ 1) (ρ 2) (ρ 3) (ρ 4) (ρ 5) (ρ 6) (ρ 7) (hB _ List.mem_cons_self) (hB _ (List.mem_cons_of_mem _ List.mem_cons_self)) (hB _ (List.mem_cons_of_mem _ (List.mem_cons_of_mem _ List.mem_cons_self))) (hB _ (List.mem_cons_of_mem _ (List.mem_cons_of_mem _ (List.mem_cons_of_mem _ List.mem_cons_self)))) (hB _ (List.mem_cons_of_mem _ (List.mem_cons_of_mem _ (List.mem_cons_of_mem _ (List.mem_cons_of_mem _ List.mem_cons_self))))) (hB _ (List.mem_cons_of_mem _ (List.mem_cons_of_mem _ (List.mem_cons_of_mem _ (List.mem_cons_of_mem _ (List.mem_cons_of_mem _ List.mem_cons_self)))))) (hB _ (List.mem_cons_of_mem _ (List.mem_cons_of_mem _ (List.mem_cons_of_mem _ (List.mem_cons_of_mem _ (List.mem_cons_of_mem _ (List.mem_cons_of_mem _ List.mem_cons_self))))))) (hB _ (List.mem_cons_of_mem _ (List.mem_cons_of_mem _ (List.mem_cons_of_mem _ (List.mem_cons_of_mem _ (List.mem_cons_of_mem _ (List.mem_cons_of_mem _ (List.mem_cons_of_mem _ List.mem_cons_self)))))))) (cvp 60 (x' := (4096 * (ρ 0) + (ρ 1))) (y' := ((ρ 3) + 32 * (ρ 4) + 1024 * (ρ 5))) (by show 0 + (4096 * ρ 0 + (1 * ρ 1 + 0)) = _; omega) (by show 0 + (1 * ρ 3 + (32 * ρ 4 + (1024 * ρ 5 + 0))) = _; omega) (hm _ List.mem_cons_self)) (cvp 53 (x' := (4096 * (ρ 0) + (ρ 1))) (y' := (256 * (ρ 2) + 51)) (by show 0 + (4096 * ρ 0 + (1 * ρ 1 + 0)) = _; omega) (by show 51 + (256 * ρ 2 + 0) = _; omega) (hm _ (List.mem_cons_of_mem _ List.mem_cons_self))) (cvp 79 (x' := (16 * (ρ 0) + 1)) (y' := ((ρ 6))) (by show 1 + (16 * ρ 0 + 0) = _; omega) (by show 0 + (1 * ρ 6 + 0) = _; omega) (hm _ (List.mem_cons_of_mem _ (List.mem_cons_of_mem _ List.mem_cons_self)))) (cvp 79 (x' := (16 * (ρ 0) + 2)) (y' := ((ρ 7))) (by show 2 + (16 * ρ 0 + 0) = _; omega) (by show 0 + (1 * ρ 7 + 0) = _; omega) (hm _ (List.mem_cons_of_mem _ (List.mem_cons_of_mem _ (List.mem_cons_of_mem _ List.mem_cons_self))))) hG
  obtain ⟨k0, -⟩ := H
  exact ⟨_, List.mem_cons_self, ρ, fun _ _ => rfl, (okM_c (pvp 62 (by show 0 + (4096 * ρ 0 + (1 * ρ 1 + 0)) = _; omega) (by show 0 + (1 * ρ 3 + (32 * ρ 4 + (1024 * ρ 5 + 0))) = _; omega) k0) okM_n), okB_n, okF_n⟩
-- rap74_0
theorem cr_569 (M : pM) (s0 s1 s2 s3 s4 s5 s6 : Int) (b0 : 0 ≤ s0 ∧ s0 ≤ 1900) (b1 : 0 ≤ s1 ∧ s1 ≤ 950) (b2 : 0 ≤ s2 ∧ s2 ≤ 12) (b3 : 0 ≤ s3 ∧ s3 ≤ 20) (b4 : 0 ≤ s4 ∧ s4 ≤ 4) (b5 : 0 ≤ s5 ∧ s5 ≤ 23) (b6 : 0 ≤ s6 ∧ s6 ≤ 63) (m0 : HP 60 (4096 * s0 + s1) (s2 + 32 * s3 + 1024 * s4) M) (f0 : 0 ≤ ((-1) * s2 + s5)) (hG : gI M) : (HP 60 (4096 * s0 + s1) (s2 + 32 * s3 + 1024 * s4) (st M 74 (s5).toNat (s6)) ∧ True) := by
  have ht : tm (st M 74 (12 * 0 + ((s5 - 0).toNat)) (s6)) = tm M := tm_st (by decide) (by decide)
  rw [show (s5).toNat = 12 * 0 + ((s5 - 0).toNat) by omega]
  refine ⟨Eq.mpr hp_60 ?_, trivial⟩
  rw [ht]
  exact RA_m (fun _ _ _ _ _ h => agR_w74 h) (l_rap (c := 5) (w := s2) (r := s3) (g := s4) (Eq.mp hp_60 m0) (by omega) ⟨⟨by omega, by omega⟩, ⟨by omega, by omega⟩, by omega, by omega⟩ (by omega) (by decide))
theorem rul_569 : Rul r_569 := by
  refine ⟨fun h => (by cases h), fun gi gv hg ρ M hm hB hF hG => ?_⟩
  obtain ⟨g1, g2⟩ := List.cons.inj (show ([aI ((0 : Int), ([(5, 1)] : List (Nat × Int))), aI ((0 : Int), ([(6, 1)] : List (Nat × Int)))] : List av) = [.inl gi, .inl gv] from hg)
  obtain ⟨g2, -⟩ := List.cons.inj g2
  cases g1
  cases g2
  have ei : ev ρ ((0 : Int), ([(5, 1)] : List (Nat × Int))) = ((ρ 5)) := by show 0 + (1 * ρ 5 + 0) = _; omega
  have ew : ev ρ ((0 : Int), ([(6, 1)] : List (Nat × Int))) = ((ρ 6)) := by show 0 + (1 * ρ 6 + 0) = _; omega
  rw [show (st M (ctj r_569) (ev ρ ((0 : Int), ([(5, 1)] : List (Nat × Int)))).toNat (ev ρ ((0 : Int), ([(6, 1)] : List (Nat × Int))))) = (st M 74 ((ρ 5)).toNat ((ρ 6))) from by rw [ei, ew]; rfl]
  have H := cr_569 M (ρ 0) (ρ 1) (ρ 2) (ρ 3) (ρ 4) (ρ 5) (ρ 6) (hB _ List.mem_cons_self) (hB _ (List.mem_cons_of_mem _ List.mem_cons_self)) (hB _ (List.mem_cons_of_mem _ (List.mem_cons_of_mem _ List.mem_cons_self))) (hB _ (List.mem_cons_of_mem _ (List.mem_cons_of_mem _ (List.mem_cons_of_mem _ List.mem_cons_self)))) (hB _ (List.mem_cons_of_mem _ (List.mem_cons_of_mem _ (List.mem_cons_of_mem _ (List.mem_cons_of_mem _ List.mem_cons_self))))) (hB _ (List.mem_cons_of_mem _ (List.mem_cons_of_mem _ (List.mem_cons_of_mem _ (List.mem_cons_of_mem _ (List.mem_cons_of_mem _ List.mem_cons_self)))))) (hB _ (List.mem_cons_of_mem _ (List.mem_cons_of_mem _ (List.mem_cons_of_mem _ (List.mem_cons_of_mem _ (List.mem_cons_of_mem _ (List.mem_cons_of_mem _ List.mem_cons_self))))))) (cvp 60 (x' := (4096 * (ρ 0) + (ρ 1))) (y' := ((ρ 2) + 32 * (ρ 3) + 1024 * (ρ 4))) (by show 0 + (4096 * ρ 0 + (1 * ρ 1 + 0)) = _; omega) (by show 0 + (1 * ρ 2 + (32 * ρ 3 + (1024 * ρ 4 + 0))) = _; omega) (hm _ List.mem_cons_self)) (by have h := hF _ List.mem_cons_self; have h : 0 ≤ 0 + ((-1) * ρ 2 + (1 * ρ 5 + 0)) := h; omega) hG
  obtain ⟨k0, -⟩ := H
  exact ⟨_, List.mem_cons_self, ρ, fun _ _ => rfl, (okM_c (pvp 60 (by show 0 + (4096 * ρ 0 + (1 * ρ 1 + 0)) = _; omega) (by show 0 + (1 * ρ 2 + (32 * ρ 3 + (1024 * ρ 4 + 0))) = _; omega) k0) okM_n), okB_n, okF_n⟩
-- rap75_0
theorem cr_570 (M : pM) (s0 s1 s2 s3 s4 s5 s6 : Int) (b0 : 0 ≤ s0 ∧ s0 ≤ 1900) (b1 : 0 ≤ s1 ∧ s1 ≤ 950) (b2 : 0 ≤ s2 ∧ s2 ≤ 12) (b3 : 0 ≤ s3 ∧ s3 ≤ 20) (b4 : 0 ≤ s4 ∧ s4 ≤ 4) (b5 : 0 ≤ s5 ∧ s5 ≤ 23) (b6 : 0 ≤ s6 ∧ s6 ≤ 63) (m0 : HP 60 (4096 * s0 + s1) (s2 + 32 * s3 + 1024 * s4) M) (f0 : 0 ≤ ((-1) * s2 + s5)) (hG : gI M) : (HP 60 (4096 * s0 + s1) (s2 + 32 * s3 + 1024 * s4) (st M 75 (s5).toNat (s6)) ∧ True) := by
  have ht : tm (st M 75 (12 * 0 + ((s5 - 0).toNat)) (s6)) = tm M := tm_st (by decide) (by decide)
  rw [show (s5).toNat = 12 * 0 + ((s5 - 0).toNat) by omega]
  refine ⟨Eq.mpr hp_60 ?_, trivial⟩
  rw [ht]
  exact RA_m (fun _ _ _ _ _ h => agR_w75 h) (l_rap (c := 6) (w := s2) (r := s3) (g := s4) (Eq.mp hp_60 m0) (by omega) ⟨⟨by omega, by omega⟩, ⟨by omega, by omega⟩, by omega, by omega⟩ (by omega) (by decide))
theorem rul_570 : Rul r_570 := by
  refine ⟨fun h => (by cases h), fun gi gv hg ρ M hm hB hF hG => ?_⟩
  obtain ⟨g1, g2⟩ := List.cons.inj (show ([aI ((0 : Int), ([(5, 1)] : List (Nat × Int))), aI ((0 : Int), ([(6, 1)] : List (Nat × Int)))] : List av) = [.inl gi, .inl gv] from hg)
  obtain ⟨g2, -⟩ := List.cons.inj g2
  cases g1
  cases g2
  have ei : ev ρ ((0 : Int), ([(5, 1)] : List (Nat × Int))) = ((ρ 5)) := by show 0 + (1 * ρ 5 + 0) = _; omega
  have ew : ev ρ ((0 : Int), ([(6, 1)] : List (Nat × Int))) = ((ρ 6)) := by show 0 + (1 * ρ 6 + 0) = _; omega
  rw [show (st M (ctj r_570) (ev ρ ((0 : Int), ([(5, 1)] : List (Nat × Int)))).toNat (ev ρ ((0 : Int), ([(6, 1)] : List (Nat × Int))))) = (st M 75 ((ρ 5)).toNat ((ρ 6))) from by rw [ei, ew]; rfl]
  have H := cr_570 M (ρ 0) (ρ 1) (ρ 2) (ρ 3) (ρ 4) (ρ 5) (ρ 6) (hB _ List.mem_cons_self) (hB _ (List.mem_cons_of_mem _ List.mem_cons_self)) (hB _ (List.mem_cons_of_mem _ (List.mem_cons_of_mem _ List.mem_cons_self))) (hB _ (List.mem_cons_of_mem _ (List.mem_cons_of_mem _ (List.mem_cons_of_mem _ List.mem_cons_self)))) (hB _ (List.mem_cons_of_mem _ (List.mem_cons_of_mem _ (List.mem_cons_of_mem _ (List.mem_cons_of_mem _ List.mem_cons_self))))) (hB _ (List.mem_cons_of_mem _ (List.mem_cons_of_mem _ (List.mem_cons_of_mem _ (List.mem_cons_of_mem _ (List.mem_cons_of_mem _ List.mem_cons_self)))))) (hB _ (List.mem_cons_of_mem _ (List.mem_cons_of_mem _ (List.mem_cons_of_mem _ (List.mem_cons_of_mem _ (List.mem_cons_of_mem _ (List.mem_cons_of_mem _ List.mem_cons_self))))))) (cvp 60 (x' := (4096 * (ρ 0) + (ρ 1))) (y' := ((ρ 2) + 32 * (ρ 3) + 1024 * (ρ 4))) (by show 0 + (4096 * ρ 0 + (1 * ρ 1 + 0)) = _; omega) (by show 0 + (1 * ρ 2 + (32 * ρ 3 + (1024 * ρ 4 + 0))) = _; omega) (hm _ List.mem_cons_self)) (by have h := hF _ List.mem_cons_self; have h : 0 ≤ 0 + ((-1) * ρ 2 + (1 * ρ 5 + 0)) := h; omega) hG
  obtain ⟨k0, -⟩ := H
  exact ⟨_, List.mem_cons_self, ρ, fun _ _ => rfl, (okM_c (pvp 60 (by show 0 + (4096 * ρ 0 + (1 * ρ 1 + 0)) = _; omega) (by show 0 + (1 * ρ 2 + (32 * ρ 3 + (1024 * ρ 4 + 0))) = _; omega) k0) okM_n), okB_n, okF_n⟩
-- rap76_0
theorem cr_571 (M : pM) (s0 s1 s2 s3 s4 s5 s6 : Int) (b0 : 0 ≤ s0 ∧ s0 ≤ 1900) (b1 : 0 ≤ s1 ∧ s1 ≤ 950) (b2 : 0 ≤ s2 ∧ s2 ≤ 12) (b3 : 0 ≤ s3 ∧ s3 ≤ 20) (b4 : 0 ≤ s4 ∧ s4 ≤ 4) (b5 : 0 ≤ s5 ∧ s5 ≤ 23) (b6 : 0 ≤ s6 ∧ s6 ≤ 63) (m0 : HP 60 (4096 * s0 + s1) (s2 + 32 * s3 + 1024 * s4) M) (f0 : 0 ≤ ((-1) * s2 + s5)) (hG : gI M) : (HP 60 (4096 * s0 + s1) (s2 + 32 * s3 + 1024 * s4) (st M 76 (s5).toNat (s6)) ∧ True) := by
  have ht : tm (st M 76 (12 * 0 + ((s5 - 0).toNat)) (s6)) = tm M := tm_st (by decide) (by decide)
  rw [show (s5).toNat = 12 * 0 + ((s5 - 0).toNat) by omega]
  refine ⟨Eq.mpr hp_60 ?_, trivial⟩
  rw [ht]
  exact RA_m (fun _ _ _ _ _ h => agR_w76 h) (l_rap (c := 7) (w := s2) (r := s3) (g := s4) (Eq.mp hp_60 m0) (by omega) ⟨⟨by omega, by omega⟩, ⟨by omega, by omega⟩, by omega, by omega⟩ (by omega) (by decide))
theorem rul_571 : Rul r_571 := by
  refine ⟨fun h => (by cases h), fun gi gv hg ρ M hm hB hF hG => ?_⟩
  obtain ⟨g1, g2⟩ := List.cons.inj (show ([aI ((0 : Int), ([(5, 1)] : List (Nat × Int))), aI ((0 : Int), ([(6, 1)] : List (Nat × Int)))] : List av) = [.inl gi, .inl gv] from hg)
  obtain ⟨g2, -⟩ := List.cons.inj g2
  cases g1
  cases g2
  have ei : ev ρ ((0 : Int), ([(5, 1)] : List (Nat × Int))) = ((ρ 5)) := by show 0 + (1 * ρ 5 + 0) = _; omega
  have ew : ev ρ ((0 : Int), ([(6, 1)] : List (Nat × Int))) = ((ρ 6)) := by show 0 + (1 * ρ 6 + 0) = _; omega
  rw [show (st M (ctj r_571) (ev ρ ((0 : Int), ([(5, 1)] : List (Nat × Int)))).toNat (ev ρ ((0 : Int), ([(6, 1)] : List (Nat × Int))))) = (st M 76 ((ρ 5)).toNat ((ρ 6))) from by rw [ei, ew]; rfl]
  have H := cr_571 M (ρ 0) (ρ 1) (ρ 2) (ρ 3) (ρ 4) (ρ 5) (ρ 6) (hB _ List.mem_cons_self) (hB _ (List.mem_cons_of_mem _ List.mem_cons_self)) (hB _ (List.mem_cons_of_mem _ (List.mem_cons_of_mem _ List.mem_cons_self))) (hB _ (List.mem_cons_of_mem _ (List.mem_cons_of_mem _ (List.mem_cons_of_mem _ List.mem_cons_self)))) (hB _ (List.mem_cons_of_mem _ (List.mem_cons_of_mem _ (List.mem_cons_of_mem _ (List.mem_cons_of_mem _ List.mem_cons_self))))) (hB _ (List.mem_cons_of_mem _ (List.mem_cons_of_mem _ (List.mem_cons_of_mem _ (List.mem_cons_of_mem _ (List.mem_cons_of_mem _ List.mem_cons_self)))))) (hB _ (List.mem_cons_of_mem _ (List.mem_cons_of_mem _ (List.mem_cons_of_mem _ (List.mem_cons_of_mem _ (List.mem_cons_of_mem _ (List.mem_cons_of_mem _ List.mem_cons_self))))))) (cvp 60 (x' := (4096 * (ρ 0) + (ρ 1))) (y' := ((ρ 2) + 32 * (ρ 3) + 1024 * (ρ 4))) (by show 0 + (4096 * ρ 0 + (1 * ρ 1 + 0)) = _; omega) (by show 0 + (1 * ρ 2 + (32 * ρ 3 + (1024 * ρ 4 + 0))) = _; omega) (hm _ List.mem_cons_self)) (by have h := hF _ List.mem_cons_self; have h : 0 ≤ 0 + ((-1) * ρ 2 + (1 * ρ 5 + 0)) := h; omega) hG
  obtain ⟨k0, -⟩ := H
  exact ⟨_, List.mem_cons_self, ρ, fun _ _ => rfl, (okM_c (pvp 60 (by show 0 + (4096 * ρ 0 + (1 * ρ 1 + 0)) = _; omega) (by show 0 + (1 * ρ 2 + (32 * ρ 3 + (1024 * ρ 4 + 0))) = _; omega) k0) okM_n), okB_n, okF_n⟩
-- rap77_0
theorem cr_572 (M : pM) (s0 s1 s2 s3 s4 s5 s6 : Int) (b0 : 0 ≤ s0 ∧ s0 ≤ 1900) (b1 : 0 ≤ s1 ∧ s1 ≤ 950) (b2 : 0 ≤ s2 ∧ s2 ≤ 12) (b3 : 0 ≤ s3 ∧ s3 ≤ 20) (b4 : 0 ≤ s4 ∧ s4 ≤ 4) (b5 : 0 ≤ s5 ∧ s5 ≤ 23) (b6 : 0 ≤ s6 ∧ s6 ≤ 63) (m0 : HP 60 (4096 * s0 + s1) (s2 + 32 * s3 + 1024 * s4) M) (f0 : 0 ≤ ((-1) * s2 + s5)) (hG : gI M) : (HP 60 (4096 * s0 + s1) (s2 + 32 * s3 + 1024 * s4) (st M 77 (s5).toNat (s6)) ∧ True) := by
  have ht : tm (st M 77 (12 * 0 + ((s5 - 0).toNat)) (s6)) = tm M := tm_st (by decide) (by decide)
  rw [show (s5).toNat = 12 * 0 + ((s5 - 0).toNat) by omega]
  refine ⟨Eq.mpr hp_60 ?_, trivial⟩
  rw [ht]
  exact RA_m (fun _ _ _ _ _ h => agR_w77 h) (l_rap (c := 8) (w := s2) (r := s3) (g := s4) (Eq.mp hp_60 m0) (by omega) ⟨⟨by omega, by omega⟩, ⟨by omega, by omega⟩, by omega, by omega⟩ (by omega) (by decide))
theorem rul_572 : Rul r_572 := by
  refine ⟨fun h => (by cases h), fun gi gv hg ρ M hm hB hF hG => ?_⟩
  obtain ⟨g1, g2⟩ := List.cons.inj (show ([aI ((0 : Int), ([(5, 1)] : List (Nat × Int))), aI ((0 : Int), ([(6, 1)] : List (Nat × Int)))] : List av) = [.inl gi, .inl gv] from hg)
  obtain ⟨g2, -⟩ := List.cons.inj g2
  cases g1
  cases g2
  have ei : ev ρ ((0 : Int), ([(5, 1)] : List (Nat × Int))) = ((ρ 5)) := by show 0 + (1 * ρ 5 + 0) = _; omega
  have ew : ev ρ ((0 : Int), ([(6, 1)] : List (Nat × Int))) = ((ρ 6)) := by show 0 + (1 * ρ 6 + 0) = _; omega
  rw [show (st M (ctj r_572) (ev ρ ((0 : Int), ([(5, 1)] : List (Nat × Int)))).toNat (ev ρ ((0 : Int), ([(6, 1)] : List (Nat × Int))))) = (st M 77 ((ρ 5)).toNat ((ρ 6))) from by rw [ei, ew]; rfl]
  have H := cr_572 M (ρ 0) (ρ 1) (ρ 2) (ρ 3) (ρ 4) (ρ 5) (ρ 6) (hB _ List.mem_cons_self) (hB _ (List.mem_cons_of_mem _ List.mem_cons_self)) (hB _ (List.mem_cons_of_mem _ (List.mem_cons_of_mem _ List.mem_cons_self))) (hB _ (List.mem_cons_of_mem _ (List.mem_cons_of_mem _ (List.mem_cons_of_mem _ List.mem_cons_self)))) (hB _ (List.mem_cons_of_mem _ (List.mem_cons_of_mem _ (List.mem_cons_of_mem _ (List.mem_cons_of_mem _ List.mem_cons_self))))) (hB _ (List.mem_cons_of_mem _ (List.mem_cons_of_mem _ (List.mem_cons_of_mem _ (List.mem_cons_of_mem _ (List.mem_cons_of_mem _ List.mem_cons_self)))))) (hB _ (List.mem_cons_of_mem _ (List.mem_cons_of_mem _ (List.mem_cons_of_mem _ (List.mem_cons_of_mem _ (List.mem_cons_of_mem _ (List.mem_cons_of_mem _ List.mem_cons_self))))))) (cvp 60 (x' := (4096 * (ρ 0) + (ρ 1))) (y' := ((ρ 2) + 32 * (ρ 3) + 1024 * (ρ 4))) (by show 0 + (4096 * ρ 0 + (1 * ρ 1 + 0)) = _; omega) (by show 0 + (1 * ρ 2 + (32 * ρ 3 + (1024 * ρ 4 + 0))) = _; omega) (hm _ List.mem_cons_self)) (by have h := hF _ List.mem_cons_self; have h : 0 ≤ 0 + ((-1) * ρ 2 + (1 * ρ 5 + 0)) := h; omega) hG
  obtain ⟨k0, -⟩ := H
  exact ⟨_, List.mem_cons_self, ρ, fun _ _ => rfl, (okM_c (pvp 60 (by show 0 + (4096 * ρ 0 + (1 * ρ 1 + 0)) = _; omega) (by show 0 + (1 * ρ 2 + (32 * ρ 3 + (1024 * ρ 4 + 0))) = _; omega) k0) okM_n), okB_n, okF_n⟩
-- rrp78_0
theorem cr_573 (M : pM) (s0 s1 s2 s3 s4 s5 s6 : Int) (b0 : 0 ≤ s0 ∧ s0 ≤ 1900) (b1 : 0 ≤ s1 ∧ s1 ≤ 950) (b2 : 0 ≤ s2 ∧ s2 ≤ 12) (b3 : 0 ≤ s3 ∧ s3 ≤ 20) (b4 : 0 ≤ s4 ∧ s4 ≤ 4) (b5 : 0 ≤ s5 ∧ s5 ≤ 39) (b6 : 0 ≤ s6 ∧ s6 ≤ 99) (m0 : HP 60 (4096 * s0 + s1) (s2 + 32 * s3 + 1024 * s4) M) (f0 : 0 ≤ ((-1) * s3 + s5)) (hG : gI M) : (HP 60 (4096 * s0 + s1) (s2 + 32 * s3 + 1024 * s4) (st M 78 (s5).toNat (s6)) ∧ True) := by
  have ht : tm (st M 78 (20 * 0 + ((s5 - 0).toNat)) (s6)) = tm M := tm_st (by decide) (by decide)
  rw [show (s5).toNat = 20 * 0 + ((s5 - 0).toNat) by omega]
  refine ⟨Eq.mpr hp_60 ?_, trivial⟩
  rw [ht]
  exact RA_m (fun _ _ _ _ _ h => agR_w78 h) (l_rrp (c := 9) (w := s2) (r := s3) (g := s4) (Eq.mp hp_60 m0) (by omega) ⟨⟨by omega, by omega⟩, ⟨by omega, by omega⟩, by omega, by omega⟩ (by omega) (by decide))
theorem rul_573 : Rul r_573 := by
  refine ⟨fun h => (by cases h), fun gi gv hg ρ M hm hB hF hG => ?_⟩
  obtain ⟨g1, g2⟩ := List.cons.inj (show ([aI ((0 : Int), ([(5, 1)] : List (Nat × Int))), aI ((0 : Int), ([(6, 1)] : List (Nat × Int)))] : List av) = [.inl gi, .inl gv] from hg)
  obtain ⟨g2, -⟩ := List.cons.inj g2
  cases g1
  cases g2
  have ei : ev ρ ((0 : Int), ([(5, 1)] : List (Nat × Int))) = ((ρ 5)) := by show 0 + (1 * ρ 5 + 0) = _; omega
  have ew : ev ρ ((0 : Int), ([(6, 1)] : List (Nat × Int))) = ((ρ 6)) := by show 0 + (1 * ρ 6 + 0) = _; omega
  rw [show (st M (ctj r_573) (ev ρ ((0 : Int), ([(5, 1)] : List (Nat × Int)))).toNat (ev ρ ((0 : Int), ([(6, 1)] : List (Nat × Int))))) = (st M 78 ((ρ 5)).toNat ((ρ 6))) from by rw [ei, ew]; rfl]
  have H := cr_573 M (ρ 0) (ρ 1) (ρ 2) (ρ 3) (ρ 4) (ρ 5) (ρ 6) (hB _ List.mem_cons_self) (hB _ (List.mem_cons_of_mem _ List.mem_cons_self)) (hB _ (List.mem_cons_of_mem _ (List.mem_cons_of_mem _ List.mem_cons_self))) (hB _ (List.mem_cons_of_mem _ (List.mem_cons_of_mem _ (List.mem_cons_of_mem _ List.mem_cons_self)))) (hB _ (List.mem_cons_of_mem _ (List.mem_cons_of_mem _ (List.mem_cons_of_mem _ (List.mem_cons_of_mem _ List.mem_cons_self))))) (hB _ (List.mem_cons_of_mem _ (List.mem_cons_of_mem _ (List.mem_cons_of_mem _ (List.mem_cons_of_mem _ (List.mem_cons_of_mem _ List.mem_cons_self)))))) (hB _ (List.mem_cons_of_mem _ (List.mem_cons_of_mem _ (List.mem_cons_of_mem _ (List.mem_cons_of_mem _ (List.mem_cons_of_mem _ (List.mem_cons_of_mem _ List.mem_cons_self))))))) (cvp 60 (x' := (4096 * (ρ 0) + (ρ 1))) (y' := ((ρ 2) + 32 * (ρ 3) + 1024 * (ρ 4))) (by show 0 + (4096 * ρ 0 + (1 * ρ 1 + 0)) = _; omega) (by show 0 + (1 * ρ 2 + (32 * ρ 3 + (1024 * ρ 4 + 0))) = _; omega) (hm _ List.mem_cons_self)) (by have h := hF _ List.mem_cons_self; have h : 0 ≤ 0 + ((-1) * ρ 3 + (1 * ρ 5 + 0)) := h; omega) hG
  obtain ⟨k0, -⟩ := H
  exact ⟨_, List.mem_cons_self, ρ, fun _ _ => rfl, (okM_c (pvp 60 (by show 0 + (4096 * ρ 0 + (1 * ρ 1 + 0)) = _; omega) (by show 0 + (1 * ρ 2 + (32 * ρ 3 + (1024 * ρ 4 + 0))) = _; omega) k0) okM_n), okB_n, okF_n⟩
-- rrp79_0
theorem cr_574 (M : pM) (s0 s1 s2 s3 s4 s5 s6 : Int) (b0 : 0 ≤ s0 ∧ s0 ≤ 1900) (b1 : 0 ≤ s1 ∧ s1 ≤ 950) (b2 : 0 ≤ s2 ∧ s2 ≤ 12) (b3 : 0 ≤ s3 ∧ s3 ≤ 20) (b4 : 0 ≤ s4 ∧ s4 ≤ 4) (b5 : 0 ≤ s5 ∧ s5 ≤ 39) (b6 : 0 ≤ s6 ∧ s6 ≤ 99) (m0 : HP 60 (4096 * s0 + s1) (s2 + 32 * s3 + 1024 * s4) M) (f0 : 0 ≤ ((-1) * s3 + s5)) (hG : gI M) : (HP 60 (4096 * s0 + s1) (s2 + 32 * s3 + 1024 * s4) (st M 79 (s5).toNat (s6)) ∧ True) := by
  have ht : tm (st M 79 (20 * 0 + ((s5 - 0).toNat)) (s6)) = tm M := tm_st (by decide) (by decide)
  rw [show (s5).toNat = 20 * 0 + ((s5 - 0).toNat) by omega]
  refine ⟨Eq.mpr hp_60 ?_, trivial⟩
  rw [ht]
  exact RA_m (fun _ _ _ _ _ h => agR_w79 h) (l_rrp (c := 10) (w := s2) (r := s3) (g := s4) (Eq.mp hp_60 m0) (by omega) ⟨⟨by omega, by omega⟩, ⟨by omega, by omega⟩, by omega, by omega⟩ (by omega) (by decide))
theorem rul_574 : Rul r_574 := by
  refine ⟨fun h => (by cases h), fun gi gv hg ρ M hm hB hF hG => ?_⟩
  obtain ⟨g1, g2⟩ := List.cons.inj (show ([aI ((0 : Int), ([(5, 1)] : List (Nat × Int))), aI ((0 : Int), ([(6, 1)] : List (Nat × Int)))] : List av) = [.inl gi, .inl gv] from hg)
  obtain ⟨g2, -⟩ := List.cons.inj g2
  cases g1
  cases g2
  have ei : ev ρ ((0 : Int), ([(5, 1)] : List (Nat × Int))) = ((ρ 5)) := by show 0 + (1 * ρ 5 + 0) = _; omega
  have ew : ev ρ ((0 : Int), ([(6, 1)] : List (Nat × Int))) = ((ρ 6)) := by show 0 + (1 * ρ 6 + 0) = _; omega
  rw [show (st M (ctj r_574) (ev ρ ((0 : Int), ([(5, 1)] : List (Nat × Int)))).toNat (ev ρ ((0 : Int), ([(6, 1)] : List (Nat × Int))))) = (st M 79 ((ρ 5)).toNat ((ρ 6))) from by rw [ei, ew]; rfl]
  have H := cr_574 M (ρ 0) (ρ 1) (ρ 2) (ρ 3) (ρ 4) (ρ 5) (ρ 6) (hB _ List.mem_cons_self) (hB _ (List.mem_cons_of_mem _ List.mem_cons_self)) (hB _ (List.mem_cons_of_mem _ (List.mem_cons_of_mem _ List.mem_cons_self))) (hB _ (List.mem_cons_of_mem _ (List.mem_cons_of_mem _ (List.mem_cons_of_mem _ List.mem_cons_self)))) (hB _ (List.mem_cons_of_mem _ (List.mem_cons_of_mem _ (List.mem_cons_of_mem _ (List.mem_cons_of_mem _ List.mem_cons_self))))) (hB _ (List.mem_cons_of_mem _ (List.mem_cons_of_mem _ (List.mem_cons_of_mem _ (List.mem_cons_of_mem _ (List.mem_cons_of_mem _ List.mem_cons_self)))))) (hB _ (List.mem_cons_of_mem _ (List.mem_cons_of_mem _ (List.mem_cons_of_mem _ (List.mem_cons_of_mem _ (List.mem_cons_of_mem _ (List.mem_cons_of_mem _ List.mem_cons_self))))))) (cvp 60 (x' := (4096 * (ρ 0) + (ρ 1))) (y' := ((ρ 2) + 32 * (ρ 3) + 1024 * (ρ 4))) (by show 0 + (4096 * ρ 0 + (1 * ρ 1 + 0)) = _; omega) (by show 0 + (1 * ρ 2 + (32 * ρ 3 + (1024 * ρ 4 + 0))) = _; omega) (hm _ List.mem_cons_self)) (by have h := hF _ List.mem_cons_self; have h : 0 ≤ 0 + ((-1) * ρ 3 + (1 * ρ 5 + 0)) := h; omega) hG
  obtain ⟨k0, -⟩ := H
  exact ⟨_, List.mem_cons_self, ρ, fun _ _ => rfl, (okM_c (pvp 60 (by show 0 + (4096 * ρ 0 + (1 * ρ 1 + 0)) = _; omega) (by show 0 + (1 * ρ 2 + (32 * ρ 3 + (1024 * ρ 4 + 0))) = _; omega) k0) okM_n), okB_n, okF_n⟩
-- rrp80_0
theorem cr_575 (M : pM) (s0 s1 s2 s3 s4 s5 s6 : Int) (b0 : 0 ≤ s0 ∧ s0 ≤ 1900) (b1 : 0 ≤ s1 ∧ s1 ≤ 950) (b2 : 0 ≤ s2 ∧ s2 ≤ 12) (b3 : 0 ≤ s3 ∧ s3 ≤ 20) (b4 : 0 ≤ s4 ∧ s4 ≤ 4) (b5 : 0 ≤ s5 ∧ s5 ≤ 39) (b6 : 0 ≤ s6 ∧ s6 ≤ 99) (m0 : HP 60 (4096 * s0 + s1) (s2 + 32 * s3 + 1024 * s4) M) (f0 : 0 ≤ ((-1) * s3 + s5)) (hG : gI M) : (HP 60 (4096 * s0 + s1) (s2 + 32 * s3 + 1024 * s4) (st M 80 (s5).toNat (s6)) ∧ True) := by
  have ht : tm (st M 80 (20 * 0 + ((s5 - 0).toNat)) (s6)) = tm M := tm_st (by decide) (by decide)
  rw [show (s5).toNat = 20 * 0 + ((s5 - 0).toNat) by omega]
  refine ⟨Eq.mpr hp_60 ?_, trivial⟩
  rw [ht]
  exact RA_m (fun _ _ _ _ _ h => agR_w80 h) (l_rrp (c := 11) (w := s2) (r := s3) (g := s4) (Eq.mp hp_60 m0) (by omega) ⟨⟨by omega, by omega⟩, ⟨by omega, by omega⟩, by omega, by omega⟩ (by omega) (by decide))
theorem rul_575 : Rul r_575 := by
  refine ⟨fun h => (by cases h), fun gi gv hg ρ M hm hB hF hG => ?_⟩
  obtain ⟨g1, g2⟩ := List.cons.inj (show ([aI ((0 : Int), ([(5, 1)] : List (Nat × Int))), aI ((0 : Int), ([(6, 1)] : List (Nat × Int)))] : List av) = [.inl gi, .inl gv] from hg)
  obtain ⟨g2, -⟩ := List.cons.inj g2
  cases g1
  cases g2
  have ei : ev ρ ((0 : Int), ([(5, 1)] : List (Nat × Int))) = ((ρ 5)) := by show 0 + (1 * ρ 5 + 0) = _; omega
  have ew : ev ρ ((0 : Int), ([(6, 1)] : List (Nat × Int))) = ((ρ 6)) := by show 0 + (1 * ρ 6 + 0) = _; omega
  rw [show (st M (ctj r_575) (ev ρ ((0 : Int), ([(5, 1)] : List (Nat × Int)))).toNat (ev ρ ((0 : Int), ([(6, 1)] : List (Nat × Int))))) = (st M 80 ((ρ 5)).toNat ((ρ 6))) from by rw [ei, ew]; rfl]
  have H := cr_575 M (ρ 0) (ρ 1) (ρ 2) (ρ 3) (ρ 4) (ρ 5) (ρ 6) (hB _ List.mem_cons_self) (hB _ (List.mem_cons_of_mem _ List.mem_cons_self)) (hB _ (List.mem_cons_of_mem _ (List.mem_cons_of_mem _ List.mem_cons_self))) (hB _ (List.mem_cons_of_mem _ (List.mem_cons_of_mem _ (List.mem_cons_of_mem _ List.mem_cons_self)))) (hB _ (List.mem_cons_of_mem _ (List.mem_cons_of_mem _ (List.mem_cons_of_mem _ (List.mem_cons_of_mem _ List.mem_cons_self))))) (hB _ (List.mem_cons_of_mem _ (List.mem_cons_of_mem _ (List.mem_cons_of_mem _ (List.mem_cons_of_mem _ (List.mem_cons_of_mem _ List.mem_cons_self)))))) (hB _ (List.mem_cons_of_mem _ (List.mem_cons_of_mem _ (List.mem_cons_of_mem _ (List.mem_cons_of_mem _ (List.mem_cons_of_mem _ (List.mem_cons_of_mem _ List.mem_cons_self))))))) (cvp 60 (x' := (4096 * (ρ 0) + (ρ 1))) (y' := ((ρ 2) + 32 * (ρ 3) + 1024 * (ρ 4))) (by show 0 + (4096 * ρ 0 + (1 * ρ 1 + 0)) = _; omega) (by show 0 + (1 * ρ 2 + (32 * ρ 3 + (1024 * ρ 4 + 0))) = _; omega) (hm _ List.mem_cons_self)) (by have h := hF _ List.mem_cons_self; have h : 0 ≤ 0 + ((-1) * ρ 3 + (1 * ρ 5 + 0)) := h; omega) hG
  obtain ⟨k0, -⟩ := H
  exact ⟨_, List.mem_cons_self, ρ, fun _ _ => rfl, (okM_c (pvp 60 (by show 0 + (4096 * ρ 0 + (1 * ρ 1 + 0)) = _; omega) (by show 0 + (1 * ρ 2 + (32 * ρ 3 + (1024 * ρ 4 + 0))) = _; omega) k0) okM_n), okB_n, okF_n⟩
-- rae_0
theorem cr_576 (M : pM) (s0 s1 s2 s3 s4 s5 s6 s7 s8 s9 s10 : Int) (b0 : 0 ≤ s0 ∧ s0 ≤ 1900) (b1 : 0 ≤ s1 ∧ s1 ≤ 950) (b2 : 0 ≤ s2 ∧ s2 ≤ 1900) (b3 : 0 ≤ s3 ∧ s3 ≤ 12) (b4 : 0 ≤ s4 ∧ s4 ≤ 20) (b5 : 0 ≤ s5 ∧ s5 ≤ 4) (b6 : 0 ≤ s6 ∧ s6 ≤ 7) (b7 : 0 ≤ s7 ∧ s7 ≤ 7) (b8 : 0 ≤ s8 ∧ s8 ≤ 40) (b9 : 0 ≤ s9 ∧ s9 ≤ 36) (b10 : 1 ≤ s10 ∧ s10 ≤ 36) (m0 : HP 60 (4096 * s0 + s1) (s3 + 32 * s4 + 1024 * s5) M) (m1 : HP 53 (4096 * s0 + s1) (256 * s2 + 73) M) (m2 : HP 79 (16 * s0 + 1) (s6) M) (m3 : HP 79 (16 * s0 + 2) (s7) M) (m4 : HP 79 (16 * s0 + 4) (s8) M) (m5 : HP 79 (16 * s0 + 6) (s9) M) (m6 : HP 79 (16 * s0 + 8) (s10) M) (m7 : (0 ≤ (s3) ∧ M 74 (s3).toNat = (s6 + 8 * s7))) (m8 : (0 ≤ (s3) ∧ M 75 (s3).toNat = (s8))) (m9 : (0 ≤ (s3) ∧ M 76 (s3).toNat = (s9))) (m10 : (0 ≤ (s3) ∧ M 77 (s3).toNat = (s10))) (f0 : 0 ≤ ((-1) * s3 + 11)) (hG : gI M) : (HP 62 (4096 * s0 + s1) (s3 + 32 * s4 + 1024 * s5 + 1) M ∧ True) := by
  have hj : (0 + s3).toNat = 12 * 0 + s3.toNat := by omega
  have r0 : M 74 (12 * 0 + s3.toNat) = (s6 + 8 * s7) := by rw [← show (s3).toNat = 12 * 0 + s3.toNat by omega]; exact m7.2
  have r1 : M 75 (12 * 0 + s3.toNat) = (s8) := by rw [← show (s3).toNat = 12 * 0 + s3.toNat by omega]; exact m8.2
  have r2 : M 76 (12 * 0 + s3.toNat) = (s9) := by rw [← show (s3).toNat = 12 * 0 + s3.toNat by omega]; exact m9.2
  have r3 : M 77 (12 * 0 + s3.toNat) = (s10) := by rw [← show (s3).toNat = 12 * 0 + s3.toNat by omega]; exact m10.2
  exact ⟨Eq.mpr hp_62 (l_rae (w := s3) (r := s4) (g := s5) (P := s0) (l := s1) (Eq.mp hp_60 m0) (by omega) ⟨⟨by omega, by omega⟩, ⟨by omega, by omega⟩, by omega, by omega⟩ (ex_o (K := 4) (j := 8) (a := s2) (Eq.mp hp_53 m1) ⟨by omega, by omega, by decide, by decide⟩) ⟨by omega, by omega, by omega⟩ (q79 (P := s0) (i := 1) m2 ⟨by omega, by decide⟩ (by omega)) (q79 (P := s0) (i := 2) m3 ⟨by omega, by decide⟩ (by omega)) (q79 (P := s0) (i := 4) m4 ⟨by omega, by decide⟩ (by omega)) (q79 (P := s0) (i := 6) m5 ⟨by omega, by decide⟩ (by omega)) (q79 (P := s0) (i := 8) m6 ⟨by omega, by decide⟩ (by omega)) r0 r1 r2 r3 (by omega) (by omega)), trivial⟩
theorem rul_576 : Rul r_576 := by
  refine ⟨fun _ ρ M hm hB hF hG => ?_, fun gi gv hg => (by cases hg)⟩
  have H := cr_576 M (ρ 0) (ρ 1) (ρ 2) (ρ 3) (ρ 4) (ρ 5) (ρ 6) (ρ 7) (ρ 8) (ρ 9) (ρ 10) (hB _ List.mem_cons_self) (hB _ (List.mem_cons_of_mem _ List.mem_cons_self)) (hB _ (List.mem_cons_of_mem _ (List.mem_cons_of_mem _ List.mem_cons_self))) (hB _ (List.mem_cons_of_mem _ (List.mem_cons_of_mem _ (List.mem_cons_of_mem _ List.mem_cons_self)))) (hB _ (List.mem_cons_of_mem _ (List.mem_cons_of_mem _ (List.mem_cons_of_mem _ (List.mem_cons_of_mem _ List.mem_cons_self))))) (hB _ (List.mem_cons_of_mem _ (List.mem_cons_of_mem _ (List.mem_cons_of_mem _ (List.mem_cons_of_mem _ (List.mem_cons_of_mem _ List.mem_cons_self)))))) (hB _ (List.mem_cons_of_mem _ (List.mem_cons_of_mem _ (List.mem_cons_of_mem _ (List.mem_cons_of_mem _ (List.mem_cons_of_mem _ (List.mem_cons_of_mem _ List.mem_cons_self))))))) (hB _ (List.mem_cons_of_mem _ (List.mem_cons_of_mem _ (List.mem_cons_of_mem _ (List.mem_cons_of_mem _ (List.mem_cons_of_mem _ (List.mem_cons_of_mem _ (List.mem_cons_of_mem _ List.mem_cons_self)))))))) (hB _ (List.mem_cons_of_mem _ (List.mem_cons_of_mem _ (List.mem_cons_of_mem _ (List.mem_cons_of_mem _ (List.mem_cons_of_mem _ (List.mem_cons_of_mem _ (List.mem_cons_of_mem _ (List.mem_cons_of_mem _ List.mem_cons_self))))))))) (hB _ (List.mem_cons_of_mem _ (List.mem_cons_of_mem _ (List.mem_cons_of_mem _ (List.mem_cons_of_mem _ (List.mem_cons_of_mem _ (List.mem_cons_of_mem _ (List.mem_cons_of_mem _ (List.mem_cons_of_mem _ (List.mem_cons_of_mem _ List.mem_cons_self)))))))))) (hB _ (List.mem_cons_of_mem _ (List.mem_cons_of_mem _ (List.mem_cons_of_mem _ (List.mem_cons_of_mem _ (List.mem_cons_of_mem _ (List.mem_cons_of_mem _ (List.mem_cons_of_mem _ (List.mem_cons_of_mem _ (List.mem_cons_of_mem _ (List.mem_cons_of_mem _ List.mem_cons_self))))))))))) (cvp 60 (x' := (4096 * (ρ 0) + (ρ 1))) (y' := ((ρ 3) + 32 * (ρ 4) + 1024 * (ρ 5))) (by show 0 + (4096 * ρ 0 + (1 * ρ 1 + 0)) = _; omega) (by show 0 + (1 * ρ 3 + (32 * ρ 4 + (1024 * ρ 5 + 0))) = _; omega) (hm _ List.mem_cons_self)) (cvp 53 (x' := (4096 * (ρ 0) + (ρ 1))) (y' := (256 * (ρ 2) + 73)) (by show 0 + (4096 * ρ 0 + (1 * ρ 1 + 0)) = _; omega) (by show 73 + (256 * ρ 2 + 0) = _; omega) (hm _ (List.mem_cons_of_mem _ List.mem_cons_self))) (cvp 79 (x' := (16 * (ρ 0) + 1)) (y' := ((ρ 6))) (by show 1 + (16 * ρ 0 + 0) = _; omega) (by show 0 + (1 * ρ 6 + 0) = _; omega) (hm _ (List.mem_cons_of_mem _ (List.mem_cons_of_mem _ List.mem_cons_self)))) (cvp 79 (x' := (16 * (ρ 0) + 2)) (y' := ((ρ 7))) (by show 2 + (16 * ρ 0 + 0) = _; omega) (by show 0 + (1 * ρ 7 + 0) = _; omega) (hm _ (List.mem_cons_of_mem _ (List.mem_cons_of_mem _ (List.mem_cons_of_mem _ List.mem_cons_self))))) (cvp 79 (x' := (16 * (ρ 0) + 4)) (y' := ((ρ 8))) (by show 4 + (16 * ρ 0 + 0) = _; omega) (by show 0 + (1 * ρ 8 + 0) = _; omega) (hm _ (List.mem_cons_of_mem _ (List.mem_cons_of_mem _ (List.mem_cons_of_mem _ (List.mem_cons_of_mem _ List.mem_cons_self)))))) (cvp 79 (x' := (16 * (ρ 0) + 6)) (y' := ((ρ 9))) (by show 6 + (16 * ρ 0 + 0) = _; omega) (by show 0 + (1 * ρ 9 + 0) = _; omega) (hm _ (List.mem_cons_of_mem _ (List.mem_cons_of_mem _ (List.mem_cons_of_mem _ (List.mem_cons_of_mem _ (List.mem_cons_of_mem _ List.mem_cons_self))))))) (cvp 79 (x' := (16 * (ρ 0) + 8)) (y' := ((ρ 10))) (by show 8 + (16 * ρ 0 + 0) = _; omega) (by show 0 + (1 * ρ 10 + 0) = _; omega) (hm _ (List.mem_cons_of_mem _ (List.mem_cons_of_mem _ (List.mem_cons_of_mem _ (List.mem_cons_of_mem _ (List.mem_cons_of_mem _ (List.mem_cons_of_mem _ List.mem_cons_self)))))))) (cvm (c := 74) (by decide) (x' := ((ρ 3))) (y' := ((ρ 6) + 8 * (ρ 7))) (by show 0 + (1 * ρ 3 + 0) = _; omega) (by show 0 + (1 * ρ 6 + (8 * ρ 7 + 0)) = _; omega) (hm _ (List.mem_cons_of_mem _ (List.mem_cons_of_mem _ (List.mem_cons_of_mem _ (List.mem_cons_of_mem _ (List.mem_cons_of_mem _ (List.mem_cons_of_mem _ (List.mem_cons_of_mem _ List.mem_cons_self))))))))) (cvm (c := 75) (by decide) (x' := ((ρ 3))) (y' := ((ρ 8))) (by show 0 + (1 * ρ 3 + 0) = _; omega) (by show 0 + (1 * ρ 8 + 0) = _; omega) (hm _ (List.mem_cons_of_mem _ (List.mem_cons_of_mem _ (List.mem_cons_of_mem _ (List.mem_cons_of_mem _ (List.mem_cons_of_mem _ (List.mem_cons_of_mem _ (List.mem_cons_of_mem _ (List.mem_cons_of_mem _ List.mem_cons_self)))))))))) (cvm (c := 76) (by decide) (x' := ((ρ 3))) (y' := ((ρ 9))) (by show 0 + (1 * ρ 3 + 0) = _; omega) (by show 0 + (1 * ρ 9 + 0) = _; omega) (hm _ (List.mem_cons_of_mem _ (List.mem_cons_of_mem _ (List.mem_cons_of_mem _ (List.mem_cons_of_mem _ (List.mem_cons_of_mem _ (List.mem_cons_of_mem _ (List.mem_cons_of_mem _ (List.mem_cons_of_mem _ (List.mem_cons_of_mem _ List.mem_cons_self))))))))))) (cvm (c := 77) (by decide) (x' := ((ρ 3))) (y' := ((ρ 10))) (by show 0 + (1 * ρ 3 + 0) = _; omega) (by show 0 + (1 * ρ 10 + 0) = _; omega) (hm _ (List.mem_cons_of_mem _ (List.mem_cons_of_mem _ (List.mem_cons_of_mem _ (List.mem_cons_of_mem _ (List.mem_cons_of_mem _ (List.mem_cons_of_mem _ (List.mem_cons_of_mem _ (List.mem_cons_of_mem _ (List.mem_cons_of_mem _ (List.mem_cons_of_mem _ List.mem_cons_self)))))))))))) (by have h := hF _ List.mem_cons_self; have h : 0 ≤ 11 + ((-1) * ρ 3 + 0) := h; omega) hG
  obtain ⟨k0, -⟩ := H
  exact ⟨_, List.mem_cons_self, ρ, fun _ _ => rfl, (okM_c (pvp 62 (by show 0 + (4096 * ρ 0 + (1 * ρ 1 + 0)) = _; omega) (by show 1 + (1 * ρ 3 + (32 * ρ 4 + (1024 * ρ 5 + 0))) = _; omega) k0) okM_n), okB_n, okF_n⟩
-- rre_0
theorem cr_577 (M : pM) (s0 s1 s2 s3 s4 s5 s6 s7 s8 s9 s10 : Int) (b0 : 0 ≤ s0 ∧ s0 ≤ 1900) (b1 : 0 ≤ s1 ∧ s1 ≤ 950) (b2 : 0 ≤ s2 ∧ s2 ≤ 1900) (b3 : 0 ≤ s3 ∧ s3 ≤ 12) (b4 : 0 ≤ s4 ∧ s4 ≤ 20) (b5 : 0 ≤ s5 ∧ s5 ≤ 4) (b6 : 0 ≤ s6 ∧ s6 ≤ 7) (b7 : 0 ≤ s7 ∧ s7 ≤ 7) (b8 : 0 ≤ s8 ∧ s8 ≤ 7) (b9 : 0 ≤ s9 ∧ s9 ≤ 7) (b10 : 1 ≤ s10 ∧ s10 ≤ 99) (m0 : HP 60 (4096 * s0 + s1) (s3 + 32 * s4 + 1024 * s5) M) (m1 : HP 53 (4096 * s0 + s1) (256 * s2 + 150) M) (m2 : HP 79 (16 * s0 + 1) (s6) M) (m3 : HP 79 (16 * s0 + 2) (s7) M) (m4 : HP 79 (16 * s0 + 3) (s8) M) (m5 : HP 79 (16 * s0 + 4) (s9) M) (m6 : HP 79 (16 * s0 + 5) (s10) M) (m7 : (0 ≤ (s4) ∧ M 78 (s4).toNat = (s6 + 8 * s7))) (m8 : (0 ≤ (s4) ∧ M 79 (s4).toNat = (s8 + 8 * s9))) (m9 : (0 ≤ (s4) ∧ M 80 (s4).toNat = (s10))) (f0 : 0 ≤ ((-1) * s4 + 19)) (hG : gI M) : (HP 62 (4096 * s0 + s1) (s3 + 32 * s4 + 1024 * s5 + 32) M ∧ True) := by
  have hj : (0 + s4).toNat = 20 * 0 + s4.toNat := by omega
  have r0 : M 78 (20 * 0 + s4.toNat) = (s6 + 8 * s7) := by rw [← show (s4).toNat = 20 * 0 + s4.toNat by omega]; exact m7.2
  have r1 : M 79 (20 * 0 + s4.toNat) = (s8 + 8 * s9) := by rw [← show (s4).toNat = 20 * 0 + s4.toNat by omega]; exact m8.2
  have r2 : M 80 (20 * 0 + s4.toNat) = (s10) := by rw [← show (s4).toNat = 20 * 0 + s4.toNat by omega]; exact m9.2
  exact ⟨Eq.mpr hp_62 (l_rre (w := s3) (r := s4) (g := s5) (P := s0) (l := s1) (Eq.mp hp_60 m0) (by omega) ⟨⟨by omega, by omega⟩, ⟨by omega, by omega⟩, by omega, by omega⟩ (ex_o (K := 9) (j := 5) (a := s2) (Eq.mp hp_53 m1) ⟨by omega, by omega, by decide, by decide⟩) ⟨by omega, by omega, by omega⟩ (q79 (P := s0) (i := 1) m2 ⟨by omega, by decide⟩ (by omega)) (q79 (P := s0) (i := 2) m3 ⟨by omega, by decide⟩ (by omega)) (q79 (P := s0) (i := 3) m4 ⟨by omega, by decide⟩ (by omega)) (q79 (P := s0) (i := 4) m5 ⟨by omega, by decide⟩ (by omega)) (q79 (P := s0) (i := 5) m6 ⟨by omega, by decide⟩ (by omega)) r0 r1 r2 (by omega) (by omega)), trivial⟩
theorem rul_577 : Rul r_577 := by
  refine ⟨fun _ ρ M hm hB hF hG => ?_, fun gi gv hg => (by cases hg)⟩
  have H := cr_577 M (ρ 0) (ρ 1) (ρ 2) (ρ 3) (ρ 4) (ρ 5) (ρ 6) (ρ 7) (ρ 8) (ρ 9) (ρ 10) (hB _ List.mem_cons_self) (hB _ (List.mem_cons_of_mem _ List.mem_cons_self)) (hB _ (List.mem_cons_of_mem _ (List.mem_cons_of_mem _ List.mem_cons_self))) (hB _ (List.mem_cons_of_mem _ (List.mem_cons_of_mem _ (List.mem_cons_of_mem _ List.mem_cons_self)))) (hB _ (List.mem_cons_of_mem _ (List.mem_cons_of_mem _ (List.mem_cons_of_mem _ (List.mem_cons_of_mem _ List.mem_cons_self))))) (hB _ (List.mem_cons_of_mem _ (List.mem_cons_of_mem _ (List.mem_cons_of_mem _ (List.mem_cons_of_mem _ (List.mem_cons_of_mem _ List.mem_cons_self)))))) (hB _ (List.mem_cons_of_mem _ (List.mem_cons_of_mem _ (List.mem_cons_of_mem _ (List.mem_cons_of_mem _ (List.mem_cons_of_mem _ (List.mem_cons_of_mem _ List.mem_cons_self))))))) (hB _ (List.mem_cons_of_mem _ (List.mem_cons_of_mem _ (List.mem_cons_of_mem _ (List.mem_cons_of_mem _ (List.mem_cons_of_mem _ (List.mem_cons_of_mem _ (List.mem_cons_of_mem _ List.mem_cons_self)))))))) (hB _ (List.mem_cons_of_mem _ (List.mem_cons_of_mem _ (List.mem_cons_of_mem _ (List.mem_cons_of_mem _ (List.mem_cons_of_mem _ (List.mem_cons_of_mem _ (List.mem_cons_of_mem _ (List.mem_cons_of_mem _ List.mem_cons_self))))))))) (hB _ (List.mem_cons_of_mem _ (List.mem_cons_of_mem _ (List.mem_cons_of_mem _ (List.mem_cons_of_mem _ (List.mem_cons_of_mem _ (List.mem_cons_of_mem _ (List.mem_cons_of_mem _ (List.mem_cons_of_mem _ (List.mem_cons_of_mem _ List.mem_cons_self)))))))))) (hB _ (List.mem_cons_of_mem _ (List.mem_cons_of_mem _ (List.mem_cons_of_mem _ (List.mem_cons_of_mem _ (List.mem_cons_of_mem _ (List.mem_cons_of_mem _ (List.mem_cons_of_mem _ (List.mem_cons_of_mem _ (List.mem_cons_of_mem _ (List.mem_cons_of_mem _ List.mem_cons_self))))))))))) (cvp 60 (x' := (4096 * (ρ 0) + (ρ 1))) (y' := ((ρ 3) + 32 * (ρ 4) + 1024 * (ρ 5))) (by show 0 + (4096 * ρ 0 + (1 * ρ 1 + 0)) = _; omega) (by show 0 + (1 * ρ 3 + (32 * ρ 4 + (1024 * ρ 5 + 0))) = _; omega) (hm _ List.mem_cons_self)) (cvp 53 (x' := (4096 * (ρ 0) + (ρ 1))) (y' := (256 * (ρ 2) + 150)) (by show 0 + (4096 * ρ 0 + (1 * ρ 1 + 0)) = _; omega) (by show 150 + (256 * ρ 2 + 0) = _; omega) (hm _ (List.mem_cons_of_mem _ List.mem_cons_self))) (cvp 79 (x' := (16 * (ρ 0) + 1)) (y' := ((ρ 6))) (by show 1 + (16 * ρ 0 + 0) = _; omega) (by show 0 + (1 * ρ 6 + 0) = _; omega) (hm _ (List.mem_cons_of_mem _ (List.mem_cons_of_mem _ List.mem_cons_self)))) (cvp 79 (x' := (16 * (ρ 0) + 2)) (y' := ((ρ 7))) (by show 2 + (16 * ρ 0 + 0) = _; omega) (by show 0 + (1 * ρ 7 + 0) = _; omega) (hm _ (List.mem_cons_of_mem _ (List.mem_cons_of_mem _ (List.mem_cons_of_mem _ List.mem_cons_self))))) (cvp 79 (x' := (16 * (ρ 0) + 3)) (y' := ((ρ 8))) (by show 3 + (16 * ρ 0 + 0) = _; omega) (by show 0 + (1 * ρ 8 + 0) = _; omega) (hm _ (List.mem_cons_of_mem _ (List.mem_cons_of_mem _ (List.mem_cons_of_mem _ (List.mem_cons_of_mem _ List.mem_cons_self)))))) (cvp 79 (x' := (16 * (ρ 0) + 4)) (y' := ((ρ 9))) (by show 4 + (16 * ρ 0 + 0) = _; omega) (by show 0 + (1 * ρ 9 + 0) = _; omega) (hm _ (List.mem_cons_of_mem _ (List.mem_cons_of_mem _ (List.mem_cons_of_mem _ (List.mem_cons_of_mem _ (List.mem_cons_of_mem _ List.mem_cons_self))))))) (cvp 79 (x' := (16 * (ρ 0) + 5)) (y' := ((ρ 10))) (by show 5 + (16 * ρ 0 + 0) = _; omega) (by show 0 + (1 * ρ 10 + 0) = _; omega) (hm _ (List.mem_cons_of_mem _ (List.mem_cons_of_mem _ (List.mem_cons_of_mem _ (List.mem_cons_of_mem _ (List.mem_cons_of_mem _ (List.mem_cons_of_mem _ List.mem_cons_self)))))))) (cvm (c := 78) (by decide) (x' := ((ρ 4))) (y' := ((ρ 6) + 8 * (ρ 7))) (by show 0 + (1 * ρ 4 + 0) = _; omega) (by show 0 + (1 * ρ 6 + (8 * ρ 7 + 0)) = _; omega) (hm _ (List.mem_cons_of_mem _ (List.mem_cons_of_mem _ (List.mem_cons_of_mem _ (List.mem_cons_of_mem _ (List.mem_cons_of_mem _ (List.mem_cons_of_mem _ (List.mem_cons_of_mem _ List.mem_cons_self))))))))) (cvm (c := 79) (by decide) (x' := ((ρ 4))) (y' := ((ρ 8) + 8 * (ρ 9))) (by show 0 + (1 * ρ 4 + 0) = _; omega) (by show 0 + (1 * ρ 8 + (8 * ρ 9 + 0)) = _; omega) (hm _ (List.mem_cons_of_mem _ (List.mem_cons_of_mem _ (List.mem_cons_of_mem _ (List.mem_cons_of_mem _ (List.mem_cons_of_mem _ (List.mem_cons_of_mem _ (List.mem_cons_of_mem _ (List.mem_cons_of_mem _ List.mem_cons_self)))))))))) (cvm (c := 80) (by decide) (x' := ((ρ 4))) (y' := ((ρ 10))) (by show 0 + (1 * ρ 4 + 0) = _; omega) (by show 0 + (1 * ρ 10 + 0) = _; omega) (hm _ (List.mem_cons_of_mem _ (List.mem_cons_of_mem _ (List.mem_cons_of_mem _ (List.mem_cons_of_mem _ (List.mem_cons_of_mem _ (List.mem_cons_of_mem _ (List.mem_cons_of_mem _ (List.mem_cons_of_mem _ (List.mem_cons_of_mem _ List.mem_cons_self))))))))))) (by have h := hF _ List.mem_cons_self; have h : 0 ≤ 19 + ((-1) * ρ 4 + 0) := h; omega) hG
  obtain ⟨k0, -⟩ := H
  exact ⟨_, List.mem_cons_self, ρ, fun _ _ => rfl, (okM_c (pvp 62 (by show 0 + (4096 * ρ 0 + (1 * ρ 1 + 0)) = _; omega) (by show 32 + (1 * ρ 3 + (32 * ρ 4 + (1024 * ρ 5 + 0))) = _; omega) k0) okM_n), okB_n, okF_n⟩
-- rfw_0
theorem cr_578 (M : pM) (s0 s1 s2 s3 s4 s5 s6 s7 : Int) (b0 : 0 ≤ s0 ∧ s0 ≤ 1900) (b1 : 0 ≤ s1 ∧ s1 ≤ 950) (b2 : 0 ≤ s2 ∧ s2 ≤ 1900) (b3 : 0 ≤ s3 ∧ s3 ≤ 12) (b4 : 0 ≤ s4 ∧ s4 ≤ 20) (b5 : 0 ≤ s5 ∧ s5 ≤ 4) (b6 : 0 ≤ s6 ∧ s6 ≤ 7) (b7 : 0 ≤ s7 ∧ s7 ≤ 7) (m0 : HP 60 (4096 * s0 + s1) (s3 + 32 * s4 + 1024 * s5) M) (m1 : HP 53 (4096 * s0 + s1) (256 * s2 + 131) M) (m2 : HP 79 (16 * s0 + 1) (s6) M) (m3 : HP 79 (16 * s0 + 2) (s7) M) (hG : gI M) : (HP 62 (4096 * s0 + s1) (s3 + 32 * s4 + 1024 * s5) (st M 86 (s6 + 8 * s7).toNat (1 : Int)) ∧ True) := by
  have ht : tm (st M 86 (64 * 0 + ((s6 + 8 * s7).toNat)) (1 : Int)) = tm M := tm_st (by decide) (by decide)
  rw [show (s6 + 8 * s7).toNat = 64 * 0 + ((s6 + 8 * s7).toNat) by omega]
  refine ⟨Eq.mpr hp_62 ?_, trivial⟩
  rw [ht]
  exact RW_m (fun _ _ _ _ _ h => agR_w86 h) (l_rfw (P := s0) (l := s1) (Eq.mp hp_60 m0) (ex_o (K := 8) (j := 2) (a := s2) (Eq.mp hp_53 m1) ⟨by omega, by omega, by decide, by decide⟩) ⟨by omega, by omega, by omega⟩ (q79 (P := s0) (i := 1) m2 ⟨by omega, by decide⟩ (by omega)) (q79 (P := s0) (i := 2) m3 ⟨by omega, by decide⟩ (by omega)) (by omega))
theorem rul_578 : Rul r_578 := by
  refine ⟨fun h => (by cases h), fun gi gv hg ρ M hm hB hF hG => ?_⟩
  obtain ⟨g1, g2⟩ := List.cons.inj (show ([aI ((0 : Int), ([(6, 1), (7, 8)] : List (Nat × Int))), aI ((1 : Int), ([] : List (Nat × Int)))] : List av) = [.inl gi, .inl gv] from hg)
  obtain ⟨g2, -⟩ := List.cons.inj g2
  cases g1
  cases g2
  have ei : ev ρ ((0 : Int), ([(6, 1), (7, 8)] : List (Nat × Int))) = ((ρ 6) + 8 * (ρ 7)) := by show 0 + (1 * ρ 6 + (8 * ρ 7 + 0)) = _; omega
  have ew : ev ρ ((1 : Int), ([] : List (Nat × Int))) = (1 : Int) := by show 1 + 0 = _; omega
  rw [show (st M (ctj r_578) (ev ρ ((0 : Int), ([(6, 1), (7, 8)] : List (Nat × Int)))).toNat (ev ρ ((1 : Int), ([] : List (Nat × Int))))) = (st M 86 ((ρ 6) + 8 * (ρ 7)).toNat (1 : Int)) from by rw [ei, ew]; rfl]
  have H := cr_578 M (ρ 0) (ρ 1) (ρ 2) (ρ 3) (ρ 4) (ρ 5) (ρ 6) (ρ 7) (hB _ List.mem_cons_self) (hB _ (List.mem_cons_of_mem _ List.mem_cons_self)) (hB _ (List.mem_cons_of_mem _ (List.mem_cons_of_mem _ List.mem_cons_self))) (hB _ (List.mem_cons_of_mem _ (List.mem_cons_of_mem _ (List.mem_cons_of_mem _ List.mem_cons_self)))) (hB _ (List.mem_cons_of_mem _ (List.mem_cons_of_mem _ (List.mem_cons_of_mem _ (List.mem_cons_of_mem _ List.mem_cons_self))))) (hB _ (List.mem_cons_of_mem _ (List.mem_cons_of_mem _ (List.mem_cons_of_mem _ (List.mem_cons_of_mem _ (List.mem_cons_of_mem _ List.mem_cons_self)))))) (hB _ (List.mem_cons_of_mem _ (List.mem_cons_of_mem _ (List.mem_cons_of_mem _ (List.mem_cons_of_mem _ (List.mem_cons_of_mem _ (List.mem_cons_of_mem _ List.mem_cons_self))))))) (hB _ (List.mem_cons_of_mem _ (List.mem_cons_of_mem _ (List.mem_cons_of_mem _ (List.mem_cons_of_mem _ (List.mem_cons_of_mem _ (List.mem_cons_of_mem _ (List.mem_cons_of_mem _ List.mem_cons_self)))))))) (cvp 60 (x' := (4096 * (ρ 0) + (ρ 1))) (y' := ((ρ 3) + 32 * (ρ 4) + 1024 * (ρ 5))) (by show 0 + (4096 * ρ 0 + (1 * ρ 1 + 0)) = _; omega) (by show 0 + (1 * ρ 3 + (32 * ρ 4 + (1024 * ρ 5 + 0))) = _; omega) (hm _ List.mem_cons_self)) (cvp 53 (x' := (4096 * (ρ 0) + (ρ 1))) (y' := (256 * (ρ 2) + 131)) (by show 0 + (4096 * ρ 0 + (1 * ρ 1 + 0)) = _; omega) (by show 131 + (256 * ρ 2 + 0) = _; omega) (hm _ (List.mem_cons_of_mem _ List.mem_cons_self))) (cvp 79 (x' := (16 * (ρ 0) + 1)) (y' := ((ρ 6))) (by show 1 + (16 * ρ 0 + 0) = _; omega) (by show 0 + (1 * ρ 6 + 0) = _; omega) (hm _ (List.mem_cons_of_mem _ (List.mem_cons_of_mem _ List.mem_cons_self)))) (cvp 79 (x' := (16 * (ρ 0) + 2)) (y' := ((ρ 7))) (by show 2 + (16 * ρ 0 + 0) = _; omega) (by show 0 + (1 * ρ 7 + 0) = _; omega) (hm _ (List.mem_cons_of_mem _ (List.mem_cons_of_mem _ (List.mem_cons_of_mem _ List.mem_cons_self))))) hG
  obtain ⟨k0, -⟩ := H
  exact ⟨_, List.mem_cons_self, ρ, fun _ _ => rfl, (okM_c (pvp 62 (by show 0 + (4096 * ρ 0 + (1 * ρ 1 + 0)) = _; omega) (by show 0 + (1 * ρ 3 + (32 * ρ 4 + (1024 * ρ 5 + 0))) = _; omega) k0) okM_n), okB_n, okF_n⟩
-- on0_0
theorem cr_579 (M : pM) (s0 : Int) (b0 : 0 ≤ s0 ∧ s0 ≤ 9223372036854775807) (hG : gI M) : (HP 153 (0 : Int) (s0) M ∧ True) := by
  exact ⟨Eq.mpr hp_153 (fun i h1 h2 => by omega), trivial⟩
theorem rul_579 : Rul r_579 := by
  refine ⟨fun _ ρ M hm hB hF hG => ?_, fun gi gv hg => (by cases hg)⟩
  have H := cr_579 M (ρ 0) (hB _ List.mem_cons_self) hG
  obtain ⟨k0, -⟩ := H
  exact ⟨_, List.mem_cons_self, ρ, fun _ _ => rfl, (okM_c (pvp 153 (by show 0 + 0 = _; omega) (by show 0 + (1 * ρ 0 + 0) = _; omega) k0) okM_n), okB_n, okF_n⟩
-- onn0_0
theorem cr_580 (M : pM) (s0 s1 s2 : Int) (b0 : 0 ≤ s0 ∧ s0 ≤ 9223372036854775807) (b1 : 0 ≤ s1 ∧ s1 ≤ 3) (m0 : HP 153 (s1) (s0) M) (m1 : (0 ≤ (s1) ∧ M 83 (s1).toNat = (s2))) (f0 : 0 ≤ (s0 + (-1) * s2 - 1)) (hG : gI M) : (HP 153 (s1 + 1) (s0) M ∧ True) := by
  exact ⟨Eq.mpr hp_153 (fun i h1 h2 => if e : 0 + i = s1.toNat then (by rw [e, m1.2]; omega) else Eq.mp hp_153 m0 i h1 (by omega)), trivial⟩
theorem rul_580 : Rul r_580 := by
  refine ⟨fun _ ρ M hm hB hF hG => ?_, fun gi gv hg => (by cases hg)⟩
  have H := cr_580 M (ρ 0) (ρ 1) (ρ 2) (hB _ List.mem_cons_self) (hB _ (List.mem_cons_of_mem _ List.mem_cons_self)) (cvp 153 (x' := ((ρ 1))) (y' := ((ρ 0))) (by show 0 + (1 * ρ 1 + 0) = _; omega) (by show 0 + (1 * ρ 0 + 0) = _; omega) (hm _ List.mem_cons_self)) (cvm (c := 83) (by decide) (x' := ((ρ 1))) (y' := ((ρ 2))) (by show 0 + (1 * ρ 1 + 0) = _; omega) (by show 0 + (1 * ρ 2 + 0) = _; omega) (hm _ (List.mem_cons_of_mem _ List.mem_cons_self))) (by have h := hF _ List.mem_cons_self; have h : 0 ≤ (-1) + (1 * ρ 0 + ((-1) * ρ 2 + 0)) := h; omega) hG
  obtain ⟨k0, -⟩ := H
  exact ⟨_, List.mem_cons_self, ρ, fun _ _ => rfl, (okM_c (pvp 153 (by show 1 + (1 * ρ 1 + 0) = _; omega) (by show 0 + (1 * ρ 0 + 0) = _; omega) k0) okM_n), okB_n, okF_n⟩
-- onn1_0
theorem cr_581 (M : pM) (s0 s1 s2 : Int) (b0 : 0 ≤ s0 ∧ s0 ≤ 9223372036854775807) (b1 : 0 ≤ s1 ∧ s1 ≤ 3) (m0 : HP 153 (s1) (s0) M) (m1 : (0 ≤ (s1) ∧ M 83 (s1).toNat = (s2))) (f0 : 0 ≤ ((-1) * s0 + s2 - 1)) (hG : gI M) : (HP 153 (s1 + 1) (s0) M ∧ True) := by
  exact ⟨Eq.mpr hp_153 (fun i h1 h2 => if e : 0 + i = s1.toNat then (by rw [e, m1.2]; omega) else Eq.mp hp_153 m0 i h1 (by omega)), trivial⟩
theorem rul_581 : Rul r_581 := by
  refine ⟨fun _ ρ M hm hB hF hG => ?_, fun gi gv hg => (by cases hg)⟩
  have H := cr_581 M (ρ 0) (ρ 1) (ρ 2) (hB _ List.mem_cons_self) (hB _ (List.mem_cons_of_mem _ List.mem_cons_self)) (cvp 153 (x' := ((ρ 1))) (y' := ((ρ 0))) (by show 0 + (1 * ρ 1 + 0) = _; omega) (by show 0 + (1 * ρ 0 + 0) = _; omega) (hm _ List.mem_cons_self)) (cvm (c := 83) (by decide) (x' := ((ρ 1))) (y' := ((ρ 2))) (by show 0 + (1 * ρ 1 + 0) = _; omega) (by show 0 + (1 * ρ 2 + 0) = _; omega) (hm _ (List.mem_cons_of_mem _ List.mem_cons_self))) (by have h := hF _ List.mem_cons_self; have h : 0 ≤ (-1) + ((-1) * ρ 0 + (1 * ρ 2 + 0)) := h; omega) hG
  obtain ⟨k0, -⟩ := H
  exact ⟨_, List.mem_cons_self, ρ, fun _ _ => rfl, (okM_c (pvp 153 (by show 1 + (1 * ρ 1 + 0) = _; omega) (by show 0 + (1 * ρ 0 + 0) = _; omega) k0) okM_n), okB_n, okF_n⟩
-- rt10_0
theorem cr_582 (M : pM) (s0 s1 s2 s3 s4 s5 s6 s7 s8 s9 s10 : Int) (b0 : 0 ≤ s0 ∧ s0 ≤ 1900) (b1 : 0 ≤ s1 ∧ s1 ≤ 950) (b2 : 0 ≤ s2 ∧ s2 ≤ 1900) (b3 : 0 ≤ s3 ∧ s3 ≤ 1900) (b4 : 0 ≤ s4 ∧ s4 ≤ 1900) (b5 : 0 ≤ s5 ∧ s5 ≤ 9223372036854775807) (b6 : 0 ≤ s6 ∧ s6 ≤ 12) (b7 : 0 ≤ s7 ∧ s7 ≤ 20) (b8 : 0 ≤ s8 ∧ s8 ≤ 4) (b9 : 0 ≤ s9 ∧ s9 ≤ 3) (m0 : HP 53 (4096 * s0 + s1) (256 * s2 + 161) M) (m1 : HP 47 (s2) (262143 : Int) M) (m2 : HP 45 (s2) (s3) M) (m3 : HP 46 (s2) (s4) M) (m4 : HP 143 (2048 * s3 + s4) (s5) M) (m5 : HP 60 (4096 * s0 + s1) (s6 + 32 * s7 + 1024 * s8) M) (m6 : (0 ≤ (s9) ∧ M 83 (s9).toNat = (s10))) (f0 : 0 ≤ (s8 + (-1) * s9 - 1)) (f1 : 0 ≤ (s5 + (-1) * s10)) (f2 : 0 ≤ ((-1) * s5 + s10)) (hG : gI M) : (HP 66 (s3) (3 : Int) M ∧ True) := by
  have hby := hby_tm hG
  obtain ⟨S, hS, hw, ha⟩ := Eq.mp hp_60 m5
  obtain ⟨c1, c2, c3⟩ := qW_o (w := s6) (r := s7) (g := s8) hw (by omega) (by omega) (by omega) (by omega)
  obtain ⟨S2, hS2, hE2⟩ := ex_o (K := 10) (j := 0) (a := s2) (Eq.mp hp_53 m0) ⟨by omega, by omega, by decide, by decide⟩
  have e2 := qat_u hS hS2
  subst e2
  have ha2 : s2 = (qps (tm M) S2.1 1 : Int) := hE2.2.2.2.2
  have hz := (q47 m1).2
  rw [show s2.toNat = qps (tm M) S2.1 1 by omega] at hz
  have g1 := (q45 m2).2
  have g2 := (q46 m3).2
  rw [show s2.toNat = qps (tm M) S2.1 1 by omega] at g1 g2
  obtain ⟨p1, p2, p3⟩ := pk_o (s := s3.toNat) (e := s4.toNat) (Eq.mp hp_143 m4) ⟨by omega, by omega, by omega⟩
  have hv : s5 = qpk 256 0 (tm M) (qps (tm M) S2.1 1) := by unfold qpk; rw [show tS (tm M) (qps (tm M) S2.1 1) = s3.toNat by omega, show tE (tm M) (qps (tm M) S2.1 1) = s4.toNat by omega]; exact p2
  have hnm := ha.2.2.2.2.2.2.2.2.2.1
  have hi : M 83 s9.toNat = s10 := m6.2
  have hn2 := hnm (s9 - 0).toNat (by omega) (by omega)
  have hn1 : M 83 (4 * 0 + (s9 - 0).toNat) = _ := hn2.1
  rw [show 4 * 0 + (s9 - 0).toNat = s9.toNat by omega] at hn1
  have hq : qtn (tm M) S2.1 S2.2 = true := qtn_i (i := (s9 - 0).toNat) (by omega) (by omega) (nm_eq (m := 256) (a := 0) (hi := 122) (by decide) (by decide) hby (fun c _ _ => by omega) hn2.2 (by omega) (by rw [← hn1, ← hv]; omega))
  refine ⟨r_fl (K := 10) (j := 0) m0 m1 m2 ⟨by omega, by omega, by decide⟩ (fun s hs hE e => ?_), trivial⟩
  have e3 := qat_u hS hs
  subst e3
  show (if tK (tm M) (qps (tm M) s.1 1) ≤ 255 then some 1 else if tK (tm M) (qps (tm M) s.1 1) = 262143 then (if qtn (tm M) s.1 s.2 = true then some 3 else none) else some 2) = some 3
  rw [e, if_neg (by decide), if_pos rfl, if_pos hq]
theorem rul_582 : Rul r_582 := by
  refine ⟨fun _ ρ M hm hB hF hG => ?_, fun gi gv hg => (by cases hg)⟩
  have H := cr_582 M (ρ 0) (ρ 1) (ρ 2) (ρ 3) (ρ 4) (ρ 5) (ρ 6) (ρ 7) (ρ 8) (ρ 9) (ρ 10) (hB _ List.mem_cons_self) (hB _ (List.mem_cons_of_mem _ List.mem_cons_self)) (hB _ (List.mem_cons_of_mem _ (List.mem_cons_of_mem _ List.mem_cons_self))) (hB _ (List.mem_cons_of_mem _ (List.mem_cons_of_mem _ (List.mem_cons_of_mem _ List.mem_cons_self)))) (hB _ (List.mem_cons_of_mem _ (List.mem_cons_of_mem _ (List.mem_cons_of_mem _ (List.mem_cons_of_mem _ List.mem_cons_self))))) (hB _ (List.mem_cons_of_mem _ (List.mem_cons_of_mem _ (List.mem_cons_of_mem _ (List.mem_cons_of_mem _ (List.mem_cons_of_mem _ List.mem_cons_self)))))) (hB _ (List.mem_cons_of_mem _ (List.mem_cons_of_mem _ (List.mem_cons_of_mem _ (List.mem_cons_of_mem _ (List.mem_cons_of_mem _ (List.mem_cons_of_mem _ List.mem_cons_self))))))) (hB _ (List.mem_cons_of_mem _ (List.mem_cons_of_mem _ (List.mem_cons_of_mem _ (List.mem_cons_of_mem _ (List.mem_cons_of_mem _ (List.mem_cons_of_mem _ (List.mem_cons_of_mem _ List.mem_cons_self)))))))) (hB _ (List.mem_cons_of_mem _ (List.mem_cons_of_mem _ (List.mem_cons_of_mem _ (List.mem_cons_of_mem _ (List.mem_cons_of_mem _ (List.mem_cons_of_mem _ (List.mem_cons_of_mem _ (List.mem_cons_of_mem _ List.mem_cons_self))))))))) (hB _ (List.mem_cons_of_mem _ (List.mem_cons_of_mem _ (List.mem_cons_of_mem _ (List.mem_cons_of_mem _ (List.mem_cons_of_mem _ (List.mem_cons_of_mem _ (List.mem_cons_of_mem _ (List.mem_cons_of_mem _ (List.mem_cons_of_mem _ List.mem_cons_self)))))))))) (cvp 53 (x' := (4096 * (ρ 0) + (ρ 1))) (y' := (256 * (ρ 2) + 161)) (by show 0 + (4096 * ρ 0 + (1 * ρ 1 + 0)) = _; omega) (by show 161 + (256 * ρ 2 + 0) = _; omega) (hm _ List.mem_cons_self)) (cvp 47 (x' := ((ρ 2))) (y' := (262143 : Int)) (by show 0 + (1 * ρ 2 + 0) = _; omega) (by show 262143 + 0 = _; omega) (hm _ (List.mem_cons_of_mem _ List.mem_cons_self))) (cvp 45 (x' := ((ρ 2))) (y' := ((ρ 3))) (by show 0 + (1 * ρ 2 + 0) = _; omega) (by show 0 + (1 * ρ 3 + 0) = _; omega) (hm _ (List.mem_cons_of_mem _ (List.mem_cons_of_mem _ List.mem_cons_self)))) (cvp 46 (x' := ((ρ 2))) (y' := ((ρ 4))) (by show 0 + (1 * ρ 2 + 0) = _; omega) (by show 0 + (1 * ρ 4 + 0) = _; omega) (hm _ (List.mem_cons_of_mem _ (List.mem_cons_of_mem _ (List.mem_cons_of_mem _ List.mem_cons_self))))) (cvp 143 (x' := (2048 * (ρ 3) + (ρ 4))) (y' := ((ρ 5))) (by show 0 + (2048 * ρ 3 + (1 * ρ 4 + 0)) = _; omega) (by show 0 + (1 * ρ 5 + 0) = _; omega) (hm _ (List.mem_cons_of_mem _ (List.mem_cons_of_mem _ (List.mem_cons_of_mem _ (List.mem_cons_of_mem _ List.mem_cons_self)))))) (cvp 60 (x' := (4096 * (ρ 0) + (ρ 1))) (y' := ((ρ 6) + 32 * (ρ 7) + 1024 * (ρ 8))) (by show 0 + (4096 * ρ 0 + (1 * ρ 1 + 0)) = _; omega) (by show 0 + (1 * ρ 6 + (32 * ρ 7 + (1024 * ρ 8 + 0))) = _; omega) (hm _ (List.mem_cons_of_mem _ (List.mem_cons_of_mem _ (List.mem_cons_of_mem _ (List.mem_cons_of_mem _ (List.mem_cons_of_mem _ List.mem_cons_self))))))) (cvm (c := 83) (by decide) (x' := ((ρ 9))) (y' := ((ρ 10))) (by show 0 + (1 * ρ 9 + 0) = _; omega) (by show 0 + (1 * ρ 10 + 0) = _; omega) (hm _ (List.mem_cons_of_mem _ (List.mem_cons_of_mem _ (List.mem_cons_of_mem _ (List.mem_cons_of_mem _ (List.mem_cons_of_mem _ (List.mem_cons_of_mem _ List.mem_cons_self)))))))) (by have h := hF _ List.mem_cons_self; have h : 0 ≤ (-1) + (1 * ρ 8 + ((-1) * ρ 9 + 0)) := h; omega) (by have h := hF _ (List.mem_cons_of_mem _ List.mem_cons_self); have h : 0 ≤ 0 + (1 * ρ 5 + ((-1) * ρ 10 + 0)) := h; omega) (by have h := hF _ (List.mem_cons_of_mem _ (List.mem_cons_of_mem _ List.mem_cons_self)); have h : 0 ≤ 0 + ((-1) * ρ 5 + (1 * ρ 10 + 0)) := h; omega) hG
  obtain ⟨k0, -⟩ := H
  exact ⟨_, List.mem_cons_self, ρ, fun _ _ => rfl, (okM_c (pvp 66 (by show 0 + (1 * ρ 3 + 0) = _; omega) (by show 3 + 0 = _; omega) k0) okM_n), okB_n, okF_n⟩
-- rx161_0
theorem cr_583 (M : pM) (s0 s1 s2 s3 s4 s5 s6 s7 s8 s9 : Int) (b0 : 0 ≤ s0 ∧ s0 ≤ 1900) (b1 : 0 ≤ s1 ∧ s1 ≤ 950) (b2 : 0 ≤ s2 ∧ s2 ≤ 1900) (b3 : 0 ≤ s3 ∧ s3 ≤ 1900) (b4 : 0 ≤ s4 ∧ s4 ≤ 1900) (b5 : 0 ≤ s5 ∧ s5 ≤ 9223372036854775807) (b6 : 0 ≤ s6 ∧ s6 ≤ 12) (b7 : 0 ≤ s7 ∧ s7 ≤ 20) (b8 : 0 ≤ s8 ∧ s8 ≤ 4) (b9 : 0 ≤ s9 ∧ s9 ≤ 4) (m0 : HP 53 (4096 * s0 + s1) (256 * s2 + 161) M) (m1 : HP 47 (s2) (262143 : Int) M) (m2 : HP 45 (s2) (s3) M) (m3 : HP 46 (s2) (s4) M) (m4 : HP 143 (2048 * s3 + s4) (s5) M) (m5 : HP 60 (4096 * s0 + s1) (s6 + 32 * s7 + 1024 * s8) M) (m6 : HP 153 (s9) (s5) M) (f0 : 0 ≤ (s8 + (-1) * s9)) (f1 : 0 ≤ ((-1) * s8 + s9)) (hG : gI M) : (HP 53 (4096 * s0 + s1) (256 * s4 + 162) M ∧ True) := by
  have hby := hby_tm hG
  obtain ⟨S, hS, hw, ha⟩ := Eq.mp hp_60 m5
  obtain ⟨c1, c2, c3⟩ := qW_o (w := s6) (r := s7) (g := s8) hw (by omega) (by omega) (by omega) (by omega)
  obtain ⟨S2, hS2, hE2⟩ := ex_o (K := 10) (j := 0) (a := s2) (Eq.mp hp_53 m0) ⟨by omega, by omega, by decide, by decide⟩
  have e2 := qat_u hS hS2
  subst e2
  have ha2 : s2 = (qps (tm M) S2.1 1 : Int) := hE2.2.2.2.2
  have hz := (q47 m1).2
  rw [show s2.toNat = qps (tm M) S2.1 1 by omega] at hz
  have g1 := (q45 m2).2
  have g2 := (q46 m3).2
  rw [show s2.toNat = qps (tm M) S2.1 1 by omega] at g1 g2
  obtain ⟨p1, p2, p3⟩ := pk_o (s := s3.toNat) (e := s4.toNat) (Eq.mp hp_143 m4) ⟨by omega, by omega, by omega⟩
  have hv : s5 = qpk 256 0 (tm M) (qps (tm M) S2.1 1) := by unfold qpk; rw [show tS (tm M) (qps (tm M) S2.1 1) = s3.toNat by omega, show tE (tm M) (qps (tm M) S2.1 1) = s4.toNat by omega]; exact p2
  have hnm := ha.2.2.2.2.2.2.2.2.2.1
  have hno : ∀ i : Nat, i < 4 → (i : Int) < S2.2 0 2 → qnm (tm M) (S2.2 13 i).toNat ≠ qnm (tm M) (qps (tm M) S2.1 1) := by
    intro i hi hg he
    have hn2 := hnm i hi hg
    have hn1 : M 83 (4 * 0 + i) = _ := hn2.1
    refine Eq.mp hp_153 m6 i hi (by omega) ?_
    rw [show (0 + i) = 4 * 0 + i by omega, hn1, hv]
    unfold qpk
    rw [pkd_l, pkd_l]
    exact congrArg (lpk 256 0) he
  have hx := r_ex (y' := 256 * s4 + 162) (K := 10) (j := 0) m0 m1 m3 ⟨by omega, by omega, by decide⟩ (by omega) (by decide) (fun s hs hE e => by
    have e3 := qat_u hS hs
    subst e3
    show (if tK (tm M) (qps (tm M) s.1 1) ≤ 255 then some 1 else if tK (tm M) (qps (tm M) s.1 1) = 262143 then (if qtn (tm M) s.1 s.2 = true then some 3 else none) else some 2) = none
    rw [e, if_neg (by decide), if_pos rfl, if_neg (qtn_n hno)])
  exact ⟨hx, trivial⟩
theorem rul_583 : Rul r_583 := by
  refine ⟨fun _ ρ M hm hB hF hG => ?_, fun gi gv hg => (by cases hg)⟩
  have H := cr_583 M (ρ 0) (ρ 1) (ρ 2) (ρ 3) (ρ 4) (ρ 5) (ρ 6) (ρ 7) (ρ 8) (ρ 9) (hB _ List.mem_cons_self) (hB _ (List.mem_cons_of_mem _ List.mem_cons_self)) (hB _ (List.mem_cons_of_mem _ (List.mem_cons_of_mem _ List.mem_cons_self))) (hB _ (List.mem_cons_of_mem _ (List.mem_cons_of_mem _ (List.mem_cons_of_mem _ List.mem_cons_self)))) (hB _ (List.mem_cons_of_mem _ (List.mem_cons_of_mem _ (List.mem_cons_of_mem _ (List.mem_cons_of_mem _ List.mem_cons_self))))) (hB _ (List.mem_cons_of_mem _ (List.mem_cons_of_mem _ (List.mem_cons_of_mem _ (List.mem_cons_of_mem _ (List.mem_cons_of_mem _ List.mem_cons_self)))))) (hB _ (List.mem_cons_of_mem _ (List.mem_cons_of_mem _ (List.mem_cons_of_mem _ (List.mem_cons_of_mem _ (List.mem_cons_of_mem _ (List.mem_cons_of_mem _ List.mem_cons_self))))))) (hB _ (List.mem_cons_of_mem _ (List.mem_cons_of_mem _ (List.mem_cons_of_mem _ (List.mem_cons_of_mem _ (List.mem_cons_of_mem _ (List.mem_cons_of_mem _ (List.mem_cons_of_mem _ List.mem_cons_self)))))))) (hB _ (List.mem_cons_of_mem _ (List.mem_cons_of_mem _ (List.mem_cons_of_mem _ (List.mem_cons_of_mem _ (List.mem_cons_of_mem _ (List.mem_cons_of_mem _ (List.mem_cons_of_mem _ (List.mem_cons_of_mem _ List.mem_cons_self))))))))) (hB _ (List.mem_cons_of_mem _ (List.mem_cons_of_mem _ (List.mem_cons_of_mem _ (List.mem_cons_of_mem _ (List.mem_cons_of_mem _ (List.mem_cons_of_mem _ (List.mem_cons_of_mem _ (List.mem_cons_of_mem _ (List.mem_cons_of_mem _ List.mem_cons_self)))))))))) (cvp 53 (x' := (4096 * (ρ 0) + (ρ 1))) (y' := (256 * (ρ 2) + 161)) (by show 0 + (4096 * ρ 0 + (1 * ρ 1 + 0)) = _; omega) (by show 161 + (256 * ρ 2 + 0) = _; omega) (hm _ List.mem_cons_self)) (cvp 47 (x' := ((ρ 2))) (y' := (262143 : Int)) (by show 0 + (1 * ρ 2 + 0) = _; omega) (by show 262143 + 0 = _; omega) (hm _ (List.mem_cons_of_mem _ List.mem_cons_self))) (cvp 45 (x' := ((ρ 2))) (y' := ((ρ 3))) (by show 0 + (1 * ρ 2 + 0) = _; omega) (by show 0 + (1 * ρ 3 + 0) = _; omega) (hm _ (List.mem_cons_of_mem _ (List.mem_cons_of_mem _ List.mem_cons_self)))) (cvp 46 (x' := ((ρ 2))) (y' := ((ρ 4))) (by show 0 + (1 * ρ 2 + 0) = _; omega) (by show 0 + (1 * ρ 4 + 0) = _; omega) (hm _ (List.mem_cons_of_mem _ (List.mem_cons_of_mem _ (List.mem_cons_of_mem _ List.mem_cons_self))))) (cvp 143 (x' := (2048 * (ρ 3) + (ρ 4))) (y' := ((ρ 5))) (by show 0 + (2048 * ρ 3 + (1 * ρ 4 + 0)) = _; omega) (by show 0 + (1 * ρ 5 + 0) = _; omega) (hm _ (List.mem_cons_of_mem _ (List.mem_cons_of_mem _ (List.mem_cons_of_mem _ (List.mem_cons_of_mem _ List.mem_cons_self)))))) (cvp 60 (x' := (4096 * (ρ 0) + (ρ 1))) (y' := ((ρ 6) + 32 * (ρ 7) + 1024 * (ρ 8))) (by show 0 + (4096 * ρ 0 + (1 * ρ 1 + 0)) = _; omega) (by show 0 + (1 * ρ 6 + (32 * ρ 7 + (1024 * ρ 8 + 0))) = _; omega) (hm _ (List.mem_cons_of_mem _ (List.mem_cons_of_mem _ (List.mem_cons_of_mem _ (List.mem_cons_of_mem _ (List.mem_cons_of_mem _ List.mem_cons_self))))))) (cvp 153 (x' := ((ρ 9))) (y' := ((ρ 5))) (by show 0 + (1 * ρ 9 + 0) = _; omega) (by show 0 + (1 * ρ 5 + 0) = _; omega) (hm _ (List.mem_cons_of_mem _ (List.mem_cons_of_mem _ (List.mem_cons_of_mem _ (List.mem_cons_of_mem _ (List.mem_cons_of_mem _ (List.mem_cons_of_mem _ List.mem_cons_self)))))))) (by have h := hF _ List.mem_cons_self; have h : 0 ≤ 0 + (1 * ρ 8 + ((-1) * ρ 9 + 0)) := h; omega) (by have h := hF _ (List.mem_cons_of_mem _ List.mem_cons_self); have h : 0 ≤ 0 + ((-1) * ρ 8 + (1 * ρ 9 + 0)) := h; omega) hG
  obtain ⟨k0, -⟩ := H
  exact ⟨_, List.mem_cons_self, ρ, fun _ _ => rfl, (okM_c (pvp 53 (by show 0 + (4096 * ρ 0 + (1 * ρ 1 + 0)) = _; omega) (by show 162 + (256 * ρ 4 + 0) = _; omega) k0) okM_n), okB_n, okF_n⟩
-- rnw_0
theorem cr_584 (M : pM) (s0 s1 s2 s3 s4 s5 : Int) (b0 : 0 ≤ s0 ∧ s0 ≤ 1900) (b1 : 0 ≤ s1 ∧ s1 ≤ 950) (b2 : 0 ≤ s2 ∧ s2 ≤ 12) (b3 : 0 ≤ s3 ∧ s3 ≤ 20) (b4 : 0 ≤ s4 ∧ s4 ≤ 3) (m0 : HP 60 (4096 * s0 + s1) (s2 + 32 * s3 + 1024 * s4) M) (hG : gI M) : (HP 60 (4096 * s0 + s1) (s2 + 32 * s3 + 1024 * s4) (st M 83 (s4).toNat (s5)) ∧ (0 ≤ (s4) ∧ (st M 83 (s4).toNat (s5)) 83 (s4).toNat = (s5)) ∧ True) := by
  have ht : tm (st M 83 (4 * 0 + (s4.toNat)) (s5)) = tm M := tm_st (by decide) (by decide)
  rw [show (s4).toNat = 4 * 0 + (s4.toNat) by omega]
  refine ⟨Eq.mpr hp_60 ?_, ⟨by omega, ?_⟩, trivial⟩
  · rw [ht]
    exact RA_m (fun _ _ _ _ _ h => agR_w83 h) (l_rnw (w := s2) (r := s3) (g := s4) (Eq.mp hp_60 m0) (by omega) ⟨⟨by omega, by omega⟩, ⟨by omega, by omega⟩, by omega, by omega⟩ (by omega))
  · rw [cw0, if_pos rfl]
theorem rul_584 : Rul r_584 := by
  refine ⟨fun h => (by cases h), fun gi gv hg ρ M hm hB hF hG => ?_⟩
  obtain ⟨g1, g2⟩ := List.cons.inj (show ([aI ((0 : Int), ([(4, 1)] : List (Nat × Int))), aI ((0 : Int), ([(5, 1)] : List (Nat × Int)))] : List av) = [.inl gi, .inl gv] from hg)
  obtain ⟨g2, -⟩ := List.cons.inj g2
  cases g1
  cases g2
  have ei : ev ρ ((0 : Int), ([(4, 1)] : List (Nat × Int))) = ((ρ 4)) := by show 0 + (1 * ρ 4 + 0) = _; omega
  have ew : ev ρ ((0 : Int), ([(5, 1)] : List (Nat × Int))) = ((ρ 5)) := by show 0 + (1 * ρ 5 + 0) = _; omega
  rw [show (st M (ctj r_584) (ev ρ ((0 : Int), ([(4, 1)] : List (Nat × Int)))).toNat (ev ρ ((0 : Int), ([(5, 1)] : List (Nat × Int))))) = (st M 83 ((ρ 4)).toNat ((ρ 5))) from by rw [ei, ew]; rfl]
  have H := cr_584 M (ρ 0) (ρ 1) (ρ 2) (ρ 3) (ρ 4) (ρ 5) (hB _ List.mem_cons_self) (hB _ (List.mem_cons_of_mem _ List.mem_cons_self)) (hB _ (List.mem_cons_of_mem _ (List.mem_cons_of_mem _ List.mem_cons_self))) (hB _ (List.mem_cons_of_mem _ (List.mem_cons_of_mem _ (List.mem_cons_of_mem _ List.mem_cons_self)))) (hB _ (List.mem_cons_of_mem _ (List.mem_cons_of_mem _ (List.mem_cons_of_mem _ (List.mem_cons_of_mem _ List.mem_cons_self))))) (cvp 60 (x' := (4096 * (ρ 0) + (ρ 1))) (y' := ((ρ 2) + 32 * (ρ 3) + 1024 * (ρ 4))) (by show 0 + (4096 * ρ 0 + (1 * ρ 1 + 0)) = _; omega) (by show 0 + (1 * ρ 2 + (32 * ρ 3 + (1024 * ρ 4 + 0))) = _; omega) (hm _ List.mem_cons_self)) hG
  obtain ⟨k0, k1, -⟩ := H
  exact ⟨_, List.mem_cons_self, ρ, fun _ _ => rfl, (okM_c (pvp 60 (by show 0 + (4096 * ρ 0 + (1 * ρ 1 + 0)) = _; omega) (by show 0 + (1 * ρ 2 + (32 * ρ 3 + (1024 * ρ 4 + 0))) = _; omega) k0) (okM_c (pvm (c := 83) (by decide) (by show 0 + (1 * ρ 4 + 0) = _; omega) (by show 0 + (1 * ρ 5 + 0) = _; omega) k1) okM_n)), okB_n, okF_n⟩
-- rnv_0
theorem cr_585 (M : pM) (s0 s1 s2 s3 s4 s5 s6 s7 : Int) (b0 : 0 ≤ s0 ∧ s0 ≤ 1900) (b1 : 0 ≤ s1 ∧ s1 ≤ 1900) (b2 : 0 ≤ s2 ∧ s2 ≤ 1900) (b3 : 0 ≤ s3 ∧ s3 ≤ 1900) (b4 : 0 ≤ s4 ∧ s4 ≤ 9223372036854775807) (b5 : 0 ≤ s5 ∧ s5 ≤ 12) (b6 : 0 ≤ s6 ∧ s6 ≤ 20) (b7 : 0 ≤ s7 ∧ s7 ≤ 3) (m0 : HP 157 (16 * s0 + 1) (s1) M) (m1 : HP 47 (s1) (262143 : Int) M) (m2 : HP 45 (s1) (s2) M) (m3 : HP 46 (s1) (s3) M) (m4 : HP 143 (2048 * s2 + s3) (s4) M) (m5 : (0 ≤ (s7) ∧ M 83 (s7).toNat = (s4))) (hG : gI M) : (HP 155 (s0) (s7) M ∧ True) := by
  obtain ⟨p, i, t1, t2, t3⟩ := Eq.mp hp_157 m0
  have e1 : i = 1 := by omega
  have e2 : p = s0.toNat := by omega
  subst e1
  subst e2
  have g1 := (q45 m2).2
  have g2 := (q46 m3).2
  rw [show s1.toNat = qps (tm M) s0.toNat 1 by omega] at g1 g2
  obtain ⟨p1, p2, p3⟩ := pk_o (s := s2.toNat) (e := s3.toNat) (Eq.mp hp_143 m4) ⟨by omega, by omega, by omega⟩
  refine ⟨Eq.mpr hp_155 ⟨by omega, s7.toNat, by omega, by omega, ?_⟩, trivial⟩
  rw [show 0 + s7.toNat = (s7).toNat by omega, m5.2]
  unfold qpk
  rw [show tS (tm M) (qps (tm M) s0.toNat 1) = s2.toNat by omega, show tE (tm M) (qps (tm M) s0.toNat 1) = s3.toNat by omega]
  exact p2
theorem rul_585 : Rul r_585 := by
  refine ⟨fun _ ρ M hm hB hF hG => ?_, fun gi gv hg => (by cases hg)⟩
  have H := cr_585 M (ρ 0) (ρ 1) (ρ 2) (ρ 3) (ρ 4) (ρ 5) (ρ 6) (ρ 7) (hB _ List.mem_cons_self) (hB _ (List.mem_cons_of_mem _ List.mem_cons_self)) (hB _ (List.mem_cons_of_mem _ (List.mem_cons_of_mem _ List.mem_cons_self))) (hB _ (List.mem_cons_of_mem _ (List.mem_cons_of_mem _ (List.mem_cons_of_mem _ List.mem_cons_self)))) (hB _ (List.mem_cons_of_mem _ (List.mem_cons_of_mem _ (List.mem_cons_of_mem _ (List.mem_cons_of_mem _ List.mem_cons_self))))) (hB _ (List.mem_cons_of_mem _ (List.mem_cons_of_mem _ (List.mem_cons_of_mem _ (List.mem_cons_of_mem _ (List.mem_cons_of_mem _ List.mem_cons_self)))))) (hB _ (List.mem_cons_of_mem _ (List.mem_cons_of_mem _ (List.mem_cons_of_mem _ (List.mem_cons_of_mem _ (List.mem_cons_of_mem _ (List.mem_cons_of_mem _ List.mem_cons_self))))))) (hB _ (List.mem_cons_of_mem _ (List.mem_cons_of_mem _ (List.mem_cons_of_mem _ (List.mem_cons_of_mem _ (List.mem_cons_of_mem _ (List.mem_cons_of_mem _ (List.mem_cons_of_mem _ List.mem_cons_self)))))))) (cvp 157 (x' := (16 * (ρ 0) + 1)) (y' := ((ρ 1))) (by show 1 + (16 * ρ 0 + 0) = _; omega) (by show 0 + (1 * ρ 1 + 0) = _; omega) (hm _ List.mem_cons_self)) (cvp 47 (x' := ((ρ 1))) (y' := (262143 : Int)) (by show 0 + (1 * ρ 1 + 0) = _; omega) (by show 262143 + 0 = _; omega) (hm _ (List.mem_cons_of_mem _ List.mem_cons_self))) (cvp 45 (x' := ((ρ 1))) (y' := ((ρ 2))) (by show 0 + (1 * ρ 1 + 0) = _; omega) (by show 0 + (1 * ρ 2 + 0) = _; omega) (hm _ (List.mem_cons_of_mem _ (List.mem_cons_of_mem _ List.mem_cons_self)))) (cvp 46 (x' := ((ρ 1))) (y' := ((ρ 3))) (by show 0 + (1 * ρ 1 + 0) = _; omega) (by show 0 + (1 * ρ 3 + 0) = _; omega) (hm _ (List.mem_cons_of_mem _ (List.mem_cons_of_mem _ (List.mem_cons_of_mem _ List.mem_cons_self))))) (cvp 143 (x' := (2048 * (ρ 2) + (ρ 3))) (y' := ((ρ 4))) (by show 0 + (2048 * ρ 2 + (1 * ρ 3 + 0)) = _; omega) (by show 0 + (1 * ρ 4 + 0) = _; omega) (hm _ (List.mem_cons_of_mem _ (List.mem_cons_of_mem _ (List.mem_cons_of_mem _ (List.mem_cons_of_mem _ List.mem_cons_self)))))) (cvm (c := 83) (by decide) (x' := ((ρ 7))) (y' := ((ρ 4))) (by show 0 + (1 * ρ 7 + 0) = _; omega) (by show 0 + (1 * ρ 4 + 0) = _; omega) (hm _ (List.mem_cons_of_mem _ (List.mem_cons_of_mem _ (List.mem_cons_of_mem _ (List.mem_cons_of_mem _ (List.mem_cons_of_mem _ List.mem_cons_self))))))) hG
  obtain ⟨k0, -⟩ := H
  exact ⟨_, List.mem_cons_self, ρ, fun _ _ => rfl, (okM_c (pvp 155 (by show 0 + (1 * ρ 0 + 0) = _; omega) (by show 0 + (1 * ρ 7 + 0) = _; omega) k0) okM_n), okB_n, okF_n⟩
-- rsw_0
theorem cr_586 (M : pM) (s0 s1 s2 s3 s4 s5 s6 : Int) (b0 : 0 ≤ s0 ∧ s0 ≤ 1900) (b1 : 0 ≤ s1 ∧ s1 ≤ 950) (b2 : 0 ≤ s2 ∧ s2 ≤ 12) (b3 : 0 ≤ s3 ∧ s3 ≤ 20) (b4 : 0 ≤ s4 ∧ s4 ≤ 3) (b5 : 0 ≤ s5 ∧ s5 ≤ 3) (b6 : 0 ≤ s6 ∧ s6 ≤ 30) (m0 : HP 60 (4096 * s0 + s1) (s2 + 32 * s3 + 1024 * s4) M) (m1 : HP 149 (4096 * s0 + s1) (s2 + 32 * s3 + 1024 * s4 + 8192 * s5) M) (m2 : HP 79 (16 * s0 + s5 + 3) (s6) M) (hG : gI M) : (HP 60 (4096 * s0 + s1) (s2 + 32 * s3 + 1024 * s4) (st M 81 (4 * s4 + s5).toNat (s6)) ∧ HP 149 (4096 * s0 + s1) (s2 + 32 * s3 + 1024 * s4 + 8192 * s5 + 8192) (st M 81 (4 * s4 + s5).toNat (s6)) ∧ True) := by
  have hv := q79 (P := s0) (i := 3 + s5.toNat) m2 ⟨by omega, by omega⟩ (by omega)
  have ht : tm (st M 81 (16 * 0 + (4 * s4.toNat + s5.toNat)) (s6)) = tm M := tm_st (by decide) (by decide)
  rw [show (4 * s4 + s5).toNat = 16 * 0 + (4 * s4.toNat + s5.toNat) by omega]
  refine ⟨Eq.mpr hp_60 ?_, Eq.mpr hp_149 ?_, trivial⟩
  · rw [ht]
    exact RA_m (fun _ _ _ _ _ h => agR_w81 h) (l_ras (w := s2) (r := s3) (g := s4) (Eq.mp hp_60 m0) (by omega) ⟨⟨by omega, by omega⟩, ⟨by omega, by omega⟩, by omega, by omega⟩ (by omega))
  · rw [ht]
    exact RS_m (R := qU (qRr 0 M) 12 (4 * s4.toNat + s5.toNat) (s6)) (R' := qRr 0 (st M 81 (16 * 0 + (4 * s4.toNat + s5.toNat)) (s6))) (fun i _ => cw) (fun i _ => rfl) (k := s5.toNat + 1) (w := s2) (r := s3) (g := s4) (l_rsw (y' := (s2 + 32 * s3 + 1024 * s4 + 8192 * s5 + 8192)) (k := s5.toNat) (w := s2) (r := s3) (g := s4) (P := s0) (l := s1) (Eq.mp hp_149 m1) (by omega) ⟨⟨by omega, by omega⟩, ⟨by omega, by omega⟩, by omega, by omega⟩ (by omega) ⟨by omega, by omega, by omega⟩ hv (by omega)) (by omega) ⟨⟨by omega, by omega⟩, ⟨by omega, by omega⟩, by omega, by omega⟩
theorem rul_586 : Rul r_586 := by
  refine ⟨fun h => (by cases h), fun gi gv hg ρ M hm hB hF hG => ?_⟩
  obtain ⟨g1, g2⟩ := List.cons.inj (show ([aI ((0 : Int), ([(4, 4), (5, 1)] : List (Nat × Int))), aI ((0 : Int), ([(6, 1)] : List (Nat × Int)))] : List av) = [.inl gi, .inl gv] from hg)
  obtain ⟨g2, -⟩ := List.cons.inj g2
  cases g1
  cases g2
  have ei : ev ρ ((0 : Int), ([(4, 4), (5, 1)] : List (Nat × Int))) = (4 * (ρ 4) + (ρ 5)) := by show 0 + (4 * ρ 4 + (1 * ρ 5 + 0)) = _; omega
  have ew : ev ρ ((0 : Int), ([(6, 1)] : List (Nat × Int))) = ((ρ 6)) := by show 0 + (1 * ρ 6 + 0) = _; omega
  rw [show (st M (ctj r_586) (ev ρ ((0 : Int), ([(4, 4), (5, 1)] : List (Nat × Int)))).toNat (ev ρ ((0 : Int), ([(6, 1)] : List (Nat × Int))))) = (st M 81 (4 * (ρ 4) + (ρ 5)).toNat ((ρ 6))) from by rw [ei, ew]; rfl]
  have H := cr_586 M (ρ 0) (ρ 1) (ρ 2) (ρ 3) (ρ 4) (ρ 5) (ρ 6) (hB _ List.mem_cons_self) (hB _ (List.mem_cons_of_mem _ List.mem_cons_self)) (hB _ (List.mem_cons_of_mem _ (List.mem_cons_of_mem _ List.mem_cons_self))) (hB _ (List.mem_cons_of_mem _ (List.mem_cons_of_mem _ (List.mem_cons_of_mem _ List.mem_cons_self)))) (hB _ (List.mem_cons_of_mem _ (List.mem_cons_of_mem _ (List.mem_cons_of_mem _ (List.mem_cons_of_mem _ List.mem_cons_self))))) (hB _ (List.mem_cons_of_mem _ (List.mem_cons_of_mem _ (List.mem_cons_of_mem _ (List.mem_cons_of_mem _ (List.mem_cons_of_mem _ List.mem_cons_self)))))) (hB _ (List.mem_cons_of_mem _ (List.mem_cons_of_mem _ (List.mem_cons_of_mem _ (List.mem_cons_of_mem _ (List.mem_cons_of_mem _ (List.mem_cons_of_mem _ List.mem_cons_self))))))) (cvp 60 (x' := (4096 * (ρ 0) + (ρ 1))) (y' := ((ρ 2) + 32 * (ρ 3) + 1024 * (ρ 4))) (by show 0 + (4096 * ρ 0 + (1 * ρ 1 + 0)) = _; omega) (by show 0 + (1 * ρ 2 + (32 * ρ 3 + (1024 * ρ 4 + 0))) = _; omega) (hm _ List.mem_cons_self)) (cvp 149 (x' := (4096 * (ρ 0) + (ρ 1))) (y' := ((ρ 2) + 32 * (ρ 3) + 1024 * (ρ 4) + 8192 * (ρ 5))) (by show 0 + (4096 * ρ 0 + (1 * ρ 1 + 0)) = _; omega) (by show 0 + (1 * ρ 2 + (32 * ρ 3 + (1024 * ρ 4 + (8192 * ρ 5 + 0)))) = _; omega) (hm _ (List.mem_cons_of_mem _ List.mem_cons_self))) (cvp 79 (x' := (16 * (ρ 0) + (ρ 5) + 3)) (y' := ((ρ 6))) (by show 3 + (16 * ρ 0 + (1 * ρ 5 + 0)) = _; omega) (by show 0 + (1 * ρ 6 + 0) = _; omega) (hm _ (List.mem_cons_of_mem _ (List.mem_cons_of_mem _ List.mem_cons_self)))) hG
  obtain ⟨k0, k1, -⟩ := H
  exact ⟨_, List.mem_cons_self, ρ, fun _ _ => rfl, (okM_c (pvp 60 (by show 0 + (4096 * ρ 0 + (1 * ρ 1 + 0)) = _; omega) (by show 0 + (1 * ρ 2 + (32 * ρ 3 + (1024 * ρ 4 + 0))) = _; omega) k0) (okM_c (pvp 149 (by show 0 + (4096 * ρ 0 + (1 * ρ 1 + 0)) = _; omega) (by show 8192 + (1 * ρ 2 + (32 * ρ 3 + (1024 * ρ 4 + (8192 * ρ 5 + 0)))) = _; omega) k1) okM_n)), okB_n, okF_n⟩
-- rs0_0
theorem cr_587 (M : pM) (s0 s1 s2 s3 s4 : Int) (b0 : 0 ≤ s0 ∧ s0 ≤ 1900) (b1 : 0 ≤ s1 ∧ s1 ≤ 950) (b2 : 0 ≤ s2 ∧ s2 ≤ 12) (b3 : 0 ≤ s3 ∧ s3 ≤ 20) (b4 : 0 ≤ s4 ∧ s4 ≤ 4) (m0 : HP 60 (4096 * s0 + s1) (s2 + 32 * s3 + 1024 * s4) M) (hG : gI M) : (HP 149 (4096 * s0 + s1) (s2 + 32 * s3 + 1024 * s4) M ∧ True) := by
  exact ⟨Eq.mpr hp_149 (l_rs0 (Eq.mp hp_60 m0)), trivial⟩
theorem rul_587 : Rul r_587 := by
  refine ⟨fun _ ρ M hm hB hF hG => ?_, fun gi gv hg => (by cases hg)⟩
  have H := cr_587 M (ρ 0) (ρ 1) (ρ 2) (ρ 3) (ρ 4) (hB _ List.mem_cons_self) (hB _ (List.mem_cons_of_mem _ List.mem_cons_self)) (hB _ (List.mem_cons_of_mem _ (List.mem_cons_of_mem _ List.mem_cons_self))) (hB _ (List.mem_cons_of_mem _ (List.mem_cons_of_mem _ (List.mem_cons_of_mem _ List.mem_cons_self)))) (hB _ (List.mem_cons_of_mem _ (List.mem_cons_of_mem _ (List.mem_cons_of_mem _ (List.mem_cons_of_mem _ List.mem_cons_self))))) (cvp 60 (x' := (4096 * (ρ 0) + (ρ 1))) (y' := ((ρ 2) + 32 * (ρ 3) + 1024 * (ρ 4))) (by show 0 + (4096 * ρ 0 + (1 * ρ 1 + 0)) = _; omega) (by show 0 + (1 * ρ 2 + (32 * ρ 3 + (1024 * ρ 4 + 0))) = _; omega) (hm _ List.mem_cons_self)) hG
  obtain ⟨k0, -⟩ := H
  exact ⟨_, List.mem_cons_self, ρ, fun _ _ => rfl, (okM_c (pvp 149 (by show 0 + (4096 * ρ 0 + (1 * ρ 1 + 0)) = _; omega) (by show 0 + (1 * ρ 2 + (32 * ρ 3 + (1024 * ρ 4 + 0))) = _; omega) k0) okM_n), okB_n, okF_n⟩
-- rhw_0
theorem cr_588 (M : pM) (s0 s1 s2 s3 s4 s5 : Int) (b0 : 0 ≤ s0 ∧ s0 ≤ 1900) (b1 : 0 ≤ s1 ∧ s1 ≤ 950) (b2 : 0 ≤ s2 ∧ s2 ≤ 12) (b3 : 0 ≤ s3 ∧ s3 ≤ 20) (b4 : 0 ≤ s4 ∧ s4 ≤ 3) (b5 : 50 ≤ s5 ∧ s5 ≤ 200) (m0 : HP 60 (4096 * s0 + s1) (s2 + 32 * s3 + 1024 * s4) M) (m1 : HP 149 (4096 * s0 + s1) (s2 + 32 * s3 + 1024 * s4 + 32768) M) (m2 : HP 79 (16 * s0 + 8) (s5) M) (hG : gI M) : (HP 60 (4096 * s0 + s1) (s2 + 32 * s3 + 1024 * s4) (st M 82 (s4).toNat (s5)) ∧ HP 149 (4096 * s0 + s1) (s2 + 32 * s3 + 1024 * s4 + 40960) (st M 82 (s4).toNat (s5)) ∧ True) := by
  have hv := q79 (P := s0) (i := 8) m2 ⟨by omega, by omega⟩ (by omega)
  have ht : tm (st M 82 (4 * 0 + (s4.toNat)) (s5)) = tm M := tm_st (by decide) (by decide)
  rw [show (s4).toNat = 4 * 0 + (s4.toNat) by omega]
  refine ⟨Eq.mpr hp_60 ?_, Eq.mpr hp_149 ?_, trivial⟩
  · rw [ht]
    exact RA_m (fun _ _ _ _ _ h => agR_w82 h) (l_rah (w := s2) (r := s3) (g := s4) (Eq.mp hp_60 m0) (by omega) ⟨⟨by omega, by omega⟩, ⟨by omega, by omega⟩, by omega, by omega⟩ (by omega))
  · rw [ht]
    exact RS_m (R := qU (qRr 0 M) 13 (s4.toNat) (s5)) (R' := qRr 0 (st M 82 (4 * 0 + (s4.toNat)) (s5))) (fun i _ => rfl) (fun i _ => cw) (k := 5) (w := s2) (r := s3) (g := s4) (l_rhw (y' := (s2 + 32 * s3 + 1024 * s4 + 40960)) (w := s2) (r := s3) (g := s4) (P := s0) (l := s1) (Eq.mp hp_149 m1) (by omega) ⟨⟨by omega, by omega⟩, ⟨by omega, by omega⟩, by omega, by omega⟩ ⟨by omega, by omega, by omega⟩ hv (by omega)) (by omega) ⟨⟨by omega, by omega⟩, ⟨by omega, by omega⟩, by omega, by omega⟩
theorem rul_588 : Rul r_588 := by
  refine ⟨fun h => (by cases h), fun gi gv hg ρ M hm hB hF hG => ?_⟩
  obtain ⟨g1, g2⟩ := List.cons.inj (show ([aI ((0 : Int), ([(4, 1)] : List (Nat × Int))), aI ((0 : Int), ([(5, 1)] : List (Nat × Int)))] : List av) = [.inl gi, .inl gv] from hg)
  obtain ⟨g2, -⟩ := List.cons.inj g2
  cases g1
  cases g2
  have ei : ev ρ ((0 : Int), ([(4, 1)] : List (Nat × Int))) = ((ρ 4)) := by show 0 + (1 * ρ 4 + 0) = _; omega
  have ew : ev ρ ((0 : Int), ([(5, 1)] : List (Nat × Int))) = ((ρ 5)) := by show 0 + (1 * ρ 5 + 0) = _; omega
  rw [show (st M (ctj r_588) (ev ρ ((0 : Int), ([(4, 1)] : List (Nat × Int)))).toNat (ev ρ ((0 : Int), ([(5, 1)] : List (Nat × Int))))) = (st M 82 ((ρ 4)).toNat ((ρ 5))) from by rw [ei, ew]; rfl]
  have H := cr_588 M (ρ 0) (ρ 1) (ρ 2) (ρ 3) (ρ 4) (ρ 5) (hB _ List.mem_cons_self) (hB _ (List.mem_cons_of_mem _ List.mem_cons_self)) (hB _ (List.mem_cons_of_mem _ (List.mem_cons_of_mem _ List.mem_cons_self))) (hB _ (List.mem_cons_of_mem _ (List.mem_cons_of_mem _ (List.mem_cons_of_mem _ List.mem_cons_self)))) (hB _ (List.mem_cons_of_mem _ (List.mem_cons_of_mem _ (List.mem_cons_of_mem _ (List.mem_cons_of_mem _ List.mem_cons_self))))) (hB _ (List.mem_cons_of_mem _ (List.mem_cons_of_mem _ (List.mem_cons_of_mem _ (List.mem_cons_of_mem _ (List.mem_cons_of_mem _ List.mem_cons_self)))))) (cvp 60 (x' := (4096 * (ρ 0) + (ρ 1))) (y' := ((ρ 2) + 32 * (ρ 3) + 1024 * (ρ 4))) (by show 0 + (4096 * ρ 0 + (1 * ρ 1 + 0)) = _; omega) (by show 0 + (1 * ρ 2 + (32 * ρ 3 + (1024 * ρ 4 + 0))) = _; omega) (hm _ List.mem_cons_self)) (cvp 149 (x' := (4096 * (ρ 0) + (ρ 1))) (y' := ((ρ 2) + 32 * (ρ 3) + 1024 * (ρ 4) + 32768)) (by show 0 + (4096 * ρ 0 + (1 * ρ 1 + 0)) = _; omega) (by show 32768 + (1 * ρ 2 + (32 * ρ 3 + (1024 * ρ 4 + 0))) = _; omega) (hm _ (List.mem_cons_of_mem _ List.mem_cons_self))) (cvp 79 (x' := (16 * (ρ 0) + 8)) (y' := ((ρ 5))) (by show 8 + (16 * ρ 0 + 0) = _; omega) (by show 0 + (1 * ρ 5 + 0) = _; omega) (hm _ (List.mem_cons_of_mem _ (List.mem_cons_of_mem _ List.mem_cons_self)))) hG
  obtain ⟨k0, k1, -⟩ := H
  exact ⟨_, List.mem_cons_self, ρ, fun _ _ => rfl, (okM_c (pvp 60 (by show 0 + (4096 * ρ 0 + (1 * ρ 1 + 0)) = _; omega) (by show 0 + (1 * ρ 2 + (32 * ρ 3 + (1024 * ρ 4 + 0))) = _; omega) k0) (okM_c (pvp 149 (by show 0 + (4096 * ρ 0 + (1 * ρ 1 + 0)) = _; omega) (by show 40960 + (1 * ρ 2 + (32 * ρ 3 + (1024 * ρ 4 + 0))) = _; omega) k1) okM_n)), okB_n, okF_n⟩
-- rge_0
theorem cr_589 (M : pM) (s0 s1 s2 s3 s4 s5 : Int) (b0 : 0 ≤ s0 ∧ s0 ≤ 1900) (b1 : 0 ≤ s1 ∧ s1 ≤ 950) (b2 : 0 ≤ s2 ∧ s2 ≤ 1900) (b3 : 0 ≤ s3 ∧ s3 ≤ 12) (b4 : 0 ≤ s4 ∧ s4 ≤ 20) (b5 : 0 ≤ s5 ∧ s5 ≤ 3) (m0 : HP 60 (4096 * s0 + s1) (s3 + 32 * s4 + 1024 * s5) M) (m1 : HP 149 (4096 * s0 + s1) (s3 + 32 * s4 + 1024 * s5 + 40960) M) (m2 : HP 155 (s0) (s5) M) (m3 : HP 53 (4096 * s0 + s1) (256 * s2 + 169) M) (hG : gI M) : (HP 62 (4096 * s0 + s1) (s3 + 32 * s4 + 1024 * s5 + 1024) M ∧ True) := by
  obtain ⟨h0, gg, h1, h2, h3⟩ := Eq.mp hp_155 m2
  have hg : gg = s5.toNat := by omega
  subst hg
  exact ⟨Eq.mpr hp_62 (l_rge (v := 0) (w := s3) (r := s4) (g := s5) (P := s0) (l := s1) (Eq.mp hp_60 m0) (Eq.mp hp_149 m1) (by omega) (by omega) ⟨⟨by omega, by omega⟩, ⟨by omega, by omega⟩, by omega, by omega⟩ (ex_o (K := 10) (j := 8) (a := s2) (Eq.mp hp_53 m3) ⟨by omega, by omega, by decide, by decide⟩) ⟨by omega, by omega, by omega⟩ h3 (by omega)), trivial⟩
theorem rul_589 : Rul r_589 := by
  refine ⟨fun _ ρ M hm hB hF hG => ?_, fun gi gv hg => (by cases hg)⟩
  have H := cr_589 M (ρ 0) (ρ 1) (ρ 2) (ρ 3) (ρ 4) (ρ 5) (hB _ List.mem_cons_self) (hB _ (List.mem_cons_of_mem _ List.mem_cons_self)) (hB _ (List.mem_cons_of_mem _ (List.mem_cons_of_mem _ List.mem_cons_self))) (hB _ (List.mem_cons_of_mem _ (List.mem_cons_of_mem _ (List.mem_cons_of_mem _ List.mem_cons_self)))) (hB _ (List.mem_cons_of_mem _ (List.mem_cons_of_mem _ (List.mem_cons_of_mem _ (List.mem_cons_of_mem _ List.mem_cons_self))))) (hB _ (List.mem_cons_of_mem _ (List.mem_cons_of_mem _ (List.mem_cons_of_mem _ (List.mem_cons_of_mem _ (List.mem_cons_of_mem _ List.mem_cons_self)))))) (cvp 60 (x' := (4096 * (ρ 0) + (ρ 1))) (y' := ((ρ 3) + 32 * (ρ 4) + 1024 * (ρ 5))) (by show 0 + (4096 * ρ 0 + (1 * ρ 1 + 0)) = _; omega) (by show 0 + (1 * ρ 3 + (32 * ρ 4 + (1024 * ρ 5 + 0))) = _; omega) (hm _ List.mem_cons_self)) (cvp 149 (x' := (4096 * (ρ 0) + (ρ 1))) (y' := ((ρ 3) + 32 * (ρ 4) + 1024 * (ρ 5) + 40960)) (by show 0 + (4096 * ρ 0 + (1 * ρ 1 + 0)) = _; omega) (by show 40960 + (1 * ρ 3 + (32 * ρ 4 + (1024 * ρ 5 + 0))) = _; omega) (hm _ (List.mem_cons_of_mem _ List.mem_cons_self))) (cvp 155 (x' := ((ρ 0))) (y' := ((ρ 5))) (by show 0 + (1 * ρ 0 + 0) = _; omega) (by show 0 + (1 * ρ 5 + 0) = _; omega) (hm _ (List.mem_cons_of_mem _ (List.mem_cons_of_mem _ List.mem_cons_self)))) (cvp 53 (x' := (4096 * (ρ 0) + (ρ 1))) (y' := (256 * (ρ 2) + 169)) (by show 0 + (4096 * ρ 0 + (1 * ρ 1 + 0)) = _; omega) (by show 169 + (256 * ρ 2 + 0) = _; omega) (hm _ (List.mem_cons_of_mem _ (List.mem_cons_of_mem _ (List.mem_cons_of_mem _ List.mem_cons_self))))) hG
  obtain ⟨k0, -⟩ := H
  exact ⟨_, List.mem_cons_self, ρ, fun _ _ => rfl, (okM_c (pvp 62 (by show 0 + (4096 * ρ 0 + (1 * ρ 1 + 0)) = _; omega) (by show 1024 + (1 * ρ 3 + (32 * ρ 4 + (1024 * ρ 5 + 0))) = _; omega) k0) okM_n), okB_n, okF_n⟩
-- rexs4_0
theorem cr_590 (M : pM) (s0 s1 s2 s3 s4 s5 : Int) (b0 : 0 ≤ s0 ∧ s0 ≤ 1900) (b1 : 0 ≤ s1 ∧ s1 ≤ 950) (b2 : 0 ≤ s2 ∧ s2 ≤ 1900) (b3 : 0 ≤ s3 ∧ s3 ≤ 12) (b4 : 0 ≤ s4 ∧ s4 ≤ 20) (b5 : 0 ≤ s5 ∧ s5 ≤ 4) (m0 : HP 60 (4096 * s0 + s1) (s3 + 32 * s4 + 1024 * s5) M) (m1 : HP 47 (s0) (262148 : Int) M) (m2 : HP 46 (s0) (s2) M) (f0 : 0 ≤ ((-1) * s3 + 11)) (hG : gI M) : (HP 53 (4096 * s0 + s1) (256 * s2 + 65) M ∧ True) := by
  obtain ⟨s, h1, hw, ha⟩ := Eq.mp hp_60 m0
  obtain ⟨c1, c2, c3⟩ := qW_o (w := s3) (r := s4) (g := s5) hw (by omega) (by omega) (by omega) (by omega)
  exact ⟨Eq.mpr hp_53 (r_exs (P := s0) (l := s1) (K := 4) h1 ⟨by omega, by omega, by omega⟩ (by have := (q47 m1).2; omega) (q46 m2).2 (by decide) (by unfold qfu; exact decide_eq_false (by omega)) (by omega)), trivial⟩
theorem rul_590 : Rul r_590 := by
  refine ⟨fun _ ρ M hm hB hF hG => ?_, fun gi gv hg => (by cases hg)⟩
  have H := cr_590 M (ρ 0) (ρ 1) (ρ 2) (ρ 3) (ρ 4) (ρ 5) (hB _ List.mem_cons_self) (hB _ (List.mem_cons_of_mem _ List.mem_cons_self)) (hB _ (List.mem_cons_of_mem _ (List.mem_cons_of_mem _ List.mem_cons_self))) (hB _ (List.mem_cons_of_mem _ (List.mem_cons_of_mem _ (List.mem_cons_of_mem _ List.mem_cons_self)))) (hB _ (List.mem_cons_of_mem _ (List.mem_cons_of_mem _ (List.mem_cons_of_mem _ (List.mem_cons_of_mem _ List.mem_cons_self))))) (hB _ (List.mem_cons_of_mem _ (List.mem_cons_of_mem _ (List.mem_cons_of_mem _ (List.mem_cons_of_mem _ (List.mem_cons_of_mem _ List.mem_cons_self)))))) (cvp 60 (x' := (4096 * (ρ 0) + (ρ 1))) (y' := ((ρ 3) + 32 * (ρ 4) + 1024 * (ρ 5))) (by show 0 + (4096 * ρ 0 + (1 * ρ 1 + 0)) = _; omega) (by show 0 + (1 * ρ 3 + (32 * ρ 4 + (1024 * ρ 5 + 0))) = _; omega) (hm _ List.mem_cons_self)) (cvp 47 (x' := ((ρ 0))) (y' := (262148 : Int)) (by show 0 + (1 * ρ 0 + 0) = _; omega) (by show 262148 + 0 = _; omega) (hm _ (List.mem_cons_of_mem _ List.mem_cons_self))) (cvp 46 (x' := ((ρ 0))) (y' := ((ρ 2))) (by show 0 + (1 * ρ 0 + 0) = _; omega) (by show 0 + (1 * ρ 2 + 0) = _; omega) (hm _ (List.mem_cons_of_mem _ (List.mem_cons_of_mem _ List.mem_cons_self)))) (by have h := hF _ List.mem_cons_self; have h : 0 ≤ 11 + ((-1) * ρ 3 + 0) := h; omega) hG
  obtain ⟨k0, -⟩ := H
  exact ⟨_, List.mem_cons_self, ρ, fun _ _ => rfl, (okM_c (pvp 53 (by show 0 + (4096 * ρ 0 + (1 * ρ 1 + 0)) = _; omega) (by show 65 + (256 * ρ 2 + 0) = _; omega) k0) okM_n), okB_n, okF_n⟩
-- rful4_0
theorem cr_591 (M : pM) (s0 s1 s2 s3 s4 s5 : Int) (b0 : 0 ≤ s0 ∧ s0 ≤ 1900) (b1 : 0 ≤ s1 ∧ s1 ≤ 950) (b2 : 0 ≤ s2 ∧ s2 ≤ 1900) (b3 : 0 ≤ s3 ∧ s3 ≤ 12) (b4 : 0 ≤ s4 ∧ s4 ≤ 20) (b5 : 0 ≤ s5 ∧ s5 ≤ 4) (m0 : HP 60 (4096 * s0 + s1) (s3 + 32 * s4 + 1024 * s5) M) (m1 : HP 47 (s0) (262148 : Int) M) (m2 : HP 45 (s0) (s2) M) (f0 : 0 ≤ (s3 - 12)) (hG : gI M) : (HP 66 (s2) (2 : Int) M ∧ True) := by
  obtain ⟨s, h1, hw, ha⟩ := Eq.mp hp_60 m0
  obtain ⟨c1, c2, c3⟩ := qW_o (w := s3) (r := s4) (g := s5) hw (by omega) (by omega) (by omega) (by omega)
  exact ⟨Eq.mpr hp_66 (r_ful (P := s0) (l := s1) (K := 4) h1 ⟨by omega, by omega, by omega⟩ (by have := (q47 m1).2; omega) (q45 m2).2 (by decide) (by unfold qfu; exact decide_eq_true (by omega))), trivial⟩
theorem rul_591 : Rul r_591 := by
  refine ⟨fun _ ρ M hm hB hF hG => ?_, fun gi gv hg => (by cases hg)⟩
  have H := cr_591 M (ρ 0) (ρ 1) (ρ 2) (ρ 3) (ρ 4) (ρ 5) (hB _ List.mem_cons_self) (hB _ (List.mem_cons_of_mem _ List.mem_cons_self)) (hB _ (List.mem_cons_of_mem _ (List.mem_cons_of_mem _ List.mem_cons_self))) (hB _ (List.mem_cons_of_mem _ (List.mem_cons_of_mem _ (List.mem_cons_of_mem _ List.mem_cons_self)))) (hB _ (List.mem_cons_of_mem _ (List.mem_cons_of_mem _ (List.mem_cons_of_mem _ (List.mem_cons_of_mem _ List.mem_cons_self))))) (hB _ (List.mem_cons_of_mem _ (List.mem_cons_of_mem _ (List.mem_cons_of_mem _ (List.mem_cons_of_mem _ (List.mem_cons_of_mem _ List.mem_cons_self)))))) (cvp 60 (x' := (4096 * (ρ 0) + (ρ 1))) (y' := ((ρ 3) + 32 * (ρ 4) + 1024 * (ρ 5))) (by show 0 + (4096 * ρ 0 + (1 * ρ 1 + 0)) = _; omega) (by show 0 + (1 * ρ 3 + (32 * ρ 4 + (1024 * ρ 5 + 0))) = _; omega) (hm _ List.mem_cons_self)) (cvp 47 (x' := ((ρ 0))) (y' := (262148 : Int)) (by show 0 + (1 * ρ 0 + 0) = _; omega) (by show 262148 + 0 = _; omega) (hm _ (List.mem_cons_of_mem _ List.mem_cons_self))) (cvp 45 (x' := ((ρ 0))) (y' := ((ρ 2))) (by show 0 + (1 * ρ 0 + 0) = _; omega) (by show 0 + (1 * ρ 2 + 0) = _; omega) (hm _ (List.mem_cons_of_mem _ (List.mem_cons_of_mem _ List.mem_cons_self)))) (by have h := hF _ List.mem_cons_self; have h : 0 ≤ (-12) + (1 * ρ 3 + 0) := h; omega) hG
  obtain ⟨k0, -⟩ := H
  exact ⟨_, List.mem_cons_self, ρ, fun _ _ => rfl, (okM_c (pvp 66 (by show 0 + (1 * ρ 2 + 0) = _; omega) (by show 2 + 0 = _; omega) k0) okM_n), okB_n, okF_n⟩
-- rexs9_0
theorem cr_592 (M : pM) (s0 s1 s2 s3 s4 s5 : Int) (b0 : 0 ≤ s0 ∧ s0 ≤ 1900) (b1 : 0 ≤ s1 ∧ s1 ≤ 950) (b2 : 0 ≤ s2 ∧ s2 ≤ 1900) (b3 : 0 ≤ s3 ∧ s3 ≤ 12) (b4 : 0 ≤ s4 ∧ s4 ≤ 20) (b5 : 0 ≤ s5 ∧ s5 ≤ 4) (m0 : HP 60 (4096 * s0 + s1) (s3 + 32 * s4 + 1024 * s5) M) (m1 : HP 47 (s0) (262153 : Int) M) (m2 : HP 46 (s0) (s2) M) (f0 : 0 ≤ ((-1) * s4 + 19)) (hG : gI M) : (HP 53 (4096 * s0 + s1) (256 * s2 + 145) M ∧ True) := by
  obtain ⟨s, h1, hw, ha⟩ := Eq.mp hp_60 m0
  obtain ⟨c1, c2, c3⟩ := qW_o (w := s3) (r := s4) (g := s5) hw (by omega) (by omega) (by omega) (by omega)
  exact ⟨Eq.mpr hp_53 (r_exs (P := s0) (l := s1) (K := 9) h1 ⟨by omega, by omega, by omega⟩ (by have := (q47 m1).2; omega) (q46 m2).2 (by decide) (by unfold qfu; exact decide_eq_false (by omega)) (by omega)), trivial⟩
theorem rul_592 : Rul r_592 := by
  refine ⟨fun _ ρ M hm hB hF hG => ?_, fun gi gv hg => (by cases hg)⟩
  have H := cr_592 M (ρ 0) (ρ 1) (ρ 2) (ρ 3) (ρ 4) (ρ 5) (hB _ List.mem_cons_self) (hB _ (List.mem_cons_of_mem _ List.mem_cons_self)) (hB _ (List.mem_cons_of_mem _ (List.mem_cons_of_mem _ List.mem_cons_self))) (hB _ (List.mem_cons_of_mem _ (List.mem_cons_of_mem _ (List.mem_cons_of_mem _ List.mem_cons_self)))) (hB _ (List.mem_cons_of_mem _ (List.mem_cons_of_mem _ (List.mem_cons_of_mem _ (List.mem_cons_of_mem _ List.mem_cons_self))))) (hB _ (List.mem_cons_of_mem _ (List.mem_cons_of_mem _ (List.mem_cons_of_mem _ (List.mem_cons_of_mem _ (List.mem_cons_of_mem _ List.mem_cons_self)))))) (cvp 60 (x' := (4096 * (ρ 0) + (ρ 1))) (y' := ((ρ 3) + 32 * (ρ 4) + 1024 * (ρ 5))) (by show 0 + (4096 * ρ 0 + (1 * ρ 1 + 0)) = _; omega) (by show 0 + (1 * ρ 3 + (32 * ρ 4 + (1024 * ρ 5 + 0))) = _; omega) (hm _ List.mem_cons_self)) (cvp 47 (x' := ((ρ 0))) (y' := (262153 : Int)) (by show 0 + (1 * ρ 0 + 0) = _; omega) (by show 262153 + 0 = _; omega) (hm _ (List.mem_cons_of_mem _ List.mem_cons_self))) (cvp 46 (x' := ((ρ 0))) (y' := ((ρ 2))) (by show 0 + (1 * ρ 0 + 0) = _; omega) (by show 0 + (1 * ρ 2 + 0) = _; omega) (hm _ (List.mem_cons_of_mem _ (List.mem_cons_of_mem _ List.mem_cons_self)))) (by have h := hF _ List.mem_cons_self; have h : 0 ≤ 19 + ((-1) * ρ 4 + 0) := h; omega) hG
  obtain ⟨k0, -⟩ := H
  exact ⟨_, List.mem_cons_self, ρ, fun _ _ => rfl, (okM_c (pvp 53 (by show 0 + (4096 * ρ 0 + (1 * ρ 1 + 0)) = _; omega) (by show 145 + (256 * ρ 2 + 0) = _; omega) k0) okM_n), okB_n, okF_n⟩
-- rful9_0
theorem cr_593 (M : pM) (s0 s1 s2 s3 s4 s5 : Int) (b0 : 0 ≤ s0 ∧ s0 ≤ 1900) (b1 : 0 ≤ s1 ∧ s1 ≤ 950) (b2 : 0 ≤ s2 ∧ s2 ≤ 1900) (b3 : 0 ≤ s3 ∧ s3 ≤ 12) (b4 : 0 ≤ s4 ∧ s4 ≤ 20) (b5 : 0 ≤ s5 ∧ s5 ≤ 4) (m0 : HP 60 (4096 * s0 + s1) (s3 + 32 * s4 + 1024 * s5) M) (m1 : HP 47 (s0) (262153 : Int) M) (m2 : HP 45 (s0) (s2) M) (f0 : 0 ≤ (s4 - 20)) (hG : gI M) : (HP 66 (s2) (2 : Int) M ∧ True) := by
  obtain ⟨s, h1, hw, ha⟩ := Eq.mp hp_60 m0
  obtain ⟨c1, c2, c3⟩ := qW_o (w := s3) (r := s4) (g := s5) hw (by omega) (by omega) (by omega) (by omega)
  exact ⟨Eq.mpr hp_66 (r_ful (P := s0) (l := s1) (K := 9) h1 ⟨by omega, by omega, by omega⟩ (by have := (q47 m1).2; omega) (q45 m2).2 (by decide) (by unfold qfu; exact decide_eq_true (by omega))), trivial⟩
theorem rul_593 : Rul r_593 := by
  refine ⟨fun _ ρ M hm hB hF hG => ?_, fun gi gv hg => (by cases hg)⟩
  have H := cr_593 M (ρ 0) (ρ 1) (ρ 2) (ρ 3) (ρ 4) (ρ 5) (hB _ List.mem_cons_self) (hB _ (List.mem_cons_of_mem _ List.mem_cons_self)) (hB _ (List.mem_cons_of_mem _ (List.mem_cons_of_mem _ List.mem_cons_self))) (hB _ (List.mem_cons_of_mem _ (List.mem_cons_of_mem _ (List.mem_cons_of_mem _ List.mem_cons_self)))) (hB _ (List.mem_cons_of_mem _ (List.mem_cons_of_mem _ (List.mem_cons_of_mem _ (List.mem_cons_of_mem _ List.mem_cons_self))))) (hB _ (List.mem_cons_of_mem _ (List.mem_cons_of_mem _ (List.mem_cons_of_mem _ (List.mem_cons_of_mem _ (List.mem_cons_of_mem _ List.mem_cons_self)))))) (cvp 60 (x' := (4096 * (ρ 0) + (ρ 1))) (y' := ((ρ 3) + 32 * (ρ 4) + 1024 * (ρ 5))) (by show 0 + (4096 * ρ 0 + (1 * ρ 1 + 0)) = _; omega) (by show 0 + (1 * ρ 3 + (32 * ρ 4 + (1024 * ρ 5 + 0))) = _; omega) (hm _ List.mem_cons_self)) (cvp 47 (x' := ((ρ 0))) (y' := (262153 : Int)) (by show 0 + (1 * ρ 0 + 0) = _; omega) (by show 262153 + 0 = _; omega) (hm _ (List.mem_cons_of_mem _ List.mem_cons_self))) (cvp 45 (x' := ((ρ 0))) (y' := ((ρ 2))) (by show 0 + (1 * ρ 0 + 0) = _; omega) (by show 0 + (1 * ρ 2 + 0) = _; omega) (hm _ (List.mem_cons_of_mem _ (List.mem_cons_of_mem _ List.mem_cons_self)))) (by have h := hF _ List.mem_cons_self; have h : 0 ≤ (-20) + (1 * ρ 4 + 0) := h; omega) hG
  obtain ⟨k0, -⟩ := H
  exact ⟨_, List.mem_cons_self, ρ, fun _ _ => rfl, (okM_c (pvp 66 (by show 0 + (1 * ρ 2 + 0) = _; omega) (by show 2 + 0 = _; omega) k0) okM_n), okB_n, okF_n⟩
-- rexs10_0
theorem cr_594 (M : pM) (s0 s1 s2 s3 s4 s5 : Int) (b0 : 0 ≤ s0 ∧ s0 ≤ 1900) (b1 : 0 ≤ s1 ∧ s1 ≤ 950) (b2 : 0 ≤ s2 ∧ s2 ≤ 1900) (b3 : 0 ≤ s3 ∧ s3 ≤ 12) (b4 : 0 ≤ s4 ∧ s4 ≤ 20) (b5 : 0 ≤ s5 ∧ s5 ≤ 4) (m0 : HP 60 (4096 * s0 + s1) (s3 + 32 * s4 + 1024 * s5) M) (m1 : HP 47 (s0) (262154 : Int) M) (m2 : HP 46 (s0) (s2) M) (f0 : 0 ≤ ((-1) * s5 + 3)) (hG : gI M) : (HP 53 (4096 * s0 + s1) (256 * s2 + 161) M ∧ True) := by
  obtain ⟨s, h1, hw, ha⟩ := Eq.mp hp_60 m0
  obtain ⟨c1, c2, c3⟩ := qW_o (w := s3) (r := s4) (g := s5) hw (by omega) (by omega) (by omega) (by omega)
  exact ⟨Eq.mpr hp_53 (r_exs (P := s0) (l := s1) (K := 10) h1 ⟨by omega, by omega, by omega⟩ (by have := (q47 m1).2; omega) (q46 m2).2 (by decide) (by unfold qfu; exact decide_eq_false (by omega)) (by omega)), trivial⟩
theorem rul_594 : Rul r_594 := by
  refine ⟨fun _ ρ M hm hB hF hG => ?_, fun gi gv hg => (by cases hg)⟩
  have H := cr_594 M (ρ 0) (ρ 1) (ρ 2) (ρ 3) (ρ 4) (ρ 5) (hB _ List.mem_cons_self) (hB _ (List.mem_cons_of_mem _ List.mem_cons_self)) (hB _ (List.mem_cons_of_mem _ (List.mem_cons_of_mem _ List.mem_cons_self))) (hB _ (List.mem_cons_of_mem _ (List.mem_cons_of_mem _ (List.mem_cons_of_mem _ List.mem_cons_self)))) (hB _ (List.mem_cons_of_mem _ (List.mem_cons_of_mem _ (List.mem_cons_of_mem _ (List.mem_cons_of_mem _ List.mem_cons_self))))) (hB _ (List.mem_cons_of_mem _ (List.mem_cons_of_mem _ (List.mem_cons_of_mem _ (List.mem_cons_of_mem _ (List.mem_cons_of_mem _ List.mem_cons_self)))))) (cvp 60 (x' := (4096 * (ρ 0) + (ρ 1))) (y' := ((ρ 3) + 32 * (ρ 4) + 1024 * (ρ 5))) (by show 0 + (4096 * ρ 0 + (1 * ρ 1 + 0)) = _; omega) (by show 0 + (1 * ρ 3 + (32 * ρ 4 + (1024 * ρ 5 + 0))) = _; omega) (hm _ List.mem_cons_self)) (cvp 47 (x' := ((ρ 0))) (y' := (262154 : Int)) (by show 0 + (1 * ρ 0 + 0) = _; omega) (by show 262154 + 0 = _; omega) (hm _ (List.mem_cons_of_mem _ List.mem_cons_self))) (cvp 46 (x' := ((ρ 0))) (y' := ((ρ 2))) (by show 0 + (1 * ρ 0 + 0) = _; omega) (by show 0 + (1 * ρ 2 + 0) = _; omega) (hm _ (List.mem_cons_of_mem _ (List.mem_cons_of_mem _ List.mem_cons_self)))) (by have h := hF _ List.mem_cons_self; have h : 0 ≤ 3 + ((-1) * ρ 5 + 0) := h; omega) hG
  obtain ⟨k0, -⟩ := H
  exact ⟨_, List.mem_cons_self, ρ, fun _ _ => rfl, (okM_c (pvp 53 (by show 0 + (4096 * ρ 0 + (1 * ρ 1 + 0)) = _; omega) (by show 161 + (256 * ρ 2 + 0) = _; omega) k0) okM_n), okB_n, okF_n⟩
-- rful10_0
theorem cr_595 (M : pM) (s0 s1 s2 s3 s4 s5 : Int) (b0 : 0 ≤ s0 ∧ s0 ≤ 1900) (b1 : 0 ≤ s1 ∧ s1 ≤ 950) (b2 : 0 ≤ s2 ∧ s2 ≤ 1900) (b3 : 0 ≤ s3 ∧ s3 ≤ 12) (b4 : 0 ≤ s4 ∧ s4 ≤ 20) (b5 : 0 ≤ s5 ∧ s5 ≤ 4) (m0 : HP 60 (4096 * s0 + s1) (s3 + 32 * s4 + 1024 * s5) M) (m1 : HP 47 (s0) (262154 : Int) M) (m2 : HP 45 (s0) (s2) M) (f0 : 0 ≤ (s5 - 4)) (hG : gI M) : (HP 66 (s2) (2 : Int) M ∧ True) := by
  obtain ⟨s, h1, hw, ha⟩ := Eq.mp hp_60 m0
  obtain ⟨c1, c2, c3⟩ := qW_o (w := s3) (r := s4) (g := s5) hw (by omega) (by omega) (by omega) (by omega)
  exact ⟨Eq.mpr hp_66 (r_ful (P := s0) (l := s1) (K := 10) h1 ⟨by omega, by omega, by omega⟩ (by have := (q47 m1).2; omega) (q45 m2).2 (by decide) (by unfold qfu; exact decide_eq_true (by omega))), trivial⟩
theorem rul_595 : Rul r_595 := by
  refine ⟨fun _ ρ M hm hB hF hG => ?_, fun gi gv hg => (by cases hg)⟩
  have H := cr_595 M (ρ 0) (ρ 1) (ρ 2) (ρ 3) (ρ 4) (ρ 5) (hB _ List.mem_cons_self) (hB _ (List.mem_cons_of_mem _ List.mem_cons_self)) (hB _ (List.mem_cons_of_mem _ (List.mem_cons_of_mem _ List.mem_cons_self))) (hB _ (List.mem_cons_of_mem _ (List.mem_cons_of_mem _ (List.mem_cons_of_mem _ List.mem_cons_self)))) (hB _ (List.mem_cons_of_mem _ (List.mem_cons_of_mem _ (List.mem_cons_of_mem _ (List.mem_cons_of_mem _ List.mem_cons_self))))) (hB _ (List.mem_cons_of_mem _ (List.mem_cons_of_mem _ (List.mem_cons_of_mem _ (List.mem_cons_of_mem _ (List.mem_cons_of_mem _ List.mem_cons_self)))))) (cvp 60 (x' := (4096 * (ρ 0) + (ρ 1))) (y' := ((ρ 3) + 32 * (ρ 4) + 1024 * (ρ 5))) (by show 0 + (4096 * ρ 0 + (1 * ρ 1 + 0)) = _; omega) (by show 0 + (1 * ρ 3 + (32 * ρ 4 + (1024 * ρ 5 + 0))) = _; omega) (hm _ List.mem_cons_self)) (cvp 47 (x' := ((ρ 0))) (y' := (262154 : Int)) (by show 0 + (1 * ρ 0 + 0) = _; omega) (by show 262154 + 0 = _; omega) (hm _ (List.mem_cons_of_mem _ List.mem_cons_self))) (cvp 45 (x' := ((ρ 0))) (y' := ((ρ 2))) (by show 0 + (1 * ρ 0 + 0) = _; omega) (by show 0 + (1 * ρ 2 + 0) = _; omega) (hm _ (List.mem_cons_of_mem _ (List.mem_cons_of_mem _ List.mem_cons_self)))) (by have h := hF _ List.mem_cons_self; have h : 0 ≤ (-4) + (1 * ρ 5 + 0) := h; omega) hG
  obtain ⟨k0, -⟩ := H
  exact ⟨_, List.mem_cons_self, ρ, fun _ _ => rfl, (okM_c (pvp 66 (by show 0 + (1 * ρ 2 + 0) = _; omega) (by show 2 + 0 = _; omega) k0) okM_n), okB_n, okF_n⟩
-- rexs0_0
theorem cr_596 (M : pM) (s0 s1 s2 s3 s4 s5 : Int) (b0 : 0 ≤ s0 ∧ s0 ≤ 1900) (b1 : 0 ≤ s1 ∧ s1 ≤ 950) (b2 : 0 ≤ s2 ∧ s2 ≤ 1900) (b3 : 0 ≤ s3 ∧ s3 ≤ 12) (b4 : 0 ≤ s4 ∧ s4 ≤ 20) (b5 : 0 ≤ s5 ∧ s5 ≤ 4) (m0 : HP 60 (4096 * s0 + s1) (s3 + 32 * s4 + 1024 * s5) M) (m1 : HP 47 (s0) (262144 : Int) M) (m2 : HP 46 (s0) (s2) M) (hG : gI M) : (HP 53 (4096 * s0 + s1) (256 * s2 + 1) M ∧ True) := by
  obtain ⟨s, h1, hw, ha⟩ := Eq.mp hp_60 m0
  obtain ⟨c1, c2, c3⟩ := qW_o (w := s3) (r := s4) (g := s5) hw (by omega) (by omega) (by omega) (by omega)
  exact ⟨Eq.mpr hp_53 (r_exs (P := s0) (l := s1) (K := 0) h1 ⟨by omega, by omega, by omega⟩ (by have := (q47 m1).2; omega) (q46 m2).2 (by decide) (by unfold qfu; exact decide_eq_false (by omega)) (by omega)), trivial⟩
theorem rul_596 : Rul r_596 := by
  refine ⟨fun _ ρ M hm hB hF hG => ?_, fun gi gv hg => (by cases hg)⟩
  have H := cr_596 M (ρ 0) (ρ 1) (ρ 2) (ρ 3) (ρ 4) (ρ 5) (hB _ List.mem_cons_self) (hB _ (List.mem_cons_of_mem _ List.mem_cons_self)) (hB _ (List.mem_cons_of_mem _ (List.mem_cons_of_mem _ List.mem_cons_self))) (hB _ (List.mem_cons_of_mem _ (List.mem_cons_of_mem _ (List.mem_cons_of_mem _ List.mem_cons_self)))) (hB _ (List.mem_cons_of_mem _ (List.mem_cons_of_mem _ (List.mem_cons_of_mem _ (List.mem_cons_of_mem _ List.mem_cons_self))))) (hB _ (List.mem_cons_of_mem _ (List.mem_cons_of_mem _ (List.mem_cons_of_mem _ (List.mem_cons_of_mem _ (List.mem_cons_of_mem _ List.mem_cons_self)))))) (cvp 60 (x' := (4096 * (ρ 0) + (ρ 1))) (y' := ((ρ 3) + 32 * (ρ 4) + 1024 * (ρ 5))) (by show 0 + (4096 * ρ 0 + (1 * ρ 1 + 0)) = _; omega) (by show 0 + (1 * ρ 3 + (32 * ρ 4 + (1024 * ρ 5 + 0))) = _; omega) (hm _ List.mem_cons_self)) (cvp 47 (x' := ((ρ 0))) (y' := (262144 : Int)) (by show 0 + (1 * ρ 0 + 0) = _; omega) (by show 262144 + 0 = _; omega) (hm _ (List.mem_cons_of_mem _ List.mem_cons_self))) (cvp 46 (x' := ((ρ 0))) (y' := ((ρ 2))) (by show 0 + (1 * ρ 0 + 0) = _; omega) (by show 0 + (1 * ρ 2 + 0) = _; omega) (hm _ (List.mem_cons_of_mem _ (List.mem_cons_of_mem _ List.mem_cons_self)))) hG
  obtain ⟨k0, -⟩ := H
  exact ⟨_, List.mem_cons_self, ρ, fun _ _ => rfl, (okM_c (pvp 53 (by show 0 + (4096 * ρ 0 + (1 * ρ 1 + 0)) = _; omega) (by show 1 + (256 * ρ 2 + 0) = _; omega) k0) okM_n), okB_n, okF_n⟩
-- rexs1_0
theorem cr_597 (M : pM) (s0 s1 s2 s3 s4 s5 : Int) (b0 : 0 ≤ s0 ∧ s0 ≤ 1900) (b1 : 0 ≤ s1 ∧ s1 ≤ 950) (b2 : 0 ≤ s2 ∧ s2 ≤ 1900) (b3 : 0 ≤ s3 ∧ s3 ≤ 12) (b4 : 0 ≤ s4 ∧ s4 ≤ 20) (b5 : 0 ≤ s5 ∧ s5 ≤ 4) (m0 : HP 60 (4096 * s0 + s1) (s3 + 32 * s4 + 1024 * s5) M) (m1 : HP 47 (s0) (262145 : Int) M) (m2 : HP 46 (s0) (s2) M) (hG : gI M) : (HP 53 (4096 * s0 + s1) (256 * s2 + 17) M ∧ True) := by
  obtain ⟨s, h1, hw, ha⟩ := Eq.mp hp_60 m0
  obtain ⟨c1, c2, c3⟩ := qW_o (w := s3) (r := s4) (g := s5) hw (by omega) (by omega) (by omega) (by omega)
  exact ⟨Eq.mpr hp_53 (r_exs (P := s0) (l := s1) (K := 1) h1 ⟨by omega, by omega, by omega⟩ (by have := (q47 m1).2; omega) (q46 m2).2 (by decide) (by unfold qfu; exact decide_eq_false (by omega)) (by omega)), trivial⟩
theorem rul_597 : Rul r_597 := by
  refine ⟨fun _ ρ M hm hB hF hG => ?_, fun gi gv hg => (by cases hg)⟩
  have H := cr_597 M (ρ 0) (ρ 1) (ρ 2) (ρ 3) (ρ 4) (ρ 5) (hB _ List.mem_cons_self) (hB _ (List.mem_cons_of_mem _ List.mem_cons_self)) (hB _ (List.mem_cons_of_mem _ (List.mem_cons_of_mem _ List.mem_cons_self))) (hB _ (List.mem_cons_of_mem _ (List.mem_cons_of_mem _ (List.mem_cons_of_mem _ List.mem_cons_self)))) (hB _ (List.mem_cons_of_mem _ (List.mem_cons_of_mem _ (List.mem_cons_of_mem _ (List.mem_cons_of_mem _ List.mem_cons_self))))) (hB _ (List.mem_cons_of_mem _ (List.mem_cons_of_mem _ (List.mem_cons_of_mem _ (List.mem_cons_of_mem _ (List.mem_cons_of_mem _ List.mem_cons_self)))))) (cvp 60 (x' := (4096 * (ρ 0) + (ρ 1))) (y' := ((ρ 3) + 32 * (ρ 4) + 1024 * (ρ 5))) (by show 0 + (4096 * ρ 0 + (1 * ρ 1 + 0)) = _; omega) (by show 0 + (1 * ρ 3 + (32 * ρ 4 + (1024 * ρ 5 + 0))) = _; omega) (hm _ List.mem_cons_self)) (cvp 47 (x' := ((ρ 0))) (y' := (262145 : Int)) (by show 0 + (1 * ρ 0 + 0) = _; omega) (by show 262145 + 0 = _; omega) (hm _ (List.mem_cons_of_mem _ List.mem_cons_self))) (cvp 46 (x' := ((ρ 0))) (y' := ((ρ 2))) (by show 0 + (1 * ρ 0 + 0) = _; omega) (by show 0 + (1 * ρ 2 + 0) = _; omega) (hm _ (List.mem_cons_of_mem _ (List.mem_cons_of_mem _ List.mem_cons_self)))) hG
  obtain ⟨k0, -⟩ := H
  exact ⟨_, List.mem_cons_self, ρ, fun _ _ => rfl, (okM_c (pvp 53 (by show 0 + (4096 * ρ 0 + (1 * ρ 1 + 0)) = _; omega) (by show 17 + (256 * ρ 2 + 0) = _; omega) k0) okM_n), okB_n, okF_n⟩
-- rexs2_0
theorem cr_598 (M : pM) (s0 s1 s2 s3 s4 s5 : Int) (b0 : 0 ≤ s0 ∧ s0 ≤ 1900) (b1 : 0 ≤ s1 ∧ s1 ≤ 950) (b2 : 0 ≤ s2 ∧ s2 ≤ 1900) (b3 : 0 ≤ s3 ∧ s3 ≤ 12) (b4 : 0 ≤ s4 ∧ s4 ≤ 20) (b5 : 0 ≤ s5 ∧ s5 ≤ 4) (m0 : HP 60 (4096 * s0 + s1) (s3 + 32 * s4 + 1024 * s5) M) (m1 : HP 47 (s0) (262146 : Int) M) (m2 : HP 46 (s0) (s2) M) (hG : gI M) : (HP 53 (4096 * s0 + s1) (256 * s2 + 33) M ∧ True) := by
  obtain ⟨s, h1, hw, ha⟩ := Eq.mp hp_60 m0
  obtain ⟨c1, c2, c3⟩ := qW_o (w := s3) (r := s4) (g := s5) hw (by omega) (by omega) (by omega) (by omega)
  exact ⟨Eq.mpr hp_53 (r_exs (P := s0) (l := s1) (K := 2) h1 ⟨by omega, by omega, by omega⟩ (by have := (q47 m1).2; omega) (q46 m2).2 (by decide) (by unfold qfu; exact decide_eq_false (by omega)) (by omega)), trivial⟩
theorem rul_598 : Rul r_598 := by
  refine ⟨fun _ ρ M hm hB hF hG => ?_, fun gi gv hg => (by cases hg)⟩
  have H := cr_598 M (ρ 0) (ρ 1) (ρ 2) (ρ 3) (ρ 4) (ρ 5) (hB _ List.mem_cons_self) (hB _ (List.mem_cons_of_mem _ List.mem_cons_self)) (hB _ (List.mem_cons_of_mem _ (List.mem_cons_of_mem _ List.mem_cons_self))) (hB _ (List.mem_cons_of_mem _ (List.mem_cons_of_mem _ (List.mem_cons_of_mem _ List.mem_cons_self)))) (hB _ (List.mem_cons_of_mem _ (List.mem_cons_of_mem _ (List.mem_cons_of_mem _ (List.mem_cons_of_mem _ List.mem_cons_self))))) (hB _ (List.mem_cons_of_mem _ (List.mem_cons_of_mem _ (List.mem_cons_of_mem _ (List.mem_cons_of_mem _ (List.mem_cons_of_mem _ List.mem_cons_self)))))) (cvp 60 (x' := (4096 * (ρ 0) + (ρ 1))) (y' := ((ρ 3) + 32 * (ρ 4) + 1024 * (ρ 5))) (by show 0 + (4096 * ρ 0 + (1 * ρ 1 + 0)) = _; omega) (by show 0 + (1 * ρ 3 + (32 * ρ 4 + (1024 * ρ 5 + 0))) = _; omega) (hm _ List.mem_cons_self)) (cvp 47 (x' := ((ρ 0))) (y' := (262146 : Int)) (by show 0 + (1 * ρ 0 + 0) = _; omega) (by show 262146 + 0 = _; omega) (hm _ (List.mem_cons_of_mem _ List.mem_cons_self))) (cvp 46 (x' := ((ρ 0))) (y' := ((ρ 2))) (by show 0 + (1 * ρ 0 + 0) = _; omega) (by show 0 + (1 * ρ 2 + 0) = _; omega) (hm _ (List.mem_cons_of_mem _ (List.mem_cons_of_mem _ List.mem_cons_self)))) hG
  obtain ⟨k0, -⟩ := H
  exact ⟨_, List.mem_cons_self, ρ, fun _ _ => rfl, (okM_c (pvp 53 (by show 0 + (4096 * ρ 0 + (1 * ρ 1 + 0)) = _; omega) (by show 33 + (256 * ρ 2 + 0) = _; omega) k0) okM_n), okB_n, okF_n⟩
-- rexs3_0
theorem cr_599 (M : pM) (s0 s1 s2 s3 s4 s5 : Int) (b0 : 0 ≤ s0 ∧ s0 ≤ 1900) (b1 : 0 ≤ s1 ∧ s1 ≤ 950) (b2 : 0 ≤ s2 ∧ s2 ≤ 1900) (b3 : 0 ≤ s3 ∧ s3 ≤ 12) (b4 : 0 ≤ s4 ∧ s4 ≤ 20) (b5 : 0 ≤ s5 ∧ s5 ≤ 4) (m0 : HP 60 (4096 * s0 + s1) (s3 + 32 * s4 + 1024 * s5) M) (m1 : HP 47 (s0) (262147 : Int) M) (m2 : HP 46 (s0) (s2) M) (hG : gI M) : (HP 53 (4096 * s0 + s1) (256 * s2 + 49) M ∧ True) := by
  obtain ⟨s, h1, hw, ha⟩ := Eq.mp hp_60 m0
  obtain ⟨c1, c2, c3⟩ := qW_o (w := s3) (r := s4) (g := s5) hw (by omega) (by omega) (by omega) (by omega)
  exact ⟨Eq.mpr hp_53 (r_exs (P := s0) (l := s1) (K := 3) h1 ⟨by omega, by omega, by omega⟩ (by have := (q47 m1).2; omega) (q46 m2).2 (by decide) (by unfold qfu; exact decide_eq_false (by omega)) (by omega)), trivial⟩
theorem rul_599 : Rul r_599 := by
  refine ⟨fun _ ρ M hm hB hF hG => ?_, fun gi gv hg => (by cases hg)⟩
  have H := cr_599 M (ρ 0) (ρ 1) (ρ 2) (ρ 3) (ρ 4) (ρ 5) (hB _ List.mem_cons_self) (hB _ (List.mem_cons_of_mem _ List.mem_cons_self)) (hB _ (List.mem_cons_of_mem _ (List.mem_cons_of_mem _ List.mem_cons_self))) (hB _ (List.mem_cons_of_mem _ (List.mem_cons_of_mem _ (List.mem_cons_of_mem _ List.mem_cons_self)))) (hB _ (List.mem_cons_of_mem _ (List.mem_cons_of_mem _ (List.mem_cons_of_mem _ (List.mem_cons_of_mem _ List.mem_cons_self))))) (hB _ (List.mem_cons_of_mem _ (List.mem_cons_of_mem _ (List.mem_cons_of_mem _ (List.mem_cons_of_mem _ (List.mem_cons_of_mem _ List.mem_cons_self)))))) (cvp 60 (x' := (4096 * (ρ 0) + (ρ 1))) (y' := ((ρ 3) + 32 * (ρ 4) + 1024 * (ρ 5))) (by show 0 + (4096 * ρ 0 + (1 * ρ 1 + 0)) = _; omega) (by show 0 + (1 * ρ 3 + (32 * ρ 4 + (1024 * ρ 5 + 0))) = _; omega) (hm _ List.mem_cons_self)) (cvp 47 (x' := ((ρ 0))) (y' := (262147 : Int)) (by show 0 + (1 * ρ 0 + 0) = _; omega) (by show 262147 + 0 = _; omega) (hm _ (List.mem_cons_of_mem _ List.mem_cons_self))) (cvp 46 (x' := ((ρ 0))) (y' := ((ρ 2))) (by show 0 + (1 * ρ 0 + 0) = _; omega) (by show 0 + (1 * ρ 2 + 0) = _; omega) (hm _ (List.mem_cons_of_mem _ (List.mem_cons_of_mem _ List.mem_cons_self)))) hG
  obtain ⟨k0, -⟩ := H
  exact ⟨_, List.mem_cons_self, ρ, fun _ _ => rfl, (okM_c (pvp 53 (by show 0 + (4096 * ρ 0 + (1 * ρ 1 + 0)) = _; omega) (by show 49 + (256 * ρ 2 + 0) = _; omega) k0) okM_n), okB_n, okF_n⟩
