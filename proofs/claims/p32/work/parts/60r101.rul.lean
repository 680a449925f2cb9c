-- kwc0
theorem cr_100 (M : pM) (s0 s1 s2 s3 s4 s5 : Int) (b0 : 0 ≤ s0 ∧ s0 ≤ 1900) (b1 : 0 ≤ s1 ∧ s1 ≤ 1900) (b2 : 0 ≤ s2 ∧ s2 ≤ 125) (b3 : 0 ≤ s3 ∧ s3 ≤ 24) (b4 : 0 ≤ s4 ∧ s4 ≤ 15) (b5 : 0 ≤ s5 ∧ s5 ≤ 255) (m0 : HP 40 (0 : Int) (0 : Int) M) (m1 : HP 178 (s2) (32 * s3 + s4) M) (m2 : (0 ≤ (s2) ∧ M 1005 (s2).toNat = (s5))) (f0 : 0 ≤ ((-1) * s5 + 31)) (f1 : 0 ≤ (s0 + (-1) * s1 + s4)) (hG : gI M) : (HP 181 (2048 * s0 + s1) (s2 + 1) M ∧ True) := by
  have hd : M 1005 s2.toNat = s5 := m2.2
  obtain ⟨w1, w2, w3⟩ := kw_o (i := s2) (n := s3) (m := s4) m0 m1 rfl (by omega) (by omega) (by omega) hd
  have hne : wds.getD s2.toNat 0 ≠ 32 := by omega
  have hs := qws_sn hne
  obtain ⟨q1, q2, q3, q4⟩ := qws_n s2.toNat (by omega) hne
  refine ⟨Eq.mpr hp_181 ⟨s0.toNat, s1.toNat, s2.toNat + 1, ⟨by omega, by omega, by omega⟩, by omega, by omega, fun hb => ?_⟩, trivial⟩
  rw [hs] at hb
  have hb : bts (tm M) s0.toNat (s1.toNat - s0.toNat) = kws.getD (qws s2.toNat).1 [] := hb
  have h1 := bts_len (N := tm M) (s := s0.toNat) (k := s1.toNat - s0.toNat)
  rw [hb] at h1
  omega
theorem rul_100 : Rul r_100 := by
  refine ⟨fun _ ρ M hm hB hF hG => ?_, fun gi gv hg => (by cases hg)⟩
  have H := cr_100 M (ρ 0) (ρ 1) (ρ 2) (ρ 3) (ρ 4) (ρ 5) (hB _ List.mem_cons_self) (hB _ (List.mem_cons_of_mem _ List.mem_cons_self)) (hB _ (List.mem_cons_of_mem _ (List.mem_cons_of_mem _ List.mem_cons_self))) (hB _ (List.mem_cons_of_mem _ (List.mem_cons_of_mem _ (List.mem_cons_of_mem _ List.mem_cons_self)))) (hB _ (List.mem_cons_of_mem _ (List.mem_cons_of_mem _ (List.mem_cons_of_mem _ (List.mem_cons_of_mem _ List.mem_cons_self))))) (hB _ (List.mem_cons_of_mem _ (List.mem_cons_of_mem _ (List.mem_cons_of_mem _ (List.mem_cons_of_mem _ (List.mem_cons_of_mem _ List.mem_cons_self)))))) (cvp 40 (x' := (0 : Int)) (y' := (0 : Int)) (by show 0 + 0 = _; omega) (by show 0 + 0 = _; omega) (hm _ List.mem_cons_self)) (cvp 178 (x' := ((ρ 2))) (y' := (32 * (ρ 3) + (ρ 4))) (by show 0 + (1 * ρ 2 + 0) = _; omega) (by show 0 + (32 * ρ 3 + (1 * ρ 4 + 0)) = _; omega) (hm _ (List.mem_cons_of_mem _ List.mem_cons_self))) (cvm (c := 1005) (by decide) (x' := ((ρ 2))) (y' := ((ρ 5))) (by show 0 + (1 * ρ 2 + 0) = _; omega) (by show 0 + (1 * ρ 5 + 0) = _; omega) (hm _ (List.mem_cons_of_mem _ (List.mem_cons_of_mem _ List.mem_cons_self)))) (by have h := hF _ List.mem_cons_self; have h : 0 ≤ 31 + ((-1) * ρ 5 + 0) := h; omega) (by have h := hF _ (List.mem_cons_of_mem _ List.mem_cons_self); have h : 0 ≤ 0 + (1 * ρ 0 + ((-1) * ρ 1 + (1 * ρ 4 + 0))) := h; omega) hG
  obtain ⟨k0, -⟩ := H
  exact ⟨_, List.mem_cons_self, ρ, fun _ _ => rfl, (okM_c (pvp 181 (by show 0 + (2048 * ρ 0 + (1 * ρ 1 + 0)) = _; omega) (by show 1 + (1 * ρ 2 + 0) = _; omega) k0) okM_n), okB_n, okF_n⟩
-- kwd0
theorem cr_101 (M : pM) (s0 s1 s2 s3 : Int) (b0 : 0 ≤ s0 ∧ s0 ≤ 1900) (b1 : 0 ≤ s1 ∧ s1 ≤ 1900) (b2 : 0 ≤ s2 ∧ s2 ≤ 125) (b3 : 0 ≤ s3 ∧ s3 ≤ 255) (m0 : HP 40 (0 : Int) (0 : Int) M) (m1 : HP 181 (2048 * s0 + s1) (s2) M) (m2 : (0 ≤ (s2) ∧ M 1005 (s2).toNat = (s3))) (f0 : 0 ≤ ((-1) * s3 + 31)) (hG : gI M) : (HP 181 (2048 * s0 + s1) (s2 + 1) M ∧ True) := by
  have w1 : wds.getD s2.toNat 0 = s3 := by rw [← (Eq.mp hp_40 m0).1 s2.toNat (by omega)]; exact m2.2
  have hne : wds.getD s2.toNat 0 ≠ 32 := by omega
  have hs := qws_sn hne
  obtain ⟨q1, q2, q3, q4⟩ := qws_n s2.toNat (by omega) hne
  obtain ⟨ks, ke, ki, ⟨ka, kb, kc⟩, kx, ky, kh⟩ := Eq.mp hp_181 m1
  have kes : ks = s0.toNat := by omega
  have kee : ke = s1.toNat := by omega
  have kei : ki = s2.toNat := by omega
  subst kes kee kei
  exact ⟨Eq.mpr hp_181 ⟨s0.toNat, s1.toNat, s2.toNat + 1, ⟨by omega, by omega, by omega⟩, by omega, by omega, by rw [hs]; exact kh⟩, trivial⟩
theorem rul_101 : Rul r_101 := by
  refine ⟨fun _ ρ M hm hB hF hG => ?_, fun gi gv hg => (by cases hg)⟩
  have H := cr_101 M (ρ 0) (ρ 1) (ρ 2) (ρ 3) (hB _ List.mem_cons_self) (hB _ (List.mem_cons_of_mem _ List.mem_cons_self)) (hB _ (List.mem_cons_of_mem _ (List.mem_cons_of_mem _ List.mem_cons_self))) (hB _ (List.mem_cons_of_mem _ (List.mem_cons_of_mem _ (List.mem_cons_of_mem _ List.mem_cons_self)))) (cvp 40 (x' := (0 : Int)) (y' := (0 : Int)) (by show 0 + 0 = _; omega) (by show 0 + 0 = _; omega) (hm _ List.mem_cons_self)) (cvp 181 (x' := (2048 * (ρ 0) + (ρ 1))) (y' := ((ρ 2))) (by show 0 + (2048 * ρ 0 + (1 * ρ 1 + 0)) = _; omega) (by show 0 + (1 * ρ 2 + 0) = _; omega) (hm _ (List.mem_cons_of_mem _ List.mem_cons_self))) (cvm (c := 1005) (by decide) (x' := ((ρ 2))) (y' := ((ρ 3))) (by show 0 + (1 * ρ 2 + 0) = _; omega) (by show 0 + (1 * ρ 3 + 0) = _; omega) (hm _ (List.mem_cons_of_mem _ (List.mem_cons_of_mem _ List.mem_cons_self)))) (by have h := hF _ List.mem_cons_self; have h : 0 ≤ 31 + ((-1) * ρ 3 + 0) := h; omega) hG
  obtain ⟨k0, -⟩ := H
  exact ⟨_, List.mem_cons_self, ρ, fun _ _ => rfl, (okM_c (pvp 181 (by show 0 + (2048 * ρ 0 + (1 * ρ 1 + 0)) = _; omega) (by show 1 + (1 * ρ 2 + 0) = _; omega) k0) okM_n), okB_n, okF_n⟩
-- kwn1
theorem cr_102 (M : pM) (s0 s1 s2 s3 s4 s5 : Int) (b0 : 0 ≤ s0 ∧ s0 ≤ 1900) (b1 : 0 ≤ s1 ∧ s1 ≤ 1900) (b2 : 0 ≤ s2 ∧ s2 ≤ 125) (b3 : 0 ≤ s3 ∧ s3 ≤ 24) (b4 : 0 ≤ s4 ∧ s4 ≤ 15) (b5 : 0 ≤ s5 ∧ s5 ≤ 255) (m0 : HP 40 (0 : Int) (0 : Int) M) (m1 : HP 178 (s2) (32 * s3 + s4) M) (m2 : HP 179 (2048 * s0 + s1) (s2) M) (m3 : (0 ≤ (s2) ∧ M 1005 (s2).toNat = (s5))) (f0 : 0 ≤ (s5 - 33)) (hG : gI M) : (HP 178 (s2 + 1) (32 * s3 + s4 + 1) M ∧ HP 179 (2048 * s0 + s1) (s2 + 1) M ∧ 0 ≤ ((-1) * s4 + 14) ∧ 0 ≤ ((-1) * s3 + 23) ∧ True) := by
  have hd : M 1005 s2.toNat = s5 := m3.2
  obtain ⟨w1, w2, w3⟩ := kw_o (i := s2) (n := s3) (m := s4) m0 m1 rfl (by omega) (by omega) (by omega) hd
  have hne : wds.getD s2.toNat 0 ≠ 32 := by omega
  have hs := qws_sn hne
  obtain ⟨q1, q2, q3, q4⟩ := qws_n s2.toNat (by omega) hne
  obtain ⟨ks, ke, ki, ⟨ka, kb, kc⟩, kx, ky, kh⟩ := Eq.mp hp_179 m2
  have kes : ks = s0.toNat := by omega
  have kee : ke = s1.toNat := by omega
  have kei : ki = s2.toNat := by omega
  subst kes kee kei
  exact ⟨Eq.mpr hp_178 ⟨s2.toNat + 1, by omega, by omega, by rw [hs]; show _ = 32 * ((qws s2.toNat).1 : Int) + (((qws s2.toNat).2 + 1 : Nat) : Int); omega⟩, Eq.mpr hp_179 ⟨s0.toNat, s1.toNat, s2.toNat + 1, ⟨by omega, by omega, by omega⟩, by omega, by omega, by rw [hs]; exact kh⟩, by omega, by omega, trivial⟩
theorem rul_102 : Rul r_102 := by
  refine ⟨fun _ ρ M hm hB hF hG => ?_, fun gi gv hg => (by cases hg)⟩
  have H := cr_102 M (ρ 0) (ρ 1) (ρ 2) (ρ 3) (ρ 4) (ρ 5) (hB _ List.mem_cons_self) (hB _ (List.mem_cons_of_mem _ List.mem_cons_self)) (hB _ (List.mem_cons_of_mem _ (List.mem_cons_of_mem _ List.mem_cons_self))) (hB _ (List.mem_cons_of_mem _ (List.mem_cons_of_mem _ (List.mem_cons_of_mem _ List.mem_cons_self)))) (hB _ (List.mem_cons_of_mem _ (List.mem_cons_of_mem _ (List.mem_cons_of_mem _ (List.mem_cons_of_mem _ List.mem_cons_self))))) (hB _ (List.mem_cons_of_mem _ (List.mem_cons_of_mem _ (List.mem_cons_of_mem _ (List.mem_cons_of_mem _ (List.mem_cons_of_mem _ List.mem_cons_self)))))) (cvp 40 (x' := (0 : Int)) (y' := (0 : Int)) (by show 0 + 0 = _; omega) (by show 0 + 0 = _; omega) (hm _ List.mem_cons_self)) (cvp 178 (x' := ((ρ 2))) (y' := (32 * (ρ 3) + (ρ 4))) (by show 0 + (1 * ρ 2 + 0) = _; omega) (by show 0 + (32 * ρ 3 + (1 * ρ 4 + 0)) = _; omega) (hm _ (List.mem_cons_of_mem _ List.mem_cons_self))) (cvp 179 (x' := (2048 * (ρ 0) + (ρ 1))) (y' := ((ρ 2))) (by show 0 + (2048 * ρ 0 + (1 * ρ 1 + 0)) = _; omega) (by show 0 + (1 * ρ 2 + 0) = _; omega) (hm _ (List.mem_cons_of_mem _ (List.mem_cons_of_mem _ List.mem_cons_self)))) (cvm (c := 1005) (by decide) (x' := ((ρ 2))) (y' := ((ρ 5))) (by show 0 + (1 * ρ 2 + 0) = _; omega) (by show 0 + (1 * ρ 5 + 0) = _; omega) (hm _ (List.mem_cons_of_mem _ (List.mem_cons_of_mem _ (List.mem_cons_of_mem _ List.mem_cons_self))))) (by have h := hF _ List.mem_cons_self; have h : 0 ≤ (-33) + (1 * ρ 5 + 0) := h; omega) hG
  obtain ⟨k0, k1, f0, f1, -⟩ := H
  exact ⟨_, List.mem_cons_self, ρ, fun _ _ => rfl, (okM_c (pvp 178 (by show 1 + (1 * ρ 2 + 0) = _; omega) (by show 1 + (32 * ρ 3 + (1 * ρ 4 + 0)) = _; omega) k0) (okM_c (pvp 179 (by show 0 + (2048 * ρ 0 + (1 * ρ 1 + 0)) = _; omega) (by show 1 + (1 * ρ 2 + 0) = _; omega) k1) okM_n)), okB_n, (okF_c (by show 0 ≤ 14 + ((-1) * ρ 4 + 0); omega) (okF_c (by show 0 ≤ 23 + ((-1) * ρ 3 + 0); omega) okF_n))⟩
-- kwa1
theorem cr_103 (M : pM) (s0 s1 s2 s3 s4 s5 s6 : Int) (b0 : 0 ≤ s0 ∧ s0 ≤ 1900) (b1 : 0 ≤ s1 ∧ s1 ≤ 1900) (b2 : 0 ≤ s2 ∧ s2 ≤ 125) (b3 : 0 ≤ s3 ∧ s3 ≤ 24) (b4 : 0 ≤ s4 ∧ s4 ≤ 15) (b5 : 0 ≤ s5 ∧ s5 ≤ 255) (b6 : 0 ≤ s6 ∧ s6 ≤ 255) (m0 : HP 40 (0 : Int) (0 : Int) M) (m1 : HP 178 (s2) (32 * s3 + s4) M) (m2 : HP 180 (2048 * s0 + s1) (s2) M) (m3 : (0 ≤ (s2) ∧ M 1005 (s2).toNat = (s5))) (m4 : (0 ≤ (s0 + s4) ∧ M 1 (s0 + s4).toNat = (s6))) (f0 : 0 ≤ (s5 - 33)) (f1 : 0 ≤ (s5 + (-1) * s6)) (f2 : 0 ≤ ((-1) * s5 + s6)) (f3 : 0 ≤ ((-1) * s0 + s1 + (-1) * s4 - 1)) (hG : gI M) : (HP 180 (2048 * s0 + s1) (s2 + 1) M ∧ True) := by
  have hd : M 1005 s2.toNat = s5 := m3.2
  obtain ⟨w1, w2, w3⟩ := kw_o (i := s2) (n := s3) (m := s4) m0 m1 rfl (by omega) (by omega) (by omega) hd
  have hne : wds.getD s2.toNat 0 ≠ 32 := by omega
  have hs := qws_sn hne
  obtain ⟨q1, q2, q3, q4⟩ := qws_n s2.toNat (by omega) hne
  obtain ⟨ks, ke, ki, ⟨ka, kb, kc⟩, kx, ky, kh⟩ := Eq.mp hp_180 m2
  have kes : ks = s0.toNat := by omega
  have kee : ke = s1.toNat := by omega
  have kei : ki = s2.toNat := by omega
  subst kes kee kei
  obtain ⟨kh, kj⟩ := kh
  have hr := rd1 m4 (by omega)
  refine ⟨Eq.mpr hp_180 ⟨s0.toNat, s1.toNat, s2.toNat + 1, ⟨by omega, by omega, by omega⟩, by omega, by omega, ?_⟩, trivial⟩
  rw [hs]
  refine ⟨by show (qws s2.toNat).2 + 1 ≤ _; omega, fun j hj => ?_⟩
  show _ = (kws.getD (qws s2.toNat).1 []).getD j 0
  have hj : j < (qws s2.toNat).2 + 1 := hj
  by_cases e : j = (qws s2.toNat).2
  · rw [e, q3, w1, show s0.toNat + (qws s2.toNat).2 = (s0 + s4).toNat by omega]
    first | (rw [hr]; omega) | (rw [show (s0 + s4).toNat = (s4 + s0).toNat by omega, hr]; omega)
  · exact kj j (by omega)
theorem rul_103 : Rul r_103 := by
  refine ⟨fun _ ρ M hm hB hF hG => ?_, fun gi gv hg => (by cases hg)⟩
  have H := cr_103 M (ρ 0) (ρ 1) (ρ 2) (ρ 3) (ρ 4) (ρ 5) (ρ 6) (hB _ List.mem_cons_self) (hB _ (List.mem_cons_of_mem _ List.mem_cons_self)) (hB _ (List.mem_cons_of_mem _ (List.mem_cons_of_mem _ List.mem_cons_self))) (hB _ (List.mem_cons_of_mem _ (List.mem_cons_of_mem _ (List.mem_cons_of_mem _ List.mem_cons_self)))) (hB _ (List.mem_cons_of_mem _ (List.mem_cons_of_mem _ (List.mem_cons_of_mem _ (List.mem_cons_of_mem _ List.mem_cons_self))))) (hB _ (List.mem_cons_of_mem _ (List.mem_cons_of_mem _ (List.mem_cons_of_mem _ (List.mem_cons_of_mem _ (List.mem_cons_of_mem _ List.mem_cons_self)))))) (hB _ (List.mem_cons_of_mem _ (List.mem_cons_of_mem _ (List.mem_cons_of_mem _ (List.mem_cons_of_mem _ (List.mem_cons_of_mem _ (List.mem_cons_of_mem _ List.mem_cons_self))))))) (cvp 40 (x' := (0 : Int)) (y' := (0 : Int)) (by show 0 + 0 = _; omega) (by show 0 + 0 = _; omega) (hm _ List.mem_cons_self)) (cvp 178 (x' := ((ρ 2))) (y' := (32 * (ρ 3) + (ρ 4))) (by show 0 + (1 * ρ 2 + 0) = _; omega) (by show 0 + (32 * ρ 3 + (1 * ρ 4 + 0)) = _; omega) (hm _ (List.mem_cons_of_mem _ List.mem_cons_self))) (cvp 180 (x' := (2048 * (ρ 0) + (ρ 1))) (y' := ((ρ 2))) (by show 0 + (2048 * ρ 0 + (1 * ρ 1 + 0)) = _; omega) (by show 0 + (1 * ρ 2 + 0) = _; omega) (hm _ (List.mem_cons_of_mem _ (List.mem_cons_of_mem _ List.mem_cons_self)))) (cvm (c := 1005) (by decide) (x' := ((ρ 2))) (y' := ((ρ 5))) (by show 0 + (1 * ρ 2 + 0) = _; omega) (by show 0 + (1 * ρ 5 + 0) = _; omega) (hm _ (List.mem_cons_of_mem _ (List.mem_cons_of_mem _ (List.mem_cons_of_mem _ List.mem_cons_self))))) (cvm (c := 1) (by decide) (x' := ((ρ 0) + (ρ 4))) (y' := ((ρ 6))) (by show 0 + (1 * ρ 0 + (1 * ρ 4 + 0)) = _; omega) (by show 0 + (1 * ρ 6 + 0) = _; omega) (hm _ (List.mem_cons_of_mem _ (List.mem_cons_of_mem _ (List.mem_cons_of_mem _ (List.mem_cons_of_mem _ List.mem_cons_self)))))) (by have h := hF _ List.mem_cons_self; have h : 0 ≤ (-33) + (1 * ρ 5 + 0) := h; omega) (by have h := hF _ (List.mem_cons_of_mem _ List.mem_cons_self); have h : 0 ≤ 0 + (1 * ρ 5 + ((-1) * ρ 6 + 0)) := h; omega) (by have h := hF _ (List.mem_cons_of_mem _ (List.mem_cons_of_mem _ List.mem_cons_self)); have h : 0 ≤ 0 + ((-1) * ρ 5 + (1 * ρ 6 + 0)) := h; omega) (by have h := hF _ (List.mem_cons_of_mem _ (List.mem_cons_of_mem _ (List.mem_cons_of_mem _ List.mem_cons_self))); have h : 0 ≤ (-1) + ((-1) * ρ 0 + (1 * ρ 1 + ((-1) * ρ 4 + 0))) := h; omega) hG
  obtain ⟨k0, -⟩ := H
  exact ⟨_, List.mem_cons_self, ρ, fun _ _ => rfl, (okM_c (pvp 180 (by show 0 + (2048 * ρ 0 + (1 * ρ 1 + 0)) = _; omega) (by show 1 + (1 * ρ 2 + 0) = _; omega) k0) okM_n), okB_n, okF_n⟩
-- kwb1_0
theorem cr_104 (M : pM) (s0 s1 s2 s3 s4 s5 s6 : Int) (b0 : 0 ≤ s0 ∧ s0 ≤ 1900) (b1 : 0 ≤ s1 ∧ s1 ≤ 1900) (b2 : 0 ≤ s2 ∧ s2 ≤ 125) (b3 : 0 ≤ s3 ∧ s3 ≤ 24) (b4 : 0 ≤ s4 ∧ s4 ≤ 15) (b5 : 0 ≤ s5 ∧ s5 ≤ 255) (b6 : 0 ≤ s6 ∧ s6 ≤ 255) (m0 : HP 40 (0 : Int) (0 : Int) M) (m1 : HP 178 (s2) (32 * s3 + s4) M) (m2 : (0 ≤ (s2) ∧ M 1005 (s2).toNat = (s5))) (m3 : (0 ≤ (s0 + s4) ∧ M 1 (s0 + s4).toNat = (s6))) (f0 : 0 ≤ (s5 - 33)) (f1 : 0 ≤ (s5 + (-1) * s6 - 1)) (f2 : 0 ≤ ((-1) * s0 + s1 + (-1) * s4 - 1)) (hG : gI M) : (HP 181 (2048 * s0 + s1) (s2 + 1) M ∧ True) := by
  have hd : M 1005 s2.toNat = s5 := m2.2
  obtain ⟨w1, w2, w3⟩ := kw_o (i := s2) (n := s3) (m := s4) m0 m1 rfl (by omega) (by omega) (by omega) hd
  have hne : wds.getD s2.toNat 0 ≠ 32 := by omega
  have hs := qws_sn hne
  obtain ⟨q1, q2, q3, q4⟩ := qws_n s2.toNat (by omega) hne
  have hr := rd1 m3 (by omega)
  refine ⟨Eq.mpr hp_181 ⟨s0.toNat, s1.toNat, s2.toNat + 1, ⟨by omega, by omega, by omega⟩, by omega, by omega, fun hb => ?_⟩, trivial⟩
  rw [hs] at hb
  have hb : bts (tm M) s0.toNat (s1.toNat - s0.toNat) = kws.getD (qws s2.toNat).1 [] := hb
  have h1 := bts_at (N := tm M) (s := s0.toNat) (k := s1.toNat - s0.toNat) (j := (qws s2.toNat).2) (by omega)
  rw [hb, q3, w1, show s0.toNat + (qws s2.toNat).2 = (s0 + s4).toNat by omega] at h1
  first | (rw [hr] at h1; omega) | (rw [show (s0 + s4).toNat = (s4 + s0).toNat by omega, hr] at h1; omega)
theorem rul_104 : Rul r_104 := by
  refine ⟨fun _ ρ M hm hB hF hG => ?_, fun gi gv hg => (by cases hg)⟩
  have H := cr_104 M (ρ 0) (ρ 1) (ρ 2) (ρ 3) (ρ 4) (ρ 5) (ρ 6) (hB _ List.mem_cons_self) (hB _ (List.mem_cons_of_mem _ List.mem_cons_self)) (hB _ (List.mem_cons_of_mem _ (List.mem_cons_of_mem _ List.mem_cons_self))) (hB _ (List.mem_cons_of_mem _ (List.mem_cons_of_mem _ (List.mem_cons_of_mem _ List.mem_cons_self)))) (hB _ (List.mem_cons_of_mem _ (List.mem_cons_of_mem _ (List.mem_cons_of_mem _ (List.mem_cons_of_mem _ List.mem_cons_self))))) (hB _ (List.mem_cons_of_mem _ (List.mem_cons_of_mem _ (List.mem_cons_of_mem _ (List.mem_cons_of_mem _ (List.mem_cons_of_mem _ List.mem_cons_self)))))) (hB _ (List.mem_cons_of_mem _ (List.mem_cons_of_mem _ (List.mem_cons_of_mem _ (List.mem_cons_of_mem _ (List.mem_cons_of_mem _ (List.mem_cons_of_mem _ List.mem_cons_self))))))) (cvp 40 (x' := (0 : Int)) (y' := (0 : Int)) (by show 0 + 0 = _; omega) (by show 0 + 0 = _; omega) (hm _ List.mem_cons_self)) (cvp 178 (x' := ((ρ 2))) (y' := (32 * (ρ 3) + (ρ 4))) (by show 0 + (1 * ρ 2 + 0) = _; omega) (by show 0 + (32 * ρ 3 + (1 * ρ 4 + 0)) = _; omega) (hm _ (List.mem_cons_of_mem _ List.mem_cons_self))) (cvm (c := 1005) (by decide) (x' := ((ρ 2))) (y' := ((ρ 5))) (by show 0 + (1 * ρ 2 + 0) = _; omega) (by show 0 + (1 * ρ 5 + 0) = _; omega) (hm _ (List.mem_cons_of_mem _ (List.mem_cons_of_mem _ List.mem_cons_self)))) (cvm (c := 1) (by decide) (x' := ((ρ 0) + (ρ 4))) (y' := ((ρ 6))) (by show 0 + (1 * ρ 0 + (1 * ρ 4 + 0)) = _; omega) (by show 0 + (1 * ρ 6 + 0) = _; omega) (hm _ (List.mem_cons_of_mem _ (List.mem_cons_of_mem _ (List.mem_cons_of_mem _ List.mem_cons_self))))) (by have h := hF _ List.mem_cons_self; have h : 0 ≤ (-33) + (1 * ρ 5 + 0) := h; omega) (by have h := hF _ (List.mem_cons_of_mem _ List.mem_cons_self); have h : 0 ≤ (-1) + (1 * ρ 5 + ((-1) * ρ 6 + 0)) := h; omega) (by have h := hF _ (List.mem_cons_of_mem _ (List.mem_cons_of_mem _ List.mem_cons_self)); have h : 0 ≤ (-1) + ((-1) * ρ 0 + (1 * ρ 1 + ((-1) * ρ 4 + 0))) := h; omega) hG
  obtain ⟨k0, -⟩ := H
  exact ⟨_, List.mem_cons_self, ρ, fun _ _ => rfl, (okM_c (pvp 181 (by show 0 + (2048 * ρ 0 + (1 * ρ 1 + 0)) = _; omega) (by show 1 + (1 * ρ 2 + 0) = _; omega) k0) okM_n), okB_n, okF_n⟩
-- kwb1_1
theorem cr_105 (M : pM) (s0 s1 s2 s3 s4 s5 s6 : Int) (b0 : 0 ≤ s0 ∧ s0 ≤ 1900) (b1 : 0 ≤ s1 ∧ s1 ≤ 1900) (b2 : 0 ≤ s2 ∧ s2 ≤ 125) (b3 : 0 ≤ s3 ∧ s3 ≤ 24) (b4 : 0 ≤ s4 ∧ s4 ≤ 15) (b5 : 0 ≤ s5 ∧ s5 ≤ 255) (b6 : 0 ≤ s6 ∧ s6 ≤ 255) (m0 : HP 40 (0 : Int) (0 : Int) M) (m1 : HP 178 (s2) (32 * s3 + s4) M) (m2 : (0 ≤ (s2) ∧ M 1005 (s2).toNat = (s5))) (m3 : (0 ≤ (s0 + s4) ∧ M 1 (s0 + s4).toNat = (s6))) (f0 : 0 ≤ (s5 - 33)) (f1 : 0 ≤ ((-1) * s5 + s6 - 1)) (f2 : 0 ≤ ((-1) * s0 + s1 + (-1) * s4 - 1)) (hG : gI M) : (HP 181 (2048 * s0 + s1) (s2 + 1) M ∧ True) := by
  have hd : M 1005 s2.toNat = s5 := m2.2
  obtain ⟨w1, w2, w3⟩ := kw_o (i := s2) (n := s3) (m := s4) m0 m1 rfl (by omega) (by omega) (by omega) hd
  have hne : wds.getD s2.toNat 0 ≠ 32 := by omega
  have hs := qws_sn hne
  obtain ⟨q1, q2, q3, q4⟩ := qws_n s2.toNat (by omega) hne
  have hr := rd1 m3 (by omega)
  refine ⟨Eq.mpr hp_181 ⟨s0.toNat, s1.toNat, s2.toNat + 1, ⟨by omega, by omega, by omega⟩, by omega, by omega, fun hb => ?_⟩, trivial⟩
  rw [hs] at hb
  have hb : bts (tm M) s0.toNat (s1.toNat - s0.toNat) = kws.getD (qws s2.toNat).1 [] := hb
  have h1 := bts_at (N := tm M) (s := s0.toNat) (k := s1.toNat - s0.toNat) (j := (qws s2.toNat).2) (by omega)
  rw [hb, q3, w1, show s0.toNat + (qws s2.toNat).2 = (s0 + s4).toNat by omega] at h1
  first | (rw [hr] at h1; omega) | (rw [show (s0 + s4).toNat = (s4 + s0).toNat by omega, hr] at h1; omega)
theorem rul_105 : Rul r_105 := by
  refine ⟨fun _ ρ M hm hB hF hG => ?_, fun gi gv hg => (by cases hg)⟩
  have H := cr_105 M (ρ 0) (ρ 1) (ρ 2) (ρ 3) (ρ 4) (ρ 5) (ρ 6) (hB _ List.mem_cons_self) (hB _ (List.mem_cons_of_mem _ List.mem_cons_self)) (hB _ (List.mem_cons_of_mem _ (List.mem_cons_of_mem _ List.mem_cons_self))) (hB _ (List.mem_cons_of_mem _ (List.mem_cons_of_mem _ (List.mem_cons_of_mem _ List.mem_cons_self)))) (hB _ (List.mem_cons_of_mem _ (List.mem_cons_of_mem _ (List.mem_cons_of_mem _ (List.mem_cons_of_mem _ List.mem_cons_self))))) (hB _ (List.mem_cons_of_mem _ (List.mem_cons_of_mem _ (List.mem_cons_of_mem _ (List.mem_cons_of_mem _ (List.mem_cons_of_mem _ List.mem_cons_self)))))) (hB _ (List.mem_cons_of_mem _ (List.mem_cons_of_mem _ (List.mem_cons_of_mem _ (List.mem_cons_of_mem _ (List.mem_cons_of_mem _ (List.mem_cons_of_mem _ List.mem_cons_self))))))) (cvp 40 (x' := (0 : Int)) (y' := (0 : Int)) (by show 0 + 0 = _; omega) (by show 0 + 0 = _; omega) (hm _ List.mem_cons_self)) (cvp 178 (x' := ((ρ 2))) (y' := (32 * (ρ 3) + (ρ 4))) (by show 0 + (1 * ρ 2 + 0) = _; omega) (by show 0 + (32 * ρ 3 + (1 * ρ 4 + 0)) = _; omega) (hm _ (List.mem_cons_of_mem _ List.mem_cons_self))) (cvm (c := 1005) (by decide) (x' := ((ρ 2))) (y' := ((ρ 5))) (by show 0 + (1 * ρ 2 + 0) = _; omega) (by show 0 + (1 * ρ 5 + 0) = _; omega) (hm _ (List.mem_cons_of_mem _ (List.mem_cons_of_mem _ List.mem_cons_self)))) (cvm (c := 1) (by decide) (x' := ((ρ 0) + (ρ 4))) (y' := ((ρ 6))) (by show 0 + (1 * ρ 0 + (1 * ρ 4 + 0)) = _; omega) (by show 0 + (1 * ρ 6 + 0) = _; omega) (hm _ (List.mem_cons_of_mem _ (List.mem_cons_of_mem _ (List.mem_cons_of_mem _ List.mem_cons_self))))) (by have h := hF _ List.mem_cons_self; have h : 0 ≤ (-33) + (1 * ρ 5 + 0) := h; omega) (by have h := hF _ (List.mem_cons_of_mem _ List.mem_cons_self); have h : 0 ≤ (-1) + ((-1) * ρ 5 + (1 * ρ 6 + 0)) := h; omega) (by have h := hF _ (List.mem_cons_of_mem _ (List.mem_cons_of_mem _ List.mem_cons_self)); have h : 0 ≤ (-1) + ((-1) * ρ 0 + (1 * ρ 1 + ((-1) * ρ 4 + 0))) := h; omega) hG
  obtain ⟨k0, -⟩ := H
  exact ⟨_, List.mem_cons_self, ρ, fun _ _ => rfl, (okM_c (pvp 181 (by show 0 + (2048 * ρ 0 + (1 * ρ 1 + 0)) = _; omega) (by show 1 + (1 * ρ 2 + 0) = _; omega) k0) okM_n), okB_n, okF_n⟩
-- kwc1
theorem cr_106 (M : pM) (s0 s1 s2 s3 s4 s5 : Int) (b0 : 0 ≤ s0 ∧ s0 ≤ 1900) (b1 : 0 ≤ s1 ∧ s1 ≤ 1900) (b2 : 0 ≤ s2 ∧ s2 ≤ 125) (b3 : 0 ≤ s3 ∧ s3 ≤ 24) (b4 : 0 ≤ s4 ∧ s4 ≤ 15) (b5 : 0 ≤ s5 ∧ s5 ≤ 255) (m0 : HP 40 (0 : Int) (0 : Int) M) (m1 : HP 178 (s2) (32 * s3 + s4) M) (m2 : (0 ≤ (s2) ∧ M 1005 (s2).toNat = (s5))) (f0 : 0 ≤ (s5 - 33)) (f1 : 0 ≤ (s0 + (-1) * s1 + s4)) (hG : gI M) : (HP 181 (2048 * s0 + s1) (s2 + 1) M ∧ True) := by
  have hd : M 1005 s2.toNat = s5 := m2.2
  obtain ⟨w1, w2, w3⟩ := kw_o (i := s2) (n := s3) (m := s4) m0 m1 rfl (by omega) (by omega) (by omega) hd
  have hne : wds.getD s2.toNat 0 ≠ 32 := by omega
  have hs := qws_sn hne
  obtain ⟨q1, q2, q3, q4⟩ := qws_n s2.toNat (by omega) hne
  refine ⟨Eq.mpr hp_181 ⟨s0.toNat, s1.toNat, s2.toNat + 1, ⟨by omega, by omega, by omega⟩, by omega, by omega, fun hb => ?_⟩, trivial⟩
  rw [hs] at hb
  have hb : bts (tm M) s0.toNat (s1.toNat - s0.toNat) = kws.getD (qws s2.toNat).1 [] := hb
  have h1 := bts_len (N := tm M) (s := s0.toNat) (k := s1.toNat - s0.toNat)
  rw [hb] at h1
  omega
theorem rul_106 : Rul r_106 := by
  refine ⟨fun _ ρ M hm hB hF hG => ?_, fun gi gv hg => (by cases hg)⟩
  have H := cr_106 M (ρ 0) (ρ 1) (ρ 2) (ρ 3) (ρ 4) (ρ 5) (hB _ List.mem_cons_self) (hB _ (List.mem_cons_of_mem _ List.mem_cons_self)) (hB _ (List.mem_cons_of_mem _ (List.mem_cons_of_mem _ List.mem_cons_self))) (hB _ (List.mem_cons_of_mem _ (List.mem_cons_of_mem _ (List.mem_cons_of_mem _ List.mem_cons_self)))) (hB _ (List.mem_cons_of_mem _ (List.mem_cons_of_mem _ (List.mem_cons_of_mem _ (List.mem_cons_of_mem _ List.mem_cons_self))))) (hB _ (List.mem_cons_of_mem _ (List.mem_cons_of_mem _ (List.mem_cons_of_mem _ (List.mem_cons_of_mem _ (List.mem_cons_of_mem _ List.mem_cons_self)))))) (cvp 40 (x' := (0 : Int)) (y' := (0 : Int)) (by show 0 + 0 = _; omega) (by show 0 + 0 = _; omega) (hm _ List.mem_cons_self)) (cvp 178 (x' := ((ρ 2))) (y' := (32 * (ρ 3) + (ρ 4))) (by show 0 + (1 * ρ 2 + 0) = _; omega) (by show 0 + (32 * ρ 3 + (1 * ρ 4 + 0)) = _; omega) (hm _ (List.mem_cons_of_mem _ List.mem_cons_self))) (cvm (c := 1005) (by decide) (x' := ((ρ 2))) (y' := ((ρ 5))) (by show 0 + (1 * ρ 2 + 0) = _; omega) (by show 0 + (1 * ρ 5 + 0) = _; omega) (hm _ (List.mem_cons_of_mem _ (List.mem_cons_of_mem _ List.mem_cons_self)))) (by have h := hF _ List.mem_cons_self; have h : 0 ≤ (-33) + (1 * ρ 5 + 0) := h; omega) (by have h := hF _ (List.mem_cons_of_mem _ List.mem_cons_self); have h : 0 ≤ 0 + (1 * ρ 0 + ((-1) * ρ 1 + (1 * ρ 4 + 0))) := h; omega) hG
  obtain ⟨k0, -⟩ := H
  exact ⟨_, List.mem_cons_self, ρ, fun _ _ => rfl, (okM_c (pvp 181 (by show 0 + (2048 * ρ 0 + (1 * ρ 1 + 0)) = _; omega) (by show 1 + (1 * ρ 2 + 0) = _; omega) k0) okM_n), okB_n, okF_n⟩
-- kwd1
theorem cr_107 (M : pM) (s0 s1 s2 s3 : Int) (b0 : 0 ≤ s0 ∧ s0 ≤ 1900) (b1 : 0 ≤ s1 ∧ s1 ≤ 1900) (b2 : 0 ≤ s2 ∧ s2 ≤ 125) (b3 : 0 ≤ s3 ∧ s3 ≤ 255) (m0 : HP 40 (0 : Int) (0 : Int) M) (m1 : HP 181 (2048 * s0 + s1) (s2) M) (m2 : (0 ≤ (s2) ∧ M 1005 (s2).toNat = (s3))) (f0 : 0 ≤ (s3 - 33)) (hG : gI M) : (HP 181 (2048 * s0 + s1) (s2 + 1) M ∧ True) := by
  have w1 : wds.getD s2.toNat 0 = s3 := by rw [← (Eq.mp hp_40 m0).1 s2.toNat (by omega)]; exact m2.2
  have hne : wds.getD s2.toNat 0 ≠ 32 := by omega
  have hs := qws_sn hne
  obtain ⟨q1, q2, q3, q4⟩ := qws_n s2.toNat (by omega) hne
  obtain ⟨ks, ke, ki, ⟨ka, kb, kc⟩, kx, ky, kh⟩ := Eq.mp hp_181 m1
  have kes : ks = s0.toNat := by omega
  have kee : ke = s1.toNat := by omega
  have kei : ki = s2.toNat := by omega
  subst kes kee kei
  exact ⟨Eq.mpr hp_181 ⟨s0.toNat, s1.toNat, s2.toNat + 1, ⟨by omega, by omega, by omega⟩, by omega, by omega, by rw [hs]; exact kh⟩, trivial⟩
theorem rul_107 : Rul r_107 := by
  refine ⟨fun _ ρ M hm hB hF hG => ?_, fun gi gv hg => (by cases hg)⟩
  have H := cr_107 M (ρ 0) (ρ 1) (ρ 2) (ρ 3) (hB _ List.mem_cons_self) (hB _ (List.mem_cons_of_mem _ List.mem_cons_self)) (hB _ (List.mem_cons_of_mem _ (List.mem_cons_of_mem _ List.mem_cons_self))) (hB _ (List.mem_cons_of_mem _ (List.mem_cons_of_mem _ (List.mem_cons_of_mem _ List.mem_cons_self)))) (cvp 40 (x' := (0 : Int)) (y' := (0 : Int)) (by show 0 + 0 = _; omega) (by show 0 + 0 = _; omega) (hm _ List.mem_cons_self)) (cvp 181 (x' := (2048 * (ρ 0) + (ρ 1))) (y' := ((ρ 2))) (by show 0 + (2048 * ρ 0 + (1 * ρ 1 + 0)) = _; omega) (by show 0 + (1 * ρ 2 + 0) = _; omega) (hm _ (List.mem_cons_of_mem _ List.mem_cons_self))) (cvm (c := 1005) (by decide) (x' := ((ρ 2))) (y' := ((ρ 3))) (by show 0 + (1 * ρ 2 + 0) = _; omega) (by show 0 + (1 * ρ 3 + 0) = _; omega) (hm _ (List.mem_cons_of_mem _ (List.mem_cons_of_mem _ List.mem_cons_self)))) (by have h := hF _ List.mem_cons_self; have h : 0 ≤ (-33) + (1 * ρ 3 + 0) := h; omega) hG
  obtain ⟨k0, -⟩ := H
  exact ⟨_, List.mem_cons_self, ρ, fun _ _ => rfl, (okM_c (pvp 181 (by show 0 + (2048 * ρ 0 + (1 * ρ 1 + 0)) = _; omega) (by show 1 + (1 * ρ 2 + 0) = _; omega) k0) okM_n), okB_n, okF_n⟩
-- kwr
theorem cr_108 (M : pM) (s0 s1 s2 s3 s4 : Int) (b0 : 0 ≤ s0 ∧ s0 ≤ 1900) (b1 : 0 ≤ s1 ∧ s1 ≤ 1900) (b2 : 0 ≤ s2 ∧ s2 ≤ 125) (b3 : 0 ≤ s3 ∧ s3 ≤ 24) (b4 : 0 ≤ s4 ∧ s4 ≤ 15) (m0 : HP 40 (0 : Int) (0 : Int) M) (m1 : HP 178 (s2) (32 * s3 + s4) M) (m2 : (0 ≤ (s2) ∧ M 1005 (s2).toNat = (32 : Int))) (m3 : HP 180 (2048 * s0 + s1) (s2) M) (f0 : 0 ≤ ((-1) * s0 + s1 + (-1) * s4)) (f1 : 0 ≤ (s0 + (-1) * s1 + s4)) (hG : gI M) : (HP 50 (2048 * s0 + s1) (s3) M ∧ 0 ≤ ((-1) * s3 + 23) ∧ True) := by
  have hd : M 1005 s2.toNat = 32 := m2.2
  obtain ⟨w1, w2, w3⟩ := kw_o (i := s2) (n := s3) (m := s4) m0 m1 rfl (by omega) (by omega) (by omega) hd
  have hs := qws_sb w1
  obtain ⟨q1, q2⟩ := qws_b s2.toNat (by omega) w1
  obtain ⟨ks, ke, ki, ⟨ka, kb, kc⟩, kx, ky, kh⟩ := Eq.mp hp_180 m3
  have kes : ks = s0.toNat := by omega
  have kee : ke = s1.toNat := by omega
  have kei : ki = s2.toNat := by omega
  subst kes kee kei
  obtain ⟨kh, kj⟩ := kh
  have hb : bts (tm M) s0.toNat (s1.toNat - s0.toNat) = kws.getD (qws s2.toNat).1 [] := by
    refine List.ext_getElem? (fun j => ?_)
    by_cases e : j < (qws s2.toNat).2
    · have h1 := bts_at (N := tm M) (s := s0.toNat) (k := s1.toNat - s0.toNat) (j := j) (by omega)
      rw [kj j e, List.getD_eq_getElem?_getD, List.getD_eq_getElem?_getD] at h1
      rw [List.getElem?_eq_getElem (by rw [bts_len]; omega), List.getElem?_eq_getElem (by omega)] at h1 ⊢
      exact congrArg some h1
    · rw [List.getElem?_eq_none (by rw [bts_len]; omega), List.getElem?_eq_none (by omega)]
  have hw := wid_of (N := tm M) (s := s0.toNat) (e := s1.toNat) (k := (qws s2.toNat).1) (by omega) hb
  rw [wid_ag agtm (by omega) (by omega)] at hw
  exact ⟨Eq.mpr hp_50 ⟨s0.toNat, s1.toNat, by omega, by omega, by omega, by omega⟩, by omega, trivial⟩
theorem rul_108 : Rul r_108 := by
  refine ⟨fun _ ρ M hm hB hF hG => ?_, fun gi gv hg => (by cases hg)⟩
  have H := cr_108 M (ρ 0) (ρ 1) (ρ 2) (ρ 3) (ρ 4) (hB _ List.mem_cons_self) (hB _ (List.mem_cons_of_mem _ List.mem_cons_self)) (hB _ (List.mem_cons_of_mem _ (List.mem_cons_of_mem _ List.mem_cons_self))) (hB _ (List.mem_cons_of_mem _ (List.mem_cons_of_mem _ (List.mem_cons_of_mem _ List.mem_cons_self)))) (hB _ (List.mem_cons_of_mem _ (List.mem_cons_of_mem _ (List.mem_cons_of_mem _ (List.mem_cons_of_mem _ List.mem_cons_self))))) (cvp 40 (x' := (0 : Int)) (y' := (0 : Int)) (by show 0 + 0 = _; omega) (by show 0 + 0 = _; omega) (hm _ List.mem_cons_self)) (cvp 178 (x' := ((ρ 2))) (y' := (32 * (ρ 3) + (ρ 4))) (by show 0 + (1 * ρ 2 + 0) = _; omega) (by show 0 + (32 * ρ 3 + (1 * ρ 4 + 0)) = _; omega) (hm _ (List.mem_cons_of_mem _ List.mem_cons_self))) (cvm (c := 1005) (by decide) (x' := ((ρ 2))) (y' := (32 : Int)) (by show 0 + (1 * ρ 2 + 0) = _; omega) (by show 32 + 0 = _; omega) (hm _ (List.mem_cons_of_mem _ (List.mem_cons_of_mem _ List.mem_cons_self)))) (cvp 180 (x' := (2048 * (ρ 0) + (ρ 1))) (y' := ((ρ 2))) (by show 0 + (2048 * ρ 0 + (1 * ρ 1 + 0)) = _; omega) (by show 0 + (1 * ρ 2 + 0) = _; omega) (hm _ (List.mem_cons_of_mem _ (List.mem_cons_of_mem _ (List.mem_cons_of_mem _ List.mem_cons_self))))) (by have h := hF _ List.mem_cons_self; have h : 0 ≤ 0 + ((-1) * ρ 0 + (1 * ρ 1 + ((-1) * ρ 4 + 0))) := h; omega) (by have h := hF _ (List.mem_cons_of_mem _ List.mem_cons_self); have h : 0 ≤ 0 + (1 * ρ 0 + ((-1) * ρ 1 + (1 * ρ 4 + 0))) := h; omega) hG
  obtain ⟨k0, f0, -⟩ := H
  exact ⟨_, List.mem_cons_self, ρ, fun _ _ => rfl, (okM_c (pvp 50 (by show 0 + (2048 * ρ 0 + (1 * ρ 1 + 0)) = _; omega) (by show 0 + (1 * ρ 3 + 0) = _; omega) k0) okM_n), okB_n, (okF_c (by show 0 ≤ 23 + ((-1) * ρ 3 + 0); omega) okF_n)⟩
-- kwe0
theorem cr_109 (M : pM) (s0 s1 s2 s3 s4 : Int) (b0 : 0 ≤ s0 ∧ s0 ≤ 1900) (b1 : 0 ≤ s1 ∧ s1 ≤ 1900) (b2 : 0 ≤ s2 ∧ s2 ≤ 125) (b3 : 0 ≤ s3 ∧ s3 ≤ 24) (b4 : 0 ≤ s4 ∧ s4 ≤ 15) (m0 : HP 40 (0 : Int) (0 : Int) M) (m1 : HP 178 (s2) (32 * s3 + s4) M) (m2 : (0 ≤ (s2) ∧ M 1005 (s2).toNat = (32 : Int))) (m3 : HP 179 (2048 * s0 + s1) (s2) M) (m4 : HP 181 (2048 * s0 + s1) (s2) M) (hG : gI M) : (HP 178 (s2 + 1) (32 * s3 + 32) M ∧ HP 179 (2048 * s0 + s1) (s2 + 1) M ∧ HP 180 (2048 * s0 + s1) (s2 + 1) M ∧ 0 ≤ ((-1) * s3 + 23) ∧ True) := by
  have hd : M 1005 s2.toNat = 32 := m2.2
  obtain ⟨w1, w2, w3⟩ := kw_o (i := s2) (n := s3) (m := s4) m0 m1 rfl (by omega) (by omega) (by omega) hd
  have hs := qws_sb w1
  obtain ⟨q1, q2⟩ := qws_b s2.toNat (by omega) w1
  obtain ⟨ks, ke, ki, ⟨ka, kb, kc⟩, kx, ky, kh⟩ := Eq.mp hp_179 m3
  have kes : ks = s0.toNat := by omega
  have kee : ke = s1.toNat := by omega
  have kei : ki = s2.toNat := by omega
  subst kes kee kei
  obtain ⟨ls, le, li, ⟨la, lb, lc⟩, lx, ly, lh⟩ := Eq.mp hp_181 m4
  have les : ls = s0.toNat := by omega
  have lee : le = s1.toNat := by omega
  have lei : li = s2.toNat := by omega
  subst les lee lei
  have hb := lh
  exact ⟨Eq.mpr hp_178 ⟨s2.toNat + 1, by omega, by omega, by rw [hs]; show _ = 32 * (((qws s2.toNat).1 + 1 : Nat) : Int) + ((0 : Nat) : Int); omega⟩, Eq.mpr hp_179 ⟨s0.toNat, s1.toNat, s2.toNat + 1, ⟨by omega, by omega, by omega⟩, by omega, by omega, by rw [hs]; intro k hk; have hk : k < (qws s2.toNat).1 + 1 := hk; exact (if e : k = (qws s2.toNat).1 then (by rw [e]; exact hb) else kh k (by omega))⟩, Eq.mpr hp_180 ⟨s0.toNat, s1.toNat, s2.toNat + 1, ⟨by omega, by omega, by omega⟩, by omega, by omega, by rw [hs]; exact ⟨Nat.zero_le _, fun j hj => absurd hj (Nat.not_lt_zero j)⟩⟩, by omega, trivial⟩
theorem rul_109 : Rul r_109 := by
  refine ⟨fun _ ρ M hm hB hF hG => ?_, fun gi gv hg => (by cases hg)⟩
  have H := cr_109 M (ρ 0) (ρ 1) (ρ 2) (ρ 3) (ρ 4) (hB _ List.mem_cons_self) (hB _ (List.mem_cons_of_mem _ List.mem_cons_self)) (hB _ (List.mem_cons_of_mem _ (List.mem_cons_of_mem _ List.mem_cons_self))) (hB _ (List.mem_cons_of_mem _ (List.mem_cons_of_mem _ (List.mem_cons_of_mem _ List.mem_cons_self)))) (hB _ (List.mem_cons_of_mem _ (List.mem_cons_of_mem _ (List.mem_cons_of_mem _ (List.mem_cons_of_mem _ List.mem_cons_self))))) (cvp 40 (x' := (0 : Int)) (y' := (0 : Int)) (by show 0 + 0 = _; omega) (by show 0 + 0 = _; omega) (hm _ List.mem_cons_self)) (cvp 178 (x' := ((ρ 2))) (y' := (32 * (ρ 3) + (ρ 4))) (by show 0 + (1 * ρ 2 + 0) = _; omega) (by show 0 + (32 * ρ 3 + (1 * ρ 4 + 0)) = _; omega) (hm _ (List.mem_cons_of_mem _ List.mem_cons_self))) (cvm (c := 1005) (by decide) (x' := ((ρ 2))) (y' := (32 : Int)) (by show 0 + (1 * ρ 2 + 0) = _; omega) (by show 32 + 0 = _; omega) (hm _ (List.mem_cons_of_mem _ (List.mem_cons_of_mem _ List.mem_cons_self)))) (cvp 179 (x' := (2048 * (ρ 0) + (ρ 1))) (y' := ((ρ 2))) (by show 0 + (2048 * ρ 0 + (1 * ρ 1 + 0)) = _; omega) (by show 0 + (1 * ρ 2 + 0) = _; omega) (hm _ (List.mem_cons_of_mem _ (List.mem_cons_of_mem _ (List.mem_cons_of_mem _ List.mem_cons_self))))) (cvp 181 (x' := (2048 * (ρ 0) + (ρ 1))) (y' := ((ρ 2))) (by show 0 + (2048 * ρ 0 + (1 * ρ 1 + 0)) = _; omega) (by show 0 + (1 * ρ 2 + 0) = _; omega) (hm _ (List.mem_cons_of_mem _ (List.mem_cons_of_mem _ (List.mem_cons_of_mem _ (List.mem_cons_of_mem _ List.mem_cons_self)))))) hG
  obtain ⟨k0, k1, k2, f0, -⟩ := H
  exact ⟨_, List.mem_cons_self, ρ, fun _ _ => rfl, (okM_c (pvp 178 (by show 1 + (1 * ρ 2 + 0) = _; omega) (by show 32 + (32 * ρ 3 + 0) = _; omega) k0) (okM_c (pvp 179 (by show 0 + (2048 * ρ 0 + (1 * ρ 1 + 0)) = _; omega) (by show 1 + (1 * ρ 2 + 0) = _; omega) k1) (okM_c (pvp 180 (by show 0 + (2048 * ρ 0 + (1 * ρ 1 + 0)) = _; omega) (by show 1 + (1 * ρ 2 + 0) = _; omega) k2) okM_n))), okB_n, (okF_c (by show 0 ≤ 23 + ((-1) * ρ 3 + 0); omega) okF_n)⟩
-- kwe1
theorem cr_110 (M : pM) (s0 s1 s2 s3 s4 : Int) (b0 : 0 ≤ s0 ∧ s0 ≤ 1900) (b1 : 0 ≤ s1 ∧ s1 ≤ 1900) (b2 : 0 ≤ s2 ∧ s2 ≤ 125) (b3 : 0 ≤ s3 ∧ s3 ≤ 24) (b4 : 0 ≤ s4 ∧ s4 ≤ 15) (m0 : HP 40 (0 : Int) (0 : Int) M) (m1 : HP 178 (s2) (32 * s3 + s4) M) (m2 : (0 ≤ (s2) ∧ M 1005 (s2).toNat = (32 : Int))) (m3 : HP 179 (2048 * s0 + s1) (s2) M) (f0 : 0 ≤ ((-1) * s0 + s1 + (-1) * s4 - 1)) (hG : gI M) : (HP 178 (s2 + 1) (32 * s3 + 32) M ∧ HP 179 (2048 * s0 + s1) (s2 + 1) M ∧ HP 180 (2048 * s0 + s1) (s2 + 1) M ∧ 0 ≤ ((-1) * s3 + 23) ∧ True) := by
  have hd : M 1005 s2.toNat = 32 := m2.2
  obtain ⟨w1, w2, w3⟩ := kw_o (i := s2) (n := s3) (m := s4) m0 m1 rfl (by omega) (by omega) (by omega) hd
  have hs := qws_sb w1
  obtain ⟨q1, q2⟩ := qws_b s2.toNat (by omega) w1
  obtain ⟨ks, ke, ki, ⟨ka, kb, kc⟩, kx, ky, kh⟩ := Eq.mp hp_179 m3
  have kes : ks = s0.toNat := by omega
  have kee : ke = s1.toNat := by omega
  have kei : ki = s2.toNat := by omega
  subst kes kee kei
  have hb : bts (tm M) s0.toNat (s1.toNat - s0.toNat) ≠ kws.getD (qws s2.toNat).1 [] := by
    intro hb
    have h1 := bts_len (N := tm M) (s := s0.toNat) (k := s1.toNat - s0.toNat)
    rw [hb] at h1
    omega
  exact ⟨Eq.mpr hp_178 ⟨s2.toNat + 1, by omega, by omega, by rw [hs]; show _ = 32 * (((qws s2.toNat).1 + 1 : Nat) : Int) + ((0 : Nat) : Int); omega⟩, Eq.mpr hp_179 ⟨s0.toNat, s1.toNat, s2.toNat + 1, ⟨by omega, by omega, by omega⟩, by omega, by omega, by rw [hs]; intro k hk; have hk : k < (qws s2.toNat).1 + 1 := hk; exact (if e : k = (qws s2.toNat).1 then (by rw [e]; exact hb) else kh k (by omega))⟩, Eq.mpr hp_180 ⟨s0.toNat, s1.toNat, s2.toNat + 1, ⟨by omega, by omega, by omega⟩, by omega, by omega, by rw [hs]; exact ⟨Nat.zero_le _, fun j hj => absurd hj (Nat.not_lt_zero j)⟩⟩, by omega, trivial⟩
theorem rul_110 : Rul r_110 := by
  refine ⟨fun _ ρ M hm hB hF hG => ?_, fun gi gv hg => (by cases hg)⟩
  have H := cr_110 M (ρ 0) (ρ 1) (ρ 2) (ρ 3) (ρ 4) (hB _ List.mem_cons_self) (hB _ (List.mem_cons_of_mem _ List.mem_cons_self)) (hB _ (List.mem_cons_of_mem _ (List.mem_cons_of_mem _ List.mem_cons_self))) (hB _ (List.mem_cons_of_mem _ (List.mem_cons_of_mem _ (List.mem_cons_of_mem _ List.mem_cons_self)))) (hB _ (List.mem_cons_of_mem _ (List.mem_cons_of_mem _ (List.mem_cons_of_mem _ (List.mem_cons_of_mem _ List.mem_cons_self))))) (cvp 40 (x' := (0 : Int)) (y' := (0 : Int)) (by show 0 + 0 = _; omega) (by show 0 + 0 = _; omega) (hm _ List.mem_cons_self)) (cvp 178 (x' := ((ρ 2))) (y' := (32 * (ρ 3) + (ρ 4))) (by show 0 + (1 * ρ 2 + 0) = _; omega) (by show 0 + (32 * ρ 3 + (1 * ρ 4 + 0)) = _; omega) (hm _ (List.mem_cons_of_mem _ List.mem_cons_self))) (cvm (c := 1005) (by decide) (x' := ((ρ 2))) (y' := (32 : Int)) (by show 0 + (1 * ρ 2 + 0) = _; omega) (by show 32 + 0 = _; omega) (hm _ (List.mem_cons_of_mem _ (List.mem_cons_of_mem _ List.mem_cons_self)))) (cvp 179 (x' := (2048 * (ρ 0) + (ρ 1))) (y' := ((ρ 2))) (by show 0 + (2048 * ρ 0 + (1 * ρ 1 + 0)) = _; omega) (by show 0 + (1 * ρ 2 + 0) = _; omega) (hm _ (List.mem_cons_of_mem _ (List.mem_cons_of_mem _ (List.mem_cons_of_mem _ List.mem_cons_self))))) (by have h := hF _ List.mem_cons_self; have h : 0 ≤ (-1) + ((-1) * ρ 0 + (1 * ρ 1 + ((-1) * ρ 4 + 0))) := h; omega) hG
  obtain ⟨k0, k1, k2, f0, -⟩ := H
  exact ⟨_, List.mem_cons_self, ρ, fun _ _ => rfl, (okM_c (pvp 178 (by show 1 + (1 * ρ 2 + 0) = _; omega) (by show 32 + (32 * ρ 3 + 0) = _; omega) k0) (okM_c (pvp 179 (by show 0 + (2048 * ρ 0 + (1 * ρ 1 + 0)) = _; omega) (by show 1 + (1 * ρ 2 + 0) = _; omega) k1) (okM_c (pvp 180 (by show 0 + (2048 * ρ 0 + (1 * ρ 1 + 0)) = _; omega) (by show 1 + (1 * ρ 2 + 0) = _; omega) k2) okM_n))), okB_n, (okF_c (by show 0 ≤ 23 + ((-1) * ρ 3 + 0); omega) okF_n)⟩
-- kwz
theorem cr_111 (M : pM) (s0 s1 s2 : Int) (b0 : 0 ≤ s0 ∧ s0 ≤ 1900) (b1 : 0 ≤ s1 ∧ s1 ≤ 1900) (b2 : 0 ≤ s2 ∧ s2 ≤ 126) (m0 : HP 179 (2048 * s0 + s1) (s2) M) (f0 : 0 ≤ (s2 - 126)) (hG : gI M) : (HP 50 (2048 * s0 + s1) (-1 : Int) M ∧ True) := by
  obtain ⟨ks, ke, ki, ⟨ka, kb, kc⟩, kx, ky, kh⟩ := Eq.mp hp_179 m0
  have e1 : ki = 126 := by omega
  subst e1
  have e2 : ks = s0.toNat := by omega
  have e3 : ke = s1.toNat := by omega
  subst e2
  subst e3
  rw [qws_e] at kh
  have hw := wid_no (N := tm M) (s := s0.toNat) (e := s1.toNat) kh
  rw [wid_ag agtm (by omega) (by omega)] at hw
  exact ⟨Eq.mpr hp_50 ⟨s0.toNat, s1.toNat, by omega, by omega, by omega, by omega⟩, trivial⟩
theorem rul_111 : Rul r_111 := by
  refine ⟨fun _ ρ M hm hB hF hG => ?_, fun gi gv hg => (by cases hg)⟩
  have H := cr_111 M (ρ 0) (ρ 1) (ρ 2) (hB _ List.mem_cons_self) (hB _ (List.mem_cons_of_mem _ List.mem_cons_self)) (hB _ (List.mem_cons_of_mem _ (List.mem_cons_of_mem _ List.mem_cons_self))) (cvp 179 (x' := (2048 * (ρ 0) + (ρ 1))) (y' := ((ρ 2))) (by show 0 + (2048 * ρ 0 + (1 * ρ 1 + 0)) = _; omega) (by show 0 + (1 * ρ 2 + 0) = _; omega) (hm _ List.mem_cons_self)) (by have h := hF _ List.mem_cons_self; have h : 0 ≤ (-126) + (1 * ρ 2 + 0) := h; omega) hG
  obtain ⟨k0, -⟩ := H
  exact ⟨_, List.mem_cons_self, ρ, fun _ _ => rfl, (okM_c (pvp 50 (by show 0 + (2048 * ρ 0 + (1 * ρ 1 + 0)) = _; omega) (by show (-1) + 0 = _; omega) k0) okM_n), okB_n, okF_n⟩
-- ibh
theorem cr_112 (M : pM) (s0 s1 : Int) (b0 : 128 ≤ s0 ∧ s0 ≤ 255) (b1 : (-2147483648) ≤ s1 ∧ s1 ≤ 2147483647) (m0 : HP 120 (s0) (s1) M) (hG : gI M) : (0 ≤ (s0 + (-1) * s1 - 256) ∧ 0 ≤ ((-1) * s0 + s1 + 256) ∧ True) := by
  have e := n_i2b m0
  unfold w8 at e
  exact ⟨by omega, by omega, trivial⟩
theorem rul_112 : Rul r_112 := by
  refine ⟨fun _ ρ M hm hB hF hG => ?_, fun gi gv hg => (by cases hg)⟩
  have H := cr_112 M (ρ 0) (ρ 1) (hB _ List.mem_cons_self) (hB _ (List.mem_cons_of_mem _ List.mem_cons_self)) (cvp 120 (x' := ((ρ 0))) (y' := ((ρ 1))) (by show 0 + (1 * ρ 0 + 0) = _; omega) (by show 0 + (1 * ρ 1 + 0) = _; omega) (hm _ List.mem_cons_self)) hG
  obtain ⟨f0, f1, -⟩ := H
  exact ⟨_, List.mem_cons_self, ρ, fun _ _ => rfl, okM_n, okB_n, (okF_c (by show 0 ≤ (-256) + (1 * ρ 0 + ((-1) * ρ 1 + 0)); omega) (okF_c (by show 0 ≤ 256 + ((-1) * ρ 0 + (1 * ρ 1 + 0)); omega) okF_n))⟩
-- hdi
theorem cr_113 (M : pM) (s0 s1 s2 s3 s4 : Int) (b0 : 0 ≤ s0 ∧ s0 ≤ 1900) (b1 : 0 ≤ s1 ∧ s1 ≤ 1900) (b2 : 0 ≤ s2 ∧ s2 ≤ 1900) (b3 : 0 ≤ s3 ∧ s3 ≤ 4) (b4 : (-1) ≤ s4 ∧ s4 ≤ 9999) (m0 : (0 ≤ (4 : Int) ∧ M 2 (4 : Int).toNat = (s1))) (m1 : (0 ≤ (2 : Int) ∧ M 2 (2 : Int).toNat = (s2))) (m2 : (0 ≤ (3 : Int) ∧ M 2 (3 : Int).toNat = (s3))) (m3 : (0 ≤ (5 : Int) ∧ M 2 (5 : Int).toNat = (s4))) (m4 : HP 45 (s0) (s1) M) (m5 : HP 46 (s0) (s2) M) (m6 : HP 47 (s0) (131072 * s3 + s4) M) (hG : gI M) : (HP 48 (s0) (0 : Int) M ∧ True) := by
  have hv : M 2 5 = s4 := m3.2
  refine ⟨Eq.mpr hp_48 ⟨⟨b0.1, by omega, by omega⟩, ?_, ?_, ?_⟩, trivial⟩
  · rw [show M 2 4 = s1 from m0.2]; exact (Eq.mp hp_45 m4).2
  · rw [show M 2 2 = s2 from m1.2]; exact (Eq.mp hp_46 m5).2
  · rw [← (Eq.mp hp_47 m6).2, show M 2 3 = s3 from m2.2, show M 2 5 = s4 from m3.2]
theorem rul_113 : Rul r_113 := by
  refine ⟨fun _ ρ M hm hB hF hG => ?_, fun gi gv hg => (by cases hg)⟩
  have H := cr_113 M (ρ 0) (ρ 1) (ρ 2) (ρ 3) (ρ 4) (hB _ List.mem_cons_self) (hB _ (List.mem_cons_of_mem _ List.mem_cons_self)) (hB _ (List.mem_cons_of_mem _ (List.mem_cons_of_mem _ List.mem_cons_self))) (hB _ (List.mem_cons_of_mem _ (List.mem_cons_of_mem _ (List.mem_cons_of_mem _ List.mem_cons_self)))) (hB _ (List.mem_cons_of_mem _ (List.mem_cons_of_mem _ (List.mem_cons_of_mem _ (List.mem_cons_of_mem _ List.mem_cons_self))))) (cvm (c := 2) (by decide) (x' := (4 : Int)) (y' := ((ρ 1))) (by show 4 + 0 = _; omega) (by show 0 + (1 * ρ 1 + 0) = _; omega) (hm _ List.mem_cons_self)) (cvm (c := 2) (by decide) (x' := (2 : Int)) (y' := ((ρ 2))) (by show 2 + 0 = _; omega) (by show 0 + (1 * ρ 2 + 0) = _; omega) (hm _ (List.mem_cons_of_mem _ List.mem_cons_self))) (cvm (c := 2) (by decide) (x' := (3 : Int)) (y' := ((ρ 3))) (by show 3 + 0 = _; omega) (by show 0 + (1 * ρ 3 + 0) = _; omega) (hm _ (List.mem_cons_of_mem _ (List.mem_cons_of_mem _ List.mem_cons_self)))) (cvm (c := 2) (by decide) (x' := (5 : Int)) (y' := ((ρ 4))) (by show 5 + 0 = _; omega) (by show 0 + (1 * ρ 4 + 0) = _; omega) (hm _ (List.mem_cons_of_mem _ (List.mem_cons_of_mem _ (List.mem_cons_of_mem _ List.mem_cons_self))))) (cvp 45 (x' := ((ρ 0))) (y' := ((ρ 1))) (by show 0 + (1 * ρ 0 + 0) = _; omega) (by show 0 + (1 * ρ 1 + 0) = _; omega) (hm _ (List.mem_cons_of_mem _ (List.mem_cons_of_mem _ (List.mem_cons_of_mem _ (List.mem_cons_of_mem _ List.mem_cons_self)))))) (cvp 46 (x' := ((ρ 0))) (y' := ((ρ 2))) (by show 0 + (1 * ρ 0 + 0) = _; omega) (by show 0 + (1 * ρ 2 + 0) = _; omega) (hm _ (List.mem_cons_of_mem _ (List.mem_cons_of_mem _ (List.mem_cons_of_mem _ (List.mem_cons_of_mem _ (List.mem_cons_of_mem _ List.mem_cons_self))))))) (cvp 47 (x' := ((ρ 0))) (y' := (131072 * (ρ 3) + (ρ 4))) (by show 0 + (1 * ρ 0 + 0) = _; omega) (by show 0 + (131072 * ρ 3 + (1 * ρ 4 + 0)) = _; omega) (hm _ (List.mem_cons_of_mem _ (List.mem_cons_of_mem _ (List.mem_cons_of_mem _ (List.mem_cons_of_mem _ (List.mem_cons_of_mem _ (List.mem_cons_of_mem _ List.mem_cons_self)))))))) hG
  obtain ⟨k0, -⟩ := H
  exact ⟨_, List.mem_cons_self, ρ, fun _ _ => rfl, (okM_c (pvp 48 (by show 0 + (1 * ρ 0 + 0) = _; omega) (by show 0 + 0 = _; omega) k0) okM_n), okB_n, okF_n⟩
-- hdo
theorem cr_114 (M : pM) (s0 s1 s2 s3 s4 : Int) (b0 : 0 ≤ s0 ∧ s0 ≤ 1900) (b1 : 0 ≤ s1 ∧ s1 ≤ 1900) (b2 : 0 ≤ s2 ∧ s2 ≤ 1900) (b3 : 0 ≤ s3 ∧ s3 ≤ 4) (b4 : (-2147483648) ≤ s4 ∧ s4 ≤ 2147483647) (m0 : HP 48 (s0) (0 : Int) M) (m1 : (0 ≤ (4 : Int) ∧ M 2 (4 : Int).toNat = (s1))) (m2 : (0 ≤ (2 : Int) ∧ M 2 (2 : Int).toNat = (s2))) (m3 : (0 ≤ (3 : Int) ∧ M 2 (3 : Int).toNat = (s3))) (m4 : (0 ≤ (5 : Int) ∧ M 2 (5 : Int).toNat = (s4))) (hG : gI M) : (HP 45 (s0) (s1) M ∧ HP 46 (s0) (s2) M ∧ HP 47 (s0) (131072 * s3 + s4) M ∧ 0 ≤ ((-1) * s3) ∧ 0 ≤ (s3) ∧ 0 ≤ (s4 + 1) ∧ 0 ≤ ((-1) * s4 + 255) ∧ True) ∨ (HP 45 (s0) (s1) M ∧ HP 46 (s0) (s2) M ∧ HP 47 (s0) (131072 * s3 + s4) M ∧ 0 ≤ ((-1) * s3 + 1) ∧ 0 ≤ (s3 - 1) ∧ 0 ≤ ((-1) * s4 - 1) ∧ 0 ≤ (s4 + 1) ∧ True) ∨ (HP 45 (s0) (s1) M ∧ HP 46 (s0) (s2) M ∧ HP 47 (s0) (131072 * s3 + s4) M ∧ 0 ≤ ((-1) * s3 + 2) ∧ 0 ≤ (s3 - 2) ∧ 0 ≤ (s4 + 1) ∧ 0 ≤ ((-1) * s4 + 24) ∧ 0 ≤ ((-1) * s1 + s2 - 1) ∧ 0 ≤ (s1 + (-1) * s2 + 8) ∧ True) ∨ (HP 45 (s0) (s1) M ∧ HP 46 (s0) (s2) M ∧ HP 47 (s0) (131072 * s3 + s4) M ∧ 0 ≤ ((-1) * s3 + 3) ∧ 0 ≤ (s3 - 3) ∧ 0 ≤ (s4) ∧ 0 ≤ ((-1) * s4 + 9999) ∧ 0 ≤ ((-1) * s1 + s2 - 1) ∧ True) ∨ (HP 45 (s0) (s1) M ∧ HP 46 (s0) (s2) M ∧ HP 47 (s0) (131072 * s3 + s4) M ∧ 0 ≤ ((-1) * s3 + 4) ∧ 0 ≤ (s3 - 4) ∧ 0 ≤ (s4 - 33) ∧ 0 ≤ ((-1) * s4 + 126) ∧ 0 ≤ (s1 + (-1) * s2 + 1) ∧ 0 ≤ ((-1) * s1 + s2 - 1) ∧ True) := by
  obtain ⟨⟨h0, hv⟩, h1, h2, h3⟩ := Eq.mp hp_48 m0
  rw [show M 2 4 = s1 from m1.2] at h1
  rw [show M 2 2 = s2 from m2.2] at h2
  rw [show M 2 5 = s4 from m4.2] at hv h3
  rw [show M 2 3 = s3 from m3.2] at h3
  have k1 : HP 45 s0 s1 M := Eq.mpr hp_45 ⟨h0, h1⟩
  have k2 : HP 46 s0 s2 M := Eq.mpr hp_46 ⟨h0, h2⟩
  have k3 : HP 47 s0 (131072 * s3 + s4) M := Eq.mpr hp_47 ⟨h0, h3.symm⟩
  rcases tk_cl (hby_M hG) s0.toNat with h | h | h | h | h | h
  · exact Or.inr (Or.inl ⟨k1, k2, k3, by omega, by omega, by omega, by omega, trivial⟩)
  · have hw := wid_bd (N := M) (s := tS M s0.toNat) (e := tE M s0.toNat)
    exact Or.inr (Or.inr (Or.inl ⟨k1, k2, k3, by omega, by omega, by omega, by omega, by omega, by omega, trivial⟩))
  · exact Or.inl ⟨k1, k2, k3, by omega, by omega, by omega, by omega, trivial⟩
  · exact Or.inr (Or.inr (Or.inr (Or.inl ⟨k1, k2, k3, by omega, by omega, by omega, by omega, by omega, trivial⟩)))
  · have hw := sgs_bd h.2.2.1
    exact Or.inr (Or.inr (Or.inr (Or.inr (⟨k1, k2, k3, by omega, by omega, by omega, by omega, by omega, by omega, trivial⟩))))
  · exact Or.inl ⟨k1, k2, k3, by omega, by omega, by omega, by omega, trivial⟩
theorem rul_114 : Rul r_114 := by
  refine ⟨fun _ ρ M hm hB hF hG => ?_, fun gi gv hg => (by cases hg)⟩
  have H := cr_114 M (ρ 0) (ρ 1) (ρ 2) (ρ 3) (ρ 4) (hB _ List.mem_cons_self) (hB _ (List.mem_cons_of_mem _ List.mem_cons_self)) (hB _ (List.mem_cons_of_mem _ (List.mem_cons_of_mem _ List.mem_cons_self))) (hB _ (List.mem_cons_of_mem _ (List.mem_cons_of_mem _ (List.mem_cons_of_mem _ List.mem_cons_self)))) (hB _ (List.mem_cons_of_mem _ (List.mem_cons_of_mem _ (List.mem_cons_of_mem _ (List.mem_cons_of_mem _ List.mem_cons_self))))) (cvp 48 (x' := ((ρ 0))) (y' := (0 : Int)) (by show 0 + (1 * ρ 0 + 0) = _; omega) (by show 0 + 0 = _; omega) (hm _ List.mem_cons_self)) (cvm (c := 2) (by decide) (x' := (4 : Int)) (y' := ((ρ 1))) (by show 4 + 0 = _; omega) (by show 0 + (1 * ρ 1 + 0) = _; omega) (hm _ (List.mem_cons_of_mem _ List.mem_cons_self))) (cvm (c := 2) (by decide) (x' := (2 : Int)) (y' := ((ρ 2))) (by show 2 + 0 = _; omega) (by show 0 + (1 * ρ 2 + 0) = _; omega) (hm _ (List.mem_cons_of_mem _ (List.mem_cons_of_mem _ List.mem_cons_self)))) (cvm (c := 2) (by decide) (x' := (3 : Int)) (y' := ((ρ 3))) (by show 3 + 0 = _; omega) (by show 0 + (1 * ρ 3 + 0) = _; omega) (hm _ (List.mem_cons_of_mem _ (List.mem_cons_of_mem _ (List.mem_cons_of_mem _ List.mem_cons_self))))) (cvm (c := 2) (by decide) (x' := (5 : Int)) (y' := ((ρ 4))) (by show 5 + 0 = _; omega) (by show 0 + (1 * ρ 4 + 0) = _; omega) (hm _ (List.mem_cons_of_mem _ (List.mem_cons_of_mem _ (List.mem_cons_of_mem _ (List.mem_cons_of_mem _ List.mem_cons_self)))))) hG
  rcases H with H | H
  · skip
    obtain ⟨k0, k1, k2, f0, f1, f2, f3, -⟩ := H
    exact ⟨_, List.mem_cons_self, ρ, fun _ _ => rfl, (okM_c (pvp 45 (by show 0 + (1 * ρ 0 + 0) = _; omega) (by show 0 + (1 * ρ 1 + 0) = _; omega) k0) (okM_c (pvp 46 (by show 0 + (1 * ρ 0 + 0) = _; omega) (by show 0 + (1 * ρ 2 + 0) = _; omega) k1) (okM_c (pvp 47 (by show 0 + (1 * ρ 0 + 0) = _; omega) (by show 0 + (131072 * ρ 3 + (1 * ρ 4 + 0)) = _; omega) k2) okM_n))), okB_n, (okF_c (by show 0 ≤ 0 + ((-1) * ρ 3 + 0); omega) (okF_c (by show 0 ≤ 0 + (1 * ρ 3 + 0); omega) (okF_c (by show 0 ≤ 1 + (1 * ρ 4 + 0); omega) (okF_c (by show 0 ≤ 255 + ((-1) * ρ 4 + 0); omega) okF_n))))⟩
  rcases H with H | H
  · skip
    obtain ⟨k0, k1, k2, f0, f1, f2, f3, -⟩ := H
    exact ⟨_, (List.mem_cons_of_mem _ List.mem_cons_self), ρ, fun _ _ => rfl, (okM_c (pvp 45 (by show 0 + (1 * ρ 0 + 0) = _; omega) (by show 0 + (1 * ρ 1 + 0) = _; omega) k0) (okM_c (pvp 46 (by show 0 + (1 * ρ 0 + 0) = _; omega) (by show 0 + (1 * ρ 2 + 0) = _; omega) k1) (okM_c (pvp 47 (by show 0 + (1 * ρ 0 + 0) = _; omega) (by show 0 + (131072 * ρ 3 + (1 * ρ 4 + 0)) = _; omega) k2) okM_n))), okB_n, (okF_c (by show 0 ≤ 1 + ((-1) * ρ 3 + 0); omega) (okF_c (by show 0 ≤ (-1) + (1 * ρ 3 + 0); omega) (okF_c (by show 0 ≤ (-1) + ((-1) * ρ 4 + 0); omega) (okF_c (by show 0 ≤ 1 + (1 * ρ 4 + 0); omega) okF_n))))⟩
  rcases H with H | H
  · skip
    obtain ⟨k0, k1, k2, f0, f1, f2, f3, f4, f5, -⟩ := H
    exact ⟨_, (List.mem_cons_of_mem _ (List.mem_cons_of_mem _ List.mem_cons_self)), ρ, fun _ _ => rfl, (okM_c (pvp 45 (by show 0 + (1 * ρ 0 + 0) = _; omega) (by show 0 + (1 * ρ 1 + 0) = _; omega) k0) (okM_c (pvp 46 (by show 0 + (1 * ρ 0 + 0) = _; omega) (by show 0 + (1 * ρ 2 + 0) = _; omega) k1) (okM_c (pvp 47 (by show 0 + (1 * ρ 0 + 0) = _; omega) (by show 0 + (131072 * ρ 3 + (1 * ρ 4 + 0)) = _; omega) k2) okM_n))), okB_n, (okF_c (by show 0 ≤ 2 + ((-1) * ρ 3 + 0); omega) (okF_c (by show 0 ≤ (-2) + (1 * ρ 3 + 0); omega) (okF_c (by show 0 ≤ 1 + (1 * ρ 4 + 0); omega) (okF_c (by show 0 ≤ 24 + ((-1) * ρ 4 + 0); omega) (okF_c (by show 0 ≤ (-1) + ((-1) * ρ 1 + (1 * ρ 2 + 0)); omega) (okF_c (by show 0 ≤ 8 + (1 * ρ 1 + ((-1) * ρ 2 + 0)); omega) okF_n))))))⟩
  rcases H with H | H
  · skip
    obtain ⟨k0, k1, k2, f0, f1, f2, f3, f4, -⟩ := H
    exact ⟨_, (List.mem_cons_of_mem _ (List.mem_cons_of_mem _ (List.mem_cons_of_mem _ List.mem_cons_self))), ρ, fun _ _ => rfl, (okM_c (pvp 45 (by show 0 + (1 * ρ 0 + 0) = _; omega) (by show 0 + (1 * ρ 1 + 0) = _; omega) k0) (okM_c (pvp 46 (by show 0 + (1 * ρ 0 + 0) = _; omega) (by show 0 + (1 * ρ 2 + 0) = _; omega) k1) (okM_c (pvp 47 (by show 0 + (1 * ρ 0 + 0) = _; omega) (by show 0 + (131072 * ρ 3 + (1 * ρ 4 + 0)) = _; omega) k2) okM_n))), okB_n, (okF_c (by show 0 ≤ 3 + ((-1) * ρ 3 + 0); omega) (okF_c (by show 0 ≤ (-3) + (1 * ρ 3 + 0); omega) (okF_c (by show 0 ≤ 0 + (1 * ρ 4 + 0); omega) (okF_c (by show 0 ≤ 9999 + ((-1) * ρ 4 + 0); omega) (okF_c (by show 0 ≤ (-1) + ((-1) * ρ 1 + (1 * ρ 2 + 0)); omega) okF_n)))))⟩
  · skip
    obtain ⟨k0, k1, k2, f0, f1, f2, f3, f4, f5, -⟩ := H
    exact ⟨_, (List.mem_cons_of_mem _ (List.mem_cons_of_mem _ (List.mem_cons_of_mem _ (List.mem_cons_of_mem _ List.mem_cons_self)))), ρ, fun _ _ => rfl, (okM_c (pvp 45 (by show 0 + (1 * ρ 0 + 0) = _; omega) (by show 0 + (1 * ρ 1 + 0) = _; omega) k0) (okM_c (pvp 46 (by show 0 + (1 * ρ 0 + 0) = _; omega) (by show 0 + (1 * ρ 2 + 0) = _; omega) k1) (okM_c (pvp 47 (by show 0 + (1 * ρ 0 + 0) = _; omega) (by show 0 + (131072 * ρ 3 + (1 * ρ 4 + 0)) = _; omega) k2) okM_n))), okB_n, (okF_c (by show 0 ≤ 4 + ((-1) * ρ 3 + 0); omega) (okF_c (by show 0 ≤ (-4) + (1 * ρ 3 + 0); omega) (okF_c (by show 0 ≤ (-33) + (1 * ρ 4 + 0); omega) (okF_c (by show 0 ≤ 126 + ((-1) * ρ 4 + 0); omega) (okF_c (by show 0 ≤ 1 + (1 * ρ 1 + ((-1) * ρ 2 + 0)); omega) (okF_c (by show 0 ≤ (-1) + ((-1) * ρ 1 + (1 * ρ 2 + 0)); omega) okF_n))))))⟩
-- exs0
theorem cr_115 (M : pM) (s0 s1 s2 s3 : Int) (b0 : 0 ≤ s0 ∧ s0 ≤ 1900) (b1 : 0 ≤ s1 ∧ s1 ≤ 950) (b2 : 0 ≤ s2 ∧ s2 ≤ 1900) (b3 : (-2147483648) ≤ s3 ∧ s3 ≤ 2147483647) (m0 : HP 71 (4096 * s0 + s1) (s3) M) (m1 : HP 47 (s0) (262144 : Int) M) (m2 : HP 46 (s0) (s2) M) (hG : gI M) : (HP 53 (4096 * s0 + s1) (256 * s2 + 1) M ∧ True) := by
  obtain ⟨s, h1, hm⟩ := Eq.mp hp_71 m0
  exact ⟨Eq.mpr hp_53 (r_exs (P := s0) (l := s1) (K := 0) h1 ⟨by omega, by omega, by omega⟩ (by have := (q47 m1).2; omega) (q46 m2).2 (by decide) (by unfold qfu; exact decide_eq_false (by omega)) (by omega)), trivial⟩
theorem rul_115 : Rul r_115 := by
  refine ⟨fun _ ρ M hm hB hF hG => ?_, fun gi gv hg => (by cases hg)⟩
  have H := cr_115 M (ρ 0) (ρ 1) (ρ 2) (ρ 3) (hB _ List.mem_cons_self) (hB _ (List.mem_cons_of_mem _ List.mem_cons_self)) (hB _ (List.mem_cons_of_mem _ (List.mem_cons_of_mem _ List.mem_cons_self))) (hB _ (List.mem_cons_of_mem _ (List.mem_cons_of_mem _ (List.mem_cons_of_mem _ List.mem_cons_self)))) (cvp 71 (x' := (4096 * (ρ 0) + (ρ 1))) (y' := ((ρ 3))) (by show 0 + (4096 * ρ 0 + (1 * ρ 1 + 0)) = _; omega) (by show 0 + (1 * ρ 3 + 0) = _; omega) (hm _ List.mem_cons_self)) (cvp 47 (x' := ((ρ 0))) (y' := (262144 : Int)) (by show 0 + (1 * ρ 0 + 0) = _; omega) (by show 262144 + 0 = _; omega) (hm _ (List.mem_cons_of_mem _ List.mem_cons_self))) (cvp 46 (x' := ((ρ 0))) (y' := ((ρ 2))) (by show 0 + (1 * ρ 0 + 0) = _; omega) (by show 0 + (1 * ρ 2 + 0) = _; omega) (hm _ (List.mem_cons_of_mem _ (List.mem_cons_of_mem _ List.mem_cons_self)))) hG
  obtain ⟨k0, -⟩ := H
  exact ⟨_, List.mem_cons_self, ρ, fun _ _ => rfl, (okM_c (pvp 53 (by show 0 + (4096 * ρ 0 + (1 * ρ 1 + 0)) = _; omega) (by show 1 + (256 * ρ 2 + 0) = _; omega) k0) okM_n), okB_n, okF_n⟩
-- exs1
theorem cr_116 (M : pM) (s0 s1 s2 s3 : Int) (b0 : 0 ≤ s0 ∧ s0 ≤ 1900) (b1 : 0 ≤ s1 ∧ s1 ≤ 950) (b2 : 0 ≤ s2 ∧ s2 ≤ 1900) (b3 : (-2147483648) ≤ s3 ∧ s3 ≤ 2147483647) (m0 : HP 71 (4096 * s0 + s1) (s3) M) (m1 : HP 47 (s0) (262145 : Int) M) (m2 : HP 46 (s0) (s2) M) (hG : gI M) : (HP 53 (4096 * s0 + s1) (256 * s2 + 17) M ∧ True) := by
  obtain ⟨s, h1, hm⟩ := Eq.mp hp_71 m0
  exact ⟨Eq.mpr hp_53 (r_exs (P := s0) (l := s1) (K := 1) h1 ⟨by omega, by omega, by omega⟩ (by have := (q47 m1).2; omega) (q46 m2).2 (by decide) (by unfold qfu; exact decide_eq_false (by omega)) (by omega)), trivial⟩
theorem rul_116 : Rul r_116 := by
  refine ⟨fun _ ρ M hm hB hF hG => ?_, fun gi gv hg => (by cases hg)⟩
  have H := cr_116 M (ρ 0) (ρ 1) (ρ 2) (ρ 3) (hB _ List.mem_cons_self) (hB _ (List.mem_cons_of_mem _ List.mem_cons_self)) (hB _ (List.mem_cons_of_mem _ (List.mem_cons_of_mem _ List.mem_cons_self))) (hB _ (List.mem_cons_of_mem _ (List.mem_cons_of_mem _ (List.mem_cons_of_mem _ List.mem_cons_self)))) (cvp 71 (x' := (4096 * (ρ 0) + (ρ 1))) (y' := ((ρ 3))) (by show 0 + (4096 * ρ 0 + (1 * ρ 1 + 0)) = _; omega) (by show 0 + (1 * ρ 3 + 0) = _; omega) (hm _ List.mem_cons_self)) (cvp 47 (x' := ((ρ 0))) (y' := (262145 : Int)) (by show 0 + (1 * ρ 0 + 0) = _; omega) (by show 262145 + 0 = _; omega) (hm _ (List.mem_cons_of_mem _ List.mem_cons_self))) (cvp 46 (x' := ((ρ 0))) (y' := ((ρ 2))) (by show 0 + (1 * ρ 0 + 0) = _; omega) (by show 0 + (1 * ρ 2 + 0) = _; omega) (hm _ (List.mem_cons_of_mem _ (List.mem_cons_of_mem _ List.mem_cons_self)))) hG
  obtain ⟨k0, -⟩ := H
  exact ⟨_, List.mem_cons_self, ρ, fun _ _ => rfl, (okM_c (pvp 53 (by show 0 + (4096 * ρ 0 + (1 * ρ 1 + 0)) = _; omega) (by show 17 + (256 * ρ 2 + 0) = _; omega) k0) okM_n), okB_n, okF_n⟩
-- exs2
theorem cr_117 (M : pM) (s0 s1 s2 s3 : Int) (b0 : 0 ≤ s0 ∧ s0 ≤ 1900) (b1 : 0 ≤ s1 ∧ s1 ≤ 950) (b2 : 0 ≤ s2 ∧ s2 ≤ 1900) (b3 : (-2147483648) ≤ s3 ∧ s3 ≤ 2147483647) (m0 : HP 71 (4096 * s0 + s1) (s3) M) (m1 : HP 47 (s0) (262146 : Int) M) (m2 : HP 46 (s0) (s2) M) (hG : gI M) : (HP 53 (4096 * s0 + s1) (256 * s2 + 33) M ∧ True) := by
  obtain ⟨s, h1, hm⟩ := Eq.mp hp_71 m0
  exact ⟨Eq.mpr hp_53 (r_exs (P := s0) (l := s1) (K := 2) h1 ⟨by omega, by omega, by omega⟩ (by have := (q47 m1).2; omega) (q46 m2).2 (by decide) (by unfold qfu; exact decide_eq_false (by omega)) (by omega)), trivial⟩
theorem rul_117 : Rul r_117 := by
  refine ⟨fun _ ρ M hm hB hF hG => ?_, fun gi gv hg => (by cases hg)⟩
  have H := cr_117 M (ρ 0) (ρ 1) (ρ 2) (ρ 3) (hB _ List.mem_cons_self) (hB _ (List.mem_cons_of_mem _ List.mem_cons_self)) (hB _ (List.mem_cons_of_mem _ (List.mem_cons_of_mem _ List.mem_cons_self))) (hB _ (List.mem_cons_of_mem _ (List.mem_cons_of_mem _ (List.mem_cons_of_mem _ List.mem_cons_self)))) (cvp 71 (x' := (4096 * (ρ 0) + (ρ 1))) (y' := ((ρ 3))) (by show 0 + (4096 * ρ 0 + (1 * ρ 1 + 0)) = _; omega) (by show 0 + (1 * ρ 3 + 0) = _; omega) (hm _ List.mem_cons_self)) (cvp 47 (x' := ((ρ 0))) (y' := (262146 : Int)) (by show 0 + (1 * ρ 0 + 0) = _; omega) (by show 262146 + 0 = _; omega) (hm _ (List.mem_cons_of_mem _ List.mem_cons_self))) (cvp 46 (x' := ((ρ 0))) (y' := ((ρ 2))) (by show 0 + (1 * ρ 0 + 0) = _; omega) (by show 0 + (1 * ρ 2 + 0) = _; omega) (hm _ (List.mem_cons_of_mem _ (List.mem_cons_of_mem _ List.mem_cons_self)))) hG
  obtain ⟨k0, -⟩ := H
  exact ⟨_, List.mem_cons_self, ρ, fun _ _ => rfl, (okM_c (pvp 53 (by show 0 + (4096 * ρ 0 + (1 * ρ 1 + 0)) = _; omega) (by show 33 + (256 * ρ 2 + 0) = _; omega) k0) okM_n), okB_n, okF_n⟩
-- exs3
theorem cr_118 (M : pM) (s0 s1 s2 s3 : Int) (b0 : 0 ≤ s0 ∧ s0 ≤ 1900) (b1 : 0 ≤ s1 ∧ s1 ≤ 950) (b2 : 0 ≤ s2 ∧ s2 ≤ 1900) (b3 : (-2147483648) ≤ s3 ∧ s3 ≤ 2147483647) (m0 : HP 71 (4096 * s0 + s1) (s3) M) (m1 : HP 47 (s0) (262147 : Int) M) (m2 : HP 46 (s0) (s2) M) (hG : gI M) : (HP 53 (4096 * s0 + s1) (256 * s2 + 49) M ∧ True) := by
  obtain ⟨s, h1, hm⟩ := Eq.mp hp_71 m0
  exact ⟨Eq.mpr hp_53 (r_exs (P := s0) (l := s1) (K := 3) h1 ⟨by omega, by omega, by omega⟩ (by have := (q47 m1).2; omega) (q46 m2).2 (by decide) (by unfold qfu; exact decide_eq_false (by omega)) (by omega)), trivial⟩
theorem rul_118 : Rul r_118 := by
  refine ⟨fun _ ρ M hm hB hF hG => ?_, fun gi gv hg => (by cases hg)⟩
  have H := cr_118 M (ρ 0) (ρ 1) (ρ 2) (ρ 3) (hB _ List.mem_cons_self) (hB _ (List.mem_cons_of_mem _ List.mem_cons_self)) (hB _ (List.mem_cons_of_mem _ (List.mem_cons_of_mem _ List.mem_cons_self))) (hB _ (List.mem_cons_of_mem _ (List.mem_cons_of_mem _ (List.mem_cons_of_mem _ List.mem_cons_self)))) (cvp 71 (x' := (4096 * (ρ 0) + (ρ 1))) (y' := ((ρ 3))) (by show 0 + (4096 * ρ 0 + (1 * ρ 1 + 0)) = _; omega) (by show 0 + (1 * ρ 3 + 0) = _; omega) (hm _ List.mem_cons_self)) (cvp 47 (x' := ((ρ 0))) (y' := (262147 : Int)) (by show 0 + (1 * ρ 0 + 0) = _; omega) (by show 262147 + 0 = _; omega) (hm _ (List.mem_cons_of_mem _ List.mem_cons_self))) (cvp 46 (x' := ((ρ 0))) (y' := ((ρ 2))) (by show 0 + (1 * ρ 0 + 0) = _; omega) (by show 0 + (1 * ρ 2 + 0) = _; omega) (hm _ (List.mem_cons_of_mem _ (List.mem_cons_of_mem _ List.mem_cons_self)))) hG
  obtain ⟨k0, -⟩ := H
  exact ⟨_, List.mem_cons_self, ρ, fun _ _ => rfl, (okM_c (pvp 53 (by show 0 + (4096 * ρ 0 + (1 * ρ 1 + 0)) = _; omega) (by show 49 + (256 * ρ 2 + 0) = _; omega) k0) okM_n), okB_n, okF_n⟩
-- exs8
theorem cr_119 (M : pM) (s0 s1 s2 s3 : Int) (b0 : 0 ≤ s0 ∧ s0 ≤ 1900) (b1 : 0 ≤ s1 ∧ s1 ≤ 950) (b2 : 0 ≤ s2 ∧ s2 ≤ 1900) (b3 : (-2147483648) ≤ s3 ∧ s3 ≤ 2147483647) (m0 : HP 71 (4096 * s0 + s1) (s3) M) (m1 : HP 47 (s0) (262152 : Int) M) (m2 : HP 46 (s0) (s2) M) (hG : gI M) : (HP 53 (4096 * s0 + s1) (256 * s2 + 129) M ∧ True) := by
  obtain ⟨s, h1, hm⟩ := Eq.mp hp_71 m0
  exact ⟨Eq.mpr hp_53 (r_exs (P := s0) (l := s1) (K := 8) h1 ⟨by omega, by omega, by omega⟩ (by have := (q47 m1).2; omega) (q46 m2).2 (by decide) (by unfold qfu; exact decide_eq_false (by omega)) (by omega)), trivial⟩
theorem rul_119 : Rul r_119 := by
  refine ⟨fun _ ρ M hm hB hF hG => ?_, fun gi gv hg => (by cases hg)⟩
  have H := cr_119 M (ρ 0) (ρ 1) (ρ 2) (ρ 3) (hB _ List.mem_cons_self) (hB _ (List.mem_cons_of_mem _ List.mem_cons_self)) (hB _ (List.mem_cons_of_mem _ (List.mem_cons_of_mem _ List.mem_cons_self))) (hB _ (List.mem_cons_of_mem _ (List.mem_cons_of_mem _ (List.mem_cons_of_mem _ List.mem_cons_self)))) (cvp 71 (x' := (4096 * (ρ 0) + (ρ 1))) (y' := ((ρ 3))) (by show 0 + (4096 * ρ 0 + (1 * ρ 1 + 0)) = _; omega) (by show 0 + (1 * ρ 3 + 0) = _; omega) (hm _ List.mem_cons_self)) (cvp 47 (x' := ((ρ 0))) (y' := (262152 : Int)) (by show 0 + (1 * ρ 0 + 0) = _; omega) (by show 262152 + 0 = _; omega) (hm _ (List.mem_cons_of_mem _ List.mem_cons_self))) (cvp 46 (x' := ((ρ 0))) (y' := ((ρ 2))) (by show 0 + (1 * ρ 0 + 0) = _; omega) (by show 0 + (1 * ρ 2 + 0) = _; omega) (hm _ (List.mem_cons_of_mem _ (List.mem_cons_of_mem _ List.mem_cons_self)))) hG
  obtain ⟨k0, -⟩ := H
  exact ⟨_, List.mem_cons_self, ρ, fun _ _ => rfl, (okM_c (pvp 53 (by show 0 + (4096 * ρ 0 + (1 * ρ 1 + 0)) = _; omega) (by show 129 + (256 * ρ 2 + 0) = _; omega) k0) okM_n), okB_n, okF_n⟩
-- exs4_0
theorem cr_120 (M : pM) (s0 s1 s2 s3 s4 s5 : Int) (b0 : 0 ≤ s0 ∧ s0 ≤ 1900) (b1 : 0 ≤ s1 ∧ s1 ≤ 950) (b2 : 0 ≤ s2 ∧ s2 ≤ 1900) (b3 : 0 ≤ s3 ∧ s3 ≤ 12) (b4 : 0 ≤ s4 ∧ s4 ≤ 20) (b5 : 0 ≤ s5 ∧ s5 ≤ 4) (m0 : HP 54 (4096 * s0 + s1) (s3 + 32 * s4 + 1024 * s5) M) (m1 : HP 47 (s0) (262148 : Int) M) (m2 : HP 46 (s0) (s2) M) (f0 : 0 ≤ ((-1) * s3 + 11)) (hG : gI M) : (HP 53 (4096 * s0 + s1) (256 * s2 + 65) M ∧ True) := by
  obtain ⟨s, h1, hw, ha⟩ := Eq.mp hp_54 m0
  obtain ⟨c1, c2, c3⟩ := qW_o (w := s3) (r := s4) (g := s5) hw (by omega) (by omega) (by omega) (by omega)
  exact ⟨Eq.mpr hp_53 (r_exs (P := s0) (l := s1) (K := 4) h1 ⟨by omega, by omega, by omega⟩ (by have := (q47 m1).2; omega) (q46 m2).2 (by decide) (by unfold qfu; exact decide_eq_false (by omega)) (by omega)), trivial⟩
theorem rul_120 : Rul r_120 := by
  refine ⟨fun _ ρ M hm hB hF hG => ?_, fun gi gv hg => (by cases hg)⟩
  have H := cr_120 M (ρ 0) (ρ 1) (ρ 2) (ρ 3) (ρ 4) (ρ 5) (hB _ List.mem_cons_self) (hB _ (List.mem_cons_of_mem _ List.mem_cons_self)) (hB _ (List.mem_cons_of_mem _ (List.mem_cons_of_mem _ List.mem_cons_self))) (hB _ (List.mem_cons_of_mem _ (List.mem_cons_of_mem _ (List.mem_cons_of_mem _ List.mem_cons_self)))) (hB _ (List.mem_cons_of_mem _ (List.mem_cons_of_mem _ (List.mem_cons_of_mem _ (List.mem_cons_of_mem _ List.mem_cons_self))))) (hB _ (List.mem_cons_of_mem _ (List.mem_cons_of_mem _ (List.mem_cons_of_mem _ (List.mem_cons_of_mem _ (List.mem_cons_of_mem _ List.mem_cons_self)))))) (cvp 54 (x' := (4096 * (ρ 0) + (ρ 1))) (y' := ((ρ 3) + 32 * (ρ 4) + 1024 * (ρ 5))) (by show 0 + (4096 * ρ 0 + (1 * ρ 1 + 0)) = _; omega) (by show 0 + (1 * ρ 3 + (32 * ρ 4 + (1024 * ρ 5 + 0))) = _; omega) (hm _ List.mem_cons_self)) (cvp 47 (x' := ((ρ 0))) (y' := (262148 : Int)) (by show 0 + (1 * ρ 0 + 0) = _; omega) (by show 262148 + 0 = _; omega) (hm _ (List.mem_cons_of_mem _ List.mem_cons_self))) (cvp 46 (x' := ((ρ 0))) (y' := ((ρ 2))) (by show 0 + (1 * ρ 0 + 0) = _; omega) (by show 0 + (1 * ρ 2 + 0) = _; omega) (hm _ (List.mem_cons_of_mem _ (List.mem_cons_of_mem _ List.mem_cons_self)))) (by have h := hF _ List.mem_cons_self; have h : 0 ≤ 11 + ((-1) * ρ 3 + 0) := h; omega) hG
  obtain ⟨k0, -⟩ := H
  exact ⟨_, List.mem_cons_self, ρ, fun _ _ => rfl, (okM_c (pvp 53 (by show 0 + (4096 * ρ 0 + (1 * ρ 1 + 0)) = _; omega) (by show 65 + (256 * ρ 2 + 0) = _; omega) k0) okM_n), okB_n, okF_n⟩
-- ful4_0
theorem cr_121 (M : pM) (s0 s1 s2 s3 s4 s5 : Int) (b0 : 0 ≤ s0 ∧ s0 ≤ 1900) (b1 : 0 ≤ s1 ∧ s1 ≤ 950) (b2 : 0 ≤ s2 ∧ s2 ≤ 1900) (b3 : 0 ≤ s3 ∧ s3 ≤ 12) (b4 : 0 ≤ s4 ∧ s4 ≤ 20) (b5 : 0 ≤ s5 ∧ s5 ≤ 4) (m0 : HP 54 (4096 * s0 + s1) (s3 + 32 * s4 + 1024 * s5) M) (m1 : HP 47 (s0) (262148 : Int) M) (m2 : HP 45 (s0) (s2) M) (f0 : 0 ≤ (s3 - 12)) (hG : gI M) : (HP 66 (s2) (2 : Int) M ∧ True) := by
  obtain ⟨s, h1, hw, ha⟩ := Eq.mp hp_54 m0
  obtain ⟨c1, c2, c3⟩ := qW_o (w := s3) (r := s4) (g := s5) hw (by omega) (by omega) (by omega) (by omega)
  exact ⟨Eq.mpr hp_66 (r_ful (P := s0) (l := s1) (K := 4) h1 ⟨by omega, by omega, by omega⟩ (by have := (q47 m1).2; omega) (q45 m2).2 (by decide) (by unfold qfu; exact decide_eq_true (by omega))), trivial⟩
theorem rul_121 : Rul r_121 := by
  refine ⟨fun _ ρ M hm hB hF hG => ?_, fun gi gv hg => (by cases hg)⟩
  have H := cr_121 M (ρ 0) (ρ 1) (ρ 2) (ρ 3) (ρ 4) (ρ 5) (hB _ List.mem_cons_self) (hB _ (List.mem_cons_of_mem _ List.mem_cons_self)) (hB _ (List.mem_cons_of_mem _ (List.mem_cons_of_mem _ List.mem_cons_self))) (hB _ (List.mem_cons_of_mem _ (List.mem_cons_of_mem _ (List.mem_cons_of_mem _ List.mem_cons_self)))) (hB _ (List.mem_cons_of_mem _ (List.mem_cons_of_mem _ (List.mem_cons_of_mem _ (List.mem_cons_of_mem _ List.mem_cons_self))))) (hB _ (List.mem_cons_of_mem _ (List.mem_cons_of_mem _ (List.mem_cons_of_mem _ (List.mem_cons_of_mem _ (List.mem_cons_of_mem _ List.mem_cons_self)))))) (cvp 54 (x' := (4096 * (ρ 0) + (ρ 1))) (y' := ((ρ 3) + 32 * (ρ 4) + 1024 * (ρ 5))) (by show 0 + (4096 * ρ 0 + (1 * ρ 1 + 0)) = _; omega) (by show 0 + (1 * ρ 3 + (32 * ρ 4 + (1024 * ρ 5 + 0))) = _; omega) (hm _ List.mem_cons_self)) (cvp 47 (x' := ((ρ 0))) (y' := (262148 : Int)) (by show 0 + (1 * ρ 0 + 0) = _; omega) (by show 262148 + 0 = _; omega) (hm _ (List.mem_cons_of_mem _ List.mem_cons_self))) (cvp 45 (x' := ((ρ 0))) (y' := ((ρ 2))) (by show 0 + (1 * ρ 0 + 0) = _; omega) (by show 0 + (1 * ρ 2 + 0) = _; omega) (hm _ (List.mem_cons_of_mem _ (List.mem_cons_of_mem _ List.mem_cons_self)))) (by have h := hF _ List.mem_cons_self; have h : 0 ≤ (-12) + (1 * ρ 3 + 0) := h; omega) hG
  obtain ⟨k0, -⟩ := H
  exact ⟨_, List.mem_cons_self, ρ, fun _ _ => rfl, (okM_c (pvp 66 (by show 0 + (1 * ρ 2 + 0) = _; omega) (by show 2 + 0 = _; omega) k0) okM_n), okB_n, okF_n⟩
-- exs9_0
theorem cr_122 (M : pM) (s0 s1 s2 s3 s4 s5 : Int) (b0 : 0 ≤ s0 ∧ s0 ≤ 1900) (b1 : 0 ≤ s1 ∧ s1 ≤ 950) (b2 : 0 ≤ s2 ∧ s2 ≤ 1900) (b3 : 0 ≤ s3 ∧ s3 ≤ 12) (b4 : 0 ≤ s4 ∧ s4 ≤ 20) (b5 : 0 ≤ s5 ∧ s5 ≤ 4) (m0 : HP 54 (4096 * s0 + s1) (s3 + 32 * s4 + 1024 * s5) M) (m1 : HP 47 (s0) (262153 : Int) M) (m2 : HP 46 (s0) (s2) M) (f0 : 0 ≤ ((-1) * s4 + 19)) (hG : gI M) : (HP 53 (4096 * s0 + s1) (256 * s2 + 145) M ∧ True) := by
  obtain ⟨s, h1, hw, ha⟩ := Eq.mp hp_54 m0
  obtain ⟨c1, c2, c3⟩ := qW_o (w := s3) (r := s4) (g := s5) hw (by omega) (by omega) (by omega) (by omega)
  exact ⟨Eq.mpr hp_53 (r_exs (P := s0) (l := s1) (K := 9) h1 ⟨by omega, by omega, by omega⟩ (by have := (q47 m1).2; omega) (q46 m2).2 (by decide) (by unfold qfu; exact decide_eq_false (by omega)) (by omega)), trivial⟩
theorem rul_122 : Rul r_122 := by
  refine ⟨fun _ ρ M hm hB hF hG => ?_, fun gi gv hg => (by cases hg)⟩
  have H := cr_122 M (ρ 0) (ρ 1) (ρ 2) (ρ 3) (ρ 4) (ρ 5) (hB _ List.mem_cons_self) (hB _ (List.mem_cons_of_mem _ List.mem_cons_self)) (hB _ (List.mem_cons_of_mem _ (List.mem_cons_of_mem _ List.mem_cons_self))) (hB _ (List.mem_cons_of_mem _ (List.mem_cons_of_mem _ (List.mem_cons_of_mem _ List.mem_cons_self)))) (hB _ (List.mem_cons_of_mem _ (List.mem_cons_of_mem _ (List.mem_cons_of_mem _ (List.mem_cons_of_mem _ List.mem_cons_self))))) (hB _ (List.mem_cons_of_mem _ (List.mem_cons_of_mem _ (List.mem_cons_of_mem _ (List.mem_cons_of_mem _ (List.mem_cons_of_mem _ List.mem_cons_self)))))) (cvp 54 (x' := (4096 * (ρ 0) + (ρ 1))) (y' := ((ρ 3) + 32 * (ρ 4) + 1024 * (ρ 5))) (by show 0 + (4096 * ρ 0 + (1 * ρ 1 + 0)) = _; omega) (by show 0 + (1 * ρ 3 + (32 * ρ 4 + (1024 * ρ 5 + 0))) = _; omega) (hm _ List.mem_cons_self)) (cvp 47 (x' := ((ρ 0))) (y' := (262153 : Int)) (by show 0 + (1 * ρ 0 + 0) = _; omega) (by show 262153 + 0 = _; omega) (hm _ (List.mem_cons_of_mem _ List.mem_cons_self))) (cvp 46 (x' := ((ρ 0))) (y' := ((ρ 2))) (by show 0 + (1 * ρ 0 + 0) = _; omega) (by show 0 + (1 * ρ 2 + 0) = _; omega) (hm _ (List.mem_cons_of_mem _ (List.mem_cons_of_mem _ List.mem_cons_self)))) (by have h := hF _ List.mem_cons_self; have h : 0 ≤ 19 + ((-1) * ρ 4 + 0) := h; omega) hG
  obtain ⟨k0, -⟩ := H
  exact ⟨_, List.mem_cons_self, ρ, fun _ _ => rfl, (okM_c (pvp 53 (by show 0 + (4096 * ρ 0 + (1 * ρ 1 + 0)) = _; omega) (by show 145 + (256 * ρ 2 + 0) = _; omega) k0) okM_n), okB_n, okF_n⟩
-- ful9_0
theorem cr_123 (M : pM) (s0 s1 s2 s3 s4 s5 : Int) (b0 : 0 ≤ s0 ∧ s0 ≤ 1900) (b1 : 0 ≤ s1 ∧ s1 ≤ 950) (b2 : 0 ≤ s2 ∧ s2 ≤ 1900) (b3 : 0 ≤ s3 ∧ s3 ≤ 12) (b4 : 0 ≤ s4 ∧ s4 ≤ 20) (b5 : 0 ≤ s5 ∧ s5 ≤ 4) (m0 : HP 54 (4096 * s0 + s1) (s3 + 32 * s4 + 1024 * s5) M) (m1 : HP 47 (s0) (262153 : Int) M) (m2 : HP 45 (s0) (s2) M) (f0 : 0 ≤ (s4 - 20)) (hG : gI M) : (HP 66 (s2) (2 : Int) M ∧ True) := by
  obtain ⟨s, h1, hw, ha⟩ := Eq.mp hp_54 m0
  obtain ⟨c1, c2, c3⟩ := qW_o (w := s3) (r := s4) (g := s5) hw (by omega) (by omega) (by omega) (by omega)
  exact ⟨Eq.mpr hp_66 (r_ful (P := s0) (l := s1) (K := 9) h1 ⟨by omega, by omega, by omega⟩ (by have := (q47 m1).2; omega) (q45 m2).2 (by decide) (by unfold qfu; exact decide_eq_true (by omega))), trivial⟩
theorem rul_123 : Rul r_123 := by
  refine ⟨fun _ ρ M hm hB hF hG => ?_, fun gi gv hg => (by cases hg)⟩
  have H := cr_123 M (ρ 0) (ρ 1) (ρ 2) (ρ 3) (ρ 4) (ρ 5) (hB _ List.mem_cons_self) (hB _ (List.mem_cons_of_mem _ List.mem_cons_self)) (hB _ (List.mem_cons_of_mem _ (List.mem_cons_of_mem _ List.mem_cons_self))) (hB _ (List.mem_cons_of_mem _ (List.mem_cons_of_mem _ (List.mem_cons_of_mem _ List.mem_cons_self)))) (hB _ (List.mem_cons_of_mem _ (List.mem_cons_of_mem _ (List.mem_cons_of_mem _ (List.mem_cons_of_mem _ List.mem_cons_self))))) (hB _ (List.mem_cons_of_mem _ (List.mem_cons_of_mem _ (List.mem_cons_of_mem _ (List.mem_cons_of_mem _ (List.mem_cons_of_mem _ List.mem_cons_self)))))) (cvp 54 (x' := (4096 * (ρ 0) + (ρ 1))) (y' := ((ρ 3) + 32 * (ρ 4) + 1024 * (ρ 5))) (by show 0 + (4096 * ρ 0 + (1 * ρ 1 + 0)) = _; omega) (by show 0 + (1 * ρ 3 + (32 * ρ 4 + (1024 * ρ 5 + 0))) = _; omega) (hm _ List.mem_cons_self)) (cvp 47 (x' := ((ρ 0))) (y' := (262153 : Int)) (by show 0 + (1 * ρ 0 + 0) = _; omega) (by show 262153 + 0 = _; omega) (hm _ (List.mem_cons_of_mem _ List.mem_cons_self))) (cvp 45 (x' := ((ρ 0))) (y' := ((ρ 2))) (by show 0 + (1 * ρ 0 + 0) = _; omega) (by show 0 + (1 * ρ 2 + 0) = _; omega) (hm _ (List.mem_cons_of_mem _ (List.mem_cons_of_mem _ List.mem_cons_self)))) (by have h := hF _ List.mem_cons_self; have h : 0 ≤ (-20) + (1 * ρ 4 + 0) := h; omega) hG
  obtain ⟨k0, -⟩ := H
  exact ⟨_, List.mem_cons_self, ρ, fun _ _ => rfl, (okM_c (pvp 66 (by show 0 + (1 * ρ 2 + 0) = _; omega) (by show 2 + 0 = _; omega) k0) okM_n), okB_n, okF_n⟩
-- exs10_0
theorem cr_124 (M : pM) (s0 s1 s2 s3 s4 s5 : Int) (b0 : 0 ≤ s0 ∧ s0 ≤ 1900) (b1 : 0 ≤ s1 ∧ s1 ≤ 950) (b2 : 0 ≤ s2 ∧ s2 ≤ 1900) (b3 : 0 ≤ s3 ∧ s3 ≤ 12) (b4 : 0 ≤ s4 ∧ s4 ≤ 20) (b5 : 0 ≤ s5 ∧ s5 ≤ 4) (m0 : HP 54 (4096 * s0 + s1) (s3 + 32 * s4 + 1024 * s5) M) (m1 : HP 47 (s0) (262154 : Int) M) (m2 : HP 46 (s0) (s2) M) (f0 : 0 ≤ ((-1) * s5 + 3)) (hG : gI M) : (HP 53 (4096 * s0 + s1) (256 * s2 + 161) M ∧ True) := by
  obtain ⟨s, h1, hw, ha⟩ := Eq.mp hp_54 m0
  obtain ⟨c1, c2, c3⟩ := qW_o (w := s3) (r := s4) (g := s5) hw (by omega) (by omega) (by omega) (by omega)
  exact ⟨Eq.mpr hp_53 (r_exs (P := s0) (l := s1) (K := 10) h1 ⟨by omega, by omega, by omega⟩ (by have := (q47 m1).2; omega) (q46 m2).2 (by decide) (by unfold qfu; exact decide_eq_false (by omega)) (by omega)), trivial⟩
theorem rul_124 : Rul r_124 := by
  refine ⟨fun _ ρ M hm hB hF hG => ?_, fun gi gv hg => (by cases hg)⟩
  have H := cr_124 M (ρ 0) (ρ 1) (ρ 2) (ρ 3) (ρ 4) (ρ 5) (hB _ List.mem_cons_self) (hB _ (List.mem_cons_of_mem _ List.mem_cons_self)) (hB _ (List.mem_cons_of_mem _ (List.mem_cons_of_mem _ List.mem_cons_self))) (hB _ (List.mem_cons_of_mem _ (List.mem_cons_of_mem _ (List.mem_cons_of_mem _ List.mem_cons_self)))) (hB _ (List.mem_cons_of_mem _ (List.mem_cons_of_mem _ (List.mem_cons_of_mem _ (List.mem_cons_of_mem _ List.mem_cons_self))))) (hB _ (List.mem_cons_of_mem _ (List.mem_cons_of_mem _ (List.mem_cons_of_mem _ (List.mem_cons_of_mem _ (List.mem_cons_of_mem _ List.mem_cons_self)))))) (cvp 54 (x' := (4096 * (ρ 0) + (ρ 1))) (y' := ((ρ 3) + 32 * (ρ 4) + 1024 * (ρ 5))) (by show 0 + (4096 * ρ 0 + (1 * ρ 1 + 0)) = _; omega) (by show 0 + (1 * ρ 3 + (32 * ρ 4 + (1024 * ρ 5 + 0))) = _; omega) (hm _ List.mem_cons_self)) (cvp 47 (x' := ((ρ 0))) (y' := (262154 : Int)) (by show 0 + (1 * ρ 0 + 0) = _; omega) (by show 262154 + 0 = _; omega) (hm _ (List.mem_cons_of_mem _ List.mem_cons_self))) (cvp 46 (x' := ((ρ 0))) (y' := ((ρ 2))) (by show 0 + (1 * ρ 0 + 0) = _; omega) (by show 0 + (1 * ρ 2 + 0) = _; omega) (hm _ (List.mem_cons_of_mem _ (List.mem_cons_of_mem _ List.mem_cons_self)))) (by have h := hF _ List.mem_cons_self; have h : 0 ≤ 3 + ((-1) * ρ 5 + 0) := h; omega) hG
  obtain ⟨k0, -⟩ := H
  exact ⟨_, List.mem_cons_self, ρ, fun _ _ => rfl, (okM_c (pvp 53 (by show 0 + (4096 * ρ 0 + (1 * ρ 1 + 0)) = _; omega) (by show 161 + (256 * ρ 2 + 0) = _; omega) k0) okM_n), okB_n, okF_n⟩
-- ful10_0
theorem cr_125 (M : pM) (s0 s1 s2 s3 s4 s5 : Int) (b0 : 0 ≤ s0 ∧ s0 ≤ 1900) (b1 : 0 ≤ s1 ∧ s1 ≤ 950) (b2 : 0 ≤ s2 ∧ s2 ≤ 1900) (b3 : 0 ≤ s3 ∧ s3 ≤ 12) (b4 : 0 ≤ s4 ∧ s4 ≤ 20) (b5 : 0 ≤ s5 ∧ s5 ≤ 4) (m0 : HP 54 (4096 * s0 + s1) (s3 + 32 * s4 + 1024 * s5) M) (m1 : HP 47 (s0) (262154 : Int) M) (m2 : HP 45 (s0) (s2) M) (f0 : 0 ≤ (s5 - 4)) (hG : gI M) : (HP 66 (s2) (2 : Int) M ∧ True) := by
  obtain ⟨s, h1, hw, ha⟩ := Eq.mp hp_54 m0
  obtain ⟨c1, c2, c3⟩ := qW_o (w := s3) (r := s4) (g := s5) hw (by omega) (by omega) (by omega) (by omega)
  exact ⟨Eq.mpr hp_66 (r_ful (P := s0) (l := s1) (K := 10) h1 ⟨by omega, by omega, by omega⟩ (by have := (q47 m1).2; omega) (q45 m2).2 (by decide) (by unfold qfu; exact decide_eq_true (by omega))), trivial⟩
theorem rul_125 : Rul r_125 := by
  refine ⟨fun _ ρ M hm hB hF hG => ?_, fun gi gv hg => (by cases hg)⟩
  have H := cr_125 M (ρ 0) (ρ 1) (ρ 2) (ρ 3) (ρ 4) (ρ 5) (hB _ List.mem_cons_self) (hB _ (List.mem_cons_of_mem _ List.mem_cons_self)) (hB _ (List.mem_cons_of_mem _ (List.mem_cons_of_mem _ List.mem_cons_self))) (hB _ (List.mem_cons_of_mem _ (List.mem_cons_of_mem _ (List.mem_cons_of_mem _ List.mem_cons_self)))) (hB _ (List.mem_cons_of_mem _ (List.mem_cons_of_mem _ (List.mem_cons_of_mem _ (List.mem_cons_of_mem _ List.mem_cons_self))))) (hB _ (List.mem_cons_of_mem _ (List.mem_cons_of_mem _ (List.mem_cons_of_mem _ (List.mem_cons_of_mem _ (List.mem_cons_of_mem _ List.mem_cons_self)))))) (cvp 54 (x' := (4096 * (ρ 0) + (ρ 1))) (y' := ((ρ 3) + 32 * (ρ 4) + 1024 * (ρ 5))) (by show 0 + (4096 * ρ 0 + (1 * ρ 1 + 0)) = _; omega) (by show 0 + (1 * ρ 3 + (32 * ρ 4 + (1024 * ρ 5 + 0))) = _; omega) (hm _ List.mem_cons_self)) (cvp 47 (x' := ((ρ 0))) (y' := (262154 : Int)) (by show 0 + (1 * ρ 0 + 0) = _; omega) (by show 262154 + 0 = _; omega) (hm _ (List.mem_cons_of_mem _ List.mem_cons_self))) (cvp 45 (x' := ((ρ 0))) (y' := ((ρ 2))) (by show 0 + (1 * ρ 0 + 0) = _; omega) (by show 0 + (1 * ρ 2 + 0) = _; omega) (hm _ (List.mem_cons_of_mem _ (List.mem_cons_of_mem _ List.mem_cons_self)))) (by have h := hF _ List.mem_cons_self; have h : 0 ≤ (-4) + (1 * ρ 5 + 0) := h; omega) hG
  obtain ⟨k0, -⟩ := H
  exact ⟨_, List.mem_cons_self, ρ, fun _ _ => rfl, (okM_c (pvp 66 (by show 0 + (1 * ρ 2 + 0) = _; omega) (by show 2 + 0 = _; omega) k0) okM_n), okB_n, okF_n⟩
-- exs4_1
theorem cr_126 (M : pM) (s0 s1 s2 s3 s4 s5 : Int) (b0 : 0 ≤ s0 ∧ s0 ≤ 1900) (b1 : 0 ≤ s1 ∧ s1 ≤ 950) (b2 : 0 ≤ s2 ∧ s2 ≤ 1900) (b3 : 0 ≤ s3 ∧ s3 ≤ 12) (b4 : 0 ≤ s4 ∧ s4 ≤ 20) (b5 : 0 ≤ s5 ∧ s5 ≤ 4) (m0 : HP 55 (4096 * s0 + s1) (s3 + 32 * s4 + 1024 * s5) M) (m1 : HP 47 (s0) (262148 : Int) M) (m2 : HP 46 (s0) (s2) M) (f0 : 0 ≤ ((-1) * s3 + 11)) (hG : gI M) : (HP 53 (4096 * s0 + s1) (256 * s2 + 65) M ∧ True) := by
  obtain ⟨s, h1, hw, ha⟩ := Eq.mp hp_55 m0
  obtain ⟨c1, c2, c3⟩ := qW_o (w := s3) (r := s4) (g := s5) hw (by omega) (by omega) (by omega) (by omega)
  exact ⟨Eq.mpr hp_53 (r_exs (P := s0) (l := s1) (K := 4) h1 ⟨by omega, by omega, by omega⟩ (by have := (q47 m1).2; omega) (q46 m2).2 (by decide) (by unfold qfu; exact decide_eq_false (by omega)) (by omega)), trivial⟩
theorem rul_126 : Rul r_126 := by
  refine ⟨fun _ ρ M hm hB hF hG => ?_, fun gi gv hg => (by cases hg)⟩
  have H := cr_126 M (ρ 0) (ρ 1) (ρ 2) (ρ 3) (ρ 4) (ρ 5) (hB _ List.mem_cons_self) (hB _ (List.mem_cons_of_mem _ List.mem_cons_self)) (hB _ (List.mem_cons_of_mem _ (List.mem_cons_of_mem _ List.mem_cons_self))) (hB _ (List.mem_cons_of_mem _ (List.mem_cons_of_mem _ (List.mem_cons_of_mem _ List.mem_cons_self)))) (hB _ (List.mem_cons_of_mem _ (List.mem_cons_of_mem _ (List.mem_cons_of_mem _ (List.mem_cons_of_mem _ List.mem_cons_self))))) (hB _ (List.mem_cons_of_mem _ (List.mem_cons_of_mem _ (List.mem_cons_of_mem _ (List.mem_cons_of_mem _ (List.mem_cons_of_mem _ List.mem_cons_self)))))) (cvp 55 (x' := (4096 * (ρ 0) + (ρ 1))) (y' := ((ρ 3) + 32 * (ρ 4) + 1024 * (ρ 5))) (by show 0 + (4096 * ρ 0 + (1 * ρ 1 + 0)) = _; omega) (by show 0 + (1 * ρ 3 + (32 * ρ 4 + (1024 * ρ 5 + 0))) = _; omega) (hm _ List.mem_cons_self)) (cvp 47 (x' := ((ρ 0))) (y' := (262148 : Int)) (by show 0 + (1 * ρ 0 + 0) = _; omega) (by show 262148 + 0 = _; omega) (hm _ (List.mem_cons_of_mem _ List.mem_cons_self))) (cvp 46 (x' := ((ρ 0))) (y' := ((ρ 2))) (by show 0 + (1 * ρ 0 + 0) = _; omega) (by show 0 + (1 * ρ 2 + 0) = _; omega) (hm _ (List.mem_cons_of_mem _ (List.mem_cons_of_mem _ List.mem_cons_self)))) (by have h := hF _ List.mem_cons_self; have h : 0 ≤ 11 + ((-1) * ρ 3 + 0) := h; omega) hG
  obtain ⟨k0, -⟩ := H
  exact ⟨_, List.mem_cons_self, ρ, fun _ _ => rfl, (okM_c (pvp 53 (by show 0 + (4096 * ρ 0 + (1 * ρ 1 + 0)) = _; omega) (by show 65 + (256 * ρ 2 + 0) = _; omega) k0) okM_n), okB_n, okF_n⟩
-- ful4_1
theorem cr_127 (M : pM) (s0 s1 s2 s3 s4 s5 : Int) (b0 : 0 ≤ s0 ∧ s0 ≤ 1900) (b1 : 0 ≤ s1 ∧ s1 ≤ 950) (b2 : 0 ≤ s2 ∧ s2 ≤ 1900) (b3 : 0 ≤ s3 ∧ s3 ≤ 12) (b4 : 0 ≤ s4 ∧ s4 ≤ 20) (b5 : 0 ≤ s5 ∧ s5 ≤ 4) (m0 : HP 55 (4096 * s0 + s1) (s3 + 32 * s4 + 1024 * s5) M) (m1 : HP 47 (s0) (262148 : Int) M) (m2 : HP 45 (s0) (s2) M) (f0 : 0 ≤ (s3 - 12)) (hG : gI M) : (HP 66 (s2) (2 : Int) M ∧ True) := by
  obtain ⟨s, h1, hw, ha⟩ := Eq.mp hp_55 m0
  obtain ⟨c1, c2, c3⟩ := qW_o (w := s3) (r := s4) (g := s5) hw (by omega) (by omega) (by omega) (by omega)
  exact ⟨Eq.mpr hp_66 (r_ful (P := s0) (l := s1) (K := 4) h1 ⟨by omega, by omega, by omega⟩ (by have := (q47 m1).2; omega) (q45 m2).2 (by decide) (by unfold qfu; exact decide_eq_true (by omega))), trivial⟩
theorem rul_127 : Rul r_127 := by
  refine ⟨fun _ ρ M hm hB hF hG => ?_, fun gi gv hg => (by cases hg)⟩
  have H := cr_127 M (ρ 0) (ρ 1) (ρ 2) (ρ 3) (ρ 4) (ρ 5) (hB _ List.mem_cons_self) (hB _ (List.mem_cons_of_mem _ List.mem_cons_self)) (hB _ (List.mem_cons_of_mem _ (List.mem_cons_of_mem _ List.mem_cons_self))) (hB _ (List.mem_cons_of_mem _ (List.mem_cons_of_mem _ (List.mem_cons_of_mem _ List.mem_cons_self)))) (hB _ (List.mem_cons_of_mem _ (List.mem_cons_of_mem _ (List.mem_cons_of_mem _ (List.mem_cons_of_mem _ List.mem_cons_self))))) (hB _ (List.mem_cons_of_mem _ (List.mem_cons_of_mem _ (List.mem_cons_of_mem _ (List.mem_cons_of_mem _ (List.mem_cons_of_mem _ List.mem_cons_self)))))) (cvp 55 (x' := (4096 * (ρ 0) + (ρ 1))) (y' := ((ρ 3) + 32 * (ρ 4) + 1024 * (ρ 5))) (by show 0 + (4096 * ρ 0 + (1 * ρ 1 + 0)) = _; omega) (by show 0 + (1 * ρ 3 + (32 * ρ 4 + (1024 * ρ 5 + 0))) = _; omega) (hm _ List.mem_cons_self)) (cvp 47 (x' := ((ρ 0))) (y' := (262148 : Int)) (by show 0 + (1 * ρ 0 + 0) = _; omega) (by show 262148 + 0 = _; omega) (hm _ (List.mem_cons_of_mem _ List.mem_cons_self))) (cvp 45 (x' := ((ρ 0))) (y' := ((ρ 2))) (by show 0 + (1 * ρ 0 + 0) = _; omega) (by show 0 + (1 * ρ 2 + 0) = _; omega) (hm _ (List.mem_cons_of_mem _ (List.mem_cons_of_mem _ List.mem_cons_self)))) (by have h := hF _ List.mem_cons_self; have h : 0 ≤ (-12) + (1 * ρ 3 + 0) := h; omega) hG
  obtain ⟨k0, -⟩ := H
  exact ⟨_, List.mem_cons_self, ρ, fun _ _ => rfl, (okM_c (pvp 66 (by show 0 + (1 * ρ 2 + 0) = _; omega) (by show 2 + 0 = _; omega) k0) okM_n), okB_n, okF_n⟩
-- exs9_1
theorem cr_128 (M : pM) (s0 s1 s2 s3 s4 s5 : Int) (b0 : 0 ≤ s0 ∧ s0 ≤ 1900) (b1 : 0 ≤ s1 ∧ s1 ≤ 950) (b2 : 0 ≤ s2 ∧ s2 ≤ 1900) (b3 : 0 ≤ s3 ∧ s3 ≤ 12) (b4 : 0 ≤ s4 ∧ s4 ≤ 20) (b5 : 0 ≤ s5 ∧ s5 ≤ 4) (m0 : HP 55 (4096 * s0 + s1) (s3 + 32 * s4 + 1024 * s5) M) (m1 : HP 47 (s0) (262153 : Int) M) (m2 : HP 46 (s0) (s2) M) (f0 : 0 ≤ ((-1) * s4 + 19)) (hG : gI M) : (HP 53 (4096 * s0 + s1) (256 * s2 + 145) M ∧ True) := by
  obtain ⟨s, h1, hw, ha⟩ := Eq.mp hp_55 m0
  obtain ⟨c1, c2, c3⟩ := qW_o (w := s3) (r := s4) (g := s5) hw (by omega) (by omega) (by omega) (by omega)
  exact ⟨Eq.mpr hp_53 (r_exs (P := s0) (l := s1) (K := 9) h1 ⟨by omega, by omega, by omega⟩ (by have := (q47 m1).2; omega) (q46 m2).2 (by decide) (by unfold qfu; exact decide_eq_false (by omega)) (by omega)), trivial⟩
theorem rul_128 : Rul r_128 := by
  refine ⟨fun _ ρ M hm hB hF hG => ?_, fun gi gv hg => (by cases hg)⟩
  have H := cr_128 M (ρ 0) (ρ 1) (ρ 2) (ρ 3) (ρ 4) (ρ 5) (hB _ List.mem_cons_self) (hB _ (List.mem_cons_of_mem _ List.mem_cons_self)) (hB _ (List.mem_cons_of_mem _ (List.mem_cons_of_mem _ List.mem_cons_self))) (hB _ (List.mem_cons_of_mem _ (List.mem_cons_of_mem _ (List.mem_cons_of_mem _ List.mem_cons_self)))) (hB _ (List.mem_cons_of_mem _ (List.mem_cons_of_mem _ (List.mem_cons_of_mem _ (List.mem_cons_of_mem _ List.mem_cons_self))))) (hB _ (List.mem_cons_of_mem _ (List.mem_cons_of_mem _ (List.mem_cons_of_mem _ (List.mem_cons_of_mem _ (List.mem_cons_of_mem _ List.mem_cons_self)))))) (cvp 55 (x' := (4096 * (ρ 0) + (ρ 1))) (y' := ((ρ 3) + 32 * (ρ 4) + 1024 * (ρ 5))) (by show 0 + (4096 * ρ 0 + (1 * ρ 1 + 0)) = _; omega) (by show 0 + (1 * ρ 3 + (32 * ρ 4 + (1024 * ρ 5 + 0))) = _; omega) (hm _ List.mem_cons_self)) (cvp 47 (x' := ((ρ 0))) (y' := (262153 : Int)) (by show 0 + (1 * ρ 0 + 0) = _; omega) (by show 262153 + 0 = _; omega) (hm _ (List.mem_cons_of_mem _ List.mem_cons_self))) (cvp 46 (x' := ((ρ 0))) (y' := ((ρ 2))) (by show 0 + (1 * ρ 0 + 0) = _; omega) (by show 0 + (1 * ρ 2 + 0) = _; omega) (hm _ (List.mem_cons_of_mem _ (List.mem_cons_of_mem _ List.mem_cons_self)))) (by have h := hF _ List.mem_cons_self; have h : 0 ≤ 19 + ((-1) * ρ 4 + 0) := h; omega) hG
  obtain ⟨k0, -⟩ := H
  exact ⟨_, List.mem_cons_self, ρ, fun _ _ => rfl, (okM_c (pvp 53 (by show 0 + (4096 * ρ 0 + (1 * ρ 1 + 0)) = _; omega) (by show 145 + (256 * ρ 2 + 0) = _; omega) k0) okM_n), okB_n, okF_n⟩
-- ful9_1
theorem cr_129 (M : pM) (s0 s1 s2 s3 s4 s5 : Int) (b0 : 0 ≤ s0 ∧ s0 ≤ 1900) (b1 : 0 ≤ s1 ∧ s1 ≤ 950) (b2 : 0 ≤ s2 ∧ s2 ≤ 1900) (b3 : 0 ≤ s3 ∧ s3 ≤ 12) (b4 : 0 ≤ s4 ∧ s4 ≤ 20) (b5 : 0 ≤ s5 ∧ s5 ≤ 4) (m0 : HP 55 (4096 * s0 + s1) (s3 + 32 * s4 + 1024 * s5) M) (m1 : HP 47 (s0) (262153 : Int) M) (m2 : HP 45 (s0) (s2) M) (f0 : 0 ≤ (s4 - 20)) (hG : gI M) : (HP 66 (s2) (2 : Int) M ∧ True) := by
  obtain ⟨s, h1, hw, ha⟩ := Eq.mp hp_55 m0
  obtain ⟨c1, c2, c3⟩ := qW_o (w := s3) (r := s4) (g := s5) hw (by omega) (by omega) (by omega) (by omega)
  exact ⟨Eq.mpr hp_66 (r_ful (P := s0) (l := s1) (K := 9) h1 ⟨by omega, by omega, by omega⟩ (by have := (q47 m1).2; omega) (q45 m2).2 (by decide) (by unfold qfu; exact decide_eq_true (by omega))), trivial⟩
theorem rul_129 : Rul r_129 := by
  refine ⟨fun _ ρ M hm hB hF hG => ?_, fun gi gv hg => (by cases hg)⟩
  have H := cr_129 M (ρ 0) (ρ 1) (ρ 2) (ρ 3) (ρ 4) (ρ 5) (hB _ List.mem_cons_self) (hB _ (List.mem_cons_of_mem _ List.mem_cons_self)) (hB _ (List.mem_cons_of_mem _ (List.mem_cons_of_mem _ List.mem_cons_self))) (hB _ (List.mem_cons_of_mem _ (List.mem_cons_of_mem _ (List.mem_cons_of_mem _ List.mem_cons_self)))) (hB _ (List.mem_cons_of_mem _ (List.mem_cons_of_mem _ (List.mem_cons_of_mem _ (List.mem_cons_of_mem _ List.mem_cons_self))))) (hB _ (List.mem_cons_of_mem _ (List.mem_cons_of_mem _ (List.mem_cons_of_mem _ (List.mem_cons_of_mem _ (List.mem_cons_of_mem _ List.mem_cons_self)))))) (cvp 55 (x' := (4096 * (ρ 0) + (ρ 1))) (y' := ((ρ 3) + 32 * (ρ 4) + 1024 * (ρ 5))) (by show 0 + (4096 * ρ 0 + (1 * ρ 1 + 0)) = _; omega) (by show 0 + (1 * ρ 3 + (32 * ρ 4 + (1024 * ρ 5 + 0))) = _; omega) (hm _ List.mem_cons_self)) (cvp 47 (x' := ((ρ 0))) (y' := (262153 : Int)) (by show 0 + (1 * ρ 0 + 0) = _; omega) (by show 262153 + 0 = _; omega) (hm _ (List.mem_cons_of_mem _ List.mem_cons_self))) (cvp 45 (x' := ((ρ 0))) (y' := ((ρ 2))) (by show 0 + (1 * ρ 0 + 0) = _; omega) (by show 0 + (1 * ρ 2 + 0) = _; omega) (hm _ (List.mem_cons_of_mem _ (List.mem_cons_of_mem _ List.mem_cons_self)))) (by have h := hF _ List.mem_cons_self; have h : 0 ≤ (-20) + (1 * ρ 4 + 0) := h; omega) hG
  obtain ⟨k0, -⟩ := H
  exact ⟨_, List.mem_cons_self, ρ, fun _ _ => rfl, (okM_c (pvp 66 (by show 0 + (1 * ρ 2 + 0) = _; omega) (by show 2 + 0 = _; omega) k0) okM_n), okB_n, okF_n⟩
-- exs10_1
theorem cr_130 (M : pM) (s0 s1 s2 s3 s4 s5 : Int) (b0 : 0 ≤ s0 ∧ s0 ≤ 1900) (b1 : 0 ≤ s1 ∧ s1 ≤ 950) (b2 : 0 ≤ s2 ∧ s2 ≤ 1900) (b3 : 0 ≤ s3 ∧ s3 ≤ 12) (b4 : 0 ≤ s4 ∧ s4 ≤ 20) (b5 : 0 ≤ s5 ∧ s5 ≤ 4) (m0 : HP 55 (4096 * s0 + s1) (s3 + 32 * s4 + 1024 * s5) M) (m1 : HP 47 (s0) (262154 : Int) M) (m2 : HP 46 (s0) (s2) M) (f0 : 0 ≤ ((-1) * s5 + 3)) (hG : gI M) : (HP 53 (4096 * s0 + s1) (256 * s2 + 161) M ∧ True) := by
  obtain ⟨s, h1, hw, ha⟩ := Eq.mp hp_55 m0
  obtain ⟨c1, c2, c3⟩ := qW_o (w := s3) (r := s4) (g := s5) hw (by omega) (by omega) (by omega) (by omega)
  exact ⟨Eq.mpr hp_53 (r_exs (P := s0) (l := s1) (K := 10) h1 ⟨by omega, by omega, by omega⟩ (by have := (q47 m1).2; omega) (q46 m2).2 (by decide) (by unfold qfu; exact decide_eq_false (by omega)) (by omega)), trivial⟩
theorem rul_130 : Rul r_130 := by
  refine ⟨fun _ ρ M hm hB hF hG => ?_, fun gi gv hg => (by cases hg)⟩
  have H := cr_130 M (ρ 0) (ρ 1) (ρ 2) (ρ 3) (ρ 4) (ρ 5) (hB _ List.mem_cons_self) (hB _ (List.mem_cons_of_mem _ List.mem_cons_self)) (hB _ (List.mem_cons_of_mem _ (List.mem_cons_of_mem _ List.mem_cons_self))) (hB _ (List.mem_cons_of_mem _ (List.mem_cons_of_mem _ (List.mem_cons_of_mem _ List.mem_cons_self)))) (hB _ (List.mem_cons_of_mem _ (List.mem_cons_of_mem _ (List.mem_cons_of_mem _ (List.mem_cons_of_mem _ List.mem_cons_self))))) (hB _ (List.mem_cons_of_mem _ (List.mem_cons_of_mem _ (List.mem_cons_of_mem _ (List.mem_cons_of_mem _ (List.mem_cons_of_mem _ List.mem_cons_self)))))) (cvp 55 (x' := (4096 * (ρ 0) + (ρ 1))) (y' := ((ρ 3) + 32 * (ρ 4) + 1024 * (ρ 5))) (by show 0 + (4096 * ρ 0 + (1 * ρ 1 + 0)) = _; omega) (by show 0 + (1 * ρ 3 + (32 * ρ 4 + (1024 * ρ 5 + 0))) = _; omega) (hm _ List.mem_cons_self)) (cvp 47 (x' := ((ρ 0))) (y' := (262154 : Int)) (by show 0 + (1 * ρ 0 + 0) = _; omega) (by show 262154 + 0 = _; omega) (hm _ (List.mem_cons_of_mem _ List.mem_cons_self))) (cvp 46 (x' := ((ρ 0))) (y' := ((ρ 2))) (by show 0 + (1 * ρ 0 + 0) = _; omega) (by show 0 + (1 * ρ 2 + 0) = _; omega) (hm _ (List.mem_cons_of_mem _ (List.mem_cons_of_mem _ List.mem_cons_self)))) (by have h := hF _ List.mem_cons_self; have h : 0 ≤ 3 + ((-1) * ρ 5 + 0) := h; omega) hG
  obtain ⟨k0, -⟩ := H
  exact ⟨_, List.mem_cons_self, ρ, fun _ _ => rfl, (okM_c (pvp 53 (by show 0 + (4096 * ρ 0 + (1 * ρ 1 + 0)) = _; omega) (by show 161 + (256 * ρ 2 + 0) = _; omega) k0) okM_n), okB_n, okF_n⟩
-- ful10_1
theorem cr_131 (M : pM) (s0 s1 s2 s3 s4 s5 : Int) (b0 : 0 ≤ s0 ∧ s0 ≤ 1900) (b1 : 0 ≤ s1 ∧ s1 ≤ 950) (b2 : 0 ≤ s2 ∧ s2 ≤ 1900) (b3 : 0 ≤ s3 ∧ s3 ≤ 12) (b4 : 0 ≤ s4 ∧ s4 ≤ 20) (b5 : 0 ≤ s5 ∧ s5 ≤ 4) (m0 : HP 55 (4096 * s0 + s1) (s3 + 32 * s4 + 1024 * s5) M) (m1 : HP 47 (s0) (262154 : Int) M) (m2 : HP 45 (s0) (s2) M) (f0 : 0 ≤ (s5 - 4)) (hG : gI M) : (HP 66 (s2) (2 : Int) M ∧ True) := by
  obtain ⟨s, h1, hw, ha⟩ := Eq.mp hp_55 m0
  obtain ⟨c1, c2, c3⟩ := qW_o (w := s3) (r := s4) (g := s5) hw (by omega) (by omega) (by omega) (by omega)
  exact ⟨Eq.mpr hp_66 (r_ful (P := s0) (l := s1) (K := 10) h1 ⟨by omega, by omega, by omega⟩ (by have := (q47 m1).2; omega) (q45 m2).2 (by decide) (by unfold qfu; exact decide_eq_true (by omega))), trivial⟩
theorem rul_131 : Rul r_131 := by
  refine ⟨fun _ ρ M hm hB hF hG => ?_, fun gi gv hg => (by cases hg)⟩
  have H := cr_131 M (ρ 0) (ρ 1) (ρ 2) (ρ 3) (ρ 4) (ρ 5) (hB _ List.mem_cons_self) (hB _ (List.mem_cons_of_mem _ List.mem_cons_self)) (hB _ (List.mem_cons_of_mem _ (List.mem_cons_of_mem _ List.mem_cons_self))) (hB _ (List.mem_cons_of_mem _ (List.mem_cons_of_mem _ (List.mem_cons_of_mem _ List.mem_cons_self)))) (hB _ (List.mem_cons_of_mem _ (List.mem_cons_of_mem _ (List.mem_cons_of_mem _ (List.mem_cons_of_mem _ List.mem_cons_self))))) (hB _ (List.mem_cons_of_mem _ (List.mem_cons_of_mem _ (List.mem_cons_of_mem _ (List.mem_cons_of_mem _ (List.mem_cons_of_mem _ List.mem_cons_self)))))) (cvp 55 (x' := (4096 * (ρ 0) + (ρ 1))) (y' := ((ρ 3) + 32 * (ρ 4) + 1024 * (ρ 5))) (by show 0 + (4096 * ρ 0 + (1 * ρ 1 + 0)) = _; omega) (by show 0 + (1 * ρ 3 + (32 * ρ 4 + (1024 * ρ 5 + 0))) = _; omega) (hm _ List.mem_cons_self)) (cvp 47 (x' := ((ρ 0))) (y' := (262154 : Int)) (by show 0 + (1 * ρ 0 + 0) = _; omega) (by show 262154 + 0 = _; omega) (hm _ (List.mem_cons_of_mem _ List.mem_cons_self))) (cvp 45 (x' := ((ρ 0))) (y' := ((ρ 2))) (by show 0 + (1 * ρ 0 + 0) = _; omega) (by show 0 + (1 * ρ 2 + 0) = _; omega) (hm _ (List.mem_cons_of_mem _ (List.mem_cons_of_mem _ List.mem_cons_self)))) (by have h := hF _ List.mem_cons_self; have h : 0 ≤ (-4) + (1 * ρ 5 + 0) := h; omega) hG
  obtain ⟨k0, -⟩ := H
  exact ⟨_, List.mem_cons_self, ρ, fun _ _ => rfl, (okM_c (pvp 66 (by show 0 + (1 * ρ 2 + 0) = _; omega) (by show 2 + 0 = _; omega) k0) okM_n), okB_n, okF_n⟩
-- ftk0
theorem cr_132 (M : pM) (s0 s1 s2 s3 s4 : Int) (b0 : 0 ≤ s0 ∧ s0 ≤ 1900) (b1 : 0 ≤ s1 ∧ s1 ≤ 950) (b2 : 0 ≤ s2 ∧ s2 ≤ 1900) (b3 : (-2147483648) ≤ s3 ∧ s3 ≤ 2147483647) (b4 : (-1) ≤ s4 ∧ s4 ≤ 600000) (m0 : HP 71 (4096 * s0 + s1) (s3) M) (m1 : HP 47 (s0) (s4) M) (m2 : HP 45 (s0) (s2) M) (f0 : 0 ≤ ((-1) * s4 + 255)) (hG : gI M) : (HP 66 (s2) (1 : Int) M ∧ True) := by
  obtain ⟨s, h1, hm⟩ := Eq.mp hp_71 m0
  exact ⟨Eq.mpr hp_66 (r_ftk (P := s0) (l := s1) h1 ⟨by omega, by omega, by omega⟩ (q47 m1).2 (q45 m2).2 (by omega) (by rw [if_pos (by omega)])), trivial⟩
theorem rul_132 : Rul r_132 := by
  refine ⟨fun _ ρ M hm hB hF hG => ?_, fun gi gv hg => (by cases hg)⟩
  have H := cr_132 M (ρ 0) (ρ 1) (ρ 2) (ρ 3) (ρ 4) (hB _ List.mem_cons_self) (hB _ (List.mem_cons_of_mem _ List.mem_cons_self)) (hB _ (List.mem_cons_of_mem _ (List.mem_cons_of_mem _ List.mem_cons_self))) (hB _ (List.mem_cons_of_mem _ (List.mem_cons_of_mem _ (List.mem_cons_of_mem _ List.mem_cons_self)))) (hB _ (List.mem_cons_of_mem _ (List.mem_cons_of_mem _ (List.mem_cons_of_mem _ (List.mem_cons_of_mem _ List.mem_cons_self))))) (cvp 71 (x' := (4096 * (ρ 0) + (ρ 1))) (y' := ((ρ 3))) (by show 0 + (4096 * ρ 0 + (1 * ρ 1 + 0)) = _; omega) (by show 0 + (1 * ρ 3 + 0) = _; omega) (hm _ List.mem_cons_self)) (cvp 47 (x' := ((ρ 0))) (y' := ((ρ 4))) (by show 0 + (1 * ρ 0 + 0) = _; omega) (by show 0 + (1 * ρ 4 + 0) = _; omega) (hm _ (List.mem_cons_of_mem _ List.mem_cons_self))) (cvp 45 (x' := ((ρ 0))) (y' := ((ρ 2))) (by show 0 + (1 * ρ 0 + 0) = _; omega) (by show 0 + (1 * ρ 2 + 0) = _; omega) (hm _ (List.mem_cons_of_mem _ (List.mem_cons_of_mem _ List.mem_cons_self)))) (by have h := hF _ List.mem_cons_self; have h : 0 ≤ 255 + ((-1) * ρ 4 + 0) := h; omega) hG
  obtain ⟨k0, -⟩ := H
  exact ⟨_, List.mem_cons_self, ρ, fun _ _ => rfl, (okM_c (pvp 66 (by show 0 + (1 * ρ 2 + 0) = _; omega) (by show 1 + 0 = _; omega) k0) okM_n), okB_n, okF_n⟩
-- ftk1
theorem cr_133 (M : pM) (s0 s1 s2 s3 s4 : Int) (b0 : 0 ≤ s0 ∧ s0 ≤ 1900) (b1 : 0 ≤ s1 ∧ s1 ≤ 950) (b2 : 0 ≤ s2 ∧ s2 ≤ 1900) (b3 : (-2147483648) ≤ s3 ∧ s3 ≤ 2147483647) (b4 : (-1) ≤ s4 ∧ s4 ≤ 600000) (m0 : HP 71 (4096 * s0 + s1) (s3) M) (m1 : HP 47 (s0) (s4) M) (m2 : HP 45 (s0) (s2) M) (f0 : 0 ≤ (s4 - 131072)) (f1 : 0 ≤ ((-1) * s4 + 262143)) (hG : gI M) : (HP 66 (s2) (2 : Int) M ∧ True) := by
  obtain ⟨s, h1, hm⟩ := Eq.mp hp_71 m0
  exact ⟨Eq.mpr hp_66 (r_ftk (P := s0) (l := s1) h1 ⟨by omega, by omega, by omega⟩ (q47 m1).2 (q45 m2).2 (by omega) (by rw [if_neg (by omega)])), trivial⟩
theorem rul_133 : Rul r_133 := by
  refine ⟨fun _ ρ M hm hB hF hG => ?_, fun gi gv hg => (by cases hg)⟩
  have H := cr_133 M (ρ 0) (ρ 1) (ρ 2) (ρ 3) (ρ 4) (hB _ List.mem_cons_self) (hB _ (List.mem_cons_of_mem _ List.mem_cons_self)) (hB _ (List.mem_cons_of_mem _ (List.mem_cons_of_mem _ List.mem_cons_self))) (hB _ (List.mem_cons_of_mem _ (List.mem_cons_of_mem _ (List.mem_cons_of_mem _ List.mem_cons_self)))) (hB _ (List.mem_cons_of_mem _ (List.mem_cons_of_mem _ (List.mem_cons_of_mem _ (List.mem_cons_of_mem _ List.mem_cons_self))))) (cvp 71 (x' := (4096 * (ρ 0) + (ρ 1))) (y' := ((ρ 3))) (by show 0 + (4096 * ρ 0 + (1 * ρ 1 + 0)) = _; omega) (by show 0 + (1 * ρ 3 + 0) = _; omega) (hm _ List.mem_cons_self)) (cvp 47 (x' := ((ρ 0))) (y' := ((ρ 4))) (by show 0 + (1 * ρ 0 + 0) = _; omega) (by show 0 + (1 * ρ 4 + 0) = _; omega) (hm _ (List.mem_cons_of_mem _ List.mem_cons_self))) (cvp 45 (x' := ((ρ 0))) (y' := ((ρ 2))) (by show 0 + (1 * ρ 0 + 0) = _; omega) (by show 0 + (1 * ρ 2 + 0) = _; omega) (hm _ (List.mem_cons_of_mem _ (List.mem_cons_of_mem _ List.mem_cons_self)))) (by have h := hF _ List.mem_cons_self; have h : 0 ≤ (-131072) + (1 * ρ 4 + 0) := h; omega) (by have h := hF _ (List.mem_cons_of_mem _ List.mem_cons_self); have h : 0 ≤ 262143 + ((-1) * ρ 4 + 0) := h; omega) hG
  obtain ⟨k0, -⟩ := H
  exact ⟨_, List.mem_cons_self, ρ, fun _ _ => rfl, (okM_c (pvp 66 (by show 0 + (1 * ρ 2 + 0) = _; omega) (by show 2 + 0 = _; omega) k0) okM_n), okB_n, okF_n⟩
-- ftk2
theorem cr_134 (M : pM) (s0 s1 s2 s3 s4 : Int) (b0 : 0 ≤ s0 ∧ s0 ≤ 1900) (b1 : 0 ≤ s1 ∧ s1 ≤ 950) (b2 : 0 ≤ s2 ∧ s2 ≤ 1900) (b3 : (-2147483648) ≤ s3 ∧ s3 ≤ 2147483647) (b4 : (-1) ≤ s4 ∧ s4 ≤ 600000) (m0 : HP 71 (4096 * s0 + s1) (s3) M) (m1 : HP 47 (s0) (s4) M) (m2 : HP 45 (s0) (s2) M) (f0 : 0 ≤ (s4 - 262149)) (f1 : 0 ≤ ((-1) * s4 + 262151)) (hG : gI M) : (HP 66 (s2) (2 : Int) M ∧ True) := by
  obtain ⟨s, h1, hm⟩ := Eq.mp hp_71 m0
  exact ⟨Eq.mpr hp_66 (r_ftk (P := s0) (l := s1) h1 ⟨by omega, by omega, by omega⟩ (q47 m1).2 (q45 m2).2 (by omega) (by rw [if_neg (by omega)])), trivial⟩
theorem rul_134 : Rul r_134 := by
  refine ⟨fun _ ρ M hm hB hF hG => ?_, fun gi gv hg => (by cases hg)⟩
  have H := cr_134 M (ρ 0) (ρ 1) (ρ 2) (ρ 3) (ρ 4) (hB _ List.mem_cons_self) (hB _ (List.mem_cons_of_mem _ List.mem_cons_self)) (hB _ (List.mem_cons_of_mem _ (List.mem_cons_of_mem _ List.mem_cons_self))) (hB _ (List.mem_cons_of_mem _ (List.mem_cons_of_mem _ (List.mem_cons_of_mem _ List.mem_cons_self)))) (hB _ (List.mem_cons_of_mem _ (List.mem_cons_of_mem _ (List.mem_cons_of_mem _ (List.mem_cons_of_mem _ List.mem_cons_self))))) (cvp 71 (x' := (4096 * (ρ 0) + (ρ 1))) (y' := ((ρ 3))) (by show 0 + (4096 * ρ 0 + (1 * ρ 1 + 0)) = _; omega) (by show 0 + (1 * ρ 3 + 0) = _; omega) (hm _ List.mem_cons_self)) (cvp 47 (x' := ((ρ 0))) (y' := ((ρ 4))) (by show 0 + (1 * ρ 0 + 0) = _; omega) (by show 0 + (1 * ρ 4 + 0) = _; omega) (hm _ (List.mem_cons_of_mem _ List.mem_cons_self))) (cvp 45 (x' := ((ρ 0))) (y' := ((ρ 2))) (by show 0 + (1 * ρ 0 + 0) = _; omega) (by show 0 + (1 * ρ 2 + 0) = _; omega) (hm _ (List.mem_cons_of_mem _ (List.mem_cons_of_mem _ List.mem_cons_self)))) (by have h := hF _ List.mem_cons_self; have h : 0 ≤ (-262149) + (1 * ρ 4 + 0) := h; omega) (by have h := hF _ (List.mem_cons_of_mem _ List.mem_cons_self); have h : 0 ≤ 262151 + ((-1) * ρ 4 + 0) := h; omega) hG
  obtain ⟨k0, -⟩ := H
  exact ⟨_, List.mem_cons_self, ρ, fun _ _ => rfl, (okM_c (pvp 66 (by show 0 + (1 * ρ 2 + 0) = _; omega) (by show 2 + 0 = _; omega) k0) okM_n), okB_n, okF_n⟩
-- ftk3
theorem cr_135 (M : pM) (s0 s1 s2 s3 s4 : Int) (b0 : 0 ≤ s0 ∧ s0 ≤ 1900) (b1 : 0 ≤ s1 ∧ s1 ≤ 950) (b2 : 0 ≤ s2 ∧ s2 ≤ 1900) (b3 : (-2147483648) ≤ s3 ∧ s3 ≤ 2147483647) (b4 : (-1) ≤ s4 ∧ s4 ≤ 600000) (m0 : HP 71 (4096 * s0 + s1) (s3) M) (m1 : HP 47 (s0) (s4) M) (m2 : HP 45 (s0) (s2) M) (f0 : 0 ≤ (s4 - 262155)) (hG : gI M) : (HP 66 (s2) (2 : Int) M ∧ True) := by
  obtain ⟨s, h1, hm⟩ := Eq.mp hp_71 m0
  exact ⟨Eq.mpr hp_66 (r_ftk (P := s0) (l := s1) h1 ⟨by omega, by omega, by omega⟩ (q47 m1).2 (q45 m2).2 (by omega) (by rw [if_neg (by omega)])), trivial⟩
theorem rul_135 : Rul r_135 := by
  refine ⟨fun _ ρ M hm hB hF hG => ?_, fun gi gv hg => (by cases hg)⟩
  have H := cr_135 M (ρ 0) (ρ 1) (ρ 2) (ρ 3) (ρ 4) (hB _ List.mem_cons_self) (hB _ (List.mem_cons_of_mem _ List.mem_cons_self)) (hB _ (List.mem_cons_of_mem _ (List.mem_cons_of_mem _ List.mem_cons_self))) (hB _ (List.mem_cons_of_mem _ (List.mem_cons_of_mem _ (List.mem_cons_of_mem _ List.mem_cons_self)))) (hB _ (List.mem_cons_of_mem _ (List.mem_cons_of_mem _ (List.mem_cons_of_mem _ (List.mem_cons_of_mem _ List.mem_cons_self))))) (cvp 71 (x' := (4096 * (ρ 0) + (ρ 1))) (y' := ((ρ 3))) (by show 0 + (4096 * ρ 0 + (1 * ρ 1 + 0)) = _; omega) (by show 0 + (1 * ρ 3 + 0) = _; omega) (hm _ List.mem_cons_self)) (cvp 47 (x' := ((ρ 0))) (y' := ((ρ 4))) (by show 0 + (1 * ρ 0 + 0) = _; omega) (by show 0 + (1 * ρ 4 + 0) = _; omega) (hm _ (List.mem_cons_of_mem _ List.mem_cons_self))) (cvp 45 (x' := ((ρ 0))) (y' := ((ρ 2))) (by show 0 + (1 * ρ 0 + 0) = _; omega) (by show 0 + (1 * ρ 2 + 0) = _; omega) (hm _ (List.mem_cons_of_mem _ (List.mem_cons_of_mem _ List.mem_cons_self)))) (by have h := hF _ List.mem_cons_self; have h : 0 ≤ (-262155) + (1 * ρ 4 + 0) := h; omega) hG
  obtain ⟨k0, -⟩ := H
  exact ⟨_, List.mem_cons_self, ρ, fun _ _ => rfl, (okM_c (pvp 66 (by show 0 + (1 * ρ 2 + 0) = _; omega) (by show 2 + 0 = _; omega) k0) okM_n), okB_n, okF_n⟩
-- fb
theorem cr_136 (M : pM) (s0 s1 s2 s3 s4 s5 : Int) (b0 : 0 ≤ s0 ∧ s0 ≤ 1900) (b1 : 0 ≤ s1 ∧ s1 ≤ 950) (b2 : 0 ≤ s2 ∧ s2 ≤ 1900) (b3 : 0 ≤ s3 ∧ s3 ≤ 1900) (b4 : 0 ≤ s4 ∧ s4 ≤ 175) (b5 : (-1) ≤ s5 ∧ s5 ≤ 255) (m0 : HP 53 (4096 * s0 + s1) (256 * s2 + s4) M) (m1 : HP 47 (s2) (s5) M) (m2 : HP 45 (s2) (s3) M) (hG : gI M) : (HP 66 (s3) (1 : Int) M ∧ True) := by
  obtain ⟨s, K, j, h1, h2, h3, h4, h5, h6⟩ := Eq.mp hp_53 m0
  have hn := qni_le (K := K)
  have ha : s2.toNat = qps (tm M) s.1 (j + 1) := by omega
  refine ⟨Eq.mpr hp_66 (fa_i h1 ⟨h2, h4, h5, h6, show s2 = _ by omega⟩ (q45 m2).2 (qck_1 (qkw_o h5.1).2 h4 ?_)), trivial⟩
  rw [← ha, (q47 m1).2]
  omega
theorem rul_136 : Rul r_136 := by
  refine ⟨fun _ ρ M hm hB hF hG => ?_, fun gi gv hg => (by cases hg)⟩
  have H := cr_136 M (ρ 0) (ρ 1) (ρ 2) (ρ 3) (ρ 4) (ρ 5) (hB _ List.mem_cons_self) (hB _ (List.mem_cons_of_mem _ List.mem_cons_self)) (hB _ (List.mem_cons_of_mem _ (List.mem_cons_of_mem _ List.mem_cons_self))) (hB _ (List.mem_cons_of_mem _ (List.mem_cons_of_mem _ (List.mem_cons_of_mem _ List.mem_cons_self)))) (hB _ (List.mem_cons_of_mem _ (List.mem_cons_of_mem _ (List.mem_cons_of_mem _ (List.mem_cons_of_mem _ List.mem_cons_self))))) (hB _ (List.mem_cons_of_mem _ (List.mem_cons_of_mem _ (List.mem_cons_of_mem _ (List.mem_cons_of_mem _ (List.mem_cons_of_mem _ List.mem_cons_self)))))) (cvp 53 (x' := (4096 * (ρ 0) + (ρ 1))) (y' := (256 * (ρ 2) + (ρ 4))) (by show 0 + (4096 * ρ 0 + (1 * ρ 1 + 0)) = _; omega) (by show 0 + (256 * ρ 2 + (1 * ρ 4 + 0)) = _; omega) (hm _ List.mem_cons_self)) (cvp 47 (x' := ((ρ 2))) (y' := ((ρ 5))) (by show 0 + (1 * ρ 2 + 0) = _; omega) (by show 0 + (1 * ρ 5 + 0) = _; omega) (hm _ (List.mem_cons_of_mem _ List.mem_cons_self))) (cvp 45 (x' := ((ρ 2))) (y' := ((ρ 3))) (by show 0 + (1 * ρ 2 + 0) = _; omega) (by show 0 + (1 * ρ 3 + 0) = _; omega) (hm _ (List.mem_cons_of_mem _ (List.mem_cons_of_mem _ List.mem_cons_self)))) hG
  obtain ⟨k0, -⟩ := H
  exact ⟨_, List.mem_cons_self, ρ, fun _ _ => rfl, (okM_c (pvp 66 (by show 0 + (1 * ρ 3 + 0) = _; omega) (by show 1 + 0 = _; omega) k0) okM_n), okB_n, okF_n⟩
-- fk1
theorem cr_137 (M : pM) (s0 s1 s2 s3 s4 : Int) (b0 : 0 ≤ s0 ∧ s0 ≤ 1900) (b1 : 0 ≤ s1 ∧ s1 ≤ 950) (b2 : 0 ≤ s2 ∧ s2 ≤ 1900) (b3 : 0 ≤ s3 ∧ s3 ≤ 1900) (b4 : 256 ≤ s4 ∧ s4 ≤ 600000) (m0 : HP 53 (4096 * s0 + s1) (256 * s2 + 1) M) (m1 : HP 47 (s2) (s4) M) (m2 : HP 45 (s2) (s3) M) (f0 : 0 ≤ ((-1) * s4 + 393215)) (hG : gI M) : (HP 66 (s3) (2 : Int) M ∧ True) := by
  refine ⟨r_fl (K := 0) (j := 0) m0 m1 m2 ⟨by omega, by omega, by decide⟩ (fun s hs hE e => ?_), trivial⟩
  show qcN 0 7 (qtd (s.2 15 (qvl (tm M) s.1 1).toNat)) (tK (tm M) (qps (tm M) s.1 1)) = some 2
  rw [e]
  exact qcN_2 (by omega) (by omega)
theorem rul_137 : Rul r_137 := by
  refine ⟨fun _ ρ M hm hB hF hG => ?_, fun gi gv hg => (by cases hg)⟩
  have H := cr_137 M (ρ 0) (ρ 1) (ρ 2) (ρ 3) (ρ 4) (hB _ List.mem_cons_self) (hB _ (List.mem_cons_of_mem _ List.mem_cons_self)) (hB _ (List.mem_cons_of_mem _ (List.mem_cons_of_mem _ List.mem_cons_self))) (hB _ (List.mem_cons_of_mem _ (List.mem_cons_of_mem _ (List.mem_cons_of_mem _ List.mem_cons_self)))) (hB _ (List.mem_cons_of_mem _ (List.mem_cons_of_mem _ (List.mem_cons_of_mem _ (List.mem_cons_of_mem _ List.mem_cons_self))))) (cvp 53 (x' := (4096 * (ρ 0) + (ρ 1))) (y' := (256 * (ρ 2) + 1)) (by show 0 + (4096 * ρ 0 + (1 * ρ 1 + 0)) = _; omega) (by show 1 + (256 * ρ 2 + 0) = _; omega) (hm _ List.mem_cons_self)) (cvp 47 (x' := ((ρ 2))) (y' := ((ρ 4))) (by show 0 + (1 * ρ 2 + 0) = _; omega) (by show 0 + (1 * ρ 4 + 0) = _; omega) (hm _ (List.mem_cons_of_mem _ List.mem_cons_self))) (cvp 45 (x' := ((ρ 2))) (y' := ((ρ 3))) (by show 0 + (1 * ρ 2 + 0) = _; omega) (by show 0 + (1 * ρ 3 + 0) = _; omega) (hm _ (List.mem_cons_of_mem _ (List.mem_cons_of_mem _ List.mem_cons_self)))) (by have h := hF _ List.mem_cons_self; have h : 0 ≤ 393215 + ((-1) * ρ 4 + 0) := h; omega) hG
  obtain ⟨k0, -⟩ := H
  exact ⟨_, List.mem_cons_self, ρ, fun _ _ => rfl, (okM_c (pvp 66 (by show 0 + (1 * ρ 3 + 0) = _; omega) (by show 2 + 0 = _; omega) k0) okM_n), okB_n, okF_n⟩
-- fl1
theorem cr_138 (M : pM) (s0 s1 s2 s3 s4 : Int) (b0 : 0 ≤ s0 ∧ s0 ≤ 1900) (b1 : 0 ≤ s1 ∧ s1 ≤ 950) (b2 : 0 ≤ s2 ∧ s2 ≤ 1900) (b3 : 0 ≤ s3 ∧ s3 ≤ 1900) (b4 : 256 ≤ s4 ∧ s4 ≤ 600000) (m0 : HP 53 (4096 * s0 + s1) (256 * s2 + 1) M) (m1 : HP 47 (s2) (s4) M) (m2 : HP 45 (s2) (s3) M) (f0 : 0 ≤ (s4 - 403216)) (hG : gI M) : (HP 66 (s3) (2 : Int) M ∧ True) := by
  refine ⟨r_fl (K := 0) (j := 0) m0 m1 m2 ⟨by omega, by omega, by decide⟩ (fun s hs hE e => ?_), trivial⟩
  show qcN 0 7 (qtd (s.2 15 (qvl (tm M) s.1 1).toNat)) (tK (tm M) (qps (tm M) s.1 1)) = some 2
  rw [e]
  exact qcN_2 (by omega) (by omega)
theorem rul_138 : Rul r_138 := by
  refine ⟨fun _ ρ M hm hB hF hG => ?_, fun gi gv hg => (by cases hg)⟩
  have H := cr_138 M (ρ 0) (ρ 1) (ρ 2) (ρ 3) (ρ 4) (hB _ List.mem_cons_self) (hB _ (List.mem_cons_of_mem _ List.mem_cons_self)) (hB _ (List.mem_cons_of_mem _ (List.mem_cons_of_mem _ List.mem_cons_self))) (hB _ (List.mem_cons_of_mem _ (List.mem_cons_of_mem _ (List.mem_cons_of_mem _ List.mem_cons_self)))) (hB _ (List.mem_cons_of_mem _ (List.mem_cons_of_mem _ (List.mem_cons_of_mem _ (List.mem_cons_of_mem _ List.mem_cons_self))))) (cvp 53 (x' := (4096 * (ρ 0) + (ρ 1))) (y' := (256 * (ρ 2) + 1)) (by show 0 + (4096 * ρ 0 + (1 * ρ 1 + 0)) = _; omega) (by show 1 + (256 * ρ 2 + 0) = _; omega) (hm _ List.mem_cons_self)) (cvp 47 (x' := ((ρ 2))) (y' := ((ρ 4))) (by show 0 + (1 * ρ 2 + 0) = _; omega) (by show 0 + (1 * ρ 4 + 0) = _; omega) (hm _ (List.mem_cons_of_mem _ List.mem_cons_self))) (cvp 45 (x' := ((ρ 2))) (y' := ((ρ 3))) (by show 0 + (1 * ρ 2 + 0) = _; omega) (by show 0 + (1 * ρ 3 + 0) = _; omega) (hm _ (List.mem_cons_of_mem _ (List.mem_cons_of_mem _ List.mem_cons_self)))) (by have h := hF _ List.mem_cons_self; have h : 0 ≤ (-403216) + (1 * ρ 4 + 0) := h; omega) hG
  obtain ⟨k0, -⟩ := H
  exact ⟨_, List.mem_cons_self, ρ, fun _ _ => rfl, (okM_c (pvp 66 (by show 0 + (1 * ρ 3 + 0) = _; omega) (by show 2 + 0 = _; omega) k0) okM_n), okB_n, okF_n⟩
-- fn1
theorem cr_139 (M : pM) (s0 s1 s2 s3 s4 : Int) (b0 : 0 ≤ s0 ∧ s0 ≤ 1900) (b1 : 0 ≤ s1 ∧ s1 ≤ 950) (b2 : 0 ≤ s2 ∧ s2 ≤ 1900) (b3 : 0 ≤ s3 ∧ s3 ≤ 1900) (b4 : 0 ≤ s4 ∧ s4 ≤ 9999) (m0 : HP 53 (4096 * s0 + s1) (256 * s2 + 1) M) (m1 : HP 47 (s2) (s4 + 393216) M) (m2 : HP 45 (s2) (s3) M) (f0 : 0 ≤ (s4 - 8)) (hG : gI M) : (HP 66 (s3) (4 : Int) M ∧ True) := by
  refine ⟨r_fl (K := 0) (j := 0) m0 m1 m2 ⟨by omega, by omega, by decide⟩ (fun s hs hE e => ?_), trivial⟩
  show qcN 0 7 (qtd (s.2 15 (qvl (tm M) s.1 1).toNat)) (tK (tm M) (qps (tm M) s.1 1)) = some 4
  rw [e]
  exact qcN_4 (by omega) (Or.inr (by omega))
theorem rul_139 : Rul r_139 := by
  refine ⟨fun _ ρ M hm hB hF hG => ?_, fun gi gv hg => (by cases hg)⟩
  have H := cr_139 M (ρ 0) (ρ 1) (ρ 2) (ρ 3) (ρ 4) (hB _ List.mem_cons_self) (hB _ (List.mem_cons_of_mem _ List.mem_cons_self)) (hB _ (List.mem_cons_of_mem _ (List.mem_cons_of_mem _ List.mem_cons_self))) (hB _ (List.mem_cons_of_mem _ (List.mem_cons_of_mem _ (List.mem_cons_of_mem _ List.mem_cons_self)))) (hB _ (List.mem_cons_of_mem _ (List.mem_cons_of_mem _ (List.mem_cons_of_mem _ (List.mem_cons_of_mem _ List.mem_cons_self))))) (cvp 53 (x' := (4096 * (ρ 0) + (ρ 1))) (y' := (256 * (ρ 2) + 1)) (by show 0 + (4096 * ρ 0 + (1 * ρ 1 + 0)) = _; omega) (by show 1 + (256 * ρ 2 + 0) = _; omega) (hm _ List.mem_cons_self)) (cvp 47 (x' := ((ρ 2))) (y' := ((ρ 4) + 393216)) (by show 0 + (1 * ρ 2 + 0) = _; omega) (by show 393216 + (1 * ρ 4 + 0) = _; omega) (hm _ (List.mem_cons_of_mem _ List.mem_cons_self))) (cvp 45 (x' := ((ρ 2))) (y' := ((ρ 3))) (by show 0 + (1 * ρ 2 + 0) = _; omega) (by show 0 + (1 * ρ 3 + 0) = _; omega) (hm _ (List.mem_cons_of_mem _ (List.mem_cons_of_mem _ List.mem_cons_self)))) (by have h := hF _ List.mem_cons_self; have h : 0 ≤ (-8) + (1 * ρ 4 + 0) := h; omega) hG
  obtain ⟨k0, -⟩ := H
  exact ⟨_, List.mem_cons_self, ρ, fun _ _ => rfl, (okM_c (pvp 66 (by show 0 + (1 * ρ 3 + 0) = _; omega) (by show 4 + 0 = _; omega) k0) okM_n), okB_n, okF_n⟩
-- told0
theorem cr_140 (M : pM) (s0 s1 s2 s3 s4 s5 s6 s7 s8 : Int) (b0 : 0 ≤ s0 ∧ s0 ≤ 1900) (b1 : 0 ≤ s1 ∧ s1 ≤ 950) (b2 : 0 ≤ s2 ∧ s2 ≤ 1900) (b3 : 0 ≤ s3 ∧ s3 ≤ 1900) (b4 : 0 ≤ s4 ∧ s4 ≤ 1900) (b5 : 0 ≤ s5 ∧ s5 ≤ 7) (b6 : (-2147483648) ≤ s6 ∧ s6 ≤ 2147483647) (b7 : (-2147483648) ≤ s7 ∧ s7 ≤ 2147483647) (b8 : (-2147483648) ≤ s8 ∧ s8 ≤ 2147483647) (m0 : HP 53 (4096 * s0 + s1) (256 * s2 + 1) M) (m1 : HP 47 (s2) (s5 + 393216) M) (m2 : HP 46 (s2) (s3) M) (m3 : HP 45 (s2) (s4) M) (m4 : HP 71 (4096 * s0 + s1) (s6) M) (m5 : HP 104 (s5 + 4294967296 * s6) (s7) M) (m6 : HP 100 (4294967296 * s7 + 1) (s8) M) (hG : gI M) : (HP 53 (4096 * s0 + s1) (256 * s3 + 2) M ∧ HP 79 (16 * s0 + 1) (s5) M ∧ 0 ≤ ((-1) * s8) ∧ 0 ≤ (s8) ∧ True) ∨ (HP 66 (s4) (3 : Int) M ∧ 0 ≤ ((-1) * s8 + 1) ∧ 0 ≤ (s8 - 1) ∧ True) := by
  have ht := t4_bit (y := s5.toNat) (m := s6) (o := s7) (by omega) m5 (by omega) m6 (by omega)
  obtain ⟨S, hS, hb⟩ := Eq.mp hp_71 m4
  have hb := hb s5.toNat (by omega)
  have h01 := qb4_01 s6 s5.toNat
  have hc : ∀ s : Nat × pM, qat (tm M) (4096 * s0 + s1) s → tK (tm M) (qps (tm M) s.1 1) = (s5 + 393216) → qck (tm M) s.1 s.2 0 1 = qtd s8 := by
    intro s hs e
    have es := qat_u hS hs
    have ev : qvl (tm M) s.1 1 = s5 := by unfold qvl; omega
    show qcN 0 7 (qtd (s.2 15 (qvl (tm M) s.1 1).toNat)) (tK (tm M) (qps (tm M) s.1 1)) = _
    rw [e, qcN_x (by omega) (by omega), ev, es, ← hb, ← ht]
  rcases h01 with h0 | h0
  · exact Or.inl ⟨r_ex (K := 0) (j := 0) m0 m1 m2 ⟨by omega, by omega, by decide⟩ (by omega) (by decide) (fun s hs hE e => (hc s hs e).trans (qtd_0 (by omega))), r_va (P := s0) (l := s1) (K := 0) (j := 0) m0 m1 ⟨by omega, by omega, by omega⟩ ⟨by omega, by omega, by decide⟩ (by omega) (by omega), by omega, by omega, trivial⟩
  · exact Or.inr ⟨r_fl (K := 0) (j := 0) m0 m1 m3 ⟨by omega, by omega, by decide⟩ (fun s hs hE e => (hc s hs e).trans (qtd_1 (by omega))), by omega, by omega, trivial⟩
theorem rul_140 : Rul r_140 := by
  refine ⟨fun _ ρ M hm hB hF hG => ?_, fun gi gv hg => (by cases hg)⟩
  have H := cr_140 M (ρ 0) (ρ 1) (ρ 2) (ρ 3) (ρ 4) (ρ 5) (ρ 6) (ρ 7) (ρ 8) (hB _ List.mem_cons_self) (hB _ (List.mem_cons_of_mem _ List.mem_cons_self)) (hB _ (List.mem_cons_of_mem _ (List.mem_cons_of_mem _ List.mem_cons_self))) (hB _ (List.mem_cons_of_mem _ (List.mem_cons_of_mem _ (List.mem_cons_of_mem _ List.mem_cons_self)))) (hB _ (List.mem_cons_of_mem _ (List.mem_cons_of_mem _ (List.mem_cons_of_mem _ (List.mem_cons_of_mem _ List.mem_cons_self))))) (hB _ (List.mem_cons_of_mem _ (List.mem_cons_of_mem _ (List.mem_cons_of_mem _ (List.mem_cons_of_mem _ (List.mem_cons_of_mem _ List.mem_cons_self)))))) (hB _ (List.mem_cons_of_mem _ (List.mem_cons_of_mem _ (List.mem_cons_of_mem _ (List.mem_cons_of_mem _ (List.mem_cons_of_mem _ (List.mem_cons_of_mem _ List.mem_cons_self))))))) (hB _ (List.mem_cons_of_mem _ (List.mem_cons_of_mem _ (List.mem_cons_of_mem _ (List.mem_cons_of_mem _ (List.mem_cons_of_mem _ (List.mem_cons_of_mem _ (List.mem_cons_of_mem _ List.mem_cons_self)))))))) (hB _ (List.mem_cons_of_mem _ (List.mem_cons_of_mem _ (List.mem_cons_of_mem _ (List.mem_cons_of_mem _ (List.mem_cons_of_mem _ (List.mem_cons_of_mem _ (List.mem_cons_of_mem _ (List.mem_cons_of_mem _ List.mem_cons_self))))))))) (cvp 53 (x' := (4096 * (ρ 0) + (ρ 1))) (y' := (256 * (ρ 2) + 1)) (by show 0 + (4096 * ρ 0 + (1 * ρ 1 + 0)) = _; omega) (by show 1 + (256 * ρ 2 + 0) = _; omega) (hm _ List.mem_cons_self)) (cvp 47 (x' := ((ρ 2))) (y' := ((ρ 5) + 393216)) (by show 0 + (1 * ρ 2 + 0) = _; omega) (by show 393216 + (1 * ρ 5 + 0) = _; omega) (hm _ (List.mem_cons_of_mem _ List.mem_cons_self))) (cvp 46 (x' := ((ρ 2))) (y' := ((ρ 3))) (by show 0 + (1 * ρ 2 + 0) = _; omega) (by show 0 + (1 * ρ 3 + 0) = _; omega) (hm _ (List.mem_cons_of_mem _ (List.mem_cons_of_mem _ List.mem_cons_self)))) (cvp 45 (x' := ((ρ 2))) (y' := ((ρ 4))) (by show 0 + (1 * ρ 2 + 0) = _; omega) (by show 0 + (1 * ρ 4 + 0) = _; omega) (hm _ (List.mem_cons_of_mem _ (List.mem_cons_of_mem _ (List.mem_cons_of_mem _ List.mem_cons_self))))) (cvp 71 (x' := (4096 * (ρ 0) + (ρ 1))) (y' := ((ρ 6))) (by show 0 + (4096 * ρ 0 + (1 * ρ 1 + 0)) = _; omega) (by show 0 + (1 * ρ 6 + 0) = _; omega) (hm _ (List.mem_cons_of_mem _ (List.mem_cons_of_mem _ (List.mem_cons_of_mem _ (List.mem_cons_of_mem _ List.mem_cons_self)))))) (cvp 104 (x' := ((ρ 5) + 4294967296 * (ρ 6))) (y' := ((ρ 7))) (by show 0 + (1 * ρ 5 + (4294967296 * ρ 6 + 0)) = _; omega) (by show 0 + (1 * ρ 7 + 0) = _; omega) (hm _ (List.mem_cons_of_mem _ (List.mem_cons_of_mem _ (List.mem_cons_of_mem _ (List.mem_cons_of_mem _ (List.mem_cons_of_mem _ List.mem_cons_self))))))) (cvp 100 (x' := (4294967296 * (ρ 7) + 1)) (y' := ((ρ 8))) (by show 1 + (4294967296 * ρ 7 + 0) = _; omega) (by show 0 + (1 * ρ 8 + 0) = _; omega) (hm _ (List.mem_cons_of_mem _ (List.mem_cons_of_mem _ (List.mem_cons_of_mem _ (List.mem_cons_of_mem _ (List.mem_cons_of_mem _ (List.mem_cons_of_mem _ List.mem_cons_self)))))))) hG
  rcases H with H | H
  · skip
    obtain ⟨k0, k1, f0, f1, -⟩ := H
    exact ⟨_, List.mem_cons_self, ρ, fun _ _ => rfl, (okM_c (pvp 53 (by show 0 + (4096 * ρ 0 + (1 * ρ 1 + 0)) = _; omega) (by show 2 + (256 * ρ 3 + 0) = _; omega) k0) (okM_c (pvp 79 (by show 1 + (16 * ρ 0 + 0) = _; omega) (by show 0 + (1 * ρ 5 + 0) = _; omega) k1) okM_n)), okB_n, (okF_c (by show 0 ≤ 0 + ((-1) * ρ 8 + 0); omega) (okF_c (by show 0 ≤ 0 + (1 * ρ 8 + 0); omega) okF_n))⟩
  · skip
    obtain ⟨k0, f0, f1, -⟩ := H
    exact ⟨_, (List.mem_cons_of_mem _ List.mem_cons_self), ρ, fun _ _ => rfl, (okM_c (pvp 66 (by show 0 + (1 * ρ 4 + 0) = _; omega) (by show 3 + 0 = _; omega) k0) okM_n), okB_n, (okF_c (by show 0 ≤ 1 + ((-1) * ρ 8 + 0); omega) (okF_c (by show 0 ≤ (-1) + (1 * ρ 8 + 0); omega) okF_n))⟩
-- fk2
theorem cr_141 (M : pM) (s0 s1 s2 s3 s4 : Int) (b0 : 0 ≤ s0 ∧ s0 ≤ 1900) (b1 : 0 ≤ s1 ∧ s1 ≤ 950) (b2 : 0 ≤ s2 ∧ s2 ≤ 1900) (b3 : 0 ≤ s3 ∧ s3 ≤ 1900) (b4 : 256 ≤ s4 ∧ s4 ≤ 600000) (m0 : HP 53 (4096 * s0 + s1) (256 * s2 + 2) M) (m1 : HP 47 (s2) (s4) M) (m2 : HP 45 (s2) (s3) M) (f0 : 0 ≤ ((-1) * s4 + 262142)) (hG : gI M) : (HP 66 (s3) (2 : Int) M ∧ True) := by
  refine ⟨r_fl (K := 0) (j := 1) m0 m1 m2 ⟨by omega, by omega, by decide⟩ (fun s hs hE e => ?_), trivial⟩
  show qcW (if qsz (tm M) s.1 2 = 8 ∧ qgr (tm M) (tS (tm M) (qps (tm M) s.1 2)) 8 = true then none else some 4) (tK (tm M) (qps (tm M) s.1 2)) = some 2
  rw [e]
  exact qcW_2 (by omega) (by omega)
theorem rul_141 : Rul r_141 := by
  refine ⟨fun _ ρ M hm hB hF hG => ?_, fun gi gv hg => (by cases hg)⟩
  have H := cr_141 M (ρ 0) (ρ 1) (ρ 2) (ρ 3) (ρ 4) (hB _ List.mem_cons_self) (hB _ (List.mem_cons_of_mem _ List.mem_cons_self)) (hB _ (List.mem_cons_of_mem _ (List.mem_cons_of_mem _ List.mem_cons_self))) (hB _ (List.mem_cons_of_mem _ (List.mem_cons_of_mem _ (List.mem_cons_of_mem _ List.mem_cons_self)))) (hB _ (List.mem_cons_of_mem _ (List.mem_cons_of_mem _ (List.mem_cons_of_mem _ (List.mem_cons_of_mem _ List.mem_cons_self))))) (cvp 53 (x' := (4096 * (ρ 0) + (ρ 1))) (y' := (256 * (ρ 2) + 2)) (by show 0 + (4096 * ρ 0 + (1 * ρ 1 + 0)) = _; omega) (by show 2 + (256 * ρ 2 + 0) = _; omega) (hm _ List.mem_cons_self)) (cvp 47 (x' := ((ρ 2))) (y' := ((ρ 4))) (by show 0 + (1 * ρ 2 + 0) = _; omega) (by show 0 + (1 * ρ 4 + 0) = _; omega) (hm _ (List.mem_cons_of_mem _ List.mem_cons_self))) (cvp 45 (x' := ((ρ 2))) (y' := ((ρ 3))) (by show 0 + (1 * ρ 2 + 0) = _; omega) (by show 0 + (1 * ρ 3 + 0) = _; omega) (hm _ (List.mem_cons_of_mem _ (List.mem_cons_of_mem _ List.mem_cons_self)))) (by have h := hF _ List.mem_cons_self; have h : 0 ≤ 262142 + ((-1) * ρ 4 + 0) := h; omega) hG
  obtain ⟨k0, -⟩ := H
  exact ⟨_, List.mem_cons_self, ρ, fun _ _ => rfl, (okM_c (pvp 66 (by show 0 + (1 * ρ 3 + 0) = _; omega) (by show 2 + 0 = _; omega) k0) okM_n), okB_n, okF_n⟩
-- fl2
theorem cr_142 (M : pM) (s0 s1 s2 s3 s4 : Int) (b0 : 0 ≤ s0 ∧ s0 ≤ 1900) (b1 : 0 ≤ s1 ∧ s1 ≤ 950) (b2 : 0 ≤ s2 ∧ s2 ≤ 1900) (b3 : 0 ≤ s3 ∧ s3 ≤ 1900) (b4 : 256 ≤ s4 ∧ s4 ≤ 600000) (m0 : HP 53 (4096 * s0 + s1) (256 * s2 + 2) M) (m1 : HP 47 (s2) (s4) M) (m2 : HP 45 (s2) (s3) M) (f0 : 0 ≤ (s4 - 262169)) (hG : gI M) : (HP 66 (s3) (2 : Int) M ∧ True) := by
  refine ⟨r_fl (K := 0) (j := 1) m0 m1 m2 ⟨by omega, by omega, by decide⟩ (fun s hs hE e => ?_), trivial⟩
  show qcW (if qsz (tm M) s.1 2 = 8 ∧ qgr (tm M) (tS (tm M) (qps (tm M) s.1 2)) 8 = true then none else some 4) (tK (tm M) (qps (tm M) s.1 2)) = some 2
  rw [e]
  exact qcW_2 (by omega) (by omega)
theorem rul_142 : Rul r_142 := by
  refine ⟨fun _ ρ M hm hB hF hG => ?_, fun gi gv hg => (by cases hg)⟩
  have H := cr_142 M (ρ 0) (ρ 1) (ρ 2) (ρ 3) (ρ 4) (hB _ List.mem_cons_self) (hB _ (List.mem_cons_of_mem _ List.mem_cons_self)) (hB _ (List.mem_cons_of_mem _ (List.mem_cons_of_mem _ List.mem_cons_self))) (hB _ (List.mem_cons_of_mem _ (List.mem_cons_of_mem _ (List.mem_cons_of_mem _ List.mem_cons_self)))) (hB _ (List.mem_cons_of_mem _ (List.mem_cons_of_mem _ (List.mem_cons_of_mem _ (List.mem_cons_of_mem _ List.mem_cons_self))))) (cvp 53 (x' := (4096 * (ρ 0) + (ρ 1))) (y' := (256 * (ρ 2) + 2)) (by show 0 + (4096 * ρ 0 + (1 * ρ 1 + 0)) = _; omega) (by show 2 + (256 * ρ 2 + 0) = _; omega) (hm _ List.mem_cons_self)) (cvp 47 (x' := ((ρ 2))) (y' := ((ρ 4))) (by show 0 + (1 * ρ 2 + 0) = _; omega) (by show 0 + (1 * ρ 4 + 0) = _; omega) (hm _ (List.mem_cons_of_mem _ List.mem_cons_self))) (cvp 45 (x' := ((ρ 2))) (y' := ((ρ 3))) (by show 0 + (1 * ρ 2 + 0) = _; omega) (by show 0 + (1 * ρ 3 + 0) = _; omega) (hm _ (List.mem_cons_of_mem _ (List.mem_cons_of_mem _ List.mem_cons_self)))) (by have h := hF _ List.mem_cons_self; have h : 0 ≤ (-262169) + (1 * ρ 4 + 0) := h; omega) hG
  obtain ⟨k0, -⟩ := H
  exact ⟨_, List.mem_cons_self, ρ, fun _ _ => rfl, (okM_c (pvp 66 (by show 0 + (1 * ρ 3 + 0) = _; omega) (by show 2 + 0 = _; omega) k0) okM_n), okB_n, okF_n⟩
-- len2_0
theorem cr_143 (M : pM) (s0 s1 s2 s3 s4 s5 : Int) (b0 : 0 ≤ s0 ∧ s0 ≤ 1900) (b1 : 0 ≤ s1 ∧ s1 ≤ 950) (b2 : 0 ≤ s2 ∧ s2 ≤ 1900) (b3 : 0 ≤ s3 ∧ s3 ≤ 1900) (b4 : 0 ≤ s4 ∧ s4 ≤ 1900) (b5 : 262143 ≤ s5 ∧ s5 ≤ 262168) (m0 : HP 53 (4096 * s0 + s1) (256 * s2 + 2) M) (m1 : HP 47 (s2) (s5) M) (m2 : HP 45 (s2) (s3) M) (m3 : HP 46 (s2) (s4) M) (f0 : 0 ≤ (s3 + (-1) * s4 + 7)) (hG : gI M) : (HP 66 (s3) (4 : Int) M ∧ True) := by
  refine ⟨r_fl (K := 0) (j := 1) m0 m1 m2 ⟨by omega, by omega, by decide⟩ (fun s hs hE e => ?_), trivial⟩
  have ha : s2 = (qps (tm M) s.1 2 : Int) := hE.2.2.2.2
  have ha : qps (tm M) s.1 2 = s2.toNat := by omega
  have g1 := (q45 m2).2
  have g2 := (q46 m3).2
  show qcW (if qsz (tm M) s.1 2 = 8 ∧ qgr (tm M) (tS (tm M) (qps (tm M) s.1 2)) 8 = true then none else some 4) (tK (tm M) (qps (tm M) s.1 2)) = some 4
  rw [e, qcW_x (by omega), if_neg]
  intro hh
  have hh := hh.1
  unfold qsz at hh
  rw [ha] at hh
  omega
theorem rul_143 : Rul r_143 := by
  refine ⟨fun _ ρ M hm hB hF hG => ?_, fun gi gv hg => (by cases hg)⟩
  have H := cr_143 M (ρ 0) (ρ 1) (ρ 2) (ρ 3) (ρ 4) (ρ 5) (hB _ List.mem_cons_self) (hB _ (List.mem_cons_of_mem _ List.mem_cons_self)) (hB _ (List.mem_cons_of_mem _ (List.mem_cons_of_mem _ List.mem_cons_self))) (hB _ (List.mem_cons_of_mem _ (List.mem_cons_of_mem _ (List.mem_cons_of_mem _ List.mem_cons_self)))) (hB _ (List.mem_cons_of_mem _ (List.mem_cons_of_mem _ (List.mem_cons_of_mem _ (List.mem_cons_of_mem _ List.mem_cons_self))))) (hB _ (List.mem_cons_of_mem _ (List.mem_cons_of_mem _ (List.mem_cons_of_mem _ (List.mem_cons_of_mem _ (List.mem_cons_of_mem _ List.mem_cons_self)))))) (cvp 53 (x' := (4096 * (ρ 0) + (ρ 1))) (y' := (256 * (ρ 2) + 2)) (by show 0 + (4096 * ρ 0 + (1 * ρ 1 + 0)) = _; omega) (by show 2 + (256 * ρ 2 + 0) = _; omega) (hm _ List.mem_cons_self)) (cvp 47 (x' := ((ρ 2))) (y' := ((ρ 5))) (by show 0 + (1 * ρ 2 + 0) = _; omega) (by show 0 + (1 * ρ 5 + 0) = _; omega) (hm _ (List.mem_cons_of_mem _ List.mem_cons_self))) (cvp 45 (x' := ((ρ 2))) (y' := ((ρ 3))) (by show 0 + (1 * ρ 2 + 0) = _; omega) (by show 0 + (1 * ρ 3 + 0) = _; omega) (hm _ (List.mem_cons_of_mem _ (List.mem_cons_of_mem _ List.mem_cons_self)))) (cvp 46 (x' := ((ρ 2))) (y' := ((ρ 4))) (by show 0 + (1 * ρ 2 + 0) = _; omega) (by show 0 + (1 * ρ 4 + 0) = _; omega) (hm _ (List.mem_cons_of_mem _ (List.mem_cons_of_mem _ (List.mem_cons_of_mem _ List.mem_cons_self))))) (by have h := hF _ List.mem_cons_self; have h : 0 ≤ 7 + (1 * ρ 3 + ((-1) * ρ 4 + 0)) := h; omega) hG
  obtain ⟨k0, -⟩ := H
  exact ⟨_, List.mem_cons_self, ρ, fun _ _ => rfl, (okM_c (pvp 66 (by show 0 + (1 * ρ 3 + 0) = _; omega) (by show 4 + 0 = _; omega) k0) okM_n), okB_n, okF_n⟩
-- let2_0
theorem cr_144 (M : pM) (s0 s1 s2 s3 s4 s5 s6 s7 : Int) (b0 : 0 ≤ s0 ∧ s0 ≤ 1900) (b1 : 0 ≤ s1 ∧ s1 ≤ 950) (b2 : 0 ≤ s2 ∧ s2 ≤ 1900) (b3 : 0 ≤ s3 ∧ s3 ≤ 1900) (b4 : 0 ≤ s4 ∧ s4 ≤ 1900) (b5 : 262143 ≤ s5 ∧ s5 ≤ 262168) (b6 : 0 ≤ s6 ∧ s6 ≤ 7) (b7 : 0 ≤ s7 ∧ s7 ≤ 255) (m0 : HP 53 (4096 * s0 + s1) (256 * s2 + 2) M) (m1 : HP 47 (s2) (s5) M) (m2 : HP 45 (s2) (s3) M) (m3 : HP 46 (s2) (s4) M) (m4 : (0 ≤ (s3 + s6) ∧ M 1 (s3 + s6).toNat = (s7))) (f0 : 0 ≤ (s3 + (-1) * s4 + 8)) (f1 : 0 ≤ ((-1) * s3 + s4 - 8)) (f2 : 0 ≤ ((-1) * s7 + 96)) (hG : gI M) : (HP 66 (s3) (4 : Int) M ∧ True) := by
  refine ⟨r_fl (K := 0) (j := 1) m0 m1 m2 ⟨by omega, by omega, by decide⟩ (fun s hs hE e => ?_), trivial⟩
  have ha : s2 = (qps (tm M) s.1 2 : Int) := hE.2.2.2.2
  have ha : qps (tm M) s.1 2 = s2.toNat := by omega
  have g1 := (q45 m2).2
  have g2 := (q46 m3).2
  show qcW (if qsz (tm M) s.1 2 = 8 ∧ qgr (tm M) (tS (tm M) (qps (tm M) s.1 2)) 8 = true then none else some 4) (tK (tm M) (qps (tm M) s.1 2)) = some 4
  rw [e, qcW_x (by omega), if_neg]
  intro hh
  have hh := qgr_o (i := s6.toNat) hh.2 (by omega)
  rw [ha, show tS (tm M) s2.toNat + s6.toNat = (s3 + s6).toNat by omega, rd1 (by rw [show s3 + s6 = s3 + s6 by omega]; exact m4) (by omega)] at hh
  omega
theorem rul_144 : Rul r_144 := by
  refine ⟨fun _ ρ M hm hB hF hG => ?_, fun gi gv hg => (by cases hg)⟩
  have H := cr_144 M (ρ 0) (ρ 1) (ρ 2) (ρ 3) (ρ 4) (ρ 5) (ρ 6) (ρ 7) (hB _ List.mem_cons_self) (hB _ (List.mem_cons_of_mem _ List.mem_cons_self)) (hB _ (List.mem_cons_of_mem _ (List.mem_cons_of_mem _ List.mem_cons_self))) (hB _ (List.mem_cons_of_mem _ (List.mem_cons_of_mem _ (List.mem_cons_of_mem _ List.mem_cons_self)))) (hB _ (List.mem_cons_of_mem _ (List.mem_cons_of_mem _ (List.mem_cons_of_mem _ (List.mem_cons_of_mem _ List.mem_cons_self))))) (hB _ (List.mem_cons_of_mem _ (List.mem_cons_of_mem _ (List.mem_cons_of_mem _ (List.mem_cons_of_mem _ (List.mem_cons_of_mem _ List.mem_cons_self)))))) (hB _ (List.mem_cons_of_mem _ (List.mem_cons_of_mem _ (List.mem_cons_of_mem _ (List.mem_cons_of_mem _ (List.mem_cons_of_mem _ (List.mem_cons_of_mem _ List.mem_cons_self))))))) (hB _ (List.mem_cons_of_mem _ (List.mem_cons_of_mem _ (List.mem_cons_of_mem _ (List.mem_cons_of_mem _ (List.mem_cons_of_mem _ (List.mem_cons_of_mem _ (List.mem_cons_of_mem _ List.mem_cons_self)))))))) (cvp 53 (x' := (4096 * (ρ 0) + (ρ 1))) (y' := (256 * (ρ 2) + 2)) (by show 0 + (4096 * ρ 0 + (1 * ρ 1 + 0)) = _; omega) (by show 2 + (256 * ρ 2 + 0) = _; omega) (hm _ List.mem_cons_self)) (cvp 47 (x' := ((ρ 2))) (y' := ((ρ 5))) (by show 0 + (1 * ρ 2 + 0) = _; omega) (by show 0 + (1 * ρ 5 + 0) = _; omega) (hm _ (List.mem_cons_of_mem _ List.mem_cons_self))) (cvp 45 (x' := ((ρ 2))) (y' := ((ρ 3))) (by show 0 + (1 * ρ 2 + 0) = _; omega) (by show 0 + (1 * ρ 3 + 0) = _; omega) (hm _ (List.mem_cons_of_mem _ (List.mem_cons_of_mem _ List.mem_cons_self)))) (cvp 46 (x' := ((ρ 2))) (y' := ((ρ 4))) (by show 0 + (1 * ρ 2 + 0) = _; omega) (by show 0 + (1 * ρ 4 + 0) = _; omega) (hm _ (List.mem_cons_of_mem _ (List.mem_cons_of_mem _ (List.mem_cons_of_mem _ List.mem_cons_self))))) (cvm (c := 1) (by decide) (x' := ((ρ 3) + (ρ 6))) (y' := ((ρ 7))) (by show 0 + (1 * ρ 3 + (1 * ρ 6 + 0)) = _; omega) (by show 0 + (1 * ρ 7 + 0) = _; omega) (hm _ (List.mem_cons_of_mem _ (List.mem_cons_of_mem _ (List.mem_cons_of_mem _ (List.mem_cons_of_mem _ List.mem_cons_self)))))) (by have h := hF _ List.mem_cons_self; have h : 0 ≤ 8 + (1 * ρ 3 + ((-1) * ρ 4 + 0)) := h; omega) (by have h := hF _ (List.mem_cons_of_mem _ List.mem_cons_self); have h : 0 ≤ (-8) + ((-1) * ρ 3 + (1 * ρ 4 + 0)) := h; omega) (by have h := hF _ (List.mem_cons_of_mem _ (List.mem_cons_of_mem _ List.mem_cons_self)); have h : 0 ≤ 96 + ((-1) * ρ 7 + 0) := h; omega) hG
  obtain ⟨k0, -⟩ := H
  exact ⟨_, List.mem_cons_self, ρ, fun _ _ => rfl, (okM_c (pvp 66 (by show 0 + (1 * ρ 3 + 0) = _; omega) (by show 4 + 0 = _; omega) k0) okM_n), okB_n, okF_n⟩
-- let2_1
theorem cr_145 (M : pM) (s0 s1 s2 s3 s4 s5 s6 s7 : Int) (b0 : 0 ≤ s0 ∧ s0 ≤ 1900) (b1 : 0 ≤ s1 ∧ s1 ≤ 950) (b2 : 0 ≤ s2 ∧ s2 ≤ 1900) (b3 : 0 ≤ s3 ∧ s3 ≤ 1900) (b4 : 0 ≤ s4 ∧ s4 ≤ 1900) (b5 : 262143 ≤ s5 ∧ s5 ≤ 262168) (b6 : 0 ≤ s6 ∧ s6 ≤ 7) (b7 : 0 ≤ s7 ∧ s7 ≤ 255) (m0 : HP 53 (4096 * s0 + s1) (256 * s2 + 2) M) (m1 : HP 47 (s2) (s5) M) (m2 : HP 45 (s2) (s3) M) (m3 : HP 46 (s2) (s4) M) (m4 : (0 ≤ (s3 + s6) ∧ M 1 (s3 + s6).toNat = (s7))) (f0 : 0 ≤ (s3 + (-1) * s4 + 8)) (f1 : 0 ≤ ((-1) * s3 + s4 - 8)) (f2 : 0 ≤ (s7 - 105)) (hG : gI M) : (HP 66 (s3) (4 : Int) M ∧ True) := by
  refine ⟨r_fl (K := 0) (j := 1) m0 m1 m2 ⟨by omega, by omega, by decide⟩ (fun s hs hE e => ?_), trivial⟩
  have ha : s2 = (qps (tm M) s.1 2 : Int) := hE.2.2.2.2
  have ha : qps (tm M) s.1 2 = s2.toNat := by omega
  have g1 := (q45 m2).2
  have g2 := (q46 m3).2
  show qcW (if qsz (tm M) s.1 2 = 8 ∧ qgr (tm M) (tS (tm M) (qps (tm M) s.1 2)) 8 = true then none else some 4) (tK (tm M) (qps (tm M) s.1 2)) = some 4
  rw [e, qcW_x (by omega), if_neg]
  intro hh
  have hh := qgr_o (i := s6.toNat) hh.2 (by omega)
  rw [ha, show tS (tm M) s2.toNat + s6.toNat = (s3 + s6).toNat by omega, rd1 (by rw [show s3 + s6 = s3 + s6 by omega]; exact m4) (by omega)] at hh
  omega
theorem rul_145 : Rul r_145 := by
  refine ⟨fun _ ρ M hm hB hF hG => ?_, fun gi gv hg => (by cases hg)⟩
  have H := cr_145 M (ρ 0) (ρ 1) (ρ 2) (ρ 3) (ρ 4) (ρ 5) (ρ 6) (ρ 7) (hB _ List.mem_cons_self) (hB _ (List.mem_cons_of_mem _ List.mem_cons_self)) (hB _ (List.mem_cons_of_mem _ (List.mem_cons_of_mem _ List.mem_cons_self))) (hB _ (List.mem_cons_of_mem _ (List.mem_cons_of_mem _ (List.mem_cons_of_mem _ List.mem_cons_self)))) (hB _ (List.mem_cons_of_mem _ (List.mem_cons_of_mem _ (List.mem_cons_of_mem _ (List.mem_cons_of_mem _ List.mem_cons_self))))) (hB _ (List.mem_cons_of_mem _ (List.mem_cons_of_mem _ (List.mem_cons_of_mem _ (List.mem_cons_of_mem _ (List.mem_cons_of_mem _ List.mem_cons_self)))))) (hB _ (List.mem_cons_of_mem _ (List.mem_cons_of_mem _ (List.mem_cons_of_mem _ (List.mem_cons_of_mem _ (List.mem_cons_of_mem _ (List.mem_cons_of_mem _ List.mem_cons_self))))))) (hB _ (List.mem_cons_of_mem _ (List.mem_cons_of_mem _ (List.mem_cons_of_mem _ (List.mem_cons_of_mem _ (List.mem_cons_of_mem _ (List.mem_cons_of_mem _ (List.mem_cons_of_mem _ List.mem_cons_self)))))))) (cvp 53 (x' := (4096 * (ρ 0) + (ρ 1))) (y' := (256 * (ρ 2) + 2)) (by show 0 + (4096 * ρ 0 + (1 * ρ 1 + 0)) = _; omega) (by show 2 + (256 * ρ 2 + 0) = _; omega) (hm _ List.mem_cons_self)) (cvp 47 (x' := ((ρ 2))) (y' := ((ρ 5))) (by show 0 + (1 * ρ 2 + 0) = _; omega) (by show 0 + (1 * ρ 5 + 0) = _; omega) (hm _ (List.mem_cons_of_mem _ List.mem_cons_self))) (cvp 45 (x' := ((ρ 2))) (y' := ((ρ 3))) (by show 0 + (1 * ρ 2 + 0) = _; omega) (by show 0 + (1 * ρ 3 + 0) = _; omega) (hm _ (List.mem_cons_of_mem _ (List.mem_cons_of_mem _ List.mem_cons_self)))) (cvp 46 (x' := ((ρ 2))) (y' := ((ρ 4))) (by show 0 + (1 * ρ 2 + 0) = _; omega) (by show 0 + (1 * ρ 4 + 0) = _; omega) (hm _ (List.mem_cons_of_mem _ (List.mem_cons_of_mem _ (List.mem_cons_of_mem _ List.mem_cons_self))))) (cvm (c := 1) (by decide) (x' := ((ρ 3) + (ρ 6))) (y' := ((ρ 7))) (by show 0 + (1 * ρ 3 + (1 * ρ 6 + 0)) = _; omega) (by show 0 + (1 * ρ 7 + 0) = _; omega) (hm _ (List.mem_cons_of_mem _ (List.mem_cons_of_mem _ (List.mem_cons_of_mem _ (List.mem_cons_of_mem _ List.mem_cons_self)))))) (by have h := hF _ List.mem_cons_self; have h : 0 ≤ 8 + (1 * ρ 3 + ((-1) * ρ 4 + 0)) := h; omega) (by have h := hF _ (List.mem_cons_of_mem _ List.mem_cons_self); have h : 0 ≤ (-8) + ((-1) * ρ 3 + (1 * ρ 4 + 0)) := h; omega) (by have h := hF _ (List.mem_cons_of_mem _ (List.mem_cons_of_mem _ List.mem_cons_self)); have h : 0 ≤ (-105) + (1 * ρ 7 + 0) := h; omega) hG
  obtain ⟨k0, -⟩ := H
  exact ⟨_, List.mem_cons_self, ρ, fun _ _ => rfl, (okM_c (pvp 66 (by show 0 + (1 * ρ 3 + 0) = _; omega) (by show 4 + 0 = _; omega) k0) okM_n), okB_n, okF_n⟩
-- ex2
theorem cr_146 (M : pM) (s0 s1 s2 s3 s4 s5 : Int) (b0 : 0 ≤ s0 ∧ s0 ≤ 1900) (b1 : 0 ≤ s1 ∧ s1 ≤ 950) (b2 : 0 ≤ s2 ∧ s2 ≤ 1900) (b3 : 0 ≤ s3 ∧ s3 ≤ 1900) (b4 : 0 ≤ s4 ∧ s4 ≤ 1900) (b5 : 262143 ≤ s5 ∧ s5 ≤ 262168) (m0 : HP 53 (4096 * s0 + s1) (256 * s2 + 2) M) (m1 : HP 47 (s2) (s5) M) (m2 : HP 45 (s2) (s3) M) (m3 : HP 46 (s2) (s4) M) (m4 : HP 80 (16 * s3 + 8) (0 : Int) M) (f0 : 0 ≤ (s3 + (-1) * s4 + 8)) (f1 : 0 ≤ ((-1) * s3 + s4 - 8)) (hG : gI M) : (HP 53 (4096 * s0 + s1) (256 * s4 + 3) M ∧ True) := by
  refine ⟨r_ex (K := 0) (j := 1) m0 m1 m3 ⟨by omega, by omega, by decide⟩ (by omega) (by decide) (fun s hs hE e => ?_), trivial⟩
  have ha : s2 = (qps (tm M) s.1 2 : Int) := hE.2.2.2.2
  have ha : qps (tm M) s.1 2 = s2.toNat := by omega
  have g1 := (q45 m2).2
  have g2 := (q46 m3).2
  have hk : qsz (tm M) s.1 2 = 8 ∧ qgr (tm M) (tS (tm M) (qps (tm M) s.1 2)) 8 = true := ⟨by unfold qsz; rw [ha]; omega, qgr_i (by rw [ha]; exact gr_o (s := tS (tm M) s2.toNat) (k := 8) (Eq.mp hp_80 m4) ⟨by omega, by decide⟩)⟩
  show qcW (if qsz (tm M) s.1 2 = 8 ∧ qgr (tm M) (tS (tm M) (qps (tm M) s.1 2)) 8 = true then none else some 4) (tK (tm M) (qps (tm M) s.1 2)) = none
  rw [e, qcW_x (by omega)]
  exact if_pos hk
theorem rul_146 : Rul r_146 := by
  refine ⟨fun _ ρ M hm hB hF hG => ?_, fun gi gv hg => (by cases hg)⟩
  have H := cr_146 M (ρ 0) (ρ 1) (ρ 2) (ρ 3) (ρ 4) (ρ 5) (hB _ List.mem_cons_self) (hB _ (List.mem_cons_of_mem _ List.mem_cons_self)) (hB _ (List.mem_cons_of_mem _ (List.mem_cons_of_mem _ List.mem_cons_self))) (hB _ (List.mem_cons_of_mem _ (List.mem_cons_of_mem _ (List.mem_cons_of_mem _ List.mem_cons_self)))) (hB _ (List.mem_cons_of_mem _ (List.mem_cons_of_mem _ (List.mem_cons_of_mem _ (List.mem_cons_of_mem _ List.mem_cons_self))))) (hB _ (List.mem_cons_of_mem _ (List.mem_cons_of_mem _ (List.mem_cons_of_mem _ (List.mem_cons_of_mem _ (List.mem_cons_of_mem _ List.mem_cons_self)))))) (cvp 53 (x' := (4096 * (ρ 0) + (ρ 1))) (y' := (256 * (ρ 2) + 2)) (by show 0 + (4096 * ρ 0 + (1 * ρ 1 + 0)) = _; omega) (by show 2 + (256 * ρ 2 + 0) = _; omega) (hm _ List.mem_cons_self)) (cvp 47 (x' := ((ρ 2))) (y' := ((ρ 5))) (by show 0 + (1 * ρ 2 + 0) = _; omega) (by show 0 + (1 * ρ 5 + 0) = _; omega) (hm _ (List.mem_cons_of_mem _ List.mem_cons_self))) (cvp 45 (x' := ((ρ 2))) (y' := ((ρ 3))) (by show 0 + (1 * ρ 2 + 0) = _; omega) (by show 0 + (1 * ρ 3 + 0) = _; omega) (hm _ (List.mem_cons_of_mem _ (List.mem_cons_of_mem _ List.mem_cons_self)))) (cvp 46 (x' := ((ρ 2))) (y' := ((ρ 4))) (by show 0 + (1 * ρ 2 + 0) = _; omega) (by show 0 + (1 * ρ 4 + 0) = _; omega) (hm _ (List.mem_cons_of_mem _ (List.mem_cons_of_mem _ (List.mem_cons_of_mem _ List.mem_cons_self))))) (cvp 80 (x' := (16 * (ρ 3) + 8)) (y' := (0 : Int)) (by show 8 + (16 * ρ 3 + 0) = _; omega) (by show 0 + 0 = _; omega) (hm _ (List.mem_cons_of_mem _ (List.mem_cons_of_mem _ (List.mem_cons_of_mem _ (List.mem_cons_of_mem _ List.mem_cons_self)))))) (by have h := hF _ List.mem_cons_self; have h : 0 ≤ 8 + (1 * ρ 3 + ((-1) * ρ 4 + 0)) := h; omega) (by have h := hF _ (List.mem_cons_of_mem _ List.mem_cons_self); have h : 0 ≤ (-8) + ((-1) * ρ 3 + (1 * ρ 4 + 0)) := h; omega) hG
  obtain ⟨k0, -⟩ := H
  exact ⟨_, List.mem_cons_self, ρ, fun _ _ => rfl, (okM_c (pvp 53 (by show 0 + (4096 * ρ 0 + (1 * ρ 1 + 0)) = _; omega) (by show 3 + (256 * ρ 4 + 0) = _; omega) k0) okM_n), okB_n, okF_n⟩
-- ln0
theorem cr_147 (M : pM) (s0 s1 s2 : Int) (b0 : 0 ≤ s0 ∧ s0 ≤ 1900) (b1 : 0 ≤ s1 ∧ s1 ≤ 950) (b2 : 0 ≤ s2 ∧ s2 ≤ 1900) (m0 : HP 53 (4096 * s0 + s1) (256 * s2 + 3) M) (hG : gI M) : (HP 89 (4096 * s0 + s1) (s2) M ∧ True) := by
  obtain ⟨s, h1, h2⟩ := ex_o (K := 0) (j := 2) (a := s2) (Eq.mp hp_53 m0) ⟨by omega, by omega, by decide, by decide⟩
  exact ⟨Eq.mpr hp_89 ⟨s, 0, h1, ⟨h2.2.2.1, h2.2.2.2.1⟩, h2.2.2.2.2⟩, trivial⟩
theorem rul_147 : Rul r_147 := by
  refine ⟨fun _ ρ M hm hB hF hG => ?_, fun gi gv hg => (by cases hg)⟩
  have H := cr_147 M (ρ 0) (ρ 1) (ρ 2) (hB _ List.mem_cons_self) (hB _ (List.mem_cons_of_mem _ List.mem_cons_self)) (hB _ (List.mem_cons_of_mem _ (List.mem_cons_of_mem _ List.mem_cons_self))) (cvp 53 (x' := (4096 * (ρ 0) + (ρ 1))) (y' := (256 * (ρ 2) + 3)) (by show 0 + (4096 * ρ 0 + (1 * ρ 1 + 0)) = _; omega) (by show 3 + (256 * ρ 2 + 0) = _; omega) (hm _ List.mem_cons_self)) hG
  obtain ⟨k0, -⟩ := H
  exact ⟨_, List.mem_cons_self, ρ, fun _ _ => rfl, (okM_c (pvp 89 (by show 0 + (4096 * ρ 0 + (1 * ρ 1 + 0)) = _; omega) (by show 0 + (1 * ρ 2 + 0) = _; omega) k0) okM_n), okB_n, okF_n⟩
-- fk17
theorem cr_148 (M : pM) (s0 s1 s2 s3 s4 : Int) (b0 : 0 ≤ s0 ∧ s0 ≤ 1900) (b1 : 0 ≤ s1 ∧ s1 ≤ 950) (b2 : 0 ≤ s2 ∧ s2 ≤ 1900) (b3 : 0 ≤ s3 ∧ s3 ≤ 1900) (b4 : 256 ≤ s4 ∧ s4 ≤ 600000) (m0 : HP 53 (4096 * s0 + s1) (256 * s2 + 17) M) (m1 : HP 47 (s2) (s4) M) (m2 : HP 45 (s2) (s3) M) (f0 : 0 ≤ ((-1) * s4 + 262142)) (hG : gI M) : (HP 66 (s3) (2 : Int) M ∧ True) := by
  refine ⟨r_fl (K := 1) (j := 0) m0 m1 m2 ⟨by omega, by omega, by decide⟩ (fun s hs hE e => ?_), trivial⟩
  show qcW (if qsz (tm M) s.1 1 = 1 ∧ qgr (tm M) (tS (tm M) (qps (tm M) s.1 1)) 1 = true then qtd (s.2 16 (qlt (tm M) s.1 1 0 - 97).toNat) else some 4) (tK (tm M) (qps (tm M) s.1 1)) = some 2
  rw [e]
  exact qcW_2 (by omega) (by omega)
theorem rul_148 : Rul r_148 := by
  refine ⟨fun _ ρ M hm hB hF hG => ?_, fun gi gv hg => (by cases hg)⟩
  have H := cr_148 M (ρ 0) (ρ 1) (ρ 2) (ρ 3) (ρ 4) (hB _ List.mem_cons_self) (hB _ (List.mem_cons_of_mem _ List.mem_cons_self)) (hB _ (List.mem_cons_of_mem _ (List.mem_cons_of_mem _ List.mem_cons_self))) (hB _ (List.mem_cons_of_mem _ (List.mem_cons_of_mem _ (List.mem_cons_of_mem _ List.mem_cons_self)))) (hB _ (List.mem_cons_of_mem _ (List.mem_cons_of_mem _ (List.mem_cons_of_mem _ (List.mem_cons_of_mem _ List.mem_cons_self))))) (cvp 53 (x' := (4096 * (ρ 0) + (ρ 1))) (y' := (256 * (ρ 2) + 17)) (by show 0 + (4096 * ρ 0 + (1 * ρ 1 + 0)) = _; omega) (by show 17 + (256 * ρ 2 + 0) = _; omega) (hm _ List.mem_cons_self)) (cvp 47 (x' := ((ρ 2))) (y' := ((ρ 4))) (by show 0 + (1 * ρ 2 + 0) = _; omega) (by show 0 + (1 * ρ 4 + 0) = _; omega) (hm _ (List.mem_cons_of_mem _ List.mem_cons_self))) (cvp 45 (x' := ((ρ 2))) (y' := ((ρ 3))) (by show 0 + (1 * ρ 2 + 0) = _; omega) (by show 0 + (1 * ρ 3 + 0) = _; omega) (hm _ (List.mem_cons_of_mem _ (List.mem_cons_of_mem _ List.mem_cons_self)))) (by have h := hF _ List.mem_cons_self; have h : 0 ≤ 262142 + ((-1) * ρ 4 + 0) := h; omega) hG
  obtain ⟨k0, -⟩ := H
  exact ⟨_, List.mem_cons_self, ρ, fun _ _ => rfl, (okM_c (pvp 66 (by show 0 + (1 * ρ 3 + 0) = _; omega) (by show 2 + 0 = _; omega) k0) okM_n), okB_n, okF_n⟩
-- fl17
theorem cr_149 (M : pM) (s0 s1 s2 s3 s4 : Int) (b0 : 0 ≤ s0 ∧ s0 ≤ 1900) (b1 : 0 ≤ s1 ∧ s1 ≤ 950) (b2 : 0 ≤ s2 ∧ s2 ≤ 1900) (b3 : 0 ≤ s3 ∧ s3 ≤ 1900) (b4 : 256 ≤ s4 ∧ s4 ≤ 600000) (m0 : HP 53 (4096 * s0 + s1) (256 * s2 + 17) M) (m1 : HP 47 (s2) (s4) M) (m2 : HP 45 (s2) (s3) M) (f0 : 0 ≤ (s4 - 262169)) (hG : gI M) : (HP 66 (s3) (2 : Int) M ∧ True) := by
  refine ⟨r_fl (K := 1) (j := 0) m0 m1 m2 ⟨by omega, by omega, by decide⟩ (fun s hs hE e => ?_), trivial⟩
  show qcW (if qsz (tm M) s.1 1 = 1 ∧ qgr (tm M) (tS (tm M) (qps (tm M) s.1 1)) 1 = true then qtd (s.2 16 (qlt (tm M) s.1 1 0 - 97).toNat) else some 4) (tK (tm M) (qps (tm M) s.1 1)) = some 2
  rw [e]
  exact qcW_2 (by omega) (by omega)
theorem rul_149 : Rul r_149 := by
  refine ⟨fun _ ρ M hm hB hF hG => ?_, fun gi gv hg => (by cases hg)⟩
  have H := cr_149 M (ρ 0) (ρ 1) (ρ 2) (ρ 3) (ρ 4) (hB _ List.mem_cons_self) (hB _ (List.mem_cons_of_mem _ List.mem_cons_self)) (hB _ (List.mem_cons_of_mem _ (List.mem_cons_of_mem _ List.mem_cons_self))) (hB _ (List.mem_cons_of_mem _ (List.mem_cons_of_mem _ (List.mem_cons_of_mem _ List.mem_cons_self)))) (hB _ (List.mem_cons_of_mem _ (List.mem_cons_of_mem _ (List.mem_cons_of_mem _ (List.mem_cons_of_mem _ List.mem_cons_self))))) (cvp 53 (x' := (4096 * (ρ 0) + (ρ 1))) (y' := (256 * (ρ 2) + 17)) (by show 0 + (4096 * ρ 0 + (1 * ρ 1 + 0)) = _; omega) (by show 17 + (256 * ρ 2 + 0) = _; omega) (hm _ List.mem_cons_self)) (cvp 47 (x' := ((ρ 2))) (y' := ((ρ 4))) (by show 0 + (1 * ρ 2 + 0) = _; omega) (by show 0 + (1 * ρ 4 + 0) = _; omega) (hm _ (List.mem_cons_of_mem _ List.mem_cons_self))) (cvp 45 (x' := ((ρ 2))) (y' := ((ρ 3))) (by show 0 + (1 * ρ 2 + 0) = _; omega) (by show 0 + (1 * ρ 3 + 0) = _; omega) (hm _ (List.mem_cons_of_mem _ (List.mem_cons_of_mem _ List.mem_cons_self)))) (by have h := hF _ List.mem_cons_self; have h : 0 ≤ (-262169) + (1 * ρ 4 + 0) := h; omega) hG
  obtain ⟨k0, -⟩ := H
  exact ⟨_, List.mem_cons_self, ρ, fun _ _ => rfl, (okM_c (pvp 66 (by show 0 + (1 * ρ 3 + 0) = _; omega) (by show 2 + 0 = _; omega) k0) okM_n), okB_n, okF_n⟩
-- len17_1
theorem cr_150 (M : pM) (s0 s1 s2 s3 s4 s5 : Int) (b0 : 0 ≤ s0 ∧ s0 ≤ 1900) (b1 : 0 ≤ s1 ∧ s1 ≤ 950) (b2 : 0 ≤ s2 ∧ s2 ≤ 1900) (b3 : 0 ≤ s3 ∧ s3 ≤ 1900) (b4 : 0 ≤ s4 ∧ s4 ≤ 1900) (b5 : 262143 ≤ s5 ∧ s5 ≤ 262168) (m0 : HP 53 (4096 * s0 + s1) (256 * s2 + 17) M) (m1 : HP 47 (s2) (s5) M) (m2 : HP 45 (s2) (s3) M) (m3 : HP 46 (s2) (s4) M) (f0 : 0 ≤ ((-1) * s3 + s4 - 2)) (hG : gI M) : (HP 66 (s3) (4 : Int) M ∧ True) := by
  refine ⟨r_fl (K := 1) (j := 0) m0 m1 m2 ⟨by omega, by omega, by decide⟩ (fun s hs hE e => ?_), trivial⟩
  have ha : s2 = (qps (tm M) s.1 1 : Int) := hE.2.2.2.2
  have ha : qps (tm M) s.1 1 = s2.toNat := by omega
  have g1 := (q45 m2).2
  have g2 := (q46 m3).2
  show qcW (if qsz (tm M) s.1 1 = 1 ∧ qgr (tm M) (tS (tm M) (qps (tm M) s.1 1)) 1 = true then qtd (s.2 16 (qlt (tm M) s.1 1 0 - 97).toNat) else some 4) (tK (tm M) (qps (tm M) s.1 1)) = some 4
  rw [e, qcW_x (by omega), if_neg]
  intro hh
  have hh := hh.1
  unfold qsz at hh
  rw [ha] at hh
  omega
theorem rul_150 : Rul r_150 := by
  refine ⟨fun _ ρ M hm hB hF hG => ?_, fun gi gv hg => (by cases hg)⟩
  have H := cr_150 M (ρ 0) (ρ 1) (ρ 2) (ρ 3) (ρ 4) (ρ 5) (hB _ List.mem_cons_self) (hB _ (List.mem_cons_of_mem _ List.mem_cons_self)) (hB _ (List.mem_cons_of_mem _ (List.mem_cons_of_mem _ List.mem_cons_self))) (hB _ (List.mem_cons_of_mem _ (List.mem_cons_of_mem _ (List.mem_cons_of_mem _ List.mem_cons_self)))) (hB _ (List.mem_cons_of_mem _ (List.mem_cons_of_mem _ (List.mem_cons_of_mem _ (List.mem_cons_of_mem _ List.mem_cons_self))))) (hB _ (List.mem_cons_of_mem _ (List.mem_cons_of_mem _ (List.mem_cons_of_mem _ (List.mem_cons_of_mem _ (List.mem_cons_of_mem _ List.mem_cons_self)))))) (cvp 53 (x' := (4096 * (ρ 0) + (ρ 1))) (y' := (256 * (ρ 2) + 17)) (by show 0 + (4096 * ρ 0 + (1 * ρ 1 + 0)) = _; omega) (by show 17 + (256 * ρ 2 + 0) = _; omega) (hm _ List.mem_cons_self)) (cvp 47 (x' := ((ρ 2))) (y' := ((ρ 5))) (by show 0 + (1 * ρ 2 + 0) = _; omega) (by show 0 + (1 * ρ 5 + 0) = _; omega) (hm _ (List.mem_cons_of_mem _ List.mem_cons_self))) (cvp 45 (x' := ((ρ 2))) (y' := ((ρ 3))) (by show 0 + (1 * ρ 2 + 0) = _; omega) (by show 0 + (1 * ρ 3 + 0) = _; omega) (hm _ (List.mem_cons_of_mem _ (List.mem_cons_of_mem _ List.mem_cons_self)))) (cvp 46 (x' := ((ρ 2))) (y' := ((ρ 4))) (by show 0 + (1 * ρ 2 + 0) = _; omega) (by show 0 + (1 * ρ 4 + 0) = _; omega) (hm _ (List.mem_cons_of_mem _ (List.mem_cons_of_mem _ (List.mem_cons_of_mem _ List.mem_cons_self))))) (by have h := hF _ List.mem_cons_self; have h : 0 ≤ (-2) + ((-1) * ρ 3 + (1 * ρ 4 + 0)) := h; omega) hG
  obtain ⟨k0, -⟩ := H
  exact ⟨_, List.mem_cons_self, ρ, fun _ _ => rfl, (okM_c (pvp 66 (by show 0 + (1 * ρ 3 + 0) = _; omega) (by show 4 + 0 = _; omega) k0) okM_n), okB_n, okF_n⟩
-- let17_0
theorem cr_151 (M : pM) (s0 s1 s2 s3 s4 s5 s6 s7 : Int) (b0 : 0 ≤ s0 ∧ s0 ≤ 1900) (b1 : 0 ≤ s1 ∧ s1 ≤ 950) (b2 : 0 ≤ s2 ∧ s2 ≤ 1900) (b3 : 0 ≤ s3 ∧ s3 ≤ 1900) (b4 : 0 ≤ s4 ∧ s4 ≤ 1900) (b5 : 262143 ≤ s5 ∧ s5 ≤ 262168) (b6 : 0 ≤ s6 ∧ s6 ≤ 0) (b7 : 0 ≤ s7 ∧ s7 ≤ 255) (m0 : HP 53 (4096 * s0 + s1) (256 * s2 + 17) M) (m1 : HP 47 (s2) (s5) M) (m2 : HP 45 (s2) (s3) M) (m3 : HP 46 (s2) (s4) M) (m4 : (0 ≤ (s3 + s6) ∧ M 1 (s3 + s6).toNat = (s7))) (f0 : 0 ≤ (s3 + (-1) * s4 + 1)) (f1 : 0 ≤ ((-1) * s3 + s4 - 1)) (f2 : 0 ≤ ((-1) * s7 + 96)) (hG : gI M) : (HP 66 (s3) (4 : Int) M ∧ True) := by
  refine ⟨r_fl (K := 1) (j := 0) m0 m1 m2 ⟨by omega, by omega, by decide⟩ (fun s hs hE e => ?_), trivial⟩
  have ha : s2 = (qps (tm M) s.1 1 : Int) := hE.2.2.2.2
  have ha : qps (tm M) s.1 1 = s2.toNat := by omega
  have g1 := (q45 m2).2
  have g2 := (q46 m3).2
  show qcW (if qsz (tm M) s.1 1 = 1 ∧ qgr (tm M) (tS (tm M) (qps (tm M) s.1 1)) 1 = true then qtd (s.2 16 (qlt (tm M) s.1 1 0 - 97).toNat) else some 4) (tK (tm M) (qps (tm M) s.1 1)) = some 4
  rw [e, qcW_x (by omega), if_neg]
  intro hh
  have hh := qgr_o (i := s6.toNat) hh.2 (by omega)
  rw [ha, show tS (tm M) s2.toNat + s6.toNat = (s3 + s6).toNat by omega, rd1 (by rw [show s3 + s6 = s3 + s6 by omega]; exact m4) (by omega)] at hh
  omega
theorem rul_151 : Rul r_151 := by
  refine ⟨fun _ ρ M hm hB hF hG => ?_, fun gi gv hg => (by cases hg)⟩
  have H := cr_151 M (ρ 0) (ρ 1) (ρ 2) (ρ 3) (ρ 4) (ρ 5) (ρ 6) (ρ 7) (hB _ List.mem_cons_self) (hB _ (List.mem_cons_of_mem _ List.mem_cons_self)) (hB _ (List.mem_cons_of_mem _ (List.mem_cons_of_mem _ List.mem_cons_self))) (hB _ (List.mem_cons_of_mem _ (List.mem_cons_of_mem _ (List.mem_cons_of_mem _ List.mem_cons_self)))) (hB _ (List.mem_cons_of_mem _ (List.mem_cons_of_mem _ (List.mem_cons_of_mem _ (List.mem_cons_of_mem _ List.mem_cons_self))))) (hB _ (List.mem_cons_of_mem _ (List.mem_cons_of_mem _ (List.mem_cons_of_mem _ (List.mem_cons_of_mem _ (List.mem_cons_of_mem _ List.mem_cons_self)))))) (hB _ (List.mem_cons_of_mem _ (List.mem_cons_of_mem _ (List.mem_cons_of_mem _ (List.mem_cons_of_mem _ (List.mem_cons_of_mem _ (List.mem_cons_of_mem _ List.mem_cons_self))))))) (hB _ (List.mem_cons_of_mem _ (List.mem_cons_of_mem _ (List.mem_cons_of_mem _ (List.mem_cons_of_mem _ (List.mem_cons_of_mem _ (List.mem_cons_of_mem _ (List.mem_cons_of_mem _ List.mem_cons_self)))))))) (cvp 53 (x' := (4096 * (ρ 0) + (ρ 1))) (y' := (256 * (ρ 2) + 17)) (by show 0 + (4096 * ρ 0 + (1 * ρ 1 + 0)) = _; omega) (by show 17 + (256 * ρ 2 + 0) = _; omega) (hm _ List.mem_cons_self)) (cvp 47 (x' := ((ρ 2))) (y' := ((ρ 5))) (by show 0 + (1 * ρ 2 + 0) = _; omega) (by show 0 + (1 * ρ 5 + 0) = _; omega) (hm _ (List.mem_cons_of_mem _ List.mem_cons_self))) (cvp 45 (x' := ((ρ 2))) (y' := ((ρ 3))) (by show 0 + (1 * ρ 2 + 0) = _; omega) (by show 0 + (1 * ρ 3 + 0) = _; omega) (hm _ (List.mem_cons_of_mem _ (List.mem_cons_of_mem _ List.mem_cons_self)))) (cvp 46 (x' := ((ρ 2))) (y' := ((ρ 4))) (by show 0 + (1 * ρ 2 + 0) = _; omega) (by show 0 + (1 * ρ 4 + 0) = _; omega) (hm _ (List.mem_cons_of_mem _ (List.mem_cons_of_mem _ (List.mem_cons_of_mem _ List.mem_cons_self))))) (cvm (c := 1) (by decide) (x' := ((ρ 3) + (ρ 6))) (y' := ((ρ 7))) (by show 0 + (1 * ρ 3 + (1 * ρ 6 + 0)) = _; omega) (by show 0 + (1 * ρ 7 + 0) = _; omega) (hm _ (List.mem_cons_of_mem _ (List.mem_cons_of_mem _ (List.mem_cons_of_mem _ (List.mem_cons_of_mem _ List.mem_cons_self)))))) (by have h := hF _ List.mem_cons_self; have h : 0 ≤ 1 + (1 * ρ 3 + ((-1) * ρ 4 + 0)) := h; omega) (by have h := hF _ (List.mem_cons_of_mem _ List.mem_cons_self); have h : 0 ≤ (-1) + ((-1) * ρ 3 + (1 * ρ 4 + 0)) := h; omega) (by have h := hF _ (List.mem_cons_of_mem _ (List.mem_cons_of_mem _ List.mem_cons_self)); have h : 0 ≤ 96 + ((-1) * ρ 7 + 0) := h; omega) hG
  obtain ⟨k0, -⟩ := H
  exact ⟨_, List.mem_cons_self, ρ, fun _ _ => rfl, (okM_c (pvp 66 (by show 0 + (1 * ρ 3 + 0) = _; omega) (by show 4 + 0 = _; omega) k0) okM_n), okB_n, okF_n⟩
-- let17_1
theorem cr_152 (M : pM) (s0 s1 s2 s3 s4 s5 s6 s7 : Int) (b0 : 0 ≤ s0 ∧ s0 ≤ 1900) (b1 : 0 ≤ s1 ∧ s1 ≤ 950) (b2 : 0 ≤ s2 ∧ s2 ≤ 1900) (b3 : 0 ≤ s3 ∧ s3 ≤ 1900) (b4 : 0 ≤ s4 ∧ s4 ≤ 1900) (b5 : 262143 ≤ s5 ∧ s5 ≤ 262168) (b6 : 0 ≤ s6 ∧ s6 ≤ 0) (b7 : 0 ≤ s7 ∧ s7 ≤ 255) (m0 : HP 53 (4096 * s0 + s1) (256 * s2 + 17) M) (m1 : HP 47 (s2) (s5) M) (m2 : HP 45 (s2) (s3) M) (m3 : HP 46 (s2) (s4) M) (m4 : (0 ≤ (s3 + s6) ∧ M 1 (s3 + s6).toNat = (s7))) (f0 : 0 ≤ (s3 + (-1) * s4 + 1)) (f1 : 0 ≤ ((-1) * s3 + s4 - 1)) (f2 : 0 ≤ (s7 - 105)) (hG : gI M) : (HP 66 (s3) (4 : Int) M ∧ True) := by
  refine ⟨r_fl (K := 1) (j := 0) m0 m1 m2 ⟨by omega, by omega, by decide⟩ (fun s hs hE e => ?_), trivial⟩
  have ha : s2 = (qps (tm M) s.1 1 : Int) := hE.2.2.2.2
  have ha : qps (tm M) s.1 1 = s2.toNat := by omega
  have g1 := (q45 m2).2
  have g2 := (q46 m3).2
  show qcW (if qsz (tm M) s.1 1 = 1 ∧ qgr (tm M) (tS (tm M) (qps (tm M) s.1 1)) 1 = true then qtd (s.2 16 (qlt (tm M) s.1 1 0 - 97).toNat) else some 4) (tK (tm M) (qps (tm M) s.1 1)) = some 4
  rw [e, qcW_x (by omega), if_neg]
  intro hh
  have hh := qgr_o (i := s6.toNat) hh.2 (by omega)
  rw [ha, show tS (tm M) s2.toNat + s6.toNat = (s3 + s6).toNat by omega, rd1 (by rw [show s3 + s6 = s3 + s6 by omega]; exact m4) (by omega)] at hh
  omega
theorem rul_152 : Rul r_152 := by
  refine ⟨fun _ ρ M hm hB hF hG => ?_, fun gi gv hg => (by cases hg)⟩
  have H := cr_152 M (ρ 0) (ρ 1) (ρ 2) (ρ 3) (ρ 4) (ρ 5) (ρ 6) (ρ 7) (hB _ List.mem_cons_self) (hB _ (List.mem_cons_of_mem _ List.mem_cons_self)) (hB _ (List.mem_cons_of_mem _ (List.mem_cons_of_mem _ List.mem_cons_self))) (hB _ (List.mem_cons_of_mem _ (List.mem_cons_of_mem _ (List.mem_cons_of_mem _ List.mem_cons_self)))) (hB _ (List.mem_cons_of_mem _ (List.mem_cons_of_mem _ (List.mem_cons_of_mem _ (List.mem_cons_of_mem _ List.mem_cons_self))))) (hB _ (List.mem_cons_of_mem _ (List.mem_cons_of_mem _ (List.mem_cons_of_mem _ (List.mem_cons_of_mem _ (List.mem_cons_of_mem _ List.mem_cons_self)))))) (hB _ (List.mem_cons_of_mem _ (List.mem_cons_of_mem _ (List.mem_cons_of_mem _ (List.mem_cons_of_mem _ (List.mem_cons_of_mem _ (List.mem_cons_of_mem _ List.mem_cons_self))))))) (hB _ (List.mem_cons_of_mem _ (List.mem_cons_of_mem _ (List.mem_cons_of_mem _ (List.mem_cons_of_mem _ (List.mem_cons_of_mem _ (List.mem_cons_of_mem _ (List.mem_cons_of_mem _ List.mem_cons_self)))))))) (cvp 53 (x' := (4096 * (ρ 0) + (ρ 1))) (y' := (256 * (ρ 2) + 17)) (by show 0 + (4096 * ρ 0 + (1 * ρ 1 + 0)) = _; omega) (by show 17 + (256 * ρ 2 + 0) = _; omega) (hm _ List.mem_cons_self)) (cvp 47 (x' := ((ρ 2))) (y' := ((ρ 5))) (by show 0 + (1 * ρ 2 + 0) = _; omega) (by show 0 + (1 * ρ 5 + 0) = _; omega) (hm _ (List.mem_cons_of_mem _ List.mem_cons_self))) (cvp 45 (x' := ((ρ 2))) (y' := ((ρ 3))) (by show 0 + (1 * ρ 2 + 0) = _; omega) (by show 0 + (1 * ρ 3 + 0) = _; omega) (hm _ (List.mem_cons_of_mem _ (List.mem_cons_of_mem _ List.mem_cons_self)))) (cvp 46 (x' := ((ρ 2))) (y' := ((ρ 4))) (by show 0 + (1 * ρ 2 + 0) = _; omega) (by show 0 + (1 * ρ 4 + 0) = _; omega) (hm _ (List.mem_cons_of_mem _ (List.mem_cons_of_mem _ (List.mem_cons_of_mem _ List.mem_cons_self))))) (cvm (c := 1) (by decide) (x' := ((ρ 3) + (ρ 6))) (y' := ((ρ 7))) (by show 0 + (1 * ρ 3 + (1 * ρ 6 + 0)) = _; omega) (by show 0 + (1 * ρ 7 + 0) = _; omega) (hm _ (List.mem_cons_of_mem _ (List.mem_cons_of_mem _ (List.mem_cons_of_mem _ (List.mem_cons_of_mem _ List.mem_cons_self)))))) (by have h := hF _ List.mem_cons_self; have h : 0 ≤ 1 + (1 * ρ 3 + ((-1) * ρ 4 + 0)) := h; omega) (by have h := hF _ (List.mem_cons_of_mem _ List.mem_cons_self); have h : 0 ≤ (-1) + ((-1) * ρ 3 + (1 * ρ 4 + 0)) := h; omega) (by have h := hF _ (List.mem_cons_of_mem _ (List.mem_cons_of_mem _ List.mem_cons_self)); have h : 0 ≤ (-105) + (1 * ρ 7 + 0) := h; omega) hG
  obtain ⟨k0, -⟩ := H
  exact ⟨_, List.mem_cons_self, ρ, fun _ _ => rfl, (okM_c (pvp 66 (by show 0 + (1 * ρ 3 + 0) = _; omega) (by show 4 + 0 = _; omega) k0) okM_n), okB_n, okF_n⟩
-- told1
theorem cr_153 (M : pM) (s0 s1 s2 s3 s4 s5 s6 s7 s8 s9 : Int) (b0 : 0 ≤ s0 ∧ s0 ≤ 1900) (b1 : 0 ≤ s1 ∧ s1 ≤ 950) (b2 : 0 ≤ s2 ∧ s2 ≤ 1900) (b3 : 0 ≤ s3 ∧ s3 ≤ 1900) (b4 : 0 ≤ s4 ∧ s4 ≤ 1900) (b5 : 262143 ≤ s5 ∧ s5 ≤ 262168) (b6 : 0 ≤ s6 ∧ s6 ≤ 7) (b7 : (-2147483648) ≤ s7 ∧ s7 ≤ 2147483647) (b8 : (-2147483648) ≤ s8 ∧ s8 ≤ 2147483647) (b9 : (-2147483648) ≤ s9 ∧ s9 ≤ 2147483647) (m0 : HP 53 (4096 * s0 + s1) (256 * s2 + 17) M) (m1 : HP 47 (s2) (s5) M) (m2 : HP 45 (s2) (s3) M) (m3 : HP 46 (s2) (s4) M) (m4 : (0 ≤ (s3) ∧ M 1 (s3).toNat = (s6 + 97))) (m5 : HP 72 (4096 * s0 + s1) (s7) M) (m6 : HP 104 (s6 + 4294967296 * s7) (s8) M) (m7 : HP 100 (4294967296 * s8 + 1) (s9) M) (f0 : 0 ≤ (s3 + (-1) * s4 + 1)) (f1 : 0 ≤ ((-1) * s3 + s4 - 1)) (hG : gI M) : (HP 53 (4096 * s0 + s1) (256 * s4 + 18) M ∧ HP 87 (s0) (s6) M ∧ 0 ≤ ((-1) * s9) ∧ 0 ≤ (s9) ∧ True) ∨ (HP 66 (s3) (3 : Int) M ∧ 0 ≤ ((-1) * s9 + 1) ∧ 0 ≤ (s9 - 1) ∧ True) := by
  have ht := t4_bit (y := s6.toNat) (m := s7) (o := s8) (by omega) m6 (by omega) m7 (by omega)
  obtain ⟨S, hS, hb⟩ := Eq.mp hp_72 m5
  have hb := hb s6.toNat (by omega)
  have h01 := qb4_01 s7 s6.toNat
  obtain ⟨S2, hS2, hE2⟩ := ex_o (K := 1) (j := 0) (a := s2) (Eq.mp hp_53 m0) ⟨by omega, by omega, by decide, by decide⟩
  have ha2 : s2 = (qps (tm M) S2.1 1 : Int) := hE2.2.2.2.2
  have ha : qps (tm M) S2.1 1 = s2.toNat := by omega
  have g1 := (q45 m2).2
  have g2 := (q46 m3).2
  have hr := rd1 m4 (by omega)
  have hl : qlt (tm M) S2.1 1 0 = 97 + s6 := by unfold qlt; rw [ha, show tS (tm M) s2.toNat + 0 = s3.toNat by omega, hr]; omega
  have hc : ∀ s : Nat × pM, qat (tm M) (4096 * s0 + s1) s → tK (tm M) (qps (tm M) s.1 1) = s5 → qck (tm M) s.1 s.2 1 1 = qtd s9 := by
    intro s hs e
    have es := qat_u hS hs
    have e2 := qat_u hS2 hs
    subst e2
    show qcW (if qsz (tm M) s.1 1 = 1 ∧ qgr (tm M) (tS (tm M) (qps (tm M) s.1 1)) 1 = true then qtd (s.2 16 (qlt (tm M) s.1 1 0 - 97).toNat) else some 4) (tK (tm M) (qps (tm M) s.1 1)) = _
    rw [e, qcW_x (by omega), if_pos ⟨by unfold qsz; rw [ha]; omega, qgr_i (fun i hi => by rw [ha, show tS (tm M) s2.toNat + i = s3.toNat by omega, hr]; omega)⟩, hl, show (97 + s6 - 97).toNat = s6.toNat by omega, es, ← hb, ← ht]
  rcases h01 with h0 | h0
  · exact Or.inl ⟨r_ex (K := 1) (j := 0) m0 m1 m3 ⟨by omega, by omega, by decide⟩ (by omega) (by decide) (fun s hs hE e => (hc s hs e).trans (qtd_0 (by omega))), Eq.mpr hp_87 ⟨by omega, by rw [show s0.toNat = S2.1 by have := qat_p (P := s0) (l := s1) hS2 ⟨by omega, by omega, by omega⟩; omega]; exact hl⟩, by omega, by omega, trivial⟩
  · exact Or.inr ⟨r_fl (K := 1) (j := 0) m0 m1 m2 ⟨by omega, by omega, by decide⟩ (fun s hs hE e => (hc s hs e).trans (qtd_1 (by omega))), by omega, by omega, trivial⟩
theorem rul_153 : Rul r_153 := by
  refine ⟨fun _ ρ M hm hB hF hG => ?_, fun gi gv hg => (by cases hg)⟩
  have H := cr_153 M (ρ 0) (ρ 1) (ρ 2) (ρ 3) (ρ 4) (ρ 5) (ρ 6) (ρ 7) (ρ 8) (ρ 9) (hB _ List.mem_cons_self) (hB _ (List.mem_cons_of_mem _ List.mem_cons_self)) (hB _ (List.mem_cons_of_mem _ (List.mem_cons_of_mem _ List.mem_cons_self))) (hB _ (List.mem_cons_of_mem _ (List.mem_cons_of_mem _ (List.mem_cons_of_mem _ List.mem_cons_self)))) (hB _ (List.mem_cons_of_mem _ (List.mem_cons_of_mem _ (List.mem_cons_of_mem _ (List.mem_cons_of_mem _ List.mem_cons_self))))) (hB _ (List.mem_cons_of_mem _ (List.mem_cons_of_mem _ (List.mem_cons_of_mem _ (List.mem_cons_of_mem _ (List.mem_cons_of_mem _ List.mem_cons_self)))))) (hB _ (List.mem_cons_of_mem _ (List.mem_cons_of_mem _ (List.mem_cons_of_mem _ (List.mem_cons_of_mem _ (List.mem_cons_of_mem _ (List.mem_cons_of_mem _ List.mem_cons_self))))))) (hB _ (List.mem_cons_of_mem _ (List.mem_cons_of_mem _ (List.mem_cons_of_mem _ (List.mem_cons_of_mem _ (List.mem_cons_of_mem _ (List.mem_cons_of_mem _ (List.mem_cons_of_mem _ List.mem_cons_self)))))))) (hB _ (List.mem_cons_of_mem _ (List.mem_cons_of_mem _ (List.mem_cons_of_mem _ (List.mem_cons_of_mem _ (List.mem_cons_of_mem _ (List.mem_cons_of_mem _ (List.mem_cons_of_mem _ (List.mem_cons_of_mem _ List.mem_cons_self))))))))) (hB _ (List.mem_cons_of_mem _ (List.mem_cons_of_mem _ (List.mem_cons_of_mem _ (List.mem_cons_of_mem _ (List.mem_cons_of_mem _ (List.mem_cons_of_mem _ (List.mem_cons_of_mem _ (List.mem_cons_of_mem _ (List.mem_cons_of_mem _ List.mem_cons_self)))))))))) (cvp 53 (x' := (4096 * (ρ 0) + (ρ 1))) (y' := (256 * (ρ 2) + 17)) (by show 0 + (4096 * ρ 0 + (1 * ρ 1 + 0)) = _; omega) (by show 17 + (256 * ρ 2 + 0) = _; omega) (hm _ List.mem_cons_self)) (cvp 47 (x' := ((ρ 2))) (y' := ((ρ 5))) (by show 0 + (1 * ρ 2 + 0) = _; omega) (by show 0 + (1 * ρ 5 + 0) = _; omega) (hm _ (List.mem_cons_of_mem _ List.mem_cons_self))) (cvp 45 (x' := ((ρ 2))) (y' := ((ρ 3))) (by show 0 + (1 * ρ 2 + 0) = _; omega) (by show 0 + (1 * ρ 3 + 0) = _; omega) (hm _ (List.mem_cons_of_mem _ (List.mem_cons_of_mem _ List.mem_cons_self)))) (cvp 46 (x' := ((ρ 2))) (y' := ((ρ 4))) (by show 0 + (1 * ρ 2 + 0) = _; omega) (by show 0 + (1 * ρ 4 + 0) = _; omega) (hm _ (List.mem_cons_of_mem _ (List.mem_cons_of_mem _ (List.mem_cons_of_mem _ List.mem_cons_self))))) (cvm (c := 1) (by decide) (x' := ((ρ 3))) (y' := ((ρ 6) + 97)) (by show 0 + (1 * ρ 3 + 0) = _; omega) (by show 97 + (1 * ρ 6 + 0) = _; omega) (hm _ (List.mem_cons_of_mem _ (List.mem_cons_of_mem _ (List.mem_cons_of_mem _ (List.mem_cons_of_mem _ List.mem_cons_self)))))) (cvp 72 (x' := (4096 * (ρ 0) + (ρ 1))) (y' := ((ρ 7))) (by show 0 + (4096 * ρ 0 + (1 * ρ 1 + 0)) = _; omega) (by show 0 + (1 * ρ 7 + 0) = _; omega) (hm _ (List.mem_cons_of_mem _ (List.mem_cons_of_mem _ (List.mem_cons_of_mem _ (List.mem_cons_of_mem _ (List.mem_cons_of_mem _ List.mem_cons_self))))))) (cvp 104 (x' := ((ρ 6) + 4294967296 * (ρ 7))) (y' := ((ρ 8))) (by show 0 + (1 * ρ 6 + (4294967296 * ρ 7 + 0)) = _; omega) (by show 0 + (1 * ρ 8 + 0) = _; omega) (hm _ (List.mem_cons_of_mem _ (List.mem_cons_of_mem _ (List.mem_cons_of_mem _ (List.mem_cons_of_mem _ (List.mem_cons_of_mem _ (List.mem_cons_of_mem _ List.mem_cons_self)))))))) (cvp 100 (x' := (4294967296 * (ρ 8) + 1)) (y' := ((ρ 9))) (by show 1 + (4294967296 * ρ 8 + 0) = _; omega) (by show 0 + (1 * ρ 9 + 0) = _; omega) (hm _ (List.mem_cons_of_mem _ (List.mem_cons_of_mem _ (List.mem_cons_of_mem _ (List.mem_cons_of_mem _ (List.mem_cons_of_mem _ (List.mem_cons_of_mem _ (List.mem_cons_of_mem _ List.mem_cons_self))))))))) (by have h := hF _ List.mem_cons_self; have h : 0 ≤ 1 + (1 * ρ 3 + ((-1) * ρ 4 + 0)) := h; omega) (by have h := hF _ (List.mem_cons_of_mem _ List.mem_cons_self); have h : 0 ≤ (-1) + ((-1) * ρ 3 + (1 * ρ 4 + 0)) := h; omega) hG
  rcases H with H | H
  · skip
    obtain ⟨k0, k1, f0, f1, -⟩ := H
    exact ⟨_, List.mem_cons_self, ρ, fun _ _ => rfl, (okM_c (pvp 53 (by show 0 + (4096 * ρ 0 + (1 * ρ 1 + 0)) = _; omega) (by show 18 + (256 * ρ 4 + 0) = _; omega) k0) (okM_c (pvp 87 (by show 0 + (1 * ρ 0 + 0) = _; omega) (by show 0 + (1 * ρ 6 + 0) = _; omega) k1) okM_n)), okB_n, (okF_c (by show 0 ≤ 0 + ((-1) * ρ 9 + 0); omega) (okF_c (by show 0 ≤ 0 + (1 * ρ 9 + 0); omega) okF_n))⟩
  · skip
    obtain ⟨k0, f0, f1, -⟩ := H
    exact ⟨_, (List.mem_cons_of_mem _ List.mem_cons_self), ρ, fun _ _ => rfl, (okM_c (pvp 66 (by show 0 + (1 * ρ 3 + 0) = _; omega) (by show 3 + 0 = _; omega) k0) okM_n), okB_n, (okF_c (by show 0 ≤ 1 + ((-1) * ρ 9 + 0); omega) (okF_c (by show 0 ≤ (-1) + (1 * ρ 9 + 0); omega) okF_n))⟩
-- fk18
theorem cr_154 (M : pM) (s0 s1 s2 s3 s4 s5 : Int) (b0 : 0 ≤ s0 ∧ s0 ≤ 1900) (b1 : 0 ≤ s1 ∧ s1 ≤ 950) (b2 : 0 ≤ s2 ∧ s2 ≤ 1900) (b3 : 0 ≤ s3 ∧ s3 ≤ 1900) (b4 : 256 ≤ s4 ∧ s4 ≤ 600000) (b5 : 0 ≤ s5 ∧ s5 ≤ 5) (m0 : HP 53 (4096 * s0 + s1) (256 * s2 + s5 + 18) M) (m1 : HP 47 (s2) (s4) M) (m2 : HP 45 (s2) (s3) M) (f0 : 0 ≤ ((-1) * s4 + 393215)) (hG : gI M) : (HP 66 (s3) (2 : Int) M ∧ True) := by
  refine ⟨r_fl (K := 1) (j := 1 + s5.toNat) m0 m1 m2 ⟨by omega, by omega, by decide⟩ (fun s hs hE e => ?_), trivial⟩
  rw [qck_L (by omega) (by omega), e]
  exact qcN_2 (by omega) (by omega)
theorem rul_154 : Rul r_154 := by
  refine ⟨fun _ ρ M hm hB hF hG => ?_, fun gi gv hg => (by cases hg)⟩
  have H := cr_154 M (ρ 0) (ρ 1) (ρ 2) (ρ 3) (ρ 4) (ρ 5) (hB _ List.mem_cons_self) (hB _ (List.mem_cons_of_mem _ List.mem_cons_self)) (hB _ (List.mem_cons_of_mem _ (List.mem_cons_of_mem _ List.mem_cons_self))) (hB _ (List.mem_cons_of_mem _ (List.mem_cons_of_mem _ (List.mem_cons_of_mem _ List.mem_cons_self)))) (hB _ (List.mem_cons_of_mem _ (List.mem_cons_of_mem _ (List.mem_cons_of_mem _ (List.mem_cons_of_mem _ List.mem_cons_self))))) (hB _ (List.mem_cons_of_mem _ (List.mem_cons_of_mem _ (List.mem_cons_of_mem _ (List.mem_cons_of_mem _ (List.mem_cons_of_mem _ List.mem_cons_self)))))) (cvp 53 (x' := (4096 * (ρ 0) + (ρ 1))) (y' := (256 * (ρ 2) + (ρ 5) + 18)) (by show 0 + (4096 * ρ 0 + (1 * ρ 1 + 0)) = _; omega) (by show 18 + (256 * ρ 2 + (1 * ρ 5 + 0)) = _; omega) (hm _ List.mem_cons_self)) (cvp 47 (x' := ((ρ 2))) (y' := ((ρ 4))) (by show 0 + (1 * ρ 2 + 0) = _; omega) (by show 0 + (1 * ρ 4 + 0) = _; omega) (hm _ (List.mem_cons_of_mem _ List.mem_cons_self))) (cvp 45 (x' := ((ρ 2))) (y' := ((ρ 3))) (by show 0 + (1 * ρ 2 + 0) = _; omega) (by show 0 + (1 * ρ 3 + 0) = _; omega) (hm _ (List.mem_cons_of_mem _ (List.mem_cons_of_mem _ List.mem_cons_self)))) (by have h := hF _ List.mem_cons_self; have h : 0 ≤ 393215 + ((-1) * ρ 4 + 0) := h; omega) hG
  obtain ⟨k0, -⟩ := H
  exact ⟨_, List.mem_cons_self, ρ, fun _ _ => rfl, (okM_c (pvp 66 (by show 0 + (1 * ρ 3 + 0) = _; omega) (by show 2 + 0 = _; omega) k0) okM_n), okB_n, okF_n⟩
-- fl18
theorem cr_155 (M : pM) (s0 s1 s2 s3 s4 s5 : Int) (b0 : 0 ≤ s0 ∧ s0 ≤ 1900) (b1 : 0 ≤ s1 ∧ s1 ≤ 950) (b2 : 0 ≤ s2 ∧ s2 ≤ 1900) (b3 : 0 ≤ s3 ∧ s3 ≤ 1900) (b4 : 256 ≤ s4 ∧ s4 ≤ 600000) (b5 : 0 ≤ s5 ∧ s5 ≤ 5) (m0 : HP 53 (4096 * s0 + s1) (256 * s2 + s5 + 18) M) (m1 : HP 47 (s2) (s4) M) (m2 : HP 45 (s2) (s3) M) (f0 : 0 ≤ (s4 - 403216)) (hG : gI M) : (HP 66 (s3) (2 : Int) M ∧ True) := by
  refine ⟨r_fl (K := 1) (j := 1 + s5.toNat) m0 m1 m2 ⟨by omega, by omega, by decide⟩ (fun s hs hE e => ?_), trivial⟩
  rw [qck_L (by omega) (by omega), e]
  exact qcN_2 (by omega) (by omega)
theorem rul_155 : Rul r_155 := by
  refine ⟨fun _ ρ M hm hB hF hG => ?_, fun gi gv hg => (by cases hg)⟩
  have H := cr_155 M (ρ 0) (ρ 1) (ρ 2) (ρ 3) (ρ 4) (ρ 5) (hB _ List.mem_cons_self) (hB _ (List.mem_cons_of_mem _ List.mem_cons_self)) (hB _ (List.mem_cons_of_mem _ (List.mem_cons_of_mem _ List.mem_cons_self))) (hB _ (List.mem_cons_of_mem _ (List.mem_cons_of_mem _ (List.mem_cons_of_mem _ List.mem_cons_self)))) (hB _ (List.mem_cons_of_mem _ (List.mem_cons_of_mem _ (List.mem_cons_of_mem _ (List.mem_cons_of_mem _ List.mem_cons_self))))) (hB _ (List.mem_cons_of_mem _ (List.mem_cons_of_mem _ (List.mem_cons_of_mem _ (List.mem_cons_of_mem _ (List.mem_cons_of_mem _ List.mem_cons_self)))))) (cvp 53 (x' := (4096 * (ρ 0) + (ρ 1))) (y' := (256 * (ρ 2) + (ρ 5) + 18)) (by show 0 + (4096 * ρ 0 + (1 * ρ 1 + 0)) = _; omega) (by show 18 + (256 * ρ 2 + (1 * ρ 5 + 0)) = _; omega) (hm _ List.mem_cons_self)) (cvp 47 (x' := ((ρ 2))) (y' := ((ρ 4))) (by show 0 + (1 * ρ 2 + 0) = _; omega) (by show 0 + (1 * ρ 4 + 0) = _; omega) (hm _ (List.mem_cons_of_mem _ List.mem_cons_self))) (cvp 45 (x' := ((ρ 2))) (y' := ((ρ 3))) (by show 0 + (1 * ρ 2 + 0) = _; omega) (by show 0 + (1 * ρ 3 + 0) = _; omega) (hm _ (List.mem_cons_of_mem _ (List.mem_cons_of_mem _ List.mem_cons_self)))) (by have h := hF _ List.mem_cons_self; have h : 0 ≤ (-403216) + (1 * ρ 4 + 0) := h; omega) hG
  obtain ⟨k0, -⟩ := H
  exact ⟨_, List.mem_cons_self, ρ, fun _ _ => rfl, (okM_c (pvp 66 (by show 0 + (1 * ρ 3 + 0) = _; omega) (by show 2 + 0 = _; omega) k0) okM_n), okB_n, okF_n⟩
-- fn18
theorem cr_156 (M : pM) (s0 s1 s2 s3 s4 s5 : Int) (b0 : 0 ≤ s0 ∧ s0 ≤ 1900) (b1 : 0 ≤ s1 ∧ s1 ≤ 950) (b2 : 0 ≤ s2 ∧ s2 ≤ 1900) (b3 : 0 ≤ s3 ∧ s3 ≤ 1900) (b4 : 0 ≤ s4 ∧ s4 ≤ 9999) (b5 : 0 ≤ s5 ∧ s5 ≤ 5) (m0 : HP 53 (4096 * s0 + s1) (256 * s2 + s5 + 18) M) (m1 : HP 47 (s2) (s4 + 393216) M) (m2 : HP 45 (s2) (s3) M) (f0 : 0 ≤ (s4 - 21)) (hG : gI M) : (HP 66 (s3) (4 : Int) M ∧ True) := by
  refine ⟨r_fl (K := 1) (j := 1 + s5.toNat) m0 m1 m2 ⟨by omega, by omega, by decide⟩ (fun s hs hE e => ?_), trivial⟩
  rw [qck_L (by omega) (by omega), e]
  exact qcN_4 (by omega) (Or.inr (by omega))
theorem rul_156 : Rul r_156 := by
  refine ⟨fun _ ρ M hm hB hF hG => ?_, fun gi gv hg => (by cases hg)⟩
  have H := cr_156 M (ρ 0) (ρ 1) (ρ 2) (ρ 3) (ρ 4) (ρ 5) (hB _ List.mem_cons_self) (hB _ (List.mem_cons_of_mem _ List.mem_cons_self)) (hB _ (List.mem_cons_of_mem _ (List.mem_cons_of_mem _ List.mem_cons_self))) (hB _ (List.mem_cons_of_mem _ (List.mem_cons_of_mem _ (List.mem_cons_of_mem _ List.mem_cons_self)))) (hB _ (List.mem_cons_of_mem _ (List.mem_cons_of_mem _ (List.mem_cons_of_mem _ (List.mem_cons_of_mem _ List.mem_cons_self))))) (hB _ (List.mem_cons_of_mem _ (List.mem_cons_of_mem _ (List.mem_cons_of_mem _ (List.mem_cons_of_mem _ (List.mem_cons_of_mem _ List.mem_cons_self)))))) (cvp 53 (x' := (4096 * (ρ 0) + (ρ 1))) (y' := (256 * (ρ 2) + (ρ 5) + 18)) (by show 0 + (4096 * ρ 0 + (1 * ρ 1 + 0)) = _; omega) (by show 18 + (256 * ρ 2 + (1 * ρ 5 + 0)) = _; omega) (hm _ List.mem_cons_self)) (cvp 47 (x' := ((ρ 2))) (y' := ((ρ 4) + 393216)) (by show 0 + (1 * ρ 2 + 0) = _; omega) (by show 393216 + (1 * ρ 4 + 0) = _; omega) (hm _ (List.mem_cons_of_mem _ List.mem_cons_self))) (cvp 45 (x' := ((ρ 2))) (y' := ((ρ 3))) (by show 0 + (1 * ρ 2 + 0) = _; omega) (by show 0 + (1 * ρ 3 + 0) = _; omega) (hm _ (List.mem_cons_of_mem _ (List.mem_cons_of_mem _ List.mem_cons_self)))) (by have h := hF _ List.mem_cons_self; have h : 0 ≤ (-21) + (1 * ρ 4 + 0) := h; omega) hG
  obtain ⟨k0, -⟩ := H
  exact ⟨_, List.mem_cons_self, ρ, fun _ _ => rfl, (okM_c (pvp 66 (by show 0 + (1 * ρ 3 + 0) = _; omega) (by show 4 + 0 = _; omega) k0) okM_n), okB_n, okF_n⟩
-- ex18
theorem cr_157 (M : pM) (s0 s1 s2 s3 s4 s5 : Int) (b0 : 0 ≤ s0 ∧ s0 ≤ 1900) (b1 : 0 ≤ s1 ∧ s1 ≤ 950) (b2 : 0 ≤ s2 ∧ s2 ≤ 1900) (b3 : 0 ≤ s3 ∧ s3 ≤ 1900) (b4 : 0 ≤ s4 ∧ s4 ≤ 9999) (b5 : 0 ≤ s5 ∧ s5 ≤ 5) (m0 : HP 53 (4096 * s0 + s1) (256 * s2 + s5 + 18) M) (m1 : HP 47 (s2) (s4 + 393216) M) (m2 : HP 46 (s2) (s3) M) (f0 : 0 ≤ (s4)) (f1 : 0 ≤ ((-1) * s4 + 20)) (hG : gI M) : (HP 53 (4096 * s0 + s1) (256 * s3 + s5 + 19) M ∧ HP 79 (16 * s0 + s5 + 2) (s4) M ∧ True) := by
  refine ⟨?_, ?_, trivial⟩
  · exact r_ex (K := 1) (j := 1 + s5.toNat) m0 m1 m2 ⟨by omega, by omega, by decide⟩ (by omega) (by show _ < 8; omega) (fun s hs hE e => by
        rw [qck_L (by omega) (by omega), e]
        exact qcN_x (by omega) (by omega))
  · exact r_va (P := s0) (l := s1) (K := 1) (j := 1 + s5.toNat) m0 m1 ⟨by omega, by omega, by omega⟩ ⟨by omega, by omega, by decide⟩ (by omega) (by omega)
theorem rul_157 : Rul r_157 := by
  refine ⟨fun _ ρ M hm hB hF hG => ?_, fun gi gv hg => (by cases hg)⟩
  have H := cr_157 M (ρ 0) (ρ 1) (ρ 2) (ρ 3) (ρ 4) (ρ 5) (hB _ List.mem_cons_self) (hB _ (List.mem_cons_of_mem _ List.mem_cons_self)) (hB _ (List.mem_cons_of_mem _ (List.mem_cons_of_mem _ List.mem_cons_self))) (hB _ (List.mem_cons_of_mem _ (List.mem_cons_of_mem _ (List.mem_cons_of_mem _ List.mem_cons_self)))) (hB _ (List.mem_cons_of_mem _ (List.mem_cons_of_mem _ (List.mem_cons_of_mem _ (List.mem_cons_of_mem _ List.mem_cons_self))))) (hB _ (List.mem_cons_of_mem _ (List.mem_cons_of_mem _ (List.mem_cons_of_mem _ (List.mem_cons_of_mem _ (List.mem_cons_of_mem _ List.mem_cons_self)))))) (cvp 53 (x' := (4096 * (ρ 0) + (ρ 1))) (y' := (256 * (ρ 2) + (ρ 5) + 18)) (by show 0 + (4096 * ρ 0 + (1 * ρ 1 + 0)) = _; omega) (by show 18 + (256 * ρ 2 + (1 * ρ 5 + 0)) = _; omega) (hm _ List.mem_cons_self)) (cvp 47 (x' := ((ρ 2))) (y' := ((ρ 4) + 393216)) (by show 0 + (1 * ρ 2 + 0) = _; omega) (by show 393216 + (1 * ρ 4 + 0) = _; omega) (hm _ (List.mem_cons_of_mem _ List.mem_cons_self))) (cvp 46 (x' := ((ρ 2))) (y' := ((ρ 3))) (by show 0 + (1 * ρ 2 + 0) = _; omega) (by show 0 + (1 * ρ 3 + 0) = _; omega) (hm _ (List.mem_cons_of_mem _ (List.mem_cons_of_mem _ List.mem_cons_self)))) (by have h := hF _ List.mem_cons_self; have h : 0 ≤ 0 + (1 * ρ 4 + 0) := h; omega) (by have h := hF _ (List.mem_cons_of_mem _ List.mem_cons_self); have h : 0 ≤ 20 + ((-1) * ρ 4 + 0) := h; omega) hG
  obtain ⟨k0, k1, -⟩ := H
  exact ⟨_, List.mem_cons_self, ρ, fun _ _ => rfl, (okM_c (pvp 53 (by show 0 + (4096 * ρ 0 + (1 * ρ 1 + 0)) = _; omega) (by show 19 + (256 * ρ 3 + (1 * ρ 5 + 0)) = _; omega) k0) (okM_c (pvp 79 (by show 2 + (16 * ρ 0 + (1 * ρ 5 + 0)) = _; omega) (by show 0 + (1 * ρ 4 + 0) = _; omega) k1) okM_n)), okB_n, okF_n⟩
-- ln1
theorem cr_158 (M : pM) (s0 s1 s2 : Int) (b0 : 0 ≤ s0 ∧ s0 ≤ 1900) (b1 : 0 ≤ s1 ∧ s1 ≤ 950) (b2 : 0 ≤ s2 ∧ s2 ≤ 1900) (m0 : HP 53 (4096 * s0 + s1) (256 * s2 + 24) M) (hG : gI M) : (HP 89 (4096 * s0 + s1) (s2) M ∧ True) := by
  obtain ⟨s, h1, h2⟩ := ex_o (K := 1) (j := 7) (a := s2) (Eq.mp hp_53 m0) ⟨by omega, by omega, by decide, by decide⟩
  exact ⟨Eq.mpr hp_89 ⟨s, 1, h1, ⟨h2.2.2.1, h2.2.2.2.1⟩, h2.2.2.2.2⟩, trivial⟩
theorem rul_158 : Rul r_158 := by
  refine ⟨fun _ ρ M hm hB hF hG => ?_, fun gi gv hg => (by cases hg)⟩
  have H := cr_158 M (ρ 0) (ρ 1) (ρ 2) (hB _ List.mem_cons_self) (hB _ (List.mem_cons_of_mem _ List.mem_cons_self)) (hB _ (List.mem_cons_of_mem _ (List.mem_cons_of_mem _ List.mem_cons_self))) (cvp 53 (x' := (4096 * (ρ 0) + (ρ 1))) (y' := (256 * (ρ 2) + 24)) (by show 0 + (4096 * ρ 0 + (1 * ρ 1 + 0)) = _; omega) (by show 24 + (256 * ρ 2 + 0) = _; omega) (hm _ List.mem_cons_self)) hG
  obtain ⟨k0, -⟩ := H
  exact ⟨_, List.mem_cons_self, ρ, fun _ _ => rfl, (okM_c (pvp 89 (by show 0 + (4096 * ρ 0 + (1 * ρ 1 + 0)) = _; omega) (by show 0 + (1 * ρ 2 + 0) = _; omega) k0) okM_n), okB_n, okF_n⟩
-- fk33
theorem cr_159 (M : pM) (s0 s1 s2 s3 s4 : Int) (b0 : 0 ≤ s0 ∧ s0 ≤ 1900) (b1 : 0 ≤ s1 ∧ s1 ≤ 950) (b2 : 0 ≤ s2 ∧ s2 ≤ 1900) (b3 : 0 ≤ s3 ∧ s3 ≤ 1900) (b4 : 256 ≤ s4 ∧ s4 ≤ 600000) (m0 : HP 53 (4096 * s0 + s1) (256 * s2 + 33) M) (m1 : HP 47 (s2) (s4) M) (m2 : HP 45 (s2) (s3) M) (f0 : 0 ≤ ((-1) * s4 + 393215)) (hG : gI M) : (HP 66 (s3) (2 : Int) M ∧ True) := by
  refine ⟨r_fl (K := 2) (j := 0) m0 m1 m2 ⟨by omega, by omega, by decide⟩ (fun s hs hE e => ?_), trivial⟩
  show qcN 0 5 (if 0 ≤ s.2 3 (qvl (tm M) s.1 1).toNat then some 3 else none) (tK (tm M) (qps (tm M) s.1 1)) = some 2
  rw [e]
  exact qcN_2 (by omega) (by omega)
theorem rul_159 : Rul r_159 := by
  refine ⟨fun _ ρ M hm hB hF hG => ?_, fun gi gv hg => (by cases hg)⟩
  have H := cr_159 M (ρ 0) (ρ 1) (ρ 2) (ρ 3) (ρ 4) (hB _ List.mem_cons_self) (hB _ (List.mem_cons_of_mem _ List.mem_cons_self)) (hB _ (List.mem_cons_of_mem _ (List.mem_cons_of_mem _ List.mem_cons_self))) (hB _ (List.mem_cons_of_mem _ (List.mem_cons_of_mem _ (List.mem_cons_of_mem _ List.mem_cons_self)))) (hB _ (List.mem_cons_of_mem _ (List.mem_cons_of_mem _ (List.mem_cons_of_mem _ (List.mem_cons_of_mem _ List.mem_cons_self))))) (cvp 53 (x' := (4096 * (ρ 0) + (ρ 1))) (y' := (256 * (ρ 2) + 33)) (by show 0 + (4096 * ρ 0 + (1 * ρ 1 + 0)) = _; omega) (by show 33 + (256 * ρ 2 + 0) = _; omega) (hm _ List.mem_cons_self)) (cvp 47 (x' := ((ρ 2))) (y' := ((ρ 4))) (by show 0 + (1 * ρ 2 + 0) = _; omega) (by show 0 + (1 * ρ 4 + 0) = _; omega) (hm _ (List.mem_cons_of_mem _ List.mem_cons_self))) (cvp 45 (x' := ((ρ 2))) (y' := ((ρ 3))) (by show 0 + (1 * ρ 2 + 0) = _; omega) (by show 0 + (1 * ρ 3 + 0) = _; omega) (hm _ (List.mem_cons_of_mem _ (List.mem_cons_of_mem _ List.mem_cons_self)))) (by have h := hF _ List.mem_cons_self; have h : 0 ≤ 393215 + ((-1) * ρ 4 + 0) := h; omega) hG
  obtain ⟨k0, -⟩ := H
  exact ⟨_, List.mem_cons_self, ρ, fun _ _ => rfl, (okM_c (pvp 66 (by show 0 + (1 * ρ 3 + 0) = _; omega) (by show 2 + 0 = _; omega) k0) okM_n), okB_n, okF_n⟩
-- fl33
theorem cr_160 (M : pM) (s0 s1 s2 s3 s4 : Int) (b0 : 0 ≤ s0 ∧ s0 ≤ 1900) (b1 : 0 ≤ s1 ∧ s1 ≤ 950) (b2 : 0 ≤ s2 ∧ s2 ≤ 1900) (b3 : 0 ≤ s3 ∧ s3 ≤ 1900) (b4 : 256 ≤ s4 ∧ s4 ≤ 600000) (m0 : HP 53 (4096 * s0 + s1) (256 * s2 + 33) M) (m1 : HP 47 (s2) (s4) M) (m2 : HP 45 (s2) (s3) M) (f0 : 0 ≤ (s4 - 403216)) (hG : gI M) : (HP 66 (s3) (2 : Int) M ∧ True) := by
  refine ⟨r_fl (K := 2) (j := 0) m0 m1 m2 ⟨by omega, by omega, by decide⟩ (fun s hs hE e => ?_), trivial⟩
  show qcN 0 5 (if 0 ≤ s.2 3 (qvl (tm M) s.1 1).toNat then some 3 else none) (tK (tm M) (qps (tm M) s.1 1)) = some 2
  rw [e]
  exact qcN_2 (by omega) (by omega)
theorem rul_160 : Rul r_160 := by
  refine ⟨fun _ ρ M hm hB hF hG => ?_, fun gi gv hg => (by cases hg)⟩
  have H := cr_160 M (ρ 0) (ρ 1) (ρ 2) (ρ 3) (ρ 4) (hB _ List.mem_cons_self) (hB _ (List.mem_cons_of_mem _ List.mem_cons_self)) (hB _ (List.mem_cons_of_mem _ (List.mem_cons_of_mem _ List.mem_cons_self))) (hB _ (List.mem_cons_of_mem _ (List.mem_cons_of_mem _ (List.mem_cons_of_mem _ List.mem_cons_self)))) (hB _ (List.mem_cons_of_mem _ (List.mem_cons_of_mem _ (List.mem_cons_of_mem _ (List.mem_cons_of_mem _ List.mem_cons_self))))) (cvp 53 (x' := (4096 * (ρ 0) + (ρ 1))) (y' := (256 * (ρ 2) + 33)) (by show 0 + (4096 * ρ 0 + (1 * ρ 1 + 0)) = _; omega) (by show 33 + (256 * ρ 2 + 0) = _; omega) (hm _ List.mem_cons_self)) (cvp 47 (x' := ((ρ 2))) (y' := ((ρ 4))) (by show 0 + (1 * ρ 2 + 0) = _; omega) (by show 0 + (1 * ρ 4 + 0) = _; omega) (hm _ (List.mem_cons_of_mem _ List.mem_cons_self))) (cvp 45 (x' := ((ρ 2))) (y' := ((ρ 3))) (by show 0 + (1 * ρ 2 + 0) = _; omega) (by show 0 + (1 * ρ 3 + 0) = _; omega) (hm _ (List.mem_cons_of_mem _ (List.mem_cons_of_mem _ List.mem_cons_self)))) (by have h := hF _ List.mem_cons_self; have h : 0 ≤ (-403216) + (1 * ρ 4 + 0) := h; omega) hG
  obtain ⟨k0, -⟩ := H
  exact ⟨_, List.mem_cons_self, ρ, fun _ _ => rfl, (okM_c (pvp 66 (by show 0 + (1 * ρ 3 + 0) = _; omega) (by show 2 + 0 = _; omega) k0) okM_n), okB_n, okF_n⟩
-- fn33
theorem cr_161 (M : pM) (s0 s1 s2 s3 s4 : Int) (b0 : 0 ≤ s0 ∧ s0 ≤ 1900) (b1 : 0 ≤ s1 ∧ s1 ≤ 950) (b2 : 0 ≤ s2 ∧ s2 ≤ 1900) (b3 : 0 ≤ s3 ∧ s3 ≤ 1900) (b4 : 0 ≤ s4 ∧ s4 ≤ 9999) (m0 : HP 53 (4096 * s0 + s1) (256 * s2 + 33) M) (m1 : HP 47 (s2) (s4 + 393216) M) (m2 : HP 45 (s2) (s3) M) (f0 : 0 ≤ (s4 - 6)) (hG : gI M) : (HP 66 (s3) (4 : Int) M ∧ True) := by
  refine ⟨r_fl (K := 2) (j := 0) m0 m1 m2 ⟨by omega, by omega, by decide⟩ (fun s hs hE e => ?_), trivial⟩
  show qcN 0 5 (if 0 ≤ s.2 3 (qvl (tm M) s.1 1).toNat then some 3 else none) (tK (tm M) (qps (tm M) s.1 1)) = some 4
  rw [e]
  exact qcN_4 (by omega) (Or.inr (by omega))
theorem rul_161 : Rul r_161 := by
  refine ⟨fun _ ρ M hm hB hF hG => ?_, fun gi gv hg => (by cases hg)⟩
  have H := cr_161 M (ρ 0) (ρ 1) (ρ 2) (ρ 3) (ρ 4) (hB _ List.mem_cons_self) (hB _ (List.mem_cons_of_mem _ List.mem_cons_self)) (hB _ (List.mem_cons_of_mem _ (List.mem_cons_of_mem _ List.mem_cons_self))) (hB _ (List.mem_cons_of_mem _ (List.mem_cons_of_mem _ (List.mem_cons_of_mem _ List.mem_cons_self)))) (hB _ (List.mem_cons_of_mem _ (List.mem_cons_of_mem _ (List.mem_cons_of_mem _ (List.mem_cons_of_mem _ List.mem_cons_self))))) (cvp 53 (x' := (4096 * (ρ 0) + (ρ 1))) (y' := (256 * (ρ 2) + 33)) (by show 0 + (4096 * ρ 0 + (1 * ρ 1 + 0)) = _; omega) (by show 33 + (256 * ρ 2 + 0) = _; omega) (hm _ List.mem_cons_self)) (cvp 47 (x' := ((ρ 2))) (y' := ((ρ 4) + 393216)) (by show 0 + (1 * ρ 2 + 0) = _; omega) (by show 393216 + (1 * ρ 4 + 0) = _; omega) (hm _ (List.mem_cons_of_mem _ List.mem_cons_self))) (cvp 45 (x' := ((ρ 2))) (y' := ((ρ 3))) (by show 0 + (1 * ρ 2 + 0) = _; omega) (by show 0 + (1 * ρ 3 + 0) = _; omega) (hm _ (List.mem_cons_of_mem _ (List.mem_cons_of_mem _ List.mem_cons_self)))) (by have h := hF _ List.mem_cons_self; have h : 0 ≤ (-6) + (1 * ρ 4 + 0) := h; omega) hG
  obtain ⟨k0, -⟩ := H
  exact ⟨_, List.mem_cons_self, ρ, fun _ _ => rfl, (okM_c (pvp 66 (by show 0 + (1 * ρ 3 + 0) = _; omega) (by show 4 + 0 = _; omega) k0) okM_n), okB_n, okF_n⟩
-- told2_0
theorem cr_162 (M : pM) (s0 s1 s2 s3 s4 s5 s6 s7 s8 : Int) (b0 : 0 ≤ s0 ∧ s0 ≤ 1900) (b1 : 0 ≤ s1 ∧ s1 ≤ 950) (b2 : 0 ≤ s2 ∧ s2 ≤ 1900) (b3 : 0 ≤ s3 ∧ s3 ≤ 1900) (b4 : 0 ≤ s4 ∧ s4 ≤ 5) (b5 : 0 ≤ s5 ∧ s5 ≤ 12) (b6 : 0 ≤ s6 ∧ s6 ≤ 20) (b7 : 0 ≤ s7 ∧ s7 ≤ 4) (b8 : (-1) ≤ s8 ∧ s8 ≤ (-1)) (m0 : HP 53 (4096 * s0 + s1) (256 * s2 + 33) M) (m1 : HP 47 (s2) (s4 + 393216) M) (m2 : HP 46 (s2) (s3) M) (m3 : HP 54 (4096 * s0 + s1) (s5 + 32 * s6 + 1024 * s7) M) (m4 : (0 ≤ (s4) ∧ M 6 (s4).toNat = (s8))) (hG : gI M) : (HP 53 (4096 * s0 + s1) (256 * s3 + 34) M ∧ HP 79 (16 * s0 + 1) (s4) M ∧ True) := by
  obtain ⟨S, hS, hw, ha⟩ := Eq.mp hp_54 m3
  have hr : M 6 s4.toNat = if S.2 3 s4.toNat < 0 then -1 else 4 * S.2 4 s4.toNat + S.2 3 s4.toNat := ha.2.2.1 s4.toNat (by omega)
  have h4 := ha.2.2.2.1 s4.toNat (by omega)
  rw [m4.2] at hr
  have hs0 : S.2 3 s4.toNat < 0 := by split at hr <;> omega
  have hc : ∀ s : Nat × pM, qat (tm M) (4096 * s0 + s1) s → tK (tm M) (qps (tm M) s.1 1) = (s4 + 393216) → qck (tm M) s.1 s.2 2 1 = none := by
    intro s hs e
    have es := qat_u hS hs
    have ev : qvl (tm M) s.1 1 = s4 := by unfold qvl; omega
    show qcN 0 5 (if 0 ≤ s.2 3 (qvl (tm M) s.1 1).toNat then some 3 else none) (tK (tm M) (qps (tm M) s.1 1)) = _
    rw [e, qcN_x (by omega) (by omega), ev, es]
    exact if_neg (by omega)
  exact ⟨r_ex (K := 2) (j := 0) m0 m1 m2 ⟨by omega, by omega, by decide⟩ (by omega) (by decide) (fun s hs hE e => hc s hs e), r_va (P := s0) (l := s1) (K := 2) (j := 0) m0 m1 ⟨by omega, by omega, by omega⟩ ⟨by omega, by omega, by decide⟩ (by omega) (by omega), trivial⟩
theorem rul_162 : Rul r_162 := by
  refine ⟨fun _ ρ M hm hB hF hG => ?_, fun gi gv hg => (by cases hg)⟩
  have H := cr_162 M (ρ 0) (ρ 1) (ρ 2) (ρ 3) (ρ 4) (ρ 5) (ρ 6) (ρ 7) (ρ 8) (hB _ List.mem_cons_self) (hB _ (List.mem_cons_of_mem _ List.mem_cons_self)) (hB _ (List.mem_cons_of_mem _ (List.mem_cons_of_mem _ List.mem_cons_self))) (hB _ (List.mem_cons_of_mem _ (List.mem_cons_of_mem _ (List.mem_cons_of_mem _ List.mem_cons_self)))) (hB _ (List.mem_cons_of_mem _ (List.mem_cons_of_mem _ (List.mem_cons_of_mem _ (List.mem_cons_of_mem _ List.mem_cons_self))))) (hB _ (List.mem_cons_of_mem _ (List.mem_cons_of_mem _ (List.mem_cons_of_mem _ (List.mem_cons_of_mem _ (List.mem_cons_of_mem _ List.mem_cons_self)))))) (hB _ (List.mem_cons_of_mem _ (List.mem_cons_of_mem _ (List.mem_cons_of_mem _ (List.mem_cons_of_mem _ (List.mem_cons_of_mem _ (List.mem_cons_of_mem _ List.mem_cons_self))))))) (hB _ (List.mem_cons_of_mem _ (List.mem_cons_of_mem _ (List.mem_cons_of_mem _ (List.mem_cons_of_mem _ (List.mem_cons_of_mem _ (List.mem_cons_of_mem _ (List.mem_cons_of_mem _ List.mem_cons_self)))))))) (hB _ (List.mem_cons_of_mem _ (List.mem_cons_of_mem _ (List.mem_cons_of_mem _ (List.mem_cons_of_mem _ (List.mem_cons_of_mem _ (List.mem_cons_of_mem _ (List.mem_cons_of_mem _ (List.mem_cons_of_mem _ List.mem_cons_self))))))))) (cvp 53 (x' := (4096 * (ρ 0) + (ρ 1))) (y' := (256 * (ρ 2) + 33)) (by show 0 + (4096 * ρ 0 + (1 * ρ 1 + 0)) = _; omega) (by show 33 + (256 * ρ 2 + 0) = _; omega) (hm _ List.mem_cons_self)) (cvp 47 (x' := ((ρ 2))) (y' := ((ρ 4) + 393216)) (by show 0 + (1 * ρ 2 + 0) = _; omega) (by show 393216 + (1 * ρ 4 + 0) = _; omega) (hm _ (List.mem_cons_of_mem _ List.mem_cons_self))) (cvp 46 (x' := ((ρ 2))) (y' := ((ρ 3))) (by show 0 + (1 * ρ 2 + 0) = _; omega) (by show 0 + (1 * ρ 3 + 0) = _; omega) (hm _ (List.mem_cons_of_mem _ (List.mem_cons_of_mem _ List.mem_cons_self)))) (cvp 54 (x' := (4096 * (ρ 0) + (ρ 1))) (y' := ((ρ 5) + 32 * (ρ 6) + 1024 * (ρ 7))) (by show 0 + (4096 * ρ 0 + (1 * ρ 1 + 0)) = _; omega) (by show 0 + (1 * ρ 5 + (32 * ρ 6 + (1024 * ρ 7 + 0))) = _; omega) (hm _ (List.mem_cons_of_mem _ (List.mem_cons_of_mem _ (List.mem_cons_of_mem _ List.mem_cons_self))))) (cvm (c := 6) (by decide) (x' := ((ρ 4))) (y' := ((ρ 8))) (by show 0 + (1 * ρ 4 + 0) = _; omega) (by show 0 + (1 * ρ 8 + 0) = _; omega) (hm _ (List.mem_cons_of_mem _ (List.mem_cons_of_mem _ (List.mem_cons_of_mem _ (List.mem_cons_of_mem _ List.mem_cons_self)))))) hG
  obtain ⟨k0, k1, -⟩ := H
  exact ⟨_, List.mem_cons_self, ρ, fun _ _ => rfl, (okM_c (pvp 53 (by show 0 + (4096 * ρ 0 + (1 * ρ 1 + 0)) = _; omega) (by show 34 + (256 * ρ 3 + 0) = _; omega) k0) (okM_c (pvp 79 (by show 1 + (16 * ρ 0 + 0) = _; omega) (by show 0 + (1 * ρ 4 + 0) = _; omega) k1) okM_n)), okB_n, okF_n⟩
-- tolx2_0
theorem cr_163 (M : pM) (s0 s1 s2 s3 s4 s5 s6 s7 s8 : Int) (b0 : 0 ≤ s0 ∧ s0 ≤ 1900) (b1 : 0 ≤ s1 ∧ s1 ≤ 950) (b2 : 0 ≤ s2 ∧ s2 ≤ 1900) (b3 : 0 ≤ s3 ∧ s3 ≤ 1900) (b4 : 0 ≤ s4 ∧ s4 ≤ 5) (b5 : 0 ≤ s5 ∧ s5 ≤ 12) (b6 : 0 ≤ s6 ∧ s6 ≤ 20) (b7 : 0 ≤ s7 ∧ s7 ≤ 4) (b8 : 0 ≤ s8 ∧ s8 ≤ 40) (m0 : HP 53 (4096 * s0 + s1) (256 * s2 + 33) M) (m1 : HP 47 (s2) (s4 + 393216) M) (m2 : HP 45 (s2) (s3) M) (m3 : HP 54 (4096 * s0 + s1) (s5 + 32 * s6 + 1024 * s7) M) (m4 : (0 ≤ (s4) ∧ M 6 (s4).toNat = (s8))) (hG : gI M) : (HP 66 (s3) (3 : Int) M ∧ True) := by
  obtain ⟨S, hS, hw, ha⟩ := Eq.mp hp_54 m3
  have hr : M 6 s4.toNat = if S.2 3 s4.toNat < 0 then -1 else 4 * S.2 4 s4.toNat + S.2 3 s4.toNat := ha.2.2.1 s4.toNat (by omega)
  have h4 := ha.2.2.2.1 s4.toNat (by omega)
  rw [m4.2] at hr
  have hs0 : 0 ≤ S.2 3 s4.toNat := by split at hr <;> omega
  have hc : ∀ s : Nat × pM, qat (tm M) (4096 * s0 + s1) s → tK (tm M) (qps (tm M) s.1 1) = (s4 + 393216) → qck (tm M) s.1 s.2 2 1 = some 3 := by
    intro s hs e
    have es := qat_u hS hs
    have ev : qvl (tm M) s.1 1 = s4 := by unfold qvl; omega
    show qcN 0 5 (if 0 ≤ s.2 3 (qvl (tm M) s.1 1).toNat then some 3 else none) (tK (tm M) (qps (tm M) s.1 1)) = _
    rw [e, qcN_x (by omega) (by omega), ev, es]
    exact if_pos (by omega)
  exact ⟨r_fl (K := 2) (j := 0) m0 m1 m2 ⟨by omega, by omega, by decide⟩ (fun s hs hE e => hc s hs e), trivial⟩
theorem rul_163 : Rul r_163 := by
  refine ⟨fun _ ρ M hm hB hF hG => ?_, fun gi gv hg => (by cases hg)⟩
  have H := cr_163 M (ρ 0) (ρ 1) (ρ 2) (ρ 3) (ρ 4) (ρ 5) (ρ 6) (ρ 7) (ρ 8) (hB _ List.mem_cons_self) (hB _ (List.mem_cons_of_mem _ List.mem_cons_self)) (hB _ (List.mem_cons_of_mem _ (List.mem_cons_of_mem _ List.mem_cons_self))) (hB _ (List.mem_cons_of_mem _ (List.mem_cons_of_mem _ (List.mem_cons_of_mem _ List.mem_cons_self)))) (hB _ (List.mem_cons_of_mem _ (List.mem_cons_of_mem _ (List.mem_cons_of_mem _ (List.mem_cons_of_mem _ List.mem_cons_self))))) (hB _ (List.mem_cons_of_mem _ (List.mem_cons_of_mem _ (List.mem_cons_of_mem _ (List.mem_cons_of_mem _ (List.mem_cons_of_mem _ List.mem_cons_self)))))) (hB _ (List.mem_cons_of_mem _ (List.mem_cons_of_mem _ (List.mem_cons_of_mem _ (List.mem_cons_of_mem _ (List.mem_cons_of_mem _ (List.mem_cons_of_mem _ List.mem_cons_self))))))) (hB _ (List.mem_cons_of_mem _ (List.mem_cons_of_mem _ (List.mem_cons_of_mem _ (List.mem_cons_of_mem _ (List.mem_cons_of_mem _ (List.mem_cons_of_mem _ (List.mem_cons_of_mem _ List.mem_cons_self)))))))) (hB _ (List.mem_cons_of_mem _ (List.mem_cons_of_mem _ (List.mem_cons_of_mem _ (List.mem_cons_of_mem _ (List.mem_cons_of_mem _ (List.mem_cons_of_mem _ (List.mem_cons_of_mem _ (List.mem_cons_of_mem _ List.mem_cons_self))))))))) (cvp 53 (x' := (4096 * (ρ 0) + (ρ 1))) (y' := (256 * (ρ 2) + 33)) (by show 0 + (4096 * ρ 0 + (1 * ρ 1 + 0)) = _; omega) (by show 33 + (256 * ρ 2 + 0) = _; omega) (hm _ List.mem_cons_self)) (cvp 47 (x' := ((ρ 2))) (y' := ((ρ 4) + 393216)) (by show 0 + (1 * ρ 2 + 0) = _; omega) (by show 393216 + (1 * ρ 4 + 0) = _; omega) (hm _ (List.mem_cons_of_mem _ List.mem_cons_self))) (cvp 45 (x' := ((ρ 2))) (y' := ((ρ 3))) (by show 0 + (1 * ρ 2 + 0) = _; omega) (by show 0 + (1 * ρ 3 + 0) = _; omega) (hm _ (List.mem_cons_of_mem _ (List.mem_cons_of_mem _ List.mem_cons_self)))) (cvp 54 (x' := (4096 * (ρ 0) + (ρ 1))) (y' := ((ρ 5) + 32 * (ρ 6) + 1024 * (ρ 7))) (by show 0 + (4096 * ρ 0 + (1 * ρ 1 + 0)) = _; omega) (by show 0 + (1 * ρ 5 + (32 * ρ 6 + (1024 * ρ 7 + 0))) = _; omega) (hm _ (List.mem_cons_of_mem _ (List.mem_cons_of_mem _ (List.mem_cons_of_mem _ List.mem_cons_self))))) (cvm (c := 6) (by decide) (x' := ((ρ 4))) (y' := ((ρ 8))) (by show 0 + (1 * ρ 4 + 0) = _; omega) (by show 0 + (1 * ρ 8 + 0) = _; omega) (hm _ (List.mem_cons_of_mem _ (List.mem_cons_of_mem _ (List.mem_cons_of_mem _ (List.mem_cons_of_mem _ List.mem_cons_self)))))) hG
  obtain ⟨k0, -⟩ := H
  exact ⟨_, List.mem_cons_self, ρ, fun _ _ => rfl, (okM_c (pvp 66 (by show 0 + (1 * ρ 3 + 0) = _; omega) (by show 3 + 0 = _; omega) k0) okM_n), okB_n, okF_n⟩
-- told2_1
theorem cr_164 (M : pM) (s0 s1 s2 s3 s4 s5 s6 s7 s8 : Int) (b0 : 0 ≤ s0 ∧ s0 ≤ 1900) (b1 : 0 ≤ s1 ∧ s1 ≤ 950) (b2 : 0 ≤ s2 ∧ s2 ≤ 1900) (b3 : 0 ≤ s3 ∧ s3 ≤ 1900) (b4 : 0 ≤ s4 ∧ s4 ≤ 5) (b5 : 0 ≤ s5 ∧ s5 ≤ 12) (b6 : 0 ≤ s6 ∧ s6 ≤ 20) (b7 : 0 ≤ s7 ∧ s7 ≤ 4) (b8 : (-1) ≤ s8 ∧ s8 ≤ (-1)) (m0 : HP 53 (4096 * s0 + s1) (256 * s2 + 33) M) (m1 : HP 47 (s2) (s4 + 393216) M) (m2 : HP 46 (s2) (s3) M) (m3 : HP 55 (4096 * s0 + s1) (s5 + 32 * s6 + 1024 * s7) M) (m4 : (0 ≤ (s4) ∧ M 15 (s4).toNat = (s8))) (hG : gI M) : (HP 53 (4096 * s0 + s1) (256 * s3 + 34) M ∧ HP 79 (16 * s0 + 1) (s4) M ∧ True) := by
  obtain ⟨S, hS, hw, ha⟩ := Eq.mp hp_55 m3
  have hr : M 15 s4.toNat = if S.2 3 s4.toNat < 0 then -1 else 4 * S.2 4 s4.toNat + S.2 3 s4.toNat := ha.2.2.1 s4.toNat (by omega)
  have h4 := ha.2.2.2.1 s4.toNat (by omega)
  rw [m4.2] at hr
  have hs0 : S.2 3 s4.toNat < 0 := by split at hr <;> omega
  have hc : ∀ s : Nat × pM, qat (tm M) (4096 * s0 + s1) s → tK (tm M) (qps (tm M) s.1 1) = (s4 + 393216) → qck (tm M) s.1 s.2 2 1 = none := by
    intro s hs e
    have es := qat_u hS hs
    have ev : qvl (tm M) s.1 1 = s4 := by unfold qvl; omega
    show qcN 0 5 (if 0 ≤ s.2 3 (qvl (tm M) s.1 1).toNat then some 3 else none) (tK (tm M) (qps (tm M) s.1 1)) = _
    rw [e, qcN_x (by omega) (by omega), ev, es]
    exact if_neg (by omega)
  exact ⟨r_ex (K := 2) (j := 0) m0 m1 m2 ⟨by omega, by omega, by decide⟩ (by omega) (by decide) (fun s hs hE e => hc s hs e), r_va (P := s0) (l := s1) (K := 2) (j := 0) m0 m1 ⟨by omega, by omega, by omega⟩ ⟨by omega, by omega, by decide⟩ (by omega) (by omega), trivial⟩
theorem rul_164 : Rul r_164 := by
  refine ⟨fun _ ρ M hm hB hF hG => ?_, fun gi gv hg => (by cases hg)⟩
  have H := cr_164 M (ρ 0) (ρ 1) (ρ 2) (ρ 3) (ρ 4) (ρ 5) (ρ 6) (ρ 7) (ρ 8) (hB _ List.mem_cons_self) (hB _ (List.mem_cons_of_mem _ List.mem_cons_self)) (hB _ (List.mem_cons_of_mem _ (List.mem_cons_of_mem _ List.mem_cons_self))) (hB _ (List.mem_cons_of_mem _ (List.mem_cons_of_mem _ (List.mem_cons_of_mem _ List.mem_cons_self)))) (hB _ (List.mem_cons_of_mem _ (List.mem_cons_of_mem _ (List.mem_cons_of_mem _ (List.mem_cons_of_mem _ List.mem_cons_self))))) (hB _ (List.mem_cons_of_mem _ (List.mem_cons_of_mem _ (List.mem_cons_of_mem _ (List.mem_cons_of_mem _ (List.mem_cons_of_mem _ List.mem_cons_self)))))) (hB _ (List.mem_cons_of_mem _ (List.mem_cons_of_mem _ (List.mem_cons_of_mem _ (List.mem_cons_of_mem _ (List.mem_cons_of_mem _ (List.mem_cons_of_mem _ List.mem_cons_self))))))) (hB _ (List.mem_cons_of_mem _ (List.mem_cons_of_mem _ (List.mem_cons_of_mem _ (List.mem_cons_of_mem _ (List.mem_cons_of_mem _ (List.mem_cons_of_mem _ (List.mem_cons_of_mem _ List.mem_cons_self)))))))) (hB _ (List.mem_cons_of_mem _ (List.mem_cons_of_mem _ (List.mem_cons_of_mem _ (List.mem_cons_of_mem _ (List.mem_cons_of_mem _ (List.mem_cons_of_mem _ (List.mem_cons_of_mem _ (List.mem_cons_of_mem _ List.mem_cons_self))))))))) (cvp 53 (x' := (4096 * (ρ 0) + (ρ 1))) (y' := (256 * (ρ 2) + 33)) (by show 0 + (4096 * ρ 0 + (1 * ρ 1 + 0)) = _; omega) (by show 33 + (256 * ρ 2 + 0) = _; omega) (hm _ List.mem_cons_self)) (cvp 47 (x' := ((ρ 2))) (y' := ((ρ 4) + 393216)) (by show 0 + (1 * ρ 2 + 0) = _; omega) (by show 393216 + (1 * ρ 4 + 0) = _; omega) (hm _ (List.mem_cons_of_mem _ List.mem_cons_self))) (cvp 46 (x' := ((ρ 2))) (y' := ((ρ 3))) (by show 0 + (1 * ρ 2 + 0) = _; omega) (by show 0 + (1 * ρ 3 + 0) = _; omega) (hm _ (List.mem_cons_of_mem _ (List.mem_cons_of_mem _ List.mem_cons_self)))) (cvp 55 (x' := (4096 * (ρ 0) + (ρ 1))) (y' := ((ρ 5) + 32 * (ρ 6) + 1024 * (ρ 7))) (by show 0 + (4096 * ρ 0 + (1 * ρ 1 + 0)) = _; omega) (by show 0 + (1 * ρ 5 + (32 * ρ 6 + (1024 * ρ 7 + 0))) = _; omega) (hm _ (List.mem_cons_of_mem _ (List.mem_cons_of_mem _ (List.mem_cons_of_mem _ List.mem_cons_self))))) (cvm (c := 15) (by decide) (x' := ((ρ 4))) (y' := ((ρ 8))) (by show 0 + (1 * ρ 4 + 0) = _; omega) (by show 0 + (1 * ρ 8 + 0) = _; omega) (hm _ (List.mem_cons_of_mem _ (List.mem_cons_of_mem _ (List.mem_cons_of_mem _ (List.mem_cons_of_mem _ List.mem_cons_self)))))) hG
  obtain ⟨k0, k1, -⟩ := H
  exact ⟨_, List.mem_cons_self, ρ, fun _ _ => rfl, (okM_c (pvp 53 (by show 0 + (4096 * ρ 0 + (1 * ρ 1 + 0)) = _; omega) (by show 34 + (256 * ρ 3 + 0) = _; omega) k0) (okM_c (pvp 79 (by show 1 + (16 * ρ 0 + 0) = _; omega) (by show 0 + (1 * ρ 4 + 0) = _; omega) k1) okM_n)), okB_n, okF_n⟩
-- tolx2_1
theorem cr_165 (M : pM) (s0 s1 s2 s3 s4 s5 s6 s7 s8 : Int) (b0 : 0 ≤ s0 ∧ s0 ≤ 1900) (b1 : 0 ≤ s1 ∧ s1 ≤ 950) (b2 : 0 ≤ s2 ∧ s2 ≤ 1900) (b3 : 0 ≤ s3 ∧ s3 ≤ 1900) (b4 : 0 ≤ s4 ∧ s4 ≤ 5) (b5 : 0 ≤ s5 ∧ s5 ≤ 12) (b6 : 0 ≤ s6 ∧ s6 ≤ 20) (b7 : 0 ≤ s7 ∧ s7 ≤ 4) (b8 : 0 ≤ s8 ∧ s8 ≤ 40) (m0 : HP 53 (4096 * s0 + s1) (256 * s2 + 33) M) (m1 : HP 47 (s2) (s4 + 393216) M) (m2 : HP 45 (s2) (s3) M) (m3 : HP 55 (4096 * s0 + s1) (s5 + 32 * s6 + 1024 * s7) M) (m4 : (0 ≤ (s4) ∧ M 15 (s4).toNat = (s8))) (hG : gI M) : (HP 66 (s3) (3 : Int) M ∧ True) := by
  obtain ⟨S, hS, hw, ha⟩ := Eq.mp hp_55 m3
  have hr : M 15 s4.toNat = if S.2 3 s4.toNat < 0 then -1 else 4 * S.2 4 s4.toNat + S.2 3 s4.toNat := ha.2.2.1 s4.toNat (by omega)
  have h4 := ha.2.2.2.1 s4.toNat (by omega)
  rw [m4.2] at hr
  have hs0 : 0 ≤ S.2 3 s4.toNat := by split at hr <;> omega
  have hc : ∀ s : Nat × pM, qat (tm M) (4096 * s0 + s1) s → tK (tm M) (qps (tm M) s.1 1) = (s4 + 393216) → qck (tm M) s.1 s.2 2 1 = some 3 := by
    intro s hs e
    have es := qat_u hS hs
    have ev : qvl (tm M) s.1 1 = s4 := by unfold qvl; omega
    show qcN 0 5 (if 0 ≤ s.2 3 (qvl (tm M) s.1 1).toNat then some 3 else none) (tK (tm M) (qps (tm M) s.1 1)) = _
    rw [e, qcN_x (by omega) (by omega), ev, es]
    exact if_pos (by omega)
  exact ⟨r_fl (K := 2) (j := 0) m0 m1 m2 ⟨by omega, by omega, by decide⟩ (fun s hs hE e => hc s hs e), trivial⟩
theorem rul_165 : Rul r_165 := by
  refine ⟨fun _ ρ M hm hB hF hG => ?_, fun gi gv hg => (by cases hg)⟩
  have H := cr_165 M (ρ 0) (ρ 1) (ρ 2) (ρ 3) (ρ 4) (ρ 5) (ρ 6) (ρ 7) (ρ 8) (hB _ List.mem_cons_self) (hB _ (List.mem_cons_of_mem _ List.mem_cons_self)) (hB _ (List.mem_cons_of_mem _ (List.mem_cons_of_mem _ List.mem_cons_self))) (hB _ (List.mem_cons_of_mem _ (List.mem_cons_of_mem _ (List.mem_cons_of_mem _ List.mem_cons_self)))) (hB _ (List.mem_cons_of_mem _ (List.mem_cons_of_mem _ (List.mem_cons_of_mem _ (List.mem_cons_of_mem _ List.mem_cons_self))))) (hB _ (List.mem_cons_of_mem _ (List.mem_cons_of_mem _ (List.mem_cons_of_mem _ (List.mem_cons_of_mem _ (List.mem_cons_of_mem _ List.mem_cons_self)))))) (hB _ (List.mem_cons_of_mem _ (List.mem_cons_of_mem _ (List.mem_cons_of_mem _ (List.mem_cons_of_mem _ (List.mem_cons_of_mem _ (List.mem_cons_of_mem _ List.mem_cons_self))))))) (hB _ (List.mem_cons_of_mem _ (List.mem_cons_of_mem _ (List.mem_cons_of_mem _ (List.mem_cons_of_mem _ (List.mem_cons_of_mem _ (List.mem_cons_of_mem _ (List.mem_cons_of_mem _ List.mem_cons_self)))))))) (hB _ (List.mem_cons_of_mem _ (List.mem_cons_of_mem _ (List.mem_cons_of_mem _ (List.mem_cons_of_mem _ (List.mem_cons_of_mem _ (List.mem_cons_of_mem _ (List.mem_cons_of_mem _ (List.mem_cons_of_mem _ List.mem_cons_self))))))))) (cvp 53 (x' := (4096 * (ρ 0) + (ρ 1))) (y' := (256 * (ρ 2) + 33)) (by show 0 + (4096 * ρ 0 + (1 * ρ 1 + 0)) = _; omega) (by show 33 + (256 * ρ 2 + 0) = _; omega) (hm _ List.mem_cons_self)) (cvp 47 (x' := ((ρ 2))) (y' := ((ρ 4) + 393216)) (by show 0 + (1 * ρ 2 + 0) = _; omega) (by show 393216 + (1 * ρ 4 + 0) = _; omega) (hm _ (List.mem_cons_of_mem _ List.mem_cons_self))) (cvp 45 (x' := ((ρ 2))) (y' := ((ρ 3))) (by show 0 + (1 * ρ 2 + 0) = _; omega) (by show 0 + (1 * ρ 3 + 0) = _; omega) (hm _ (List.mem_cons_of_mem _ (List.mem_cons_of_mem _ List.mem_cons_self)))) (cvp 55 (x' := (4096 * (ρ 0) + (ρ 1))) (y' := ((ρ 5) + 32 * (ρ 6) + 1024 * (ρ 7))) (by show 0 + (4096 * ρ 0 + (1 * ρ 1 + 0)) = _; omega) (by show 0 + (1 * ρ 5 + (32 * ρ 6 + (1024 * ρ 7 + 0))) = _; omega) (hm _ (List.mem_cons_of_mem _ (List.mem_cons_of_mem _ (List.mem_cons_of_mem _ List.mem_cons_self))))) (cvm (c := 15) (by decide) (x' := ((ρ 4))) (y' := ((ρ 8))) (by show 0 + (1 * ρ 4 + 0) = _; omega) (by show 0 + (1 * ρ 8 + 0) = _; omega) (hm _ (List.mem_cons_of_mem _ (List.mem_cons_of_mem _ (List.mem_cons_of_mem _ (List.mem_cons_of_mem _ List.mem_cons_self)))))) hG
  obtain ⟨k0, -⟩ := H
  exact ⟨_, List.mem_cons_self, ρ, fun _ _ => rfl, (okM_c (pvp 66 (by show 0 + (1 * ρ 3 + 0) = _; omega) (by show 3 + 0 = _; omega) k0) okM_n), okB_n, okF_n⟩
-- fk34
theorem cr_166 (M : pM) (s0 s1 s2 s3 s4 : Int) (b0 : 0 ≤ s0 ∧ s0 ≤ 1900) (b1 : 0 ≤ s1 ∧ s1 ≤ 950) (b2 : 0 ≤ s2 ∧ s2 ≤ 1900) (b3 : 0 ≤ s3 ∧ s3 ≤ 1900) (b4 : 256 ≤ s4 ∧ s4 ≤ 600000) (m0 : HP 53 (4096 * s0 + s1) (256 * s2 + 34) M) (m1 : HP 47 (s2) (s4) M) (m2 : HP 45 (s2) (s3) M) (f0 : 0 ≤ ((-1) * s4 + 262142)) (hG : gI M) : (HP 66 (s3) (2 : Int) M ∧ True) := by
  refine ⟨r_fl (K := 2) (j := 1) m0 m1 m2 ⟨by omega, by omega, by decide⟩ (fun s hs hE e => ?_), trivial⟩
  show qcW (if qsz (tm M) s.1 2 = 1 ∧ (qlt (tm M) s.1 2 0 = 110 ∨ qlt (tm M) s.1 2 0 = 101 ∨ qlt (tm M) s.1 2 0 = 115 ∨ qlt (tm M) s.1 2 0 = 119) then none else some 2) (tK (tm M) (qps (tm M) s.1 2)) = some 2
  rw [e]
  exact qcW_2 (by omega) (by omega)
theorem rul_166 : Rul r_166 := by
  refine ⟨fun _ ρ M hm hB hF hG => ?_, fun gi gv hg => (by cases hg)⟩
  have H := cr_166 M (ρ 0) (ρ 1) (ρ 2) (ρ 3) (ρ 4) (hB _ List.mem_cons_self) (hB _ (List.mem_cons_of_mem _ List.mem_cons_self)) (hB _ (List.mem_cons_of_mem _ (List.mem_cons_of_mem _ List.mem_cons_self))) (hB _ (List.mem_cons_of_mem _ (List.mem_cons_of_mem _ (List.mem_cons_of_mem _ List.mem_cons_self)))) (hB _ (List.mem_cons_of_mem _ (List.mem_cons_of_mem _ (List.mem_cons_of_mem _ (List.mem_cons_of_mem _ List.mem_cons_self))))) (cvp 53 (x' := (4096 * (ρ 0) + (ρ 1))) (y' := (256 * (ρ 2) + 34)) (by show 0 + (4096 * ρ 0 + (1 * ρ 1 + 0)) = _; omega) (by show 34 + (256 * ρ 2 + 0) = _; omega) (hm _ List.mem_cons_self)) (cvp 47 (x' := ((ρ 2))) (y' := ((ρ 4))) (by show 0 + (1 * ρ 2 + 0) = _; omega) (by show 0 + (1 * ρ 4 + 0) = _; omega) (hm _ (List.mem_cons_of_mem _ List.mem_cons_self))) (cvp 45 (x' := ((ρ 2))) (y' := ((ρ 3))) (by show 0 + (1 * ρ 2 + 0) = _; omega) (by show 0 + (1 * ρ 3 + 0) = _; omega) (hm _ (List.mem_cons_of_mem _ (List.mem_cons_of_mem _ List.mem_cons_self)))) (by have h := hF _ List.mem_cons_self; have h : 0 ≤ 262142 + ((-1) * ρ 4 + 0) := h; omega) hG
  obtain ⟨k0, -⟩ := H
  exact ⟨_, List.mem_cons_self, ρ, fun _ _ => rfl, (okM_c (pvp 66 (by show 0 + (1 * ρ 3 + 0) = _; omega) (by show 2 + 0 = _; omega) k0) okM_n), okB_n, okF_n⟩
-- fl34
theorem cr_167 (M : pM) (s0 s1 s2 s3 s4 : Int) (b0 : 0 ≤ s0 ∧ s0 ≤ 1900) (b1 : 0 ≤ s1 ∧ s1 ≤ 950) (b2 : 0 ≤ s2 ∧ s2 ≤ 1900) (b3 : 0 ≤ s3 ∧ s3 ≤ 1900) (b4 : 256 ≤ s4 ∧ s4 ≤ 600000) (m0 : HP 53 (4096 * s0 + s1) (256 * s2 + 34) M) (m1 : HP 47 (s2) (s4) M) (m2 : HP 45 (s2) (s3) M) (f0 : 0 ≤ (s4 - 262169)) (hG : gI M) : (HP 66 (s3) (2 : Int) M ∧ True) := by
  refine ⟨r_fl (K := 2) (j := 1) m0 m1 m2 ⟨by omega, by omega, by decide⟩ (fun s hs hE e => ?_), trivial⟩
  show qcW (if qsz (tm M) s.1 2 = 1 ∧ (qlt (tm M) s.1 2 0 = 110 ∨ qlt (tm M) s.1 2 0 = 101 ∨ qlt (tm M) s.1 2 0 = 115 ∨ qlt (tm M) s.1 2 0 = 119) then none else some 2) (tK (tm M) (qps (tm M) s.1 2)) = some 2
  rw [e]
  exact qcW_2 (by omega) (by omega)
theorem rul_167 : Rul r_167 := by
  refine ⟨fun _ ρ M hm hB hF hG => ?_, fun gi gv hg => (by cases hg)⟩
  have H := cr_167 M (ρ 0) (ρ 1) (ρ 2) (ρ 3) (ρ 4) (hB _ List.mem_cons_self) (hB _ (List.mem_cons_of_mem _ List.mem_cons_self)) (hB _ (List.mem_cons_of_mem _ (List.mem_cons_of_mem _ List.mem_cons_self))) (hB _ (List.mem_cons_of_mem _ (List.mem_cons_of_mem _ (List.mem_cons_of_mem _ List.mem_cons_self)))) (hB _ (List.mem_cons_of_mem _ (List.mem_cons_of_mem _ (List.mem_cons_of_mem _ (List.mem_cons_of_mem _ List.mem_cons_self))))) (cvp 53 (x' := (4096 * (ρ 0) + (ρ 1))) (y' := (256 * (ρ 2) + 34)) (by show 0 + (4096 * ρ 0 + (1 * ρ 1 + 0)) = _; omega) (by show 34 + (256 * ρ 2 + 0) = _; omega) (hm _ List.mem_cons_self)) (cvp 47 (x' := ((ρ 2))) (y' := ((ρ 4))) (by show 0 + (1 * ρ 2 + 0) = _; omega) (by show 0 + (1 * ρ 4 + 0) = _; omega) (hm _ (List.mem_cons_of_mem _ List.mem_cons_self))) (cvp 45 (x' := ((ρ 2))) (y' := ((ρ 3))) (by show 0 + (1 * ρ 2 + 0) = _; omega) (by show 0 + (1 * ρ 3 + 0) = _; omega) (hm _ (List.mem_cons_of_mem _ (List.mem_cons_of_mem _ List.mem_cons_self)))) (by have h := hF _ List.mem_cons_self; have h : 0 ≤ (-262169) + (1 * ρ 4 + 0) := h; omega) hG
  obtain ⟨k0, -⟩ := H
  exact ⟨_, List.mem_cons_self, ρ, fun _ _ => rfl, (okM_c (pvp 66 (by show 0 + (1 * ρ 3 + 0) = _; omega) (by show 2 + 0 = _; omega) k0) okM_n), okB_n, okF_n⟩
-- wl0
theorem cr_168 (M : pM) (s0 s1 s2 s3 s4 s5 : Int) (b0 : 0 ≤ s0 ∧ s0 ≤ 1900) (b1 : 0 ≤ s1 ∧ s1 ≤ 950) (b2 : 0 ≤ s2 ∧ s2 ≤ 1900) (b3 : 0 ≤ s3 ∧ s3 ≤ 1900) (b4 : 0 ≤ s4 ∧ s4 ≤ 1900) (b5 : 262143 ≤ s5 ∧ s5 ≤ 262168) (m0 : HP 53 (4096 * s0 + s1) (256 * s2 + 34) M) (m1 : HP 47 (s2) (s5) M) (m2 : HP 45 (s2) (s3) M) (m3 : HP 46 (s2) (s4) M) (m4 : (0 ≤ (s3) ∧ M 1 (s3).toNat = (110 : Int))) (f0 : 0 ≤ (s3 + (-1) * s4 + 1)) (f1 : 0 ≤ ((-1) * s3 + s4 - 1)) (hG : gI M) : (HP 53 (4096 * s0 + s1) (256 * s4 + 35) M ∧ HP 88 (s0) (0 : Int) M ∧ True) := by
  obtain ⟨S2, hS2, hE2⟩ := ex_o (K := 2) (j := 1) (a := s2) (Eq.mp hp_53 m0) ⟨by omega, by omega, by decide, by decide⟩
  have ha2 : s2 = (qps (tm M) S2.1 2 : Int) := hE2.2.2.2.2
  have ha : qps (tm M) S2.1 2 = s2.toNat := by omega
  have g1 := (q45 m2).2
  have g2 := (q46 m3).2
  have hr := rd1 m4 (by omega)
  have hl : qlt (tm M) S2.1 2 0 = 110 := by unfold qlt; rw [ha, show tS (tm M) s2.toNat + 0 = s3.toNat by omega]; exact hr
  have hc : ∀ s : Nat × pM, qat (tm M) (4096 * s0 + s1) s → tK (tm M) (qps (tm M) s.1 2) = s5 → qck (tm M) s.1 s.2 2 2 = none := by
    intro s hs e
    have e2 := qat_u hS2 hs
    subst e2
    show qcW (if qsz (tm M) s.1 2 = 1 ∧ (qlt (tm M) s.1 2 0 = 110 ∨ qlt (tm M) s.1 2 0 = 101 ∨ qlt (tm M) s.1 2 0 = 115 ∨ qlt (tm M) s.1 2 0 = 119) then none else some 2) (tK (tm M) (qps (tm M) s.1 2)) = _
    rw [e, qcW_x (by omega)]
    exact if_pos ⟨by unfold qsz; rw [ha]; omega, by rw [hl]; decide⟩
  exact ⟨r_ex (K := 2) (j := 1) m0 m1 m3 ⟨by omega, by omega, by decide⟩ (by omega) (by decide) (fun s hs hE e => hc s hs e), Eq.mpr hp_88 ⟨by omega, by rw [show s0.toNat = S2.1 by have := qat_p (P := s0) (l := s1) hS2 ⟨by omega, by omega, by omega⟩; omega]; unfold qwl; rw [hl]; rfl⟩, trivial⟩
theorem rul_168 : Rul r_168 := by
  refine ⟨fun _ ρ M hm hB hF hG => ?_, fun gi gv hg => (by cases hg)⟩
  have H := cr_168 M (ρ 0) (ρ 1) (ρ 2) (ρ 3) (ρ 4) (ρ 5) (hB _ List.mem_cons_self) (hB _ (List.mem_cons_of_mem _ List.mem_cons_self)) (hB _ (List.mem_cons_of_mem _ (List.mem_cons_of_mem _ List.mem_cons_self))) (hB _ (List.mem_cons_of_mem _ (List.mem_cons_of_mem _ (List.mem_cons_of_mem _ List.mem_cons_self)))) (hB _ (List.mem_cons_of_mem _ (List.mem_cons_of_mem _ (List.mem_cons_of_mem _ (List.mem_cons_of_mem _ List.mem_cons_self))))) (hB _ (List.mem_cons_of_mem _ (List.mem_cons_of_mem _ (List.mem_cons_of_mem _ (List.mem_cons_of_mem _ (List.mem_cons_of_mem _ List.mem_cons_self)))))) (cvp 53 (x' := (4096 * (ρ 0) + (ρ 1))) (y' := (256 * (ρ 2) + 34)) (by show 0 + (4096 * ρ 0 + (1 * ρ 1 + 0)) = _; omega) (by show 34 + (256 * ρ 2 + 0) = _; omega) (hm _ List.mem_cons_self)) (cvp 47 (x' := ((ρ 2))) (y' := ((ρ 5))) (by show 0 + (1 * ρ 2 + 0) = _; omega) (by show 0 + (1 * ρ 5 + 0) = _; omega) (hm _ (List.mem_cons_of_mem _ List.mem_cons_self))) (cvp 45 (x' := ((ρ 2))) (y' := ((ρ 3))) (by show 0 + (1 * ρ 2 + 0) = _; omega) (by show 0 + (1 * ρ 3 + 0) = _; omega) (hm _ (List.mem_cons_of_mem _ (List.mem_cons_of_mem _ List.mem_cons_self)))) (cvp 46 (x' := ((ρ 2))) (y' := ((ρ 4))) (by show 0 + (1 * ρ 2 + 0) = _; omega) (by show 0 + (1 * ρ 4 + 0) = _; omega) (hm _ (List.mem_cons_of_mem _ (List.mem_cons_of_mem _ (List.mem_cons_of_mem _ List.mem_cons_self))))) (cvm (c := 1) (by decide) (x' := ((ρ 3))) (y' := (110 : Int)) (by show 0 + (1 * ρ 3 + 0) = _; omega) (by show 110 + 0 = _; omega) (hm _ (List.mem_cons_of_mem _ (List.mem_cons_of_mem _ (List.mem_cons_of_mem _ (List.mem_cons_of_mem _ List.mem_cons_self)))))) (by have h := hF _ List.mem_cons_self; have h : 0 ≤ 1 + (1 * ρ 3 + ((-1) * ρ 4 + 0)) := h; omega) (by have h := hF _ (List.mem_cons_of_mem _ List.mem_cons_self); have h : 0 ≤ (-1) + ((-1) * ρ 3 + (1 * ρ 4 + 0)) := h; omega) hG
  obtain ⟨k0, k1, -⟩ := H
  exact ⟨_, List.mem_cons_self, ρ, fun _ _ => rfl, (okM_c (pvp 53 (by show 0 + (4096 * ρ 0 + (1 * ρ 1 + 0)) = _; omega) (by show 35 + (256 * ρ 4 + 0) = _; omega) k0) (okM_c (pvp 88 (by show 0 + (1 * ρ 0 + 0) = _; omega) (by show 0 + 0 = _; omega) k1) okM_n)), okB_n, okF_n⟩
-- wl1
theorem cr_169 (M : pM) (s0 s1 s2 s3 s4 s5 : Int) (b0 : 0 ≤ s0 ∧ s0 ≤ 1900) (b1 : 0 ≤ s1 ∧ s1 ≤ 950) (b2 : 0 ≤ s2 ∧ s2 ≤ 1900) (b3 : 0 ≤ s3 ∧ s3 ≤ 1900) (b4 : 0 ≤ s4 ∧ s4 ≤ 1900) (b5 : 262143 ≤ s5 ∧ s5 ≤ 262168) (m0 : HP 53 (4096 * s0 + s1) (256 * s2 + 34) M) (m1 : HP 47 (s2) (s5) M) (m2 : HP 45 (s2) (s3) M) (m3 : HP 46 (s2) (s4) M) (m4 : (0 ≤ (s3) ∧ M 1 (s3).toNat = (101 : Int))) (f0 : 0 ≤ (s3 + (-1) * s4 + 1)) (f1 : 0 ≤ ((-1) * s3 + s4 - 1)) (hG : gI M) : (HP 53 (4096 * s0 + s1) (256 * s4 + 35) M ∧ HP 88 (s0) (1 : Int) M ∧ True) := by
  obtain ⟨S2, hS2, hE2⟩ := ex_o (K := 2) (j := 1) (a := s2) (Eq.mp hp_53 m0) ⟨by omega, by omega, by decide, by decide⟩
  have ha2 : s2 = (qps (tm M) S2.1 2 : Int) := hE2.2.2.2.2
  have ha : qps (tm M) S2.1 2 = s2.toNat := by omega
  have g1 := (q45 m2).2
  have g2 := (q46 m3).2
  have hr := rd1 m4 (by omega)
  have hl : qlt (tm M) S2.1 2 0 = 101 := by unfold qlt; rw [ha, show tS (tm M) s2.toNat + 0 = s3.toNat by omega]; exact hr
  have hc : ∀ s : Nat × pM, qat (tm M) (4096 * s0 + s1) s → tK (tm M) (qps (tm M) s.1 2) = s5 → qck (tm M) s.1 s.2 2 2 = none := by
    intro s hs e
    have e2 := qat_u hS2 hs
    subst e2
    show qcW (if qsz (tm M) s.1 2 = 1 ∧ (qlt (tm M) s.1 2 0 = 110 ∨ qlt (tm M) s.1 2 0 = 101 ∨ qlt (tm M) s.1 2 0 = 115 ∨ qlt (tm M) s.1 2 0 = 119) then none else some 2) (tK (tm M) (qps (tm M) s.1 2)) = _
    rw [e, qcW_x (by omega)]
    exact if_pos ⟨by unfold qsz; rw [ha]; omega, by rw [hl]; decide⟩
  exact ⟨r_ex (K := 2) (j := 1) m0 m1 m3 ⟨by omega, by omega, by decide⟩ (by omega) (by decide) (fun s hs hE e => hc s hs e), Eq.mpr hp_88 ⟨by omega, by rw [show s0.toNat = S2.1 by have := qat_p (P := s0) (l := s1) hS2 ⟨by omega, by omega, by omega⟩; omega]; unfold qwl; rw [hl]; rfl⟩, trivial⟩
theorem rul_169 : Rul r_169 := by
  refine ⟨fun _ ρ M hm hB hF hG => ?_, fun gi gv hg => (by cases hg)⟩
  have H := cr_169 M (ρ 0) (ρ 1) (ρ 2) (ρ 3) (ρ 4) (ρ 5) (hB _ List.mem_cons_self) (hB _ (List.mem_cons_of_mem _ List.mem_cons_self)) (hB _ (List.mem_cons_of_mem _ (List.mem_cons_of_mem _ List.mem_cons_self))) (hB _ (List.mem_cons_of_mem _ (List.mem_cons_of_mem _ (List.mem_cons_of_mem _ List.mem_cons_self)))) (hB _ (List.mem_cons_of_mem _ (List.mem_cons_of_mem _ (List.mem_cons_of_mem _ (List.mem_cons_of_mem _ List.mem_cons_self))))) (hB _ (List.mem_cons_of_mem _ (List.mem_cons_of_mem _ (List.mem_cons_of_mem _ (List.mem_cons_of_mem _ (List.mem_cons_of_mem _ List.mem_cons_self)))))) (cvp 53 (x' := (4096 * (ρ 0) + (ρ 1))) (y' := (256 * (ρ 2) + 34)) (by show 0 + (4096 * ρ 0 + (1 * ρ 1 + 0)) = _; omega) (by show 34 + (256 * ρ 2 + 0) = _; omega) (hm _ List.mem_cons_self)) (cvp 47 (x' := ((ρ 2))) (y' := ((ρ 5))) (by show 0 + (1 * ρ 2 + 0) = _; omega) (by show 0 + (1 * ρ 5 + 0) = _; omega) (hm _ (List.mem_cons_of_mem _ List.mem_cons_self))) (cvp 45 (x' := ((ρ 2))) (y' := ((ρ 3))) (by show 0 + (1 * ρ 2 + 0) = _; omega) (by show 0 + (1 * ρ 3 + 0) = _; omega) (hm _ (List.mem_cons_of_mem _ (List.mem_cons_of_mem _ List.mem_cons_self)))) (cvp 46 (x' := ((ρ 2))) (y' := ((ρ 4))) (by show 0 + (1 * ρ 2 + 0) = _; omega) (by show 0 + (1 * ρ 4 + 0) = _; omega) (hm _ (List.mem_cons_of_mem _ (List.mem_cons_of_mem _ (List.mem_cons_of_mem _ List.mem_cons_self))))) (cvm (c := 1) (by decide) (x' := ((ρ 3))) (y' := (101 : Int)) (by show 0 + (1 * ρ 3 + 0) = _; omega) (by show 101 + 0 = _; omega) (hm _ (List.mem_cons_of_mem _ (List.mem_cons_of_mem _ (List.mem_cons_of_mem _ (List.mem_cons_of_mem _ List.mem_cons_self)))))) (by have h := hF _ List.mem_cons_self; have h : 0 ≤ 1 + (1 * ρ 3 + ((-1) * ρ 4 + 0)) := h; omega) (by have h := hF _ (List.mem_cons_of_mem _ List.mem_cons_self); have h : 0 ≤ (-1) + ((-1) * ρ 3 + (1 * ρ 4 + 0)) := h; omega) hG
  obtain ⟨k0, k1, -⟩ := H
  exact ⟨_, List.mem_cons_self, ρ, fun _ _ => rfl, (okM_c (pvp 53 (by show 0 + (4096 * ρ 0 + (1 * ρ 1 + 0)) = _; omega) (by show 35 + (256 * ρ 4 + 0) = _; omega) k0) (okM_c (pvp 88 (by show 0 + (1 * ρ 0 + 0) = _; omega) (by show 1 + 0 = _; omega) k1) okM_n)), okB_n, okF_n⟩
-- wl2
theorem cr_170 (M : pM) (s0 s1 s2 s3 s4 s5 : Int) (b0 : 0 ≤ s0 ∧ s0 ≤ 1900) (b1 : 0 ≤ s1 ∧ s1 ≤ 950) (b2 : 0 ≤ s2 ∧ s2 ≤ 1900) (b3 : 0 ≤ s3 ∧ s3 ≤ 1900) (b4 : 0 ≤ s4 ∧ s4 ≤ 1900) (b5 : 262143 ≤ s5 ∧ s5 ≤ 262168) (m0 : HP 53 (4096 * s0 + s1) (256 * s2 + 34) M) (m1 : HP 47 (s2) (s5) M) (m2 : HP 45 (s2) (s3) M) (m3 : HP 46 (s2) (s4) M) (m4 : (0 ≤ (s3) ∧ M 1 (s3).toNat = (115 : Int))) (f0 : 0 ≤ (s3 + (-1) * s4 + 1)) (f1 : 0 ≤ ((-1) * s3 + s4 - 1)) (hG : gI M) : (HP 53 (4096 * s0 + s1) (256 * s4 + 35) M ∧ HP 88 (s0) (2 : Int) M ∧ True) := by
  obtain ⟨S2, hS2, hE2⟩ := ex_o (K := 2) (j := 1) (a := s2) (Eq.mp hp_53 m0) ⟨by omega, by omega, by decide, by decide⟩
  have ha2 : s2 = (qps (tm M) S2.1 2 : Int) := hE2.2.2.2.2
  have ha : qps (tm M) S2.1 2 = s2.toNat := by omega
  have g1 := (q45 m2).2
  have g2 := (q46 m3).2
  have hr := rd1 m4 (by omega)
  have hl : qlt (tm M) S2.1 2 0 = 115 := by unfold qlt; rw [ha, show tS (tm M) s2.toNat + 0 = s3.toNat by omega]; exact hr
  have hc : ∀ s : Nat × pM, qat (tm M) (4096 * s0 + s1) s → tK (tm M) (qps (tm M) s.1 2) = s5 → qck (tm M) s.1 s.2 2 2 = none := by
    intro s hs e
    have e2 := qat_u hS2 hs
    subst e2
    show qcW (if qsz (tm M) s.1 2 = 1 ∧ (qlt (tm M) s.1 2 0 = 110 ∨ qlt (tm M) s.1 2 0 = 101 ∨ qlt (tm M) s.1 2 0 = 115 ∨ qlt (tm M) s.1 2 0 = 119) then none else some 2) (tK (tm M) (qps (tm M) s.1 2)) = _
    rw [e, qcW_x (by omega)]
    exact if_pos ⟨by unfold qsz; rw [ha]; omega, by rw [hl]; decide⟩
  exact ⟨r_ex (K := 2) (j := 1) m0 m1 m3 ⟨by omega, by omega, by decide⟩ (by omega) (by decide) (fun s hs hE e => hc s hs e), Eq.mpr hp_88 ⟨by omega, by rw [show s0.toNat = S2.1 by have := qat_p (P := s0) (l := s1) hS2 ⟨by omega, by omega, by omega⟩; omega]; unfold qwl; rw [hl]; rfl⟩, trivial⟩
theorem rul_170 : Rul r_170 := by
  refine ⟨fun _ ρ M hm hB hF hG => ?_, fun gi gv hg => (by cases hg)⟩
  have H := cr_170 M (ρ 0) (ρ 1) (ρ 2) (ρ 3) (ρ 4) (ρ 5) (hB _ List.mem_cons_self) (hB _ (List.mem_cons_of_mem _ List.mem_cons_self)) (hB _ (List.mem_cons_of_mem _ (List.mem_cons_of_mem _ List.mem_cons_self))) (hB _ (List.mem_cons_of_mem _ (List.mem_cons_of_mem _ (List.mem_cons_of_mem _ List.mem_cons_self)))) (hB _ (List.mem_cons_of_mem _ (List.mem_cons_of_mem _ (List.mem_cons_of_mem _ (List.mem_cons_of_mem _ List.mem_cons_self))))) (hB _ (List.mem_cons_of_mem _ (List.mem_cons_of_mem _ (List.mem_cons_of_mem _ (List.mem_cons_of_mem _ (List.mem_cons_of_mem _ List.mem_cons_self)))))) (cvp 53 (x' := (4096 * (ρ 0) + (ρ 1))) (y' := (256 * (ρ 2) + 34)) (by show 0 + (4096 * ρ 0 + (1 * ρ 1 + 0)) = _; omega) (by show 34 + (256 * ρ 2 + 0) = _; omega) (hm _ List.mem_cons_self)) (cvp 47 (x' := ((ρ 2))) (y' := ((ρ 5))) (by show 0 + (1 * ρ 2 + 0) = _; omega) (by show 0 + (1 * ρ 5 + 0) = _; omega) (hm _ (List.mem_cons_of_mem _ List.mem_cons_self))) (cvp 45 (x' := ((ρ 2))) (y' := ((ρ 3))) (by show 0 + (1 * ρ 2 + 0) = _; omega) (by show 0 + (1 * ρ 3 + 0) = _; omega) (hm _ (List.mem_cons_of_mem _ (List.mem_cons_of_mem _ List.mem_cons_self)))) (cvp 46 (x' := ((ρ 2))) (y' := ((ρ 4))) (by show 0 + (1 * ρ 2 + 0) = _; omega) (by show 0 + (1 * ρ 4 + 0) = _; omega) (hm _ (List.mem_cons_of_mem _ (List.mem_cons_of_mem _ (List.mem_cons_of_mem _ List.mem_cons_self))))) (cvm (c := 1) (by decide) (x' := ((ρ 3))) (y' := (115 : Int)) (by show 0 + (1 * ρ 3 + 0) = _; omega) (by show 115 + 0 = _; omega) (hm _ (List.mem_cons_of_mem _ (List.mem_cons_of_mem _ (List.mem_cons_of_mem _ (List.mem_cons_of_mem _ List.mem_cons_self)))))) (by have h := hF _ List.mem_cons_self; have h : 0 ≤ 1 + (1 * ρ 3 + ((-1) * ρ 4 + 0)) := h; omega) (by have h := hF _ (List.mem_cons_of_mem _ List.mem_cons_self); have h : 0 ≤ (-1) + ((-1) * ρ 3 + (1 * ρ 4 + 0)) := h; omega) hG
  obtain ⟨k0, k1, -⟩ := H
  exact ⟨_, List.mem_cons_self, ρ, fun _ _ => rfl, (okM_c (pvp 53 (by show 0 + (4096 * ρ 0 + (1 * ρ 1 + 0)) = _; omega) (by show 35 + (256 * ρ 4 + 0) = _; omega) k0) (okM_c (pvp 88 (by show 0 + (1 * ρ 0 + 0) = _; omega) (by show 2 + 0 = _; omega) k1) okM_n)), okB_n, okF_n⟩
-- wl3
theorem cr_171 (M : pM) (s0 s1 s2 s3 s4 s5 : Int) (b0 : 0 ≤ s0 ∧ s0 ≤ 1900) (b1 : 0 ≤ s1 ∧ s1 ≤ 950) (b2 : 0 ≤ s2 ∧ s2 ≤ 1900) (b3 : 0 ≤ s3 ∧ s3 ≤ 1900) (b4 : 0 ≤ s4 ∧ s4 ≤ 1900) (b5 : 262143 ≤ s5 ∧ s5 ≤ 262168) (m0 : HP 53 (4096 * s0 + s1) (256 * s2 + 34) M) (m1 : HP 47 (s2) (s5) M) (m2 : HP 45 (s2) (s3) M) (m3 : HP 46 (s2) (s4) M) (m4 : (0 ≤ (s3) ∧ M 1 (s3).toNat = (119 : Int))) (f0 : 0 ≤ (s3 + (-1) * s4 + 1)) (f1 : 0 ≤ ((-1) * s3 + s4 - 1)) (hG : gI M) : (HP 53 (4096 * s0 + s1) (256 * s4 + 35) M ∧ HP 88 (s0) (3 : Int) M ∧ True) := by
  obtain ⟨S2, hS2, hE2⟩ := ex_o (K := 2) (j := 1) (a := s2) (Eq.mp hp_53 m0) ⟨by omega, by omega, by decide, by decide⟩
  have ha2 : s2 = (qps (tm M) S2.1 2 : Int) := hE2.2.2.2.2
  have ha : qps (tm M) S2.1 2 = s2.toNat := by omega
  have g1 := (q45 m2).2
  have g2 := (q46 m3).2
  have hr := rd1 m4 (by omega)
  have hl : qlt (tm M) S2.1 2 0 = 119 := by unfold qlt; rw [ha, show tS (tm M) s2.toNat + 0 = s3.toNat by omega]; exact hr
  have hc : ∀ s : Nat × pM, qat (tm M) (4096 * s0 + s1) s → tK (tm M) (qps (tm M) s.1 2) = s5 → qck (tm M) s.1 s.2 2 2 = none := by
    intro s hs e
    have e2 := qat_u hS2 hs
    subst e2
    show qcW (if qsz (tm M) s.1 2 = 1 ∧ (qlt (tm M) s.1 2 0 = 110 ∨ qlt (tm M) s.1 2 0 = 101 ∨ qlt (tm M) s.1 2 0 = 115 ∨ qlt (tm M) s.1 2 0 = 119) then none else some 2) (tK (tm M) (qps (tm M) s.1 2)) = _
    rw [e, qcW_x (by omega)]
    exact if_pos ⟨by unfold qsz; rw [ha]; omega, by rw [hl]; decide⟩
  exact ⟨r_ex (K := 2) (j := 1) m0 m1 m3 ⟨by omega, by omega, by decide⟩ (by omega) (by decide) (fun s hs hE e => hc s hs e), Eq.mpr hp_88 ⟨by omega, by rw [show s0.toNat = S2.1 by have := qat_p (P := s0) (l := s1) hS2 ⟨by omega, by omega, by omega⟩; omega]; unfold qwl; rw [hl]; rfl⟩, trivial⟩
theorem rul_171 : Rul r_171 := by
  refine ⟨fun _ ρ M hm hB hF hG => ?_, fun gi gv hg => (by cases hg)⟩
  have H := cr_171 M (ρ 0) (ρ 1) (ρ 2) (ρ 3) (ρ 4) (ρ 5) (hB _ List.mem_cons_self) (hB _ (List.mem_cons_of_mem _ List.mem_cons_self)) (hB _ (List.mem_cons_of_mem _ (List.mem_cons_of_mem _ List.mem_cons_self))) (hB _ (List.mem_cons_of_mem _ (List.mem_cons_of_mem _ (List.mem_cons_of_mem _ List.mem_cons_self)))) (hB _ (List.mem_cons_of_mem _ (List.mem_cons_of_mem _ (List.mem_cons_of_mem _ (List.mem_cons_of_mem _ List.mem_cons_self))))) (hB _ (List.mem_cons_of_mem _ (List.mem_cons_of_mem _ (List.mem_cons_of_mem _ (List.mem_cons_of_mem _ (List.mem_cons_of_mem _ List.mem_cons_self)))))) (cvp 53 (x' := (4096 * (ρ 0) + (ρ 1))) (y' := (256 * (ρ 2) + 34)) (by show 0 + (4096 * ρ 0 + (1 * ρ 1 + 0)) = _; omega) (by show 34 + (256 * ρ 2 + 0) = _; omega) (hm _ List.mem_cons_self)) (cvp 47 (x' := ((ρ 2))) (y' := ((ρ 5))) (by show 0 + (1 * ρ 2 + 0) = _; omega) (by show 0 + (1 * ρ 5 + 0) = _; omega) (hm _ (List.mem_cons_of_mem _ List.mem_cons_self))) (cvp 45 (x' := ((ρ 2))) (y' := ((ρ 3))) (by show 0 + (1 * ρ 2 + 0) = _; omega) (by show 0 + (1 * ρ 3 + 0) = _; omega) (hm _ (List.mem_cons_of_mem _ (List.mem_cons_of_mem _ List.mem_cons_self)))) (cvp 46 (x' := ((ρ 2))) (y' := ((ρ 4))) (by show 0 + (1 * ρ 2 + 0) = _; omega) (by show 0 + (1 * ρ 4 + 0) = _; omega) (hm _ (List.mem_cons_of_mem _ (List.mem_cons_of_mem _ (List.mem_cons_of_mem _ List.mem_cons_self))))) (cvm (c := 1) (by decide) (x' := ((ρ 3))) (y' := (119 : Int)) (by show 0 + (1 * ρ 3 + 0) = _; omega) (by show 119 + 0 = _; omega) (hm _ (List.mem_cons_of_mem _ (List.mem_cons_of_mem _ (List.mem_cons_of_mem _ (List.mem_cons_of_mem _ List.mem_cons_self)))))) (by have h := hF _ List.mem_cons_self; have h : 0 ≤ 1 + (1 * ρ 3 + ((-1) * ρ 4 + 0)) := h; omega) (by have h := hF _ (List.mem_cons_of_mem _ List.mem_cons_self); have h : 0 ≤ (-1) + ((-1) * ρ 3 + (1 * ρ 4 + 0)) := h; omega) hG
  obtain ⟨k0, k1, -⟩ := H
  exact ⟨_, List.mem_cons_self, ρ, fun _ _ => rfl, (okM_c (pvp 53 (by show 0 + (4096 * ρ 0 + (1 * ρ 1 + 0)) = _; omega) (by show 35 + (256 * ρ 4 + 0) = _; omega) k0) (okM_c (pvp 88 (by show 0 + (1 * ρ 0 + 0) = _; omega) (by show 3 + 0 = _; omega) k1) okM_n)), okB_n, okF_n⟩
-- wll
theorem cr_172 (M : pM) (s0 s1 s2 s3 s4 s5 : Int) (b0 : 0 ≤ s0 ∧ s0 ≤ 1900) (b1 : 0 ≤ s1 ∧ s1 ≤ 950) (b2 : 0 ≤ s2 ∧ s2 ≤ 1900) (b3 : 0 ≤ s3 ∧ s3 ≤ 1900) (b4 : 0 ≤ s4 ∧ s4 ≤ 1900) (b5 : 262143 ≤ s5 ∧ s5 ≤ 262168) (m0 : HP 53 (4096 * s0 + s1) (256 * s2 + 34) M) (m1 : HP 47 (s2) (s5) M) (m2 : HP 45 (s2) (s3) M) (m3 : HP 46 (s2) (s4) M) (f0 : 0 ≤ ((-1) * s3 + s4 - 2)) (hG : gI M) : (HP 66 (s3) (2 : Int) M ∧ True) := by
  obtain ⟨S2, hS2, hE2⟩ := ex_o (K := 2) (j := 1) (a := s2) (Eq.mp hp_53 m0) ⟨by omega, by omega, by decide, by decide⟩
  have ha2 : s2 = (qps (tm M) S2.1 2 : Int) := hE2.2.2.2.2
  have ha : qps (tm M) S2.1 2 = s2.toNat := by omega
  have g1 := (q45 m2).2
  have g2 := (q46 m3).2
  have hc : ∀ s : Nat × pM, qat (tm M) (4096 * s0 + s1) s → tK (tm M) (qps (tm M) s.1 2) = s5 → qck (tm M) s.1 s.2 2 2 = some 2 := by
    intro s hs e
    have e2 := qat_u hS2 hs
    subst e2
    show qcW (if qsz (tm M) s.1 2 = 1 ∧ (qlt (tm M) s.1 2 0 = 110 ∨ qlt (tm M) s.1 2 0 = 101 ∨ qlt (tm M) s.1 2 0 = 115 ∨ qlt (tm M) s.1 2 0 = 119) then none else some 2) (tK (tm M) (qps (tm M) s.1 2)) = _
    rw [e, qcW_x (by omega)]
    exact if_neg (fun hh => by have hh := hh.1; unfold qsz at hh; rw [ha] at hh; omega)
  exact ⟨r_fl (K := 2) (j := 1) m0 m1 m2 ⟨by omega, by omega, by decide⟩ (fun s hs hE e => hc s hs e), trivial⟩
theorem rul_172 : Rul r_172 := by
  refine ⟨fun _ ρ M hm hB hF hG => ?_, fun gi gv hg => (by cases hg)⟩
  have H := cr_172 M (ρ 0) (ρ 1) (ρ 2) (ρ 3) (ρ 4) (ρ 5) (hB _ List.mem_cons_self) (hB _ (List.mem_cons_of_mem _ List.mem_cons_self)) (hB _ (List.mem_cons_of_mem _ (List.mem_cons_of_mem _ List.mem_cons_self))) (hB _ (List.mem_cons_of_mem _ (List.mem_cons_of_mem _ (List.mem_cons_of_mem _ List.mem_cons_self)))) (hB _ (List.mem_cons_of_mem _ (List.mem_cons_of_mem _ (List.mem_cons_of_mem _ (List.mem_cons_of_mem _ List.mem_cons_self))))) (hB _ (List.mem_cons_of_mem _ (List.mem_cons_of_mem _ (List.mem_cons_of_mem _ (List.mem_cons_of_mem _ (List.mem_cons_of_mem _ List.mem_cons_self)))))) (cvp 53 (x' := (4096 * (ρ 0) + (ρ 1))) (y' := (256 * (ρ 2) + 34)) (by show 0 + (4096 * ρ 0 + (1 * ρ 1 + 0)) = _; omega) (by show 34 + (256 * ρ 2 + 0) = _; omega) (hm _ List.mem_cons_self)) (cvp 47 (x' := ((ρ 2))) (y' := ((ρ 5))) (by show 0 + (1 * ρ 2 + 0) = _; omega) (by show 0 + (1 * ρ 5 + 0) = _; omega) (hm _ (List.mem_cons_of_mem _ List.mem_cons_self))) (cvp 45 (x' := ((ρ 2))) (y' := ((ρ 3))) (by show 0 + (1 * ρ 2 + 0) = _; omega) (by show 0 + (1 * ρ 3 + 0) = _; omega) (hm _ (List.mem_cons_of_mem _ (List.mem_cons_of_mem _ List.mem_cons_self)))) (cvp 46 (x' := ((ρ 2))) (y' := ((ρ 4))) (by show 0 + (1 * ρ 2 + 0) = _; omega) (by show 0 + (1 * ρ 4 + 0) = _; omega) (hm _ (List.mem_cons_of_mem _ (List.mem_cons_of_mem _ (List.mem_cons_of_mem _ List.mem_cons_self))))) (by have h := hF _ List.mem_cons_self; have h : 0 ≤ (-2) + ((-1) * ρ 3 + (1 * ρ 4 + 0)) := h; omega) hG
  obtain ⟨k0, -⟩ := H
  exact ⟨_, List.mem_cons_self, ρ, fun _ _ => rfl, (okM_c (pvp 66 (by show 0 + (1 * ρ 3 + 0) = _; omega) (by show 2 + 0 = _; omega) k0) okM_n), okB_n, okF_n⟩
-- wlf0
theorem cr_173 (M : pM) (s0 s1 s2 s3 s4 s5 s6 : Int) (b0 : 0 ≤ s0 ∧ s0 ≤ 1900) (b1 : 0 ≤ s1 ∧ s1 ≤ 950) (b2 : 0 ≤ s2 ∧ s2 ≤ 1900) (b3 : 0 ≤ s3 ∧ s3 ≤ 1900) (b4 : 0 ≤ s4 ∧ s4 ≤ 1900) (b5 : 262143 ≤ s5 ∧ s5 ≤ 262168) (b6 : 0 ≤ s6 ∧ s6 ≤ 255) (m0 : HP 53 (4096 * s0 + s1) (256 * s2 + 34) M) (m1 : HP 47 (s2) (s5) M) (m2 : HP 45 (s2) (s3) M) (m3 : HP 46 (s2) (s4) M) (m4 : (0 ≤ (s3) ∧ M 1 (s3).toNat = (s6))) (f0 : 0 ≤ (s3 + (-1) * s4 + 1)) (f1 : 0 ≤ ((-1) * s3 + s4 - 1)) (f2 : 0 ≤ ((-1) * s6 + 100)) (hG : gI M) : (HP 66 (s3) (2 : Int) M ∧ True) := by
  obtain ⟨S2, hS2, hE2⟩ := ex_o (K := 2) (j := 1) (a := s2) (Eq.mp hp_53 m0) ⟨by omega, by omega, by decide, by decide⟩
  have ha2 : s2 = (qps (tm M) S2.1 2 : Int) := hE2.2.2.2.2
  have ha : qps (tm M) S2.1 2 = s2.toNat := by omega
  have g1 := (q45 m2).2
  have g2 := (q46 m3).2
  have hr := rd1 m4 (by omega)
  have hl : qlt (tm M) S2.1 2 0 = s6 := by unfold qlt; rw [ha, show tS (tm M) s2.toNat + 0 = s3.toNat by omega]; exact hr
  have hc : ∀ s : Nat × pM, qat (tm M) (4096 * s0 + s1) s → tK (tm M) (qps (tm M) s.1 2) = s5 → qck (tm M) s.1 s.2 2 2 = some 2 := by
    intro s hs e
    have e2 := qat_u hS2 hs
    subst e2
    show qcW (if qsz (tm M) s.1 2 = 1 ∧ (qlt (tm M) s.1 2 0 = 110 ∨ qlt (tm M) s.1 2 0 = 101 ∨ qlt (tm M) s.1 2 0 = 115 ∨ qlt (tm M) s.1 2 0 = 119) then none else some 2) (tK (tm M) (qps (tm M) s.1 2)) = _
    rw [e, qcW_x (by omega)]
    exact if_neg (fun hh => by have hh := hh.2; rw [hl] at hh; omega)
  exact ⟨r_fl (K := 2) (j := 1) m0 m1 m2 ⟨by omega, by omega, by decide⟩ (fun s hs hE e => hc s hs e), trivial⟩
theorem rul_173 : Rul r_173 := by
  refine ⟨fun _ ρ M hm hB hF hG => ?_, fun gi gv hg => (by cases hg)⟩
  have H := cr_173 M (ρ 0) (ρ 1) (ρ 2) (ρ 3) (ρ 4) (ρ 5) (ρ 6) (hB _ List.mem_cons_self) (hB _ (List.mem_cons_of_mem _ List.mem_cons_self)) (hB _ (List.mem_cons_of_mem _ (List.mem_cons_of_mem _ List.mem_cons_self))) (hB _ (List.mem_cons_of_mem _ (List.mem_cons_of_mem _ (List.mem_cons_of_mem _ List.mem_cons_self)))) (hB _ (List.mem_cons_of_mem _ (List.mem_cons_of_mem _ (List.mem_cons_of_mem _ (List.mem_cons_of_mem _ List.mem_cons_self))))) (hB _ (List.mem_cons_of_mem _ (List.mem_cons_of_mem _ (List.mem_cons_of_mem _ (List.mem_cons_of_mem _ (List.mem_cons_of_mem _ List.mem_cons_self)))))) (hB _ (List.mem_cons_of_mem _ (List.mem_cons_of_mem _ (List.mem_cons_of_mem _ (List.mem_cons_of_mem _ (List.mem_cons_of_mem _ (List.mem_cons_of_mem _ List.mem_cons_self))))))) (cvp 53 (x' := (4096 * (ρ 0) + (ρ 1))) (y' := (256 * (ρ 2) + 34)) (by show 0 + (4096 * ρ 0 + (1 * ρ 1 + 0)) = _; omega) (by show 34 + (256 * ρ 2 + 0) = _; omega) (hm _ List.mem_cons_self)) (cvp 47 (x' := ((ρ 2))) (y' := ((ρ 5))) (by show 0 + (1 * ρ 2 + 0) = _; omega) (by show 0 + (1 * ρ 5 + 0) = _; omega) (hm _ (List.mem_cons_of_mem _ List.mem_cons_self))) (cvp 45 (x' := ((ρ 2))) (y' := ((ρ 3))) (by show 0 + (1 * ρ 2 + 0) = _; omega) (by show 0 + (1 * ρ 3 + 0) = _; omega) (hm _ (List.mem_cons_of_mem _ (List.mem_cons_of_mem _ List.mem_cons_self)))) (cvp 46 (x' := ((ρ 2))) (y' := ((ρ 4))) (by show 0 + (1 * ρ 2 + 0) = _; omega) (by show 0 + (1 * ρ 4 + 0) = _; omega) (hm _ (List.mem_cons_of_mem _ (List.mem_cons_of_mem _ (List.mem_cons_of_mem _ List.mem_cons_self))))) (cvm (c := 1) (by decide) (x' := ((ρ 3))) (y' := ((ρ 6))) (by show 0 + (1 * ρ 3 + 0) = _; omega) (by show 0 + (1 * ρ 6 + 0) = _; omega) (hm _ (List.mem_cons_of_mem _ (List.mem_cons_of_mem _ (List.mem_cons_of_mem _ (List.mem_cons_of_mem _ List.mem_cons_self)))))) (by have h := hF _ List.mem_cons_self; have h : 0 ≤ 1 + (1 * ρ 3 + ((-1) * ρ 4 + 0)) := h; omega) (by have h := hF _ (List.mem_cons_of_mem _ List.mem_cons_self); have h : 0 ≤ (-1) + ((-1) * ρ 3 + (1 * ρ 4 + 0)) := h; omega) (by have h := hF _ (List.mem_cons_of_mem _ (List.mem_cons_of_mem _ List.mem_cons_self)); have h : 0 ≤ 100 + ((-1) * ρ 6 + 0) := h; omega) hG
  obtain ⟨k0, -⟩ := H
  exact ⟨_, List.mem_cons_self, ρ, fun _ _ => rfl, (okM_c (pvp 66 (by show 0 + (1 * ρ 3 + 0) = _; omega) (by show 2 + 0 = _; omega) k0) okM_n), okB_n, okF_n⟩
-- wlf1
theorem cr_174 (M : pM) (s0 s1 s2 s3 s4 s5 s6 : Int) (b0 : 0 ≤ s0 ∧ s0 ≤ 1900) (b1 : 0 ≤ s1 ∧ s1 ≤ 950) (b2 : 0 ≤ s2 ∧ s2 ≤ 1900) (b3 : 0 ≤ s3 ∧ s3 ≤ 1900) (b4 : 0 ≤ s4 ∧ s4 ≤ 1900) (b5 : 262143 ≤ s5 ∧ s5 ≤ 262168) (b6 : 0 ≤ s6 ∧ s6 ≤ 255) (m0 : HP 53 (4096 * s0 + s1) (256 * s2 + 34) M) (m1 : HP 47 (s2) (s5) M) (m2 : HP 45 (s2) (s3) M) (m3 : HP 46 (s2) (s4) M) (m4 : (0 ≤ (s3) ∧ M 1 (s3).toNat = (s6))) (f0 : 0 ≤ (s3 + (-1) * s4 + 1)) (f1 : 0 ≤ ((-1) * s3 + s4 - 1)) (f2 : 0 ≤ (s6 - 102)) (f3 : 0 ≤ ((-1) * s6 + 109)) (hG : gI M) : (HP 66 (s3) (2 : Int) M ∧ True) := by
  obtain ⟨S2, hS2, hE2⟩ := ex_o (K := 2) (j := 1) (a := s2) (Eq.mp hp_53 m0) ⟨by omega, by omega, by decide, by decide⟩
  have ha2 : s2 = (qps (tm M) S2.1 2 : Int) := hE2.2.2.2.2
  have ha : qps (tm M) S2.1 2 = s2.toNat := by omega
  have g1 := (q45 m2).2
  have g2 := (q46 m3).2
  have hr := rd1 m4 (by omega)
  have hl : qlt (tm M) S2.1 2 0 = s6 := by unfold qlt; rw [ha, show tS (tm M) s2.toNat + 0 = s3.toNat by omega]; exact hr
  have hc : ∀ s : Nat × pM, qat (tm M) (4096 * s0 + s1) s → tK (tm M) (qps (tm M) s.1 2) = s5 → qck (tm M) s.1 s.2 2 2 = some 2 := by
    intro s hs e
    have e2 := qat_u hS2 hs
    subst e2
    show qcW (if qsz (tm M) s.1 2 = 1 ∧ (qlt (tm M) s.1 2 0 = 110 ∨ qlt (tm M) s.1 2 0 = 101 ∨ qlt (tm M) s.1 2 0 = 115 ∨ qlt (tm M) s.1 2 0 = 119) then none else some 2) (tK (tm M) (qps (tm M) s.1 2)) = _
    rw [e, qcW_x (by omega)]
    exact if_neg (fun hh => by have hh := hh.2; rw [hl] at hh; omega)
  exact ⟨r_fl (K := 2) (j := 1) m0 m1 m2 ⟨by omega, by omega, by decide⟩ (fun s hs hE e => hc s hs e), trivial⟩
theorem rul_174 : Rul r_174 := by
  refine ⟨fun _ ρ M hm hB hF hG => ?_, fun gi gv hg => (by cases hg)⟩
  have H := cr_174 M (ρ 0) (ρ 1) (ρ 2) (ρ 3) (ρ 4) (ρ 5) (ρ 6) (hB _ List.mem_cons_self) (hB _ (List.mem_cons_of_mem _ List.mem_cons_self)) (hB _ (List.mem_cons_of_mem _ (List.mem_cons_of_mem _ List.mem_cons_self))) (hB _ (List.mem_cons_of_mem _ (List.mem_cons_of_mem _ (List.mem_cons_of_mem _ List.mem_cons_self)))) (hB _ (List.mem_cons_of_mem _ (List.mem_cons_of_mem _ (List.mem_cons_of_mem _ (List.mem_cons_of_mem _ List.mem_cons_self))))) (hB _ (List.mem_cons_of_mem _ (List.mem_cons_of_mem _ (List.mem_cons_of_mem _ (List.mem_cons_of_mem _ (List.mem_cons_of_mem _ List.mem_cons_self)))))) (hB _ (List.mem_cons_of_mem _ (List.mem_cons_of_mem _ (List.mem_cons_of_mem _ (List.mem_cons_of_mem _ (List.mem_cons_of_mem _ (List.mem_cons_of_mem _ List.mem_cons_self))))))) (cvp 53 (x' := (4096 * (ρ 0) + (ρ 1))) (y' := (256 * (ρ 2) + 34)) (by show 0 + (4096 * ρ 0 + (1 * ρ 1 + 0)) = _; omega) (by show 34 + (256 * ρ 2 + 0) = _; omega) (hm _ List.mem_cons_self)) (cvp 47 (x' := ((ρ 2))) (y' := ((ρ 5))) (by show 0 + (1 * ρ 2 + 0) = _; omega) (by show 0 + (1 * ρ 5 + 0) = _; omega) (hm _ (List.mem_cons_of_mem _ List.mem_cons_self))) (cvp 45 (x' := ((ρ 2))) (y' := ((ρ 3))) (by show 0 + (1 * ρ 2 + 0) = _; omega) (by show 0 + (1 * ρ 3 + 0) = _; omega) (hm _ (List.mem_cons_of_mem _ (List.mem_cons_of_mem _ List.mem_cons_self)))) (cvp 46 (x' := ((ρ 2))) (y' := ((ρ 4))) (by show 0 + (1 * ρ 2 + 0) = _; omega) (by show 0 + (1 * ρ 4 + 0) = _; omega) (hm _ (List.mem_cons_of_mem _ (List.mem_cons_of_mem _ (List.mem_cons_of_mem _ List.mem_cons_self))))) (cvm (c := 1) (by decide) (x' := ((ρ 3))) (y' := ((ρ 6))) (by show 0 + (1 * ρ 3 + 0) = _; omega) (by show 0 + (1 * ρ 6 + 0) = _; omega) (hm _ (List.mem_cons_of_mem _ (List.mem_cons_of_mem _ (List.mem_cons_of_mem _ (List.mem_cons_of_mem _ List.mem_cons_self)))))) (by have h := hF _ List.mem_cons_self; have h : 0 ≤ 1 + (1 * ρ 3 + ((-1) * ρ 4 + 0)) := h; omega) (by have h := hF _ (List.mem_cons_of_mem _ List.mem_cons_self); have h : 0 ≤ (-1) + ((-1) * ρ 3 + (1 * ρ 4 + 0)) := h; omega) (by have h := hF _ (List.mem_cons_of_mem _ (List.mem_cons_of_mem _ List.mem_cons_self)); have h : 0 ≤ (-102) + (1 * ρ 6 + 0) := h; omega) (by have h := hF _ (List.mem_cons_of_mem _ (List.mem_cons_of_mem _ (List.mem_cons_of_mem _ List.mem_cons_self))); have h : 0 ≤ 109 + ((-1) * ρ 6 + 0) := h; omega) hG
  obtain ⟨k0, -⟩ := H
  exact ⟨_, List.mem_cons_self, ρ, fun _ _ => rfl, (okM_c (pvp 66 (by show 0 + (1 * ρ 3 + 0) = _; omega) (by show 2 + 0 = _; omega) k0) okM_n), okB_n, okF_n⟩
-- wlf2
theorem cr_175 (M : pM) (s0 s1 s2 s3 s4 s5 s6 : Int) (b0 : 0 ≤ s0 ∧ s0 ≤ 1900) (b1 : 0 ≤ s1 ∧ s1 ≤ 950) (b2 : 0 ≤ s2 ∧ s2 ≤ 1900) (b3 : 0 ≤ s3 ∧ s3 ≤ 1900) (b4 : 0 ≤ s4 ∧ s4 ≤ 1900) (b5 : 262143 ≤ s5 ∧ s5 ≤ 262168) (b6 : 0 ≤ s6 ∧ s6 ≤ 255) (m0 : HP 53 (4096 * s0 + s1) (256 * s2 + 34) M) (m1 : HP 47 (s2) (s5) M) (m2 : HP 45 (s2) (s3) M) (m3 : HP 46 (s2) (s4) M) (m4 : (0 ≤ (s3) ∧ M 1 (s3).toNat = (s6))) (f0 : 0 ≤ (s3 + (-1) * s4 + 1)) (f1 : 0 ≤ ((-1) * s3 + s4 - 1)) (f2 : 0 ≤ (s6 - 111)) (f3 : 0 ≤ ((-1) * s6 + 114)) (hG : gI M) : (HP 66 (s3) (2 : Int) M ∧ True) := by
  obtain ⟨S2, hS2, hE2⟩ := ex_o (K := 2) (j := 1) (a := s2) (Eq.mp hp_53 m0) ⟨by omega, by omega, by decide, by decide⟩
  have ha2 : s2 = (qps (tm M) S2.1 2 : Int) := hE2.2.2.2.2
  have ha : qps (tm M) S2.1 2 = s2.toNat := by omega
  have g1 := (q45 m2).2
  have g2 := (q46 m3).2
  have hr := rd1 m4 (by omega)
  have hl : qlt (tm M) S2.1 2 0 = s6 := by unfold qlt; rw [ha, show tS (tm M) s2.toNat + 0 = s3.toNat by omega]; exact hr
  have hc : ∀ s : Nat × pM, qat (tm M) (4096 * s0 + s1) s → tK (tm M) (qps (tm M) s.1 2) = s5 → qck (tm M) s.1 s.2 2 2 = some 2 := by
    intro s hs e
    have e2 := qat_u hS2 hs
    subst e2
    show qcW (if qsz (tm M) s.1 2 = 1 ∧ (qlt (tm M) s.1 2 0 = 110 ∨ qlt (tm M) s.1 2 0 = 101 ∨ qlt (tm M) s.1 2 0 = 115 ∨ qlt (tm M) s.1 2 0 = 119) then none else some 2) (tK (tm M) (qps (tm M) s.1 2)) = _
    rw [e, qcW_x (by omega)]
    exact if_neg (fun hh => by have hh := hh.2; rw [hl] at hh; omega)
  exact ⟨r_fl (K := 2) (j := 1) m0 m1 m2 ⟨by omega, by omega, by decide⟩ (fun s hs hE e => hc s hs e), trivial⟩
theorem rul_175 : Rul r_175 := by
  refine ⟨fun _ ρ M hm hB hF hG => ?_, fun gi gv hg => (by cases hg)⟩
  have H := cr_175 M (ρ 0) (ρ 1) (ρ 2) (ρ 3) (ρ 4) (ρ 5) (ρ 6) (hB _ List.mem_cons_self) (hB _ (List.mem_cons_of_mem _ List.mem_cons_self)) (hB _ (List.mem_cons_of_mem _ (List.mem_cons_of_mem _ List.mem_cons_self))) (hB _ (List.mem_cons_of_mem _ (List.mem_cons_of_mem _ (List.mem_cons_of_mem _ List.mem_cons_self)))) (hB _ (List.mem_cons_of_mem _ (List.mem_cons_of_mem _ (List.mem_cons_of_mem _ (List.mem_cons_of_mem _ List.mem_cons_self))))) (hB _ (List.mem_cons_of_mem _ (List.mem_cons_of_mem _ (List.mem_cons_of_mem _ (List.mem_cons_of_mem _ (List.mem_cons_of_mem _ List.mem_cons_self)))))) (hB _ (List.mem_cons_of_mem _ (List.mem_cons_of_mem _ (List.mem_cons_of_mem _ (List.mem_cons_of_mem _ (List.mem_cons_of_mem _ (List.mem_cons_of_mem _ List.mem_cons_self))))))) (cvp 53 (x' := (4096 * (ρ 0) + (ρ 1))) (y' := (256 * (ρ 2) + 34)) (by show 0 + (4096 * ρ 0 + (1 * ρ 1 + 0)) = _; omega) (by show 34 + (256 * ρ 2 + 0) = _; omega) (hm _ List.mem_cons_self)) (cvp 47 (x' := ((ρ 2))) (y' := ((ρ 5))) (by show 0 + (1 * ρ 2 + 0) = _; omega) (by show 0 + (1 * ρ 5 + 0) = _; omega) (hm _ (List.mem_cons_of_mem _ List.mem_cons_self))) (cvp 45 (x' := ((ρ 2))) (y' := ((ρ 3))) (by show 0 + (1 * ρ 2 + 0) = _; omega) (by show 0 + (1 * ρ 3 + 0) = _; omega) (hm _ (List.mem_cons_of_mem _ (List.mem_cons_of_mem _ List.mem_cons_self)))) (cvp 46 (x' := ((ρ 2))) (y' := ((ρ 4))) (by show 0 + (1 * ρ 2 + 0) = _; omega) (by show 0 + (1 * ρ 4 + 0) = _; omega) (hm _ (List.mem_cons_of_mem _ (List.mem_cons_of_mem _ (List.mem_cons_of_mem _ List.mem_cons_self))))) (cvm (c := 1) (by decide) (x' := ((ρ 3))) (y' := ((ρ 6))) (by show 0 + (1 * ρ 3 + 0) = _; omega) (by show 0 + (1 * ρ 6 + 0) = _; omega) (hm _ (List.mem_cons_of_mem _ (List.mem_cons_of_mem _ (List.mem_cons_of_mem _ (List.mem_cons_of_mem _ List.mem_cons_self)))))) (by have h := hF _ List.mem_cons_self; have h : 0 ≤ 1 + (1 * ρ 3 + ((-1) * ρ 4 + 0)) := h; omega) (by have h := hF _ (List.mem_cons_of_mem _ List.mem_cons_self); have h : 0 ≤ (-1) + ((-1) * ρ 3 + (1 * ρ 4 + 0)) := h; omega) (by have h := hF _ (List.mem_cons_of_mem _ (List.mem_cons_of_mem _ List.mem_cons_self)); have h : 0 ≤ (-111) + (1 * ρ 6 + 0) := h; omega) (by have h := hF _ (List.mem_cons_of_mem _ (List.mem_cons_of_mem _ (List.mem_cons_of_mem _ List.mem_cons_self))); have h : 0 ≤ 114 + ((-1) * ρ 6 + 0) := h; omega) hG
  obtain ⟨k0, -⟩ := H
  exact ⟨_, List.mem_cons_self, ρ, fun _ _ => rfl, (okM_c (pvp 66 (by show 0 + (1 * ρ 3 + 0) = _; omega) (by show 2 + 0 = _; omega) k0) okM_n), okB_n, okF_n⟩
-- wlf3
theorem cr_176 (M : pM) (s0 s1 s2 s3 s4 s5 s6 : Int) (b0 : 0 ≤ s0 ∧ s0 ≤ 1900) (b1 : 0 ≤ s1 ∧ s1 ≤ 950) (b2 : 0 ≤ s2 ∧ s2 ≤ 1900) (b3 : 0 ≤ s3 ∧ s3 ≤ 1900) (b4 : 0 ≤ s4 ∧ s4 ≤ 1900) (b5 : 262143 ≤ s5 ∧ s5 ≤ 262168) (b6 : 0 ≤ s6 ∧ s6 ≤ 255) (m0 : HP 53 (4096 * s0 + s1) (256 * s2 + 34) M) (m1 : HP 47 (s2) (s5) M) (m2 : HP 45 (s2) (s3) M) (m3 : HP 46 (s2) (s4) M) (m4 : (0 ≤ (s3) ∧ M 1 (s3).toNat = (s6))) (f0 : 0 ≤ (s3 + (-1) * s4 + 1)) (f1 : 0 ≤ ((-1) * s3 + s4 - 1)) (f2 : 0 ≤ (s6 - 116)) (f3 : 0 ≤ ((-1) * s6 + 118)) (hG : gI M) : (HP 66 (s3) (2 : Int) M ∧ True) := by
  obtain ⟨S2, hS2, hE2⟩ := ex_o (K := 2) (j := 1) (a := s2) (Eq.mp hp_53 m0) ⟨by omega, by omega, by decide, by decide⟩
  have ha2 : s2 = (qps (tm M) S2.1 2 : Int) := hE2.2.2.2.2
  have ha : qps (tm M) S2.1 2 = s2.toNat := by omega
  have g1 := (q45 m2).2
  have g2 := (q46 m3).2
  have hr := rd1 m4 (by omega)
  have hl : qlt (tm M) S2.1 2 0 = s6 := by unfold qlt; rw [ha, show tS (tm M) s2.toNat + 0 = s3.toNat by omega]; exact hr
  have hc : ∀ s : Nat × pM, qat (tm M) (4096 * s0 + s1) s → tK (tm M) (qps (tm M) s.1 2) = s5 → qck (tm M) s.1 s.2 2 2 = some 2 := by
    intro s hs e
    have e2 := qat_u hS2 hs
    subst e2
    show qcW (if qsz (tm M) s.1 2 = 1 ∧ (qlt (tm M) s.1 2 0 = 110 ∨ qlt (tm M) s.1 2 0 = 101 ∨ qlt (tm M) s.1 2 0 = 115 ∨ qlt (tm M) s.1 2 0 = 119) then none else some 2) (tK (tm M) (qps (tm M) s.1 2)) = _
    rw [e, qcW_x (by omega)]
    exact if_neg (fun hh => by have hh := hh.2; rw [hl] at hh; omega)
  exact ⟨r_fl (K := 2) (j := 1) m0 m1 m2 ⟨by omega, by omega, by decide⟩ (fun s hs hE e => hc s hs e), trivial⟩
theorem rul_176 : Rul r_176 := by
  refine ⟨fun _ ρ M hm hB hF hG => ?_, fun gi gv hg => (by cases hg)⟩
  have H := cr_176 M (ρ 0) (ρ 1) (ρ 2) (ρ 3) (ρ 4) (ρ 5) (ρ 6) (hB _ List.mem_cons_self) (hB _ (List.mem_cons_of_mem _ List.mem_cons_self)) (hB _ (List.mem_cons_of_mem _ (List.mem_cons_of_mem _ List.mem_cons_self))) (hB _ (List.mem_cons_of_mem _ (List.mem_cons_of_mem _ (List.mem_cons_of_mem _ List.mem_cons_self)))) (hB _ (List.mem_cons_of_mem _ (List.mem_cons_of_mem _ (List.mem_cons_of_mem _ (List.mem_cons_of_mem _ List.mem_cons_self))))) (hB _ (List.mem_cons_of_mem _ (List.mem_cons_of_mem _ (List.mem_cons_of_mem _ (List.mem_cons_of_mem _ (List.mem_cons_of_mem _ List.mem_cons_self)))))) (hB _ (List.mem_cons_of_mem _ (List.mem_cons_of_mem _ (List.mem_cons_of_mem _ (List.mem_cons_of_mem _ (List.mem_cons_of_mem _ (List.mem_cons_of_mem _ List.mem_cons_self))))))) (cvp 53 (x' := (4096 * (ρ 0) + (ρ 1))) (y' := (256 * (ρ 2) + 34)) (by show 0 + (4096 * ρ 0 + (1 * ρ 1 + 0)) = _; omega) (by show 34 + (256 * ρ 2 + 0) = _; omega) (hm _ List.mem_cons_self)) (cvp 47 (x' := ((ρ 2))) (y' := ((ρ 5))) (by show 0 + (1 * ρ 2 + 0) = _; omega) (by show 0 + (1 * ρ 5 + 0) = _; omega) (hm _ (List.mem_cons_of_mem _ List.mem_cons_self))) (cvp 45 (x' := ((ρ 2))) (y' := ((ρ 3))) (by show 0 + (1 * ρ 2 + 0) = _; omega) (by show 0 + (1 * ρ 3 + 0) = _; omega) (hm _ (List.mem_cons_of_mem _ (List.mem_cons_of_mem _ List.mem_cons_self)))) (cvp 46 (x' := ((ρ 2))) (y' := ((ρ 4))) (by show 0 + (1 * ρ 2 + 0) = _; omega) (by show 0 + (1 * ρ 4 + 0) = _; omega) (hm _ (List.mem_cons_of_mem _ (List.mem_cons_of_mem _ (List.mem_cons_of_mem _ List.mem_cons_self))))) (cvm (c := 1) (by decide) (x' := ((ρ 3))) (y' := ((ρ 6))) (by show 0 + (1 * ρ 3 + 0) = _; omega) (by show 0 + (1 * ρ 6 + 0) = _; omega) (hm _ (List.mem_cons_of_mem _ (List.mem_cons_of_mem _ (List.mem_cons_of_mem _ (List.mem_cons_of_mem _ List.mem_cons_self)))))) (by have h := hF _ List.mem_cons_self; have h : 0 ≤ 1 + (1 * ρ 3 + ((-1) * ρ 4 + 0)) := h; omega) (by have h := hF _ (List.mem_cons_of_mem _ List.mem_cons_self); have h : 0 ≤ (-1) + ((-1) * ρ 3 + (1 * ρ 4 + 0)) := h; omega) (by have h := hF _ (List.mem_cons_of_mem _ (List.mem_cons_of_mem _ List.mem_cons_self)); have h : 0 ≤ (-116) + (1 * ρ 6 + 0) := h; omega) (by have h := hF _ (List.mem_cons_of_mem _ (List.mem_cons_of_mem _ (List.mem_cons_of_mem _ List.mem_cons_self))); have h : 0 ≤ 118 + ((-1) * ρ 6 + 0) := h; omega) hG
  obtain ⟨k0, -⟩ := H
  exact ⟨_, List.mem_cons_self, ρ, fun _ _ => rfl, (okM_c (pvp 66 (by show 0 + (1 * ρ 3 + 0) = _; omega) (by show 2 + 0 = _; omega) k0) okM_n), okB_n, okF_n⟩
-- wlf4
theorem cr_177 (M : pM) (s0 s1 s2 s3 s4 s5 s6 : Int) (b0 : 0 ≤ s0 ∧ s0 ≤ 1900) (b1 : 0 ≤ s1 ∧ s1 ≤ 950) (b2 : 0 ≤ s2 ∧ s2 ≤ 1900) (b3 : 0 ≤ s3 ∧ s3 ≤ 1900) (b4 : 0 ≤ s4 ∧ s4 ≤ 1900) (b5 : 262143 ≤ s5 ∧ s5 ≤ 262168) (b6 : 0 ≤ s6 ∧ s6 ≤ 255) (m0 : HP 53 (4096 * s0 + s1) (256 * s2 + 34) M) (m1 : HP 47 (s2) (s5) M) (m2 : HP 45 (s2) (s3) M) (m3 : HP 46 (s2) (s4) M) (m4 : (0 ≤ (s3) ∧ M 1 (s3).toNat = (s6))) (f0 : 0 ≤ (s3 + (-1) * s4 + 1)) (f1 : 0 ≤ ((-1) * s3 + s4 - 1)) (f2 : 0 ≤ (s6 - 120)) (hG : gI M) : (HP 66 (s3) (2 : Int) M ∧ True) := by
  obtain ⟨S2, hS2, hE2⟩ := ex_o (K := 2) (j := 1) (a := s2) (Eq.mp hp_53 m0) ⟨by omega, by omega, by decide, by decide⟩
  have ha2 : s2 = (qps (tm M) S2.1 2 : Int) := hE2.2.2.2.2
  have ha : qps (tm M) S2.1 2 = s2.toNat := by omega
  have g1 := (q45 m2).2
  have g2 := (q46 m3).2
  have hr := rd1 m4 (by omega)
  have hl : qlt (tm M) S2.1 2 0 = s6 := by unfold qlt; rw [ha, show tS (tm M) s2.toNat + 0 = s3.toNat by omega]; exact hr
  have hc : ∀ s : Nat × pM, qat (tm M) (4096 * s0 + s1) s → tK (tm M) (qps (tm M) s.1 2) = s5 → qck (tm M) s.1 s.2 2 2 = some 2 := by
    intro s hs e
    have e2 := qat_u hS2 hs
    subst e2
    show qcW (if qsz (tm M) s.1 2 = 1 ∧ (qlt (tm M) s.1 2 0 = 110 ∨ qlt (tm M) s.1 2 0 = 101 ∨ qlt (tm M) s.1 2 0 = 115 ∨ qlt (tm M) s.1 2 0 = 119) then none else some 2) (tK (tm M) (qps (tm M) s.1 2)) = _
    rw [e, qcW_x (by omega)]
    exact if_neg (fun hh => by have hh := hh.2; rw [hl] at hh; omega)
  exact ⟨r_fl (K := 2) (j := 1) m0 m1 m2 ⟨by omega, by omega, by decide⟩ (fun s hs hE e => hc s hs e), trivial⟩
theorem rul_177 : Rul r_177 := by
  refine ⟨fun _ ρ M hm hB hF hG => ?_, fun gi gv hg => (by cases hg)⟩
  have H := cr_177 M (ρ 0) (ρ 1) (ρ 2) (ρ 3) (ρ 4) (ρ 5) (ρ 6) (hB _ List.mem_cons_self) (hB _ (List.mem_cons_of_mem _ List.mem_cons_self)) (hB _ (List.mem_cons_of_mem _ (List.mem_cons_of_mem _ List.mem_cons_self))) (hB _ (List.mem_cons_of_mem _ (List.mem_cons_of_mem _ (List.mem_cons_of_mem _ List.mem_cons_self)))) (hB _ (List.mem_cons_of_mem _ (List.mem_cons_of_mem _ (List.mem_cons_of_mem _ (List.mem_cons_of_mem _ List.mem_cons_self))))) (hB _ (List.mem_cons_of_mem _ (List.mem_cons_of_mem _ (List.mem_cons_of_mem _ (List.mem_cons_of_mem _ (List.mem_cons_of_mem _ List.mem_cons_self)))))) (hB _ (List.mem_cons_of_mem _ (List.mem_cons_of_mem _ (List.mem_cons_of_mem _ (List.mem_cons_of_mem _ (List.mem_cons_of_mem _ (List.mem_cons_of_mem _ List.mem_cons_self))))))) (cvp 53 (x' := (4096 * (ρ 0) + (ρ 1))) (y' := (256 * (ρ 2) + 34)) (by show 0 + (4096 * ρ 0 + (1 * ρ 1 + 0)) = _; omega) (by show 34 + (256 * ρ 2 + 0) = _; omega) (hm _ List.mem_cons_self)) (cvp 47 (x' := ((ρ 2))) (y' := ((ρ 5))) (by show 0 + (1 * ρ 2 + 0) = _; omega) (by show 0 + (1 * ρ 5 + 0) = _; omega) (hm _ (List.mem_cons_of_mem _ List.mem_cons_self))) (cvp 45 (x' := ((ρ 2))) (y' := ((ρ 3))) (by show 0 + (1 * ρ 2 + 0) = _; omega) (by show 0 + (1 * ρ 3 + 0) = _; omega) (hm _ (List.mem_cons_of_mem _ (List.mem_cons_of_mem _ List.mem_cons_self)))) (cvp 46 (x' := ((ρ 2))) (y' := ((ρ 4))) (by show 0 + (1 * ρ 2 + 0) = _; omega) (by show 0 + (1 * ρ 4 + 0) = _; omega) (hm _ (List.mem_cons_of_mem _ (List.mem_cons_of_mem _ (List.mem_cons_of_mem _ List.mem_cons_self))))) (cvm (c := 1) (by decide) (x' := ((ρ 3))) (y' := ((ρ 6))) (by show 0 + (1 * ρ 3 + 0) = _; omega) (by show 0 + (1 * ρ 6 + 0) = _; omega) (hm _ (List.mem_cons_of_mem _ (List.mem_cons_of_mem _ (List.mem_cons_of_mem _ (List.mem_cons_of_mem _ List.mem_cons_self)))))) (by have h := hF _ List.mem_cons_self; have h : 0 ≤ 1 + (1 * ρ 3 + ((-1) * ρ 4 + 0)) := h; omega) (by have h := hF _ (List.mem_cons_of_mem _ List.mem_cons_self); have h : 0 ≤ (-1) + ((-1) * ρ 3 + (1 * ρ 4 + 0)) := h; omega) (by have h := hF _ (List.mem_cons_of_mem _ (List.mem_cons_of_mem _ List.mem_cons_self)); have h : 0 ≤ (-120) + (1 * ρ 6 + 0) := h; omega) hG
  obtain ⟨k0, -⟩ := H
  exact ⟨_, List.mem_cons_self, ρ, fun _ _ => rfl, (okM_c (pvp 66 (by show 0 + (1 * ρ 3 + 0) = _; omega) (by show 2 + 0 = _; omega) k0) okM_n), okB_n, okF_n⟩
-- fk35
theorem cr_178 (M : pM) (s0 s1 s2 s3 s4 : Int) (b0 : 0 ≤ s0 ∧ s0 ≤ 1900) (b1 : 0 ≤ s1 ∧ s1 ≤ 950) (b2 : 0 ≤ s2 ∧ s2 ≤ 1900) (b3 : 0 ≤ s3 ∧ s3 ≤ 1900) (b4 : 256 ≤ s4 ∧ s4 ≤ 600000) (m0 : HP 53 (4096 * s0 + s1) (256 * s2 + 35) M) (m1 : HP 47 (s2) (s4) M) (m2 : HP 45 (s2) (s3) M) (f0 : 0 ≤ ((-1) * s4 + 393215)) (hG : gI M) : (HP 66 (s3) (2 : Int) M ∧ True) := by
  refine ⟨r_fl (K := 2) (j := 2) m0 m1 m2 ⟨by omega, by omega, by decide⟩ (fun s hs hE e => ?_), trivial⟩
  show qcN 0 3 none (tK (tm M) (qps (tm M) s.1 3)) = some 2
  rw [e]
  exact qcN_2 (by omega) (by omega)
theorem rul_178 : Rul r_178 := by
  refine ⟨fun _ ρ M hm hB hF hG => ?_, fun gi gv hg => (by cases hg)⟩
  have H := cr_178 M (ρ 0) (ρ 1) (ρ 2) (ρ 3) (ρ 4) (hB _ List.mem_cons_self) (hB _ (List.mem_cons_of_mem _ List.mem_cons_self)) (hB _ (List.mem_cons_of_mem _ (List.mem_cons_of_mem _ List.mem_cons_self))) (hB _ (List.mem_cons_of_mem _ (List.mem_cons_of_mem _ (List.mem_cons_of_mem _ List.mem_cons_self)))) (hB _ (List.mem_cons_of_mem _ (List.mem_cons_of_mem _ (List.mem_cons_of_mem _ (List.mem_cons_of_mem _ List.mem_cons_self))))) (cvp 53 (x' := (4096 * (ρ 0) + (ρ 1))) (y' := (256 * (ρ 2) + 35)) (by show 0 + (4096 * ρ 0 + (1 * ρ 1 + 0)) = _; omega) (by show 35 + (256 * ρ 2 + 0) = _; omega) (hm _ List.mem_cons_self)) (cvp 47 (x' := ((ρ 2))) (y' := ((ρ 4))) (by show 0 + (1 * ρ 2 + 0) = _; omega) (by show 0 + (1 * ρ 4 + 0) = _; omega) (hm _ (List.mem_cons_of_mem _ List.mem_cons_self))) (cvp 45 (x' := ((ρ 2))) (y' := ((ρ 3))) (by show 0 + (1 * ρ 2 + 0) = _; omega) (by show 0 + (1 * ρ 3 + 0) = _; omega) (hm _ (List.mem_cons_of_mem _ (List.mem_cons_of_mem _ List.mem_cons_self)))) (by have h := hF _ List.mem_cons_self; have h : 0 ≤ 393215 + ((-1) * ρ 4 + 0) := h; omega) hG
  obtain ⟨k0, -⟩ := H
  exact ⟨_, List.mem_cons_self, ρ, fun _ _ => rfl, (okM_c (pvp 66 (by show 0 + (1 * ρ 3 + 0) = _; omega) (by show 2 + 0 = _; omega) k0) okM_n), okB_n, okF_n⟩
-- fl35
theorem cr_179 (M : pM) (s0 s1 s2 s3 s4 : Int) (b0 : 0 ≤ s0 ∧ s0 ≤ 1900) (b1 : 0 ≤ s1 ∧ s1 ≤ 950) (b2 : 0 ≤ s2 ∧ s2 ≤ 1900) (b3 : 0 ≤ s3 ∧ s3 ≤ 1900) (b4 : 256 ≤ s4 ∧ s4 ≤ 600000) (m0 : HP 53 (4096 * s0 + s1) (256 * s2 + 35) M) (m1 : HP 47 (s2) (s4) M) (m2 : HP 45 (s2) (s3) M) (f0 : 0 ≤ (s4 - 403216)) (hG : gI M) : (HP 66 (s3) (2 : Int) M ∧ True) := by
  refine ⟨r_fl (K := 2) (j := 2) m0 m1 m2 ⟨by omega, by omega, by decide⟩ (fun s hs hE e => ?_), trivial⟩
  show qcN 0 3 none (tK (tm M) (qps (tm M) s.1 3)) = some 2
  rw [e]
  exact qcN_2 (by omega) (by omega)
theorem rul_179 : Rul r_179 := by
  refine ⟨fun _ ρ M hm hB hF hG => ?_, fun gi gv hg => (by cases hg)⟩
  have H := cr_179 M (ρ 0) (ρ 1) (ρ 2) (ρ 3) (ρ 4) (hB _ List.mem_cons_self) (hB _ (List.mem_cons_of_mem _ List.mem_cons_self)) (hB _ (List.mem_cons_of_mem _ (List.mem_cons_of_mem _ List.mem_cons_self))) (hB _ (List.mem_cons_of_mem _ (List.mem_cons_of_mem _ (List.mem_cons_of_mem _ List.mem_cons_self)))) (hB _ (List.mem_cons_of_mem _ (List.mem_cons_of_mem _ (List.mem_cons_of_mem _ (List.mem_cons_of_mem _ List.mem_cons_self))))) (cvp 53 (x' := (4096 * (ρ 0) + (ρ 1))) (y' := (256 * (ρ 2) + 35)) (by show 0 + (4096 * ρ 0 + (1 * ρ 1 + 0)) = _; omega) (by show 35 + (256 * ρ 2 + 0) = _; omega) (hm _ List.mem_cons_self)) (cvp 47 (x' := ((ρ 2))) (y' := ((ρ 4))) (by show 0 + (1 * ρ 2 + 0) = _; omega) (by show 0 + (1 * ρ 4 + 0) = _; omega) (hm _ (List.mem_cons_of_mem _ List.mem_cons_self))) (cvp 45 (x' := ((ρ 2))) (y' := ((ρ 3))) (by show 0 + (1 * ρ 2 + 0) = _; omega) (by show 0 + (1 * ρ 3 + 0) = _; omega) (hm _ (List.mem_cons_of_mem _ (List.mem_cons_of_mem _ List.mem_cons_self)))) (by have h := hF _ List.mem_cons_self; have h : 0 ≤ (-403216) + (1 * ρ 4 + 0) := h; omega) hG
  obtain ⟨k0, -⟩ := H
  exact ⟨_, List.mem_cons_self, ρ, fun _ _ => rfl, (okM_c (pvp 66 (by show 0 + (1 * ρ 3 + 0) = _; omega) (by show 2 + 0 = _; omega) k0) okM_n), okB_n, okF_n⟩
-- fn35
theorem cr_180 (M : pM) (s0 s1 s2 s3 s4 : Int) (b0 : 0 ≤ s0 ∧ s0 ≤ 1900) (b1 : 0 ≤ s1 ∧ s1 ≤ 950) (b2 : 0 ≤ s2 ∧ s2 ≤ 1900) (b3 : 0 ≤ s3 ∧ s3 ≤ 1900) (b4 : 0 ≤ s4 ∧ s4 ≤ 9999) (m0 : HP 53 (4096 * s0 + s1) (256 * s2 + 35) M) (m1 : HP 47 (s2) (s4 + 393216) M) (m2 : HP 45 (s2) (s3) M) (f0 : 0 ≤ (s4 - 4)) (hG : gI M) : (HP 66 (s3) (4 : Int) M ∧ True) := by
  refine ⟨r_fl (K := 2) (j := 2) m0 m1 m2 ⟨by omega, by omega, by decide⟩ (fun s hs hE e => ?_), trivial⟩
  show qcN 0 3 none (tK (tm M) (qps (tm M) s.1 3)) = some 4
  rw [e]
  exact qcN_4 (by omega) (Or.inr (by omega))
theorem rul_180 : Rul r_180 := by
  refine ⟨fun _ ρ M hm hB hF hG => ?_, fun gi gv hg => (by cases hg)⟩
  have H := cr_180 M (ρ 0) (ρ 1) (ρ 2) (ρ 3) (ρ 4) (hB _ List.mem_cons_self) (hB _ (List.mem_cons_of_mem _ List.mem_cons_self)) (hB _ (List.mem_cons_of_mem _ (List.mem_cons_of_mem _ List.mem_cons_self))) (hB _ (List.mem_cons_of_mem _ (List.mem_cons_of_mem _ (List.mem_cons_of_mem _ List.mem_cons_self)))) (hB _ (List.mem_cons_of_mem _ (List.mem_cons_of_mem _ (List.mem_cons_of_mem _ (List.mem_cons_of_mem _ List.mem_cons_self))))) (cvp 53 (x' := (4096 * (ρ 0) + (ρ 1))) (y' := (256 * (ρ 2) + 35)) (by show 0 + (4096 * ρ 0 + (1 * ρ 1 + 0)) = _; omega) (by show 35 + (256 * ρ 2 + 0) = _; omega) (hm _ List.mem_cons_self)) (cvp 47 (x' := ((ρ 2))) (y' := ((ρ 4) + 393216)) (by show 0 + (1 * ρ 2 + 0) = _; omega) (by show 393216 + (1 * ρ 4 + 0) = _; omega) (hm _ (List.mem_cons_of_mem _ List.mem_cons_self))) (cvp 45 (x' := ((ρ 2))) (y' := ((ρ 3))) (by show 0 + (1 * ρ 2 + 0) = _; omega) (by show 0 + (1 * ρ 3 + 0) = _; omega) (hm _ (List.mem_cons_of_mem _ (List.mem_cons_of_mem _ List.mem_cons_self)))) (by have h := hF _ List.mem_cons_self; have h : 0 ≤ (-4) + (1 * ρ 4 + 0) := h; omega) hG
  obtain ⟨k0, -⟩ := H
  exact ⟨_, List.mem_cons_self, ρ, fun _ _ => rfl, (okM_c (pvp 66 (by show 0 + (1 * ρ 3 + 0) = _; omega) (by show 4 + 0 = _; omega) k0) okM_n), okB_n, okF_n⟩
-- ex35
theorem cr_181 (M : pM) (s0 s1 s2 s3 s4 : Int) (b0 : 0 ≤ s0 ∧ s0 ≤ 1900) (b1 : 0 ≤ s1 ∧ s1 ≤ 950) (b2 : 0 ≤ s2 ∧ s2 ≤ 1900) (b3 : 0 ≤ s3 ∧ s3 ≤ 1900) (b4 : 0 ≤ s4 ∧ s4 ≤ 9999) (m0 : HP 53 (4096 * s0 + s1) (256 * s2 + 35) M) (m1 : HP 47 (s2) (s4 + 393216) M) (m2 : HP 46 (s2) (s3) M) (f0 : 0 ≤ (s4)) (f1 : 0 ≤ ((-1) * s4 + 3)) (hG : gI M) : (HP 53 (4096 * s0 + s1) (256 * s3 + 36) M ∧ HP 79 (16 * s0 + 3) (s4) M ∧ True) := by
  refine ⟨?_, ?_, trivial⟩
  · exact r_ex (K := 2) (j := 2) m0 m1 m2 ⟨by omega, by omega, by decide⟩ (by omega) (by decide) (fun s hs hE e => by
        show qcN 0 3 none (tK (tm M) (qps (tm M) s.1 3)) = none
        rw [e]
        exact qcN_x (by omega) (by omega))
  · exact r_va (P := s0) (l := s1) (K := 2) (j := 2) m0 m1 ⟨by omega, by omega, by omega⟩ ⟨by omega, by omega, by decide⟩ (by omega) (by omega)
theorem rul_181 : Rul r_181 := by
  refine ⟨fun _ ρ M hm hB hF hG => ?_, fun gi gv hg => (by cases hg)⟩
  have H := cr_181 M (ρ 0) (ρ 1) (ρ 2) (ρ 3) (ρ 4) (hB _ List.mem_cons_self) (hB _ (List.mem_cons_of_mem _ List.mem_cons_self)) (hB _ (List.mem_cons_of_mem _ (List.mem_cons_of_mem _ List.mem_cons_self))) (hB _ (List.mem_cons_of_mem _ (List.mem_cons_of_mem _ (List.mem_cons_of_mem _ List.mem_cons_self)))) (hB _ (List.mem_cons_of_mem _ (List.mem_cons_of_mem _ (List.mem_cons_of_mem _ (List.mem_cons_of_mem _ List.mem_cons_self))))) (cvp 53 (x' := (4096 * (ρ 0) + (ρ 1))) (y' := (256 * (ρ 2) + 35)) (by show 0 + (4096 * ρ 0 + (1 * ρ 1 + 0)) = _; omega) (by show 35 + (256 * ρ 2 + 0) = _; omega) (hm _ List.mem_cons_self)) (cvp 47 (x' := ((ρ 2))) (y' := ((ρ 4) + 393216)) (by show 0 + (1 * ρ 2 + 0) = _; omega) (by show 393216 + (1 * ρ 4 + 0) = _; omega) (hm _ (List.mem_cons_of_mem _ List.mem_cons_self))) (cvp 46 (x' := ((ρ 2))) (y' := ((ρ 3))) (by show 0 + (1 * ρ 2 + 0) = _; omega) (by show 0 + (1 * ρ 3 + 0) = _; omega) (hm _ (List.mem_cons_of_mem _ (List.mem_cons_of_mem _ List.mem_cons_self)))) (by have h := hF _ List.mem_cons_self; have h : 0 ≤ 0 + (1 * ρ 4 + 0) := h; omega) (by have h := hF _ (List.mem_cons_of_mem _ List.mem_cons_self); have h : 0 ≤ 3 + ((-1) * ρ 4 + 0) := h; omega) hG
  obtain ⟨k0, k1, -⟩ := H
  exact ⟨_, List.mem_cons_self, ρ, fun _ _ => rfl, (okM_c (pvp 53 (by show 0 + (4096 * ρ 0 + (1 * ρ 1 + 0)) = _; omega) (by show 36 + (256 * ρ 3 + 0) = _; omega) k0) (okM_c (pvp 79 (by show 3 + (16 * ρ 0 + 0) = _; omega) (by show 0 + (1 * ρ 4 + 0) = _; omega) k1) okM_n)), okB_n, okF_n⟩
-- ln2
theorem cr_182 (M : pM) (s0 s1 s2 : Int) (b0 : 0 ≤ s0 ∧ s0 ≤ 1900) (b1 : 0 ≤ s1 ∧ s1 ≤ 950) (b2 : 0 ≤ s2 ∧ s2 ≤ 1900) (m0 : HP 53 (4096 * s0 + s1) (256 * s2 + 36) M) (hG : gI M) : (HP 89 (4096 * s0 + s1) (s2) M ∧ True) := by
  obtain ⟨s, h1, h2⟩ := ex_o (K := 2) (j := 3) (a := s2) (Eq.mp hp_53 m0) ⟨by omega, by omega, by decide, by decide⟩
  exact ⟨Eq.mpr hp_89 ⟨s, 2, h1, ⟨h2.2.2.1, h2.2.2.2.1⟩, h2.2.2.2.2⟩, trivial⟩
theorem rul_182 : Rul r_182 := by
  refine ⟨fun _ ρ M hm hB hF hG => ?_, fun gi gv hg => (by cases hg)⟩
  have H := cr_182 M (ρ 0) (ρ 1) (ρ 2) (hB _ List.mem_cons_self) (hB _ (List.mem_cons_of_mem _ List.mem_cons_self)) (hB _ (List.mem_cons_of_mem _ (List.mem_cons_of_mem _ List.mem_cons_self))) (cvp 53 (x' := (4096 * (ρ 0) + (ρ 1))) (y' := (256 * (ρ 2) + 36)) (by show 0 + (4096 * ρ 0 + (1 * ρ 1 + 0)) = _; omega) (by show 36 + (256 * ρ 2 + 0) = _; omega) (hm _ List.mem_cons_self)) hG
  obtain ⟨k0, -⟩ := H
  exact ⟨_, List.mem_cons_self, ρ, fun _ _ => rfl, (okM_c (pvp 89 (by show 0 + (4096 * ρ 0 + (1 * ρ 1 + 0)) = _; omega) (by show 0 + (1 * ρ 2 + 0) = _; omega) k0) okM_n), okB_n, okF_n⟩
-- fk49
theorem cr_183 (M : pM) (s0 s1 s2 s3 s4 : Int) (b0 : 0 ≤ s0 ∧ s0 ≤ 1900) (b1 : 0 ≤ s1 ∧ s1 ≤ 950) (b2 : 0 ≤ s2 ∧ s2 ≤ 1900) (b3 : 0 ≤ s3 ∧ s3 ≤ 1900) (b4 : 256 ≤ s4 ∧ s4 ≤ 600000) (m0 : HP 53 (4096 * s0 + s1) (256 * s2 + 49) M) (m1 : HP 47 (s2) (s4) M) (m2 : HP 45 (s2) (s3) M) (f0 : 0 ≤ ((-1) * s4 + 393215)) (hG : gI M) : (HP 66 (s3) (2 : Int) M ∧ True) := by
  refine ⟨r_fl (K := 3) (j := 0) m0 m1 m2 ⟨by omega, by omega, by decide⟩ (fun s hs hE e => ?_), trivial⟩
  show qcN 0 5 (if 0 ≤ s.2 5 (qvl (tm M) s.1 1).toNat then some 3 else none) (tK (tm M) (qps (tm M) s.1 1)) = some 2
  rw [e]
  exact qcN_2 (by omega) (by omega)
theorem rul_183 : Rul r_183 := by
  refine ⟨fun _ ρ M hm hB hF hG => ?_, fun gi gv hg => (by cases hg)⟩
  have H := cr_183 M (ρ 0) (ρ 1) (ρ 2) (ρ 3) (ρ 4) (hB _ List.mem_cons_self) (hB _ (List.mem_cons_of_mem _ List.mem_cons_self)) (hB _ (List.mem_cons_of_mem _ (List.mem_cons_of_mem _ List.mem_cons_self))) (hB _ (List.mem_cons_of_mem _ (List.mem_cons_of_mem _ (List.mem_cons_of_mem _ List.mem_cons_self)))) (hB _ (List.mem_cons_of_mem _ (List.mem_cons_of_mem _ (List.mem_cons_of_mem _ (List.mem_cons_of_mem _ List.mem_cons_self))))) (cvp 53 (x' := (4096 * (ρ 0) + (ρ 1))) (y' := (256 * (ρ 2) + 49)) (by show 0 + (4096 * ρ 0 + (1 * ρ 1 + 0)) = _; omega) (by show 49 + (256 * ρ 2 + 0) = _; omega) (hm _ List.mem_cons_self)) (cvp 47 (x' := ((ρ 2))) (y' := ((ρ 4))) (by show 0 + (1 * ρ 2 + 0) = _; omega) (by show 0 + (1 * ρ 4 + 0) = _; omega) (hm _ (List.mem_cons_of_mem _ List.mem_cons_self))) (cvp 45 (x' := ((ρ 2))) (y' := ((ρ 3))) (by show 0 + (1 * ρ 2 + 0) = _; omega) (by show 0 + (1 * ρ 3 + 0) = _; omega) (hm _ (List.mem_cons_of_mem _ (List.mem_cons_of_mem _ List.mem_cons_self)))) (by have h := hF _ List.mem_cons_self; have h : 0 ≤ 393215 + ((-1) * ρ 4 + 0) := h; omega) hG
  obtain ⟨k0, -⟩ := H
  exact ⟨_, List.mem_cons_self, ρ, fun _ _ => rfl, (okM_c (pvp 66 (by show 0 + (1 * ρ 3 + 0) = _; omega) (by show 2 + 0 = _; omega) k0) okM_n), okB_n, okF_n⟩
-- fl49
theorem cr_184 (M : pM) (s0 s1 s2 s3 s4 : Int) (b0 : 0 ≤ s0 ∧ s0 ≤ 1900) (b1 : 0 ≤ s1 ∧ s1 ≤ 950) (b2 : 0 ≤ s2 ∧ s2 ≤ 1900) (b3 : 0 ≤ s3 ∧ s3 ≤ 1900) (b4 : 256 ≤ s4 ∧ s4 ≤ 600000) (m0 : HP 53 (4096 * s0 + s1) (256 * s2 + 49) M) (m1 : HP 47 (s2) (s4) M) (m2 : HP 45 (s2) (s3) M) (f0 : 0 ≤ (s4 - 403216)) (hG : gI M) : (HP 66 (s3) (2 : Int) M ∧ True) := by
  refine ⟨r_fl (K := 3) (j := 0) m0 m1 m2 ⟨by omega, by omega, by decide⟩ (fun s hs hE e => ?_), trivial⟩
  show qcN 0 5 (if 0 ≤ s.2 5 (qvl (tm M) s.1 1).toNat then some 3 else none) (tK (tm M) (qps (tm M) s.1 1)) = some 2
  rw [e]
  exact qcN_2 (by omega) (by omega)
theorem rul_184 : Rul r_184 := by
  refine ⟨fun _ ρ M hm hB hF hG => ?_, fun gi gv hg => (by cases hg)⟩
  have H := cr_184 M (ρ 0) (ρ 1) (ρ 2) (ρ 3) (ρ 4) (hB _ List.mem_cons_self) (hB _ (List.mem_cons_of_mem _ List.mem_cons_self)) (hB _ (List.mem_cons_of_mem _ (List.mem_cons_of_mem _ List.mem_cons_self))) (hB _ (List.mem_cons_of_mem _ (List.mem_cons_of_mem _ (List.mem_cons_of_mem _ List.mem_cons_self)))) (hB _ (List.mem_cons_of_mem _ (List.mem_cons_of_mem _ (List.mem_cons_of_mem _ (List.mem_cons_of_mem _ List.mem_cons_self))))) (cvp 53 (x' := (4096 * (ρ 0) + (ρ 1))) (y' := (256 * (ρ 2) + 49)) (by show 0 + (4096 * ρ 0 + (1 * ρ 1 + 0)) = _; omega) (by show 49 + (256 * ρ 2 + 0) = _; omega) (hm _ List.mem_cons_self)) (cvp 47 (x' := ((ρ 2))) (y' := ((ρ 4))) (by show 0 + (1 * ρ 2 + 0) = _; omega) (by show 0 + (1 * ρ 4 + 0) = _; omega) (hm _ (List.mem_cons_of_mem _ List.mem_cons_self))) (cvp 45 (x' := ((ρ 2))) (y' := ((ρ 3))) (by show 0 + (1 * ρ 2 + 0) = _; omega) (by show 0 + (1 * ρ 3 + 0) = _; omega) (hm _ (List.mem_cons_of_mem _ (List.mem_cons_of_mem _ List.mem_cons_self)))) (by have h := hF _ List.mem_cons_self; have h : 0 ≤ (-403216) + (1 * ρ 4 + 0) := h; omega) hG
  obtain ⟨k0, -⟩ := H
  exact ⟨_, List.mem_cons_self, ρ, fun _ _ => rfl, (okM_c (pvp 66 (by show 0 + (1 * ρ 3 + 0) = _; omega) (by show 2 + 0 = _; omega) k0) okM_n), okB_n, okF_n⟩
-- fn49
theorem cr_185 (M : pM) (s0 s1 s2 s3 s4 : Int) (b0 : 0 ≤ s0 ∧ s0 ≤ 1900) (b1 : 0 ≤ s1 ∧ s1 ≤ 950) (b2 : 0 ≤ s2 ∧ s2 ≤ 1900) (b3 : 0 ≤ s3 ∧ s3 ≤ 1900) (b4 : 0 ≤ s4 ∧ s4 ≤ 9999) (m0 : HP 53 (4096 * s0 + s1) (256 * s2 + 49) M) (m1 : HP 47 (s2) (s4 + 393216) M) (m2 : HP 45 (s2) (s3) M) (f0 : 0 ≤ (s4 - 6)) (hG : gI M) : (HP 66 (s3) (4 : Int) M ∧ True) := by
  refine ⟨r_fl (K := 3) (j := 0) m0 m1 m2 ⟨by omega, by omega, by decide⟩ (fun s hs hE e => ?_), trivial⟩
  show qcN 0 5 (if 0 ≤ s.2 5 (qvl (tm M) s.1 1).toNat then some 3 else none) (tK (tm M) (qps (tm M) s.1 1)) = some 4
  rw [e]
  exact qcN_4 (by omega) (Or.inr (by omega))
theorem rul_185 : Rul r_185 := by
  refine ⟨fun _ ρ M hm hB hF hG => ?_, fun gi gv hg => (by cases hg)⟩
  have H := cr_185 M (ρ 0) (ρ 1) (ρ 2) (ρ 3) (ρ 4) (hB _ List.mem_cons_self) (hB _ (List.mem_cons_of_mem _ List.mem_cons_self)) (hB _ (List.mem_cons_of_mem _ (List.mem_cons_of_mem _ List.mem_cons_self))) (hB _ (List.mem_cons_of_mem _ (List.mem_cons_of_mem _ (List.mem_cons_of_mem _ List.mem_cons_self)))) (hB _ (List.mem_cons_of_mem _ (List.mem_cons_of_mem _ (List.mem_cons_of_mem _ (List.mem_cons_of_mem _ List.mem_cons_self))))) (cvp 53 (x' := (4096 * (ρ 0) + (ρ 1))) (y' := (256 * (ρ 2) + 49)) (by show 0 + (4096 * ρ 0 + (1 * ρ 1 + 0)) = _; omega) (by show 49 + (256 * ρ 2 + 0) = _; omega) (hm _ List.mem_cons_self)) (cvp 47 (x' := ((ρ 2))) (y' := ((ρ 4) + 393216)) (by show 0 + (1 * ρ 2 + 0) = _; omega) (by show 393216 + (1 * ρ 4 + 0) = _; omega) (hm _ (List.mem_cons_of_mem _ List.mem_cons_self))) (cvp 45 (x' := ((ρ 2))) (y' := ((ρ 3))) (by show 0 + (1 * ρ 2 + 0) = _; omega) (by show 0 + (1 * ρ 3 + 0) = _; omega) (hm _ (List.mem_cons_of_mem _ (List.mem_cons_of_mem _ List.mem_cons_self)))) (by have h := hF _ List.mem_cons_self; have h : 0 ≤ (-6) + (1 * ρ 4 + 0) := h; omega) hG
  obtain ⟨k0, -⟩ := H
  exact ⟨_, List.mem_cons_self, ρ, fun _ _ => rfl, (okM_c (pvp 66 (by show 0 + (1 * ρ 3 + 0) = _; omega) (by show 4 + 0 = _; omega) k0) okM_n), okB_n, okF_n⟩
-- told3_0
theorem cr_186 (M : pM) (s0 s1 s2 s3 s4 s5 s6 s7 s8 : Int) (b0 : 0 ≤ s0 ∧ s0 ≤ 1900) (b1 : 0 ≤ s1 ∧ s1 ≤ 950) (b2 : 0 ≤ s2 ∧ s2 ≤ 1900) (b3 : 0 ≤ s3 ∧ s3 ≤ 1900) (b4 : 0 ≤ s4 ∧ s4 ≤ 5) (b5 : 0 ≤ s5 ∧ s5 ≤ 12) (b6 : 0 ≤ s6 ∧ s6 ≤ 20) (b7 : 0 ≤ s7 ∧ s7 ≤ 4) (b8 : (-1) ≤ s8 ∧ s8 ≤ (-1)) (m0 : HP 53 (4096 * s0 + s1) (256 * s2 + 49) M) (m1 : HP 47 (s2) (s4 + 393216) M) (m2 : HP 46 (s2) (s3) M) (m3 : HP 54 (4096 * s0 + s1) (s5 + 32 * s6 + 1024 * s7) M) (m4 : (0 ≤ (s4) ∧ M 7 (s4).toNat = (s8))) (hG : gI M) : (HP 53 (4096 * s0 + s1) (256 * s3 + 50) M ∧ HP 79 (16 * s0 + 1) (s4) M ∧ True) := by
  obtain ⟨S, hS, hw, ha⟩ := Eq.mp hp_54 m3
  have hr : M 7 s4.toNat = S.2 5 s4.toNat := ha.2.2.2.2.1 s4.toNat (by omega)
  rw [m4.2] at hr
  have hs0 : S.2 5 s4.toNat = s8 := hr.symm
  have hc : ∀ s : Nat × pM, qat (tm M) (4096 * s0 + s1) s → tK (tm M) (qps (tm M) s.1 1) = (s4 + 393216) → qck (tm M) s.1 s.2 3 1 = none := by
    intro s hs e
    have es := qat_u hS hs
    have ev : qvl (tm M) s.1 1 = s4 := by unfold qvl; omega
    show qcN 0 5 (if 0 ≤ s.2 5 (qvl (tm M) s.1 1).toNat then some 3 else none) (tK (tm M) (qps (tm M) s.1 1)) = _
    rw [e, qcN_x (by omega) (by omega), ev, es]
    exact if_neg (by omega)
  exact ⟨r_ex (K := 3) (j := 0) m0 m1 m2 ⟨by omega, by omega, by decide⟩ (by omega) (by decide) (fun s hs hE e => hc s hs e), r_va (P := s0) (l := s1) (K := 3) (j := 0) m0 m1 ⟨by omega, by omega, by omega⟩ ⟨by omega, by omega, by decide⟩ (by omega) (by omega), trivial⟩
theorem rul_186 : Rul r_186 := by
  refine ⟨fun _ ρ M hm hB hF hG => ?_, fun gi gv hg => (by cases hg)⟩
  have H := cr_186 M (ρ 0) (ρ 1) (ρ 2) (ρ 3) (ρ 4) (ρ 5) (ρ 6) (ρ 7) (ρ 8) (hB _ List.mem_cons_self) (hB _ (List.mem_cons_of_mem _ List.mem_cons_self)) (hB _ (List.mem_cons_of_mem _ (List.mem_cons_of_mem _ List.mem_cons_self))) (hB _ (List.mem_cons_of_mem _ (List.mem_cons_of_mem _ (List.mem_cons_of_mem _ List.mem_cons_self)))) (hB _ (List.mem_cons_of_mem _ (List.mem_cons_of_mem _ (List.mem_cons_of_mem _ (List.mem_cons_of_mem _ List.mem_cons_self))))) (hB _ (List.mem_cons_of_mem _ (List.mem_cons_of_mem _ (List.mem_cons_of_mem _ (List.mem_cons_of_mem _ (List.mem_cons_of_mem _ List.mem_cons_self)))))) (hB _ (List.mem_cons_of_mem _ (List.mem_cons_of_mem _ (List.mem_cons_of_mem _ (List.mem_cons_of_mem _ (List.mem_cons_of_mem _ (List.mem_cons_of_mem _ List.mem_cons_self))))))) (hB _ (List.mem_cons_of_mem _ (List.mem_cons_of_mem _ (List.mem_cons_of_mem _ (List.mem_cons_of_mem _ (List.mem_cons_of_mem _ (List.mem_cons_of_mem _ (List.mem_cons_of_mem _ List.mem_cons_self)))))))) (hB _ (List.mem_cons_of_mem _ (List.mem_cons_of_mem _ (List.mem_cons_of_mem _ (List.mem_cons_of_mem _ (List.mem_cons_of_mem _ (List.mem_cons_of_mem _ (List.mem_cons_of_mem _ (List.mem_cons_of_mem _ List.mem_cons_self))))))))) (cvp 53 (x' := (4096 * (ρ 0) + (ρ 1))) (y' := (256 * (ρ 2) + 49)) (by show 0 + (4096 * ρ 0 + (1 * ρ 1 + 0)) = _; omega) (by show 49 + (256 * ρ 2 + 0) = _; omega) (hm _ List.mem_cons_self)) (cvp 47 (x' := ((ρ 2))) (y' := ((ρ 4) + 393216)) (by show 0 + (1 * ρ 2 + 0) = _; omega) (by show 393216 + (1 * ρ 4 + 0) = _; omega) (hm _ (List.mem_cons_of_mem _ List.mem_cons_self))) (cvp 46 (x' := ((ρ 2))) (y' := ((ρ 3))) (by show 0 + (1 * ρ 2 + 0) = _; omega) (by show 0 + (1 * ρ 3 + 0) = _; omega) (hm _ (List.mem_cons_of_mem _ (List.mem_cons_of_mem _ List.mem_cons_self)))) (cvp 54 (x' := (4096 * (ρ 0) + (ρ 1))) (y' := ((ρ 5) + 32 * (ρ 6) + 1024 * (ρ 7))) (by show 0 + (4096 * ρ 0 + (1 * ρ 1 + 0)) = _; omega) (by show 0 + (1 * ρ 5 + (32 * ρ 6 + (1024 * ρ 7 + 0))) = _; omega) (hm _ (List.mem_cons_of_mem _ (List.mem_cons_of_mem _ (List.mem_cons_of_mem _ List.mem_cons_self))))) (cvm (c := 7) (by decide) (x' := ((ρ 4))) (y' := ((ρ 8))) (by show 0 + (1 * ρ 4 + 0) = _; omega) (by show 0 + (1 * ρ 8 + 0) = _; omega) (hm _ (List.mem_cons_of_mem _ (List.mem_cons_of_mem _ (List.mem_cons_of_mem _ (List.mem_cons_of_mem _ List.mem_cons_self)))))) hG
  obtain ⟨k0, k1, -⟩ := H
  exact ⟨_, List.mem_cons_self, ρ, fun _ _ => rfl, (okM_c (pvp 53 (by show 0 + (4096 * ρ 0 + (1 * ρ 1 + 0)) = _; omega) (by show 50 + (256 * ρ 3 + 0) = _; omega) k0) (okM_c (pvp 79 (by show 1 + (16 * ρ 0 + 0) = _; omega) (by show 0 + (1 * ρ 4 + 0) = _; omega) k1) okM_n)), okB_n, okF_n⟩
-- tolx3_0
theorem cr_187 (M : pM) (s0 s1 s2 s3 s4 s5 s6 s7 s8 : Int) (b0 : 0 ≤ s0 ∧ s0 ≤ 1900) (b1 : 0 ≤ s1 ∧ s1 ≤ 950) (b2 : 0 ≤ s2 ∧ s2 ≤ 1900) (b3 : 0 ≤ s3 ∧ s3 ≤ 1900) (b4 : 0 ≤ s4 ∧ s4 ≤ 5) (b5 : 0 ≤ s5 ∧ s5 ≤ 12) (b6 : 0 ≤ s6 ∧ s6 ≤ 20) (b7 : 0 ≤ s7 ∧ s7 ≤ 4) (b8 : 0 ≤ s8 ∧ s8 ≤ 40) (m0 : HP 53 (4096 * s0 + s1) (256 * s2 + 49) M) (m1 : HP 47 (s2) (s4 + 393216) M) (m2 : HP 45 (s2) (s3) M) (m3 : HP 54 (4096 * s0 + s1) (s5 + 32 * s6 + 1024 * s7) M) (m4 : (0 ≤ (s4) ∧ M 7 (s4).toNat = (s8))) (hG : gI M) : (HP 66 (s3) (3 : Int) M ∧ True) := by
  obtain ⟨S, hS, hw, ha⟩ := Eq.mp hp_54 m3
  have hr : M 7 s4.toNat = S.2 5 s4.toNat := ha.2.2.2.2.1 s4.toNat (by omega)
  rw [m4.2] at hr
  have hs0 : S.2 5 s4.toNat = s8 := hr.symm
  have hc : ∀ s : Nat × pM, qat (tm M) (4096 * s0 + s1) s → tK (tm M) (qps (tm M) s.1 1) = (s4 + 393216) → qck (tm M) s.1 s.2 3 1 = some 3 := by
    intro s hs e
    have es := qat_u hS hs
    have ev : qvl (tm M) s.1 1 = s4 := by unfold qvl; omega
    show qcN 0 5 (if 0 ≤ s.2 5 (qvl (tm M) s.1 1).toNat then some 3 else none) (tK (tm M) (qps (tm M) s.1 1)) = _
    rw [e, qcN_x (by omega) (by omega), ev, es]
    exact if_pos (by omega)
  exact ⟨r_fl (K := 3) (j := 0) m0 m1 m2 ⟨by omega, by omega, by decide⟩ (fun s hs hE e => hc s hs e), trivial⟩
theorem rul_187 : Rul r_187 := by
  refine ⟨fun _ ρ M hm hB hF hG => ?_, fun gi gv hg => (by cases hg)⟩
  have H := cr_187 M (ρ 0) (ρ 1) (ρ 2) (ρ 3) (ρ 4) (ρ 5) (ρ 6) (ρ 7) (ρ 8) (hB _ List.mem_cons_self) (hB _ (List.mem_cons_of_mem _ List.mem_cons_self)) (hB _ (List.mem_cons_of_mem _ (List.mem_cons_of_mem _ List.mem_cons_self))) (hB _ (List.mem_cons_of_mem _ (List.mem_cons_of_mem _ (List.mem_cons_of_mem _ List.mem_cons_self)))) (hB _ (List.mem_cons_of_mem _ (List.mem_cons_of_mem _ (List.mem_cons_of_mem _ (List.mem_cons_of_mem _ List.mem_cons_self))))) (hB _ (List.mem_cons_of_mem _ (List.mem_cons_of_mem _ (List.mem_cons_of_mem _ (List.mem_cons_of_mem _ (List.mem_cons_of_mem _ List.mem_cons_self)))))) (hB _ (List.mem_cons_of_mem _ (List.mem_cons_of_mem _ (List.mem_cons_of_mem _ (List.mem_cons_of_mem _ (List.mem_cons_of_mem _ (List.mem_cons_of_mem _ List.mem_cons_self))))))) (hB _ (List.mem_cons_of_mem _ (List.mem_cons_of_mem _ (List.mem_cons_of_mem _ (List.mem_cons_of_mem _ (List.mem_cons_of_mem _ (List.mem_cons_of_mem _ (List.mem_cons_of_mem _ List.mem_cons_self)))))))) (hB _ (List.mem_cons_of_mem _ (List.mem_cons_of_mem _ (List.mem_cons_of_mem _ (List.mem_cons_of_mem _ (List.mem_cons_of_mem _ (List.mem_cons_of_mem _ (List.mem_cons_of_mem _ (List.mem_cons_of_mem _ List.mem_cons_self))))))))) (cvp 53 (x' := (4096 * (ρ 0) + (ρ 1))) (y' := (256 * (ρ 2) + 49)) (by show 0 + (4096 * ρ 0 + (1 * ρ 1 + 0)) = _; omega) (by show 49 + (256 * ρ 2 + 0) = _; omega) (hm _ List.mem_cons_self)) (cvp 47 (x' := ((ρ 2))) (y' := ((ρ 4) + 393216)) (by show 0 + (1 * ρ 2 + 0) = _; omega) (by show 393216 + (1 * ρ 4 + 0) = _; omega) (hm _ (List.mem_cons_of_mem _ List.mem_cons_self))) (cvp 45 (x' := ((ρ 2))) (y' := ((ρ 3))) (by show 0 + (1 * ρ 2 + 0) = _; omega) (by show 0 + (1 * ρ 3 + 0) = _; omega) (hm _ (List.mem_cons_of_mem _ (List.mem_cons_of_mem _ List.mem_cons_self)))) (cvp 54 (x' := (4096 * (ρ 0) + (ρ 1))) (y' := ((ρ 5) + 32 * (ρ 6) + 1024 * (ρ 7))) (by show 0 + (4096 * ρ 0 + (1 * ρ 1 + 0)) = _; omega) (by show 0 + (1 * ρ 5 + (32 * ρ 6 + (1024 * ρ 7 + 0))) = _; omega) (hm _ (List.mem_cons_of_mem _ (List.mem_cons_of_mem _ (List.mem_cons_of_mem _ List.mem_cons_self))))) (cvm (c := 7) (by decide) (x' := ((ρ 4))) (y' := ((ρ 8))) (by show 0 + (1 * ρ 4 + 0) = _; omega) (by show 0 + (1 * ρ 8 + 0) = _; omega) (hm _ (List.mem_cons_of_mem _ (List.mem_cons_of_mem _ (List.mem_cons_of_mem _ (List.mem_cons_of_mem _ List.mem_cons_self)))))) hG
  obtain ⟨k0, -⟩ := H
  exact ⟨_, List.mem_cons_self, ρ, fun _ _ => rfl, (okM_c (pvp 66 (by show 0 + (1 * ρ 3 + 0) = _; omega) (by show 3 + 0 = _; omega) k0) okM_n), okB_n, okF_n⟩
-- told3_1
theorem cr_188 (M : pM) (s0 s1 s2 s3 s4 s5 s6 s7 s8 : Int) (b0 : 0 ≤ s0 ∧ s0 ≤ 1900) (b1 : 0 ≤ s1 ∧ s1 ≤ 950) (b2 : 0 ≤ s2 ∧ s2 ≤ 1900) (b3 : 0 ≤ s3 ∧ s3 ≤ 1900) (b4 : 0 ≤ s4 ∧ s4 ≤ 5) (b5 : 0 ≤ s5 ∧ s5 ≤ 12) (b6 : 0 ≤ s6 ∧ s6 ≤ 20) (b7 : 0 ≤ s7 ∧ s7 ≤ 4) (b8 : (-1) ≤ s8 ∧ s8 ≤ (-1)) (m0 : HP 53 (4096 * s0 + s1) (256 * s2 + 49) M) (m1 : HP 47 (s2) (s4 + 393216) M) (m2 : HP 46 (s2) (s3) M) (m3 : HP 55 (4096 * s0 + s1) (s5 + 32 * s6 + 1024 * s7) M) (m4 : (0 ≤ (s4) ∧ M 16 (s4).toNat = (s8))) (hG : gI M) : (HP 53 (4096 * s0 + s1) (256 * s3 + 50) M ∧ HP 79 (16 * s0 + 1) (s4) M ∧ True) := by
  obtain ⟨S, hS, hw, ha⟩ := Eq.mp hp_55 m3
  have hr : M 16 s4.toNat = S.2 5 s4.toNat := ha.2.2.2.2.1 s4.toNat (by omega)
  rw [m4.2] at hr
  have hs0 : S.2 5 s4.toNat = s8 := hr.symm
  have hc : ∀ s : Nat × pM, qat (tm M) (4096 * s0 + s1) s → tK (tm M) (qps (tm M) s.1 1) = (s4 + 393216) → qck (tm M) s.1 s.2 3 1 = none := by
    intro s hs e
    have es := qat_u hS hs
    have ev : qvl (tm M) s.1 1 = s4 := by unfold qvl; omega
    show qcN 0 5 (if 0 ≤ s.2 5 (qvl (tm M) s.1 1).toNat then some 3 else none) (tK (tm M) (qps (tm M) s.1 1)) = _
    rw [e, qcN_x (by omega) (by omega), ev, es]
    exact if_neg (by omega)
  exact ⟨r_ex (K := 3) (j := 0) m0 m1 m2 ⟨by omega, by omega, by decide⟩ (by omega) (by decide) (fun s hs hE e => hc s hs e), r_va (P := s0) (l := s1) (K := 3) (j := 0) m0 m1 ⟨by omega, by omega, by omega⟩ ⟨by omega, by omega, by decide⟩ (by omega) (by omega), trivial⟩
theorem rul_188 : Rul r_188 := by
  refine ⟨fun _ ρ M hm hB hF hG => ?_, fun gi gv hg => (by cases hg)⟩
  have H := cr_188 M (ρ 0) (ρ 1) (ρ 2) (ρ 3) (ρ 4) (ρ 5) (ρ 6) (ρ 7) (ρ 8) (hB _ List.mem_cons_self) (hB _ (List.mem_cons_of_mem _ List.mem_cons_self)) (hB _ (List.mem_cons_of_mem _ (List.mem_cons_of_mem _ List.mem_cons_self))) (hB _ (List.mem_cons_of_mem _ (List.mem_cons_of_mem _ (List.mem_cons_of_mem _ List.mem_cons_self)))) (hB _ (List.mem_cons_of_mem _ (List.mem_cons_of_mem _ (List.mem_cons_of_mem _ (List.mem_cons_of_mem _ List.mem_cons_self))))) (hB _ (List.mem_cons_of_mem _ (List.mem_cons_of_mem _ (List.mem_cons_of_mem _ (List.mem_cons_of_mem _ (List.mem_cons_of_mem _ List.mem_cons_self)))))) (hB _ (List.mem_cons_of_mem _ (List.mem_cons_of_mem _ (List.mem_cons_of_mem _ (List.mem_cons_of_mem _ (List.mem_cons_of_mem _ (List.mem_cons_of_mem _ List.mem_cons_self))))))) (hB _ (List.mem_cons_of_mem _ (List.mem_cons_of_mem _ (List.mem_cons_of_mem _ (List.mem_cons_of_mem _ (List.mem_cons_of_mem _ (List.mem_cons_of_mem _ (List.mem_cons_of_mem _ List.mem_cons_self)))))))) (hB _ (List.mem_cons_of_mem _ (List.mem_cons_of_mem _ (List.mem_cons_of_mem _ (List.mem_cons_of_mem _ (List.mem_cons_of_mem _ (List.mem_cons_of_mem _ (List.mem_cons_of_mem _ (List.mem_cons_of_mem _ List.mem_cons_self))))))))) (cvp 53 (x' := (4096 * (ρ 0) + (ρ 1))) (y' := (256 * (ρ 2) + 49)) (by show 0 + (4096 * ρ 0 + (1 * ρ 1 + 0)) = _; omega) (by show 49 + (256 * ρ 2 + 0) = _; omega) (hm _ List.mem_cons_self)) (cvp 47 (x' := ((ρ 2))) (y' := ((ρ 4) + 393216)) (by show 0 + (1 * ρ 2 + 0) = _; omega) (by show 393216 + (1 * ρ 4 + 0) = _; omega) (hm _ (List.mem_cons_of_mem _ List.mem_cons_self))) (cvp 46 (x' := ((ρ 2))) (y' := ((ρ 3))) (by show 0 + (1 * ρ 2 + 0) = _; omega) (by show 0 + (1 * ρ 3 + 0) = _; omega) (hm _ (List.mem_cons_of_mem _ (List.mem_cons_of_mem _ List.mem_cons_self)))) (cvp 55 (x' := (4096 * (ρ 0) + (ρ 1))) (y' := ((ρ 5) + 32 * (ρ 6) + 1024 * (ρ 7))) (by show 0 + (4096 * ρ 0 + (1 * ρ 1 + 0)) = _; omega) (by show 0 + (1 * ρ 5 + (32 * ρ 6 + (1024 * ρ 7 + 0))) = _; omega) (hm _ (List.mem_cons_of_mem _ (List.mem_cons_of_mem _ (List.mem_cons_of_mem _ List.mem_cons_self))))) (cvm (c := 16) (by decide) (x' := ((ρ 4))) (y' := ((ρ 8))) (by show 0 + (1 * ρ 4 + 0) = _; omega) (by show 0 + (1 * ρ 8 + 0) = _; omega) (hm _ (List.mem_cons_of_mem _ (List.mem_cons_of_mem _ (List.mem_cons_of_mem _ (List.mem_cons_of_mem _ List.mem_cons_self)))))) hG
  obtain ⟨k0, k1, -⟩ := H
  exact ⟨_, List.mem_cons_self, ρ, fun _ _ => rfl, (okM_c (pvp 53 (by show 0 + (4096 * ρ 0 + (1 * ρ 1 + 0)) = _; omega) (by show 50 + (256 * ρ 3 + 0) = _; omega) k0) (okM_c (pvp 79 (by show 1 + (16 * ρ 0 + 0) = _; omega) (by show 0 + (1 * ρ 4 + 0) = _; omega) k1) okM_n)), okB_n, okF_n⟩
-- tolx3_1
theorem cr_189 (M : pM) (s0 s1 s2 s3 s4 s5 s6 s7 s8 : Int) (b0 : 0 ≤ s0 ∧ s0 ≤ 1900) (b1 : 0 ≤ s1 ∧ s1 ≤ 950) (b2 : 0 ≤ s2 ∧ s2 ≤ 1900) (b3 : 0 ≤ s3 ∧ s3 ≤ 1900) (b4 : 0 ≤ s4 ∧ s4 ≤ 5) (b5 : 0 ≤ s5 ∧ s5 ≤ 12) (b6 : 0 ≤ s6 ∧ s6 ≤ 20) (b7 : 0 ≤ s7 ∧ s7 ≤ 4) (b8 : 0 ≤ s8 ∧ s8 ≤ 40) (m0 : HP 53 (4096 * s0 + s1) (256 * s2 + 49) M) (m1 : HP 47 (s2) (s4 + 393216) M) (m2 : HP 45 (s2) (s3) M) (m3 : HP 55 (4096 * s0 + s1) (s5 + 32 * s6 + 1024 * s7) M) (m4 : (0 ≤ (s4) ∧ M 16 (s4).toNat = (s8))) (hG : gI M) : (HP 66 (s3) (3 : Int) M ∧ True) := by
  obtain ⟨S, hS, hw, ha⟩ := Eq.mp hp_55 m3
  have hr : M 16 s4.toNat = S.2 5 s4.toNat := ha.2.2.2.2.1 s4.toNat (by omega)
  rw [m4.2] at hr
  have hs0 : S.2 5 s4.toNat = s8 := hr.symm
  have hc : ∀ s : Nat × pM, qat (tm M) (4096 * s0 + s1) s → tK (tm M) (qps (tm M) s.1 1) = (s4 + 393216) → qck (tm M) s.1 s.2 3 1 = some 3 := by
    intro s hs e
    have es := qat_u hS hs
    have ev : qvl (tm M) s.1 1 = s4 := by unfold qvl; omega
    show qcN 0 5 (if 0 ≤ s.2 5 (qvl (tm M) s.1 1).toNat then some 3 else none) (tK (tm M) (qps (tm M) s.1 1)) = _
    rw [e, qcN_x (by omega) (by omega), ev, es]
    exact if_pos (by omega)
  exact ⟨r_fl (K := 3) (j := 0) m0 m1 m2 ⟨by omega, by omega, by decide⟩ (fun s hs hE e => hc s hs e), trivial⟩
theorem rul_189 : Rul r_189 := by
  refine ⟨fun _ ρ M hm hB hF hG => ?_, fun gi gv hg => (by cases hg)⟩
  have H := cr_189 M (ρ 0) (ρ 1) (ρ 2) (ρ 3) (ρ 4) (ρ 5) (ρ 6) (ρ 7) (ρ 8) (hB _ List.mem_cons_self) (hB _ (List.mem_cons_of_mem _ List.mem_cons_self)) (hB _ (List.mem_cons_of_mem _ (List.mem_cons_of_mem _ List.mem_cons_self))) (hB _ (List.mem_cons_of_mem _ (List.mem_cons_of_mem _ (List.mem_cons_of_mem _ List.mem_cons_self)))) (hB _ (List.mem_cons_of_mem _ (List.mem_cons_of_mem _ (List.mem_cons_of_mem _ (List.mem_cons_of_mem _ List.mem_cons_self))))) (hB _ (List.mem_cons_of_mem _ (List.mem_cons_of_mem _ (List.mem_cons_of_mem _ (List.mem_cons_of_mem _ (List.mem_cons_of_mem _ List.mem_cons_self)))))) (hB _ (List.mem_cons_of_mem _ (List.mem_cons_of_mem _ (List.mem_cons_of_mem _ (List.mem_cons_of_mem _ (List.mem_cons_of_mem _ (List.mem_cons_of_mem _ List.mem_cons_self))))))) (hB _ (List.mem_cons_of_mem _ (List.mem_cons_of_mem _ (List.mem_cons_of_mem _ (List.mem_cons_of_mem _ (List.mem_cons_of_mem _ (List.mem_cons_of_mem _ (List.mem_cons_of_mem _ List.mem_cons_self)))))))) (hB _ (List.mem_cons_of_mem _ (List.mem_cons_of_mem _ (List.mem_cons_of_mem _ (List.mem_cons_of_mem _ (List.mem_cons_of_mem _ (List.mem_cons_of_mem _ (List.mem_cons_of_mem _ (List.mem_cons_of_mem _ List.mem_cons_self))))))))) (cvp 53 (x' := (4096 * (ρ 0) + (ρ 1))) (y' := (256 * (ρ 2) + 49)) (by show 0 + (4096 * ρ 0 + (1 * ρ 1 + 0)) = _; omega) (by show 49 + (256 * ρ 2 + 0) = _; omega) (hm _ List.mem_cons_self)) (cvp 47 (x' := ((ρ 2))) (y' := ((ρ 4) + 393216)) (by show 0 + (1 * ρ 2 + 0) = _; omega) (by show 393216 + (1 * ρ 4 + 0) = _; omega) (hm _ (List.mem_cons_of_mem _ List.mem_cons_self))) (cvp 45 (x' := ((ρ 2))) (y' := ((ρ 3))) (by show 0 + (1 * ρ 2 + 0) = _; omega) (by show 0 + (1 * ρ 3 + 0) = _; omega) (hm _ (List.mem_cons_of_mem _ (List.mem_cons_of_mem _ List.mem_cons_self)))) (cvp 55 (x' := (4096 * (ρ 0) + (ρ 1))) (y' := ((ρ 5) + 32 * (ρ 6) + 1024 * (ρ 7))) (by show 0 + (4096 * ρ 0 + (1 * ρ 1 + 0)) = _; omega) (by show 0 + (1 * ρ 5 + (32 * ρ 6 + (1024 * ρ 7 + 0))) = _; omega) (hm _ (List.mem_cons_of_mem _ (List.mem_cons_of_mem _ (List.mem_cons_of_mem _ List.mem_cons_self))))) (cvm (c := 16) (by decide) (x' := ((ρ 4))) (y' := ((ρ 8))) (by show 0 + (1 * ρ 4 + 0) = _; omega) (by show 0 + (1 * ρ 8 + 0) = _; omega) (hm _ (List.mem_cons_of_mem _ (List.mem_cons_of_mem _ (List.mem_cons_of_mem _ (List.mem_cons_of_mem _ List.mem_cons_self)))))) hG
  obtain ⟨k0, -⟩ := H
  exact ⟨_, List.mem_cons_self, ρ, fun _ _ => rfl, (okM_c (pvp 66 (by show 0 + (1 * ρ 3 + 0) = _; omega) (by show 3 + 0 = _; omega) k0) okM_n), okB_n, okF_n⟩
-- fk50
theorem cr_190 (M : pM) (s0 s1 s2 s3 s4 : Int) (b0 : 0 ≤ s0 ∧ s0 ≤ 1900) (b1 : 0 ≤ s1 ∧ s1 ≤ 950) (b2 : 0 ≤ s2 ∧ s2 ≤ 1900) (b3 : 0 ≤ s3 ∧ s3 ≤ 1900) (b4 : 256 ≤ s4 ∧ s4 ≤ 600000) (m0 : HP 53 (4096 * s0 + s1) (256 * s2 + 50) M) (m1 : HP 47 (s2) (s4) M) (m2 : HP 45 (s2) (s3) M) (f0 : 0 ≤ ((-1) * s4 + 393215)) (hG : gI M) : (HP 66 (s3) (2 : Int) M ∧ True) := by
  refine ⟨r_fl (K := 3) (j := 1) m0 m1 m2 ⟨by omega, by omega, by decide⟩ (fun s hs hE e => ?_), trivial⟩
  show qcN 1 40 none (tK (tm M) (qps (tm M) s.1 2)) = some 2
  rw [e]
  exact qcN_2 (by omega) (by omega)
theorem rul_190 : Rul r_190 := by
  refine ⟨fun _ ρ M hm hB hF hG => ?_, fun gi gv hg => (by cases hg)⟩
  have H := cr_190 M (ρ 0) (ρ 1) (ρ 2) (ρ 3) (ρ 4) (hB _ List.mem_cons_self) (hB _ (List.mem_cons_of_mem _ List.mem_cons_self)) (hB _ (List.mem_cons_of_mem _ (List.mem_cons_of_mem _ List.mem_cons_self))) (hB _ (List.mem_cons_of_mem _ (List.mem_cons_of_mem _ (List.mem_cons_of_mem _ List.mem_cons_self)))) (hB _ (List.mem_cons_of_mem _ (List.mem_cons_of_mem _ (List.mem_cons_of_mem _ (List.mem_cons_of_mem _ List.mem_cons_self))))) (cvp 53 (x' := (4096 * (ρ 0) + (ρ 1))) (y' := (256 * (ρ 2) + 50)) (by show 0 + (4096 * ρ 0 + (1 * ρ 1 + 0)) = _; omega) (by show 50 + (256 * ρ 2 + 0) = _; omega) (hm _ List.mem_cons_self)) (cvp 47 (x' := ((ρ 2))) (y' := ((ρ 4))) (by show 0 + (1 * ρ 2 + 0) = _; omega) (by show 0 + (1 * ρ 4 + 0) = _; omega) (hm _ (List.mem_cons_of_mem _ List.mem_cons_self))) (cvp 45 (x' := ((ρ 2))) (y' := ((ρ 3))) (by show 0 + (1 * ρ 2 + 0) = _; omega) (by show 0 + (1 * ρ 3 + 0) = _; omega) (hm _ (List.mem_cons_of_mem _ (List.mem_cons_of_mem _ List.mem_cons_self)))) (by have h := hF _ List.mem_cons_self; have h : 0 ≤ 393215 + ((-1) * ρ 4 + 0) := h; omega) hG
  obtain ⟨k0, -⟩ := H
  exact ⟨_, List.mem_cons_self, ρ, fun _ _ => rfl, (okM_c (pvp 66 (by show 0 + (1 * ρ 3 + 0) = _; omega) (by show 2 + 0 = _; omega) k0) okM_n), okB_n, okF_n⟩
-- fl50
theorem cr_191 (M : pM) (s0 s1 s2 s3 s4 : Int) (b0 : 0 ≤ s0 ∧ s0 ≤ 1900) (b1 : 0 ≤ s1 ∧ s1 ≤ 950) (b2 : 0 ≤ s2 ∧ s2 ≤ 1900) (b3 : 0 ≤ s3 ∧ s3 ≤ 1900) (b4 : 256 ≤ s4 ∧ s4 ≤ 600000) (m0 : HP 53 (4096 * s0 + s1) (256 * s2 + 50) M) (m1 : HP 47 (s2) (s4) M) (m2 : HP 45 (s2) (s3) M) (f0 : 0 ≤ (s4 - 403216)) (hG : gI M) : (HP 66 (s3) (2 : Int) M ∧ True) := by
  refine ⟨r_fl (K := 3) (j := 1) m0 m1 m2 ⟨by omega, by omega, by decide⟩ (fun s hs hE e => ?_), trivial⟩
  show qcN 1 40 none (tK (tm M) (qps (tm M) s.1 2)) = some 2
  rw [e]
  exact qcN_2 (by omega) (by omega)
theorem rul_191 : Rul r_191 := by
  refine ⟨fun _ ρ M hm hB hF hG => ?_, fun gi gv hg => (by cases hg)⟩
  have H := cr_191 M (ρ 0) (ρ 1) (ρ 2) (ρ 3) (ρ 4) (hB _ List.mem_cons_self) (hB _ (List.mem_cons_of_mem _ List.mem_cons_self)) (hB _ (List.mem_cons_of_mem _ (List.mem_cons_of_mem _ List.mem_cons_self))) (hB _ (List.mem_cons_of_mem _ (List.mem_cons_of_mem _ (List.mem_cons_of_mem _ List.mem_cons_self)))) (hB _ (List.mem_cons_of_mem _ (List.mem_cons_of_mem _ (List.mem_cons_of_mem _ (List.mem_cons_of_mem _ List.mem_cons_self))))) (cvp 53 (x' := (4096 * (ρ 0) + (ρ 1))) (y' := (256 * (ρ 2) + 50)) (by show 0 + (4096 * ρ 0 + (1 * ρ 1 + 0)) = _; omega) (by show 50 + (256 * ρ 2 + 0) = _; omega) (hm _ List.mem_cons_self)) (cvp 47 (x' := ((ρ 2))) (y' := ((ρ 4))) (by show 0 + (1 * ρ 2 + 0) = _; omega) (by show 0 + (1 * ρ 4 + 0) = _; omega) (hm _ (List.mem_cons_of_mem _ List.mem_cons_self))) (cvp 45 (x' := ((ρ 2))) (y' := ((ρ 3))) (by show 0 + (1 * ρ 2 + 0) = _; omega) (by show 0 + (1 * ρ 3 + 0) = _; omega) (hm _ (List.mem_cons_of_mem _ (List.mem_cons_of_mem _ List.mem_cons_self)))) (by have h := hF _ List.mem_cons_self; have h : 0 ≤ (-403216) + (1 * ρ 4 + 0) := h; omega) hG
  obtain ⟨k0, -⟩ := H
  exact ⟨_, List.mem_cons_self, ρ, fun _ _ => rfl, (okM_c (pvp 66 (by show 0 + (1 * ρ 3 + 0) = _; omega) (by show 2 + 0 = _; omega) k0) okM_n), okB_n, okF_n⟩
-- fm50
theorem cr_192 (M : pM) (s0 s1 s2 s3 s4 : Int) (b0 : 0 ≤ s0 ∧ s0 ≤ 1900) (b1 : 0 ≤ s1 ∧ s1 ≤ 950) (b2 : 0 ≤ s2 ∧ s2 ≤ 1900) (b3 : 0 ≤ s3 ∧ s3 ≤ 1900) (b4 : 0 ≤ s4 ∧ s4 ≤ 9999) (m0 : HP 53 (4096 * s0 + s1) (256 * s2 + 50) M) (m1 : HP 47 (s2) (s4 + 393216) M) (m2 : HP 45 (s2) (s3) M) (f0 : 0 ≤ ((-1) * s4)) (hG : gI M) : (HP 66 (s3) (4 : Int) M ∧ True) := by
  refine ⟨r_fl (K := 3) (j := 1) m0 m1 m2 ⟨by omega, by omega, by decide⟩ (fun s hs hE e => ?_), trivial⟩
  show qcN 1 40 none (tK (tm M) (qps (tm M) s.1 2)) = some 4
  rw [e]
  exact qcN_4 (by omega) (Or.inl (by omega))
theorem rul_192 : Rul r_192 := by
  refine ⟨fun _ ρ M hm hB hF hG => ?_, fun gi gv hg => (by cases hg)⟩
  have H := cr_192 M (ρ 0) (ρ 1) (ρ 2) (ρ 3) (ρ 4) (hB _ List.mem_cons_self) (hB _ (List.mem_cons_of_mem _ List.mem_cons_self)) (hB _ (List.mem_cons_of_mem _ (List.mem_cons_of_mem _ List.mem_cons_self))) (hB _ (List.mem_cons_of_mem _ (List.mem_cons_of_mem _ (List.mem_cons_of_mem _ List.mem_cons_self)))) (hB _ (List.mem_cons_of_mem _ (List.mem_cons_of_mem _ (List.mem_cons_of_mem _ (List.mem_cons_of_mem _ List.mem_cons_self))))) (cvp 53 (x' := (4096 * (ρ 0) + (ρ 1))) (y' := (256 * (ρ 2) + 50)) (by show 0 + (4096 * ρ 0 + (1 * ρ 1 + 0)) = _; omega) (by show 50 + (256 * ρ 2 + 0) = _; omega) (hm _ List.mem_cons_self)) (cvp 47 (x' := ((ρ 2))) (y' := ((ρ 4) + 393216)) (by show 0 + (1 * ρ 2 + 0) = _; omega) (by show 393216 + (1 * ρ 4 + 0) = _; omega) (hm _ (List.mem_cons_of_mem _ List.mem_cons_self))) (cvp 45 (x' := ((ρ 2))) (y' := ((ρ 3))) (by show 0 + (1 * ρ 2 + 0) = _; omega) (by show 0 + (1 * ρ 3 + 0) = _; omega) (hm _ (List.mem_cons_of_mem _ (List.mem_cons_of_mem _ List.mem_cons_self)))) (by have h := hF _ List.mem_cons_self; have h : 0 ≤ 0 + ((-1) * ρ 4 + 0) := h; omega) hG
  obtain ⟨k0, -⟩ := H
  exact ⟨_, List.mem_cons_self, ρ, fun _ _ => rfl, (okM_c (pvp 66 (by show 0 + (1 * ρ 3 + 0) = _; omega) (by show 4 + 0 = _; omega) k0) okM_n), okB_n, okF_n⟩
-- fn50
theorem cr_193 (M : pM) (s0 s1 s2 s3 s4 : Int) (b0 : 0 ≤ s0 ∧ s0 ≤ 1900) (b1 : 0 ≤ s1 ∧ s1 ≤ 950) (b2 : 0 ≤ s2 ∧ s2 ≤ 1900) (b3 : 0 ≤ s3 ∧ s3 ≤ 1900) (b4 : 0 ≤ s4 ∧ s4 ≤ 9999) (m0 : HP 53 (4096 * s0 + s1) (256 * s2 + 50) M) (m1 : HP 47 (s2) (s4 + 393216) M) (m2 : HP 45 (s2) (s3) M) (f0 : 0 ≤ (s4 - 41)) (hG : gI M) : (HP 66 (s3) (4 : Int) M ∧ True) := by
  refine ⟨r_fl (K := 3) (j := 1) m0 m1 m2 ⟨by omega, by omega, by decide⟩ (fun s hs hE e => ?_), trivial⟩
  show qcN 1 40 none (tK (tm M) (qps (tm M) s.1 2)) = some 4
  rw [e]
  exact qcN_4 (by omega) (Or.inr (by omega))
theorem rul_193 : Rul r_193 := by
  refine ⟨fun _ ρ M hm hB hF hG => ?_, fun gi gv hg => (by cases hg)⟩
  have H := cr_193 M (ρ 0) (ρ 1) (ρ 2) (ρ 3) (ρ 4) (hB _ List.mem_cons_self) (hB _ (List.mem_cons_of_mem _ List.mem_cons_self)) (hB _ (List.mem_cons_of_mem _ (List.mem_cons_of_mem _ List.mem_cons_self))) (hB _ (List.mem_cons_of_mem _ (List.mem_cons_of_mem _ (List.mem_cons_of_mem _ List.mem_cons_self)))) (hB _ (List.mem_cons_of_mem _ (List.mem_cons_of_mem _ (List.mem_cons_of_mem _ (List.mem_cons_of_mem _ List.mem_cons_self))))) (cvp 53 (x' := (4096 * (ρ 0) + (ρ 1))) (y' := (256 * (ρ 2) + 50)) (by show 0 + (4096 * ρ 0 + (1 * ρ 1 + 0)) = _; omega) (by show 50 + (256 * ρ 2 + 0) = _; omega) (hm _ List.mem_cons_self)) (cvp 47 (x' := ((ρ 2))) (y' := ((ρ 4) + 393216)) (by show 0 + (1 * ρ 2 + 0) = _; omega) (by show 393216 + (1 * ρ 4 + 0) = _; omega) (hm _ (List.mem_cons_of_mem _ List.mem_cons_self))) (cvp 45 (x' := ((ρ 2))) (y' := ((ρ 3))) (by show 0 + (1 * ρ 2 + 0) = _; omega) (by show 0 + (1 * ρ 3 + 0) = _; omega) (hm _ (List.mem_cons_of_mem _ (List.mem_cons_of_mem _ List.mem_cons_self)))) (by have h := hF _ List.mem_cons_self; have h : 0 ≤ (-41) + (1 * ρ 4 + 0) := h; omega) hG
  obtain ⟨k0, -⟩ := H
  exact ⟨_, List.mem_cons_self, ρ, fun _ _ => rfl, (okM_c (pvp 66 (by show 0 + (1 * ρ 3 + 0) = _; omega) (by show 4 + 0 = _; omega) k0) okM_n), okB_n, okF_n⟩
-- ex50
theorem cr_194 (M : pM) (s0 s1 s2 s3 s4 : Int) (b0 : 0 ≤ s0 ∧ s0 ≤ 1900) (b1 : 0 ≤ s1 ∧ s1 ≤ 950) (b2 : 0 ≤ s2 ∧ s2 ≤ 1900) (b3 : 0 ≤ s3 ∧ s3 ≤ 1900) (b4 : 0 ≤ s4 ∧ s4 ≤ 9999) (m0 : HP 53 (4096 * s0 + s1) (256 * s2 + 50) M) (m1 : HP 47 (s2) (s4 + 393216) M) (m2 : HP 46 (s2) (s3) M) (f0 : 0 ≤ (s4 - 1)) (f1 : 0 ≤ ((-1) * s4 + 40)) (hG : gI M) : (HP 53 (4096 * s0 + s1) (256 * s3 + 51) M ∧ HP 79 (16 * s0 + 2) (s4) M ∧ True) := by
  refine ⟨?_, ?_, trivial⟩
  · exact r_ex (K := 3) (j := 1) m0 m1 m2 ⟨by omega, by omega, by decide⟩ (by omega) (by decide) (fun s hs hE e => by
        show qcN 1 40 none (tK (tm M) (qps (tm M) s.1 2)) = none
        rw [e]
        exact qcN_x (by omega) (by omega))
  · exact r_va (P := s0) (l := s1) (K := 3) (j := 1) m0 m1 ⟨by omega, by omega, by omega⟩ ⟨by omega, by omega, by decide⟩ (by omega) (by omega)
theorem rul_194 : Rul r_194 := by
  refine ⟨fun _ ρ M hm hB hF hG => ?_, fun gi gv hg => (by cases hg)⟩
  have H := cr_194 M (ρ 0) (ρ 1) (ρ 2) (ρ 3) (ρ 4) (hB _ List.mem_cons_self) (hB _ (List.mem_cons_of_mem _ List.mem_cons_self)) (hB _ (List.mem_cons_of_mem _ (List.mem_cons_of_mem _ List.mem_cons_self))) (hB _ (List.mem_cons_of_mem _ (List.mem_cons_of_mem _ (List.mem_cons_of_mem _ List.mem_cons_self)))) (hB _ (List.mem_cons_of_mem _ (List.mem_cons_of_mem _ (List.mem_cons_of_mem _ (List.mem_cons_of_mem _ List.mem_cons_self))))) (cvp 53 (x' := (4096 * (ρ 0) + (ρ 1))) (y' := (256 * (ρ 2) + 50)) (by show 0 + (4096 * ρ 0 + (1 * ρ 1 + 0)) = _; omega) (by show 50 + (256 * ρ 2 + 0) = _; omega) (hm _ List.mem_cons_self)) (cvp 47 (x' := ((ρ 2))) (y' := ((ρ 4) + 393216)) (by show 0 + (1 * ρ 2 + 0) = _; omega) (by show 393216 + (1 * ρ 4 + 0) = _; omega) (hm _ (List.mem_cons_of_mem _ List.mem_cons_self))) (cvp 46 (x' := ((ρ 2))) (y' := ((ρ 3))) (by show 0 + (1 * ρ 2 + 0) = _; omega) (by show 0 + (1 * ρ 3 + 0) = _; omega) (hm _ (List.mem_cons_of_mem _ (List.mem_cons_of_mem _ List.mem_cons_self)))) (by have h := hF _ List.mem_cons_self; have h : 0 ≤ (-1) + (1 * ρ 4 + 0) := h; omega) (by have h := hF _ (List.mem_cons_of_mem _ List.mem_cons_self); have h : 0 ≤ 40 + ((-1) * ρ 4 + 0) := h; omega) hG
  obtain ⟨k0, k1, -⟩ := H
  exact ⟨_, List.mem_cons_self, ρ, fun _ _ => rfl, (okM_c (pvp 53 (by show 0 + (4096 * ρ 0 + (1 * ρ 1 + 0)) = _; omega) (by show 51 + (256 * ρ 3 + 0) = _; omega) k0) (okM_c (pvp 79 (by show 2 + (16 * ρ 0 + 0) = _; omega) (by show 0 + (1 * ρ 4 + 0) = _; omega) k1) okM_n)), okB_n, okF_n⟩
-- ln3
theorem cr_195 (M : pM) (s0 s1 s2 : Int) (b0 : 0 ≤ s0 ∧ s0 ≤ 1900) (b1 : 0 ≤ s1 ∧ s1 ≤ 950) (b2 : 0 ≤ s2 ∧ s2 ≤ 1900) (m0 : HP 53 (4096 * s0 + s1) (256 * s2 + 51) M) (hG : gI M) : (HP 89 (4096 * s0 + s1) (s2) M ∧ True) := by
  obtain ⟨s, h1, h2⟩ := ex_o (K := 3) (j := 2) (a := s2) (Eq.mp hp_53 m0) ⟨by omega, by omega, by decide, by decide⟩
  exact ⟨Eq.mpr hp_89 ⟨s, 3, h1, ⟨h2.2.2.1, h2.2.2.2.1⟩, h2.2.2.2.2⟩, trivial⟩
theorem rul_195 : Rul r_195 := by
  refine ⟨fun _ ρ M hm hB hF hG => ?_, fun gi gv hg => (by cases hg)⟩
  have H := cr_195 M (ρ 0) (ρ 1) (ρ 2) (hB _ List.mem_cons_self) (hB _ (List.mem_cons_of_mem _ List.mem_cons_self)) (hB _ (List.mem_cons_of_mem _ (List.mem_cons_of_mem _ List.mem_cons_self))) (cvp 53 (x' := (4096 * (ρ 0) + (ρ 1))) (y' := (256 * (ρ 2) + 51)) (by show 0 + (4096 * ρ 0 + (1 * ρ 1 + 0)) = _; omega) (by show 51 + (256 * ρ 2 + 0) = _; omega) (hm _ List.mem_cons_self)) hG
  obtain ⟨k0, -⟩ := H
  exact ⟨_, List.mem_cons_self, ρ, fun _ _ => rfl, (okM_c (pvp 89 (by show 0 + (4096 * ρ 0 + (1 * ρ 1 + 0)) = _; omega) (by show 0 + (1 * ρ 2 + 0) = _; omega) k0) okM_n), okB_n, okF_n⟩
-- fk65
theorem cr_196 (M : pM) (s0 s1 s2 s3 s4 : Int) (b0 : 0 ≤ s0 ∧ s0 ≤ 1900) (b1 : 0 ≤ s1 ∧ s1 ≤ 950) (b2 : 0 ≤ s2 ∧ s2 ≤ 1900) (b3 : 0 ≤ s3 ∧ s3 ≤ 1900) (b4 : 256 ≤ s4 ∧ s4 ≤ 600000) (m0 : HP 53 (4096 * s0 + s1) (256 * s2 + 65) M) (m1 : HP 47 (s2) (s4) M) (m2 : HP 45 (s2) (s3) M) (f0 : 0 ≤ ((-1) * s4 + 393215)) (hG : gI M) : (HP 66 (s3) (2 : Int) M ∧ True) := by
  refine ⟨r_fl (K := 4) (j := 0) m0 m1 m2 ⟨by omega, by omega, by decide⟩ (fun s hs hE e => ?_), trivial⟩
  show qcN 0 7 none (tK (tm M) (qps (tm M) s.1 1)) = some 2
  rw [e]
  exact qcN_2 (by omega) (by omega)
theorem rul_196 : Rul r_196 := by
  refine ⟨fun _ ρ M hm hB hF hG => ?_, fun gi gv hg => (by cases hg)⟩
  have H := cr_196 M (ρ 0) (ρ 1) (ρ 2) (ρ 3) (ρ 4) (hB _ List.mem_cons_self) (hB _ (List.mem_cons_of_mem _ List.mem_cons_self)) (hB _ (List.mem_cons_of_mem _ (List.mem_cons_of_mem _ List.mem_cons_self))) (hB _ (List.mem_cons_of_mem _ (List.mem_cons_of_mem _ (List.mem_cons_of_mem _ List.mem_cons_self)))) (hB _ (List.mem_cons_of_mem _ (List.mem_cons_of_mem _ (List.mem_cons_of_mem _ (List.mem_cons_of_mem _ List.mem_cons_self))))) (cvp 53 (x' := (4096 * (ρ 0) + (ρ 1))) (y' := (256 * (ρ 2) + 65)) (by show 0 + (4096 * ρ 0 + (1 * ρ 1 + 0)) = _; omega) (by show 65 + (256 * ρ 2 + 0) = _; omega) (hm _ List.mem_cons_self)) (cvp 47 (x' := ((ρ 2))) (y' := ((ρ 4))) (by show 0 + (1 * ρ 2 + 0) = _; omega) (by show 0 + (1 * ρ 4 + 0) = _; omega) (hm _ (List.mem_cons_of_mem _ List.mem_cons_self))) (cvp 45 (x' := ((ρ 2))) (y' := ((ρ 3))) (by show 0 + (1 * ρ 2 + 0) = _; omega) (by show 0 + (1 * ρ 3 + 0) = _; omega) (hm _ (List.mem_cons_of_mem _ (List.mem_cons_of_mem _ List.mem_cons_self)))) (by have h := hF _ List.mem_cons_self; have h : 0 ≤ 393215 + ((-1) * ρ 4 + 0) := h; omega) hG
  obtain ⟨k0, -⟩ := H
  exact ⟨_, List.mem_cons_self, ρ, fun _ _ => rfl, (okM_c (pvp 66 (by show 0 + (1 * ρ 3 + 0) = _; omega) (by show 2 + 0 = _; omega) k0) okM_n), okB_n, okF_n⟩
-- fl65
theorem cr_197 (M : pM) (s0 s1 s2 s3 s4 : Int) (b0 : 0 ≤ s0 ∧ s0 ≤ 1900) (b1 : 0 ≤ s1 ∧ s1 ≤ 950) (b2 : 0 ≤ s2 ∧ s2 ≤ 1900) (b3 : 0 ≤ s3 ∧ s3 ≤ 1900) (b4 : 256 ≤ s4 ∧ s4 ≤ 600000) (m0 : HP 53 (4096 * s0 + s1) (256 * s2 + 65) M) (m1 : HP 47 (s2) (s4) M) (m2 : HP 45 (s2) (s3) M) (f0 : 0 ≤ (s4 - 403216)) (hG : gI M) : (HP 66 (s3) (2 : Int) M ∧ True) := by
  refine ⟨r_fl (K := 4) (j := 0) m0 m1 m2 ⟨by omega, by omega, by decide⟩ (fun s hs hE e => ?_), trivial⟩
  show qcN 0 7 none (tK (tm M) (qps (tm M) s.1 1)) = some 2
  rw [e]
  exact qcN_2 (by omega) (by omega)
theorem rul_197 : Rul r_197 := by
  refine ⟨fun _ ρ M hm hB hF hG => ?_, fun gi gv hg => (by cases hg)⟩
  have H := cr_197 M (ρ 0) (ρ 1) (ρ 2) (ρ 3) (ρ 4) (hB _ List.mem_cons_self) (hB _ (List.mem_cons_of_mem _ List.mem_cons_self)) (hB _ (List.mem_cons_of_mem _ (List.mem_cons_of_mem _ List.mem_cons_self))) (hB _ (List.mem_cons_of_mem _ (List.mem_cons_of_mem _ (List.mem_cons_of_mem _ List.mem_cons_self)))) (hB _ (List.mem_cons_of_mem _ (List.mem_cons_of_mem _ (List.mem_cons_of_mem _ (List.mem_cons_of_mem _ List.mem_cons_self))))) (cvp 53 (x' := (4096 * (ρ 0) + (ρ 1))) (y' := (256 * (ρ 2) + 65)) (by show 0 + (4096 * ρ 0 + (1 * ρ 1 + 0)) = _; omega) (by show 65 + (256 * ρ 2 + 0) = _; omega) (hm _ List.mem_cons_self)) (cvp 47 (x' := ((ρ 2))) (y' := ((ρ 4))) (by show 0 + (1 * ρ 2 + 0) = _; omega) (by show 0 + (1 * ρ 4 + 0) = _; omega) (hm _ (List.mem_cons_of_mem _ List.mem_cons_self))) (cvp 45 (x' := ((ρ 2))) (y' := ((ρ 3))) (by show 0 + (1 * ρ 2 + 0) = _; omega) (by show 0 + (1 * ρ 3 + 0) = _; omega) (hm _ (List.mem_cons_of_mem _ (List.mem_cons_of_mem _ List.mem_cons_self)))) (by have h := hF _ List.mem_cons_self; have h : 0 ≤ (-403216) + (1 * ρ 4 + 0) := h; omega) hG
  obtain ⟨k0, -⟩ := H
  exact ⟨_, List.mem_cons_self, ρ, fun _ _ => rfl, (okM_c (pvp 66 (by show 0 + (1 * ρ 3 + 0) = _; omega) (by show 2 + 0 = _; omega) k0) okM_n), okB_n, okF_n⟩
-- fn65
theorem cr_198 (M : pM) (s0 s1 s2 s3 s4 : Int) (b0 : 0 ≤ s0 ∧ s0 ≤ 1900) (b1 : 0 ≤ s1 ∧ s1 ≤ 950) (b2 : 0 ≤ s2 ∧ s2 ≤ 1900) (b3 : 0 ≤ s3 ∧ s3 ≤ 1900) (b4 : 0 ≤ s4 ∧ s4 ≤ 9999) (m0 : HP 53 (4096 * s0 + s1) (256 * s2 + 65) M) (m1 : HP 47 (s2) (s4 + 393216) M) (m2 : HP 45 (s2) (s3) M) (f0 : 0 ≤ (s4 - 8)) (hG : gI M) : (HP 66 (s3) (4 : Int) M ∧ True) := by
  refine ⟨r_fl (K := 4) (j := 0) m0 m1 m2 ⟨by omega, by omega, by decide⟩ (fun s hs hE e => ?_), trivial⟩
  show qcN 0 7 none (tK (tm M) (qps (tm M) s.1 1)) = some 4
  rw [e]
  exact qcN_4 (by omega) (Or.inr (by omega))
theorem rul_198 : Rul r_198 := by
  refine ⟨fun _ ρ M hm hB hF hG => ?_, fun gi gv hg => (by cases hg)⟩
  have H := cr_198 M (ρ 0) (ρ 1) (ρ 2) (ρ 3) (ρ 4) (hB _ List.mem_cons_self) (hB _ (List.mem_cons_of_mem _ List.mem_cons_self)) (hB _ (List.mem_cons_of_mem _ (List.mem_cons_of_mem _ List.mem_cons_self))) (hB _ (List.mem_cons_of_mem _ (List.mem_cons_of_mem _ (List.mem_cons_of_mem _ List.mem_cons_self)))) (hB _ (List.mem_cons_of_mem _ (List.mem_cons_of_mem _ (List.mem_cons_of_mem _ (List.mem_cons_of_mem _ List.mem_cons_self))))) (cvp 53 (x' := (4096 * (ρ 0) + (ρ 1))) (y' := (256 * (ρ 2) + 65)) (by show 0 + (4096 * ρ 0 + (1 * ρ 1 + 0)) = _; omega) (by show 65 + (256 * ρ 2 + 0) = _; omega) (hm _ List.mem_cons_self)) (cvp 47 (x' := ((ρ 2))) (y' := ((ρ 4) + 393216)) (by show 0 + (1 * ρ 2 + 0) = _; omega) (by show 393216 + (1 * ρ 4 + 0) = _; omega) (hm _ (List.mem_cons_of_mem _ List.mem_cons_self))) (cvp 45 (x' := ((ρ 2))) (y' := ((ρ 3))) (by show 0 + (1 * ρ 2 + 0) = _; omega) (by show 0 + (1 * ρ 3 + 0) = _; omega) (hm _ (List.mem_cons_of_mem _ (List.mem_cons_of_mem _ List.mem_cons_self)))) (by have h := hF _ List.mem_cons_self; have h : 0 ≤ (-8) + (1 * ρ 4 + 0) := h; omega) hG
  obtain ⟨k0, -⟩ := H
  exact ⟨_, List.mem_cons_self, ρ, fun _ _ => rfl, (okM_c (pvp 66 (by show 0 + (1 * ρ 3 + 0) = _; omega) (by show 4 + 0 = _; omega) k0) okM_n), okB_n, okF_n⟩
-- ex65
theorem cr_199 (M : pM) (s0 s1 s2 s3 s4 : Int) (b0 : 0 ≤ s0 ∧ s0 ≤ 1900) (b1 : 0 ≤ s1 ∧ s1 ≤ 950) (b2 : 0 ≤ s2 ∧ s2 ≤ 1900) (b3 : 0 ≤ s3 ∧ s3 ≤ 1900) (b4 : 0 ≤ s4 ∧ s4 ≤ 9999) (m0 : HP 53 (4096 * s0 + s1) (256 * s2 + 65) M) (m1 : HP 47 (s2) (s4 + 393216) M) (m2 : HP 46 (s2) (s3) M) (f0 : 0 ≤ (s4)) (f1 : 0 ≤ ((-1) * s4 + 7)) (hG : gI M) : (HP 53 (4096 * s0 + s1) (256 * s3 + 66) M ∧ HP 79 (16 * s0 + 1) (s4) M ∧ True) := by
  refine ⟨?_, ?_, trivial⟩
  · exact r_ex (K := 4) (j := 0) m0 m1 m2 ⟨by omega, by omega, by decide⟩ (by omega) (by decide) (fun s hs hE e => by
        show qcN 0 7 none (tK (tm M) (qps (tm M) s.1 1)) = none
        rw [e]
        exact qcN_x (by omega) (by omega))
  · exact r_va (P := s0) (l := s1) (K := 4) (j := 0) m0 m1 ⟨by omega, by omega, by omega⟩ ⟨by omega, by omega, by decide⟩ (by omega) (by omega)
theorem rul_199 : Rul r_199 := by
  refine ⟨fun _ ρ M hm hB hF hG => ?_, fun gi gv hg => (by cases hg)⟩
  have H := cr_199 M (ρ 0) (ρ 1) (ρ 2) (ρ 3) (ρ 4) (hB _ List.mem_cons_self) (hB _ (List.mem_cons_of_mem _ List.mem_cons_self)) (hB _ (List.mem_cons_of_mem _ (List.mem_cons_of_mem _ List.mem_cons_self))) (hB _ (List.mem_cons_of_mem _ (List.mem_cons_of_mem _ (List.mem_cons_of_mem _ List.mem_cons_self)))) (hB _ (List.mem_cons_of_mem _ (List.mem_cons_of_mem _ (List.mem_cons_of_mem _ (List.mem_cons_of_mem _ List.mem_cons_self))))) (cvp 53 (x' := (4096 * (ρ 0) + (ρ 1))) (y' := (256 * (ρ 2) + 65)) (by show 0 + (4096 * ρ 0 + (1 * ρ 1 + 0)) = _; omega) (by show 65 + (256 * ρ 2 + 0) = _; omega) (hm _ List.mem_cons_self)) (cvp 47 (x' := ((ρ 2))) (y' := ((ρ 4) + 393216)) (by show 0 + (1 * ρ 2 + 0) = _; omega) (by show 393216 + (1 * ρ 4 + 0) = _; omega) (hm _ (List.mem_cons_of_mem _ List.mem_cons_self))) (cvp 46 (x' := ((ρ 2))) (y' := ((ρ 3))) (by show 0 + (1 * ρ 2 + 0) = _; omega) (by show 0 + (1 * ρ 3 + 0) = _; omega) (hm _ (List.mem_cons_of_mem _ (List.mem_cons_of_mem _ List.mem_cons_self)))) (by have h := hF _ List.mem_cons_self; have h : 0 ≤ 0 + (1 * ρ 4 + 0) := h; omega) (by have h := hF _ (List.mem_cons_of_mem _ List.mem_cons_self); have h : 0 ≤ 7 + ((-1) * ρ 4 + 0) := h; omega) hG
  obtain ⟨k0, k1, -⟩ := H
  exact ⟨_, List.mem_cons_self, ρ, fun _ _ => rfl, (okM_c (pvp 53 (by show 0 + (4096 * ρ 0 + (1 * ρ 1 + 0)) = _; omega) (by show 66 + (256 * ρ 3 + 0) = _; omega) k0) (okM_c (pvp 79 (by show 1 + (16 * ρ 0 + 0) = _; omega) (by show 0 + (1 * ρ 4 + 0) = _; omega) k1) okM_n)), okB_n, okF_n⟩
