-- kwc0
theorem cr_100 (M : pM) (s0 s1 s2 s3 s4 s5 : Int) (b0 : 0 ≤ s0 ∧ s0 ≤ 1900) (b1 : 0 ≤ s1 ∧ s1 ≤ 1900) (b2 : 0 ≤ s2 ∧ s2 ≤ 125) (b3 : 0 ≤ s3 ∧ s3 ≤ 24) (b4 : 0 ≤ s4 ∧ s4 ≤ 15) (b5 : 0 ≤ s5 ∧ s5 ≤ 255) (m0 : HP 40 (0 : Int) (0 : Int) M) (m1 : HP 178 (s2) (32 * s3 + s4) M) (m2 : (0 ≤ (s2) ∧ M 1005 (s2).toNat = (s5))) (f0 : 0 ≤ ((-1) * s5 + 31)) (f1 : 0 ≤ (s0 + (-1) * s1 + s4)) (hG : gI M) : (HP 181 (2048 * s0 + s1) (s2 + 1) M ∧ True) := by
  have hd : M 1005 s2.toNat = s5 := m2.2
  obtain ⟨w1, w2, w3⟩ := kw_o (i := s2) (n := s3) (m := s4) m0 m1 rfl (by omega) (by omega) (by omega) hd
  have hne : wds.getD s2.toNat 0 ≠ 32 := by omega
  have hs := qws_sn hne
  obtain ⟨q1, q2, q3, q4⟩ := qws_n s2.toNat (by omega) hne
  refine ⟨Eq.mpr hp_181 ⟨s0.toNat, s1.toNat, s2.toNat + 1, ⟨by omega, by omega, by omega⟩, by omega, by omega, fun hb => ?_⟩, trivial⟩
  rw [hs] at hb
  have hb : bts (tm M) s0.toNat (s1.toNat - s0.toNat) = kws.getD (qws s2.toNat).1 [] := hb
  have h1 := bts_len (N := tm M) (s := s0.toNat) (k := s1.toNat - s0.toNat)
  rw [hb] at h1
  omega
theorem rul_100 : Rul r_100 := by
  refine ⟨fun _ ρ M hm hB hF hG => ?_, fun gi gv hg => (by cases hg)⟩
  have H := cr_100 M (ρ 0) (ρ 1) (ρ 2) (ρ 3) (ρ 4) (ρ 5) (hB _ List.mem_cons_self) (hB _ (List.mem_cons_of_mem _ List.mem_cons_self)) (hB _ (List.mem_cons_of_mem _ (List.mem_cons_of_mem _ List.mem_cons_self))) (hB _ (List.mem_cons_of_mem _ (List.mem_cons_of_mem _ (List.mem_cons_of_mem _ List.mem_cons_self)))) (hB _ (List.mem_cons_of_mem _ (List.mem_cons_of_mem _ (List.mem_cons_of_mem _ (List.mem_cons_of_mem _ List.mem_cons_self))))) (hB _ (List.mem_cons_of_mem _ (List.mem_cons_of_mem _ (List.mem_cons_of_mem _ (List.mem_cons_of_mem _ (List.mem_cons_of_mem _ List.mem_cons_self)))))) (cvp 40 (x' := (0 : Int)) (y' := (0 : Int)) (by show 0 + 0 = _; omega) (by show 0 + 0 = _; omega) (hm _ List.mem_cons_self)) (cvp 178 (x' := ((ρ 2))) (y' := (32 * (ρ 3) + (ρ 4))) (by show 0 + (1 * ρ 2 + 0) = _; omega) (by show 0 + (32 * ρ 3 + (1 * ρ 4 + 0)) = _; omega) (hm _ (List.mem_cons_of_mem _ List.mem_cons_self))) (cvm (c := 1005) (by decide) (x' := ((ρ 2))) (y' := ((ρ 5))) (by show 0 + (1 * ρ 2 + 0) = _; omega) (by show 0 + (1 * ρ 5 + 0) = _; omega) (hm _ (List.mem_cons_of_mem _ (List.mem_cons_of_mem _ List.mem_cons_self)))) (by have h := hF _ List.mem_cons_self; have h : 0 ≤ 31 + ((-1) * ρ 5 + 0) := h; omega) (by have h := hF _ (List.mem_cons_of_mem _ List.mem_cons_self); have h : 0 ≤ 0 + (1 * ρ 0 + ((-1) * ρ 1 + (1 * ρ 4 + 0))) := h; omega) hG
  obtain ⟨k0, -⟩ := H
  exact ⟨_, List.mem_cons_self, ρ, fun _ _ => rfl, (okM_c (pvp 181 (by show 0 + (2048 * ρ 0 + (1 * ρ 1 + 0)) = _; omega) (by show 1 + (1 * ρ 2 + 0) = _; omega) k0) okM_n), okB_n, okF_n⟩
-- kwd0
theorem cr_101 (M : pM) (s0 s1 s2 s3 : Int) (b0 : 0 ≤ s0 ∧ s0 ≤ 1900) (b1 : 0 ≤ s1 ∧ s1 ≤ 1900) (b2 : 0 ≤ s2 ∧ s2 ≤ 125) (b3 : 0 ≤ s3 ∧ s3 ≤ 255) (m0 : HP 40 (0 : Int) (0 : Int) M) (m1 : HP 181 (2048 * s0 + s1) (s2) M) (m2 : (0 ≤ (s2) ∧ M 1005 (s2).toNat = (s3))) (f0 : 0 ≤ ((-1) * s3 + 31)) (hG : gI M) : (HP 181 (2048 * s0 + s1) (s2 + 1) M ∧ True) := by
  have w1 : wds.getD s2.toNat 0 = s3 := by rw [← (Eq.mp hp_40 m0).1 s2.toNat (by omega)]; exact m2.2
  have hne : wds.getD s2.toNat 0 ≠ 32 := by omega
  have hs := qws_sn hne
  obtain ⟨q1, q2, q3, q4⟩ := qws_n s2.toNat (by omega) hne
  obtain ⟨ks, ke, ki, ⟨ka, kb, kc⟩, kx, ky, kh⟩ := Eq.mp hp_181 m1
  have kes : ks = s0.toNat := by omega
  have kee : ke = s1.toNat := by omega
  have kei : ki = s2.toNat := by omega
  subst kes kee kei
  exact ⟨Eq.mpr hp_181 ⟨s0.toNat, s1.toNat, s2.toNat + 1, ⟨by omega, by omega, by omega⟩, by omega, by omega, by rw [hs]; exact kh⟩, trivial⟩
theorem rul_101 : Rul r_101 := by
  refine ⟨fun _ ρ M hm hB hF hG => ?_, fun gi gv hg => (by cases hg)⟩
  have H := cr_101 M (ρ 0) (ρ 1) (ρ 2) (ρ 3) (hB _ List.mem_cons_self) (hB _ (List.mem_cons_of_mem _ List.mem_cons_self)) (hB _ (List.mem_cons_of_mem _ (List.mem_cons_of_mem _ List.mem_cons_self))) (hB _ (List.mem_cons_of_mem _ (List.mem_cons_of_mem _ (List.mem_cons_of_mem _ List.mem_cons_self)))) (cvp 40 (x' := (0 : Int)) (y' := (0 : Int)) (by show 0 + 0 = _; omega) (by show 0 + 0 = _; omega) (hm _ List.mem_cons_self)) (cvp 181 (x' := (2048 * (ρ 0) + (ρ 1))) (y' := ((ρ 2))) (by show 0 + (2048 * ρ 0 + (1 * ρ 1 + 0)) = _; omega) (by show 0 + (1 * ρ 2 + 0) = _; omega) (hm _ (List.mem_cons_of_mem _ List.mem_cons_self))) (cvm (c := 1005) (by decide) (x' := ((ρ 2))) (y' := ((ρ 3))) (by show 0 + (1 * ρ 2 + 0) = _; omega) (by show 0 + (1 * ρ 3 + 0) = _; omega) (hm _ (List.mem_cons_of_mem _ (List.mem_cons_of_mem _ List.mem_cons_self)))) (by have h := hF _ List.mem_cons_self; have h : 0 ≤ 31 + ((-1) * ρ 3 + 0) := h; omega) hG
  obtain ⟨k0, -⟩ := H
  exact ⟨_, List.mem_cons_self, ρ, fun _ _ => rfl, (okM_c (pvp 181 (by show 0 + (2048 * ρ 0 + (1 * ρ 1 + 0)) = _; omega) (by show 1 + (1 * ρ 2 + 0) = _; omega) k0) okM_n), okB_n, okF_n⟩
-- kwn1
theorem cr_102 (M : pM) (s0 s1 s2 s3 s4 s5 : Int) (b0 : 0 ≤ s0 ∧ s0 ≤ 1900) (b1 : 0 ≤ s1 ∧ s1 ≤ 1900) (b2 : 0 ≤ s2 ∧ s2 ≤ 125) (b3 : 0 ≤ s3 ∧ s3 ≤ 24) (b4 : 0 ≤ s4 ∧ s4 ≤ 15) (b5 : 0 ≤ s5 ∧ s5 ≤ 255) (m0 : HP 40 (0 : Int) (0 : Int) M) (m1 : HP 178 (s2) (32 * s3 + s4) M) (m2 : HP 179 (2048 * s0 + s1) (s2) M) (m3 : (0 ≤ (s2) ∧ M 1005 (s2).toNat = (s5))) (f0 : 0 ≤ (s5 - 33)) (hG : gI M) : (HP 178 (s2 + 1) (32 * s3 + s4 + 1) M ∧ HP 179 (2048 * s0 + s1) (s2 + 1) M ∧ 0 ≤ ((-1) * s4 + 14) ∧ 0 ≤ ((-1) * s3 + 23) ∧ True) := by
  have hd : M 1005 s2.toNat = s5 := m3.2
  obtain ⟨w1, w2, w3⟩ := kw_o (i := s2) (n := s3) (m := s4) m0 m1 rfl (by omega) (by omega) (by omega) hd
  have hne : wds.getD s2.toNat 0 ≠ 32 := by omega
  have hs := qws_sn hne
  obtain ⟨q1, q2, q3, q4⟩ := qws_n s2.toNat (by omega) hne
  obtain ⟨ks, ke, ki, ⟨ka, kb, kc⟩, kx, ky, kh⟩ := Eq.mp hp_179 m2
  have kes : ks = s0.toNat := by omega
  have kee : ke = s1.toNat := by omega
  have kei : ki = s2.toNat := by omega
  subst kes kee kei
  exact ⟨Eq.mpr hp_178 ⟨s2.toNat + 1, by omega, by omega, by rw [hs]; show _ = 32 * ((qws s2.toNat).1 : Int) + (((qws s2.toNat).2 + 1 : Nat) : Int); omega⟩, Eq.mpr hp_179 ⟨s0.toNat, s1.toNat, s2.toNat + 1, ⟨by omega, by omega, by omega⟩, by omega, by omega, by rw [hs]; exact kh⟩, by omega, by omega, trivial⟩
theorem rul_102 : Rul r_102 := by
  refine ⟨fun _ ρ M hm hB hF hG => ?_, fun gi gv hg => (by cases hg)⟩
  have H := cr_102 M (ρ 0) (ρ 1) (ρ 2) (ρ 3) (ρ 4) (ρ 5) (hB _ List.mem_cons_self) (hB _ (List.mem_cons_of_mem _ List.mem_cons_self)) (hB _ (List.mem_cons_of_mem _ (List.mem_cons_of_mem _ List.mem_cons_self))) (hB _ (List.mem_cons_of_mem _ (List.mem_cons_of_mem _ (List.mem_cons_of_mem _ List.mem_cons_self)))) (hB _ (List.mem_cons_of_mem _ (List.mem_cons_of_mem _ (List.mem_cons_of_mem _ (List.mem_cons_of_mem _ List.mem_cons_self))))) (hB _ (List.mem_cons_of_mem _ (List.mem_cons_of_mem _ (List.mem_cons_of_mem _ (List.mem_cons_of_mem _ (List.mem_cons_of_mem _ List.mem_cons_self)))))) (cvp 40 (x' := (0 : Int)) (y' := (0 : Int)) (by show 0 + 0 = _; omega) (by show 0 + 0 = _; omega) (hm _ List.mem_cons_self)) (cvp 178 (x' := ((ρ 2))) (y' := (32 * (ρ 3) + (ρ 4))) (by show 0 + (1 * ρ 2 + 0) = _; omega) (by show 0 + (32 * ρ 3 + (1 * ρ 4 + 0)) = _; omega) (hm _ (List.mem_cons_of_mem _ List.mem_cons_self))) (cvp 179 (x' := (2048 * (ρ 0) + (ρ 1))) (y' := ((ρ 2))) (by show 0 + (2048 * ρ 0 + (1 * ρ 1 + 0)) = _; omega) (by show 0 + (1 * ρ 2 + 0) = _; omega) (hm _ (List.mem_cons_of_mem _ (List.mem_cons_of_mem _ List.mem_cons_self)))) (cvm (c := 1005) (by decide) (x' := ((ρ 2))) (y' := ((ρ 5))) (by show 0 + (1 * ρ 2 + 0) = _; omega) (by show 0 + (1 * ρ 5 + 0) = _; omega) (hm _ (List.mem_cons_of_mem _ (List.mem_cons_of_mem _ (List.mem_cons_of_mem _ List.mem_cons_self))))) (by have h := hF _ List.mem_cons_self; have h : 0 ≤ (-33) + (1 * ρ 5 + 0) := h; omega) hG
  obtain ⟨k0, k1, f0, f1, -⟩ := H
  exact ⟨_, List.mem_cons_self, ρ, fun _ _ => rfl, (okM_c (pvp 178 (by show 1 + (1 * ρ 2 + 0) = _; omega) (by show 1 + (32 * ρ 3 + (1 * ρ 4 + 0)) = _; omega) k0) (okM_c (pvp 179 (by show 0 + (2048 * ρ 0 + (1 * ρ 1 + 0)) = _; omega) (by show 1 + (1 * ρ 2 + 0) = _; omega) k1) okM_n)), okB_n, (okF_c (by show 0 ≤ 14 + ((-1) * ρ 4 + 0); omega) (okF_c (by show 0 ≤ 23 + ((-1) * ρ 3 + 0); omega) okF_n))⟩
-- kwa1
theorem cr_103 (M : pM) (s0 s1 s2 s3 s4 s5 s6 : Int) (b0 : 0 ≤ s0 ∧ s0 ≤ 1900) (b1 : 0 ≤ s1 ∧ s1 ≤ 1900) (b2 : 0 ≤ s2 ∧ s2 ≤ 125) (b3 : 0 ≤ s3 ∧ s3 ≤ 24) (b4 : 0 ≤ s4 ∧ s4 ≤ 15) (b5 : 0 ≤ s5 ∧ s5 ≤ 255) (b6 : 0 ≤ s6 ∧ s6 ≤ 255) (m0 : HP 40 (0 : Int) (0 : Int) M) (m1 : HP 178 (s2) (32 * s3 + s4) M) (m2 : HP 180 (2048 * s0 + s1) (s2) M) (m3 : (0 ≤ (s2) ∧ M 1005 (s2).toNat = (s5))) (m4 : (0 ≤ (s0 + s4) ∧ M 1 (s0 + s4).toNat = (s6))) (f0 : 0 ≤ (s5 - 33)) (f1 : 0 ≤ (s5 + (-1) * s6)) (f2 : 0 ≤ ((-1) * s5 + s6)) (f3 : 0 ≤ ((-1) * s0 + s1 + (-1) * s4 - 1)) (hG : gI M) : (HP 180 (2048 * s0 + s1) (s2 + 1) M ∧ True) := by
  have hd : M 1005 s2.toNat = s5 := m3.2
  obtain ⟨w1, w2, w3⟩ := kw_o (i := s2) (n := s3) (m := s4) m0 m1 rfl (by omega) (by omega) (by omega) hd
  have hne : wds.getD s2.toNat 0 ≠ 32 := by omega
  have hs := qws_sn hne
  obtain ⟨q1, q2, q3, q4⟩ := qws_n s2.toNat (by omega) hne
  obtain ⟨ks, ke, ki, ⟨ka, kb, kc⟩, kx, ky, kh⟩ := Eq.mp hp_180 m2
  have kes : ks = s0.toNat := by omega
  have kee : ke = s1.toNat := by omega
  have kei : ki = s2.toNat := by omega
  subst kes kee kei
  obtain ⟨kh, kj⟩ := kh
  have hr := rd1 m4 (by omega)
  refine ⟨Eq.mpr hp_180 ⟨s0.toNat, s1.toNat, s2.toNat + 1, ⟨by omega, by omega, by omega⟩, by omega, by omega, ?_⟩, trivial⟩
  rw [hs]
  refine ⟨by show (qws s2.toNat).2 + 1 ≤ _; omega, fun j hj => ?_⟩
  show _ = (kws.getD (qws s2.toNat).1 []).getD j 0
  have hj : j < (qws s2.toNat).2 + 1 := hj
  by_cases e : j = (qws s2.toNat).2
  · rw [e, q3, w1, show s0.toNat + (qws s2.toNat).2 = (s0 + s4).toNat by omega]
    first | (rw [hr]; omega) | (rw [show (s0 + s4).toNat = (s4 + s0).toNat by omega, hr]; omega)
  · exact kj j (by omega)
theorem rul_103 : Rul r_103 := by
  refine ⟨fun _ ρ M hm hB hF hG => ?_, fun gi gv hg => (by cases hg)⟩
  have H := cr_103 M (ρ 0) (ρ 1) (ρ 2) (ρ 3) (ρ 4) (ρ 5) (ρ 6) (hB _ List.mem_cons_self) (hB _ (List.mem_cons_of_mem _ List.mem_cons_self)) (hB _ (List.mem_cons_of_mem _ (List.mem_cons_of_mem _ List.mem_cons_self))) (hB _ (List.mem_cons_of_mem _ (List.mem_cons_of_mem _ (List.mem_cons_of_mem _ List.mem_cons_self)))) (hB _ (List.mem_cons_of_mem _ (List.mem_cons_of_mem _ (List.mem_cons_of_mem _ (List.mem_cons_of_mem _ List.mem_cons_self))))) (hB _ (List.mem_cons_of_mem _ (List.mem_cons_of_mem _ (List.mem_cons_of_mem _ (List.mem_cons_of_mem _ (List.mem_cons_of_mem _ List.mem_cons_self)))))) (hB _ (List.mem_cons_of_mem _ (List.mem_cons_of_mem _ (List.mem_cons_of_mem _ (List.mem_cons_of_mem _ (List.mem_cons_of_mem _ (List.mem_cons_of_mem _ List.mem_cons_self))))))) (cvp 40 (x' := (0 : Int)) (y' := (0 : Int)) (by show 0 + 0 = _; omega) (by show 0 + 0 = _; omega) (hm _ List.mem_cons_self)) (cvp 178 (x' := ((ρ 2))) (y' := (32 * (ρ 3) + (ρ 4))) (by show 0 + (1 * ρ 2 + 0) = _; omega) (by show 0 + (32 * ρ 3 + (1 * ρ 4 + 0)) = _; omega) (hm _ (List.mem_cons_of_mem _ List.mem_cons_self))) (cvp 180 (x' := (2048 * (ρ 0) + (ρ 1))) (y' := ((ρ 2))) (by show 0 + (2048 * ρ 0 + (1 * ρ 1 + 0)) = _; omega) (by show 0 + (1 * ρ 2 + 0) = _; omega) (hm _ (List.mem_cons_of_mem _ (List.mem_cons_of_mem _ List.mem_cons_self)))) (cvm (c := 1005) (by decide) (x' := ((ρ 2))) (y' := ((ρ 5))) (by show 0 + (1 * ρ 2 + 0) = _; omega) (by show 0 + (1 * ρ 5 + 0) = _; omega) (hm _ (List.mem_cons_of_mem _ (List.mem_cons_of_mem _ (List.mem_cons_of_mem _ List.mem_cons_self))))) (cvm (c := 1) (by decide) (x' := ((ρ 0) + (ρ 4))) (y' := ((ρ 6))) (by show 0 + (1 * ρ 0 + (1 * ρ 4 + 0)) = _; omega) (by show 0 + (1 * ρ 6 + 0) = _; omega) (hm _ (List.mem_cons_of_mem _ (List.mem_cons_of_mem _ (List.mem_cons_of_mem _ (List.mem_cons_of_mem _ List.mem_cons_self)))))) (by have h := hF _ List.mem_cons_self; have h : 0 ≤ (-33) + (1 * ρ 5 + 0) := h; omega) (by have h := hF _ (List.mem_cons_of_mem _ List.mem_cons_self); have h : 0 ≤ 0 + (1 * ρ 5 + ((-1) * ρ 6 + 0)) := h; omega) (by have h := hF _ (List.mem_cons_of_mem _ (List.mem_cons_of_mem _ List.mem_cons_self)); have h : 0 ≤ 0 + ((-1) * ρ 5 + (1 * ρ 6 + 0)) := h; omega) (by have h := hF _ (List.mem_cons_of_mem _ (List.mem_cons_of_mem _ (List.mem_cons_of_mem _ List.mem_cons_self))); have h : 0 ≤ (-1) + ((-1) * ρ 0 + (1 * ρ 1 + ((-1) * ρ 4 + 0))) := h; omega) hG
  obtain ⟨k0, -⟩ := H
  exact ⟨_, List.mem_cons_self, ρ, fun _ _ => rfl, (okM_c (pvp 180 (by show 0 + (2048 * ρ 0 + (1 * ρ 1 + 0)) = _; omega) (by show 1 + (1 * ρ 2 + 0) = _; omega) k0) okM_n), okB_n, okF_n⟩
-- kwb1_0
theorem cr_104 (M : pM) (s0 s1 s2 s3 s4 s5 s6 : Int) (b0 : 0 ≤ s0 ∧ s0 ≤ 1900) (b1 : 0 ≤ s1 ∧ s1 ≤ 1900) (b2 : 0 ≤ s2 ∧ s2 ≤ 125) (b3 : 0 ≤ s3 ∧ s3 ≤ 24) (b4 : 0 ≤ s4 ∧ s4 ≤ 15) (b5 : 0 ≤ s5 ∧ s5 ≤ 255) (b6 : 0 ≤ s6 ∧ s6 ≤ 255) (m0 : HP 40 (0 : Int) (0 : Int) M) (m1 : HP 178 (s2) (32 * s3 + s4) M) (m2 : (0 ≤ (s2) ∧ M 1005 (s2).toNat = (s5))) (m3 : (0 ≤ (s0 + s4) ∧ M 1 (s0 + s4).toNat = (s6))) (f0 : 0 ≤ (s5 - 33)) (f1 : 0 ≤ (s5 + (-1) * s6 - 1)) (f2 : 0 ≤ ((-1) * s0 + s1 + (-1) * s4 - 1)) (hG : gI M) : (HP 181 (2048 * s0 + s1) (s2 + 1) M ∧ True) := by
  have hd : M 1005 s2.toNat = s5 := m2.2
  obtain ⟨w1, w2, w3⟩ := kw_o (i := s2) (n := s3) (m := s4) m0 m1 rfl (by omega) (by omega) (by omega) hd
  have hne : wds.getD s2.toNat 0 ≠ 32 := by omega
  have hs := qws_sn hne
  obtain ⟨q1, q2, q3, q4⟩ := qws_n s2.toNat (by omega) hne
  have hr := rd1 m3 (by omega)
  refine ⟨Eq.mpr hp_181 ⟨s0.toNat, s1.toNat, s2.toNat + 1, ⟨by omega, by omega, by omega⟩, by omega, by omega, fun hb => ?_⟩, trivial⟩
  rw [hs] at hb
  have hb : bts (tm M) s0.toNat (s1.toNat - s0.toNat) = kws.getD (qws s2.toNat).1 [] := hb
  have h1 := bts_at (N := tm M) (s := s0.toNat) (k := s1.toNat - s0.toNat) (j := (qws s2.toNat).2) (by omega)
  rw [hb, q3, w1, show s0.toNat + (qws s2.toNat).2 = (s0 + s4).toNat by omega] at h1
  first | (rw [hr] at h1; omega) | (rw [show (s0 + s4).toNat = (s4 + s0).toNat by omega, hr] at h1; omega)
theorem rul_104 : Rul r_104 := by
  refine ⟨fun _ ρ M hm hB hF hG => ?_, fun gi gv hg => (by cases hg)⟩
  have H := cr_104 M (ρ 0) (ρ 1) (ρ 2) (ρ 3) (ρ 4) (ρ 5) (ρ 6) (hB _ List.mem_cons_self) (hB _ (List.mem_cons_of_mem _ List.mem_cons_self)) (hB _ (List.mem_cons_of_mem _ (List.mem_cons_of_mem _ List.mem_cons_self))) (hB _ (List.mem_cons_of_mem _ (List.mem_cons_of_mem _ (List.mem_cons_of_mem _ List.mem_cons_self)))) (hB _ (List.mem_cons_of_mem _ (List.mem_cons_of_mem _ (List.mem_cons_of_mem _ (List.mem_cons_of_mem _ List.mem_cons_self))))) (hB _ (List.mem_cons_of_mem _ (List.mem_cons_of_mem _ (List.mem_cons_of_mem _ (List.mem_cons_of_mem _ (List.mem_cons_of_mem _ List.mem_cons_self)))))) (hB _ (List.mem_cons_of_mem _ (List.mem_cons_of_mem _ (List.mem_cons_of_mem _ (List.mem_cons_of_mem _ (List.mem_cons_of_mem _ (List.mem_cons_of_mem _ List.mem_cons_self))))))) (cvp 40 (x' := (0 : Int)) (y' := (0 : Int)) (by show 0 + 0 = _; omega) (by show 0 + 0 = _; omega) (hm _ List.mem_cons_self)) (cvp 178 (x' := ((ρ 2))) (y' := (32 * (ρ 3) + (ρ 4))) (by show 0 + (1 * ρ 2 + 0) = _; omega) (by show 0 + (32 * ρ 3 + (1 * ρ 4 + 0)) = _; omega) (hm _ (List.mem_cons_of_mem _ List.mem_cons_self))) (cvm (c := 1005) (by decide) (x' := ((ρ 2))) (y' := ((ρ 5))) (by show 0 + (1 * ρ 2 + 0) = _; omega) (by show 0 + (1 * ρ 5 + 0) = _; omega) (hm _ (List.mem_cons_of_mem _ (List.mem_cons_of_mem _ List.mem_cons_self)))) (cvm (c := 1) (by decide) (x' := ((ρ 0) + (ρ 4))) (y' := ((ρ 6))) (by show 0 + (1 * ρ 0 + (1 * ρ 4 + 0)) = _; omega) (by show 0 + (1 * ρ 6 + 0) = _; omega) (hm _ (List.mem_cons_of_mem _ (List.mem_cons_of_mem _ (List.mem_cons_of_mem _ List.mem_cons_self))))) (by have h := hF _ List.mem_cons_self; have h : 0 ≤ (-33) + (1 * ρ 5 + 0) := h; omega) (by have h := hF _ (List.mem_cons_of_mem _ List.mem_cons_self); have h : 0 ≤ (-1) + (1 * ρ 5 + ((-1) * ρ 6 + 0)) := h; omega) (by have h := hF _ (List.mem_cons_of_mem _ (List.mem_cons_of_mem _ List.mem_cons_self)); have h : 0 ≤ (-1) + ((-1) * ρ 0 + (1 * ρ 1 + ((-1) * ρ 4 + 0))) := h; omega) hG
  obtain ⟨k0, -⟩ := H
  exact ⟨_, List.mem_cons_self, ρ, fun _ _ => rfl, (okM_c (pvp 181 (by show 0 + (2048 * ρ 0 + (1 * ρ 1 + 0)) = _; omega) (by show 1 + (1 * ρ 2 + 0) = _; omega) k0) okM_n), okB_n, okF_n⟩
-- kwb1_1
theorem cr_105 (M : pM) (s0 s1 s2 s3 s4 s5 s6 : Int) (b0 : 0 ≤ s0 ∧ s0 ≤ 1900) (b1 : 0 ≤ s1 ∧ s1 ≤ 1900) (b2 : 0 ≤ s2 ∧ s2 ≤ 125) (b3 : 0 ≤ s3 ∧ s3 ≤ 24) (b4 : 0 ≤ s4 ∧ s4 ≤ 15) (b5 : 0 ≤ s5 ∧ s5 ≤ 255) (b6 : 0 ≤ s6 ∧ s6 ≤ 255) (m0 : HP 40 (0 : Int) (0 : Int) M) (m1 : HP 178 (s2) (32 * s3 + s4) M) (m2 : (0 ≤ (s2) ∧ M 1005 (s2).toNat = (s5))) (m3 : (0 ≤ (s0 + s4) ∧ M 1 (s0 + s4).toNat = (s6))) (f0 : 0 ≤ (s5 - 33)) (f1 : 0 ≤ ((-1) * s5 + s6 - 1)) (f2 : 0 ≤ ((-1) * s0 + s1 + (-1) * s4 - 1)) (hG : gI M) : (HP 181 (2048 * s0 + s1) (s2 + 1) M ∧ True) := by
  have hd : M 1005 s2.toNat = s5 := m2.2
  obtain ⟨w1, w2, w3⟩ := kw_o (i := s2) (n := s3) (m := s4) m0 m1 rfl (by omega) (by omega) (by omega) hd
  have hne : wds.getD s2.toNat 0 ≠ 32 := by omega
  have hs := qws_sn hne
  obtain ⟨q1, q2, q3, q4⟩ := qws_n s2.toNat (by omega) hne
  have hr := rd1 m3 (by omega)
  refine ⟨Eq.mpr hp_181 ⟨s0.toNat, s1.toNat, s2.toNat + 1, ⟨by omega, by omega, by omega⟩, by omega, by omega, fun hb => ?_⟩, trivial⟩
  rw [hs] at hb
  have hb : bts (tm M) s0.toNat (s1.toNat - s0.toNat) = kws.getD (qws s2.toNat).1 [] := hb
  have h1 := bts_at (N := tm M) (s := s0.toNat) (k := s1.toNat - s0.toNat) (j := (qws s2.toNat).2) (by omega)
  rw [hb, q3, w1, show s0.toNat + (qws s2.toNat).2 = (s0 + s4).toNat by omega] at h1
  first | (rw [hr] at h1; omega) | (rw [show (s0 + s4).toNat = (s4 + s0).toNat by omega, hr] at h1; omega)
theorem rul_105 : Rul r_105 := by
  refine ⟨fun _ ρ M hm hB hF hG => ?_, fun gi gv hg => (by cases hg)⟩
  have H := cr_105 M (ρ 0) (ρ 1) (ρ 2) (ρ 3) (ρ 4) (ρ 5) (ρ 6) (hB _ List.mem_cons_self) (hB _ (List.mem_cons_of_mem _ List.mem_cons_self)) (hB _ (List.mem_cons_of_mem _ (List.mem_cons_of_mem _ List.mem_cons_self))) (hB _ (List.mem_cons_of_mem _ (List.mem_cons_of_mem _ (List.mem_cons_of_mem _ List.mem_cons_self)))) (hB _ (List.mem_cons_of_mem _ (List.mem_cons_of_mem _ (List.mem_cons_of_mem _ (List.mem_cons_of_mem _ List.mem_cons_self))))) (hB _ (List.mem_cons_of_mem _ (List.mem_cons_of_mem _ (List.mem_cons_of_mem _ (List.mem_cons_of_mem _ (List.mem_cons_of_mem _ List.mem_cons_self)))))) (hB _ (List.mem_cons_of_mem _ (List.mem_cons_of_mem _ (List.mem_cons_of_mem _ (List.mem_cons_of_mem _ (List.mem_cons_of_mem _ (List.mem_cons_of_mem _ List.mem_cons_self))))))) (cvp 40 (x' := (0 : Int)) (y' := (0 : Int)) (by show 0 + 0 = _; omega) (by show 0 + 0 = _; omega) (hm _ List.mem_cons_self)) (cvp 178 (x' := ((ρ 2))) (y' := (32 * (ρ 3) + (ρ 4))) (by show 0 + (1 * ρ 2 + 0) = _; omega) (by show 0 + (32 * ρ 3 + (1 * ρ 4 + 0)) = _; omega) (hm _ (List.mem_cons_of_mem _ List.mem_cons_self))) (cvm (c := 1005) (by decide) (x' := ((ρ 2))) (y' := ((ρ 5))) (by show 0 + (1 * ρ 2 + 0) = _; omega) (by show 0 + (1 * ρ 5 + 0) = _; omega) (hm _ (List.mem_cons_of_mem _ (List.mem_cons_of_mem _ List.mem_cons_self)))) (cvm (c := 1) (by decide) (x' := ((ρ 0) + (ρ 4))) (y' := ((ρ 6))) (by show 0 + (1 * ρ 0 + (1 * ρ 4 + 0)) = _; omega) (by show 0 + (1 * ρ 6 + 0) = _; omega) (hm _ (List.mem_cons_of_mem _ (List.mem_cons_of_mem _ (List.mem_cons_of_mem _ List.mem_cons_self))))) (by have h := hF _ List.mem_cons_self; have h : 0 ≤ (-33) + (1 * ρ 5 + 0) := h; omega) (by have h := hF _ (List.mem_cons_of_mem _ List.mem_cons_self); have h : 0 ≤ (-1) + ((-1) * ρ 5 + (1 * ρ 6 + 0)) := h; omega) (by have h := hF _ (List.mem_cons_of_mem _ (List.mem_cons_of_mem _ List.mem_cons_self)); have h : 0 ≤ (-1) + ((-1) * ρ 0 + (1 * ρ 1 + ((-1) * ρ 4 + 0))) := h; omega) hG
  obtain ⟨k0, -⟩ := H
  exact ⟨_, List.mem_cons_self, ρ, fun _ _ => rfl, (okM_c (pvp 181 (by show 0 + (2048 * ρ 0 + (1 * ρ 1 + 0)) = _; omega) (by show 1 + (1 * ρ 2 + 0) = _; omega) k0) okM_n), okB_n, okF_n⟩
-- kwc1
theorem cr_106 (M : pM) (s0 s1 s2 s3 s4 s5 : Int) (b0 : 0 ≤ s0 ∧ s0 ≤ 1900) (b1 : 0 ≤ s1 ∧ s1 ≤ 1900) (b2 : 0 ≤ s2 ∧ s2 ≤ 125) (b3 : 0 ≤ s3 ∧ s3 ≤ 24) (b4 : 0 ≤ s4 ∧ s4 ≤ 15) (b5 : 0 ≤ s5 ∧ s5 ≤ 255) (m0 : HP 40 (0 : Int) (0 : Int) M) (m1 : HP 178 (s2) (32 * s3 + s4) M) (m2 : (0 ≤ (s2) ∧ M 1005 (s2).toNat = (s5))) (f0 : 0 ≤ (s5 - 33)) (f1 : 0 ≤ (s0 + (-1) * s1 + s4)) (hG : gI M) : (HP 181 (2048 * s0 + s1) (s2 + 1) M ∧ True) := by
  have hd : M 1005 s2.toNat = s5 := m2.2
  obtain ⟨w1, w2, w3⟩ := kw_o (i := s2) (n := s3) (m := s4) m0 m1 rfl (by omega) (by omega) (by omega) hd
  have hne : wds.getD s2.toNat 0 ≠ 32 := by omega
  have hs := qws_sn hne
  obtain ⟨q1, q2, q3, q4⟩ := qws_n s2.toNat (by omega) hne
  refine ⟨Eq.mpr hp_181 ⟨s0.toNat, s1.toNat, s2.toNat + 1, ⟨by omega, by omega, by omega⟩, by omega, by omega, fun hb => ?_⟩, trivial⟩
  rw [hs] at hb
  have hb : bts (tm M) s0.toNat (s1.toNat - s0.toNat) = kws.getD (qws s2.toNat).1 [] := hb
  have h1 := bts_len (N := tm M) (s := s0.toNat) (k := s1.toNat - s0.toNat)
  rw [hb] at h1
  omega
theorem rul_106 : Rul r_106 := by
  refine ⟨fun _ ρ M hm hB hF hG => ?_, fun gi gv hg => (by cases hg)⟩
  have H := cr_106 M (ρ 0) (ρ 1) (ρ 2) (ρ 3) (ρ 4) (ρ 5) (hB _ List.mem_cons_self) (hB _ (List.mem_cons_of_mem _ List.mem_cons_self)) (hB _ (List.mem_cons_of_mem _ (List.mem_cons_of_mem _ List.mem_cons_self))) (hB _ (List.mem_cons_of_mem _ (List.mem_cons_of_mem _ (List.mem_cons_of_mem _ List.mem_cons_self)))) (hB _ (List.mem_cons_of_mem _ (List.mem_cons_of_mem _ (List.mem_cons_of_mem _ (List.mem_cons_of_mem _ List.mem_cons_self))))) (hB _ (List.mem_cons_of_mem _ (List.mem_cons_of_mem _ (List.mem_cons_of_mem _ (List.mem_cons_of_mem _ (List.mem_cons_of_mem _ List.mem_cons_self)))))) (cvp 40 (x' := (0 : Int)) (y' := (0 : Int)) (by show 0 + 0 = _; omega) (by show 0 + 0 = _; omega) (hm _ List.mem_cons_self)) (cvp 178 (x' := ((ρ 2))) (y' := (32 * (ρ 3) + (ρ 4))) (by show 0 + (1 * ρ 2 + 0) = _; omega) (by show 0 + (32 * ρ 3 + (1 * ρ 4 + 0)) = _; omega) (hm _ (List.mem_cons_of_mem _ List.mem_cons_self))) (cvm (c := 1005) (by decide) (x' := ((ρ 2))) (y' := ((ρ 5))) (by show 0 + (1 * ρ 2 + 0) = _; omega) (by show 0 + (1 * ρ 5 + 0) = _; omega) (hm _ (List.mem_cons_of_mem _ (List.mem_cons_of_mem _ List.mem_cons_self)))) (by have h := hF _ List.mem_cons_self; have h : 0 ≤ (-33) + (1 * ρ 5 + 0) := h; omega) (by have h := hF _ (List.mem_cons_of_mem _ List.mem_cons_self); have h : 0 ≤ 0 + (1 * ρ 0 + ((-1) * ρ 1 + (1 * ρ 4 + 0))) := h; omega) hG
  obtain ⟨k0, -⟩ := H
  exact ⟨_, List.mem_cons_self, ρ, fun _ _ => rfl, (okM_c (pvp 181 (by show 0 + (2048 * ρ 0 + (1 * ρ 1 + 0)) = _; omega) (by show 1 + (1 * ρ 2 + 0) = _; omega) k0) okM_n), okB_n, okF_n⟩
-- kwd1
theorem cr_107 (M : pM) (s0 s1 s2 s3 : Int) (b0 : 0 ≤ s0 ∧ s0 ≤ 1900) (b1 : 0 ≤ s1 ∧ s1 ≤ 1900) (b2 : 0 ≤ s2 ∧ s2 ≤ 125) (b3 : 0 ≤ s3 ∧ s3 ≤ 255) (m0 : HP 40 (0 : Int) (0 : Int) M) (m1 : HP 181 (2048 * s0 + s1) (s2) M) (m2 : (0 ≤ (s2) ∧ M 1005 (s2).toNat = (s3))) (f0 : 0 ≤ (s3 - 33)) (hG : gI M) : (HP 181 (2048 * s0 + s1) (s2 + 1) M ∧ True) := by
  have w1 : wds.getD s2.toNat 0 = s3 := by rw [← (Eq.mp hp_40 m0).1 s2.toNat (by omega)]; exact m2.2
  have hne : wds.getD s2.toNat 0 ≠ 32 := by omega
  have hs := qws_sn hne
  obtain ⟨q1, q2, q3, q4⟩ := qws_n s2.toNat (by omega) hne
  obtain ⟨ks, ke, ki, ⟨ka, kb, kc⟩, kx, ky, kh⟩ := Eq.mp hp_181 m1
  have kes : ks = s0.toNat := by omega
  have kee : ke = s1.toNat := by omega
  have kei : ki = s2.toNat := by omega
  subst kes kee kei
  exact ⟨Eq.mpr hp_181 ⟨s0.toNat, s1.toNat, s2.toNat + 1, ⟨by omega, by omega, by omega⟩, by omega, by omega, by rw [hs]; exact kh⟩, trivial⟩
theorem rul_107 : Rul r_107 := by
  refine ⟨fun _ ρ M hm hB hF hG => ?_, fun gi gv hg => (by cases hg)⟩
  have H := cr_107 M (ρ 0) (ρ 1) (ρ 2) (ρ 3) (hB _ List.mem_cons_self) (hB _ (List.mem_cons_of_mem _ List.mem_cons_self)) (hB _ (List.mem_cons_of_mem _ (List.mem_cons_of_mem _ List.mem_cons_self))) (hB _ (List.mem_cons_of_mem _ (List.mem_cons_of_mem _ (List.mem_cons_of_mem _ List.mem_cons_self)))) (cvp 40 (x' := (0 : Int)) (y' := (0 : Int)) (by show 0 + 0 = _; omega) (by show 0 + 0 = _; omega) (hm _ List.mem_cons_self)) (cvp 181 (x' := (2048 * (ρ 0) + (ρ 1))) (y' := ((ρ 2))) (by show 0 + (2048 * ρ 0 + (1 * ρ 1 + 0)) = _; omega) (by show 0 + (1 * ρ 2 + 0) = _; omega) (hm _ (List.mem_cons_of_mem _ List.mem_cons_self))) (cvm (c := 1005) (by decide) (x' := ((ρ 2))) (y' := ((ρ 3))) (by show 0 + (1 * ρ 2 + 0) = _; omega) (by show 0 + (1 * ρ 3 + 0) = _; omega) (hm _ (List.mem_cons_of_mem _ (List.mem_cons_of_mem _ List.mem_cons_self)))) (by have h := hF _ List.mem_cons_self; have h : 0 ≤ (-33) + (1 * ρ 3 + 0) := h; omega) hG
  obtain ⟨k0, -⟩ := H
  exact ⟨_, List.mem_cons_self, ρ, fun _ _ => rfl, (okM_c (pvp 181 (by show 0 + (2048 * ρ 0 + (1 * ρ 1 + 0)) = _; omega) (by show 1 + (1 * ρ 2 + 0) = _; omega) k0) okM_n), okB_n, okF_n⟩
-- kwr
theorem cr_108 (M : pM) (s0 s1 s2 s3 s4 : Int) (b0 : 0 ≤ s0 ∧ s0 ≤ 1900) (b1 : 0 ≤ s1 ∧ s1 ≤ 1900) (b2 : 0 ≤ s2 ∧ s2 ≤ 125) (b3 : 0 ≤ s3 ∧ s3 ≤ 24) (b4 : 0 ≤ s4 ∧ s4 ≤ 15) (m0 : HP 40 (0 : Int) (0 : Int) M) (m1 : HP 178 (s2) (32 * s3 + s4) M) (m2 : (0 ≤ (s2) ∧ M 1005 (s2).toNat = (32 : Int))) (m3 : HP 180 (2048 * s0 + s1) (s2) M) (f0 : 0 ≤ ((-1) * s0 + s1 + (-1) * s4)) (f1 : 0 ≤ (s0 + (-1) * s1 + s4)) (hG : gI M) : (HP 50 (2048 * s0 + s1) (s3) M ∧ 0 ≤ ((-1) * s3 + 23) ∧ True) := by
  have hd : M 1005 s2.toNat = 32 := m2.2
  obtain ⟨w1, w2, w3⟩ := kw_o (i := s2) (n := s3) (m := s4) m0 m1 rfl (by omega) (by omega) (by omega) hd
  have hs := qws_sb w1
  obtain ⟨q1, q2⟩ := qws_b s2.toNat (by omega) w1
  obtain ⟨ks, ke, ki, ⟨ka, kb, kc⟩, kx, ky, kh⟩ := Eq.mp hp_180 m3
  have kes : ks = s0.toNat := by omega
  have kee : ke = s1.toNat := by omega
  have kei : ki = s2.toNat := by omega
  subst kes kee kei
  obtain ⟨kh, kj⟩ := kh
  have hb : bts (tm M) s0.toNat (s1.toNat - s0.toNat) = kws.getD (qws s2.toNat).1 [] := by
    refine List.ext_getElem? (fun j => ?_)
    by_cases e : j < (qws s2.toNat).2
    · have h1 := bts_at (N := tm M) (s := s0.toNat) (k := s1.toNat - s0.toNat) (j := j) (by omega)
      rw [kj j e, List.getD_eq_getElem?_getD, List.getD_eq_getElem?_getD] at h1
      rw [List.getElem?_eq_getElem (by rw [bts_len]; omega), List.getElem?_eq_getElem (by omega)] at h1 ⊢
      exact congrArg some h1
    · rw [List.getElem?_eq_none (by rw [bts_len]; omega), List.getElem?_eq_none (by omega)]
  have hw := wid_of (N := tm M) (s := s0.toNat) (e := s1.toNat) (k := (qws s2.toNat).1) (by omega) hb
  rw [wid_ag agtm (by omega) (by omega)] at hw
  exact ⟨Eq.mpr hp_50 ⟨s0.toNat, s1.toNat, by omega, by omega, by omega, by omega⟩, by omega, trivial⟩
theorem rul_108 : Rul r_108 := by
  refine ⟨fun _ ρ M hm hB hF hG => ?_, fun gi gv hg => (by cases hg)⟩
  have H := cr_108 M (ρ 0) (ρ 1) (ρ 2) (ρ 3) (ρ 4) (hB _ List.mem_cons_self) (hB _ (List.mem_cons_of_mem _ List.mem_cons_self)) (hB _ (List.mem_cons_of_mem _ (List.mem_cons_of_mem _ List.mem_cons_self))) (hB _ (List.mem_cons_of_mem _ (List.mem_cons_of_mem _ (List.mem_cons_of_mem _ List.mem_cons_self)))) (hB _ (List.mem_cons_of_mem _ (List.mem_cons_of_mem _ (List.mem_cons_of_mem _ (List.mem_cons_of_mem _ List.mem_cons_self))))) (cvp 40 (x' := (0 : Int)) (y' := (0 : Int)) (by show 0 + 0 = _; omega) (by show 0 + 0 = _; omega) (hm _ List.mem_cons_self)) (cvp 178 (x' := ((ρ 2))) (y' := (32 * (ρ 3) + (ρ 4))) (by show 0 + (1 * ρ 2 + 0) = _; omega) (by show 0 + (32 * ρ 3 + (1 * ρ 4 + 0)) = _; omega) (hm _ (List.mem_cons_of_mem _ List.mem_cons_self))) (cvm (c := 1005) (by decide) (x' := ((ρ 2))) (y' := (32 : Int)) (by show 0 + (1 * ρ 2 + 0) = _; omega) (by show 32 + 0 = _; omega) (hm _ (List.mem_cons_of_mem _ (List.mem_cons_of_mem _ List.mem_cons_self)))) (cvp 180 (x' := (2048 * (ρ 0) + (ρ 1))) (y' := ((ρ 2))) (by show 0 + (2048 * ρ 0 + (1 * ρ 1 + 0)) = _; omega) (by show 0 + (1 * ρ 2 + 0) = _; omega) (hm _ (List.mem_cons_of_mem _ (List.mem_cons_of_mem _ (List.mem_cons_of_mem _ List.mem_cons_self))))) (by have h := hF _ List.mem_cons_self; have h : 0 ≤ 0 + ((-1) * ρ 0 + (1 * ρ 1 + ((-1) * ρ 4 + 0))) := h; omega) (by have h := hF _ (List.mem_cons_of_mem _ List.mem_cons_self); have h : 0 ≤ 0 + (1 * ρ 0 + ((-1) * ρ 1 + (1 * ρ 4 + 0))) := h; omega) hG
  obtain ⟨k0, f0, -⟩ := H
  exact ⟨_, List.mem_cons_self, ρ, fun _ _ => rfl, (okM_c (pvp 50 (by show 0 + (2048 * ρ 0 + (1 * ρ 1 + 0)) = _; omega) (by show 0 + (1 * ρ 3 + 0) = _; omega) k0) okM_n), okB_n, (okF_c (by show 0 ≤ 23 + ((-1) * ρ 3 + 0); omega) okF_n)⟩
-- kwe0
theorem cr_109 (M : pM) (s0 s1 s2 s3 s4 : Int) (b0 : 0 ≤ s0 ∧ s0 ≤ 1900) (b1 : 0 ≤ s1 ∧ s1 ≤ 1900) (b2 : 0 ≤ s2 ∧ s2 ≤ 125) (b3 : 0 ≤ s3 ∧ s3 ≤ 24) (b4 : 0 ≤ s4 ∧ s4 ≤ 15) (m0 : HP 40 (0 : Int) (0 : Int) M) (m1 : HP 178 (s2) (32 * s3 + s4) M) (m2 : (0 ≤ (s2) ∧ M 1005 (s2).toNat = (32 : Int))) (m3 : HP 179 (2048 * s0 + s1) (s2) M) (m4 : HP 181 (2048 * s0 + s1) (s2) M) (hG : gI M) : (HP 178 (s2 + 1) (32 * s3 + 32) M ∧ HP 179 (2048 * s0 + s1) (s2 + 1) M ∧ HP 180 (2048 * s0 + s1) (s2 + 1) M ∧ 0 ≤ ((-1) * s3 + 23) ∧ True) := by
  have hd : M 1005 s2.toNat = 32 := m2.2
  obtain ⟨w1, w2, w3⟩ := kw_o (i := s2) (n := s3) (m := s4) m0 m1 rfl (by omega) (by omega) (by omega) hd
  have hs := qws_sb w1
  obtain ⟨q1, q2⟩ := qws_b s2.toNat (by omega) w1
  obtain ⟨ks, ke, ki, ⟨ka, kb, kc⟩, kx, ky, kh⟩ := Eq.mp hp_179 m3
  have kes : ks = s0.toNat := by omega
  have kee : ke = s1.toNat := by omega
  have kei : ki = s2.toNat := by omega
  subst kes kee kei
  obtain ⟨ls, le, li, ⟨la, lb, lc⟩, lx, ly, lh⟩ := Eq.mp hp_181 m4
  have les : ls = s0.toNat := by omega
  have lee : le = s1.toNat := by omega
  have lei : li = s2.toNat := by omega
  subst les lee lei
  have hb := lh
  exact ⟨Eq.mpr hp_178 ⟨s2.toNat + 1, by omega, by omega, by rw [hs]; show _ = 32 * (((qws s2.toNat).1 + 1 : Nat) : Int) + ((0 : Nat) : Int); omega⟩, Eq.mpr hp_179 ⟨s0.toNat, s1.toNat, s2.toNat + 1, ⟨by omega, by omega, by omega⟩, by omega, by omega, by rw [hs]; intro k hk; have hk : k < (qws s2.toNat).1 + 1 := hk; exact (if e : k = (qws s2.toNat).1 then (by rw [e]; exact hb) else kh k (by omega))⟩, Eq.mpr hp_180 ⟨s0.toNat, s1.toNat, s2.toNat + 1, ⟨by omega, by omega, by omega⟩, by omega, by omega, by rw [hs]; exact ⟨Nat.zero_le _, fun j hj => absurd hj (Nat.not_lt_zero j)⟩⟩, by omega, trivial⟩
theorem rul_109 : Rul r_109 := by
  refine ⟨fun _ ρ M hm hB hF hG => ?_, fun gi gv hg => (by cases hg)⟩
  have H := cr_109 M (ρ 0) (ρ 1) (ρ 2) (ρ 3) (ρ 4) (hB _ List.mem_cons_self) (hB _ (List.mem_cons_of_mem _ List.mem_cons_self)) (hB _ (List.mem_cons_of_mem _ (List.mem_cons_of_mem _ List.mem_cons_self))) (hB _ (List.mem_cons_of_mem _ (List.mem_cons_of_mem _ (List.mem_cons_of_mem _ List.mem_cons_self)))) (hB _ (List.mem_cons_of_mem _ (List.mem_cons_of_mem _ (List.mem_cons_of_mem _ (List.mem_cons_of_mem _ List.mem_cons_self))))) (cvp 40 (x' := (0 : Int)) (y' := (0 : Int)) (by show 0 + 0 = _; omega) (by show 0 + 0 = _; omega) (hm _ List.mem_cons_self)) (cvp 178 (x' := ((ρ 2))) (y' := (32 * (ρ 3) + (ρ 4))) (by show 0 + (1 * ρ 2 + 0) = _; omega) (by show 0 + (32 * ρ 3 + (1 * ρ 4 + 0)) = _; omega) (hm _ (List.mem_cons_of_mem _ List.mem_cons_self))) (cvm (c := 1005) (by decide) (x' := ((ρ 2))) (y' := (32 : Int)) (by show 0 + (1 * ρ 2 + 0) = _; omega) (by show 32 + 0 = _; omega) (hm _ (List.mem_cons_of_mem _ (List.mem_cons_of_mem _ List.mem_cons_self)))) (cvp 179 (x' := (2048 * (ρ 0) + (ρ 1))) (y' := ((ρ 2))) (by show 0 + (2048 * ρ 0 + (1 * ρ 1 + 0)) = _; omega) (by show 0 + (1 * ρ 2 + 0) = _; omega) (hm _ (List.mem_cons_of_mem _ (List.mem_cons_of_mem _ (List.mem_cons_of_mem _ List.mem_cons_self))))) (cvp 181 (x' := (2048 * (ρ 0) + (ρ 1))) (y' := ((ρ 2))) (by show 0 + (2048 * ρ 0 + (1 * ρ 1 + 0)) = _; omega) (by show 0 + (1 * ρ 2 + 0) = _; omega) (hm _ (List.mem_cons_of_mem _ (List.mem_cons_of_mem _ (List.mem_cons_of_mem _ (List.mem_cons_of_mem _ List.mem_cons_self)))))) hG
  obtain ⟨k0, k1, k2, f0, -⟩ := H
  exact ⟨_, List.mem_cons_self, ρ, fun _ _ => rfl, (okM_c (pvp 178 (by show 1 + (1 * ρ 2 + 0) = _; omega) (by show 32 + (32 * ρ 3 + 0) = _; omega) k0) (okM_c (pvp 179 (by show 0 + (2048 * ρ 0 + (1 * ρ 1 + 0)) = _; omega) (by show 1 + (1 * ρ 2 + 0) = _; omega) k1) (okM_c (pvp 180 (by show 0 + (2048 * ρ 0 + (1 * ρ 1 + 0)) = _; omega) (by show 1 + (1 * ρ 2 + 0) = _; omega) k2) okM_n))), okB_n, (okF_c (by show 0 ≤ 23 + ((-1) * ρ 3 + 0); omega) okF_n)⟩
-- kwe1
theorem cr_110 (M : pM) (s0 s1 s2 s3 s4 : Int) (b0 : 0 ≤ s0 ∧ s0 ≤ 1900) (b1 : 0 ≤ s1 ∧ s1 ≤ 1900) (b2 : 0 ≤ s2 ∧ s2 ≤ 125) (b3 : 0 ≤ s3 ∧ s3 ≤ 24) (b4 : 0 ≤ s4 ∧ s4 ≤ 15) (m0 : HP 40 (0 : Int) (0 : Int) M) (m1 : HP 178 (s2) (32 * s3 + s4) M) (m2 : (0 ≤ (s2) ∧ M 1005 (s2).toNat = (32 : Int))) (m3 : HP 179 (2048 * s0 + s1) (s2) M) (f0 : 0 ≤ ((-1) * s0 + s1 + (-1) * s4 - 1)) (hG : gI M) : (HP 178 (s2 + 1) (32 * s3 + 32) M ∧ HP 179 (2048 * s0 + s1) (s2 + 1) M ∧ HP 180 (2048 * s0 + s1) (s2 + 1) M ∧ 0 ≤ ((-1) * s3 + 23) ∧ True) := by
  have hd : M 1005 s2.toNat = 32 := m2.2
  obtain ⟨w1, w2, w3⟩ := kw_o (i := s2) (n := s3) (m := s4) m0 m1 rfl (by omega) (by omega) (by omega) hd
  have hs := qws_sb w1
  obtain ⟨q1, q2⟩ := qws_b s2.toNat (by omega) w1
  obtain ⟨ks, ke, ki, ⟨ka, kb, kc⟩, kx, ky, kh⟩ := Eq.mp hp_179 m3
  have kes : ks = s0.toNat := by omega
  have kee : ke = s1.toNat := by omega
  have kei : ki = s2.toNat := by omega
  subst kes kee kei
  have hb : bts (tm M) s0.toNat (s1.toNat - s0.toNat) ≠ kws.getD (qws s2.toNat).1 [] := by
    intro hb
    have h1 := bts_len (N := tm M) (s := s0.toNat) (k := s1.toNat - s0.toNat)
    rw [hb] at h1
    omega
  exact ⟨Eq.mpr hp_178 ⟨s2.toNat + 1, by omega, by omega, by rw [hs]; show _ = 32 * (((qws s2.toNat).1 + 1 : Nat) : Int) + ((0 : Nat) : Int); omega⟩, Eq.mpr hp_179 ⟨s0.toNat, s1.toNat, s2.toNat + 1, ⟨by omega, by omega, by omega⟩, by omega, by omega, by rw [hs]; intro k hk; have hk : k < (qws s2.toNat).1 + 1 := hk; exact (if e : k = (qws s2.toNat).1 then (by rw [e]; exact hb) else kh k (by omega))⟩, Eq.mpr hp_180 ⟨s0.toNat, s1.toNat, s2.toNat + 1, ⟨by omega, by omega, by omega⟩, by omega, by omega, by rw [hs]; exact ⟨Nat.zero_le _, fun j hj => absurd hj (Nat.not_lt_zero j)⟩⟩, by omega, trivial⟩
theorem rul_110 : Rul r_110 := by
  refine ⟨fun _ ρ M hm hB hF hG => ?_, fun gi gv hg => (by cases hg)⟩
  have H := cr_110 M (ρ 0) (ρ 1) (ρ 2) (ρ 3) (ρ 4) (hB _ List.mem_cons_self) (hB _ (List.mem_cons_of_mem _ List.mem_cons_self)) (hB _ (List.mem_cons_of_mem _ (List.mem_cons_of_mem _ List.mem_cons_self))) (hB _ (List.mem_cons_of_mem _ (List.mem_cons_of_mem _ (List.mem_cons_of_mem _ List.mem_cons_self)))) (hB _ (List.mem_cons_of_mem _ (List.mem_cons_of_mem _ (List.mem_cons_of_mem _ (List.mem_cons_of_mem _ List.mem_cons_self))))) (cvp 40 (x' := (0 : Int)) (y' := (0 : Int)) (by show 0 + 0 = _; omega) (by show 0 + 0 = _; omega) (hm _ List.mem_cons_self)) (cvp 178 (x' := ((ρ 2))) (y' := (32 * (ρ 3) + (ρ 4))) (by show 0 + (1 * ρ 2 + 0) = _; omega) (by show 0 + (32 * ρ 3 + (1 * ρ 4 + 0)) = _; omega) (hm _ (List.mem_cons_of_mem _ List.mem_cons_self))) (cvm (c := 1005) (by decide) (x' := ((ρ 2))) (y' := (32 : Int)) (by show 0 + (1 * ρ 2 + 0) = _; omega) (by show 32 + 0 = _; omega) (hm _ (List.mem_cons_of_mem _ (List.mem_cons_of_mem _ List.mem_cons_self)))) (cvp 179 (x' := (2048 * (ρ 0) + (ρ 1))) (y' := ((ρ 2))) (by show 0 + (2048 * ρ 0 + (1 * ρ 1 + 0)) = _; omega) (by show 0 + (1 * ρ 2 + 0) = _; omega) (hm _ (List.mem_cons_of_mem _ (List.mem_cons_of_mem _ (List.mem_cons_of_mem _ List.mem_cons_self))))) (by have h := hF _ List.mem_cons_self; have h : 0 ≤ (-1) + ((-1) * ρ 0 + (1 * ρ 1 + ((-1) * ρ 4 + 0))) := h; omega) hG
  obtain ⟨k0, k1, k2, f0, -⟩ := H
  exact ⟨_, List.mem_cons_self, ρ, fun _ _ => rfl, (okM_c (pvp 178 (by show 1 + (1 * ρ 2 + 0) = _; omega) (by show 32 + (32 * ρ 3 + 0) = _; omega) k0) (okM_c (pvp 179 (by show 0 + (2048 * ρ 0 + (1 * ρ 1 + 0)) = _; omega) (by show 1 + (1 * ρ 2 + 0) = _; omega) k1) (okM_c (pvp 180 (by show 0 + (2048 * ρ 0 + (1 * ρ 1 + 0)) = _; omega) (by show 1 + (1 * ρ 2 + 0) = _; omega) k2) okM_n))), okB_n, (okF_c (by show 0 ≤ 23 + ((-1) * ρ 3 + 0); omega) okF_n)⟩
-- kwz
theorem cr_111 (M : pM) (s0 s1 s2 : Int) (b0 : 0 ≤ s0 ∧ s0 ≤ 1900) (b1 : 0 ≤ s1 ∧ s1 ≤ 1900) (b2 : 0 ≤ s2 ∧ s2 ≤ 126) (m0 : HP 179 (2048 * s0 + s1) (s2) M) (f0 : 0 ≤ (s2 - 126)) (hG : gI M) : (HP 50 (2048 * s0 + s1) (-1 : Int) M ∧ True) := by
  obtain ⟨ks, ke, ki, ⟨ka, kb, kc⟩, kx, ky, kh⟩ := Eq.mp hp_179 m0
  have e1 : ki = 126 := by omega
  subst e1
  have e2 : ks = s0.toNat := by omega
  have e3 : ke = s1.toNat := by omega
  subst e2
  subst e3
  rw [qws_e] at kh
  have hw := wid_no (N := tm M) (s := s0.toNat) (e := s1.toNat) kh
  rw [wid_ag agtm (by omega) (by omega)] at hw
  exact ⟨Eq.mpr hp_50 ⟨s0.toNat, s1.toNat, by omega, by omega, by omega, by omega⟩, trivial⟩
theorem rul_111 : Rul r_111 := by
  refine ⟨fun _ ρ M hm hB hF hG => ?_, fun gi gv hg => (by cases hg)⟩
  have H := cr_111 M (ρ 0) (ρ 1) (ρ 2) (hB _ List.mem_cons_self) (hB _ (List.mem_cons_of_mem _ List.mem_cons_self)) (hB _ (List.mem_cons_of_mem _ (List.mem_cons_of_mem _ List.mem_cons_self))) (cvp 179 (x' := (2048 * (ρ 0) + (ρ 1))) (y' := ((ρ 2))) (by show 0 + (2048 * ρ 0 + (1 * ρ 1 + 0)) = _; omega) (by show 0 + (1 * ρ 2 + 0) = _; omega) (hm _ List.mem_cons_self)) (by have h := hF _ List.mem_cons_self; have h : 0 ≤ (-126) + (1 * ρ 2 + 0) := h; omega) hG
  obtain ⟨k0, -⟩ := H
  exact ⟨_, List.mem_cons_self, ρ, fun _ _ => rfl, (okM_c (pvp 50 (by show 0 + (2048 * ρ 0 + (1 * ρ 1 + 0)) = _; omega) (by show (-1) + 0 = _; omega) k0) okM_n), okB_n, okF_n⟩
-- ibh
theorem cr_112 (M : pM) (s0 s1 : Int) (b0 : 128 ≤ s0 ∧ s0 ≤ 255) (b1 : (-2147483648) ≤ s1 ∧ s1 ≤ 2147483647) (m0 : HP 120 (s0) (s1) M) (hG : gI M) : (0 ≤ (s0 + (-1) * s1 - 256) ∧ 0 ≤ ((-1) * s0 + s1 + 256) ∧ True) := by
  have e := n_i2b m0
  unfold w8 at e
  exact ⟨by omega, by omega, trivial⟩
theorem rul_112 : Rul r_112 := by
  refine ⟨fun _ ρ M hm hB hF hG => ?_, fun gi gv hg => (by cases hg)⟩
  have H := cr_112 M (ρ 0) (ρ 1) (hB _ List.mem_cons_self) (hB _ (List.mem_cons_of_mem _ List.mem_cons_self)) (cvp 120 (x' := ((ρ 0))) (y' := ((ρ 1))) (by show 0 + (1 * ρ 0 + 0) = _; omega) (by show 0 + (1 * ρ 1 + 0) = _; omega) (hm _ List.mem_cons_self)) hG
  obtain ⟨f0, f1, -⟩ := H
  exact ⟨_, List.mem_cons_self, ρ, fun _ _ => rfl, okM_n, okB_n, (okF_c (by show 0 ≤ (-256) + (1 * ρ 0 + ((-1) * ρ 1 + 0)); omega) (okF_c (by show 0 ≤ 256 + ((-1) * ρ 0 + (1 * ρ 1 + 0)); omega) okF_n))⟩
-- hdi
theorem cr_113 (M : pM) (s0 s1 s2 s3 s4 : Int) (b0 : 0 ≤ s0 ∧ s0 ≤ 1900) (b1 : 0 ≤ s1 ∧ s1 ≤ 1900) (b2 : 0 ≤ s2 ∧ s2 ≤ 1900) (b3 : 0 ≤ s3 ∧ s3 ≤ 4) (b4 : (-1) ≤ s4 ∧ s4 ≤ 9999) (m0 : (0 ≤ (4 : Int) ∧ M 2 (4 : Int).toNat = (s1))) (m1 : (0 ≤ (2 : Int) ∧ M 2 (2 : Int).toNat = (s2))) (m2 : (0 ≤ (3 : Int) ∧ M 2 (3 : Int).toNat = (s3))) (m3 : (0 ≤ (5 : Int) ∧ M 2 (5 : Int).toNat = (s4))) (m4 : HP 45 (s0) (s1) M) (m5 : HP 46 (s0) (s2) M) (m6 : HP 47 (s0) (131072 * s3 + s4) M) (hG : gI M) : (HP 48 (s0) (0 : Int) M ∧ True) := by
  have hv : M 2 5 = s4 := m3.2
  refine ⟨Eq.mpr hp_48 ⟨⟨b0.1, by omega, by omega⟩, ?_, ?_, ?_⟩, trivial⟩
  · rw [show M 2 4 = s1 from m0.2]; exact (Eq.mp hp_45 m4).2
  · rw [show M 2 2 = s2 from m1.2]; exact (Eq.mp hp_46 m5).2
  · rw [← (Eq.mp hp_47 m6).2, show M 2 3 = s3 from m2.2, show M 2 5 = s4 from m3.2]
theorem rul_113 : Rul r_113 := by
  refine ⟨fun _ ρ M hm hB hF hG => ?_, fun gi gv hg => (by cases hg)⟩
  have H := cr_113 M (ρ 0) (ρ 1) (ρ 2) (ρ 3) (ρ 4) (hB _ List.mem_cons_self) (hB _ (List.mem_cons_of_mem _ List.mem_cons_self)) (hB _ (List.mem_cons_of_mem _ (List.mem_cons_of_mem _ List.mem_cons_self))) (hB _ (List.mem_cons_of_mem _ (List.mem_cons_of_mem _ (List.mem_cons_of_mem _ List.mem_cons_self)))) (hB _ (List.mem_cons_of_mem _ (List.mem_cons_of_mem _ (List.mem_cons_of_mem _ (List.mem_cons_of_mem _ List.mem_cons_self))))) (cvm (c := 2) (by decide) (x' := (4 : Int)) (y' := ((ρ 1))) (by show 4 + 0 = _; omega) (by show 0 + (1 * ρ 1 + 0) = _; omega) (hm _ List.mem_cons_self)) (cvm (c := 2) (by decide) (x' := (2 : Int)) (y' := ((ρ 2))) (by show 2 + 0 = _; omega) (by show 0 + (1 * ρ 2 + 0) = _; omega) (hm _ (List.mem_cons_of_mem _ List.mem_cons_self))) (cvm (c := 2) (by decide) (x' := (3 : Int)) (y' := ((ρ 3))) (by show 3 + 0 = _; omega) (by show 0 + (1 * ρ 3 + 0) = _; omega) (hm _ (List.mem_cons_of_mem _ (List.mem_cons_of_mem _ List.mem_cons_self)))) (cvm (c := 2) (by decide) (x' := (5 : Int)) (y' := ((ρ 4))) (by show 5 + 0 = _; omega) (by show 0 + (1 * ρ 4 + 0) = _; omega) (hm _ (List.mem_cons_of_mem _ (List.mem_cons_of_mem _ (List.mem_cons_of_mem _ List.mem_cons_self))))) (cvp 45 (x' := ((ρ 0))) (y' := ((ρ 1))) (by show 0 + (1 * ρ 0 + 0) = _; omega) (by show 0 + (1 * ρ 1 + 0) = _; omega) (hm _ (List.mem_cons_of_mem _ (List.mem_cons_of_mem _ (List.mem_cons_of_mem _ (List.mem_cons_of_mem _ List.mem_cons_self)))))) (cvp 46 (x' := ((ρ 0))) (y' := ((ρ 2))) (by show 0 + (1 * ρ 0 + 0) = _; omega) (by show 0 + (1 * ρ 2 + 0) = _; omega) (hm _ (List.mem_cons_of_mem _ (List.mem_cons_of_mem _ (List.mem_cons_of_mem _ (List.mem_cons_of_mem _ (List.mem_cons_of_mem _ List.mem_cons_self))))))) (cvp 47 (x' := ((ρ 0))) (y' := (131072 * (ρ 3) + (ρ 4))) (by show 0 + (1 * ρ 0 + 0) = _; omega) (by show 0 + (131072 * ρ 3 + (1 * ρ 4 + 0)) = _; omega) (hm _ (List.mem_cons_of_mem _ (List.mem_cons_of_mem _ (List.mem_cons_of_mem _ (List.mem_cons_of_mem _ (List.mem_cons_of_mem _ (List.mem_cons_of_mem _ List.mem_cons_self)))))))) hG
  obtain ⟨k0, -⟩ := H
  exact ⟨_, List.mem_cons_self, ρ, fun _ _ => rfl, (okM_c (pvp 48 (by show 0 + (1 * ρ 0 + 0) = _; omega) (by show 0 + 0 = _; omega) k0) okM_n), okB_n, okF_n⟩
-- hdo
theorem cr_114 (M : pM) (s0 s1 s2 s3 s4 : Int) (b0 : 0 ≤ s0 ∧ s0 ≤ 1900) (b1 : 0 ≤ s1 ∧ s1 ≤ 1900) (b2 : 0 ≤ s2 ∧ s2 ≤ 1900) (b3 : 0 ≤ s3 ∧ s3 ≤ 4) (b4 : (-2147483648) ≤ s4 ∧ s4 ≤ 2147483647) (m0 : HP 48 (s0) (0 : Int) M) (m1 : (0 ≤ (4 : Int) ∧ M 2 (4 : Int).toNat = (s1))) (m2 : (0 ≤ (2 : Int) ∧ M 2 (2 : Int).toNat = (s2))) (m3 : (0 ≤ (3 : Int) ∧ M 2 (3 : Int).toNat = (s3))) (m4 : (0 ≤ (5 : Int) ∧ M 2 (5 : Int).toNat = (s4))) (hG : gI M) : (HP 45 (s0) (s1) M ∧ HP 46 (s0) (s2) M ∧ HP 47 (s0) (131072 * s3 + s4) M ∧ 0 ≤ ((-1) * s3) ∧ 0 ≤ (s3) ∧ 0 ≤ (s4 + 1) ∧ 0 ≤ ((-1) * s4 + 255) ∧ True) ∨ (HP 45 (s0) (s1) M ∧ HP 46 (s0) (s2) M ∧ HP 47 (s0) (131072 * s3 + s4) M ∧ 0 ≤ ((-1) * s3 + 1) ∧ 0 ≤ (s3 - 1) ∧ 0 ≤ ((-1) * s4 - 1) ∧ 0 ≤ (s4 + 1) ∧ True) ∨ (HP 45 (s0) (s1) M ∧ HP 46 (s0) (s2) M ∧ HP 47 (s0) (131072 * s3 + s4) M ∧ 0 ≤ ((-1) * s3 + 2) ∧ 0 ≤ (s3 - 2) ∧ 0 ≤ (s4 + 1) ∧ 0 ≤ ((-1) * s4 + 24) ∧ 0 ≤ ((-1) * s1 + s2 - 1) ∧ 0 ≤ (s1 + (-1) * s2 + 8) ∧ True) ∨ (HP 45 (s0) (s1) M ∧ HP 46 (s0) (s2) M ∧ HP 47 (s0) (131072 * s3 + s4) M ∧ 0 ≤ ((-1) * s3 + 3) ∧ 0 ≤ (s3 - 3) ∧ 0 ≤ (s4) ∧ 0 ≤ ((-1) * s4 + 9999) ∧ 0 ≤ ((-1) * s1 + s2 - 1) ∧ True) ∨ (HP 45 (s0) (s1) M ∧ HP 46 (s0) (s2) M ∧ HP 47 (s0) (131072 * s3 + s4) M ∧ 0 ≤ ((-1) * s3 + 4) ∧ 0 ≤ (s3 - 4) ∧ 0 ≤ (s4 - 33) ∧ 0 ≤ ((-1) * s4 + 126) ∧ 0 ≤ (s1 + (-1) * s2 + 1) ∧ 0 ≤ ((-1) * s1 + s2 - 1) ∧ True) := by
  obtain ⟨⟨h0, hv⟩, h1, h2, h3⟩ := Eq.mp hp_48 m0
  rw [show M 2 4 = s1 from m1.2] at h1
  rw [show M 2 2 = s2 from m2.2] at h2
  rw [show M 2 5 = s4 from m4.2] at hv h3
  rw [show M 2 3 = s3 from m3.2] at h3
  have k1 : HP 45 s0 s1 M := Eq.mpr hp_45 ⟨h0, h1⟩
  have k2 : HP 46 s0 s2 M := Eq.mpr hp_46 ⟨h0, h2⟩
  have k3 : HP 47 s0 (131072 * s3 + s4) M := Eq.mpr hp_47 ⟨h0, h3.symm⟩
  rcases tk_cl (hby_M hG) s0.toNat with h | h | h | h | h | h
  · exact Or.inr (Or.inl ⟨k1, k2, k3, by omega, by omega, by omega, by omega, trivial⟩)
  · have hw := wid_bd (N := M) (s := tS M s0.toNat) (e := tE M s0.toNat)
    exact Or.inr (Or.inr (Or.inl ⟨k1, k2, k3, by omega, by omega, by omega, by omega, by omega, by omega, trivial⟩))
  · exact Or.inl ⟨k1, k2, k3, by omega, by omega, by omega, by omega, trivial⟩
  · exact Or.inr (Or.inr (Or.inr (Or.inl ⟨k1, k2, k3, by omega, by omega, by omega, by omega, by omega, trivial⟩)))
  · have hw := sgs_bd h.2.2.1
    exact Or.inr (Or.inr (Or.inr (Or.inr (⟨k1, k2, k3, by omega, by omega, by omega, by omega, by omega, by omega, trivial⟩))))
  · exact Or.inl ⟨k1, k2, k3, by omega, by omega, by omega, by omega, trivial⟩
theorem rul_114 : Rul r_114 := by
  refine ⟨fun _ ρ M hm hB hF hG => ?_, fun gi gv hg => (by cases hg)⟩
  have H := cr_114 M (ρ 0) (ρ 1) (ρ 2) (ρ 3) (ρ 4) (hB _ List.mem_cons_self) (hB _ (List.mem_cons_of_mem _ List.mem_cons_self)) (hB _ (List.mem_cons_of_mem _ (List.mem_cons_of_mem _ List.mem_cons_self))) (hB _ (List.mem_cons_of_mem _ (List.mem_cons_of_mem _ (List.mem_cons_of_mem _ List.mem_cons_self)))) (hB _ (List.mem_cons_of_mem _ (List.mem_cons_of_mem _ (List.mem_cons_of_mem _ (List.mem_cons_of_mem _ List.mem_cons_self))))) (cvp 48 (x' := ((ρ 0))) (y' := (0 : Int)) (by show 0 + (1 * ρ 0 + 0) = _; omega) (by show 0 + 0 = _; omega) (hm _ List.mem_cons_self)) (cvm (c := 2) (by decide) (x' := (4 : Int)) (y' := ((ρ 1))) (by show 4 + 0 = _; omega) (by show 0 + (1 * ρ 1 + 0) = _; omega) (hm _ (List.mem_cons_of_mem _ List.mem_cons_self))) (cvm (c := 2) (by decide) (x' := (2 : Int)) (y' := ((ρ 2))) (by show 2 + 0 = _; omega) (by show 0 + (1 * ρ 2 + 0) = _; omega) (hm _ (List.mem_cons_of_mem _ (List.mem_cons_of_mem _ List.mem_cons_self)))) (cvm (c := 2) (by decide) (x' := (3 : Int)) (y' := ((ρ 3))) (by show 3 + 0 = _; omega) (by show 0 + (1 * ρ 3 + 0) = _; omega) (hm _ (List.mem_cons_of_mem _ (List.mem_cons_of_mem _ (List.mem_cons_of_mem _ List.mem_cons_self))))) (cvm (c := 2) (by decide) (x' := (5 : Int)) (y' := ((ρ 4))) (by show 5 + 0 = _; omega) (by show 0 + (1 * ρ 4 + 0) = _; omega) (hm _ (List.mem_cons_of_mem _ (List.mem_cons_of_mem _ (List.mem_cons_of_mem _ (List.mem_cons_of_mem _ List.mem_cons_self)))))) hG
  rcases H with H | H
  · skip
    obtain ⟨k0, k1, k2, f0, f1, f2, f3, -⟩ := H
    exact ⟨_, List.mem_cons_self, ρ, fun _ _ => rfl, (okM_c (pvp 45 (by show 0 + (1 * ρ 0 + 0) = _; omega) (by show 0 + (1 * ρ 1 + 0) = _; omega) k0) (okM_c (pvp 46 (by show 0 + (1 * ρ 0 + 0) = _; omega) (by show 0 + (1 * ρ 2 + 0) = _; omega) k1) (okM_c (pvp 47 (by show 0 + (1 * ρ 0 + 0) = _; omega) (by show 0 + (131072 * ρ 3 + (1 * ρ 4 + 0)) = _; omega) k2) okM_n))), okB_n, (okF_c (by show 0 ≤ 0 + ((-1) * ρ 3 + 0); omega) (okF_c (by show 0 ≤ 0 + (1 * ρ 3 + 0); omega) (okF_c (by show 0 ≤ 1 + (1 * ρ 4 + 0); omega) (okF_c (by show 0 ≤ 255 + ((-1) * ρ 4 + 0); omega) okF_n))))⟩
  rcases H with H | H
  · skip
    obtain ⟨k0, k1, k2, f0, f1, f2, f3, -⟩ := H
    exact ⟨_, (List.mem_cons_of_mem _ List.mem_cons_self), ρ, fun _ _ => rfl, (okM_c (pvp 45 (by show 0 + (1 * ρ 0 + 0) = _; omega) (by show 0 + (1 * ρ 1 + 0) = _; omega) k0) (okM_c (pvp 46 (by show 0 + (1 * ρ 0 + 0) = _; omega) (by show 0 + (1 * ρ 2 + 0) = _; omega) k1) (okM_c (pvp 47 (by show 0 + (1 * ρ 0 + 0) = _; omega) (by show 0 + (131072 * ρ 3 + (1 * ρ 4 + 0)) = _; omega) k2) okM_n))), okB_n, (okF_c (by show 0 ≤ 1 + ((-1) * ρ 3 + 0); omega) (okF_c (by show 0 ≤ (-1) + (1 * ρ 3 + 0); omega) (okF_c (by show 0 ≤ (-1) + ((-1) * ρ 4 + 0); omega) (okF_c (by show 0 ≤ 1 + (1 * ρ 4 + 0); omega) okF_n))))⟩
  rcases H with H | H
  · skip
    obtain ⟨k0, k1, k2, f0, f1, f2, f3, f4, f5, -⟩ := H
    exact ⟨_, (List.mem_cons_of_mem _ (List.mem_cons_of_mem _ List.mem_cons_self)), ρ, fun _ _ => rfl, (okM_c (pvp 45 (by show 0 + (1 * ρ 0 + 0) = _; omega) (by show 0 + (1 * ρ 1 + 0) = _; omega) k0) (okM_c (pvp 46 (by show 0 + (1 * ρ 0 + 0) = _; omega) (by show 0 + (1 * ρ 2 + 0) = _; omega) k1) (okM_c (pvp 47 (by show 0 + (1 * ρ 0 + 0) = _; omega) (by show 0 + (131072 * ρ 3 + (1 * ρ 4 + 0)) = _; omega) k2) okM_n))), okB_n, (okF_c (by show 0 ≤ 2 + ((-1) * ρ 3 + 0); omega) (okF_c (by show 0 ≤ (-2) + (1 * ρ 3 + 0); omega) (okF_c (by show 0 ≤ 1 + (1 * ρ 4 + 0); omega) (okF_c (by show 0 ≤ 24 + ((-1) * ρ 4 + 0); omega) (okF_c (by show 0 ≤ (-1) + ((-1) * ρ 1 + (1 * ρ 2 + 0)); omega) (okF_c (by show 0 ≤ 8 + (1 * ρ 1 + ((-1) * ρ 2 + 0)); omega) okF_n))))))⟩
  rcases H with H | H
  · skip
    obtain ⟨k0, k1, k2, f0, f1, f2, f3, f4, -⟩ := H
    exact ⟨_, (List.mem_cons_of_mem _ (List.mem_cons_of_mem _ (List.mem_cons_of_mem _ List.mem_cons_self))), ρ, fun _ _ => rfl, (okM_c (pvp 45 (by show 0 + (1 * ρ 0 + 0) = _; omega) (by show 0 + (1 * ρ 1 + 0) = _; omega) k0) (okM_c (pvp 46 (by show 0 + (1 * ρ 0 + 0) = _; omega) (by show 0 + (1 * ρ 2 + 0) = _; omega) k1) (okM_c (pvp 47 (by show 0 + (1 * ρ 0 + 0) = _; omega) (by show 0 + (131072 * ρ 3 + (1 * ρ 4 + 0)) = _; omega) k2) okM_n))), okB_n, (okF_c (by show 0 ≤ 3 + ((-1) * ρ 3 + 0); omega) (okF_c (by show 0 ≤ (-3) + (1 * ρ 3 + 0); omega) (okF_c (by show 0 ≤ 0 + (1 * ρ 4 + 0); omega) (okF_c (by show 0 ≤ 9999 + ((-1) * ρ 4 + 0); omega) (okF_c (by show 0 ≤ (-1) + ((-1) * ρ 1 + (1 * ρ 2 + 0)); omega) okF_n)))))⟩
  · skip
    obtain ⟨k0, k1, k2, f0, f1, f2, f3, f4, f5, -⟩ := H
    exact ⟨_, (List.mem_cons_of_mem _ (List.mem_cons_of_mem _ (List.mem_cons_of_mem _ (List.mem_cons_of_mem _ List.mem_cons_self)))), ρ, fun _ _ => rfl, (okM_c (pvp 45 (by show 0 + (1 * ρ 0 + 0) = _; omega) (by show 0 + (1 * ρ 1 + 0) = _; omega) k0) (okM_c (pvp 46 (by show 0 + (1 * ρ 0 + 0) = _; omega) (by show 0 + (1 * ρ 2 + 0) = _; omega) k1) (okM_c (pvp 47 (by show 0 + (1 * ρ 0 + 0) = _; omega) (by show 0 + (131072 * ρ 3 + (1 * ρ 4 + 0)) = _; omega) k2) okM_n))), okB_n, (okF_c (by show 0 ≤ 4 + ((-1) * ρ 3 + 0); omega) (okF_c (by show 0 ≤ (-4) + (1 * ρ 3 + 0); omega) (okF_c (by show 0 ≤ (-33) + (1 * ρ 4 + 0); omega) (okF_c (by show 0 ≤ 126 + ((-1) * ρ 4 + 0); omega) (okF_c (by show 0 ≤ 1 + (1 * ρ 1 + ((-1) * ρ 2 + 0)); omega) (okF_c (by show 0 ≤ (-1) + ((-1) * ρ 1 + (1 * ρ 2 + 0)); omega) okF_n))))))⟩
-- ltc
theorem cr_115 (M : pM) (s0 s1 s2 s3 : Int) (b0 : 0 ≤ s0 ∧ s0 ≤ 1900) (b1 : 0 ≤ s1 ∧ s1 ≤ 1900) (b2 : 0 ≤ s2 ∧ s2 ≤ 1900) (b3 : 0 ≤ s3 ∧ s3 ≤ 255) (m0 : HP 44 (s0 + 2048) (s1) M) (m1 : (0 ≤ (s2) ∧ M 1 (s2).toNat = (s3))) (f0 : 0 ≤ ((-1) * s0 + s2)) (f1 : 0 ≤ (s1 + (-1) * s2 - 1)) (hG : gI M) : (0 ≤ (s3 - 97) ∧ 0 ≤ ((-1) * s3 + 122) ∧ True) := by
  have hr := ru_o (P := 1) (p := s0.toNat) m0 ⟨by omega, by decide, by omega⟩
  have hc := isC_1 (ru_in (M := M) (P := 1) (p := s0.toNat) (i := s2.toNat) (by omega) (by omega))
  rw [m1.2] at hc
  exact ⟨by omega, by omega, trivial⟩
theorem rul_115 : Rul r_115 := by
  refine ⟨fun _ ρ M hm hB hF hG => ?_, fun gi gv hg => (by cases hg)⟩
  have H := cr_115 M (ρ 0) (ρ 1) (ρ 2) (ρ 3) (hB _ List.mem_cons_self) (hB _ (List.mem_cons_of_mem _ List.mem_cons_self)) (hB _ (List.mem_cons_of_mem _ (List.mem_cons_of_mem _ List.mem_cons_self))) (hB _ (List.mem_cons_of_mem _ (List.mem_cons_of_mem _ (List.mem_cons_of_mem _ List.mem_cons_self)))) (cvp 44 (x' := ((ρ 0) + 2048)) (y' := ((ρ 1))) (by show 2048 + (1 * ρ 0 + 0) = _; omega) (by show 0 + (1 * ρ 1 + 0) = _; omega) (hm _ List.mem_cons_self)) (cvm (c := 1) (by decide) (x' := ((ρ 2))) (y' := ((ρ 3))) (by show 0 + (1 * ρ 2 + 0) = _; omega) (by show 0 + (1 * ρ 3 + 0) = _; omega) (hm _ (List.mem_cons_of_mem _ List.mem_cons_self))) (by have h := hF _ List.mem_cons_self; have h : 0 ≤ 0 + ((-1) * ρ 0 + (1 * ρ 2 + 0)) := h; omega) (by have h := hF _ (List.mem_cons_of_mem _ List.mem_cons_self); have h : 0 ≤ (-1) + (1 * ρ 1 + ((-1) * ρ 2 + 0)) := h; omega) hG
  obtain ⟨f0, f1, -⟩ := H
  exact ⟨_, List.mem_cons_self, ρ, fun _ _ => rfl, okM_n, okB_n, (okF_c (by show 0 ≤ (-97) + (1 * ρ 3 + 0); omega) (okF_c (by show 0 ≤ 122 + ((-1) * ρ 3 + 0); omega) okF_n))⟩
-- trn
theorem cr_116 (M : pM) (s0 : Int) (b0 : 0 ≤ s0 ∧ s0 ≤ 1900) (m0 : HP 42 (0 : Int) (0 : Int) M) (m1 : (0 ≤ (3 : Int) ∧ M 61 (3 : Int).toNat = (s0))) (hG : gI M) : ((0 ≤ (1 : Int) ∧ M 2 (1 : Int).toNat = (s0)) ∧ True) := by
  obtain ⟨h1, h2, h3, h4⟩ := Eq.mp hp_42 m0
  have h5 : M 61 3 = s0 := m1.2
  exact ⟨⟨by decide, by show M 2 1 = s0; omega⟩, trivial⟩
theorem rul_116 : Rul r_116 := by
  refine ⟨fun _ ρ M hm hB hF hG => ?_, fun gi gv hg => (by cases hg)⟩
  have H := cr_116 M (ρ 0) (hB _ List.mem_cons_self) (cvp 42 (x' := (0 : Int)) (y' := (0 : Int)) (by show 0 + 0 = _; omega) (by show 0 + 0 = _; omega) (hm _ List.mem_cons_self)) (cvm (c := 61) (by decide) (x' := (3 : Int)) (y' := ((ρ 0))) (by show 3 + 0 = _; omega) (by show 0 + (1 * ρ 0 + 0) = _; omega) (hm _ (List.mem_cons_of_mem _ List.mem_cons_self))) hG
  obtain ⟨k0, -⟩ := H
  exact ⟨_, List.mem_cons_self, ρ, fun _ _ => rfl, (okM_c (pvm (c := 2) (by decide) (by show 1 + 0 = _; omega) (by show 0 + (1 * ρ 0 + 0) = _; omega) k0) okM_n), okB_n, okF_n⟩
-- trc0
theorem cr_117 (M : pM) (s0 s1 s2 : Int) (b0 : 0 ≤ s0 ∧ s0 ≤ 1900) (b1 : 0 ≤ s1 ∧ s1 ≤ 1900) (b2 : 0 ≤ s2 ∧ s2 ≤ 127) (m0 : HP 42 (0 : Int) (0 : Int) M) (m1 : (0 ≤ (3 : Int) ∧ M 61 (3 : Int).toNat = (s1))) (m2 : (0 ≤ (s0) ∧ M 63 (s0).toNat = (s2))) (f0 : 0 ≤ ((-1) * s0 + s1 - 1)) (hG : gI M) : ((0 ≤ (s0) ∧ M 1 (s0).toNat = (s2)) ∧ True) := by
  obtain ⟨h1, h2, h3, h4⟩ := Eq.mp hp_42 m0
  have h5 : M 61 3 = s1 := m1.2
  have h6 := h4 s0.toNat (by unfold tN; omega)
  rw [m2.2] at h6
  have h7 := gI_bt hG (i := s0.toNat) (by omega)
  unfold w8 at h6
  exact ⟨⟨by omega, by omega⟩, trivial⟩
theorem rul_117 : Rul r_117 := by
  refine ⟨fun _ ρ M hm hB hF hG => ?_, fun gi gv hg => (by cases hg)⟩
  have H := cr_117 M (ρ 0) (ρ 1) (ρ 2) (hB _ List.mem_cons_self) (hB _ (List.mem_cons_of_mem _ List.mem_cons_self)) (hB _ (List.mem_cons_of_mem _ (List.mem_cons_of_mem _ List.mem_cons_self))) (cvp 42 (x' := (0 : Int)) (y' := (0 : Int)) (by show 0 + 0 = _; omega) (by show 0 + 0 = _; omega) (hm _ List.mem_cons_self)) (cvm (c := 61) (by decide) (x' := (3 : Int)) (y' := ((ρ 1))) (by show 3 + 0 = _; omega) (by show 0 + (1 * ρ 1 + 0) = _; omega) (hm _ (List.mem_cons_of_mem _ List.mem_cons_self))) (cvm (c := 63) (by decide) (x' := ((ρ 0))) (y' := ((ρ 2))) (by show 0 + (1 * ρ 0 + 0) = _; omega) (by show 0 + (1 * ρ 2 + 0) = _; omega) (hm _ (List.mem_cons_of_mem _ (List.mem_cons_of_mem _ List.mem_cons_self)))) (by have h := hF _ List.mem_cons_self; have h : 0 ≤ (-1) + ((-1) * ρ 0 + (1 * ρ 1 + 0)) := h; omega) hG
  obtain ⟨k0, -⟩ := H
  exact ⟨_, List.mem_cons_self, ρ, fun _ _ => rfl, (okM_c (pvm (c := 1) (by decide) (by show 0 + (1 * ρ 0 + 0) = _; omega) (by show 0 + (1 * ρ 2 + 0) = _; omega) k0) okM_n), okB_n, okF_n⟩
-- trc1
theorem cr_118 (M : pM) (s0 s1 s2 : Int) (b0 : 0 ≤ s0 ∧ s0 ≤ 1900) (b1 : 0 ≤ s1 ∧ s1 ≤ 1900) (b2 : (-128) ≤ s2 ∧ s2 ≤ (-1)) (m0 : HP 42 (0 : Int) (0 : Int) M) (m1 : (0 ≤ (3 : Int) ∧ M 61 (3 : Int).toNat = (s1))) (m2 : (0 ≤ (s0) ∧ M 63 (s0).toNat = (s2))) (f0 : 0 ≤ ((-1) * s0 + s1 - 1)) (hG : gI M) : ((0 ≤ (s0) ∧ M 1 (s0).toNat = (s2 + 256)) ∧ True) := by
  obtain ⟨h1, h2, h3, h4⟩ := Eq.mp hp_42 m0
  have h5 : M 61 3 = s1 := m1.2
  have h6 := h4 s0.toNat (by unfold tN; omega)
  rw [m2.2] at h6
  have h7 := gI_bt hG (i := s0.toNat) (by omega)
  unfold w8 at h6
  exact ⟨⟨by omega, by omega⟩, trivial⟩
theorem rul_118 : Rul r_118 := by
  refine ⟨fun _ ρ M hm hB hF hG => ?_, fun gi gv hg => (by cases hg)⟩
  have H := cr_118 M (ρ 0) (ρ 1) (ρ 2) (hB _ List.mem_cons_self) (hB _ (List.mem_cons_of_mem _ List.mem_cons_self)) (hB _ (List.mem_cons_of_mem _ (List.mem_cons_of_mem _ List.mem_cons_self))) (cvp 42 (x' := (0 : Int)) (y' := (0 : Int)) (by show 0 + 0 = _; omega) (by show 0 + 0 = _; omega) (hm _ List.mem_cons_self)) (cvm (c := 61) (by decide) (x' := (3 : Int)) (y' := ((ρ 1))) (by show 3 + 0 = _; omega) (by show 0 + (1 * ρ 1 + 0) = _; omega) (hm _ (List.mem_cons_of_mem _ List.mem_cons_self))) (cvm (c := 63) (by decide) (x' := ((ρ 0))) (y' := ((ρ 2))) (by show 0 + (1 * ρ 0 + 0) = _; omega) (by show 0 + (1 * ρ 2 + 0) = _; omega) (hm _ (List.mem_cons_of_mem _ (List.mem_cons_of_mem _ List.mem_cons_self)))) (by have h := hF _ List.mem_cons_self; have h : 0 ≤ (-1) + ((-1) * ρ 0 + (1 * ρ 1 + 0)) := h; omega) hG
  obtain ⟨k0, -⟩ := H
  exact ⟨_, List.mem_cons_self, ρ, fun _ _ => rfl, (okM_c (pvm (c := 1) (by decide) (by show 0 + (1 * ρ 0 + 0) = _; omega) (by show 256 + (1 * ρ 2 + 0) = _; omega) k0) okM_n), okB_n, okF_n⟩
-- trd0
theorem cr_119 (M : pM) (s0 s1 s2 s3 : Int) (b0 : 0 ≤ s0 ∧ s0 ≤ 1900) (b1 : 0 ≤ s1 ∧ s1 ≤ 1900) (b2 : 0 ≤ s2 ∧ s2 ≤ 127) (b3 : 0 ≤ s3 ∧ s3 ≤ 255) (m0 : HP 42 (0 : Int) (0 : Int) M) (m1 : (0 ≤ (3 : Int) ∧ M 61 (3 : Int).toNat = (s1))) (m2 : (0 ≤ (s0) ∧ M 63 (s0).toNat = (s2))) (m3 : (0 ≤ (s0) ∧ M 1 (s0).toNat = (s3))) (f0 : 0 ≤ ((-1) * s0 + s1 - 1)) (hG : gI M) : (0 ≤ (s2 + (-1) * s3) ∧ 0 ≤ ((-1) * s2 + s3) ∧ True) := by
  obtain ⟨h1, h2, h3, h4⟩ := Eq.mp hp_42 m0
  have h5 : M 61 3 = s1 := m1.2
  have h6 := h4 s0.toNat (by unfold tN; omega)
  rw [m2.2] at h6
  have h7 := gI_bt hG (i := s0.toNat) (by omega)
  unfold w8 at h6
  rw [m3.2] at h6 h7
  exact ⟨by omega, by omega, trivial⟩
theorem rul_119 : Rul r_119 := by
  refine ⟨fun _ ρ M hm hB hF hG => ?_, fun gi gv hg => (by cases hg)⟩
  have H := cr_119 M (ρ 0) (ρ 1) (ρ 2) (ρ 3) (hB _ List.mem_cons_self) (hB _ (List.mem_cons_of_mem _ List.mem_cons_self)) (hB _ (List.mem_cons_of_mem _ (List.mem_cons_of_mem _ List.mem_cons_self))) (hB _ (List.mem_cons_of_mem _ (List.mem_cons_of_mem _ (List.mem_cons_of_mem _ List.mem_cons_self)))) (cvp 42 (x' := (0 : Int)) (y' := (0 : Int)) (by show 0 + 0 = _; omega) (by show 0 + 0 = _; omega) (hm _ List.mem_cons_self)) (cvm (c := 61) (by decide) (x' := (3 : Int)) (y' := ((ρ 1))) (by show 3 + 0 = _; omega) (by show 0 + (1 * ρ 1 + 0) = _; omega) (hm _ (List.mem_cons_of_mem _ List.mem_cons_self))) (cvm (c := 63) (by decide) (x' := ((ρ 0))) (y' := ((ρ 2))) (by show 0 + (1 * ρ 0 + 0) = _; omega) (by show 0 + (1 * ρ 2 + 0) = _; omega) (hm _ (List.mem_cons_of_mem _ (List.mem_cons_of_mem _ List.mem_cons_self)))) (cvm (c := 1) (by decide) (x' := ((ρ 0))) (y' := ((ρ 3))) (by show 0 + (1 * ρ 0 + 0) = _; omega) (by show 0 + (1 * ρ 3 + 0) = _; omega) (hm _ (List.mem_cons_of_mem _ (List.mem_cons_of_mem _ (List.mem_cons_of_mem _ List.mem_cons_self))))) (by have h := hF _ List.mem_cons_self; have h : 0 ≤ (-1) + ((-1) * ρ 0 + (1 * ρ 1 + 0)) := h; omega) hG
  obtain ⟨f0, f1, -⟩ := H
  exact ⟨_, List.mem_cons_self, ρ, fun _ _ => rfl, okM_n, okB_n, (okF_c (by show 0 ≤ 0 + (1 * ρ 2 + ((-1) * ρ 3 + 0)); omega) (okF_c (by show 0 ≤ 0 + ((-1) * ρ 2 + (1 * ρ 3 + 0)); omega) okF_n))⟩
-- trd1
theorem cr_120 (M : pM) (s0 s1 s2 s3 : Int) (b0 : 0 ≤ s0 ∧ s0 ≤ 1900) (b1 : 0 ≤ s1 ∧ s1 ≤ 1900) (b2 : (-128) ≤ s2 ∧ s2 ≤ (-1)) (b3 : 0 ≤ s3 ∧ s3 ≤ 255) (m0 : HP 42 (0 : Int) (0 : Int) M) (m1 : (0 ≤ (3 : Int) ∧ M 61 (3 : Int).toNat = (s1))) (m2 : (0 ≤ (s0) ∧ M 63 (s0).toNat = (s2))) (m3 : (0 ≤ (s0) ∧ M 1 (s0).toNat = (s3))) (f0 : 0 ≤ ((-1) * s0 + s1 - 1)) (hG : gI M) : (0 ≤ (s2 + (-1) * s3 + 256) ∧ 0 ≤ ((-1) * s2 + s3 - 256) ∧ True) := by
  obtain ⟨h1, h2, h3, h4⟩ := Eq.mp hp_42 m0
  have h5 : M 61 3 = s1 := m1.2
  have h6 := h4 s0.toNat (by unfold tN; omega)
  rw [m2.2] at h6
  have h7 := gI_bt hG (i := s0.toNat) (by omega)
  unfold w8 at h6
  rw [m3.2] at h6 h7
  exact ⟨by omega, by omega, trivial⟩
theorem rul_120 : Rul r_120 := by
  refine ⟨fun _ ρ M hm hB hF hG => ?_, fun gi gv hg => (by cases hg)⟩
  have H := cr_120 M (ρ 0) (ρ 1) (ρ 2) (ρ 3) (hB _ List.mem_cons_self) (hB _ (List.mem_cons_of_mem _ List.mem_cons_self)) (hB _ (List.mem_cons_of_mem _ (List.mem_cons_of_mem _ List.mem_cons_self))) (hB _ (List.mem_cons_of_mem _ (List.mem_cons_of_mem _ (List.mem_cons_of_mem _ List.mem_cons_self)))) (cvp 42 (x' := (0 : Int)) (y' := (0 : Int)) (by show 0 + 0 = _; omega) (by show 0 + 0 = _; omega) (hm _ List.mem_cons_self)) (cvm (c := 61) (by decide) (x' := (3 : Int)) (y' := ((ρ 1))) (by show 3 + 0 = _; omega) (by show 0 + (1 * ρ 1 + 0) = _; omega) (hm _ (List.mem_cons_of_mem _ List.mem_cons_self))) (cvm (c := 63) (by decide) (x' := ((ρ 0))) (y' := ((ρ 2))) (by show 0 + (1 * ρ 0 + 0) = _; omega) (by show 0 + (1 * ρ 2 + 0) = _; omega) (hm _ (List.mem_cons_of_mem _ (List.mem_cons_of_mem _ List.mem_cons_self)))) (cvm (c := 1) (by decide) (x' := ((ρ 0))) (y' := ((ρ 3))) (by show 0 + (1 * ρ 0 + 0) = _; omega) (by show 0 + (1 * ρ 3 + 0) = _; omega) (hm _ (List.mem_cons_of_mem _ (List.mem_cons_of_mem _ (List.mem_cons_of_mem _ List.mem_cons_self))))) (by have h := hF _ List.mem_cons_self; have h : 0 ≤ (-1) + ((-1) * ρ 0 + (1 * ρ 1 + 0)) := h; omega) hG
  obtain ⟨f0, f1, -⟩ := H
  exact ⟨_, List.mem_cons_self, ρ, fun _ _ => rfl, okM_n, okB_n, (okF_c (by show 0 ≤ 256 + (1 * ρ 2 + ((-1) * ρ 3 + 0)); omega) (okF_c (by show 0 ≤ (-256) + ((-1) * ρ 2 + (1 * ρ 3 + 0)); omega) okF_n))⟩
-- nk0
theorem cr_121 (M : pM) (s0 : Int) (b0 : (-9223372036854775808) ≤ s0 ∧ s0 ≤ 9223372036854775807) (hG : gI M) : (HP 142 (0 : Int) (s0) M ∧ True) := by
  exact ⟨Eq.mpr hp_142 (fun k h1 h2 => by omega), trivial⟩
theorem rul_121 : Rul r_121 := by
  refine ⟨fun _ ρ M hm hB hF hG => ?_, fun gi gv hg => (by cases hg)⟩
  have H := cr_121 M (ρ 0) (hB _ List.mem_cons_self) hG
  obtain ⟨k0, -⟩ := H
  exact ⟨_, List.mem_cons_self, ρ, fun _ _ => rfl, (okM_c (pvp 142 (by show 0 + 0 = _; omega) (by show 0 + (1 * ρ 0 + 0) = _; omega) k0) okM_n), okB_n, okF_n⟩
-- nk1_0
theorem cr_122 (M : pM) (s0 : Int) (b0 : (-9223372036854775808) ≤ s0 ∧ s0 ≤ 9223372036854775807) (m0 : HP 142 (0 : Int) (s0) M) (f0 : 0 ≤ ((-1) * s0 + 7499638)) (hG : gI M) : (HP 142 (1 : Int) (s0) M ∧ True) := by
  exact ⟨Eq.mpr hp_142 (fun k h1 h2 => if e : k = 0 then (by subst e; exact qwn_v 7499639 (by decide) (by omega)) else Eq.mp hp_142 m0 k h1 (by omega)), trivial⟩
theorem rul_122 : Rul r_122 := by
  refine ⟨fun _ ρ M hm hB hF hG => ?_, fun gi gv hg => (by cases hg)⟩
  have H := cr_122 M (ρ 0) (hB _ List.mem_cons_self) (cvp 142 (x' := (0 : Int)) (y' := ((ρ 0))) (by show 0 + 0 = _; omega) (by show 0 + (1 * ρ 0 + 0) = _; omega) (hm _ List.mem_cons_self)) (by have h := hF _ List.mem_cons_self; have h : 0 ≤ 7499638 + ((-1) * ρ 0 + 0) := h; omega) hG
  obtain ⟨k0, -⟩ := H
  exact ⟨_, List.mem_cons_self, ρ, fun _ _ => rfl, (okM_c (pvp 142 (by show 1 + 0 = _; omega) (by show 0 + (1 * ρ 0 + 0) = _; omega) k0) okM_n), okB_n, okF_n⟩
-- nk1_1
theorem cr_123 (M : pM) (s0 : Int) (b0 : (-9223372036854775808) ≤ s0 ∧ s0 ≤ 9223372036854775807) (m0 : HP 142 (0 : Int) (s0) M) (f0 : 0 ≤ (s0 - 7499640)) (hG : gI M) : (HP 142 (1 : Int) (s0) M ∧ True) := by
  exact ⟨Eq.mpr hp_142 (fun k h1 h2 => if e : k = 0 then (by subst e; exact qwn_v 7499639 (by decide) (by omega)) else Eq.mp hp_142 m0 k h1 (by omega)), trivial⟩
theorem rul_123 : Rul r_123 := by
  refine ⟨fun _ ρ M hm hB hF hG => ?_, fun gi gv hg => (by cases hg)⟩
  have H := cr_123 M (ρ 0) (hB _ List.mem_cons_self) (cvp 142 (x' := (0 : Int)) (y' := ((ρ 0))) (by show 0 + 0 = _; omega) (by show 0 + (1 * ρ 0 + 0) = _; omega) (hm _ List.mem_cons_self)) (by have h := hF _ List.mem_cons_self; have h : 0 ≤ (-7499640) + (1 * ρ 0 + 0) := h; omega) hG
  obtain ⟨k0, -⟩ := H
  exact ⟨_, List.mem_cons_self, ρ, fun _ _ => rfl, (okM_c (pvp 142 (by show 1 + 0 = _; omega) (by show 0 + (1 * ρ 0 + 0) = _; omega) k0) okM_n), okB_n, okF_n⟩
-- wk0
theorem cr_124 (M : pM) (s0 : Int) (b0 : (-9223372036854775808) ≤ s0 ∧ s0 ≤ 9223372036854775807) (f0 : 0 ≤ ((-1) * s0 + 7499639)) (f1 : 0 ≤ (s0 - 7499639)) (hG : gI M) : (HP 140 (0 : Int) (s0) M ∧ True) := by
  exact ⟨Eq.mpr hp_140 ⟨0, by decide, by decide, by rw [show qwn 0 = 7499639 by decide]; omega⟩, trivial⟩
theorem rul_124 : Rul r_124 := by
  refine ⟨fun _ ρ M hm hB hF hG => ?_, fun gi gv hg => (by cases hg)⟩
  have H := cr_124 M (ρ 0) (hB _ List.mem_cons_self) (by have h := hF _ List.mem_cons_self; have h : 0 ≤ 7499639 + ((-1) * ρ 0 + 0) := h; omega) (by have h := hF _ (List.mem_cons_of_mem _ List.mem_cons_self); have h : 0 ≤ (-7499639) + (1 * ρ 0 + 0) := h; omega) hG
  obtain ⟨k0, -⟩ := H
  exact ⟨_, List.mem_cons_self, ρ, fun _ _ => rfl, (okM_c (pvp 140 (by show 0 + 0 = _; omega) (by show 0 + (1 * ρ 0 + 0) = _; omega) k0) okM_n), okB_n, okF_n⟩
-- nk2_0
theorem cr_125 (M : pM) (s0 : Int) (b0 : (-9223372036854775808) ≤ s0 ∧ s0 ≤ 9223372036854775807) (m0 : HP 142 (1 : Int) (s0) M) (f0 : 0 ≤ ((-1) * s0 + 1818846835)) (hG : gI M) : (HP 142 (2 : Int) (s0) M ∧ True) := by
  exact ⟨Eq.mpr hp_142 (fun k h1 h2 => if e : k = 1 then (by subst e; exact qwn_v 1818846836 (by decide) (by omega)) else Eq.mp hp_142 m0 k h1 (by omega)), trivial⟩
theorem rul_125 : Rul r_125 := by
  refine ⟨fun _ ρ M hm hB hF hG => ?_, fun gi gv hg => (by cases hg)⟩
  have H := cr_125 M (ρ 0) (hB _ List.mem_cons_self) (cvp 142 (x' := (1 : Int)) (y' := ((ρ 0))) (by show 1 + 0 = _; omega) (by show 0 + (1 * ρ 0 + 0) = _; omega) (hm _ List.mem_cons_self)) (by have h := hF _ List.mem_cons_self; have h : 0 ≤ 1818846835 + ((-1) * ρ 0 + 0) := h; omega) hG
  obtain ⟨k0, -⟩ := H
  exact ⟨_, List.mem_cons_self, ρ, fun _ _ => rfl, (okM_c (pvp 142 (by show 2 + 0 = _; omega) (by show 0 + (1 * ρ 0 + 0) = _; omega) k0) okM_n), okB_n, okF_n⟩
-- nk2_1
theorem cr_126 (M : pM) (s0 : Int) (b0 : (-9223372036854775808) ≤ s0 ∧ s0 ≤ 9223372036854775807) (m0 : HP 142 (1 : Int) (s0) M) (f0 : 0 ≤ (s0 - 1818846837)) (hG : gI M) : (HP 142 (2 : Int) (s0) M ∧ True) := by
  exact ⟨Eq.mpr hp_142 (fun k h1 h2 => if e : k = 1 then (by subst e; exact qwn_v 1818846836 (by decide) (by omega)) else Eq.mp hp_142 m0 k h1 (by omega)), trivial⟩
theorem rul_126 : Rul r_126 := by
  refine ⟨fun _ ρ M hm hB hF hG => ?_, fun gi gv hg => (by cases hg)⟩
  have H := cr_126 M (ρ 0) (hB _ List.mem_cons_self) (cvp 142 (x' := (1 : Int)) (y' := ((ρ 0))) (by show 1 + 0 = _; omega) (by show 0 + (1 * ρ 0 + 0) = _; omega) (hm _ List.mem_cons_self)) (by have h := hF _ List.mem_cons_self; have h : 0 ≤ (-1818846837) + (1 * ρ 0 + 0) := h; omega) hG
  obtain ⟨k0, -⟩ := H
  exact ⟨_, List.mem_cons_self, ρ, fun _ _ => rfl, (okM_c (pvp 142 (by show 2 + 0 = _; omega) (by show 0 + (1 * ρ 0 + 0) = _; omega) k0) okM_n), okB_n, okF_n⟩
-- wk1
theorem cr_127 (M : pM) (s0 : Int) (b0 : (-9223372036854775808) ≤ s0 ∧ s0 ≤ 9223372036854775807) (f0 : 0 ≤ ((-1) * s0 + 1818846836)) (f1 : 0 ≤ (s0 - 1818846836)) (hG : gI M) : (HP 140 (1 : Int) (s0) M ∧ True) := by
  exact ⟨Eq.mpr hp_140 ⟨1, by decide, by decide, by rw [show qwn 1 = 1818846836 by decide]; omega⟩, trivial⟩
theorem rul_127 : Rul r_127 := by
  refine ⟨fun _ ρ M hm hB hF hG => ?_, fun gi gv hg => (by cases hg)⟩
  have H := cr_127 M (ρ 0) (hB _ List.mem_cons_self) (by have h := hF _ List.mem_cons_self; have h : 0 ≤ 1818846836 + ((-1) * ρ 0 + 0) := h; omega) (by have h := hF _ (List.mem_cons_of_mem _ List.mem_cons_self); have h : 0 ≤ (-1818846836) + (1 * ρ 0 + 0) := h; omega) hG
  obtain ⟨k0, -⟩ := H
  exact ⟨_, List.mem_cons_self, ρ, fun _ _ => rfl, (okM_c (pvp 140 (by show 1 + 0 = _; omega) (by show 0 + (1 * ρ 0 + 0) = _; omega) k0) okM_n), okB_n, okF_n⟩
-- nk3_0
theorem cr_128 (M : pM) (s0 : Int) (b0 : (-9223372036854775808) ≤ s0 ∧ s0 ≤ 9223372036854775807) (m0 : HP 142 (2 : Int) (s0) M) (f0 : 0 ≤ ((-1) * s0 + 2003398243)) (hG : gI M) : (HP 142 (3 : Int) (s0) M ∧ True) := by
  exact ⟨Eq.mpr hp_142 (fun k h1 h2 => if e : k = 2 then (by subst e; exact qwn_v 2003398244 (by decide) (by omega)) else Eq.mp hp_142 m0 k h1 (by omega)), trivial⟩
theorem rul_128 : Rul r_128 := by
  refine ⟨fun _ ρ M hm hB hF hG => ?_, fun gi gv hg => (by cases hg)⟩
  have H := cr_128 M (ρ 0) (hB _ List.mem_cons_self) (cvp 142 (x' := (2 : Int)) (y' := ((ρ 0))) (by show 2 + 0 = _; omega) (by show 0 + (1 * ρ 0 + 0) = _; omega) (hm _ List.mem_cons_self)) (by have h := hF _ List.mem_cons_self; have h : 0 ≤ 2003398243 + ((-1) * ρ 0 + 0) := h; omega) hG
  obtain ⟨k0, -⟩ := H
  exact ⟨_, List.mem_cons_self, ρ, fun _ _ => rfl, (okM_c (pvp 142 (by show 3 + 0 = _; omega) (by show 0 + (1 * ρ 0 + 0) = _; omega) k0) okM_n), okB_n, okF_n⟩
-- nk3_1
theorem cr_129 (M : pM) (s0 : Int) (b0 : (-9223372036854775808) ≤ s0 ∧ s0 ≤ 9223372036854775807) (m0 : HP 142 (2 : Int) (s0) M) (f0 : 0 ≤ (s0 - 2003398245)) (hG : gI M) : (HP 142 (3 : Int) (s0) M ∧ True) := by
  exact ⟨Eq.mpr hp_142 (fun k h1 h2 => if e : k = 2 then (by subst e; exact qwn_v 2003398244 (by decide) (by omega)) else Eq.mp hp_142 m0 k h1 (by omega)), trivial⟩
theorem rul_129 : Rul r_129 := by
  refine ⟨fun _ ρ M hm hB hF hG => ?_, fun gi gv hg => (by cases hg)⟩
  have H := cr_129 M (ρ 0) (hB _ List.mem_cons_self) (cvp 142 (x' := (2 : Int)) (y' := ((ρ 0))) (by show 2 + 0 = _; omega) (by show 0 + (1 * ρ 0 + 0) = _; omega) (hm _ List.mem_cons_self)) (by have h := hF _ List.mem_cons_self; have h : 0 ≤ (-2003398245) + (1 * ρ 0 + 0) := h; omega) hG
  obtain ⟨k0, -⟩ := H
  exact ⟨_, List.mem_cons_self, ρ, fun _ _ => rfl, (okM_c (pvp 142 (by show 3 + 0 = _; omega) (by show 0 + (1 * ρ 0 + 0) = _; omega) k0) okM_n), okB_n, okF_n⟩
-- wk2
theorem cr_130 (M : pM) (s0 : Int) (b0 : (-9223372036854775808) ≤ s0 ∧ s0 ≤ 9223372036854775807) (f0 : 0 ≤ ((-1) * s0 + 2003398244)) (f1 : 0 ≤ (s0 - 2003398244)) (hG : gI M) : (HP 140 (2 : Int) (s0) M ∧ True) := by
  exact ⟨Eq.mpr hp_140 ⟨2, by decide, by decide, by rw [show qwn 2 = 2003398244 by decide]; omega⟩, trivial⟩
theorem rul_130 : Rul r_130 := by
  refine ⟨fun _ ρ M hm hB hF hG => ?_, fun gi gv hg => (by cases hg)⟩
  have H := cr_130 M (ρ 0) (hB _ List.mem_cons_self) (by have h := hF _ List.mem_cons_self; have h : 0 ≤ 2003398244 + ((-1) * ρ 0 + 0) := h; omega) (by have h := hF _ (List.mem_cons_of_mem _ List.mem_cons_self); have h : 0 ≤ (-2003398244) + (1 * ρ 0 + 0) := h; omega) hG
  obtain ⟨k0, -⟩ := H
  exact ⟨_, List.mem_cons_self, ρ, fun _ _ => rfl, (okM_c (pvp 140 (by show 2 + 0 = _; omega) (by show 0 + (1 * ρ 0 + 0) = _; omega) k0) okM_n), okB_n, okF_n⟩
-- nk4_0
theorem cr_131 (M : pM) (s0 : Int) (b0 : (-9223372036854775808) ≤ s0 ∧ s0 ≤ 9223372036854775807) (m0 : HP 142 (3 : Int) (s0) M) (f0 : 0 ≤ ((-1) * s0 + 7630703)) (hG : gI M) : (HP 142 (4 : Int) (s0) M ∧ True) := by
  exact ⟨Eq.mpr hp_142 (fun k h1 h2 => if e : k = 3 then (by subst e; exact qwn_v 7630704 (by decide) (by omega)) else Eq.mp hp_142 m0 k h1 (by omega)), trivial⟩
theorem rul_131 : Rul r_131 := by
  refine ⟨fun _ ρ M hm hB hF hG => ?_, fun gi gv hg => (by cases hg)⟩
  have H := cr_131 M (ρ 0) (hB _ List.mem_cons_self) (cvp 142 (x' := (3 : Int)) (y' := ((ρ 0))) (by show 3 + 0 = _; omega) (by show 0 + (1 * ρ 0 + 0) = _; omega) (hm _ List.mem_cons_self)) (by have h := hF _ List.mem_cons_self; have h : 0 ≤ 7630703 + ((-1) * ρ 0 + 0) := h; omega) hG
  obtain ⟨k0, -⟩ := H
  exact ⟨_, List.mem_cons_self, ρ, fun _ _ => rfl, (okM_c (pvp 142 (by show 4 + 0 = _; omega) (by show 0 + (1 * ρ 0 + 0) = _; omega) k0) okM_n), okB_n, okF_n⟩
-- nk4_1
theorem cr_132 (M : pM) (s0 : Int) (b0 : (-9223372036854775808) ≤ s0 ∧ s0 ≤ 9223372036854775807) (m0 : HP 142 (3 : Int) (s0) M) (f0 : 0 ≤ (s0 - 7630705)) (hG : gI M) : (HP 142 (4 : Int) (s0) M ∧ True) := by
  exact ⟨Eq.mpr hp_142 (fun k h1 h2 => if e : k = 3 then (by subst e; exact qwn_v 7630704 (by decide) (by omega)) else Eq.mp hp_142 m0 k h1 (by omega)), trivial⟩
theorem rul_132 : Rul r_132 := by
  refine ⟨fun _ ρ M hm hB hF hG => ?_, fun gi gv hg => (by cases hg)⟩
  have H := cr_132 M (ρ 0) (hB _ List.mem_cons_self) (cvp 142 (x' := (3 : Int)) (y' := ((ρ 0))) (by show 3 + 0 = _; omega) (by show 0 + (1 * ρ 0 + 0) = _; omega) (hm _ List.mem_cons_self)) (by have h := hF _ List.mem_cons_self; have h : 0 ≤ (-7630705) + (1 * ρ 0 + 0) := h; omega) hG
  obtain ⟨k0, -⟩ := H
  exact ⟨_, List.mem_cons_self, ρ, fun _ _ => rfl, (okM_c (pvp 142 (by show 4 + 0 = _; omega) (by show 0 + (1 * ρ 0 + 0) = _; omega) k0) okM_n), okB_n, okF_n⟩
-- wk3
theorem cr_133 (M : pM) (s0 : Int) (b0 : (-9223372036854775808) ≤ s0 ∧ s0 ≤ 9223372036854775807) (f0 : 0 ≤ ((-1) * s0 + 7630704)) (f1 : 0 ≤ (s0 - 7630704)) (hG : gI M) : (HP 140 (3 : Int) (s0) M ∧ True) := by
  exact ⟨Eq.mpr hp_140 ⟨3, by decide, by decide, by rw [show qwn 3 = 7630704 by decide]; omega⟩, trivial⟩
theorem rul_133 : Rul r_133 := by
  refine ⟨fun _ ρ M hm hB hF hG => ?_, fun gi gv hg => (by cases hg)⟩
  have H := cr_133 M (ρ 0) (hB _ List.mem_cons_self) (by have h := hF _ List.mem_cons_self; have h : 0 ≤ 7630704 + ((-1) * ρ 0 + 0) := h; omega) (by have h := hF _ (List.mem_cons_of_mem _ List.mem_cons_self); have h : 0 ≤ (-7630704) + (1 * ρ 0 + 0) := h; omega) hG
  obtain ⟨k0, -⟩ := H
  exact ⟨_, List.mem_cons_self, ρ, fun _ _ => rfl, (okM_c (pvp 140 (by show 3 + 0 = _; omega) (by show 0 + (1 * ρ 0 + 0) = _; omega) k0) okM_n), okB_n, okF_n⟩
-- nk5_0
theorem cr_134 (M : pM) (s0 : Int) (b0 : (-9223372036854775808) ≤ s0 ∧ s0 ≤ 9223372036854775807) (m0 : HP 142 (4 : Int) (s0) M) (f0 : 0 ≤ ((-1) * s0 + 2002873451)) (hG : gI M) : (HP 142 (5 : Int) (s0) M ∧ True) := by
  exact ⟨Eq.mpr hp_142 (fun k h1 h2 => if e : k = 4 then (by subst e; exact qwn_v 2002873452 (by decide) (by omega)) else Eq.mp hp_142 m0 k h1 (by omega)), trivial⟩
theorem rul_134 : Rul r_134 := by
  refine ⟨fun _ ρ M hm hB hF hG => ?_, fun gi gv hg => (by cases hg)⟩
  have H := cr_134 M (ρ 0) (hB _ List.mem_cons_self) (cvp 142 (x' := (4 : Int)) (y' := ((ρ 0))) (by show 4 + 0 = _; omega) (by show 0 + (1 * ρ 0 + 0) = _; omega) (hm _ List.mem_cons_self)) (by have h := hF _ List.mem_cons_self; have h : 0 ≤ 2002873451 + ((-1) * ρ 0 + 0) := h; omega) hG
  obtain ⟨k0, -⟩ := H
  exact ⟨_, List.mem_cons_self, ρ, fun _ _ => rfl, (okM_c (pvp 142 (by show 5 + 0 = _; omega) (by show 0 + (1 * ρ 0 + 0) = _; omega) k0) okM_n), okB_n, okF_n⟩
-- nk5_1
theorem cr_135 (M : pM) (s0 : Int) (b0 : (-9223372036854775808) ≤ s0 ∧ s0 ≤ 9223372036854775807) (m0 : HP 142 (4 : Int) (s0) M) (f0 : 0 ≤ (s0 - 2002873453)) (hG : gI M) : (HP 142 (5 : Int) (s0) M ∧ True) := by
  exact ⟨Eq.mpr hp_142 (fun k h1 h2 => if e : k = 4 then (by subst e; exact qwn_v 2002873452 (by decide) (by omega)) else Eq.mp hp_142 m0 k h1 (by omega)), trivial⟩
theorem rul_135 : Rul r_135 := by
  refine ⟨fun _ ρ M hm hB hF hG => ?_, fun gi gv hg => (by cases hg)⟩
  have H := cr_135 M (ρ 0) (hB _ List.mem_cons_self) (cvp 142 (x' := (4 : Int)) (y' := ((ρ 0))) (by show 4 + 0 = _; omega) (by show 0 + (1 * ρ 0 + 0) = _; omega) (hm _ List.mem_cons_self)) (by have h := hF _ List.mem_cons_self; have h : 0 ≤ (-2002873453) + (1 * ρ 0 + 0) := h; omega) hG
  obtain ⟨k0, -⟩ := H
  exact ⟨_, List.mem_cons_self, ρ, fun _ _ => rfl, (okM_c (pvp 142 (by show 5 + 0 = _; omega) (by show 0 + (1 * ρ 0 + 0) = _; omega) k0) okM_n), okB_n, okF_n⟩
-- wk4
theorem cr_136 (M : pM) (s0 : Int) (b0 : (-9223372036854775808) ≤ s0 ∧ s0 ≤ 9223372036854775807) (f0 : 0 ≤ ((-1) * s0 + 2002873452)) (f1 : 0 ≤ (s0 - 2002873452)) (hG : gI M) : (HP 140 (4 : Int) (s0) M ∧ True) := by
  exact ⟨Eq.mpr hp_140 ⟨4, by decide, by decide, by rw [show qwn 4 = 2002873452 by decide]; omega⟩, trivial⟩
theorem rul_136 : Rul r_136 := by
  refine ⟨fun _ ρ M hm hB hF hG => ?_, fun gi gv hg => (by cases hg)⟩
  have H := cr_136 M (ρ 0) (hB _ List.mem_cons_self) (by have h := hF _ List.mem_cons_self; have h : 0 ≤ 2002873452 + ((-1) * ρ 0 + 0) := h; omega) (by have h := hF _ (List.mem_cons_of_mem _ List.mem_cons_self); have h : 0 ≤ (-2002873452) + (1 * ρ 0 + 0) := h; omega) hG
  obtain ⟨k0, -⟩ := H
  exact ⟨_, List.mem_cons_self, ρ, fun _ _ => rfl, (okM_c (pvp 140 (by show 4 + 0 = _; omega) (by show 0 + (1 * ρ 0 + 0) = _; omega) k0) okM_n), okB_n, okF_n⟩
-- nk6_0
theorem cr_137 (M : pM) (s0 : Int) (b0 : (-9223372036854775808) ≤ s0 ∧ s0 ≤ 9223372036854775807) (m0 : HP 142 (5 : Int) (s0) M) (f0 : 0 ≤ ((-1) * s0 + 418263299684)) (hG : gI M) : (HP 142 (6 : Int) (s0) M ∧ True) := by
  exact ⟨Eq.mpr hp_142 (fun k h1 h2 => if e : k = 5 then (by subst e; exact qwn_v 418263299685 (by decide) (by omega)) else Eq.mp hp_142 m0 k h1 (by omega)), trivial⟩
theorem rul_137 : Rul r_137 := by
  refine ⟨fun _ ρ M hm hB hF hG => ?_, fun gi gv hg => (by cases hg)⟩
  have H := cr_137 M (ρ 0) (hB _ List.mem_cons_self) (cvp 142 (x' := (5 : Int)) (y' := ((ρ 0))) (by show 5 + 0 = _; omega) (by show 0 + (1 * ρ 0 + 0) = _; omega) (hm _ List.mem_cons_self)) (by have h := hF _ List.mem_cons_self; have h : 0 ≤ 418263299684 + ((-1) * ρ 0 + 0) := h; omega) hG
  obtain ⟨k0, -⟩ := H
  exact ⟨_, List.mem_cons_self, ρ, fun _ _ => rfl, (okM_c (pvp 142 (by show 6 + 0 = _; omega) (by show 0 + (1 * ρ 0 + 0) = _; omega) k0) okM_n), okB_n, okF_n⟩
-- nk6_1
theorem cr_138 (M : pM) (s0 : Int) (b0 : (-9223372036854775808) ≤ s0 ∧ s0 ≤ 9223372036854775807) (m0 : HP 142 (5 : Int) (s0) M) (f0 : 0 ≤ (s0 - 418263299686)) (hG : gI M) : (HP 142 (6 : Int) (s0) M ∧ True) := by
  exact ⟨Eq.mpr hp_142 (fun k h1 h2 => if e : k = 5 then (by subst e; exact qwn_v 418263299685 (by decide) (by omega)) else Eq.mp hp_142 m0 k h1 (by omega)), trivial⟩
theorem rul_138 : Rul r_138 := by
  refine ⟨fun _ ρ M hm hB hF hG => ?_, fun gi gv hg => (by cases hg)⟩
  have H := cr_138 M (ρ 0) (hB _ List.mem_cons_self) (cvp 142 (x' := (5 : Int)) (y' := ((ρ 0))) (by show 5 + 0 = _; omega) (by show 0 + (1 * ρ 0 + 0) = _; omega) (hm _ List.mem_cons_self)) (by have h := hF _ List.mem_cons_self; have h : 0 ≤ (-418263299686) + (1 * ρ 0 + 0) := h; omega) hG
  obtain ⟨k0, -⟩ := H
  exact ⟨_, List.mem_cons_self, ρ, fun _ _ => rfl, (okM_c (pvp 142 (by show 6 + 0 = _; omega) (by show 0 + (1 * ρ 0 + 0) = _; omega) k0) okM_n), okB_n, okF_n⟩
-- wk5
theorem cr_139 (M : pM) (s0 : Int) (b0 : (-9223372036854775808) ≤ s0 ∧ s0 ≤ 9223372036854775807) (f0 : 0 ≤ ((-1) * s0 + 418263299685)) (f1 : 0 ≤ (s0 - 418263299685)) (hG : gI M) : (HP 140 (5 : Int) (s0) M ∧ True) := by
  exact ⟨Eq.mpr hp_140 ⟨5, by decide, by decide, by rw [show qwn 5 = 418263299685 by decide]; omega⟩, trivial⟩
theorem rul_139 : Rul r_139 := by
  refine ⟨fun _ ρ M hm hB hF hG => ?_, fun gi gv hg => (by cases hg)⟩
  have H := cr_139 M (ρ 0) (hB _ List.mem_cons_self) (by have h := hF _ List.mem_cons_self; have h : 0 ≤ 418263299685 + ((-1) * ρ 0 + 0) := h; omega) (by have h := hF _ (List.mem_cons_of_mem _ List.mem_cons_self); have h : 0 ≤ (-418263299685) + (1 * ρ 0 + 0) := h; omega) hG
  obtain ⟨k0, -⟩ := H
  exact ⟨_, List.mem_cons_self, ρ, fun _ _ => rfl, (okM_c (pvp 140 (by show 5 + 0 = _; omega) (by show 0 + (1 * ρ 0 + 0) = _; omega) k0) okM_n), okB_n, okF_n⟩
-- nk7_0
theorem cr_140 (M : pM) (s0 : Int) (b0 : (-9223372036854775808) ≤ s0 ∧ s0 ≤ 9223372036854775807) (m0 : HP 142 (6 : Int) (s0) M) (f0 : 0 ≤ ((-1) * s0 + 1718775660)) (hG : gI M) : (HP 142 (7 : Int) (s0) M ∧ True) := by
  exact ⟨Eq.mpr hp_142 (fun k h1 h2 => if e : k = 6 then (by subst e; exact qwn_v 1718775661 (by decide) (by omega)) else Eq.mp hp_142 m0 k h1 (by omega)), trivial⟩
theorem rul_140 : Rul r_140 := by
  refine ⟨fun _ ρ M hm hB hF hG => ?_, fun gi gv hg => (by cases hg)⟩
  have H := cr_140 M (ρ 0) (hB _ List.mem_cons_self) (cvp 142 (x' := (6 : Int)) (y' := ((ρ 0))) (by show 6 + 0 = _; omega) (by show 0 + (1 * ρ 0 + 0) = _; omega) (hm _ List.mem_cons_self)) (by have h := hF _ List.mem_cons_self; have h : 0 ≤ 1718775660 + ((-1) * ρ 0 + 0) := h; omega) hG
  obtain ⟨k0, -⟩ := H
  exact ⟨_, List.mem_cons_self, ρ, fun _ _ => rfl, (okM_c (pvp 142 (by show 7 + 0 = _; omega) (by show 0 + (1 * ρ 0 + 0) = _; omega) k0) okM_n), okB_n, okF_n⟩
-- nk7_1
theorem cr_141 (M : pM) (s0 : Int) (b0 : (-9223372036854775808) ≤ s0 ∧ s0 ≤ 9223372036854775807) (m0 : HP 142 (6 : Int) (s0) M) (f0 : 0 ≤ (s0 - 1718775662)) (hG : gI M) : (HP 142 (7 : Int) (s0) M ∧ True) := by
  exact ⟨Eq.mpr hp_142 (fun k h1 h2 => if e : k = 6 then (by subst e; exact qwn_v 1718775661 (by decide) (by omega)) else Eq.mp hp_142 m0 k h1 (by omega)), trivial⟩
theorem rul_141 : Rul r_141 := by
  refine ⟨fun _ ρ M hm hB hF hG => ?_, fun gi gv hg => (by cases hg)⟩
  have H := cr_141 M (ρ 0) (hB _ List.mem_cons_self) (cvp 142 (x' := (6 : Int)) (y' := ((ρ 0))) (by show 6 + 0 = _; omega) (by show 0 + (1 * ρ 0 + 0) = _; omega) (hm _ List.mem_cons_self)) (by have h := hF _ List.mem_cons_self; have h : 0 ≤ (-1718775662) + (1 * ρ 0 + 0) := h; omega) hG
  obtain ⟨k0, -⟩ := H
  exact ⟨_, List.mem_cons_self, ρ, fun _ _ => rfl, (okM_c (pvp 142 (by show 7 + 0 = _; omega) (by show 0 + (1 * ρ 0 + 0) = _; omega) k0) okM_n), okB_n, okF_n⟩
-- wk6
theorem cr_142 (M : pM) (s0 : Int) (b0 : (-9223372036854775808) ≤ s0 ∧ s0 ≤ 9223372036854775807) (f0 : 0 ≤ ((-1) * s0 + 1718775661)) (f1 : 0 ≤ (s0 - 1718775661)) (hG : gI M) : (HP 140 (6 : Int) (s0) M ∧ True) := by
  exact ⟨Eq.mpr hp_140 ⟨6, by decide, by decide, by rw [show qwn 6 = 1718775661 by decide]; omega⟩, trivial⟩
theorem rul_142 : Rul r_142 := by
  refine ⟨fun _ ρ M hm hB hF hG => ?_, fun gi gv hg => (by cases hg)⟩
  have H := cr_142 M (ρ 0) (hB _ List.mem_cons_self) (by have h := hF _ List.mem_cons_self; have h : 0 ≤ 1718775661 + ((-1) * ρ 0 + 0) := h; omega) (by have h := hF _ (List.mem_cons_of_mem _ List.mem_cons_self); have h : 0 ≤ (-1718775661) + (1 * ρ 0 + 0) := h; omega) hG
  obtain ⟨k0, -⟩ := H
  exact ⟨_, List.mem_cons_self, ρ, fun _ _ => rfl, (okM_c (pvp 140 (by show 6 + 0 = _; omega) (by show 0 + (1 * ρ 0 + 0) = _; omega) k0) okM_n), okB_n, okF_n⟩
-- nk8_0
theorem cr_143 (M : pM) (s0 : Int) (b0 : (-9223372036854775808) ≤ s0 ∧ s0 ≤ 9223372036854775807) (m0 : HP 142 (7 : Int) (s0) M) (f0 : 0 ≤ ((-1) * s0 + 29806)) (hG : gI M) : (HP 142 (8 : Int) (s0) M ∧ True) := by
  exact ⟨Eq.mpr hp_142 (fun k h1 h2 => if e : k = 7 then (by subst e; exact qwn_v 29807 (by decide) (by omega)) else Eq.mp hp_142 m0 k h1 (by omega)), trivial⟩
theorem rul_143 : Rul r_143 := by
  refine ⟨fun _ ρ M hm hB hF hG => ?_, fun gi gv hg => (by cases hg)⟩
  have H := cr_143 M (ρ 0) (hB _ List.mem_cons_self) (cvp 142 (x' := (7 : Int)) (y' := ((ρ 0))) (by show 7 + 0 = _; omega) (by show 0 + (1 * ρ 0 + 0) = _; omega) (hm _ List.mem_cons_self)) (by have h := hF _ List.mem_cons_self; have h : 0 ≤ 29806 + ((-1) * ρ 0 + 0) := h; omega) hG
  obtain ⟨k0, -⟩ := H
  exact ⟨_, List.mem_cons_self, ρ, fun _ _ => rfl, (okM_c (pvp 142 (by show 8 + 0 = _; omega) (by show 0 + (1 * ρ 0 + 0) = _; omega) k0) okM_n), okB_n, okF_n⟩
-- nk8_1
theorem cr_144 (M : pM) (s0 : Int) (b0 : (-9223372036854775808) ≤ s0 ∧ s0 ≤ 9223372036854775807) (m0 : HP 142 (7 : Int) (s0) M) (f0 : 0 ≤ (s0 - 29808)) (hG : gI M) : (HP 142 (8 : Int) (s0) M ∧ True) := by
  exact ⟨Eq.mpr hp_142 (fun k h1 h2 => if e : k = 7 then (by subst e; exact qwn_v 29807 (by decide) (by omega)) else Eq.mp hp_142 m0 k h1 (by omega)), trivial⟩
theorem rul_144 : Rul r_144 := by
  refine ⟨fun _ ρ M hm hB hF hG => ?_, fun gi gv hg => (by cases hg)⟩
  have H := cr_144 M (ρ 0) (hB _ List.mem_cons_self) (cvp 142 (x' := (7 : Int)) (y' := ((ρ 0))) (by show 7 + 0 = _; omega) (by show 0 + (1 * ρ 0 + 0) = _; omega) (hm _ List.mem_cons_self)) (by have h := hF _ List.mem_cons_self; have h : 0 ≤ (-29808) + (1 * ρ 0 + 0) := h; omega) hG
  obtain ⟨k0, -⟩ := H
  exact ⟨_, List.mem_cons_self, ρ, fun _ _ => rfl, (okM_c (pvp 142 (by show 8 + 0 = _; omega) (by show 0 + (1 * ρ 0 + 0) = _; omega) k0) okM_n), okB_n, okF_n⟩
-- wk7
theorem cr_145 (M : pM) (s0 : Int) (b0 : (-9223372036854775808) ≤ s0 ∧ s0 ≤ 9223372036854775807) (f0 : 0 ≤ ((-1) * s0 + 29807)) (f1 : 0 ≤ (s0 - 29807)) (hG : gI M) : (HP 140 (7 : Int) (s0) M ∧ True) := by
  exact ⟨Eq.mpr hp_140 ⟨7, by decide, by decide, by rw [show qwn 7 = 29807 by decide]; omega⟩, trivial⟩
theorem rul_145 : Rul r_145 := by
  refine ⟨fun _ ρ M hm hB hF hG => ?_, fun gi gv hg => (by cases hg)⟩
  have H := cr_145 M (ρ 0) (hB _ List.mem_cons_self) (by have h := hF _ List.mem_cons_self; have h : 0 ≤ 29807 + ((-1) * ρ 0 + 0) := h; omega) (by have h := hF _ (List.mem_cons_of_mem _ List.mem_cons_self); have h : 0 ≤ (-29807) + (1 * ρ 0 + 0) := h; omega) hG
  obtain ⟨k0, -⟩ := H
  exact ⟨_, List.mem_cons_self, ρ, fun _ _ => rfl, (okM_c (pvp 140 (by show 7 + 0 = _; omega) (by show 0 + (1 * ρ 0 + 0) = _; omega) k0) okM_n), okB_n, okF_n⟩
-- nk9_0
theorem cr_146 (M : pM) (s0 : Int) (b0 : (-9223372036854775808) ≤ s0 ∧ s0 ≤ 9223372036854775807) (m0 : HP 142 (8 : Int) (s0) M) (f0 : 0 ≤ ((-1) * s0 + 439854918755)) (hG : gI M) : (HP 142 (9 : Int) (s0) M ∧ True) := by
  exact ⟨Eq.mpr hp_142 (fun k h1 h2 => if e : k = 8 then (by subst e; exact qwn_v 439854918756 (by decide) (by omega)) else Eq.mp hp_142 m0 k h1 (by omega)), trivial⟩
theorem rul_146 : Rul r_146 := by
  refine ⟨fun _ ρ M hm hB hF hG => ?_, fun gi gv hg => (by cases hg)⟩
  have H := cr_146 M (ρ 0) (hB _ List.mem_cons_self) (cvp 142 (x' := (8 : Int)) (y' := ((ρ 0))) (by show 8 + 0 = _; omega) (by show 0 + (1 * ρ 0 + 0) = _; omega) (hm _ List.mem_cons_self)) (by have h := hF _ List.mem_cons_self; have h : 0 ≤ 439854918755 + ((-1) * ρ 0 + 0) := h; omega) hG
  obtain ⟨k0, -⟩ := H
  exact ⟨_, List.mem_cons_self, ρ, fun _ _ => rfl, (okM_c (pvp 142 (by show 9 + 0 = _; omega) (by show 0 + (1 * ρ 0 + 0) = _; omega) k0) okM_n), okB_n, okF_n⟩
-- nk9_1
theorem cr_147 (M : pM) (s0 : Int) (b0 : (-9223372036854775808) ≤ s0 ∧ s0 ≤ 9223372036854775807) (m0 : HP 142 (8 : Int) (s0) M) (f0 : 0 ≤ (s0 - 439854918757)) (hG : gI M) : (HP 142 (9 : Int) (s0) M ∧ True) := by
  exact ⟨Eq.mpr hp_142 (fun k h1 h2 => if e : k = 8 then (by subst e; exact qwn_v 439854918756 (by decide) (by omega)) else Eq.mp hp_142 m0 k h1 (by omega)), trivial⟩
theorem rul_147 : Rul r_147 := by
  refine ⟨fun _ ρ M hm hB hF hG => ?_, fun gi gv hg => (by cases hg)⟩
  have H := cr_147 M (ρ 0) (hB _ List.mem_cons_self) (cvp 142 (x' := (8 : Int)) (y' := ((ρ 0))) (by show 8 + 0 = _; omega) (by show 0 + (1 * ρ 0 + 0) = _; omega) (hm _ List.mem_cons_self)) (by have h := hF _ List.mem_cons_self; have h : 0 ≤ (-439854918757) + (1 * ρ 0 + 0) := h; omega) hG
  obtain ⟨k0, -⟩ := H
  exact ⟨_, List.mem_cons_self, ρ, fun _ _ => rfl, (okM_c (pvp 142 (by show 9 + 0 = _; omega) (by show 0 + (1 * ρ 0 + 0) = _; omega) k0) okM_n), okB_n, okF_n⟩
-- wk8
theorem cr_148 (M : pM) (s0 : Int) (b0 : (-9223372036854775808) ≤ s0 ∧ s0 ≤ 9223372036854775807) (f0 : 0 ≤ ((-1) * s0 + 439854918756)) (f1 : 0 ≤ (s0 - 439854918756)) (hG : gI M) : (HP 140 (8 : Int) (s0) M ∧ True) := by
  exact ⟨Eq.mpr hp_140 ⟨8, by decide, by decide, by rw [show qwn 8 = 439854918756 by decide]; omega⟩, trivial⟩
theorem rul_148 : Rul r_148 := by
  refine ⟨fun _ ρ M hm hB hF hG => ?_, fun gi gv hg => (by cases hg)⟩
  have H := cr_148 M (ρ 0) (hB _ List.mem_cons_self) (by have h := hF _ List.mem_cons_self; have h : 0 ≤ 439854918756 + ((-1) * ρ 0 + 0) := h; omega) (by have h := hF _ (List.mem_cons_of_mem _ List.mem_cons_self); have h : 0 ≤ (-439854918756) + (1 * ρ 0 + 0) := h; omega) hG
  obtain ⟨k0, -⟩ := H
  exact ⟨_, List.mem_cons_self, ρ, fun _ _ => rfl, (okM_c (pvp 140 (by show 8 + 0 = _; omega) (by show 0 + (1 * ρ 0 + 0) = _; omega) k0) okM_n), okB_n, okF_n⟩
-- nk10_0
theorem cr_149 (M : pM) (s0 : Int) (b0 : (-9223372036854775808) ≤ s0 ∧ s0 ≤ 9223372036854775807) (m0 : HP 142 (9 : Int) (s0) M) (f0 : 0 ≤ ((-1) * s0 + 1919902051)) (hG : gI M) : (HP 142 (10 : Int) (s0) M ∧ True) := by
  exact ⟨Eq.mpr hp_142 (fun k h1 h2 => if e : k = 9 then (by subst e; exact qwn_v 1919902052 (by decide) (by omega)) else Eq.mp hp_142 m0 k h1 (by omega)), trivial⟩
theorem rul_149 : Rul r_149 := by
  refine ⟨fun _ ρ M hm hB hF hG => ?_, fun gi gv hg => (by cases hg)⟩
  have H := cr_149 M (ρ 0) (hB _ List.mem_cons_self) (cvp 142 (x' := (9 : Int)) (y' := ((ρ 0))) (by show 9 + 0 = _; omega) (by show 0 + (1 * ρ 0 + 0) = _; omega) (hm _ List.mem_cons_self)) (by have h := hF _ List.mem_cons_self; have h : 0 ≤ 1919902051 + ((-1) * ρ 0 + 0) := h; omega) hG
  obtain ⟨k0, -⟩ := H
  exact ⟨_, List.mem_cons_self, ρ, fun _ _ => rfl, (okM_c (pvp 142 (by show 10 + 0 = _; omega) (by show 0 + (1 * ρ 0 + 0) = _; omega) k0) okM_n), okB_n, okF_n⟩
-- nk10_1
theorem cr_150 (M : pM) (s0 : Int) (b0 : (-9223372036854775808) ≤ s0 ∧ s0 ≤ 9223372036854775807) (m0 : HP 142 (9 : Int) (s0) M) (f0 : 0 ≤ (s0 - 1919902053)) (hG : gI M) : (HP 142 (10 : Int) (s0) M ∧ True) := by
  exact ⟨Eq.mpr hp_142 (fun k h1 h2 => if e : k = 9 then (by subst e; exact qwn_v 1919902052 (by decide) (by omega)) else Eq.mp hp_142 m0 k h1 (by omega)), trivial⟩
theorem rul_150 : Rul r_150 := by
  refine ⟨fun _ ρ M hm hB hF hG => ?_, fun gi gv hg => (by cases hg)⟩
  have H := cr_150 M (ρ 0) (hB _ List.mem_cons_self) (cvp 142 (x' := (9 : Int)) (y' := ((ρ 0))) (by show 9 + 0 = _; omega) (by show 0 + (1 * ρ 0 + 0) = _; omega) (hm _ List.mem_cons_self)) (by have h := hF _ List.mem_cons_self; have h : 0 ≤ (-1919902053) + (1 * ρ 0 + 0) := h; omega) hG
  obtain ⟨k0, -⟩ := H
  exact ⟨_, List.mem_cons_self, ρ, fun _ _ => rfl, (okM_c (pvp 142 (by show 10 + 0 = _; omega) (by show 0 + (1 * ρ 0 + 0) = _; omega) k0) okM_n), okB_n, okF_n⟩
-- wk9
theorem cr_151 (M : pM) (s0 : Int) (b0 : (-9223372036854775808) ≤ s0 ∧ s0 ≤ 9223372036854775807) (f0 : 0 ≤ ((-1) * s0 + 1919902052)) (f1 : 0 ≤ (s0 - 1919902052)) (hG : gI M) : (HP 140 (9 : Int) (s0) M ∧ True) := by
  exact ⟨Eq.mpr hp_140 ⟨9, by decide, by decide, by rw [show qwn 9 = 1919902052 by decide]; omega⟩, trivial⟩
theorem rul_151 : Rul r_151 := by
  refine ⟨fun _ ρ M hm hB hF hG => ?_, fun gi gv hg => (by cases hg)⟩
  have H := cr_151 M (ρ 0) (hB _ List.mem_cons_self) (by have h := hF _ List.mem_cons_self; have h : 0 ≤ 1919902052 + ((-1) * ρ 0 + 0) := h; omega) (by have h := hF _ (List.mem_cons_of_mem _ List.mem_cons_self); have h : 0 ≤ (-1919902052) + (1 * ρ 0 + 0) := h; omega) hG
  obtain ⟨k0, -⟩ := H
  exact ⟨_, List.mem_cons_self, ρ, fun _ _ => rfl, (okM_c (pvp 140 (by show 9 + 0 = _; omega) (by show 0 + (1 * ρ 0 + 0) = _; omega) k0) okM_n), okB_n, okF_n⟩
-- nk11_0
theorem cr_152 (M : pM) (s0 : Int) (b0 : (-9223372036854775808) ≤ s0 ∧ s0 ≤ 9223372036854775807) (m0 : HP 142 (10 : Int) (s0) M) (f0 : 0 ≤ ((-1) * s0 + 113715322316145)) (hG : gI M) : (HP 142 (11 : Int) (s0) M ∧ True) := by
  exact ⟨Eq.mpr hp_142 (fun k h1 h2 => if e : k = 10 then (by subst e; exact qwn_v 113715322316146 (by decide) (by omega)) else Eq.mp hp_142 m0 k h1 (by omega)), trivial⟩
theorem rul_152 : Rul r_152 := by
  refine ⟨fun _ ρ M hm hB hF hG => ?_, fun gi gv hg => (by cases hg)⟩
  have H := cr_152 M (ρ 0) (hB _ List.mem_cons_self) (cvp 142 (x' := (10 : Int)) (y' := ((ρ 0))) (by show 10 + 0 = _; omega) (by show 0 + (1 * ρ 0 + 0) = _; omega) (hm _ List.mem_cons_self)) (by have h := hF _ List.mem_cons_self; have h : 0 ≤ 113715322316145 + ((-1) * ρ 0 + 0) := h; omega) hG
  obtain ⟨k0, -⟩ := H
  exact ⟨_, List.mem_cons_self, ρ, fun _ _ => rfl, (okM_c (pvp 142 (by show 11 + 0 = _; omega) (by show 0 + (1 * ρ 0 + 0) = _; omega) k0) okM_n), okB_n, okF_n⟩
-- nk11_1
theorem cr_153 (M : pM) (s0 : Int) (b0 : (-9223372036854775808) ≤ s0 ∧ s0 ≤ 9223372036854775807) (m0 : HP 142 (10 : Int) (s0) M) (f0 : 0 ≤ (s0 - 113715322316147)) (hG : gI M) : (HP 142 (11 : Int) (s0) M ∧ True) := by
  exact ⟨Eq.mpr hp_142 (fun k h1 h2 => if e : k = 10 then (by subst e; exact qwn_v 113715322316146 (by decide) (by omega)) else Eq.mp hp_142 m0 k h1 (by omega)), trivial⟩
theorem rul_153 : Rul r_153 := by
  refine ⟨fun _ ρ M hm hB hF hG => ?_, fun gi gv hg => (by cases hg)⟩
  have H := cr_153 M (ρ 0) (hB _ List.mem_cons_self) (cvp 142 (x' := (10 : Int)) (y' := ((ρ 0))) (by show 10 + 0 = _; omega) (by show 0 + (1 * ρ 0 + 0) = _; omega) (hm _ List.mem_cons_self)) (by have h := hF _ List.mem_cons_self; have h : 0 ≤ (-113715322316147) + (1 * ρ 0 + 0) := h; omega) hG
  obtain ⟨k0, -⟩ := H
  exact ⟨_, List.mem_cons_self, ρ, fun _ _ => rfl, (okM_c (pvp 142 (by show 11 + 0 = _; omega) (by show 0 + (1 * ρ 0 + 0) = _; omega) k0) okM_n), okB_n, okF_n⟩
-- wk10
theorem cr_154 (M : pM) (s0 : Int) (b0 : (-9223372036854775808) ≤ s0 ∧ s0 ≤ 9223372036854775807) (f0 : 0 ≤ ((-1) * s0 + 113715322316146)) (f1 : 0 ≤ (s0 - 113715322316146)) (hG : gI M) : (HP 140 (10 : Int) (s0) M ∧ True) := by
  exact ⟨Eq.mpr hp_140 ⟨10, by decide, by decide, by rw [show qwn 10 = 113715322316146 by decide]; omega⟩, trivial⟩
theorem rul_154 : Rul r_154 := by
  refine ⟨fun _ ρ M hm hB hF hG => ?_, fun gi gv hg => (by cases hg)⟩
  have H := cr_154 M (ρ 0) (hB _ List.mem_cons_self) (by have h := hF _ List.mem_cons_self; have h : 0 ≤ 113715322316146 + ((-1) * ρ 0 + 0) := h; omega) (by have h := hF _ (List.mem_cons_of_mem _ List.mem_cons_self); have h : 0 ≤ (-113715322316146) + (1 * ρ 0 + 0) := h; omega) hG
  obtain ⟨k0, -⟩ := H
  exact ⟨_, List.mem_cons_self, ρ, fun _ _ => rfl, (okM_c (pvp 140 (by show 10 + 0 = _; omega) (by show 0 + (1 * ρ 0 + 0) = _; omega) k0) okM_n), okB_n, okF_n⟩
-- nk12_0
theorem cr_155 (M : pM) (s0 : Int) (b0 : (-9223372036854775808) ≤ s0 ∧ s0 ≤ 9223372036854775807) (m0 : HP 142 (11 : Int) (s0) M) (f0 : 0 ≤ ((-1) * s0 + 1936289386)) (hG : gI M) : (HP 142 (12 : Int) (s0) M ∧ True) := by
  exact ⟨Eq.mpr hp_142 (fun k h1 h2 => if e : k = 11 then (by subst e; exact qwn_v 1936289387 (by decide) (by omega)) else Eq.mp hp_142 m0 k h1 (by omega)), trivial⟩
theorem rul_155 : Rul r_155 := by
  refine ⟨fun _ ρ M hm hB hF hG => ?_, fun gi gv hg => (by cases hg)⟩
  have H := cr_155 M (ρ 0) (hB _ List.mem_cons_self) (cvp 142 (x' := (11 : Int)) (y' := ((ρ 0))) (by show 11 + 0 = _; omega) (by show 0 + (1 * ρ 0 + 0) = _; omega) (hm _ List.mem_cons_self)) (by have h := hF _ List.mem_cons_self; have h : 0 ≤ 1936289386 + ((-1) * ρ 0 + 0) := h; omega) hG
  obtain ⟨k0, -⟩ := H
  exact ⟨_, List.mem_cons_self, ρ, fun _ _ => rfl, (okM_c (pvp 142 (by show 12 + 0 = _; omega) (by show 0 + (1 * ρ 0 + 0) = _; omega) k0) okM_n), okB_n, okF_n⟩
-- nk12_1
theorem cr_156 (M : pM) (s0 : Int) (b0 : (-9223372036854775808) ≤ s0 ∧ s0 ≤ 9223372036854775807) (m0 : HP 142 (11 : Int) (s0) M) (f0 : 0 ≤ (s0 - 1936289388)) (hG : gI M) : (HP 142 (12 : Int) (s0) M ∧ True) := by
  exact ⟨Eq.mpr hp_142 (fun k h1 h2 => if e : k = 11 then (by subst e; exact qwn_v 1936289387 (by decide) (by omega)) else Eq.mp hp_142 m0 k h1 (by omega)), trivial⟩
theorem rul_156 : Rul r_156 := by
  refine ⟨fun _ ρ M hm hB hF hG => ?_, fun gi gv hg => (by cases hg)⟩
  have H := cr_156 M (ρ 0) (hB _ List.mem_cons_self) (cvp 142 (x' := (11 : Int)) (y' := ((ρ 0))) (by show 11 + 0 = _; omega) (by show 0 + (1 * ρ 0 + 0) = _; omega) (hm _ List.mem_cons_self)) (by have h := hF _ List.mem_cons_self; have h : 0 ≤ (-1936289388) + (1 * ρ 0 + 0) := h; omega) hG
  obtain ⟨k0, -⟩ := H
  exact ⟨_, List.mem_cons_self, ρ, fun _ _ => rfl, (okM_c (pvp 142 (by show 12 + 0 = _; omega) (by show 0 + (1 * ρ 0 + 0) = _; omega) k0) okM_n), okB_n, okF_n⟩
-- wk11
theorem cr_157 (M : pM) (s0 : Int) (b0 : (-9223372036854775808) ≤ s0 ∧ s0 ≤ 9223372036854775807) (f0 : 0 ≤ ((-1) * s0 + 1936289387)) (f1 : 0 ≤ (s0 - 1936289387)) (hG : gI M) : (HP 140 (11 : Int) (s0) M ∧ True) := by
  exact ⟨Eq.mpr hp_140 ⟨11, by decide, by decide, by rw [show qwn 11 = 1936289387 by decide]; omega⟩, trivial⟩
theorem rul_157 : Rul r_157 := by
  refine ⟨fun _ ρ M hm hB hF hG => ?_, fun gi gv hg => (by cases hg)⟩
  have H := cr_157 M (ρ 0) (hB _ List.mem_cons_self) (by have h := hF _ List.mem_cons_self; have h : 0 ≤ 1936289387 + ((-1) * ρ 0 + 0) := h; omega) (by have h := hF _ (List.mem_cons_of_mem _ List.mem_cons_self); have h : 0 ≤ (-1936289387) + (1 * ρ 0 + 0) := h; omega) hG
  obtain ⟨k0, -⟩ := H
  exact ⟨_, List.mem_cons_self, ρ, fun _ _ => rfl, (okM_c (pvp 140 (by show 11 + 0 = _; omega) (by show 0 + (1 * ρ 0 + 0) = _; omega) k0) okM_n), okB_n, okF_n⟩
-- nk13_0
theorem cr_158 (M : pM) (s0 : Int) (b0 : (-9223372036854775808) ≤ s0 ∧ s0 ≤ 9223372036854775807) (m0 : HP 142 (12 : Int) (s0) M) (f0 : 0 ≤ ((-1) * s0 + 7521414230229344623)) (hG : gI M) : (HP 142 (13 : Int) (s0) M ∧ True) := by
  exact ⟨Eq.mpr hp_142 (fun k h1 h2 => if e : k = 12 then (by subst e; exact qwn_v 7521414230229344624 (by decide) (by omega)) else Eq.mp hp_142 m0 k h1 (by omega)), trivial⟩
theorem rul_158 : Rul r_158 := by
  refine ⟨fun _ ρ M hm hB hF hG => ?_, fun gi gv hg => (by cases hg)⟩
  have H := cr_158 M (ρ 0) (hB _ List.mem_cons_self) (cvp 142 (x' := (12 : Int)) (y' := ((ρ 0))) (by show 12 + 0 = _; omega) (by show 0 + (1 * ρ 0 + 0) = _; omega) (hm _ List.mem_cons_self)) (by have h := hF _ List.mem_cons_self; have h : 0 ≤ 7521414230229344623 + ((-1) * ρ 0 + 0) := h; omega) hG
  obtain ⟨k0, -⟩ := H
  exact ⟨_, List.mem_cons_self, ρ, fun _ _ => rfl, (okM_c (pvp 142 (by show 13 + 0 = _; omega) (by show 0 + (1 * ρ 0 + 0) = _; omega) k0) okM_n), okB_n, okF_n⟩
-- nk13_1
theorem cr_159 (M : pM) (s0 : Int) (b0 : (-9223372036854775808) ≤ s0 ∧ s0 ≤ 9223372036854775807) (m0 : HP 142 (12 : Int) (s0) M) (f0 : 0 ≤ (s0 - 7521414230229344625)) (hG : gI M) : (HP 142 (13 : Int) (s0) M ∧ True) := by
  exact ⟨Eq.mpr hp_142 (fun k h1 h2 => if e : k = 12 then (by subst e; exact qwn_v 7521414230229344624 (by decide) (by omega)) else Eq.mp hp_142 m0 k h1 (by omega)), trivial⟩
theorem rul_159 : Rul r_159 := by
  refine ⟨fun _ ρ M hm hB hF hG => ?_, fun gi gv hg => (by cases hg)⟩
  have H := cr_159 M (ρ 0) (hB _ List.mem_cons_self) (cvp 142 (x' := (12 : Int)) (y' := ((ρ 0))) (by show 12 + 0 = _; omega) (by show 0 + (1 * ρ 0 + 0) = _; omega) (hm _ List.mem_cons_self)) (by have h := hF _ List.mem_cons_self; have h : 0 ≤ (-7521414230229344625) + (1 * ρ 0 + 0) := h; omega) hG
  obtain ⟨k0, -⟩ := H
  exact ⟨_, List.mem_cons_self, ρ, fun _ _ => rfl, (okM_c (pvp 142 (by show 13 + 0 = _; omega) (by show 0 + (1 * ρ 0 + 0) = _; omega) k0) okM_n), okB_n, okF_n⟩
-- wk12
theorem cr_160 (M : pM) (s0 : Int) (b0 : (-9223372036854775808) ≤ s0 ∧ s0 ≤ 9223372036854775807) (f0 : 0 ≤ ((-1) * s0 + 7521414230229344624)) (f1 : 0 ≤ (s0 - 7521414230229344624)) (hG : gI M) : (HP 140 (12 : Int) (s0) M ∧ True) := by
  exact ⟨Eq.mpr hp_140 ⟨12, by decide, by decide, by rw [show qwn 12 = 7521414230229344624 by decide]; omega⟩, trivial⟩
theorem rul_160 : Rul r_160 := by
  refine ⟨fun _ ρ M hm hB hF hG => ?_, fun gi gv hg => (by cases hg)⟩
  have H := cr_160 M (ρ 0) (hB _ List.mem_cons_self) (by have h := hF _ List.mem_cons_self; have h : 0 ≤ 7521414230229344624 + ((-1) * ρ 0 + 0) := h; omega) (by have h := hF _ (List.mem_cons_of_mem _ List.mem_cons_self); have h : 0 ≤ (-7521414230229344624) + (1 * ρ 0 + 0) := h; omega) hG
  obtain ⟨k0, -⟩ := H
  exact ⟨_, List.mem_cons_self, ρ, fun _ _ => rfl, (okM_c (pvp 140 (by show 12 + 0 = _; omega) (by show 0 + (1 * ρ 0 + 0) = _; omega) k0) okM_n), okB_n, okF_n⟩
-- nk14_0
theorem cr_161 (M : pM) (s0 : Int) (b0 : (-9223372036854775808) ≤ s0 ∧ s0 ≤ 9223372036854775807) (m0 : HP 142 (13 : Int) (s0) M) (f0 : 0 ≤ ((-1) * s0 + 495589487204)) (hG : gI M) : (HP 142 (14 : Int) (s0) M ∧ True) := by
  exact ⟨Eq.mpr hp_142 (fun k h1 h2 => if e : k = 13 then (by subst e; exact qwn_v 495589487205 (by decide) (by omega)) else Eq.mp hp_142 m0 k h1 (by omega)), trivial⟩
theorem rul_161 : Rul r_161 := by
  refine ⟨fun _ ρ M hm hB hF hG => ?_, fun gi gv hg => (by cases hg)⟩
  have H := cr_161 M (ρ 0) (hB _ List.mem_cons_self) (cvp 142 (x' := (13 : Int)) (y' := ((ρ 0))) (by show 13 + 0 = _; omega) (by show 0 + (1 * ρ 0 + 0) = _; omega) (hm _ List.mem_cons_self)) (by have h := hF _ List.mem_cons_self; have h : 0 ≤ 495589487204 + ((-1) * ρ 0 + 0) := h; omega) hG
  obtain ⟨k0, -⟩ := H
  exact ⟨_, List.mem_cons_self, ρ, fun _ _ => rfl, (okM_c (pvp 142 (by show 14 + 0 = _; omega) (by show 0 + (1 * ρ 0 + 0) = _; omega) k0) okM_n), okB_n, okF_n⟩
-- nk14_1
theorem cr_162 (M : pM) (s0 : Int) (b0 : (-9223372036854775808) ≤ s0 ∧ s0 ≤ 9223372036854775807) (m0 : HP 142 (13 : Int) (s0) M) (f0 : 0 ≤ (s0 - 495589487206)) (hG : gI M) : (HP 142 (14 : Int) (s0) M ∧ True) := by
  exact ⟨Eq.mpr hp_142 (fun k h1 h2 => if e : k = 13 then (by subst e; exact qwn_v 495589487205 (by decide) (by omega)) else Eq.mp hp_142 m0 k h1 (by omega)), trivial⟩
theorem rul_162 : Rul r_162 := by
  refine ⟨fun _ ρ M hm hB hF hG => ?_, fun gi gv hg => (by cases hg)⟩
  have H := cr_162 M (ρ 0) (hB _ List.mem_cons_self) (cvp 142 (x' := (13 : Int)) (y' := ((ρ 0))) (by show 13 + 0 = _; omega) (by show 0 + (1 * ρ 0 + 0) = _; omega) (hm _ List.mem_cons_self)) (by have h := hF _ List.mem_cons_self; have h : 0 ≤ (-495589487206) + (1 * ρ 0 + 0) := h; omega) hG
  obtain ⟨k0, -⟩ := H
  exact ⟨_, List.mem_cons_self, ρ, fun _ _ => rfl, (okM_c (pvp 142 (by show 14 + 0 = _; omega) (by show 0 + (1 * ρ 0 + 0) = _; omega) k0) okM_n), okB_n, okF_n⟩
-- wk13
theorem cr_163 (M : pM) (s0 : Int) (b0 : (-9223372036854775808) ≤ s0 ∧ s0 ≤ 9223372036854775807) (f0 : 0 ≤ ((-1) * s0 + 495589487205)) (f1 : 0 ≤ (s0 - 495589487205)) (hG : gI M) : (HP 140 (13 : Int) (s0) M ∧ True) := by
  exact ⟨Eq.mpr hp_140 ⟨13, by decide, by decide, by rw [show qwn 13 = 495589487205 by decide]; omega⟩, trivial⟩
theorem rul_163 : Rul r_163 := by
  refine ⟨fun _ ρ M hm hB hF hG => ?_, fun gi gv hg => (by cases hg)⟩
  have H := cr_163 M (ρ 0) (hB _ List.mem_cons_self) (by have h := hF _ List.mem_cons_self; have h : 0 ≤ 495589487205 + ((-1) * ρ 0 + 0) := h; omega) (by have h := hF _ (List.mem_cons_of_mem _ List.mem_cons_self); have h : 0 ≤ (-495589487205) + (1 * ρ 0 + 0) := h; omega) hG
  obtain ⟨k0, -⟩ := H
  exact ⟨_, List.mem_cons_self, ρ, fun _ _ => rfl, (okM_c (pvp 140 (by show 13 + 0 = _; omega) (by show 0 + (1 * ρ 0 + 0) = _; omega) k0) okM_n), okB_n, okF_n⟩
-- nk15_0
theorem cr_164 (M : pM) (s0 : Int) (b0 : (-9223372036854775808) ≤ s0 ∧ s0 ≤ 9223372036854775807) (m0 : HP 142 (14 : Int) (s0) M) (f0 : 0 ≤ ((-1) * s0 + 6385251)) (hG : gI M) : (HP 142 (15 : Int) (s0) M ∧ True) := by
  exact ⟨Eq.mpr hp_142 (fun k h1 h2 => if e : k = 14 then (by subst e; exact qwn_v 6385252 (by decide) (by omega)) else Eq.mp hp_142 m0 k h1 (by omega)), trivial⟩
theorem rul_164 : Rul r_164 := by
  refine ⟨fun _ ρ M hm hB hF hG => ?_, fun gi gv hg => (by cases hg)⟩
  have H := cr_164 M (ρ 0) (hB _ List.mem_cons_self) (cvp 142 (x' := (14 : Int)) (y' := ((ρ 0))) (by show 14 + 0 = _; omega) (by show 0 + (1 * ρ 0 + 0) = _; omega) (hm _ List.mem_cons_self)) (by have h := hF _ List.mem_cons_self; have h : 0 ≤ 6385251 + ((-1) * ρ 0 + 0) := h; omega) hG
  obtain ⟨k0, -⟩ := H
  exact ⟨_, List.mem_cons_self, ρ, fun _ _ => rfl, (okM_c (pvp 142 (by show 15 + 0 = _; omega) (by show 0 + (1 * ρ 0 + 0) = _; omega) k0) okM_n), okB_n, okF_n⟩
-- nk15_1
theorem cr_165 (M : pM) (s0 : Int) (b0 : (-9223372036854775808) ≤ s0 ∧ s0 ≤ 9223372036854775807) (m0 : HP 142 (14 : Int) (s0) M) (f0 : 0 ≤ (s0 - 6385253)) (hG : gI M) : (HP 142 (15 : Int) (s0) M ∧ True) := by
  exact ⟨Eq.mpr hp_142 (fun k h1 h2 => if e : k = 14 then (by subst e; exact qwn_v 6385252 (by decide) (by omega)) else Eq.mp hp_142 m0 k h1 (by omega)), trivial⟩
theorem rul_165 : Rul r_165 := by
  refine ⟨fun _ ρ M hm hB hF hG => ?_, fun gi gv hg => (by cases hg)⟩
  have H := cr_165 M (ρ 0) (hB _ List.mem_cons_self) (cvp 142 (x' := (14 : Int)) (y' := ((ρ 0))) (by show 14 + 0 = _; omega) (by show 0 + (1 * ρ 0 + 0) = _; omega) (hm _ List.mem_cons_self)) (by have h := hF _ List.mem_cons_self; have h : 0 ≤ (-6385253) + (1 * ρ 0 + 0) := h; omega) hG
  obtain ⟨k0, -⟩ := H
  exact ⟨_, List.mem_cons_self, ρ, fun _ _ => rfl, (okM_c (pvp 142 (by show 15 + 0 = _; omega) (by show 0 + (1 * ρ 0 + 0) = _; omega) k0) okM_n), okB_n, okF_n⟩
-- wk14
theorem cr_166 (M : pM) (s0 : Int) (b0 : (-9223372036854775808) ≤ s0 ∧ s0 ≤ 9223372036854775807) (f0 : 0 ≤ ((-1) * s0 + 6385252)) (f1 : 0 ≤ (s0 - 6385252)) (hG : gI M) : (HP 140 (14 : Int) (s0) M ∧ True) := by
  exact ⟨Eq.mpr hp_140 ⟨14, by decide, by decide, by rw [show qwn 14 = 6385252 by decide]; omega⟩, trivial⟩
theorem rul_166 : Rul r_166 := by
  refine ⟨fun _ ρ M hm hB hF hG => ?_, fun gi gv hg => (by cases hg)⟩
  have H := cr_166 M (ρ 0) (hB _ List.mem_cons_self) (by have h := hF _ List.mem_cons_self; have h : 0 ≤ 6385252 + ((-1) * ρ 0 + 0) := h; omega) (by have h := hF _ (List.mem_cons_of_mem _ List.mem_cons_self); have h : 0 ≤ (-6385252) + (1 * ρ 0 + 0) := h; omega) hG
  obtain ⟨k0, -⟩ := H
  exact ⟨_, List.mem_cons_self, ρ, fun _ _ => rfl, (okM_c (pvp 140 (by show 14 + 0 = _; omega) (by show 0 + (1 * ρ 0 + 0) = _; omega) k0) okM_n), okB_n, okF_n⟩
-- nk16_0
theorem cr_167 (M : pM) (s0 : Int) (b0 : (-9223372036854775808) ≤ s0 ∧ s0 ≤ 9223372036854775807) (m0 : HP 142 (15 : Int) (s0) M) (f0 : 0 ≤ ((-1) * s0 + 28529)) (hG : gI M) : (HP 142 (16 : Int) (s0) M ∧ True) := by
  exact ⟨Eq.mpr hp_142 (fun k h1 h2 => if e : k = 15 then (by subst e; exact qwn_v 28530 (by decide) (by omega)) else Eq.mp hp_142 m0 k h1 (by omega)), trivial⟩
theorem rul_167 : Rul r_167 := by
  refine ⟨fun _ ρ M hm hB hF hG => ?_, fun gi gv hg => (by cases hg)⟩
  have H := cr_167 M (ρ 0) (hB _ List.mem_cons_self) (cvp 142 (x' := (15 : Int)) (y' := ((ρ 0))) (by show 15 + 0 = _; omega) (by show 0 + (1 * ρ 0 + 0) = _; omega) (hm _ List.mem_cons_self)) (by have h := hF _ List.mem_cons_self; have h : 0 ≤ 28529 + ((-1) * ρ 0 + 0) := h; omega) hG
  obtain ⟨k0, -⟩ := H
  exact ⟨_, List.mem_cons_self, ρ, fun _ _ => rfl, (okM_c (pvp 142 (by show 16 + 0 = _; omega) (by show 0 + (1 * ρ 0 + 0) = _; omega) k0) okM_n), okB_n, okF_n⟩
-- nk16_1
theorem cr_168 (M : pM) (s0 : Int) (b0 : (-9223372036854775808) ≤ s0 ∧ s0 ≤ 9223372036854775807) (m0 : HP 142 (15 : Int) (s0) M) (f0 : 0 ≤ (s0 - 28531)) (hG : gI M) : (HP 142 (16 : Int) (s0) M ∧ True) := by
  exact ⟨Eq.mpr hp_142 (fun k h1 h2 => if e : k = 15 then (by subst e; exact qwn_v 28530 (by decide) (by omega)) else Eq.mp hp_142 m0 k h1 (by omega)), trivial⟩
theorem rul_168 : Rul r_168 := by
  refine ⟨fun _ ρ M hm hB hF hG => ?_, fun gi gv hg => (by cases hg)⟩
  have H := cr_168 M (ρ 0) (hB _ List.mem_cons_self) (cvp 142 (x' := (15 : Int)) (y' := ((ρ 0))) (by show 15 + 0 = _; omega) (by show 0 + (1 * ρ 0 + 0) = _; omega) (hm _ List.mem_cons_self)) (by have h := hF _ List.mem_cons_self; have h : 0 ≤ (-28531) + (1 * ρ 0 + 0) := h; omega) hG
  obtain ⟨k0, -⟩ := H
  exact ⟨_, List.mem_cons_self, ρ, fun _ _ => rfl, (okM_c (pvp 142 (by show 16 + 0 = _; omega) (by show 0 + (1 * ρ 0 + 0) = _; omega) k0) okM_n), okB_n, okF_n⟩
-- wk15
theorem cr_169 (M : pM) (s0 : Int) (b0 : (-9223372036854775808) ≤ s0 ∧ s0 ≤ 9223372036854775807) (f0 : 0 ≤ ((-1) * s0 + 28530)) (f1 : 0 ≤ (s0 - 28530)) (hG : gI M) : (HP 140 (15 : Int) (s0) M ∧ True) := by
  exact ⟨Eq.mpr hp_140 ⟨15, by decide, by decide, by rw [show qwn 15 = 28530 by decide]; omega⟩, trivial⟩
theorem rul_169 : Rul r_169 := by
  refine ⟨fun _ ρ M hm hB hF hG => ?_, fun gi gv hg => (by cases hg)⟩
  have H := cr_169 M (ρ 0) (hB _ List.mem_cons_self) (by have h := hF _ List.mem_cons_self; have h : 0 ≤ 28530 + ((-1) * ρ 0 + 0) := h; omega) (by have h := hF _ (List.mem_cons_of_mem _ List.mem_cons_self); have h : 0 ≤ (-28530) + (1 * ρ 0 + 0) := h; omega) hG
  obtain ⟨k0, -⟩ := H
  exact ⟨_, List.mem_cons_self, ρ, fun _ _ => rfl, (okM_c (pvp 140 (by show 15 + 0 = _; omega) (by show 0 + (1 * ρ 0 + 0) = _; omega) k0) okM_n), okB_n, okF_n⟩
-- nk17_0
theorem cr_170 (M : pM) (s0 : Int) (b0 : (-9223372036854775808) ≤ s0 ∧ s0 ≤ 9223372036854775807) (m0 : HP 142 (16 : Int) (s0) M) (f0 : 0 ≤ ((-1) * s0 + 7237491)) (hG : gI M) : (HP 142 (17 : Int) (s0) M ∧ True) := by
  exact ⟨Eq.mpr hp_142 (fun k h1 h2 => if e : k = 16 then (by subst e; exact qwn_v 7237492 (by decide) (by omega)) else Eq.mp hp_142 m0 k h1 (by omega)), trivial⟩
theorem rul_170 : Rul r_170 := by
  refine ⟨fun _ ρ M hm hB hF hG => ?_, fun gi gv hg => (by cases hg)⟩
  have H := cr_170 M (ρ 0) (hB _ List.mem_cons_self) (cvp 142 (x' := (16 : Int)) (y' := ((ρ 0))) (by show 16 + 0 = _; omega) (by show 0 + (1 * ρ 0 + 0) = _; omega) (hm _ List.mem_cons_self)) (by have h := hF _ List.mem_cons_self; have h : 0 ≤ 7237491 + ((-1) * ρ 0 + 0) := h; omega) hG
  obtain ⟨k0, -⟩ := H
  exact ⟨_, List.mem_cons_self, ρ, fun _ _ => rfl, (okM_c (pvp 142 (by show 17 + 0 = _; omega) (by show 0 + (1 * ρ 0 + 0) = _; omega) k0) okM_n), okB_n, okF_n⟩
-- nk17_1
theorem cr_171 (M : pM) (s0 : Int) (b0 : (-9223372036854775808) ≤ s0 ∧ s0 ≤ 9223372036854775807) (m0 : HP 142 (16 : Int) (s0) M) (f0 : 0 ≤ (s0 - 7237493)) (hG : gI M) : (HP 142 (17 : Int) (s0) M ∧ True) := by
  exact ⟨Eq.mpr hp_142 (fun k h1 h2 => if e : k = 16 then (by subst e; exact qwn_v 7237492 (by decide) (by omega)) else Eq.mp hp_142 m0 k h1 (by omega)), trivial⟩
theorem rul_171 : Rul r_171 := by
  refine ⟨fun _ ρ M hm hB hF hG => ?_, fun gi gv hg => (by cases hg)⟩
  have H := cr_171 M (ρ 0) (hB _ List.mem_cons_self) (cvp 142 (x' := (16 : Int)) (y' := ((ρ 0))) (by show 16 + 0 = _; omega) (by show 0 + (1 * ρ 0 + 0) = _; omega) (hm _ List.mem_cons_self)) (by have h := hF _ List.mem_cons_self; have h : 0 ≤ (-7237493) + (1 * ρ 0 + 0) := h; omega) hG
  obtain ⟨k0, -⟩ := H
  exact ⟨_, List.mem_cons_self, ρ, fun _ _ => rfl, (okM_c (pvp 142 (by show 17 + 0 = _; omega) (by show 0 + (1 * ρ 0 + 0) = _; omega) k0) okM_n), okB_n, okF_n⟩
-- wk16
theorem cr_172 (M : pM) (s0 : Int) (b0 : (-9223372036854775808) ≤ s0 ∧ s0 ≤ 9223372036854775807) (f0 : 0 ≤ ((-1) * s0 + 7237492)) (f1 : 0 ≤ (s0 - 7237492)) (hG : gI M) : (HP 140 (16 : Int) (s0) M ∧ True) := by
  exact ⟨Eq.mpr hp_140 ⟨16, by decide, by decide, by rw [show qwn 16 = 7237492 by decide]; omega⟩, trivial⟩
theorem rul_172 : Rul r_172 := by
  refine ⟨fun _ ρ M hm hB hF hG => ?_, fun gi gv hg => (by cases hg)⟩
  have H := cr_172 M (ρ 0) (hB _ List.mem_cons_self) (by have h := hF _ List.mem_cons_self; have h : 0 ≤ 7237492 + ((-1) * ρ 0 + 0) := h; omega) (by have h := hF _ (List.mem_cons_of_mem _ List.mem_cons_self); have h : 0 ≤ (-7237492) + (1 * ρ 0 + 0) := h; omega) hG
  obtain ⟨k0, -⟩ := H
  exact ⟨_, List.mem_cons_self, ρ, fun _ _ => rfl, (okM_c (pvp 140 (by show 16 + 0 = _; omega) (by show 0 + (1 * ρ 0 + 0) = _; omega) k0) okM_n), okB_n, okF_n⟩
-- nk18_0
theorem cr_173 (M : pM) (s0 : Int) (b0 : (-9223372036854775808) ≤ s0 ∧ s0 ≤ 9223372036854775807) (m0 : HP 142 (17 : Int) (s0) M) (f0 : 0 ≤ ((-1) * s0 + 1685024356)) (hG : gI M) : (HP 142 (18 : Int) (s0) M ∧ True) := by
  exact ⟨Eq.mpr hp_142 (fun k h1 h2 => if e : k = 17 then (by subst e; exact qwn_v 1685024357 (by decide) (by omega)) else Eq.mp hp_142 m0 k h1 (by omega)), trivial⟩
theorem rul_173 : Rul r_173 := by
  refine ⟨fun _ ρ M hm hB hF hG => ?_, fun gi gv hg => (by cases hg)⟩
  have H := cr_173 M (ρ 0) (hB _ List.mem_cons_self) (cvp 142 (x' := (17 : Int)) (y' := ((ρ 0))) (by show 17 + 0 = _; omega) (by show 0 + (1 * ρ 0 + 0) = _; omega) (hm _ List.mem_cons_self)) (by have h := hF _ List.mem_cons_self; have h : 0 ≤ 1685024356 + ((-1) * ρ 0 + 0) := h; omega) hG
  obtain ⟨k0, -⟩ := H
  exact ⟨_, List.mem_cons_self, ρ, fun _ _ => rfl, (okM_c (pvp 142 (by show 18 + 0 = _; omega) (by show 0 + (1 * ρ 0 + 0) = _; omega) k0) okM_n), okB_n, okF_n⟩
-- nk18_1
theorem cr_174 (M : pM) (s0 : Int) (b0 : (-9223372036854775808) ≤ s0 ∧ s0 ≤ 9223372036854775807) (m0 : HP 142 (17 : Int) (s0) M) (f0 : 0 ≤ (s0 - 1685024358)) (hG : gI M) : (HP 142 (18 : Int) (s0) M ∧ True) := by
  exact ⟨Eq.mpr hp_142 (fun k h1 h2 => if e : k = 17 then (by subst e; exact qwn_v 1685024357 (by decide) (by omega)) else Eq.mp hp_142 m0 k h1 (by omega)), trivial⟩
theorem rul_174 : Rul r_174 := by
  refine ⟨fun _ ρ M hm hB hF hG => ?_, fun gi gv hg => (by cases hg)⟩
  have H := cr_174 M (ρ 0) (hB _ List.mem_cons_self) (cvp 142 (x' := (17 : Int)) (y' := ((ρ 0))) (by show 17 + 0 = _; omega) (by show 0 + (1 * ρ 0 + 0) = _; omega) (hm _ List.mem_cons_self)) (by have h := hF _ List.mem_cons_self; have h : 0 ≤ (-1685024358) + (1 * ρ 0 + 0) := h; omega) hG
  obtain ⟨k0, -⟩ := H
  exact ⟨_, List.mem_cons_self, ρ, fun _ _ => rfl, (okM_c (pvp 142 (by show 18 + 0 = _; omega) (by show 0 + (1 * ρ 0 + 0) = _; omega) k0) okM_n), okB_n, okF_n⟩
-- wk17
theorem cr_175 (M : pM) (s0 : Int) (b0 : (-9223372036854775808) ≤ s0 ∧ s0 ≤ 9223372036854775807) (f0 : 0 ≤ ((-1) * s0 + 1685024357)) (f1 : 0 ≤ (s0 - 1685024357)) (hG : gI M) : (HP 140 (17 : Int) (s0) M ∧ True) := by
  exact ⟨Eq.mpr hp_140 ⟨17, by decide, by decide, by rw [show qwn 17 = 1685024357 by decide]; omega⟩, trivial⟩
theorem rul_175 : Rul r_175 := by
  refine ⟨fun _ ρ M hm hB hF hG => ?_, fun gi gv hg => (by cases hg)⟩
  have H := cr_175 M (ρ 0) (hB _ List.mem_cons_self) (by have h := hF _ List.mem_cons_self; have h : 0 ≤ 1685024357 + ((-1) * ρ 0 + 0) := h; omega) (by have h := hF _ (List.mem_cons_of_mem _ List.mem_cons_self); have h : 0 ≤ (-1685024357) + (1 * ρ 0 + 0) := h; omega) hG
  obtain ⟨k0, -⟩ := H
  exact ⟨_, List.mem_cons_self, ρ, fun _ _ => rfl, (okM_c (pvp 140 (by show 17 + 0 = _; omega) (by show 0 + (1 * ρ 0 + 0) = _; omega) k0) okM_n), okB_n, okF_n⟩
-- nk19_0
theorem cr_176 (M : pM) (s0 : Int) (b0 : (-9223372036854775808) ≤ s0 ∧ s0 ≤ 9223372036854775807) (m0 : HP 142 (18 : Int) (s0) M) (f0 : 0 ≤ ((-1) * s0 + 1818584946)) (hG : gI M) : (HP 142 (19 : Int) (s0) M ∧ True) := by
  exact ⟨Eq.mpr hp_142 (fun k h1 h2 => if e : k = 18 then (by subst e; exact qwn_v 1818584947 (by decide) (by omega)) else Eq.mp hp_142 m0 k h1 (by omega)), trivial⟩
theorem rul_176 : Rul r_176 := by
  refine ⟨fun _ ρ M hm hB hF hG => ?_, fun gi gv hg => (by cases hg)⟩
  have H := cr_176 M (ρ 0) (hB _ List.mem_cons_self) (cvp 142 (x' := (18 : Int)) (y' := ((ρ 0))) (by show 18 + 0 = _; omega) (by show 0 + (1 * ρ 0 + 0) = _; omega) (hm _ List.mem_cons_self)) (by have h := hF _ List.mem_cons_self; have h : 0 ≤ 1818584946 + ((-1) * ρ 0 + 0) := h; omega) hG
  obtain ⟨k0, -⟩ := H
  exact ⟨_, List.mem_cons_self, ρ, fun _ _ => rfl, (okM_c (pvp 142 (by show 19 + 0 = _; omega) (by show 0 + (1 * ρ 0 + 0) = _; omega) k0) okM_n), okB_n, okF_n⟩
-- nk19_1
theorem cr_177 (M : pM) (s0 : Int) (b0 : (-9223372036854775808) ≤ s0 ∧ s0 ≤ 9223372036854775807) (m0 : HP 142 (18 : Int) (s0) M) (f0 : 0 ≤ (s0 - 1818584948)) (hG : gI M) : (HP 142 (19 : Int) (s0) M ∧ True) := by
  exact ⟨Eq.mpr hp_142 (fun k h1 h2 => if e : k = 18 then (by subst e; exact qwn_v 1818584947 (by decide) (by omega)) else Eq.mp hp_142 m0 k h1 (by omega)), trivial⟩
theorem rul_177 : Rul r_177 := by
  refine ⟨fun _ ρ M hm hB hF hG => ?_, fun gi gv hg => (by cases hg)⟩
  have H := cr_177 M (ρ 0) (hB _ List.mem_cons_self) (cvp 142 (x' := (18 : Int)) (y' := ((ρ 0))) (by show 18 + 0 = _; omega) (by show 0 + (1 * ρ 0 + 0) = _; omega) (hm _ List.mem_cons_self)) (by have h := hF _ List.mem_cons_self; have h : 0 ≤ (-1818584948) + (1 * ρ 0 + 0) := h; omega) hG
  obtain ⟨k0, -⟩ := H
  exact ⟨_, List.mem_cons_self, ρ, fun _ _ => rfl, (okM_c (pvp 142 (by show 19 + 0 = _; omega) (by show 0 + (1 * ρ 0 + 0) = _; omega) k0) okM_n), okB_n, okF_n⟩
-- wk18
theorem cr_178 (M : pM) (s0 : Int) (b0 : (-9223372036854775808) ≤ s0 ∧ s0 ≤ 9223372036854775807) (f0 : 0 ≤ ((-1) * s0 + 1818584947)) (f1 : 0 ≤ (s0 - 1818584947)) (hG : gI M) : (HP 140 (18 : Int) (s0) M ∧ True) := by
  exact ⟨Eq.mpr hp_140 ⟨18, by decide, by decide, by rw [show qwn 18 = 1818584947 by decide]; omega⟩, trivial⟩
theorem rul_178 : Rul r_178 := by
  refine ⟨fun _ ρ M hm hB hF hG => ?_, fun gi gv hg => (by cases hg)⟩
  have H := cr_178 M (ρ 0) (hB _ List.mem_cons_self) (by have h := hF _ List.mem_cons_self; have h : 0 ≤ 1818584947 + ((-1) * ρ 0 + 0) := h; omega) (by have h := hF _ (List.mem_cons_of_mem _ List.mem_cons_self); have h : 0 ≤ (-1818584947) + (1 * ρ 0 + 0) := h; omega) hG
  obtain ⟨k0, -⟩ := H
  exact ⟨_, List.mem_cons_self, ρ, fun _ _ => rfl, (okM_c (pvp 140 (by show 18 + 0 = _; omega) (by show 0 + (1 * ρ 0 + 0) = _; omega) k0) okM_n), okB_n, okF_n⟩
-- nk20_0
theorem cr_179 (M : pM) (s0 : Int) (b0 : (-9223372036854775808) ≤ s0 ∧ s0 ≤ 9223372036854775807) (m0 : HP 142 (19 : Int) (s0) M) (f0 : 0 ≤ ((-1) * s0 + 1953066340)) (hG : gI M) : (HP 142 (20 : Int) (s0) M ∧ True) := by
  exact ⟨Eq.mpr hp_142 (fun k h1 h2 => if e : k = 19 then (by subst e; exact qwn_v 1953066341 (by decide) (by omega)) else Eq.mp hp_142 m0 k h1 (by omega)), trivial⟩
theorem rul_179 : Rul r_179 := by
  refine ⟨fun _ ρ M hm hB hF hG => ?_, fun gi gv hg => (by cases hg)⟩
  have H := cr_179 M (ρ 0) (hB _ List.mem_cons_self) (cvp 142 (x' := (19 : Int)) (y' := ((ρ 0))) (by show 19 + 0 = _; omega) (by show 0 + (1 * ρ 0 + 0) = _; omega) (hm _ List.mem_cons_self)) (by have h := hF _ List.mem_cons_self; have h : 0 ≤ 1953066340 + ((-1) * ρ 0 + 0) := h; omega) hG
  obtain ⟨k0, -⟩ := H
  exact ⟨_, List.mem_cons_self, ρ, fun _ _ => rfl, (okM_c (pvp 142 (by show 20 + 0 = _; omega) (by show 0 + (1 * ρ 0 + 0) = _; omega) k0) okM_n), okB_n, okF_n⟩
-- nk20_1
theorem cr_180 (M : pM) (s0 : Int) (b0 : (-9223372036854775808) ≤ s0 ∧ s0 ≤ 9223372036854775807) (m0 : HP 142 (19 : Int) (s0) M) (f0 : 0 ≤ (s0 - 1953066342)) (hG : gI M) : (HP 142 (20 : Int) (s0) M ∧ True) := by
  exact ⟨Eq.mpr hp_142 (fun k h1 h2 => if e : k = 19 then (by subst e; exact qwn_v 1953066341 (by decide) (by omega)) else Eq.mp hp_142 m0 k h1 (by omega)), trivial⟩
theorem rul_180 : Rul r_180 := by
  refine ⟨fun _ ρ M hm hB hF hG => ?_, fun gi gv hg => (by cases hg)⟩
  have H := cr_180 M (ρ 0) (hB _ List.mem_cons_self) (cvp 142 (x' := (19 : Int)) (y' := ((ρ 0))) (by show 19 + 0 = _; omega) (by show 0 + (1 * ρ 0 + 0) = _; omega) (hm _ List.mem_cons_self)) (by have h := hF _ List.mem_cons_self; have h : 0 ≤ (-1953066342) + (1 * ρ 0 + 0) := h; omega) hG
  obtain ⟨k0, -⟩ := H
  exact ⟨_, List.mem_cons_self, ρ, fun _ _ => rfl, (okM_c (pvp 142 (by show 20 + 0 = _; omega) (by show 0 + (1 * ρ 0 + 0) = _; omega) k0) okM_n), okB_n, okF_n⟩
-- wk19
theorem cr_181 (M : pM) (s0 : Int) (b0 : (-9223372036854775808) ≤ s0 ∧ s0 ≤ 9223372036854775807) (f0 : 0 ≤ ((-1) * s0 + 1953066341)) (f1 : 0 ≤ (s0 - 1953066341)) (hG : gI M) : (HP 140 (19 : Int) (s0) M ∧ True) := by
  exact ⟨Eq.mpr hp_140 ⟨19, by decide, by decide, by rw [show qwn 19 = 1953066341 by decide]; omega⟩, trivial⟩
theorem rul_181 : Rul r_181 := by
  refine ⟨fun _ ρ M hm hB hF hG => ?_, fun gi gv hg => (by cases hg)⟩
  have H := cr_181 M (ρ 0) (hB _ List.mem_cons_self) (by have h := hF _ List.mem_cons_self; have h : 0 ≤ 1953066341 + ((-1) * ρ 0 + 0) := h; omega) (by have h := hF _ (List.mem_cons_of_mem _ List.mem_cons_self); have h : 0 ≤ (-1953066341) + (1 * ρ 0 + 0) := h; omega) hG
  obtain ⟨k0, -⟩ := H
  exact ⟨_, List.mem_cons_self, ρ, fun _ _ => rfl, (okM_c (pvp 140 (by show 19 + 0 = _; omega) (by show 0 + (1 * ρ 0 + 0) = _; omega) k0) okM_n), okB_n, okF_n⟩
-- nk21_0
theorem cr_182 (M : pM) (s0 : Int) (b0 : (-9223372036854775808) ≤ s0 ∧ s0 ≤ 9223372036854775807) (m0 : HP 142 (20 : Int) (s0) M) (f0 : 0 ≤ ((-1) * s0 + 1650815859)) (hG : gI M) : (HP 142 (21 : Int) (s0) M ∧ True) := by
  exact ⟨Eq.mpr hp_142 (fun k h1 h2 => if e : k = 20 then (by subst e; exact qwn_v 1650815860 (by decide) (by omega)) else Eq.mp hp_142 m0 k h1 (by omega)), trivial⟩
theorem rul_182 : Rul r_182 := by
  refine ⟨fun _ ρ M hm hB hF hG => ?_, fun gi gv hg => (by cases hg)⟩
  have H := cr_182 M (ρ 0) (hB _ List.mem_cons_self) (cvp 142 (x' := (20 : Int)) (y' := ((ρ 0))) (by show 20 + 0 = _; omega) (by show 0 + (1 * ρ 0 + 0) = _; omega) (hm _ List.mem_cons_self)) (by have h := hF _ List.mem_cons_self; have h : 0 ≤ 1650815859 + ((-1) * ρ 0 + 0) := h; omega) hG
  obtain ⟨k0, -⟩ := H
  exact ⟨_, List.mem_cons_self, ρ, fun _ _ => rfl, (okM_c (pvp 142 (by show 21 + 0 = _; omega) (by show 0 + (1 * ρ 0 + 0) = _; omega) k0) okM_n), okB_n, okF_n⟩
-- nk21_1
theorem cr_183 (M : pM) (s0 : Int) (b0 : (-9223372036854775808) ≤ s0 ∧ s0 ≤ 9223372036854775807) (m0 : HP 142 (20 : Int) (s0) M) (f0 : 0 ≤ (s0 - 1650815861)) (hG : gI M) : (HP 142 (21 : Int) (s0) M ∧ True) := by
  exact ⟨Eq.mpr hp_142 (fun k h1 h2 => if e : k = 20 then (by subst e; exact qwn_v 1650815860 (by decide) (by omega)) else Eq.mp hp_142 m0 k h1 (by omega)), trivial⟩
theorem rul_183 : Rul r_183 := by
  refine ⟨fun _ ρ M hm hB hF hG => ?_, fun gi gv hg => (by cases hg)⟩
  have H := cr_183 M (ρ 0) (hB _ List.mem_cons_self) (cvp 142 (x' := (20 : Int)) (y' := ((ρ 0))) (by show 20 + 0 = _; omega) (by show 0 + (1 * ρ 0 + 0) = _; omega) (hm _ List.mem_cons_self)) (by have h := hF _ List.mem_cons_self; have h : 0 ≤ (-1650815861) + (1 * ρ 0 + 0) := h; omega) hG
  obtain ⟨k0, -⟩ := H
  exact ⟨_, List.mem_cons_self, ρ, fun _ _ => rfl, (okM_c (pvp 142 (by show 21 + 0 = _; omega) (by show 0 + (1 * ρ 0 + 0) = _; omega) k0) okM_n), okB_n, okF_n⟩
-- wk20
theorem cr_184 (M : pM) (s0 : Int) (b0 : (-9223372036854775808) ≤ s0 ∧ s0 ≤ 9223372036854775807) (f0 : 0 ≤ ((-1) * s0 + 1650815860)) (f1 : 0 ≤ (s0 - 1650815860)) (hG : gI M) : (HP 140 (20 : Int) (s0) M ∧ True) := by
  exact ⟨Eq.mpr hp_140 ⟨20, by decide, by decide, by rw [show qwn 20 = 1650815860 by decide]; omega⟩, trivial⟩
theorem rul_184 : Rul r_184 := by
  refine ⟨fun _ ρ M hm hB hF hG => ?_, fun gi gv hg => (by cases hg)⟩
  have H := cr_184 M (ρ 0) (hB _ List.mem_cons_self) (by have h := hF _ List.mem_cons_self; have h : 0 ≤ 1650815860 + ((-1) * ρ 0 + 0) := h; omega) (by have h := hF _ (List.mem_cons_of_mem _ List.mem_cons_self); have h : 0 ≤ (-1650815860) + (1 * ρ 0 + 0) := h; omega) hG
  obtain ⟨k0, -⟩ := H
  exact ⟨_, List.mem_cons_self, ρ, fun _ _ => rfl, (okM_c (pvp 140 (by show 20 + 0 = _; omega) (by show 0 + (1 * ρ 0 + 0) = _; omega) k0) okM_n), okB_n, okF_n⟩
-- nk22_0
theorem cr_185 (M : pM) (s0 : Int) (b0 : (-9223372036854775808) ≤ s0 ∧ s0 ≤ 9223372036854775807) (m0 : HP 142 (21 : Int) (s0) M) (f0 : 0 ≤ ((-1) * s0 + 439855772531)) (hG : gI M) : (HP 142 (22 : Int) (s0) M ∧ True) := by
  exact ⟨Eq.mpr hp_142 (fun k h1 h2 => if e : k = 21 then (by subst e; exact qwn_v 439855772532 (by decide) (by omega)) else Eq.mp hp_142 m0 k h1 (by omega)), trivial⟩
theorem rul_185 : Rul r_185 := by
  refine ⟨fun _ ρ M hm hB hF hG => ?_, fun gi gv hg => (by cases hg)⟩
  have H := cr_185 M (ρ 0) (hB _ List.mem_cons_self) (cvp 142 (x' := (21 : Int)) (y' := ((ρ 0))) (by show 21 + 0 = _; omega) (by show 0 + (1 * ρ 0 + 0) = _; omega) (hm _ List.mem_cons_self)) (by have h := hF _ List.mem_cons_self; have h : 0 ≤ 439855772531 + ((-1) * ρ 0 + 0) := h; omega) hG
  obtain ⟨k0, -⟩ := H
  exact ⟨_, List.mem_cons_self, ρ, fun _ _ => rfl, (okM_c (pvp 142 (by show 22 + 0 = _; omega) (by show 0 + (1 * ρ 0 + 0) = _; omega) k0) okM_n), okB_n, okF_n⟩
-- nk22_1
theorem cr_186 (M : pM) (s0 : Int) (b0 : (-9223372036854775808) ≤ s0 ∧ s0 ≤ 9223372036854775807) (m0 : HP 142 (21 : Int) (s0) M) (f0 : 0 ≤ (s0 - 439855772533)) (hG : gI M) : (HP 142 (22 : Int) (s0) M ∧ True) := by
  exact ⟨Eq.mpr hp_142 (fun k h1 h2 => if e : k = 21 then (by subst e; exact qwn_v 439855772532 (by decide) (by omega)) else Eq.mp hp_142 m0 k h1 (by omega)), trivial⟩
theorem rul_186 : Rul r_186 := by
  refine ⟨fun _ ρ M hm hB hF hG => ?_, fun gi gv hg => (by cases hg)⟩
  have H := cr_186 M (ρ 0) (hB _ List.mem_cons_self) (cvp 142 (x' := (21 : Int)) (y' := ((ρ 0))) (by show 21 + 0 = _; omega) (by show 0 + (1 * ρ 0 + 0) = _; omega) (hm _ List.mem_cons_self)) (by have h := hF _ List.mem_cons_self; have h : 0 ≤ (-439855772533) + (1 * ρ 0 + 0) := h; omega) hG
  obtain ⟨k0, -⟩ := H
  exact ⟨_, List.mem_cons_self, ρ, fun _ _ => rfl, (okM_c (pvp 142 (by show 22 + 0 = _; omega) (by show 0 + (1 * ρ 0 + 0) = _; omega) k0) okM_n), okB_n, okF_n⟩
-- wk21
theorem cr_187 (M : pM) (s0 : Int) (b0 : (-9223372036854775808) ≤ s0 ∧ s0 ≤ 9223372036854775807) (f0 : 0 ≤ ((-1) * s0 + 439855772532)) (f1 : 0 ≤ (s0 - 439855772532)) (hG : gI M) : (HP 140 (21 : Int) (s0) M ∧ True) := by
  exact ⟨Eq.mpr hp_140 ⟨21, by decide, by decide, by rw [show qwn 21 = 439855772532 by decide]; omega⟩, trivial⟩
theorem rul_187 : Rul r_187 := by
  refine ⟨fun _ ρ M hm hB hF hG => ?_, fun gi gv hg => (by cases hg)⟩
  have H := cr_187 M (ρ 0) (hB _ List.mem_cons_self) (by have h := hF _ List.mem_cons_self; have h : 0 ≤ 439855772532 + ((-1) * ρ 0 + 0) := h; omega) (by have h := hF _ (List.mem_cons_of_mem _ List.mem_cons_self); have h : 0 ≤ (-439855772532) + (1 * ρ 0 + 0) := h; omega) hG
  obtain ⟨k0, -⟩ := H
  exact ⟨_, List.mem_cons_self, ρ, fun _ _ => rfl, (okM_c (pvp 140 (by show 21 + 0 = _; omega) (by show 0 + (1 * ρ 0 + 0) = _; omega) k0) okM_n), okB_n, okF_n⟩
-- nk23_0
theorem cr_188 (M : pM) (s0 : Int) (b0 : (-9223372036854775808) ≤ s0 ∧ s0 ≤ 9223372036854775807) (m0 : HP 142 (22 : Int) (s0) M) (f0 : 0 ≤ ((-1) * s0 + 512735603826)) (hG : gI M) : (HP 142 (23 : Int) (s0) M ∧ True) := by
  exact ⟨Eq.mpr hp_142 (fun k h1 h2 => if e : k = 22 then (by subst e; exact qwn_v 512735603827 (by decide) (by omega)) else Eq.mp hp_142 m0 k h1 (by omega)), trivial⟩
theorem rul_188 : Rul r_188 := by
  refine ⟨fun _ ρ M hm hB hF hG => ?_, fun gi gv hg => (by cases hg)⟩
  have H := cr_188 M (ρ 0) (hB _ List.mem_cons_self) (cvp 142 (x' := (22 : Int)) (y' := ((ρ 0))) (by show 22 + 0 = _; omega) (by show 0 + (1 * ρ 0 + 0) = _; omega) (hm _ List.mem_cons_self)) (by have h := hF _ List.mem_cons_self; have h : 0 ≤ 512735603826 + ((-1) * ρ 0 + 0) := h; omega) hG
  obtain ⟨k0, -⟩ := H
  exact ⟨_, List.mem_cons_self, ρ, fun _ _ => rfl, (okM_c (pvp 142 (by show 23 + 0 = _; omega) (by show 0 + (1 * ρ 0 + 0) = _; omega) k0) okM_n), okB_n, okF_n⟩
-- nk23_1
theorem cr_189 (M : pM) (s0 : Int) (b0 : (-9223372036854775808) ≤ s0 ∧ s0 ≤ 9223372036854775807) (m0 : HP 142 (22 : Int) (s0) M) (f0 : 0 ≤ (s0 - 512735603828)) (hG : gI M) : (HP 142 (23 : Int) (s0) M ∧ True) := by
  exact ⟨Eq.mpr hp_142 (fun k h1 h2 => if e : k = 22 then (by subst e; exact qwn_v 512735603827 (by decide) (by omega)) else Eq.mp hp_142 m0 k h1 (by omega)), trivial⟩
theorem rul_189 : Rul r_189 := by
  refine ⟨fun _ ρ M hm hB hF hG => ?_, fun gi gv hg => (by cases hg)⟩
  have H := cr_189 M (ρ 0) (hB _ List.mem_cons_self) (cvp 142 (x' := (22 : Int)) (y' := ((ρ 0))) (by show 22 + 0 = _; omega) (by show 0 + (1 * ρ 0 + 0) = _; omega) (hm _ List.mem_cons_self)) (by have h := hF _ List.mem_cons_self; have h : 0 ≤ (-512735603828) + (1 * ρ 0 + 0) := h; omega) hG
  obtain ⟨k0, -⟩ := H
  exact ⟨_, List.mem_cons_self, ρ, fun _ _ => rfl, (okM_c (pvp 142 (by show 23 + 0 = _; omega) (by show 0 + (1 * ρ 0 + 0) = _; omega) k0) okM_n), okB_n, okF_n⟩
-- wk22
theorem cr_190 (M : pM) (s0 : Int) (b0 : (-9223372036854775808) ≤ s0 ∧ s0 ≤ 9223372036854775807) (f0 : 0 ≤ ((-1) * s0 + 512735603827)) (f1 : 0 ≤ (s0 - 512735603827)) (hG : gI M) : (HP 140 (22 : Int) (s0) M ∧ True) := by
  exact ⟨Eq.mpr hp_140 ⟨22, by decide, by decide, by rw [show qwn 22 = 512735603827 by decide]; omega⟩, trivial⟩
theorem rul_190 : Rul r_190 := by
  refine ⟨fun _ ρ M hm hB hF hG => ?_, fun gi gv hg => (by cases hg)⟩
  have H := cr_190 M (ρ 0) (hB _ List.mem_cons_self) (by have h := hF _ List.mem_cons_self; have h : 0 ≤ 512735603827 + ((-1) * ρ 0 + 0) := h; omega) (by have h := hF _ (List.mem_cons_of_mem _ List.mem_cons_self); have h : 0 ≤ (-512735603827) + (1 * ρ 0 + 0) := h; omega) hG
  obtain ⟨k0, -⟩ := H
  exact ⟨_, List.mem_cons_self, ρ, fun _ _ => rfl, (okM_c (pvp 140 (by show 22 + 0 = _; omega) (by show 0 + (1 * ρ 0 + 0) = _; omega) k0) okM_n), okB_n, okF_n⟩
-- nk24_0
theorem cr_191 (M : pM) (s0 : Int) (b0 : (-9223372036854775808) ≤ s0 ∧ s0 ≤ 9223372036854775807) (m0 : HP 142 (23 : Int) (s0) M) (f0 : 0 ≤ ((-1) * s0 + 32210697498944867)) (hG : gI M) : (HP 142 (24 : Int) (s0) M ∧ True) := by
  exact ⟨Eq.mpr hp_142 (fun k h1 h2 => if e : k = 23 then (by subst e; exact qwn_v 32210697498944868 (by decide) (by omega)) else Eq.mp hp_142 m0 k h1 (by omega)), trivial⟩
theorem rul_191 : Rul r_191 := by
  refine ⟨fun _ ρ M hm hB hF hG => ?_, fun gi gv hg => (by cases hg)⟩
  have H := cr_191 M (ρ 0) (hB _ List.mem_cons_self) (cvp 142 (x' := (23 : Int)) (y' := ((ρ 0))) (by show 23 + 0 = _; omega) (by show 0 + (1 * ρ 0 + 0) = _; omega) (hm _ List.mem_cons_self)) (by have h := hF _ List.mem_cons_self; have h : 0 ≤ 32210697498944867 + ((-1) * ρ 0 + 0) := h; omega) hG
  obtain ⟨k0, -⟩ := H
  exact ⟨_, List.mem_cons_self, ρ, fun _ _ => rfl, (okM_c (pvp 142 (by show 24 + 0 = _; omega) (by show 0 + (1 * ρ 0 + 0) = _; omega) k0) okM_n), okB_n, okF_n⟩
-- nk24_1
theorem cr_192 (M : pM) (s0 : Int) (b0 : (-9223372036854775808) ≤ s0 ∧ s0 ≤ 9223372036854775807) (m0 : HP 142 (23 : Int) (s0) M) (f0 : 0 ≤ (s0 - 32210697498944869)) (hG : gI M) : (HP 142 (24 : Int) (s0) M ∧ True) := by
  exact ⟨Eq.mpr hp_142 (fun k h1 h2 => if e : k = 23 then (by subst e; exact qwn_v 32210697498944868 (by decide) (by omega)) else Eq.mp hp_142 m0 k h1 (by omega)), trivial⟩
theorem rul_192 : Rul r_192 := by
  refine ⟨fun _ ρ M hm hB hF hG => ?_, fun gi gv hg => (by cases hg)⟩
  have H := cr_192 M (ρ 0) (hB _ List.mem_cons_self) (cvp 142 (x' := (23 : Int)) (y' := ((ρ 0))) (by show 23 + 0 = _; omega) (by show 0 + (1 * ρ 0 + 0) = _; omega) (hm _ List.mem_cons_self)) (by have h := hF _ List.mem_cons_self; have h : 0 ≤ (-32210697498944869) + (1 * ρ 0 + 0) := h; omega) hG
  obtain ⟨k0, -⟩ := H
  exact ⟨_, List.mem_cons_self, ρ, fun _ _ => rfl, (okM_c (pvp 142 (by show 24 + 0 = _; omega) (by show 0 + (1 * ρ 0 + 0) = _; omega) k0) okM_n), okB_n, okF_n⟩
-- wk23
theorem cr_193 (M : pM) (s0 : Int) (b0 : (-9223372036854775808) ≤ s0 ∧ s0 ≤ 9223372036854775807) (f0 : 0 ≤ ((-1) * s0 + 32210697498944868)) (f1 : 0 ≤ (s0 - 32210697498944868)) (hG : gI M) : (HP 140 (23 : Int) (s0) M ∧ True) := by
  exact ⟨Eq.mpr hp_140 ⟨23, by decide, by decide, by rw [show qwn 23 = 32210697498944868 by decide]; omega⟩, trivial⟩
theorem rul_193 : Rul r_193 := by
  refine ⟨fun _ ρ M hm hB hF hG => ?_, fun gi gv hg => (by cases hg)⟩
  have H := cr_193 M (ρ 0) (hB _ List.mem_cons_self) (by have h := hF _ List.mem_cons_self; have h : 0 ≤ 32210697498944868 + ((-1) * ρ 0 + 0) := h; omega) (by have h := hF _ (List.mem_cons_of_mem _ List.mem_cons_self); have h : 0 ≤ (-32210697498944868) + (1 * ρ 0 + 0) := h; omega) hG
  obtain ⟨k0, -⟩ := H
  exact ⟨_, List.mem_cons_self, ρ, fun _ _ => rfl, (okM_c (pvp 140 (by show 23 + 0 = _; omega) (by show 0 + (1 * ρ 0 + 0) = _; omega) k0) okM_n), okB_n, okF_n⟩
-- ng0
theorem cr_194 (M : pM) (s0 : Int) (b0 : 0 ≤ s0 ∧ s0 ≤ 255) (hG : gI M) : (HP 144 (0 : Int) (s0) M ∧ True) := by
  exact ⟨Eq.mpr hp_144 (fun k h1 h2 => by omega), trivial⟩
theorem rul_194 : Rul r_194 := by
  refine ⟨fun _ ρ M hm hB hF hG => ?_, fun gi gv hg => (by cases hg)⟩
  have H := cr_194 M (ρ 0) (hB _ List.mem_cons_self) hG
  obtain ⟨k0, -⟩ := H
  exact ⟨_, List.mem_cons_self, ρ, fun _ _ => rfl, (okM_c (pvp 144 (by show 0 + 0 = _; omega) (by show 0 + (1 * ρ 0 + 0) = _; omega) k0) okM_n), okB_n, okF_n⟩
-- ng1_0
theorem cr_195 (M : pM) (s0 : Int) (b0 : 0 ≤ s0 ∧ s0 ≤ 255) (m0 : HP 144 (0 : Int) (s0) M) (f0 : 0 ≤ ((-1) * s0 + 58)) (hG : gI M) : (HP 144 (1 : Int) (s0) M ∧ True) := by
  exact ⟨Eq.mpr hp_144 (fun k h1 h2 => if e : k = 0 then (by subst e; rw [show sgs.getD 0 0 = 59 by decide]; omega) else Eq.mp hp_144 m0 k h1 (by omega)), trivial⟩
theorem rul_195 : Rul r_195 := by
  refine ⟨fun _ ρ M hm hB hF hG => ?_, fun gi gv hg => (by cases hg)⟩
  have H := cr_195 M (ρ 0) (hB _ List.mem_cons_self) (cvp 144 (x' := (0 : Int)) (y' := ((ρ 0))) (by show 0 + 0 = _; omega) (by show 0 + (1 * ρ 0 + 0) = _; omega) (hm _ List.mem_cons_self)) (by have h := hF _ List.mem_cons_self; have h : 0 ≤ 58 + ((-1) * ρ 0 + 0) := h; omega) hG
  obtain ⟨k0, -⟩ := H
  exact ⟨_, List.mem_cons_self, ρ, fun _ _ => rfl, (okM_c (pvp 144 (by show 1 + 0 = _; omega) (by show 0 + (1 * ρ 0 + 0) = _; omega) k0) okM_n), okB_n, okF_n⟩
-- ng1_1
theorem cr_196 (M : pM) (s0 : Int) (b0 : 0 ≤ s0 ∧ s0 ≤ 255) (m0 : HP 144 (0 : Int) (s0) M) (f0 : 0 ≤ (s0 - 60)) (hG : gI M) : (HP 144 (1 : Int) (s0) M ∧ True) := by
  exact ⟨Eq.mpr hp_144 (fun k h1 h2 => if e : k = 0 then (by subst e; rw [show sgs.getD 0 0 = 59 by decide]; omega) else Eq.mp hp_144 m0 k h1 (by omega)), trivial⟩
theorem rul_196 : Rul r_196 := by
  refine ⟨fun _ ρ M hm hB hF hG => ?_, fun gi gv hg => (by cases hg)⟩
  have H := cr_196 M (ρ 0) (hB _ List.mem_cons_self) (cvp 144 (x' := (0 : Int)) (y' := ((ρ 0))) (by show 0 + 0 = _; omega) (by show 0 + (1 * ρ 0 + 0) = _; omega) (hm _ List.mem_cons_self)) (by have h := hF _ List.mem_cons_self; have h : 0 ≤ (-60) + (1 * ρ 0 + 0) := h; omega) hG
  obtain ⟨k0, -⟩ := H
  exact ⟨_, List.mem_cons_self, ρ, fun _ _ => rfl, (okM_c (pvp 144 (by show 1 + 0 = _; omega) (by show 0 + (1 * ρ 0 + 0) = _; omega) k0) okM_n), okB_n, okF_n⟩
-- sg0
theorem cr_197 (M : pM) (s0 : Int) (b0 : 0 ≤ s0 ∧ s0 ≤ 255) (f0 : 0 ≤ ((-1) * s0 + 59)) (f1 : 0 ≤ (s0 - 59)) (hG : gI M) : (HP 70 (s0) (0 : Int) M ∧ True) := by
  have e : s0 = 59 := by omega
  subst e
  exact ⟨Eq.mpr hp_70 (by decide), trivial⟩
theorem rul_197 : Rul r_197 := by
  refine ⟨fun _ ρ M hm hB hF hG => ?_, fun gi gv hg => (by cases hg)⟩
  have H := cr_197 M (ρ 0) (hB _ List.mem_cons_self) (by have h := hF _ List.mem_cons_self; have h : 0 ≤ 59 + ((-1) * ρ 0 + 0) := h; omega) (by have h := hF _ (List.mem_cons_of_mem _ List.mem_cons_self); have h : 0 ≤ (-59) + (1 * ρ 0 + 0) := h; omega) hG
  obtain ⟨k0, -⟩ := H
  exact ⟨_, List.mem_cons_self, ρ, fun _ _ => rfl, (okM_c (pvp 70 (by show 0 + (1 * ρ 0 + 0) = _; omega) (by show 0 + 0 = _; omega) k0) okM_n), okB_n, okF_n⟩
-- ng2_0
theorem cr_198 (M : pM) (s0 : Int) (b0 : 0 ≤ s0 ∧ s0 ≤ 255) (m0 : HP 144 (1 : Int) (s0) M) (f0 : 0 ≤ ((-1) * s0 + 39)) (hG : gI M) : (HP 144 (2 : Int) (s0) M ∧ True) := by
  exact ⟨Eq.mpr hp_144 (fun k h1 h2 => if e : k = 1 then (by subst e; rw [show sgs.getD 1 0 = 40 by decide]; omega) else Eq.mp hp_144 m0 k h1 (by omega)), trivial⟩
theorem rul_198 : Rul r_198 := by
  refine ⟨fun _ ρ M hm hB hF hG => ?_, fun gi gv hg => (by cases hg)⟩
  have H := cr_198 M (ρ 0) (hB _ List.mem_cons_self) (cvp 144 (x' := (1 : Int)) (y' := ((ρ 0))) (by show 1 + 0 = _; omega) (by show 0 + (1 * ρ 0 + 0) = _; omega) (hm _ List.mem_cons_self)) (by have h := hF _ List.mem_cons_self; have h : 0 ≤ 39 + ((-1) * ρ 0 + 0) := h; omega) hG
  obtain ⟨k0, -⟩ := H
  exact ⟨_, List.mem_cons_self, ρ, fun _ _ => rfl, (okM_c (pvp 144 (by show 2 + 0 = _; omega) (by show 0 + (1 * ρ 0 + 0) = _; omega) k0) okM_n), okB_n, okF_n⟩
-- ng2_1
theorem cr_199 (M : pM) (s0 : Int) (b0 : 0 ≤ s0 ∧ s0 ≤ 255) (m0 : HP 144 (1 : Int) (s0) M) (f0 : 0 ≤ (s0 - 41)) (hG : gI M) : (HP 144 (2 : Int) (s0) M ∧ True) := by
  exact ⟨Eq.mpr hp_144 (fun k h1 h2 => if e : k = 1 then (by subst e; rw [show sgs.getD 1 0 = 40 by decide]; omega) else Eq.mp hp_144 m0 k h1 (by omega)), trivial⟩
theorem rul_199 : Rul r_199 := by
  refine ⟨fun _ ρ M hm hB hF hG => ?_, fun gi gv hg => (by cases hg)⟩
  have H := cr_199 M (ρ 0) (hB _ List.mem_cons_self) (cvp 144 (x' := (1 : Int)) (y' := ((ρ 0))) (by show 1 + 0 = _; omega) (by show 0 + (1 * ρ 0 + 0) = _; omega) (hm _ List.mem_cons_self)) (by have h := hF _ List.mem_cons_self; have h : 0 ≤ (-41) + (1 * ρ 0 + 0) := h; omega) hG
  obtain ⟨k0, -⟩ := H
  exact ⟨_, List.mem_cons_self, ρ, fun _ _ => rfl, (okM_c (pvp 144 (by show 2 + 0 = _; omega) (by show 0 + (1 * ρ 0 + 0) = _; omega) k0) okM_n), okB_n, okF_n⟩
