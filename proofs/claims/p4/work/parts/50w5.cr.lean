-- rnw_1
theorem cr_600 (M : pM) (s0 s1 s2 s3 s4 s5 : Int) (b0 : 0 ≤ s0 ∧ s0 ≤ 1900) (b1 : 0 ≤ s1 ∧ s1 ≤ 950) (b2 : 0 ≤ s2 ∧ s2 ≤ 12) (b3 : 0 ≤ s3 ∧ s3 ≤ 20) (b4 : 0 ≤ s4 ∧ s4 ≤ 3) (m0 : HP 61 (4096 * s0 + s1) (s2 + 32 * s3 + 1024 * s4) M) (hG : gI M) : (HP 61 (4096 * s0 + s1) (s2 + 32 * s3 + 1024 * s4) (st M 83 (s4 + 4).toNat (s5)) ∧ (0 ≤ (s4 + 4) ∧ (st M 83 (s4 + 4).toNat (s5)) 83 (s4 + 4).toNat = (s5)) ∧ True) := by
  have ht : tm (st M 83 (4 * 1 + (s4.toNat)) (s5)) = tm M := tm_st (by decide) (by decide)
  rw [show (s4 + 4).toNat = 4 * 1 + (s4.toNat) by omega]
  refine ⟨Eq.mpr hp_61 ?_, ⟨by omega, ?_⟩, trivial⟩
  · rw [ht]
    exact RA_m (fun _ _ _ _ _ h => agR_w83 h) (l_rnw (w := s2) (r := s3) (g := s4) (Eq.mp hp_61 m0) (by omega) ⟨⟨by omega, by omega⟩, ⟨by omega, by omega⟩, by omega, by omega⟩ (by omega))
  · rw [cw0, if_pos rfl]

-- rnv_1
theorem cr_601 (M : pM) (s0 s1 s2 s3 s4 s5 s6 s7 : Int) (b0 : 0 ≤ s0 ∧ s0 ≤ 1900) (b1 : 0 ≤ s1 ∧ s1 ≤ 1900) (b2 : 0 ≤ s2 ∧ s2 ≤ 1900) (b3 : 0 ≤ s3 ∧ s3 ≤ 1900) (b4 : 0 ≤ s4 ∧ s4 ≤ 9223372036854775807) (b5 : 0 ≤ s5 ∧ s5 ≤ 12) (b6 : 0 ≤ s6 ∧ s6 ≤ 20) (b7 : 0 ≤ s7 ∧ s7 ≤ 3) (m0 : HP 157 (16 * s0 + 1) (s1) M) (m1 : HP 47 (s1) (262143 : Int) M) (m2 : HP 45 (s1) (s2) M) (m3 : HP 46 (s1) (s3) M) (m4 : HP 143 (2048 * s2 + s3) (s4) M) (m5 : (0 ≤ (s7 + 4) ∧ M 83 (s7 + 4).toNat = (s4))) (hG : gI M) : (HP 156 (s0) (s7) M ∧ True) := by
  obtain ⟨p, i, t1, t2, t3⟩ := Eq.mp hp_157 m0
  have e1 : i = 1 := by omega
  have e2 : p = s0.toNat := by omega
  subst e1
  subst e2
  have g1 := (q45 m2).2
  have g2 := (q46 m3).2
  rw [show s1.toNat = qps (tm M) s0.toNat 1 by omega] at g1 g2
  obtain ⟨p1, p2, p3⟩ := pk_o (s := s2.toNat) (e := s3.toNat) (Eq.mp hp_143 m4) ⟨by omega, by omega, by omega⟩
  refine ⟨Eq.mpr hp_156 ⟨by omega, s7.toNat, by omega, by omega, ?_⟩, trivial⟩
  rw [show 4 + s7.toNat = (s7 + 4).toNat by omega, m5.2]
  unfold qpk
  rw [show tS (tm M) (qps (tm M) s0.toNat 1) = s2.toNat by omega, show tE (tm M) (qps (tm M) s0.toNat 1) = s3.toNat by omega]
  exact p2

-- rsw_1
theorem cr_602 (M : pM) (s0 s1 s2 s3 s4 s5 s6 : Int) (b0 : 0 ≤ s0 ∧ s0 ≤ 1900) (b1 : 0 ≤ s1 ∧ s1 ≤ 950) (b2 : 0 ≤ s2 ∧ s2 ≤ 12) (b3 : 0 ≤ s3 ∧ s3 ≤ 20) (b4 : 0 ≤ s4 ∧ s4 ≤ 3) (b5 : 0 ≤ s5 ∧ s5 ≤ 3) (b6 : 0 ≤ s6 ∧ s6 ≤ 30) (m0 : HP 61 (4096 * s0 + s1) (s2 + 32 * s3 + 1024 * s4) M) (m1 : HP 150 (4096 * s0 + s1) (s2 + 32 * s3 + 1024 * s4 + 8192 * s5) M) (m2 : HP 79 (16 * s0 + s5 + 3) (s6) M) (hG : gI M) : (HP 61 (4096 * s0 + s1) (s2 + 32 * s3 + 1024 * s4) (st M 81 (4 * s4 + s5 + 16).toNat (s6)) ∧ HP 150 (4096 * s0 + s1) (s2 + 32 * s3 + 1024 * s4 + 8192 * s5 + 8192) (st M 81 (4 * s4 + s5 + 16).toNat (s6)) ∧ True) := by
  have hv := q79 (P := s0) (i := 3 + s5.toNat) m2 ⟨by omega, by omega⟩ (by omega)
  have ht : tm (st M 81 (16 * 1 + (4 * s4.toNat + s5.toNat)) (s6)) = tm M := tm_st (by decide) (by decide)
  rw [show (4 * s4 + s5 + 16).toNat = 16 * 1 + (4 * s4.toNat + s5.toNat) by omega]
  refine ⟨Eq.mpr hp_61 ?_, Eq.mpr hp_150 ?_, trivial⟩
  · rw [ht]
    exact RA_m (fun _ _ _ _ _ h => agR_w81 h) (l_ras (w := s2) (r := s3) (g := s4) (Eq.mp hp_61 m0) (by omega) ⟨⟨by omega, by omega⟩, ⟨by omega, by omega⟩, by omega, by omega⟩ (by omega))
  · rw [ht]
    exact RS_m (R := qU (qRr 1 M) 12 (4 * s4.toNat + s5.toNat) (s6)) (R' := qRr 1 (st M 81 (16 * 1 + (4 * s4.toNat + s5.toNat)) (s6))) (fun i _ => cw) (fun i _ => rfl) (k := s5.toNat + 1) (w := s2) (r := s3) (g := s4) (l_rsw (y' := (s2 + 32 * s3 + 1024 * s4 + 8192 * s5 + 8192)) (k := s5.toNat) (w := s2) (r := s3) (g := s4) (P := s0) (l := s1) (Eq.mp hp_150 m1) (by omega) ⟨⟨by omega, by omega⟩, ⟨by omega, by omega⟩, by omega, by omega⟩ (by omega) ⟨by omega, by omega, by omega⟩ hv (by omega)) (by omega) ⟨⟨by omega, by omega⟩, ⟨by omega, by omega⟩, by omega, by omega⟩

-- rs0_1
theorem cr_603 (M : pM) (s0 s1 s2 s3 s4 : Int) (b0 : 0 ≤ s0 ∧ s0 ≤ 1900) (b1 : 0 ≤ s1 ∧ s1 ≤ 950) (b2 : 0 ≤ s2 ∧ s2 ≤ 12) (b3 : 0 ≤ s3 ∧ s3 ≤ 20) (b4 : 0 ≤ s4 ∧ s4 ≤ 4) (m0 : HP 61 (4096 * s0 + s1) (s2 + 32 * s3 + 1024 * s4) M) (hG : gI M) : (HP 150 (4096 * s0 + s1) (s2 + 32 * s3 + 1024 * s4) M ∧ True) := by
  exact ⟨Eq.mpr hp_150 (l_rs0 (Eq.mp hp_61 m0)), trivial⟩

-- rhw_1
theorem cr_604 (M : pM) (s0 s1 s2 s3 s4 s5 : Int) (b0 : 0 ≤ s0 ∧ s0 ≤ 1900) (b1 : 0 ≤ s1 ∧ s1 ≤ 950) (b2 : 0 ≤ s2 ∧ s2 ≤ 12) (b3 : 0 ≤ s3 ∧ s3 ≤ 20) (b4 : 0 ≤ s4 ∧ s4 ≤ 3) (b5 : 50 ≤ s5 ∧ s5 ≤ 200) (m0 : HP 61 (4096 * s0 + s1) (s2 + 32 * s3 + 1024 * s4) M) (m1 : HP 150 (4096 * s0 + s1) (s2 + 32 * s3 + 1024 * s4 + 32768) M) (m2 : HP 79 (16 * s0 + 8) (s5) M) (hG : gI M) : (HP 61 (4096 * s0 + s1) (s2 + 32 * s3 + 1024 * s4) (st M 82 (s4 + 4).toNat (s5)) ∧ HP 150 (4096 * s0 + s1) (s2 + 32 * s3 + 1024 * s4 + 40960) (st M 82 (s4 + 4).toNat (s5)) ∧ True) := by
  have hv := q79 (P := s0) (i := 8) m2 ⟨by omega, by omega⟩ (by omega)
  have ht : tm (st M 82 (4 * 1 + (s4.toNat)) (s5)) = tm M := tm_st (by decide) (by decide)
  rw [show (s4 + 4).toNat = 4 * 1 + (s4.toNat) by omega]
  refine ⟨Eq.mpr hp_61 ?_, Eq.mpr hp_150 ?_, trivial⟩
  · rw [ht]
    exact RA_m (fun _ _ _ _ _ h => agR_w82 h) (l_rah (w := s2) (r := s3) (g := s4) (Eq.mp hp_61 m0) (by omega) ⟨⟨by omega, by omega⟩, ⟨by omega, by omega⟩, by omega, by omega⟩ (by omega))
  · rw [ht]
    exact RS_m (R := qU (qRr 1 M) 13 (s4.toNat) (s5)) (R' := qRr 1 (st M 82 (4 * 1 + (s4.toNat)) (s5))) (fun i _ => rfl) (fun i _ => cw) (k := 5) (w := s2) (r := s3) (g := s4) (l_rhw (y' := (s2 + 32 * s3 + 1024 * s4 + 40960)) (w := s2) (r := s3) (g := s4) (P := s0) (l := s1) (Eq.mp hp_150 m1) (by omega) ⟨⟨by omega, by omega⟩, ⟨by omega, by omega⟩, by omega, by omega⟩ ⟨by omega, by omega, by omega⟩ hv (by omega)) (by omega) ⟨⟨by omega, by omega⟩, ⟨by omega, by omega⟩, by omega, by omega⟩

-- rge_1
theorem cr_605 (M : pM) (s0 s1 s2 s3 s4 s5 : Int) (b0 : 0 ≤ s0 ∧ s0 ≤ 1900) (b1 : 0 ≤ s1 ∧ s1 ≤ 950) (b2 : 0 ≤ s2 ∧ s2 ≤ 1900) (b3 : 0 ≤ s3 ∧ s3 ≤ 12) (b4 : 0 ≤ s4 ∧ s4 ≤ 20) (b5 : 0 ≤ s5 ∧ s5 ≤ 3) (m0 : HP 61 (4096 * s0 + s1) (s3 + 32 * s4 + 1024 * s5) M) (m1 : HP 150 (4096 * s0 + s1) (s3 + 32 * s4 + 1024 * s5 + 40960) M) (m2 : HP 156 (s0) (s5) M) (m3 : HP 53 (4096 * s0 + s1) (256 * s2 + 169) M) (hG : gI M) : (HP 63 (4096 * s0 + s1) (s3 + 32 * s4 + 1024 * s5 + 1024) M ∧ True) := by
  obtain ⟨h0, gg, h1, h2, h3⟩ := Eq.mp hp_156 m2
  have hg : gg = s5.toNat := by omega
  subst hg
  exact ⟨Eq.mpr hp_63 (l_rge (v := 0) (w := s3) (r := s4) (g := s5) (P := s0) (l := s1) (Eq.mp hp_61 m0) (Eq.mp hp_150 m1) (by omega) (by omega) ⟨⟨by omega, by omega⟩, ⟨by omega, by omega⟩, by omega, by omega⟩ (ex_o (K := 10) (j := 8) (a := s2) (Eq.mp hp_53 m3) ⟨by omega, by omega, by decide, by decide⟩) ⟨by omega, by omega, by omega⟩ h3 (by omega)), trivial⟩

-- rexs4_1
theorem cr_606 (M : pM) (s0 s1 s2 s3 s4 s5 : Int) (b0 : 0 ≤ s0 ∧ s0 ≤ 1900) (b1 : 0 ≤ s1 ∧ s1 ≤ 950) (b2 : 0 ≤ s2 ∧ s2 ≤ 1900) (b3 : 0 ≤ s3 ∧ s3 ≤ 12) (b4 : 0 ≤ s4 ∧ s4 ≤ 20) (b5 : 0 ≤ s5 ∧ s5 ≤ 4) (m0 : HP 61 (4096 * s0 + s1) (s3 + 32 * s4 + 1024 * s5) M) (m1 : HP 47 (s0) (262148 : Int) M) (m2 : HP 46 (s0) (s2) M) (f0 : 0 ≤ ((-1) * s3 + 11)) (hG : gI M) : (HP 53 (4096 * s0 + s1) (256 * s2 + 65) M ∧ True) := by
  obtain ⟨s, h1, hw, ha⟩ := Eq.mp hp_61 m0
  obtain ⟨c1, c2, c3⟩ := qW_o (w := s3) (r := s4) (g := s5) hw (by omega) (by omega) (by omega) (by omega)
  exact ⟨Eq.mpr hp_53 (r_exs (P := s0) (l := s1) (K := 4) h1 ⟨by omega, by omega, by omega⟩ (by have := (q47 m1).2; omega) (q46 m2).2 (by decide) (by unfold qfu; exact decide_eq_false (by omega)) (by omega)), trivial⟩

-- rful4_1
theorem cr_607 (M : pM) (s0 s1 s2 s3 s4 s5 : Int) (b0 : 0 ≤ s0 ∧ s0 ≤ 1900) (b1 : 0 ≤ s1 ∧ s1 ≤ 950) (b2 : 0 ≤ s2 ∧ s2 ≤ 1900) (b3 : 0 ≤ s3 ∧ s3 ≤ 12) (b4 : 0 ≤ s4 ∧ s4 ≤ 20) (b5 : 0 ≤ s5 ∧ s5 ≤ 4) (m0 : HP 61 (4096 * s0 + s1) (s3 + 32 * s4 + 1024 * s5) M) (m1 : HP 47 (s0) (262148 : Int) M) (m2 : HP 45 (s0) (s2) M) (f0 : 0 ≤ (s3 - 12)) (hG : gI M) : (HP 66 (s2) (2 : Int) M ∧ True) := by
  obtain ⟨s, h1, hw, ha⟩ := Eq.mp hp_61 m0
  obtain ⟨c1, c2, c3⟩ := qW_o (w := s3) (r := s4) (g := s5) hw (by omega) (by omega) (by omega) (by omega)
  exact ⟨Eq.mpr hp_66 (r_ful (P := s0) (l := s1) (K := 4) h1 ⟨by omega, by omega, by omega⟩ (by have := (q47 m1).2; omega) (q45 m2).2 (by decide) (by unfold qfu; exact decide_eq_true (by omega))), trivial⟩

-- rexs9_1
theorem cr_608 (M : pM) (s0 s1 s2 s3 s4 s5 : Int) (b0 : 0 ≤ s0 ∧ s0 ≤ 1900) (b1 : 0 ≤ s1 ∧ s1 ≤ 950) (b2 : 0 ≤ s2 ∧ s2 ≤ 1900) (b3 : 0 ≤ s3 ∧ s3 ≤ 12) (b4 : 0 ≤ s4 ∧ s4 ≤ 20) (b5 : 0 ≤ s5 ∧ s5 ≤ 4) (m0 : HP 61 (4096 * s0 + s1) (s3 + 32 * s4 + 1024 * s5) M) (m1 : HP 47 (s0) (262153 : Int) M) (m2 : HP 46 (s0) (s2) M) (f0 : 0 ≤ ((-1) * s4 + 19)) (hG : gI M) : (HP 53 (4096 * s0 + s1) (256 * s2 + 145) M ∧ True) := by
  obtain ⟨s, h1, hw, ha⟩ := Eq.mp hp_61 m0
  obtain ⟨c1, c2, c3⟩ := qW_o (w := s3) (r := s4) (g := s5) hw (by omega) (by omega) (by omega) (by omega)
  exact ⟨Eq.mpr hp_53 (r_exs (P := s0) (l := s1) (K := 9) h1 ⟨by omega, by omega, by omega⟩ (by have := (q47 m1).2; omega) (q46 m2).2 (by decide) (by unfold qfu; exact decide_eq_false (by omega)) (by omega)), trivial⟩

-- rful9_1
theorem cr_609 (M : pM) (s0 s1 s2 s3 s4 s5 : Int) (b0 : 0 ≤ s0 ∧ s0 ≤ 1900) (b1 : 0 ≤ s1 ∧ s1 ≤ 950) (b2 : 0 ≤ s2 ∧ s2 ≤ 1900) (b3 : 0 ≤ s3 ∧ s3 ≤ 12) (b4 : 0 ≤ s4 ∧ s4 ≤ 20) (b5 : 0 ≤ s5 ∧ s5 ≤ 4) (m0 : HP 61 (4096 * s0 + s1) (s3 + 32 * s4 + 1024 * s5) M) (m1 : HP 47 (s0) (262153 : Int) M) (m2 : HP 45 (s0) (s2) M) (f0 : 0 ≤ (s4 - 20)) (hG : gI M) : (HP 66 (s2) (2 : Int) M ∧ True) := by
  obtain ⟨s, h1, hw, ha⟩ := Eq.mp hp_61 m0
  obtain ⟨c1, c2, c3⟩ := qW_o (w := s3) (r := s4) (g := s5) hw (by omega) (by omega) (by omega) (by omega)
  exact ⟨Eq.mpr hp_66 (r_ful (P := s0) (l := s1) (K := 9) h1 ⟨by omega, by omega, by omega⟩ (by have := (q47 m1).2; omega) (q45 m2).2 (by decide) (by unfold qfu; exact decide_eq_true (by omega))), trivial⟩

-- rexs10_1
theorem cr_610 (M : pM) (s0 s1 s2 s3 s4 s5 : Int) (b0 : 0 ≤ s0 ∧ s0 ≤ 1900) (b1 : 0 ≤ s1 ∧ s1 ≤ 950) (b2 : 0 ≤ s2 ∧ s2 ≤ 1900) (b3 : 0 ≤ s3 ∧ s3 ≤ 12) (b4 : 0 ≤ s4 ∧ s4 ≤ 20) (b5 : 0 ≤ s5 ∧ s5 ≤ 4) (m0 : HP 61 (4096 * s0 + s1) (s3 + 32 * s4 + 1024 * s5) M) (m1 : HP 47 (s0) (262154 : Int) M) (m2 : HP 46 (s0) (s2) M) (f0 : 0 ≤ ((-1) * s5 + 3)) (hG : gI M) : (HP 53 (4096 * s0 + s1) (256 * s2 + 161) M ∧ True) := by
  obtain ⟨s, h1, hw, ha⟩ := Eq.mp hp_61 m0
  obtain ⟨c1, c2, c3⟩ := qW_o (w := s3) (r := s4) (g := s5) hw (by omega) (by omega) (by omega) (by omega)
  exact ⟨Eq.mpr hp_53 (r_exs (P := s0) (l := s1) (K := 10) h1 ⟨by omega, by omega, by omega⟩ (by have := (q47 m1).2; omega) (q46 m2).2 (by decide) (by unfold qfu; exact decide_eq_false (by omega)) (by omega)), trivial⟩

-- rful10_1
theorem cr_611 (M : pM) (s0 s1 s2 s3 s4 s5 : Int) (b0 : 0 ≤ s0 ∧ s0 ≤ 1900) (b1 : 0 ≤ s1 ∧ s1 ≤ 950) (b2 : 0 ≤ s2 ∧ s2 ≤ 1900) (b3 : 0 ≤ s3 ∧ s3 ≤ 12) (b4 : 0 ≤ s4 ∧ s4 ≤ 20) (b5 : 0 ≤ s5 ∧ s5 ≤ 4) (m0 : HP 61 (4096 * s0 + s1) (s3 + 32 * s4 + 1024 * s5) M) (m1 : HP 47 (s0) (262154 : Int) M) (m2 : HP 45 (s0) (s2) M) (f0 : 0 ≤ (s5 - 4)) (hG : gI M) : (HP 66 (s2) (2 : Int) M ∧ True) := by
  obtain ⟨s, h1, hw, ha⟩ := Eq.mp hp_61 m0
  obtain ⟨c1, c2, c3⟩ := qW_o (w := s3) (r := s4) (g := s5) hw (by omega) (by omega) (by omega) (by omega)
  exact ⟨Eq.mpr hp_66 (r_ful (P := s0) (l := s1) (K := 10) h1 ⟨by omega, by omega, by omega⟩ (by have := (q47 m1).2; omega) (q45 m2).2 (by decide) (by unfold qfu; exact decide_eq_true (by omega))), trivial⟩

-- rexs0_1
theorem cr_612 (M : pM) (s0 s1 s2 s3 s4 s5 : Int) (b0 : 0 ≤ s0 ∧ s0 ≤ 1900) (b1 : 0 ≤ s1 ∧ s1 ≤ 950) (b2 : 0 ≤ s2 ∧ s2 ≤ 1900) (b3 : 0 ≤ s3 ∧ s3 ≤ 12) (b4 : 0 ≤ s4 ∧ s4 ≤ 20) (b5 : 0 ≤ s5 ∧ s5 ≤ 4) (m0 : HP 61 (4096 * s0 + s1) (s3 + 32 * s4 + 1024 * s5) M) (m1 : HP 47 (s0) (262144 : Int) M) (m2 : HP 46 (s0) (s2) M) (hG : gI M) : (HP 53 (4096 * s0 + s1) (256 * s2 + 1) M ∧ True) := by
  obtain ⟨s, h1, hw, ha⟩ := Eq.mp hp_61 m0
  obtain ⟨c1, c2, c3⟩ := qW_o (w := s3) (r := s4) (g := s5) hw (by omega) (by omega) (by omega) (by omega)
  exact ⟨Eq.mpr hp_53 (r_exs (P := s0) (l := s1) (K := 0) h1 ⟨by omega, by omega, by omega⟩ (by have := (q47 m1).2; omega) (q46 m2).2 (by decide) (by unfold qfu; exact decide_eq_false (by omega)) (by omega)), trivial⟩

-- rexs1_1
theorem cr_613 (M : pM) (s0 s1 s2 s3 s4 s5 : Int) (b0 : 0 ≤ s0 ∧ s0 ≤ 1900) (b1 : 0 ≤ s1 ∧ s1 ≤ 950) (b2 : 0 ≤ s2 ∧ s2 ≤ 1900) (b3 : 0 ≤ s3 ∧ s3 ≤ 12) (b4 : 0 ≤ s4 ∧ s4 ≤ 20) (b5 : 0 ≤ s5 ∧ s5 ≤ 4) (m0 : HP 61 (4096 * s0 + s1) (s3 + 32 * s4 + 1024 * s5) M) (m1 : HP 47 (s0) (262145 : Int) M) (m2 : HP 46 (s0) (s2) M) (hG : gI M) : (HP 53 (4096 * s0 + s1) (256 * s2 + 17) M ∧ True) := by
  obtain ⟨s, h1, hw, ha⟩ := Eq.mp hp_61 m0
  obtain ⟨c1, c2, c3⟩ := qW_o (w := s3) (r := s4) (g := s5) hw (by omega) (by omega) (by omega) (by omega)
  exact ⟨Eq.mpr hp_53 (r_exs (P := s0) (l := s1) (K := 1) h1 ⟨by omega, by omega, by omega⟩ (by have := (q47 m1).2; omega) (q46 m2).2 (by decide) (by unfold qfu; exact decide_eq_false (by omega)) (by omega)), trivial⟩

-- rexs2_1
theorem cr_614 (M : pM) (s0 s1 s2 s3 s4 s5 : Int) (b0 : 0 ≤ s0 ∧ s0 ≤ 1900) (b1 : 0 ≤ s1 ∧ s1 ≤ 950) (b2 : 0 ≤ s2 ∧ s2 ≤ 1900) (b3 : 0 ≤ s3 ∧ s3 ≤ 12) (b4 : 0 ≤ s4 ∧ s4 ≤ 20) (b5 : 0 ≤ s5 ∧ s5 ≤ 4) (m0 : HP 61 (4096 * s0 + s1) (s3 + 32 * s4 + 1024 * s5) M) (m1 : HP 47 (s0) (262146 : Int) M) (m2 : HP 46 (s0) (s2) M) (hG : gI M) : (HP 53 (4096 * s0 + s1) (256 * s2 + 33) M ∧ True) := by
  obtain ⟨s, h1, hw, ha⟩ := Eq.mp hp_61 m0
  obtain ⟨c1, c2, c3⟩ := qW_o (w := s3) (r := s4) (g := s5) hw (by omega) (by omega) (by omega) (by omega)
  exact ⟨Eq.mpr hp_53 (r_exs (P := s0) (l := s1) (K := 2) h1 ⟨by omega, by omega, by omega⟩ (by have := (q47 m1).2; omega) (q46 m2).2 (by decide) (by unfold qfu; exact decide_eq_false (by omega)) (by omega)), trivial⟩

-- rexs3_1
theorem cr_615 (M : pM) (s0 s1 s2 s3 s4 s5 : Int) (b0 : 0 ≤ s0 ∧ s0 ≤ 1900) (b1 : 0 ≤ s1 ∧ s1 ≤ 950) (b2 : 0 ≤ s2 ∧ s2 ≤ 1900) (b3 : 0 ≤ s3 ∧ s3 ≤ 12) (b4 : 0 ≤ s4 ∧ s4 ≤ 20) (b5 : 0 ≤ s5 ∧ s5 ≤ 4) (m0 : HP 61 (4096 * s0 + s1) (s3 + 32 * s4 + 1024 * s5) M) (m1 : HP 47 (s0) (262147 : Int) M) (m2 : HP 46 (s0) (s2) M) (hG : gI M) : (HP 53 (4096 * s0 + s1) (256 * s2 + 49) M ∧ True) := by
  obtain ⟨s, h1, hw, ha⟩ := Eq.mp hp_61 m0
  obtain ⟨c1, c2, c3⟩ := qW_o (w := s3) (r := s4) (g := s5) hw (by omega) (by omega) (by omega) (by omega)
  exact ⟨Eq.mpr hp_53 (r_exs (P := s0) (l := s1) (K := 3) h1 ⟨by omega, by omega, by omega⟩ (by have := (q47 m1).2; omega) (q46 m2).2 (by decide) (by unfold qfu; exact decide_eq_false (by omega)) (by omega)), trivial⟩

-- rexs8_1
theorem cr_616 (M : pM) (s0 s1 s2 s3 s4 s5 : Int) (b0 : 0 ≤ s0 ∧ s0 ≤ 1900) (b1 : 0 ≤ s1 ∧ s1 ≤ 950) (b2 : 0 ≤ s2 ∧ s2 ≤ 1900) (b3 : 0 ≤ s3 ∧ s3 ≤ 12) (b4 : 0 ≤ s4 ∧ s4 ≤ 20) (b5 : 0 ≤ s5 ∧ s5 ≤ 4) (m0 : HP 61 (4096 * s0 + s1) (s3 + 32 * s4 + 1024 * s5) M) (m1 : HP 47 (s0) (262152 : Int) M) (m2 : HP 46 (s0) (s2) M) (hG : gI M) : (HP 53 (4096 * s0 + s1) (256 * s2 + 129) M ∧ True) := by
  obtain ⟨s, h1, hw, ha⟩ := Eq.mp hp_61 m0
  obtain ⟨c1, c2, c3⟩ := qW_o (w := s3) (r := s4) (g := s5) hw (by omega) (by omega) (by omega) (by omega)
  exact ⟨Eq.mpr hp_53 (r_exs (P := s0) (l := s1) (K := 8) h1 ⟨by omega, by omega, by omega⟩ (by have := (q47 m1).2; omega) (q46 m2).2 (by decide) (by unfold qfu; exact decide_eq_false (by omega)) (by omega)), trivial⟩

-- rftk0_1
theorem cr_617 (M : pM) (s0 s1 s2 s3 s4 s5 s6 : Int) (b0 : 0 ≤ s0 ∧ s0 ≤ 1900) (b1 : 0 ≤ s1 ∧ s1 ≤ 950) (b2 : 0 ≤ s2 ∧ s2 ≤ 1900) (b3 : 0 ≤ s3 ∧ s3 ≤ 12) (b4 : 0 ≤ s4 ∧ s4 ≤ 20) (b5 : 0 ≤ s5 ∧ s5 ≤ 4) (b6 : (-1) ≤ s6 ∧ s6 ≤ 600000) (m0 : HP 61 (4096 * s0 + s1) (s3 + 32 * s4 + 1024 * s5) M) (m1 : HP 47 (s0) (s6) M) (m2 : HP 45 (s0) (s2) M) (f0 : 0 ≤ ((-1) * s6 + 255)) (hG : gI M) : (HP 66 (s2) (1 : Int) M ∧ True) := by
  obtain ⟨s, h1, hw, ha⟩ := Eq.mp hp_61 m0
  obtain ⟨c1, c2, c3⟩ := qW_o (w := s3) (r := s4) (g := s5) hw (by omega) (by omega) (by omega) (by omega)
  exact ⟨Eq.mpr hp_66 (r_ftk (P := s0) (l := s1) h1 ⟨by omega, by omega, by omega⟩ (q47 m1).2 (q45 m2).2 (by omega) (by rw [if_pos (by omega)])), trivial⟩

-- rftk1_1
theorem cr_618 (M : pM) (s0 s1 s2 s3 s4 s5 s6 : Int) (b0 : 0 ≤ s0 ∧ s0 ≤ 1900) (b1 : 0 ≤ s1 ∧ s1 ≤ 950) (b2 : 0 ≤ s2 ∧ s2 ≤ 1900) (b3 : 0 ≤ s3 ∧ s3 ≤ 12) (b4 : 0 ≤ s4 ∧ s4 ≤ 20) (b5 : 0 ≤ s5 ∧ s5 ≤ 4) (b6 : (-1) ≤ s6 ∧ s6 ≤ 600000) (m0 : HP 61 (4096 * s0 + s1) (s3 + 32 * s4 + 1024 * s5) M) (m1 : HP 47 (s0) (s6) M) (m2 : HP 45 (s0) (s2) M) (f0 : 0 ≤ (s6 - 262143)) (f1 : 0 ≤ ((-1) * s6 + 262143)) (hG : gI M) : (HP 66 (s2) (2 : Int) M ∧ True) := by
  obtain ⟨s, h1, hw, ha⟩ := Eq.mp hp_61 m0
  obtain ⟨c1, c2, c3⟩ := qW_o (w := s3) (r := s4) (g := s5) hw (by omega) (by omega) (by omega) (by omega)
  exact ⟨Eq.mpr hp_66 (r_ftk (P := s0) (l := s1) h1 ⟨by omega, by omega, by omega⟩ (q47 m1).2 (q45 m2).2 (by omega) (by rw [if_neg (by omega)])), trivial⟩

-- rftk2_1
theorem cr_619 (M : pM) (s0 s1 s2 s3 s4 s5 s6 : Int) (b0 : 0 ≤ s0 ∧ s0 ≤ 1900) (b1 : 0 ≤ s1 ∧ s1 ≤ 950) (b2 : 0 ≤ s2 ∧ s2 ≤ 1900) (b3 : 0 ≤ s3 ∧ s3 ≤ 12) (b4 : 0 ≤ s4 ∧ s4 ≤ 20) (b5 : 0 ≤ s5 ∧ s5 ≤ 4) (b6 : (-1) ≤ s6 ∧ s6 ≤ 600000) (m0 : HP 61 (4096 * s0 + s1) (s3 + 32 * s4 + 1024 * s5) M) (m1 : HP 47 (s0) (s6) M) (m2 : HP 45 (s0) (s2) M) (f0 : 0 ≤ (s6 - 262149)) (f1 : 0 ≤ ((-1) * s6 + 262151)) (hG : gI M) : (HP 66 (s2) (2 : Int) M ∧ True) := by
  obtain ⟨s, h1, hw, ha⟩ := Eq.mp hp_61 m0
  obtain ⟨c1, c2, c3⟩ := qW_o (w := s3) (r := s4) (g := s5) hw (by omega) (by omega) (by omega) (by omega)
  exact ⟨Eq.mpr hp_66 (r_ftk (P := s0) (l := s1) h1 ⟨by omega, by omega, by omega⟩ (q47 m1).2 (q45 m2).2 (by omega) (by rw [if_neg (by omega)])), trivial⟩

-- rftk3_1
theorem cr_620 (M : pM) (s0 s1 s2 s3 s4 s5 s6 : Int) (b0 : 0 ≤ s0 ∧ s0 ≤ 1900) (b1 : 0 ≤ s1 ∧ s1 ≤ 950) (b2 : 0 ≤ s2 ∧ s2 ≤ 1900) (b3 : 0 ≤ s3 ∧ s3 ≤ 12) (b4 : 0 ≤ s4 ∧ s4 ≤ 20) (b5 : 0 ≤ s5 ∧ s5 ≤ 4) (b6 : (-1) ≤ s6 ∧ s6 ≤ 600000) (m0 : HP 61 (4096 * s0 + s1) (s3 + 32 * s4 + 1024 * s5) M) (m1 : HP 47 (s0) (s6) M) (m2 : HP 45 (s0) (s2) M) (f0 : 0 ≤ (s6 - 262155)) (hG : gI M) : (HP 66 (s2) (2 : Int) M ∧ True) := by
  obtain ⟨s, h1, hw, ha⟩ := Eq.mp hp_61 m0
  obtain ⟨c1, c2, c3⟩ := qW_o (w := s3) (r := s4) (g := s5) hw (by omega) (by omega) (by omega) (by omega)
  exact ⟨Eq.mpr hp_66 (r_ftk (P := s0) (l := s1) h1 ⟨by omega, by omega, by omega⟩ (q47 m1).2 (q45 m2).2 (by omega) (by rw [if_neg (by omega)])), trivial⟩

-- rsemi_1
theorem cr_621 (M : pM) (s0 s1 s2 s3 s4 s5 s6 : Int) (b0 : 0 ≤ s0 ∧ s0 ≤ 1900) (b1 : 0 ≤ s1 ∧ s1 ≤ 950) (b2 : 0 ≤ s2 ∧ s2 ≤ 1900) (b3 : 0 ≤ s3 ∧ s3 ≤ 1900) (b4 : 0 ≤ s4 ∧ s4 ≤ 12) (b5 : 0 ≤ s5 ∧ s5 ≤ 20) (b6 : 0 ≤ s6 ∧ s6 ≤ 4) (m0 : HP 89 (4096 * s0 + s1) (s2) M) (m1 : HP 47 (s2) (524347 : Int) M) (m2 : HP 46 (s2) (s3) M) (m3 : HP 63 (4096 * s0 + s1) (s4 + 32 * s5 + 1024 * s6) M) (hG : gI M) : (HP 61 (s1 + 4096 * s3 + 1) (s4 + 32 * s5 + 1024 * s6) M ∧ 0 ≤ ((-1) * s1 + 949) ∧ True) := by
  obtain ⟨k1, k2⟩ := k_semiR (P := s0) (l := s1) (x' := (s1 + 4096 * s3 + 1)) (Eq.mp hp_63 m3)  (Eq.mp hp_89 m0) (by omega) ⟨by omega, by omega, by omega⟩ (q47 m1).2 (q46 m2).2 (by omega) (by omega)
  exact ⟨Eq.mpr hp_61 k1, by omega, trivial⟩

-- rend_1
theorem cr_622 (M : pM) (s0 s1 s2 s3 s4 : Int) (b0 : 0 ≤ s0 ∧ s0 ≤ 1900) (b1 : 0 ≤ s1 ∧ s1 ≤ 950) (b2 : 0 ≤ s2 ∧ s2 ≤ 12) (b3 : 0 ≤ s3 ∧ s3 ≤ 20) (b4 : 0 ≤ s4 ∧ s4 ≤ 4) (m0 : HP 61 (4096 * s0 + s1) (s2 + 32 * s3 + 1024 * s4) M) (m1 : HP 47 (s0) (131071 : Int) M) (hG : gI M) : (HP 65 (s1) (s2 + 32 * s3 + 1024 * s4) M ∧ True) := by
  exact ⟨Eq.mpr hp_65 (l_rend (P := s0) (l := s1) (Eq.mp hp_61 m0) ⟨by omega, by omega, by omega⟩ (q47 m1).2), trivial⟩

-- fj0_69_0
theorem cr_623 (M : pM)  (hG : gI M) : (HP 160 (0 : Int) (0 : Int) M ∧ True) := by
  exact ⟨Eq.mpr hp_160 ⟨by decide, fun i hi => by omega⟩, trivial⟩

-- fjw_69_0
theorem cr_624 (M : pM) (s0 : Int) (b0 : 0 ≤ s0 ∧ s0 ≤ 63) (m0 : HP 160 (s0) (0 : Int) M) (hG : gI M) : (HP 160 (s0 + 1) (0 : Int) (st M 69 (s0).toNat (0 : Int)) ∧ True) := by
  refine ⟨Eq.mpr hp_160 ⟨by omega, fun i hi => ?_⟩, trivial⟩
  rw [show (s0).toNat = 0 + s0.toNat by omega, cw]
  by_cases e : i = s0.toNat
  · rw [if_pos e]
  · rw [if_neg e]; exact (Eq.mp hp_160 m0).2 i (by omega)

-- fjx_69_0
theorem cr_625 (M : pM) (s0 s1 : Int) (b0 : 0 ≤ s0 ∧ s0 ≤ 64) (b1 : 0 ≤ s1 ∧ s1 ≤ 64) (m0 : HP 160 (s0) (0 : Int) M) (f0 : 0 ≤ ((-1) * s0 + s1)) (f1 : 0 ≤ (s0 + (-1) * s1)) (hG : gI M) : (HP 160 (s1) (0 : Int) M ∧ True) := by
  have e : s0 = s1 := by omega
  subst e
  exact ⟨m0, trivial⟩

-- fj0_70_0
theorem cr_626 (M : pM)  (hG : gI M) : (HP 161 (0 : Int) (0 : Int) M ∧ True) := by
  exact ⟨Eq.mpr hp_161 ⟨by decide, fun i hi => by omega⟩, trivial⟩

-- fjw_70_0
theorem cr_627 (M : pM) (s0 : Int) (b0 : 0 ≤ s0 ∧ s0 ≤ 47) (m0 : HP 161 (s0) (0 : Int) M) (hG : gI M) : (HP 161 (s0 + 1) (0 : Int) (st M 70 (s0).toNat (0 : Int)) ∧ True) := by
  refine ⟨Eq.mpr hp_161 ⟨by omega, fun i hi => ?_⟩, trivial⟩
  rw [show (s0).toNat = 0 + s0.toNat by omega, cw]
  by_cases e : i = s0.toNat
  · rw [if_pos e]
  · rw [if_neg e]; exact (Eq.mp hp_161 m0).2 i (by omega)

-- fjx_70_0
theorem cr_628 (M : pM) (s0 s1 : Int) (b0 : 0 ≤ s0 ∧ s0 ≤ 48) (b1 : 0 ≤ s1 ∧ s1 ≤ 48) (m0 : HP 161 (s0) (0 : Int) M) (f0 : 0 ≤ ((-1) * s0 + s1)) (f1 : 0 ≤ (s0 + (-1) * s1)) (hG : gI M) : (HP 161 (s1) (0 : Int) M ∧ True) := by
  have e : s0 = s1 := by omega
  subst e
  exact ⟨m0, trivial⟩

-- fj0_71_0
theorem cr_629 (M : pM)  (hG : gI M) : (HP 162 (0 : Int) (-1 : Int) M ∧ True) := by
  exact ⟨Eq.mpr hp_162 ⟨by decide, fun i hi => by omega⟩, trivial⟩

-- fjw_71_0
theorem cr_630 (M : pM) (s0 : Int) (b0 : 0 ≤ s0 ∧ s0 ≤ 5) (m0 : HP 162 (s0) (-1 : Int) M) (hG : gI M) : (HP 162 (s0 + 1) (-1 : Int) (st M 71 (s0).toNat (-1 : Int)) ∧ True) := by
  refine ⟨Eq.mpr hp_162 ⟨by omega, fun i hi => ?_⟩, trivial⟩
  rw [show (s0).toNat = 0 + s0.toNat by omega, cw]
  by_cases e : i = s0.toNat
  · rw [if_pos e]
  · rw [if_neg e]; exact (Eq.mp hp_162 m0).2 i (by omega)

-- fjx_71_0
theorem cr_631 (M : pM) (s0 s1 : Int) (b0 : 0 ≤ s0 ∧ s0 ≤ 6) (b1 : 0 ≤ s1 ∧ s1 ≤ 6) (m0 : HP 162 (s0) (-1 : Int) M) (f0 : 0 ≤ ((-1) * s0 + s1)) (f1 : 0 ≤ (s0 + (-1) * s1)) (hG : gI M) : (HP 162 (s1) (-1 : Int) M ∧ True) := by
  have e : s0 = s1 := by omega
  subst e
  exact ⟨m0, trivial⟩

-- fj0_72_0
theorem cr_632 (M : pM)  (hG : gI M) : (HP 163 (0 : Int) (0 : Int) M ∧ True) := by
  exact ⟨Eq.mpr hp_163 ⟨by decide, fun i hi => by omega⟩, trivial⟩

-- fjw_72_0
theorem cr_633 (M : pM) (s0 : Int) (b0 : 0 ≤ s0 ∧ s0 ≤ 5) (m0 : HP 163 (s0) (0 : Int) M) (hG : gI M) : (HP 163 (s0 + 1) (0 : Int) (st M 72 (s0).toNat (0 : Int)) ∧ True) := by
  refine ⟨Eq.mpr hp_163 ⟨by omega, fun i hi => ?_⟩, trivial⟩
  rw [show (s0).toNat = 0 + s0.toNat by omega, cw]
  by_cases e : i = s0.toNat
  · rw [if_pos e]
  · rw [if_neg e]; exact (Eq.mp hp_163 m0).2 i (by omega)

-- fjx_72_0
theorem cr_634 (M : pM) (s0 s1 : Int) (b0 : 0 ≤ s0 ∧ s0 ≤ 6) (b1 : 0 ≤ s1 ∧ s1 ≤ 6) (m0 : HP 163 (s0) (0 : Int) M) (f0 : 0 ≤ ((-1) * s0 + s1)) (f1 : 0 ≤ (s0 + (-1) * s1)) (hG : gI M) : (HP 163 (s1) (0 : Int) M ∧ True) := by
  have e : s0 = s1 := by omega
  subst e
  exact ⟨m0, trivial⟩

-- fj0_73_0
theorem cr_635 (M : pM)  (hG : gI M) : (HP 164 (0 : Int) (-1 : Int) M ∧ True) := by
  exact ⟨Eq.mpr hp_164 ⟨by decide, fun i hi => by omega⟩, trivial⟩

-- fjw_73_0
theorem cr_636 (M : pM) (s0 : Int) (b0 : 0 ≤ s0 ∧ s0 ≤ 5) (m0 : HP 164 (s0) (-1 : Int) M) (hG : gI M) : (HP 164 (s0 + 1) (-1 : Int) (st M 73 (s0).toNat (-1 : Int)) ∧ True) := by
  refine ⟨Eq.mpr hp_164 ⟨by omega, fun i hi => ?_⟩, trivial⟩
  rw [show (s0).toNat = 0 + s0.toNat by omega, cw]
  by_cases e : i = s0.toNat
  · rw [if_pos e]
  · rw [if_neg e]; exact (Eq.mp hp_164 m0).2 i (by omega)

-- fjx_73_0
theorem cr_637 (M : pM) (s0 s1 : Int) (b0 : 0 ≤ s0 ∧ s0 ≤ 6) (b1 : 0 ≤ s1 ∧ s1 ≤ 6) (m0 : HP 164 (s0) (-1 : Int) M) (f0 : 0 ≤ ((-1) * s0 + s1)) (f1 : 0 ≤ (s0 + (-1) * s1)) (hG : gI M) : (HP 164 (s1) (-1 : Int) M ∧ True) := by
  have e : s0 = s1 := by omega
  subst e
  exact ⟨m0, trivial⟩

-- fj0_86_0
theorem cr_638 (M : pM)  (hG : gI M) : (HP 165 (0 : Int) (0 : Int) M ∧ True) := by
  exact ⟨Eq.mpr hp_165 ⟨by decide, fun i hi => by omega⟩, trivial⟩

-- fjw_86_0
theorem cr_639 (M : pM) (s0 : Int) (b0 : 0 ≤ s0 ∧ s0 ≤ 63) (m0 : HP 165 (s0) (0 : Int) M) (hG : gI M) : (HP 165 (s0 + 1) (0 : Int) (st M 86 (s0).toNat (0 : Int)) ∧ True) := by
  refine ⟨Eq.mpr hp_165 ⟨by omega, fun i hi => ?_⟩, trivial⟩
  rw [show (s0).toNat = 0 + s0.toNat by omega, cw]
  by_cases e : i = s0.toNat
  · rw [if_pos e]
  · rw [if_neg e]; exact (Eq.mp hp_165 m0).2 i (by omega)

-- fjx_86_0
theorem cr_640 (M : pM) (s0 s1 : Int) (b0 : 0 ≤ s0 ∧ s0 ≤ 64) (b1 : 0 ≤ s1 ∧ s1 ≤ 64) (m0 : HP 165 (s0) (0 : Int) M) (f0 : 0 ≤ ((-1) * s0 + s1)) (f1 : 0 ≤ (s0 + (-1) * s1)) (hG : gI M) : (HP 165 (s1) (0 : Int) M ∧ True) := by
  have e : s0 = s1 := by omega
  subst e
  exact ⟨m0, trivial⟩

-- fj0_84_0
theorem cr_641 (M : pM)  (hG : gI M) : (HP 166 (0 : Int) (0 : Int) M ∧ True) := by
  exact ⟨Eq.mpr hp_166 ⟨by decide, fun i hi => by omega⟩, trivial⟩

-- fjw_84_0
theorem cr_642 (M : pM) (s0 : Int) (b0 : 0 ≤ s0 ∧ s0 ≤ 7) (m0 : HP 166 (s0) (0 : Int) M) (hG : gI M) : (HP 166 (s0 + 1) (0 : Int) (st M 84 (s0).toNat (0 : Int)) ∧ True) := by
  refine ⟨Eq.mpr hp_166 ⟨by omega, fun i hi => ?_⟩, trivial⟩
  rw [show (s0).toNat = 0 + s0.toNat by omega, cw]
  by_cases e : i = s0.toNat
  · rw [if_pos e]
  · rw [if_neg e]; exact (Eq.mp hp_166 m0).2 i (by omega)

-- fjx_84_0
theorem cr_643 (M : pM) (s0 s1 : Int) (b0 : 0 ≤ s0 ∧ s0 ≤ 8) (b1 : 0 ≤ s1 ∧ s1 ≤ 8) (m0 : HP 166 (s0) (0 : Int) M) (f0 : 0 ≤ ((-1) * s0 + s1)) (f1 : 0 ≤ (s0 + (-1) * s1)) (hG : gI M) : (HP 166 (s1) (0 : Int) M ∧ True) := by
  have e : s0 = s1 := by omega
  subst e
  exact ⟨m0, trivial⟩

-- fj0_85_0
theorem cr_644 (M : pM)  (hG : gI M) : (HP 167 (0 : Int) (0 : Int) M ∧ True) := by
  exact ⟨Eq.mpr hp_167 ⟨by decide, fun i hi => by omega⟩, trivial⟩

-- fjw_85_0
theorem cr_645 (M : pM) (s0 : Int) (b0 : 0 ≤ s0 ∧ s0 ≤ 7) (m0 : HP 167 (s0) (0 : Int) M) (hG : gI M) : (HP 167 (s0 + 1) (0 : Int) (st M 85 (s0).toNat (0 : Int)) ∧ True) := by
  refine ⟨Eq.mpr hp_167 ⟨by omega, fun i hi => ?_⟩, trivial⟩
  rw [show (s0).toNat = 0 + s0.toNat by omega, cw]
  by_cases e : i = s0.toNat
  · rw [if_pos e]
  · rw [if_neg e]; exact (Eq.mp hp_167 m0).2 i (by omega)

-- fjx_85_0
theorem cr_646 (M : pM) (s0 s1 : Int) (b0 : 0 ≤ s0 ∧ s0 ≤ 8) (b1 : 0 ≤ s1 ∧ s1 ≤ 8) (m0 : HP 167 (s0) (0 : Int) M) (f0 : 0 ≤ ((-1) * s0 + s1)) (f1 : 0 ≤ (s0 + (-1) * s1)) (hG : gI M) : (HP 167 (s1) (0 : Int) M ∧ True) := by
  have e : s0 = s1 := by omega
  subst e
  exact ⟨m0, trivial⟩

-- ra0_0
theorem cr_647 (M : pM) (m0 : HP 160 (64 : Int) (0 : Int) M) (m1 : HP 161 (48 : Int) (0 : Int) M) (m2 : HP 162 (6 : Int) (-1 : Int) M) (m3 : HP 163 (6 : Int) (0 : Int) M) (m4 : HP 164 (6 : Int) (-1 : Int) M) (m5 : HP 165 (64 : Int) (0 : Int) M) (m6 : HP 166 (8 : Int) (0 : Int) M) (m7 : HP 167 (8 : Int) (0 : Int) M) (hG : gI M) : (HP 60 (0 : Int) (0 : Int) M ∧ True) := by
  have q0 : qat (tm M) 0 (0, qA0) := ⟨0, by decide, by decide, rfl⟩
  refine ⟨Eq.mpr hp_60 ⟨(0, qA0), q0, ⟨by decide, by decide, by decide, by decide⟩, ?_⟩, trivial⟩
  refine ⟨fun i hi => by have h := (Eq.mp hp_160 m0).2 i (by omega); exact h, fun i hi => by have h := (Eq.mp hp_161 m1).2 i (by omega); exact h, fun i hi => by have h := (Eq.mp hp_162 m2).2 i (by omega); exact h, fun i hi => by have h := (Eq.mp hp_163 m3).2 i (by omega); exact h, fun i hi => by have h := (Eq.mp hp_164 m4).2 i (by omega); exact h, fun i hi hw => ?_, fun i hi hw => ?_, fun i j hi hj hw => ?_, fun i hi hw => ?_, fun i hi hw => ?_, fun i hi => by have h := (Eq.mp hp_166 m6).2 i (by omega); rw [Nat.zero_add] at h; exact h, fun i hi => by have h := (Eq.mp hp_167 m7).2 i (by omega); rw [Nat.zero_add] at h; exact h, fun i hi => by have h := (Eq.mp hp_165 m5).2 i (by omega); exact h⟩
  all_goals (have hw : (i : Int) < 0 := hw; omega)

-- fj0_69_1
theorem cr_648 (M : pM)  (hG : gI M) : (HP 170 (0 : Int) (0 : Int) M ∧ True) := by
  exact ⟨Eq.mpr hp_170 ⟨by decide, fun i hi => by omega⟩, trivial⟩

-- fjw_69_1
theorem cr_649 (M : pM) (s0 : Int) (b0 : 0 ≤ s0 ∧ s0 ≤ 63) (m0 : HP 170 (s0) (0 : Int) M) (hG : gI M) : (HP 170 (s0 + 1) (0 : Int) (st M 69 (s0 + 64).toNat (0 : Int)) ∧ True) := by
  refine ⟨Eq.mpr hp_170 ⟨by omega, fun i hi => ?_⟩, trivial⟩
  rw [show (s0 + 64).toNat = 64 + s0.toNat by omega, cw]
  by_cases e : i = s0.toNat
  · rw [if_pos e]
  · rw [if_neg e]; exact (Eq.mp hp_170 m0).2 i (by omega)

-- fjx_69_1
theorem cr_650 (M : pM) (s0 s1 : Int) (b0 : 0 ≤ s0 ∧ s0 ≤ 64) (b1 : 0 ≤ s1 ∧ s1 ≤ 64) (m0 : HP 170 (s0) (0 : Int) M) (f0 : 0 ≤ ((-1) * s0 + s1)) (f1 : 0 ≤ (s0 + (-1) * s1)) (hG : gI M) : (HP 170 (s1) (0 : Int) M ∧ True) := by
  have e : s0 = s1 := by omega
  subst e
  exact ⟨m0, trivial⟩

-- fj0_70_1
theorem cr_651 (M : pM)  (hG : gI M) : (HP 171 (0 : Int) (0 : Int) M ∧ True) := by
  exact ⟨Eq.mpr hp_171 ⟨by decide, fun i hi => by omega⟩, trivial⟩

-- fjw_70_1
theorem cr_652 (M : pM) (s0 : Int) (b0 : 0 ≤ s0 ∧ s0 ≤ 47) (m0 : HP 171 (s0) (0 : Int) M) (hG : gI M) : (HP 171 (s0 + 1) (0 : Int) (st M 70 (s0 + 48).toNat (0 : Int)) ∧ True) := by
  refine ⟨Eq.mpr hp_171 ⟨by omega, fun i hi => ?_⟩, trivial⟩
  rw [show (s0 + 48).toNat = 48 + s0.toNat by omega, cw]
  by_cases e : i = s0.toNat
  · rw [if_pos e]
  · rw [if_neg e]; exact (Eq.mp hp_171 m0).2 i (by omega)

-- fjx_70_1
theorem cr_653 (M : pM) (s0 s1 : Int) (b0 : 0 ≤ s0 ∧ s0 ≤ 48) (b1 : 0 ≤ s1 ∧ s1 ≤ 48) (m0 : HP 171 (s0) (0 : Int) M) (f0 : 0 ≤ ((-1) * s0 + s1)) (f1 : 0 ≤ (s0 + (-1) * s1)) (hG : gI M) : (HP 171 (s1) (0 : Int) M ∧ True) := by
  have e : s0 = s1 := by omega
  subst e
  exact ⟨m0, trivial⟩

-- fj0_71_1
theorem cr_654 (M : pM)  (hG : gI M) : (HP 172 (0 : Int) (-1 : Int) M ∧ True) := by
  exact ⟨Eq.mpr hp_172 ⟨by decide, fun i hi => by omega⟩, trivial⟩

-- fjw_71_1
theorem cr_655 (M : pM) (s0 : Int) (b0 : 0 ≤ s0 ∧ s0 ≤ 5) (m0 : HP 172 (s0) (-1 : Int) M) (hG : gI M) : (HP 172 (s0 + 1) (-1 : Int) (st M 71 (s0 + 6).toNat (-1 : Int)) ∧ True) := by
  refine ⟨Eq.mpr hp_172 ⟨by omega, fun i hi => ?_⟩, trivial⟩
  rw [show (s0 + 6).toNat = 6 + s0.toNat by omega, cw]
  by_cases e : i = s0.toNat
  · rw [if_pos e]
  · rw [if_neg e]; exact (Eq.mp hp_172 m0).2 i (by omega)

-- fjx_71_1
theorem cr_656 (M : pM) (s0 s1 : Int) (b0 : 0 ≤ s0 ∧ s0 ≤ 6) (b1 : 0 ≤ s1 ∧ s1 ≤ 6) (m0 : HP 172 (s0) (-1 : Int) M) (f0 : 0 ≤ ((-1) * s0 + s1)) (f1 : 0 ≤ (s0 + (-1) * s1)) (hG : gI M) : (HP 172 (s1) (-1 : Int) M ∧ True) := by
  have e : s0 = s1 := by omega
  subst e
  exact ⟨m0, trivial⟩

-- fj0_72_1
theorem cr_657 (M : pM)  (hG : gI M) : (HP 173 (0 : Int) (0 : Int) M ∧ True) := by
  exact ⟨Eq.mpr hp_173 ⟨by decide, fun i hi => by omega⟩, trivial⟩

-- fjw_72_1
theorem cr_658 (M : pM) (s0 : Int) (b0 : 0 ≤ s0 ∧ s0 ≤ 5) (m0 : HP 173 (s0) (0 : Int) M) (hG : gI M) : (HP 173 (s0 + 1) (0 : Int) (st M 72 (s0 + 6).toNat (0 : Int)) ∧ True) := by
  refine ⟨Eq.mpr hp_173 ⟨by omega, fun i hi => ?_⟩, trivial⟩
  rw [show (s0 + 6).toNat = 6 + s0.toNat by omega, cw]
  by_cases e : i = s0.toNat
  · rw [if_pos e]
  · rw [if_neg e]; exact (Eq.mp hp_173 m0).2 i (by omega)

-- fjx_72_1
theorem cr_659 (M : pM) (s0 s1 : Int) (b0 : 0 ≤ s0 ∧ s0 ≤ 6) (b1 : 0 ≤ s1 ∧ s1 ≤ 6) (m0 : HP 173 (s0) (0 : Int) M) (f0 : 0 ≤ ((-1) * s0 + s1)) (f1 : 0 ≤ (s0 + (-1) * s1)) (hG : gI M) : (HP 173 (s1) (0 : Int) M ∧ True) := by
  have e : s0 = s1 := by omega
  subst e
  exact ⟨m0, trivial⟩

-- fj0_73_1
theorem cr_660 (M : pM)  (hG : gI M) : (HP 174 (0 : Int) (-1 : Int) M ∧ True) := by
  exact ⟨Eq.mpr hp_174 ⟨by decide, fun i hi => by omega⟩, trivial⟩

-- fjw_73_1
theorem cr_661 (M : pM) (s0 : Int) (b0 : 0 ≤ s0 ∧ s0 ≤ 5) (m0 : HP 174 (s0) (-1 : Int) M) (hG : gI M) : (HP 174 (s0 + 1) (-1 : Int) (st M 73 (s0 + 6).toNat (-1 : Int)) ∧ True) := by
  refine ⟨Eq.mpr hp_174 ⟨by omega, fun i hi => ?_⟩, trivial⟩
  rw [show (s0 + 6).toNat = 6 + s0.toNat by omega, cw]
  by_cases e : i = s0.toNat
  · rw [if_pos e]
  · rw [if_neg e]; exact (Eq.mp hp_174 m0).2 i (by omega)

-- fjx_73_1
theorem cr_662 (M : pM) (s0 s1 : Int) (b0 : 0 ≤ s0 ∧ s0 ≤ 6) (b1 : 0 ≤ s1 ∧ s1 ≤ 6) (m0 : HP 174 (s0) (-1 : Int) M) (f0 : 0 ≤ ((-1) * s0 + s1)) (f1 : 0 ≤ (s0 + (-1) * s1)) (hG : gI M) : (HP 174 (s1) (-1 : Int) M ∧ True) := by
  have e : s0 = s1 := by omega
  subst e
  exact ⟨m0, trivial⟩

-- fj0_86_1
theorem cr_663 (M : pM)  (hG : gI M) : (HP 175 (0 : Int) (0 : Int) M ∧ True) := by
  exact ⟨Eq.mpr hp_175 ⟨by decide, fun i hi => by omega⟩, trivial⟩

-- fjw_86_1
theorem cr_664 (M : pM) (s0 : Int) (b0 : 0 ≤ s0 ∧ s0 ≤ 63) (m0 : HP 175 (s0) (0 : Int) M) (hG : gI M) : (HP 175 (s0 + 1) (0 : Int) (st M 86 (s0 + 64).toNat (0 : Int)) ∧ True) := by
  refine ⟨Eq.mpr hp_175 ⟨by omega, fun i hi => ?_⟩, trivial⟩
  rw [show (s0 + 64).toNat = 64 + s0.toNat by omega, cw]
  by_cases e : i = s0.toNat
  · rw [if_pos e]
  · rw [if_neg e]; exact (Eq.mp hp_175 m0).2 i (by omega)

-- fjx_86_1
theorem cr_665 (M : pM) (s0 s1 : Int) (b0 : 0 ≤ s0 ∧ s0 ≤ 64) (b1 : 0 ≤ s1 ∧ s1 ≤ 64) (m0 : HP 175 (s0) (0 : Int) M) (f0 : 0 ≤ ((-1) * s0 + s1)) (f1 : 0 ≤ (s0 + (-1) * s1)) (hG : gI M) : (HP 175 (s1) (0 : Int) M ∧ True) := by
  have e : s0 = s1 := by omega
  subst e
  exact ⟨m0, trivial⟩

-- fj0_84_1
theorem cr_666 (M : pM)  (hG : gI M) : (HP 176 (0 : Int) (0 : Int) M ∧ True) := by
  exact ⟨Eq.mpr hp_176 ⟨by decide, fun i hi => by omega⟩, trivial⟩

-- fjw_84_1
theorem cr_667 (M : pM) (s0 : Int) (b0 : 0 ≤ s0 ∧ s0 ≤ 7) (m0 : HP 176 (s0) (0 : Int) M) (hG : gI M) : (HP 176 (s0 + 1) (0 : Int) (st M 84 (s0).toNat (0 : Int)) ∧ True) := by
  refine ⟨Eq.mpr hp_176 ⟨by omega, fun i hi => ?_⟩, trivial⟩
  rw [show (s0).toNat = 0 + s0.toNat by omega, cw]
  by_cases e : i = s0.toNat
  · rw [if_pos e]
  · rw [if_neg e]; exact (Eq.mp hp_176 m0).2 i (by omega)

-- fjx_84_1
theorem cr_668 (M : pM) (s0 s1 : Int) (b0 : 0 ≤ s0 ∧ s0 ≤ 8) (b1 : 0 ≤ s1 ∧ s1 ≤ 8) (m0 : HP 176 (s0) (0 : Int) M) (f0 : 0 ≤ ((-1) * s0 + s1)) (f1 : 0 ≤ (s0 + (-1) * s1)) (hG : gI M) : (HP 176 (s1) (0 : Int) M ∧ True) := by
  have e : s0 = s1 := by omega
  subst e
  exact ⟨m0, trivial⟩

-- fj0_85_1
theorem cr_669 (M : pM)  (hG : gI M) : (HP 177 (0 : Int) (0 : Int) M ∧ True) := by
  exact ⟨Eq.mpr hp_177 ⟨by decide, fun i hi => by omega⟩, trivial⟩

-- fjw_85_1
theorem cr_670 (M : pM) (s0 : Int) (b0 : 0 ≤ s0 ∧ s0 ≤ 7) (m0 : HP 177 (s0) (0 : Int) M) (hG : gI M) : (HP 177 (s0 + 1) (0 : Int) (st M 85 (s0).toNat (0 : Int)) ∧ True) := by
  refine ⟨Eq.mpr hp_177 ⟨by omega, fun i hi => ?_⟩, trivial⟩
  rw [show (s0).toNat = 0 + s0.toNat by omega, cw]
  by_cases e : i = s0.toNat
  · rw [if_pos e]
  · rw [if_neg e]; exact (Eq.mp hp_177 m0).2 i (by omega)

-- fjx_85_1
theorem cr_671 (M : pM) (s0 s1 : Int) (b0 : 0 ≤ s0 ∧ s0 ≤ 8) (b1 : 0 ≤ s1 ∧ s1 ≤ 8) (m0 : HP 177 (s0) (0 : Int) M) (f0 : 0 ≤ ((-1) * s0 + s1)) (f1 : 0 ≤ (s0 + (-1) * s1)) (hG : gI M) : (HP 177 (s1) (0 : Int) M ∧ True) := by
  have e : s0 = s1 := by omega
  subst e
  exact ⟨m0, trivial⟩

-- ra0_1
theorem cr_672 (M : pM) (m0 : HP 170 (64 : Int) (0 : Int) M) (m1 : HP 171 (48 : Int) (0 : Int) M) (m2 : HP 172 (6 : Int) (-1 : Int) M) (m3 : HP 173 (6 : Int) (0 : Int) M) (m4 : HP 174 (6 : Int) (-1 : Int) M) (m5 : HP 175 (64 : Int) (0 : Int) M) (m6 : HP 176 (8 : Int) (0 : Int) M) (m7 : HP 177 (8 : Int) (0 : Int) M) (hG : gI M) : (HP 61 (0 : Int) (0 : Int) M ∧ True) := by
  have q0 : qat (tm M) 0 (0, qA0) := ⟨0, by decide, by decide, rfl⟩
  refine ⟨Eq.mpr hp_61 ⟨(0, qA0), q0, ⟨by decide, by decide, by decide, by decide⟩, ?_⟩, trivial⟩
  refine ⟨fun i hi => by have h := (Eq.mp hp_170 m0).2 i (by omega); exact h, fun i hi => by have h := (Eq.mp hp_171 m1).2 i (by omega); exact h, fun i hi => by have h := (Eq.mp hp_172 m2).2 i (by omega); exact h, fun i hi => by have h := (Eq.mp hp_173 m3).2 i (by omega); exact h, fun i hi => by have h := (Eq.mp hp_174 m4).2 i (by omega); exact h, fun i hi hw => ?_, fun i hi hw => ?_, fun i j hi hj hw => ?_, fun i hi hw => ?_, fun i hi hw => ?_, fun i hi => by have h := (Eq.mp hp_176 m6).2 i (by omega); rw [Nat.zero_add] at h; exact h, fun i hi => by have h := (Eq.mp hp_177 m7).2 i (by omega); rw [Nat.zero_add] at h; exact h, fun i hi => by have h := (Eq.mp hp_175 m5).2 i (by omega); exact h⟩
  all_goals (have hw : (i : Int) < 0 := hw; omega)

-- tc0
theorem cr_673 (M : pM)  (hG : gI M) : (HP 158 (0 : Int) (0 : Int) M ∧ True) := by
  exact ⟨Eq.mpr hp_158 ⟨by decide, by decide, fun i hi => by omega⟩, trivial⟩

-- tcw
theorem cr_674 (M : pM) (s0 s1 : Int) (b0 : 0 ≤ s0 ∧ s0 ≤ 1900) (b1 : (-128) ≤ s1 ∧ s1 ≤ 127) (m0 : HP 158 (s0) (0 : Int) M) (m1 : (0 ≤ (s0) ∧ M 62 (s0).toNat = (s1))) (hG : gI M) : (HP 158 (s0 + 1) (0 : Int) (st M 63 (s0).toNat (s1)) ∧ True) := by
  obtain ⟨h1, h2, h3⟩ := Eq.mp hp_158 m0
  refine ⟨Eq.mpr hp_158 ⟨by omega, by omega, fun i hi => ?_⟩, trivial⟩
  rw [cw0, show st M 63 (s0).toNat (s1) 62 i = M 62 i from if_neg (fun h => absurd h.1 (by decide))]
  by_cases e : i = s0.toNat
  · rw [if_pos e, e]; exact m1.2.symm
  · rw [if_neg e]; exact h3 i (by omega)

-- trm
theorem cr_675 (M : pM) (s0 s1 : Int) (b0 : 0 ≤ s0 ∧ s0 ≤ 1900) (b1 : 0 ≤ s1 ∧ s1 ≤ 1900) (m0 : HP 158 (s0) (0 : Int) M) (m1 : HP 41 (s1) (0 : Int) M) (m2 : (0 ≤ (3 : Int) ∧ M 61 (3 : Int).toNat = (s1))) (m3 : (0 ≤ (1 : Int) ∧ M 2 (1 : Int).toNat = (s1))) (f0 : 0 ≤ (s0 + (-1) * s1)) (hG : gI M) : (HP 42 (0 : Int) (0 : Int) M ∧ True) := by
  obtain ⟨h1, h2, h3⟩ := Eq.mp hp_158 m0
  obtain ⟨g1, g2, g3⟩ := Eq.mp hp_41 m1
  have e3 : M 61 3 = s1 := m2.2
  have e1 : M 2 1 = s1 := m3.2
  refine ⟨Eq.mpr hp_42 ⟨by omega, by omega, by omega, fun i hi => ?_⟩, trivial⟩
  unfold tN at hi
  rw [h3 i (by omega)]
  exact g3 i (by omega)

-- same_ok0
theorem cr_676 (M : pM) (s0 s1 s2 s3 : Int) (b0 : 0 ≤ s0 ∧ s0 ≤ 950) (b1 : 0 ≤ s1 ∧ s1 ≤ 950) (b2 : 0 ≤ s2 ∧ s2 ≤ 5000) (b3 : 0 ≤ s3 ∧ s3 ≤ 5000) (m0 : HP 58 (s0) (s2) M) (m1 : HP 64 (s1) (s3) M) (hG : gI M) : (0 ≤ ((-1) * s0 + s1) ∧ 0 ≤ (s0 + (-1) * s1) ∧ 0 ≤ ((-1) * s2 + s3) ∧ 0 ≤ (s2 + (-1) * s3) ∧ True) := by
  obtain ⟨l, s, h1, h2, h3, h4, h5⟩ := Eq.mp hp_58 m0
  obtain ⟨l', t, k1, k2, k3, k4, k5⟩ := Eq.mp hp_64 m1
  obtain ⟨e1, e2⟩ := stuck_u h2 (end_nx h3).1 k2 (end_nx k3).1
  subst e2
  have w1 := h4.1
  have w2 := k4.1
  exact ⟨by omega, by omega, by omega, by omega, trivial⟩

-- dead1_0
theorem cr_677 (M : pM) (s0 s1 s2 s3 : Int) (b0 : 0 ≤ s0 ∧ s0 ≤ 950) (b1 : 0 ≤ s1 ∧ s1 ≤ 5000) (b2 : (-2147483648) ≤ s2 ∧ s2 ≤ 2147483647) (b3 : 1 ≤ s3 ∧ s3 ≤ 5) (m0 : HP 58 (s0) (s1) M) (m1 : HP 66 (s2) (s3) M) (hG : gI M) : (0 ≤ (s3 - 6) ∧ True) := by
  obtain ⟨l, s, h1, h2, h3, h4, h5⟩ := Eq.mp hp_58 m0
  obtain ⟨l', t, k1, k2⟩ := Eq.mp hp_66 m1
  obtain ⟨e1, e2⟩ := stuck_u h2 (end_nx h3).1 k1 (fa_nx k2)
  subst e2
  rw [(end_nx h3).2] at k2
  cases k2

-- dead2_0
theorem cr_678 (M : pM) (s0 s1 s2 s3 : Int) (b0 : 0 ≤ s0 ∧ s0 ≤ 950) (b1 : 0 ≤ s1 ∧ s1 ≤ 5000) (b2 : (-2147483648) ≤ s2 ∧ s2 ≤ 2147483647) (b3 : 1 ≤ s3 ∧ s3 ≤ 5) (m0 : HP 64 (s0) (s1) M) (m1 : HP 66 (s2) (s3) M) (hG : gI M) : (0 ≤ (s3 - 6) ∧ True) := by
  obtain ⟨l, s, h1, h2, h3, h4, h5⟩ := Eq.mp hp_64 m0
  obtain ⟨l', t, k1, k2⟩ := Eq.mp hp_66 m1
  obtain ⟨e1, e2⟩ := stuck_u h2 (end_nx h3).1 k1 (fa_nx k2)
  subst e2
  rw [(end_nx h3).2] at k2
  cases k2

-- same_ok1
theorem cr_679 (M : pM) (s0 s1 s2 s3 : Int) (b0 : 0 ≤ s0 ∧ s0 ≤ 950) (b1 : 0 ≤ s1 ∧ s1 ≤ 950) (b2 : 0 ≤ s2 ∧ s2 ≤ 5000) (b3 : 0 ≤ s3 ∧ s3 ≤ 5000) (m0 : HP 59 (s0) (s2) M) (m1 : HP 65 (s1) (s3) M) (hG : gI M) : (0 ≤ ((-1) * s0 + s1) ∧ 0 ≤ (s0 + (-1) * s1) ∧ 0 ≤ ((-1) * s2 + s3) ∧ 0 ≤ (s2 + (-1) * s3) ∧ True) := by
  obtain ⟨l, s, h1, h2, h3, h4, h5⟩ := Eq.mp hp_59 m0
  obtain ⟨l', t, k1, k2, k3, k4, k5⟩ := Eq.mp hp_65 m1
  obtain ⟨e1, e2⟩ := stuck_u h2 (end_nx h3).1 k2 (end_nx k3).1
  subst e2
  have w1 := h4.1
  have w2 := k4.1
  exact ⟨by omega, by omega, by omega, by omega, trivial⟩

-- dead1_1
theorem cr_680 (M : pM) (s0 s1 s2 s3 : Int) (b0 : 0 ≤ s0 ∧ s0 ≤ 950) (b1 : 0 ≤ s1 ∧ s1 ≤ 5000) (b2 : (-2147483648) ≤ s2 ∧ s2 ≤ 2147483647) (b3 : 1 ≤ s3 ∧ s3 ≤ 5) (m0 : HP 59 (s0) (s1) M) (m1 : HP 66 (s2) (s3) M) (hG : gI M) : (0 ≤ (s3 - 6) ∧ True) := by
  obtain ⟨l, s, h1, h2, h3, h4, h5⟩ := Eq.mp hp_59 m0
  obtain ⟨l', t, k1, k2⟩ := Eq.mp hp_66 m1
  obtain ⟨e1, e2⟩ := stuck_u h2 (end_nx h3).1 k1 (fa_nx k2)
  subst e2
  rw [(end_nx h3).2] at k2
  cases k2

-- dead2_1
theorem cr_681 (M : pM) (s0 s1 s2 s3 : Int) (b0 : 0 ≤ s0 ∧ s0 ≤ 950) (b1 : 0 ≤ s1 ∧ s1 ≤ 5000) (b2 : (-2147483648) ≤ s2 ∧ s2 ≤ 2147483647) (b3 : 1 ≤ s3 ∧ s3 ≤ 5) (m0 : HP 65 (s0) (s1) M) (m1 : HP 66 (s2) (s3) M) (hG : gI M) : (0 ≤ (s3 - 6) ∧ True) := by
  obtain ⟨l, s, h1, h2, h3, h4, h5⟩ := Eq.mp hp_65 m0
  obtain ⟨l', t, k1, k2⟩ := Eq.mp hp_66 m1
  obtain ⟨e1, e2⟩ := stuck_u h2 (end_nx h3).1 k1 (fa_nx k2)
  subst e2
  rw [(end_nx h3).2] at k2
  cases k2

-- cf0
theorem cr_682 (M : pM) (s0 : Int) (b0 : 0 ≤ s0 ∧ s0 ≤ 1900) (hG : gI M) : (HP 97 (8 * s0) (0 : Int) M ∧ True) := by
  exact ⟨Eq.mpr hp_97 ⟨s0.toNat, 0, by omega, by decide, by omega, rfl⟩, trivial⟩

-- qf0
theorem cr_683 (M : pM) (s0 s1 : Int) (b0 : 0 ≤ s0 ∧ s0 ≤ 1900) (b1 : (-2147483648) ≤ s1 ∧ s1 ≤ 2147483647) (hG : gI M) : (HP 96 (8 * s0) (s1) M ∧ True) := by
  exact ⟨Eq.mpr hp_96 ⟨s0.toNat, 0, by omega, by decide, by omega, fun j hj => by omega⟩, trivial⟩

-- and255
theorem cr_684 (M : pM) (s0 s1 : Int) (b0 : (-2147483648) ≤ s0 ∧ s0 ≤ 2147483647) (b1 : (-2147483648) ≤ s1 ∧ s1 ≤ 2147483647) (m0 : HP 100 (4294967296 * s0 + 255) (s1) M) (hG : gI M) : (0 ≤ (s1) ∧ 0 ≤ ((-1) * s1 + 255) ∧ True) := by
  have e := n_and (a := s0) (b := 255) m0 (by omega) (by unfold r32; omega)
  have h := and255_bd s0
  rw [← e] at h
  exact ⟨by omega, by omega, trivial⟩

-- and3
theorem cr_685 (M : pM) (s0 s1 : Int) (b0 : 0 ≤ s0 ∧ s0 ≤ 19) (b1 : (-2147483648) ≤ s1 ∧ s1 ≤ 2147483647) (m0 : HP 100 (4294967296 * s0 + 3) (s1) M) (hG : gI M) : (0 ≤ (s0) ∧ 0 ≤ ((-1) * s0 + 3) ∧ 0 ≤ (s0 + (-1) * s1) ∧ 0 ≤ ((-1) * s0 + s1) ∧ True) ∨ (0 ≤ (s0 - 4) ∧ 0 ≤ ((-1) * s0 + 7) ∧ 0 ≤ (s0 + (-1) * s1 - 4) ∧ 0 ≤ ((-1) * s0 + s1 + 4) ∧ True) ∨ (0 ≤ (s0 - 8) ∧ 0 ≤ ((-1) * s0 + 11) ∧ 0 ≤ (s0 + (-1) * s1 - 8) ∧ 0 ≤ ((-1) * s0 + s1 + 8) ∧ True) ∨ (0 ≤ (s0 - 12) ∧ 0 ≤ ((-1) * s0 + 15) ∧ 0 ≤ (s0 + (-1) * s1 - 12) ∧ 0 ≤ ((-1) * s0 + s1 + 12) ∧ True) ∨ (0 ≤ (s0 - 16) ∧ 0 ≤ ((-1) * s0 + 19) ∧ 0 ≤ (s0 + (-1) * s1 - 16) ∧ 0 ≤ ((-1) * s0 + s1 + 16) ∧ True) := by
  have e := n_and (a := s0) (b := 3) m0 (by omega) (by unfold r32; omega)
  have h : s1 = s0 - 4 * (s0 / 4) := by
    have hk := (by decide +kernel : ∀ k : Nat, k < 20 → (Int32.ofInt (k : Nat) &&& Int32.ofInt 3).toInt = (k : Int) - 4 * ((k : Int) / 4)) s0.toNat (by omega)
    rw [show ((s0.toNat : Nat) : Int) = s0 by omega] at hk
    rw [e]; exact hk
  have hq : s0 / 4 = 0 ∨ s0 / 4 = 1 ∨ s0 / 4 = 2 ∨ s0 / 4 = 3 ∨ s0 / 4 = 4 := by omega
  rcases hq with q | q | q | q | q
  · exact Or.inl ⟨by omega, by omega, by omega, by omega, trivial⟩
  · exact Or.inr (Or.inl ⟨by omega, by omega, by omega, by omega, trivial⟩)
  · exact Or.inr (Or.inr (Or.inl ⟨by omega, by omega, by omega, by omega, trivial⟩))
  · exact Or.inr (Or.inr (Or.inr (Or.inl ⟨by omega, by omega, by omega, by omega, trivial⟩)))
  · exact Or.inr (Or.inr (Or.inr (Or.inr (⟨by omega, by omega, by omega, by omega, trivial⟩))))

-- fdw
theorem cr_686 (M : pM) (s0 s1 s2 s3 s4 s5 s6 s7 : Int) (b0 : 0 ≤ s0 ∧ s0 ≤ 1900) (b1 : 0 ≤ s1 ∧ s1 ≤ 4) (b3 : 0 ≤ s3 ∧ s3 ≤ 1900) (b4 : 0 ≤ s4 ∧ s4 ≤ 3) (b5 : (-2147483648) ≤ s5 ∧ s5 ≤ 2147483647) (b6 : (-2147483648) ≤ s6 ∧ s6 ≤ 2147483647) (b7 : 0 ≤ s7 ∧ s7 ≤ 255) (m0 : HP 96 (8 * s3 + s4) (s5) M) (m1 : HP 97 (8 * s0 + s1) (s2) M) (m2 : HP 41 (s0) (0 : Int) M) (m3 : HP 105 ((-8) * s4 + 4294967296 * s5 + 24) (s6) M) (m4 : HP 100 (4294967296 * s6 + 255) (s7) M) (f0 : 0 ≤ (s0 + 4 * s1 + (-1) * s3)) (f1 : 0 ≤ ((-1) * s0 + (-4) * s1 + s3)) (hG : gI M) : (HP 96 (8 * s3 + s4 + 1) (s5) (st M 1 (s3 + s4).toNat (s7)) ∧ HP 97 (8 * s0 + s1) (s2) (st M 1 (s3 + s4).toNat (s7)) ∧ HP 41 (s0) (0 : Int) (st M 1 (s3 + s4).toNat (s7)) ∧ True) := by
  obtain ⟨p, gg, h1, h2, h3, h4⟩ := Eq.mp hp_96 m0
  obtain ⟨x, k, k1, k2, k3, k4⟩ := Eq.mp hp_97 m1
  obtain ⟨t1, t2, t3⟩ := Eq.mp hp_41 m2
  have eg : gg = s4.toNat := by omega
  have ep : p = s3.toNat := by omega
  have ex : x = s0.toNat := by omega
  have ek : k = s1.toNat := by omega
  have b1 := n_ushr (a := s5) (b := 24 - 8 * (gg : Int)) m3 (by omega) (by unfold r32; omega)
  have b2 := n_and (a := s6) (b := 255) m4 (by omega) (by unfold r32; omega)
  have hz : s7 = qby s5 gg := by rw [b2, b1]; rfl
  have hn : ∀ j : Nat, j ≠ (s3 + s4).toNat → st M 1 (s3 + s4).toNat (s7) 1 j = M 1 j := fun j hj => if_neg (fun h => hj h.2)
  refine ⟨Eq.mpr hp_96 ⟨p, gg + 1, h1, by omega, by omega, fun j hj => ?_⟩, Eq.mpr hp_97 ⟨x, k, k1, k2, k3, qfd_n (fun i hi => hn i (by omega)) k4⟩, Eq.mpr hp_41 ⟨t1, t2, fun i hi => ?_⟩, trivial⟩
  · by_cases e : j = gg
    · rw [e, show (s3 + s4).toNat = p + gg by omega, cw0, if_pos rfl]; exact hz
    · rw [hn _ (by omega)]; exact h4 j (by omega)
  · rw [hn _ (by omega), show st M 1 (s3 + s4).toNat (s7) 62 i = M 62 i from if_neg (fun h => absurd h.1 (by decide))]; exact t3 i hi

-- fdx
theorem cr_687 (M : pM) (s0 s1 s2 s3 s4 s5 : Int) (b0 : 0 ≤ s0 ∧ s0 ≤ 1900) (b1 : 0 ≤ s1 ∧ s1 ≤ 4) (b3 : 0 ≤ s3 ∧ s3 ≤ 1900) (b4 : (-2147483648) ≤ s4 ∧ s4 ≤ 2147483647) (b5 : 0 ≤ s5 ∧ s5 ≤ 4) (m0 : HP 96 (8 * s3 + s5) (s4) M) (m1 : HP 97 (8 * s0 + s1) (s2) M) (f0 : 0 ≤ (s0 + 4 * s1 + (-1) * s3)) (f1 : 0 ≤ ((-1) * s0 + (-4) * s1 + s3)) (f2 : 0 ≤ (s5 - 4)) (hG : gI M) : (HP 97 (8 * s0 + s1 + 1) (4294967296 * s2 + s4) M ∧ True) := by
  obtain ⟨p, gg, h1, h2, h3, h4⟩ := Eq.mp hp_96 m0
  obtain ⟨x, k, k1, k2, k3, k4⟩ := Eq.mp hp_97 m1
  have eg : gg = 4 := by omega
  subst eg
  refine ⟨Eq.mpr hp_97 ⟨x, k + 1, k1, by omega, by omega, ⟨s2, s4, by unfold r32; omega, by omega, k4, fun j hj => by rw [show x + 4 * k + j = p + j by omega]; exact h4 j hj⟩⟩, trivial⟩

-- txw0
theorem cr_688 (M : pM) (s0 s1 s2 s3 s4 s5 s6 s7 s8 s9 : Int) (b0 : 0 ≤ s0 ∧ s0 ≤ 1900) (b1 : 0 ≤ s1 ∧ s1 ≤ 3) (b2 : (-2147483648) ≤ s2 ∧ s2 ≤ 2147483647) (b3 : (-2147483648) ≤ s3 ∧ s3 ≤ 2147483647) (b4 : (-2147483648) ≤ s4 ∧ s4 ≤ 2147483647) (b5 : (-2147483648) ≤ s5 ∧ s5 ≤ 2147483647) (b6 : (-2147483648) ≤ s6 ∧ s6 ≤ 2147483647) (b7 : 0 ≤ s7 ∧ s7 ≤ 3) (b8 : (-2147483648) ≤ s8 ∧ s8 ≤ 2147483647) (b9 : (-128) ≤ s9 ∧ s9 ≤ 127) (m0 : HP 97 (8 * s0 + 5) (340282366920938463463374607431768211456 * s2 + 79228162514264337593543950336 * s3 + 18446744073709551616 * s4 + 4294967296 * s5 + s6) M) (m1 : HP 41 (s0 + s1) (0 : Int) M) (m2 : HP 104 (4294967296 * s2 + (-8) * s7 + 24) (s8) M) (m3 : HP 120 (s8) (s9) M) (f0 : 0 ≤ (s1 + (-1) * s7)) (f1 : 0 ≤ ((-1) * s1 + s7)) (hG : gI M) : (HP 41 (s0 + s1 + 1) (0 : Int) (st M 62 (s0 + s1).toNat (s9)) ∧ HP 97 (8 * s0 + 5) (340282366920938463463374607431768211456 * s2 + 79228162514264337593543950336 * s3 + 18446744073709551616 * s4 + 4294967296 * s5 + s6) (st M 62 (s0 + s1).toNat (s9)) ∧ True) := by
  obtain ⟨x, k, k1, k2, k3, k4⟩ := Eq.mp hp_97 m0
  obtain ⟨t1, t2, t3⟩ := Eq.mp hp_41 m1
  have ex : x = s0.toNat := by omega
  have ek : k = 5 := by omega
  subst ek
  have hb := qfd_5 (v0 := s2) (v1 := s3) (v2 := s4) (v3 := s5) (v4 := s6) k4 (by omega) (by unfold r32; omega) (by unfold r32; omega) (by unfold r32; omega) (by unfold r32; omega) (by unfold r32; omega)
  have b1 := n_shr (a := s2) (b := 24 - 8 * ((s7.toNat : Nat) : Int)) m2 (by omega) (by unfold r32; omega)
  have b2 := n_i2b m3
  have hz : s9 = w8 (M 1 (s0 + s1).toNat) := by rw [show (s0 + s1).toNat = x + 4 * 0 + s7.toNat by omega, hb.1 s7.toNat (by omega), b2, b1]; exact by_w8 s7.toNat (by omega)
  have hn : ∀ c j : Nat, c ≠ 62 → st M 62 (s0 + s1).toNat (s9) c j = M c j := fun c j hj => if_neg (fun h => hj h.1)
  refine ⟨Eq.mpr hp_41 ⟨by omega, by omega, fun i hi => ?_⟩, Eq.mpr hp_97 ⟨x, 5, k1, k2, k3, qfd_n (fun i hi => hn 1 i (by decide)) k4⟩, trivial⟩
  rw [hn 1 _ (by decide), cw0]
  by_cases e : i = (s0 + s1).toNat
  · rw [if_pos e, e]; exact hz
  · rw [if_neg e]; exact t3 i (by omega)

-- txw1
theorem cr_689 (M : pM) (s0 s1 s2 s3 s4 s5 s6 s7 s8 s9 : Int) (b0 : 0 ≤ s0 ∧ s0 ≤ 1900) (b1 : 4 ≤ s1 ∧ s1 ≤ 7) (b2 : (-2147483648) ≤ s2 ∧ s2 ≤ 2147483647) (b3 : (-2147483648) ≤ s3 ∧ s3 ≤ 2147483647) (b4 : (-2147483648) ≤ s4 ∧ s4 ≤ 2147483647) (b5 : (-2147483648) ≤ s5 ∧ s5 ≤ 2147483647) (b6 : (-2147483648) ≤ s6 ∧ s6 ≤ 2147483647) (b7 : 0 ≤ s7 ∧ s7 ≤ 3) (b8 : (-2147483648) ≤ s8 ∧ s8 ≤ 2147483647) (b9 : (-128) ≤ s9 ∧ s9 ≤ 127) (m0 : HP 97 (8 * s0 + 5) (340282366920938463463374607431768211456 * s2 + 79228162514264337593543950336 * s3 + 18446744073709551616 * s4 + 4294967296 * s5 + s6) M) (m1 : HP 41 (s0 + s1) (0 : Int) M) (m2 : HP 104 (4294967296 * s3 + (-8) * s7 + 24) (s8) M) (m3 : HP 120 (s8) (s9) M) (f0 : 0 ≤ (s1 + (-1) * s7 - 4)) (f1 : 0 ≤ ((-1) * s1 + s7 + 4)) (hG : gI M) : (HP 41 (s0 + s1 + 1) (0 : Int) (st M 62 (s0 + s1).toNat (s9)) ∧ HP 97 (8 * s0 + 5) (340282366920938463463374607431768211456 * s2 + 79228162514264337593543950336 * s3 + 18446744073709551616 * s4 + 4294967296 * s5 + s6) (st M 62 (s0 + s1).toNat (s9)) ∧ True) := by
  obtain ⟨x, k, k1, k2, k3, k4⟩ := Eq.mp hp_97 m0
  obtain ⟨t1, t2, t3⟩ := Eq.mp hp_41 m1
  have ex : x = s0.toNat := by omega
  have ek : k = 5 := by omega
  subst ek
  have hb := qfd_5 (v0 := s2) (v1 := s3) (v2 := s4) (v3 := s5) (v4 := s6) k4 (by omega) (by unfold r32; omega) (by unfold r32; omega) (by unfold r32; omega) (by unfold r32; omega) (by unfold r32; omega)
  have b1 := n_shr (a := s3) (b := 24 - 8 * ((s7.toNat : Nat) : Int)) m2 (by omega) (by unfold r32; omega)
  have b2 := n_i2b m3
  have hz : s9 = w8 (M 1 (s0 + s1).toNat) := by rw [show (s0 + s1).toNat = x + 4 * 1 + s7.toNat by omega, hb.2.1 s7.toNat (by omega), b2, b1]; exact by_w8 s7.toNat (by omega)
  have hn : ∀ c j : Nat, c ≠ 62 → st M 62 (s0 + s1).toNat (s9) c j = M c j := fun c j hj => if_neg (fun h => hj h.1)
  refine ⟨Eq.mpr hp_41 ⟨by omega, by omega, fun i hi => ?_⟩, Eq.mpr hp_97 ⟨x, 5, k1, k2, k3, qfd_n (fun i hi => hn 1 i (by decide)) k4⟩, trivial⟩
  rw [hn 1 _ (by decide), cw0]
  by_cases e : i = (s0 + s1).toNat
  · rw [if_pos e, e]; exact hz
  · rw [if_neg e]; exact t3 i (by omega)

-- txw2
theorem cr_690 (M : pM) (s0 s1 s2 s3 s4 s5 s6 s7 s8 s9 : Int) (b0 : 0 ≤ s0 ∧ s0 ≤ 1900) (b1 : 8 ≤ s1 ∧ s1 ≤ 11) (b2 : (-2147483648) ≤ s2 ∧ s2 ≤ 2147483647) (b3 : (-2147483648) ≤ s3 ∧ s3 ≤ 2147483647) (b4 : (-2147483648) ≤ s4 ∧ s4 ≤ 2147483647) (b5 : (-2147483648) ≤ s5 ∧ s5 ≤ 2147483647) (b6 : (-2147483648) ≤ s6 ∧ s6 ≤ 2147483647) (b7 : 0 ≤ s7 ∧ s7 ≤ 3) (b8 : (-2147483648) ≤ s8 ∧ s8 ≤ 2147483647) (b9 : (-128) ≤ s9 ∧ s9 ≤ 127) (m0 : HP 97 (8 * s0 + 5) (340282366920938463463374607431768211456 * s2 + 79228162514264337593543950336 * s3 + 18446744073709551616 * s4 + 4294967296 * s5 + s6) M) (m1 : HP 41 (s0 + s1) (0 : Int) M) (m2 : HP 104 (4294967296 * s4 + (-8) * s7 + 24) (s8) M) (m3 : HP 120 (s8) (s9) M) (f0 : 0 ≤ (s1 + (-1) * s7 - 8)) (f1 : 0 ≤ ((-1) * s1 + s7 + 8)) (hG : gI M) : (HP 41 (s0 + s1 + 1) (0 : Int) (st M 62 (s0 + s1).toNat (s9)) ∧ HP 97 (8 * s0 + 5) (340282366920938463463374607431768211456 * s2 + 79228162514264337593543950336 * s3 + 18446744073709551616 * s4 + 4294967296 * s5 + s6) (st M 62 (s0 + s1).toNat (s9)) ∧ True) := by
  obtain ⟨x, k, k1, k2, k3, k4⟩ := Eq.mp hp_97 m0
  obtain ⟨t1, t2, t3⟩ := Eq.mp hp_41 m1
  have ex : x = s0.toNat := by omega
  have ek : k = 5 := by omega
  subst ek
  have hb := qfd_5 (v0 := s2) (v1 := s3) (v2 := s4) (v3 := s5) (v4 := s6) k4 (by omega) (by unfold r32; omega) (by unfold r32; omega) (by unfold r32; omega) (by unfold r32; omega) (by unfold r32; omega)
  have b1 := n_shr (a := s4) (b := 24 - 8 * ((s7.toNat : Nat) : Int)) m2 (by omega) (by unfold r32; omega)
  have b2 := n_i2b m3
  have hz : s9 = w8 (M 1 (s0 + s1).toNat) := by rw [show (s0 + s1).toNat = x + 4 * 2 + s7.toNat by omega, hb.2.2.1 s7.toNat (by omega), b2, b1]; exact by_w8 s7.toNat (by omega)
  have hn : ∀ c j : Nat, c ≠ 62 → st M 62 (s0 + s1).toNat (s9) c j = M c j := fun c j hj => if_neg (fun h => hj h.1)
  refine ⟨Eq.mpr hp_41 ⟨by omega, by omega, fun i hi => ?_⟩, Eq.mpr hp_97 ⟨x, 5, k1, k2, k3, qfd_n (fun i hi => hn 1 i (by decide)) k4⟩, trivial⟩
  rw [hn 1 _ (by decide), cw0]
  by_cases e : i = (s0 + s1).toNat
  · rw [if_pos e, e]; exact hz
  · rw [if_neg e]; exact t3 i (by omega)

-- txw3
theorem cr_691 (M : pM) (s0 s1 s2 s3 s4 s5 s6 s7 s8 s9 : Int) (b0 : 0 ≤ s0 ∧ s0 ≤ 1900) (b1 : 12 ≤ s1 ∧ s1 ≤ 15) (b2 : (-2147483648) ≤ s2 ∧ s2 ≤ 2147483647) (b3 : (-2147483648) ≤ s3 ∧ s3 ≤ 2147483647) (b4 : (-2147483648) ≤ s4 ∧ s4 ≤ 2147483647) (b5 : (-2147483648) ≤ s5 ∧ s5 ≤ 2147483647) (b6 : (-2147483648) ≤ s6 ∧ s6 ≤ 2147483647) (b7 : 0 ≤ s7 ∧ s7 ≤ 3) (b8 : (-2147483648) ≤ s8 ∧ s8 ≤ 2147483647) (b9 : (-128) ≤ s9 ∧ s9 ≤ 127) (m0 : HP 97 (8 * s0 + 5) (340282366920938463463374607431768211456 * s2 + 79228162514264337593543950336 * s3 + 18446744073709551616 * s4 + 4294967296 * s5 + s6) M) (m1 : HP 41 (s0 + s1) (0 : Int) M) (m2 : HP 104 (4294967296 * s5 + (-8) * s7 + 24) (s8) M) (m3 : HP 120 (s8) (s9) M) (f0 : 0 ≤ (s1 + (-1) * s7 - 12)) (f1 : 0 ≤ ((-1) * s1 + s7 + 12)) (hG : gI M) : (HP 41 (s0 + s1 + 1) (0 : Int) (st M 62 (s0 + s1).toNat (s9)) ∧ HP 97 (8 * s0 + 5) (340282366920938463463374607431768211456 * s2 + 79228162514264337593543950336 * s3 + 18446744073709551616 * s4 + 4294967296 * s5 + s6) (st M 62 (s0 + s1).toNat (s9)) ∧ True) := by
  obtain ⟨x, k, k1, k2, k3, k4⟩ := Eq.mp hp_97 m0
  obtain ⟨t1, t2, t3⟩ := Eq.mp hp_41 m1
  have ex : x = s0.toNat := by omega
  have ek : k = 5 := by omega
  subst ek
  have hb := qfd_5 (v0 := s2) (v1 := s3) (v2 := s4) (v3 := s5) (v4 := s6) k4 (by omega) (by unfold r32; omega) (by unfold r32; omega) (by unfold r32; omega) (by unfold r32; omega) (by unfold r32; omega)
  have b1 := n_shr (a := s5) (b := 24 - 8 * ((s7.toNat : Nat) : Int)) m2 (by omega) (by unfold r32; omega)
  have b2 := n_i2b m3
  have hz : s9 = w8 (M 1 (s0 + s1).toNat) := by rw [show (s0 + s1).toNat = x + 4 * 3 + s7.toNat by omega, hb.2.2.2.1 s7.toNat (by omega), b2, b1]; exact by_w8 s7.toNat (by omega)
  have hn : ∀ c j : Nat, c ≠ 62 → st M 62 (s0 + s1).toNat (s9) c j = M c j := fun c j hj => if_neg (fun h => hj h.1)
  refine ⟨Eq.mpr hp_41 ⟨by omega, by omega, fun i hi => ?_⟩, Eq.mpr hp_97 ⟨x, 5, k1, k2, k3, qfd_n (fun i hi => hn 1 i (by decide)) k4⟩, trivial⟩
  rw [hn 1 _ (by decide), cw0]
  by_cases e : i = (s0 + s1).toNat
  · rw [if_pos e, e]; exact hz
  · rw [if_neg e]; exact t3 i (by omega)

-- txw4
theorem cr_692 (M : pM) (s0 s1 s2 s3 s4 s5 s6 s7 s8 s9 : Int) (b0 : 0 ≤ s0 ∧ s0 ≤ 1900) (b1 : 16 ≤ s1 ∧ s1 ≤ 19) (b2 : (-2147483648) ≤ s2 ∧ s2 ≤ 2147483647) (b3 : (-2147483648) ≤ s3 ∧ s3 ≤ 2147483647) (b4 : (-2147483648) ≤ s4 ∧ s4 ≤ 2147483647) (b5 : (-2147483648) ≤ s5 ∧ s5 ≤ 2147483647) (b6 : (-2147483648) ≤ s6 ∧ s6 ≤ 2147483647) (b7 : 0 ≤ s7 ∧ s7 ≤ 3) (b8 : (-2147483648) ≤ s8 ∧ s8 ≤ 2147483647) (b9 : (-128) ≤ s9 ∧ s9 ≤ 127) (m0 : HP 97 (8 * s0 + 5) (340282366920938463463374607431768211456 * s2 + 79228162514264337593543950336 * s3 + 18446744073709551616 * s4 + 4294967296 * s5 + s6) M) (m1 : HP 41 (s0 + s1) (0 : Int) M) (m2 : HP 104 (4294967296 * s6 + (-8) * s7 + 24) (s8) M) (m3 : HP 120 (s8) (s9) M) (f0 : 0 ≤ (s1 + (-1) * s7 - 16)) (f1 : 0 ≤ ((-1) * s1 + s7 + 16)) (hG : gI M) : (HP 41 (s0 + s1 + 1) (0 : Int) (st M 62 (s0 + s1).toNat (s9)) ∧ HP 97 (8 * s0 + 5) (340282366920938463463374607431768211456 * s2 + 79228162514264337593543950336 * s3 + 18446744073709551616 * s4 + 4294967296 * s5 + s6) (st M 62 (s0 + s1).toNat (s9)) ∧ True) := by
  obtain ⟨x, k, k1, k2, k3, k4⟩ := Eq.mp hp_97 m0
  obtain ⟨t1, t2, t3⟩ := Eq.mp hp_41 m1
  have ex : x = s0.toNat := by omega
  have ek : k = 5 := by omega
  subst ek
  have hb := qfd_5 (v0 := s2) (v1 := s3) (v2 := s4) (v3 := s5) (v4 := s6) k4 (by omega) (by unfold r32; omega) (by unfold r32; omega) (by unfold r32; omega) (by unfold r32; omega) (by unfold r32; omega)
  have b1 := n_shr (a := s6) (b := 24 - 8 * ((s7.toNat : Nat) : Int)) m2 (by omega) (by unfold r32; omega)
  have b2 := n_i2b m3
  have hz : s9 = w8 (M 1 (s0 + s1).toNat) := by rw [show (s0 + s1).toNat = x + 4 * 4 + s7.toNat by omega, hb.2.2.2.2 s7.toNat (by omega), b2, b1]; exact by_w8 s7.toNat (by omega)
  have hn : ∀ c j : Nat, c ≠ 62 → st M 62 (s0 + s1).toNat (s9) c j = M c j := fun c j hj => if_neg (fun h => hj h.1)
  refine ⟨Eq.mpr hp_41 ⟨by omega, by omega, fun i hi => ?_⟩, Eq.mpr hp_97 ⟨x, 5, k1, k2, k3, qfd_n (fun i hi => hn 1 i (by decide)) k4⟩, trivial⟩
  rw [hn 1 _ (by decide), cw0]
  by_cases e : i = (s0 + s1).toNat
  · rw [if_pos e, e]; exact hz
  · rw [if_neg e]; exact t3 i (by omega)

-- txd
theorem cr_693 (M : pM) (s0 s1 : Int) (b0 : 0 ≤ s0 ∧ s0 ≤ 1900) (b1 : 0 ≤ s1 ∧ s1 ≤ 1900) (m0 : HP 41 (s0) (0 : Int) M) (f0 : 0 ≤ (s0 + (-1) * s1)) (hG : gI M) : (HP 41 (s1) (0 : Int) M ∧ True) := by
  obtain ⟨t1, t2, t3⟩ := Eq.mp hp_41 m0
  exact ⟨Eq.mpr hp_41 ⟨by omega, by omega, fun i hi => t3 i (by omega)⟩, trivial⟩

-- tx0
theorem cr_694 (M : pM)  (hG : gI M) : (HP 41 (0 : Int) (0 : Int) M ∧ True) := by
  exact ⟨Eq.mpr hp_41 ⟨by decide, by decide, fun i hi => by omega⟩, trivial⟩

-- flq
theorem cr_695 (M : pM) (s0 s1 s2 s3 : Int) (b0 : (-2147483648) ≤ s0 ∧ s0 ≤ 2147483647) (b1 : 1 ≤ s1 ∧ s1 ≤ 5) (b2 : (-2147483648) ≤ s2 ∧ s2 ≤ 2147483647) (b3 : 1 ≤ s3 ∧ s3 ≤ 5) (m0 : HP 66 (s0) (s1) M) (m1 : HP 66 (s2) (s3) M) (hG : gI M) : (0 ≤ ((-1) * s0 + s2) ∧ 0 ≤ (s0 + (-1) * s2) ∧ 0 ≤ ((-1) * s1 + s3) ∧ 0 ≤ (s1 + (-1) * s3) ∧ True) := by
  obtain ⟨l, s, h1, h2⟩ := Eq.mp hp_66 m0
  obtain ⟨l', t, k1, k2⟩ := Eq.mp hp_66 m1
  obtain ⟨e1, e2⟩ := stuck_u h1 (fa_nx h2) k1 (fa_nx k2)
  subst e2
  rw [h2] at k2
  have k3 := Option.some.inj k2
  have e3 := congrArg Prod.fst k3
  have e4 := congrArg Prod.snd k3
  have e3 : s0 = s2 := e3
  have e4 : s1 = s3 := e4
  exact ⟨by omega, by omega, by omega, by omega, trivial⟩
