-- wlf4
theorem cr_120 (M : pM) (s0 s1 s2 s3 s4 s5 s6 : Int) (b0 : 0 ≤ s0 ∧ s0 ≤ 1900) (b1 : 0 ≤ s1 ∧ s1 ≤ 950) (b2 : 0 ≤ s2 ∧ s2 ≤ 1900) (b3 : 0 ≤ s3 ∧ s3 ≤ 1900) (b4 : 0 ≤ s4 ∧ s4 ≤ 1900) (b5 : 262143 ≤ s5 ∧ s5 ≤ 262168) (b6 : 0 ≤ s6 ∧ s6 ≤ 255) (m0 : HP 53 (4096 * s0 + s1) (256 * s2 + 34) M) (m1 : HP 47 (s2) (s5) M) (m2 : HP 45 (s2) (s3) M) (m3 : HP 46 (s2) (s4) M) (m4 : (0 ≤ (s3) ∧ M 1 (s3).toNat = (s6))) (f0 : 0 ≤ (s3 + (-1) * s4 + 1)) (f1 : 0 ≤ ((-1) * s3 + s4 - 1)) (f2 : 0 ≤ (s6 - 120)) (hG : gI M) : (HP 66 (s3) (2 : Int) M ∧ True) := by
  obtain ⟨S2, hS2, hE2⟩ := ex_o (K := 2) (j := 1) (a := s2) (Eq.mp hp_53 m0) ⟨by omega, by omega, by decide, by decide⟩
  have ha2 : s2 = (qps (tm M) S2.1 2 : Int) := hE2.2.2.2.2
  have ha : qps (tm M) S2.1 2 = s2.toNat := by omega
  have g1 := (q45 m2).2
  have g2 := (q46 m3).2
  have hr := rd1 m4 (by omega)
  have hl : qlt (tm M) S2.1 2 0 = s6 := by unfold qlt; rw [ha, show tS (tm M) s2.toNat + 0 = s3.toNat by omega]; exact hr
  have hc : ∀ s : Nat × pM, qat (tm M) (4096 * s0 + s1) s → tK (tm M) (qps (tm M) s.1 2) = s5 → qck (tm M) s.1 s.2 2 2 = some 2 := by
    intro s hs e
    have e2 := qat_u hS2 hs
    subst e2
    show qcW (if qsz (tm M) s.1 2 = 1 ∧ (qlt (tm M) s.1 2 0 = 110 ∨ qlt (tm M) s.1 2 0 = 101 ∨ qlt (tm M) s.1 2 0 = 115 ∨ qlt (tm M) s.1 2 0 = 119) then none else some 2) (tK (tm M) (qps (tm M) s.1 2)) = _
    rw [e, qcW_x (by omega)]
    exact if_neg (fun hh => by have hh := hh.2; rw [hl] at hh; omega)
  exact ⟨r_fl (K := 2) (j := 1) m0 m1 m2 ⟨by omega, by omega, by decide⟩ (fun s hs hE e => hc s hs e), trivial⟩

-- fk35
theorem cr_121 (M : pM) (s0 s1 s2 s3 s4 : Int) (b0 : 0 ≤ s0 ∧ s0 ≤ 1900) (b1 : 0 ≤ s1 ∧ s1 ≤ 950) (b2 : 0 ≤ s2 ∧ s2 ≤ 1900) (b3 : 0 ≤ s3 ∧ s3 ≤ 1900) (b4 : 256 ≤ s4 ∧ s4 ≤ 600000) (m0 : HP 53 (4096 * s0 + s1) (256 * s2 + 35) M) (m1 : HP 47 (s2) (s4) M) (m2 : HP 45 (s2) (s3) M) (f0 : 0 ≤ ((-1) * s4 + 393215)) (hG : gI M) : (HP 66 (s3) (2 : Int) M ∧ True) := by
  refine ⟨r_fl (K := 2) (j := 2) m0 m1 m2 ⟨by omega, by omega, by decide⟩ (fun s hs hE e => ?_), trivial⟩
  show qcN 0 3 none (tK (tm M) (qps (tm M) s.1 3)) = some 2
  rw [e]
  exact qcN_2 (by omega) (by omega)

-- fl35
theorem cr_122 (M : pM) (s0 s1 s2 s3 s4 : Int) (b0 : 0 ≤ s0 ∧ s0 ≤ 1900) (b1 : 0 ≤ s1 ∧ s1 ≤ 950) (b2 : 0 ≤ s2 ∧ s2 ≤ 1900) (b3 : 0 ≤ s3 ∧ s3 ≤ 1900) (b4 : 256 ≤ s4 ∧ s4 ≤ 600000) (m0 : HP 53 (4096 * s0 + s1) (256 * s2 + 35) M) (m1 : HP 47 (s2) (s4) M) (m2 : HP 45 (s2) (s3) M) (f0 : 0 ≤ (s4 - 403216)) (hG : gI M) : (HP 66 (s3) (2 : Int) M ∧ True) := by
  refine ⟨r_fl (K := 2) (j := 2) m0 m1 m2 ⟨by omega, by omega, by decide⟩ (fun s hs hE e => ?_), trivial⟩
  show qcN 0 3 none (tK (tm M) (qps (tm M) s.1 3)) = some 2
  rw [e]
  exact qcN_2 (by omega) (by omega)

-- fn35
theorem cr_123 (M : pM) (s0 s1 s2 s3 s4 : Int) (b0 : 0 ≤ s0 ∧ s0 ≤ 1900) (b1 : 0 ≤ s1 ∧ s1 ≤ 950) (b2 : 0 ≤ s2 ∧ s2 ≤ 1900) (b3 : 0 ≤ s3 ∧ s3 ≤ 1900) (b4 : 0 ≤ s4 ∧ s4 ≤ 9999) (m0 : HP 53 (4096 * s0 + s1) (256 * s2 + 35) M) (m1 : HP 47 (s2) (s4 + 393216) M) (m2 : HP 45 (s2) (s3) M) (f0 : 0 ≤ (s4 - 4)) (hG : gI M) : (HP 66 (s3) (4 : Int) M ∧ True) := by
  refine ⟨r_fl (K := 2) (j := 2) m0 m1 m2 ⟨by omega, by omega, by decide⟩ (fun s hs hE e => ?_), trivial⟩
  show qcN 0 3 none (tK (tm M) (qps (tm M) s.1 3)) = some 4
  rw [e]
  exact qcN_4 (by omega) (Or.inr (by omega))

-- ex35
theorem cr_124 (M : pM) (s0 s1 s2 s3 s4 : Int) (b0 : 0 ≤ s0 ∧ s0 ≤ 1900) (b1 : 0 ≤ s1 ∧ s1 ≤ 950) (b2 : 0 ≤ s2 ∧ s2 ≤ 1900) (b3 : 0 ≤ s3 ∧ s3 ≤ 1900) (b4 : 0 ≤ s4 ∧ s4 ≤ 9999) (m0 : HP 53 (4096 * s0 + s1) (256 * s2 + 35) M) (m1 : HP 47 (s2) (s4 + 393216) M) (m2 : HP 46 (s2) (s3) M) (f0 : 0 ≤ (s4)) (f1 : 0 ≤ ((-1) * s4 + 3)) (hG : gI M) : (HP 53 (4096 * s0 + s1) (256 * s3 + 36) M ∧ HP 79 (16 * s0 + 3) (s4) M ∧ True) := by
  refine ⟨?_, ?_, trivial⟩
  · exact r_ex (K := 2) (j := 2) m0 m1 m2 ⟨by omega, by omega, by decide⟩ (by omega) (by decide) (fun s hs hE e => by
        show qcN 0 3 none (tK (tm M) (qps (tm M) s.1 3)) = none
        rw [e]
        exact qcN_x (by omega) (by omega))
  · exact r_va (P := s0) (l := s1) (K := 2) (j := 2) m0 m1 ⟨by omega, by omega, by omega⟩ ⟨by omega, by omega, by decide⟩ (by omega) (by omega)

-- ln2
theorem cr_125 (M : pM) (s0 s1 s2 : Int) (b0 : 0 ≤ s0 ∧ s0 ≤ 1900) (b1 : 0 ≤ s1 ∧ s1 ≤ 950) (b2 : 0 ≤ s2 ∧ s2 ≤ 1900) (m0 : HP 53 (4096 * s0 + s1) (256 * s2 + 36) M) (hG : gI M) : (HP 89 (4096 * s0 + s1) (s2) M ∧ True) := by
  obtain ⟨s, h1, h2⟩ := ex_o (K := 2) (j := 3) (a := s2) (Eq.mp hp_53 m0) ⟨by omega, by omega, by decide, by decide⟩
  exact ⟨Eq.mpr hp_89 ⟨s, 2, h1, ⟨h2.2.2.1, h2.2.2.2.1⟩, h2.2.2.2.2⟩, trivial⟩

-- fk49
theorem cr_126 (M : pM) (s0 s1 s2 s3 s4 : Int) (b0 : 0 ≤ s0 ∧ s0 ≤ 1900) (b1 : 0 ≤ s1 ∧ s1 ≤ 950) (b2 : 0 ≤ s2 ∧ s2 ≤ 1900) (b3 : 0 ≤ s3 ∧ s3 ≤ 1900) (b4 : 256 ≤ s4 ∧ s4 ≤ 600000) (m0 : HP 53 (4096 * s0 + s1) (256 * s2 + 49) M) (m1 : HP 47 (s2) (s4) M) (m2 : HP 45 (s2) (s3) M) (f0 : 0 ≤ ((-1) * s4 + 393215)) (hG : gI M) : (HP 66 (s3) (2 : Int) M ∧ True) := by
  refine ⟨r_fl (K := 3) (j := 0) m0 m1 m2 ⟨by omega, by omega, by decide⟩ (fun s hs hE e => ?_), trivial⟩
  show qcN 0 5 (if 0 ≤ s.2 5 (qvl (tm M) s.1 1).toNat then some 3 else none) (tK (tm M) (qps (tm M) s.1 1)) = some 2
  rw [e]
  exact qcN_2 (by omega) (by omega)

-- fl49
theorem cr_127 (M : pM) (s0 s1 s2 s3 s4 : Int) (b0 : 0 ≤ s0 ∧ s0 ≤ 1900) (b1 : 0 ≤ s1 ∧ s1 ≤ 950) (b2 : 0 ≤ s2 ∧ s2 ≤ 1900) (b3 : 0 ≤ s3 ∧ s3 ≤ 1900) (b4 : 256 ≤ s4 ∧ s4 ≤ 600000) (m0 : HP 53 (4096 * s0 + s1) (256 * s2 + 49) M) (m1 : HP 47 (s2) (s4) M) (m2 : HP 45 (s2) (s3) M) (f0 : 0 ≤ (s4 - 403216)) (hG : gI M) : (HP 66 (s3) (2 : Int) M ∧ True) := by
  refine ⟨r_fl (K := 3) (j := 0) m0 m1 m2 ⟨by omega, by omega, by decide⟩ (fun s hs hE e => ?_), trivial⟩
  show qcN 0 5 (if 0 ≤ s.2 5 (qvl (tm M) s.1 1).toNat then some 3 else none) (tK (tm M) (qps (tm M) s.1 1)) = some 2
  rw [e]
  exact qcN_2 (by omega) (by omega)

-- fn49
theorem cr_128 (M : pM) (s0 s1 s2 s3 s4 : Int) (b0 : 0 ≤ s0 ∧ s0 ≤ 1900) (b1 : 0 ≤ s1 ∧ s1 ≤ 950) (b2 : 0 ≤ s2 ∧ s2 ≤ 1900) (b3 : 0 ≤ s3 ∧ s3 ≤ 1900) (b4 : 0 ≤ s4 ∧ s4 ≤ 9999) (m0 : HP 53 (4096 * s0 + s1) (256 * s2 + 49) M) (m1 : HP 47 (s2) (s4 + 393216) M) (m2 : HP 45 (s2) (s3) M) (f0 : 0 ≤ (s4 - 6)) (hG : gI M) : (HP 66 (s3) (4 : Int) M ∧ True) := by
  refine ⟨r_fl (K := 3) (j := 0) m0 m1 m2 ⟨by omega, by omega, by decide⟩ (fun s hs hE e => ?_), trivial⟩
  show qcN 0 5 (if 0 ≤ s.2 5 (qvl (tm M) s.1 1).toNat then some 3 else none) (tK (tm M) (qps (tm M) s.1 1)) = some 4
  rw [e]
  exact qcN_4 (by omega) (Or.inr (by omega))

-- told3_0
theorem cr_129 (M : pM) (s0 s1 s2 s3 s4 s5 s6 s7 s8 : Int) (b0 : 0 ≤ s0 ∧ s0 ≤ 1900) (b1 : 0 ≤ s1 ∧ s1 ≤ 950) (b2 : 0 ≤ s2 ∧ s2 ≤ 1900) (b3 : 0 ≤ s3 ∧ s3 ≤ 1900) (b4 : 0 ≤ s4 ∧ s4 ≤ 5) (b5 : 0 ≤ s5 ∧ s5 ≤ 12) (b6 : 0 ≤ s6 ∧ s6 ≤ 20) (b7 : 0 ≤ s7 ∧ s7 ≤ 4) (b8 : (-1) ≤ s8 ∧ s8 ≤ (-1)) (m0 : HP 53 (4096 * s0 + s1) (256 * s2 + 49) M) (m1 : HP 47 (s2) (s4 + 393216) M) (m2 : HP 46 (s2) (s3) M) (m3 : HP 54 (4096 * s0 + s1) (s5 + 32 * s6 + 1024 * s7) M) (m4 : (0 ≤ (s4) ∧ M 7 (s4).toNat = (s8))) (hG : gI M) : (HP 53 (4096 * s0 + s1) (256 * s3 + 50) M ∧ HP 79 (16 * s0 + 1) (s4) M ∧ True) := by
  obtain ⟨S, hS, hw, ha⟩ := Eq.mp hp_54 m3
  have hr : M 7 s4.toNat = S.2 5 s4.toNat := ha.2.2.2.2.1 s4.toNat (by omega)
  rw [m4.2] at hr
  have hs0 : S.2 5 s4.toNat = s8 := hr.symm
  have hc : ∀ s : Nat × pM, qat (tm M) (4096 * s0 + s1) s → tK (tm M) (qps (tm M) s.1 1) = (s4 + 393216) → qck (tm M) s.1 s.2 3 1 = none := by
    intro s hs e
    have es := qat_u hS hs
    have ev : qvl (tm M) s.1 1 = s4 := by unfold qvl; omega
    show qcN 0 5 (if 0 ≤ s.2 5 (qvl (tm M) s.1 1).toNat then some 3 else none) (tK (tm M) (qps (tm M) s.1 1)) = _
    rw [e, qcN_x (by omega) (by omega), ev, es]
    exact if_neg (by omega)
  exact ⟨r_ex (K := 3) (j := 0) m0 m1 m2 ⟨by omega, by omega, by decide⟩ (by omega) (by decide) (fun s hs hE e => hc s hs e), r_va (P := s0) (l := s1) (K := 3) (j := 0) m0 m1 ⟨by omega, by omega, by omega⟩ ⟨by omega, by omega, by decide⟩ (by omega) (by omega), trivial⟩

-- tolx3_0
theorem cr_130 (M : pM) (s0 s1 s2 s3 s4 s5 s6 s7 s8 : Int) (b0 : 0 ≤ s0 ∧ s0 ≤ 1900) (b1 : 0 ≤ s1 ∧ s1 ≤ 950) (b2 : 0 ≤ s2 ∧ s2 ≤ 1900) (b3 : 0 ≤ s3 ∧ s3 ≤ 1900) (b4 : 0 ≤ s4 ∧ s4 ≤ 5) (b5 : 0 ≤ s5 ∧ s5 ≤ 12) (b6 : 0 ≤ s6 ∧ s6 ≤ 20) (b7 : 0 ≤ s7 ∧ s7 ≤ 4) (b8 : 0 ≤ s8 ∧ s8 ≤ 40) (m0 : HP 53 (4096 * s0 + s1) (256 * s2 + 49) M) (m1 : HP 47 (s2) (s4 + 393216) M) (m2 : HP 45 (s2) (s3) M) (m3 : HP 54 (4096 * s0 + s1) (s5 + 32 * s6 + 1024 * s7) M) (m4 : (0 ≤ (s4) ∧ M 7 (s4).toNat = (s8))) (hG : gI M) : (HP 66 (s3) (3 : Int) M ∧ True) := by
  obtain ⟨S, hS, hw, ha⟩ := Eq.mp hp_54 m3
  have hr : M 7 s4.toNat = S.2 5 s4.toNat := ha.2.2.2.2.1 s4.toNat (by omega)
  rw [m4.2] at hr
  have hs0 : S.2 5 s4.toNat = s8 := hr.symm
  have hc : ∀ s : Nat × pM, qat (tm M) (4096 * s0 + s1) s → tK (tm M) (qps (tm M) s.1 1) = (s4 + 393216) → qck (tm M) s.1 s.2 3 1 = some 3 := by
    intro s hs e
    have es := qat_u hS hs
    have ev : qvl (tm M) s.1 1 = s4 := by unfold qvl; omega
    show qcN 0 5 (if 0 ≤ s.2 5 (qvl (tm M) s.1 1).toNat then some 3 else none) (tK (tm M) (qps (tm M) s.1 1)) = _
    rw [e, qcN_x (by omega) (by omega), ev, es]
    exact if_pos (by omega)
  exact ⟨r_fl (K := 3) (j := 0) m0 m1 m2 ⟨by omega, by omega, by decide⟩ (fun s hs hE e => hc s hs e), trivial⟩

-- told3_1
theorem cr_131 (M : pM) (s0 s1 s2 s3 s4 s5 s6 s7 s8 : Int) (b0 : 0 ≤ s0 ∧ s0 ≤ 1900) (b1 : 0 ≤ s1 ∧ s1 ≤ 950) (b2 : 0 ≤ s2 ∧ s2 ≤ 1900) (b3 : 0 ≤ s3 ∧ s3 ≤ 1900) (b4 : 0 ≤ s4 ∧ s4 ≤ 5) (b5 : 0 ≤ s5 ∧ s5 ≤ 12) (b6 : 0 ≤ s6 ∧ s6 ≤ 20) (b7 : 0 ≤ s7 ∧ s7 ≤ 4) (b8 : (-1) ≤ s8 ∧ s8 ≤ (-1)) (m0 : HP 53 (4096 * s0 + s1) (256 * s2 + 49) M) (m1 : HP 47 (s2) (s4 + 393216) M) (m2 : HP 46 (s2) (s3) M) (m3 : HP 55 (4096 * s0 + s1) (s5 + 32 * s6 + 1024 * s7) M) (m4 : (0 ≤ (s4) ∧ M 16 (s4).toNat = (s8))) (hG : gI M) : (HP 53 (4096 * s0 + s1) (256 * s3 + 50) M ∧ HP 79 (16 * s0 + 1) (s4) M ∧ True) := by
  obtain ⟨S, hS, hw, ha⟩ := Eq.mp hp_55 m3
  have hr : M 16 s4.toNat = S.2 5 s4.toNat := ha.2.2.2.2.1 s4.toNat (by omega)
  rw [m4.2] at hr
  have hs0 : S.2 5 s4.toNat = s8 := hr.symm
  have hc : ∀ s : Nat × pM, qat (tm M) (4096 * s0 + s1) s → tK (tm M) (qps (tm M) s.1 1) = (s4 + 393216) → qck (tm M) s.1 s.2 3 1 = none := by
    intro s hs e
    have es := qat_u hS hs
    have ev : qvl (tm M) s.1 1 = s4 := by unfold qvl; omega
    show qcN 0 5 (if 0 ≤ s.2 5 (qvl (tm M) s.1 1).toNat then some 3 else none) (tK (tm M) (qps (tm M) s.1 1)) = _
    rw [e, qcN_x (by omega) (by omega), ev, es]
    exact if_neg (by omega)
  exact ⟨r_ex (K := 3) (j := 0) m0 m1 m2 ⟨by omega, by omega, by decide⟩ (by omega) (by decide) (fun s hs hE e => hc s hs e), r_va (P := s0) (l := s1) (K := 3) (j := 0) m0 m1 ⟨by omega, by omega, by omega⟩ ⟨by omega, by omega, by decide⟩ (by omega) (by omega), trivial⟩

-- tolx3_1
theorem cr_132 (M : pM) (s0 s1 s2 s3 s4 s5 s6 s7 s8 : Int) (b0 : 0 ≤ s0 ∧ s0 ≤ 1900) (b1 : 0 ≤ s1 ∧ s1 ≤ 950) (b2 : 0 ≤ s2 ∧ s2 ≤ 1900) (b3 : 0 ≤ s3 ∧ s3 ≤ 1900) (b4 : 0 ≤ s4 ∧ s4 ≤ 5) (b5 : 0 ≤ s5 ∧ s5 ≤ 12) (b6 : 0 ≤ s6 ∧ s6 ≤ 20) (b7 : 0 ≤ s7 ∧ s7 ≤ 4) (b8 : 0 ≤ s8 ∧ s8 ≤ 40) (m0 : HP 53 (4096 * s0 + s1) (256 * s2 + 49) M) (m1 : HP 47 (s2) (s4 + 393216) M) (m2 : HP 45 (s2) (s3) M) (m3 : HP 55 (4096 * s0 + s1) (s5 + 32 * s6 + 1024 * s7) M) (m4 : (0 ≤ (s4) ∧ M 16 (s4).toNat = (s8))) (hG : gI M) : (HP 66 (s3) (3 : Int) M ∧ True) := by
  obtain ⟨S, hS, hw, ha⟩ := Eq.mp hp_55 m3
  have hr : M 16 s4.toNat = S.2 5 s4.toNat := ha.2.2.2.2.1 s4.toNat (by omega)
  rw [m4.2] at hr
  have hs0 : S.2 5 s4.toNat = s8 := hr.symm
  have hc : ∀ s : Nat × pM, qat (tm M) (4096 * s0 + s1) s → tK (tm M) (qps (tm M) s.1 1) = (s4 + 393216) → qck (tm M) s.1 s.2 3 1 = some 3 := by
    intro s hs e
    have es := qat_u hS hs
    have ev : qvl (tm M) s.1 1 = s4 := by unfold qvl; omega
    show qcN 0 5 (if 0 ≤ s.2 5 (qvl (tm M) s.1 1).toNat then some 3 else none) (tK (tm M) (qps (tm M) s.1 1)) = _
    rw [e, qcN_x (by omega) (by omega), ev, es]
    exact if_pos (by omega)
  exact ⟨r_fl (K := 3) (j := 0) m0 m1 m2 ⟨by omega, by omega, by decide⟩ (fun s hs hE e => hc s hs e), trivial⟩

-- fk50
theorem cr_133 (M : pM) (s0 s1 s2 s3 s4 : Int) (b0 : 0 ≤ s0 ∧ s0 ≤ 1900) (b1 : 0 ≤ s1 ∧ s1 ≤ 950) (b2 : 0 ≤ s2 ∧ s2 ≤ 1900) (b3 : 0 ≤ s3 ∧ s3 ≤ 1900) (b4 : 256 ≤ s4 ∧ s4 ≤ 600000) (m0 : HP 53 (4096 * s0 + s1) (256 * s2 + 50) M) (m1 : HP 47 (s2) (s4) M) (m2 : HP 45 (s2) (s3) M) (f0 : 0 ≤ ((-1) * s4 + 393215)) (hG : gI M) : (HP 66 (s3) (2 : Int) M ∧ True) := by
  refine ⟨r_fl (K := 3) (j := 1) m0 m1 m2 ⟨by omega, by omega, by decide⟩ (fun s hs hE e => ?_), trivial⟩
  show qcN 1 40 none (tK (tm M) (qps (tm M) s.1 2)) = some 2
  rw [e]
  exact qcN_2 (by omega) (by omega)

-- fl50
theorem cr_134 (M : pM) (s0 s1 s2 s3 s4 : Int) (b0 : 0 ≤ s0 ∧ s0 ≤ 1900) (b1 : 0 ≤ s1 ∧ s1 ≤ 950) (b2 : 0 ≤ s2 ∧ s2 ≤ 1900) (b3 : 0 ≤ s3 ∧ s3 ≤ 1900) (b4 : 256 ≤ s4 ∧ s4 ≤ 600000) (m0 : HP 53 (4096 * s0 + s1) (256 * s2 + 50) M) (m1 : HP 47 (s2) (s4) M) (m2 : HP 45 (s2) (s3) M) (f0 : 0 ≤ (s4 - 403216)) (hG : gI M) : (HP 66 (s3) (2 : Int) M ∧ True) := by
  refine ⟨r_fl (K := 3) (j := 1) m0 m1 m2 ⟨by omega, by omega, by decide⟩ (fun s hs hE e => ?_), trivial⟩
  show qcN 1 40 none (tK (tm M) (qps (tm M) s.1 2)) = some 2
  rw [e]
  exact qcN_2 (by omega) (by omega)

-- fm50
theorem cr_135 (M : pM) (s0 s1 s2 s3 s4 : Int) (b0 : 0 ≤ s0 ∧ s0 ≤ 1900) (b1 : 0 ≤ s1 ∧ s1 ≤ 950) (b2 : 0 ≤ s2 ∧ s2 ≤ 1900) (b3 : 0 ≤ s3 ∧ s3 ≤ 1900) (b4 : 0 ≤ s4 ∧ s4 ≤ 9999) (m0 : HP 53 (4096 * s0 + s1) (256 * s2 + 50) M) (m1 : HP 47 (s2) (s4 + 393216) M) (m2 : HP 45 (s2) (s3) M) (f0 : 0 ≤ ((-1) * s4)) (hG : gI M) : (HP 66 (s3) (4 : Int) M ∧ True) := by
  refine ⟨r_fl (K := 3) (j := 1) m0 m1 m2 ⟨by omega, by omega, by decide⟩ (fun s hs hE e => ?_), trivial⟩
  show qcN 1 40 none (tK (tm M) (qps (tm M) s.1 2)) = some 4
  rw [e]
  exact qcN_4 (by omega) (Or.inl (by omega))

-- fn50
theorem cr_136 (M : pM) (s0 s1 s2 s3 s4 : Int) (b0 : 0 ≤ s0 ∧ s0 ≤ 1900) (b1 : 0 ≤ s1 ∧ s1 ≤ 950) (b2 : 0 ≤ s2 ∧ s2 ≤ 1900) (b3 : 0 ≤ s3 ∧ s3 ≤ 1900) (b4 : 0 ≤ s4 ∧ s4 ≤ 9999) (m0 : HP 53 (4096 * s0 + s1) (256 * s2 + 50) M) (m1 : HP 47 (s2) (s4 + 393216) M) (m2 : HP 45 (s2) (s3) M) (f0 : 0 ≤ (s4 - 41)) (hG : gI M) : (HP 66 (s3) (4 : Int) M ∧ True) := by
  refine ⟨r_fl (K := 3) (j := 1) m0 m1 m2 ⟨by omega, by omega, by decide⟩ (fun s hs hE e => ?_), trivial⟩
  show qcN 1 40 none (tK (tm M) (qps (tm M) s.1 2)) = some 4
  rw [e]
  exact qcN_4 (by omega) (Or.inr (by omega))

-- ex50
theorem cr_137 (M : pM) (s0 s1 s2 s3 s4 : Int) (b0 : 0 ≤ s0 ∧ s0 ≤ 1900) (b1 : 0 ≤ s1 ∧ s1 ≤ 950) (b2 : 0 ≤ s2 ∧ s2 ≤ 1900) (b3 : 0 ≤ s3 ∧ s3 ≤ 1900) (b4 : 0 ≤ s4 ∧ s4 ≤ 9999) (m0 : HP 53 (4096 * s0 + s1) (256 * s2 + 50) M) (m1 : HP 47 (s2) (s4 + 393216) M) (m2 : HP 46 (s2) (s3) M) (f0 : 0 ≤ (s4 - 1)) (f1 : 0 ≤ ((-1) * s4 + 40)) (hG : gI M) : (HP 53 (4096 * s0 + s1) (256 * s3 + 51) M ∧ HP 79 (16 * s0 + 2) (s4) M ∧ True) := by
  refine ⟨?_, ?_, trivial⟩
  · exact r_ex (K := 3) (j := 1) m0 m1 m2 ⟨by omega, by omega, by decide⟩ (by omega) (by decide) (fun s hs hE e => by
        show qcN 1 40 none (tK (tm M) (qps (tm M) s.1 2)) = none
        rw [e]
        exact qcN_x (by omega) (by omega))
  · exact r_va (P := s0) (l := s1) (K := 3) (j := 1) m0 m1 ⟨by omega, by omega, by omega⟩ ⟨by omega, by omega, by decide⟩ (by omega) (by omega)

-- ln3
theorem cr_138 (M : pM) (s0 s1 s2 : Int) (b0 : 0 ≤ s0 ∧ s0 ≤ 1900) (b1 : 0 ≤ s1 ∧ s1 ≤ 950) (b2 : 0 ≤ s2 ∧ s2 ≤ 1900) (m0 : HP 53 (4096 * s0 + s1) (256 * s2 + 51) M) (hG : gI M) : (HP 89 (4096 * s0 + s1) (s2) M ∧ True) := by
  obtain ⟨s, h1, h2⟩ := ex_o (K := 3) (j := 2) (a := s2) (Eq.mp hp_53 m0) ⟨by omega, by omega, by decide, by decide⟩
  exact ⟨Eq.mpr hp_89 ⟨s, 3, h1, ⟨h2.2.2.1, h2.2.2.2.1⟩, h2.2.2.2.2⟩, trivial⟩

-- fk65
theorem cr_139 (M : pM) (s0 s1 s2 s3 s4 : Int) (b0 : 0 ≤ s0 ∧ s0 ≤ 1900) (b1 : 0 ≤ s1 ∧ s1 ≤ 950) (b2 : 0 ≤ s2 ∧ s2 ≤ 1900) (b3 : 0 ≤ s3 ∧ s3 ≤ 1900) (b4 : 256 ≤ s4 ∧ s4 ≤ 600000) (m0 : HP 53 (4096 * s0 + s1) (256 * s2 + 65) M) (m1 : HP 47 (s2) (s4) M) (m2 : HP 45 (s2) (s3) M) (f0 : 0 ≤ ((-1) * s4 + 393215)) (hG : gI M) : (HP 66 (s3) (2 : Int) M ∧ True) := by
  refine ⟨r_fl (K := 4) (j := 0) m0 m1 m2 ⟨by omega, by omega, by decide⟩ (fun s hs hE e => ?_), trivial⟩
  show qcN 0 7 none (tK (tm M) (qps (tm M) s.1 1)) = some 2
  rw [e]
  exact qcN_2 (by omega) (by omega)

-- fl65
theorem cr_140 (M : pM) (s0 s1 s2 s3 s4 : Int) (b0 : 0 ≤ s0 ∧ s0 ≤ 1900) (b1 : 0 ≤ s1 ∧ s1 ≤ 950) (b2 : 0 ≤ s2 ∧ s2 ≤ 1900) (b3 : 0 ≤ s3 ∧ s3 ≤ 1900) (b4 : 256 ≤ s4 ∧ s4 ≤ 600000) (m0 : HP 53 (4096 * s0 + s1) (256 * s2 + 65) M) (m1 : HP 47 (s2) (s4) M) (m2 : HP 45 (s2) (s3) M) (f0 : 0 ≤ (s4 - 403216)) (hG : gI M) : (HP 66 (s3) (2 : Int) M ∧ True) := by
  refine ⟨r_fl (K := 4) (j := 0) m0 m1 m2 ⟨by omega, by omega, by decide⟩ (fun s hs hE e => ?_), trivial⟩
  show qcN 0 7 none (tK (tm M) (qps (tm M) s.1 1)) = some 2
  rw [e]
  exact qcN_2 (by omega) (by omega)

-- fn65
theorem cr_141 (M : pM) (s0 s1 s2 s3 s4 : Int) (b0 : 0 ≤ s0 ∧ s0 ≤ 1900) (b1 : 0 ≤ s1 ∧ s1 ≤ 950) (b2 : 0 ≤ s2 ∧ s2 ≤ 1900) (b3 : 0 ≤ s3 ∧ s3 ≤ 1900) (b4 : 0 ≤ s4 ∧ s4 ≤ 9999) (m0 : HP 53 (4096 * s0 + s1) (256 * s2 + 65) M) (m1 : HP 47 (s2) (s4 + 393216) M) (m2 : HP 45 (s2) (s3) M) (f0 : 0 ≤ (s4 - 8)) (hG : gI M) : (HP 66 (s3) (4 : Int) M ∧ True) := by
  refine ⟨r_fl (K := 4) (j := 0) m0 m1 m2 ⟨by omega, by omega, by decide⟩ (fun s hs hE e => ?_), trivial⟩
  show qcN 0 7 none (tK (tm M) (qps (tm M) s.1 1)) = some 4
  rw [e]
  exact qcN_4 (by omega) (Or.inr (by omega))

-- ex65
theorem cr_142 (M : pM) (s0 s1 s2 s3 s4 : Int) (b0 : 0 ≤ s0 ∧ s0 ≤ 1900) (b1 : 0 ≤ s1 ∧ s1 ≤ 950) (b2 : 0 ≤ s2 ∧ s2 ≤ 1900) (b3 : 0 ≤ s3 ∧ s3 ≤ 1900) (b4 : 0 ≤ s4 ∧ s4 ≤ 9999) (m0 : HP 53 (4096 * s0 + s1) (256 * s2 + 65) M) (m1 : HP 47 (s2) (s4 + 393216) M) (m2 : HP 46 (s2) (s3) M) (f0 : 0 ≤ (s4)) (f1 : 0 ≤ ((-1) * s4 + 7)) (hG : gI M) : (HP 53 (4096 * s0 + s1) (256 * s3 + 66) M ∧ HP 79 (16 * s0 + 1) (s4) M ∧ True) := by
  refine ⟨?_, ?_, trivial⟩
  · exact r_ex (K := 4) (j := 0) m0 m1 m2 ⟨by omega, by omega, by decide⟩ (by omega) (by decide) (fun s hs hE e => by
        show qcN 0 7 none (tK (tm M) (qps (tm M) s.1 1)) = none
        rw [e]
        exact qcN_x (by omega) (by omega))
  · exact r_va (P := s0) (l := s1) (K := 4) (j := 0) m0 m1 ⟨by omega, by omega, by omega⟩ ⟨by omega, by omega, by decide⟩ (by omega) (by omega)

-- fk66
theorem cr_143 (M : pM) (s0 s1 s2 s3 s4 : Int) (b0 : 0 ≤ s0 ∧ s0 ≤ 1900) (b1 : 0 ≤ s1 ∧ s1 ≤ 950) (b2 : 0 ≤ s2 ∧ s2 ≤ 1900) (b3 : 0 ≤ s3 ∧ s3 ≤ 1900) (b4 : 256 ≤ s4 ∧ s4 ≤ 600000) (m0 : HP 53 (4096 * s0 + s1) (256 * s2 + 66) M) (m1 : HP 47 (s2) (s4) M) (m2 : HP 45 (s2) (s3) M) (f0 : 0 ≤ ((-1) * s4 + 393215)) (hG : gI M) : (HP 66 (s3) (2 : Int) M ∧ True) := by
  refine ⟨r_fl (K := 4) (j := 1) m0 m1 m2 ⟨by omega, by omega, by decide⟩ (fun s hs hE e => ?_), trivial⟩
  show qcN 0 7 none (tK (tm M) (qps (tm M) s.1 2)) = some 2
  rw [e]
  exact qcN_2 (by omega) (by omega)

-- fl66
theorem cr_144 (M : pM) (s0 s1 s2 s3 s4 : Int) (b0 : 0 ≤ s0 ∧ s0 ≤ 1900) (b1 : 0 ≤ s1 ∧ s1 ≤ 950) (b2 : 0 ≤ s2 ∧ s2 ≤ 1900) (b3 : 0 ≤ s3 ∧ s3 ≤ 1900) (b4 : 256 ≤ s4 ∧ s4 ≤ 600000) (m0 : HP 53 (4096 * s0 + s1) (256 * s2 + 66) M) (m1 : HP 47 (s2) (s4) M) (m2 : HP 45 (s2) (s3) M) (f0 : 0 ≤ (s4 - 403216)) (hG : gI M) : (HP 66 (s3) (2 : Int) M ∧ True) := by
  refine ⟨r_fl (K := 4) (j := 1) m0 m1 m2 ⟨by omega, by omega, by decide⟩ (fun s hs hE e => ?_), trivial⟩
  show qcN 0 7 none (tK (tm M) (qps (tm M) s.1 2)) = some 2
  rw [e]
  exact qcN_2 (by omega) (by omega)

-- fn66
theorem cr_145 (M : pM) (s0 s1 s2 s3 s4 : Int) (b0 : 0 ≤ s0 ∧ s0 ≤ 1900) (b1 : 0 ≤ s1 ∧ s1 ≤ 950) (b2 : 0 ≤ s2 ∧ s2 ≤ 1900) (b3 : 0 ≤ s3 ∧ s3 ≤ 1900) (b4 : 0 ≤ s4 ∧ s4 ≤ 9999) (m0 : HP 53 (4096 * s0 + s1) (256 * s2 + 66) M) (m1 : HP 47 (s2) (s4 + 393216) M) (m2 : HP 45 (s2) (s3) M) (f0 : 0 ≤ (s4 - 8)) (hG : gI M) : (HP 66 (s3) (4 : Int) M ∧ True) := by
  refine ⟨r_fl (K := 4) (j := 1) m0 m1 m2 ⟨by omega, by omega, by decide⟩ (fun s hs hE e => ?_), trivial⟩
  show qcN 0 7 none (tK (tm M) (qps (tm M) s.1 2)) = some 4
  rw [e]
  exact qcN_4 (by omega) (Or.inr (by omega))

-- ex66
theorem cr_146 (M : pM) (s0 s1 s2 s3 s4 : Int) (b0 : 0 ≤ s0 ∧ s0 ≤ 1900) (b1 : 0 ≤ s1 ∧ s1 ≤ 950) (b2 : 0 ≤ s2 ∧ s2 ≤ 1900) (b3 : 0 ≤ s3 ∧ s3 ≤ 1900) (b4 : 0 ≤ s4 ∧ s4 ≤ 9999) (m0 : HP 53 (4096 * s0 + s1) (256 * s2 + 66) M) (m1 : HP 47 (s2) (s4 + 393216) M) (m2 : HP 46 (s2) (s3) M) (f0 : 0 ≤ (s4)) (f1 : 0 ≤ ((-1) * s4 + 7)) (hG : gI M) : (HP 53 (4096 * s0 + s1) (256 * s3 + 67) M ∧ HP 79 (16 * s0 + 2) (s4) M ∧ True) := by
  refine ⟨?_, ?_, trivial⟩
  · exact r_ex (K := 4) (j := 1) m0 m1 m2 ⟨by omega, by omega, by decide⟩ (by omega) (by decide) (fun s hs hE e => by
        show qcN 0 7 none (tK (tm M) (qps (tm M) s.1 2)) = none
        rw [e]
        exact qcN_x (by omega) (by omega))
  · exact r_va (P := s0) (l := s1) (K := 4) (j := 1) m0 m1 ⟨by omega, by omega, by omega⟩ ⟨by omega, by omega, by decide⟩ (by omega) (by omega)

-- ex67
theorem cr_147 (M : pM) (s0 s1 s2 s3 : Int) (b0 : 0 ≤ s0 ∧ s0 ≤ 1900) (b1 : 0 ≤ s1 ∧ s1 ≤ 950) (b2 : 0 ≤ s2 ∧ s2 ≤ 1900) (b3 : 0 ≤ s3 ∧ s3 ≤ 1900) (m0 : HP 53 (4096 * s0 + s1) (256 * s2 + 67) M) (m1 : HP 47 (s2) (262149 : Int) M) (m2 : HP 46 (s2) (s3) M) (hG : gI M) : (HP 53 (4096 * s0 + s1) (256 * s3 + 68) M ∧ True) := by
  refine ⟨?_, trivial⟩
  · exact r_ex (K := 4) (j := 2) m0 m1 m2 ⟨by omega, by omega, by decide⟩ (by omega) (by decide) (fun s hs hE e => by
        show qcK 262149 (tK (tm M) (qps (tm M) s.1 3)) = none
        rw [e]
        exact qcK_x (by omega) (by omega))

-- fk67
theorem cr_148 (M : pM) (s0 s1 s2 s3 s4 : Int) (b0 : 0 ≤ s0 ∧ s0 ≤ 1900) (b1 : 0 ≤ s1 ∧ s1 ≤ 950) (b2 : 0 ≤ s2 ∧ s2 ≤ 1900) (b3 : 0 ≤ s3 ∧ s3 ≤ 1900) (b4 : 256 ≤ s4 ∧ s4 ≤ 600000) (m0 : HP 53 (4096 * s0 + s1) (256 * s2 + 67) M) (m1 : HP 47 (s2) (s4) M) (m2 : HP 45 (s2) (s3) M) (f0 : 0 ≤ ((-1) * s4 + 262148)) (hG : gI M) : (HP 66 (s3) (2 : Int) M ∧ True) := by
  refine ⟨r_fl (K := 4) (j := 2) m0 m1 m2 ⟨by omega, by omega, by decide⟩ (fun s hs hE e => ?_), trivial⟩
  show qcK 262149 (tK (tm M) (qps (tm M) s.1 3)) = some 2
  rw [e]
  exact qcK_2 (by omega) (by omega)

-- fl67
theorem cr_149 (M : pM) (s0 s1 s2 s3 s4 : Int) (b0 : 0 ≤ s0 ∧ s0 ≤ 1900) (b1 : 0 ≤ s1 ∧ s1 ≤ 950) (b2 : 0 ≤ s2 ∧ s2 ≤ 1900) (b3 : 0 ≤ s3 ∧ s3 ≤ 1900) (b4 : 256 ≤ s4 ∧ s4 ≤ 600000) (m0 : HP 53 (4096 * s0 + s1) (256 * s2 + 67) M) (m1 : HP 47 (s2) (s4) M) (m2 : HP 45 (s2) (s3) M) (f0 : 0 ≤ (s4 - 262150)) (hG : gI M) : (HP 66 (s3) (2 : Int) M ∧ True) := by
  refine ⟨r_fl (K := 4) (j := 2) m0 m1 m2 ⟨by omega, by omega, by decide⟩ (fun s hs hE e => ?_), trivial⟩
  show qcK 262149 (tK (tm M) (qps (tm M) s.1 3)) = some 2
  rw [e]
  exact qcK_2 (by omega) (by omega)

-- fk68
theorem cr_150 (M : pM) (s0 s1 s2 s3 s4 : Int) (b0 : 0 ≤ s0 ∧ s0 ≤ 1900) (b1 : 0 ≤ s1 ∧ s1 ≤ 950) (b2 : 0 ≤ s2 ∧ s2 ≤ 1900) (b3 : 0 ≤ s3 ∧ s3 ≤ 1900) (b4 : 256 ≤ s4 ∧ s4 ≤ 600000) (m0 : HP 53 (4096 * s0 + s1) (256 * s2 + 68) M) (m1 : HP 47 (s2) (s4) M) (m2 : HP 45 (s2) (s3) M) (f0 : 0 ≤ ((-1) * s4 + 393215)) (hG : gI M) : (HP 66 (s3) (2 : Int) M ∧ True) := by
  refine ⟨r_fl (K := 4) (j := 3) m0 m1 m2 ⟨by omega, by omega, by decide⟩ (fun s hs hE e => ?_), trivial⟩
  show qcN 0 40 none (tK (tm M) (qps (tm M) s.1 4)) = some 2
  rw [e]
  exact qcN_2 (by omega) (by omega)

-- fl68
theorem cr_151 (M : pM) (s0 s1 s2 s3 s4 : Int) (b0 : 0 ≤ s0 ∧ s0 ≤ 1900) (b1 : 0 ≤ s1 ∧ s1 ≤ 950) (b2 : 0 ≤ s2 ∧ s2 ≤ 1900) (b3 : 0 ≤ s3 ∧ s3 ≤ 1900) (b4 : 256 ≤ s4 ∧ s4 ≤ 600000) (m0 : HP 53 (4096 * s0 + s1) (256 * s2 + 68) M) (m1 : HP 47 (s2) (s4) M) (m2 : HP 45 (s2) (s3) M) (f0 : 0 ≤ (s4 - 403216)) (hG : gI M) : (HP 66 (s3) (2 : Int) M ∧ True) := by
  refine ⟨r_fl (K := 4) (j := 3) m0 m1 m2 ⟨by omega, by omega, by decide⟩ (fun s hs hE e => ?_), trivial⟩
  show qcN 0 40 none (tK (tm M) (qps (tm M) s.1 4)) = some 2
  rw [e]
  exact qcN_2 (by omega) (by omega)

-- fn68
theorem cr_152 (M : pM) (s0 s1 s2 s3 s4 : Int) (b0 : 0 ≤ s0 ∧ s0 ≤ 1900) (b1 : 0 ≤ s1 ∧ s1 ≤ 950) (b2 : 0 ≤ s2 ∧ s2 ≤ 1900) (b3 : 0 ≤ s3 ∧ s3 ≤ 1900) (b4 : 0 ≤ s4 ∧ s4 ≤ 9999) (m0 : HP 53 (4096 * s0 + s1) (256 * s2 + 68) M) (m1 : HP 47 (s2) (s4 + 393216) M) (m2 : HP 45 (s2) (s3) M) (f0 : 0 ≤ (s4 - 41)) (hG : gI M) : (HP 66 (s3) (4 : Int) M ∧ True) := by
  refine ⟨r_fl (K := 4) (j := 3) m0 m1 m2 ⟨by omega, by omega, by decide⟩ (fun s hs hE e => ?_), trivial⟩
  show qcN 0 40 none (tK (tm M) (qps (tm M) s.1 4)) = some 4
  rw [e]
  exact qcN_4 (by omega) (Or.inr (by omega))

-- ex68
theorem cr_153 (M : pM) (s0 s1 s2 s3 s4 : Int) (b0 : 0 ≤ s0 ∧ s0 ≤ 1900) (b1 : 0 ≤ s1 ∧ s1 ≤ 950) (b2 : 0 ≤ s2 ∧ s2 ≤ 1900) (b3 : 0 ≤ s3 ∧ s3 ≤ 1900) (b4 : 0 ≤ s4 ∧ s4 ≤ 9999) (m0 : HP 53 (4096 * s0 + s1) (256 * s2 + 68) M) (m1 : HP 47 (s2) (s4 + 393216) M) (m2 : HP 46 (s2) (s3) M) (f0 : 0 ≤ (s4)) (f1 : 0 ≤ ((-1) * s4 + 40)) (hG : gI M) : (HP 53 (4096 * s0 + s1) (256 * s3 + 69) M ∧ HP 79 (16 * s0 + 4) (s4) M ∧ True) := by
  refine ⟨?_, ?_, trivial⟩
  · exact r_ex (K := 4) (j := 3) m0 m1 m2 ⟨by omega, by omega, by decide⟩ (by omega) (by decide) (fun s hs hE e => by
        show qcN 0 40 none (tK (tm M) (qps (tm M) s.1 4)) = none
        rw [e]
        exact qcN_x (by omega) (by omega))
  · exact r_va (P := s0) (l := s1) (K := 4) (j := 3) m0 m1 ⟨by omega, by omega, by omega⟩ ⟨by omega, by omega, by decide⟩ (by omega) (by omega)

-- ex69
theorem cr_154 (M : pM) (s0 s1 s2 s3 : Int) (b0 : 0 ≤ s0 ∧ s0 ≤ 1900) (b1 : 0 ≤ s1 ∧ s1 ≤ 950) (b2 : 0 ≤ s2 ∧ s2 ≤ 1900) (b3 : 0 ≤ s3 ∧ s3 ≤ 1900) (m0 : HP 53 (4096 * s0 + s1) (256 * s2 + 69) M) (m1 : HP 47 (s2) (262150 : Int) M) (m2 : HP 46 (s2) (s3) M) (hG : gI M) : (HP 53 (4096 * s0 + s1) (256 * s3 + 70) M ∧ True) := by
  refine ⟨?_, trivial⟩
  · exact r_ex (K := 4) (j := 4) m0 m1 m2 ⟨by omega, by omega, by decide⟩ (by omega) (by decide) (fun s hs hE e => by
        show qcK 262150 (tK (tm M) (qps (tm M) s.1 5)) = none
        rw [e]
        exact qcK_x (by omega) (by omega))

-- fk69
theorem cr_155 (M : pM) (s0 s1 s2 s3 s4 : Int) (b0 : 0 ≤ s0 ∧ s0 ≤ 1900) (b1 : 0 ≤ s1 ∧ s1 ≤ 950) (b2 : 0 ≤ s2 ∧ s2 ≤ 1900) (b3 : 0 ≤ s3 ∧ s3 ≤ 1900) (b4 : 256 ≤ s4 ∧ s4 ≤ 600000) (m0 : HP 53 (4096 * s0 + s1) (256 * s2 + 69) M) (m1 : HP 47 (s2) (s4) M) (m2 : HP 45 (s2) (s3) M) (f0 : 0 ≤ ((-1) * s4 + 262149)) (hG : gI M) : (HP 66 (s3) (2 : Int) M ∧ True) := by
  refine ⟨r_fl (K := 4) (j := 4) m0 m1 m2 ⟨by omega, by omega, by decide⟩ (fun s hs hE e => ?_), trivial⟩
  show qcK 262150 (tK (tm M) (qps (tm M) s.1 5)) = some 2
  rw [e]
  exact qcK_2 (by omega) (by omega)

-- fl69
theorem cr_156 (M : pM) (s0 s1 s2 s3 s4 : Int) (b0 : 0 ≤ s0 ∧ s0 ≤ 1900) (b1 : 0 ≤ s1 ∧ s1 ≤ 950) (b2 : 0 ≤ s2 ∧ s2 ≤ 1900) (b3 : 0 ≤ s3 ∧ s3 ≤ 1900) (b4 : 256 ≤ s4 ∧ s4 ≤ 600000) (m0 : HP 53 (4096 * s0 + s1) (256 * s2 + 69) M) (m1 : HP 47 (s2) (s4) M) (m2 : HP 45 (s2) (s3) M) (f0 : 0 ≤ (s4 - 262151)) (hG : gI M) : (HP 66 (s3) (2 : Int) M ∧ True) := by
  refine ⟨r_fl (K := 4) (j := 4) m0 m1 m2 ⟨by omega, by omega, by decide⟩ (fun s hs hE e => ?_), trivial⟩
  show qcK 262150 (tK (tm M) (qps (tm M) s.1 5)) = some 2
  rw [e]
  exact qcK_2 (by omega) (by omega)

-- fk70
theorem cr_157 (M : pM) (s0 s1 s2 s3 s4 : Int) (b0 : 0 ≤ s0 ∧ s0 ≤ 1900) (b1 : 0 ≤ s1 ∧ s1 ≤ 950) (b2 : 0 ≤ s2 ∧ s2 ≤ 1900) (b3 : 0 ≤ s3 ∧ s3 ≤ 1900) (b4 : 256 ≤ s4 ∧ s4 ≤ 600000) (m0 : HP 53 (4096 * s0 + s1) (256 * s2 + 70) M) (m1 : HP 47 (s2) (s4) M) (m2 : HP 45 (s2) (s3) M) (f0 : 0 ≤ ((-1) * s4 + 393215)) (hG : gI M) : (HP 66 (s3) (2 : Int) M ∧ True) := by
  refine ⟨r_fl (K := 4) (j := 5) m0 m1 m2 ⟨by omega, by omega, by decide⟩ (fun s hs hE e => ?_), trivial⟩
  show qcN 0 36 none (tK (tm M) (qps (tm M) s.1 6)) = some 2
  rw [e]
  exact qcN_2 (by omega) (by omega)

-- fl70
theorem cr_158 (M : pM) (s0 s1 s2 s3 s4 : Int) (b0 : 0 ≤ s0 ∧ s0 ≤ 1900) (b1 : 0 ≤ s1 ∧ s1 ≤ 950) (b2 : 0 ≤ s2 ∧ s2 ≤ 1900) (b3 : 0 ≤ s3 ∧ s3 ≤ 1900) (b4 : 256 ≤ s4 ∧ s4 ≤ 600000) (m0 : HP 53 (4096 * s0 + s1) (256 * s2 + 70) M) (m1 : HP 47 (s2) (s4) M) (m2 : HP 45 (s2) (s3) M) (f0 : 0 ≤ (s4 - 403216)) (hG : gI M) : (HP 66 (s3) (2 : Int) M ∧ True) := by
  refine ⟨r_fl (K := 4) (j := 5) m0 m1 m2 ⟨by omega, by omega, by decide⟩ (fun s hs hE e => ?_), trivial⟩
  show qcN 0 36 none (tK (tm M) (qps (tm M) s.1 6)) = some 2
  rw [e]
  exact qcN_2 (by omega) (by omega)

-- fn70
theorem cr_159 (M : pM) (s0 s1 s2 s3 s4 : Int) (b0 : 0 ≤ s0 ∧ s0 ≤ 1900) (b1 : 0 ≤ s1 ∧ s1 ≤ 950) (b2 : 0 ≤ s2 ∧ s2 ≤ 1900) (b3 : 0 ≤ s3 ∧ s3 ≤ 1900) (b4 : 0 ≤ s4 ∧ s4 ≤ 9999) (m0 : HP 53 (4096 * s0 + s1) (256 * s2 + 70) M) (m1 : HP 47 (s2) (s4 + 393216) M) (m2 : HP 45 (s2) (s3) M) (f0 : 0 ≤ (s4 - 37)) (hG : gI M) : (HP 66 (s3) (4 : Int) M ∧ True) := by
  refine ⟨r_fl (K := 4) (j := 5) m0 m1 m2 ⟨by omega, by omega, by decide⟩ (fun s hs hE e => ?_), trivial⟩
  show qcN 0 36 none (tK (tm M) (qps (tm M) s.1 6)) = some 4
  rw [e]
  exact qcN_4 (by omega) (Or.inr (by omega))

-- ex70
theorem cr_160 (M : pM) (s0 s1 s2 s3 s4 : Int) (b0 : 0 ≤ s0 ∧ s0 ≤ 1900) (b1 : 0 ≤ s1 ∧ s1 ≤ 950) (b2 : 0 ≤ s2 ∧ s2 ≤ 1900) (b3 : 0 ≤ s3 ∧ s3 ≤ 1900) (b4 : 0 ≤ s4 ∧ s4 ≤ 9999) (m0 : HP 53 (4096 * s0 + s1) (256 * s2 + 70) M) (m1 : HP 47 (s2) (s4 + 393216) M) (m2 : HP 46 (s2) (s3) M) (f0 : 0 ≤ (s4)) (f1 : 0 ≤ ((-1) * s4 + 36)) (hG : gI M) : (HP 53 (4096 * s0 + s1) (256 * s3 + 71) M ∧ HP 79 (16 * s0 + 6) (s4) M ∧ True) := by
  refine ⟨?_, ?_, trivial⟩
  · exact r_ex (K := 4) (j := 5) m0 m1 m2 ⟨by omega, by omega, by decide⟩ (by omega) (by decide) (fun s hs hE e => by
        show qcN 0 36 none (tK (tm M) (qps (tm M) s.1 6)) = none
        rw [e]
        exact qcN_x (by omega) (by omega))
  · exact r_va (P := s0) (l := s1) (K := 4) (j := 5) m0 m1 ⟨by omega, by omega, by omega⟩ ⟨by omega, by omega, by decide⟩ (by omega) (by omega)

-- ex71
theorem cr_161 (M : pM) (s0 s1 s2 s3 : Int) (b0 : 0 ≤ s0 ∧ s0 ≤ 1900) (b1 : 0 ≤ s1 ∧ s1 ≤ 950) (b2 : 0 ≤ s2 ∧ s2 ≤ 1900) (b3 : 0 ≤ s3 ∧ s3 ≤ 1900) (m0 : HP 53 (4096 * s0 + s1) (256 * s2 + 71) M) (m1 : HP 47 (s2) (262151 : Int) M) (m2 : HP 46 (s2) (s3) M) (hG : gI M) : (HP 53 (4096 * s0 + s1) (256 * s3 + 72) M ∧ True) := by
  refine ⟨?_, trivial⟩
  · exact r_ex (K := 4) (j := 6) m0 m1 m2 ⟨by omega, by omega, by decide⟩ (by omega) (by decide) (fun s hs hE e => by
        show qcK 262151 (tK (tm M) (qps (tm M) s.1 7)) = none
        rw [e]
        exact qcK_x (by omega) (by omega))

-- fk71
theorem cr_162 (M : pM) (s0 s1 s2 s3 s4 : Int) (b0 : 0 ≤ s0 ∧ s0 ≤ 1900) (b1 : 0 ≤ s1 ∧ s1 ≤ 950) (b2 : 0 ≤ s2 ∧ s2 ≤ 1900) (b3 : 0 ≤ s3 ∧ s3 ≤ 1900) (b4 : 256 ≤ s4 ∧ s4 ≤ 600000) (m0 : HP 53 (4096 * s0 + s1) (256 * s2 + 71) M) (m1 : HP 47 (s2) (s4) M) (m2 : HP 45 (s2) (s3) M) (f0 : 0 ≤ ((-1) * s4 + 262150)) (hG : gI M) : (HP 66 (s3) (2 : Int) M ∧ True) := by
  refine ⟨r_fl (K := 4) (j := 6) m0 m1 m2 ⟨by omega, by omega, by decide⟩ (fun s hs hE e => ?_), trivial⟩
  show qcK 262151 (tK (tm M) (qps (tm M) s.1 7)) = some 2
  rw [e]
  exact qcK_2 (by omega) (by omega)

-- fl71
theorem cr_163 (M : pM) (s0 s1 s2 s3 s4 : Int) (b0 : 0 ≤ s0 ∧ s0 ≤ 1900) (b1 : 0 ≤ s1 ∧ s1 ≤ 950) (b2 : 0 ≤ s2 ∧ s2 ≤ 1900) (b3 : 0 ≤ s3 ∧ s3 ≤ 1900) (b4 : 256 ≤ s4 ∧ s4 ≤ 600000) (m0 : HP 53 (4096 * s0 + s1) (256 * s2 + 71) M) (m1 : HP 47 (s2) (s4) M) (m2 : HP 45 (s2) (s3) M) (f0 : 0 ≤ (s4 - 262152)) (hG : gI M) : (HP 66 (s3) (2 : Int) M ∧ True) := by
  refine ⟨r_fl (K := 4) (j := 6) m0 m1 m2 ⟨by omega, by omega, by decide⟩ (fun s hs hE e => ?_), trivial⟩
  show qcK 262151 (tK (tm M) (qps (tm M) s.1 7)) = some 2
  rw [e]
  exact qcK_2 (by omega) (by omega)

-- fk72
theorem cr_164 (M : pM) (s0 s1 s2 s3 s4 : Int) (b0 : 0 ≤ s0 ∧ s0 ≤ 1900) (b1 : 0 ≤ s1 ∧ s1 ≤ 950) (b2 : 0 ≤ s2 ∧ s2 ≤ 1900) (b3 : 0 ≤ s3 ∧ s3 ≤ 1900) (b4 : 256 ≤ s4 ∧ s4 ≤ 600000) (m0 : HP 53 (4096 * s0 + s1) (256 * s2 + 72) M) (m1 : HP 47 (s2) (s4) M) (m2 : HP 45 (s2) (s3) M) (f0 : 0 ≤ ((-1) * s4 + 393215)) (hG : gI M) : (HP 66 (s3) (2 : Int) M ∧ True) := by
  refine ⟨r_fl (K := 4) (j := 7) m0 m1 m2 ⟨by omega, by omega, by decide⟩ (fun s hs hE e => ?_), trivial⟩
  show qcN (qvl (tm M) s.1 6 + 1) 36 none (tK (tm M) (qps (tm M) s.1 8)) = some 2
  rw [e]
  exact qcN_2 (by omega) (by omega)

-- fl72
theorem cr_165 (M : pM) (s0 s1 s2 s3 s4 : Int) (b0 : 0 ≤ s0 ∧ s0 ≤ 1900) (b1 : 0 ≤ s1 ∧ s1 ≤ 950) (b2 : 0 ≤ s2 ∧ s2 ≤ 1900) (b3 : 0 ≤ s3 ∧ s3 ≤ 1900) (b4 : 256 ≤ s4 ∧ s4 ≤ 600000) (m0 : HP 53 (4096 * s0 + s1) (256 * s2 + 72) M) (m1 : HP 47 (s2) (s4) M) (m2 : HP 45 (s2) (s3) M) (f0 : 0 ≤ (s4 - 403216)) (hG : gI M) : (HP 66 (s3) (2 : Int) M ∧ True) := by
  refine ⟨r_fl (K := 4) (j := 7) m0 m1 m2 ⟨by omega, by omega, by decide⟩ (fun s hs hE e => ?_), trivial⟩
  show qcN (qvl (tm M) s.1 6 + 1) 36 none (tK (tm M) (qps (tm M) s.1 8)) = some 2
  rw [e]
  exact qcN_2 (by omega) (by omega)

-- fm72
theorem cr_166 (M : pM) (s0 s1 s2 s3 s4 s5 : Int) (b0 : 0 ≤ s0 ∧ s0 ≤ 1900) (b1 : 0 ≤ s1 ∧ s1 ≤ 950) (b2 : 0 ≤ s2 ∧ s2 ≤ 1900) (b3 : 0 ≤ s3 ∧ s3 ≤ 1900) (b4 : 0 ≤ s4 ∧ s4 ≤ 9999) (b5 : 0 ≤ s5 ∧ s5 ≤ 36) (m0 : HP 53 (4096 * s0 + s1) (256 * s2 + 72) M) (m1 : HP 47 (s2) (s4 + 393216) M) (m2 : HP 45 (s2) (s3) M) (m3 : HP 79 (16 * s0 + 6) (s5) M) (f0 : 0 ≤ ((-1) * s4 + s5)) (hG : gI M) : (HP 66 (s3) (4 : Int) M ∧ True) := by
  refine ⟨r_fl (K := 4) (j := 7) m0 m1 m2 ⟨by omega, by omega, by decide⟩ (fun s hs hE e => ?_), trivial⟩
  have hp : s0.toNat = s.1 := by have := qat_p (P := s0) (l := s1) hs ⟨by omega, by omega, by omega⟩; omega
  have hu := q79 (P := s0) (i := 6) m3 ⟨by omega, by decide⟩ (by omega)
  rw [hp] at hu
  show qcN (qvl (tm M) s.1 6 + 1) 36 none (tK (tm M) (qps (tm M) s.1 8)) = some 4
  rw [e]
  exact qcN_4 (by omega) (Or.inl (by omega))

-- fn72
theorem cr_167 (M : pM) (s0 s1 s2 s3 s4 : Int) (b0 : 0 ≤ s0 ∧ s0 ≤ 1900) (b1 : 0 ≤ s1 ∧ s1 ≤ 950) (b2 : 0 ≤ s2 ∧ s2 ≤ 1900) (b3 : 0 ≤ s3 ∧ s3 ≤ 1900) (b4 : 0 ≤ s4 ∧ s4 ≤ 9999) (m0 : HP 53 (4096 * s0 + s1) (256 * s2 + 72) M) (m1 : HP 47 (s2) (s4 + 393216) M) (m2 : HP 45 (s2) (s3) M) (f0 : 0 ≤ (s4 - 37)) (hG : gI M) : (HP 66 (s3) (4 : Int) M ∧ True) := by
  refine ⟨r_fl (K := 4) (j := 7) m0 m1 m2 ⟨by omega, by omega, by decide⟩ (fun s hs hE e => ?_), trivial⟩
  show qcN (qvl (tm M) s.1 6 + 1) 36 none (tK (tm M) (qps (tm M) s.1 8)) = some 4
  rw [e]
  exact qcN_4 (by omega) (Or.inr (by omega))

-- ex72
theorem cr_168 (M : pM) (s0 s1 s2 s3 s4 s5 : Int) (b0 : 0 ≤ s0 ∧ s0 ≤ 1900) (b1 : 0 ≤ s1 ∧ s1 ≤ 950) (b2 : 0 ≤ s2 ∧ s2 ≤ 1900) (b3 : 0 ≤ s3 ∧ s3 ≤ 1900) (b4 : 0 ≤ s4 ∧ s4 ≤ 9999) (b5 : 0 ≤ s5 ∧ s5 ≤ 36) (m0 : HP 53 (4096 * s0 + s1) (256 * s2 + 72) M) (m1 : HP 47 (s2) (s4 + 393216) M) (m2 : HP 46 (s2) (s3) M) (m3 : HP 79 (16 * s0 + 6) (s5) M) (f0 : 0 ≤ (s4 + (-1) * s5 - 1)) (f1 : 0 ≤ ((-1) * s4 + 36)) (hG : gI M) : (HP 53 (4096 * s0 + s1) (256 * s3 + 73) M ∧ HP 79 (16 * s0 + 8) (s4) M ∧ True) := by
  refine ⟨?_, ?_, trivial⟩
  · exact r_ex (K := 4) (j := 7) m0 m1 m2 ⟨by omega, by omega, by decide⟩ (by omega) (by decide) (fun s hs hE e => by
        have hp : s0.toNat = s.1 := by have := qat_p (P := s0) (l := s1) hs ⟨by omega, by omega, by omega⟩; omega
        have hu := q79 (P := s0) (i := 6) m3 ⟨by omega, by decide⟩ (by omega)
        rw [hp] at hu
        show qcN (qvl (tm M) s.1 6 + 1) 36 none (tK (tm M) (qps (tm M) s.1 8)) = none
        rw [e]
        exact qcN_x (by omega) (by omega))
  · exact r_va (P := s0) (l := s1) (K := 4) (j := 7) m0 m1 ⟨by omega, by omega, by omega⟩ ⟨by omega, by omega, by decide⟩ (by omega) (by omega)

-- ln4
theorem cr_169 (M : pM) (s0 s1 s2 : Int) (b0 : 0 ≤ s0 ∧ s0 ≤ 1900) (b1 : 0 ≤ s1 ∧ s1 ≤ 950) (b2 : 0 ≤ s2 ∧ s2 ≤ 1900) (m0 : HP 53 (4096 * s0 + s1) (256 * s2 + 73) M) (hG : gI M) : (HP 89 (4096 * s0 + s1) (s2) M ∧ True) := by
  obtain ⟨s, h1, h2⟩ := ex_o (K := 4) (j := 8) (a := s2) (Eq.mp hp_53 m0) ⟨by omega, by omega, by decide, by decide⟩
  exact ⟨Eq.mpr hp_89 ⟨s, 4, h1, ⟨h2.2.2.1, h2.2.2.2.1⟩, h2.2.2.2.2⟩, trivial⟩

-- fk129
theorem cr_170 (M : pM) (s0 s1 s2 s3 s4 : Int) (b0 : 0 ≤ s0 ∧ s0 ≤ 1900) (b1 : 0 ≤ s1 ∧ s1 ≤ 950) (b2 : 0 ≤ s2 ∧ s2 ≤ 1900) (b3 : 0 ≤ s3 ∧ s3 ≤ 1900) (b4 : 256 ≤ s4 ∧ s4 ≤ 600000) (m0 : HP 53 (4096 * s0 + s1) (256 * s2 + 129) M) (m1 : HP 47 (s2) (s4) M) (m2 : HP 45 (s2) (s3) M) (f0 : 0 ≤ ((-1) * s4 + 393215)) (hG : gI M) : (HP 66 (s3) (2 : Int) M ∧ True) := by
  refine ⟨r_fl (K := 8) (j := 0) m0 m1 m2 ⟨by omega, by omega, by decide⟩ (fun s hs hE e => ?_), trivial⟩
  show qcN 0 7 none (tK (tm M) (qps (tm M) s.1 1)) = some 2
  rw [e]
  exact qcN_2 (by omega) (by omega)

-- fl129
theorem cr_171 (M : pM) (s0 s1 s2 s3 s4 : Int) (b0 : 0 ≤ s0 ∧ s0 ≤ 1900) (b1 : 0 ≤ s1 ∧ s1 ≤ 950) (b2 : 0 ≤ s2 ∧ s2 ≤ 1900) (b3 : 0 ≤ s3 ∧ s3 ≤ 1900) (b4 : 256 ≤ s4 ∧ s4 ≤ 600000) (m0 : HP 53 (4096 * s0 + s1) (256 * s2 + 129) M) (m1 : HP 47 (s2) (s4) M) (m2 : HP 45 (s2) (s3) M) (f0 : 0 ≤ (s4 - 403216)) (hG : gI M) : (HP 66 (s3) (2 : Int) M ∧ True) := by
  refine ⟨r_fl (K := 8) (j := 0) m0 m1 m2 ⟨by omega, by omega, by decide⟩ (fun s hs hE e => ?_), trivial⟩
  show qcN 0 7 none (tK (tm M) (qps (tm M) s.1 1)) = some 2
  rw [e]
  exact qcN_2 (by omega) (by omega)

-- fn129
theorem cr_172 (M : pM) (s0 s1 s2 s3 s4 : Int) (b0 : 0 ≤ s0 ∧ s0 ≤ 1900) (b1 : 0 ≤ s1 ∧ s1 ≤ 950) (b2 : 0 ≤ s2 ∧ s2 ≤ 1900) (b3 : 0 ≤ s3 ∧ s3 ≤ 1900) (b4 : 0 ≤ s4 ∧ s4 ≤ 9999) (m0 : HP 53 (4096 * s0 + s1) (256 * s2 + 129) M) (m1 : HP 47 (s2) (s4 + 393216) M) (m2 : HP 45 (s2) (s3) M) (f0 : 0 ≤ (s4 - 8)) (hG : gI M) : (HP 66 (s3) (4 : Int) M ∧ True) := by
  refine ⟨r_fl (K := 8) (j := 0) m0 m1 m2 ⟨by omega, by omega, by decide⟩ (fun s hs hE e => ?_), trivial⟩
  show qcN 0 7 none (tK (tm M) (qps (tm M) s.1 1)) = some 4
  rw [e]
  exact qcN_4 (by omega) (Or.inr (by omega))

-- ex129
theorem cr_173 (M : pM) (s0 s1 s2 s3 s4 : Int) (b0 : 0 ≤ s0 ∧ s0 ≤ 1900) (b1 : 0 ≤ s1 ∧ s1 ≤ 950) (b2 : 0 ≤ s2 ∧ s2 ≤ 1900) (b3 : 0 ≤ s3 ∧ s3 ≤ 1900) (b4 : 0 ≤ s4 ∧ s4 ≤ 9999) (m0 : HP 53 (4096 * s0 + s1) (256 * s2 + 129) M) (m1 : HP 47 (s2) (s4 + 393216) M) (m2 : HP 46 (s2) (s3) M) (f0 : 0 ≤ (s4)) (f1 : 0 ≤ ((-1) * s4 + 7)) (hG : gI M) : (HP 53 (4096 * s0 + s1) (256 * s3 + 130) M ∧ HP 79 (16 * s0 + 1) (s4) M ∧ True) := by
  refine ⟨?_, ?_, trivial⟩
  · exact r_ex (K := 8) (j := 0) m0 m1 m2 ⟨by omega, by omega, by decide⟩ (by omega) (by decide) (fun s hs hE e => by
        show qcN 0 7 none (tK (tm M) (qps (tm M) s.1 1)) = none
        rw [e]
        exact qcN_x (by omega) (by omega))
  · exact r_va (P := s0) (l := s1) (K := 8) (j := 0) m0 m1 ⟨by omega, by omega, by omega⟩ ⟨by omega, by omega, by decide⟩ (by omega) (by omega)

-- fk130
theorem cr_174 (M : pM) (s0 s1 s2 s3 s4 : Int) (b0 : 0 ≤ s0 ∧ s0 ≤ 1900) (b1 : 0 ≤ s1 ∧ s1 ≤ 950) (b2 : 0 ≤ s2 ∧ s2 ≤ 1900) (b3 : 0 ≤ s3 ∧ s3 ≤ 1900) (b4 : 256 ≤ s4 ∧ s4 ≤ 600000) (m0 : HP 53 (4096 * s0 + s1) (256 * s2 + 130) M) (m1 : HP 47 (s2) (s4) M) (m2 : HP 45 (s2) (s3) M) (f0 : 0 ≤ ((-1) * s4 + 393215)) (hG : gI M) : (HP 66 (s3) (2 : Int) M ∧ True) := by
  refine ⟨r_fl (K := 8) (j := 1) m0 m1 m2 ⟨by omega, by omega, by decide⟩ (fun s hs hE e => ?_), trivial⟩
  show qcN 0 7 (qtd (s.2 17 (qvl (tm M) s.1 1 + 8 * qvl (tm M) s.1 2).toNat)) (tK (tm M) (qps (tm M) s.1 2)) = some 2
  rw [e]
  exact qcN_2 (by omega) (by omega)

-- fl130
theorem cr_175 (M : pM) (s0 s1 s2 s3 s4 : Int) (b0 : 0 ≤ s0 ∧ s0 ≤ 1900) (b1 : 0 ≤ s1 ∧ s1 ≤ 950) (b2 : 0 ≤ s2 ∧ s2 ≤ 1900) (b3 : 0 ≤ s3 ∧ s3 ≤ 1900) (b4 : 256 ≤ s4 ∧ s4 ≤ 600000) (m0 : HP 53 (4096 * s0 + s1) (256 * s2 + 130) M) (m1 : HP 47 (s2) (s4) M) (m2 : HP 45 (s2) (s3) M) (f0 : 0 ≤ (s4 - 403216)) (hG : gI M) : (HP 66 (s3) (2 : Int) M ∧ True) := by
  refine ⟨r_fl (K := 8) (j := 1) m0 m1 m2 ⟨by omega, by omega, by decide⟩ (fun s hs hE e => ?_), trivial⟩
  show qcN 0 7 (qtd (s.2 17 (qvl (tm M) s.1 1 + 8 * qvl (tm M) s.1 2).toNat)) (tK (tm M) (qps (tm M) s.1 2)) = some 2
  rw [e]
  exact qcN_2 (by omega) (by omega)

-- fn130
theorem cr_176 (M : pM) (s0 s1 s2 s3 s4 : Int) (b0 : 0 ≤ s0 ∧ s0 ≤ 1900) (b1 : 0 ≤ s1 ∧ s1 ≤ 950) (b2 : 0 ≤ s2 ∧ s2 ≤ 1900) (b3 : 0 ≤ s3 ∧ s3 ≤ 1900) (b4 : 0 ≤ s4 ∧ s4 ≤ 9999) (m0 : HP 53 (4096 * s0 + s1) (256 * s2 + 130) M) (m1 : HP 47 (s2) (s4 + 393216) M) (m2 : HP 45 (s2) (s3) M) (f0 : 0 ≤ (s4 - 8)) (hG : gI M) : (HP 66 (s3) (4 : Int) M ∧ True) := by
  refine ⟨r_fl (K := 8) (j := 1) m0 m1 m2 ⟨by omega, by omega, by decide⟩ (fun s hs hE e => ?_), trivial⟩
  show qcN 0 7 (qtd (s.2 17 (qvl (tm M) s.1 1 + 8 * qvl (tm M) s.1 2).toNat)) (tK (tm M) (qps (tm M) s.1 2)) = some 4
  rw [e]
  exact qcN_4 (by omega) (Or.inr (by omega))

-- ln8
theorem cr_177 (M : pM) (s0 s1 s2 : Int) (b0 : 0 ≤ s0 ∧ s0 ≤ 1900) (b1 : 0 ≤ s1 ∧ s1 ≤ 950) (b2 : 0 ≤ s2 ∧ s2 ≤ 1900) (m0 : HP 53 (4096 * s0 + s1) (256 * s2 + 131) M) (hG : gI M) : (HP 89 (4096 * s0 + s1) (s2) M ∧ True) := by
  obtain ⟨s, h1, h2⟩ := ex_o (K := 8) (j := 2) (a := s2) (Eq.mp hp_53 m0) ⟨by omega, by omega, by decide, by decide⟩
  exact ⟨Eq.mpr hp_89 ⟨s, 8, h1, ⟨h2.2.2.1, h2.2.2.2.1⟩, h2.2.2.2.2⟩, trivial⟩

-- fk145
theorem cr_178 (M : pM) (s0 s1 s2 s3 s4 : Int) (b0 : 0 ≤ s0 ∧ s0 ≤ 1900) (b1 : 0 ≤ s1 ∧ s1 ≤ 950) (b2 : 0 ≤ s2 ∧ s2 ≤ 1900) (b3 : 0 ≤ s3 ∧ s3 ≤ 1900) (b4 : 256 ≤ s4 ∧ s4 ≤ 600000) (m0 : HP 53 (4096 * s0 + s1) (256 * s2 + 145) M) (m1 : HP 47 (s2) (s4) M) (m2 : HP 45 (s2) (s3) M) (f0 : 0 ≤ ((-1) * s4 + 393215)) (hG : gI M) : (HP 66 (s3) (2 : Int) M ∧ True) := by
  refine ⟨r_fl (K := 9) (j := 0) m0 m1 m2 ⟨by omega, by omega, by decide⟩ (fun s hs hE e => ?_), trivial⟩
  show qcN 0 7 none (tK (tm M) (qps (tm M) s.1 1)) = some 2
  rw [e]
  exact qcN_2 (by omega) (by omega)

-- fl145
theorem cr_179 (M : pM) (s0 s1 s2 s3 s4 : Int) (b0 : 0 ≤ s0 ∧ s0 ≤ 1900) (b1 : 0 ≤ s1 ∧ s1 ≤ 950) (b2 : 0 ≤ s2 ∧ s2 ≤ 1900) (b3 : 0 ≤ s3 ∧ s3 ≤ 1900) (b4 : 256 ≤ s4 ∧ s4 ≤ 600000) (m0 : HP 53 (4096 * s0 + s1) (256 * s2 + 145) M) (m1 : HP 47 (s2) (s4) M) (m2 : HP 45 (s2) (s3) M) (f0 : 0 ≤ (s4 - 403216)) (hG : gI M) : (HP 66 (s3) (2 : Int) M ∧ True) := by
  refine ⟨r_fl (K := 9) (j := 0) m0 m1 m2 ⟨by omega, by omega, by decide⟩ (fun s hs hE e => ?_), trivial⟩
  show qcN 0 7 none (tK (tm M) (qps (tm M) s.1 1)) = some 2
  rw [e]
  exact qcN_2 (by omega) (by omega)

-- fn145
theorem cr_180 (M : pM) (s0 s1 s2 s3 s4 : Int) (b0 : 0 ≤ s0 ∧ s0 ≤ 1900) (b1 : 0 ≤ s1 ∧ s1 ≤ 950) (b2 : 0 ≤ s2 ∧ s2 ≤ 1900) (b3 : 0 ≤ s3 ∧ s3 ≤ 1900) (b4 : 0 ≤ s4 ∧ s4 ≤ 9999) (m0 : HP 53 (4096 * s0 + s1) (256 * s2 + 145) M) (m1 : HP 47 (s2) (s4 + 393216) M) (m2 : HP 45 (s2) (s3) M) (f0 : 0 ≤ (s4 - 8)) (hG : gI M) : (HP 66 (s3) (4 : Int) M ∧ True) := by
  refine ⟨r_fl (K := 9) (j := 0) m0 m1 m2 ⟨by omega, by omega, by decide⟩ (fun s hs hE e => ?_), trivial⟩
  show qcN 0 7 none (tK (tm M) (qps (tm M) s.1 1)) = some 4
  rw [e]
  exact qcN_4 (by omega) (Or.inr (by omega))

-- ex145
theorem cr_181 (M : pM) (s0 s1 s2 s3 s4 : Int) (b0 : 0 ≤ s0 ∧ s0 ≤ 1900) (b1 : 0 ≤ s1 ∧ s1 ≤ 950) (b2 : 0 ≤ s2 ∧ s2 ≤ 1900) (b3 : 0 ≤ s3 ∧ s3 ≤ 1900) (b4 : 0 ≤ s4 ∧ s4 ≤ 9999) (m0 : HP 53 (4096 * s0 + s1) (256 * s2 + 145) M) (m1 : HP 47 (s2) (s4 + 393216) M) (m2 : HP 46 (s2) (s3) M) (f0 : 0 ≤ (s4)) (f1 : 0 ≤ ((-1) * s4 + 7)) (hG : gI M) : (HP 53 (4096 * s0 + s1) (256 * s3 + 146) M ∧ HP 79 (16 * s0 + 1) (s4) M ∧ True) := by
  refine ⟨?_, ?_, trivial⟩
  · exact r_ex (K := 9) (j := 0) m0 m1 m2 ⟨by omega, by omega, by decide⟩ (by omega) (by decide) (fun s hs hE e => by
        show qcN 0 7 none (tK (tm M) (qps (tm M) s.1 1)) = none
        rw [e]
        exact qcN_x (by omega) (by omega))
  · exact r_va (P := s0) (l := s1) (K := 9) (j := 0) m0 m1 ⟨by omega, by omega, by omega⟩ ⟨by omega, by omega, by decide⟩ (by omega) (by omega)

-- fk146
theorem cr_182 (M : pM) (s0 s1 s2 s3 s4 : Int) (b0 : 0 ≤ s0 ∧ s0 ≤ 1900) (b1 : 0 ≤ s1 ∧ s1 ≤ 950) (b2 : 0 ≤ s2 ∧ s2 ≤ 1900) (b3 : 0 ≤ s3 ∧ s3 ≤ 1900) (b4 : 256 ≤ s4 ∧ s4 ≤ 600000) (m0 : HP 53 (4096 * s0 + s1) (256 * s2 + 146) M) (m1 : HP 47 (s2) (s4) M) (m2 : HP 45 (s2) (s3) M) (f0 : 0 ≤ ((-1) * s4 + 393215)) (hG : gI M) : (HP 66 (s3) (2 : Int) M ∧ True) := by
  refine ⟨r_fl (K := 9) (j := 1) m0 m1 m2 ⟨by omega, by omega, by decide⟩ (fun s hs hE e => ?_), trivial⟩
  show qcN 0 7 none (tK (tm M) (qps (tm M) s.1 2)) = some 2
  rw [e]
  exact qcN_2 (by omega) (by omega)

-- fl146
theorem cr_183 (M : pM) (s0 s1 s2 s3 s4 : Int) (b0 : 0 ≤ s0 ∧ s0 ≤ 1900) (b1 : 0 ≤ s1 ∧ s1 ≤ 950) (b2 : 0 ≤ s2 ∧ s2 ≤ 1900) (b3 : 0 ≤ s3 ∧ s3 ≤ 1900) (b4 : 256 ≤ s4 ∧ s4 ≤ 600000) (m0 : HP 53 (4096 * s0 + s1) (256 * s2 + 146) M) (m1 : HP 47 (s2) (s4) M) (m2 : HP 45 (s2) (s3) M) (f0 : 0 ≤ (s4 - 403216)) (hG : gI M) : (HP 66 (s3) (2 : Int) M ∧ True) := by
  refine ⟨r_fl (K := 9) (j := 1) m0 m1 m2 ⟨by omega, by omega, by decide⟩ (fun s hs hE e => ?_), trivial⟩
  show qcN 0 7 none (tK (tm M) (qps (tm M) s.1 2)) = some 2
  rw [e]
  exact qcN_2 (by omega) (by omega)

-- fn146
theorem cr_184 (M : pM) (s0 s1 s2 s3 s4 : Int) (b0 : 0 ≤ s0 ∧ s0 ≤ 1900) (b1 : 0 ≤ s1 ∧ s1 ≤ 950) (b2 : 0 ≤ s2 ∧ s2 ≤ 1900) (b3 : 0 ≤ s3 ∧ s3 ≤ 1900) (b4 : 0 ≤ s4 ∧ s4 ≤ 9999) (m0 : HP 53 (4096 * s0 + s1) (256 * s2 + 146) M) (m1 : HP 47 (s2) (s4 + 393216) M) (m2 : HP 45 (s2) (s3) M) (f0 : 0 ≤ (s4 - 8)) (hG : gI M) : (HP 66 (s3) (4 : Int) M ∧ True) := by
  refine ⟨r_fl (K := 9) (j := 1) m0 m1 m2 ⟨by omega, by omega, by decide⟩ (fun s hs hE e => ?_), trivial⟩
  show qcN 0 7 none (tK (tm M) (qps (tm M) s.1 2)) = some 4
  rw [e]
  exact qcN_4 (by omega) (Or.inr (by omega))

-- ex146
theorem cr_185 (M : pM) (s0 s1 s2 s3 s4 : Int) (b0 : 0 ≤ s0 ∧ s0 ≤ 1900) (b1 : 0 ≤ s1 ∧ s1 ≤ 950) (b2 : 0 ≤ s2 ∧ s2 ≤ 1900) (b3 : 0 ≤ s3 ∧ s3 ≤ 1900) (b4 : 0 ≤ s4 ∧ s4 ≤ 9999) (m0 : HP 53 (4096 * s0 + s1) (256 * s2 + 146) M) (m1 : HP 47 (s2) (s4 + 393216) M) (m2 : HP 46 (s2) (s3) M) (f0 : 0 ≤ (s4)) (f1 : 0 ≤ ((-1) * s4 + 7)) (hG : gI M) : (HP 53 (4096 * s0 + s1) (256 * s3 + 147) M ∧ HP 79 (16 * s0 + 2) (s4) M ∧ True) := by
  refine ⟨?_, ?_, trivial⟩
  · exact r_ex (K := 9) (j := 1) m0 m1 m2 ⟨by omega, by omega, by decide⟩ (by omega) (by decide) (fun s hs hE e => by
        show qcN 0 7 none (tK (tm M) (qps (tm M) s.1 2)) = none
        rw [e]
        exact qcN_x (by omega) (by omega))
  · exact r_va (P := s0) (l := s1) (K := 9) (j := 1) m0 m1 ⟨by omega, by omega, by omega⟩ ⟨by omega, by omega, by decide⟩ (by omega) (by omega)

-- fk147
theorem cr_186 (M : pM) (s0 s1 s2 s3 s4 : Int) (b0 : 0 ≤ s0 ∧ s0 ≤ 1900) (b1 : 0 ≤ s1 ∧ s1 ≤ 950) (b2 : 0 ≤ s2 ∧ s2 ≤ 1900) (b3 : 0 ≤ s3 ∧ s3 ≤ 1900) (b4 : 256 ≤ s4 ∧ s4 ≤ 600000) (m0 : HP 53 (4096 * s0 + s1) (256 * s2 + 147) M) (m1 : HP 47 (s2) (s4) M) (m2 : HP 45 (s2) (s3) M) (f0 : 0 ≤ ((-1) * s4 + 393215)) (hG : gI M) : (HP 66 (s3) (2 : Int) M ∧ True) := by
  refine ⟨r_fl (K := 9) (j := 2) m0 m1 m2 ⟨by omega, by omega, by decide⟩ (fun s hs hE e => ?_), trivial⟩
  show qcN 0 7 none (tK (tm M) (qps (tm M) s.1 3)) = some 2
  rw [e]
  exact qcN_2 (by omega) (by omega)

-- fl147
theorem cr_187 (M : pM) (s0 s1 s2 s3 s4 : Int) (b0 : 0 ≤ s0 ∧ s0 ≤ 1900) (b1 : 0 ≤ s1 ∧ s1 ≤ 950) (b2 : 0 ≤ s2 ∧ s2 ≤ 1900) (b3 : 0 ≤ s3 ∧ s3 ≤ 1900) (b4 : 256 ≤ s4 ∧ s4 ≤ 600000) (m0 : HP 53 (4096 * s0 + s1) (256 * s2 + 147) M) (m1 : HP 47 (s2) (s4) M) (m2 : HP 45 (s2) (s3) M) (f0 : 0 ≤ (s4 - 403216)) (hG : gI M) : (HP 66 (s3) (2 : Int) M ∧ True) := by
  refine ⟨r_fl (K := 9) (j := 2) m0 m1 m2 ⟨by omega, by omega, by decide⟩ (fun s hs hE e => ?_), trivial⟩
  show qcN 0 7 none (tK (tm M) (qps (tm M) s.1 3)) = some 2
  rw [e]
  exact qcN_2 (by omega) (by omega)

-- fn147
theorem cr_188 (M : pM) (s0 s1 s2 s3 s4 : Int) (b0 : 0 ≤ s0 ∧ s0 ≤ 1900) (b1 : 0 ≤ s1 ∧ s1 ≤ 950) (b2 : 0 ≤ s2 ∧ s2 ≤ 1900) (b3 : 0 ≤ s3 ∧ s3 ≤ 1900) (b4 : 0 ≤ s4 ∧ s4 ≤ 9999) (m0 : HP 53 (4096 * s0 + s1) (256 * s2 + 147) M) (m1 : HP 47 (s2) (s4 + 393216) M) (m2 : HP 45 (s2) (s3) M) (f0 : 0 ≤ (s4 - 8)) (hG : gI M) : (HP 66 (s3) (4 : Int) M ∧ True) := by
  refine ⟨r_fl (K := 9) (j := 2) m0 m1 m2 ⟨by omega, by omega, by decide⟩ (fun s hs hE e => ?_), trivial⟩
  show qcN 0 7 none (tK (tm M) (qps (tm M) s.1 3)) = some 4
  rw [e]
  exact qcN_4 (by omega) (Or.inr (by omega))

-- ex147
theorem cr_189 (M : pM) (s0 s1 s2 s3 s4 : Int) (b0 : 0 ≤ s0 ∧ s0 ≤ 1900) (b1 : 0 ≤ s1 ∧ s1 ≤ 950) (b2 : 0 ≤ s2 ∧ s2 ≤ 1900) (b3 : 0 ≤ s3 ∧ s3 ≤ 1900) (b4 : 0 ≤ s4 ∧ s4 ≤ 9999) (m0 : HP 53 (4096 * s0 + s1) (256 * s2 + 147) M) (m1 : HP 47 (s2) (s4 + 393216) M) (m2 : HP 46 (s2) (s3) M) (f0 : 0 ≤ (s4)) (f1 : 0 ≤ ((-1) * s4 + 7)) (hG : gI M) : (HP 53 (4096 * s0 + s1) (256 * s3 + 148) M ∧ HP 79 (16 * s0 + 3) (s4) M ∧ True) := by
  refine ⟨?_, ?_, trivial⟩
  · exact r_ex (K := 9) (j := 2) m0 m1 m2 ⟨by omega, by omega, by decide⟩ (by omega) (by decide) (fun s hs hE e => by
        show qcN 0 7 none (tK (tm M) (qps (tm M) s.1 3)) = none
        rw [e]
        exact qcN_x (by omega) (by omega))
  · exact r_va (P := s0) (l := s1) (K := 9) (j := 2) m0 m1 ⟨by omega, by omega, by omega⟩ ⟨by omega, by omega, by decide⟩ (by omega) (by omega)

-- fk148
theorem cr_190 (M : pM) (s0 s1 s2 s3 s4 : Int) (b0 : 0 ≤ s0 ∧ s0 ≤ 1900) (b1 : 0 ≤ s1 ∧ s1 ≤ 950) (b2 : 0 ≤ s2 ∧ s2 ≤ 1900) (b3 : 0 ≤ s3 ∧ s3 ≤ 1900) (b4 : 256 ≤ s4 ∧ s4 ≤ 600000) (m0 : HP 53 (4096 * s0 + s1) (256 * s2 + 148) M) (m1 : HP 47 (s2) (s4) M) (m2 : HP 45 (s2) (s3) M) (f0 : 0 ≤ ((-1) * s4 + 393215)) (hG : gI M) : (HP 66 (s3) (2 : Int) M ∧ True) := by
  refine ⟨r_fl (K := 9) (j := 3) m0 m1 m2 ⟨by omega, by omega, by decide⟩ (fun s hs hE e => ?_), trivial⟩
  show qcN 0 7 (if qvl (tm M) s.1 3 + 8 * qvl (tm M) s.1 4 = qvl (tm M) s.1 1 + 8 * qvl (tm M) s.1 2 then some 5 else none) (tK (tm M) (qps (tm M) s.1 4)) = some 2
  rw [e]
  exact qcN_2 (by omega) (by omega)

-- fl148
theorem cr_191 (M : pM) (s0 s1 s2 s3 s4 : Int) (b0 : 0 ≤ s0 ∧ s0 ≤ 1900) (b1 : 0 ≤ s1 ∧ s1 ≤ 950) (b2 : 0 ≤ s2 ∧ s2 ≤ 1900) (b3 : 0 ≤ s3 ∧ s3 ≤ 1900) (b4 : 256 ≤ s4 ∧ s4 ≤ 600000) (m0 : HP 53 (4096 * s0 + s1) (256 * s2 + 148) M) (m1 : HP 47 (s2) (s4) M) (m2 : HP 45 (s2) (s3) M) (f0 : 0 ≤ (s4 - 403216)) (hG : gI M) : (HP 66 (s3) (2 : Int) M ∧ True) := by
  refine ⟨r_fl (K := 9) (j := 3) m0 m1 m2 ⟨by omega, by omega, by decide⟩ (fun s hs hE e => ?_), trivial⟩
  show qcN 0 7 (if qvl (tm M) s.1 3 + 8 * qvl (tm M) s.1 4 = qvl (tm M) s.1 1 + 8 * qvl (tm M) s.1 2 then some 5 else none) (tK (tm M) (qps (tm M) s.1 4)) = some 2
  rw [e]
  exact qcN_2 (by omega) (by omega)

-- fn148
theorem cr_192 (M : pM) (s0 s1 s2 s3 s4 : Int) (b0 : 0 ≤ s0 ∧ s0 ≤ 1900) (b1 : 0 ≤ s1 ∧ s1 ≤ 950) (b2 : 0 ≤ s2 ∧ s2 ≤ 1900) (b3 : 0 ≤ s3 ∧ s3 ≤ 1900) (b4 : 0 ≤ s4 ∧ s4 ≤ 9999) (m0 : HP 53 (4096 * s0 + s1) (256 * s2 + 148) M) (m1 : HP 47 (s2) (s4 + 393216) M) (m2 : HP 45 (s2) (s3) M) (f0 : 0 ≤ (s4 - 8)) (hG : gI M) : (HP 66 (s3) (4 : Int) M ∧ True) := by
  refine ⟨r_fl (K := 9) (j := 3) m0 m1 m2 ⟨by omega, by omega, by decide⟩ (fun s hs hE e => ?_), trivial⟩
  show qcN 0 7 (if qvl (tm M) s.1 3 + 8 * qvl (tm M) s.1 4 = qvl (tm M) s.1 1 + 8 * qvl (tm M) s.1 2 then some 5 else none) (tK (tm M) (qps (tm M) s.1 4)) = some 4
  rw [e]
  exact qcN_4 (by omega) (Or.inr (by omega))

-- ex148_0
theorem cr_193 (M : pM) (s0 s1 s2 s3 s4 s5 s6 s7 : Int) (b0 : 0 ≤ s0 ∧ s0 ≤ 1900) (b1 : 0 ≤ s1 ∧ s1 ≤ 950) (b2 : 0 ≤ s2 ∧ s2 ≤ 1900) (b3 : 0 ≤ s3 ∧ s3 ≤ 1900) (b4 : 0 ≤ s4 ∧ s4 ≤ 7) (b5 : 0 ≤ s5 ∧ s5 ≤ 7) (b6 : 0 ≤ s6 ∧ s6 ≤ 7) (b7 : 0 ≤ s7 ∧ s7 ≤ 7) (m0 : HP 53 (4096 * s0 + s1) (256 * s2 + 148) M) (m1 : HP 47 (s2) (s4 + 393216) M) (m2 : HP 46 (s2) (s3) M) (m3 : HP 79 (16 * s0 + 1) (s5) M) (m4 : HP 79 (16 * s0 + 2) (s6) M) (m5 : HP 79 (16 * s0 + 3) (s7) M) (f0 : 0 ≤ ((-8) * s4 + s5 + 8 * s6 + (-1) * s7 - 1)) (hG : gI M) : (HP 53 (4096 * s0 + s1) (256 * s3 + 149) M ∧ HP 79 (16 * s0 + 4) (s4) M ∧ True) := by
  have hc : ∀ s : Nat × pM, qat (tm M) (4096 * s0 + s1) s → tK (tm M) (qps (tm M) s.1 4) = (s4 + 393216) → qck (tm M) s.1 s.2 9 4 = none := by
    intro s hs e
    have hp : s0.toNat = s.1 := by have := qat_p (P := s0) (l := s1) hs ⟨by omega, by omega, by omega⟩; omega
    have e1 := q79 (P := s0) (i := 1) m3 ⟨by omega, by decide⟩ (by omega)
    have e2 := q79 (P := s0) (i := 2) m4 ⟨by omega, by decide⟩ (by omega)
    have e3 := q79 (P := s0) (i := 3) m5 ⟨by omega, by decide⟩ (by omega)
    rw [hp] at e1 e2 e3
    have e4 : qvl (tm M) s.1 4 = s4 := by unfold qvl; omega
    show qcN 0 7 (if qvl (tm M) s.1 3 + 8 * qvl (tm M) s.1 4 = qvl (tm M) s.1 1 + 8 * qvl (tm M) s.1 2 then some 5 else none) (tK (tm M) (qps (tm M) s.1 4)) = _
    rw [e, qcN_x (by omega) (by omega)]
    exact if_neg (by omega)
  exact ⟨r_ex (K := 9) (j := 3) m0 m1 m2 ⟨by omega, by omega, by decide⟩ (by omega) (by decide) (fun s hs hE e => hc s hs e), r_va (P := s0) (l := s1) (K := 9) (j := 3) m0 m1 ⟨by omega, by omega, by omega⟩ ⟨by omega, by omega, by decide⟩ (by omega) (by omega), trivial⟩

-- ex148_1
theorem cr_194 (M : pM) (s0 s1 s2 s3 s4 s5 s6 s7 : Int) (b0 : 0 ≤ s0 ∧ s0 ≤ 1900) (b1 : 0 ≤ s1 ∧ s1 ≤ 950) (b2 : 0 ≤ s2 ∧ s2 ≤ 1900) (b3 : 0 ≤ s3 ∧ s3 ≤ 1900) (b4 : 0 ≤ s4 ∧ s4 ≤ 7) (b5 : 0 ≤ s5 ∧ s5 ≤ 7) (b6 : 0 ≤ s6 ∧ s6 ≤ 7) (b7 : 0 ≤ s7 ∧ s7 ≤ 7) (m0 : HP 53 (4096 * s0 + s1) (256 * s2 + 148) M) (m1 : HP 47 (s2) (s4 + 393216) M) (m2 : HP 46 (s2) (s3) M) (m3 : HP 79 (16 * s0 + 1) (s5) M) (m4 : HP 79 (16 * s0 + 2) (s6) M) (m5 : HP 79 (16 * s0 + 3) (s7) M) (f0 : 0 ≤ (8 * s4 + (-1) * s5 + (-8) * s6 + s7 - 1)) (hG : gI M) : (HP 53 (4096 * s0 + s1) (256 * s3 + 149) M ∧ HP 79 (16 * s0 + 4) (s4) M ∧ True) := by
  have hc : ∀ s : Nat × pM, qat (tm M) (4096 * s0 + s1) s → tK (tm M) (qps (tm M) s.1 4) = (s4 + 393216) → qck (tm M) s.1 s.2 9 4 = none := by
    intro s hs e
    have hp : s0.toNat = s.1 := by have := qat_p (P := s0) (l := s1) hs ⟨by omega, by omega, by omega⟩; omega
    have e1 := q79 (P := s0) (i := 1) m3 ⟨by omega, by decide⟩ (by omega)
    have e2 := q79 (P := s0) (i := 2) m4 ⟨by omega, by decide⟩ (by omega)
    have e3 := q79 (P := s0) (i := 3) m5 ⟨by omega, by decide⟩ (by omega)
    rw [hp] at e1 e2 e3
    have e4 : qvl (tm M) s.1 4 = s4 := by unfold qvl; omega
    show qcN 0 7 (if qvl (tm M) s.1 3 + 8 * qvl (tm M) s.1 4 = qvl (tm M) s.1 1 + 8 * qvl (tm M) s.1 2 then some 5 else none) (tK (tm M) (qps (tm M) s.1 4)) = _
    rw [e, qcN_x (by omega) (by omega)]
    exact if_neg (by omega)
  exact ⟨r_ex (K := 9) (j := 3) m0 m1 m2 ⟨by omega, by omega, by decide⟩ (by omega) (by decide) (fun s hs hE e => hc s hs e), r_va (P := s0) (l := s1) (K := 9) (j := 3) m0 m1 ⟨by omega, by omega, by omega⟩ ⟨by omega, by omega, by decide⟩ (by omega) (by omega), trivial⟩

-- same
theorem cr_195 (M : pM) (s0 s1 s2 s3 s4 s5 s6 s7 : Int) (b0 : 0 ≤ s0 ∧ s0 ≤ 1900) (b1 : 0 ≤ s1 ∧ s1 ≤ 950) (b2 : 0 ≤ s2 ∧ s2 ≤ 1900) (b3 : 0 ≤ s3 ∧ s3 ≤ 1900) (b4 : 0 ≤ s4 ∧ s4 ≤ 7) (b5 : 0 ≤ s5 ∧ s5 ≤ 7) (b6 : 0 ≤ s6 ∧ s6 ≤ 7) (b7 : 0 ≤ s7 ∧ s7 ≤ 7) (m0 : HP 53 (4096 * s0 + s1) (256 * s2 + 148) M) (m1 : HP 47 (s2) (s4 + 393216) M) (m2 : HP 45 (s2) (s3) M) (m3 : HP 79 (16 * s0 + 1) (s5) M) (m4 : HP 79 (16 * s0 + 2) (s6) M) (m5 : HP 79 (16 * s0 + 3) (s7) M) (f0 : 0 ≤ ((-8) * s4 + s5 + 8 * s6 + (-1) * s7)) (f1 : 0 ≤ (8 * s4 + (-1) * s5 + (-8) * s6 + s7)) (hG : gI M) : (HP 66 (s3) (5 : Int) M ∧ True) := by
  have hc : ∀ s : Nat × pM, qat (tm M) (4096 * s0 + s1) s → tK (tm M) (qps (tm M) s.1 4) = (s4 + 393216) → qck (tm M) s.1 s.2 9 4 = some 5 := by
    intro s hs e
    have hp : s0.toNat = s.1 := by have := qat_p (P := s0) (l := s1) hs ⟨by omega, by omega, by omega⟩; omega
    have e1 := q79 (P := s0) (i := 1) m3 ⟨by omega, by decide⟩ (by omega)
    have e2 := q79 (P := s0) (i := 2) m4 ⟨by omega, by decide⟩ (by omega)
    have e3 := q79 (P := s0) (i := 3) m5 ⟨by omega, by decide⟩ (by omega)
    rw [hp] at e1 e2 e3
    have e4 : qvl (tm M) s.1 4 = s4 := by unfold qvl; omega
    show qcN 0 7 (if qvl (tm M) s.1 3 + 8 * qvl (tm M) s.1 4 = qvl (tm M) s.1 1 + 8 * qvl (tm M) s.1 2 then some 5 else none) (tK (tm M) (qps (tm M) s.1 4)) = _
    rw [e, qcN_x (by omega) (by omega)]
    exact if_pos (by omega)
  exact ⟨r_fl (K := 9) (j := 3) m0 m1 m2 ⟨by omega, by omega, by decide⟩ (fun s hs hE e => hc s hs e), trivial⟩

-- fk149
theorem cr_196 (M : pM) (s0 s1 s2 s3 s4 : Int) (b0 : 0 ≤ s0 ∧ s0 ≤ 1900) (b1 : 0 ≤ s1 ∧ s1 ≤ 950) (b2 : 0 ≤ s2 ∧ s2 ≤ 1900) (b3 : 0 ≤ s3 ∧ s3 ≤ 1900) (b4 : 256 ≤ s4 ∧ s4 ≤ 600000) (m0 : HP 53 (4096 * s0 + s1) (256 * s2 + 149) M) (m1 : HP 47 (s2) (s4) M) (m2 : HP 45 (s2) (s3) M) (f0 : 0 ≤ ((-1) * s4 + 393215)) (hG : gI M) : (HP 66 (s3) (2 : Int) M ∧ True) := by
  refine ⟨r_fl (K := 9) (j := 4) m0 m1 m2 ⟨by omega, by omega, by decide⟩ (fun s hs hE e => ?_), trivial⟩
  show qcN 1 99 none (tK (tm M) (qps (tm M) s.1 5)) = some 2
  rw [e]
  exact qcN_2 (by omega) (by omega)

-- fl149
theorem cr_197 (M : pM) (s0 s1 s2 s3 s4 : Int) (b0 : 0 ≤ s0 ∧ s0 ≤ 1900) (b1 : 0 ≤ s1 ∧ s1 ≤ 950) (b2 : 0 ≤ s2 ∧ s2 ≤ 1900) (b3 : 0 ≤ s3 ∧ s3 ≤ 1900) (b4 : 256 ≤ s4 ∧ s4 ≤ 600000) (m0 : HP 53 (4096 * s0 + s1) (256 * s2 + 149) M) (m1 : HP 47 (s2) (s4) M) (m2 : HP 45 (s2) (s3) M) (f0 : 0 ≤ (s4 - 403216)) (hG : gI M) : (HP 66 (s3) (2 : Int) M ∧ True) := by
  refine ⟨r_fl (K := 9) (j := 4) m0 m1 m2 ⟨by omega, by omega, by decide⟩ (fun s hs hE e => ?_), trivial⟩
  show qcN 1 99 none (tK (tm M) (qps (tm M) s.1 5)) = some 2
  rw [e]
  exact qcN_2 (by omega) (by omega)

-- fm149
theorem cr_198 (M : pM) (s0 s1 s2 s3 s4 : Int) (b0 : 0 ≤ s0 ∧ s0 ≤ 1900) (b1 : 0 ≤ s1 ∧ s1 ≤ 950) (b2 : 0 ≤ s2 ∧ s2 ≤ 1900) (b3 : 0 ≤ s3 ∧ s3 ≤ 1900) (b4 : 0 ≤ s4 ∧ s4 ≤ 9999) (m0 : HP 53 (4096 * s0 + s1) (256 * s2 + 149) M) (m1 : HP 47 (s2) (s4 + 393216) M) (m2 : HP 45 (s2) (s3) M) (f0 : 0 ≤ ((-1) * s4)) (hG : gI M) : (HP 66 (s3) (4 : Int) M ∧ True) := by
  refine ⟨r_fl (K := 9) (j := 4) m0 m1 m2 ⟨by omega, by omega, by decide⟩ (fun s hs hE e => ?_), trivial⟩
  show qcN 1 99 none (tK (tm M) (qps (tm M) s.1 5)) = some 4
  rw [e]
  exact qcN_4 (by omega) (Or.inl (by omega))

-- fn149
theorem cr_199 (M : pM) (s0 s1 s2 s3 s4 : Int) (b0 : 0 ≤ s0 ∧ s0 ≤ 1900) (b1 : 0 ≤ s1 ∧ s1 ≤ 950) (b2 : 0 ≤ s2 ∧ s2 ≤ 1900) (b3 : 0 ≤ s3 ∧ s3 ≤ 1900) (b4 : 0 ≤ s4 ∧ s4 ≤ 9999) (m0 : HP 53 (4096 * s0 + s1) (256 * s2 + 149) M) (m1 : HP 47 (s2) (s4 + 393216) M) (m2 : HP 45 (s2) (s3) M) (f0 : 0 ≤ (s4 - 100)) (hG : gI M) : (HP 66 (s3) (4 : Int) M ∧ True) := by
  refine ⟨r_fl (K := 9) (j := 4) m0 m1 m2 ⟨by omega, by omega, by decide⟩ (fun s hs hE e => ?_), trivial⟩
  show qcN 1 99 none (tK (tm M) (qps (tm M) s.1 5)) = some 4
  rw [e]
  exact qcN_4 (by omega) (Or.inr (by omega))

-- ex149
theorem cr_200 (M : pM) (s0 s1 s2 s3 s4 : Int) (b0 : 0 ≤ s0 ∧ s0 ≤ 1900) (b1 : 0 ≤ s1 ∧ s1 ≤ 950) (b2 : 0 ≤ s2 ∧ s2 ≤ 1900) (b3 : 0 ≤ s3 ∧ s3 ≤ 1900) (b4 : 0 ≤ s4 ∧ s4 ≤ 9999) (m0 : HP 53 (4096 * s0 + s1) (256 * s2 + 149) M) (m1 : HP 47 (s2) (s4 + 393216) M) (m2 : HP 46 (s2) (s3) M) (f0 : 0 ≤ (s4 - 1)) (f1 : 0 ≤ ((-1) * s4 + 99)) (hG : gI M) : (HP 53 (4096 * s0 + s1) (256 * s3 + 150) M ∧ HP 79 (16 * s0 + 5) (s4) M ∧ True) := by
  refine ⟨?_, ?_, trivial⟩
  · exact r_ex (K := 9) (j := 4) m0 m1 m2 ⟨by omega, by omega, by decide⟩ (by omega) (by decide) (fun s hs hE e => by
        show qcN 1 99 none (tK (tm M) (qps (tm M) s.1 5)) = none
        rw [e]
        exact qcN_x (by omega) (by omega))
  · exact r_va (P := s0) (l := s1) (K := 9) (j := 4) m0 m1 ⟨by omega, by omega, by omega⟩ ⟨by omega, by omega, by decide⟩ (by omega) (by omega)

-- ln9
theorem cr_201 (M : pM) (s0 s1 s2 : Int) (b0 : 0 ≤ s0 ∧ s0 ≤ 1900) (b1 : 0 ≤ s1 ∧ s1 ≤ 950) (b2 : 0 ≤ s2 ∧ s2 ≤ 1900) (m0 : HP 53 (4096 * s0 + s1) (256 * s2 + 150) M) (hG : gI M) : (HP 89 (4096 * s0 + s1) (s2) M ∧ True) := by
  obtain ⟨s, h1, h2⟩ := ex_o (K := 9) (j := 5) (a := s2) (Eq.mp hp_53 m0) ⟨by omega, by omega, by decide, by decide⟩
  exact ⟨Eq.mpr hp_89 ⟨s, 9, h1, ⟨h2.2.2.1, h2.2.2.2.1⟩, h2.2.2.2.2⟩, trivial⟩

-- fk161
theorem cr_202 (M : pM) (s0 s1 s2 s3 s4 : Int) (b0 : 0 ≤ s0 ∧ s0 ≤ 1900) (b1 : 0 ≤ s1 ∧ s1 ≤ 950) (b2 : 0 ≤ s2 ∧ s2 ≤ 1900) (b3 : 0 ≤ s3 ∧ s3 ≤ 1900) (b4 : 256 ≤ s4 ∧ s4 ≤ 600000) (m0 : HP 53 (4096 * s0 + s1) (256 * s2 + 161) M) (m1 : HP 47 (s2) (s4) M) (m2 : HP 45 (s2) (s3) M) (f0 : 0 ≤ ((-1) * s4 + 262142)) (hG : gI M) : (HP 66 (s3) (2 : Int) M ∧ True) := by
  refine ⟨r_fl (K := 10) (j := 0) m0 m1 m2 ⟨by omega, by omega, by decide⟩ (fun s hs hE e => ?_), trivial⟩
  show (if (tK (tm M) (qps (tm M) s.1 1)) ≤ 255 then some 1 else if (tK (tm M) (qps (tm M) s.1 1)) = 262143 then (if qtn (tm M) s.1 s.2 = true then some 3 else none) else some 2) = some 2
  rw [e]
  rw [if_neg (by omega), if_neg (by omega)]

-- fl161
theorem cr_203 (M : pM) (s0 s1 s2 s3 s4 : Int) (b0 : 0 ≤ s0 ∧ s0 ≤ 1900) (b1 : 0 ≤ s1 ∧ s1 ≤ 950) (b2 : 0 ≤ s2 ∧ s2 ≤ 1900) (b3 : 0 ≤ s3 ∧ s3 ≤ 1900) (b4 : 256 ≤ s4 ∧ s4 ≤ 600000) (m0 : HP 53 (4096 * s0 + s1) (256 * s2 + 161) M) (m1 : HP 47 (s2) (s4) M) (m2 : HP 45 (s2) (s3) M) (f0 : 0 ≤ (s4 - 262144)) (hG : gI M) : (HP 66 (s3) (2 : Int) M ∧ True) := by
  refine ⟨r_fl (K := 10) (j := 0) m0 m1 m2 ⟨by omega, by omega, by decide⟩ (fun s hs hE e => ?_), trivial⟩
  show (if (tK (tm M) (qps (tm M) s.1 1)) ≤ 255 then some 1 else if (tK (tm M) (qps (tm M) s.1 1)) = 262143 then (if qtn (tm M) s.1 s.2 = true then some 3 else none) else some 2) = some 2
  rw [e]
  rw [if_neg (by omega), if_neg (by omega)]

-- ex162
theorem cr_204 (M : pM) (s0 s1 s2 s3 : Int) (b0 : 0 ≤ s0 ∧ s0 ≤ 1900) (b1 : 0 ≤ s1 ∧ s1 ≤ 950) (b2 : 0 ≤ s2 ∧ s2 ≤ 1900) (b3 : 0 ≤ s3 ∧ s3 ≤ 1900) (m0 : HP 53 (4096 * s0 + s1) (256 * s2 + 162) M) (m1 : HP 47 (s2) (262155 : Int) M) (m2 : HP 46 (s2) (s3) M) (hG : gI M) : (HP 53 (4096 * s0 + s1) (256 * s3 + 163) M ∧ True) := by
  refine ⟨?_, trivial⟩
  · exact r_ex (K := 10) (j := 1) m0 m1 m2 ⟨by omega, by omega, by decide⟩ (by omega) (by decide) (fun s hs hE e => by
        show qcK 262155 (tK (tm M) (qps (tm M) s.1 2)) = none
        rw [e]
        exact qcK_x (by omega) (by omega))

-- fk162
theorem cr_205 (M : pM) (s0 s1 s2 s3 s4 : Int) (b0 : 0 ≤ s0 ∧ s0 ≤ 1900) (b1 : 0 ≤ s1 ∧ s1 ≤ 950) (b2 : 0 ≤ s2 ∧ s2 ≤ 1900) (b3 : 0 ≤ s3 ∧ s3 ≤ 1900) (b4 : 256 ≤ s4 ∧ s4 ≤ 600000) (m0 : HP 53 (4096 * s0 + s1) (256 * s2 + 162) M) (m1 : HP 47 (s2) (s4) M) (m2 : HP 45 (s2) (s3) M) (f0 : 0 ≤ ((-1) * s4 + 262154)) (hG : gI M) : (HP 66 (s3) (2 : Int) M ∧ True) := by
  refine ⟨r_fl (K := 10) (j := 1) m0 m1 m2 ⟨by omega, by omega, by decide⟩ (fun s hs hE e => ?_), trivial⟩
  show qcK 262155 (tK (tm M) (qps (tm M) s.1 2)) = some 2
  rw [e]
  exact qcK_2 (by omega) (by omega)

-- fl162
theorem cr_206 (M : pM) (s0 s1 s2 s3 s4 : Int) (b0 : 0 ≤ s0 ∧ s0 ≤ 1900) (b1 : 0 ≤ s1 ∧ s1 ≤ 950) (b2 : 0 ≤ s2 ∧ s2 ≤ 1900) (b3 : 0 ≤ s3 ∧ s3 ≤ 1900) (b4 : 256 ≤ s4 ∧ s4 ≤ 600000) (m0 : HP 53 (4096 * s0 + s1) (256 * s2 + 162) M) (m1 : HP 47 (s2) (s4) M) (m2 : HP 45 (s2) (s3) M) (f0 : 0 ≤ (s4 - 262156)) (hG : gI M) : (HP 66 (s3) (2 : Int) M ∧ True) := by
  refine ⟨r_fl (K := 10) (j := 1) m0 m1 m2 ⟨by omega, by omega, by decide⟩ (fun s hs hE e => ?_), trivial⟩
  show qcK 262155 (tK (tm M) (qps (tm M) s.1 2)) = some 2
  rw [e]
  exact qcK_2 (by omega) (by omega)

-- fk163
theorem cr_207 (M : pM) (s0 s1 s2 s3 s4 s5 : Int) (b0 : 0 ≤ s0 ∧ s0 ≤ 1900) (b1 : 0 ≤ s1 ∧ s1 ≤ 950) (b2 : 0 ≤ s2 ∧ s2 ≤ 1900) (b3 : 0 ≤ s3 ∧ s3 ≤ 1900) (b4 : 256 ≤ s4 ∧ s4 ≤ 600000) (b5 : 0 ≤ s5 ∧ s5 ≤ 3) (m0 : HP 53 (4096 * s0 + s1) (256 * s2 + s5 + 163) M) (m1 : HP 47 (s2) (s4) M) (m2 : HP 45 (s2) (s3) M) (f0 : 0 ≤ ((-1) * s4 + 393215)) (hG : gI M) : (HP 66 (s3) (2 : Int) M ∧ True) := by
  refine ⟨r_fl (K := 10) (j := 2 + s5.toNat) m0 m1 m2 ⟨by omega, by omega, by decide⟩ (fun s hs hE e => ?_), trivial⟩
  rw [qck_S (by omega) (by omega), e]
  exact qcN_2 (by omega) (by omega)

-- fl163
theorem cr_208 (M : pM) (s0 s1 s2 s3 s4 s5 : Int) (b0 : 0 ≤ s0 ∧ s0 ≤ 1900) (b1 : 0 ≤ s1 ∧ s1 ≤ 950) (b2 : 0 ≤ s2 ∧ s2 ≤ 1900) (b3 : 0 ≤ s3 ∧ s3 ≤ 1900) (b4 : 256 ≤ s4 ∧ s4 ≤ 600000) (b5 : 0 ≤ s5 ∧ s5 ≤ 3) (m0 : HP 53 (4096 * s0 + s1) (256 * s2 + s5 + 163) M) (m1 : HP 47 (s2) (s4) M) (m2 : HP 45 (s2) (s3) M) (f0 : 0 ≤ (s4 - 403216)) (hG : gI M) : (HP 66 (s3) (2 : Int) M ∧ True) := by
  refine ⟨r_fl (K := 10) (j := 2 + s5.toNat) m0 m1 m2 ⟨by omega, by omega, by decide⟩ (fun s hs hE e => ?_), trivial⟩
  rw [qck_S (by omega) (by omega), e]
  exact qcN_2 (by omega) (by omega)

-- fn163
theorem cr_209 (M : pM) (s0 s1 s2 s3 s4 s5 : Int) (b0 : 0 ≤ s0 ∧ s0 ≤ 1900) (b1 : 0 ≤ s1 ∧ s1 ≤ 950) (b2 : 0 ≤ s2 ∧ s2 ≤ 1900) (b3 : 0 ≤ s3 ∧ s3 ≤ 1900) (b4 : 0 ≤ s4 ∧ s4 ≤ 9999) (b5 : 0 ≤ s5 ∧ s5 ≤ 3) (m0 : HP 53 (4096 * s0 + s1) (256 * s2 + s5 + 163) M) (m1 : HP 47 (s2) (s4 + 393216) M) (m2 : HP 45 (s2) (s3) M) (f0 : 0 ≤ (s4 - 31)) (hG : gI M) : (HP 66 (s3) (4 : Int) M ∧ True) := by
  refine ⟨r_fl (K := 10) (j := 2 + s5.toNat) m0 m1 m2 ⟨by omega, by omega, by decide⟩ (fun s hs hE e => ?_), trivial⟩
  rw [qck_S (by omega) (by omega), e]
  exact qcN_4 (by omega) (Or.inr (by omega))

-- ex163
theorem cr_210 (M : pM) (s0 s1 s2 s3 s4 s5 : Int) (b0 : 0 ≤ s0 ∧ s0 ≤ 1900) (b1 : 0 ≤ s1 ∧ s1 ≤ 950) (b2 : 0 ≤ s2 ∧ s2 ≤ 1900) (b3 : 0 ≤ s3 ∧ s3 ≤ 1900) (b4 : 0 ≤ s4 ∧ s4 ≤ 9999) (b5 : 0 ≤ s5 ∧ s5 ≤ 3) (m0 : HP 53 (4096 * s0 + s1) (256 * s2 + s5 + 163) M) (m1 : HP 47 (s2) (s4 + 393216) M) (m2 : HP 46 (s2) (s3) M) (f0 : 0 ≤ (s4)) (f1 : 0 ≤ ((-1) * s4 + 30)) (hG : gI M) : (HP 53 (4096 * s0 + s1) (256 * s3 + s5 + 164) M ∧ HP 79 (16 * s0 + s5 + 3) (s4) M ∧ True) := by
  refine ⟨?_, ?_, trivial⟩
  · exact r_ex (K := 10) (j := 2 + s5.toNat) m0 m1 m2 ⟨by omega, by omega, by decide⟩ (by omega) (by show _ < 9; omega) (fun s hs hE e => by
        rw [qck_S (by omega) (by omega), e]
        exact qcN_x (by omega) (by omega))
  · exact r_va (P := s0) (l := s1) (K := 10) (j := 2 + s5.toNat) m0 m1 ⟨by omega, by omega, by omega⟩ ⟨by omega, by omega, by decide⟩ (by omega) (by omega)

-- ex167
theorem cr_211 (M : pM) (s0 s1 s2 s3 : Int) (b0 : 0 ≤ s0 ∧ s0 ≤ 1900) (b1 : 0 ≤ s1 ∧ s1 ≤ 950) (b2 : 0 ≤ s2 ∧ s2 ≤ 1900) (b3 : 0 ≤ s3 ∧ s3 ≤ 1900) (m0 : HP 53 (4096 * s0 + s1) (256 * s2 + 167) M) (m1 : HP 47 (s2) (262156 : Int) M) (m2 : HP 46 (s2) (s3) M) (hG : gI M) : (HP 53 (4096 * s0 + s1) (256 * s3 + 168) M ∧ True) := by
  refine ⟨?_, trivial⟩
  · exact r_ex (K := 10) (j := 6) m0 m1 m2 ⟨by omega, by omega, by decide⟩ (by omega) (by decide) (fun s hs hE e => by
        show qcK 262156 (tK (tm M) (qps (tm M) s.1 7)) = none
        rw [e]
        exact qcK_x (by omega) (by omega))

-- fk167
theorem cr_212 (M : pM) (s0 s1 s2 s3 s4 : Int) (b0 : 0 ≤ s0 ∧ s0 ≤ 1900) (b1 : 0 ≤ s1 ∧ s1 ≤ 950) (b2 : 0 ≤ s2 ∧ s2 ≤ 1900) (b3 : 0 ≤ s3 ∧ s3 ≤ 1900) (b4 : 256 ≤ s4 ∧ s4 ≤ 600000) (m0 : HP 53 (4096 * s0 + s1) (256 * s2 + 167) M) (m1 : HP 47 (s2) (s4) M) (m2 : HP 45 (s2) (s3) M) (f0 : 0 ≤ ((-1) * s4 + 262155)) (hG : gI M) : (HP 66 (s3) (2 : Int) M ∧ True) := by
  refine ⟨r_fl (K := 10) (j := 6) m0 m1 m2 ⟨by omega, by omega, by decide⟩ (fun s hs hE e => ?_), trivial⟩
  show qcK 262156 (tK (tm M) (qps (tm M) s.1 7)) = some 2
  rw [e]
  exact qcK_2 (by omega) (by omega)

-- fl167
theorem cr_213 (M : pM) (s0 s1 s2 s3 s4 : Int) (b0 : 0 ≤ s0 ∧ s0 ≤ 1900) (b1 : 0 ≤ s1 ∧ s1 ≤ 950) (b2 : 0 ≤ s2 ∧ s2 ≤ 1900) (b3 : 0 ≤ s3 ∧ s3 ≤ 1900) (b4 : 256 ≤ s4 ∧ s4 ≤ 600000) (m0 : HP 53 (4096 * s0 + s1) (256 * s2 + 167) M) (m1 : HP 47 (s2) (s4) M) (m2 : HP 45 (s2) (s3) M) (f0 : 0 ≤ (s4 - 262157)) (hG : gI M) : (HP 66 (s3) (2 : Int) M ∧ True) := by
  refine ⟨r_fl (K := 10) (j := 6) m0 m1 m2 ⟨by omega, by omega, by decide⟩ (fun s hs hE e => ?_), trivial⟩
  show qcK 262156 (tK (tm M) (qps (tm M) s.1 7)) = some 2
  rw [e]
  exact qcK_2 (by omega) (by omega)

-- fk168
theorem cr_214 (M : pM) (s0 s1 s2 s3 s4 : Int) (b0 : 0 ≤ s0 ∧ s0 ≤ 1900) (b1 : 0 ≤ s1 ∧ s1 ≤ 950) (b2 : 0 ≤ s2 ∧ s2 ≤ 1900) (b3 : 0 ≤ s3 ∧ s3 ≤ 1900) (b4 : 256 ≤ s4 ∧ s4 ≤ 600000) (m0 : HP 53 (4096 * s0 + s1) (256 * s2 + 168) M) (m1 : HP 47 (s2) (s4) M) (m2 : HP 45 (s2) (s3) M) (f0 : 0 ≤ ((-1) * s4 + 393215)) (hG : gI M) : (HP 66 (s3) (2 : Int) M ∧ True) := by
  refine ⟨r_fl (K := 10) (j := 7) m0 m1 m2 ⟨by omega, by omega, by decide⟩ (fun s hs hE e => ?_), trivial⟩
  show qcN 50 200 none (tK (tm M) (qps (tm M) s.1 8)) = some 2
  rw [e]
  exact qcN_2 (by omega) (by omega)

-- fl168
theorem cr_215 (M : pM) (s0 s1 s2 s3 s4 : Int) (b0 : 0 ≤ s0 ∧ s0 ≤ 1900) (b1 : 0 ≤ s1 ∧ s1 ≤ 950) (b2 : 0 ≤ s2 ∧ s2 ≤ 1900) (b3 : 0 ≤ s3 ∧ s3 ≤ 1900) (b4 : 256 ≤ s4 ∧ s4 ≤ 600000) (m0 : HP 53 (4096 * s0 + s1) (256 * s2 + 168) M) (m1 : HP 47 (s2) (s4) M) (m2 : HP 45 (s2) (s3) M) (f0 : 0 ≤ (s4 - 403216)) (hG : gI M) : (HP 66 (s3) (2 : Int) M ∧ True) := by
  refine ⟨r_fl (K := 10) (j := 7) m0 m1 m2 ⟨by omega, by omega, by decide⟩ (fun s hs hE e => ?_), trivial⟩
  show qcN 50 200 none (tK (tm M) (qps (tm M) s.1 8)) = some 2
  rw [e]
  exact qcN_2 (by omega) (by omega)

-- fm168
theorem cr_216 (M : pM) (s0 s1 s2 s3 s4 : Int) (b0 : 0 ≤ s0 ∧ s0 ≤ 1900) (b1 : 0 ≤ s1 ∧ s1 ≤ 950) (b2 : 0 ≤ s2 ∧ s2 ≤ 1900) (b3 : 0 ≤ s3 ∧ s3 ≤ 1900) (b4 : 0 ≤ s4 ∧ s4 ≤ 9999) (m0 : HP 53 (4096 * s0 + s1) (256 * s2 + 168) M) (m1 : HP 47 (s2) (s4 + 393216) M) (m2 : HP 45 (s2) (s3) M) (f0 : 0 ≤ ((-1) * s4 + 49)) (hG : gI M) : (HP 66 (s3) (4 : Int) M ∧ True) := by
  refine ⟨r_fl (K := 10) (j := 7) m0 m1 m2 ⟨by omega, by omega, by decide⟩ (fun s hs hE e => ?_), trivial⟩
  show qcN 50 200 none (tK (tm M) (qps (tm M) s.1 8)) = some 4
  rw [e]
  exact qcN_4 (by omega) (Or.inl (by omega))

-- fn168
theorem cr_217 (M : pM) (s0 s1 s2 s3 s4 : Int) (b0 : 0 ≤ s0 ∧ s0 ≤ 1900) (b1 : 0 ≤ s1 ∧ s1 ≤ 950) (b2 : 0 ≤ s2 ∧ s2 ≤ 1900) (b3 : 0 ≤ s3 ∧ s3 ≤ 1900) (b4 : 0 ≤ s4 ∧ s4 ≤ 9999) (m0 : HP 53 (4096 * s0 + s1) (256 * s2 + 168) M) (m1 : HP 47 (s2) (s4 + 393216) M) (m2 : HP 45 (s2) (s3) M) (f0 : 0 ≤ (s4 - 201)) (hG : gI M) : (HP 66 (s3) (4 : Int) M ∧ True) := by
  refine ⟨r_fl (K := 10) (j := 7) m0 m1 m2 ⟨by omega, by omega, by decide⟩ (fun s hs hE e => ?_), trivial⟩
  show qcN 50 200 none (tK (tm M) (qps (tm M) s.1 8)) = some 4
  rw [e]
  exact qcN_4 (by omega) (Or.inr (by omega))

-- ex168
theorem cr_218 (M : pM) (s0 s1 s2 s3 s4 : Int) (b0 : 0 ≤ s0 ∧ s0 ≤ 1900) (b1 : 0 ≤ s1 ∧ s1 ≤ 950) (b2 : 0 ≤ s2 ∧ s2 ≤ 1900) (b3 : 0 ≤ s3 ∧ s3 ≤ 1900) (b4 : 0 ≤ s4 ∧ s4 ≤ 9999) (m0 : HP 53 (4096 * s0 + s1) (256 * s2 + 168) M) (m1 : HP 47 (s2) (s4 + 393216) M) (m2 : HP 46 (s2) (s3) M) (f0 : 0 ≤ (s4 - 50)) (f1 : 0 ≤ ((-1) * s4 + 200)) (hG : gI M) : (HP 53 (4096 * s0 + s1) (256 * s3 + 169) M ∧ HP 79 (16 * s0 + 8) (s4) M ∧ True) := by
  refine ⟨?_, ?_, trivial⟩
  · exact r_ex (K := 10) (j := 7) m0 m1 m2 ⟨by omega, by omega, by decide⟩ (by omega) (by decide) (fun s hs hE e => by
        show qcN 50 200 none (tK (tm M) (qps (tm M) s.1 8)) = none
        rw [e]
        exact qcN_x (by omega) (by omega))
  · exact r_va (P := s0) (l := s1) (K := 10) (j := 7) m0 m1 ⟨by omega, by omega, by omega⟩ ⟨by omega, by omega, by decide⟩ (by omega) (by omega)

-- ln10
theorem cr_219 (M : pM) (s0 s1 s2 : Int) (b0 : 0 ≤ s0 ∧ s0 ≤ 1900) (b1 : 0 ≤ s1 ∧ s1 ≤ 950) (b2 : 0 ≤ s2 ∧ s2 ≤ 1900) (m0 : HP 53 (4096 * s0 + s1) (256 * s2 + 169) M) (hG : gI M) : (HP 89 (4096 * s0 + s1) (s2) M ∧ True) := by
  obtain ⟨s, h1, h2⟩ := ex_o (K := 10) (j := 8) (a := s2) (Eq.mp hp_53 m0) ⟨by omega, by omega, by decide, by decide⟩
  exact ⟨Eq.mpr hp_89 ⟨s, 10, h1, ⟨h2.2.2.1, h2.2.2.2.1⟩, h2.2.2.2.2⟩, trivial⟩

-- exx
theorem cr_220 (M : pM) (s0 s1 s2 s3 s4 : Int) (b0 : 0 ≤ s0 ∧ s0 ≤ 1900) (b1 : 0 ≤ s1 ∧ s1 ≤ 950) (b2 : 0 ≤ s2 ∧ s2 ≤ 1900) (b3 : 0 ≤ s3 ∧ s3 ≤ 175) (b4 : 0 ≤ s4 ∧ s4 ≤ 175) (m0 : HP 53 (4096 * s0 + s1) (256 * s2 + s3) M) (f0 : 0 ≤ ((-1) * s3 + s4)) (f1 : 0 ≤ (s3 + (-1) * s4)) (hG : gI M) : (HP 53 (4096 * s0 + s1) (256 * s2 + s4) M ∧ True) := by
  have e : s3 = s4 := by omega
  subst e
  exact ⟨m0, trivial⟩

-- gr0
theorem cr_221 (M : pM) (s0 : Int) (b0 : 0 ≤ s0 ∧ s0 ≤ 1900) (hG : gI M) : (HP 80 (16 * s0) (0 : Int) M ∧ True) := by
  exact ⟨Eq.mpr hp_80 ⟨s0.toNat, 0, by decide, by omega, fun i hi => by omega⟩, trivial⟩

-- grn
theorem cr_222 (M : pM) (s0 s1 s2 : Int) (b0 : 0 ≤ s0 ∧ s0 ≤ 1900) (b1 : 0 ≤ s1 ∧ s1 ≤ 7) (b2 : 97 ≤ s2 ∧ s2 ≤ 104) (m0 : HP 80 (16 * s0 + s1) (0 : Int) M) (m1 : (0 ≤ (s0 + s1) ∧ M 1 (s0 + s1).toNat = (s2))) (hG : gI M) : (HP 80 (16 * s0 + s1 + 1) (0 : Int) M ∧ True) := by
  have hh := gr_o (s := s0.toNat) (k := s1.toNat) (Eq.mp hp_80 m0) ⟨by omega, by omega⟩
  refine ⟨Eq.mpr hp_80 ⟨s0.toNat, s1.toNat + 1, by omega, by omega, fun i hi => ?_⟩, trivial⟩
  by_cases e : i = s1.toNat
  · have hr := rd1 m1 (by omega)
    rw [e, show s0.toNat + s1.toNat = (s0 + s1).toNat by omega, show (s0 + s1) = s0 + s1 from rfl]
    first | (rw [hr]; omega) | (rw [show (s0 + s1).toNat = (s1 + s0).toNat by omega, hr]; omega)
  · exact hh i (by omega)

-- grx
theorem cr_223 (M : pM) (s0 s1 : Int) (b0 : 0 ≤ s0 ∧ s0 ≤ 1900) (b1 : 0 ≤ s1 ∧ s1 ≤ 8) (m0 : HP 80 (16 * s0 + s1) (0 : Int) M) (f0 : 0 ≤ ((-1) * s1 + 8)) (f1 : 0 ≤ (s1 - 8)) (hG : gI M) : (HP 80 (16 * s0 + 8) (0 : Int) M ∧ True) := by
  have e : s1 = 8 := by omega
  subst e
  exact ⟨by have h := m0; rw [show 16 * s0 + 8 = 16 * s0 + 8 from rfl]; exact h, trivial⟩

-- fi0_4
theorem cr_224 (M : pM)  (hG : gI M) : (HP 130 (0 : Int) (0 : Int) M ∧ True) := by
  exact ⟨Eq.mpr hp_130 ⟨by decide, fun i hi => by omega⟩, trivial⟩

-- fiw_4
theorem cr_225 (M : pM) (s0 : Int) (b0 : 0 ≤ s0 ∧ s0 ≤ 63) (m0 : HP 130 (s0) (0 : Int) M) (hG : gI M) : (HP 130 (s0 + 1) (0 : Int) (st M 4 (s0).toNat (0 : Int)) ∧ True) := by
  refine ⟨Eq.mpr hp_130 ⟨by omega, fun i hi => ?_⟩, trivial⟩
  rw [cw0]
  by_cases e : i = (s0).toNat
  · rw [if_pos e]
  · rw [if_neg e]; exact (Eq.mp hp_130 m0).2 i (by omega)

-- fix_4
theorem cr_226 (M : pM) (s0 : Int) (b0 : 0 ≤ s0 ∧ s0 ≤ 64) (m0 : HP 130 (s0) (0 : Int) M) (f0 : 0 ≤ (s0 - 64)) (hG : gI M) : (HP 130 (64 : Int) (0 : Int) M ∧ True) := by
  exact ⟨Eq.mpr hp_130 ⟨by decide, fun i hi => (Eq.mp hp_130 m0).2 i (by omega)⟩, trivial⟩

-- fi0_5
theorem cr_227 (M : pM)  (hG : gI M) : (HP 131 (0 : Int) (0 : Int) M ∧ True) := by
  exact ⟨Eq.mpr hp_131 ⟨by decide, fun i hi => by omega⟩, trivial⟩

-- fiw_5
theorem cr_228 (M : pM) (s0 : Int) (b0 : 0 ≤ s0 ∧ s0 ≤ 47) (m0 : HP 131 (s0) (0 : Int) M) (hG : gI M) : (HP 131 (s0 + 1) (0 : Int) (st M 5 (s0).toNat (0 : Int)) ∧ True) := by
  refine ⟨Eq.mpr hp_131 ⟨by omega, fun i hi => ?_⟩, trivial⟩
  rw [cw0]
  by_cases e : i = (s0).toNat
  · rw [if_pos e]
  · rw [if_neg e]; exact (Eq.mp hp_131 m0).2 i (by omega)

-- fix_5
theorem cr_229 (M : pM) (s0 : Int) (b0 : 0 ≤ s0 ∧ s0 ≤ 48) (m0 : HP 131 (s0) (0 : Int) M) (f0 : 0 ≤ (s0 - 48)) (hG : gI M) : (HP 131 (48 : Int) (0 : Int) M ∧ True) := by
  exact ⟨Eq.mpr hp_131 ⟨by decide, fun i hi => (Eq.mp hp_131 m0).2 i (by omega)⟩, trivial⟩

-- fi0_6
theorem cr_230 (M : pM)  (hG : gI M) : (HP 132 (0 : Int) (-1 : Int) M ∧ True) := by
  exact ⟨Eq.mpr hp_132 ⟨by decide, fun i hi => by omega⟩, trivial⟩

-- fiw_6
theorem cr_231 (M : pM) (s0 : Int) (b0 : 0 ≤ s0 ∧ s0 ≤ 5) (m0 : HP 132 (s0) (-1 : Int) M) (hG : gI M) : (HP 132 (s0 + 1) (-1 : Int) (st M 6 (s0).toNat (-1 : Int)) ∧ True) := by
  refine ⟨Eq.mpr hp_132 ⟨by omega, fun i hi => ?_⟩, trivial⟩
  rw [cw0]
  by_cases e : i = (s0).toNat
  · rw [if_pos e]
  · rw [if_neg e]; exact (Eq.mp hp_132 m0).2 i (by omega)

-- fix_6
theorem cr_232 (M : pM) (s0 : Int) (b0 : 0 ≤ s0 ∧ s0 ≤ 6) (m0 : HP 132 (s0) (-1 : Int) M) (f0 : 0 ≤ (s0 - 6)) (hG : gI M) : (HP 132 (6 : Int) (-1 : Int) M ∧ True) := by
  exact ⟨Eq.mpr hp_132 ⟨by decide, fun i hi => (Eq.mp hp_132 m0).2 i (by omega)⟩, trivial⟩

-- fi0_7
theorem cr_233 (M : pM)  (hG : gI M) : (HP 133 (0 : Int) (-1 : Int) M ∧ True) := by
  exact ⟨Eq.mpr hp_133 ⟨by decide, fun i hi => by omega⟩, trivial⟩

-- fiw_7
theorem cr_234 (M : pM) (s0 : Int) (b0 : 0 ≤ s0 ∧ s0 ≤ 5) (m0 : HP 133 (s0) (-1 : Int) M) (hG : gI M) : (HP 133 (s0 + 1) (-1 : Int) (st M 7 (s0).toNat (-1 : Int)) ∧ True) := by
  refine ⟨Eq.mpr hp_133 ⟨by omega, fun i hi => ?_⟩, trivial⟩
  rw [cw0]
  by_cases e : i = (s0).toNat
  · rw [if_pos e]
  · rw [if_neg e]; exact (Eq.mp hp_133 m0).2 i (by omega)

-- fix_7
theorem cr_235 (M : pM) (s0 : Int) (b0 : 0 ≤ s0 ∧ s0 ≤ 6) (m0 : HP 133 (s0) (-1 : Int) M) (f0 : 0 ≤ (s0 - 6)) (hG : gI M) : (HP 133 (6 : Int) (-1 : Int) M ∧ True) := by
  exact ⟨Eq.mpr hp_133 ⟨by decide, fun i hi => (Eq.mp hp_133 m0).2 i (by omega)⟩, trivial⟩

-- ca0_0
theorem cr_236 (M : pM) (m0 : HP 130 (64 : Int) (0 : Int) M) (m1 : HP 131 (48 : Int) (0 : Int) M) (m2 : HP 132 (6 : Int) (-1 : Int) M) (m3 : HP 133 (6 : Int) (-1 : Int) M) (hG : gI M) : (HP 54 (0 : Int) (0 : Int) M ∧ HP 71 (0 : Int) (0 : Int) M ∧ HP 72 (0 : Int) (0 : Int) M ∧ HP 94 (0 : Int) (0 : Int) M ∧ True) := by
  have q0 : qat (tm M) 0 (0, qA0) := ⟨0, by decide, by decide, rfl⟩
  refine ⟨Eq.mpr hp_54 ⟨(0, qA0), q0, ⟨by decide, by decide, by decide, by decide⟩, ?_⟩, Eq.mpr hp_71 ⟨(0, qA0), q0, fun i hi => (qb4_0 i hi).trans rfl⟩, Eq.mpr hp_72 ⟨(0, qA0), q0, fun i hi => (qb4_0 i hi).trans rfl⟩, Eq.mpr hp_94 ⟨(0, qA0), q0, fun i hi => (qb8_0 i hi).trans rfl⟩, trivial⟩
  refine ⟨fun i hi => (Eq.mp hp_130 m0).2 i (by omega), fun i hi => (Eq.mp hp_131 m1).2 i (by omega), fun i hi => (Eq.mp hp_132 m2).2 i (by omega), fun i hi => by show (-1 : Int) ≤ -1 ∧ (0 : Int) ≤ 0; omega, fun i hi => (Eq.mp hp_133 m3).2 i (by omega), fun i hi hw => ?_, fun i hi hw => ?_, fun i hi hw => ?_, fun i j hi hj hw => ?_⟩
  all_goals (have hw : (i : Int) < 0 := hw; omega)

-- fi0_13
theorem cr_237 (M : pM)  (hG : gI M) : (HP 134 (0 : Int) (0 : Int) M ∧ True) := by
  exact ⟨Eq.mpr hp_134 ⟨by decide, fun i hi => by omega⟩, trivial⟩

-- fiw_13
theorem cr_238 (M : pM) (s0 : Int) (b0 : 0 ≤ s0 ∧ s0 ≤ 63) (m0 : HP 134 (s0) (0 : Int) M) (hG : gI M) : (HP 134 (s0 + 1) (0 : Int) (st M 13 (s0).toNat (0 : Int)) ∧ True) := by
  refine ⟨Eq.mpr hp_134 ⟨by omega, fun i hi => ?_⟩, trivial⟩
  rw [cw0]
  by_cases e : i = (s0).toNat
  · rw [if_pos e]
  · rw [if_neg e]; exact (Eq.mp hp_134 m0).2 i (by omega)

-- fix_13
theorem cr_239 (M : pM) (s0 : Int) (b0 : 0 ≤ s0 ∧ s0 ≤ 64) (m0 : HP 134 (s0) (0 : Int) M) (f0 : 0 ≤ (s0 - 64)) (hG : gI M) : (HP 134 (64 : Int) (0 : Int) M ∧ True) := by
  exact ⟨Eq.mpr hp_134 ⟨by decide, fun i hi => (Eq.mp hp_134 m0).2 i (by omega)⟩, trivial⟩
