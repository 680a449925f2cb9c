-- al0
theorem cr_0 (M : pM) (s0 : Int) (b0 : 0 ≤ s0 ∧ s0 ≤ 1900) (hG : gI M) : (HP 43 (s0) (s0) M ∧ True) := by
  exact ⟨Eq.mpr hp_43 ⟨0, s0.toNat, s0.toNat, by decide, by omega, by omega, by omega, Nat.le_refl _, Or.inr rfl, fun i h1 h2 => by omega⟩, trivial⟩

-- al0n0
theorem cr_1 (M : pM) (s0 s1 s2 s3 : Int) (b0 : 0 ≤ s0 ∧ s0 ≤ 1900) (b1 : 0 ≤ s1 ∧ s1 ≤ 1900) (b2 : 0 ≤ s2 ∧ s2 ≤ 1900) (b3 : 0 ≤ s3 ∧ s3 ≤ 255) (m0 : (0 ≤ (1 : Int) ∧ M 2 (1 : Int).toNat = (s2))) (m1 : HP 43 (s0) (s1) M) (m2 : (0 ≤ (s1) ∧ M 1 (s1).toNat = (s3))) (f0 : 0 ≤ ((-1) * s1 + s2 - 1)) (f1 : 0 ≤ ((-1) * s3 + 32)) (f2 : 0 ≤ (s3 - 32)) (hG : gI M) : (HP 43 (s0) (s1 + 1) M ∧ True) := by
  have hn := tn_o m0 b2
  obtain ⟨P, p, q, h1, h2, h3, h4, h5, h6, h7⟩ := Eq.mp hp_43 m1
  have hP : P = 0 := by omega
  subst hP
  refine ⟨Eq.mpr hp_43 ⟨0, p, q + 1, by decide, h2, h3, by omega, by omega, Or.inl (by omega), fun i i1 i2 => ?_⟩, trivial⟩
  by_cases e : i = q
  · rw [e, show q = s1.toNat by omega, m2.2]; exact decide_eq_true (by omega)
  · exact h7 i i1 (by omega)

-- al0n1
theorem cr_2 (M : pM) (s0 s1 s2 s3 : Int) (b0 : 0 ≤ s0 ∧ s0 ≤ 1900) (b1 : 0 ≤ s1 ∧ s1 ≤ 1900) (b2 : 0 ≤ s2 ∧ s2 ≤ 1900) (b3 : 0 ≤ s3 ∧ s3 ≤ 255) (m0 : (0 ≤ (1 : Int) ∧ M 2 (1 : Int).toNat = (s2))) (m1 : HP 43 (s0) (s1) M) (m2 : (0 ≤ (s1) ∧ M 1 (s1).toNat = (s3))) (f0 : 0 ≤ ((-1) * s1 + s2 - 1)) (f1 : 0 ≤ ((-1) * s3 + 10)) (f2 : 0 ≤ (s3 - 10)) (hG : gI M) : (HP 43 (s0) (s1 + 1) M ∧ True) := by
  have hn := tn_o m0 b2
  obtain ⟨P, p, q, h1, h2, h3, h4, h5, h6, h7⟩ := Eq.mp hp_43 m1
  have hP : P = 0 := by omega
  subst hP
  refine ⟨Eq.mpr hp_43 ⟨0, p, q + 1, by decide, h2, h3, by omega, by omega, Or.inl (by omega), fun i i1 i2 => ?_⟩, trivial⟩
  by_cases e : i = q
  · rw [e, show q = s1.toNat by omega, m2.2]; exact decide_eq_true (by omega)
  · exact h7 i i1 (by omega)

-- ru0e
theorem cr_3 (M : pM) (s0 s1 s2 : Int) (b0 : 0 ≤ s0 ∧ s0 ≤ 1900) (b1 : 0 ≤ s1 ∧ s1 ≤ 1900) (b2 : 0 ≤ s2 ∧ s2 ≤ 1900) (m0 : (0 ≤ (1 : Int) ∧ M 2 (1 : Int).toNat = (s2))) (m1 : HP 43 (s0) (s1) M) (f0 : 0 ≤ (s1 + (-1) * s2)) (f1 : 0 ≤ ((-1) * s0 + s1)) (hG : gI M) : (HP 44 (s0) (s1) M ∧ True) := by
  have hn := tn_o m0 b2
  obtain ⟨P, p, q, h1, h2, h3, h4, h5⟩ := Eq.mp hp_43 m1
  have hP : P = 0 := by omega
  subst hP
  have hr := ru_al h5 (Or.inl (by omega))
  exact ⟨Eq.mpr hp_44 ⟨0, p, by decide, h2, h3, by rw [hr]; exact h4⟩, trivial⟩

-- ru0c0
theorem cr_4 (M : pM) (s0 s1 s2 s3 : Int) (b0 : 0 ≤ s0 ∧ s0 ≤ 1900) (b1 : 0 ≤ s1 ∧ s1 ≤ 1900) (b2 : 0 ≤ s2 ∧ s2 ≤ 1900) (b3 : 0 ≤ s3 ∧ s3 ≤ 255) (m0 : (0 ≤ (1 : Int) ∧ M 2 (1 : Int).toNat = (s2))) (m1 : HP 43 (s0) (s1) M) (m2 : (0 ≤ (s1) ∧ M 1 (s1).toNat = (s3))) (f0 : 0 ≤ ((-1) * s1 + s2 - 1)) (f1 : 0 ≤ ((-1) * s0 + s1)) (f2 : 0 ≤ (s3 - 33)) (hG : gI M) : (HP 44 (s0) (s1) M ∧ True) := by
  have hn := tn_o m0 b2
  obtain ⟨P, p, q, h1, h2, h3, h4, h5⟩ := Eq.mp hp_43 m1
  have hP : P = 0 := by omega
  subst hP
  have hr := ru_al h5 (Or.inr (by rw [show q = s1.toNat by omega, m2.2]; exact decide_eq_false (by omega)))
  exact ⟨Eq.mpr hp_44 ⟨0, p, by decide, h2, h3, by rw [hr]; exact h4⟩, trivial⟩

-- ru0c1
theorem cr_5 (M : pM) (s0 s1 s2 s3 : Int) (b0 : 0 ≤ s0 ∧ s0 ≤ 1900) (b1 : 0 ≤ s1 ∧ s1 ≤ 1900) (b2 : 0 ≤ s2 ∧ s2 ≤ 1900) (b3 : 0 ≤ s3 ∧ s3 ≤ 255) (m0 : (0 ≤ (1 : Int) ∧ M 2 (1 : Int).toNat = (s2))) (m1 : HP 43 (s0) (s1) M) (m2 : (0 ≤ (s1) ∧ M 1 (s1).toNat = (s3))) (f0 : 0 ≤ ((-1) * s1 + s2 - 1)) (f1 : 0 ≤ ((-1) * s0 + s1)) (f2 : 0 ≤ ((-1) * s3 + 9)) (hG : gI M) : (HP 44 (s0) (s1) M ∧ True) := by
  have hn := tn_o m0 b2
  obtain ⟨P, p, q, h1, h2, h3, h4, h5⟩ := Eq.mp hp_43 m1
  have hP : P = 0 := by omega
  subst hP
  have hr := ru_al h5 (Or.inr (by rw [show q = s1.toNat by omega, m2.2]; exact decide_eq_false (by omega)))
  exact ⟨Eq.mpr hp_44 ⟨0, p, by decide, h2, h3, by rw [hr]; exact h4⟩, trivial⟩

-- ru0c2
theorem cr_6 (M : pM) (s0 s1 s2 s3 : Int) (b0 : 0 ≤ s0 ∧ s0 ≤ 1900) (b1 : 0 ≤ s1 ∧ s1 ≤ 1900) (b2 : 0 ≤ s2 ∧ s2 ≤ 1900) (b3 : 0 ≤ s3 ∧ s3 ≤ 255) (m0 : (0 ≤ (1 : Int) ∧ M 2 (1 : Int).toNat = (s2))) (m1 : HP 43 (s0) (s1) M) (m2 : (0 ≤ (s1) ∧ M 1 (s1).toNat = (s3))) (f0 : 0 ≤ ((-1) * s1 + s2 - 1)) (f1 : 0 ≤ ((-1) * s0 + s1)) (f2 : 0 ≤ (s3 - 11)) (f3 : 0 ≤ ((-1) * s3 + 31)) (hG : gI M) : (HP 44 (s0) (s1) M ∧ True) := by
  have hn := tn_o m0 b2
  obtain ⟨P, p, q, h1, h2, h3, h4, h5⟩ := Eq.mp hp_43 m1
  have hP : P = 0 := by omega
  subst hP
  have hr := ru_al h5 (Or.inr (by rw [show q = s1.toNat by omega, m2.2]; exact decide_eq_false (by omega)))
  exact ⟨Eq.mpr hp_44 ⟨0, p, by decide, h2, h3, by rw [hr]; exact h4⟩, trivial⟩

-- al1
theorem cr_7 (M : pM) (s0 : Int) (b0 : 0 ≤ s0 ∧ s0 ≤ 1900) (hG : gI M) : (HP 43 (s0 + 2048) (s0) M ∧ True) := by
  exact ⟨Eq.mpr hp_43 ⟨1, s0.toNat, s0.toNat, by decide, by omega, by omega, by omega, Nat.le_refl _, Or.inr rfl, fun i h1 h2 => by omega⟩, trivial⟩

-- al1n0
theorem cr_8 (M : pM) (s0 s1 s2 s3 : Int) (b0 : 0 ≤ s0 ∧ s0 ≤ 1900) (b1 : 0 ≤ s1 ∧ s1 ≤ 1900) (b2 : 0 ≤ s2 ∧ s2 ≤ 1900) (b3 : 0 ≤ s3 ∧ s3 ≤ 255) (m0 : (0 ≤ (1 : Int) ∧ M 2 (1 : Int).toNat = (s2))) (m1 : HP 43 (s0 + 2048) (s1) M) (m2 : (0 ≤ (s1) ∧ M 1 (s1).toNat = (s3))) (f0 : 0 ≤ ((-1) * s1 + s2 - 1)) (f1 : 0 ≤ (s3 - 97)) (f2 : 0 ≤ ((-1) * s3 + 122)) (hG : gI M) : (HP 43 (s0 + 2048) (s1 + 1) M ∧ True) := by
  have hn := tn_o m0 b2
  obtain ⟨P, p, q, h1, h2, h3, h4, h5, h6, h7⟩ := Eq.mp hp_43 m1
  have hP : P = 1 := by omega
  subst hP
  refine ⟨Eq.mpr hp_43 ⟨1, p, q + 1, by decide, h2, h3, by omega, by omega, Or.inl (by omega), fun i i1 i2 => ?_⟩, trivial⟩
  by_cases e : i = q
  · rw [e, show q = s1.toNat by omega, m2.2]; exact decide_eq_true (by omega)
  · exact h7 i i1 (by omega)

-- ru1e
theorem cr_9 (M : pM) (s0 s1 s2 : Int) (b0 : 0 ≤ s0 ∧ s0 ≤ 1900) (b1 : 0 ≤ s1 ∧ s1 ≤ 1900) (b2 : 0 ≤ s2 ∧ s2 ≤ 1900) (m0 : (0 ≤ (1 : Int) ∧ M 2 (1 : Int).toNat = (s2))) (m1 : HP 43 (s0 + 2048) (s1) M) (f0 : 0 ≤ (s1 + (-1) * s2)) (f1 : 0 ≤ ((-1) * s0 + s1)) (hG : gI M) : (HP 44 (s0 + 2048) (s1) M ∧ True) := by
  have hn := tn_o m0 b2
  obtain ⟨P, p, q, h1, h2, h3, h4, h5⟩ := Eq.mp hp_43 m1
  have hP : P = 1 := by omega
  subst hP
  have hr := ru_al h5 (Or.inl (by omega))
  exact ⟨Eq.mpr hp_44 ⟨1, p, by decide, h2, h3, by rw [hr]; exact h4⟩, trivial⟩

-- ru1c0
theorem cr_10 (M : pM) (s0 s1 s2 s3 : Int) (b0 : 0 ≤ s0 ∧ s0 ≤ 1900) (b1 : 0 ≤ s1 ∧ s1 ≤ 1900) (b2 : 0 ≤ s2 ∧ s2 ≤ 1900) (b3 : 0 ≤ s3 ∧ s3 ≤ 255) (m0 : (0 ≤ (1 : Int) ∧ M 2 (1 : Int).toNat = (s2))) (m1 : HP 43 (s0 + 2048) (s1) M) (m2 : (0 ≤ (s1) ∧ M 1 (s1).toNat = (s3))) (f0 : 0 ≤ ((-1) * s1 + s2 - 1)) (f1 : 0 ≤ ((-1) * s0 + s1)) (f2 : 0 ≤ ((-1) * s3 + 96)) (hG : gI M) : (HP 44 (s0 + 2048) (s1) M ∧ True) := by
  have hn := tn_o m0 b2
  obtain ⟨P, p, q, h1, h2, h3, h4, h5⟩ := Eq.mp hp_43 m1
  have hP : P = 1 := by omega
  subst hP
  have hr := ru_al h5 (Or.inr (by rw [show q = s1.toNat by omega, m2.2]; exact decide_eq_false (by omega)))
  exact ⟨Eq.mpr hp_44 ⟨1, p, by decide, h2, h3, by rw [hr]; exact h4⟩, trivial⟩

-- ru1c1
theorem cr_11 (M : pM) (s0 s1 s2 s3 : Int) (b0 : 0 ≤ s0 ∧ s0 ≤ 1900) (b1 : 0 ≤ s1 ∧ s1 ≤ 1900) (b2 : 0 ≤ s2 ∧ s2 ≤ 1900) (b3 : 0 ≤ s3 ∧ s3 ≤ 255) (m0 : (0 ≤ (1 : Int) ∧ M 2 (1 : Int).toNat = (s2))) (m1 : HP 43 (s0 + 2048) (s1) M) (m2 : (0 ≤ (s1) ∧ M 1 (s1).toNat = (s3))) (f0 : 0 ≤ ((-1) * s1 + s2 - 1)) (f1 : 0 ≤ ((-1) * s0 + s1)) (f2 : 0 ≤ (s3 - 123)) (hG : gI M) : (HP 44 (s0 + 2048) (s1) M ∧ True) := by
  have hn := tn_o m0 b2
  obtain ⟨P, p, q, h1, h2, h3, h4, h5⟩ := Eq.mp hp_43 m1
  have hP : P = 1 := by omega
  subst hP
  have hr := ru_al h5 (Or.inr (by rw [show q = s1.toNat by omega, m2.2]; exact decide_eq_false (by omega)))
  exact ⟨Eq.mpr hp_44 ⟨1, p, by decide, h2, h3, by rw [hr]; exact h4⟩, trivial⟩

-- al2
theorem cr_12 (M : pM) (s0 : Int) (b0 : 0 ≤ s0 ∧ s0 ≤ 1900) (hG : gI M) : (HP 43 (s0 + 4096) (s0) M ∧ True) := by
  exact ⟨Eq.mpr hp_43 ⟨2, s0.toNat, s0.toNat, by decide, by omega, by omega, by omega, Nat.le_refl _, Or.inr rfl, fun i h1 h2 => by omega⟩, trivial⟩

-- al2n0
theorem cr_13 (M : pM) (s0 s1 s2 s3 : Int) (b0 : 0 ≤ s0 ∧ s0 ≤ 1900) (b1 : 0 ≤ s1 ∧ s1 ≤ 1900) (b2 : 0 ≤ s2 ∧ s2 ≤ 1900) (b3 : 0 ≤ s3 ∧ s3 ≤ 255) (m0 : (0 ≤ (1 : Int) ∧ M 2 (1 : Int).toNat = (s2))) (m1 : HP 43 (s0 + 4096) (s1) M) (m2 : (0 ≤ (s1) ∧ M 1 (s1).toNat = (s3))) (f0 : 0 ≤ ((-1) * s1 + s2 - 1)) (f1 : 0 ≤ (s3 - 48)) (f2 : 0 ≤ ((-1) * s3 + 57)) (hG : gI M) : (HP 43 (s0 + 4096) (s1 + 1) M ∧ True) := by
  have hn := tn_o m0 b2
  obtain ⟨P, p, q, h1, h2, h3, h4, h5, h6, h7⟩ := Eq.mp hp_43 m1
  have hP : P = 2 := by omega
  subst hP
  refine ⟨Eq.mpr hp_43 ⟨2, p, q + 1, by decide, h2, h3, by omega, by omega, Or.inl (by omega), fun i i1 i2 => ?_⟩, trivial⟩
  by_cases e : i = q
  · rw [e, show q = s1.toNat by omega, m2.2]; exact decide_eq_true (by omega)
  · exact h7 i i1 (by omega)

-- ru2e
theorem cr_14 (M : pM) (s0 s1 s2 : Int) (b0 : 0 ≤ s0 ∧ s0 ≤ 1900) (b1 : 0 ≤ s1 ∧ s1 ≤ 1900) (b2 : 0 ≤ s2 ∧ s2 ≤ 1900) (m0 : (0 ≤ (1 : Int) ∧ M 2 (1 : Int).toNat = (s2))) (m1 : HP 43 (s0 + 4096) (s1) M) (f0 : 0 ≤ (s1 + (-1) * s2)) (f1 : 0 ≤ ((-1) * s0 + s1)) (hG : gI M) : (HP 44 (s0 + 4096) (s1) M ∧ True) := by
  have hn := tn_o m0 b2
  obtain ⟨P, p, q, h1, h2, h3, h4, h5⟩ := Eq.mp hp_43 m1
  have hP : P = 2 := by omega
  subst hP
  have hr := ru_al h5 (Or.inl (by omega))
  exact ⟨Eq.mpr hp_44 ⟨2, p, by decide, h2, h3, by rw [hr]; exact h4⟩, trivial⟩

-- ru2c0
theorem cr_15 (M : pM) (s0 s1 s2 s3 : Int) (b0 : 0 ≤ s0 ∧ s0 ≤ 1900) (b1 : 0 ≤ s1 ∧ s1 ≤ 1900) (b2 : 0 ≤ s2 ∧ s2 ≤ 1900) (b3 : 0 ≤ s3 ∧ s3 ≤ 255) (m0 : (0 ≤ (1 : Int) ∧ M 2 (1 : Int).toNat = (s2))) (m1 : HP 43 (s0 + 4096) (s1) M) (m2 : (0 ≤ (s1) ∧ M 1 (s1).toNat = (s3))) (f0 : 0 ≤ ((-1) * s1 + s2 - 1)) (f1 : 0 ≤ ((-1) * s0 + s1)) (f2 : 0 ≤ ((-1) * s3 + 47)) (hG : gI M) : (HP 44 (s0 + 4096) (s1) M ∧ True) := by
  have hn := tn_o m0 b2
  obtain ⟨P, p, q, h1, h2, h3, h4, h5⟩ := Eq.mp hp_43 m1
  have hP : P = 2 := by omega
  subst hP
  have hr := ru_al h5 (Or.inr (by rw [show q = s1.toNat by omega, m2.2]; exact decide_eq_false (by omega)))
  exact ⟨Eq.mpr hp_44 ⟨2, p, by decide, h2, h3, by rw [hr]; exact h4⟩, trivial⟩

-- ru2c1
theorem cr_16 (M : pM) (s0 s1 s2 s3 : Int) (b0 : 0 ≤ s0 ∧ s0 ≤ 1900) (b1 : 0 ≤ s1 ∧ s1 ≤ 1900) (b2 : 0 ≤ s2 ∧ s2 ≤ 1900) (b3 : 0 ≤ s3 ∧ s3 ≤ 255) (m0 : (0 ≤ (1 : Int) ∧ M 2 (1 : Int).toNat = (s2))) (m1 : HP 43 (s0 + 4096) (s1) M) (m2 : (0 ≤ (s1) ∧ M 1 (s1).toNat = (s3))) (f0 : 0 ≤ ((-1) * s1 + s2 - 1)) (f1 : 0 ≤ ((-1) * s0 + s1)) (f2 : 0 ≤ (s3 - 58)) (hG : gI M) : (HP 44 (s0 + 4096) (s1) M ∧ True) := by
  have hn := tn_o m0 b2
  obtain ⟨P, p, q, h1, h2, h3, h4, h5⟩ := Eq.mp hp_43 m1
  have hP : P = 2 := by omega
  subst hP
  have hr := ru_al h5 (Or.inr (by rw [show q = s1.toNat by omega, m2.2]; exact decide_eq_false (by omega)))
  exact ⟨Eq.mpr hp_44 ⟨2, p, by decide, h2, h3, by rw [hr]; exact h4⟩, trivial⟩

-- dgc
theorem cr_17 (M : pM) (s0 s1 s2 s3 : Int) (b0 : 0 ≤ s0 ∧ s0 ≤ 1900) (b1 : 0 ≤ s1 ∧ s1 ≤ 1900) (b2 : 0 ≤ s2 ∧ s2 ≤ 1900) (b3 : 0 ≤ s3 ∧ s3 ≤ 255) (m0 : HP 44 (s0 + 4096) (s1) M) (m1 : (0 ≤ (s2) ∧ M 1 (s2).toNat = (s3))) (f0 : 0 ≤ ((-1) * s0 + s2)) (f1 : 0 ≤ (s1 + (-1) * s2 - 1)) (hG : gI M) : (0 ≤ (s3 - 48) ∧ 0 ≤ ((-1) * s3 + 57) ∧ True) := by
  have hr := ru_o (P := 2) (p := s0.toNat) m0 ⟨by omega, by decide, by omega⟩
  have hc := isC_2 (ru_in (M := M) (P := 2) (p := s0.toNat) (i := s2.toNat) (by omega) (by omega))
  rw [m1.2] at hc
  exact ⟨by omega, by omega, trivial⟩

-- dv0
theorem cr_18 (M : pM) (s0 : Int) (b0 : 0 ≤ s0 ∧ s0 ≤ 1900) (hG : gI M) : (HP 51 (2049 * s0) (0 : Int) M ∧ True) := by
  exact ⟨Eq.mpr hp_51 ⟨s0.toNat, s0.toNat, Nat.le_refl _, by omega, by omega, by rw [Nat.sub_self]; rfl⟩, trivial⟩

-- dvn
theorem cr_19 (M : pM) (s0 s1 s2 s3 : Int) (b0 : 0 ≤ s0 ∧ s0 ≤ 1900) (b1 : 0 ≤ s1 ∧ s1 ≤ 1900) (b2 : 0 ≤ s2 ∧ s2 ≤ 999) (b3 : 48 ≤ s3 ∧ s3 ≤ 57) (m0 : HP 51 (2048 * s0 + s1) (s2) M) (m1 : (0 ≤ (s1) ∧ M 1 (s1).toNat = (s3))) (f0 : 0 ≤ ((-1) * s0 + s1)) (hG : gI M) : (HP 51 (2048 * s0 + s1 + 1) (10 * s2 + s3 - 48) M ∧ True) := by
  obtain ⟨s, e, h1, h2, h3, h4⟩ := Eq.mp hp_51 m0
  refine ⟨Eq.mpr hp_51 ⟨s, e + 1, by omega, by omega, by omega, ?_⟩, trivial⟩
  rw [show e + 1 - s = (e - s) + 1 by omega]
  show _ = 10 * dv M s (e - s) + (M 1 (s + (e - s)) - 48)
  rw [← h4, show s + (e - s) = s1.toNat by omega, m1.2]
  omega

-- dvx
theorem cr_20 (M : pM) (s0 s1 s2 : Int) (b0 : 0 ≤ s0 ∧ s0 ≤ 3893100) (b1 : 0 ≤ s1 ∧ s1 ≤ 3893100) (b2 : 0 ≤ s2 ∧ s2 ≤ 9999) (m0 : HP 51 (s0) (s2) M) (f0 : 0 ≤ ((-1) * s0 + s1)) (f1 : 0 ≤ (s0 + (-1) * s1)) (hG : gI M) : (HP 51 (s1) (s2) M ∧ True) := by
  have e : s0 = s1 := by omega
  subst e
  exact ⟨m0, trivial⟩

-- tkE
theorem cr_21 (M : pM) (s0 s1 s2 : Int) (b0 : 0 ≤ s0 ∧ s0 ≤ 1900) (b1 : 0 ≤ s1 ∧ s1 ≤ 1900) (b2 : 0 ≤ s2 ∧ s2 ≤ 1900) (m0 : (0 ≤ (1 : Int) ∧ M 2 (1 : Int).toNat = (s2))) (m1 : HP 44 (s0) (s1) M) (f0 : 0 ≤ (s1 + (-1) * s2)) (hG : gI M) : (HP 45 (s0) (s1) M ∧ HP 46 (s0) (s1) M ∧ HP 47 (s0) (131071 : Int) M ∧ True) := by
  have hn := tn_o m0 b2
  have e0 := ru_o (P := 0) (p := s0.toNat) m1 ⟨by omega, by decide, by omega⟩
  exact tk_fin (tk_end (p := s0.toNat) (s := s1.toNat) (by omega) (by omega)) (by omega) (by omega) (by omega) (by omega)

-- tkW
theorem cr_22 (M : pM) (s0 s1 s2 s3 s4 : Int) (b0 : 0 ≤ s0 ∧ s0 ≤ 1900) (b1 : 0 ≤ s1 ∧ s1 ≤ 1900) (b2 : 0 ≤ s2 ∧ s2 ≤ 1900) (b3 : 0 ≤ s3 ∧ s3 ≤ 1900) (b4 : (-1) ≤ s4 ∧ s4 ≤ 24) (m0 : (0 ≤ (1 : Int) ∧ M 2 (1 : Int).toNat = (s2))) (m1 : HP 44 (s0) (s1) M) (m2 : HP 44 (s1 + 2048) (s3) M) (m3 : HP 50 (2048 * s1 + s3) (s4) M) (f0 : 0 ≤ ((-1) * s1 + s2 - 1)) (f1 : 0 ≤ ((-1) * s1 + s3 - 1)) (f2 : 0 ≤ (s1 + (-1) * s3 + 8)) (hG : gI M) : (HP 45 (s0) (s1) M ∧ HP 46 (s0) (s3) M ∧ HP 47 (s0) (s4 + 262144) M ∧ True) := by
  have hn := tn_o m0 b2
  have e0 := ru_o (P := 0) (p := s0.toNat) m1 ⟨by omega, by decide, by omega⟩
  have e1 := ru_o (P := 1) (p := s1.toNat) m2 ⟨by omega, by decide, by omega⟩
  have w := wi_o (s := s1.toNat) (e := s3.toNat) m3 ⟨by omega, by omega, by omega⟩
  exact tk_fin (tk_word (p := s0.toNat) (s := s1.toNat) (e := s3.toNat) (by omega) (by omega) (by omega) (by omega) (by omega)) (by omega) (by omega) (by omega) (by omega)

-- tkL
theorem cr_23 (M : pM) (s0 s1 s2 s3 s4 : Int) (b0 : 0 ≤ s0 ∧ s0 ≤ 1900) (b1 : 0 ≤ s1 ∧ s1 ≤ 1900) (b2 : 0 ≤ s2 ∧ s2 ≤ 1900) (b3 : 0 ≤ s3 ∧ s3 ≤ 1900) (b4 : (-1) ≤ s4 ∧ s4 ≤ 24) (m0 : (0 ≤ (1 : Int) ∧ M 2 (1 : Int).toNat = (s2))) (m1 : HP 44 (s0) (s1) M) (m2 : HP 44 (s1 + 2048) (s3) M) (m3 : HP 50 (2048 * s1 + s3) (s4) M) (f0 : 0 ≤ ((-1) * s1 + s2 - 1)) (f1 : 0 ≤ ((-1) * s1 + s3 - 9)) (hG : gI M) : (HP 45 (s0) (s1) M ∧ HP 46 (s0) (s3) M ∧ HP 47 (s0) (s4) M ∧ 0 ≤ ((-1) * s4 - 1) ∧ 0 ≤ (s4 + 1) ∧ True) := by
  have hn := tn_o m0 b2
  have e0 := ru_o (P := 0) (p := s0.toNat) m1 ⟨by omega, by decide, by omega⟩
  have e1 := ru_o (P := 1) (p := s1.toNat) m2 ⟨by omega, by decide, by omega⟩
  have w := wi_o (s := s1.toNat) (e := s3.toNat) m3 ⟨by omega, by omega, by omega⟩
  have hw := wid_long (M := M) (s := s1.toNat) (e := s3.toNat) (by omega)
  obtain ⟨k1, k2, k3, _⟩ := tk_fin (a := s1) (b := s3) (c := s4) (x := s0) (tk_long (M := M) (p := s0.toNat) (s := s1.toNat) (e := s3.toNat) (by omega) (by omega) (by omega) (by omega)) (by omega) (by omega) (by omega) (by omega)
  exact ⟨k1, k2, k3, by omega, by omega, trivial⟩

-- tkN
theorem cr_24 (M : pM) (s0 s1 s2 s3 s4 : Int) (b0 : 0 ≤ s0 ∧ s0 ≤ 1900) (b1 : 0 ≤ s1 ∧ s1 ≤ 1900) (b2 : 0 ≤ s2 ∧ s2 ≤ 1900) (b3 : 0 ≤ s3 ∧ s3 ≤ 1900) (b4 : 0 ≤ s4 ∧ s4 ≤ 9999) (m0 : (0 ≤ (1 : Int) ∧ M 2 (1 : Int).toNat = (s2))) (m1 : HP 44 (s0) (s1) M) (m2 : HP 44 (s1 + 2048) (s1) M) (m3 : HP 44 (s1 + 4096) (s3) M) (m4 : HP 44 (s3 + 2048) (s3) M) (m5 : HP 51 (2048 * s1 + s3) (s4) M) (f0 : 0 ≤ ((-1) * s1 + s2 - 1)) (f1 : 0 ≤ ((-1) * s1 + s3 - 1)) (f2 : 0 ≤ (s1 + (-1) * s3 + 4)) (hG : gI M) : (HP 45 (s0) (s1) M ∧ HP 46 (s0) (s3) M ∧ HP 47 (s0) (s4 + 393216) M ∧ True) := by
  have hn := tn_o m0 b2
  have e0 := ru_o (P := 0) (p := s0.toNat) m1 ⟨by omega, by decide, by omega⟩
  have e1 := ru_o (P := 1) (p := s1.toNat) m2 ⟨by omega, by decide, by omega⟩
  have e2 := ru_o (P := 2) (p := s1.toNat) m3 ⟨by omega, by decide, by omega⟩
  have e3 := ru_o (P := 1) (p := s3.toNat) m4 ⟨by omega, by decide, by omega⟩
  have w := dv_o (s := s1.toNat) (e := s3.toNat) m5 ⟨by omega, by omega, by omega⟩
  exact tk_fin (tk_num (p := s0.toNat) (s := s1.toNat) (e := s3.toNat) (by omega) (by omega) (by omega) (by omega) (by omega) (by omega) (by omega)) (by omega) (by omega) (by omega) (by omega)

-- tkM
theorem cr_25 (M : pM) (s0 s1 s2 s3 : Int) (b0 : 0 ≤ s0 ∧ s0 ≤ 1900) (b1 : 0 ≤ s1 ∧ s1 ≤ 1900) (b2 : 0 ≤ s2 ∧ s2 ≤ 1900) (b3 : 0 ≤ s3 ∧ s3 ≤ 1900) (m0 : (0 ≤ (1 : Int) ∧ M 2 (1 : Int).toNat = (s2))) (m1 : HP 44 (s0) (s1) M) (m2 : HP 44 (s1 + 2048) (s1) M) (m3 : HP 44 (s1 + 4096) (s3) M) (f0 : 0 ≤ ((-1) * s1 + s2 - 1)) (f1 : 0 ≤ ((-1) * s1 + s3 - 5)) (hG : gI M) : (HP 45 (s0) (s1) M ∧ HP 46 (s0) (s3) M ∧ HP 47 (s0) (-1 : Int) M ∧ True) := by
  have hn := tn_o m0 b2
  have e0 := ru_o (P := 0) (p := s0.toNat) m1 ⟨by omega, by decide, by omega⟩
  have e1 := ru_o (P := 1) (p := s1.toNat) m2 ⟨by omega, by decide, by omega⟩
  have e2 := ru_o (P := 2) (p := s1.toNat) m3 ⟨by omega, by decide, by omega⟩
  exact tk_fin (tk_bad (p := s0.toNat) (s := s1.toNat) (e := s3.toNat) (by omega) (by omega) (by omega) (by omega) (by omega) (fun h => by omega)) (by omega) (by omega) (by omega) (by omega)

-- tkO
theorem cr_26 (M : pM) (s0 s1 s2 s3 s4 : Int) (b0 : 0 ≤ s0 ∧ s0 ≤ 1900) (b1 : 0 ≤ s1 ∧ s1 ≤ 1900) (b2 : 0 ≤ s2 ∧ s2 ≤ 1900) (b3 : 0 ≤ s3 ∧ s3 ≤ 1900) (b4 : 0 ≤ s4 ∧ s4 ≤ 1900) (m0 : (0 ≤ (1 : Int) ∧ M 2 (1 : Int).toNat = (s2))) (m1 : HP 44 (s0) (s1) M) (m2 : HP 44 (s1 + 2048) (s1) M) (m3 : HP 44 (s1 + 4096) (s3) M) (m4 : HP 44 (s3 + 2048) (s4) M) (f0 : 0 ≤ ((-1) * s1 + s2 - 1)) (f1 : 0 ≤ ((-1) * s1 + s3 - 1)) (f2 : 0 ≤ ((-1) * s3 + s4 - 1)) (hG : gI M) : (HP 45 (s0) (s1) M ∧ HP 46 (s0) (s3) M ∧ HP 47 (s0) (-1 : Int) M ∧ True) := by
  have hn := tn_o m0 b2
  have e0 := ru_o (P := 0) (p := s0.toNat) m1 ⟨by omega, by decide, by omega⟩
  have e1 := ru_o (P := 1) (p := s1.toNat) m2 ⟨by omega, by decide, by omega⟩
  have e2 := ru_o (P := 2) (p := s1.toNat) m3 ⟨by omega, by decide, by omega⟩
  have e3 := ru_o (P := 1) (p := s3.toNat) m4 ⟨by omega, by decide, by omega⟩
  exact tk_fin (tk_bad (p := s0.toNat) (s := s1.toNat) (e := s3.toNat) (by omega) (by omega) (by omega) (by omega) (by omega) (fun h => by omega)) (by omega) (by omega) (by omega) (by omega)

-- tkS
theorem cr_27 (M : pM) (s0 s1 s2 s3 s4 : Int) (b0 : 0 ≤ s0 ∧ s0 ≤ 1900) (b1 : 0 ≤ s1 ∧ s1 ≤ 1900) (b2 : 0 ≤ s2 ∧ s2 ≤ 1900) (b3 : 0 ≤ s3 ∧ s3 ≤ 255) (b4 : 0 ≤ s4 ∧ s4 ≤ 127) (m0 : (0 ≤ (1 : Int) ∧ M 2 (1 : Int).toNat = (s2))) (m1 : HP 44 (s0) (s1) M) (m2 : HP 44 (s1 + 2048) (s1) M) (m3 : HP 44 (s1 + 4096) (s1) M) (m4 : (0 ≤ (s1) ∧ M 1 (s1).toNat = (s3))) (m5 : HP 70 (s4) (0 : Int) M) (f0 : 0 ≤ ((-1) * s1 + s2 - 1)) (f1 : 0 ≤ (s3 + (-1) * s4)) (f2 : 0 ≤ ((-1) * s3 + s4)) (hG : gI M) : (HP 45 (s0) (s1) M ∧ HP 46 (s0) (s1 + 1) M ∧ HP 47 (s0) (s3 + 524288) M ∧ True) := by
  have hn := tn_o m0 b2
  have e0 := ru_o (P := 0) (p := s0.toNat) m1 ⟨by omega, by decide, by omega⟩
  have e1 := ru_o (P := 1) (p := s1.toNat) m2 ⟨by omega, by decide, by omega⟩
  have e2 := ru_o (P := 2) (p := s1.toNat) m3 ⟨by omega, by decide, by omega⟩
  have q := tk_sign (M := M) (p := s0.toNat) (s := s1.toNat) (by omega) (by omega) (by omega) (by omega)
  rw [m4.2] at q
  have hs : s3 ∈ sgs := by have := Eq.mp hp_70 m5; rw [show s3 = s4 by omega]; exact this
  rw [if_pos hs] at q
  exact tk_fin q (by omega) (by omega) (by omega) (by omega)

-- tkT
theorem cr_28 (M : pM) (s0 s1 s2 s3 : Int) (b0 : 0 ≤ s0 ∧ s0 ≤ 1900) (b1 : 0 ≤ s1 ∧ s1 ≤ 1900) (b2 : 0 ≤ s2 ∧ s2 ≤ 1900) (b3 : 0 ≤ s3 ∧ s3 ≤ 255) (m0 : (0 ≤ (1 : Int) ∧ M 2 (1 : Int).toNat = (s2))) (m1 : HP 44 (s0) (s1) M) (m2 : HP 40 (0 : Int) (0 : Int) M) (m3 : HP 44 (s1 + 2048) (s1) M) (m4 : HP 44 (s1 + 4096) (s1) M) (m5 : (0 ≤ (s1) ∧ M 1 (s1).toNat = (s3))) (m6 : HP 69 (10 : Int) (s3) M) (f0 : 0 ≤ ((-1) * s1 + s2 - 1)) (hG : gI M) : (HP 45 (s0) (s1) M ∧ HP 46 (s0) (s1 + 1) M ∧ HP 47 (s0) (s3) M ∧ True) := by
  have hn := tn_o m0 b2
  have e0 := ru_o (P := 0) (p := s0.toNat) m1 ⟨by omega, by decide, by omega⟩
  have e1 := ru_o (P := 1) (p := s1.toNat) m3 ⟨by omega, by decide, by omega⟩
  have e2 := ru_o (P := 2) (p := s1.toNat) m4 ⟨by omega, by decide, by omega⟩
  have q := tk_sign (M := M) (p := s0.toNat) (s := s1.toNat) (by omega) (by omega) (by omega) (by omega)
  rw [m5.2] at q
  rw [if_neg (sn_no m2 m6)] at q
  exact tk_fin q (by omega) (by omega) (by omega) (by omega)

-- sgf
theorem cr_29 (M : pM) (s0 s1 : Int) (b0 : 0 ≤ s0 ∧ s0 ≤ 9) (b1 : 0 ≤ s1 ∧ s1 ≤ 127) (m0 : HP 40 (0 : Int) (0 : Int) M) (m1 : (0 ≤ (s0) ∧ M 1007 (s0).toNat = (s1))) (hG : gI M) : (HP 70 (s1) (0 : Int) M ∧ True) := by
  exact ⟨Eq.mpr hp_70 (by rw [← m1.2, (Eq.mp hp_40 m0).2 s0.toNat (by omega)]; exact sgs_at _ (by omega)), trivial⟩

-- sn0
theorem cr_30 (M : pM) (s0 : Int) (b0 : 0 ≤ s0 ∧ s0 ≤ 255) (hG : gI M) : (HP 69 (0 : Int) (s0) M ∧ True) := by
  exact ⟨Eq.mpr hp_69 (fun i h1 h2 => by omega), trivial⟩

-- snn
theorem cr_31 (M : pM) (s0 s1 s2 : Int) (b0 : 0 ≤ s0 ∧ s0 ≤ 255) (b1 : 0 ≤ s1 ∧ s1 ≤ 9) (b2 : 0 ≤ s2 ∧ s2 ≤ 127) (m0 : HP 69 (s1) (s0) M) (m1 : (0 ≤ (s1) ∧ M 1007 (s1).toNat = (s2))) (f0 : 0 ≤ (s0 + (-1) * s2 - 1)) (hG : gI M) : (HP 69 (s1 + 1) (s0) M ∧ True) := by
  exact ⟨Eq.mpr hp_69 (fun i h1 h2 => if e : i = s1.toNat then (by rw [e, m1.2]; omega) else Eq.mp hp_69 m0 i h1 (by omega)), trivial⟩

-- sno
theorem cr_32 (M : pM) (s0 s1 s2 : Int) (b0 : 0 ≤ s0 ∧ s0 ≤ 255) (b1 : 0 ≤ s1 ∧ s1 ≤ 9) (b2 : 0 ≤ s2 ∧ s2 ≤ 127) (m0 : HP 69 (s1) (s0) M) (m1 : (0 ≤ (s1) ∧ M 1007 (s1).toNat = (s2))) (f0 : 0 ≤ ((-1) * s0 + s2 - 1)) (hG : gI M) : (HP 69 (s1 + 1) (s0) M ∧ True) := by
  exact ⟨Eq.mpr hp_69 (fun i h1 h2 => if e : i = s1.toNat then (by rw [e, m1.2]; omega) else Eq.mp hp_69 m0 i h1 (by omega)), trivial⟩

-- snx
theorem cr_33 (M : pM) (s0 s1 : Int) (b0 : 0 ≤ s0 ∧ s0 ≤ 255) (b1 : 0 ≤ s1 ∧ s1 ≤ 10) (m0 : HP 69 (s1) (s0) M) (f0 : 0 ≤ (s1 - 10)) (hG : gI M) : (HP 69 (10 : Int) (s0) M ∧ True) := by
  exact ⟨Eq.mpr hp_69 (fun i h1 h2 => Eq.mp hp_69 m0 i h1 (by omega)), trivial⟩

-- i2c
theorem cr_34 (M : pM) (s0 s1 : Int) (b0 : 0 ≤ s0 ∧ s0 ≤ 65535) (b1 : (-2147483648) ≤ s1 ∧ s1 ≤ 2147483647) (m0 : HP 121 (s0) (s1) M) (hG : gI M) : (0 ≤ (s0 + (-1) * s1) ∧ 0 ≤ ((-1) * s0 + s1) ∧ True) := by
  have e := n_i2c m0
  rw [i2c_id (by omega)] at e
  exact ⟨by omega, by omega, trivial⟩

-- i2b
theorem cr_685 (M : pM) (s0 s1 : Int) (b0 : (-2147483648) ≤ s0 ∧ s0 ≤ 2147483647) (b1 : (-2147483648) ≤ s1 ∧ s1 ≤ 2147483647) (m0 : HP 120 (s0) (s1) M) (hG : gI M) : (0 ≤ (s1 + 128) ∧ 0 ≤ ((-1) * s1 + 127) ∧ True) := by
  have e := n_i2b m0
  unfold w8 at e
  exact ⟨by omega, by omega, trivial⟩

-- kw0
theorem cr_36 (M : pM) (s0 s1 : Int) (b0 : 0 ≤ s0 ∧ s0 ≤ 1900) (b1 : 0 ≤ s1 ∧ s1 ≤ 1900) (f0 : 0 ≤ ((-1) * s0 + s1)) (hG : gI M) : (HP 178 (0 : Int) (0 : Int) M ∧ HP 179 (2048 * s0 + s1) (0 : Int) M ∧ HP 180 (2048 * s0 + s1) (0 : Int) M ∧ True) := by
  refine ⟨Eq.mpr hp_178 ⟨0, by decide, rfl, rfl⟩, Eq.mpr hp_179 ⟨s0.toNat, s1.toNat, 0, ⟨by omega, by omega, by decide⟩, by omega, rfl, fun k hk => absurd hk (Nat.not_lt_zero k)⟩, Eq.mpr hp_180 ⟨s0.toNat, s1.toNat, 0, ⟨by omega, by omega, by decide⟩, by omega, rfl, Nat.zero_le _, fun k hk => absurd hk (Nat.not_lt_zero k)⟩, trivial⟩

-- kwn0
theorem cr_37 (M : pM) (s0 s1 s2 s3 s4 s5 : Int) (b0 : 0 ≤ s0 ∧ s0 ≤ 1900) (b1 : 0 ≤ s1 ∧ s1 ≤ 1900) (b2 : 0 ≤ s2 ∧ s2 ≤ 125) (b3 : 0 ≤ s3 ∧ s3 ≤ 24) (b4 : 0 ≤ s4 ∧ s4 ≤ 15) (b5 : 0 ≤ s5 ∧ s5 ≤ 255) (m0 : HP 40 (0 : Int) (0 : Int) M) (m1 : HP 178 (s2) (32 * s3 + s4) M) (m2 : HP 179 (2048 * s0 + s1) (s2) M) (m3 : (0 ≤ (s2) ∧ M 1005 (s2).toNat = (s5))) (f0 : 0 ≤ ((-1) * s5 + 31)) (hG : gI M) : (HP 178 (s2 + 1) (32 * s3 + s4 + 1) M ∧ HP 179 (2048 * s0 + s1) (s2 + 1) M ∧ 0 ≤ ((-1) * s4 + 14) ∧ 0 ≤ ((-1) * s3 + 23) ∧ True) := by
  have hd : M 1005 s2.toNat = s5 := m3.2
  obtain ⟨w1, w2, w3⟩ := kw_o (i := s2) (n := s3) (m := s4) m0 m1 rfl (by omega) (by omega) (by omega) hd
  have hne : wds.getD s2.toNat 0 ≠ 32 := by omega
  have hs := qws_sn hne
  obtain ⟨q1, q2, q3, q4⟩ := qws_n s2.toNat (by omega) hne
  obtain ⟨ks, ke, ki, ⟨ka, kb, kc⟩, kx, ky, kh⟩ := Eq.mp hp_179 m2
  have kes : ks = s0.toNat := by omega
  have kee : ke = s1.toNat := by omega
  have kei : ki = s2.toNat := by omega
  subst kes kee kei
  exact ⟨Eq.mpr hp_178 ⟨s2.toNat + 1, by omega, by omega, by rw [hs]; show _ = 32 * ((qws s2.toNat).1 : Int) + (((qws s2.toNat).2 + 1 : Nat) : Int); omega⟩, Eq.mpr hp_179 ⟨s0.toNat, s1.toNat, s2.toNat + 1, ⟨by omega, by omega, by omega⟩, by omega, by omega, by rw [hs]; exact kh⟩, by omega, by omega, trivial⟩

-- kwa0
theorem cr_38 (M : pM) (s0 s1 s2 s3 s4 s5 s6 : Int) (b0 : 0 ≤ s0 ∧ s0 ≤ 1900) (b1 : 0 ≤ s1 ∧ s1 ≤ 1900) (b2 : 0 ≤ s2 ∧ s2 ≤ 125) (b3 : 0 ≤ s3 ∧ s3 ≤ 24) (b4 : 0 ≤ s4 ∧ s4 ≤ 15) (b5 : 0 ≤ s5 ∧ s5 ≤ 255) (b6 : 0 ≤ s6 ∧ s6 ≤ 255) (m0 : HP 40 (0 : Int) (0 : Int) M) (m1 : HP 178 (s2) (32 * s3 + s4) M) (m2 : HP 180 (2048 * s0 + s1) (s2) M) (m3 : (0 ≤ (s2) ∧ M 1005 (s2).toNat = (s5))) (m4 : (0 ≤ (s0 + s4) ∧ M 1 (s0 + s4).toNat = (s6))) (f0 : 0 ≤ ((-1) * s5 + 31)) (f1 : 0 ≤ (s5 + (-1) * s6)) (f2 : 0 ≤ ((-1) * s5 + s6)) (f3 : 0 ≤ ((-1) * s0 + s1 + (-1) * s4 - 1)) (hG : gI M) : (HP 180 (2048 * s0 + s1) (s2 + 1) M ∧ True) := by
  have hd : M 1005 s2.toNat = s5 := m3.2
  obtain ⟨w1, w2, w3⟩ := kw_o (i := s2) (n := s3) (m := s4) m0 m1 rfl (by omega) (by omega) (by omega) hd
  have hne : wds.getD s2.toNat 0 ≠ 32 := by omega
  have hs := qws_sn hne
  obtain ⟨q1, q2, q3, q4⟩ := qws_n s2.toNat (by omega) hne
  obtain ⟨ks, ke, ki, ⟨ka, kb, kc⟩, kx, ky, kh⟩ := Eq.mp hp_180 m2
  have kes : ks = s0.toNat := by omega
  have kee : ke = s1.toNat := by omega
  have kei : ki = s2.toNat := by omega
  subst kes kee kei
  obtain ⟨kh, kj⟩ := kh
  have hr := rd1 m4 (by omega)
  refine ⟨Eq.mpr hp_180 ⟨s0.toNat, s1.toNat, s2.toNat + 1, ⟨by omega, by omega, by omega⟩, by omega, by omega, ?_⟩, trivial⟩
  rw [hs]
  refine ⟨by show (qws s2.toNat).2 + 1 ≤ _; omega, fun j hj => ?_⟩
  show _ = (kws.getD (qws s2.toNat).1 []).getD j 0
  have hj : j < (qws s2.toNat).2 + 1 := hj
  by_cases e : j = (qws s2.toNat).2
  · rw [e, q3, w1, show s0.toNat + (qws s2.toNat).2 = (s0 + s4).toNat by omega]
    first | (rw [hr]; omega) | (rw [show (s0 + s4).toNat = (s4 + s0).toNat by omega, hr]; omega)
  · exact kj j (by omega)

-- kwb0_0
theorem cr_39 (M : pM) (s0 s1 s2 s3 s4 s5 s6 : Int) (b0 : 0 ≤ s0 ∧ s0 ≤ 1900) (b1 : 0 ≤ s1 ∧ s1 ≤ 1900) (b2 : 0 ≤ s2 ∧ s2 ≤ 125) (b3 : 0 ≤ s3 ∧ s3 ≤ 24) (b4 : 0 ≤ s4 ∧ s4 ≤ 15) (b5 : 0 ≤ s5 ∧ s5 ≤ 255) (b6 : 0 ≤ s6 ∧ s6 ≤ 255) (m0 : HP 40 (0 : Int) (0 : Int) M) (m1 : HP 178 (s2) (32 * s3 + s4) M) (m2 : (0 ≤ (s2) ∧ M 1005 (s2).toNat = (s5))) (m3 : (0 ≤ (s0 + s4) ∧ M 1 (s0 + s4).toNat = (s6))) (f0 : 0 ≤ ((-1) * s5 + 31)) (f1 : 0 ≤ (s5 + (-1) * s6 - 1)) (f2 : 0 ≤ ((-1) * s0 + s1 + (-1) * s4 - 1)) (hG : gI M) : (HP 181 (2048 * s0 + s1) (s2 + 1) M ∧ True) := by
  have hd : M 1005 s2.toNat = s5 := m2.2
  obtain ⟨w1, w2, w3⟩ := kw_o (i := s2) (n := s3) (m := s4) m0 m1 rfl (by omega) (by omega) (by omega) hd
  have hne : wds.getD s2.toNat 0 ≠ 32 := by omega
  have hs := qws_sn hne
  obtain ⟨q1, q2, q3, q4⟩ := qws_n s2.toNat (by omega) hne
  have hr := rd1 m3 (by omega)
  refine ⟨Eq.mpr hp_181 ⟨s0.toNat, s1.toNat, s2.toNat + 1, ⟨by omega, by omega, by omega⟩, by omega, by omega, fun hb => ?_⟩, trivial⟩
  rw [hs] at hb
  have hb : bts (tm M) s0.toNat (s1.toNat - s0.toNat) = kws.getD (qws s2.toNat).1 [] := hb
  have h1 := bts_at (N := tm M) (s := s0.toNat) (k := s1.toNat - s0.toNat) (j := (qws s2.toNat).2) (by omega)
  rw [hb, q3, w1, show s0.toNat + (qws s2.toNat).2 = (s0 + s4).toNat by omega] at h1
  first | (rw [hr] at h1; omega) | (rw [show (s0 + s4).toNat = (s4 + s0).toNat by omega, hr] at h1; omega)

-- kwb0_1
theorem cr_40 (M : pM) (s0 s1 s2 s3 s4 s5 s6 : Int) (b0 : 0 ≤ s0 ∧ s0 ≤ 1900) (b1 : 0 ≤ s1 ∧ s1 ≤ 1900) (b2 : 0 ≤ s2 ∧ s2 ≤ 125) (b3 : 0 ≤ s3 ∧ s3 ≤ 24) (b4 : 0 ≤ s4 ∧ s4 ≤ 15) (b5 : 0 ≤ s5 ∧ s5 ≤ 255) (b6 : 0 ≤ s6 ∧ s6 ≤ 255) (m0 : HP 40 (0 : Int) (0 : Int) M) (m1 : HP 178 (s2) (32 * s3 + s4) M) (m2 : (0 ≤ (s2) ∧ M 1005 (s2).toNat = (s5))) (m3 : (0 ≤ (s0 + s4) ∧ M 1 (s0 + s4).toNat = (s6))) (f0 : 0 ≤ ((-1) * s5 + 31)) (f1 : 0 ≤ ((-1) * s5 + s6 - 1)) (f2 : 0 ≤ ((-1) * s0 + s1 + (-1) * s4 - 1)) (hG : gI M) : (HP 181 (2048 * s0 + s1) (s2 + 1) M ∧ True) := by
  have hd : M 1005 s2.toNat = s5 := m2.2
  obtain ⟨w1, w2, w3⟩ := kw_o (i := s2) (n := s3) (m := s4) m0 m1 rfl (by omega) (by omega) (by omega) hd
  have hne : wds.getD s2.toNat 0 ≠ 32 := by omega
  have hs := qws_sn hne
  obtain ⟨q1, q2, q3, q4⟩ := qws_n s2.toNat (by omega) hne
  have hr := rd1 m3 (by omega)
  refine ⟨Eq.mpr hp_181 ⟨s0.toNat, s1.toNat, s2.toNat + 1, ⟨by omega, by omega, by omega⟩, by omega, by omega, fun hb => ?_⟩, trivial⟩
  rw [hs] at hb
  have hb : bts (tm M) s0.toNat (s1.toNat - s0.toNat) = kws.getD (qws s2.toNat).1 [] := hb
  have h1 := bts_at (N := tm M) (s := s0.toNat) (k := s1.toNat - s0.toNat) (j := (qws s2.toNat).2) (by omega)
  rw [hb, q3, w1, show s0.toNat + (qws s2.toNat).2 = (s0 + s4).toNat by omega] at h1
  first | (rw [hr] at h1; omega) | (rw [show (s0 + s4).toNat = (s4 + s0).toNat by omega, hr] at h1; omega)

-- kwc0
theorem cr_41 (M : pM) (s0 s1 s2 s3 s4 s5 : Int) (b0 : 0 ≤ s0 ∧ s0 ≤ 1900) (b1 : 0 ≤ s1 ∧ s1 ≤ 1900) (b2 : 0 ≤ s2 ∧ s2 ≤ 125) (b3 : 0 ≤ s3 ∧ s3 ≤ 24) (b4 : 0 ≤ s4 ∧ s4 ≤ 15) (b5 : 0 ≤ s5 ∧ s5 ≤ 255) (m0 : HP 40 (0 : Int) (0 : Int) M) (m1 : HP 178 (s2) (32 * s3 + s4) M) (m2 : (0 ≤ (s2) ∧ M 1005 (s2).toNat = (s5))) (f0 : 0 ≤ ((-1) * s5 + 31)) (f1 : 0 ≤ (s0 + (-1) * s1 + s4)) (hG : gI M) : (HP 181 (2048 * s0 + s1) (s2 + 1) M ∧ True) := by
  have hd : M 1005 s2.toNat = s5 := m2.2
  obtain ⟨w1, w2, w3⟩ := kw_o (i := s2) (n := s3) (m := s4) m0 m1 rfl (by omega) (by omega) (by omega) hd
  have hne : wds.getD s2.toNat 0 ≠ 32 := by omega
  have hs := qws_sn hne
  obtain ⟨q1, q2, q3, q4⟩ := qws_n s2.toNat (by omega) hne
  refine ⟨Eq.mpr hp_181 ⟨s0.toNat, s1.toNat, s2.toNat + 1, ⟨by omega, by omega, by omega⟩, by omega, by omega, fun hb => ?_⟩, trivial⟩
  rw [hs] at hb
  have hb : bts (tm M) s0.toNat (s1.toNat - s0.toNat) = kws.getD (qws s2.toNat).1 [] := hb
  have h1 := bts_len (N := tm M) (s := s0.toNat) (k := s1.toNat - s0.toNat)
  rw [hb] at h1
  omega

-- kwd0
theorem cr_42 (M : pM) (s0 s1 s2 s3 : Int) (b0 : 0 ≤ s0 ∧ s0 ≤ 1900) (b1 : 0 ≤ s1 ∧ s1 ≤ 1900) (b2 : 0 ≤ s2 ∧ s2 ≤ 125) (b3 : 0 ≤ s3 ∧ s3 ≤ 255) (m0 : HP 40 (0 : Int) (0 : Int) M) (m1 : HP 181 (2048 * s0 + s1) (s2) M) (m2 : (0 ≤ (s2) ∧ M 1005 (s2).toNat = (s3))) (f0 : 0 ≤ ((-1) * s3 + 31)) (hG : gI M) : (HP 181 (2048 * s0 + s1) (s2 + 1) M ∧ True) := by
  have w1 : wds.getD s2.toNat 0 = s3 := by rw [← (Eq.mp hp_40 m0).1 s2.toNat (by omega)]; exact m2.2
  have hne : wds.getD s2.toNat 0 ≠ 32 := by omega
  have hs := qws_sn hne
  obtain ⟨q1, q2, q3, q4⟩ := qws_n s2.toNat (by omega) hne
  obtain ⟨ks, ke, ki, ⟨ka, kb, kc⟩, kx, ky, kh⟩ := Eq.mp hp_181 m1
  have kes : ks = s0.toNat := by omega
  have kee : ke = s1.toNat := by omega
  have kei : ki = s2.toNat := by omega
  subst kes kee kei
  exact ⟨Eq.mpr hp_181 ⟨s0.toNat, s1.toNat, s2.toNat + 1, ⟨by omega, by omega, by omega⟩, by omega, by omega, by rw [hs]; exact kh⟩, trivial⟩

-- kwn1
theorem cr_43 (M : pM) (s0 s1 s2 s3 s4 s5 : Int) (b0 : 0 ≤ s0 ∧ s0 ≤ 1900) (b1 : 0 ≤ s1 ∧ s1 ≤ 1900) (b2 : 0 ≤ s2 ∧ s2 ≤ 125) (b3 : 0 ≤ s3 ∧ s3 ≤ 24) (b4 : 0 ≤ s4 ∧ s4 ≤ 15) (b5 : 0 ≤ s5 ∧ s5 ≤ 255) (m0 : HP 40 (0 : Int) (0 : Int) M) (m1 : HP 178 (s2) (32 * s3 + s4) M) (m2 : HP 179 (2048 * s0 + s1) (s2) M) (m3 : (0 ≤ (s2) ∧ M 1005 (s2).toNat = (s5))) (f0 : 0 ≤ (s5 - 33)) (hG : gI M) : (HP 178 (s2 + 1) (32 * s3 + s4 + 1) M ∧ HP 179 (2048 * s0 + s1) (s2 + 1) M ∧ 0 ≤ ((-1) * s4 + 14) ∧ 0 ≤ ((-1) * s3 + 23) ∧ True) := by
  have hd : M 1005 s2.toNat = s5 := m3.2
  obtain ⟨w1, w2, w3⟩ := kw_o (i := s2) (n := s3) (m := s4) m0 m1 rfl (by omega) (by omega) (by omega) hd
  have hne : wds.getD s2.toNat 0 ≠ 32 := by omega
  have hs := qws_sn hne
  obtain ⟨q1, q2, q3, q4⟩ := qws_n s2.toNat (by omega) hne
  obtain ⟨ks, ke, ki, ⟨ka, kb, kc⟩, kx, ky, kh⟩ := Eq.mp hp_179 m2
  have kes : ks = s0.toNat := by omega
  have kee : ke = s1.toNat := by omega
  have kei : ki = s2.toNat := by omega
  subst kes kee kei
  exact ⟨Eq.mpr hp_178 ⟨s2.toNat + 1, by omega, by omega, by rw [hs]; show _ = 32 * ((qws s2.toNat).1 : Int) + (((qws s2.toNat).2 + 1 : Nat) : Int); omega⟩, Eq.mpr hp_179 ⟨s0.toNat, s1.toNat, s2.toNat + 1, ⟨by omega, by omega, by omega⟩, by omega, by omega, by rw [hs]; exact kh⟩, by omega, by omega, trivial⟩

-- kwa1
theorem cr_44 (M : pM) (s0 s1 s2 s3 s4 s5 s6 : Int) (b0 : 0 ≤ s0 ∧ s0 ≤ 1900) (b1 : 0 ≤ s1 ∧ s1 ≤ 1900) (b2 : 0 ≤ s2 ∧ s2 ≤ 125) (b3 : 0 ≤ s3 ∧ s3 ≤ 24) (b4 : 0 ≤ s4 ∧ s4 ≤ 15) (b5 : 0 ≤ s5 ∧ s5 ≤ 255) (b6 : 0 ≤ s6 ∧ s6 ≤ 255) (m0 : HP 40 (0 : Int) (0 : Int) M) (m1 : HP 178 (s2) (32 * s3 + s4) M) (m2 : HP 180 (2048 * s0 + s1) (s2) M) (m3 : (0 ≤ (s2) ∧ M 1005 (s2).toNat = (s5))) (m4 : (0 ≤ (s0 + s4) ∧ M 1 (s0 + s4).toNat = (s6))) (f0 : 0 ≤ (s5 - 33)) (f1 : 0 ≤ (s5 + (-1) * s6)) (f2 : 0 ≤ ((-1) * s5 + s6)) (f3 : 0 ≤ ((-1) * s0 + s1 + (-1) * s4 - 1)) (hG : gI M) : (HP 180 (2048 * s0 + s1) (s2 + 1) M ∧ True) := by
  have hd : M 1005 s2.toNat = s5 := m3.2
  obtain ⟨w1, w2, w3⟩ := kw_o (i := s2) (n := s3) (m := s4) m0 m1 rfl (by omega) (by omega) (by omega) hd
  have hne : wds.getD s2.toNat 0 ≠ 32 := by omega
  have hs := qws_sn hne
  obtain ⟨q1, q2, q3, q4⟩ := qws_n s2.toNat (by omega) hne
  obtain ⟨ks, ke, ki, ⟨ka, kb, kc⟩, kx, ky, kh⟩ := Eq.mp hp_180 m2
  have kes : ks = s0.toNat := by omega
  have kee : ke = s1.toNat := by omega
  have kei : ki = s2.toNat := by omega
  subst kes kee kei
  obtain ⟨kh, kj⟩ := kh
  have hr := rd1 m4 (by omega)
  refine ⟨Eq.mpr hp_180 ⟨s0.toNat, s1.toNat, s2.toNat + 1, ⟨by omega, by omega, by omega⟩, by omega, by omega, ?_⟩, trivial⟩
  rw [hs]
  refine ⟨by show (qws s2.toNat).2 + 1 ≤ _; omega, fun j hj => ?_⟩
  show _ = (kws.getD (qws s2.toNat).1 []).getD j 0
  have hj : j < (qws s2.toNat).2 + 1 := hj
  by_cases e : j = (qws s2.toNat).2
  · rw [e, q3, w1, show s0.toNat + (qws s2.toNat).2 = (s0 + s4).toNat by omega]
    first | (rw [hr]; omega) | (rw [show (s0 + s4).toNat = (s4 + s0).toNat by omega, hr]; omega)
  · exact kj j (by omega)

-- kwb1_0
theorem cr_45 (M : pM) (s0 s1 s2 s3 s4 s5 s6 : Int) (b0 : 0 ≤ s0 ∧ s0 ≤ 1900) (b1 : 0 ≤ s1 ∧ s1 ≤ 1900) (b2 : 0 ≤ s2 ∧ s2 ≤ 125) (b3 : 0 ≤ s3 ∧ s3 ≤ 24) (b4 : 0 ≤ s4 ∧ s4 ≤ 15) (b5 : 0 ≤ s5 ∧ s5 ≤ 255) (b6 : 0 ≤ s6 ∧ s6 ≤ 255) (m0 : HP 40 (0 : Int) (0 : Int) M) (m1 : HP 178 (s2) (32 * s3 + s4) M) (m2 : (0 ≤ (s2) ∧ M 1005 (s2).toNat = (s5))) (m3 : (0 ≤ (s0 + s4) ∧ M 1 (s0 + s4).toNat = (s6))) (f0 : 0 ≤ (s5 - 33)) (f1 : 0 ≤ (s5 + (-1) * s6 - 1)) (f2 : 0 ≤ ((-1) * s0 + s1 + (-1) * s4 - 1)) (hG : gI M) : (HP 181 (2048 * s0 + s1) (s2 + 1) M ∧ True) := by
  have hd : M 1005 s2.toNat = s5 := m2.2
  obtain ⟨w1, w2, w3⟩ := kw_o (i := s2) (n := s3) (m := s4) m0 m1 rfl (by omega) (by omega) (by omega) hd
  have hne : wds.getD s2.toNat 0 ≠ 32 := by omega
  have hs := qws_sn hne
  obtain ⟨q1, q2, q3, q4⟩ := qws_n s2.toNat (by omega) hne
  have hr := rd1 m3 (by omega)
  refine ⟨Eq.mpr hp_181 ⟨s0.toNat, s1.toNat, s2.toNat + 1, ⟨by omega, by omega, by omega⟩, by omega, by omega, fun hb => ?_⟩, trivial⟩
  rw [hs] at hb
  have hb : bts (tm M) s0.toNat (s1.toNat - s0.toNat) = kws.getD (qws s2.toNat).1 [] := hb
  have h1 := bts_at (N := tm M) (s := s0.toNat) (k := s1.toNat - s0.toNat) (j := (qws s2.toNat).2) (by omega)
  rw [hb, q3, w1, show s0.toNat + (qws s2.toNat).2 = (s0 + s4).toNat by omega] at h1
  first | (rw [hr] at h1; omega) | (rw [show (s0 + s4).toNat = (s4 + s0).toNat by omega, hr] at h1; omega)

-- kwb1_1
theorem cr_46 (M : pM) (s0 s1 s2 s3 s4 s5 s6 : Int) (b0 : 0 ≤ s0 ∧ s0 ≤ 1900) (b1 : 0 ≤ s1 ∧ s1 ≤ 1900) (b2 : 0 ≤ s2 ∧ s2 ≤ 125) (b3 : 0 ≤ s3 ∧ s3 ≤ 24) (b4 : 0 ≤ s4 ∧ s4 ≤ 15) (b5 : 0 ≤ s5 ∧ s5 ≤ 255) (b6 : 0 ≤ s6 ∧ s6 ≤ 255) (m0 : HP 40 (0 : Int) (0 : Int) M) (m1 : HP 178 (s2) (32 * s3 + s4) M) (m2 : (0 ≤ (s2) ∧ M 1005 (s2).toNat = (s5))) (m3 : (0 ≤ (s0 + s4) ∧ M 1 (s0 + s4).toNat = (s6))) (f0 : 0 ≤ (s5 - 33)) (f1 : 0 ≤ ((-1) * s5 + s6 - 1)) (f2 : 0 ≤ ((-1) * s0 + s1 + (-1) * s4 - 1)) (hG : gI M) : (HP 181 (2048 * s0 + s1) (s2 + 1) M ∧ True) := by
  have hd : M 1005 s2.toNat = s5 := m2.2
  obtain ⟨w1, w2, w3⟩ := kw_o (i := s2) (n := s3) (m := s4) m0 m1 rfl (by omega) (by omega) (by omega) hd
  have hne : wds.getD s2.toNat 0 ≠ 32 := by omega
  have hs := qws_sn hne
  obtain ⟨q1, q2, q3, q4⟩ := qws_n s2.toNat (by omega) hne
  have hr := rd1 m3 (by omega)
  refine ⟨Eq.mpr hp_181 ⟨s0.toNat, s1.toNat, s2.toNat + 1, ⟨by omega, by omega, by omega⟩, by omega, by omega, fun hb => ?_⟩, trivial⟩
  rw [hs] at hb
  have hb : bts (tm M) s0.toNat (s1.toNat - s0.toNat) = kws.getD (qws s2.toNat).1 [] := hb
  have h1 := bts_at (N := tm M) (s := s0.toNat) (k := s1.toNat - s0.toNat) (j := (qws s2.toNat).2) (by omega)
  rw [hb, q3, w1, show s0.toNat + (qws s2.toNat).2 = (s0 + s4).toNat by omega] at h1
  first | (rw [hr] at h1; omega) | (rw [show (s0 + s4).toNat = (s4 + s0).toNat by omega, hr] at h1; omega)

-- kwc1
theorem cr_47 (M : pM) (s0 s1 s2 s3 s4 s5 : Int) (b0 : 0 ≤ s0 ∧ s0 ≤ 1900) (b1 : 0 ≤ s1 ∧ s1 ≤ 1900) (b2 : 0 ≤ s2 ∧ s2 ≤ 125) (b3 : 0 ≤ s3 ∧ s3 ≤ 24) (b4 : 0 ≤ s4 ∧ s4 ≤ 15) (b5 : 0 ≤ s5 ∧ s5 ≤ 255) (m0 : HP 40 (0 : Int) (0 : Int) M) (m1 : HP 178 (s2) (32 * s3 + s4) M) (m2 : (0 ≤ (s2) ∧ M 1005 (s2).toNat = (s5))) (f0 : 0 ≤ (s5 - 33)) (f1 : 0 ≤ (s0 + (-1) * s1 + s4)) (hG : gI M) : (HP 181 (2048 * s0 + s1) (s2 + 1) M ∧ True) := by
  have hd : M 1005 s2.toNat = s5 := m2.2
  obtain ⟨w1, w2, w3⟩ := kw_o (i := s2) (n := s3) (m := s4) m0 m1 rfl (by omega) (by omega) (by omega) hd
  have hne : wds.getD s2.toNat 0 ≠ 32 := by omega
  have hs := qws_sn hne
  obtain ⟨q1, q2, q3, q4⟩ := qws_n s2.toNat (by omega) hne
  refine ⟨Eq.mpr hp_181 ⟨s0.toNat, s1.toNat, s2.toNat + 1, ⟨by omega, by omega, by omega⟩, by omega, by omega, fun hb => ?_⟩, trivial⟩
  rw [hs] at hb
  have hb : bts (tm M) s0.toNat (s1.toNat - s0.toNat) = kws.getD (qws s2.toNat).1 [] := hb
  have h1 := bts_len (N := tm M) (s := s0.toNat) (k := s1.toNat - s0.toNat)
  rw [hb] at h1
  omega

-- kwd1
theorem cr_48 (M : pM) (s0 s1 s2 s3 : Int) (b0 : 0 ≤ s0 ∧ s0 ≤ 1900) (b1 : 0 ≤ s1 ∧ s1 ≤ 1900) (b2 : 0 ≤ s2 ∧ s2 ≤ 125) (b3 : 0 ≤ s3 ∧ s3 ≤ 255) (m0 : HP 40 (0 : Int) (0 : Int) M) (m1 : HP 181 (2048 * s0 + s1) (s2) M) (m2 : (0 ≤ (s2) ∧ M 1005 (s2).toNat = (s3))) (f0 : 0 ≤ (s3 - 33)) (hG : gI M) : (HP 181 (2048 * s0 + s1) (s2 + 1) M ∧ True) := by
  have w1 : wds.getD s2.toNat 0 = s3 := by rw [← (Eq.mp hp_40 m0).1 s2.toNat (by omega)]; exact m2.2
  have hne : wds.getD s2.toNat 0 ≠ 32 := by omega
  have hs := qws_sn hne
  obtain ⟨q1, q2, q3, q4⟩ := qws_n s2.toNat (by omega) hne
  obtain ⟨ks, ke, ki, ⟨ka, kb, kc⟩, kx, ky, kh⟩ := Eq.mp hp_181 m1
  have kes : ks = s0.toNat := by omega
  have kee : ke = s1.toNat := by omega
  have kei : ki = s2.toNat := by omega
  subst kes kee kei
  exact ⟨Eq.mpr hp_181 ⟨s0.toNat, s1.toNat, s2.toNat + 1, ⟨by omega, by omega, by omega⟩, by omega, by omega, by rw [hs]; exact kh⟩, trivial⟩

-- kwr
theorem cr_49 (M : pM) (s0 s1 s2 s3 s4 : Int) (b0 : 0 ≤ s0 ∧ s0 ≤ 1900) (b1 : 0 ≤ s1 ∧ s1 ≤ 1900) (b2 : 0 ≤ s2 ∧ s2 ≤ 125) (b3 : 0 ≤ s3 ∧ s3 ≤ 24) (b4 : 0 ≤ s4 ∧ s4 ≤ 15) (m0 : HP 40 (0 : Int) (0 : Int) M) (m1 : HP 178 (s2) (32 * s3 + s4) M) (m2 : (0 ≤ (s2) ∧ M 1005 (s2).toNat = (32 : Int))) (m3 : HP 180 (2048 * s0 + s1) (s2) M) (f0 : 0 ≤ ((-1) * s0 + s1 + (-1) * s4)) (f1 : 0 ≤ (s0 + (-1) * s1 + s4)) (hG : gI M) : (HP 50 (2048 * s0 + s1) (s3) M ∧ 0 ≤ ((-1) * s3 + 23) ∧ True) := by
  have hd : M 1005 s2.toNat = 32 := m2.2
  obtain ⟨w1, w2, w3⟩ := kw_o (i := s2) (n := s3) (m := s4) m0 m1 rfl (by omega) (by omega) (by omega) hd
  have hs := qws_sb w1
  obtain ⟨q1, q2⟩ := qws_b s2.toNat (by omega) w1
  obtain ⟨ks, ke, ki, ⟨ka, kb, kc⟩, kx, ky, kh⟩ := Eq.mp hp_180 m3
  have kes : ks = s0.toNat := by omega
  have kee : ke = s1.toNat := by omega
  have kei : ki = s2.toNat := by omega
  subst kes kee kei
  obtain ⟨kh, kj⟩ := kh
  have hb : bts (tm M) s0.toNat (s1.toNat - s0.toNat) = kws.getD (qws s2.toNat).1 [] := by
    refine List.ext_getElem? (fun j => ?_)
    by_cases e : j < (qws s2.toNat).2
    · have h1 := bts_at (N := tm M) (s := s0.toNat) (k := s1.toNat - s0.toNat) (j := j) (by omega)
      rw [kj j e, List.getD_eq_getElem?_getD, List.getD_eq_getElem?_getD] at h1
      rw [List.getElem?_eq_getElem (by rw [bts_len]; omega), List.getElem?_eq_getElem (by omega)] at h1 ⊢
      exact congrArg some h1
    · rw [List.getElem?_eq_none (by rw [bts_len]; omega), List.getElem?_eq_none (by omega)]
  have hw := wid_of (N := tm M) (s := s0.toNat) (e := s1.toNat) (k := (qws s2.toNat).1) (by omega) hb
  rw [wid_ag agtm (by omega) (by omega)] at hw
  exact ⟨Eq.mpr hp_50 ⟨s0.toNat, s1.toNat, by omega, by omega, by omega, by omega⟩, by omega, trivial⟩

-- kwe0
theorem cr_50 (M : pM) (s0 s1 s2 s3 s4 : Int) (b0 : 0 ≤ s0 ∧ s0 ≤ 1900) (b1 : 0 ≤ s1 ∧ s1 ≤ 1900) (b2 : 0 ≤ s2 ∧ s2 ≤ 125) (b3 : 0 ≤ s3 ∧ s3 ≤ 24) (b4 : 0 ≤ s4 ∧ s4 ≤ 15) (m0 : HP 40 (0 : Int) (0 : Int) M) (m1 : HP 178 (s2) (32 * s3 + s4) M) (m2 : (0 ≤ (s2) ∧ M 1005 (s2).toNat = (32 : Int))) (m3 : HP 179 (2048 * s0 + s1) (s2) M) (m4 : HP 181 (2048 * s0 + s1) (s2) M) (hG : gI M) : (HP 178 (s2 + 1) (32 * s3 + 32) M ∧ HP 179 (2048 * s0 + s1) (s2 + 1) M ∧ HP 180 (2048 * s0 + s1) (s2 + 1) M ∧ 0 ≤ ((-1) * s3 + 23) ∧ True) := by
  have hd : M 1005 s2.toNat = 32 := m2.2
  obtain ⟨w1, w2, w3⟩ := kw_o (i := s2) (n := s3) (m := s4) m0 m1 rfl (by omega) (by omega) (by omega) hd
  have hs := qws_sb w1
  obtain ⟨q1, q2⟩ := qws_b s2.toNat (by omega) w1
  obtain ⟨ks, ke, ki, ⟨ka, kb, kc⟩, kx, ky, kh⟩ := Eq.mp hp_179 m3
  have kes : ks = s0.toNat := by omega
  have kee : ke = s1.toNat := by omega
  have kei : ki = s2.toNat := by omega
  subst kes kee kei
  obtain ⟨ls, le, li, ⟨la, lb, lc⟩, lx, ly, lh⟩ := Eq.mp hp_181 m4
  have les : ls = s0.toNat := by omega
  have lee : le = s1.toNat := by omega
  have lei : li = s2.toNat := by omega
  subst les lee lei
  have hb := lh
  exact ⟨Eq.mpr hp_178 ⟨s2.toNat + 1, by omega, by omega, by rw [hs]; show _ = 32 * (((qws s2.toNat).1 + 1 : Nat) : Int) + ((0 : Nat) : Int); omega⟩, Eq.mpr hp_179 ⟨s0.toNat, s1.toNat, s2.toNat + 1, ⟨by omega, by omega, by omega⟩, by omega, by omega, by rw [hs]; intro k hk; have hk : k < (qws s2.toNat).1 + 1 := hk; exact (if e : k = (qws s2.toNat).1 then (by rw [e]; exact hb) else kh k (by omega))⟩, Eq.mpr hp_180 ⟨s0.toNat, s1.toNat, s2.toNat + 1, ⟨by omega, by omega, by omega⟩, by omega, by omega, by rw [hs]; exact ⟨Nat.zero_le _, fun j hj => absurd hj (Nat.not_lt_zero j)⟩⟩, by omega, trivial⟩

-- kwe1
theorem cr_51 (M : pM) (s0 s1 s2 s3 s4 : Int) (b0 : 0 ≤ s0 ∧ s0 ≤ 1900) (b1 : 0 ≤ s1 ∧ s1 ≤ 1900) (b2 : 0 ≤ s2 ∧ s2 ≤ 125) (b3 : 0 ≤ s3 ∧ s3 ≤ 24) (b4 : 0 ≤ s4 ∧ s4 ≤ 15) (m0 : HP 40 (0 : Int) (0 : Int) M) (m1 : HP 178 (s2) (32 * s3 + s4) M) (m2 : (0 ≤ (s2) ∧ M 1005 (s2).toNat = (32 : Int))) (m3 : HP 179 (2048 * s0 + s1) (s2) M) (f0 : 0 ≤ ((-1) * s0 + s1 + (-1) * s4 - 1)) (hG : gI M) : (HP 178 (s2 + 1) (32 * s3 + 32) M ∧ HP 179 (2048 * s0 + s1) (s2 + 1) M ∧ HP 180 (2048 * s0 + s1) (s2 + 1) M ∧ 0 ≤ ((-1) * s3 + 23) ∧ True) := by
  have hd : M 1005 s2.toNat = 32 := m2.2
  obtain ⟨w1, w2, w3⟩ := kw_o (i := s2) (n := s3) (m := s4) m0 m1 rfl (by omega) (by omega) (by omega) hd
  have hs := qws_sb w1
  obtain ⟨q1, q2⟩ := qws_b s2.toNat (by omega) w1
  obtain ⟨ks, ke, ki, ⟨ka, kb, kc⟩, kx, ky, kh⟩ := Eq.mp hp_179 m3
  have kes : ks = s0.toNat := by omega
  have kee : ke = s1.toNat := by omega
  have kei : ki = s2.toNat := by omega
  subst kes kee kei
  have hb : bts (tm M) s0.toNat (s1.toNat - s0.toNat) ≠ kws.getD (qws s2.toNat).1 [] := by
    intro hb
    have h1 := bts_len (N := tm M) (s := s0.toNat) (k := s1.toNat - s0.toNat)
    rw [hb] at h1
    omega
  exact ⟨Eq.mpr hp_178 ⟨s2.toNat + 1, by omega, by omega, by rw [hs]; show _ = 32 * (((qws s2.toNat).1 + 1 : Nat) : Int) + ((0 : Nat) : Int); omega⟩, Eq.mpr hp_179 ⟨s0.toNat, s1.toNat, s2.toNat + 1, ⟨by omega, by omega, by omega⟩, by omega, by omega, by rw [hs]; intro k hk; have hk : k < (qws s2.toNat).1 + 1 := hk; exact (if e : k = (qws s2.toNat).1 then (by rw [e]; exact hb) else kh k (by omega))⟩, Eq.mpr hp_180 ⟨s0.toNat, s1.toNat, s2.toNat + 1, ⟨by omega, by omega, by omega⟩, by omega, by omega, by rw [hs]; exact ⟨Nat.zero_le _, fun j hj => absurd hj (Nat.not_lt_zero j)⟩⟩, by omega, trivial⟩

-- kwz
theorem cr_52 (M : pM) (s0 s1 s2 : Int) (b0 : 0 ≤ s0 ∧ s0 ≤ 1900) (b1 : 0 ≤ s1 ∧ s1 ≤ 1900) (b2 : 0 ≤ s2 ∧ s2 ≤ 126) (m0 : HP 179 (2048 * s0 + s1) (s2) M) (f0 : 0 ≤ (s2 - 126)) (hG : gI M) : (HP 50 (2048 * s0 + s1) (-1 : Int) M ∧ True) := by
  obtain ⟨ks, ke, ki, ⟨ka, kb, kc⟩, kx, ky, kh⟩ := Eq.mp hp_179 m0
  have e1 : ki = 126 := by omega
  subst e1
  have e2 : ks = s0.toNat := by omega
  have e3 : ke = s1.toNat := by omega
  subst e2
  subst e3
  rw [qws_e] at kh
  have hw := wid_no (N := tm M) (s := s0.toNat) (e := s1.toNat) kh
  rw [wid_ag agtm (by omega) (by omega)] at hw
  exact ⟨Eq.mpr hp_50 ⟨s0.toNat, s1.toNat, by omega, by omega, by omega, by omega⟩, trivial⟩

-- ibh
theorem cr_53 (M : pM) (s0 s1 : Int) (b0 : 128 ≤ s0 ∧ s0 ≤ 255) (b1 : (-2147483648) ≤ s1 ∧ s1 ≤ 2147483647) (m0 : HP 120 (s0) (s1) M) (hG : gI M) : (0 ≤ (s0 + (-1) * s1 - 256) ∧ 0 ≤ ((-1) * s0 + s1 + 256) ∧ True) := by
  have e := n_i2b m0
  unfold w8 at e
  exact ⟨by omega, by omega, trivial⟩

-- hdi
theorem cr_54 (M : pM) (s0 s1 s2 s3 s4 : Int) (b0 : 0 ≤ s0 ∧ s0 ≤ 1900) (b1 : 0 ≤ s1 ∧ s1 ≤ 1900) (b2 : 0 ≤ s2 ∧ s2 ≤ 1900) (b3 : 0 ≤ s3 ∧ s3 ≤ 4) (b4 : (-1) ≤ s4 ∧ s4 ≤ 9999) (m0 : (0 ≤ (4 : Int) ∧ M 2 (4 : Int).toNat = (s1))) (m1 : (0 ≤ (2 : Int) ∧ M 2 (2 : Int).toNat = (s2))) (m2 : (0 ≤ (3 : Int) ∧ M 2 (3 : Int).toNat = (s3))) (m3 : (0 ≤ (5 : Int) ∧ M 2 (5 : Int).toNat = (s4))) (m4 : HP 45 (s0) (s1) M) (m5 : HP 46 (s0) (s2) M) (m6 : HP 47 (s0) (131072 * s3 + s4) M) (hG : gI M) : (HP 48 (s0) (0 : Int) M ∧ True) := by
  have hv : M 2 5 = s4 := m3.2
  refine ⟨Eq.mpr hp_48 ⟨⟨b0.1, by omega, by omega⟩, ?_, ?_, ?_⟩, trivial⟩
  · rw [show M 2 4 = s1 from m0.2]; exact (Eq.mp hp_45 m4).2
  · rw [show M 2 2 = s2 from m1.2]; exact (Eq.mp hp_46 m5).2
  · rw [← (Eq.mp hp_47 m6).2, show M 2 3 = s3 from m2.2, show M 2 5 = s4 from m3.2]

-- hdo
theorem cr_55 (M : pM) (s0 s1 s2 s3 s4 : Int) (b0 : 0 ≤ s0 ∧ s0 ≤ 1900) (b1 : 0 ≤ s1 ∧ s1 ≤ 1900) (b2 : 0 ≤ s2 ∧ s2 ≤ 1900) (b3 : 0 ≤ s3 ∧ s3 ≤ 4) (b4 : (-2147483648) ≤ s4 ∧ s4 ≤ 2147483647) (m0 : HP 48 (s0) (0 : Int) M) (m1 : (0 ≤ (4 : Int) ∧ M 2 (4 : Int).toNat = (s1))) (m2 : (0 ≤ (2 : Int) ∧ M 2 (2 : Int).toNat = (s2))) (m3 : (0 ≤ (3 : Int) ∧ M 2 (3 : Int).toNat = (s3))) (m4 : (0 ≤ (5 : Int) ∧ M 2 (5 : Int).toNat = (s4))) (hG : gI M) : (HP 45 (s0) (s1) M ∧ HP 46 (s0) (s2) M ∧ HP 47 (s0) (131072 * s3 + s4) M ∧ 0 ≤ ((-1) * s3) ∧ 0 ≤ (s3) ∧ 0 ≤ (s4 + 1) ∧ 0 ≤ ((-1) * s4 + 255) ∧ True) ∨ (HP 45 (s0) (s1) M ∧ HP 46 (s0) (s2) M ∧ HP 47 (s0) (131072 * s3 + s4) M ∧ 0 ≤ ((-1) * s3 + 1) ∧ 0 ≤ (s3 - 1) ∧ 0 ≤ ((-1) * s4 - 1) ∧ 0 ≤ (s4 + 1) ∧ True) ∨ (HP 45 (s0) (s1) M ∧ HP 46 (s0) (s2) M ∧ HP 47 (s0) (131072 * s3 + s4) M ∧ 0 ≤ ((-1) * s3 + 2) ∧ 0 ≤ (s3 - 2) ∧ 0 ≤ (s4 + 1) ∧ 0 ≤ ((-1) * s4 + 24) ∧ 0 ≤ ((-1) * s1 + s2 - 1) ∧ 0 ≤ (s1 + (-1) * s2 + 8) ∧ True) ∨ (HP 45 (s0) (s1) M ∧ HP 46 (s0) (s2) M ∧ HP 47 (s0) (131072 * s3 + s4) M ∧ 0 ≤ ((-1) * s3 + 3) ∧ 0 ≤ (s3 - 3) ∧ 0 ≤ (s4) ∧ 0 ≤ ((-1) * s4 + 9999) ∧ 0 ≤ ((-1) * s1 + s2 - 1) ∧ True) ∨ (HP 45 (s0) (s1) M ∧ HP 46 (s0) (s2) M ∧ HP 47 (s0) (131072 * s3 + s4) M ∧ 0 ≤ ((-1) * s3 + 4) ∧ 0 ≤ (s3 - 4) ∧ 0 ≤ (s4 - 33) ∧ 0 ≤ ((-1) * s4 + 126) ∧ 0 ≤ (s1 + (-1) * s2 + 1) ∧ 0 ≤ ((-1) * s1 + s2 - 1) ∧ True) := by
  obtain ⟨⟨h0, hv⟩, h1, h2, h3⟩ := Eq.mp hp_48 m0
  rw [show M 2 4 = s1 from m1.2] at h1
  rw [show M 2 2 = s2 from m2.2] at h2
  rw [show M 2 5 = s4 from m4.2] at hv h3
  rw [show M 2 3 = s3 from m3.2] at h3
  have k1 : HP 45 s0 s1 M := Eq.mpr hp_45 ⟨h0, h1⟩
  have k2 : HP 46 s0 s2 M := Eq.mpr hp_46 ⟨h0, h2⟩
  have k3 : HP 47 s0 (131072 * s3 + s4) M := Eq.mpr hp_47 ⟨h0, h3.symm⟩
  rcases tk_cl (hby_M hG) s0.toNat with h | h | h | h | h | h
  · exact Or.inr (Or.inl ⟨k1, k2, k3, by omega, by omega, by omega, by omega, trivial⟩)
  · have hw := wid_bd (N := M) (s := tS M s0.toNat) (e := tE M s0.toNat)
    exact Or.inr (Or.inr (Or.inl ⟨k1, k2, k3, by omega, by omega, by omega, by omega, by omega, by omega, trivial⟩))
  · exact Or.inl ⟨k1, k2, k3, by omega, by omega, by omega, by omega, trivial⟩
  · exact Or.inr (Or.inr (Or.inr (Or.inl ⟨k1, k2, k3, by omega, by omega, by omega, by omega, by omega, trivial⟩)))
  · have hw := sgs_bd h.2.2.1
    exact Or.inr (Or.inr (Or.inr (Or.inr (⟨k1, k2, k3, by omega, by omega, by omega, by omega, by omega, by omega, trivial⟩))))
  · exact Or.inl ⟨k1, k2, k3, by omega, by omega, by omega, by omega, trivial⟩

-- exs0
theorem cr_56 (M : pM) (s0 s1 s2 s3 : Int) (b0 : 0 ≤ s0 ∧ s0 ≤ 1900) (b1 : 0 ≤ s1 ∧ s1 ≤ 950) (b2 : 0 ≤ s2 ∧ s2 ≤ 1900) (b3 : (-2147483648) ≤ s3 ∧ s3 ≤ 2147483647) (m0 : HP 71 (4096 * s0 + s1) (s3) M) (m1 : HP 47 (s0) (262144 : Int) M) (m2 : HP 46 (s0) (s2) M) (hG : gI M) : (HP 53 (4096 * s0 + s1) (256 * s2 + 1) M ∧ True) := by
  obtain ⟨s, h1, hm⟩ := Eq.mp hp_71 m0
  exact ⟨Eq.mpr hp_53 (r_exs (P := s0) (l := s1) (K := 0) h1 ⟨by omega, by omega, by omega⟩ (by have := (q47 m1).2; omega) (q46 m2).2 (by decide) (by unfold qfu; exact decide_eq_false (by omega)) (by omega)), trivial⟩

-- exs1
theorem cr_57 (M : pM) (s0 s1 s2 s3 : Int) (b0 : 0 ≤ s0 ∧ s0 ≤ 1900) (b1 : 0 ≤ s1 ∧ s1 ≤ 950) (b2 : 0 ≤ s2 ∧ s2 ≤ 1900) (b3 : (-2147483648) ≤ s3 ∧ s3 ≤ 2147483647) (m0 : HP 71 (4096 * s0 + s1) (s3) M) (m1 : HP 47 (s0) (262145 : Int) M) (m2 : HP 46 (s0) (s2) M) (hG : gI M) : (HP 53 (4096 * s0 + s1) (256 * s2 + 17) M ∧ True) := by
  obtain ⟨s, h1, hm⟩ := Eq.mp hp_71 m0
  exact ⟨Eq.mpr hp_53 (r_exs (P := s0) (l := s1) (K := 1) h1 ⟨by omega, by omega, by omega⟩ (by have := (q47 m1).2; omega) (q46 m2).2 (by decide) (by unfold qfu; exact decide_eq_false (by omega)) (by omega)), trivial⟩

-- exs2
theorem cr_58 (M : pM) (s0 s1 s2 s3 : Int) (b0 : 0 ≤ s0 ∧ s0 ≤ 1900) (b1 : 0 ≤ s1 ∧ s1 ≤ 950) (b2 : 0 ≤ s2 ∧ s2 ≤ 1900) (b3 : (-2147483648) ≤ s3 ∧ s3 ≤ 2147483647) (m0 : HP 71 (4096 * s0 + s1) (s3) M) (m1 : HP 47 (s0) (262146 : Int) M) (m2 : HP 46 (s0) (s2) M) (hG : gI M) : (HP 53 (4096 * s0 + s1) (256 * s2 + 33) M ∧ True) := by
  obtain ⟨s, h1, hm⟩ := Eq.mp hp_71 m0
  exact ⟨Eq.mpr hp_53 (r_exs (P := s0) (l := s1) (K := 2) h1 ⟨by omega, by omega, by omega⟩ (by have := (q47 m1).2; omega) (q46 m2).2 (by decide) (by unfold qfu; exact decide_eq_false (by omega)) (by omega)), trivial⟩

-- exs3
theorem cr_59 (M : pM) (s0 s1 s2 s3 : Int) (b0 : 0 ≤ s0 ∧ s0 ≤ 1900) (b1 : 0 ≤ s1 ∧ s1 ≤ 950) (b2 : 0 ≤ s2 ∧ s2 ≤ 1900) (b3 : (-2147483648) ≤ s3 ∧ s3 ≤ 2147483647) (m0 : HP 71 (4096 * s0 + s1) (s3) M) (m1 : HP 47 (s0) (262147 : Int) M) (m2 : HP 46 (s0) (s2) M) (hG : gI M) : (HP 53 (4096 * s0 + s1) (256 * s2 + 49) M ∧ True) := by
  obtain ⟨s, h1, hm⟩ := Eq.mp hp_71 m0
  exact ⟨Eq.mpr hp_53 (r_exs (P := s0) (l := s1) (K := 3) h1 ⟨by omega, by omega, by omega⟩ (by have := (q47 m1).2; omega) (q46 m2).2 (by decide) (by unfold qfu; exact decide_eq_false (by omega)) (by omega)), trivial⟩

-- exs8
theorem cr_60 (M : pM) (s0 s1 s2 s3 : Int) (b0 : 0 ≤ s0 ∧ s0 ≤ 1900) (b1 : 0 ≤ s1 ∧ s1 ≤ 950) (b2 : 0 ≤ s2 ∧ s2 ≤ 1900) (b3 : (-2147483648) ≤ s3 ∧ s3 ≤ 2147483647) (m0 : HP 71 (4096 * s0 + s1) (s3) M) (m1 : HP 47 (s0) (262152 : Int) M) (m2 : HP 46 (s0) (s2) M) (hG : gI M) : (HP 53 (4096 * s0 + s1) (256 * s2 + 129) M ∧ True) := by
  obtain ⟨s, h1, hm⟩ := Eq.mp hp_71 m0
  exact ⟨Eq.mpr hp_53 (r_exs (P := s0) (l := s1) (K := 8) h1 ⟨by omega, by omega, by omega⟩ (by have := (q47 m1).2; omega) (q46 m2).2 (by decide) (by unfold qfu; exact decide_eq_false (by omega)) (by omega)), trivial⟩

-- exs4_0
theorem cr_61 (M : pM) (s0 s1 s2 s3 s4 s5 : Int) (b0 : 0 ≤ s0 ∧ s0 ≤ 1900) (b1 : 0 ≤ s1 ∧ s1 ≤ 950) (b2 : 0 ≤ s2 ∧ s2 ≤ 1900) (b3 : 0 ≤ s3 ∧ s3 ≤ 12) (b4 : 0 ≤ s4 ∧ s4 ≤ 20) (b5 : 0 ≤ s5 ∧ s5 ≤ 4) (m0 : HP 54 (4096 * s0 + s1) (s3 + 32 * s4 + 1024 * s5) M) (m1 : HP 47 (s0) (262148 : Int) M) (m2 : HP 46 (s0) (s2) M) (f0 : 0 ≤ ((-1) * s3 + 11)) (hG : gI M) : (HP 53 (4096 * s0 + s1) (256 * s2 + 65) M ∧ True) := by
  obtain ⟨s, h1, hw, ha⟩ := Eq.mp hp_54 m0
  obtain ⟨c1, c2, c3⟩ := qW_o (w := s3) (r := s4) (g := s5) hw (by omega) (by omega) (by omega) (by omega)
  exact ⟨Eq.mpr hp_53 (r_exs (P := s0) (l := s1) (K := 4) h1 ⟨by omega, by omega, by omega⟩ (by have := (q47 m1).2; omega) (q46 m2).2 (by decide) (by unfold qfu; exact decide_eq_false (by omega)) (by omega)), trivial⟩

-- ful4_0
theorem cr_62 (M : pM) (s0 s1 s2 s3 s4 s5 : Int) (b0 : 0 ≤ s0 ∧ s0 ≤ 1900) (b1 : 0 ≤ s1 ∧ s1 ≤ 950) (b2 : 0 ≤ s2 ∧ s2 ≤ 1900) (b3 : 0 ≤ s3 ∧ s3 ≤ 12) (b4 : 0 ≤ s4 ∧ s4 ≤ 20) (b5 : 0 ≤ s5 ∧ s5 ≤ 4) (m0 : HP 54 (4096 * s0 + s1) (s3 + 32 * s4 + 1024 * s5) M) (m1 : HP 47 (s0) (262148 : Int) M) (m2 : HP 45 (s0) (s2) M) (f0 : 0 ≤ (s3 - 12)) (hG : gI M) : (HP 66 (s2) (2 : Int) M ∧ True) := by
  obtain ⟨s, h1, hw, ha⟩ := Eq.mp hp_54 m0
  obtain ⟨c1, c2, c3⟩ := qW_o (w := s3) (r := s4) (g := s5) hw (by omega) (by omega) (by omega) (by omega)
  exact ⟨Eq.mpr hp_66 (r_ful (P := s0) (l := s1) (K := 4) h1 ⟨by omega, by omega, by omega⟩ (by have := (q47 m1).2; omega) (q45 m2).2 (by decide) (by unfold qfu; exact decide_eq_true (by omega))), trivial⟩

-- exs9_0
theorem cr_63 (M : pM) (s0 s1 s2 s3 s4 s5 : Int) (b0 : 0 ≤ s0 ∧ s0 ≤ 1900) (b1 : 0 ≤ s1 ∧ s1 ≤ 950) (b2 : 0 ≤ s2 ∧ s2 ≤ 1900) (b3 : 0 ≤ s3 ∧ s3 ≤ 12) (b4 : 0 ≤ s4 ∧ s4 ≤ 20) (b5 : 0 ≤ s5 ∧ s5 ≤ 4) (m0 : HP 54 (4096 * s0 + s1) (s3 + 32 * s4 + 1024 * s5) M) (m1 : HP 47 (s0) (262153 : Int) M) (m2 : HP 46 (s0) (s2) M) (f0 : 0 ≤ ((-1) * s4 + 19)) (hG : gI M) : (HP 53 (4096 * s0 + s1) (256 * s2 + 145) M ∧ True) := by
  obtain ⟨s, h1, hw, ha⟩ := Eq.mp hp_54 m0
  obtain ⟨c1, c2, c3⟩ := qW_o (w := s3) (r := s4) (g := s5) hw (by omega) (by omega) (by omega) (by omega)
  exact ⟨Eq.mpr hp_53 (r_exs (P := s0) (l := s1) (K := 9) h1 ⟨by omega, by omega, by omega⟩ (by have := (q47 m1).2; omega) (q46 m2).2 (by decide) (by unfold qfu; exact decide_eq_false (by omega)) (by omega)), trivial⟩

-- ful9_0
theorem cr_64 (M : pM) (s0 s1 s2 s3 s4 s5 : Int) (b0 : 0 ≤ s0 ∧ s0 ≤ 1900) (b1 : 0 ≤ s1 ∧ s1 ≤ 950) (b2 : 0 ≤ s2 ∧ s2 ≤ 1900) (b3 : 0 ≤ s3 ∧ s3 ≤ 12) (b4 : 0 ≤ s4 ∧ s4 ≤ 20) (b5 : 0 ≤ s5 ∧ s5 ≤ 4) (m0 : HP 54 (4096 * s0 + s1) (s3 + 32 * s4 + 1024 * s5) M) (m1 : HP 47 (s0) (262153 : Int) M) (m2 : HP 45 (s0) (s2) M) (f0 : 0 ≤ (s4 - 20)) (hG : gI M) : (HP 66 (s2) (2 : Int) M ∧ True) := by
  obtain ⟨s, h1, hw, ha⟩ := Eq.mp hp_54 m0
  obtain ⟨c1, c2, c3⟩ := qW_o (w := s3) (r := s4) (g := s5) hw (by omega) (by omega) (by omega) (by omega)
  exact ⟨Eq.mpr hp_66 (r_ful (P := s0) (l := s1) (K := 9) h1 ⟨by omega, by omega, by omega⟩ (by have := (q47 m1).2; omega) (q45 m2).2 (by decide) (by unfold qfu; exact decide_eq_true (by omega))), trivial⟩

-- exs10_0
theorem cr_65 (M : pM) (s0 s1 s2 s3 s4 s5 : Int) (b0 : 0 ≤ s0 ∧ s0 ≤ 1900) (b1 : 0 ≤ s1 ∧ s1 ≤ 950) (b2 : 0 ≤ s2 ∧ s2 ≤ 1900) (b3 : 0 ≤ s3 ∧ s3 ≤ 12) (b4 : 0 ≤ s4 ∧ s4 ≤ 20) (b5 : 0 ≤ s5 ∧ s5 ≤ 4) (m0 : HP 54 (4096 * s0 + s1) (s3 + 32 * s4 + 1024 * s5) M) (m1 : HP 47 (s0) (262154 : Int) M) (m2 : HP 46 (s0) (s2) M) (f0 : 0 ≤ ((-1) * s5 + 3)) (hG : gI M) : (HP 53 (4096 * s0 + s1) (256 * s2 + 161) M ∧ True) := by
  obtain ⟨s, h1, hw, ha⟩ := Eq.mp hp_54 m0
  obtain ⟨c1, c2, c3⟩ := qW_o (w := s3) (r := s4) (g := s5) hw (by omega) (by omega) (by omega) (by omega)
  exact ⟨Eq.mpr hp_53 (r_exs (P := s0) (l := s1) (K := 10) h1 ⟨by omega, by omega, by omega⟩ (by have := (q47 m1).2; omega) (q46 m2).2 (by decide) (by unfold qfu; exact decide_eq_false (by omega)) (by omega)), trivial⟩

-- ful10_0
theorem cr_66 (M : pM) (s0 s1 s2 s3 s4 s5 : Int) (b0 : 0 ≤ s0 ∧ s0 ≤ 1900) (b1 : 0 ≤ s1 ∧ s1 ≤ 950) (b2 : 0 ≤ s2 ∧ s2 ≤ 1900) (b3 : 0 ≤ s3 ∧ s3 ≤ 12) (b4 : 0 ≤ s4 ∧ s4 ≤ 20) (b5 : 0 ≤ s5 ∧ s5 ≤ 4) (m0 : HP 54 (4096 * s0 + s1) (s3 + 32 * s4 + 1024 * s5) M) (m1 : HP 47 (s0) (262154 : Int) M) (m2 : HP 45 (s0) (s2) M) (f0 : 0 ≤ (s5 - 4)) (hG : gI M) : (HP 66 (s2) (2 : Int) M ∧ True) := by
  obtain ⟨s, h1, hw, ha⟩ := Eq.mp hp_54 m0
  obtain ⟨c1, c2, c3⟩ := qW_o (w := s3) (r := s4) (g := s5) hw (by omega) (by omega) (by omega) (by omega)
  exact ⟨Eq.mpr hp_66 (r_ful (P := s0) (l := s1) (K := 10) h1 ⟨by omega, by omega, by omega⟩ (by have := (q47 m1).2; omega) (q45 m2).2 (by decide) (by unfold qfu; exact decide_eq_true (by omega))), trivial⟩

-- exs4_1
theorem cr_67 (M : pM) (s0 s1 s2 s3 s4 s5 : Int) (b0 : 0 ≤ s0 ∧ s0 ≤ 1900) (b1 : 0 ≤ s1 ∧ s1 ≤ 950) (b2 : 0 ≤ s2 ∧ s2 ≤ 1900) (b3 : 0 ≤ s3 ∧ s3 ≤ 12) (b4 : 0 ≤ s4 ∧ s4 ≤ 20) (b5 : 0 ≤ s5 ∧ s5 ≤ 4) (m0 : HP 55 (4096 * s0 + s1) (s3 + 32 * s4 + 1024 * s5) M) (m1 : HP 47 (s0) (262148 : Int) M) (m2 : HP 46 (s0) (s2) M) (f0 : 0 ≤ ((-1) * s3 + 11)) (hG : gI M) : (HP 53 (4096 * s0 + s1) (256 * s2 + 65) M ∧ True) := by
  obtain ⟨s, h1, hw, ha⟩ := Eq.mp hp_55 m0
  obtain ⟨c1, c2, c3⟩ := qW_o (w := s3) (r := s4) (g := s5) hw (by omega) (by omega) (by omega) (by omega)
  exact ⟨Eq.mpr hp_53 (r_exs (P := s0) (l := s1) (K := 4) h1 ⟨by omega, by omega, by omega⟩ (by have := (q47 m1).2; omega) (q46 m2).2 (by decide) (by unfold qfu; exact decide_eq_false (by omega)) (by omega)), trivial⟩

-- ful4_1
theorem cr_68 (M : pM) (s0 s1 s2 s3 s4 s5 : Int) (b0 : 0 ≤ s0 ∧ s0 ≤ 1900) (b1 : 0 ≤ s1 ∧ s1 ≤ 950) (b2 : 0 ≤ s2 ∧ s2 ≤ 1900) (b3 : 0 ≤ s3 ∧ s3 ≤ 12) (b4 : 0 ≤ s4 ∧ s4 ≤ 20) (b5 : 0 ≤ s5 ∧ s5 ≤ 4) (m0 : HP 55 (4096 * s0 + s1) (s3 + 32 * s4 + 1024 * s5) M) (m1 : HP 47 (s0) (262148 : Int) M) (m2 : HP 45 (s0) (s2) M) (f0 : 0 ≤ (s3 - 12)) (hG : gI M) : (HP 66 (s2) (2 : Int) M ∧ True) := by
  obtain ⟨s, h1, hw, ha⟩ := Eq.mp hp_55 m0
  obtain ⟨c1, c2, c3⟩ := qW_o (w := s3) (r := s4) (g := s5) hw (by omega) (by omega) (by omega) (by omega)
  exact ⟨Eq.mpr hp_66 (r_ful (P := s0) (l := s1) (K := 4) h1 ⟨by omega, by omega, by omega⟩ (by have := (q47 m1).2; omega) (q45 m2).2 (by decide) (by unfold qfu; exact decide_eq_true (by omega))), trivial⟩

-- exs9_1
theorem cr_69 (M : pM) (s0 s1 s2 s3 s4 s5 : Int) (b0 : 0 ≤ s0 ∧ s0 ≤ 1900) (b1 : 0 ≤ s1 ∧ s1 ≤ 950) (b2 : 0 ≤ s2 ∧ s2 ≤ 1900) (b3 : 0 ≤ s3 ∧ s3 ≤ 12) (b4 : 0 ≤ s4 ∧ s4 ≤ 20) (b5 : 0 ≤ s5 ∧ s5 ≤ 4) (m0 : HP 55 (4096 * s0 + s1) (s3 + 32 * s4 + 1024 * s5) M) (m1 : HP 47 (s0) (262153 : Int) M) (m2 : HP 46 (s0) (s2) M) (f0 : 0 ≤ ((-1) * s4 + 19)) (hG : gI M) : (HP 53 (4096 * s0 + s1) (256 * s2 + 145) M ∧ True) := by
  obtain ⟨s, h1, hw, ha⟩ := Eq.mp hp_55 m0
  obtain ⟨c1, c2, c3⟩ := qW_o (w := s3) (r := s4) (g := s5) hw (by omega) (by omega) (by omega) (by omega)
  exact ⟨Eq.mpr hp_53 (r_exs (P := s0) (l := s1) (K := 9) h1 ⟨by omega, by omega, by omega⟩ (by have := (q47 m1).2; omega) (q46 m2).2 (by decide) (by unfold qfu; exact decide_eq_false (by omega)) (by omega)), trivial⟩

-- ful9_1
theorem cr_70 (M : pM) (s0 s1 s2 s3 s4 s5 : Int) (b0 : 0 ≤ s0 ∧ s0 ≤ 1900) (b1 : 0 ≤ s1 ∧ s1 ≤ 950) (b2 : 0 ≤ s2 ∧ s2 ≤ 1900) (b3 : 0 ≤ s3 ∧ s3 ≤ 12) (b4 : 0 ≤ s4 ∧ s4 ≤ 20) (b5 : 0 ≤ s5 ∧ s5 ≤ 4) (m0 : HP 55 (4096 * s0 + s1) (s3 + 32 * s4 + 1024 * s5) M) (m1 : HP 47 (s0) (262153 : Int) M) (m2 : HP 45 (s0) (s2) M) (f0 : 0 ≤ (s4 - 20)) (hG : gI M) : (HP 66 (s2) (2 : Int) M ∧ True) := by
  obtain ⟨s, h1, hw, ha⟩ := Eq.mp hp_55 m0
  obtain ⟨c1, c2, c3⟩ := qW_o (w := s3) (r := s4) (g := s5) hw (by omega) (by omega) (by omega) (by omega)
  exact ⟨Eq.mpr hp_66 (r_ful (P := s0) (l := s1) (K := 9) h1 ⟨by omega, by omega, by omega⟩ (by have := (q47 m1).2; omega) (q45 m2).2 (by decide) (by unfold qfu; exact decide_eq_true (by omega))), trivial⟩

-- exs10_1
theorem cr_71 (M : pM) (s0 s1 s2 s3 s4 s5 : Int) (b0 : 0 ≤ s0 ∧ s0 ≤ 1900) (b1 : 0 ≤ s1 ∧ s1 ≤ 950) (b2 : 0 ≤ s2 ∧ s2 ≤ 1900) (b3 : 0 ≤ s3 ∧ s3 ≤ 12) (b4 : 0 ≤ s4 ∧ s4 ≤ 20) (b5 : 0 ≤ s5 ∧ s5 ≤ 4) (m0 : HP 55 (4096 * s0 + s1) (s3 + 32 * s4 + 1024 * s5) M) (m1 : HP 47 (s0) (262154 : Int) M) (m2 : HP 46 (s0) (s2) M) (f0 : 0 ≤ ((-1) * s5 + 3)) (hG : gI M) : (HP 53 (4096 * s0 + s1) (256 * s2 + 161) M ∧ True) := by
  obtain ⟨s, h1, hw, ha⟩ := Eq.mp hp_55 m0
  obtain ⟨c1, c2, c3⟩ := qW_o (w := s3) (r := s4) (g := s5) hw (by omega) (by omega) (by omega) (by omega)
  exact ⟨Eq.mpr hp_53 (r_exs (P := s0) (l := s1) (K := 10) h1 ⟨by omega, by omega, by omega⟩ (by have := (q47 m1).2; omega) (q46 m2).2 (by decide) (by unfold qfu; exact decide_eq_false (by omega)) (by omega)), trivial⟩

-- ful10_1
theorem cr_72 (M : pM) (s0 s1 s2 s3 s4 s5 : Int) (b0 : 0 ≤ s0 ∧ s0 ≤ 1900) (b1 : 0 ≤ s1 ∧ s1 ≤ 950) (b2 : 0 ≤ s2 ∧ s2 ≤ 1900) (b3 : 0 ≤ s3 ∧ s3 ≤ 12) (b4 : 0 ≤ s4 ∧ s4 ≤ 20) (b5 : 0 ≤ s5 ∧ s5 ≤ 4) (m0 : HP 55 (4096 * s0 + s1) (s3 + 32 * s4 + 1024 * s5) M) (m1 : HP 47 (s0) (262154 : Int) M) (m2 : HP 45 (s0) (s2) M) (f0 : 0 ≤ (s5 - 4)) (hG : gI M) : (HP 66 (s2) (2 : Int) M ∧ True) := by
  obtain ⟨s, h1, hw, ha⟩ := Eq.mp hp_55 m0
  obtain ⟨c1, c2, c3⟩ := qW_o (w := s3) (r := s4) (g := s5) hw (by omega) (by omega) (by omega) (by omega)
  exact ⟨Eq.mpr hp_66 (r_ful (P := s0) (l := s1) (K := 10) h1 ⟨by omega, by omega, by omega⟩ (by have := (q47 m1).2; omega) (q45 m2).2 (by decide) (by unfold qfu; exact decide_eq_true (by omega))), trivial⟩

-- ftk0
theorem cr_73 (M : pM) (s0 s1 s2 s3 s4 : Int) (b0 : 0 ≤ s0 ∧ s0 ≤ 1900) (b1 : 0 ≤ s1 ∧ s1 ≤ 950) (b2 : 0 ≤ s2 ∧ s2 ≤ 1900) (b3 : (-2147483648) ≤ s3 ∧ s3 ≤ 2147483647) (b4 : (-1) ≤ s4 ∧ s4 ≤ 600000) (m0 : HP 71 (4096 * s0 + s1) (s3) M) (m1 : HP 47 (s0) (s4) M) (m2 : HP 45 (s0) (s2) M) (f0 : 0 ≤ ((-1) * s4 + 255)) (hG : gI M) : (HP 66 (s2) (1 : Int) M ∧ True) := by
  obtain ⟨s, h1, hm⟩ := Eq.mp hp_71 m0
  exact ⟨Eq.mpr hp_66 (r_ftk (P := s0) (l := s1) h1 ⟨by omega, by omega, by omega⟩ (q47 m1).2 (q45 m2).2 (by omega) (by rw [if_pos (by omega)])), trivial⟩

-- ftk1
theorem cr_74 (M : pM) (s0 s1 s2 s3 s4 : Int) (b0 : 0 ≤ s0 ∧ s0 ≤ 1900) (b1 : 0 ≤ s1 ∧ s1 ≤ 950) (b2 : 0 ≤ s2 ∧ s2 ≤ 1900) (b3 : (-2147483648) ≤ s3 ∧ s3 ≤ 2147483647) (b4 : (-1) ≤ s4 ∧ s4 ≤ 600000) (m0 : HP 71 (4096 * s0 + s1) (s3) M) (m1 : HP 47 (s0) (s4) M) (m2 : HP 45 (s0) (s2) M) (f0 : 0 ≤ (s4 - 131072)) (f1 : 0 ≤ ((-1) * s4 + 262143)) (hG : gI M) : (HP 66 (s2) (2 : Int) M ∧ True) := by
  obtain ⟨s, h1, hm⟩ := Eq.mp hp_71 m0
  exact ⟨Eq.mpr hp_66 (r_ftk (P := s0) (l := s1) h1 ⟨by omega, by omega, by omega⟩ (q47 m1).2 (q45 m2).2 (by omega) (by rw [if_neg (by omega)])), trivial⟩

-- ftk2
theorem cr_75 (M : pM) (s0 s1 s2 s3 s4 : Int) (b0 : 0 ≤ s0 ∧ s0 ≤ 1900) (b1 : 0 ≤ s1 ∧ s1 ≤ 950) (b2 : 0 ≤ s2 ∧ s2 ≤ 1900) (b3 : (-2147483648) ≤ s3 ∧ s3 ≤ 2147483647) (b4 : (-1) ≤ s4 ∧ s4 ≤ 600000) (m0 : HP 71 (4096 * s0 + s1) (s3) M) (m1 : HP 47 (s0) (s4) M) (m2 : HP 45 (s0) (s2) M) (f0 : 0 ≤ (s4 - 262149)) (f1 : 0 ≤ ((-1) * s4 + 262151)) (hG : gI M) : (HP 66 (s2) (2 : Int) M ∧ True) := by
  obtain ⟨s, h1, hm⟩ := Eq.mp hp_71 m0
  exact ⟨Eq.mpr hp_66 (r_ftk (P := s0) (l := s1) h1 ⟨by omega, by omega, by omega⟩ (q47 m1).2 (q45 m2).2 (by omega) (by rw [if_neg (by omega)])), trivial⟩

-- ftk3
theorem cr_76 (M : pM) (s0 s1 s2 s3 s4 : Int) (b0 : 0 ≤ s0 ∧ s0 ≤ 1900) (b1 : 0 ≤ s1 ∧ s1 ≤ 950) (b2 : 0 ≤ s2 ∧ s2 ≤ 1900) (b3 : (-2147483648) ≤ s3 ∧ s3 ≤ 2147483647) (b4 : (-1) ≤ s4 ∧ s4 ≤ 600000) (m0 : HP 71 (4096 * s0 + s1) (s3) M) (m1 : HP 47 (s0) (s4) M) (m2 : HP 45 (s0) (s2) M) (f0 : 0 ≤ (s4 - 262155)) (hG : gI M) : (HP 66 (s2) (2 : Int) M ∧ True) := by
  obtain ⟨s, h1, hm⟩ := Eq.mp hp_71 m0
  exact ⟨Eq.mpr hp_66 (r_ftk (P := s0) (l := s1) h1 ⟨by omega, by omega, by omega⟩ (q47 m1).2 (q45 m2).2 (by omega) (by rw [if_neg (by omega)])), trivial⟩

-- fb
theorem cr_77 (M : pM) (s0 s1 s2 s3 s4 s5 : Int) (b0 : 0 ≤ s0 ∧ s0 ≤ 1900) (b1 : 0 ≤ s1 ∧ s1 ≤ 950) (b2 : 0 ≤ s2 ∧ s2 ≤ 1900) (b3 : 0 ≤ s3 ∧ s3 ≤ 1900) (b4 : 0 ≤ s4 ∧ s4 ≤ 175) (b5 : (-1) ≤ s5 ∧ s5 ≤ 255) (m0 : HP 53 (4096 * s0 + s1) (256 * s2 + s4) M) (m1 : HP 47 (s2) (s5) M) (m2 : HP 45 (s2) (s3) M) (hG : gI M) : (HP 66 (s3) (1 : Int) M ∧ True) := by
  obtain ⟨s, K, j, h1, h2, h3, h4, h5, h6⟩ := Eq.mp hp_53 m0
  have hn := qni_le (K := K)
  have ha : s2.toNat = qps (tm M) s.1 (j + 1) := by omega
  refine ⟨Eq.mpr hp_66 (fa_i h1 ⟨h2, h4, h5, h6, show s2 = _ by omega⟩ (q45 m2).2 (qck_1 (qkw_o h5.1).2 h4 ?_)), trivial⟩
  rw [← ha, (q47 m1).2]
  omega

-- fk1
theorem cr_78 (M : pM) (s0 s1 s2 s3 s4 : Int) (b0 : 0 ≤ s0 ∧ s0 ≤ 1900) (b1 : 0 ≤ s1 ∧ s1 ≤ 950) (b2 : 0 ≤ s2 ∧ s2 ≤ 1900) (b3 : 0 ≤ s3 ∧ s3 ≤ 1900) (b4 : 256 ≤ s4 ∧ s4 ≤ 600000) (m0 : HP 53 (4096 * s0 + s1) (256 * s2 + 1) M) (m1 : HP 47 (s2) (s4) M) (m2 : HP 45 (s2) (s3) M) (f0 : 0 ≤ ((-1) * s4 + 393215)) (hG : gI M) : (HP 66 (s3) (2 : Int) M ∧ True) := by
  refine ⟨r_fl (K := 0) (j := 0) m0 m1 m2 ⟨by omega, by omega, by decide⟩ (fun s hs hE e => ?_), trivial⟩
  show qcN 0 7 (qtd (s.2 15 (qvl (tm M) s.1 1).toNat)) (tK (tm M) (qps (tm M) s.1 1)) = some 2
  rw [e]
  exact qcN_2 (by omega) (by omega)

-- fl1
theorem cr_79 (M : pM) (s0 s1 s2 s3 s4 : Int) (b0 : 0 ≤ s0 ∧ s0 ≤ 1900) (b1 : 0 ≤ s1 ∧ s1 ≤ 950) (b2 : 0 ≤ s2 ∧ s2 ≤ 1900) (b3 : 0 ≤ s3 ∧ s3 ≤ 1900) (b4 : 256 ≤ s4 ∧ s4 ≤ 600000) (m0 : HP 53 (4096 * s0 + s1) (256 * s2 + 1) M) (m1 : HP 47 (s2) (s4) M) (m2 : HP 45 (s2) (s3) M) (f0 : 0 ≤ (s4 - 403216)) (hG : gI M) : (HP 66 (s3) (2 : Int) M ∧ True) := by
  refine ⟨r_fl (K := 0) (j := 0) m0 m1 m2 ⟨by omega, by omega, by decide⟩ (fun s hs hE e => ?_), trivial⟩
  show qcN 0 7 (qtd (s.2 15 (qvl (tm M) s.1 1).toNat)) (tK (tm M) (qps (tm M) s.1 1)) = some 2
  rw [e]
  exact qcN_2 (by omega) (by omega)

-- fn1
theorem cr_80 (M : pM) (s0 s1 s2 s3 s4 : Int) (b0 : 0 ≤ s0 ∧ s0 ≤ 1900) (b1 : 0 ≤ s1 ∧ s1 ≤ 950) (b2 : 0 ≤ s2 ∧ s2 ≤ 1900) (b3 : 0 ≤ s3 ∧ s3 ≤ 1900) (b4 : 0 ≤ s4 ∧ s4 ≤ 9999) (m0 : HP 53 (4096 * s0 + s1) (256 * s2 + 1) M) (m1 : HP 47 (s2) (s4 + 393216) M) (m2 : HP 45 (s2) (s3) M) (f0 : 0 ≤ (s4 - 8)) (hG : gI M) : (HP 66 (s3) (4 : Int) M ∧ True) := by
  refine ⟨r_fl (K := 0) (j := 0) m0 m1 m2 ⟨by omega, by omega, by decide⟩ (fun s hs hE e => ?_), trivial⟩
  show qcN 0 7 (qtd (s.2 15 (qvl (tm M) s.1 1).toNat)) (tK (tm M) (qps (tm M) s.1 1)) = some 4
  rw [e]
  exact qcN_4 (by omega) (Or.inr (by omega))

-- told0
theorem cr_81 (M : pM) (s0 s1 s2 s3 s4 s5 s6 s7 s8 : Int) (b0 : 0 ≤ s0 ∧ s0 ≤ 1900) (b1 : 0 ≤ s1 ∧ s1 ≤ 950) (b2 : 0 ≤ s2 ∧ s2 ≤ 1900) (b3 : 0 ≤ s3 ∧ s3 ≤ 1900) (b4 : 0 ≤ s4 ∧ s4 ≤ 1900) (b5 : 0 ≤ s5 ∧ s5 ≤ 7) (b6 : (-2147483648) ≤ s6 ∧ s6 ≤ 2147483647) (b7 : (-2147483648) ≤ s7 ∧ s7 ≤ 2147483647) (b8 : (-2147483648) ≤ s8 ∧ s8 ≤ 2147483647) (m0 : HP 53 (4096 * s0 + s1) (256 * s2 + 1) M) (m1 : HP 47 (s2) (s5 + 393216) M) (m2 : HP 46 (s2) (s3) M) (m3 : HP 45 (s2) (s4) M) (m4 : HP 71 (4096 * s0 + s1) (s6) M) (m5 : HP 104 (s5 + 4294967296 * s6) (s7) M) (m6 : HP 100 (4294967296 * s7 + 1) (s8) M) (hG : gI M) : (HP 53 (4096 * s0 + s1) (256 * s3 + 2) M ∧ HP 79 (16 * s0 + 1) (s5) M ∧ 0 ≤ ((-1) * s8) ∧ 0 ≤ (s8) ∧ True) ∨ (HP 66 (s4) (3 : Int) M ∧ 0 ≤ ((-1) * s8 + 1) ∧ 0 ≤ (s8 - 1) ∧ True) := by
  have ht := t4_bit (y := s5.toNat) (m := s6) (o := s7) (by omega) m5 (by omega) m6 (by omega)
  obtain ⟨S, hS, hb⟩ := Eq.mp hp_71 m4
  have hb := hb s5.toNat (by omega)
  have h01 := qb4_01 s6 s5.toNat
  have hc : ∀ s : Nat × pM, qat (tm M) (4096 * s0 + s1) s → tK (tm M) (qps (tm M) s.1 1) = (s5 + 393216) → qck (tm M) s.1 s.2 0 1 = qtd s8 := by
    intro s hs e
    have es := qat_u hS hs
    have ev : qvl (tm M) s.1 1 = s5 := by unfold qvl; omega
    show qcN 0 7 (qtd (s.2 15 (qvl (tm M) s.1 1).toNat)) (tK (tm M) (qps (tm M) s.1 1)) = _
    rw [e, qcN_x (by omega) (by omega), ev, es, ← hb, ← ht]
  rcases h01 with h0 | h0
  · exact Or.inl ⟨r_ex (K := 0) (j := 0) m0 m1 m2 ⟨by omega, by omega, by decide⟩ (by omega) (by decide) (fun s hs hE e => (hc s hs e).trans (qtd_0 (by omega))), r_va (P := s0) (l := s1) (K := 0) (j := 0) m0 m1 ⟨by omega, by omega, by omega⟩ ⟨by omega, by omega, by decide⟩ (by omega) (by omega), by omega, by omega, trivial⟩
  · exact Or.inr ⟨r_fl (K := 0) (j := 0) m0 m1 m3 ⟨by omega, by omega, by decide⟩ (fun s hs hE e => (hc s hs e).trans (qtd_1 (by omega))), by omega, by omega, trivial⟩

-- fk2
theorem cr_82 (M : pM) (s0 s1 s2 s3 s4 : Int) (b0 : 0 ≤ s0 ∧ s0 ≤ 1900) (b1 : 0 ≤ s1 ∧ s1 ≤ 950) (b2 : 0 ≤ s2 ∧ s2 ≤ 1900) (b3 : 0 ≤ s3 ∧ s3 ≤ 1900) (b4 : 256 ≤ s4 ∧ s4 ≤ 600000) (m0 : HP 53 (4096 * s0 + s1) (256 * s2 + 2) M) (m1 : HP 47 (s2) (s4) M) (m2 : HP 45 (s2) (s3) M) (f0 : 0 ≤ ((-1) * s4 + 262142)) (hG : gI M) : (HP 66 (s3) (2 : Int) M ∧ True) := by
  refine ⟨r_fl (K := 0) (j := 1) m0 m1 m2 ⟨by omega, by omega, by decide⟩ (fun s hs hE e => ?_), trivial⟩
  show qcW (if qsz (tm M) s.1 2 = 8 ∧ qgr (tm M) (tS (tm M) (qps (tm M) s.1 2)) 8 = true then none else some 4) (tK (tm M) (qps (tm M) s.1 2)) = some 2
  rw [e]
  exact qcW_2 (by omega) (by omega)

-- fl2
theorem cr_83 (M : pM) (s0 s1 s2 s3 s4 : Int) (b0 : 0 ≤ s0 ∧ s0 ≤ 1900) (b1 : 0 ≤ s1 ∧ s1 ≤ 950) (b2 : 0 ≤ s2 ∧ s2 ≤ 1900) (b3 : 0 ≤ s3 ∧ s3 ≤ 1900) (b4 : 256 ≤ s4 ∧ s4 ≤ 600000) (m0 : HP 53 (4096 * s0 + s1) (256 * s2 + 2) M) (m1 : HP 47 (s2) (s4) M) (m2 : HP 45 (s2) (s3) M) (f0 : 0 ≤ (s4 - 262169)) (hG : gI M) : (HP 66 (s3) (2 : Int) M ∧ True) := by
  refine ⟨r_fl (K := 0) (j := 1) m0 m1 m2 ⟨by omega, by omega, by decide⟩ (fun s hs hE e => ?_), trivial⟩
  show qcW (if qsz (tm M) s.1 2 = 8 ∧ qgr (tm M) (tS (tm M) (qps (tm M) s.1 2)) 8 = true then none else some 4) (tK (tm M) (qps (tm M) s.1 2)) = some 2
  rw [e]
  exact qcW_2 (by omega) (by omega)

-- len2_0
theorem cr_84 (M : pM) (s0 s1 s2 s3 s4 s5 : Int) (b0 : 0 ≤ s0 ∧ s0 ≤ 1900) (b1 : 0 ≤ s1 ∧ s1 ≤ 950) (b2 : 0 ≤ s2 ∧ s2 ≤ 1900) (b3 : 0 ≤ s3 ∧ s3 ≤ 1900) (b4 : 0 ≤ s4 ∧ s4 ≤ 1900) (b5 : 262143 ≤ s5 ∧ s5 ≤ 262168) (m0 : HP 53 (4096 * s0 + s1) (256 * s2 + 2) M) (m1 : HP 47 (s2) (s5) M) (m2 : HP 45 (s2) (s3) M) (m3 : HP 46 (s2) (s4) M) (f0 : 0 ≤ (s3 + (-1) * s4 + 7)) (hG : gI M) : (HP 66 (s3) (4 : Int) M ∧ True) := by
  refine ⟨r_fl (K := 0) (j := 1) m0 m1 m2 ⟨by omega, by omega, by decide⟩ (fun s hs hE e => ?_), trivial⟩
  have ha : s2 = (qps (tm M) s.1 2 : Int) := hE.2.2.2.2
  have ha : qps (tm M) s.1 2 = s2.toNat := by omega
  have g1 := (q45 m2).2
  have g2 := (q46 m3).2
  show qcW (if qsz (tm M) s.1 2 = 8 ∧ qgr (tm M) (tS (tm M) (qps (tm M) s.1 2)) 8 = true then none else some 4) (tK (tm M) (qps (tm M) s.1 2)) = some 4
  rw [e, qcW_x (by omega), if_neg]
  intro hh
  have hh := hh.1
  unfold qsz at hh
  rw [ha] at hh
  omega

-- len2_1
theorem cr_85 (M : pM) (s0 s1 s2 s3 s4 s5 : Int) (b0 : 0 ≤ s0 ∧ s0 ≤ 1900) (b1 : 0 ≤ s1 ∧ s1 ≤ 950) (b2 : 0 ≤ s2 ∧ s2 ≤ 1900) (b3 : 0 ≤ s3 ∧ s3 ≤ 1900) (b4 : 0 ≤ s4 ∧ s4 ≤ 1900) (b5 : 262143 ≤ s5 ∧ s5 ≤ 262168) (m0 : HP 53 (4096 * s0 + s1) (256 * s2 + 2) M) (m1 : HP 47 (s2) (s5) M) (m2 : HP 45 (s2) (s3) M) (m3 : HP 46 (s2) (s4) M) (f0 : 0 ≤ ((-1) * s3 + s4 - 9)) (hG : gI M) : (HP 66 (s3) (4 : Int) M ∧ True) := by
  refine ⟨r_fl (K := 0) (j := 1) m0 m1 m2 ⟨by omega, by omega, by decide⟩ (fun s hs hE e => ?_), trivial⟩
  have ha : s2 = (qps (tm M) s.1 2 : Int) := hE.2.2.2.2
  have ha : qps (tm M) s.1 2 = s2.toNat := by omega
  have g1 := (q45 m2).2
  have g2 := (q46 m3).2
  show qcW (if qsz (tm M) s.1 2 = 8 ∧ qgr (tm M) (tS (tm M) (qps (tm M) s.1 2)) 8 = true then none else some 4) (tK (tm M) (qps (tm M) s.1 2)) = some 4
  rw [e, qcW_x (by omega), if_neg]
  intro hh
  have hh := hh.1
  unfold qsz at hh
  rw [ha] at hh
  omega

-- let2_0
theorem cr_86 (M : pM) (s0 s1 s2 s3 s4 s5 s6 s7 : Int) (b0 : 0 ≤ s0 ∧ s0 ≤ 1900) (b1 : 0 ≤ s1 ∧ s1 ≤ 950) (b2 : 0 ≤ s2 ∧ s2 ≤ 1900) (b3 : 0 ≤ s3 ∧ s3 ≤ 1900) (b4 : 0 ≤ s4 ∧ s4 ≤ 1900) (b5 : 262143 ≤ s5 ∧ s5 ≤ 262168) (b6 : 0 ≤ s6 ∧ s6 ≤ 7) (b7 : 0 ≤ s7 ∧ s7 ≤ 255) (m0 : HP 53 (4096 * s0 + s1) (256 * s2 + 2) M) (m1 : HP 47 (s2) (s5) M) (m2 : HP 45 (s2) (s3) M) (m3 : HP 46 (s2) (s4) M) (m4 : (0 ≤ (s3 + s6) ∧ M 1 (s3 + s6).toNat = (s7))) (f0 : 0 ≤ (s3 + (-1) * s4 + 8)) (f1 : 0 ≤ ((-1) * s3 + s4 - 8)) (f2 : 0 ≤ ((-1) * s7 + 96)) (hG : gI M) : (HP 66 (s3) (4 : Int) M ∧ True) := by
  refine ⟨r_fl (K := 0) (j := 1) m0 m1 m2 ⟨by omega, by omega, by decide⟩ (fun s hs hE e => ?_), trivial⟩
  have ha : s2 = (qps (tm M) s.1 2 : Int) := hE.2.2.2.2
  have ha : qps (tm M) s.1 2 = s2.toNat := by omega
  have g1 := (q45 m2).2
  have g2 := (q46 m3).2
  show qcW (if qsz (tm M) s.1 2 = 8 ∧ qgr (tm M) (tS (tm M) (qps (tm M) s.1 2)) 8 = true then none else some 4) (tK (tm M) (qps (tm M) s.1 2)) = some 4
  rw [e, qcW_x (by omega), if_neg]
  intro hh
  have hh := qgr_o (i := s6.toNat) hh.2 (by omega)
  rw [ha, show tS (tm M) s2.toNat + s6.toNat = (s3 + s6).toNat by omega, rd1 (by rw [show s3 + s6 = s3 + s6 by omega]; exact m4) (by omega)] at hh
  omega

-- let2_1
theorem cr_87 (M : pM) (s0 s1 s2 s3 s4 s5 s6 s7 : Int) (b0 : 0 ≤ s0 ∧ s0 ≤ 1900) (b1 : 0 ≤ s1 ∧ s1 ≤ 950) (b2 : 0 ≤ s2 ∧ s2 ≤ 1900) (b3 : 0 ≤ s3 ∧ s3 ≤ 1900) (b4 : 0 ≤ s4 ∧ s4 ≤ 1900) (b5 : 262143 ≤ s5 ∧ s5 ≤ 262168) (b6 : 0 ≤ s6 ∧ s6 ≤ 7) (b7 : 0 ≤ s7 ∧ s7 ≤ 255) (m0 : HP 53 (4096 * s0 + s1) (256 * s2 + 2) M) (m1 : HP 47 (s2) (s5) M) (m2 : HP 45 (s2) (s3) M) (m3 : HP 46 (s2) (s4) M) (m4 : (0 ≤ (s3 + s6) ∧ M 1 (s3 + s6).toNat = (s7))) (f0 : 0 ≤ (s3 + (-1) * s4 + 8)) (f1 : 0 ≤ ((-1) * s3 + s4 - 8)) (f2 : 0 ≤ (s7 - 105)) (hG : gI M) : (HP 66 (s3) (4 : Int) M ∧ True) := by
  refine ⟨r_fl (K := 0) (j := 1) m0 m1 m2 ⟨by omega, by omega, by decide⟩ (fun s hs hE e => ?_), trivial⟩
  have ha : s2 = (qps (tm M) s.1 2 : Int) := hE.2.2.2.2
  have ha : qps (tm M) s.1 2 = s2.toNat := by omega
  have g1 := (q45 m2).2
  have g2 := (q46 m3).2
  show qcW (if qsz (tm M) s.1 2 = 8 ∧ qgr (tm M) (tS (tm M) (qps (tm M) s.1 2)) 8 = true then none else some 4) (tK (tm M) (qps (tm M) s.1 2)) = some 4
  rw [e, qcW_x (by omega), if_neg]
  intro hh
  have hh := qgr_o (i := s6.toNat) hh.2 (by omega)
  rw [ha, show tS (tm M) s2.toNat + s6.toNat = (s3 + s6).toNat by omega, rd1 (by rw [show s3 + s6 = s3 + s6 by omega]; exact m4) (by omega)] at hh
  omega

-- ex2
theorem cr_88 (M : pM) (s0 s1 s2 s3 s4 s5 : Int) (b0 : 0 ≤ s0 ∧ s0 ≤ 1900) (b1 : 0 ≤ s1 ∧ s1 ≤ 950) (b2 : 0 ≤ s2 ∧ s2 ≤ 1900) (b3 : 0 ≤ s3 ∧ s3 ≤ 1900) (b4 : 0 ≤ s4 ∧ s4 ≤ 1900) (b5 : 262143 ≤ s5 ∧ s5 ≤ 262168) (m0 : HP 53 (4096 * s0 + s1) (256 * s2 + 2) M) (m1 : HP 47 (s2) (s5) M) (m2 : HP 45 (s2) (s3) M) (m3 : HP 46 (s2) (s4) M) (m4 : HP 80 (16 * s3 + 8) (0 : Int) M) (f0 : 0 ≤ (s3 + (-1) * s4 + 8)) (f1 : 0 ≤ ((-1) * s3 + s4 - 8)) (hG : gI M) : (HP 53 (4096 * s0 + s1) (256 * s4 + 3) M ∧ True) := by
  refine ⟨r_ex (K := 0) (j := 1) m0 m1 m3 ⟨by omega, by omega, by decide⟩ (by omega) (by decide) (fun s hs hE e => ?_), trivial⟩
  have ha : s2 = (qps (tm M) s.1 2 : Int) := hE.2.2.2.2
  have ha : qps (tm M) s.1 2 = s2.toNat := by omega
  have g1 := (q45 m2).2
  have g2 := (q46 m3).2
  have hk : qsz (tm M) s.1 2 = 8 ∧ qgr (tm M) (tS (tm M) (qps (tm M) s.1 2)) 8 = true := ⟨by unfold qsz; rw [ha]; omega, qgr_i (by rw [ha]; exact gr_o (s := tS (tm M) s2.toNat) (k := 8) (Eq.mp hp_80 m4) ⟨by omega, by decide⟩)⟩
  show qcW (if qsz (tm M) s.1 2 = 8 ∧ qgr (tm M) (tS (tm M) (qps (tm M) s.1 2)) 8 = true then none else some 4) (tK (tm M) (qps (tm M) s.1 2)) = none
  rw [e, qcW_x (by omega)]
  exact if_pos hk

-- ln0
theorem cr_89 (M : pM) (s0 s1 s2 : Int) (b0 : 0 ≤ s0 ∧ s0 ≤ 1900) (b1 : 0 ≤ s1 ∧ s1 ≤ 950) (b2 : 0 ≤ s2 ∧ s2 ≤ 1900) (m0 : HP 53 (4096 * s0 + s1) (256 * s2 + 3) M) (hG : gI M) : (HP 89 (4096 * s0 + s1) (s2) M ∧ True) := by
  obtain ⟨s, h1, h2⟩ := ex_o (K := 0) (j := 2) (a := s2) (Eq.mp hp_53 m0) ⟨by omega, by omega, by decide, by decide⟩
  exact ⟨Eq.mpr hp_89 ⟨s, 0, h1, ⟨h2.2.2.1, h2.2.2.2.1⟩, h2.2.2.2.2⟩, trivial⟩

-- fk17
theorem cr_90 (M : pM) (s0 s1 s2 s3 s4 : Int) (b0 : 0 ≤ s0 ∧ s0 ≤ 1900) (b1 : 0 ≤ s1 ∧ s1 ≤ 950) (b2 : 0 ≤ s2 ∧ s2 ≤ 1900) (b3 : 0 ≤ s3 ∧ s3 ≤ 1900) (b4 : 256 ≤ s4 ∧ s4 ≤ 600000) (m0 : HP 53 (4096 * s0 + s1) (256 * s2 + 17) M) (m1 : HP 47 (s2) (s4) M) (m2 : HP 45 (s2) (s3) M) (f0 : 0 ≤ ((-1) * s4 + 262142)) (hG : gI M) : (HP 66 (s3) (2 : Int) M ∧ True) := by
  refine ⟨r_fl (K := 1) (j := 0) m0 m1 m2 ⟨by omega, by omega, by decide⟩ (fun s hs hE e => ?_), trivial⟩
  show qcW (if qsz (tm M) s.1 1 = 1 ∧ qgr (tm M) (tS (tm M) (qps (tm M) s.1 1)) 1 = true then qtd (s.2 16 (qlt (tm M) s.1 1 0 - 97).toNat) else some 4) (tK (tm M) (qps (tm M) s.1 1)) = some 2
  rw [e]
  exact qcW_2 (by omega) (by omega)

-- fl17
theorem cr_91 (M : pM) (s0 s1 s2 s3 s4 : Int) (b0 : 0 ≤ s0 ∧ s0 ≤ 1900) (b1 : 0 ≤ s1 ∧ s1 ≤ 950) (b2 : 0 ≤ s2 ∧ s2 ≤ 1900) (b3 : 0 ≤ s3 ∧ s3 ≤ 1900) (b4 : 256 ≤ s4 ∧ s4 ≤ 600000) (m0 : HP 53 (4096 * s0 + s1) (256 * s2 + 17) M) (m1 : HP 47 (s2) (s4) M) (m2 : HP 45 (s2) (s3) M) (f0 : 0 ≤ (s4 - 262169)) (hG : gI M) : (HP 66 (s3) (2 : Int) M ∧ True) := by
  refine ⟨r_fl (K := 1) (j := 0) m0 m1 m2 ⟨by omega, by omega, by decide⟩ (fun s hs hE e => ?_), trivial⟩
  show qcW (if qsz (tm M) s.1 1 = 1 ∧ qgr (tm M) (tS (tm M) (qps (tm M) s.1 1)) 1 = true then qtd (s.2 16 (qlt (tm M) s.1 1 0 - 97).toNat) else some 4) (tK (tm M) (qps (tm M) s.1 1)) = some 2
  rw [e]
  exact qcW_2 (by omega) (by omega)

-- len17_0
theorem cr_92 (M : pM) (s0 s1 s2 s3 s4 s5 : Int) (b0 : 0 ≤ s0 ∧ s0 ≤ 1900) (b1 : 0 ≤ s1 ∧ s1 ≤ 950) (b2 : 0 ≤ s2 ∧ s2 ≤ 1900) (b3 : 0 ≤ s3 ∧ s3 ≤ 1900) (b4 : 0 ≤ s4 ∧ s4 ≤ 1900) (b5 : 262143 ≤ s5 ∧ s5 ≤ 262168) (m0 : HP 53 (4096 * s0 + s1) (256 * s2 + 17) M) (m1 : HP 47 (s2) (s5) M) (m2 : HP 45 (s2) (s3) M) (m3 : HP 46 (s2) (s4) M) (f0 : 0 ≤ (s3 + (-1) * s4)) (hG : gI M) : (HP 66 (s3) (4 : Int) M ∧ True) := by
  refine ⟨r_fl (K := 1) (j := 0) m0 m1 m2 ⟨by omega, by omega, by decide⟩ (fun s hs hE e => ?_), trivial⟩
  have ha : s2 = (qps (tm M) s.1 1 : Int) := hE.2.2.2.2
  have ha : qps (tm M) s.1 1 = s2.toNat := by omega
  have g1 := (q45 m2).2
  have g2 := (q46 m3).2
  show qcW (if qsz (tm M) s.1 1 = 1 ∧ qgr (tm M) (tS (tm M) (qps (tm M) s.1 1)) 1 = true then qtd (s.2 16 (qlt (tm M) s.1 1 0 - 97).toNat) else some 4) (tK (tm M) (qps (tm M) s.1 1)) = some 4
  rw [e, qcW_x (by omega), if_neg]
  intro hh
  have hh := hh.1
  unfold qsz at hh
  rw [ha] at hh
  omega

-- len17_1
theorem cr_93 (M : pM) (s0 s1 s2 s3 s4 s5 : Int) (b0 : 0 ≤ s0 ∧ s0 ≤ 1900) (b1 : 0 ≤ s1 ∧ s1 ≤ 950) (b2 : 0 ≤ s2 ∧ s2 ≤ 1900) (b3 : 0 ≤ s3 ∧ s3 ≤ 1900) (b4 : 0 ≤ s4 ∧ s4 ≤ 1900) (b5 : 262143 ≤ s5 ∧ s5 ≤ 262168) (m0 : HP 53 (4096 * s0 + s1) (256 * s2 + 17) M) (m1 : HP 47 (s2) (s5) M) (m2 : HP 45 (s2) (s3) M) (m3 : HP 46 (s2) (s4) M) (f0 : 0 ≤ ((-1) * s3 + s4 - 2)) (hG : gI M) : (HP 66 (s3) (4 : Int) M ∧ True) := by
  refine ⟨r_fl (K := 1) (j := 0) m0 m1 m2 ⟨by omega, by omega, by decide⟩ (fun s hs hE e => ?_), trivial⟩
  have ha : s2 = (qps (tm M) s.1 1 : Int) := hE.2.2.2.2
  have ha : qps (tm M) s.1 1 = s2.toNat := by omega
  have g1 := (q45 m2).2
  have g2 := (q46 m3).2
  show qcW (if qsz (tm M) s.1 1 = 1 ∧ qgr (tm M) (tS (tm M) (qps (tm M) s.1 1)) 1 = true then qtd (s.2 16 (qlt (tm M) s.1 1 0 - 97).toNat) else some 4) (tK (tm M) (qps (tm M) s.1 1)) = some 4
  rw [e, qcW_x (by omega), if_neg]
  intro hh
  have hh := hh.1
  unfold qsz at hh
  rw [ha] at hh
  omega

-- let17_0
theorem cr_94 (M : pM) (s0 s1 s2 s3 s4 s5 s6 s7 : Int) (b0 : 0 ≤ s0 ∧ s0 ≤ 1900) (b1 : 0 ≤ s1 ∧ s1 ≤ 950) (b2 : 0 ≤ s2 ∧ s2 ≤ 1900) (b3 : 0 ≤ s3 ∧ s3 ≤ 1900) (b4 : 0 ≤ s4 ∧ s4 ≤ 1900) (b5 : 262143 ≤ s5 ∧ s5 ≤ 262168) (b6 : 0 ≤ s6 ∧ s6 ≤ 0) (b7 : 0 ≤ s7 ∧ s7 ≤ 255) (m0 : HP 53 (4096 * s0 + s1) (256 * s2 + 17) M) (m1 : HP 47 (s2) (s5) M) (m2 : HP 45 (s2) (s3) M) (m3 : HP 46 (s2) (s4) M) (m4 : (0 ≤ (s3 + s6) ∧ M 1 (s3 + s6).toNat = (s7))) (f0 : 0 ≤ (s3 + (-1) * s4 + 1)) (f1 : 0 ≤ ((-1) * s3 + s4 - 1)) (f2 : 0 ≤ ((-1) * s7 + 96)) (hG : gI M) : (HP 66 (s3) (4 : Int) M ∧ True) := by
  refine ⟨r_fl (K := 1) (j := 0) m0 m1 m2 ⟨by omega, by omega, by decide⟩ (fun s hs hE e => ?_), trivial⟩
  have ha : s2 = (qps (tm M) s.1 1 : Int) := hE.2.2.2.2
  have ha : qps (tm M) s.1 1 = s2.toNat := by omega
  have g1 := (q45 m2).2
  have g2 := (q46 m3).2
  show qcW (if qsz (tm M) s.1 1 = 1 ∧ qgr (tm M) (tS (tm M) (qps (tm M) s.1 1)) 1 = true then qtd (s.2 16 (qlt (tm M) s.1 1 0 - 97).toNat) else some 4) (tK (tm M) (qps (tm M) s.1 1)) = some 4
  rw [e, qcW_x (by omega), if_neg]
  intro hh
  have hh := qgr_o (i := s6.toNat) hh.2 (by omega)
  rw [ha, show tS (tm M) s2.toNat + s6.toNat = (s3 + s6).toNat by omega, rd1 (by rw [show s3 + s6 = s3 + s6 by omega]; exact m4) (by omega)] at hh
  omega

-- let17_1
theorem cr_95 (M : pM) (s0 s1 s2 s3 s4 s5 s6 s7 : Int) (b0 : 0 ≤ s0 ∧ s0 ≤ 1900) (b1 : 0 ≤ s1 ∧ s1 ≤ 950) (b2 : 0 ≤ s2 ∧ s2 ≤ 1900) (b3 : 0 ≤ s3 ∧ s3 ≤ 1900) (b4 : 0 ≤ s4 ∧ s4 ≤ 1900) (b5 : 262143 ≤ s5 ∧ s5 ≤ 262168) (b6 : 0 ≤ s6 ∧ s6 ≤ 0) (b7 : 0 ≤ s7 ∧ s7 ≤ 255) (m0 : HP 53 (4096 * s0 + s1) (256 * s2 + 17) M) (m1 : HP 47 (s2) (s5) M) (m2 : HP 45 (s2) (s3) M) (m3 : HP 46 (s2) (s4) M) (m4 : (0 ≤ (s3 + s6) ∧ M 1 (s3 + s6).toNat = (s7))) (f0 : 0 ≤ (s3 + (-1) * s4 + 1)) (f1 : 0 ≤ ((-1) * s3 + s4 - 1)) (f2 : 0 ≤ (s7 - 105)) (hG : gI M) : (HP 66 (s3) (4 : Int) M ∧ True) := by
  refine ⟨r_fl (K := 1) (j := 0) m0 m1 m2 ⟨by omega, by omega, by decide⟩ (fun s hs hE e => ?_), trivial⟩
  have ha : s2 = (qps (tm M) s.1 1 : Int) := hE.2.2.2.2
  have ha : qps (tm M) s.1 1 = s2.toNat := by omega
  have g1 := (q45 m2).2
  have g2 := (q46 m3).2
  show qcW (if qsz (tm M) s.1 1 = 1 ∧ qgr (tm M) (tS (tm M) (qps (tm M) s.1 1)) 1 = true then qtd (s.2 16 (qlt (tm M) s.1 1 0 - 97).toNat) else some 4) (tK (tm M) (qps (tm M) s.1 1)) = some 4
  rw [e, qcW_x (by omega), if_neg]
  intro hh
  have hh := qgr_o (i := s6.toNat) hh.2 (by omega)
  rw [ha, show tS (tm M) s2.toNat + s6.toNat = (s3 + s6).toNat by omega, rd1 (by rw [show s3 + s6 = s3 + s6 by omega]; exact m4) (by omega)] at hh
  omega

-- told1
theorem cr_96 (M : pM) (s0 s1 s2 s3 s4 s5 s6 s7 s8 s9 : Int) (b0 : 0 ≤ s0 ∧ s0 ≤ 1900) (b1 : 0 ≤ s1 ∧ s1 ≤ 950) (b2 : 0 ≤ s2 ∧ s2 ≤ 1900) (b3 : 0 ≤ s3 ∧ s3 ≤ 1900) (b4 : 0 ≤ s4 ∧ s4 ≤ 1900) (b5 : 262143 ≤ s5 ∧ s5 ≤ 262168) (b6 : 0 ≤ s6 ∧ s6 ≤ 7) (b7 : (-2147483648) ≤ s7 ∧ s7 ≤ 2147483647) (b8 : (-2147483648) ≤ s8 ∧ s8 ≤ 2147483647) (b9 : (-2147483648) ≤ s9 ∧ s9 ≤ 2147483647) (m0 : HP 53 (4096 * s0 + s1) (256 * s2 + 17) M) (m1 : HP 47 (s2) (s5) M) (m2 : HP 45 (s2) (s3) M) (m3 : HP 46 (s2) (s4) M) (m4 : (0 ≤ (s3) ∧ M 1 (s3).toNat = (s6 + 97))) (m5 : HP 72 (4096 * s0 + s1) (s7) M) (m6 : HP 104 (s6 + 4294967296 * s7) (s8) M) (m7 : HP 100 (4294967296 * s8 + 1) (s9) M) (f0 : 0 ≤ (s3 + (-1) * s4 + 1)) (f1 : 0 ≤ ((-1) * s3 + s4 - 1)) (hG : gI M) : (HP 53 (4096 * s0 + s1) (256 * s4 + 18) M ∧ HP 87 (s0) (s6) M ∧ 0 ≤ ((-1) * s9) ∧ 0 ≤ (s9) ∧ True) ∨ (HP 66 (s3) (3 : Int) M ∧ 0 ≤ ((-1) * s9 + 1) ∧ 0 ≤ (s9 - 1) ∧ True) := by
  have ht := t4_bit (y := s6.toNat) (m := s7) (o := s8) (by omega) m6 (by omega) m7 (by omega)
  obtain ⟨S, hS, hb⟩ := Eq.mp hp_72 m5
  have hb := hb s6.toNat (by omega)
  have h01 := qb4_01 s7 s6.toNat
  obtain ⟨S2, hS2, hE2⟩ := ex_o (K := 1) (j := 0) (a := s2) (Eq.mp hp_53 m0) ⟨by omega, by omega, by decide, by decide⟩
  have ha2 : s2 = (qps (tm M) S2.1 1 : Int) := hE2.2.2.2.2
  have ha : qps (tm M) S2.1 1 = s2.toNat := by omega
  have g1 := (q45 m2).2
  have g2 := (q46 m3).2
  have hr := rd1 m4 (by omega)
  have hl : qlt (tm M) S2.1 1 0 = 97 + s6 := by unfold qlt; rw [ha, show tS (tm M) s2.toNat + 0 = s3.toNat by omega, hr]; omega
  have hc : ∀ s : Nat × pM, qat (tm M) (4096 * s0 + s1) s → tK (tm M) (qps (tm M) s.1 1) = s5 → qck (tm M) s.1 s.2 1 1 = qtd s9 := by
    intro s hs e
    have es := qat_u hS hs
    have e2 := qat_u hS2 hs
    subst e2
    show qcW (if qsz (tm M) s.1 1 = 1 ∧ qgr (tm M) (tS (tm M) (qps (tm M) s.1 1)) 1 = true then qtd (s.2 16 (qlt (tm M) s.1 1 0 - 97).toNat) else some 4) (tK (tm M) (qps (tm M) s.1 1)) = _
    rw [e, qcW_x (by omega), if_pos ⟨by unfold qsz; rw [ha]; omega, qgr_i (fun i hi => by rw [ha, show tS (tm M) s2.toNat + i = s3.toNat by omega, hr]; omega)⟩, hl, show (97 + s6 - 97).toNat = s6.toNat by omega, es, ← hb, ← ht]
  rcases h01 with h0 | h0
  · exact Or.inl ⟨r_ex (K := 1) (j := 0) m0 m1 m3 ⟨by omega, by omega, by decide⟩ (by omega) (by decide) (fun s hs hE e => (hc s hs e).trans (qtd_0 (by omega))), Eq.mpr hp_87 ⟨by omega, by rw [show s0.toNat = S2.1 by have := qat_p (P := s0) (l := s1) hS2 ⟨by omega, by omega, by omega⟩; omega]; exact hl⟩, by omega, by omega, trivial⟩
  · exact Or.inr ⟨r_fl (K := 1) (j := 0) m0 m1 m2 ⟨by omega, by omega, by decide⟩ (fun s hs hE e => (hc s hs e).trans (qtd_1 (by omega))), by omega, by omega, trivial⟩

-- fk18
theorem cr_97 (M : pM) (s0 s1 s2 s3 s4 s5 : Int) (b0 : 0 ≤ s0 ∧ s0 ≤ 1900) (b1 : 0 ≤ s1 ∧ s1 ≤ 950) (b2 : 0 ≤ s2 ∧ s2 ≤ 1900) (b3 : 0 ≤ s3 ∧ s3 ≤ 1900) (b4 : 256 ≤ s4 ∧ s4 ≤ 600000) (b5 : 0 ≤ s5 ∧ s5 ≤ 5) (m0 : HP 53 (4096 * s0 + s1) (256 * s2 + s5 + 18) M) (m1 : HP 47 (s2) (s4) M) (m2 : HP 45 (s2) (s3) M) (f0 : 0 ≤ ((-1) * s4 + 393215)) (hG : gI M) : (HP 66 (s3) (2 : Int) M ∧ True) := by
  refine ⟨r_fl (K := 1) (j := 1 + s5.toNat) m0 m1 m2 ⟨by omega, by omega, by decide⟩ (fun s hs hE e => ?_), trivial⟩
  rw [qck_L (by omega) (by omega), e]
  exact qcN_2 (by omega) (by omega)

-- fl18
theorem cr_98 (M : pM) (s0 s1 s2 s3 s4 s5 : Int) (b0 : 0 ≤ s0 ∧ s0 ≤ 1900) (b1 : 0 ≤ s1 ∧ s1 ≤ 950) (b2 : 0 ≤ s2 ∧ s2 ≤ 1900) (b3 : 0 ≤ s3 ∧ s3 ≤ 1900) (b4 : 256 ≤ s4 ∧ s4 ≤ 600000) (b5 : 0 ≤ s5 ∧ s5 ≤ 5) (m0 : HP 53 (4096 * s0 + s1) (256 * s2 + s5 + 18) M) (m1 : HP 47 (s2) (s4) M) (m2 : HP 45 (s2) (s3) M) (f0 : 0 ≤ (s4 - 403216)) (hG : gI M) : (HP 66 (s3) (2 : Int) M ∧ True) := by
  refine ⟨r_fl (K := 1) (j := 1 + s5.toNat) m0 m1 m2 ⟨by omega, by omega, by decide⟩ (fun s hs hE e => ?_), trivial⟩
  rw [qck_L (by omega) (by omega), e]
  exact qcN_2 (by omega) (by omega)

-- fn18
theorem cr_99 (M : pM) (s0 s1 s2 s3 s4 s5 : Int) (b0 : 0 ≤ s0 ∧ s0 ≤ 1900) (b1 : 0 ≤ s1 ∧ s1 ≤ 950) (b2 : 0 ≤ s2 ∧ s2 ≤ 1900) (b3 : 0 ≤ s3 ∧ s3 ≤ 1900) (b4 : 0 ≤ s4 ∧ s4 ≤ 9999) (b5 : 0 ≤ s5 ∧ s5 ≤ 5) (m0 : HP 53 (4096 * s0 + s1) (256 * s2 + s5 + 18) M) (m1 : HP 47 (s2) (s4 + 393216) M) (m2 : HP 45 (s2) (s3) M) (f0 : 0 ≤ (s4 - 21)) (hG : gI M) : (HP 66 (s3) (4 : Int) M ∧ True) := by
  refine ⟨r_fl (K := 1) (j := 1 + s5.toNat) m0 m1 m2 ⟨by omega, by omega, by decide⟩ (fun s hs hE e => ?_), trivial⟩
  rw [qck_L (by omega) (by omega), e]
  exact qcN_4 (by omega) (Or.inr (by omega))

-- ex18
theorem cr_100 (M : pM) (s0 s1 s2 s3 s4 s5 : Int) (b0 : 0 ≤ s0 ∧ s0 ≤ 1900) (b1 : 0 ≤ s1 ∧ s1 ≤ 950) (b2 : 0 ≤ s2 ∧ s2 ≤ 1900) (b3 : 0 ≤ s3 ∧ s3 ≤ 1900) (b4 : 0 ≤ s4 ∧ s4 ≤ 9999) (b5 : 0 ≤ s5 ∧ s5 ≤ 5) (m0 : HP 53 (4096 * s0 + s1) (256 * s2 + s5 + 18) M) (m1 : HP 47 (s2) (s4 + 393216) M) (m2 : HP 46 (s2) (s3) M) (f0 : 0 ≤ (s4)) (f1 : 0 ≤ ((-1) * s4 + 20)) (hG : gI M) : (HP 53 (4096 * s0 + s1) (256 * s3 + s5 + 19) M ∧ HP 79 (16 * s0 + s5 + 2) (s4) M ∧ True) := by
  refine ⟨?_, ?_, trivial⟩
  · exact r_ex (K := 1) (j := 1 + s5.toNat) m0 m1 m2 ⟨by omega, by omega, by decide⟩ (by omega) (by show _ < 8; omega) (fun s hs hE e => by
        rw [qck_L (by omega) (by omega), e]
        exact qcN_x (by omega) (by omega))
  · exact r_va (P := s0) (l := s1) (K := 1) (j := 1 + s5.toNat) m0 m1 ⟨by omega, by omega, by omega⟩ ⟨by omega, by omega, by decide⟩ (by omega) (by omega)

-- ln1
theorem cr_101 (M : pM) (s0 s1 s2 : Int) (b0 : 0 ≤ s0 ∧ s0 ≤ 1900) (b1 : 0 ≤ s1 ∧ s1 ≤ 950) (b2 : 0 ≤ s2 ∧ s2 ≤ 1900) (m0 : HP 53 (4096 * s0 + s1) (256 * s2 + 24) M) (hG : gI M) : (HP 89 (4096 * s0 + s1) (s2) M ∧ True) := by
  obtain ⟨s, h1, h2⟩ := ex_o (K := 1) (j := 7) (a := s2) (Eq.mp hp_53 m0) ⟨by omega, by omega, by decide, by decide⟩
  exact ⟨Eq.mpr hp_89 ⟨s, 1, h1, ⟨h2.2.2.1, h2.2.2.2.1⟩, h2.2.2.2.2⟩, trivial⟩

-- fk33
theorem cr_102 (M : pM) (s0 s1 s2 s3 s4 : Int) (b0 : 0 ≤ s0 ∧ s0 ≤ 1900) (b1 : 0 ≤ s1 ∧ s1 ≤ 950) (b2 : 0 ≤ s2 ∧ s2 ≤ 1900) (b3 : 0 ≤ s3 ∧ s3 ≤ 1900) (b4 : 256 ≤ s4 ∧ s4 ≤ 600000) (m0 : HP 53 (4096 * s0 + s1) (256 * s2 + 33) M) (m1 : HP 47 (s2) (s4) M) (m2 : HP 45 (s2) (s3) M) (f0 : 0 ≤ ((-1) * s4 + 393215)) (hG : gI M) : (HP 66 (s3) (2 : Int) M ∧ True) := by
  refine ⟨r_fl (K := 2) (j := 0) m0 m1 m2 ⟨by omega, by omega, by decide⟩ (fun s hs hE e => ?_), trivial⟩
  show qcN 0 5 (if 0 ≤ s.2 3 (qvl (tm M) s.1 1).toNat then some 3 else none) (tK (tm M) (qps (tm M) s.1 1)) = some 2
  rw [e]
  exact qcN_2 (by omega) (by omega)

-- fl33
theorem cr_103 (M : pM) (s0 s1 s2 s3 s4 : Int) (b0 : 0 ≤ s0 ∧ s0 ≤ 1900) (b1 : 0 ≤ s1 ∧ s1 ≤ 950) (b2 : 0 ≤ s2 ∧ s2 ≤ 1900) (b3 : 0 ≤ s3 ∧ s3 ≤ 1900) (b4 : 256 ≤ s4 ∧ s4 ≤ 600000) (m0 : HP 53 (4096 * s0 + s1) (256 * s2 + 33) M) (m1 : HP 47 (s2) (s4) M) (m2 : HP 45 (s2) (s3) M) (f0 : 0 ≤ (s4 - 403216)) (hG : gI M) : (HP 66 (s3) (2 : Int) M ∧ True) := by
  refine ⟨r_fl (K := 2) (j := 0) m0 m1 m2 ⟨by omega, by omega, by decide⟩ (fun s hs hE e => ?_), trivial⟩
  show qcN 0 5 (if 0 ≤ s.2 3 (qvl (tm M) s.1 1).toNat then some 3 else none) (tK (tm M) (qps (tm M) s.1 1)) = some 2
  rw [e]
  exact qcN_2 (by omega) (by omega)

-- fn33
theorem cr_104 (M : pM) (s0 s1 s2 s3 s4 : Int) (b0 : 0 ≤ s0 ∧ s0 ≤ 1900) (b1 : 0 ≤ s1 ∧ s1 ≤ 950) (b2 : 0 ≤ s2 ∧ s2 ≤ 1900) (b3 : 0 ≤ s3 ∧ s3 ≤ 1900) (b4 : 0 ≤ s4 ∧ s4 ≤ 9999) (m0 : HP 53 (4096 * s0 + s1) (256 * s2 + 33) M) (m1 : HP 47 (s2) (s4 + 393216) M) (m2 : HP 45 (s2) (s3) M) (f0 : 0 ≤ (s4 - 6)) (hG : gI M) : (HP 66 (s3) (4 : Int) M ∧ True) := by
  refine ⟨r_fl (K := 2) (j := 0) m0 m1 m2 ⟨by omega, by omega, by decide⟩ (fun s hs hE e => ?_), trivial⟩
  show qcN 0 5 (if 0 ≤ s.2 3 (qvl (tm M) s.1 1).toNat then some 3 else none) (tK (tm M) (qps (tm M) s.1 1)) = some 4
  rw [e]
  exact qcN_4 (by omega) (Or.inr (by omega))

-- told2_0
theorem cr_105 (M : pM) (s0 s1 s2 s3 s4 s5 s6 s7 s8 : Int) (b0 : 0 ≤ s0 ∧ s0 ≤ 1900) (b1 : 0 ≤ s1 ∧ s1 ≤ 950) (b2 : 0 ≤ s2 ∧ s2 ≤ 1900) (b3 : 0 ≤ s3 ∧ s3 ≤ 1900) (b4 : 0 ≤ s4 ∧ s4 ≤ 5) (b5 : 0 ≤ s5 ∧ s5 ≤ 12) (b6 : 0 ≤ s6 ∧ s6 ≤ 20) (b7 : 0 ≤ s7 ∧ s7 ≤ 4) (b8 : (-1) ≤ s8 ∧ s8 ≤ (-1)) (m0 : HP 53 (4096 * s0 + s1) (256 * s2 + 33) M) (m1 : HP 47 (s2) (s4 + 393216) M) (m2 : HP 46 (s2) (s3) M) (m3 : HP 54 (4096 * s0 + s1) (s5 + 32 * s6 + 1024 * s7) M) (m4 : (0 ≤ (s4) ∧ M 6 (s4).toNat = (s8))) (hG : gI M) : (HP 53 (4096 * s0 + s1) (256 * s3 + 34) M ∧ HP 79 (16 * s0 + 1) (s4) M ∧ True) := by
  obtain ⟨S, hS, hw, ha⟩ := Eq.mp hp_54 m3
  have hr : M 6 s4.toNat = if S.2 3 s4.toNat < 0 then -1 else 4 * S.2 4 s4.toNat + S.2 3 s4.toNat := ha.2.2.1 s4.toNat (by omega)
  have h4 := ha.2.2.2.1 s4.toNat (by omega)
  rw [m4.2] at hr
  have hs0 : S.2 3 s4.toNat < 0 := by split at hr <;> omega
  have hc : ∀ s : Nat × pM, qat (tm M) (4096 * s0 + s1) s → tK (tm M) (qps (tm M) s.1 1) = (s4 + 393216) → qck (tm M) s.1 s.2 2 1 = none := by
    intro s hs e
    have es := qat_u hS hs
    have ev : qvl (tm M) s.1 1 = s4 := by unfold qvl; omega
    show qcN 0 5 (if 0 ≤ s.2 3 (qvl (tm M) s.1 1).toNat then some 3 else none) (tK (tm M) (qps (tm M) s.1 1)) = _
    rw [e, qcN_x (by omega) (by omega), ev, es]
    exact if_neg (by omega)
  exact ⟨r_ex (K := 2) (j := 0) m0 m1 m2 ⟨by omega, by omega, by decide⟩ (by omega) (by decide) (fun s hs hE e => hc s hs e), r_va (P := s0) (l := s1) (K := 2) (j := 0) m0 m1 ⟨by omega, by omega, by omega⟩ ⟨by omega, by omega, by decide⟩ (by omega) (by omega), trivial⟩

-- tolx2_0
theorem cr_106 (M : pM) (s0 s1 s2 s3 s4 s5 s6 s7 s8 : Int) (b0 : 0 ≤ s0 ∧ s0 ≤ 1900) (b1 : 0 ≤ s1 ∧ s1 ≤ 950) (b2 : 0 ≤ s2 ∧ s2 ≤ 1900) (b3 : 0 ≤ s3 ∧ s3 ≤ 1900) (b4 : 0 ≤ s4 ∧ s4 ≤ 5) (b5 : 0 ≤ s5 ∧ s5 ≤ 12) (b6 : 0 ≤ s6 ∧ s6 ≤ 20) (b7 : 0 ≤ s7 ∧ s7 ≤ 4) (b8 : 0 ≤ s8 ∧ s8 ≤ 40) (m0 : HP 53 (4096 * s0 + s1) (256 * s2 + 33) M) (m1 : HP 47 (s2) (s4 + 393216) M) (m2 : HP 45 (s2) (s3) M) (m3 : HP 54 (4096 * s0 + s1) (s5 + 32 * s6 + 1024 * s7) M) (m4 : (0 ≤ (s4) ∧ M 6 (s4).toNat = (s8))) (hG : gI M) : (HP 66 (s3) (3 : Int) M ∧ True) := by
  obtain ⟨S, hS, hw, ha⟩ := Eq.mp hp_54 m3
  have hr : M 6 s4.toNat = if S.2 3 s4.toNat < 0 then -1 else 4 * S.2 4 s4.toNat + S.2 3 s4.toNat := ha.2.2.1 s4.toNat (by omega)
  have h4 := ha.2.2.2.1 s4.toNat (by omega)
  rw [m4.2] at hr
  have hs0 : 0 ≤ S.2 3 s4.toNat := by split at hr <;> omega
  have hc : ∀ s : Nat × pM, qat (tm M) (4096 * s0 + s1) s → tK (tm M) (qps (tm M) s.1 1) = (s4 + 393216) → qck (tm M) s.1 s.2 2 1 = some 3 := by
    intro s hs e
    have es := qat_u hS hs
    have ev : qvl (tm M) s.1 1 = s4 := by unfold qvl; omega
    show qcN 0 5 (if 0 ≤ s.2 3 (qvl (tm M) s.1 1).toNat then some 3 else none) (tK (tm M) (qps (tm M) s.1 1)) = _
    rw [e, qcN_x (by omega) (by omega), ev, es]
    exact if_pos (by omega)
  exact ⟨r_fl (K := 2) (j := 0) m0 m1 m2 ⟨by omega, by omega, by decide⟩ (fun s hs hE e => hc s hs e), trivial⟩

-- told2_1
theorem cr_107 (M : pM) (s0 s1 s2 s3 s4 s5 s6 s7 s8 : Int) (b0 : 0 ≤ s0 ∧ s0 ≤ 1900) (b1 : 0 ≤ s1 ∧ s1 ≤ 950) (b2 : 0 ≤ s2 ∧ s2 ≤ 1900) (b3 : 0 ≤ s3 ∧ s3 ≤ 1900) (b4 : 0 ≤ s4 ∧ s4 ≤ 5) (b5 : 0 ≤ s5 ∧ s5 ≤ 12) (b6 : 0 ≤ s6 ∧ s6 ≤ 20) (b7 : 0 ≤ s7 ∧ s7 ≤ 4) (b8 : (-1) ≤ s8 ∧ s8 ≤ (-1)) (m0 : HP 53 (4096 * s0 + s1) (256 * s2 + 33) M) (m1 : HP 47 (s2) (s4 + 393216) M) (m2 : HP 46 (s2) (s3) M) (m3 : HP 55 (4096 * s0 + s1) (s5 + 32 * s6 + 1024 * s7) M) (m4 : (0 ≤ (s4) ∧ M 15 (s4).toNat = (s8))) (hG : gI M) : (HP 53 (4096 * s0 + s1) (256 * s3 + 34) M ∧ HP 79 (16 * s0 + 1) (s4) M ∧ True) := by
  obtain ⟨S, hS, hw, ha⟩ := Eq.mp hp_55 m3
  have hr : M 15 s4.toNat = if S.2 3 s4.toNat < 0 then -1 else 4 * S.2 4 s4.toNat + S.2 3 s4.toNat := ha.2.2.1 s4.toNat (by omega)
  have h4 := ha.2.2.2.1 s4.toNat (by omega)
  rw [m4.2] at hr
  have hs0 : S.2 3 s4.toNat < 0 := by split at hr <;> omega
  have hc : ∀ s : Nat × pM, qat (tm M) (4096 * s0 + s1) s → tK (tm M) (qps (tm M) s.1 1) = (s4 + 393216) → qck (tm M) s.1 s.2 2 1 = none := by
    intro s hs e
    have es := qat_u hS hs
    have ev : qvl (tm M) s.1 1 = s4 := by unfold qvl; omega
    show qcN 0 5 (if 0 ≤ s.2 3 (qvl (tm M) s.1 1).toNat then some 3 else none) (tK (tm M) (qps (tm M) s.1 1)) = _
    rw [e, qcN_x (by omega) (by omega), ev, es]
    exact if_neg (by omega)
  exact ⟨r_ex (K := 2) (j := 0) m0 m1 m2 ⟨by omega, by omega, by decide⟩ (by omega) (by decide) (fun s hs hE e => hc s hs e), r_va (P := s0) (l := s1) (K := 2) (j := 0) m0 m1 ⟨by omega, by omega, by omega⟩ ⟨by omega, by omega, by decide⟩ (by omega) (by omega), trivial⟩

-- tolx2_1
theorem cr_108 (M : pM) (s0 s1 s2 s3 s4 s5 s6 s7 s8 : Int) (b0 : 0 ≤ s0 ∧ s0 ≤ 1900) (b1 : 0 ≤ s1 ∧ s1 ≤ 950) (b2 : 0 ≤ s2 ∧ s2 ≤ 1900) (b3 : 0 ≤ s3 ∧ s3 ≤ 1900) (b4 : 0 ≤ s4 ∧ s4 ≤ 5) (b5 : 0 ≤ s5 ∧ s5 ≤ 12) (b6 : 0 ≤ s6 ∧ s6 ≤ 20) (b7 : 0 ≤ s7 ∧ s7 ≤ 4) (b8 : 0 ≤ s8 ∧ s8 ≤ 40) (m0 : HP 53 (4096 * s0 + s1) (256 * s2 + 33) M) (m1 : HP 47 (s2) (s4 + 393216) M) (m2 : HP 45 (s2) (s3) M) (m3 : HP 55 (4096 * s0 + s1) (s5 + 32 * s6 + 1024 * s7) M) (m4 : (0 ≤ (s4) ∧ M 15 (s4).toNat = (s8))) (hG : gI M) : (HP 66 (s3) (3 : Int) M ∧ True) := by
  obtain ⟨S, hS, hw, ha⟩ := Eq.mp hp_55 m3
  have hr : M 15 s4.toNat = if S.2 3 s4.toNat < 0 then -1 else 4 * S.2 4 s4.toNat + S.2 3 s4.toNat := ha.2.2.1 s4.toNat (by omega)
  have h4 := ha.2.2.2.1 s4.toNat (by omega)
  rw [m4.2] at hr
  have hs0 : 0 ≤ S.2 3 s4.toNat := by split at hr <;> omega
  have hc : ∀ s : Nat × pM, qat (tm M) (4096 * s0 + s1) s → tK (tm M) (qps (tm M) s.1 1) = (s4 + 393216) → qck (tm M) s.1 s.2 2 1 = some 3 := by
    intro s hs e
    have es := qat_u hS hs
    have ev : qvl (tm M) s.1 1 = s4 := by unfold qvl; omega
    show qcN 0 5 (if 0 ≤ s.2 3 (qvl (tm M) s.1 1).toNat then some 3 else none) (tK (tm M) (qps (tm M) s.1 1)) = _
    rw [e, qcN_x (by omega) (by omega), ev, es]
    exact if_pos (by omega)
  exact ⟨r_fl (K := 2) (j := 0) m0 m1 m2 ⟨by omega, by omega, by decide⟩ (fun s hs hE e => hc s hs e), trivial⟩

-- fk34
theorem cr_109 (M : pM) (s0 s1 s2 s3 s4 : Int) (b0 : 0 ≤ s0 ∧ s0 ≤ 1900) (b1 : 0 ≤ s1 ∧ s1 ≤ 950) (b2 : 0 ≤ s2 ∧ s2 ≤ 1900) (b3 : 0 ≤ s3 ∧ s3 ≤ 1900) (b4 : 256 ≤ s4 ∧ s4 ≤ 600000) (m0 : HP 53 (4096 * s0 + s1) (256 * s2 + 34) M) (m1 : HP 47 (s2) (s4) M) (m2 : HP 45 (s2) (s3) M) (f0 : 0 ≤ ((-1) * s4 + 262142)) (hG : gI M) : (HP 66 (s3) (2 : Int) M ∧ True) := by
  refine ⟨r_fl (K := 2) (j := 1) m0 m1 m2 ⟨by omega, by omega, by decide⟩ (fun s hs hE e => ?_), trivial⟩
  show qcW (if qsz (tm M) s.1 2 = 1 ∧ (qlt (tm M) s.1 2 0 = 110 ∨ qlt (tm M) s.1 2 0 = 101 ∨ qlt (tm M) s.1 2 0 = 115 ∨ qlt (tm M) s.1 2 0 = 119) then none else some 2) (tK (tm M) (qps (tm M) s.1 2)) = some 2
  rw [e]
  exact qcW_2 (by omega) (by omega)

-- fl34
theorem cr_110 (M : pM) (s0 s1 s2 s3 s4 : Int) (b0 : 0 ≤ s0 ∧ s0 ≤ 1900) (b1 : 0 ≤ s1 ∧ s1 ≤ 950) (b2 : 0 ≤ s2 ∧ s2 ≤ 1900) (b3 : 0 ≤ s3 ∧ s3 ≤ 1900) (b4 : 256 ≤ s4 ∧ s4 ≤ 600000) (m0 : HP 53 (4096 * s0 + s1) (256 * s2 + 34) M) (m1 : HP 47 (s2) (s4) M) (m2 : HP 45 (s2) (s3) M) (f0 : 0 ≤ (s4 - 262169)) (hG : gI M) : (HP 66 (s3) (2 : Int) M ∧ True) := by
  refine ⟨r_fl (K := 2) (j := 1) m0 m1 m2 ⟨by omega, by omega, by decide⟩ (fun s hs hE e => ?_), trivial⟩
  show qcW (if qsz (tm M) s.1 2 = 1 ∧ (qlt (tm M) s.1 2 0 = 110 ∨ qlt (tm M) s.1 2 0 = 101 ∨ qlt (tm M) s.1 2 0 = 115 ∨ qlt (tm M) s.1 2 0 = 119) then none else some 2) (tK (tm M) (qps (tm M) s.1 2)) = some 2
  rw [e]
  exact qcW_2 (by omega) (by omega)

-- wl0
theorem cr_111 (M : pM) (s0 s1 s2 s3 s4 s5 : Int) (b0 : 0 ≤ s0 ∧ s0 ≤ 1900) (b1 : 0 ≤ s1 ∧ s1 ≤ 950) (b2 : 0 ≤ s2 ∧ s2 ≤ 1900) (b3 : 0 ≤ s3 ∧ s3 ≤ 1900) (b4 : 0 ≤ s4 ∧ s4 ≤ 1900) (b5 : 262143 ≤ s5 ∧ s5 ≤ 262168) (m0 : HP 53 (4096 * s0 + s1) (256 * s2 + 34) M) (m1 : HP 47 (s2) (s5) M) (m2 : HP 45 (s2) (s3) M) (m3 : HP 46 (s2) (s4) M) (m4 : (0 ≤ (s3) ∧ M 1 (s3).toNat = (110 : Int))) (f0 : 0 ≤ (s3 + (-1) * s4 + 1)) (f1 : 0 ≤ ((-1) * s3 + s4 - 1)) (hG : gI M) : (HP 53 (4096 * s0 + s1) (256 * s4 + 35) M ∧ HP 88 (s0) (0 : Int) M ∧ True) := by
  obtain ⟨S2, hS2, hE2⟩ := ex_o (K := 2) (j := 1) (a := s2) (Eq.mp hp_53 m0) ⟨by omega, by omega, by decide, by decide⟩
  have ha2 : s2 = (qps (tm M) S2.1 2 : Int) := hE2.2.2.2.2
  have ha : qps (tm M) S2.1 2 = s2.toNat := by omega
  have g1 := (q45 m2).2
  have g2 := (q46 m3).2
  have hr := rd1 m4 (by omega)
  have hl : qlt (tm M) S2.1 2 0 = 110 := by unfold qlt; rw [ha, show tS (tm M) s2.toNat + 0 = s3.toNat by omega]; exact hr
  have hc : ∀ s : Nat × pM, qat (tm M) (4096 * s0 + s1) s → tK (tm M) (qps (tm M) s.1 2) = s5 → qck (tm M) s.1 s.2 2 2 = none := by
    intro s hs e
    have e2 := qat_u hS2 hs
    subst e2
    show qcW (if qsz (tm M) s.1 2 = 1 ∧ (qlt (tm M) s.1 2 0 = 110 ∨ qlt (tm M) s.1 2 0 = 101 ∨ qlt (tm M) s.1 2 0 = 115 ∨ qlt (tm M) s.1 2 0 = 119) then none else some 2) (tK (tm M) (qps (tm M) s.1 2)) = _
    rw [e, qcW_x (by omega)]
    exact if_pos ⟨by unfold qsz; rw [ha]; omega, by rw [hl]; decide⟩
  exact ⟨r_ex (K := 2) (j := 1) m0 m1 m3 ⟨by omega, by omega, by decide⟩ (by omega) (by decide) (fun s hs hE e => hc s hs e), Eq.mpr hp_88 ⟨by omega, by rw [show s0.toNat = S2.1 by have := qat_p (P := s0) (l := s1) hS2 ⟨by omega, by omega, by omega⟩; omega]; unfold qwl; rw [hl]; rfl⟩, trivial⟩

-- wl1
theorem cr_112 (M : pM) (s0 s1 s2 s3 s4 s5 : Int) (b0 : 0 ≤ s0 ∧ s0 ≤ 1900) (b1 : 0 ≤ s1 ∧ s1 ≤ 950) (b2 : 0 ≤ s2 ∧ s2 ≤ 1900) (b3 : 0 ≤ s3 ∧ s3 ≤ 1900) (b4 : 0 ≤ s4 ∧ s4 ≤ 1900) (b5 : 262143 ≤ s5 ∧ s5 ≤ 262168) (m0 : HP 53 (4096 * s0 + s1) (256 * s2 + 34) M) (m1 : HP 47 (s2) (s5) M) (m2 : HP 45 (s2) (s3) M) (m3 : HP 46 (s2) (s4) M) (m4 : (0 ≤ (s3) ∧ M 1 (s3).toNat = (101 : Int))) (f0 : 0 ≤ (s3 + (-1) * s4 + 1)) (f1 : 0 ≤ ((-1) * s3 + s4 - 1)) (hG : gI M) : (HP 53 (4096 * s0 + s1) (256 * s4 + 35) M ∧ HP 88 (s0) (1 : Int) M ∧ True) := by
  obtain ⟨S2, hS2, hE2⟩ := ex_o (K := 2) (j := 1) (a := s2) (Eq.mp hp_53 m0) ⟨by omega, by omega, by decide, by decide⟩
  have ha2 : s2 = (qps (tm M) S2.1 2 : Int) := hE2.2.2.2.2
  have ha : qps (tm M) S2.1 2 = s2.toNat := by omega
  have g1 := (q45 m2).2
  have g2 := (q46 m3).2
  have hr := rd1 m4 (by omega)
  have hl : qlt (tm M) S2.1 2 0 = 101 := by unfold qlt; rw [ha, show tS (tm M) s2.toNat + 0 = s3.toNat by omega]; exact hr
  have hc : ∀ s : Nat × pM, qat (tm M) (4096 * s0 + s1) s → tK (tm M) (qps (tm M) s.1 2) = s5 → qck (tm M) s.1 s.2 2 2 = none := by
    intro s hs e
    have e2 := qat_u hS2 hs
    subst e2
    show qcW (if qsz (tm M) s.1 2 = 1 ∧ (qlt (tm M) s.1 2 0 = 110 ∨ qlt (tm M) s.1 2 0 = 101 ∨ qlt (tm M) s.1 2 0 = 115 ∨ qlt (tm M) s.1 2 0 = 119) then none else some 2) (tK (tm M) (qps (tm M) s.1 2)) = _
    rw [e, qcW_x (by omega)]
    exact if_pos ⟨by unfold qsz; rw [ha]; omega, by rw [hl]; decide⟩
  exact ⟨r_ex (K := 2) (j := 1) m0 m1 m3 ⟨by omega, by omega, by decide⟩ (by omega) (by decide) (fun s hs hE e => hc s hs e), Eq.mpr hp_88 ⟨by omega, by rw [show s0.toNat = S2.1 by have := qat_p (P := s0) (l := s1) hS2 ⟨by omega, by omega, by omega⟩; omega]; unfold qwl; rw [hl]; rfl⟩, trivial⟩

-- wl2
theorem cr_113 (M : pM) (s0 s1 s2 s3 s4 s5 : Int) (b0 : 0 ≤ s0 ∧ s0 ≤ 1900) (b1 : 0 ≤ s1 ∧ s1 ≤ 950) (b2 : 0 ≤ s2 ∧ s2 ≤ 1900) (b3 : 0 ≤ s3 ∧ s3 ≤ 1900) (b4 : 0 ≤ s4 ∧ s4 ≤ 1900) (b5 : 262143 ≤ s5 ∧ s5 ≤ 262168) (m0 : HP 53 (4096 * s0 + s1) (256 * s2 + 34) M) (m1 : HP 47 (s2) (s5) M) (m2 : HP 45 (s2) (s3) M) (m3 : HP 46 (s2) (s4) M) (m4 : (0 ≤ (s3) ∧ M 1 (s3).toNat = (115 : Int))) (f0 : 0 ≤ (s3 + (-1) * s4 + 1)) (f1 : 0 ≤ ((-1) * s3 + s4 - 1)) (hG : gI M) : (HP 53 (4096 * s0 + s1) (256 * s4 + 35) M ∧ HP 88 (s0) (2 : Int) M ∧ True) := by
  obtain ⟨S2, hS2, hE2⟩ := ex_o (K := 2) (j := 1) (a := s2) (Eq.mp hp_53 m0) ⟨by omega, by omega, by decide, by decide⟩
  have ha2 : s2 = (qps (tm M) S2.1 2 : Int) := hE2.2.2.2.2
  have ha : qps (tm M) S2.1 2 = s2.toNat := by omega
  have g1 := (q45 m2).2
  have g2 := (q46 m3).2
  have hr := rd1 m4 (by omega)
  have hl : qlt (tm M) S2.1 2 0 = 115 := by unfold qlt; rw [ha, show tS (tm M) s2.toNat + 0 = s3.toNat by omega]; exact hr
  have hc : ∀ s : Nat × pM, qat (tm M) (4096 * s0 + s1) s → tK (tm M) (qps (tm M) s.1 2) = s5 → qck (tm M) s.1 s.2 2 2 = none := by
    intro s hs e
    have e2 := qat_u hS2 hs
    subst e2
    show qcW (if qsz (tm M) s.1 2 = 1 ∧ (qlt (tm M) s.1 2 0 = 110 ∨ qlt (tm M) s.1 2 0 = 101 ∨ qlt (tm M) s.1 2 0 = 115 ∨ qlt (tm M) s.1 2 0 = 119) then none else some 2) (tK (tm M) (qps (tm M) s.1 2)) = _
    rw [e, qcW_x (by omega)]
    exact if_pos ⟨by unfold qsz; rw [ha]; omega, by rw [hl]; decide⟩
  exact ⟨r_ex (K := 2) (j := 1) m0 m1 m3 ⟨by omega, by omega, by decide⟩ (by omega) (by decide) (fun s hs hE e => hc s hs e), Eq.mpr hp_88 ⟨by omega, by rw [show s0.toNat = S2.1 by have := qat_p (P := s0) (l := s1) hS2 ⟨by omega, by omega, by omega⟩; omega]; unfold qwl; rw [hl]; rfl⟩, trivial⟩

-- wl3
theorem cr_114 (M : pM) (s0 s1 s2 s3 s4 s5 : Int) (b0 : 0 ≤ s0 ∧ s0 ≤ 1900) (b1 : 0 ≤ s1 ∧ s1 ≤ 950) (b2 : 0 ≤ s2 ∧ s2 ≤ 1900) (b3 : 0 ≤ s3 ∧ s3 ≤ 1900) (b4 : 0 ≤ s4 ∧ s4 ≤ 1900) (b5 : 262143 ≤ s5 ∧ s5 ≤ 262168) (m0 : HP 53 (4096 * s0 + s1) (256 * s2 + 34) M) (m1 : HP 47 (s2) (s5) M) (m2 : HP 45 (s2) (s3) M) (m3 : HP 46 (s2) (s4) M) (m4 : (0 ≤ (s3) ∧ M 1 (s3).toNat = (119 : Int))) (f0 : 0 ≤ (s3 + (-1) * s4 + 1)) (f1 : 0 ≤ ((-1) * s3 + s4 - 1)) (hG : gI M) : (HP 53 (4096 * s0 + s1) (256 * s4 + 35) M ∧ HP 88 (s0) (3 : Int) M ∧ True) := by
  obtain ⟨S2, hS2, hE2⟩ := ex_o (K := 2) (j := 1) (a := s2) (Eq.mp hp_53 m0) ⟨by omega, by omega, by decide, by decide⟩
  have ha2 : s2 = (qps (tm M) S2.1 2 : Int) := hE2.2.2.2.2
  have ha : qps (tm M) S2.1 2 = s2.toNat := by omega
  have g1 := (q45 m2).2
  have g2 := (q46 m3).2
  have hr := rd1 m4 (by omega)
  have hl : qlt (tm M) S2.1 2 0 = 119 := by unfold qlt; rw [ha, show tS (tm M) s2.toNat + 0 = s3.toNat by omega]; exact hr
  have hc : ∀ s : Nat × pM, qat (tm M) (4096 * s0 + s1) s → tK (tm M) (qps (tm M) s.1 2) = s5 → qck (tm M) s.1 s.2 2 2 = none := by
    intro s hs e
    have e2 := qat_u hS2 hs
    subst e2
    show qcW (if qsz (tm M) s.1 2 = 1 ∧ (qlt (tm M) s.1 2 0 = 110 ∨ qlt (tm M) s.1 2 0 = 101 ∨ qlt (tm M) s.1 2 0 = 115 ∨ qlt (tm M) s.1 2 0 = 119) then none else some 2) (tK (tm M) (qps (tm M) s.1 2)) = _
    rw [e, qcW_x (by omega)]
    exact if_pos ⟨by unfold qsz; rw [ha]; omega, by rw [hl]; decide⟩
  exact ⟨r_ex (K := 2) (j := 1) m0 m1 m3 ⟨by omega, by omega, by decide⟩ (by omega) (by decide) (fun s hs hE e => hc s hs e), Eq.mpr hp_88 ⟨by omega, by rw [show s0.toNat = S2.1 by have := qat_p (P := s0) (l := s1) hS2 ⟨by omega, by omega, by omega⟩; omega]; unfold qwl; rw [hl]; rfl⟩, trivial⟩

-- wll
theorem cr_115 (M : pM) (s0 s1 s2 s3 s4 s5 : Int) (b0 : 0 ≤ s0 ∧ s0 ≤ 1900) (b1 : 0 ≤ s1 ∧ s1 ≤ 950) (b2 : 0 ≤ s2 ∧ s2 ≤ 1900) (b3 : 0 ≤ s3 ∧ s3 ≤ 1900) (b4 : 0 ≤ s4 ∧ s4 ≤ 1900) (b5 : 262143 ≤ s5 ∧ s5 ≤ 262168) (m0 : HP 53 (4096 * s0 + s1) (256 * s2 + 34) M) (m1 : HP 47 (s2) (s5) M) (m2 : HP 45 (s2) (s3) M) (m3 : HP 46 (s2) (s4) M) (f0 : 0 ≤ ((-1) * s3 + s4 - 2)) (hG : gI M) : (HP 66 (s3) (2 : Int) M ∧ True) := by
  obtain ⟨S2, hS2, hE2⟩ := ex_o (K := 2) (j := 1) (a := s2) (Eq.mp hp_53 m0) ⟨by omega, by omega, by decide, by decide⟩
  have ha2 : s2 = (qps (tm M) S2.1 2 : Int) := hE2.2.2.2.2
  have ha : qps (tm M) S2.1 2 = s2.toNat := by omega
  have g1 := (q45 m2).2
  have g2 := (q46 m3).2
  have hc : ∀ s : Nat × pM, qat (tm M) (4096 * s0 + s1) s → tK (tm M) (qps (tm M) s.1 2) = s5 → qck (tm M) s.1 s.2 2 2 = some 2 := by
    intro s hs e
    have e2 := qat_u hS2 hs
    subst e2
    show qcW (if qsz (tm M) s.1 2 = 1 ∧ (qlt (tm M) s.1 2 0 = 110 ∨ qlt (tm M) s.1 2 0 = 101 ∨ qlt (tm M) s.1 2 0 = 115 ∨ qlt (tm M) s.1 2 0 = 119) then none else some 2) (tK (tm M) (qps (tm M) s.1 2)) = _
    rw [e, qcW_x (by omega)]
    exact if_neg (fun hh => by have hh := hh.1; unfold qsz at hh; rw [ha] at hh; omega)
  exact ⟨r_fl (K := 2) (j := 1) m0 m1 m2 ⟨by omega, by omega, by decide⟩ (fun s hs hE e => hc s hs e), trivial⟩

-- wlf0
theorem cr_116 (M : pM) (s0 s1 s2 s3 s4 s5 s6 : Int) (b0 : 0 ≤ s0 ∧ s0 ≤ 1900) (b1 : 0 ≤ s1 ∧ s1 ≤ 950) (b2 : 0 ≤ s2 ∧ s2 ≤ 1900) (b3 : 0 ≤ s3 ∧ s3 ≤ 1900) (b4 : 0 ≤ s4 ∧ s4 ≤ 1900) (b5 : 262143 ≤ s5 ∧ s5 ≤ 262168) (b6 : 0 ≤ s6 ∧ s6 ≤ 255) (m0 : HP 53 (4096 * s0 + s1) (256 * s2 + 34) M) (m1 : HP 47 (s2) (s5) M) (m2 : HP 45 (s2) (s3) M) (m3 : HP 46 (s2) (s4) M) (m4 : (0 ≤ (s3) ∧ M 1 (s3).toNat = (s6))) (f0 : 0 ≤ (s3 + (-1) * s4 + 1)) (f1 : 0 ≤ ((-1) * s3 + s4 - 1)) (f2 : 0 ≤ ((-1) * s6 + 100)) (hG : gI M) : (HP 66 (s3) (2 : Int) M ∧ True) := by
  obtain ⟨S2, hS2, hE2⟩ := ex_o (K := 2) (j := 1) (a := s2) (Eq.mp hp_53 m0) ⟨by omega, by omega, by decide, by decide⟩
  have ha2 : s2 = (qps (tm M) S2.1 2 : Int) := hE2.2.2.2.2
  have ha : qps (tm M) S2.1 2 = s2.toNat := by omega
  have g1 := (q45 m2).2
  have g2 := (q46 m3).2
  have hr := rd1 m4 (by omega)
  have hl : qlt (tm M) S2.1 2 0 = s6 := by unfold qlt; rw [ha, show tS (tm M) s2.toNat + 0 = s3.toNat by omega]; exact hr
  have hc : ∀ s : Nat × pM, qat (tm M) (4096 * s0 + s1) s → tK (tm M) (qps (tm M) s.1 2) = s5 → qck (tm M) s.1 s.2 2 2 = some 2 := by
    intro s hs e
    have e2 := qat_u hS2 hs
    subst e2
    show qcW (if qsz (tm M) s.1 2 = 1 ∧ (qlt (tm M) s.1 2 0 = 110 ∨ qlt (tm M) s.1 2 0 = 101 ∨ qlt (tm M) s.1 2 0 = 115 ∨ qlt (tm M) s.1 2 0 = 119) then none else some 2) (tK (tm M) (qps (tm M) s.1 2)) = _
    rw [e, qcW_x (by omega)]
    exact if_neg (fun hh => by have hh := hh.2; rw [hl] at hh; omega)
  exact ⟨r_fl (K := 2) (j := 1) m0 m1 m2 ⟨by omega, by omega, by decide⟩ (fun s hs hE e => hc s hs e), trivial⟩

-- wlf1
theorem cr_117 (M : pM) (s0 s1 s2 s3 s4 s5 s6 : Int) (b0 : 0 ≤ s0 ∧ s0 ≤ 1900) (b1 : 0 ≤ s1 ∧ s1 ≤ 950) (b2 : 0 ≤ s2 ∧ s2 ≤ 1900) (b3 : 0 ≤ s3 ∧ s3 ≤ 1900) (b4 : 0 ≤ s4 ∧ s4 ≤ 1900) (b5 : 262143 ≤ s5 ∧ s5 ≤ 262168) (b6 : 0 ≤ s6 ∧ s6 ≤ 255) (m0 : HP 53 (4096 * s0 + s1) (256 * s2 + 34) M) (m1 : HP 47 (s2) (s5) M) (m2 : HP 45 (s2) (s3) M) (m3 : HP 46 (s2) (s4) M) (m4 : (0 ≤ (s3) ∧ M 1 (s3).toNat = (s6))) (f0 : 0 ≤ (s3 + (-1) * s4 + 1)) (f1 : 0 ≤ ((-1) * s3 + s4 - 1)) (f2 : 0 ≤ (s6 - 102)) (f3 : 0 ≤ ((-1) * s6 + 109)) (hG : gI M) : (HP 66 (s3) (2 : Int) M ∧ True) := by
  obtain ⟨S2, hS2, hE2⟩ := ex_o (K := 2) (j := 1) (a := s2) (Eq.mp hp_53 m0) ⟨by omega, by omega, by decide, by decide⟩
  have ha2 : s2 = (qps (tm M) S2.1 2 : Int) := hE2.2.2.2.2
  have ha : qps (tm M) S2.1 2 = s2.toNat := by omega
  have g1 := (q45 m2).2
  have g2 := (q46 m3).2
  have hr := rd1 m4 (by omega)
  have hl : qlt (tm M) S2.1 2 0 = s6 := by unfold qlt; rw [ha, show tS (tm M) s2.toNat + 0 = s3.toNat by omega]; exact hr
  have hc : ∀ s : Nat × pM, qat (tm M) (4096 * s0 + s1) s → tK (tm M) (qps (tm M) s.1 2) = s5 → qck (tm M) s.1 s.2 2 2 = some 2 := by
    intro s hs e
    have e2 := qat_u hS2 hs
    subst e2
    show qcW (if qsz (tm M) s.1 2 = 1 ∧ (qlt (tm M) s.1 2 0 = 110 ∨ qlt (tm M) s.1 2 0 = 101 ∨ qlt (tm M) s.1 2 0 = 115 ∨ qlt (tm M) s.1 2 0 = 119) then none else some 2) (tK (tm M) (qps (tm M) s.1 2)) = _
    rw [e, qcW_x (by omega)]
    exact if_neg (fun hh => by have hh := hh.2; rw [hl] at hh; omega)
  exact ⟨r_fl (K := 2) (j := 1) m0 m1 m2 ⟨by omega, by omega, by decide⟩ (fun s hs hE e => hc s hs e), trivial⟩

-- wlf2
theorem cr_118 (M : pM) (s0 s1 s2 s3 s4 s5 s6 : Int) (b0 : 0 ≤ s0 ∧ s0 ≤ 1900) (b1 : 0 ≤ s1 ∧ s1 ≤ 950) (b2 : 0 ≤ s2 ∧ s2 ≤ 1900) (b3 : 0 ≤ s3 ∧ s3 ≤ 1900) (b4 : 0 ≤ s4 ∧ s4 ≤ 1900) (b5 : 262143 ≤ s5 ∧ s5 ≤ 262168) (b6 : 0 ≤ s6 ∧ s6 ≤ 255) (m0 : HP 53 (4096 * s0 + s1) (256 * s2 + 34) M) (m1 : HP 47 (s2) (s5) M) (m2 : HP 45 (s2) (s3) M) (m3 : HP 46 (s2) (s4) M) (m4 : (0 ≤ (s3) ∧ M 1 (s3).toNat = (s6))) (f0 : 0 ≤ (s3 + (-1) * s4 + 1)) (f1 : 0 ≤ ((-1) * s3 + s4 - 1)) (f2 : 0 ≤ (s6 - 111)) (f3 : 0 ≤ ((-1) * s6 + 114)) (hG : gI M) : (HP 66 (s3) (2 : Int) M ∧ True) := by
  obtain ⟨S2, hS2, hE2⟩ := ex_o (K := 2) (j := 1) (a := s2) (Eq.mp hp_53 m0) ⟨by omega, by omega, by decide, by decide⟩
  have ha2 : s2 = (qps (tm M) S2.1 2 : Int) := hE2.2.2.2.2
  have ha : qps (tm M) S2.1 2 = s2.toNat := by omega
  have g1 := (q45 m2).2
  have g2 := (q46 m3).2
  have hr := rd1 m4 (by omega)
  have hl : qlt (tm M) S2.1 2 0 = s6 := by unfold qlt; rw [ha, show tS (tm M) s2.toNat + 0 = s3.toNat by omega]; exact hr
  have hc : ∀ s : Nat × pM, qat (tm M) (4096 * s0 + s1) s → tK (tm M) (qps (tm M) s.1 2) = s5 → qck (tm M) s.1 s.2 2 2 = some 2 := by
    intro s hs e
    have e2 := qat_u hS2 hs
    subst e2
    show qcW (if qsz (tm M) s.1 2 = 1 ∧ (qlt (tm M) s.1 2 0 = 110 ∨ qlt (tm M) s.1 2 0 = 101 ∨ qlt (tm M) s.1 2 0 = 115 ∨ qlt (tm M) s.1 2 0 = 119) then none else some 2) (tK (tm M) (qps (tm M) s.1 2)) = _
    rw [e, qcW_x (by omega)]
    exact if_neg (fun hh => by have hh := hh.2; rw [hl] at hh; omega)
  exact ⟨r_fl (K := 2) (j := 1) m0 m1 m2 ⟨by omega, by omega, by decide⟩ (fun s hs hE e => hc s hs e), trivial⟩

-- wlf3
theorem cr_119 (M : pM) (s0 s1 s2 s3 s4 s5 s6 : Int) (b0 : 0 ≤ s0 ∧ s0 ≤ 1900) (b1 : 0 ≤ s1 ∧ s1 ≤ 950) (b2 : 0 ≤ s2 ∧ s2 ≤ 1900) (b3 : 0 ≤ s3 ∧ s3 ≤ 1900) (b4 : 0 ≤ s4 ∧ s4 ≤ 1900) (b5 : 262143 ≤ s5 ∧ s5 ≤ 262168) (b6 : 0 ≤ s6 ∧ s6 ≤ 255) (m0 : HP 53 (4096 * s0 + s1) (256 * s2 + 34) M) (m1 : HP 47 (s2) (s5) M) (m2 : HP 45 (s2) (s3) M) (m3 : HP 46 (s2) (s4) M) (m4 : (0 ≤ (s3) ∧ M 1 (s3).toNat = (s6))) (f0 : 0 ≤ (s3 + (-1) * s4 + 1)) (f1 : 0 ≤ ((-1) * s3 + s4 - 1)) (f2 : 0 ≤ (s6 - 116)) (f3 : 0 ≤ ((-1) * s6 + 118)) (hG : gI M) : (HP 66 (s3) (2 : Int) M ∧ True) := by
  obtain ⟨S2, hS2, hE2⟩ := ex_o (K := 2) (j := 1) (a := s2) (Eq.mp hp_53 m0) ⟨by omega, by omega, by decide, by decide⟩
  have ha2 : s2 = (qps (tm M) S2.1 2 : Int) := hE2.2.2.2.2
  have ha : qps (tm M) S2.1 2 = s2.toNat := by omega
  have g1 := (q45 m2).2
  have g2 := (q46 m3).2
  have hr := rd1 m4 (by omega)
  have hl : qlt (tm M) S2.1 2 0 = s6 := by unfold qlt; rw [ha, show tS (tm M) s2.toNat + 0 = s3.toNat by omega]; exact hr
  have hc : ∀ s : Nat × pM, qat (tm M) (4096 * s0 + s1) s → tK (tm M) (qps (tm M) s.1 2) = s5 → qck (tm M) s.1 s.2 2 2 = some 2 := by
    intro s hs e
    have e2 := qat_u hS2 hs
    subst e2
    show qcW (if qsz (tm M) s.1 2 = 1 ∧ (qlt (tm M) s.1 2 0 = 110 ∨ qlt (tm M) s.1 2 0 = 101 ∨ qlt (tm M) s.1 2 0 = 115 ∨ qlt (tm M) s.1 2 0 = 119) then none else some 2) (tK (tm M) (qps (tm M) s.1 2)) = _
    rw [e, qcW_x (by omega)]
    exact if_neg (fun hh => by have hh := hh.2; rw [hl] at hh; omega)
  exact ⟨r_fl (K := 2) (j := 1) m0 m1 m2 ⟨by omega, by omega, by decide⟩ (fun s hs hE e => hc s hs e), trivial⟩
