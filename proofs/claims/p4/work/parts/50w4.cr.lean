-- wkn6_1
theorem cr_480 (M : pM) (s0 s1 : Int) (b0 : 0 ≤ s0 ∧ s0 ≤ 23) (b1 : 0 ≤ s1 ∧ s1 ≤ 9223372036854775807) (m0 : HP 140 (s0) (s1) M) (f0 : 0 ≤ (s1 - 1718775662)) (hG : gI M) : (0 ≤ ((-1) * s0 + 5) ∧ True) ∨ (0 ≤ (s0 - 7) ∧ True) := by
  obtain ⟨k, w1, w2, w3⟩ := Eq.mp hp_140 m0
  have hk : k < 6 ∨ k = 6 ∨ 6 < k := by omega
  rcases hk with e | e | e
  · exact Or.inl ⟨by omega, trivial⟩
  · subst e
    rw [show qwn 6 = 1718775661 by decide] at w3
    omega
  · exact Or.inr ⟨by omega, trivial⟩

-- wkn7_0
theorem cr_481 (M : pM) (s0 s1 : Int) (b0 : 0 ≤ s0 ∧ s0 ≤ 23) (b1 : 0 ≤ s1 ∧ s1 ≤ 9223372036854775807) (m0 : HP 140 (s0) (s1) M) (f0 : 0 ≤ ((-1) * s1 + 29806)) (hG : gI M) : (0 ≤ ((-1) * s0 + 6) ∧ True) ∨ (0 ≤ (s0 - 8) ∧ True) := by
  obtain ⟨k, w1, w2, w3⟩ := Eq.mp hp_140 m0
  have hk : k < 7 ∨ k = 7 ∨ 7 < k := by omega
  rcases hk with e | e | e
  · exact Or.inl ⟨by omega, trivial⟩
  · subst e
    rw [show qwn 7 = 29807 by decide] at w3
    omega
  · exact Or.inr ⟨by omega, trivial⟩

-- wkn7_1
theorem cr_482 (M : pM) (s0 s1 : Int) (b0 : 0 ≤ s0 ∧ s0 ≤ 23) (b1 : 0 ≤ s1 ∧ s1 ≤ 9223372036854775807) (m0 : HP 140 (s0) (s1) M) (f0 : 0 ≤ (s1 - 29808)) (hG : gI M) : (0 ≤ ((-1) * s0 + 6) ∧ True) ∨ (0 ≤ (s0 - 8) ∧ True) := by
  obtain ⟨k, w1, w2, w3⟩ := Eq.mp hp_140 m0
  have hk : k < 7 ∨ k = 7 ∨ 7 < k := by omega
  rcases hk with e | e | e
  · exact Or.inl ⟨by omega, trivial⟩
  · subst e
    rw [show qwn 7 = 29807 by decide] at w3
    omega
  · exact Or.inr ⟨by omega, trivial⟩

-- wkn8_0
theorem cr_483 (M : pM) (s0 s1 : Int) (b0 : 0 ≤ s0 ∧ s0 ≤ 23) (b1 : 0 ≤ s1 ∧ s1 ≤ 9223372036854775807) (m0 : HP 140 (s0) (s1) M) (f0 : 0 ≤ ((-1) * s1 + 439854918755)) (hG : gI M) : (0 ≤ ((-1) * s0 + 7) ∧ True) ∨ (0 ≤ (s0 - 9) ∧ True) := by
  obtain ⟨k, w1, w2, w3⟩ := Eq.mp hp_140 m0
  have hk : k < 8 ∨ k = 8 ∨ 8 < k := by omega
  rcases hk with e | e | e
  · exact Or.inl ⟨by omega, trivial⟩
  · subst e
    rw [show qwn 8 = 439854918756 by decide] at w3
    omega
  · exact Or.inr ⟨by omega, trivial⟩

-- wkn8_1
theorem cr_484 (M : pM) (s0 s1 : Int) (b0 : 0 ≤ s0 ∧ s0 ≤ 23) (b1 : 0 ≤ s1 ∧ s1 ≤ 9223372036854775807) (m0 : HP 140 (s0) (s1) M) (f0 : 0 ≤ (s1 - 439854918757)) (hG : gI M) : (0 ≤ ((-1) * s0 + 7) ∧ True) ∨ (0 ≤ (s0 - 9) ∧ True) := by
  obtain ⟨k, w1, w2, w3⟩ := Eq.mp hp_140 m0
  have hk : k < 8 ∨ k = 8 ∨ 8 < k := by omega
  rcases hk with e | e | e
  · exact Or.inl ⟨by omega, trivial⟩
  · subst e
    rw [show qwn 8 = 439854918756 by decide] at w3
    omega
  · exact Or.inr ⟨by omega, trivial⟩

-- wkn9_0
theorem cr_485 (M : pM) (s0 s1 : Int) (b0 : 0 ≤ s0 ∧ s0 ≤ 23) (b1 : 0 ≤ s1 ∧ s1 ≤ 9223372036854775807) (m0 : HP 140 (s0) (s1) M) (f0 : 0 ≤ ((-1) * s1 + 1919902051)) (hG : gI M) : (0 ≤ ((-1) * s0 + 8) ∧ True) ∨ (0 ≤ (s0 - 10) ∧ True) := by
  obtain ⟨k, w1, w2, w3⟩ := Eq.mp hp_140 m0
  have hk : k < 9 ∨ k = 9 ∨ 9 < k := by omega
  rcases hk with e | e | e
  · exact Or.inl ⟨by omega, trivial⟩
  · subst e
    rw [show qwn 9 = 1919902052 by decide] at w3
    omega
  · exact Or.inr ⟨by omega, trivial⟩

-- wkn9_1
theorem cr_486 (M : pM) (s0 s1 : Int) (b0 : 0 ≤ s0 ∧ s0 ≤ 23) (b1 : 0 ≤ s1 ∧ s1 ≤ 9223372036854775807) (m0 : HP 140 (s0) (s1) M) (f0 : 0 ≤ (s1 - 1919902053)) (hG : gI M) : (0 ≤ ((-1) * s0 + 8) ∧ True) ∨ (0 ≤ (s0 - 10) ∧ True) := by
  obtain ⟨k, w1, w2, w3⟩ := Eq.mp hp_140 m0
  have hk : k < 9 ∨ k = 9 ∨ 9 < k := by omega
  rcases hk with e | e | e
  · exact Or.inl ⟨by omega, trivial⟩
  · subst e
    rw [show qwn 9 = 1919902052 by decide] at w3
    omega
  · exact Or.inr ⟨by omega, trivial⟩

-- wkn10_0
theorem cr_487 (M : pM) (s0 s1 : Int) (b0 : 0 ≤ s0 ∧ s0 ≤ 23) (b1 : 0 ≤ s1 ∧ s1 ≤ 9223372036854775807) (m0 : HP 140 (s0) (s1) M) (f0 : 0 ≤ ((-1) * s1 + 113715322316145)) (hG : gI M) : (0 ≤ ((-1) * s0 + 9) ∧ True) ∨ (0 ≤ (s0 - 11) ∧ True) := by
  obtain ⟨k, w1, w2, w3⟩ := Eq.mp hp_140 m0
  have hk : k < 10 ∨ k = 10 ∨ 10 < k := by omega
  rcases hk with e | e | e
  · exact Or.inl ⟨by omega, trivial⟩
  · subst e
    rw [show qwn 10 = 113715322316146 by decide] at w3
    omega
  · exact Or.inr ⟨by omega, trivial⟩

-- wkn10_1
theorem cr_488 (M : pM) (s0 s1 : Int) (b0 : 0 ≤ s0 ∧ s0 ≤ 23) (b1 : 0 ≤ s1 ∧ s1 ≤ 9223372036854775807) (m0 : HP 140 (s0) (s1) M) (f0 : 0 ≤ (s1 - 113715322316147)) (hG : gI M) : (0 ≤ ((-1) * s0 + 9) ∧ True) ∨ (0 ≤ (s0 - 11) ∧ True) := by
  obtain ⟨k, w1, w2, w3⟩ := Eq.mp hp_140 m0
  have hk : k < 10 ∨ k = 10 ∨ 10 < k := by omega
  rcases hk with e | e | e
  · exact Or.inl ⟨by omega, trivial⟩
  · subst e
    rw [show qwn 10 = 113715322316146 by decide] at w3
    omega
  · exact Or.inr ⟨by omega, trivial⟩

-- wkn11_0
theorem cr_489 (M : pM) (s0 s1 : Int) (b0 : 0 ≤ s0 ∧ s0 ≤ 23) (b1 : 0 ≤ s1 ∧ s1 ≤ 9223372036854775807) (m0 : HP 140 (s0) (s1) M) (f0 : 0 ≤ ((-1) * s1 + 1936289386)) (hG : gI M) : (0 ≤ ((-1) * s0 + 10) ∧ True) ∨ (0 ≤ (s0 - 12) ∧ True) := by
  obtain ⟨k, w1, w2, w3⟩ := Eq.mp hp_140 m0
  have hk : k < 11 ∨ k = 11 ∨ 11 < k := by omega
  rcases hk with e | e | e
  · exact Or.inl ⟨by omega, trivial⟩
  · subst e
    rw [show qwn 11 = 1936289387 by decide] at w3
    omega
  · exact Or.inr ⟨by omega, trivial⟩

-- wkn11_1
theorem cr_490 (M : pM) (s0 s1 : Int) (b0 : 0 ≤ s0 ∧ s0 ≤ 23) (b1 : 0 ≤ s1 ∧ s1 ≤ 9223372036854775807) (m0 : HP 140 (s0) (s1) M) (f0 : 0 ≤ (s1 - 1936289388)) (hG : gI M) : (0 ≤ ((-1) * s0 + 10) ∧ True) ∨ (0 ≤ (s0 - 12) ∧ True) := by
  obtain ⟨k, w1, w2, w3⟩ := Eq.mp hp_140 m0
  have hk : k < 11 ∨ k = 11 ∨ 11 < k := by omega
  rcases hk with e | e | e
  · exact Or.inl ⟨by omega, trivial⟩
  · subst e
    rw [show qwn 11 = 1936289387 by decide] at w3
    omega
  · exact Or.inr ⟨by omega, trivial⟩

-- wkn12_0
theorem cr_491 (M : pM) (s0 s1 : Int) (b0 : 0 ≤ s0 ∧ s0 ≤ 23) (b1 : 0 ≤ s1 ∧ s1 ≤ 9223372036854775807) (m0 : HP 140 (s0) (s1) M) (f0 : 0 ≤ ((-1) * s1 + 7521414230229344623)) (hG : gI M) : (0 ≤ ((-1) * s0 + 11) ∧ True) ∨ (0 ≤ (s0 - 13) ∧ True) := by
  obtain ⟨k, w1, w2, w3⟩ := Eq.mp hp_140 m0
  have hk : k < 12 ∨ k = 12 ∨ 12 < k := by omega
  rcases hk with e | e | e
  · exact Or.inl ⟨by omega, trivial⟩
  · subst e
    rw [show qwn 12 = 7521414230229344624 by decide] at w3
    omega
  · exact Or.inr ⟨by omega, trivial⟩

-- wkn12_1
theorem cr_492 (M : pM) (s0 s1 : Int) (b0 : 0 ≤ s0 ∧ s0 ≤ 23) (b1 : 0 ≤ s1 ∧ s1 ≤ 9223372036854775807) (m0 : HP 140 (s0) (s1) M) (f0 : 0 ≤ (s1 - 7521414230229344625)) (hG : gI M) : (0 ≤ ((-1) * s0 + 11) ∧ True) ∨ (0 ≤ (s0 - 13) ∧ True) := by
  obtain ⟨k, w1, w2, w3⟩ := Eq.mp hp_140 m0
  have hk : k < 12 ∨ k = 12 ∨ 12 < k := by omega
  rcases hk with e | e | e
  · exact Or.inl ⟨by omega, trivial⟩
  · subst e
    rw [show qwn 12 = 7521414230229344624 by decide] at w3
    omega
  · exact Or.inr ⟨by omega, trivial⟩

-- wkq0
theorem cr_493 (M : pM) (s0 s1 : Int) (b0 : 0 ≤ s0 ∧ s0 ≤ 23) (b1 : 0 ≤ s1 ∧ s1 ≤ 9223372036854775807) (m0 : HP 140 (s0) (s1) M) (f0 : 0 ≤ ((-1) * s1 + 7499639)) (f1 : 0 ≤ (s1 - 7499639)) (hG : gI M) : (0 ≤ ((-1) * s0) ∧ 0 ≤ (s0) ∧ True) := by
  obtain ⟨k, w1, w2, w3⟩ := Eq.mp hp_140 m0
  have hk : k = 0 := (by decide : ∀ k, k < 24 → qwn k = 7499639 → k = 0) k w1 (by omega)
  exact ⟨by omega, by omega, trivial⟩

-- wkq1
theorem cr_494 (M : pM) (s0 s1 : Int) (b0 : 0 ≤ s0 ∧ s0 ≤ 23) (b1 : 0 ≤ s1 ∧ s1 ≤ 9223372036854775807) (m0 : HP 140 (s0) (s1) M) (f0 : 0 ≤ ((-1) * s1 + 1818846836)) (f1 : 0 ≤ (s1 - 1818846836)) (hG : gI M) : (0 ≤ ((-1) * s0 + 1) ∧ 0 ≤ (s0 - 1) ∧ True) := by
  obtain ⟨k, w1, w2, w3⟩ := Eq.mp hp_140 m0
  have hk : k = 1 := (by decide : ∀ k, k < 24 → qwn k = 1818846836 → k = 1) k w1 (by omega)
  exact ⟨by omega, by omega, trivial⟩

-- wkq2
theorem cr_495 (M : pM) (s0 s1 : Int) (b0 : 0 ≤ s0 ∧ s0 ≤ 23) (b1 : 0 ≤ s1 ∧ s1 ≤ 9223372036854775807) (m0 : HP 140 (s0) (s1) M) (f0 : 0 ≤ ((-1) * s1 + 2003398244)) (f1 : 0 ≤ (s1 - 2003398244)) (hG : gI M) : (0 ≤ ((-1) * s0 + 2) ∧ 0 ≤ (s0 - 2) ∧ True) := by
  obtain ⟨k, w1, w2, w3⟩ := Eq.mp hp_140 m0
  have hk : k = 2 := (by decide : ∀ k, k < 24 → qwn k = 2003398244 → k = 2) k w1 (by omega)
  exact ⟨by omega, by omega, trivial⟩

-- wkq3
theorem cr_496 (M : pM) (s0 s1 : Int) (b0 : 0 ≤ s0 ∧ s0 ≤ 23) (b1 : 0 ≤ s1 ∧ s1 ≤ 9223372036854775807) (m0 : HP 140 (s0) (s1) M) (f0 : 0 ≤ ((-1) * s1 + 7630704)) (f1 : 0 ≤ (s1 - 7630704)) (hG : gI M) : (0 ≤ ((-1) * s0 + 3) ∧ 0 ≤ (s0 - 3) ∧ True) := by
  obtain ⟨k, w1, w2, w3⟩ := Eq.mp hp_140 m0
  have hk : k = 3 := (by decide : ∀ k, k < 24 → qwn k = 7630704 → k = 3) k w1 (by omega)
  exact ⟨by omega, by omega, trivial⟩

-- wkq4
theorem cr_497 (M : pM) (s0 s1 : Int) (b0 : 0 ≤ s0 ∧ s0 ≤ 23) (b1 : 0 ≤ s1 ∧ s1 ≤ 9223372036854775807) (m0 : HP 140 (s0) (s1) M) (f0 : 0 ≤ ((-1) * s1 + 2002873452)) (f1 : 0 ≤ (s1 - 2002873452)) (hG : gI M) : (0 ≤ ((-1) * s0 + 4) ∧ 0 ≤ (s0 - 4) ∧ True) := by
  obtain ⟨k, w1, w2, w3⟩ := Eq.mp hp_140 m0
  have hk : k = 4 := (by decide : ∀ k, k < 24 → qwn k = 2002873452 → k = 4) k w1 (by omega)
  exact ⟨by omega, by omega, trivial⟩

-- wkq5
theorem cr_498 (M : pM) (s0 s1 : Int) (b0 : 0 ≤ s0 ∧ s0 ≤ 23) (b1 : 0 ≤ s1 ∧ s1 ≤ 9223372036854775807) (m0 : HP 140 (s0) (s1) M) (f0 : 0 ≤ ((-1) * s1 + 418263299685)) (f1 : 0 ≤ (s1 - 418263299685)) (hG : gI M) : (0 ≤ ((-1) * s0 + 5) ∧ 0 ≤ (s0 - 5) ∧ True) := by
  obtain ⟨k, w1, w2, w3⟩ := Eq.mp hp_140 m0
  have hk : k = 5 := (by decide : ∀ k, k < 24 → qwn k = 418263299685 → k = 5) k w1 (by omega)
  exact ⟨by omega, by omega, trivial⟩

-- wkq6
theorem cr_499 (M : pM) (s0 s1 : Int) (b0 : 0 ≤ s0 ∧ s0 ≤ 23) (b1 : 0 ≤ s1 ∧ s1 ≤ 9223372036854775807) (m0 : HP 140 (s0) (s1) M) (f0 : 0 ≤ ((-1) * s1 + 1718775661)) (f1 : 0 ≤ (s1 - 1718775661)) (hG : gI M) : (0 ≤ ((-1) * s0 + 6) ∧ 0 ≤ (s0 - 6) ∧ True) := by
  obtain ⟨k, w1, w2, w3⟩ := Eq.mp hp_140 m0
  have hk : k = 6 := (by decide : ∀ k, k < 24 → qwn k = 1718775661 → k = 6) k w1 (by omega)
  exact ⟨by omega, by omega, trivial⟩

-- wkq7
theorem cr_500 (M : pM) (s0 s1 : Int) (b0 : 0 ≤ s0 ∧ s0 ≤ 23) (b1 : 0 ≤ s1 ∧ s1 ≤ 9223372036854775807) (m0 : HP 140 (s0) (s1) M) (f0 : 0 ≤ ((-1) * s1 + 29807)) (f1 : 0 ≤ (s1 - 29807)) (hG : gI M) : (0 ≤ ((-1) * s0 + 7) ∧ 0 ≤ (s0 - 7) ∧ True) := by
  obtain ⟨k, w1, w2, w3⟩ := Eq.mp hp_140 m0
  have hk : k = 7 := (by decide : ∀ k, k < 24 → qwn k = 29807 → k = 7) k w1 (by omega)
  exact ⟨by omega, by omega, trivial⟩

-- wkq8
theorem cr_501 (M : pM) (s0 s1 : Int) (b0 : 0 ≤ s0 ∧ s0 ≤ 23) (b1 : 0 ≤ s1 ∧ s1 ≤ 9223372036854775807) (m0 : HP 140 (s0) (s1) M) (f0 : 0 ≤ ((-1) * s1 + 439854918756)) (f1 : 0 ≤ (s1 - 439854918756)) (hG : gI M) : (0 ≤ ((-1) * s0 + 8) ∧ 0 ≤ (s0 - 8) ∧ True) := by
  obtain ⟨k, w1, w2, w3⟩ := Eq.mp hp_140 m0
  have hk : k = 8 := (by decide : ∀ k, k < 24 → qwn k = 439854918756 → k = 8) k w1 (by omega)
  exact ⟨by omega, by omega, trivial⟩

-- wkq9
theorem cr_502 (M : pM) (s0 s1 : Int) (b0 : 0 ≤ s0 ∧ s0 ≤ 23) (b1 : 0 ≤ s1 ∧ s1 ≤ 9223372036854775807) (m0 : HP 140 (s0) (s1) M) (f0 : 0 ≤ ((-1) * s1 + 1919902052)) (f1 : 0 ≤ (s1 - 1919902052)) (hG : gI M) : (0 ≤ ((-1) * s0 + 9) ∧ 0 ≤ (s0 - 9) ∧ True) := by
  obtain ⟨k, w1, w2, w3⟩ := Eq.mp hp_140 m0
  have hk : k = 9 := (by decide : ∀ k, k < 24 → qwn k = 1919902052 → k = 9) k w1 (by omega)
  exact ⟨by omega, by omega, trivial⟩

-- wkq10
theorem cr_503 (M : pM) (s0 s1 : Int) (b0 : 0 ≤ s0 ∧ s0 ≤ 23) (b1 : 0 ≤ s1 ∧ s1 ≤ 9223372036854775807) (m0 : HP 140 (s0) (s1) M) (f0 : 0 ≤ ((-1) * s1 + 113715322316146)) (f1 : 0 ≤ (s1 - 113715322316146)) (hG : gI M) : (0 ≤ ((-1) * s0 + 10) ∧ 0 ≤ (s0 - 10) ∧ True) := by
  obtain ⟨k, w1, w2, w3⟩ := Eq.mp hp_140 m0
  have hk : k = 10 := (by decide : ∀ k, k < 24 → qwn k = 113715322316146 → k = 10) k w1 (by omega)
  exact ⟨by omega, by omega, trivial⟩

-- wkq11
theorem cr_504 (M : pM) (s0 s1 : Int) (b0 : 0 ≤ s0 ∧ s0 ≤ 23) (b1 : 0 ≤ s1 ∧ s1 ≤ 9223372036854775807) (m0 : HP 140 (s0) (s1) M) (f0 : 0 ≤ ((-1) * s1 + 1936289387)) (f1 : 0 ≤ (s1 - 1936289387)) (hG : gI M) : (0 ≤ ((-1) * s0 + 11) ∧ 0 ≤ (s0 - 11) ∧ True) := by
  obtain ⟨k, w1, w2, w3⟩ := Eq.mp hp_140 m0
  have hk : k = 11 := (by decide : ∀ k, k < 24 → qwn k = 1936289387 → k = 11) k w1 (by omega)
  exact ⟨by omega, by omega, trivial⟩

-- wkq12
theorem cr_505 (M : pM) (s0 s1 : Int) (b0 : 0 ≤ s0 ∧ s0 ≤ 23) (b1 : 0 ≤ s1 ∧ s1 ≤ 9223372036854775807) (m0 : HP 140 (s0) (s1) M) (f0 : 0 ≤ ((-1) * s1 + 7521414230229344624)) (f1 : 0 ≤ (s1 - 7521414230229344624)) (hG : gI M) : (0 ≤ ((-1) * s0 + 12) ∧ 0 ≤ (s0 - 12) ∧ True) := by
  obtain ⟨k, w1, w2, w3⟩ := Eq.mp hp_140 m0
  have hk : k = 12 := (by decide : ∀ k, k < 24 → qwn k = 7521414230229344624 → k = 12) k w1 (by omega)
  exact ⟨by omega, by omega, trivial⟩

-- grc
theorem cr_506 (M : pM) (s0 s1 s2 : Int) (b0 : 0 ≤ s0 ∧ s0 ≤ 1900) (b1 : 0 ≤ s1 ∧ s1 ≤ 7) (b2 : 0 ≤ s2 ∧ s2 ≤ 255) (m0 : HP 80 (16 * s0 + 8) (0 : Int) M) (m1 : (0 ≤ (s0 + s1) ∧ M 1 (s0 + s1).toNat = (s2))) (hG : gI M) : (0 ≤ (s2 - 97) ∧ 0 ≤ ((-1) * s2 + 104) ∧ True) := by
  have hh := gr_o (s := s0.toNat) (k := 8) (Eq.mp hp_80 m0) ⟨by omega, by decide⟩ s1.toNat (by omega)
  rw [show s0.toNat + s1.toNat = (s0 + s1).toNat by omega] at hh
  have hr := rd1 m1 (by omega)
  have hh : 97 ≤ s2 ∧ s2 ≤ 104 := by first | (rw [hr] at hh; exact hh) | (rw [show (s0 + s1).toNat = (s1 + s0).toNat by omega, hr] at hh; exact hh)
  exact ⟨by omega, by omega, trivial⟩

-- ti1
theorem cr_507 (M : pM) (s0 s1 s2 : Int) (b0 : 0 ≤ s0 ∧ s0 ≤ 1900) (b1 : 0 ≤ s1 ∧ s1 ≤ 950) (b2 : 0 ≤ s2 ∧ s2 ≤ 1900) (m0 : HP 53 (4096 * s0 + s1) (256 * s2 + 161) M) (hG : gI M) : (HP 157 (16 * s0 + 1) (s2) M ∧ True) := by
  obtain ⟨s, h1, h2⟩ := ex_o (K := 10) (j := 0) (a := s2) (Eq.mp hp_53 m0) ⟨by omega, by omega, by decide, by decide⟩
  exact ⟨Eq.mpr hp_157 ⟨s.1, 1, by decide, by have := qat_p (P := s0) (l := s1) h1 ⟨by omega, by omega, by omega⟩; omega, h2.2.2.2.2⟩, trivial⟩

-- ti2
theorem cr_508 (M : pM) (s0 s1 s2 : Int) (b0 : 0 ≤ s0 ∧ s0 ≤ 1900) (b1 : 0 ≤ s1 ∧ s1 ≤ 950) (b2 : 0 ≤ s2 ∧ s2 ≤ 1900) (m0 : HP 53 (4096 * s0 + s1) (256 * s2 + 2) M) (hG : gI M) : (HP 157 (16 * s0 + 2) (s2) M ∧ True) := by
  obtain ⟨s, h1, h2⟩ := ex_o (K := 0) (j := 1) (a := s2) (Eq.mp hp_53 m0) ⟨by omega, by omega, by decide, by decide⟩
  exact ⟨Eq.mpr hp_157 ⟨s.1, 2, by decide, by have := qat_p (P := s0) (l := s1) h1 ⟨by omega, by omega, by omega⟩; omega, h2.2.2.2.2⟩, trivial⟩

-- rt0_0_0
theorem cr_509 (M : pM) (s0 s1 s2 s3 s4 s5 s6 s7 s8 : Int) (b0 : 0 ≤ s0 ∧ s0 ≤ 1900) (b1 : 0 ≤ s1 ∧ s1 ≤ 950) (b2 : 0 ≤ s2 ∧ s2 ≤ 1900) (b3 : 0 ≤ s3 ∧ s3 ≤ 1900) (b4 : 0 ≤ s4 ∧ s4 ≤ 12) (b5 : 0 ≤ s5 ∧ s5 ≤ 20) (b6 : 0 ≤ s6 ∧ s6 ≤ 4) (b7 : 0 ≤ s7 ∧ s7 ≤ 7) (b8 : 0 ≤ s8 ∧ s8 ≤ 0) (m0 : HP 60 (4096 * s0 + s1) (s4 + 32 * s5 + 1024 * s6) M) (m1 : HP 53 (4096 * s0 + s1) (256 * s2 + 1) M) (m2 : HP 47 (s2) (s7 + 393216) M) (m3 : HP 46 (s2) (s3) M) (m4 : (0 ≤ (s7) ∧ M 84 (s7).toNat = (s8))) (hG : gI M) : (HP 53 (4096 * s0 + s1) (256 * s3 + 2) M ∧ HP 79 (16 * s0 + 1) (s7) M ∧ True) := by
  obtain ⟨S, hS, hw, ha⟩ := Eq.mp hp_60 m0
  have hr : M 84 s7.toNat = S.2 15 s7.toNat := ha.2.2.2.2.2.2.2.2.2.2.1 s7.toNat (by omega)
  rw [m4.2] at hr
  have hc : ∀ s : Nat × pM, qat (tm M) (4096 * s0 + s1) s → tK (tm M) (qps (tm M) s.1 1) = (s7 + 393216) → qck (tm M) s.1 s.2 0 1 = none := by
    intro s hs e
    have es := qat_u hS hs
    have ev : qvl (tm M) s.1 1 = s7 := by unfold qvl; omega
    show qcN 0 7 (qtd (s.2 15 (qvl (tm M) s.1 1).toNat)) (tK (tm M) (qps (tm M) s.1 1)) = _
    rw [e, qcN_x (by omega) (by omega), ev, es]
    exact qtd_0 (by omega)
  exact ⟨r_ex (K := 0) (j := 0) m1 m2 m3 ⟨by omega, by omega, by decide⟩ (by omega) (by decide) (fun s hs hE e => hc s hs e), r_va (P := s0) (l := s1) (K := 0) (j := 0) m1 m2 ⟨by omega, by omega, by omega⟩ ⟨by omega, by omega, by decide⟩ (by omega) (by omega), trivial⟩

-- rt1_0_0
theorem cr_510 (M : pM) (s0 s1 s2 s3 s4 s5 s6 s7 s8 s9 s10 : Int) (b0 : 0 ≤ s0 ∧ s0 ≤ 1900) (b1 : 0 ≤ s1 ∧ s1 ≤ 950) (b2 : 0 ≤ s2 ∧ s2 ≤ 1900) (b3 : 0 ≤ s3 ∧ s3 ≤ 1900) (b4 : 0 ≤ s4 ∧ s4 ≤ 12) (b5 : 0 ≤ s5 ∧ s5 ≤ 20) (b6 : 0 ≤ s6 ∧ s6 ≤ 4) (b7 : 0 ≤ s7 ∧ s7 ≤ 7) (b8 : 0 ≤ s8 ∧ s8 ≤ 0) (b9 : 262143 ≤ s9 ∧ s9 ≤ 262168) (b10 : 0 ≤ s10 ∧ s10 ≤ 1900) (m0 : HP 60 (4096 * s0 + s1) (s4 + 32 * s5 + 1024 * s6) M) (m1 : HP 53 (4096 * s0 + s1) (256 * s2 + 17) M) (m2 : HP 47 (s2) (s9) M) (m3 : HP 45 (s2) (s3) M) (m4 : HP 46 (s2) (s10) M) (m5 : (0 ≤ (s3) ∧ M 1 (s3).toNat = (s7 + 97))) (m6 : (0 ≤ (s7) ∧ M 85 (s7).toNat = (s8))) (f0 : 0 ≤ (s3 + (-1) * s10 + 1)) (f1 : 0 ≤ ((-1) * s3 + s10 - 1)) (hG : gI M) : (HP 53 (4096 * s0 + s1) (256 * s10 + 18) M ∧ HP 87 (s0) (s7) M ∧ True) := by
  obtain ⟨S, hS, hw, hA⟩ := Eq.mp hp_60 m0
  have hf : M 85 s7.toNat = S.2 16 s7.toNat := hA.2.2.2.2.2.2.2.2.2.2.2.1 s7.toNat (by omega)
  rw [m6.2] at hf
  obtain ⟨S2, hS2, hE2⟩ := ex_o (K := 1) (j := 0) (a := s2) (Eq.mp hp_53 m1) ⟨by omega, by omega, by decide, by decide⟩
  have ha2 : s2 = (qps (tm M) S2.1 1 : Int) := hE2.2.2.2.2
  have ha : qps (tm M) S2.1 1 = s2.toNat := by omega
  have g1 := (q45 m3).2
  have g2 := (q46 m4).2
  have hr := rd1 m5 (by omega)
  have hl : qlt (tm M) S2.1 1 0 = 97 + s7 := by unfold qlt; rw [ha, show tS (tm M) s2.toNat + 0 = s3.toNat by omega, hr]; omega
  have hc : ∀ s : Nat × pM, qat (tm M) (4096 * s0 + s1) s → tK (tm M) (qps (tm M) s.1 1) = s9 → qck (tm M) s.1 s.2 1 1 = none := by
    intro s hs e
    have es := qat_u hS hs
    have e2 := qat_u hS2 hs
    subst e2
    show qcW (if qsz (tm M) s.1 1 = 1 ∧ qgr (tm M) (tS (tm M) (qps (tm M) s.1 1)) 1 = true then qtd (s.2 16 (qlt (tm M) s.1 1 0 - 97).toNat) else some 4) (tK (tm M) (qps (tm M) s.1 1)) = _
    rw [e, qcW_x (by omega), if_pos ⟨by unfold qsz; rw [ha]; omega, qgr_i (fun i hi => by rw [ha, show tS (tm M) s2.toNat + i = s3.toNat by omega, hr]; omega)⟩, hl, show (97 + s7 - 97).toNat = s7.toNat by omega, es]
    exact qtd_0 (by omega)
  exact ⟨r_ex (K := 1) (j := 0) m1 m2 m4 ⟨by omega, by omega, by decide⟩ (by omega) (by decide) (fun s hs hE e => hc s hs e), Eq.mpr hp_87 ⟨by omega, by rw [show s0.toNat = S2.1 by have := qat_p (P := s0) (l := s1) hS2 ⟨by omega, by omega, by omega⟩; omega]; exact hl⟩, trivial⟩

-- rt2_0_0
theorem cr_511 (M : pM) (s0 s1 s2 s3 s4 s5 s6 s7 s8 : Int) (b0 : 0 ≤ s0 ∧ s0 ≤ 1900) (b1 : 0 ≤ s1 ∧ s1 ≤ 950) (b2 : 0 ≤ s2 ∧ s2 ≤ 1900) (b3 : 0 ≤ s3 ∧ s3 ≤ 1900) (b4 : 0 ≤ s4 ∧ s4 ≤ 12) (b5 : 0 ≤ s5 ∧ s5 ≤ 20) (b6 : 0 ≤ s6 ∧ s6 ≤ 4) (b7 : 0 ≤ s7 ∧ s7 ≤ 5) (b8 : (-1) ≤ s8 ∧ s8 ≤ (-1)) (m0 : HP 60 (4096 * s0 + s1) (s4 + 32 * s5 + 1024 * s6) M) (m1 : HP 53 (4096 * s0 + s1) (256 * s2 + 33) M) (m2 : HP 47 (s2) (s7 + 393216) M) (m3 : HP 46 (s2) (s3) M) (m4 : (0 ≤ (s7) ∧ M 71 (s7).toNat = (s8))) (hG : gI M) : (HP 53 (4096 * s0 + s1) (256 * s3 + 34) M ∧ HP 79 (16 * s0 + 1) (s7) M ∧ True) := by
  obtain ⟨S, hS, hw, ha⟩ := Eq.mp hp_60 m0
  have hr : M 71 (0 + s7.toNat) = S.2 3 s7.toNat := ha.2.2.1 s7.toNat (by omega)
  have hv := m4.2
  rw [show (s7).toNat = 0 + s7.toNat by omega] at hv
  have hs0 : S.2 3 s7.toNat = s8 := by rw [← hr]; exact hv
  have hc : ∀ s : Nat × pM, qat (tm M) (4096 * s0 + s1) s → tK (tm M) (qps (tm M) s.1 1) = (s7 + 393216) → qck (tm M) s.1 s.2 2 1 = none := by
    intro s hs e
    have es := qat_u hS hs
    have ev : qvl (tm M) s.1 1 = s7 := by unfold qvl; omega
    show qcN 0 5 (if 0 ≤ s.2 3 (qvl (tm M) s.1 1).toNat then some 3 else none) (tK (tm M) (qps (tm M) s.1 1)) = _
    rw [e, qcN_x (by omega) (by omega), ev, es]
    exact if_neg (by omega)
  exact ⟨r_ex (K := 2) (j := 0) m1 m2 m3 ⟨by omega, by omega, by decide⟩ (by omega) (by decide) (fun s hs hE e => hc s hs e), r_va (P := s0) (l := s1) (K := 2) (j := 0) m1 m2 ⟨by omega, by omega, by omega⟩ ⟨by omega, by omega, by decide⟩ (by omega) (by omega), trivial⟩

-- rt3_0_0
theorem cr_512 (M : pM) (s0 s1 s2 s3 s4 s5 s6 s7 s8 : Int) (b0 : 0 ≤ s0 ∧ s0 ≤ 1900) (b1 : 0 ≤ s1 ∧ s1 ≤ 950) (b2 : 0 ≤ s2 ∧ s2 ≤ 1900) (b3 : 0 ≤ s3 ∧ s3 ≤ 1900) (b4 : 0 ≤ s4 ∧ s4 ≤ 12) (b5 : 0 ≤ s5 ∧ s5 ≤ 20) (b6 : 0 ≤ s6 ∧ s6 ≤ 4) (b7 : 0 ≤ s7 ∧ s7 ≤ 5) (b8 : (-1) ≤ s8 ∧ s8 ≤ (-1)) (m0 : HP 60 (4096 * s0 + s1) (s4 + 32 * s5 + 1024 * s6) M) (m1 : HP 53 (4096 * s0 + s1) (256 * s2 + 49) M) (m2 : HP 47 (s2) (s7 + 393216) M) (m3 : HP 46 (s2) (s3) M) (m4 : (0 ≤ (s7) ∧ M 73 (s7).toNat = (s8))) (hG : gI M) : (HP 53 (4096 * s0 + s1) (256 * s3 + 50) M ∧ HP 79 (16 * s0 + 1) (s7) M ∧ True) := by
  obtain ⟨S, hS, hw, ha⟩ := Eq.mp hp_60 m0
  have hr : M 73 (0 + s7.toNat) = S.2 5 s7.toNat := ha.2.2.2.2.1 s7.toNat (by omega)
  have hv := m4.2
  rw [show (s7).toNat = 0 + s7.toNat by omega] at hv
  have hs0 : S.2 5 s7.toNat = s8 := by rw [← hr]; exact hv
  have hc : ∀ s : Nat × pM, qat (tm M) (4096 * s0 + s1) s → tK (tm M) (qps (tm M) s.1 1) = (s7 + 393216) → qck (tm M) s.1 s.2 3 1 = none := by
    intro s hs e
    have es := qat_u hS hs
    have ev : qvl (tm M) s.1 1 = s7 := by unfold qvl; omega
    show qcN 0 5 (if 0 ≤ s.2 5 (qvl (tm M) s.1 1).toNat then some 3 else none) (tK (tm M) (qps (tm M) s.1 1)) = _
    rw [e, qcN_x (by omega) (by omega), ev, es]
    exact if_neg (by omega)
  exact ⟨r_ex (K := 3) (j := 0) m1 m2 m3 ⟨by omega, by omega, by decide⟩ (by omega) (by decide) (fun s hs hE e => hc s hs e), r_va (P := s0) (l := s1) (K := 3) (j := 0) m1 m2 ⟨by omega, by omega, by omega⟩ ⟨by omega, by omega, by decide⟩ (by omega) (by omega), trivial⟩

-- rt8_0_0
theorem cr_513 (M : pM) (s0 s1 s2 s3 s4 s5 s6 s7 s8 s9 : Int) (b0 : 0 ≤ s0 ∧ s0 ≤ 1900) (b1 : 0 ≤ s1 ∧ s1 ≤ 950) (b2 : 0 ≤ s2 ∧ s2 ≤ 1900) (b3 : 0 ≤ s3 ∧ s3 ≤ 1900) (b4 : 0 ≤ s4 ∧ s4 ≤ 12) (b5 : 0 ≤ s5 ∧ s5 ≤ 20) (b6 : 0 ≤ s6 ∧ s6 ≤ 4) (b7 : 0 ≤ s7 ∧ s7 ≤ 7) (b8 : 0 ≤ s8 ∧ s8 ≤ 7) (b9 : 0 ≤ s9 ∧ s9 ≤ 0) (m0 : HP 60 (4096 * s0 + s1) (s4 + 32 * s5 + 1024 * s6) M) (m1 : HP 53 (4096 * s0 + s1) (256 * s2 + 130) M) (m2 : HP 47 (s2) (s8 + 393216) M) (m3 : HP 46 (s2) (s3) M) (m4 : HP 79 (16 * s0 + 1) (s7) M) (m5 : (0 ≤ (s7 + 8 * s8) ∧ M 86 (s7 + 8 * s8).toNat = (s9))) (hG : gI M) : (HP 53 (4096 * s0 + s1) (256 * s3 + 131) M ∧ HP 79 (16 * s0 + 2) (s8) M ∧ True) := by
  obtain ⟨S, hS, hw, ha⟩ := Eq.mp hp_60 m0
  have hf : M 86 (0 + (s7 + 8 * s8).toNat) = S.2 17 (s7 + 8 * s8).toNat := ha.2.2.2.2.2.2.2.2.2.2.2.2 (s7 + 8 * s8).toNat (by omega)
  have hv := m5.2
  rw [show (s7 + 8 * s8).toNat = 0 + (s7 + 8 * s8).toNat by omega, hf] at hv
  have hc : ∀ s : Nat × pM, qat (tm M) (4096 * s0 + s1) s → tK (tm M) (qps (tm M) s.1 2) = (s8 + 393216) → qck (tm M) s.1 s.2 8 2 = none := by
    intro s hs e
    have es := qat_u hS hs
    have hp : s0.toNat = s.1 := by have := qat_p (P := s0) (l := s1) hs ⟨by omega, by omega, by omega⟩; omega
    have e1 := q79 (P := s0) (i := 1) m4 ⟨by omega, by decide⟩ (by omega)
    rw [hp] at e1
    have ev : qvl (tm M) s.1 2 = s8 := by unfold qvl; omega
    show qcN 0 7 (qtd (s.2 17 (qvl (tm M) s.1 1 + 8 * qvl (tm M) s.1 2).toNat)) (tK (tm M) (qps (tm M) s.1 2)) = _
    rw [e, qcN_x (by omega) (by omega), ev, ← e1, es]
    exact qtd_0 (by omega)
  exact ⟨r_ex (K := 8) (j := 1) m1 m2 m3 ⟨by omega, by omega, by decide⟩ (by omega) (by decide) (fun s hs hE e => hc s hs e), r_va (P := s0) (l := s1) (K := 8) (j := 1) m1 m2 ⟨by omega, by omega, by omega⟩ ⟨by omega, by omega, by decide⟩ (by omega) (by omega), trivial⟩

-- rt0_0_1
theorem cr_514 (M : pM) (s0 s1 s2 s3 s4 s5 s6 s7 s8 : Int) (b0 : 0 ≤ s0 ∧ s0 ≤ 1900) (b1 : 0 ≤ s1 ∧ s1 ≤ 950) (b2 : 0 ≤ s2 ∧ s2 ≤ 1900) (b3 : 0 ≤ s3 ∧ s3 ≤ 1900) (b4 : 0 ≤ s4 ∧ s4 ≤ 12) (b5 : 0 ≤ s5 ∧ s5 ≤ 20) (b6 : 0 ≤ s6 ∧ s6 ≤ 4) (b7 : 0 ≤ s7 ∧ s7 ≤ 7) (b8 : 1 ≤ s8 ∧ s8 ≤ 1) (m0 : HP 60 (4096 * s0 + s1) (s4 + 32 * s5 + 1024 * s6) M) (m1 : HP 53 (4096 * s0 + s1) (256 * s2 + 1) M) (m2 : HP 47 (s2) (s7 + 393216) M) (m3 : HP 45 (s2) (s3) M) (m4 : (0 ≤ (s7) ∧ M 84 (s7).toNat = (s8))) (hG : gI M) : (HP 66 (s3) (3 : Int) M ∧ True) := by
  obtain ⟨S, hS, hw, ha⟩ := Eq.mp hp_60 m0
  have hr : M 84 s7.toNat = S.2 15 s7.toNat := ha.2.2.2.2.2.2.2.2.2.2.1 s7.toNat (by omega)
  rw [m4.2] at hr
  have hc : ∀ s : Nat × pM, qat (tm M) (4096 * s0 + s1) s → tK (tm M) (qps (tm M) s.1 1) = (s7 + 393216) → qck (tm M) s.1 s.2 0 1 = some 3 := by
    intro s hs e
    have es := qat_u hS hs
    have ev : qvl (tm M) s.1 1 = s7 := by unfold qvl; omega
    show qcN 0 7 (qtd (s.2 15 (qvl (tm M) s.1 1).toNat)) (tK (tm M) (qps (tm M) s.1 1)) = _
    rw [e, qcN_x (by omega) (by omega), ev, es]
    exact qtd_1 (by omega)
  exact ⟨r_fl (K := 0) (j := 0) m1 m2 m3 ⟨by omega, by omega, by decide⟩ (fun s hs hE e => hc s hs e), trivial⟩

-- rt1_0_1
theorem cr_515 (M : pM) (s0 s1 s2 s3 s4 s5 s6 s7 s8 s9 s10 : Int) (b0 : 0 ≤ s0 ∧ s0 ≤ 1900) (b1 : 0 ≤ s1 ∧ s1 ≤ 950) (b2 : 0 ≤ s2 ∧ s2 ≤ 1900) (b3 : 0 ≤ s3 ∧ s3 ≤ 1900) (b4 : 0 ≤ s4 ∧ s4 ≤ 12) (b5 : 0 ≤ s5 ∧ s5 ≤ 20) (b6 : 0 ≤ s6 ∧ s6 ≤ 4) (b7 : 0 ≤ s7 ∧ s7 ≤ 7) (b8 : 1 ≤ s8 ∧ s8 ≤ 1) (b9 : 262143 ≤ s9 ∧ s9 ≤ 262168) (b10 : 0 ≤ s10 ∧ s10 ≤ 1900) (m0 : HP 60 (4096 * s0 + s1) (s4 + 32 * s5 + 1024 * s6) M) (m1 : HP 53 (4096 * s0 + s1) (256 * s2 + 17) M) (m2 : HP 47 (s2) (s9) M) (m3 : HP 45 (s2) (s3) M) (m4 : HP 46 (s2) (s10) M) (m5 : (0 ≤ (s3) ∧ M 1 (s3).toNat = (s7 + 97))) (m6 : (0 ≤ (s7) ∧ M 85 (s7).toNat = (s8))) (f0 : 0 ≤ (s3 + (-1) * s10 + 1)) (f1 : 0 ≤ ((-1) * s3 + s10 - 1)) (hG : gI M) : (HP 66 (s3) (3 : Int) M ∧ True) := by
  obtain ⟨S, hS, hw, hA⟩ := Eq.mp hp_60 m0
  have hf : M 85 s7.toNat = S.2 16 s7.toNat := hA.2.2.2.2.2.2.2.2.2.2.2.1 s7.toNat (by omega)
  rw [m6.2] at hf
  obtain ⟨S2, hS2, hE2⟩ := ex_o (K := 1) (j := 0) (a := s2) (Eq.mp hp_53 m1) ⟨by omega, by omega, by decide, by decide⟩
  have ha2 : s2 = (qps (tm M) S2.1 1 : Int) := hE2.2.2.2.2
  have ha : qps (tm M) S2.1 1 = s2.toNat := by omega
  have g1 := (q45 m3).2
  have g2 := (q46 m4).2
  have hr := rd1 m5 (by omega)
  have hl : qlt (tm M) S2.1 1 0 = 97 + s7 := by unfold qlt; rw [ha, show tS (tm M) s2.toNat + 0 = s3.toNat by omega, hr]; omega
  have hc : ∀ s : Nat × pM, qat (tm M) (4096 * s0 + s1) s → tK (tm M) (qps (tm M) s.1 1) = s9 → qck (tm M) s.1 s.2 1 1 = some 3 := by
    intro s hs e
    have es := qat_u hS hs
    have e2 := qat_u hS2 hs
    subst e2
    show qcW (if qsz (tm M) s.1 1 = 1 ∧ qgr (tm M) (tS (tm M) (qps (tm M) s.1 1)) 1 = true then qtd (s.2 16 (qlt (tm M) s.1 1 0 - 97).toNat) else some 4) (tK (tm M) (qps (tm M) s.1 1)) = _
    rw [e, qcW_x (by omega), if_pos ⟨by unfold qsz; rw [ha]; omega, qgr_i (fun i hi => by rw [ha, show tS (tm M) s2.toNat + i = s3.toNat by omega, hr]; omega)⟩, hl, show (97 + s7 - 97).toNat = s7.toNat by omega, es]
    exact qtd_1 (by omega)
  exact ⟨r_fl (K := 1) (j := 0) m1 m2 m3 ⟨by omega, by omega, by decide⟩ (fun s hs hE e => hc s hs e), trivial⟩

-- rt2_0_1
theorem cr_516 (M : pM) (s0 s1 s2 s3 s4 s5 s6 s7 s8 : Int) (b0 : 0 ≤ s0 ∧ s0 ≤ 1900) (b1 : 0 ≤ s1 ∧ s1 ≤ 950) (b2 : 0 ≤ s2 ∧ s2 ≤ 1900) (b3 : 0 ≤ s3 ∧ s3 ≤ 1900) (b4 : 0 ≤ s4 ∧ s4 ≤ 12) (b5 : 0 ≤ s5 ∧ s5 ≤ 20) (b6 : 0 ≤ s6 ∧ s6 ≤ 4) (b7 : 0 ≤ s7 ∧ s7 ≤ 5) (b8 : 0 ≤ s8 ∧ s8 ≤ 40) (m0 : HP 60 (4096 * s0 + s1) (s4 + 32 * s5 + 1024 * s6) M) (m1 : HP 53 (4096 * s0 + s1) (256 * s2 + 33) M) (m2 : HP 47 (s2) (s7 + 393216) M) (m3 : HP 45 (s2) (s3) M) (m4 : (0 ≤ (s7) ∧ M 71 (s7).toNat = (s8))) (hG : gI M) : (HP 66 (s3) (3 : Int) M ∧ True) := by
  obtain ⟨S, hS, hw, ha⟩ := Eq.mp hp_60 m0
  have hr : M 71 (0 + s7.toNat) = S.2 3 s7.toNat := ha.2.2.1 s7.toNat (by omega)
  have hv := m4.2
  rw [show (s7).toNat = 0 + s7.toNat by omega] at hv
  have hs0 : S.2 3 s7.toNat = s8 := by rw [← hr]; exact hv
  have hc : ∀ s : Nat × pM, qat (tm M) (4096 * s0 + s1) s → tK (tm M) (qps (tm M) s.1 1) = (s7 + 393216) → qck (tm M) s.1 s.2 2 1 = some 3 := by
    intro s hs e
    have es := qat_u hS hs
    have ev : qvl (tm M) s.1 1 = s7 := by unfold qvl; omega
    show qcN 0 5 (if 0 ≤ s.2 3 (qvl (tm M) s.1 1).toNat then some 3 else none) (tK (tm M) (qps (tm M) s.1 1)) = _
    rw [e, qcN_x (by omega) (by omega), ev, es]
    exact if_pos (by omega)
  exact ⟨r_fl (K := 2) (j := 0) m1 m2 m3 ⟨by omega, by omega, by decide⟩ (fun s hs hE e => hc s hs e), trivial⟩

-- rt3_0_1
theorem cr_517 (M : pM) (s0 s1 s2 s3 s4 s5 s6 s7 s8 : Int) (b0 : 0 ≤ s0 ∧ s0 ≤ 1900) (b1 : 0 ≤ s1 ∧ s1 ≤ 950) (b2 : 0 ≤ s2 ∧ s2 ≤ 1900) (b3 : 0 ≤ s3 ∧ s3 ≤ 1900) (b4 : 0 ≤ s4 ∧ s4 ≤ 12) (b5 : 0 ≤ s5 ∧ s5 ≤ 20) (b6 : 0 ≤ s6 ∧ s6 ≤ 4) (b7 : 0 ≤ s7 ∧ s7 ≤ 5) (b8 : 0 ≤ s8 ∧ s8 ≤ 40) (m0 : HP 60 (4096 * s0 + s1) (s4 + 32 * s5 + 1024 * s6) M) (m1 : HP 53 (4096 * s0 + s1) (256 * s2 + 49) M) (m2 : HP 47 (s2) (s7 + 393216) M) (m3 : HP 45 (s2) (s3) M) (m4 : (0 ≤ (s7) ∧ M 73 (s7).toNat = (s8))) (hG : gI M) : (HP 66 (s3) (3 : Int) M ∧ True) := by
  obtain ⟨S, hS, hw, ha⟩ := Eq.mp hp_60 m0
  have hr : M 73 (0 + s7.toNat) = S.2 5 s7.toNat := ha.2.2.2.2.1 s7.toNat (by omega)
  have hv := m4.2
  rw [show (s7).toNat = 0 + s7.toNat by omega] at hv
  have hs0 : S.2 5 s7.toNat = s8 := by rw [← hr]; exact hv
  have hc : ∀ s : Nat × pM, qat (tm M) (4096 * s0 + s1) s → tK (tm M) (qps (tm M) s.1 1) = (s7 + 393216) → qck (tm M) s.1 s.2 3 1 = some 3 := by
    intro s hs e
    have es := qat_u hS hs
    have ev : qvl (tm M) s.1 1 = s7 := by unfold qvl; omega
    show qcN 0 5 (if 0 ≤ s.2 5 (qvl (tm M) s.1 1).toNat then some 3 else none) (tK (tm M) (qps (tm M) s.1 1)) = _
    rw [e, qcN_x (by omega) (by omega), ev, es]
    exact if_pos (by omega)
  exact ⟨r_fl (K := 3) (j := 0) m1 m2 m3 ⟨by omega, by omega, by decide⟩ (fun s hs hE e => hc s hs e), trivial⟩

-- rt8_0_1
theorem cr_518 (M : pM) (s0 s1 s2 s3 s4 s5 s6 s7 s8 s9 : Int) (b0 : 0 ≤ s0 ∧ s0 ≤ 1900) (b1 : 0 ≤ s1 ∧ s1 ≤ 950) (b2 : 0 ≤ s2 ∧ s2 ≤ 1900) (b3 : 0 ≤ s3 ∧ s3 ≤ 1900) (b4 : 0 ≤ s4 ∧ s4 ≤ 12) (b5 : 0 ≤ s5 ∧ s5 ≤ 20) (b6 : 0 ≤ s6 ∧ s6 ≤ 4) (b7 : 0 ≤ s7 ∧ s7 ≤ 7) (b8 : 0 ≤ s8 ∧ s8 ≤ 7) (b9 : 1 ≤ s9 ∧ s9 ≤ 1) (m0 : HP 60 (4096 * s0 + s1) (s4 + 32 * s5 + 1024 * s6) M) (m1 : HP 53 (4096 * s0 + s1) (256 * s2 + 130) M) (m2 : HP 47 (s2) (s8 + 393216) M) (m3 : HP 45 (s2) (s3) M) (m4 : HP 79 (16 * s0 + 1) (s7) M) (m5 : (0 ≤ (s7 + 8 * s8) ∧ M 86 (s7 + 8 * s8).toNat = (s9))) (hG : gI M) : (HP 66 (s3) (3 : Int) M ∧ True) := by
  obtain ⟨S, hS, hw, ha⟩ := Eq.mp hp_60 m0
  have hf : M 86 (0 + (s7 + 8 * s8).toNat) = S.2 17 (s7 + 8 * s8).toNat := ha.2.2.2.2.2.2.2.2.2.2.2.2 (s7 + 8 * s8).toNat (by omega)
  have hv := m5.2
  rw [show (s7 + 8 * s8).toNat = 0 + (s7 + 8 * s8).toNat by omega, hf] at hv
  have hc : ∀ s : Nat × pM, qat (tm M) (4096 * s0 + s1) s → tK (tm M) (qps (tm M) s.1 2) = (s8 + 393216) → qck (tm M) s.1 s.2 8 2 = some 3 := by
    intro s hs e
    have es := qat_u hS hs
    have hp : s0.toNat = s.1 := by have := qat_p (P := s0) (l := s1) hs ⟨by omega, by omega, by omega⟩; omega
    have e1 := q79 (P := s0) (i := 1) m4 ⟨by omega, by decide⟩ (by omega)
    rw [hp] at e1
    have ev : qvl (tm M) s.1 2 = s8 := by unfold qvl; omega
    show qcN 0 7 (qtd (s.2 17 (qvl (tm M) s.1 1 + 8 * qvl (tm M) s.1 2).toNat)) (tK (tm M) (qps (tm M) s.1 2)) = _
    rw [e, qcN_x (by omega) (by omega), ev, ← e1, es]
    exact qtd_1 (by omega)
  exact ⟨r_fl (K := 8) (j := 1) m1 m2 m3 ⟨by omega, by omega, by decide⟩ (fun s hs hE e => hc s hs e), trivial⟩

-- rg0_0
theorem cr_519 (M : pM) (s0 s1 s2 s3 s4 s5 : Int) (b0 : 0 ≤ s0 ∧ s0 ≤ 1900) (b1 : 0 ≤ s1 ∧ s1 ≤ 950) (b2 : 0 ≤ s2 ∧ s2 ≤ 12) (b3 : 0 ≤ s3 ∧ s3 ≤ 20) (b4 : 0 ≤ s4 ∧ s4 ≤ 4) (b5 : 0 ≤ s5 ∧ s5 ≤ 7) (m0 : HP 60 (4096 * s0 + s1) (s2 + 32 * s3 + 1024 * s4) M) (hG : gI M) : (HP 145 (4096 * s0 + s1) (s2 + 32 * s3 + 1024 * s4 + 131072 * s5) M ∧ True) := by
  exact ⟨Eq.mpr hp_145 (l_rg0 (u := s5.toNat) (Eq.mp hp_60 m0) (by omega)), trivial⟩

-- rgw_0
theorem cr_520 (M : pM) (s0 s1 s2 s3 s4 s5 s6 s7 s8 s9 : Int) (b0 : 0 ≤ s0 ∧ s0 ≤ 1900) (b1 : 0 ≤ s1 ∧ s1 ≤ 950) (b2 : 0 ≤ s2 ∧ s2 ≤ 1900) (b3 : 0 ≤ s3 ∧ s3 ≤ 12) (b4 : 0 ≤ s4 ∧ s4 ≤ 20) (b5 : 0 ≤ s5 ∧ s5 ≤ 4) (b6 : 0 ≤ s6 ∧ s6 ≤ 7) (b7 : 0 ≤ s7 ∧ s7 ≤ 7) (b8 : 0 ≤ s8 ∧ s8 ≤ 1900) (b9 : 97 ≤ s9 ∧ s9 ≤ 104) (m0 : HP 145 (4096 * s0 + s1) (s3 + 32 * s4 + 1024 * s5 + 8192 * s6 + 131072 * s7) M) (m1 : HP 157 (16 * s0 + 2) (s2) M) (m2 : HP 45 (s2) (s8) M) (m3 : (0 ≤ (s6 + s8) ∧ M 1 (s6 + s8).toNat = (s9))) (hG : gI M) : (HP 145 (4096 * s0 + s1) (s3 + 32 * s4 + 1024 * s5 + 8192 * s6 + 131072 * s7 + 8192) (st M 69 (s6 + 8 * s7).toNat (s9 - 97)) ∧ True) := by
  have ht : tm (st M 69 (64 * 0 + (8 * s7.toNat + s6.toNat)) (s9 - 97)) = tm M := tm_st (by decide) (by decide)
  rw [show (s6 + 8 * s7).toNat = 64 * 0 + (8 * s7.toNat + s6.toNat) by omega]
  have hv : ∀ s, qat (tm M) (4096 * s0 + s1) s → (s9 - 97) = qlt (tm M) s.1 2 s6.toNat - 97 := by
    intro s hs
    have hp := qat_p (P := s0) (l := s1) hs ⟨by omega, by omega, by omega⟩
    obtain ⟨p, i, t1, t2, t3⟩ := Eq.mp hp_157 m1
    have e1 : i = 2 := by omega
    have e2 : p = s.1 := by omega
    subst e1
    subst e2
    have g1 := (q45 m2).2
    have hr := rd1 m3 (by omega)
    unfold qlt
    rw [show qps (tm M) s.1 2 = s2.toNat by omega, show tS (tm M) s2.toNat + s6.toNat = (s6 + s8).toNat by omega, hr]
  refine ⟨Eq.mpr hp_145 ?_, trivial⟩
  rw [ht]
  exact RG_m (fun _ _ _ _ _ h => agR_w69 h) (l_rgw (k := s6.toNat) (u := s7.toNat) (w := s3) (r := s4) (g := s5) (Eq.mp hp_145 m0) (by omega) ⟨⟨by omega, by omega⟩, ⟨by omega, by omega⟩, by omega, by omega⟩ (by omega) (by omega) hv (by omega))

-- rgh_0
theorem cr_521 (M : pM) (s0 s1 s2 s3 s4 s5 s6 : Int) (b0 : 0 ≤ s0 ∧ s0 ≤ 1900) (b1 : 0 ≤ s1 ∧ s1 ≤ 950) (b2 : 0 ≤ s2 ∧ s2 ≤ 1900) (b3 : 0 ≤ s3 ∧ s3 ≤ 12) (b4 : 0 ≤ s4 ∧ s4 ≤ 20) (b5 : 0 ≤ s5 ∧ s5 ≤ 4) (b6 : 0 ≤ s6 ∧ s6 ≤ 7) (m0 : HP 145 (4096 * s0 + s1) (s3 + 32 * s4 + 1024 * s5 + 131072 * s6 + 65536) M) (m1 : HP 53 (4096 * s0 + s1) (256 * s2 + 3) M) (m2 : HP 79 (16 * s0 + 1) (s6) M) (hG : gI M) : (HP 62 (4096 * s0 + s1) (s3 + 32 * s4 + 1024 * s5) (st M 84 (s6).toNat (1 : Int)) ∧ True) := by
  have hv := q79 (P := s0) (i := 1) m2 ⟨by omega, by decide⟩ (by omega)
  have ht : tm (st M 84 (s6.toNat) (1 : Int)) = tm M := tm_st (by decide) (by decide)
  rw [show (s6).toNat = s6.toNat by omega]
  refine ⟨Eq.mpr hp_62 ?_, trivial⟩
  rw [ht]
  exact RW_m (fun _ _ _ _ _ h => agR_w84 h) (l_rgh (u := s6.toNat) (w := s3) (r := s4) (g := s5) (P := s0) (l := s1) (Eq.mp hp_145 m0) (by omega) ⟨⟨by omega, by omega⟩, ⟨by omega, by omega⟩, by omega, by omega⟩ (ex_o (K := 0) (j := 2) (a := s2) (Eq.mp hp_53 m1) ⟨by omega, by omega, by decide, by decide⟩) ⟨by omega, by omega, by omega⟩ (by omega) (by omega))

-- rlh_0
theorem cr_522 (M : pM) (s0 s1 s2 s3 s4 s5 : Int) (b0 : 0 ≤ s0 ∧ s0 ≤ 1900) (b1 : 0 ≤ s1 ∧ s1 ≤ 950) (b2 : 0 ≤ s2 ∧ s2 ≤ 12) (b3 : 0 ≤ s3 ∧ s3 ≤ 20) (b4 : 0 ≤ s4 ∧ s4 ≤ 4) (b5 : 0 ≤ s5 ∧ s5 ≤ 7) (m0 : HP 60 (4096 * s0 + s1) (s2 + 32 * s3 + 1024 * s4) M) (m1 : HP 87 (s0) (s5) M) (hG : gI M) : (HP 147 (4096 * s0 + s1) (s2 + 32 * s3 + 1024 * s4 + 131072 * s5) (st M 85 (s5).toNat (1 : Int)) ∧ True) := by
  have ht : tm (st M 85 (s5.toNat) (1 : Int)) = tm M := tm_st (by decide) (by decide)
  rw [show (s5).toNat = s5.toNat by omega]
  refine ⟨Eq.mpr hp_147 ?_, trivial⟩
  rw [ht]
  exact RL_m (fun _ _ _ _ _ h => agR_w85 h) (l_rlh (u := s5.toNat) (Eq.mp hp_60 m0) (by omega))

-- rlw_0
theorem cr_523 (M : pM) (s0 s1 s2 s3 s4 s5 s6 s7 : Int) (b0 : 0 ≤ s0 ∧ s0 ≤ 1900) (b1 : 0 ≤ s1 ∧ s1 ≤ 950) (b2 : 0 ≤ s2 ∧ s2 ≤ 12) (b3 : 0 ≤ s3 ∧ s3 ≤ 20) (b4 : 0 ≤ s4 ∧ s4 ≤ 4) (b5 : 0 ≤ s5 ∧ s5 ≤ 7) (b6 : 0 ≤ s6 ∧ s6 ≤ 5) (b7 : 0 ≤ s7 ∧ s7 ≤ 20) (m0 : HP 147 (4096 * s0 + s1) (s2 + 32 * s3 + 1024 * s4 + 131072 * s5 + 8192 * s6) M) (m1 : HP 87 (s0) (s5) M) (m2 : HP 79 (16 * s0 + s6 + 2) (s7) M) (hG : gI M) : (HP 147 (4096 * s0 + s1) (s2 + 32 * s3 + 1024 * s4 + 131072 * s5 + 8192 * s6 + 8192) (st M 70 (6 * s5 + s6).toNat (s7)) ∧ True) := by
  have hv := q79 (P := s0) (i := 2 + s6.toNat) m2 ⟨by omega, by omega⟩ (by omega)
  have ht : tm (st M 70 (48 * 0 + (6 * s5.toNat + s6.toNat)) (s7)) = tm M := tm_st (by decide) (by decide)
  rw [show (6 * s5 + s6).toNat = 48 * 0 + (6 * s5.toNat + s6.toNat) by omega]
  refine ⟨Eq.mpr hp_147 ?_, trivial⟩
  rw [ht]
  exact RL_m (fun _ _ _ _ _ h => agR_w70 h) (l_rlw (k := s6.toNat) (u := s5.toNat) (w := s2) (r := s3) (g := s4) (P := s0) (l := s1) (Eq.mp hp_147 m0) (by omega) ⟨⟨by omega, by omega⟩, ⟨by omega, by omega⟩, by omega, by omega⟩ (by omega) (by omega) ⟨by omega, by omega, by omega⟩ hv (by omega))

-- rle_0
theorem cr_524 (M : pM) (s0 s1 s2 s3 s4 s5 s6 : Int) (b0 : 0 ≤ s0 ∧ s0 ≤ 1900) (b1 : 0 ≤ s1 ∧ s1 ≤ 950) (b2 : 0 ≤ s2 ∧ s2 ≤ 1900) (b3 : 0 ≤ s3 ∧ s3 ≤ 12) (b4 : 0 ≤ s4 ∧ s4 ≤ 20) (b5 : 0 ≤ s5 ∧ s5 ≤ 4) (b6 : 0 ≤ s6 ∧ s6 ≤ 7) (m0 : HP 147 (4096 * s0 + s1) (s3 + 32 * s4 + 1024 * s5 + 131072 * s6 + 49152) M) (m1 : HP 53 (4096 * s0 + s1) (256 * s2 + 24) M) (m2 : HP 87 (s0) (s6) M) (hG : gI M) : (HP 62 (4096 * s0 + s1) (s3 + 32 * s4 + 1024 * s5) M ∧ True) := by
  have hv := (Eq.mp hp_87 m2).2
  exact ⟨Eq.mpr hp_62 (l_rle (u := s6.toNat) (w := s3) (r := s4) (g := s5) (P := s0) (l := s1) (Eq.mp hp_147 m0) (by omega) ⟨⟨by omega, by omega⟩, ⟨by omega, by omega⟩, by omega, by omega⟩ (ex_o (K := 1) (j := 7) (a := s2) (Eq.mp hp_53 m1) ⟨by omega, by omega, by decide, by decide⟩) ⟨by omega, by omega, by omega⟩ (by omega) (by omega)), trivial⟩

-- rxa_0
theorem cr_525 (M : pM) (s0 s1 s2 s3 s4 s5 s6 s7 : Int) (b0 : 0 ≤ s0 ∧ s0 ≤ 1900) (b1 : 0 ≤ s1 ∧ s1 ≤ 950) (b2 : 0 ≤ s2 ∧ s2 ≤ 1900) (b3 : 0 ≤ s3 ∧ s3 ≤ 12) (b4 : 0 ≤ s4 ∧ s4 ≤ 20) (b5 : 0 ≤ s5 ∧ s5 ≤ 4) (b6 : 0 ≤ s6 ∧ s6 ≤ 5) (b7 : 0 ≤ s7 ∧ s7 ≤ 3) (m0 : HP 60 (4096 * s0 + s1) (s3 + 32 * s4 + 1024 * s5) M) (m1 : HP 53 (4096 * s0 + s1) (256 * s2 + 36) M) (m2 : HP 79 (16 * s0 + 1) (s6) M) (m3 : HP 88 (s0) (s7) M) (hG : gI M) : (HP 151 (4096 * s0 + s1) (s3 + 32 * s4 + 1024 * s5) (st M 71 (s6).toNat (s7)) ∧ True) := by
  have ht : tm (st M 71 (6 * 0 + (s6.toNat)) (s7)) = tm M := tm_st (by decide) (by decide)
  rw [show (s6).toNat = 6 * 0 + (s6.toNat) by omega]
  refine ⟨Eq.mpr hp_151 ?_, trivial⟩
  rw [ht]
  exact RX_m (fun _ _ _ _ _ h => agR_w71 h) (l_rxa (P := s0) (l := s1) (Eq.mp hp_60 m0) ⟨by omega, by omega, by omega⟩ (q79 (P := s0) (i := 1) m2 ⟨by omega, by decide⟩ (by omega)) (Eq.mp hp_88 m3).2 (by omega))

-- rxb_0
theorem cr_526 (M : pM) (s0 s1 s2 s3 s4 s5 s6 s7 : Int) (b0 : 0 ≤ s0 ∧ s0 ≤ 1900) (b1 : 0 ≤ s1 ∧ s1 ≤ 950) (b2 : 0 ≤ s2 ∧ s2 ≤ 1900) (b3 : 0 ≤ s3 ∧ s3 ≤ 12) (b4 : 0 ≤ s4 ∧ s4 ≤ 20) (b5 : 0 ≤ s5 ∧ s5 ≤ 4) (b6 : 0 ≤ s6 ∧ s6 ≤ 5) (b7 : 0 ≤ s7 ∧ s7 ≤ 3) (m0 : HP 151 (4096 * s0 + s1) (s3 + 32 * s4 + 1024 * s5) M) (m1 : HP 53 (4096 * s0 + s1) (256 * s2 + 36) M) (m2 : HP 79 (16 * s0 + 1) (s6) M) (m3 : HP 79 (16 * s0 + 3) (s7) M) (hG : gI M) : (HP 62 (4096 * s0 + s1) (s3 + 32 * s4 + 1024 * s5) (st M 72 (s6).toNat (s7)) ∧ True) := by
  have ht : tm (st M 72 (6 * 0 + (s6.toNat)) (s7)) = tm M := tm_st (by decide) (by decide)
  rw [show (s6).toNat = 6 * 0 + (s6.toNat) by omega]
  refine ⟨Eq.mpr hp_62 ?_, trivial⟩
  rw [ht]
  exact RW_m (fun _ _ _ _ _ h => agR_w72 h) (l_rxb (P := s0) (l := s1) (Eq.mp hp_151 m0) (ex_o (K := 2) (j := 3) (a := s2) (Eq.mp hp_53 m1) ⟨by omega, by omega, by decide, by decide⟩) ⟨by omega, by omega, by omega⟩ (q79 (P := s0) (i := 1) m2 ⟨by omega, by decide⟩ (by omega)) (q79 (P := s0) (i := 3) m3 ⟨by omega, by decide⟩ (by omega)) (by omega))

-- rtw_0
theorem cr_527 (M : pM) (s0 s1 s2 s3 s4 s5 s6 s7 : Int) (b0 : 0 ≤ s0 ∧ s0 ≤ 1900) (b1 : 0 ≤ s1 ∧ s1 ≤ 950) (b2 : 0 ≤ s2 ∧ s2 ≤ 1900) (b3 : 0 ≤ s3 ∧ s3 ≤ 12) (b4 : 0 ≤ s4 ∧ s4 ≤ 20) (b5 : 0 ≤ s5 ∧ s5 ≤ 4) (b6 : 0 ≤ s6 ∧ s6 ≤ 5) (b7 : 1 ≤ s7 ∧ s7 ≤ 40) (m0 : HP 60 (4096 * s0 + s1) (s3 + 32 * s4 + 1024 * s5) M) (m1 : HP 53 (4096 * s0 + s1) (256 * s2 + 51) M) (m2 : HP 79 (16 * s0 + 1) (s6) M) (m3 : HP 79 (16 * s0 + 2) (s7) M) (hG : gI M) : (HP 62 (4096 * s0 + s1) (s3 + 32 * s4 + 1024 * s5) (st M 73 (s6).toNat (s7)) ∧ True) := by
  have ht : tm (st M 73 (6 * 0 + (s6.toNat)) (s7)) = tm M := tm_st (by decide) (by decide)
  rw [show (s6).toNat = 6 * 0 + (s6.toNat) by omega]
  refine ⟨Eq.mpr hp_62 ?_, trivial⟩
  rw [ht]
  exact RW_m (fun _ _ _ _ _ h => agR_w73 h) (l_rtw (P := s0) (l := s1) (Eq.mp hp_60 m0) (ex_o (K := 3) (j := 2) (a := s2) (Eq.mp hp_53 m1) ⟨by omega, by omega, by decide, by decide⟩) ⟨by omega, by omega, by omega⟩ (q79 (P := s0) (i := 1) m2 ⟨by omega, by decide⟩ (by omega)) (q79 (P := s0) (i := 2) m3 ⟨by omega, by decide⟩ (by omega)) (by omega))

-- rap74_0
theorem cr_528 (M : pM) (s0 s1 s2 s3 s4 s5 s6 : Int) (b0 : 0 ≤ s0 ∧ s0 ≤ 1900) (b1 : 0 ≤ s1 ∧ s1 ≤ 950) (b2 : 0 ≤ s2 ∧ s2 ≤ 12) (b3 : 0 ≤ s3 ∧ s3 ≤ 20) (b4 : 0 ≤ s4 ∧ s4 ≤ 4) (b5 : 0 ≤ s5 ∧ s5 ≤ 23) (b6 : 0 ≤ s6 ∧ s6 ≤ 63) (m0 : HP 60 (4096 * s0 + s1) (s2 + 32 * s3 + 1024 * s4) M) (f0 : 0 ≤ ((-1) * s2 + s5)) (hG : gI M) : (HP 60 (4096 * s0 + s1) (s2 + 32 * s3 + 1024 * s4) (st M 74 (s5).toNat (s6)) ∧ True) := by
  have ht : tm (st M 74 (12 * 0 + ((s5 - 0).toNat)) (s6)) = tm M := tm_st (by decide) (by decide)
  rw [show (s5).toNat = 12 * 0 + ((s5 - 0).toNat) by omega]
  refine ⟨Eq.mpr hp_60 ?_, trivial⟩
  rw [ht]
  exact RA_m (fun _ _ _ _ _ h => agR_w74 h) (l_rap (c := 5) (w := s2) (r := s3) (g := s4) (Eq.mp hp_60 m0) (by omega) ⟨⟨by omega, by omega⟩, ⟨by omega, by omega⟩, by omega, by omega⟩ (by omega) (by decide))

-- rap75_0
theorem cr_529 (M : pM) (s0 s1 s2 s3 s4 s5 s6 : Int) (b0 : 0 ≤ s0 ∧ s0 ≤ 1900) (b1 : 0 ≤ s1 ∧ s1 ≤ 950) (b2 : 0 ≤ s2 ∧ s2 ≤ 12) (b3 : 0 ≤ s3 ∧ s3 ≤ 20) (b4 : 0 ≤ s4 ∧ s4 ≤ 4) (b5 : 0 ≤ s5 ∧ s5 ≤ 23) (b6 : 0 ≤ s6 ∧ s6 ≤ 63) (m0 : HP 60 (4096 * s0 + s1) (s2 + 32 * s3 + 1024 * s4) M) (f0 : 0 ≤ ((-1) * s2 + s5)) (hG : gI M) : (HP 60 (4096 * s0 + s1) (s2 + 32 * s3 + 1024 * s4) (st M 75 (s5).toNat (s6)) ∧ True) := by
  have ht : tm (st M 75 (12 * 0 + ((s5 - 0).toNat)) (s6)) = tm M := tm_st (by decide) (by decide)
  rw [show (s5).toNat = 12 * 0 + ((s5 - 0).toNat) by omega]
  refine ⟨Eq.mpr hp_60 ?_, trivial⟩
  rw [ht]
  exact RA_m (fun _ _ _ _ _ h => agR_w75 h) (l_rap (c := 6) (w := s2) (r := s3) (g := s4) (Eq.mp hp_60 m0) (by omega) ⟨⟨by omega, by omega⟩, ⟨by omega, by omega⟩, by omega, by omega⟩ (by omega) (by decide))

-- rap76_0
theorem cr_530 (M : pM) (s0 s1 s2 s3 s4 s5 s6 : Int) (b0 : 0 ≤ s0 ∧ s0 ≤ 1900) (b1 : 0 ≤ s1 ∧ s1 ≤ 950) (b2 : 0 ≤ s2 ∧ s2 ≤ 12) (b3 : 0 ≤ s3 ∧ s3 ≤ 20) (b4 : 0 ≤ s4 ∧ s4 ≤ 4) (b5 : 0 ≤ s5 ∧ s5 ≤ 23) (b6 : 0 ≤ s6 ∧ s6 ≤ 63) (m0 : HP 60 (4096 * s0 + s1) (s2 + 32 * s3 + 1024 * s4) M) (f0 : 0 ≤ ((-1) * s2 + s5)) (hG : gI M) : (HP 60 (4096 * s0 + s1) (s2 + 32 * s3 + 1024 * s4) (st M 76 (s5).toNat (s6)) ∧ True) := by
  have ht : tm (st M 76 (12 * 0 + ((s5 - 0).toNat)) (s6)) = tm M := tm_st (by decide) (by decide)
  rw [show (s5).toNat = 12 * 0 + ((s5 - 0).toNat) by omega]
  refine ⟨Eq.mpr hp_60 ?_, trivial⟩
  rw [ht]
  exact RA_m (fun _ _ _ _ _ h => agR_w76 h) (l_rap (c := 7) (w := s2) (r := s3) (g := s4) (Eq.mp hp_60 m0) (by omega) ⟨⟨by omega, by omega⟩, ⟨by omega, by omega⟩, by omega, by omega⟩ (by omega) (by decide))

-- rap77_0
theorem cr_531 (M : pM) (s0 s1 s2 s3 s4 s5 s6 : Int) (b0 : 0 ≤ s0 ∧ s0 ≤ 1900) (b1 : 0 ≤ s1 ∧ s1 ≤ 950) (b2 : 0 ≤ s2 ∧ s2 ≤ 12) (b3 : 0 ≤ s3 ∧ s3 ≤ 20) (b4 : 0 ≤ s4 ∧ s4 ≤ 4) (b5 : 0 ≤ s5 ∧ s5 ≤ 23) (b6 : 0 ≤ s6 ∧ s6 ≤ 63) (m0 : HP 60 (4096 * s0 + s1) (s2 + 32 * s3 + 1024 * s4) M) (f0 : 0 ≤ ((-1) * s2 + s5)) (hG : gI M) : (HP 60 (4096 * s0 + s1) (s2 + 32 * s3 + 1024 * s4) (st M 77 (s5).toNat (s6)) ∧ True) := by
  have ht : tm (st M 77 (12 * 0 + ((s5 - 0).toNat)) (s6)) = tm M := tm_st (by decide) (by decide)
  rw [show (s5).toNat = 12 * 0 + ((s5 - 0).toNat) by omega]
  refine ⟨Eq.mpr hp_60 ?_, trivial⟩
  rw [ht]
  exact RA_m (fun _ _ _ _ _ h => agR_w77 h) (l_rap (c := 8) (w := s2) (r := s3) (g := s4) (Eq.mp hp_60 m0) (by omega) ⟨⟨by omega, by omega⟩, ⟨by omega, by omega⟩, by omega, by omega⟩ (by omega) (by decide))

-- rrp78_0
theorem cr_532 (M : pM) (s0 s1 s2 s3 s4 s5 s6 : Int) (b0 : 0 ≤ s0 ∧ s0 ≤ 1900) (b1 : 0 ≤ s1 ∧ s1 ≤ 950) (b2 : 0 ≤ s2 ∧ s2 ≤ 12) (b3 : 0 ≤ s3 ∧ s3 ≤ 20) (b4 : 0 ≤ s4 ∧ s4 ≤ 4) (b5 : 0 ≤ s5 ∧ s5 ≤ 39) (b6 : 0 ≤ s6 ∧ s6 ≤ 99) (m0 : HP 60 (4096 * s0 + s1) (s2 + 32 * s3 + 1024 * s4) M) (f0 : 0 ≤ ((-1) * s3 + s5)) (hG : gI M) : (HP 60 (4096 * s0 + s1) (s2 + 32 * s3 + 1024 * s4) (st M 78 (s5).toNat (s6)) ∧ True) := by
  have ht : tm (st M 78 (20 * 0 + ((s5 - 0).toNat)) (s6)) = tm M := tm_st (by decide) (by decide)
  rw [show (s5).toNat = 20 * 0 + ((s5 - 0).toNat) by omega]
  refine ⟨Eq.mpr hp_60 ?_, trivial⟩
  rw [ht]
  exact RA_m (fun _ _ _ _ _ h => agR_w78 h) (l_rrp (c := 9) (w := s2) (r := s3) (g := s4) (Eq.mp hp_60 m0) (by omega) ⟨⟨by omega, by omega⟩, ⟨by omega, by omega⟩, by omega, by omega⟩ (by omega) (by decide))

-- rrp79_0
theorem cr_533 (M : pM) (s0 s1 s2 s3 s4 s5 s6 : Int) (b0 : 0 ≤ s0 ∧ s0 ≤ 1900) (b1 : 0 ≤ s1 ∧ s1 ≤ 950) (b2 : 0 ≤ s2 ∧ s2 ≤ 12) (b3 : 0 ≤ s3 ∧ s3 ≤ 20) (b4 : 0 ≤ s4 ∧ s4 ≤ 4) (b5 : 0 ≤ s5 ∧ s5 ≤ 39) (b6 : 0 ≤ s6 ∧ s6 ≤ 99) (m0 : HP 60 (4096 * s0 + s1) (s2 + 32 * s3 + 1024 * s4) M) (f0 : 0 ≤ ((-1) * s3 + s5)) (hG : gI M) : (HP 60 (4096 * s0 + s1) (s2 + 32 * s3 + 1024 * s4) (st M 79 (s5).toNat (s6)) ∧ True) := by
  have ht : tm (st M 79 (20 * 0 + ((s5 - 0).toNat)) (s6)) = tm M := tm_st (by decide) (by decide)
  rw [show (s5).toNat = 20 * 0 + ((s5 - 0).toNat) by omega]
  refine ⟨Eq.mpr hp_60 ?_, trivial⟩
  rw [ht]
  exact RA_m (fun _ _ _ _ _ h => agR_w79 h) (l_rrp (c := 10) (w := s2) (r := s3) (g := s4) (Eq.mp hp_60 m0) (by omega) ⟨⟨by omega, by omega⟩, ⟨by omega, by omega⟩, by omega, by omega⟩ (by omega) (by decide))

-- rrp80_0
theorem cr_534 (M : pM) (s0 s1 s2 s3 s4 s5 s6 : Int) (b0 : 0 ≤ s0 ∧ s0 ≤ 1900) (b1 : 0 ≤ s1 ∧ s1 ≤ 950) (b2 : 0 ≤ s2 ∧ s2 ≤ 12) (b3 : 0 ≤ s3 ∧ s3 ≤ 20) (b4 : 0 ≤ s4 ∧ s4 ≤ 4) (b5 : 0 ≤ s5 ∧ s5 ≤ 39) (b6 : 0 ≤ s6 ∧ s6 ≤ 99) (m0 : HP 60 (4096 * s0 + s1) (s2 + 32 * s3 + 1024 * s4) M) (f0 : 0 ≤ ((-1) * s3 + s5)) (hG : gI M) : (HP 60 (4096 * s0 + s1) (s2 + 32 * s3 + 1024 * s4) (st M 80 (s5).toNat (s6)) ∧ True) := by
  have ht : tm (st M 80 (20 * 0 + ((s5 - 0).toNat)) (s6)) = tm M := tm_st (by decide) (by decide)
  rw [show (s5).toNat = 20 * 0 + ((s5 - 0).toNat) by omega]
  refine ⟨Eq.mpr hp_60 ?_, trivial⟩
  rw [ht]
  exact RA_m (fun _ _ _ _ _ h => agR_w80 h) (l_rrp (c := 11) (w := s2) (r := s3) (g := s4) (Eq.mp hp_60 m0) (by omega) ⟨⟨by omega, by omega⟩, ⟨by omega, by omega⟩, by omega, by omega⟩ (by omega) (by decide))

-- rae_0
theorem cr_535 (M : pM) (s0 s1 s2 s3 s4 s5 s6 s7 s8 s9 s10 : Int) (b0 : 0 ≤ s0 ∧ s0 ≤ 1900) (b1 : 0 ≤ s1 ∧ s1 ≤ 950) (b2 : 0 ≤ s2 ∧ s2 ≤ 1900) (b3 : 0 ≤ s3 ∧ s3 ≤ 12) (b4 : 0 ≤ s4 ∧ s4 ≤ 20) (b5 : 0 ≤ s5 ∧ s5 ≤ 4) (b6 : 0 ≤ s6 ∧ s6 ≤ 7) (b7 : 0 ≤ s7 ∧ s7 ≤ 7) (b8 : 0 ≤ s8 ∧ s8 ≤ 40) (b9 : 0 ≤ s9 ∧ s9 ≤ 36) (b10 : 1 ≤ s10 ∧ s10 ≤ 36) (m0 : HP 60 (4096 * s0 + s1) (s3 + 32 * s4 + 1024 * s5) M) (m1 : HP 53 (4096 * s0 + s1) (256 * s2 + 73) M) (m2 : HP 79 (16 * s0 + 1) (s6) M) (m3 : HP 79 (16 * s0 + 2) (s7) M) (m4 : HP 79 (16 * s0 + 4) (s8) M) (m5 : HP 79 (16 * s0 + 6) (s9) M) (m6 : HP 79 (16 * s0 + 8) (s10) M) (m7 : (0 ≤ (s3) ∧ M 74 (s3).toNat = (s6 + 8 * s7))) (m8 : (0 ≤ (s3) ∧ M 75 (s3).toNat = (s8))) (m9 : (0 ≤ (s3) ∧ M 76 (s3).toNat = (s9))) (m10 : (0 ≤ (s3) ∧ M 77 (s3).toNat = (s10))) (f0 : 0 ≤ ((-1) * s3 + 11)) (hG : gI M) : (HP 62 (4096 * s0 + s1) (s3 + 32 * s4 + 1024 * s5 + 1) M ∧ True) := by
  have hj : (0 + s3).toNat = 12 * 0 + s3.toNat := by omega
  have r0 : M 74 (12 * 0 + s3.toNat) = (s6 + 8 * s7) := by rw [← show (s3).toNat = 12 * 0 + s3.toNat by omega]; exact m7.2
  have r1 : M 75 (12 * 0 + s3.toNat) = (s8) := by rw [← show (s3).toNat = 12 * 0 + s3.toNat by omega]; exact m8.2
  have r2 : M 76 (12 * 0 + s3.toNat) = (s9) := by rw [← show (s3).toNat = 12 * 0 + s3.toNat by omega]; exact m9.2
  have r3 : M 77 (12 * 0 + s3.toNat) = (s10) := by rw [← show (s3).toNat = 12 * 0 + s3.toNat by omega]; exact m10.2
  exact ⟨Eq.mpr hp_62 (l_rae (w := s3) (r := s4) (g := s5) (P := s0) (l := s1) (Eq.mp hp_60 m0) (by omega) ⟨⟨by omega, by omega⟩, ⟨by omega, by omega⟩, by omega, by omega⟩ (ex_o (K := 4) (j := 8) (a := s2) (Eq.mp hp_53 m1) ⟨by omega, by omega, by decide, by decide⟩) ⟨by omega, by omega, by omega⟩ (q79 (P := s0) (i := 1) m2 ⟨by omega, by decide⟩ (by omega)) (q79 (P := s0) (i := 2) m3 ⟨by omega, by decide⟩ (by omega)) (q79 (P := s0) (i := 4) m4 ⟨by omega, by decide⟩ (by omega)) (q79 (P := s0) (i := 6) m5 ⟨by omega, by decide⟩ (by omega)) (q79 (P := s0) (i := 8) m6 ⟨by omega, by decide⟩ (by omega)) r0 r1 r2 r3 (by omega) (by omega)), trivial⟩

-- rre_0
theorem cr_536 (M : pM) (s0 s1 s2 s3 s4 s5 s6 s7 s8 s9 s10 : Int) (b0 : 0 ≤ s0 ∧ s0 ≤ 1900) (b1 : 0 ≤ s1 ∧ s1 ≤ 950) (b2 : 0 ≤ s2 ∧ s2 ≤ 1900) (b3 : 0 ≤ s3 ∧ s3 ≤ 12) (b4 : 0 ≤ s4 ∧ s4 ≤ 20) (b5 : 0 ≤ s5 ∧ s5 ≤ 4) (b6 : 0 ≤ s6 ∧ s6 ≤ 7) (b7 : 0 ≤ s7 ∧ s7 ≤ 7) (b8 : 0 ≤ s8 ∧ s8 ≤ 7) (b9 : 0 ≤ s9 ∧ s9 ≤ 7) (b10 : 1 ≤ s10 ∧ s10 ≤ 99) (m0 : HP 60 (4096 * s0 + s1) (s3 + 32 * s4 + 1024 * s5) M) (m1 : HP 53 (4096 * s0 + s1) (256 * s2 + 150) M) (m2 : HP 79 (16 * s0 + 1) (s6) M) (m3 : HP 79 (16 * s0 + 2) (s7) M) (m4 : HP 79 (16 * s0 + 3) (s8) M) (m5 : HP 79 (16 * s0 + 4) (s9) M) (m6 : HP 79 (16 * s0 + 5) (s10) M) (m7 : (0 ≤ (s4) ∧ M 78 (s4).toNat = (s6 + 8 * s7))) (m8 : (0 ≤ (s4) ∧ M 79 (s4).toNat = (s8 + 8 * s9))) (m9 : (0 ≤ (s4) ∧ M 80 (s4).toNat = (s10))) (f0 : 0 ≤ ((-1) * s4 + 19)) (hG : gI M) : (HP 62 (4096 * s0 + s1) (s3 + 32 * s4 + 1024 * s5 + 32) M ∧ True) := by
  have hj : (0 + s4).toNat = 20 * 0 + s4.toNat := by omega
  have r0 : M 78 (20 * 0 + s4.toNat) = (s6 + 8 * s7) := by rw [← show (s4).toNat = 20 * 0 + s4.toNat by omega]; exact m7.2
  have r1 : M 79 (20 * 0 + s4.toNat) = (s8 + 8 * s9) := by rw [← show (s4).toNat = 20 * 0 + s4.toNat by omega]; exact m8.2
  have r2 : M 80 (20 * 0 + s4.toNat) = (s10) := by rw [← show (s4).toNat = 20 * 0 + s4.toNat by omega]; exact m9.2
  exact ⟨Eq.mpr hp_62 (l_rre (w := s3) (r := s4) (g := s5) (P := s0) (l := s1) (Eq.mp hp_60 m0) (by omega) ⟨⟨by omega, by omega⟩, ⟨by omega, by omega⟩, by omega, by omega⟩ (ex_o (K := 9) (j := 5) (a := s2) (Eq.mp hp_53 m1) ⟨by omega, by omega, by decide, by decide⟩) ⟨by omega, by omega, by omega⟩ (q79 (P := s0) (i := 1) m2 ⟨by omega, by decide⟩ (by omega)) (q79 (P := s0) (i := 2) m3 ⟨by omega, by decide⟩ (by omega)) (q79 (P := s0) (i := 3) m4 ⟨by omega, by decide⟩ (by omega)) (q79 (P := s0) (i := 4) m5 ⟨by omega, by decide⟩ (by omega)) (q79 (P := s0) (i := 5) m6 ⟨by omega, by decide⟩ (by omega)) r0 r1 r2 (by omega) (by omega)), trivial⟩

-- rfw_0
theorem cr_537 (M : pM) (s0 s1 s2 s3 s4 s5 s6 s7 : Int) (b0 : 0 ≤ s0 ∧ s0 ≤ 1900) (b1 : 0 ≤ s1 ∧ s1 ≤ 950) (b2 : 0 ≤ s2 ∧ s2 ≤ 1900) (b3 : 0 ≤ s3 ∧ s3 ≤ 12) (b4 : 0 ≤ s4 ∧ s4 ≤ 20) (b5 : 0 ≤ s5 ∧ s5 ≤ 4) (b6 : 0 ≤ s6 ∧ s6 ≤ 7) (b7 : 0 ≤ s7 ∧ s7 ≤ 7) (m0 : HP 60 (4096 * s0 + s1) (s3 + 32 * s4 + 1024 * s5) M) (m1 : HP 53 (4096 * s0 + s1) (256 * s2 + 131) M) (m2 : HP 79 (16 * s0 + 1) (s6) M) (m3 : HP 79 (16 * s0 + 2) (s7) M) (hG : gI M) : (HP 62 (4096 * s0 + s1) (s3 + 32 * s4 + 1024 * s5) (st M 86 (s6 + 8 * s7).toNat (1 : Int)) ∧ True) := by
  have ht : tm (st M 86 (64 * 0 + ((s6 + 8 * s7).toNat)) (1 : Int)) = tm M := tm_st (by decide) (by decide)
  rw [show (s6 + 8 * s7).toNat = 64 * 0 + ((s6 + 8 * s7).toNat) by omega]
  refine ⟨Eq.mpr hp_62 ?_, trivial⟩
  rw [ht]
  exact RW_m (fun _ _ _ _ _ h => agR_w86 h) (l_rfw (P := s0) (l := s1) (Eq.mp hp_60 m0) (ex_o (K := 8) (j := 2) (a := s2) (Eq.mp hp_53 m1) ⟨by omega, by omega, by decide, by decide⟩) ⟨by omega, by omega, by omega⟩ (q79 (P := s0) (i := 1) m2 ⟨by omega, by decide⟩ (by omega)) (q79 (P := s0) (i := 2) m3 ⟨by omega, by decide⟩ (by omega)) (by omega))

-- on0_0
theorem cr_538 (M : pM) (s0 : Int) (b0 : 0 ≤ s0 ∧ s0 ≤ 9223372036854775807) (hG : gI M) : (HP 153 (0 : Int) (s0) M ∧ True) := by
  exact ⟨Eq.mpr hp_153 (fun i h1 h2 => by omega), trivial⟩

-- onn0_0
theorem cr_539 (M : pM) (s0 s1 s2 : Int) (b0 : 0 ≤ s0 ∧ s0 ≤ 9223372036854775807) (b1 : 0 ≤ s1 ∧ s1 ≤ 3) (m0 : HP 153 (s1) (s0) M) (m1 : (0 ≤ (s1) ∧ M 83 (s1).toNat = (s2))) (f0 : 0 ≤ (s0 + (-1) * s2 - 1)) (hG : gI M) : (HP 153 (s1 + 1) (s0) M ∧ True) := by
  exact ⟨Eq.mpr hp_153 (fun i h1 h2 => if e : 0 + i = s1.toNat then (by rw [e, m1.2]; omega) else Eq.mp hp_153 m0 i h1 (by omega)), trivial⟩

-- onn1_0
theorem cr_540 (M : pM) (s0 s1 s2 : Int) (b0 : 0 ≤ s0 ∧ s0 ≤ 9223372036854775807) (b1 : 0 ≤ s1 ∧ s1 ≤ 3) (m0 : HP 153 (s1) (s0) M) (m1 : (0 ≤ (s1) ∧ M 83 (s1).toNat = (s2))) (f0 : 0 ≤ ((-1) * s0 + s2 - 1)) (hG : gI M) : (HP 153 (s1 + 1) (s0) M ∧ True) := by
  exact ⟨Eq.mpr hp_153 (fun i h1 h2 => if e : 0 + i = s1.toNat then (by rw [e, m1.2]; omega) else Eq.mp hp_153 m0 i h1 (by omega)), trivial⟩

-- rt10_0
theorem cr_541 (M : pM) (s0 s1 s2 s3 s4 s5 s6 s7 s8 s9 s10 : Int) (b0 : 0 ≤ s0 ∧ s0 ≤ 1900) (b1 : 0 ≤ s1 ∧ s1 ≤ 950) (b2 : 0 ≤ s2 ∧ s2 ≤ 1900) (b3 : 0 ≤ s3 ∧ s3 ≤ 1900) (b4 : 0 ≤ s4 ∧ s4 ≤ 1900) (b5 : 0 ≤ s5 ∧ s5 ≤ 9223372036854775807) (b6 : 0 ≤ s6 ∧ s6 ≤ 12) (b7 : 0 ≤ s7 ∧ s7 ≤ 20) (b8 : 0 ≤ s8 ∧ s8 ≤ 4) (b9 : 0 ≤ s9 ∧ s9 ≤ 3) (m0 : HP 53 (4096 * s0 + s1) (256 * s2 + 161) M) (m1 : HP 47 (s2) (262143 : Int) M) (m2 : HP 45 (s2) (s3) M) (m3 : HP 46 (s2) (s4) M) (m4 : HP 143 (2048 * s3 + s4) (s5) M) (m5 : HP 60 (4096 * s0 + s1) (s6 + 32 * s7 + 1024 * s8) M) (m6 : (0 ≤ (s9) ∧ M 83 (s9).toNat = (s10))) (f0 : 0 ≤ (s8 + (-1) * s9 - 1)) (f1 : 0 ≤ (s5 + (-1) * s10)) (f2 : 0 ≤ ((-1) * s5 + s10)) (hG : gI M) : (HP 66 (s3) (3 : Int) M ∧ True) := by
  have hby := hby_tm hG
  obtain ⟨S, hS, hw, ha⟩ := Eq.mp hp_60 m5
  obtain ⟨c1, c2, c3⟩ := qW_o (w := s6) (r := s7) (g := s8) hw (by omega) (by omega) (by omega) (by omega)
  obtain ⟨S2, hS2, hE2⟩ := ex_o (K := 10) (j := 0) (a := s2) (Eq.mp hp_53 m0) ⟨by omega, by omega, by decide, by decide⟩
  have e2 := qat_u hS hS2
  subst e2
  have ha2 : s2 = (qps (tm M) S2.1 1 : Int) := hE2.2.2.2.2
  have hz := (q47 m1).2
  rw [show s2.toNat = qps (tm M) S2.1 1 by omega] at hz
  have g1 := (q45 m2).2
  have g2 := (q46 m3).2
  rw [show s2.toNat = qps (tm M) S2.1 1 by omega] at g1 g2
  obtain ⟨p1, p2, p3⟩ := pk_o (s := s3.toNat) (e := s4.toNat) (Eq.mp hp_143 m4) ⟨by omega, by omega, by omega⟩
  have hv : s5 = qpk 256 0 (tm M) (qps (tm M) S2.1 1) := by unfold qpk; rw [show tS (tm M) (qps (tm M) S2.1 1) = s3.toNat by omega, show tE (tm M) (qps (tm M) S2.1 1) = s4.toNat by omega]; exact p2
  have hnm := ha.2.2.2.2.2.2.2.2.2.1
  have hi : M 83 s9.toNat = s10 := m6.2
  have hn2 := hnm (s9 - 0).toNat (by omega) (by omega)
  have hn1 : M 83 (4 * 0 + (s9 - 0).toNat) = _ := hn2.1
  rw [show 4 * 0 + (s9 - 0).toNat = s9.toNat by omega] at hn1
  have hq : qtn (tm M) S2.1 S2.2 = true := qtn_i (i := (s9 - 0).toNat) (by omega) (by omega) (nm_eq (m := 256) (a := 0) (hi := 122) (by decide) (by decide) hby (fun c _ _ => by omega) hn2.2 (by omega) (by rw [← hn1, ← hv]; omega))
  refine ⟨r_fl (K := 10) (j := 0) m0 m1 m2 ⟨by omega, by omega, by decide⟩ (fun s hs hE e => ?_), trivial⟩
  have e3 := qat_u hS hs
  subst e3
  show (if tK (tm M) (qps (tm M) s.1 1) ≤ 255 then some 1 else if tK (tm M) (qps (tm M) s.1 1) = 262143 then (if qtn (tm M) s.1 s.2 = true then some 3 else none) else some 2) = some 3
  rw [e, if_neg (by decide), if_pos rfl, if_pos hq]

-- rx161_0
theorem cr_542 (M : pM) (s0 s1 s2 s3 s4 s5 s6 s7 s8 s9 : Int) (b0 : 0 ≤ s0 ∧ s0 ≤ 1900) (b1 : 0 ≤ s1 ∧ s1 ≤ 950) (b2 : 0 ≤ s2 ∧ s2 ≤ 1900) (b3 : 0 ≤ s3 ∧ s3 ≤ 1900) (b4 : 0 ≤ s4 ∧ s4 ≤ 1900) (b5 : 0 ≤ s5 ∧ s5 ≤ 9223372036854775807) (b6 : 0 ≤ s6 ∧ s6 ≤ 12) (b7 : 0 ≤ s7 ∧ s7 ≤ 20) (b8 : 0 ≤ s8 ∧ s8 ≤ 4) (b9 : 0 ≤ s9 ∧ s9 ≤ 4) (m0 : HP 53 (4096 * s0 + s1) (256 * s2 + 161) M) (m1 : HP 47 (s2) (262143 : Int) M) (m2 : HP 45 (s2) (s3) M) (m3 : HP 46 (s2) (s4) M) (m4 : HP 143 (2048 * s3 + s4) (s5) M) (m5 : HP 60 (4096 * s0 + s1) (s6 + 32 * s7 + 1024 * s8) M) (m6 : HP 153 (s9) (s5) M) (f0 : 0 ≤ (s8 + (-1) * s9)) (f1 : 0 ≤ ((-1) * s8 + s9)) (hG : gI M) : (HP 53 (4096 * s0 + s1) (256 * s4 + 162) M ∧ True) := by
  have hby := hby_tm hG
  obtain ⟨S, hS, hw, ha⟩ := Eq.mp hp_60 m5
  obtain ⟨c1, c2, c3⟩ := qW_o (w := s6) (r := s7) (g := s8) hw (by omega) (by omega) (by omega) (by omega)
  obtain ⟨S2, hS2, hE2⟩ := ex_o (K := 10) (j := 0) (a := s2) (Eq.mp hp_53 m0) ⟨by omega, by omega, by decide, by decide⟩
  have e2 := qat_u hS hS2
  subst e2
  have ha2 : s2 = (qps (tm M) S2.1 1 : Int) := hE2.2.2.2.2
  have hz := (q47 m1).2
  rw [show s2.toNat = qps (tm M) S2.1 1 by omega] at hz
  have g1 := (q45 m2).2
  have g2 := (q46 m3).2
  rw [show s2.toNat = qps (tm M) S2.1 1 by omega] at g1 g2
  obtain ⟨p1, p2, p3⟩ := pk_o (s := s3.toNat) (e := s4.toNat) (Eq.mp hp_143 m4) ⟨by omega, by omega, by omega⟩
  have hv : s5 = qpk 256 0 (tm M) (qps (tm M) S2.1 1) := by unfold qpk; rw [show tS (tm M) (qps (tm M) S2.1 1) = s3.toNat by omega, show tE (tm M) (qps (tm M) S2.1 1) = s4.toNat by omega]; exact p2
  have hnm := ha.2.2.2.2.2.2.2.2.2.1
  have hno : ∀ i : Nat, i < 4 → (i : Int) < S2.2 0 2 → qnm (tm M) (S2.2 13 i).toNat ≠ qnm (tm M) (qps (tm M) S2.1 1) := by
    intro i hi hg he
    have hn2 := hnm i hi hg
    have hn1 : M 83 (4 * 0 + i) = _ := hn2.1
    refine Eq.mp hp_153 m6 i hi (by omega) ?_
    rw [show (0 + i) = 4 * 0 + i by omega, hn1, hv]
    unfold qpk
    rw [pkd_l, pkd_l]
    exact congrArg (lpk 256 0) he
  have hx := r_ex (y' := 256 * s4 + 162) (K := 10) (j := 0) m0 m1 m3 ⟨by omega, by omega, by decide⟩ (by omega) (by decide) (fun s hs hE e => by
    have e3 := qat_u hS hs
    subst e3
    show (if tK (tm M) (qps (tm M) s.1 1) ≤ 255 then some 1 else if tK (tm M) (qps (tm M) s.1 1) = 262143 then (if qtn (tm M) s.1 s.2 = true then some 3 else none) else some 2) = none
    rw [e, if_neg (by decide), if_pos rfl, if_neg (qtn_n hno)])
  exact ⟨hx, trivial⟩

-- rnw_0
theorem cr_543 (M : pM) (s0 s1 s2 s3 s4 s5 : Int) (b0 : 0 ≤ s0 ∧ s0 ≤ 1900) (b1 : 0 ≤ s1 ∧ s1 ≤ 950) (b2 : 0 ≤ s2 ∧ s2 ≤ 12) (b3 : 0 ≤ s3 ∧ s3 ≤ 20) (b4 : 0 ≤ s4 ∧ s4 ≤ 3) (m0 : HP 60 (4096 * s0 + s1) (s2 + 32 * s3 + 1024 * s4) M) (hG : gI M) : (HP 60 (4096 * s0 + s1) (s2 + 32 * s3 + 1024 * s4) (st M 83 (s4).toNat (s5)) ∧ (0 ≤ (s4) ∧ (st M 83 (s4).toNat (s5)) 83 (s4).toNat = (s5)) ∧ True) := by
  have ht : tm (st M 83 (4 * 0 + (s4.toNat)) (s5)) = tm M := tm_st (by decide) (by decide)
  rw [show (s4).toNat = 4 * 0 + (s4.toNat) by omega]
  refine ⟨Eq.mpr hp_60 ?_, ⟨by omega, ?_⟩, trivial⟩
  · rw [ht]
    exact RA_m (fun _ _ _ _ _ h => agR_w83 h) (l_rnw (w := s2) (r := s3) (g := s4) (Eq.mp hp_60 m0) (by omega) ⟨⟨by omega, by omega⟩, ⟨by omega, by omega⟩, by omega, by omega⟩ (by omega))
  · rw [cw0, if_pos rfl]

-- rnv_0
theorem cr_544 (M : pM) (s0 s1 s2 s3 s4 s5 s6 s7 : Int) (b0 : 0 ≤ s0 ∧ s0 ≤ 1900) (b1 : 0 ≤ s1 ∧ s1 ≤ 1900) (b2 : 0 ≤ s2 ∧ s2 ≤ 1900) (b3 : 0 ≤ s3 ∧ s3 ≤ 1900) (b4 : 0 ≤ s4 ∧ s4 ≤ 9223372036854775807) (b5 : 0 ≤ s5 ∧ s5 ≤ 12) (b6 : 0 ≤ s6 ∧ s6 ≤ 20) (b7 : 0 ≤ s7 ∧ s7 ≤ 3) (m0 : HP 157 (16 * s0 + 1) (s1) M) (m1 : HP 47 (s1) (262143 : Int) M) (m2 : HP 45 (s1) (s2) M) (m3 : HP 46 (s1) (s3) M) (m4 : HP 143 (2048 * s2 + s3) (s4) M) (m5 : (0 ≤ (s7) ∧ M 83 (s7).toNat = (s4))) (hG : gI M) : (HP 155 (s0) (s7) M ∧ True) := by
  obtain ⟨p, i, t1, t2, t3⟩ := Eq.mp hp_157 m0
  have e1 : i = 1 := by omega
  have e2 : p = s0.toNat := by omega
  subst e1
  subst e2
  have g1 := (q45 m2).2
  have g2 := (q46 m3).2
  rw [show s1.toNat = qps (tm M) s0.toNat 1 by omega] at g1 g2
  obtain ⟨p1, p2, p3⟩ := pk_o (s := s2.toNat) (e := s3.toNat) (Eq.mp hp_143 m4) ⟨by omega, by omega, by omega⟩
  refine ⟨Eq.mpr hp_155 ⟨by omega, s7.toNat, by omega, by omega, ?_⟩, trivial⟩
  rw [show 0 + s7.toNat = (s7).toNat by omega, m5.2]
  unfold qpk
  rw [show tS (tm M) (qps (tm M) s0.toNat 1) = s2.toNat by omega, show tE (tm M) (qps (tm M) s0.toNat 1) = s3.toNat by omega]
  exact p2

-- rsw_0
theorem cr_545 (M : pM) (s0 s1 s2 s3 s4 s5 s6 : Int) (b0 : 0 ≤ s0 ∧ s0 ≤ 1900) (b1 : 0 ≤ s1 ∧ s1 ≤ 950) (b2 : 0 ≤ s2 ∧ s2 ≤ 12) (b3 : 0 ≤ s3 ∧ s3 ≤ 20) (b4 : 0 ≤ s4 ∧ s4 ≤ 3) (b5 : 0 ≤ s5 ∧ s5 ≤ 3) (b6 : 0 ≤ s6 ∧ s6 ≤ 30) (m0 : HP 60 (4096 * s0 + s1) (s2 + 32 * s3 + 1024 * s4) M) (m1 : HP 149 (4096 * s0 + s1) (s2 + 32 * s3 + 1024 * s4 + 8192 * s5) M) (m2 : HP 79 (16 * s0 + s5 + 3) (s6) M) (hG : gI M) : (HP 60 (4096 * s0 + s1) (s2 + 32 * s3 + 1024 * s4) (st M 81 (4 * s4 + s5).toNat (s6)) ∧ HP 149 (4096 * s0 + s1) (s2 + 32 * s3 + 1024 * s4 + 8192 * s5 + 8192) (st M 81 (4 * s4 + s5).toNat (s6)) ∧ True) := by
  have hv := q79 (P := s0) (i := 3 + s5.toNat) m2 ⟨by omega, by omega⟩ (by omega)
  have ht : tm (st M 81 (16 * 0 + (4 * s4.toNat + s5.toNat)) (s6)) = tm M := tm_st (by decide) (by decide)
  rw [show (4 * s4 + s5).toNat = 16 * 0 + (4 * s4.toNat + s5.toNat) by omega]
  refine ⟨Eq.mpr hp_60 ?_, Eq.mpr hp_149 ?_, trivial⟩
  · rw [ht]
    exact RA_m (fun _ _ _ _ _ h => agR_w81 h) (l_ras (w := s2) (r := s3) (g := s4) (Eq.mp hp_60 m0) (by omega) ⟨⟨by omega, by omega⟩, ⟨by omega, by omega⟩, by omega, by omega⟩ (by omega))
  · rw [ht]
    exact RS_m (R := qU (qRr 0 M) 12 (4 * s4.toNat + s5.toNat) (s6)) (R' := qRr 0 (st M 81 (16 * 0 + (4 * s4.toNat + s5.toNat)) (s6))) (fun i _ => cw) (fun i _ => rfl) (k := s5.toNat + 1) (w := s2) (r := s3) (g := s4) (l_rsw (y' := (s2 + 32 * s3 + 1024 * s4 + 8192 * s5 + 8192)) (k := s5.toNat) (w := s2) (r := s3) (g := s4) (P := s0) (l := s1) (Eq.mp hp_149 m1) (by omega) ⟨⟨by omega, by omega⟩, ⟨by omega, by omega⟩, by omega, by omega⟩ (by omega) ⟨by omega, by omega, by omega⟩ hv (by omega)) (by omega) ⟨⟨by omega, by omega⟩, ⟨by omega, by omega⟩, by omega, by omega⟩

-- rs0_0
theorem cr_546 (M : pM) (s0 s1 s2 s3 s4 : Int) (b0 : 0 ≤ s0 ∧ s0 ≤ 1900) (b1 : 0 ≤ s1 ∧ s1 ≤ 950) (b2 : 0 ≤ s2 ∧ s2 ≤ 12) (b3 : 0 ≤ s3 ∧ s3 ≤ 20) (b4 : 0 ≤ s4 ∧ s4 ≤ 4) (m0 : HP 60 (4096 * s0 + s1) (s2 + 32 * s3 + 1024 * s4) M) (hG : gI M) : (HP 149 (4096 * s0 + s1) (s2 + 32 * s3 + 1024 * s4) M ∧ True) := by
  exact ⟨Eq.mpr hp_149 (l_rs0 (Eq.mp hp_60 m0)), trivial⟩

-- rhw_0
theorem cr_547 (M : pM) (s0 s1 s2 s3 s4 s5 : Int) (b0 : 0 ≤ s0 ∧ s0 ≤ 1900) (b1 : 0 ≤ s1 ∧ s1 ≤ 950) (b2 : 0 ≤ s2 ∧ s2 ≤ 12) (b3 : 0 ≤ s3 ∧ s3 ≤ 20) (b4 : 0 ≤ s4 ∧ s4 ≤ 3) (b5 : 50 ≤ s5 ∧ s5 ≤ 200) (m0 : HP 60 (4096 * s0 + s1) (s2 + 32 * s3 + 1024 * s4) M) (m1 : HP 149 (4096 * s0 + s1) (s2 + 32 * s3 + 1024 * s4 + 32768) M) (m2 : HP 79 (16 * s0 + 8) (s5) M) (hG : gI M) : (HP 60 (4096 * s0 + s1) (s2 + 32 * s3 + 1024 * s4) (st M 82 (s4).toNat (s5)) ∧ HP 149 (4096 * s0 + s1) (s2 + 32 * s3 + 1024 * s4 + 40960) (st M 82 (s4).toNat (s5)) ∧ True) := by
  have hv := q79 (P := s0) (i := 8) m2 ⟨by omega, by omega⟩ (by omega)
  have ht : tm (st M 82 (4 * 0 + (s4.toNat)) (s5)) = tm M := tm_st (by decide) (by decide)
  rw [show (s4).toNat = 4 * 0 + (s4.toNat) by omega]
  refine ⟨Eq.mpr hp_60 ?_, Eq.mpr hp_149 ?_, trivial⟩
  · rw [ht]
    exact RA_m (fun _ _ _ _ _ h => agR_w82 h) (l_rah (w := s2) (r := s3) (g := s4) (Eq.mp hp_60 m0) (by omega) ⟨⟨by omega, by omega⟩, ⟨by omega, by omega⟩, by omega, by omega⟩ (by omega))
  · rw [ht]
    exact RS_m (R := qU (qRr 0 M) 13 (s4.toNat) (s5)) (R' := qRr 0 (st M 82 (4 * 0 + (s4.toNat)) (s5))) (fun i _ => rfl) (fun i _ => cw) (k := 5) (w := s2) (r := s3) (g := s4) (l_rhw (y' := (s2 + 32 * s3 + 1024 * s4 + 40960)) (w := s2) (r := s3) (g := s4) (P := s0) (l := s1) (Eq.mp hp_149 m1) (by omega) ⟨⟨by omega, by omega⟩, ⟨by omega, by omega⟩, by omega, by omega⟩ ⟨by omega, by omega, by omega⟩ hv (by omega)) (by omega) ⟨⟨by omega, by omega⟩, ⟨by omega, by omega⟩, by omega, by omega⟩

-- rge_0
theorem cr_548 (M : pM) (s0 s1 s2 s3 s4 s5 : Int) (b0 : 0 ≤ s0 ∧ s0 ≤ 1900) (b1 : 0 ≤ s1 ∧ s1 ≤ 950) (b2 : 0 ≤ s2 ∧ s2 ≤ 1900) (b3 : 0 ≤ s3 ∧ s3 ≤ 12) (b4 : 0 ≤ s4 ∧ s4 ≤ 20) (b5 : 0 ≤ s5 ∧ s5 ≤ 3) (m0 : HP 60 (4096 * s0 + s1) (s3 + 32 * s4 + 1024 * s5) M) (m1 : HP 149 (4096 * s0 + s1) (s3 + 32 * s4 + 1024 * s5 + 40960) M) (m2 : HP 155 (s0) (s5) M) (m3 : HP 53 (4096 * s0 + s1) (256 * s2 + 169) M) (hG : gI M) : (HP 62 (4096 * s0 + s1) (s3 + 32 * s4 + 1024 * s5 + 1024) M ∧ True) := by
  obtain ⟨h0, gg, h1, h2, h3⟩ := Eq.mp hp_155 m2
  have hg : gg = s5.toNat := by omega
  subst hg
  exact ⟨Eq.mpr hp_62 (l_rge (v := 0) (w := s3) (r := s4) (g := s5) (P := s0) (l := s1) (Eq.mp hp_60 m0) (Eq.mp hp_149 m1) (by omega) (by omega) ⟨⟨by omega, by omega⟩, ⟨by omega, by omega⟩, by omega, by omega⟩ (ex_o (K := 10) (j := 8) (a := s2) (Eq.mp hp_53 m3) ⟨by omega, by omega, by decide, by decide⟩) ⟨by omega, by omega, by omega⟩ h3 (by omega)), trivial⟩

-- rexs4_0
theorem cr_549 (M : pM) (s0 s1 s2 s3 s4 s5 : Int) (b0 : 0 ≤ s0 ∧ s0 ≤ 1900) (b1 : 0 ≤ s1 ∧ s1 ≤ 950) (b2 : 0 ≤ s2 ∧ s2 ≤ 1900) (b3 : 0 ≤ s3 ∧ s3 ≤ 12) (b4 : 0 ≤ s4 ∧ s4 ≤ 20) (b5 : 0 ≤ s5 ∧ s5 ≤ 4) (m0 : HP 60 (4096 * s0 + s1) (s3 + 32 * s4 + 1024 * s5) M) (m1 : HP 47 (s0) (262148 : Int) M) (m2 : HP 46 (s0) (s2) M) (f0 : 0 ≤ ((-1) * s3 + 11)) (hG : gI M) : (HP 53 (4096 * s0 + s1) (256 * s2 + 65) M ∧ True) := by
  obtain ⟨s, h1, hw, ha⟩ := Eq.mp hp_60 m0
  obtain ⟨c1, c2, c3⟩ := qW_o (w := s3) (r := s4) (g := s5) hw (by omega) (by omega) (by omega) (by omega)
  exact ⟨Eq.mpr hp_53 (r_exs (P := s0) (l := s1) (K := 4) h1 ⟨by omega, by omega, by omega⟩ (by have := (q47 m1).2; omega) (q46 m2).2 (by decide) (by unfold qfu; exact decide_eq_false (by omega)) (by omega)), trivial⟩

-- rful4_0
theorem cr_550 (M : pM) (s0 s1 s2 s3 s4 s5 : Int) (b0 : 0 ≤ s0 ∧ s0 ≤ 1900) (b1 : 0 ≤ s1 ∧ s1 ≤ 950) (b2 : 0 ≤ s2 ∧ s2 ≤ 1900) (b3 : 0 ≤ s3 ∧ s3 ≤ 12) (b4 : 0 ≤ s4 ∧ s4 ≤ 20) (b5 : 0 ≤ s5 ∧ s5 ≤ 4) (m0 : HP 60 (4096 * s0 + s1) (s3 + 32 * s4 + 1024 * s5) M) (m1 : HP 47 (s0) (262148 : Int) M) (m2 : HP 45 (s0) (s2) M) (f0 : 0 ≤ (s3 - 12)) (hG : gI M) : (HP 66 (s2) (2 : Int) M ∧ True) := by
  obtain ⟨s, h1, hw, ha⟩ := Eq.mp hp_60 m0
  obtain ⟨c1, c2, c3⟩ := qW_o (w := s3) (r := s4) (g := s5) hw (by omega) (by omega) (by omega) (by omega)
  exact ⟨Eq.mpr hp_66 (r_ful (P := s0) (l := s1) (K := 4) h1 ⟨by omega, by omega, by omega⟩ (by have := (q47 m1).2; omega) (q45 m2).2 (by decide) (by unfold qfu; exact decide_eq_true (by omega))), trivial⟩

-- rexs9_0
theorem cr_551 (M : pM) (s0 s1 s2 s3 s4 s5 : Int) (b0 : 0 ≤ s0 ∧ s0 ≤ 1900) (b1 : 0 ≤ s1 ∧ s1 ≤ 950) (b2 : 0 ≤ s2 ∧ s2 ≤ 1900) (b3 : 0 ≤ s3 ∧ s3 ≤ 12) (b4 : 0 ≤ s4 ∧ s4 ≤ 20) (b5 : 0 ≤ s5 ∧ s5 ≤ 4) (m0 : HP 60 (4096 * s0 + s1) (s3 + 32 * s4 + 1024 * s5) M) (m1 : HP 47 (s0) (262153 : Int) M) (m2 : HP 46 (s0) (s2) M) (f0 : 0 ≤ ((-1) * s4 + 19)) (hG : gI M) : (HP 53 (4096 * s0 + s1) (256 * s2 + 145) M ∧ True) := by
  obtain ⟨s, h1, hw, ha⟩ := Eq.mp hp_60 m0
  obtain ⟨c1, c2, c3⟩ := qW_o (w := s3) (r := s4) (g := s5) hw (by omega) (by omega) (by omega) (by omega)
  exact ⟨Eq.mpr hp_53 (r_exs (P := s0) (l := s1) (K := 9) h1 ⟨by omega, by omega, by omega⟩ (by have := (q47 m1).2; omega) (q46 m2).2 (by decide) (by unfold qfu; exact decide_eq_false (by omega)) (by omega)), trivial⟩

-- rful9_0
theorem cr_552 (M : pM) (s0 s1 s2 s3 s4 s5 : Int) (b0 : 0 ≤ s0 ∧ s0 ≤ 1900) (b1 : 0 ≤ s1 ∧ s1 ≤ 950) (b2 : 0 ≤ s2 ∧ s2 ≤ 1900) (b3 : 0 ≤ s3 ∧ s3 ≤ 12) (b4 : 0 ≤ s4 ∧ s4 ≤ 20) (b5 : 0 ≤ s5 ∧ s5 ≤ 4) (m0 : HP 60 (4096 * s0 + s1) (s3 + 32 * s4 + 1024 * s5) M) (m1 : HP 47 (s0) (262153 : Int) M) (m2 : HP 45 (s0) (s2) M) (f0 : 0 ≤ (s4 - 20)) (hG : gI M) : (HP 66 (s2) (2 : Int) M ∧ True) := by
  obtain ⟨s, h1, hw, ha⟩ := Eq.mp hp_60 m0
  obtain ⟨c1, c2, c3⟩ := qW_o (w := s3) (r := s4) (g := s5) hw (by omega) (by omega) (by omega) (by omega)
  exact ⟨Eq.mpr hp_66 (r_ful (P := s0) (l := s1) (K := 9) h1 ⟨by omega, by omega, by omega⟩ (by have := (q47 m1).2; omega) (q45 m2).2 (by decide) (by unfold qfu; exact decide_eq_true (by omega))), trivial⟩

-- rexs10_0
theorem cr_553 (M : pM) (s0 s1 s2 s3 s4 s5 : Int) (b0 : 0 ≤ s0 ∧ s0 ≤ 1900) (b1 : 0 ≤ s1 ∧ s1 ≤ 950) (b2 : 0 ≤ s2 ∧ s2 ≤ 1900) (b3 : 0 ≤ s3 ∧ s3 ≤ 12) (b4 : 0 ≤ s4 ∧ s4 ≤ 20) (b5 : 0 ≤ s5 ∧ s5 ≤ 4) (m0 : HP 60 (4096 * s0 + s1) (s3 + 32 * s4 + 1024 * s5) M) (m1 : HP 47 (s0) (262154 : Int) M) (m2 : HP 46 (s0) (s2) M) (f0 : 0 ≤ ((-1) * s5 + 3)) (hG : gI M) : (HP 53 (4096 * s0 + s1) (256 * s2 + 161) M ∧ True) := by
  obtain ⟨s, h1, hw, ha⟩ := Eq.mp hp_60 m0
  obtain ⟨c1, c2, c3⟩ := qW_o (w := s3) (r := s4) (g := s5) hw (by omega) (by omega) (by omega) (by omega)
  exact ⟨Eq.mpr hp_53 (r_exs (P := s0) (l := s1) (K := 10) h1 ⟨by omega, by omega, by omega⟩ (by have := (q47 m1).2; omega) (q46 m2).2 (by decide) (by unfold qfu; exact decide_eq_false (by omega)) (by omega)), trivial⟩

-- rful10_0
theorem cr_554 (M : pM) (s0 s1 s2 s3 s4 s5 : Int) (b0 : 0 ≤ s0 ∧ s0 ≤ 1900) (b1 : 0 ≤ s1 ∧ s1 ≤ 950) (b2 : 0 ≤ s2 ∧ s2 ≤ 1900) (b3 : 0 ≤ s3 ∧ s3 ≤ 12) (b4 : 0 ≤ s4 ∧ s4 ≤ 20) (b5 : 0 ≤ s5 ∧ s5 ≤ 4) (m0 : HP 60 (4096 * s0 + s1) (s3 + 32 * s4 + 1024 * s5) M) (m1 : HP 47 (s0) (262154 : Int) M) (m2 : HP 45 (s0) (s2) M) (f0 : 0 ≤ (s5 - 4)) (hG : gI M) : (HP 66 (s2) (2 : Int) M ∧ True) := by
  obtain ⟨s, h1, hw, ha⟩ := Eq.mp hp_60 m0
  obtain ⟨c1, c2, c3⟩ := qW_o (w := s3) (r := s4) (g := s5) hw (by omega) (by omega) (by omega) (by omega)
  exact ⟨Eq.mpr hp_66 (r_ful (P := s0) (l := s1) (K := 10) h1 ⟨by omega, by omega, by omega⟩ (by have := (q47 m1).2; omega) (q45 m2).2 (by decide) (by unfold qfu; exact decide_eq_true (by omega))), trivial⟩

-- rexs0_0
theorem cr_555 (M : pM) (s0 s1 s2 s3 s4 s5 : Int) (b0 : 0 ≤ s0 ∧ s0 ≤ 1900) (b1 : 0 ≤ s1 ∧ s1 ≤ 950) (b2 : 0 ≤ s2 ∧ s2 ≤ 1900) (b3 : 0 ≤ s3 ∧ s3 ≤ 12) (b4 : 0 ≤ s4 ∧ s4 ≤ 20) (b5 : 0 ≤ s5 ∧ s5 ≤ 4) (m0 : HP 60 (4096 * s0 + s1) (s3 + 32 * s4 + 1024 * s5) M) (m1 : HP 47 (s0) (262144 : Int) M) (m2 : HP 46 (s0) (s2) M) (hG : gI M) : (HP 53 (4096 * s0 + s1) (256 * s2 + 1) M ∧ True) := by
  obtain ⟨s, h1, hw, ha⟩ := Eq.mp hp_60 m0
  obtain ⟨c1, c2, c3⟩ := qW_o (w := s3) (r := s4) (g := s5) hw (by omega) (by omega) (by omega) (by omega)
  exact ⟨Eq.mpr hp_53 (r_exs (P := s0) (l := s1) (K := 0) h1 ⟨by omega, by omega, by omega⟩ (by have := (q47 m1).2; omega) (q46 m2).2 (by decide) (by unfold qfu; exact decide_eq_false (by omega)) (by omega)), trivial⟩

-- rexs1_0
theorem cr_556 (M : pM) (s0 s1 s2 s3 s4 s5 : Int) (b0 : 0 ≤ s0 ∧ s0 ≤ 1900) (b1 : 0 ≤ s1 ∧ s1 ≤ 950) (b2 : 0 ≤ s2 ∧ s2 ≤ 1900) (b3 : 0 ≤ s3 ∧ s3 ≤ 12) (b4 : 0 ≤ s4 ∧ s4 ≤ 20) (b5 : 0 ≤ s5 ∧ s5 ≤ 4) (m0 : HP 60 (4096 * s0 + s1) (s3 + 32 * s4 + 1024 * s5) M) (m1 : HP 47 (s0) (262145 : Int) M) (m2 : HP 46 (s0) (s2) M) (hG : gI M) : (HP 53 (4096 * s0 + s1) (256 * s2 + 17) M ∧ True) := by
  obtain ⟨s, h1, hw, ha⟩ := Eq.mp hp_60 m0
  obtain ⟨c1, c2, c3⟩ := qW_o (w := s3) (r := s4) (g := s5) hw (by omega) (by omega) (by omega) (by omega)
  exact ⟨Eq.mpr hp_53 (r_exs (P := s0) (l := s1) (K := 1) h1 ⟨by omega, by omega, by omega⟩ (by have := (q47 m1).2; omega) (q46 m2).2 (by decide) (by unfold qfu; exact decide_eq_false (by omega)) (by omega)), trivial⟩

-- rexs2_0
theorem cr_557 (M : pM) (s0 s1 s2 s3 s4 s5 : Int) (b0 : 0 ≤ s0 ∧ s0 ≤ 1900) (b1 : 0 ≤ s1 ∧ s1 ≤ 950) (b2 : 0 ≤ s2 ∧ s2 ≤ 1900) (b3 : 0 ≤ s3 ∧ s3 ≤ 12) (b4 : 0 ≤ s4 ∧ s4 ≤ 20) (b5 : 0 ≤ s5 ∧ s5 ≤ 4) (m0 : HP 60 (4096 * s0 + s1) (s3 + 32 * s4 + 1024 * s5) M) (m1 : HP 47 (s0) (262146 : Int) M) (m2 : HP 46 (s0) (s2) M) (hG : gI M) : (HP 53 (4096 * s0 + s1) (256 * s2 + 33) M ∧ True) := by
  obtain ⟨s, h1, hw, ha⟩ := Eq.mp hp_60 m0
  obtain ⟨c1, c2, c3⟩ := qW_o (w := s3) (r := s4) (g := s5) hw (by omega) (by omega) (by omega) (by omega)
  exact ⟨Eq.mpr hp_53 (r_exs (P := s0) (l := s1) (K := 2) h1 ⟨by omega, by omega, by omega⟩ (by have := (q47 m1).2; omega) (q46 m2).2 (by decide) (by unfold qfu; exact decide_eq_false (by omega)) (by omega)), trivial⟩

-- rexs3_0
theorem cr_558 (M : pM) (s0 s1 s2 s3 s4 s5 : Int) (b0 : 0 ≤ s0 ∧ s0 ≤ 1900) (b1 : 0 ≤ s1 ∧ s1 ≤ 950) (b2 : 0 ≤ s2 ∧ s2 ≤ 1900) (b3 : 0 ≤ s3 ∧ s3 ≤ 12) (b4 : 0 ≤ s4 ∧ s4 ≤ 20) (b5 : 0 ≤ s5 ∧ s5 ≤ 4) (m0 : HP 60 (4096 * s0 + s1) (s3 + 32 * s4 + 1024 * s5) M) (m1 : HP 47 (s0) (262147 : Int) M) (m2 : HP 46 (s0) (s2) M) (hG : gI M) : (HP 53 (4096 * s0 + s1) (256 * s2 + 49) M ∧ True) := by
  obtain ⟨s, h1, hw, ha⟩ := Eq.mp hp_60 m0
  obtain ⟨c1, c2, c3⟩ := qW_o (w := s3) (r := s4) (g := s5) hw (by omega) (by omega) (by omega) (by omega)
  exact ⟨Eq.mpr hp_53 (r_exs (P := s0) (l := s1) (K := 3) h1 ⟨by omega, by omega, by omega⟩ (by have := (q47 m1).2; omega) (q46 m2).2 (by decide) (by unfold qfu; exact decide_eq_false (by omega)) (by omega)), trivial⟩

-- rexs8_0
theorem cr_559 (M : pM) (s0 s1 s2 s3 s4 s5 : Int) (b0 : 0 ≤ s0 ∧ s0 ≤ 1900) (b1 : 0 ≤ s1 ∧ s1 ≤ 950) (b2 : 0 ≤ s2 ∧ s2 ≤ 1900) (b3 : 0 ≤ s3 ∧ s3 ≤ 12) (b4 : 0 ≤ s4 ∧ s4 ≤ 20) (b5 : 0 ≤ s5 ∧ s5 ≤ 4) (m0 : HP 60 (4096 * s0 + s1) (s3 + 32 * s4 + 1024 * s5) M) (m1 : HP 47 (s0) (262152 : Int) M) (m2 : HP 46 (s0) (s2) M) (hG : gI M) : (HP 53 (4096 * s0 + s1) (256 * s2 + 129) M ∧ True) := by
  obtain ⟨s, h1, hw, ha⟩ := Eq.mp hp_60 m0
  obtain ⟨c1, c2, c3⟩ := qW_o (w := s3) (r := s4) (g := s5) hw (by omega) (by omega) (by omega) (by omega)
  exact ⟨Eq.mpr hp_53 (r_exs (P := s0) (l := s1) (K := 8) h1 ⟨by omega, by omega, by omega⟩ (by have := (q47 m1).2; omega) (q46 m2).2 (by decide) (by unfold qfu; exact decide_eq_false (by omega)) (by omega)), trivial⟩

-- rftk0_0
theorem cr_560 (M : pM) (s0 s1 s2 s3 s4 s5 s6 : Int) (b0 : 0 ≤ s0 ∧ s0 ≤ 1900) (b1 : 0 ≤ s1 ∧ s1 ≤ 950) (b2 : 0 ≤ s2 ∧ s2 ≤ 1900) (b3 : 0 ≤ s3 ∧ s3 ≤ 12) (b4 : 0 ≤ s4 ∧ s4 ≤ 20) (b5 : 0 ≤ s5 ∧ s5 ≤ 4) (b6 : (-1) ≤ s6 ∧ s6 ≤ 600000) (m0 : HP 60 (4096 * s0 + s1) (s3 + 32 * s4 + 1024 * s5) M) (m1 : HP 47 (s0) (s6) M) (m2 : HP 45 (s0) (s2) M) (f0 : 0 ≤ ((-1) * s6 + 255)) (hG : gI M) : (HP 66 (s2) (1 : Int) M ∧ True) := by
  obtain ⟨s, h1, hw, ha⟩ := Eq.mp hp_60 m0
  obtain ⟨c1, c2, c3⟩ := qW_o (w := s3) (r := s4) (g := s5) hw (by omega) (by omega) (by omega) (by omega)
  exact ⟨Eq.mpr hp_66 (r_ftk (P := s0) (l := s1) h1 ⟨by omega, by omega, by omega⟩ (q47 m1).2 (q45 m2).2 (by omega) (by rw [if_pos (by omega)])), trivial⟩

-- rftk1_0
theorem cr_561 (M : pM) (s0 s1 s2 s3 s4 s5 s6 : Int) (b0 : 0 ≤ s0 ∧ s0 ≤ 1900) (b1 : 0 ≤ s1 ∧ s1 ≤ 950) (b2 : 0 ≤ s2 ∧ s2 ≤ 1900) (b3 : 0 ≤ s3 ∧ s3 ≤ 12) (b4 : 0 ≤ s4 ∧ s4 ≤ 20) (b5 : 0 ≤ s5 ∧ s5 ≤ 4) (b6 : (-1) ≤ s6 ∧ s6 ≤ 600000) (m0 : HP 60 (4096 * s0 + s1) (s3 + 32 * s4 + 1024 * s5) M) (m1 : HP 47 (s0) (s6) M) (m2 : HP 45 (s0) (s2) M) (f0 : 0 ≤ (s6 - 262143)) (f1 : 0 ≤ ((-1) * s6 + 262143)) (hG : gI M) : (HP 66 (s2) (2 : Int) M ∧ True) := by
  obtain ⟨s, h1, hw, ha⟩ := Eq.mp hp_60 m0
  obtain ⟨c1, c2, c3⟩ := qW_o (w := s3) (r := s4) (g := s5) hw (by omega) (by omega) (by omega) (by omega)
  exact ⟨Eq.mpr hp_66 (r_ftk (P := s0) (l := s1) h1 ⟨by omega, by omega, by omega⟩ (q47 m1).2 (q45 m2).2 (by omega) (by rw [if_neg (by omega)])), trivial⟩

-- rftk2_0
theorem cr_562 (M : pM) (s0 s1 s2 s3 s4 s5 s6 : Int) (b0 : 0 ≤ s0 ∧ s0 ≤ 1900) (b1 : 0 ≤ s1 ∧ s1 ≤ 950) (b2 : 0 ≤ s2 ∧ s2 ≤ 1900) (b3 : 0 ≤ s3 ∧ s3 ≤ 12) (b4 : 0 ≤ s4 ∧ s4 ≤ 20) (b5 : 0 ≤ s5 ∧ s5 ≤ 4) (b6 : (-1) ≤ s6 ∧ s6 ≤ 600000) (m0 : HP 60 (4096 * s0 + s1) (s3 + 32 * s4 + 1024 * s5) M) (m1 : HP 47 (s0) (s6) M) (m2 : HP 45 (s0) (s2) M) (f0 : 0 ≤ (s6 - 262149)) (f1 : 0 ≤ ((-1) * s6 + 262151)) (hG : gI M) : (HP 66 (s2) (2 : Int) M ∧ True) := by
  obtain ⟨s, h1, hw, ha⟩ := Eq.mp hp_60 m0
  obtain ⟨c1, c2, c3⟩ := qW_o (w := s3) (r := s4) (g := s5) hw (by omega) (by omega) (by omega) (by omega)
  exact ⟨Eq.mpr hp_66 (r_ftk (P := s0) (l := s1) h1 ⟨by omega, by omega, by omega⟩ (q47 m1).2 (q45 m2).2 (by omega) (by rw [if_neg (by omega)])), trivial⟩

-- rftk3_0
theorem cr_563 (M : pM) (s0 s1 s2 s3 s4 s5 s6 : Int) (b0 : 0 ≤ s0 ∧ s0 ≤ 1900) (b1 : 0 ≤ s1 ∧ s1 ≤ 950) (b2 : 0 ≤ s2 ∧ s2 ≤ 1900) (b3 : 0 ≤ s3 ∧ s3 ≤ 12) (b4 : 0 ≤ s4 ∧ s4 ≤ 20) (b5 : 0 ≤ s5 ∧ s5 ≤ 4) (b6 : (-1) ≤ s6 ∧ s6 ≤ 600000) (m0 : HP 60 (4096 * s0 + s1) (s3 + 32 * s4 + 1024 * s5) M) (m1 : HP 47 (s0) (s6) M) (m2 : HP 45 (s0) (s2) M) (f0 : 0 ≤ (s6 - 262155)) (hG : gI M) : (HP 66 (s2) (2 : Int) M ∧ True) := by
  obtain ⟨s, h1, hw, ha⟩ := Eq.mp hp_60 m0
  obtain ⟨c1, c2, c3⟩ := qW_o (w := s3) (r := s4) (g := s5) hw (by omega) (by omega) (by omega) (by omega)
  exact ⟨Eq.mpr hp_66 (r_ftk (P := s0) (l := s1) h1 ⟨by omega, by omega, by omega⟩ (q47 m1).2 (q45 m2).2 (by omega) (by rw [if_neg (by omega)])), trivial⟩

-- rsemi_0
theorem cr_564 (M : pM) (s0 s1 s2 s3 s4 s5 s6 : Int) (b0 : 0 ≤ s0 ∧ s0 ≤ 1900) (b1 : 0 ≤ s1 ∧ s1 ≤ 950) (b2 : 0 ≤ s2 ∧ s2 ≤ 1900) (b3 : 0 ≤ s3 ∧ s3 ≤ 1900) (b4 : 0 ≤ s4 ∧ s4 ≤ 12) (b5 : 0 ≤ s5 ∧ s5 ≤ 20) (b6 : 0 ≤ s6 ∧ s6 ≤ 4) (m0 : HP 89 (4096 * s0 + s1) (s2) M) (m1 : HP 47 (s2) (524347 : Int) M) (m2 : HP 46 (s2) (s3) M) (m3 : HP 62 (4096 * s0 + s1) (s4 + 32 * s5 + 1024 * s6) M) (hG : gI M) : (HP 60 (s1 + 4096 * s3 + 1) (s4 + 32 * s5 + 1024 * s6) M ∧ 0 ≤ ((-1) * s1 + 949) ∧ True) := by
  obtain ⟨k1, k2⟩ := k_semiR (P := s0) (l := s1) (x' := (s1 + 4096 * s3 + 1)) (Eq.mp hp_62 m3)  (Eq.mp hp_89 m0) (by omega) ⟨by omega, by omega, by omega⟩ (q47 m1).2 (q46 m2).2 (by omega) (by omega)
  exact ⟨Eq.mpr hp_60 k1, by omega, trivial⟩

-- rend_0
theorem cr_565 (M : pM) (s0 s1 s2 s3 s4 : Int) (b0 : 0 ≤ s0 ∧ s0 ≤ 1900) (b1 : 0 ≤ s1 ∧ s1 ≤ 950) (b2 : 0 ≤ s2 ∧ s2 ≤ 12) (b3 : 0 ≤ s3 ∧ s3 ≤ 20) (b4 : 0 ≤ s4 ∧ s4 ≤ 4) (m0 : HP 60 (4096 * s0 + s1) (s2 + 32 * s3 + 1024 * s4) M) (m1 : HP 47 (s0) (131071 : Int) M) (hG : gI M) : (HP 64 (s1) (s2 + 32 * s3 + 1024 * s4) M ∧ True) := by
  exact ⟨Eq.mpr hp_64 (l_rend (P := s0) (l := s1) (Eq.mp hp_60 m0) ⟨by omega, by omega, by omega⟩ (q47 m1).2), trivial⟩

-- rt0_1_0
theorem cr_566 (M : pM) (s0 s1 s2 s3 s4 s5 s6 s7 s8 : Int) (b0 : 0 ≤ s0 ∧ s0 ≤ 1900) (b1 : 0 ≤ s1 ∧ s1 ≤ 950) (b2 : 0 ≤ s2 ∧ s2 ≤ 1900) (b3 : 0 ≤ s3 ∧ s3 ≤ 1900) (b4 : 0 ≤ s4 ∧ s4 ≤ 12) (b5 : 0 ≤ s5 ∧ s5 ≤ 20) (b6 : 0 ≤ s6 ∧ s6 ≤ 4) (b7 : 0 ≤ s7 ∧ s7 ≤ 7) (b8 : 0 ≤ s8 ∧ s8 ≤ 0) (m0 : HP 61 (4096 * s0 + s1) (s4 + 32 * s5 + 1024 * s6) M) (m1 : HP 53 (4096 * s0 + s1) (256 * s2 + 1) M) (m2 : HP 47 (s2) (s7 + 393216) M) (m3 : HP 46 (s2) (s3) M) (m4 : (0 ≤ (s7) ∧ M 84 (s7).toNat = (s8))) (hG : gI M) : (HP 53 (4096 * s0 + s1) (256 * s3 + 2) M ∧ HP 79 (16 * s0 + 1) (s7) M ∧ True) := by
  obtain ⟨S, hS, hw, ha⟩ := Eq.mp hp_61 m0
  have hr : M 84 s7.toNat = S.2 15 s7.toNat := ha.2.2.2.2.2.2.2.2.2.2.1 s7.toNat (by omega)
  rw [m4.2] at hr
  have hc : ∀ s : Nat × pM, qat (tm M) (4096 * s0 + s1) s → tK (tm M) (qps (tm M) s.1 1) = (s7 + 393216) → qck (tm M) s.1 s.2 0 1 = none := by
    intro s hs e
    have es := qat_u hS hs
    have ev : qvl (tm M) s.1 1 = s7 := by unfold qvl; omega
    show qcN 0 7 (qtd (s.2 15 (qvl (tm M) s.1 1).toNat)) (tK (tm M) (qps (tm M) s.1 1)) = _
    rw [e, qcN_x (by omega) (by omega), ev, es]
    exact qtd_0 (by omega)
  exact ⟨r_ex (K := 0) (j := 0) m1 m2 m3 ⟨by omega, by omega, by decide⟩ (by omega) (by decide) (fun s hs hE e => hc s hs e), r_va (P := s0) (l := s1) (K := 0) (j := 0) m1 m2 ⟨by omega, by omega, by omega⟩ ⟨by omega, by omega, by decide⟩ (by omega) (by omega), trivial⟩

-- rt1_1_0
theorem cr_567 (M : pM) (s0 s1 s2 s3 s4 s5 s6 s7 s8 s9 s10 : Int) (b0 : 0 ≤ s0 ∧ s0 ≤ 1900) (b1 : 0 ≤ s1 ∧ s1 ≤ 950) (b2 : 0 ≤ s2 ∧ s2 ≤ 1900) (b3 : 0 ≤ s3 ∧ s3 ≤ 1900) (b4 : 0 ≤ s4 ∧ s4 ≤ 12) (b5 : 0 ≤ s5 ∧ s5 ≤ 20) (b6 : 0 ≤ s6 ∧ s6 ≤ 4) (b7 : 0 ≤ s7 ∧ s7 ≤ 7) (b8 : 0 ≤ s8 ∧ s8 ≤ 0) (b9 : 262143 ≤ s9 ∧ s9 ≤ 262168) (b10 : 0 ≤ s10 ∧ s10 ≤ 1900) (m0 : HP 61 (4096 * s0 + s1) (s4 + 32 * s5 + 1024 * s6) M) (m1 : HP 53 (4096 * s0 + s1) (256 * s2 + 17) M) (m2 : HP 47 (s2) (s9) M) (m3 : HP 45 (s2) (s3) M) (m4 : HP 46 (s2) (s10) M) (m5 : (0 ≤ (s3) ∧ M 1 (s3).toNat = (s7 + 97))) (m6 : (0 ≤ (s7) ∧ M 85 (s7).toNat = (s8))) (f0 : 0 ≤ (s3 + (-1) * s10 + 1)) (f1 : 0 ≤ ((-1) * s3 + s10 - 1)) (hG : gI M) : (HP 53 (4096 * s0 + s1) (256 * s10 + 18) M ∧ HP 87 (s0) (s7) M ∧ True) := by
  obtain ⟨S, hS, hw, hA⟩ := Eq.mp hp_61 m0
  have hf : M 85 s7.toNat = S.2 16 s7.toNat := hA.2.2.2.2.2.2.2.2.2.2.2.1 s7.toNat (by omega)
  rw [m6.2] at hf
  obtain ⟨S2, hS2, hE2⟩ := ex_o (K := 1) (j := 0) (a := s2) (Eq.mp hp_53 m1) ⟨by omega, by omega, by decide, by decide⟩
  have ha2 : s2 = (qps (tm M) S2.1 1 : Int) := hE2.2.2.2.2
  have ha : qps (tm M) S2.1 1 = s2.toNat := by omega
  have g1 := (q45 m3).2
  have g2 := (q46 m4).2
  have hr := rd1 m5 (by omega)
  have hl : qlt (tm M) S2.1 1 0 = 97 + s7 := by unfold qlt; rw [ha, show tS (tm M) s2.toNat + 0 = s3.toNat by omega, hr]; omega
  have hc : ∀ s : Nat × pM, qat (tm M) (4096 * s0 + s1) s → tK (tm M) (qps (tm M) s.1 1) = s9 → qck (tm M) s.1 s.2 1 1 = none := by
    intro s hs e
    have es := qat_u hS hs
    have e2 := qat_u hS2 hs
    subst e2
    show qcW (if qsz (tm M) s.1 1 = 1 ∧ qgr (tm M) (tS (tm M) (qps (tm M) s.1 1)) 1 = true then qtd (s.2 16 (qlt (tm M) s.1 1 0 - 97).toNat) else some 4) (tK (tm M) (qps (tm M) s.1 1)) = _
    rw [e, qcW_x (by omega), if_pos ⟨by unfold qsz; rw [ha]; omega, qgr_i (fun i hi => by rw [ha, show tS (tm M) s2.toNat + i = s3.toNat by omega, hr]; omega)⟩, hl, show (97 + s7 - 97).toNat = s7.toNat by omega, es]
    exact qtd_0 (by omega)
  exact ⟨r_ex (K := 1) (j := 0) m1 m2 m4 ⟨by omega, by omega, by decide⟩ (by omega) (by decide) (fun s hs hE e => hc s hs e), Eq.mpr hp_87 ⟨by omega, by rw [show s0.toNat = S2.1 by have := qat_p (P := s0) (l := s1) hS2 ⟨by omega, by omega, by omega⟩; omega]; exact hl⟩, trivial⟩

-- rt2_1_0
theorem cr_568 (M : pM) (s0 s1 s2 s3 s4 s5 s6 s7 s8 : Int) (b0 : 0 ≤ s0 ∧ s0 ≤ 1900) (b1 : 0 ≤ s1 ∧ s1 ≤ 950) (b2 : 0 ≤ s2 ∧ s2 ≤ 1900) (b3 : 0 ≤ s3 ∧ s3 ≤ 1900) (b4 : 0 ≤ s4 ∧ s4 ≤ 12) (b5 : 0 ≤ s5 ∧ s5 ≤ 20) (b6 : 0 ≤ s6 ∧ s6 ≤ 4) (b7 : 0 ≤ s7 ∧ s7 ≤ 5) (b8 : (-1) ≤ s8 ∧ s8 ≤ (-1)) (m0 : HP 61 (4096 * s0 + s1) (s4 + 32 * s5 + 1024 * s6) M) (m1 : HP 53 (4096 * s0 + s1) (256 * s2 + 33) M) (m2 : HP 47 (s2) (s7 + 393216) M) (m3 : HP 46 (s2) (s3) M) (m4 : (0 ≤ (s7 + 6) ∧ M 71 (s7 + 6).toNat = (s8))) (hG : gI M) : (HP 53 (4096 * s0 + s1) (256 * s3 + 34) M ∧ HP 79 (16 * s0 + 1) (s7) M ∧ True) := by
  obtain ⟨S, hS, hw, ha⟩ := Eq.mp hp_61 m0
  have hr : M 71 (6 + s7.toNat) = S.2 3 s7.toNat := ha.2.2.1 s7.toNat (by omega)
  have hv := m4.2
  rw [show (s7 + 6).toNat = 6 + s7.toNat by omega] at hv
  have hs0 : S.2 3 s7.toNat = s8 := by rw [← hr]; exact hv
  have hc : ∀ s : Nat × pM, qat (tm M) (4096 * s0 + s1) s → tK (tm M) (qps (tm M) s.1 1) = (s7 + 393216) → qck (tm M) s.1 s.2 2 1 = none := by
    intro s hs e
    have es := qat_u hS hs
    have ev : qvl (tm M) s.1 1 = s7 := by unfold qvl; omega
    show qcN 0 5 (if 0 ≤ s.2 3 (qvl (tm M) s.1 1).toNat then some 3 else none) (tK (tm M) (qps (tm M) s.1 1)) = _
    rw [e, qcN_x (by omega) (by omega), ev, es]
    exact if_neg (by omega)
  exact ⟨r_ex (K := 2) (j := 0) m1 m2 m3 ⟨by omega, by omega, by decide⟩ (by omega) (by decide) (fun s hs hE e => hc s hs e), r_va (P := s0) (l := s1) (K := 2) (j := 0) m1 m2 ⟨by omega, by omega, by omega⟩ ⟨by omega, by omega, by decide⟩ (by omega) (by omega), trivial⟩

-- rt3_1_0
theorem cr_569 (M : pM) (s0 s1 s2 s3 s4 s5 s6 s7 s8 : Int) (b0 : 0 ≤ s0 ∧ s0 ≤ 1900) (b1 : 0 ≤ s1 ∧ s1 ≤ 950) (b2 : 0 ≤ s2 ∧ s2 ≤ 1900) (b3 : 0 ≤ s3 ∧ s3 ≤ 1900) (b4 : 0 ≤ s4 ∧ s4 ≤ 12) (b5 : 0 ≤ s5 ∧ s5 ≤ 20) (b6 : 0 ≤ s6 ∧ s6 ≤ 4) (b7 : 0 ≤ s7 ∧ s7 ≤ 5) (b8 : (-1) ≤ s8 ∧ s8 ≤ (-1)) (m0 : HP 61 (4096 * s0 + s1) (s4 + 32 * s5 + 1024 * s6) M) (m1 : HP 53 (4096 * s0 + s1) (256 * s2 + 49) M) (m2 : HP 47 (s2) (s7 + 393216) M) (m3 : HP 46 (s2) (s3) M) (m4 : (0 ≤ (s7 + 6) ∧ M 73 (s7 + 6).toNat = (s8))) (hG : gI M) : (HP 53 (4096 * s0 + s1) (256 * s3 + 50) M ∧ HP 79 (16 * s0 + 1) (s7) M ∧ True) := by
  obtain ⟨S, hS, hw, ha⟩ := Eq.mp hp_61 m0
  have hr : M 73 (6 + s7.toNat) = S.2 5 s7.toNat := ha.2.2.2.2.1 s7.toNat (by omega)
  have hv := m4.2
  rw [show (s7 + 6).toNat = 6 + s7.toNat by omega] at hv
  have hs0 : S.2 5 s7.toNat = s8 := by rw [← hr]; exact hv
  have hc : ∀ s : Nat × pM, qat (tm M) (4096 * s0 + s1) s → tK (tm M) (qps (tm M) s.1 1) = (s7 + 393216) → qck (tm M) s.1 s.2 3 1 = none := by
    intro s hs e
    have es := qat_u hS hs
    have ev : qvl (tm M) s.1 1 = s7 := by unfold qvl; omega
    show qcN 0 5 (if 0 ≤ s.2 5 (qvl (tm M) s.1 1).toNat then some 3 else none) (tK (tm M) (qps (tm M) s.1 1)) = _
    rw [e, qcN_x (by omega) (by omega), ev, es]
    exact if_neg (by omega)
  exact ⟨r_ex (K := 3) (j := 0) m1 m2 m3 ⟨by omega, by omega, by decide⟩ (by omega) (by decide) (fun s hs hE e => hc s hs e), r_va (P := s0) (l := s1) (K := 3) (j := 0) m1 m2 ⟨by omega, by omega, by omega⟩ ⟨by omega, by omega, by decide⟩ (by omega) (by omega), trivial⟩

-- rt8_1_0
theorem cr_570 (M : pM) (s0 s1 s2 s3 s4 s5 s6 s7 s8 s9 : Int) (b0 : 0 ≤ s0 ∧ s0 ≤ 1900) (b1 : 0 ≤ s1 ∧ s1 ≤ 950) (b2 : 0 ≤ s2 ∧ s2 ≤ 1900) (b3 : 0 ≤ s3 ∧ s3 ≤ 1900) (b4 : 0 ≤ s4 ∧ s4 ≤ 12) (b5 : 0 ≤ s5 ∧ s5 ≤ 20) (b6 : 0 ≤ s6 ∧ s6 ≤ 4) (b7 : 0 ≤ s7 ∧ s7 ≤ 7) (b8 : 0 ≤ s8 ∧ s8 ≤ 7) (b9 : 0 ≤ s9 ∧ s9 ≤ 0) (m0 : HP 61 (4096 * s0 + s1) (s4 + 32 * s5 + 1024 * s6) M) (m1 : HP 53 (4096 * s0 + s1) (256 * s2 + 130) M) (m2 : HP 47 (s2) (s8 + 393216) M) (m3 : HP 46 (s2) (s3) M) (m4 : HP 79 (16 * s0 + 1) (s7) M) (m5 : (0 ≤ (s7 + 8 * s8 + 64) ∧ M 86 (s7 + 8 * s8 + 64).toNat = (s9))) (hG : gI M) : (HP 53 (4096 * s0 + s1) (256 * s3 + 131) M ∧ HP 79 (16 * s0 + 2) (s8) M ∧ True) := by
  obtain ⟨S, hS, hw, ha⟩ := Eq.mp hp_61 m0
  have hf : M 86 (64 + (s7 + 8 * s8).toNat) = S.2 17 (s7 + 8 * s8).toNat := ha.2.2.2.2.2.2.2.2.2.2.2.2 (s7 + 8 * s8).toNat (by omega)
  have hv := m5.2
  rw [show (s7 + 8 * s8 + 64).toNat = 64 + (s7 + 8 * s8).toNat by omega, hf] at hv
  have hc : ∀ s : Nat × pM, qat (tm M) (4096 * s0 + s1) s → tK (tm M) (qps (tm M) s.1 2) = (s8 + 393216) → qck (tm M) s.1 s.2 8 2 = none := by
    intro s hs e
    have es := qat_u hS hs
    have hp : s0.toNat = s.1 := by have := qat_p (P := s0) (l := s1) hs ⟨by omega, by omega, by omega⟩; omega
    have e1 := q79 (P := s0) (i := 1) m4 ⟨by omega, by decide⟩ (by omega)
    rw [hp] at e1
    have ev : qvl (tm M) s.1 2 = s8 := by unfold qvl; omega
    show qcN 0 7 (qtd (s.2 17 (qvl (tm M) s.1 1 + 8 * qvl (tm M) s.1 2).toNat)) (tK (tm M) (qps (tm M) s.1 2)) = _
    rw [e, qcN_x (by omega) (by omega), ev, ← e1, es]
    exact qtd_0 (by omega)
  exact ⟨r_ex (K := 8) (j := 1) m1 m2 m3 ⟨by omega, by omega, by decide⟩ (by omega) (by decide) (fun s hs hE e => hc s hs e), r_va (P := s0) (l := s1) (K := 8) (j := 1) m1 m2 ⟨by omega, by omega, by omega⟩ ⟨by omega, by omega, by decide⟩ (by omega) (by omega), trivial⟩

-- rt0_1_1
theorem cr_571 (M : pM) (s0 s1 s2 s3 s4 s5 s6 s7 s8 : Int) (b0 : 0 ≤ s0 ∧ s0 ≤ 1900) (b1 : 0 ≤ s1 ∧ s1 ≤ 950) (b2 : 0 ≤ s2 ∧ s2 ≤ 1900) (b3 : 0 ≤ s3 ∧ s3 ≤ 1900) (b4 : 0 ≤ s4 ∧ s4 ≤ 12) (b5 : 0 ≤ s5 ∧ s5 ≤ 20) (b6 : 0 ≤ s6 ∧ s6 ≤ 4) (b7 : 0 ≤ s7 ∧ s7 ≤ 7) (b8 : 1 ≤ s8 ∧ s8 ≤ 1) (m0 : HP 61 (4096 * s0 + s1) (s4 + 32 * s5 + 1024 * s6) M) (m1 : HP 53 (4096 * s0 + s1) (256 * s2 + 1) M) (m2 : HP 47 (s2) (s7 + 393216) M) (m3 : HP 45 (s2) (s3) M) (m4 : (0 ≤ (s7) ∧ M 84 (s7).toNat = (s8))) (hG : gI M) : (HP 66 (s3) (3 : Int) M ∧ True) := by
  obtain ⟨S, hS, hw, ha⟩ := Eq.mp hp_61 m0
  have hr : M 84 s7.toNat = S.2 15 s7.toNat := ha.2.2.2.2.2.2.2.2.2.2.1 s7.toNat (by omega)
  rw [m4.2] at hr
  have hc : ∀ s : Nat × pM, qat (tm M) (4096 * s0 + s1) s → tK (tm M) (qps (tm M) s.1 1) = (s7 + 393216) → qck (tm M) s.1 s.2 0 1 = some 3 := by
    intro s hs e
    have es := qat_u hS hs
    have ev : qvl (tm M) s.1 1 = s7 := by unfold qvl; omega
    show qcN 0 7 (qtd (s.2 15 (qvl (tm M) s.1 1).toNat)) (tK (tm M) (qps (tm M) s.1 1)) = _
    rw [e, qcN_x (by omega) (by omega), ev, es]
    exact qtd_1 (by omega)
  exact ⟨r_fl (K := 0) (j := 0) m1 m2 m3 ⟨by omega, by omega, by decide⟩ (fun s hs hE e => hc s hs e), trivial⟩

-- rt1_1_1
theorem cr_572 (M : pM) (s0 s1 s2 s3 s4 s5 s6 s7 s8 s9 s10 : Int) (b0 : 0 ≤ s0 ∧ s0 ≤ 1900) (b1 : 0 ≤ s1 ∧ s1 ≤ 950) (b2 : 0 ≤ s2 ∧ s2 ≤ 1900) (b3 : 0 ≤ s3 ∧ s3 ≤ 1900) (b4 : 0 ≤ s4 ∧ s4 ≤ 12) (b5 : 0 ≤ s5 ∧ s5 ≤ 20) (b6 : 0 ≤ s6 ∧ s6 ≤ 4) (b7 : 0 ≤ s7 ∧ s7 ≤ 7) (b8 : 1 ≤ s8 ∧ s8 ≤ 1) (b9 : 262143 ≤ s9 ∧ s9 ≤ 262168) (b10 : 0 ≤ s10 ∧ s10 ≤ 1900) (m0 : HP 61 (4096 * s0 + s1) (s4 + 32 * s5 + 1024 * s6) M) (m1 : HP 53 (4096 * s0 + s1) (256 * s2 + 17) M) (m2 : HP 47 (s2) (s9) M) (m3 : HP 45 (s2) (s3) M) (m4 : HP 46 (s2) (s10) M) (m5 : (0 ≤ (s3) ∧ M 1 (s3).toNat = (s7 + 97))) (m6 : (0 ≤ (s7) ∧ M 85 (s7).toNat = (s8))) (f0 : 0 ≤ (s3 + (-1) * s10 + 1)) (f1 : 0 ≤ ((-1) * s3 + s10 - 1)) (hG : gI M) : (HP 66 (s3) (3 : Int) M ∧ True) := by
  obtain ⟨S, hS, hw, hA⟩ := Eq.mp hp_61 m0
  have hf : M 85 s7.toNat = S.2 16 s7.toNat := hA.2.2.2.2.2.2.2.2.2.2.2.1 s7.toNat (by omega)
  rw [m6.2] at hf
  obtain ⟨S2, hS2, hE2⟩ := ex_o (K := 1) (j := 0) (a := s2) (Eq.mp hp_53 m1) ⟨by omega, by omega, by decide, by decide⟩
  have ha2 : s2 = (qps (tm M) S2.1 1 : Int) := hE2.2.2.2.2
  have ha : qps (tm M) S2.1 1 = s2.toNat := by omega
  have g1 := (q45 m3).2
  have g2 := (q46 m4).2
  have hr := rd1 m5 (by omega)
  have hl : qlt (tm M) S2.1 1 0 = 97 + s7 := by unfold qlt; rw [ha, show tS (tm M) s2.toNat + 0 = s3.toNat by omega, hr]; omega
  have hc : ∀ s : Nat × pM, qat (tm M) (4096 * s0 + s1) s → tK (tm M) (qps (tm M) s.1 1) = s9 → qck (tm M) s.1 s.2 1 1 = some 3 := by
    intro s hs e
    have es := qat_u hS hs
    have e2 := qat_u hS2 hs
    subst e2
    show qcW (if qsz (tm M) s.1 1 = 1 ∧ qgr (tm M) (tS (tm M) (qps (tm M) s.1 1)) 1 = true then qtd (s.2 16 (qlt (tm M) s.1 1 0 - 97).toNat) else some 4) (tK (tm M) (qps (tm M) s.1 1)) = _
    rw [e, qcW_x (by omega), if_pos ⟨by unfold qsz; rw [ha]; omega, qgr_i (fun i hi => by rw [ha, show tS (tm M) s2.toNat + i = s3.toNat by omega, hr]; omega)⟩, hl, show (97 + s7 - 97).toNat = s7.toNat by omega, es]
    exact qtd_1 (by omega)
  exact ⟨r_fl (K := 1) (j := 0) m1 m2 m3 ⟨by omega, by omega, by decide⟩ (fun s hs hE e => hc s hs e), trivial⟩

-- rt2_1_1
theorem cr_573 (M : pM) (s0 s1 s2 s3 s4 s5 s6 s7 s8 : Int) (b0 : 0 ≤ s0 ∧ s0 ≤ 1900) (b1 : 0 ≤ s1 ∧ s1 ≤ 950) (b2 : 0 ≤ s2 ∧ s2 ≤ 1900) (b3 : 0 ≤ s3 ∧ s3 ≤ 1900) (b4 : 0 ≤ s4 ∧ s4 ≤ 12) (b5 : 0 ≤ s5 ∧ s5 ≤ 20) (b6 : 0 ≤ s6 ∧ s6 ≤ 4) (b7 : 0 ≤ s7 ∧ s7 ≤ 5) (b8 : 0 ≤ s8 ∧ s8 ≤ 40) (m0 : HP 61 (4096 * s0 + s1) (s4 + 32 * s5 + 1024 * s6) M) (m1 : HP 53 (4096 * s0 + s1) (256 * s2 + 33) M) (m2 : HP 47 (s2) (s7 + 393216) M) (m3 : HP 45 (s2) (s3) M) (m4 : (0 ≤ (s7 + 6) ∧ M 71 (s7 + 6).toNat = (s8))) (hG : gI M) : (HP 66 (s3) (3 : Int) M ∧ True) := by
  obtain ⟨S, hS, hw, ha⟩ := Eq.mp hp_61 m0
  have hr : M 71 (6 + s7.toNat) = S.2 3 s7.toNat := ha.2.2.1 s7.toNat (by omega)
  have hv := m4.2
  rw [show (s7 + 6).toNat = 6 + s7.toNat by omega] at hv
  have hs0 : S.2 3 s7.toNat = s8 := by rw [← hr]; exact hv
  have hc : ∀ s : Nat × pM, qat (tm M) (4096 * s0 + s1) s → tK (tm M) (qps (tm M) s.1 1) = (s7 + 393216) → qck (tm M) s.1 s.2 2 1 = some 3 := by
    intro s hs e
    have es := qat_u hS hs
    have ev : qvl (tm M) s.1 1 = s7 := by unfold qvl; omega
    show qcN 0 5 (if 0 ≤ s.2 3 (qvl (tm M) s.1 1).toNat then some 3 else none) (tK (tm M) (qps (tm M) s.1 1)) = _
    rw [e, qcN_x (by omega) (by omega), ev, es]
    exact if_pos (by omega)
  exact ⟨r_fl (K := 2) (j := 0) m1 m2 m3 ⟨by omega, by omega, by decide⟩ (fun s hs hE e => hc s hs e), trivial⟩

-- rt3_1_1
theorem cr_574 (M : pM) (s0 s1 s2 s3 s4 s5 s6 s7 s8 : Int) (b0 : 0 ≤ s0 ∧ s0 ≤ 1900) (b1 : 0 ≤ s1 ∧ s1 ≤ 950) (b2 : 0 ≤ s2 ∧ s2 ≤ 1900) (b3 : 0 ≤ s3 ∧ s3 ≤ 1900) (b4 : 0 ≤ s4 ∧ s4 ≤ 12) (b5 : 0 ≤ s5 ∧ s5 ≤ 20) (b6 : 0 ≤ s6 ∧ s6 ≤ 4) (b7 : 0 ≤ s7 ∧ s7 ≤ 5) (b8 : 0 ≤ s8 ∧ s8 ≤ 40) (m0 : HP 61 (4096 * s0 + s1) (s4 + 32 * s5 + 1024 * s6) M) (m1 : HP 53 (4096 * s0 + s1) (256 * s2 + 49) M) (m2 : HP 47 (s2) (s7 + 393216) M) (m3 : HP 45 (s2) (s3) M) (m4 : (0 ≤ (s7 + 6) ∧ M 73 (s7 + 6).toNat = (s8))) (hG : gI M) : (HP 66 (s3) (3 : Int) M ∧ True) := by
  obtain ⟨S, hS, hw, ha⟩ := Eq.mp hp_61 m0
  have hr : M 73 (6 + s7.toNat) = S.2 5 s7.toNat := ha.2.2.2.2.1 s7.toNat (by omega)
  have hv := m4.2
  rw [show (s7 + 6).toNat = 6 + s7.toNat by omega] at hv
  have hs0 : S.2 5 s7.toNat = s8 := by rw [← hr]; exact hv
  have hc : ∀ s : Nat × pM, qat (tm M) (4096 * s0 + s1) s → tK (tm M) (qps (tm M) s.1 1) = (s7 + 393216) → qck (tm M) s.1 s.2 3 1 = some 3 := by
    intro s hs e
    have es := qat_u hS hs
    have ev : qvl (tm M) s.1 1 = s7 := by unfold qvl; omega
    show qcN 0 5 (if 0 ≤ s.2 5 (qvl (tm M) s.1 1).toNat then some 3 else none) (tK (tm M) (qps (tm M) s.1 1)) = _
    rw [e, qcN_x (by omega) (by omega), ev, es]
    exact if_pos (by omega)
  exact ⟨r_fl (K := 3) (j := 0) m1 m2 m3 ⟨by omega, by omega, by decide⟩ (fun s hs hE e => hc s hs e), trivial⟩

-- rt8_1_1
theorem cr_575 (M : pM) (s0 s1 s2 s3 s4 s5 s6 s7 s8 s9 : Int) (b0 : 0 ≤ s0 ∧ s0 ≤ 1900) (b1 : 0 ≤ s1 ∧ s1 ≤ 950) (b2 : 0 ≤ s2 ∧ s2 ≤ 1900) (b3 : 0 ≤ s3 ∧ s3 ≤ 1900) (b4 : 0 ≤ s4 ∧ s4 ≤ 12) (b5 : 0 ≤ s5 ∧ s5 ≤ 20) (b6 : 0 ≤ s6 ∧ s6 ≤ 4) (b7 : 0 ≤ s7 ∧ s7 ≤ 7) (b8 : 0 ≤ s8 ∧ s8 ≤ 7) (b9 : 1 ≤ s9 ∧ s9 ≤ 1) (m0 : HP 61 (4096 * s0 + s1) (s4 + 32 * s5 + 1024 * s6) M) (m1 : HP 53 (4096 * s0 + s1) (256 * s2 + 130) M) (m2 : HP 47 (s2) (s8 + 393216) M) (m3 : HP 45 (s2) (s3) M) (m4 : HP 79 (16 * s0 + 1) (s7) M) (m5 : (0 ≤ (s7 + 8 * s8 + 64) ∧ M 86 (s7 + 8 * s8 + 64).toNat = (s9))) (hG : gI M) : (HP 66 (s3) (3 : Int) M ∧ True) := by
  obtain ⟨S, hS, hw, ha⟩ := Eq.mp hp_61 m0
  have hf : M 86 (64 + (s7 + 8 * s8).toNat) = S.2 17 (s7 + 8 * s8).toNat := ha.2.2.2.2.2.2.2.2.2.2.2.2 (s7 + 8 * s8).toNat (by omega)
  have hv := m5.2
  rw [show (s7 + 8 * s8 + 64).toNat = 64 + (s7 + 8 * s8).toNat by omega, hf] at hv
  have hc : ∀ s : Nat × pM, qat (tm M) (4096 * s0 + s1) s → tK (tm M) (qps (tm M) s.1 2) = (s8 + 393216) → qck (tm M) s.1 s.2 8 2 = some 3 := by
    intro s hs e
    have es := qat_u hS hs
    have hp : s0.toNat = s.1 := by have := qat_p (P := s0) (l := s1) hs ⟨by omega, by omega, by omega⟩; omega
    have e1 := q79 (P := s0) (i := 1) m4 ⟨by omega, by decide⟩ (by omega)
    rw [hp] at e1
    have ev : qvl (tm M) s.1 2 = s8 := by unfold qvl; omega
    show qcN 0 7 (qtd (s.2 17 (qvl (tm M) s.1 1 + 8 * qvl (tm M) s.1 2).toNat)) (tK (tm M) (qps (tm M) s.1 2)) = _
    rw [e, qcN_x (by omega) (by omega), ev, ← e1, es]
    exact qtd_1 (by omega)
  exact ⟨r_fl (K := 8) (j := 1) m1 m2 m3 ⟨by omega, by omega, by decide⟩ (fun s hs hE e => hc s hs e), trivial⟩

-- rg0_1
theorem cr_576 (M : pM) (s0 s1 s2 s3 s4 s5 : Int) (b0 : 0 ≤ s0 ∧ s0 ≤ 1900) (b1 : 0 ≤ s1 ∧ s1 ≤ 950) (b2 : 0 ≤ s2 ∧ s2 ≤ 12) (b3 : 0 ≤ s3 ∧ s3 ≤ 20) (b4 : 0 ≤ s4 ∧ s4 ≤ 4) (b5 : 0 ≤ s5 ∧ s5 ≤ 7) (m0 : HP 61 (4096 * s0 + s1) (s2 + 32 * s3 + 1024 * s4) M) (hG : gI M) : (HP 146 (4096 * s0 + s1) (s2 + 32 * s3 + 1024 * s4 + 131072 * s5) M ∧ True) := by
  exact ⟨Eq.mpr hp_146 (l_rg0 (u := s5.toNat) (Eq.mp hp_61 m0) (by omega)), trivial⟩

-- rgw_1
theorem cr_577 (M : pM) (s0 s1 s2 s3 s4 s5 s6 s7 s8 s9 : Int) (b0 : 0 ≤ s0 ∧ s0 ≤ 1900) (b1 : 0 ≤ s1 ∧ s1 ≤ 950) (b2 : 0 ≤ s2 ∧ s2 ≤ 1900) (b3 : 0 ≤ s3 ∧ s3 ≤ 12) (b4 : 0 ≤ s4 ∧ s4 ≤ 20) (b5 : 0 ≤ s5 ∧ s5 ≤ 4) (b6 : 0 ≤ s6 ∧ s6 ≤ 7) (b7 : 0 ≤ s7 ∧ s7 ≤ 7) (b8 : 0 ≤ s8 ∧ s8 ≤ 1900) (b9 : 97 ≤ s9 ∧ s9 ≤ 104) (m0 : HP 146 (4096 * s0 + s1) (s3 + 32 * s4 + 1024 * s5 + 8192 * s6 + 131072 * s7) M) (m1 : HP 157 (16 * s0 + 2) (s2) M) (m2 : HP 45 (s2) (s8) M) (m3 : (0 ≤ (s6 + s8) ∧ M 1 (s6 + s8).toNat = (s9))) (hG : gI M) : (HP 146 (4096 * s0 + s1) (s3 + 32 * s4 + 1024 * s5 + 8192 * s6 + 131072 * s7 + 8192) (st M 69 (s6 + 8 * s7 + 64).toNat (s9 - 97)) ∧ True) := by
  have ht : tm (st M 69 (64 * 1 + (8 * s7.toNat + s6.toNat)) (s9 - 97)) = tm M := tm_st (by decide) (by decide)
  rw [show (s6 + 8 * s7 + 64).toNat = 64 * 1 + (8 * s7.toNat + s6.toNat) by omega]
  have hv : ∀ s, qat (tm M) (4096 * s0 + s1) s → (s9 - 97) = qlt (tm M) s.1 2 s6.toNat - 97 := by
    intro s hs
    have hp := qat_p (P := s0) (l := s1) hs ⟨by omega, by omega, by omega⟩
    obtain ⟨p, i, t1, t2, t3⟩ := Eq.mp hp_157 m1
    have e1 : i = 2 := by omega
    have e2 : p = s.1 := by omega
    subst e1
    subst e2
    have g1 := (q45 m2).2
    have hr := rd1 m3 (by omega)
    unfold qlt
    rw [show qps (tm M) s.1 2 = s2.toNat by omega, show tS (tm M) s2.toNat + s6.toNat = (s6 + s8).toNat by omega, hr]
  refine ⟨Eq.mpr hp_146 ?_, trivial⟩
  rw [ht]
  exact RG_m (fun _ _ _ _ _ h => agR_w69 h) (l_rgw (k := s6.toNat) (u := s7.toNat) (w := s3) (r := s4) (g := s5) (Eq.mp hp_146 m0) (by omega) ⟨⟨by omega, by omega⟩, ⟨by omega, by omega⟩, by omega, by omega⟩ (by omega) (by omega) hv (by omega))

-- rgh_1
theorem cr_578 (M : pM) (s0 s1 s2 s3 s4 s5 s6 : Int) (b0 : 0 ≤ s0 ∧ s0 ≤ 1900) (b1 : 0 ≤ s1 ∧ s1 ≤ 950) (b2 : 0 ≤ s2 ∧ s2 ≤ 1900) (b3 : 0 ≤ s3 ∧ s3 ≤ 12) (b4 : 0 ≤ s4 ∧ s4 ≤ 20) (b5 : 0 ≤ s5 ∧ s5 ≤ 4) (b6 : 0 ≤ s6 ∧ s6 ≤ 7) (m0 : HP 146 (4096 * s0 + s1) (s3 + 32 * s4 + 1024 * s5 + 131072 * s6 + 65536) M) (m1 : HP 53 (4096 * s0 + s1) (256 * s2 + 3) M) (m2 : HP 79 (16 * s0 + 1) (s6) M) (hG : gI M) : (HP 63 (4096 * s0 + s1) (s3 + 32 * s4 + 1024 * s5) (st M 84 (s6).toNat (1 : Int)) ∧ True) := by
  have hv := q79 (P := s0) (i := 1) m2 ⟨by omega, by decide⟩ (by omega)
  have ht : tm (st M 84 (s6.toNat) (1 : Int)) = tm M := tm_st (by decide) (by decide)
  rw [show (s6).toNat = s6.toNat by omega]
  refine ⟨Eq.mpr hp_63 ?_, trivial⟩
  rw [ht]
  exact RW_m (fun _ _ _ _ _ h => agR_w84 h) (l_rgh (u := s6.toNat) (w := s3) (r := s4) (g := s5) (P := s0) (l := s1) (Eq.mp hp_146 m0) (by omega) ⟨⟨by omega, by omega⟩, ⟨by omega, by omega⟩, by omega, by omega⟩ (ex_o (K := 0) (j := 2) (a := s2) (Eq.mp hp_53 m1) ⟨by omega, by omega, by decide, by decide⟩) ⟨by omega, by omega, by omega⟩ (by omega) (by omega))

-- rlh_1
theorem cr_579 (M : pM) (s0 s1 s2 s3 s4 s5 : Int) (b0 : 0 ≤ s0 ∧ s0 ≤ 1900) (b1 : 0 ≤ s1 ∧ s1 ≤ 950) (b2 : 0 ≤ s2 ∧ s2 ≤ 12) (b3 : 0 ≤ s3 ∧ s3 ≤ 20) (b4 : 0 ≤ s4 ∧ s4 ≤ 4) (b5 : 0 ≤ s5 ∧ s5 ≤ 7) (m0 : HP 61 (4096 * s0 + s1) (s2 + 32 * s3 + 1024 * s4) M) (m1 : HP 87 (s0) (s5) M) (hG : gI M) : (HP 148 (4096 * s0 + s1) (s2 + 32 * s3 + 1024 * s4 + 131072 * s5) (st M 85 (s5).toNat (1 : Int)) ∧ True) := by
  have ht : tm (st M 85 (s5.toNat) (1 : Int)) = tm M := tm_st (by decide) (by decide)
  rw [show (s5).toNat = s5.toNat by omega]
  refine ⟨Eq.mpr hp_148 ?_, trivial⟩
  rw [ht]
  exact RL_m (fun _ _ _ _ _ h => agR_w85 h) (l_rlh (u := s5.toNat) (Eq.mp hp_61 m0) (by omega))

-- rlw_1
theorem cr_580 (M : pM) (s0 s1 s2 s3 s4 s5 s6 s7 : Int) (b0 : 0 ≤ s0 ∧ s0 ≤ 1900) (b1 : 0 ≤ s1 ∧ s1 ≤ 950) (b2 : 0 ≤ s2 ∧ s2 ≤ 12) (b3 : 0 ≤ s3 ∧ s3 ≤ 20) (b4 : 0 ≤ s4 ∧ s4 ≤ 4) (b5 : 0 ≤ s5 ∧ s5 ≤ 7) (b6 : 0 ≤ s6 ∧ s6 ≤ 5) (b7 : 0 ≤ s7 ∧ s7 ≤ 20) (m0 : HP 148 (4096 * s0 + s1) (s2 + 32 * s3 + 1024 * s4 + 131072 * s5 + 8192 * s6) M) (m1 : HP 87 (s0) (s5) M) (m2 : HP 79 (16 * s0 + s6 + 2) (s7) M) (hG : gI M) : (HP 148 (4096 * s0 + s1) (s2 + 32 * s3 + 1024 * s4 + 131072 * s5 + 8192 * s6 + 8192) (st M 70 (6 * s5 + s6 + 48).toNat (s7)) ∧ True) := by
  have hv := q79 (P := s0) (i := 2 + s6.toNat) m2 ⟨by omega, by omega⟩ (by omega)
  have ht : tm (st M 70 (48 * 1 + (6 * s5.toNat + s6.toNat)) (s7)) = tm M := tm_st (by decide) (by decide)
  rw [show (6 * s5 + s6 + 48).toNat = 48 * 1 + (6 * s5.toNat + s6.toNat) by omega]
  refine ⟨Eq.mpr hp_148 ?_, trivial⟩
  rw [ht]
  exact RL_m (fun _ _ _ _ _ h => agR_w70 h) (l_rlw (k := s6.toNat) (u := s5.toNat) (w := s2) (r := s3) (g := s4) (P := s0) (l := s1) (Eq.mp hp_148 m0) (by omega) ⟨⟨by omega, by omega⟩, ⟨by omega, by omega⟩, by omega, by omega⟩ (by omega) (by omega) ⟨by omega, by omega, by omega⟩ hv (by omega))

-- rle_1
theorem cr_581 (M : pM) (s0 s1 s2 s3 s4 s5 s6 : Int) (b0 : 0 ≤ s0 ∧ s0 ≤ 1900) (b1 : 0 ≤ s1 ∧ s1 ≤ 950) (b2 : 0 ≤ s2 ∧ s2 ≤ 1900) (b3 : 0 ≤ s3 ∧ s3 ≤ 12) (b4 : 0 ≤ s4 ∧ s4 ≤ 20) (b5 : 0 ≤ s5 ∧ s5 ≤ 4) (b6 : 0 ≤ s6 ∧ s6 ≤ 7) (m0 : HP 148 (4096 * s0 + s1) (s3 + 32 * s4 + 1024 * s5 + 131072 * s6 + 49152) M) (m1 : HP 53 (4096 * s0 + s1) (256 * s2 + 24) M) (m2 : HP 87 (s0) (s6) M) (hG : gI M) : (HP 63 (4096 * s0 + s1) (s3 + 32 * s4 + 1024 * s5) M ∧ True) := by
  have hv := (Eq.mp hp_87 m2).2
  exact ⟨Eq.mpr hp_63 (l_rle (u := s6.toNat) (w := s3) (r := s4) (g := s5) (P := s0) (l := s1) (Eq.mp hp_148 m0) (by omega) ⟨⟨by omega, by omega⟩, ⟨by omega, by omega⟩, by omega, by omega⟩ (ex_o (K := 1) (j := 7) (a := s2) (Eq.mp hp_53 m1) ⟨by omega, by omega, by decide, by decide⟩) ⟨by omega, by omega, by omega⟩ (by omega) (by omega)), trivial⟩

-- rxa_1
theorem cr_582 (M : pM) (s0 s1 s2 s3 s4 s5 s6 s7 : Int) (b0 : 0 ≤ s0 ∧ s0 ≤ 1900) (b1 : 0 ≤ s1 ∧ s1 ≤ 950) (b2 : 0 ≤ s2 ∧ s2 ≤ 1900) (b3 : 0 ≤ s3 ∧ s3 ≤ 12) (b4 : 0 ≤ s4 ∧ s4 ≤ 20) (b5 : 0 ≤ s5 ∧ s5 ≤ 4) (b6 : 0 ≤ s6 ∧ s6 ≤ 5) (b7 : 0 ≤ s7 ∧ s7 ≤ 3) (m0 : HP 61 (4096 * s0 + s1) (s3 + 32 * s4 + 1024 * s5) M) (m1 : HP 53 (4096 * s0 + s1) (256 * s2 + 36) M) (m2 : HP 79 (16 * s0 + 1) (s6) M) (m3 : HP 88 (s0) (s7) M) (hG : gI M) : (HP 152 (4096 * s0 + s1) (s3 + 32 * s4 + 1024 * s5) (st M 71 (s6 + 6).toNat (s7)) ∧ True) := by
  have ht : tm (st M 71 (6 * 1 + (s6.toNat)) (s7)) = tm M := tm_st (by decide) (by decide)
  rw [show (s6 + 6).toNat = 6 * 1 + (s6.toNat) by omega]
  refine ⟨Eq.mpr hp_152 ?_, trivial⟩
  rw [ht]
  exact RX_m (fun _ _ _ _ _ h => agR_w71 h) (l_rxa (P := s0) (l := s1) (Eq.mp hp_61 m0) ⟨by omega, by omega, by omega⟩ (q79 (P := s0) (i := 1) m2 ⟨by omega, by decide⟩ (by omega)) (Eq.mp hp_88 m3).2 (by omega))

-- rxb_1
theorem cr_583 (M : pM) (s0 s1 s2 s3 s4 s5 s6 s7 : Int) (b0 : 0 ≤ s0 ∧ s0 ≤ 1900) (b1 : 0 ≤ s1 ∧ s1 ≤ 950) (b2 : 0 ≤ s2 ∧ s2 ≤ 1900) (b3 : 0 ≤ s3 ∧ s3 ≤ 12) (b4 : 0 ≤ s4 ∧ s4 ≤ 20) (b5 : 0 ≤ s5 ∧ s5 ≤ 4) (b6 : 0 ≤ s6 ∧ s6 ≤ 5) (b7 : 0 ≤ s7 ∧ s7 ≤ 3) (m0 : HP 152 (4096 * s0 + s1) (s3 + 32 * s4 + 1024 * s5) M) (m1 : HP 53 (4096 * s0 + s1) (256 * s2 + 36) M) (m2 : HP 79 (16 * s0 + 1) (s6) M) (m3 : HP 79 (16 * s0 + 3) (s7) M) (hG : gI M) : (HP 63 (4096 * s0 + s1) (s3 + 32 * s4 + 1024 * s5) (st M 72 (s6 + 6).toNat (s7)) ∧ True) := by
  have ht : tm (st M 72 (6 * 1 + (s6.toNat)) (s7)) = tm M := tm_st (by decide) (by decide)
  rw [show (s6 + 6).toNat = 6 * 1 + (s6.toNat) by omega]
  refine ⟨Eq.mpr hp_63 ?_, trivial⟩
  rw [ht]
  exact RW_m (fun _ _ _ _ _ h => agR_w72 h) (l_rxb (P := s0) (l := s1) (Eq.mp hp_152 m0) (ex_o (K := 2) (j := 3) (a := s2) (Eq.mp hp_53 m1) ⟨by omega, by omega, by decide, by decide⟩) ⟨by omega, by omega, by omega⟩ (q79 (P := s0) (i := 1) m2 ⟨by omega, by decide⟩ (by omega)) (q79 (P := s0) (i := 3) m3 ⟨by omega, by decide⟩ (by omega)) (by omega))

-- rtw_1
theorem cr_584 (M : pM) (s0 s1 s2 s3 s4 s5 s6 s7 : Int) (b0 : 0 ≤ s0 ∧ s0 ≤ 1900) (b1 : 0 ≤ s1 ∧ s1 ≤ 950) (b2 : 0 ≤ s2 ∧ s2 ≤ 1900) (b3 : 0 ≤ s3 ∧ s3 ≤ 12) (b4 : 0 ≤ s4 ∧ s4 ≤ 20) (b5 : 0 ≤ s5 ∧ s5 ≤ 4) (b6 : 0 ≤ s6 ∧ s6 ≤ 5) (b7 : 1 ≤ s7 ∧ s7 ≤ 40) (m0 : HP 61 (4096 * s0 + s1) (s3 + 32 * s4 + 1024 * s5) M) (m1 : HP 53 (4096 * s0 + s1) (256 * s2 + 51) M) (m2 : HP 79 (16 * s0 + 1) (s6) M) (m3 : HP 79 (16 * s0 + 2) (s7) M) (hG : gI M) : (HP 63 (4096 * s0 + s1) (s3 + 32 * s4 + 1024 * s5) (st M 73 (s6 + 6).toNat (s7)) ∧ True) := by
  have ht : tm (st M 73 (6 * 1 + (s6.toNat)) (s7)) = tm M := tm_st (by decide) (by decide)
  rw [show (s6 + 6).toNat = 6 * 1 + (s6.toNat) by omega]
  refine ⟨Eq.mpr hp_63 ?_, trivial⟩
  rw [ht]
  exact RW_m (fun _ _ _ _ _ h => agR_w73 h) (l_rtw (P := s0) (l := s1) (Eq.mp hp_61 m0) (ex_o (K := 3) (j := 2) (a := s2) (Eq.mp hp_53 m1) ⟨by omega, by omega, by decide, by decide⟩) ⟨by omega, by omega, by omega⟩ (q79 (P := s0) (i := 1) m2 ⟨by omega, by decide⟩ (by omega)) (q79 (P := s0) (i := 2) m3 ⟨by omega, by decide⟩ (by omega)) (by omega))

-- rap74_1
theorem cr_585 (M : pM) (s0 s1 s2 s3 s4 s5 s6 : Int) (b0 : 0 ≤ s0 ∧ s0 ≤ 1900) (b1 : 0 ≤ s1 ∧ s1 ≤ 950) (b2 : 0 ≤ s2 ∧ s2 ≤ 12) (b3 : 0 ≤ s3 ∧ s3 ≤ 20) (b4 : 0 ≤ s4 ∧ s4 ≤ 4) (b5 : 0 ≤ s5 ∧ s5 ≤ 23) (b6 : 0 ≤ s6 ∧ s6 ≤ 63) (m0 : HP 61 (4096 * s0 + s1) (s2 + 32 * s3 + 1024 * s4) M) (f0 : 0 ≤ ((-1) * s2 + s5 - 12)) (hG : gI M) : (HP 61 (4096 * s0 + s1) (s2 + 32 * s3 + 1024 * s4) (st M 74 (s5).toNat (s6)) ∧ True) := by
  have ht : tm (st M 74 (12 * 1 + ((s5 - 12).toNat)) (s6)) = tm M := tm_st (by decide) (by decide)
  rw [show (s5).toNat = 12 * 1 + ((s5 - 12).toNat) by omega]
  refine ⟨Eq.mpr hp_61 ?_, trivial⟩
  rw [ht]
  exact RA_m (fun _ _ _ _ _ h => agR_w74 h) (l_rap (c := 5) (w := s2) (r := s3) (g := s4) (Eq.mp hp_61 m0) (by omega) ⟨⟨by omega, by omega⟩, ⟨by omega, by omega⟩, by omega, by omega⟩ (by omega) (by decide))

-- rap75_1
theorem cr_586 (M : pM) (s0 s1 s2 s3 s4 s5 s6 : Int) (b0 : 0 ≤ s0 ∧ s0 ≤ 1900) (b1 : 0 ≤ s1 ∧ s1 ≤ 950) (b2 : 0 ≤ s2 ∧ s2 ≤ 12) (b3 : 0 ≤ s3 ∧ s3 ≤ 20) (b4 : 0 ≤ s4 ∧ s4 ≤ 4) (b5 : 0 ≤ s5 ∧ s5 ≤ 23) (b6 : 0 ≤ s6 ∧ s6 ≤ 63) (m0 : HP 61 (4096 * s0 + s1) (s2 + 32 * s3 + 1024 * s4) M) (f0 : 0 ≤ ((-1) * s2 + s5 - 12)) (hG : gI M) : (HP 61 (4096 * s0 + s1) (s2 + 32 * s3 + 1024 * s4) (st M 75 (s5).toNat (s6)) ∧ True) := by
  have ht : tm (st M 75 (12 * 1 + ((s5 - 12).toNat)) (s6)) = tm M := tm_st (by decide) (by decide)
  rw [show (s5).toNat = 12 * 1 + ((s5 - 12).toNat) by omega]
  refine ⟨Eq.mpr hp_61 ?_, trivial⟩
  rw [ht]
  exact RA_m (fun _ _ _ _ _ h => agR_w75 h) (l_rap (c := 6) (w := s2) (r := s3) (g := s4) (Eq.mp hp_61 m0) (by omega) ⟨⟨by omega, by omega⟩, ⟨by omega, by omega⟩, by omega, by omega⟩ (by omega) (by decide))

-- rap76_1
theorem cr_587 (M : pM) (s0 s1 s2 s3 s4 s5 s6 : Int) (b0 : 0 ≤ s0 ∧ s0 ≤ 1900) (b1 : 0 ≤ s1 ∧ s1 ≤ 950) (b2 : 0 ≤ s2 ∧ s2 ≤ 12) (b3 : 0 ≤ s3 ∧ s3 ≤ 20) (b4 : 0 ≤ s4 ∧ s4 ≤ 4) (b5 : 0 ≤ s5 ∧ s5 ≤ 23) (b6 : 0 ≤ s6 ∧ s6 ≤ 63) (m0 : HP 61 (4096 * s0 + s1) (s2 + 32 * s3 + 1024 * s4) M) (f0 : 0 ≤ ((-1) * s2 + s5 - 12)) (hG : gI M) : (HP 61 (4096 * s0 + s1) (s2 + 32 * s3 + 1024 * s4) (st M 76 (s5).toNat (s6)) ∧ True) := by
  have ht : tm (st M 76 (12 * 1 + ((s5 - 12).toNat)) (s6)) = tm M := tm_st (by decide) (by decide)
  rw [show (s5).toNat = 12 * 1 + ((s5 - 12).toNat) by omega]
  refine ⟨Eq.mpr hp_61 ?_, trivial⟩
  rw [ht]
  exact RA_m (fun _ _ _ _ _ h => agR_w76 h) (l_rap (c := 7) (w := s2) (r := s3) (g := s4) (Eq.mp hp_61 m0) (by omega) ⟨⟨by omega, by omega⟩, ⟨by omega, by omega⟩, by omega, by omega⟩ (by omega) (by decide))

-- rap77_1
theorem cr_588 (M : pM) (s0 s1 s2 s3 s4 s5 s6 : Int) (b0 : 0 ≤ s0 ∧ s0 ≤ 1900) (b1 : 0 ≤ s1 ∧ s1 ≤ 950) (b2 : 0 ≤ s2 ∧ s2 ≤ 12) (b3 : 0 ≤ s3 ∧ s3 ≤ 20) (b4 : 0 ≤ s4 ∧ s4 ≤ 4) (b5 : 0 ≤ s5 ∧ s5 ≤ 23) (b6 : 0 ≤ s6 ∧ s6 ≤ 63) (m0 : HP 61 (4096 * s0 + s1) (s2 + 32 * s3 + 1024 * s4) M) (f0 : 0 ≤ ((-1) * s2 + s5 - 12)) (hG : gI M) : (HP 61 (4096 * s0 + s1) (s2 + 32 * s3 + 1024 * s4) (st M 77 (s5).toNat (s6)) ∧ True) := by
  have ht : tm (st M 77 (12 * 1 + ((s5 - 12).toNat)) (s6)) = tm M := tm_st (by decide) (by decide)
  rw [show (s5).toNat = 12 * 1 + ((s5 - 12).toNat) by omega]
  refine ⟨Eq.mpr hp_61 ?_, trivial⟩
  rw [ht]
  exact RA_m (fun _ _ _ _ _ h => agR_w77 h) (l_rap (c := 8) (w := s2) (r := s3) (g := s4) (Eq.mp hp_61 m0) (by omega) ⟨⟨by omega, by omega⟩, ⟨by omega, by omega⟩, by omega, by omega⟩ (by omega) (by decide))

-- rrp78_1
theorem cr_589 (M : pM) (s0 s1 s2 s3 s4 s5 s6 : Int) (b0 : 0 ≤ s0 ∧ s0 ≤ 1900) (b1 : 0 ≤ s1 ∧ s1 ≤ 950) (b2 : 0 ≤ s2 ∧ s2 ≤ 12) (b3 : 0 ≤ s3 ∧ s3 ≤ 20) (b4 : 0 ≤ s4 ∧ s4 ≤ 4) (b5 : 0 ≤ s5 ∧ s5 ≤ 39) (b6 : 0 ≤ s6 ∧ s6 ≤ 99) (m0 : HP 61 (4096 * s0 + s1) (s2 + 32 * s3 + 1024 * s4) M) (f0 : 0 ≤ ((-1) * s3 + s5 - 20)) (hG : gI M) : (HP 61 (4096 * s0 + s1) (s2 + 32 * s3 + 1024 * s4) (st M 78 (s5).toNat (s6)) ∧ True) := by
  have ht : tm (st M 78 (20 * 1 + ((s5 - 20).toNat)) (s6)) = tm M := tm_st (by decide) (by decide)
  rw [show (s5).toNat = 20 * 1 + ((s5 - 20).toNat) by omega]
  refine ⟨Eq.mpr hp_61 ?_, trivial⟩
  rw [ht]
  exact RA_m (fun _ _ _ _ _ h => agR_w78 h) (l_rrp (c := 9) (w := s2) (r := s3) (g := s4) (Eq.mp hp_61 m0) (by omega) ⟨⟨by omega, by omega⟩, ⟨by omega, by omega⟩, by omega, by omega⟩ (by omega) (by decide))

-- rrp79_1
theorem cr_590 (M : pM) (s0 s1 s2 s3 s4 s5 s6 : Int) (b0 : 0 ≤ s0 ∧ s0 ≤ 1900) (b1 : 0 ≤ s1 ∧ s1 ≤ 950) (b2 : 0 ≤ s2 ∧ s2 ≤ 12) (b3 : 0 ≤ s3 ∧ s3 ≤ 20) (b4 : 0 ≤ s4 ∧ s4 ≤ 4) (b5 : 0 ≤ s5 ∧ s5 ≤ 39) (b6 : 0 ≤ s6 ∧ s6 ≤ 99) (m0 : HP 61 (4096 * s0 + s1) (s2 + 32 * s3 + 1024 * s4) M) (f0 : 0 ≤ ((-1) * s3 + s5 - 20)) (hG : gI M) : (HP 61 (4096 * s0 + s1) (s2 + 32 * s3 + 1024 * s4) (st M 79 (s5).toNat (s6)) ∧ True) := by
  have ht : tm (st M 79 (20 * 1 + ((s5 - 20).toNat)) (s6)) = tm M := tm_st (by decide) (by decide)
  rw [show (s5).toNat = 20 * 1 + ((s5 - 20).toNat) by omega]
  refine ⟨Eq.mpr hp_61 ?_, trivial⟩
  rw [ht]
  exact RA_m (fun _ _ _ _ _ h => agR_w79 h) (l_rrp (c := 10) (w := s2) (r := s3) (g := s4) (Eq.mp hp_61 m0) (by omega) ⟨⟨by omega, by omega⟩, ⟨by omega, by omega⟩, by omega, by omega⟩ (by omega) (by decide))

-- rrp80_1
theorem cr_591 (M : pM) (s0 s1 s2 s3 s4 s5 s6 : Int) (b0 : 0 ≤ s0 ∧ s0 ≤ 1900) (b1 : 0 ≤ s1 ∧ s1 ≤ 950) (b2 : 0 ≤ s2 ∧ s2 ≤ 12) (b3 : 0 ≤ s3 ∧ s3 ≤ 20) (b4 : 0 ≤ s4 ∧ s4 ≤ 4) (b5 : 0 ≤ s5 ∧ s5 ≤ 39) (b6 : 0 ≤ s6 ∧ s6 ≤ 99) (m0 : HP 61 (4096 * s0 + s1) (s2 + 32 * s3 + 1024 * s4) M) (f0 : 0 ≤ ((-1) * s3 + s5 - 20)) (hG : gI M) : (HP 61 (4096 * s0 + s1) (s2 + 32 * s3 + 1024 * s4) (st M 80 (s5).toNat (s6)) ∧ True) := by
  have ht : tm (st M 80 (20 * 1 + ((s5 - 20).toNat)) (s6)) = tm M := tm_st (by decide) (by decide)
  rw [show (s5).toNat = 20 * 1 + ((s5 - 20).toNat) by omega]
  refine ⟨Eq.mpr hp_61 ?_, trivial⟩
  rw [ht]
  exact RA_m (fun _ _ _ _ _ h => agR_w80 h) (l_rrp (c := 11) (w := s2) (r := s3) (g := s4) (Eq.mp hp_61 m0) (by omega) ⟨⟨by omega, by omega⟩, ⟨by omega, by omega⟩, by omega, by omega⟩ (by omega) (by decide))

-- rae_1
theorem cr_592 (M : pM) (s0 s1 s2 s3 s4 s5 s6 s7 s8 s9 s10 : Int) (b0 : 0 ≤ s0 ∧ s0 ≤ 1900) (b1 : 0 ≤ s1 ∧ s1 ≤ 950) (b2 : 0 ≤ s2 ∧ s2 ≤ 1900) (b3 : 0 ≤ s3 ∧ s3 ≤ 12) (b4 : 0 ≤ s4 ∧ s4 ≤ 20) (b5 : 0 ≤ s5 ∧ s5 ≤ 4) (b6 : 0 ≤ s6 ∧ s6 ≤ 7) (b7 : 0 ≤ s7 ∧ s7 ≤ 7) (b8 : 0 ≤ s8 ∧ s8 ≤ 40) (b9 : 0 ≤ s9 ∧ s9 ≤ 36) (b10 : 1 ≤ s10 ∧ s10 ≤ 36) (m0 : HP 61 (4096 * s0 + s1) (s3 + 32 * s4 + 1024 * s5) M) (m1 : HP 53 (4096 * s0 + s1) (256 * s2 + 73) M) (m2 : HP 79 (16 * s0 + 1) (s6) M) (m3 : HP 79 (16 * s0 + 2) (s7) M) (m4 : HP 79 (16 * s0 + 4) (s8) M) (m5 : HP 79 (16 * s0 + 6) (s9) M) (m6 : HP 79 (16 * s0 + 8) (s10) M) (m7 : (0 ≤ (s3 + 12) ∧ M 74 (s3 + 12).toNat = (s6 + 8 * s7))) (m8 : (0 ≤ (s3 + 12) ∧ M 75 (s3 + 12).toNat = (s8))) (m9 : (0 ≤ (s3 + 12) ∧ M 76 (s3 + 12).toNat = (s9))) (m10 : (0 ≤ (s3 + 12) ∧ M 77 (s3 + 12).toNat = (s10))) (f0 : 0 ≤ ((-1) * s3 + 11)) (hG : gI M) : (HP 63 (4096 * s0 + s1) (s3 + 32 * s4 + 1024 * s5 + 1) M ∧ True) := by
  have hj : (12 + s3).toNat = 12 * 1 + s3.toNat := by omega
  have r0 : M 74 (12 * 1 + s3.toNat) = (s6 + 8 * s7) := by rw [← show (s3 + 12).toNat = 12 * 1 + s3.toNat by omega]; exact m7.2
  have r1 : M 75 (12 * 1 + s3.toNat) = (s8) := by rw [← show (s3 + 12).toNat = 12 * 1 + s3.toNat by omega]; exact m8.2
  have r2 : M 76 (12 * 1 + s3.toNat) = (s9) := by rw [← show (s3 + 12).toNat = 12 * 1 + s3.toNat by omega]; exact m9.2
  have r3 : M 77 (12 * 1 + s3.toNat) = (s10) := by rw [← show (s3 + 12).toNat = 12 * 1 + s3.toNat by omega]; exact m10.2
  exact ⟨Eq.mpr hp_63 (l_rae (w := s3) (r := s4) (g := s5) (P := s0) (l := s1) (Eq.mp hp_61 m0) (by omega) ⟨⟨by omega, by omega⟩, ⟨by omega, by omega⟩, by omega, by omega⟩ (ex_o (K := 4) (j := 8) (a := s2) (Eq.mp hp_53 m1) ⟨by omega, by omega, by decide, by decide⟩) ⟨by omega, by omega, by omega⟩ (q79 (P := s0) (i := 1) m2 ⟨by omega, by decide⟩ (by omega)) (q79 (P := s0) (i := 2) m3 ⟨by omega, by decide⟩ (by omega)) (q79 (P := s0) (i := 4) m4 ⟨by omega, by decide⟩ (by omega)) (q79 (P := s0) (i := 6) m5 ⟨by omega, by decide⟩ (by omega)) (q79 (P := s0) (i := 8) m6 ⟨by omega, by decide⟩ (by omega)) r0 r1 r2 r3 (by omega) (by omega)), trivial⟩

-- rre_1
theorem cr_593 (M : pM) (s0 s1 s2 s3 s4 s5 s6 s7 s8 s9 s10 : Int) (b0 : 0 ≤ s0 ∧ s0 ≤ 1900) (b1 : 0 ≤ s1 ∧ s1 ≤ 950) (b2 : 0 ≤ s2 ∧ s2 ≤ 1900) (b3 : 0 ≤ s3 ∧ s3 ≤ 12) (b4 : 0 ≤ s4 ∧ s4 ≤ 20) (b5 : 0 ≤ s5 ∧ s5 ≤ 4) (b6 : 0 ≤ s6 ∧ s6 ≤ 7) (b7 : 0 ≤ s7 ∧ s7 ≤ 7) (b8 : 0 ≤ s8 ∧ s8 ≤ 7) (b9 : 0 ≤ s9 ∧ s9 ≤ 7) (b10 : 1 ≤ s10 ∧ s10 ≤ 99) (m0 : HP 61 (4096 * s0 + s1) (s3 + 32 * s4 + 1024 * s5) M) (m1 : HP 53 (4096 * s0 + s1) (256 * s2 + 150) M) (m2 : HP 79 (16 * s0 + 1) (s6) M) (m3 : HP 79 (16 * s0 + 2) (s7) M) (m4 : HP 79 (16 * s0 + 3) (s8) M) (m5 : HP 79 (16 * s0 + 4) (s9) M) (m6 : HP 79 (16 * s0 + 5) (s10) M) (m7 : (0 ≤ (s4 + 20) ∧ M 78 (s4 + 20).toNat = (s6 + 8 * s7))) (m8 : (0 ≤ (s4 + 20) ∧ M 79 (s4 + 20).toNat = (s8 + 8 * s9))) (m9 : (0 ≤ (s4 + 20) ∧ M 80 (s4 + 20).toNat = (s10))) (f0 : 0 ≤ ((-1) * s4 + 19)) (hG : gI M) : (HP 63 (4096 * s0 + s1) (s3 + 32 * s4 + 1024 * s5 + 32) M ∧ True) := by
  have hj : (20 + s4).toNat = 20 * 1 + s4.toNat := by omega
  have r0 : M 78 (20 * 1 + s4.toNat) = (s6 + 8 * s7) := by rw [← show (s4 + 20).toNat = 20 * 1 + s4.toNat by omega]; exact m7.2
  have r1 : M 79 (20 * 1 + s4.toNat) = (s8 + 8 * s9) := by rw [← show (s4 + 20).toNat = 20 * 1 + s4.toNat by omega]; exact m8.2
  have r2 : M 80 (20 * 1 + s4.toNat) = (s10) := by rw [← show (s4 + 20).toNat = 20 * 1 + s4.toNat by omega]; exact m9.2
  exact ⟨Eq.mpr hp_63 (l_rre (w := s3) (r := s4) (g := s5) (P := s0) (l := s1) (Eq.mp hp_61 m0) (by omega) ⟨⟨by omega, by omega⟩, ⟨by omega, by omega⟩, by omega, by omega⟩ (ex_o (K := 9) (j := 5) (a := s2) (Eq.mp hp_53 m1) ⟨by omega, by omega, by decide, by decide⟩) ⟨by omega, by omega, by omega⟩ (q79 (P := s0) (i := 1) m2 ⟨by omega, by decide⟩ (by omega)) (q79 (P := s0) (i := 2) m3 ⟨by omega, by decide⟩ (by omega)) (q79 (P := s0) (i := 3) m4 ⟨by omega, by decide⟩ (by omega)) (q79 (P := s0) (i := 4) m5 ⟨by omega, by decide⟩ (by omega)) (q79 (P := s0) (i := 5) m6 ⟨by omega, by decide⟩ (by omega)) r0 r1 r2 (by omega) (by omega)), trivial⟩

-- rfw_1
theorem cr_594 (M : pM) (s0 s1 s2 s3 s4 s5 s6 s7 : Int) (b0 : 0 ≤ s0 ∧ s0 ≤ 1900) (b1 : 0 ≤ s1 ∧ s1 ≤ 950) (b2 : 0 ≤ s2 ∧ s2 ≤ 1900) (b3 : 0 ≤ s3 ∧ s3 ≤ 12) (b4 : 0 ≤ s4 ∧ s4 ≤ 20) (b5 : 0 ≤ s5 ∧ s5 ≤ 4) (b6 : 0 ≤ s6 ∧ s6 ≤ 7) (b7 : 0 ≤ s7 ∧ s7 ≤ 7) (m0 : HP 61 (4096 * s0 + s1) (s3 + 32 * s4 + 1024 * s5) M) (m1 : HP 53 (4096 * s0 + s1) (256 * s2 + 131) M) (m2 : HP 79 (16 * s0 + 1) (s6) M) (m3 : HP 79 (16 * s0 + 2) (s7) M) (hG : gI M) : (HP 63 (4096 * s0 + s1) (s3 + 32 * s4 + 1024 * s5) (st M 86 (s6 + 8 * s7 + 64).toNat (1 : Int)) ∧ True) := by
  have ht : tm (st M 86 (64 * 1 + ((s6 + 8 * s7).toNat)) (1 : Int)) = tm M := tm_st (by decide) (by decide)
  rw [show (s6 + 8 * s7 + 64).toNat = 64 * 1 + ((s6 + 8 * s7).toNat) by omega]
  refine ⟨Eq.mpr hp_63 ?_, trivial⟩
  rw [ht]
  exact RW_m (fun _ _ _ _ _ h => agR_w86 h) (l_rfw (P := s0) (l := s1) (Eq.mp hp_61 m0) (ex_o (K := 8) (j := 2) (a := s2) (Eq.mp hp_53 m1) ⟨by omega, by omega, by decide, by decide⟩) ⟨by omega, by omega, by omega⟩ (q79 (P := s0) (i := 1) m2 ⟨by omega, by decide⟩ (by omega)) (q79 (P := s0) (i := 2) m3 ⟨by omega, by decide⟩ (by omega)) (by omega))

-- on0_1
theorem cr_595 (M : pM) (s0 : Int) (b0 : 0 ≤ s0 ∧ s0 ≤ 9223372036854775807) (hG : gI M) : (HP 154 (4 : Int) (s0) M ∧ True) := by
  exact ⟨Eq.mpr hp_154 (fun i h1 h2 => by omega), trivial⟩

-- onn0_1
theorem cr_596 (M : pM) (s0 s1 s2 : Int) (b0 : 0 ≤ s0 ∧ s0 ≤ 9223372036854775807) (b1 : 4 ≤ s1 ∧ s1 ≤ 7) (m0 : HP 154 (s1) (s0) M) (m1 : (0 ≤ (s1) ∧ M 83 (s1).toNat = (s2))) (f0 : 0 ≤ (s0 + (-1) * s2 - 1)) (hG : gI M) : (HP 154 (s1 + 1) (s0) M ∧ True) := by
  exact ⟨Eq.mpr hp_154 (fun i h1 h2 => if e : 4 + i = s1.toNat then (by rw [e, m1.2]; omega) else Eq.mp hp_154 m0 i h1 (by omega)), trivial⟩

-- onn1_1
theorem cr_597 (M : pM) (s0 s1 s2 : Int) (b0 : 0 ≤ s0 ∧ s0 ≤ 9223372036854775807) (b1 : 4 ≤ s1 ∧ s1 ≤ 7) (m0 : HP 154 (s1) (s0) M) (m1 : (0 ≤ (s1) ∧ M 83 (s1).toNat = (s2))) (f0 : 0 ≤ ((-1) * s0 + s2 - 1)) (hG : gI M) : (HP 154 (s1 + 1) (s0) M ∧ True) := by
  exact ⟨Eq.mpr hp_154 (fun i h1 h2 => if e : 4 + i = s1.toNat then (by rw [e, m1.2]; omega) else Eq.mp hp_154 m0 i h1 (by omega)), trivial⟩

-- rt10_1
theorem cr_598 (M : pM) (s0 s1 s2 s3 s4 s5 s6 s7 s8 s9 s10 : Int) (b0 : 0 ≤ s0 ∧ s0 ≤ 1900) (b1 : 0 ≤ s1 ∧ s1 ≤ 950) (b2 : 0 ≤ s2 ∧ s2 ≤ 1900) (b3 : 0 ≤ s3 ∧ s3 ≤ 1900) (b4 : 0 ≤ s4 ∧ s4 ≤ 1900) (b5 : 0 ≤ s5 ∧ s5 ≤ 9223372036854775807) (b6 : 0 ≤ s6 ∧ s6 ≤ 12) (b7 : 0 ≤ s7 ∧ s7 ≤ 20) (b8 : 0 ≤ s8 ∧ s8 ≤ 4) (b9 : 4 ≤ s9 ∧ s9 ≤ 7) (m0 : HP 53 (4096 * s0 + s1) (256 * s2 + 161) M) (m1 : HP 47 (s2) (262143 : Int) M) (m2 : HP 45 (s2) (s3) M) (m3 : HP 46 (s2) (s4) M) (m4 : HP 143 (2048 * s3 + s4) (s5) M) (m5 : HP 61 (4096 * s0 + s1) (s6 + 32 * s7 + 1024 * s8) M) (m6 : (0 ≤ (s9) ∧ M 83 (s9).toNat = (s10))) (f0 : 0 ≤ (s8 + (-1) * s9 + 3)) (f1 : 0 ≤ (s5 + (-1) * s10)) (f2 : 0 ≤ ((-1) * s5 + s10)) (hG : gI M) : (HP 66 (s3) (3 : Int) M ∧ True) := by
  have hby := hby_tm hG
  obtain ⟨S, hS, hw, ha⟩ := Eq.mp hp_61 m5
  obtain ⟨c1, c2, c3⟩ := qW_o (w := s6) (r := s7) (g := s8) hw (by omega) (by omega) (by omega) (by omega)
  obtain ⟨S2, hS2, hE2⟩ := ex_o (K := 10) (j := 0) (a := s2) (Eq.mp hp_53 m0) ⟨by omega, by omega, by decide, by decide⟩
  have e2 := qat_u hS hS2
  subst e2
  have ha2 : s2 = (qps (tm M) S2.1 1 : Int) := hE2.2.2.2.2
  have hz := (q47 m1).2
  rw [show s2.toNat = qps (tm M) S2.1 1 by omega] at hz
  have g1 := (q45 m2).2
  have g2 := (q46 m3).2
  rw [show s2.toNat = qps (tm M) S2.1 1 by omega] at g1 g2
  obtain ⟨p1, p2, p3⟩ := pk_o (s := s3.toNat) (e := s4.toNat) (Eq.mp hp_143 m4) ⟨by omega, by omega, by omega⟩
  have hv : s5 = qpk 256 0 (tm M) (qps (tm M) S2.1 1) := by unfold qpk; rw [show tS (tm M) (qps (tm M) S2.1 1) = s3.toNat by omega, show tE (tm M) (qps (tm M) S2.1 1) = s4.toNat by omega]; exact p2
  have hnm := ha.2.2.2.2.2.2.2.2.2.1
  have hi : M 83 s9.toNat = s10 := m6.2
  have hn2 := hnm (s9 - 4).toNat (by omega) (by omega)
  have hn1 : M 83 (4 * 1 + (s9 - 4).toNat) = _ := hn2.1
  rw [show 4 * 1 + (s9 - 4).toNat = s9.toNat by omega] at hn1
  have hq : qtn (tm M) S2.1 S2.2 = true := qtn_i (i := (s9 - 4).toNat) (by omega) (by omega) (nm_eq (m := 256) (a := 0) (hi := 122) (by decide) (by decide) hby (fun c _ _ => by omega) hn2.2 (by omega) (by rw [← hn1, ← hv]; omega))
  refine ⟨r_fl (K := 10) (j := 0) m0 m1 m2 ⟨by omega, by omega, by decide⟩ (fun s hs hE e => ?_), trivial⟩
  have e3 := qat_u hS hs
  subst e3
  show (if tK (tm M) (qps (tm M) s.1 1) ≤ 255 then some 1 else if tK (tm M) (qps (tm M) s.1 1) = 262143 then (if qtn (tm M) s.1 s.2 = true then some 3 else none) else some 2) = some 3
  rw [e, if_neg (by decide), if_pos rfl, if_pos hq]

-- rx161_1
theorem cr_599 (M : pM) (s0 s1 s2 s3 s4 s5 s6 s7 s8 s9 : Int) (b0 : 0 ≤ s0 ∧ s0 ≤ 1900) (b1 : 0 ≤ s1 ∧ s1 ≤ 950) (b2 : 0 ≤ s2 ∧ s2 ≤ 1900) (b3 : 0 ≤ s3 ∧ s3 ≤ 1900) (b4 : 0 ≤ s4 ∧ s4 ≤ 1900) (b5 : 0 ≤ s5 ∧ s5 ≤ 9223372036854775807) (b6 : 0 ≤ s6 ∧ s6 ≤ 12) (b7 : 0 ≤ s7 ∧ s7 ≤ 20) (b8 : 0 ≤ s8 ∧ s8 ≤ 4) (b9 : 4 ≤ s9 ∧ s9 ≤ 8) (m0 : HP 53 (4096 * s0 + s1) (256 * s2 + 161) M) (m1 : HP 47 (s2) (262143 : Int) M) (m2 : HP 45 (s2) (s3) M) (m3 : HP 46 (s2) (s4) M) (m4 : HP 143 (2048 * s3 + s4) (s5) M) (m5 : HP 61 (4096 * s0 + s1) (s6 + 32 * s7 + 1024 * s8) M) (m6 : HP 154 (s9) (s5) M) (f0 : 0 ≤ (s8 + (-1) * s9 + 4)) (f1 : 0 ≤ ((-1) * s8 + s9 - 4)) (hG : gI M) : (HP 53 (4096 * s0 + s1) (256 * s4 + 162) M ∧ True) := by
  have hby := hby_tm hG
  obtain ⟨S, hS, hw, ha⟩ := Eq.mp hp_61 m5
  obtain ⟨c1, c2, c3⟩ := qW_o (w := s6) (r := s7) (g := s8) hw (by omega) (by omega) (by omega) (by omega)
  obtain ⟨S2, hS2, hE2⟩ := ex_o (K := 10) (j := 0) (a := s2) (Eq.mp hp_53 m0) ⟨by omega, by omega, by decide, by decide⟩
  have e2 := qat_u hS hS2
  subst e2
  have ha2 : s2 = (qps (tm M) S2.1 1 : Int) := hE2.2.2.2.2
  have hz := (q47 m1).2
  rw [show s2.toNat = qps (tm M) S2.1 1 by omega] at hz
  have g1 := (q45 m2).2
  have g2 := (q46 m3).2
  rw [show s2.toNat = qps (tm M) S2.1 1 by omega] at g1 g2
  obtain ⟨p1, p2, p3⟩ := pk_o (s := s3.toNat) (e := s4.toNat) (Eq.mp hp_143 m4) ⟨by omega, by omega, by omega⟩
  have hv : s5 = qpk 256 0 (tm M) (qps (tm M) S2.1 1) := by unfold qpk; rw [show tS (tm M) (qps (tm M) S2.1 1) = s3.toNat by omega, show tE (tm M) (qps (tm M) S2.1 1) = s4.toNat by omega]; exact p2
  have hnm := ha.2.2.2.2.2.2.2.2.2.1
  have hno : ∀ i : Nat, i < 4 → (i : Int) < S2.2 0 2 → qnm (tm M) (S2.2 13 i).toNat ≠ qnm (tm M) (qps (tm M) S2.1 1) := by
    intro i hi hg he
    have hn2 := hnm i hi hg
    have hn1 : M 83 (4 * 1 + i) = _ := hn2.1
    refine Eq.mp hp_154 m6 i hi (by omega) ?_
    rw [show (4 + i) = 4 * 1 + i by omega, hn1, hv]
    unfold qpk
    rw [pkd_l, pkd_l]
    exact congrArg (lpk 256 0) he
  have hx := r_ex (y' := 256 * s4 + 162) (K := 10) (j := 0) m0 m1 m3 ⟨by omega, by omega, by decide⟩ (by omega) (by decide) (fun s hs hE e => by
    have e3 := qat_u hS hs
    subst e3
    show (if tK (tm M) (qps (tm M) s.1 1) ≤ 255 then some 1 else if tK (tm M) (qps (tm M) s.1 1) = 262143 then (if qtn (tm M) s.1 s.2 = true then some 3 else none) else some 2) = none
    rw [e, if_neg (by decide), if_pos rfl, if_neg (qtn_n hno)])
  exact ⟨hx, trivial⟩
