theorem hp_43 {x y : Int} {M : pM} : HP 43 x y M = (∃ P p q : Nat, P ≤ 2 ∧ p ≤ 1900 ∧ x = 2048 * P + p ∧ y = q ∧ al M P p q) := rfl
theorem hp_44 {x y : Int} {M : pM} : HP 44 x y M = (∃ P p : Nat, P ≤ 2 ∧ p ≤ 1900 ∧ x = 2048 * P + p ∧ y = (ru M P p : Int)) := rfl
theorem hp_45 {x y : Int} {M : pM} : HP 45 x y M = (0 ≤ x ∧ y = (tS M x.toNat : Int)) := rfl
theorem hp_46 {x y : Int} {M : pM} : HP 46 x y M = (0 ≤ x ∧ y = (tE M x.toNat : Int)) := rfl
theorem hp_47 {x y : Int} {M : pM} : HP 47 x y M = (0 ≤ x ∧ y = tK M x.toNat) := rfl
theorem hp_50 {x y : Int} {M : pM} : HP 50 x y M = (∃ s e : Nat, s ≤ 1900 ∧ e ≤ 1900 ∧ x = 2048 * s + e ∧ y = wid M s e) := rfl
theorem hp_51 {x y : Int} {M : pM} : HP 51 x y M = (∃ s e : Nat, s ≤ e ∧ e ≤ 1900 ∧ x = 2048 * s + e ∧ y = dv M s (e - s)) := rfl
theorem t_al0 (M : pM) (s0 : Int) (b0 : 0 ≤ s0 ∧ s0 ≤ 1900) : HP 43 (s0 + 2048) s0 M ∧ True := by
  rw [hp_43]
  exact ⟨⟨1, s0.toNat, s0.toNat, by decide, by omega, by omega, by omega, Nat.le_refl _, Or.inr rfl, fun i h1 h2 => by omega⟩, trivial⟩
theorem t_tkE (M : pM) (s0 s1 s2 : Int) (b0 : 0 ≤ s0 ∧ s0 ≤ 1900) (b1 : 0 ≤ s1 ∧ s1 ≤ 1900) (b2 : 0 ≤ s2 ∧ s2 ≤ 1900) (m0 : 0 ≤ (1 : Int) ∧ M 2 (1 : Int).toNat = s2) (m1 : HP 44 s0 s1 M) (f0 : 0 ≤ s1 + (-1) * s2) : HP 45 s0 s1 M ∧ HP 46 s0 s1 M ∧ HP 47 s0 131071 M ∧ True := by
  rw [hp_44] at m1
  rw [hp_45, hp_46, hp_47]
  obtain ⟨P, p, h1, h2, h3, h4⟩ := m1
  have hP : P = 0 := by omega
  subst hP
  have hp : s0.toNat = p := by omega
  have hn : tN M ≤ ru M 0 p := by
    have h5 : (M 2 1).toNat = s2.toNat := by rw [← m0.2]; rfl
    unfold tN
    rw [h5]
    omega
  obtain ⟨q1, q2, q3⟩ := tk_end (p := p) rfl hn
  rw [hp]
  exact ⟨⟨b0.1, by rw [q1]; exact h4⟩, ⟨b0.1, by rw [q2]; exact h4⟩, ⟨b0.1, q3.symm⟩, trivial⟩
