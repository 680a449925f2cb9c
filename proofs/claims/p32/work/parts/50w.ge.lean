/-! what EQ gives -/
theorem eq_t {b : Nat} {M : pM} (h : qEQ b M) {i : Nat} (hi : i < 6) : M (7 + 9 * b) i = M 73 (6 * b + i) := by
  obtain ⟨hcn, N, A, ha, hw, hc, R', he, hr⟩ := h
  have h1 : qRc b M 3 i = A 5 i := hc.2.2.2.2.1 i hi
  have h2 := hr.2.2.2.2.1 i hi
  rw [he 4 i (by decide) (by decide)] at h2
  have h2 : M 73 (6 * b + i) = A 5 i := h2
  have h1 : M (4 + 9 * b + 3) i = A 5 i := h1
  rw [show 7 + 9 * b = 4 + 9 * b + 3 by omega, h1, h2]
theorem eq_w {b : Nat} {M : pM} (h : qEQ b M) {i : Nat} (hi : i < 6) : M (6 + 9 * b) i < 0 ↔ M 71 (6 * b + i) < 0 := by
  obtain ⟨hcn, N, A, ha, hw, hc, R', he, hr⟩ := h
  have h1 : M (4 + 9 * b + 2) i = if A 3 i < 0 then -1 else 4 * A 4 i + A 3 i := hc.2.2.1 i hi
  have h4 := hc.2.2.2.1 i hi
  have h2 := hr.2.2.1 i hi
  rw [he 2 i (by decide) (by decide)] at h2
  have h2 : M 71 (6 * b + i) = A 3 i := h2
  rw [show 6 + 9 * b = 4 + 9 * b + 2 by omega, h1, h2]
  split <;> omega
theorem eq_wa {b : Nat} {M : pM} (h : qEQ b M) {i : Nat} (hi : i < 12) (hw : (i : Int) < M (3 + 9 * b) 7) : M (8 + 9 * b) (4 * i) = M 74 (12 * b + i) ∧ M (8 + 9 * b) (4 * i + 1) = M 75 (12 * b + i) ∧ M (8 + 9 * b) (4 * i + 2) = M 76 (12 * b + i) ∧ M (8 + 9 * b) (4 * i + 3) = M 77 (12 * b + i) := by
  obtain ⟨hcn, N, A, ha, hW, hc, R', he, hr⟩ := h
  have h0 : (i : Int) < A 0 0 := by omega
  obtain ⟨c0, c1, c2, c3⟩ := hc.2.2.2.2.2.1 i hi h0
  obtain ⟨r0, r1, r2, r3⟩ := hr.2.2.2.2.2.1 i hi h0
  rw [he 5 i (by decide) (by decide)] at r0
  rw [he 6 i (by decide) (by decide)] at r1
  rw [he 7 i (by decide) (by decide)] at r2
  rw [he 8 i (by decide) (by decide)] at r3
  have c0 : M (4 + 9 * b + 4) (4 * i) = A 6 i := c0
  have c1 : M (4 + 9 * b + 4) (4 * i + 1) = A 7 i := c1
  have c2 : M (4 + 9 * b + 4) (4 * i + 2) = A 8 i := c2
  have c3 : M (4 + 9 * b + 4) (4 * i + 3) = A 9 i := c3
  have r0 : M 74 (12 * b + i) = A 6 i := r0
  have r1 : M 75 (12 * b + i) = A 7 i := r1
  have r2 : M 76 (12 * b + i) = A 8 i := r2
  have r3 : M 77 (12 * b + i) = A 9 i := r3
  rw [show 8 + 9 * b = 4 + 9 * b + 4 by omega, c0, c1, c2, c3, r0, r1, r2, r3]
  exact ⟨rfl, rfl, rfl, rfl⟩
theorem stq_ne {M : pM} {C I c j : Nat} {v : Int} (h : ¬ (c = C ∧ j = I)) : st M C I v c j = M c j := if_neg h
theorem qtr_st {M : pM} {P F C I : Nat} {v : Int} (h1 : C = 41 ∨ C = 96 → P ≤ I) (h2 : 42 ≤ C ∧ C ≤ 47 ∨ 97 ≤ C ∧ C ≤ 102 → F ≤ I) (hp : qtr M P F) : qtr (st M C I v) P F :=
  qtr_c (fun c j hc hj => stq_ne (fun ⟨e1, e2⟩ => by have := h1 (by omega); omega)) (fun c j hc hj => stq_ne (fun ⟨e1, e2⟩ => by have := h2 (by omega); omega)) hp
theorem tq_o {M : pM} {x y : Int} {P F : Nat} (h : HP 197 x y M) (hx : x = 256 * (P : Int) + F ∧ F < 256) : qtr M P F := by
  obtain ⟨p, f, h1, h2, h3, h4⟩ := Eq.mp hp_197 h
  have e1 : p = P := by omega
  have e2 : f = F := by omega
  rw [← e1, ← e2]
  exact h4
theorem tx_o {M : pM} {x y : Int} {P F i : Nat} (h : HP 198 x y M) (hx : x = 256 * (P : Int) + F ∧ F < 256) (hy : y = i) : qtx M P F i ∧ i < F := by
  obtain ⟨p, f, k, h1, h2, h0, h3, h5, h4⟩ := Eq.mp hp_198 h
  have e1 : p = P := by omega
  have e2 : f = F := by omega
  have e3 : k = i := by omega
  rw [← e1, ← e2, ← e3]
  exact ⟨h4, h0⟩
