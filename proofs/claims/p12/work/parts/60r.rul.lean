theorem ok1_p {p : Nat} {x y : Int} {M : pM} : ok1 (5000 + p) x y M = HP p x y M := by rw [ok1_hi (Nat.le_add_right _ _), Nat.add_sub_cancel_left]
theorem cvp (p : Nat) {x y x' y' : Int} {M : pM} (h1 : x = x') (h2 : y = y') (h : ok1 (5000 + p) x y M) : HP p x' y' M := by subst h1; subst h2; exact Eq.mp ok1_p h
theorem cvm {c : Nat} {x y x' y' : Int} {M : pM} (hc : c < 5000) (h1 : x = x') (h2 : y = y') (h : ok1 c x y M) : 0 ≤ x' ∧ M c x'.toNat = y' := by subst h1; subst h2; exact Eq.mp (ok1_lo hc) h
theorem pvp (p : Nat) {x y x' y' : Int} {M : pM} (h1 : x = x') (h2 : y = y') (h : HP p x' y' M) : ok1 (5000 + p) x y M := by subst h1; subst h2; exact Eq.mpr ok1_p h
theorem pvm {c : Nat} {x y x' y' : Int} {M : pM} (hc : c < 5000) (h1 : x = x') (h2 : y = y') (h : 0 ≤ x' ∧ M c x'.toNat = y') : ok1 c x y M := by subst h1; subst h2; exact Eq.mpr (ok1_lo hc) h
theorem okM_n {ρ : Nat → Int} {M : pM} : okM ρ [] M := fun e he => by cases he
theorem okM_c {ρ : Nat → Int} {M : pM} {c : Nat} {i v : lf} {m : mf} (h1 : ok1 c (ev ρ i) (ev ρ v) M) (h2 : okM ρ m M) : okM ρ ((c, i, v) :: m) M := by
  intro e he
  rcases List.mem_cons.mp he with q | q
  · subst q; exact h1
  · exact h2 e q
theorem okB_n {ρ : Nat → Int} : okB ρ [] := fun e he => by cases he
theorem okB_c {ρ : Nat → Int} {s : Nat} {a b : Int} {m : bd} (h1 : a ≤ ρ s ∧ ρ s ≤ b) (h2 : okB ρ m) : okB ρ ((s, a, b) :: m) := by
  intro e he
  rcases List.mem_cons.mp he with q | q
  · subst q; exact h1
  · exact h2 e q
theorem okF_n {ρ : Nat → Int} : okF ρ [] := fun e he => by cases he
theorem okF_c {ρ : Nat → Int} {f : lf} {m : List lf} (h1 : 0 ≤ ev ρ f) (h2 : okF ρ m) : okF ρ (f :: m) := by
  intro e he
  rcases List.mem_cons.mp he with q | q
  · subst q; exact h1
  · exact h2 e q
theorem hg1_c {v n m : Int} (h : hg1 v n = some m) : (v = 126 ∧ 1 ≤ n ∧ m = n) ∨ (97 ≤ v ∧ v ≤ 122 ∧ n ≤ 59 ∧ m = n + 1) ∨ (v ≠ 126 ∧ ¬ (97 ≤ v ∧ v ≤ 122) ∧ 2 ≤ n ∧ m = n - 1) := by
  unfold hg1 at h
  split at h
  · next a =>
    split at h
    · next b => exact Or.inl ⟨a, b, (Option.some.inj h).symm⟩
    · cases h
  · next a =>
    split at h
    · next b =>
      split at h
      · next c => exact Or.inr (Or.inl ⟨b.1, b.2, c, (Option.some.inj h).symm⟩)
      · cases h
    · next b =>
      split at h
      · next c => exact Or.inr (Or.inr ⟨a, b, c, (Option.some.inj h).symm⟩)
      · cases h
theorem pb1_c {k : Nat} {w s b m : Int} (h : pb1 k w s b = some m) : (k = 0 ∧ w = 8 ∧ m = 0) ∨ (k ≠ 0 ∧ ((w = 3 ∧ s = 126 ∧ m = b) ∨ (w = 7 ∧ m = b) ∨ (w = 1 ∧ s = 124 ∧ m = b + 1) ∨ ((1 ≤ w ∧ w ≤ 2 ∨ 4 ≤ w ∧ w ≤ 6) ∧ 0 ≤ s ∧ s ≤ 96 ∧ m = b + 1))) := by
  unfold pb1 at h
  split at h
  · next a =>
    split at h
    · next c => exact Or.inl ⟨a, c, (Option.some.inj h).symm⟩
    · cases h
  · next a =>
    refine Or.inr ⟨a, ?_⟩
    split at h
    · next c =>
      split at h
      · next d => exact Or.inl ⟨c, d, (Option.some.inj h).symm⟩
      · cases h
    · split at h
      · next c => exact Or.inr (Or.inl ⟨c, (Option.some.inj h).symm⟩)
      · split at h
        · next c => exact Or.inr (Or.inr (Or.inl ⟨c.1, c.2, (Option.some.inj h).symm⟩))
        · split at h
          · next c => exact Or.inr (Or.inr (Or.inr ⟨c.1, c.2.1, c.2.2, (Option.some.inj h).symm⟩))
          · cases h
theorem pbc_p {M : pM} {k : Nat} {b : Int} (h : pbc M (k + 1) = some b) : ∃ a, pbc M k = some a ∧ pb1 k (M 111 k) (M 112 k) a = some b := by
  have h : (match pbc M k with | none => none | some b => pb1 k (M 111 k) (M 112 k) b) = some b := h
  cases hk : pbc M k with
  | none => rw [hk] at h; cases h
  | some a => rw [hk] at h; exact ⟨a, rfl, h⟩
theorem pbc_bd {M : pM} : ∀ {k : Nat} {b : Int}, pbc M k = some b → 0 ≤ b ∧ (b = 0 ∨ b + 1 ≤ k)
  | 0, b, h => by cases h; exact ⟨by omega, Or.inl rfl⟩
  | k + 1, b, h => by
    obtain ⟨a, h1, h2⟩ := pbc_p h
    have := pbc_bd h1
    rcases pb1_c h2 with q | q
    · omega
    · omega
theorem pbc_pre {M : pM} : ∀ {k d : Nat} {n : Int}, pbc M (k + d) = some n → ∃ m, pbc M k = some m
  | k, 0, n, h => ⟨n, h⟩
  | k, d + 1, n, h => by
    obtain ⟨a, h1, _⟩ := pbc_p (k := k + d) h
    exact pbc_pre h1
theorem hgt_p {M : pM} {s k : Nat} {b : Int} (h : hgt M s (k + 1) = some b) : ∃ a, hgt M s k = some a ∧ hg1 (M 108 (s + k)) a = some b := by
  have h : (match hgt M s k with | none => none | some n => hg1 (M 108 (s + k)) n) = some b := h
  cases hk : hgt M s k with
  | none => rw [hk] at h; cases h
  | some a => rw [hk] at h; exact ⟨a, rfl, h⟩
theorem hgt_bd {M : pM} {s : Nat} : ∀ {k : Nat} {b : Int}, hgt M s k = some b → 0 ≤ b ∧ b ≤ 60
  | 0, b, h => by cases h; omega
  | k + 1, b, h => by
    obtain ⟨a, h1, h2⟩ := hgt_p h
    have := hgt_bd h1
    rcases hg1_c h2 with q | q | q <;> omega
-- leaf0
theorem cr_0 (M : pM) (s0 s1 s2 : Int) (b0 : 0 ≤ s0 ∧ s0 ≤ 298) (b1 : 97 ≤ s1 ∧ s1 ≤ 122) (b2 : 0 ≤ s2 ∧ s2 ≤ 59) (m0 : HP 2 (s0) (s2) M) (hG : gI M) : (HP 2 (s0 + 1) (s2 + 1) (st M 108 (s0).toNat (s1)) ∧ True) := by
  obtain ⟨h1, h2, h3⟩ := m0
  have e := hgt_w (v := s1) h3
  rw [show 0 + s0.toNat = s0.toNat by omega] at e
  refine ⟨⟨by omega, by omega, ?_⟩, trivial⟩
  rw [show (s0 + 1).toNat = s0.toNat + 1 by omega, e]
  unfold hg1
  rw [if_neg (by omega), if_pos ⟨by omega, by omega⟩, if_pos (by omega)]
theorem rul_0 : Rul r_0 := by
  refine ⟨fun h => (by cases h), fun gi gv hg ρ M hm hB hF hG => ?_⟩
  obtain ⟨g1, g2⟩ := List.cons.inj (show ([aI ((0 : Int), ([(0, 1)] : List (Nat × Int))), aI ((0 : Int), ([(1, 1)] : List (Nat × Int)))] : List av) = [.inl gi, .inl gv] from hg)
  obtain ⟨g2, -⟩ := List.cons.inj g2
  cases g1
  cases g2
  have ei : ev ρ ((0 : Int), ([(0, 1)] : List (Nat × Int))) = ((ρ 0)) := by show 0 + (1 * ρ 0 + 0) = _; omega
  have ew : ev ρ ((0 : Int), ([(1, 1)] : List (Nat × Int))) = ((ρ 1)) := by show 0 + (1 * ρ 1 + 0) = _; omega
  rw [show (st M (ctj r_0) (ev ρ ((0 : Int), ([(0, 1)] : List (Nat × Int)))).toNat (ev ρ ((0 : Int), ([(1, 1)] : List (Nat × Int))))) = (st M 108 ((ρ 0)).toNat ((ρ 1))) from by rw [ei, ew]; rfl]
  have H := cr_0 M (ρ 0) (ρ 1) (ρ 2) (hB _ List.mem_cons_self) (hB _ (List.mem_cons_of_mem _ List.mem_cons_self)) (hB _ (List.mem_cons_of_mem _ (List.mem_cons_of_mem _ List.mem_cons_self))) (cvp 2 (x' := ((ρ 0))) (y' := ((ρ 2))) (by show 0 + (1 * ρ 0 + 0) = _; omega) (by show 0 + (1 * ρ 2 + 0) = _; omega) (hm _ List.mem_cons_self)) hG
  obtain ⟨k0, -⟩ := H
  exact ⟨_, List.mem_cons_self, ρ, fun _ _ => rfl, (okM_c (pvp 2 (by show 1 + (1 * ρ 0 + 0) = _; omega) (by show 1 + (1 * ρ 2 + 0) = _; omega) k0) okM_n), okB_n, okF_n⟩
-- not0
theorem cr_1 (M : pM) (s0 s1 s2 : Int) (b0 : 0 ≤ s0 ∧ s0 ≤ 298) (b1 : 126 ≤ s1 ∧ s1 ≤ 126) (b2 : 1 ≤ s2 ∧ s2 ≤ 60) (m0 : HP 2 (s0) (s2) M) (hG : gI M) : (HP 2 (s0 + 1) (s2) (st M 108 (s0).toNat (s1)) ∧ True) := by
  obtain ⟨h1, h2, h3⟩ := m0
  have e := hgt_w (v := s1) h3
  rw [show 0 + s0.toNat = s0.toNat by omega] at e
  refine ⟨⟨by omega, by omega, ?_⟩, trivial⟩
  rw [show (s0 + 1).toNat = s0.toNat + 1 by omega, e]
  unfold hg1
  rw [if_pos (by omega), if_pos (by omega)]
theorem rul_1 : Rul r_1 := by
  refine ⟨fun h => (by cases h), fun gi gv hg ρ M hm hB hF hG => ?_⟩
  obtain ⟨g1, g2⟩ := List.cons.inj (show ([aI ((0 : Int), ([(0, 1)] : List (Nat × Int))), aI ((0 : Int), ([(1, 1)] : List (Nat × Int)))] : List av) = [.inl gi, .inl gv] from hg)
  obtain ⟨g2, -⟩ := List.cons.inj g2
  cases g1
  cases g2
  have ei : ev ρ ((0 : Int), ([(0, 1)] : List (Nat × Int))) = ((ρ 0)) := by show 0 + (1 * ρ 0 + 0) = _; omega
  have ew : ev ρ ((0 : Int), ([(1, 1)] : List (Nat × Int))) = ((ρ 1)) := by show 0 + (1 * ρ 1 + 0) = _; omega
  rw [show (st M (ctj r_1) (ev ρ ((0 : Int), ([(0, 1)] : List (Nat × Int)))).toNat (ev ρ ((0 : Int), ([(1, 1)] : List (Nat × Int))))) = (st M 108 ((ρ 0)).toNat ((ρ 1))) from by rw [ei, ew]; rfl]
  have H := cr_1 M (ρ 0) (ρ 1) (ρ 2) (hB _ List.mem_cons_self) (hB _ (List.mem_cons_of_mem _ List.mem_cons_self)) (hB _ (List.mem_cons_of_mem _ (List.mem_cons_of_mem _ List.mem_cons_self))) (cvp 2 (x' := ((ρ 0))) (y' := ((ρ 2))) (by show 0 + (1 * ρ 0 + 0) = _; omega) (by show 0 + (1 * ρ 2 + 0) = _; omega) (hm _ List.mem_cons_self)) hG
  obtain ⟨k0, -⟩ := H
  exact ⟨_, List.mem_cons_self, ρ, fun _ _ => rfl, (okM_c (pvp 2 (by show 1 + (1 * ρ 0 + 0) = _; omega) (by show 0 + (1 * ρ 2 + 0) = _; omega) k0) okM_n), okB_n, okF_n⟩
-- sign0
theorem cr_2 (M : pM) (s0 s1 s2 : Int) (b0 : 0 ≤ s0 ∧ s0 ≤ 298) (b1 : 0 ≤ s1 ∧ s1 ≤ 96) (b2 : 2 ≤ s2 ∧ s2 ≤ 60) (m0 : HP 2 (s0) (s2) M) (hG : gI M) : (HP 2 (s0 + 1) (s2 - 1) (st M 108 (s0).toNat (s1)) ∧ True) := by
  obtain ⟨h1, h2, h3⟩ := m0
  have e := hgt_w (v := s1) h3
  rw [show 0 + s0.toNat = s0.toNat by omega] at e
  refine ⟨⟨by omega, by omega, ?_⟩, trivial⟩
  rw [show (s0 + 1).toNat = s0.toNat + 1 by omega, e]
  unfold hg1
  rw [if_neg (by omega), if_neg (by omega), if_pos (by omega)]
theorem rul_2 : Rul r_2 := by
  refine ⟨fun h => (by cases h), fun gi gv hg ρ M hm hB hF hG => ?_⟩
  obtain ⟨g1, g2⟩ := List.cons.inj (show ([aI ((0 : Int), ([(0, 1)] : List (Nat × Int))), aI ((0 : Int), ([(1, 1)] : List (Nat × Int)))] : List av) = [.inl gi, .inl gv] from hg)
  obtain ⟨g2, -⟩ := List.cons.inj g2
  cases g1
  cases g2
  have ei : ev ρ ((0 : Int), ([(0, 1)] : List (Nat × Int))) = ((ρ 0)) := by show 0 + (1 * ρ 0 + 0) = _; omega
  have ew : ev ρ ((0 : Int), ([(1, 1)] : List (Nat × Int))) = ((ρ 1)) := by show 0 + (1 * ρ 1 + 0) = _; omega
  rw [show (st M (ctj r_2) (ev ρ ((0 : Int), ([(0, 1)] : List (Nat × Int)))).toNat (ev ρ ((0 : Int), ([(1, 1)] : List (Nat × Int))))) = (st M 108 ((ρ 0)).toNat ((ρ 1))) from by rw [ei, ew]; rfl]
  have H := cr_2 M (ρ 0) (ρ 1) (ρ 2) (hB _ List.mem_cons_self) (hB _ (List.mem_cons_of_mem _ List.mem_cons_self)) (hB _ (List.mem_cons_of_mem _ (List.mem_cons_of_mem _ List.mem_cons_self))) (cvp 2 (x' := ((ρ 0))) (y' := ((ρ 2))) (by show 0 + (1 * ρ 0 + 0) = _; omega) (by show 0 + (1 * ρ 2 + 0) = _; omega) (hm _ List.mem_cons_self)) hG
  obtain ⟨k0, -⟩ := H
  exact ⟨_, List.mem_cons_self, ρ, fun _ _ => rfl, (okM_c (pvp 2 (by show 1 + (1 * ρ 0 + 0) = _; omega) (by show (-1) + (1 * ρ 2 + 0) = _; omega) k0) okM_n), okB_n, okF_n⟩
-- bar0
theorem cr_3 (M : pM) (s0 s1 s2 : Int) (b0 : 0 ≤ s0 ∧ s0 ≤ 298) (b1 : 124 ≤ s1 ∧ s1 ≤ 124) (b2 : 2 ≤ s2 ∧ s2 ≤ 60) (m0 : HP 2 (s0) (s2) M) (hG : gI M) : (HP 2 (s0 + 1) (s2 - 1) (st M 108 (s0).toNat (s1)) ∧ True) := by
  obtain ⟨h1, h2, h3⟩ := m0
  have e := hgt_w (v := s1) h3
  rw [show 0 + s0.toNat = s0.toNat by omega] at e
  refine ⟨⟨by omega, by omega, ?_⟩, trivial⟩
  rw [show (s0 + 1).toNat = s0.toNat + 1 by omega, e]
  unfold hg1
  rw [if_neg (by omega), if_neg (by omega), if_pos (by omega)]
theorem rul_3 : Rul r_3 := by
  refine ⟨fun h => (by cases h), fun gi gv hg ρ M hm hB hF hG => ?_⟩
  obtain ⟨g1, g2⟩ := List.cons.inj (show ([aI ((0 : Int), ([(0, 1)] : List (Nat × Int))), aI ((0 : Int), ([(1, 1)] : List (Nat × Int)))] : List av) = [.inl gi, .inl gv] from hg)
  obtain ⟨g2, -⟩ := List.cons.inj g2
  cases g1
  cases g2
  have ei : ev ρ ((0 : Int), ([(0, 1)] : List (Nat × Int))) = ((ρ 0)) := by show 0 + (1 * ρ 0 + 0) = _; omega
  have ew : ev ρ ((0 : Int), ([(1, 1)] : List (Nat × Int))) = ((ρ 1)) := by show 0 + (1 * ρ 1 + 0) = _; omega
  rw [show (st M (ctj r_3) (ev ρ ((0 : Int), ([(0, 1)] : List (Nat × Int)))).toNat (ev ρ ((0 : Int), ([(1, 1)] : List (Nat × Int))))) = (st M 108 ((ρ 0)).toNat ((ρ 1))) from by rw [ei, ew]; rfl]
  have H := cr_3 M (ρ 0) (ρ 1) (ρ 2) (hB _ List.mem_cons_self) (hB _ (List.mem_cons_of_mem _ List.mem_cons_self)) (hB _ (List.mem_cons_of_mem _ (List.mem_cons_of_mem _ List.mem_cons_self))) (cvp 2 (x' := ((ρ 0))) (y' := ((ρ 2))) (by show 0 + (1 * ρ 0 + 0) = _; omega) (by show 0 + (1 * ρ 2 + 0) = _; omega) (hm _ List.mem_cons_self)) hG
  obtain ⟨k0, -⟩ := H
  exact ⟨_, List.mem_cons_self, ρ, fun _ _ => rfl, (okM_c (pvp 2 (by show 1 + (1 * ρ 0 + 0) = _; omega) (by show (-1) + (1 * ρ 2 + 0) = _; omega) k0) okM_n), okB_n, okF_n⟩
-- ch0
theorem cr_4 (M : pM)  (hG : gI M) : (HP 2 (0 : Int) (0 : Int) M ∧ True) := by
  exact ⟨⟨by omega, by omega, rfl⟩, trivial⟩
theorem rul_4 : Rul r_4 := by
  refine ⟨fun _ ρ M hm hB hF hG => ?_, fun gi gv hg => (by cases hg)⟩
  have H := cr_4 M hG
  obtain ⟨k0, -⟩ := H
  exact ⟨_, List.mem_cons_self, ρ, fun _ _ => rfl, (okM_c (pvp 2 (by show 0 + 0 = _; omega) (by show 0 + 0 = _; omega) k0) okM_n), okB_n, okF_n⟩
-- leaf1
theorem cr_5 (M : pM) (s0 s1 s2 : Int) (b0 : 300 ≤ s0 ∧ s0 ≤ 598) (b1 : 97 ≤ s1 ∧ s1 ≤ 122) (b2 : 0 ≤ s2 ∧ s2 ≤ 59) (m0 : HP 3 (s0) (s2) M) (hG : gI M) : (HP 3 (s0 + 1) (s2 + 1) (st M 108 (s0).toNat (s1)) ∧ True) := by
  obtain ⟨h1, h2, h3⟩ := m0
  have e := hgt_w (v := s1) h3
  rw [show 300 + (s0 - 300).toNat = s0.toNat by omega] at e
  refine ⟨⟨by omega, by omega, ?_⟩, trivial⟩
  rw [show (s0 + 1 - 300).toNat = (s0 - 300).toNat + 1 by omega, e]
  unfold hg1
  rw [if_neg (by omega), if_pos ⟨by omega, by omega⟩, if_pos (by omega)]
theorem rul_5 : Rul r_5 := by
  refine ⟨fun h => (by cases h), fun gi gv hg ρ M hm hB hF hG => ?_⟩
  obtain ⟨g1, g2⟩ := List.cons.inj (show ([aI ((0 : Int), ([(0, 1)] : List (Nat × Int))), aI ((0 : Int), ([(1, 1)] : List (Nat × Int)))] : List av) = [.inl gi, .inl gv] from hg)
  obtain ⟨g2, -⟩ := List.cons.inj g2
  cases g1
  cases g2
  have ei : ev ρ ((0 : Int), ([(0, 1)] : List (Nat × Int))) = ((ρ 0)) := by show 0 + (1 * ρ 0 + 0) = _; omega
  have ew : ev ρ ((0 : Int), ([(1, 1)] : List (Nat × Int))) = ((ρ 1)) := by show 0 + (1 * ρ 1 + 0) = _; omega
  rw [show (st M (ctj r_5) (ev ρ ((0 : Int), ([(0, 1)] : List (Nat × Int)))).toNat (ev ρ ((0 : Int), ([(1, 1)] : List (Nat × Int))))) = (st M 108 ((ρ 0)).toNat ((ρ 1))) from by rw [ei, ew]; rfl]
  have H := cr_5 M (ρ 0) (ρ 1) (ρ 2) (hB _ List.mem_cons_self) (hB _ (List.mem_cons_of_mem _ List.mem_cons_self)) (hB _ (List.mem_cons_of_mem _ (List.mem_cons_of_mem _ List.mem_cons_self))) (cvp 3 (x' := ((ρ 0))) (y' := ((ρ 2))) (by show 0 + (1 * ρ 0 + 0) = _; omega) (by show 0 + (1 * ρ 2 + 0) = _; omega) (hm _ List.mem_cons_self)) hG
  obtain ⟨k0, -⟩ := H
  exact ⟨_, List.mem_cons_self, ρ, fun _ _ => rfl, (okM_c (pvp 3 (by show 1 + (1 * ρ 0 + 0) = _; omega) (by show 1 + (1 * ρ 2 + 0) = _; omega) k0) okM_n), okB_n, okF_n⟩
-- not1
theorem cr_6 (M : pM) (s0 s1 s2 : Int) (b0 : 300 ≤ s0 ∧ s0 ≤ 598) (b1 : 126 ≤ s1 ∧ s1 ≤ 126) (b2 : 1 ≤ s2 ∧ s2 ≤ 60) (m0 : HP 3 (s0) (s2) M) (hG : gI M) : (HP 3 (s0 + 1) (s2) (st M 108 (s0).toNat (s1)) ∧ True) := by
  obtain ⟨h1, h2, h3⟩ := m0
  have e := hgt_w (v := s1) h3
  rw [show 300 + (s0 - 300).toNat = s0.toNat by omega] at e
  refine ⟨⟨by omega, by omega, ?_⟩, trivial⟩
  rw [show (s0 + 1 - 300).toNat = (s0 - 300).toNat + 1 by omega, e]
  unfold hg1
  rw [if_pos (by omega), if_pos (by omega)]
theorem rul_6 : Rul r_6 := by
  refine ⟨fun h => (by cases h), fun gi gv hg ρ M hm hB hF hG => ?_⟩
  obtain ⟨g1, g2⟩ := List.cons.inj (show ([aI ((0 : Int), ([(0, 1)] : List (Nat × Int))), aI ((0 : Int), ([(1, 1)] : List (Nat × Int)))] : List av) = [.inl gi, .inl gv] from hg)
  obtain ⟨g2, -⟩ := List.cons.inj g2
  cases g1
  cases g2
  have ei : ev ρ ((0 : Int), ([(0, 1)] : List (Nat × Int))) = ((ρ 0)) := by show 0 + (1 * ρ 0 + 0) = _; omega
  have ew : ev ρ ((0 : Int), ([(1, 1)] : List (Nat × Int))) = ((ρ 1)) := by show 0 + (1 * ρ 1 + 0) = _; omega
  rw [show (st M (ctj r_6) (ev ρ ((0 : Int), ([(0, 1)] : List (Nat × Int)))).toNat (ev ρ ((0 : Int), ([(1, 1)] : List (Nat × Int))))) = (st M 108 ((ρ 0)).toNat ((ρ 1))) from by rw [ei, ew]; rfl]
  have H := cr_6 M (ρ 0) (ρ 1) (ρ 2) (hB _ List.mem_cons_self) (hB _ (List.mem_cons_of_mem _ List.mem_cons_self)) (hB _ (List.mem_cons_of_mem _ (List.mem_cons_of_mem _ List.mem_cons_self))) (cvp 3 (x' := ((ρ 0))) (y' := ((ρ 2))) (by show 0 + (1 * ρ 0 + 0) = _; omega) (by show 0 + (1 * ρ 2 + 0) = _; omega) (hm _ List.mem_cons_self)) hG
  obtain ⟨k0, -⟩ := H
  exact ⟨_, List.mem_cons_self, ρ, fun _ _ => rfl, (okM_c (pvp 3 (by show 1 + (1 * ρ 0 + 0) = _; omega) (by show 0 + (1 * ρ 2 + 0) = _; omega) k0) okM_n), okB_n, okF_n⟩
-- sign1
theorem cr_7 (M : pM) (s0 s1 s2 : Int) (b0 : 300 ≤ s0 ∧ s0 ≤ 598) (b1 : 0 ≤ s1 ∧ s1 ≤ 96) (b2 : 2 ≤ s2 ∧ s2 ≤ 60) (m0 : HP 3 (s0) (s2) M) (hG : gI M) : (HP 3 (s0 + 1) (s2 - 1) (st M 108 (s0).toNat (s1)) ∧ True) := by
  obtain ⟨h1, h2, h3⟩ := m0
  have e := hgt_w (v := s1) h3
  rw [show 300 + (s0 - 300).toNat = s0.toNat by omega] at e
  refine ⟨⟨by omega, by omega, ?_⟩, trivial⟩
  rw [show (s0 + 1 - 300).toNat = (s0 - 300).toNat + 1 by omega, e]
  unfold hg1
  rw [if_neg (by omega), if_neg (by omega), if_pos (by omega)]
theorem rul_7 : Rul r_7 := by
  refine ⟨fun h => (by cases h), fun gi gv hg ρ M hm hB hF hG => ?_⟩
  obtain ⟨g1, g2⟩ := List.cons.inj (show ([aI ((0 : Int), ([(0, 1)] : List (Nat × Int))), aI ((0 : Int), ([(1, 1)] : List (Nat × Int)))] : List av) = [.inl gi, .inl gv] from hg)
  obtain ⟨g2, -⟩ := List.cons.inj g2
  cases g1
  cases g2
  have ei : ev ρ ((0 : Int), ([(0, 1)] : List (Nat × Int))) = ((ρ 0)) := by show 0 + (1 * ρ 0 + 0) = _; omega
  have ew : ev ρ ((0 : Int), ([(1, 1)] : List (Nat × Int))) = ((ρ 1)) := by show 0 + (1 * ρ 1 + 0) = _; omega
  rw [show (st M (ctj r_7) (ev ρ ((0 : Int), ([(0, 1)] : List (Nat × Int)))).toNat (ev ρ ((0 : Int), ([(1, 1)] : List (Nat × Int))))) = (st M 108 ((ρ 0)).toNat ((ρ 1))) from by rw [ei, ew]; rfl]
  have H := cr_7 M (ρ 0) (ρ 1) (ρ 2) (hB _ List.mem_cons_self) (hB _ (List.mem_cons_of_mem _ List.mem_cons_self)) (hB _ (List.mem_cons_of_mem _ (List.mem_cons_of_mem _ List.mem_cons_self))) (cvp 3 (x' := ((ρ 0))) (y' := ((ρ 2))) (by show 0 + (1 * ρ 0 + 0) = _; omega) (by show 0 + (1 * ρ 2 + 0) = _; omega) (hm _ List.mem_cons_self)) hG
  obtain ⟨k0, -⟩ := H
  exact ⟨_, List.mem_cons_self, ρ, fun _ _ => rfl, (okM_c (pvp 3 (by show 1 + (1 * ρ 0 + 0) = _; omega) (by show (-1) + (1 * ρ 2 + 0) = _; omega) k0) okM_n), okB_n, okF_n⟩
-- bar1
theorem cr_8 (M : pM) (s0 s1 s2 : Int) (b0 : 300 ≤ s0 ∧ s0 ≤ 598) (b1 : 124 ≤ s1 ∧ s1 ≤ 124) (b2 : 2 ≤ s2 ∧ s2 ≤ 60) (m0 : HP 3 (s0) (s2) M) (hG : gI M) : (HP 3 (s0 + 1) (s2 - 1) (st M 108 (s0).toNat (s1)) ∧ True) := by
  obtain ⟨h1, h2, h3⟩ := m0
  have e := hgt_w (v := s1) h3
  rw [show 300 + (s0 - 300).toNat = s0.toNat by omega] at e
  refine ⟨⟨by omega, by omega, ?_⟩, trivial⟩
  rw [show (s0 + 1 - 300).toNat = (s0 - 300).toNat + 1 by omega, e]
  unfold hg1
  rw [if_neg (by omega), if_neg (by omega), if_pos (by omega)]
theorem rul_8 : Rul r_8 := by
  refine ⟨fun h => (by cases h), fun gi gv hg ρ M hm hB hF hG => ?_⟩
  obtain ⟨g1, g2⟩ := List.cons.inj (show ([aI ((0 : Int), ([(0, 1)] : List (Nat × Int))), aI ((0 : Int), ([(1, 1)] : List (Nat × Int)))] : List av) = [.inl gi, .inl gv] from hg)
  obtain ⟨g2, -⟩ := List.cons.inj g2
  cases g1
  cases g2
  have ei : ev ρ ((0 : Int), ([(0, 1)] : List (Nat × Int))) = ((ρ 0)) := by show 0 + (1 * ρ 0 + 0) = _; omega
  have ew : ev ρ ((0 : Int), ([(1, 1)] : List (Nat × Int))) = ((ρ 1)) := by show 0 + (1 * ρ 1 + 0) = _; omega
  rw [show (st M (ctj r_8) (ev ρ ((0 : Int), ([(0, 1)] : List (Nat × Int)))).toNat (ev ρ ((0 : Int), ([(1, 1)] : List (Nat × Int))))) = (st M 108 ((ρ 0)).toNat ((ρ 1))) from by rw [ei, ew]; rfl]
  have H := cr_8 M (ρ 0) (ρ 1) (ρ 2) (hB _ List.mem_cons_self) (hB _ (List.mem_cons_of_mem _ List.mem_cons_self)) (hB _ (List.mem_cons_of_mem _ (List.mem_cons_of_mem _ List.mem_cons_self))) (cvp 3 (x' := ((ρ 0))) (y' := ((ρ 2))) (by show 0 + (1 * ρ 0 + 0) = _; omega) (by show 0 + (1 * ρ 2 + 0) = _; omega) (hm _ List.mem_cons_self)) hG
  obtain ⟨k0, -⟩ := H
  exact ⟨_, List.mem_cons_self, ρ, fun _ _ => rfl, (okM_c (pvp 3 (by show 1 + (1 * ρ 0 + 0) = _; omega) (by show (-1) + (1 * ρ 2 + 0) = _; omega) k0) okM_n), okB_n, okF_n⟩
-- ch1
theorem cr_9 (M : pM)  (hG : gI M) : (HP 3 (300 : Int) (0 : Int) M ∧ True) := by
  exact ⟨⟨by omega, by omega, rfl⟩, trivial⟩
theorem rul_9 : Rul r_9 := by
  refine ⟨fun _ ρ M hm hB hF hG => ?_, fun gi gv hg => (by cases hg)⟩
  have H := cr_9 M hG
  obtain ⟨k0, -⟩ := H
  exact ⟨_, List.mem_cons_self, ρ, fun _ _ => rfl, (okM_c (pvp 3 (by show 300 + 0 = _; omega) (by show 0 + 0 = _; omega) k0) okM_n), okB_n, okF_n⟩
-- pb0
theorem cr_10 (M : pM)  (hG : gI M) : (HP 4 (0 : Int) (0 : Int) M ∧ True) := by
  exact ⟨⟨by omega, by omega, rfl⟩, trivial⟩
theorem rul_10 : Rul r_10 := by
  refine ⟨fun _ ρ M hm hB hF hG => ?_, fun gi gv hg => (by cases hg)⟩
  have H := cr_10 M hG
  obtain ⟨k0, -⟩ := H
  exact ⟨_, List.mem_cons_self, ρ, fun _ _ => rfl, (okM_c (pvp 4 (by show 0 + 0 = _; omega) (by show 0 + 0 = _; omega) k0) okM_n), okB_n, okF_n⟩
-- pw
theorem cr_11 (M : pM) (s0 s1 s2 : Int) (b0 : 0 ≤ s0 ∧ s0 ≤ 79) (b1 : 0 ≤ s1 ∧ s1 ≤ 8) (b2 : 0 ≤ s2 ∧ s2 ≤ 60) (m0 : HP 4 (s0) (s2) M) (hG : gI M) : (HP 4 (s0) (s2) (st M 111 (s0).toNat (s1)) ∧ True) := by
  obtain ⟨h1, h2, h3⟩ := m0
  refine ⟨⟨h1, h2, ?_⟩, trivial⟩
  rw [pbc_congr (M := M) (fun i hi => ⟨by unfold st; rw [if_neg (by omega)], by unfold st; rw [if_neg (by omega)]⟩)]
  exact h3
theorem rul_11 : Rul r_11 := by
  refine ⟨fun h => (by cases h), fun gi gv hg ρ M hm hB hF hG => ?_⟩
  obtain ⟨g1, g2⟩ := List.cons.inj (show ([aI ((0 : Int), ([(0, 1)] : List (Nat × Int))), aI ((0 : Int), ([(1, 1)] : List (Nat × Int)))] : List av) = [.inl gi, .inl gv] from hg)
  obtain ⟨g2, -⟩ := List.cons.inj g2
  cases g1
  cases g2
  have ei : ev ρ ((0 : Int), ([(0, 1)] : List (Nat × Int))) = ((ρ 0)) := by show 0 + (1 * ρ 0 + 0) = _; omega
  have ew : ev ρ ((0 : Int), ([(1, 1)] : List (Nat × Int))) = ((ρ 1)) := by show 0 + (1 * ρ 1 + 0) = _; omega
  rw [show (st M (ctj r_11) (ev ρ ((0 : Int), ([(0, 1)] : List (Nat × Int)))).toNat (ev ρ ((0 : Int), ([(1, 1)] : List (Nat × Int))))) = (st M 111 ((ρ 0)).toNat ((ρ 1))) from by rw [ei, ew]; rfl]
  have H := cr_11 M (ρ 0) (ρ 1) (ρ 2) (hB _ List.mem_cons_self) (hB _ (List.mem_cons_of_mem _ List.mem_cons_self)) (hB _ (List.mem_cons_of_mem _ (List.mem_cons_of_mem _ List.mem_cons_self))) (cvp 4 (x' := ((ρ 0))) (y' := ((ρ 2))) (by show 0 + (1 * ρ 0 + 0) = _; omega) (by show 0 + (1 * ρ 2 + 0) = _; omega) (hm _ List.mem_cons_self)) hG
  obtain ⟨k0, -⟩ := H
  exact ⟨_, List.mem_cons_self, ρ, fun _ _ => rfl, (okM_c (pvp 4 (by show 0 + (1 * ρ 0 + 0) = _; omega) (by show 0 + (1 * ρ 2 + 0) = _; omega) k0) okM_n), okB_n, okF_n⟩
-- ps
theorem cr_12 (M : pM) (s0 s1 s2 : Int) (b0 : 0 ≤ s0 ∧ s0 ≤ 79) (b1 : (-2147483648) ≤ s1 ∧ s1 ≤ 2147483647) (b2 : 0 ≤ s2 ∧ s2 ≤ 60) (m0 : HP 4 (s0) (s2) M) (hG : gI M) : (HP 4 (s0) (s2) (st M 112 (s0).toNat (s1)) ∧ True) := by
  obtain ⟨h1, h2, h3⟩ := m0
  refine ⟨⟨h1, h2, ?_⟩, trivial⟩
  rw [pbc_congr (M := M) (fun i hi => ⟨by unfold st; rw [if_neg (by omega)], by unfold st; rw [if_neg (by omega)]⟩)]
  exact h3
theorem rul_12 : Rul r_12 := by
  refine ⟨fun h => (by cases h), fun gi gv hg ρ M hm hB hF hG => ?_⟩
  obtain ⟨g1, g2⟩ := List.cons.inj (show ([aI ((0 : Int), ([(0, 1)] : List (Nat × Int))), aI ((0 : Int), ([(1, 1)] : List (Nat × Int)))] : List av) = [.inl gi, .inl gv] from hg)
  obtain ⟨g2, -⟩ := List.cons.inj g2
  cases g1
  cases g2
  have ei : ev ρ ((0 : Int), ([(0, 1)] : List (Nat × Int))) = ((ρ 0)) := by show 0 + (1 * ρ 0 + 0) = _; omega
  have ew : ev ρ ((0 : Int), ([(1, 1)] : List (Nat × Int))) = ((ρ 1)) := by show 0 + (1 * ρ 1 + 0) = _; omega
  rw [show (st M (ctj r_12) (ev ρ ((0 : Int), ([(0, 1)] : List (Nat × Int)))).toNat (ev ρ ((0 : Int), ([(1, 1)] : List (Nat × Int))))) = (st M 112 ((ρ 0)).toNat ((ρ 1))) from by rw [ei, ew]; rfl]
  have H := cr_12 M (ρ 0) (ρ 1) (ρ 2) (hB _ List.mem_cons_self) (hB _ (List.mem_cons_of_mem _ List.mem_cons_self)) (hB _ (List.mem_cons_of_mem _ (List.mem_cons_of_mem _ List.mem_cons_self))) (cvp 4 (x' := ((ρ 0))) (y' := ((ρ 2))) (by show 0 + (1 * ρ 0 + 0) = _; omega) (by show 0 + (1 * ρ 2 + 0) = _; omega) (hm _ List.mem_cons_self)) hG
  obtain ⟨k0, -⟩ := H
  exact ⟨_, List.mem_cons_self, ρ, fun _ _ => rfl, (okM_c (pvp 4 (by show 0 + (1 * ρ 0 + 0) = _; omega) (by show 0 + (1 * ρ 2 + 0) = _; omega) k0) okM_n), okB_n, okF_n⟩
-- put8
theorem cr_13 (M : pM) (s0 s1 s2 s3 : Int) (b0 : 0 ≤ s0 ∧ s0 ≤ 0) (b1 : 0 ≤ s1 ∧ s1 ≤ 60) (b2 : 8 ≤ s2 ∧ s2 ≤ 8) (b3 : (-2147483648) ≤ s3 ∧ s3 ≤ 2147483647) (m0 : HP 4 (s0) (s1) M) (m1 : (0 ≤ (s0) ∧ M 111 (s0).toNat = (s2))) (m2 : (0 ≤ (s0) ∧ M 112 (s0).toNat = (s3))) (hG : gI M) : (HP 4 (s0 + 1) (s1) M ∧ True) := by
  obtain ⟨h1, h2, h3⟩ := m0
  have e := pbc_s h3
  rw [m1.2, m2.2] at e
  have hz : s1 = 0 := by rw [show s0.toNat = 0 by omega] at h3; exact (Option.some.inj h3).symm
  refine ⟨⟨by omega, by omega, ?_⟩, trivial⟩
  rw [show (s0 + 1).toNat = s0.toNat + 1 by omega, e]
  unfold pb1
  rw [if_pos (by omega), if_pos (by omega), show s1 = 0 by omega]
theorem rul_13 : Rul r_13 := by
  refine ⟨fun _ ρ M hm hB hF hG => ?_, fun gi gv hg => (by cases hg)⟩
  have H := cr_13 M (ρ 0) (ρ 1) (ρ 2) (ρ 3) (hB _ List.mem_cons_self) (hB _ (List.mem_cons_of_mem _ List.mem_cons_self)) (hB _ (List.mem_cons_of_mem _ (List.mem_cons_of_mem _ List.mem_cons_self))) (hB _ (List.mem_cons_of_mem _ (List.mem_cons_of_mem _ (List.mem_cons_of_mem _ List.mem_cons_self)))) (cvp 4 (x' := ((ρ 0))) (y' := ((ρ 1))) (by show 0 + (1 * ρ 0 + 0) = _; omega) (by show 0 + (1 * ρ 1 + 0) = _; omega) (hm _ List.mem_cons_self)) (cvm (c := 111) (by decide) (x' := ((ρ 0))) (y' := ((ρ 2))) (by show 0 + (1 * ρ 0 + 0) = _; omega) (by show 0 + (1 * ρ 2 + 0) = _; omega) (hm _ (List.mem_cons_of_mem _ List.mem_cons_self))) (cvm (c := 112) (by decide) (x' := ((ρ 0))) (y' := ((ρ 3))) (by show 0 + (1 * ρ 0 + 0) = _; omega) (by show 0 + (1 * ρ 3 + 0) = _; omega) (hm _ (List.mem_cons_of_mem _ (List.mem_cons_of_mem _ List.mem_cons_self)))) hG
  obtain ⟨k0, -⟩ := H
  exact ⟨_, List.mem_cons_self, ρ, fun _ _ => rfl, (okM_c (pvp 4 (by show 1 + (1 * ρ 0 + 0) = _; omega) (by show 0 + (1 * ρ 1 + 0) = _; omega) k0) okM_n), okB_n, okF_n⟩
-- put3
theorem cr_14 (M : pM) (s0 s1 s2 s3 : Int) (b0 : 1 ≤ s0 ∧ s0 ≤ 79) (b1 : 0 ≤ s1 ∧ s1 ≤ 60) (b2 : 3 ≤ s2 ∧ s2 ≤ 3) (b3 : 126 ≤ s3 ∧ s3 ≤ 126) (m0 : HP 4 (s0) (s1) M) (m1 : (0 ≤ (s0) ∧ M 111 (s0).toNat = (s2))) (m2 : (0 ≤ (s0) ∧ M 112 (s0).toNat = (s3))) (hG : gI M) : (HP 4 (s0 + 1) (s1) M ∧ True) := by
  obtain ⟨h1, h2, h3⟩ := m0
  have e := pbc_s h3
  rw [m1.2, m2.2] at e
  refine ⟨⟨by omega, by omega, ?_⟩, trivial⟩
  rw [show (s0 + 1).toNat = s0.toNat + 1 by omega, e]
  unfold pb1
  rw [if_neg (by omega), if_pos (by omega), if_pos (by omega)]
theorem rul_14 : Rul r_14 := by
  refine ⟨fun _ ρ M hm hB hF hG => ?_, fun gi gv hg => (by cases hg)⟩
  have H := cr_14 M (ρ 0) (ρ 1) (ρ 2) (ρ 3) (hB _ List.mem_cons_self) (hB _ (List.mem_cons_of_mem _ List.mem_cons_self)) (hB _ (List.mem_cons_of_mem _ (List.mem_cons_of_mem _ List.mem_cons_self))) (hB _ (List.mem_cons_of_mem _ (List.mem_cons_of_mem _ (List.mem_cons_of_mem _ List.mem_cons_self)))) (cvp 4 (x' := ((ρ 0))) (y' := ((ρ 1))) (by show 0 + (1 * ρ 0 + 0) = _; omega) (by show 0 + (1 * ρ 1 + 0) = _; omega) (hm _ List.mem_cons_self)) (cvm (c := 111) (by decide) (x' := ((ρ 0))) (y' := ((ρ 2))) (by show 0 + (1 * ρ 0 + 0) = _; omega) (by show 0 + (1 * ρ 2 + 0) = _; omega) (hm _ (List.mem_cons_of_mem _ List.mem_cons_self))) (cvm (c := 112) (by decide) (x' := ((ρ 0))) (y' := ((ρ 3))) (by show 0 + (1 * ρ 0 + 0) = _; omega) (by show 0 + (1 * ρ 3 + 0) = _; omega) (hm _ (List.mem_cons_of_mem _ (List.mem_cons_of_mem _ List.mem_cons_self)))) hG
  obtain ⟨k0, -⟩ := H
  exact ⟨_, List.mem_cons_self, ρ, fun _ _ => rfl, (okM_c (pvp 4 (by show 1 + (1 * ρ 0 + 0) = _; omega) (by show 0 + (1 * ρ 1 + 0) = _; omega) k0) okM_n), okB_n, okF_n⟩
-- put7
theorem cr_15 (M : pM) (s0 s1 s2 s3 : Int) (b0 : 1 ≤ s0 ∧ s0 ≤ 79) (b1 : 0 ≤ s1 ∧ s1 ≤ 60) (b2 : 7 ≤ s2 ∧ s2 ≤ 7) (b3 : (-2147483648) ≤ s3 ∧ s3 ≤ 2147483647) (m0 : HP 4 (s0) (s1) M) (m1 : (0 ≤ (s0) ∧ M 111 (s0).toNat = (s2))) (m2 : (0 ≤ (s0) ∧ M 112 (s0).toNat = (s3))) (hG : gI M) : (HP 4 (s0 + 1) (s1) M ∧ True) := by
  obtain ⟨h1, h2, h3⟩ := m0
  have e := pbc_s h3
  rw [m1.2, m2.2] at e
  refine ⟨⟨by omega, by omega, ?_⟩, trivial⟩
  rw [show (s0 + 1).toNat = s0.toNat + 1 by omega, e]
  unfold pb1
  rw [if_neg (by omega), if_neg (by omega), if_pos (by omega)]
theorem rul_15 : Rul r_15 := by
  refine ⟨fun _ ρ M hm hB hF hG => ?_, fun gi gv hg => (by cases hg)⟩
  have H := cr_15 M (ρ 0) (ρ 1) (ρ 2) (ρ 3) (hB _ List.mem_cons_self) (hB _ (List.mem_cons_of_mem _ List.mem_cons_self)) (hB _ (List.mem_cons_of_mem _ (List.mem_cons_of_mem _ List.mem_cons_self))) (hB _ (List.mem_cons_of_mem _ (List.mem_cons_of_mem _ (List.mem_cons_of_mem _ List.mem_cons_self)))) (cvp 4 (x' := ((ρ 0))) (y' := ((ρ 1))) (by show 0 + (1 * ρ 0 + 0) = _; omega) (by show 0 + (1 * ρ 1 + 0) = _; omega) (hm _ List.mem_cons_self)) (cvm (c := 111) (by decide) (x' := ((ρ 0))) (y' := ((ρ 2))) (by show 0 + (1 * ρ 0 + 0) = _; omega) (by show 0 + (1 * ρ 2 + 0) = _; omega) (hm _ (List.mem_cons_of_mem _ List.mem_cons_self))) (cvm (c := 112) (by decide) (x' := ((ρ 0))) (y' := ((ρ 3))) (by show 0 + (1 * ρ 0 + 0) = _; omega) (by show 0 + (1 * ρ 3 + 0) = _; omega) (hm _ (List.mem_cons_of_mem _ (List.mem_cons_of_mem _ List.mem_cons_self)))) hG
  obtain ⟨k0, -⟩ := H
  exact ⟨_, List.mem_cons_self, ρ, fun _ _ => rfl, (okM_c (pvp 4 (by show 1 + (1 * ρ 0 + 0) = _; omega) (by show 0 + (1 * ρ 1 + 0) = _; omega) k0) okM_n), okB_n, okF_n⟩
-- putb1
theorem cr_16 (M : pM) (s0 s1 s2 s3 : Int) (b0 : 1 ≤ s0 ∧ s0 ≤ 79) (b1 : 0 ≤ s1 ∧ s1 ≤ 60) (b2 : 1 ≤ s2 ∧ s2 ≤ 2) (b3 : 0 ≤ s3 ∧ s3 ≤ 96) (m0 : HP 4 (s0) (s1) M) (m1 : (0 ≤ (s0) ∧ M 111 (s0).toNat = (s2))) (m2 : (0 ≤ (s0) ∧ M 112 (s0).toNat = (s3))) (hG : gI M) : (HP 4 (s0 + 1) (s1 + 1) M ∧ True) := by
  obtain ⟨h1, h2, h3⟩ := m0
  have e := pbc_s h3
  rw [m1.2, m2.2] at e
  refine ⟨⟨by omega, by omega, ?_⟩, trivial⟩
  rw [show (s0 + 1).toNat = s0.toNat + 1 by omega, e]
  unfold pb1
  rw [if_neg (by omega), if_neg (by omega), if_neg (by omega), if_neg (by omega), if_pos (by omega)]
theorem rul_16 : Rul r_16 := by
  refine ⟨fun _ ρ M hm hB hF hG => ?_, fun gi gv hg => (by cases hg)⟩
  have H := cr_16 M (ρ 0) (ρ 1) (ρ 2) (ρ 3) (hB _ List.mem_cons_self) (hB _ (List.mem_cons_of_mem _ List.mem_cons_self)) (hB _ (List.mem_cons_of_mem _ (List.mem_cons_of_mem _ List.mem_cons_self))) (hB _ (List.mem_cons_of_mem _ (List.mem_cons_of_mem _ (List.mem_cons_of_mem _ List.mem_cons_self)))) (cvp 4 (x' := ((ρ 0))) (y' := ((ρ 1))) (by show 0 + (1 * ρ 0 + 0) = _; omega) (by show 0 + (1 * ρ 1 + 0) = _; omega) (hm _ List.mem_cons_self)) (cvm (c := 111) (by decide) (x' := ((ρ 0))) (y' := ((ρ 2))) (by show 0 + (1 * ρ 0 + 0) = _; omega) (by show 0 + (1 * ρ 2 + 0) = _; omega) (hm _ (List.mem_cons_of_mem _ List.mem_cons_self))) (cvm (c := 112) (by decide) (x' := ((ρ 0))) (y' := ((ρ 3))) (by show 0 + (1 * ρ 0 + 0) = _; omega) (by show 0 + (1 * ρ 3 + 0) = _; omega) (hm _ (List.mem_cons_of_mem _ (List.mem_cons_of_mem _ List.mem_cons_self)))) hG
  obtain ⟨k0, -⟩ := H
  exact ⟨_, List.mem_cons_self, ρ, fun _ _ => rfl, (okM_c (pvp 4 (by show 1 + (1 * ρ 0 + 0) = _; omega) (by show 1 + (1 * ρ 1 + 0) = _; omega) k0) okM_n), okB_n, okF_n⟩
-- putb2
theorem cr_17 (M : pM) (s0 s1 s2 s3 : Int) (b0 : 1 ≤ s0 ∧ s0 ≤ 79) (b1 : 0 ≤ s1 ∧ s1 ≤ 60) (b2 : 4 ≤ s2 ∧ s2 ≤ 6) (b3 : 0 ≤ s3 ∧ s3 ≤ 96) (m0 : HP 4 (s0) (s1) M) (m1 : (0 ≤ (s0) ∧ M 111 (s0).toNat = (s2))) (m2 : (0 ≤ (s0) ∧ M 112 (s0).toNat = (s3))) (hG : gI M) : (HP 4 (s0 + 1) (s1 + 1) M ∧ True) := by
  obtain ⟨h1, h2, h3⟩ := m0
  have e := pbc_s h3
  rw [m1.2, m2.2] at e
  refine ⟨⟨by omega, by omega, ?_⟩, trivial⟩
  rw [show (s0 + 1).toNat = s0.toNat + 1 by omega, e]
  unfold pb1
  rw [if_neg (by omega), if_neg (by omega), if_neg (by omega), if_neg (by omega), if_pos (by omega)]
theorem rul_17 : Rul r_17 := by
  refine ⟨fun _ ρ M hm hB hF hG => ?_, fun gi gv hg => (by cases hg)⟩
  have H := cr_17 M (ρ 0) (ρ 1) (ρ 2) (ρ 3) (hB _ List.mem_cons_self) (hB _ (List.mem_cons_of_mem _ List.mem_cons_self)) (hB _ (List.mem_cons_of_mem _ (List.mem_cons_of_mem _ List.mem_cons_self))) (hB _ (List.mem_cons_of_mem _ (List.mem_cons_of_mem _ (List.mem_cons_of_mem _ List.mem_cons_self)))) (cvp 4 (x' := ((ρ 0))) (y' := ((ρ 1))) (by show 0 + (1 * ρ 0 + 0) = _; omega) (by show 0 + (1 * ρ 1 + 0) = _; omega) (hm _ List.mem_cons_self)) (cvm (c := 111) (by decide) (x' := ((ρ 0))) (y' := ((ρ 2))) (by show 0 + (1 * ρ 0 + 0) = _; omega) (by show 0 + (1 * ρ 2 + 0) = _; omega) (hm _ (List.mem_cons_of_mem _ List.mem_cons_self))) (cvm (c := 112) (by decide) (x' := ((ρ 0))) (y' := ((ρ 3))) (by show 0 + (1 * ρ 0 + 0) = _; omega) (by show 0 + (1 * ρ 3 + 0) = _; omega) (hm _ (List.mem_cons_of_mem _ (List.mem_cons_of_mem _ List.mem_cons_self)))) hG
  obtain ⟨k0, -⟩ := H
  exact ⟨_, List.mem_cons_self, ρ, fun _ _ => rfl, (okM_c (pvp 4 (by show 1 + (1 * ρ 0 + 0) = _; omega) (by show 1 + (1 * ρ 1 + 0) = _; omega) k0) okM_n), okB_n, okF_n⟩
-- putb3
theorem cr_18 (M : pM) (s0 s1 s2 s3 : Int) (b0 : 1 ≤ s0 ∧ s0 ≤ 79) (b1 : 0 ≤ s1 ∧ s1 ≤ 60) (b2 : 1 ≤ s2 ∧ s2 ≤ 1) (b3 : 124 ≤ s3 ∧ s3 ≤ 124) (m0 : HP 4 (s0) (s1) M) (m1 : (0 ≤ (s0) ∧ M 111 (s0).toNat = (s2))) (m2 : (0 ≤ (s0) ∧ M 112 (s0).toNat = (s3))) (hG : gI M) : (HP 4 (s0 + 1) (s1 + 1) M ∧ True) := by
  obtain ⟨h1, h2, h3⟩ := m0
  have e := pbc_s h3
  rw [m1.2, m2.2] at e
  refine ⟨⟨by omega, by omega, ?_⟩, trivial⟩
  rw [show (s0 + 1).toNat = s0.toNat + 1 by omega, e]
  unfold pb1
  rw [if_neg (by omega), if_neg (by omega), if_neg (by omega), if_pos (by omega)]
theorem rul_18 : Rul r_18 := by
  refine ⟨fun _ ρ M hm hB hF hG => ?_, fun gi gv hg => (by cases hg)⟩
  have H := cr_18 M (ρ 0) (ρ 1) (ρ 2) (ρ 3) (hB _ List.mem_cons_self) (hB _ (List.mem_cons_of_mem _ List.mem_cons_self)) (hB _ (List.mem_cons_of_mem _ (List.mem_cons_of_mem _ List.mem_cons_self))) (hB _ (List.mem_cons_of_mem _ (List.mem_cons_of_mem _ (List.mem_cons_of_mem _ List.mem_cons_self)))) (cvp 4 (x' := ((ρ 0))) (y' := ((ρ 1))) (by show 0 + (1 * ρ 0 + 0) = _; omega) (by show 0 + (1 * ρ 1 + 0) = _; omega) (hm _ List.mem_cons_self)) (cvm (c := 111) (by decide) (x' := ((ρ 0))) (y' := ((ρ 2))) (by show 0 + (1 * ρ 0 + 0) = _; omega) (by show 0 + (1 * ρ 2 + 0) = _; omega) (hm _ (List.mem_cons_of_mem _ List.mem_cons_self))) (cvm (c := 112) (by decide) (x' := ((ρ 0))) (y' := ((ρ 3))) (by show 0 + (1 * ρ 0 + 0) = _; omega) (by show 0 + (1 * ρ 3 + 0) = _; omega) (hm _ (List.mem_cons_of_mem _ (List.mem_cons_of_mem _ List.mem_cons_self)))) hG
  obtain ⟨k0, -⟩ := H
  exact ⟨_, List.mem_cons_self, ρ, fun _ _ => rfl, (okM_c (pvp 4 (by show 1 + (1 * ρ 0 + 0) = _; omega) (by show 1 + (1 * ρ 1 + 0) = _; omega) k0) okM_n), okB_n, okF_n⟩
-- pk
theorem cr_19 (M : pM) (s0 s1 s2 s3 : Int) (b0 : 1 ≤ s0 ∧ s0 ≤ 80) (b1 : 0 ≤ s1 ∧ s1 ≤ 60) (b2 : 0 ≤ s2 ∧ s2 ≤ 79) (b3 : 0 ≤ s3 ∧ s3 ≤ 8) (m0 : HP 4 (s0) (s1) M) (m1 : (0 ≤ (s2) ∧ M 111 (s2).toNat = (s3))) (f0 : 0 ≤ (s0 + (-1) * s2 - 1)) (hG : gI M) : (0 ≤ ((-1) * s2) ∧ 0 ≤ (s2) ∧ 0 ≤ ((-1) * s3 + 8) ∧ 0 ≤ (s3 - 8) ∧ True) ∨ (0 ≤ (s2 - 1) ∧ 0 ≤ ((-1) * s3 + 7) ∧ 0 ≤ (s3 - 1) ∧ True) := by
  obtain ⟨h1, h2, h3⟩ := m0
  have h3 : pbc M (s2.toNat + 1 + (s0.toNat - (s2.toNat + 1))) = some s1 := by rw [show s2.toNat + 1 + (s0.toNat - (s2.toNat + 1)) = s0.toNat by omega]; exact h3
  obtain ⟨m, hm⟩ := pbc_pre h3
  obtain ⟨a, _, hb⟩ := pbc_p hm
  rw [m1.2] at hb
  rcases pb1_c hb with q | q
  · exact Or.inl ⟨by omega, by omega, by omega, by omega, trivial⟩
  · exact Or.inr ⟨by omega, by omega, by omega, trivial⟩
theorem rul_19 : Rul r_19 := by
  refine ⟨fun _ ρ M hm hB hF hG => ?_, fun gi gv hg => (by cases hg)⟩
  have H := cr_19 M (ρ 0) (ρ 1) (ρ 2) (ρ 3) (hB _ List.mem_cons_self) (hB _ (List.mem_cons_of_mem _ List.mem_cons_self)) (hB _ (List.mem_cons_of_mem _ (List.mem_cons_of_mem _ List.mem_cons_self))) (hB _ (List.mem_cons_of_mem _ (List.mem_cons_of_mem _ (List.mem_cons_of_mem _ List.mem_cons_self)))) (cvp 4 (x' := ((ρ 0))) (y' := ((ρ 1))) (by show 0 + (1 * ρ 0 + 0) = _; omega) (by show 0 + (1 * ρ 1 + 0) = _; omega) (hm _ List.mem_cons_self)) (cvm (c := 111) (by decide) (x' := ((ρ 2))) (y' := ((ρ 3))) (by show 0 + (1 * ρ 2 + 0) = _; omega) (by show 0 + (1 * ρ 3 + 0) = _; omega) (hm _ (List.mem_cons_of_mem _ List.mem_cons_self))) (by have h := hF _ List.mem_cons_self; have h : 0 ≤ (-1) + (1 * ρ 0 + ((-1) * ρ 2 + 0)) := h; omega) hG
  rcases H with H | H
  · skip
    obtain ⟨f0, f1, f2, f3, -⟩ := H
    exact ⟨_, List.mem_cons_self, ρ, fun _ _ => rfl, okM_n, okB_n, (okF_c (by show 0 ≤ 0 + ((-1) * ρ 2 + 0); omega) (okF_c (by show 0 ≤ 0 + (1 * ρ 2 + 0); omega) (okF_c (by show 0 ≤ 8 + ((-1) * ρ 3 + 0); omega) (okF_c (by show 0 ≤ (-8) + (1 * ρ 3 + 0); omega) okF_n))))⟩
  · skip
    obtain ⟨f0, f1, f2, -⟩ := H
    exact ⟨_, (List.mem_cons_of_mem _ List.mem_cons_self), ρ, fun _ _ => rfl, okM_n, okB_n, (okF_c (by show 0 ≤ (-1) + (1 * ρ 2 + 0); omega) (okF_c (by show 0 ≤ 7 + ((-1) * ρ 3 + 0); omega) (okF_c (by show 0 ≤ (-1) + (1 * ρ 3 + 0); omega) okF_n)))⟩
-- pop
theorem cr_20 (M : pM) (s0 s1 s2 : Int) (b0 : 2 ≤ s0 ∧ s0 ≤ 80) (b1 : 0 ≤ s1 ∧ s1 ≤ 60) (b2 : 1 ≤ s2 ∧ s2 ≤ 7) (m0 : HP 4 (s0) (s1) M) (m1 : (0 ≤ (s0 - 1) ∧ M 111 (s0 - 1).toNat = (s2))) (hG : gI M) : (HP 4 (s0 - 1) (s1) M ∧ (0 ≤ (s0 - 1) ∧ M 112 (s0 - 1).toNat = (126 : Int)) ∧ 0 ≤ ((-1) * s2 + 3) ∧ 0 ≤ (s2 - 3) ∧ 0 ≤ (s0 + (-1) * s1 - 2) ∧ True) ∨ (∃ t0 : Int, 0 ≤ t0 ∧ t0 ≤ 96 ∧ HP 4 (s0 - 1) (s1 - 1) M ∧ (0 ≤ (s0 - 1) ∧ M 112 (s0 - 1).toNat = (t0)) ∧ 0 ≤ ((-1) * s2 + 2) ∧ 0 ≤ (s1 - 1) ∧ True) ∨ (HP 4 (s0 - 1) (s1 - 1) M ∧ (0 ≤ (s0 - 1) ∧ M 112 (s0 - 1).toNat = (124 : Int)) ∧ 0 ≤ ((-1) * s2 + 1) ∧ 0 ≤ (s2 - 1) ∧ 0 ≤ (s1 - 1) ∧ True) ∨ (∃ t0 : Int, 0 ≤ t0 ∧ t0 ≤ 96 ∧ HP 4 (s0 - 1) (s1 - 1) M ∧ (0 ≤ (s0 - 1) ∧ M 112 (s0 - 1).toNat = (t0)) ∧ 0 ≤ (s2 - 4) ∧ 0 ≤ ((-1) * s2 + 6) ∧ 0 ≤ (s1 - 1) ∧ True) ∨ (HP 4 (s0 - 1) (s1) M ∧ 0 ≤ ((-1) * s2 + 7) ∧ 0 ≤ (s2 - 7) ∧ 0 ≤ (s0 + (-1) * s1 - 2) ∧ True) := by
  obtain ⟨h1, h2, h3⟩ := m0
  obtain ⟨k, hk⟩ : ∃ k, k = (s0 - 1).toNat := ⟨_, rfl⟩
  rw [show s0.toNat = k + 1 by omega] at h3
  obtain ⟨a, ha, hb⟩ := pbc_p h3
  have hbd := pbc_bd ha
  have m1 := m1.2
  rw [← hk] at m1
  rw [m1] at hb
  have hn : ∀ y, a = y → HP 4 (s0 - 1) y M := fun y hy => ⟨by omega, by omega, by rw [← hk, ha, hy]⟩
  have hs : ∀ y, M 112 k = y → (0 ≤ (s0 - 1) ∧ M 112 (s0 - 1).toNat = y) := fun y hy => ⟨by omega, by rw [← hk]; exact hy⟩
  rcases pb1_c hb with q | ⟨_, q | q | q | ⟨q1, q2, q3, q4⟩⟩
  · omega
  · exact Or.inl ⟨hn _ q.2.2.symm, hs _ q.2.1, by omega, by omega, by omega, trivial⟩
  · exact Or.inr (Or.inr (Or.inr (Or.inr ⟨hn _ q.2.symm, by omega, by omega, by omega, trivial⟩)))
  · exact Or.inr (Or.inr (Or.inl ⟨hn _ (by omega), hs _ q.2.1, by omega, by omega, by omega, trivial⟩))
  · rcases q1 with q1 | q1
    · exact Or.inr (Or.inl ⟨M 112 k, q2, q3, hn _ (by omega), hs _ rfl, by omega, by omega, trivial⟩)
    · exact Or.inr (Or.inr (Or.inr (Or.inl ⟨M 112 k, q2, q3, hn _ (by omega), hs _ rfl, by omega, by omega, by omega, trivial⟩)))
theorem rul_20 : Rul r_20 := by
  refine ⟨fun _ ρ M hm hB hF hG => ?_, fun gi gv hg => (by cases hg)⟩
  have H := cr_20 M (ρ 0) (ρ 1) (ρ 2) (hB _ List.mem_cons_self) (hB _ (List.mem_cons_of_mem _ List.mem_cons_self)) (hB _ (List.mem_cons_of_mem _ (List.mem_cons_of_mem _ List.mem_cons_self))) (cvp 4 (x' := ((ρ 0))) (y' := ((ρ 1))) (by show 0 + (1 * ρ 0 + 0) = _; omega) (by show 0 + (1 * ρ 1 + 0) = _; omega) (hm _ List.mem_cons_self)) (cvm (c := 111) (by decide) (x' := ((ρ 0) - 1)) (y' := ((ρ 2))) (by show (-1) + (1 * ρ 0 + 0) = _; omega) (by show 0 + (1 * ρ 2 + 0) = _; omega) (hm _ (List.mem_cons_of_mem _ List.mem_cons_self))) hG
  rcases H with H | H
  · skip
    obtain ⟨k0, k1, f0, f1, f2, -⟩ := H
    exact ⟨_, List.mem_cons_self, ρ, fun _ _ => rfl, (okM_c (pvp 4 (by show (-1) + (1 * ρ 0 + 0) = _; omega) (by show 0 + (1 * ρ 1 + 0) = _; omega) k0) (okM_c (pvm (c := 112) (by decide) (by show (-1) + (1 * ρ 0 + 0) = _; omega) (by show 126 + 0 = _; omega) k1) okM_n)), okB_n, (okF_c (by show 0 ≤ 3 + ((-1) * ρ 2 + 0); omega) (okF_c (by show 0 ≤ (-3) + (1 * ρ 2 + 0); omega) (okF_c (by show 0 ≤ (-2) + (1 * ρ 0 + ((-1) * ρ 1 + 0)); omega) okF_n)))⟩
  rcases H with H | H
  · skip
    obtain ⟨t0, u0, v0, k0, k1, f0, f1, -⟩ := H
    obtain ⟨ρ', ha, a0, a1, a2, a3⟩ : ∃ ρ' : Nat → Int, agr 3 ρ ρ' ∧ ρ' 0 = ρ 0 ∧ ρ' 1 = ρ 1 ∧ ρ' 2 = ρ 2 ∧ ρ' 3 = t0 := ⟨fun s => if s = 3 then t0 else ρ s, fun s hs => by show (if s = 3 then t0 else ρ s) = _; rw [if_neg (by omega)], rfl, rfl, rfl, rfl⟩
    exact ⟨_, (List.mem_cons_of_mem _ List.mem_cons_self), ρ', ha, (okM_c (pvp 4 (by show (-1) + (1 * ρ' 0 + 0) = _; omega) (by show (-1) + (1 * ρ' 1 + 0) = _; omega) k0) (okM_c (pvm (c := 112) (by decide) (by show (-1) + (1 * ρ' 0 + 0) = _; omega) (by show 0 + (1 * ρ' 3 + 0) = _; omega) k1) okM_n)), (okB_c (by omega) okB_n), (okF_c (by show 0 ≤ 2 + ((-1) * ρ' 2 + 0); omega) (okF_c (by show 0 ≤ (-1) + (1 * ρ' 1 + 0); omega) okF_n))⟩
  rcases H with H | H
  · skip
    obtain ⟨k0, k1, f0, f1, f2, -⟩ := H
    exact ⟨_, (List.mem_cons_of_mem _ (List.mem_cons_of_mem _ List.mem_cons_self)), ρ, fun _ _ => rfl, (okM_c (pvp 4 (by show (-1) + (1 * ρ 0 + 0) = _; omega) (by show (-1) + (1 * ρ 1 + 0) = _; omega) k0) (okM_c (pvm (c := 112) (by decide) (by show (-1) + (1 * ρ 0 + 0) = _; omega) (by show 124 + 0 = _; omega) k1) okM_n)), okB_n, (okF_c (by show 0 ≤ 1 + ((-1) * ρ 2 + 0); omega) (okF_c (by show 0 ≤ (-1) + (1 * ρ 2 + 0); omega) (okF_c (by show 0 ≤ (-1) + (1 * ρ 1 + 0); omega) okF_n)))⟩
  rcases H with H | H
  · skip
    obtain ⟨t0, u0, v0, k0, k1, f0, f1, f2, -⟩ := H
    obtain ⟨ρ', ha, a0, a1, a2, a3⟩ : ∃ ρ' : Nat → Int, agr 3 ρ ρ' ∧ ρ' 0 = ρ 0 ∧ ρ' 1 = ρ 1 ∧ ρ' 2 = ρ 2 ∧ ρ' 3 = t0 := ⟨fun s => if s = 3 then t0 else ρ s, fun s hs => by show (if s = 3 then t0 else ρ s) = _; rw [if_neg (by omega)], rfl, rfl, rfl, rfl⟩
    exact ⟨_, (List.mem_cons_of_mem _ (List.mem_cons_of_mem _ (List.mem_cons_of_mem _ List.mem_cons_self))), ρ', ha, (okM_c (pvp 4 (by show (-1) + (1 * ρ' 0 + 0) = _; omega) (by show (-1) + (1 * ρ' 1 + 0) = _; omega) k0) (okM_c (pvm (c := 112) (by decide) (by show (-1) + (1 * ρ' 0 + 0) = _; omega) (by show 0 + (1 * ρ' 3 + 0) = _; omega) k1) okM_n)), (okB_c (by omega) okB_n), (okF_c (by show 0 ≤ (-4) + (1 * ρ' 2 + 0); omega) (okF_c (by show 0 ≤ 6 + ((-1) * ρ' 2 + 0); omega) (okF_c (by show 0 ≤ (-1) + (1 * ρ' 1 + 0); omega) okF_n)))⟩
  · skip
    obtain ⟨k0, f0, f1, f2, -⟩ := H
    exact ⟨_, (List.mem_cons_of_mem _ (List.mem_cons_of_mem _ (List.mem_cons_of_mem _ (List.mem_cons_of_mem _ List.mem_cons_self)))), ρ, fun _ _ => rfl, (okM_c (pvp 4 (by show (-1) + (1 * ρ 0 + 0) = _; omega) (by show 0 + (1 * ρ 1 + 0) = _; omega) k0) okM_n), okB_n, (okF_c (by show 0 ≤ 7 + ((-1) * ρ 2 + 0); omega) (okF_c (by show 0 ≤ (-7) + (1 * ρ 2 + 0); omega) (okF_c (by show 0 ≤ (-2) + (1 * ρ 0 + ((-1) * ρ 1 + 0)); omega) okF_n)))⟩
-- pop1
theorem cr_21 (M : pM) (s0 s1 s2 : Int) (b0 : 1 ≤ s0 ∧ s0 ≤ 1) (b1 : 0 ≤ s1 ∧ s1 ≤ 60) (b2 : 8 ≤ s2 ∧ s2 ≤ 8) (m0 : HP 4 (s0) (s1) M) (m1 : (0 ≤ (s0 - 1) ∧ M 111 (s0 - 1).toNat = (s2))) (hG : gI M) : (HP 4 (0 : Int) (0 : Int) M ∧ 0 ≤ ((-1) * s1) ∧ 0 ≤ (s1) ∧ True) := by
  obtain ⟨h1, h2, h3⟩ := m0
  rw [show s0.toNat = 0 + 1 by omega] at h3
  obtain ⟨a, ha, hb⟩ := pbc_p h3
  rcases pb1_c hb with q | q
  · exact ⟨⟨by omega, by omega, rfl⟩, by omega, by omega, trivial⟩
  · exact absurd rfl q.1
theorem rul_21 : Rul r_21 := by
  refine ⟨fun _ ρ M hm hB hF hG => ?_, fun gi gv hg => (by cases hg)⟩
  have H := cr_21 M (ρ 0) (ρ 1) (ρ 2) (hB _ List.mem_cons_self) (hB _ (List.mem_cons_of_mem _ List.mem_cons_self)) (hB _ (List.mem_cons_of_mem _ (List.mem_cons_of_mem _ List.mem_cons_self))) (cvp 4 (x' := ((ρ 0))) (y' := ((ρ 1))) (by show 0 + (1 * ρ 0 + 0) = _; omega) (by show 0 + (1 * ρ 1 + 0) = _; omega) (hm _ List.mem_cons_self)) (cvm (c := 111) (by decide) (x' := ((ρ 0) - 1)) (y' := ((ρ 2))) (by show (-1) + (1 * ρ 0 + 0) = _; omega) (by show 0 + (1 * ρ 2 + 0) = _; omega) (hm _ (List.mem_cons_of_mem _ List.mem_cons_self))) hG
  obtain ⟨k0, f0, f1, -⟩ := H
  exact ⟨_, List.mem_cons_self, ρ, fun _ _ => rfl, (okM_c (pvp 4 (by show 0 + 0 = _; omega) (by show 0 + 0 = _; omega) k0) okM_n), okB_n, (okF_c (by show 0 ≤ 0 + ((-1) * ρ 1 + 0); omega) (okF_c (by show 0 ≤ 0 + (1 * ρ 1 + 0); omega) okF_n))⟩
-- nt0
theorem cr_22 (M : pM) (s0 s1 : Int) (b0 : 0 ≤ s0 ∧ s0 ≤ 1901) (b1 : 0 ≤ s1 ∧ s1 ≤ 2) (m0 : (0 ≤ (8 : Int) ∧ M 61 (8 : Int).toNat = (s1))) (hG : gI M) : (HP 5 (s0) (0 : Int) M ∧ True) := by
  have h : M 61 8 = s1 := m0.2
  exact ⟨fun h' => by omega, trivial⟩
theorem rul_22 : Rul r_22 := by
  refine ⟨fun _ ρ M hm hB hF hG => ?_, fun gi gv hg => (by cases hg)⟩
  have H := cr_22 M (ρ 0) (ρ 1) (hB _ List.mem_cons_self) (hB _ (List.mem_cons_of_mem _ List.mem_cons_self)) (cvm (c := 61) (by decide) (x' := (8 : Int)) (y' := ((ρ 1))) (by show 8 + 0 = _; omega) (by show 0 + (1 * ρ 1 + 0) = _; omega) (hm _ List.mem_cons_self)) hG
  obtain ⟨k0, -⟩ := H
  exact ⟨_, List.mem_cons_self, ρ, fun _ _ => rfl, (okM_c (pvp 5 (by show 0 + (1 * ρ 0 + 0) = _; omega) (by show 0 + 0 = _; omega) k0) okM_n), okB_n, okF_n⟩
-- nt4
theorem cr_23 (M : pM) (s0 s1 : Int) (b0 : 0 ≤ s0 ∧ s0 ≤ 1901) (b1 : 4 ≤ s1 ∧ s1 ≤ 5) (m0 : (0 ≤ (8 : Int) ∧ M 61 (8 : Int).toNat = (s1))) (hG : gI M) : (HP 5 (s0) (0 : Int) M ∧ True) := by
  have h : M 61 8 = s1 := m0.2
  exact ⟨fun h' => by omega, trivial⟩
theorem rul_23 : Rul r_23 := by
  refine ⟨fun _ ρ M hm hB hF hG => ?_, fun gi gv hg => (by cases hg)⟩
  have H := cr_23 M (ρ 0) (ρ 1) (hB _ List.mem_cons_self) (hB _ (List.mem_cons_of_mem _ List.mem_cons_self)) (cvm (c := 61) (by decide) (x' := (8 : Int)) (y' := ((ρ 1))) (by show 8 + 0 = _; omega) (by show 0 + (1 * ρ 1 + 0) = _; omega) (hm _ List.mem_cons_self)) hG
  obtain ⟨k0, -⟩ := H
  exact ⟨_, List.mem_cons_self, ρ, fun _ _ => rfl, (okM_c (pvp 5 (by show 0 + (1 * ρ 0 + 0) = _; omega) (by show 0 + 0 = _; omega) k0) okM_n), okB_n, okF_n⟩
-- nw
theorem cr_24 (M : pM) (s0 : Int) (b0 : 0 ≤ s0 ∧ s0 ≤ 1901) (m0 : HP 6 (s0) (0 : Int) M) (hG : gI M) : (HP 5 (s0) (0 : Int) M ∧ True) := by
  exact ⟨fun _ => m0, trivial⟩
theorem rul_24 : Rul r_24 := by
  refine ⟨fun _ ρ M hm hB hF hG => ?_, fun gi gv hg => (by cases hg)⟩
  have H := cr_24 M (ρ 0) (hB _ List.mem_cons_self) (cvp 6 (x' := ((ρ 0))) (y' := (0 : Int)) (by show 0 + (1 * ρ 0 + 0) = _; omega) (by show 0 + 0 = _; omega) (hm _ List.mem_cons_self)) hG
  obtain ⟨k0, -⟩ := H
  exact ⟨_, List.mem_cons_self, ρ, fun _ _ => rfl, (okM_c (pvp 5 (by show 0 + (1 * ρ 0 + 0) = _; omega) (by show 0 + 0 = _; omega) k0) okM_n), okB_n, okF_n⟩
-- lkout0
theorem cr_25 (M : pM) (s0 s1 : Int) (b0 : 0 ≤ s0 ∧ s0 ≤ 300) (b1 : 0 ≤ s1 ∧ s1 ≤ 1) (m0 : HP 7 (0 : Int) (0 : Int) M) (m1 : (0 ≤ (80 : Int) ∧ M 61 (80 : Int).toNat = (0 : Int))) (m2 : (0 ≤ (0 : Int) ∧ M 110 (0 : Int).toNat = (s0))) (m3 : (0 ≤ (85 : Int) ∧ M 61 (85 : Int).toNat = (s1))) (hG : gI M) : (0 ≤ ((-1) * s1) ∧ 0 ≤ (s1) ∧ True) ∨ (∃ t0 : Int, 0 ≤ t0 ∧ t0 ≤ 60 ∧ HP 2 (s0) (t0) M ∧ 0 ≤ ((-1) * s1 + 1) ∧ 0 ≤ (s1 - 1) ∧ 0 ≤ ((-1) * s0 + 299) ∧ True) := by
  obtain ⟨-, h1⟩ := m1
  obtain ⟨-, h2⟩ := m2
  obtain ⟨-, h3⟩ := m3
  have h1 : M 61 80 = 0 := h1
  have h2 : M 110 0 = s0 := h2
  have h3 : M 61 85 = s1 := h3
  have m0 : M 61 85 ≠ 0 → ∃ H : Int, 0 ≤ H ∧ H ≤ 60 ∧ ((M 61 80 = 0 ∧ 0 ≤ M 110 0 ∧ M 110 0 ≤ 299 ∧ hgt M 0 (M 110 0).toNat = some H) ∨ (M 61 80 = 1 ∧ 0 ≤ M 110 1 ∧ M 110 1 ≤ 299 ∧ hgt M 300 (M 110 1).toNat = some H)) := m0
  by_cases hz : s1 = 0
  · exact Or.inl ⟨by omega, by omega, trivial⟩
  · obtain ⟨H, a1, a2, a3⟩ := m0 (by omega)
    rcases a3 with ⟨a3, a4, a5, a6⟩ | ⟨a3, a4, a5, a6⟩
    · rw [h2] at a4 a5 a6
      exact Or.inr ⟨H, a1, a2, ⟨by omega, by omega, a6⟩, by omega, by omega, by omega, trivial⟩
    · omega
theorem rul_25 : Rul r_25 := by
  refine ⟨fun _ ρ M hm hB hF hG => ?_, fun gi gv hg => (by cases hg)⟩
  have H := cr_25 M (ρ 0) (ρ 1) (hB _ List.mem_cons_self) (hB _ (List.mem_cons_of_mem _ List.mem_cons_self)) (cvp 7 (x' := (0 : Int)) (y' := (0 : Int)) (by show 0 + 0 = _; omega) (by show 0 + 0 = _; omega) (hm _ List.mem_cons_self)) (cvm (c := 61) (by decide) (x' := (80 : Int)) (y' := (0 : Int)) (by show 80 + 0 = _; omega) (by show 0 + 0 = _; omega) (hm _ (List.mem_cons_of_mem _ List.mem_cons_self))) (cvm (c := 110) (by decide) (x' := (0 : Int)) (y' := ((ρ 0))) (by show 0 + 0 = _; omega) (by show 0 + (1 * ρ 0 + 0) = _; omega) (hm _ (List.mem_cons_of_mem _ (List.mem_cons_of_mem _ List.mem_cons_self)))) (cvm (c := 61) (by decide) (x' := (85 : Int)) (y' := ((ρ 1))) (by show 85 + 0 = _; omega) (by show 0 + (1 * ρ 1 + 0) = _; omega) (hm _ (List.mem_cons_of_mem _ (List.mem_cons_of_mem _ (List.mem_cons_of_mem _ List.mem_cons_self))))) hG
  rcases H with H | H
  · skip
    obtain ⟨f0, f1, -⟩ := H
    exact ⟨_, List.mem_cons_self, ρ, fun _ _ => rfl, okM_n, okB_n, (okF_c (by show 0 ≤ 0 + ((-1) * ρ 1 + 0); omega) (okF_c (by show 0 ≤ 0 + (1 * ρ 1 + 0); omega) okF_n))⟩
  · skip
    obtain ⟨t0, u0, v0, k0, f0, f1, f2, -⟩ := H
    obtain ⟨ρ', ha, a0, a1, a2⟩ : ∃ ρ' : Nat → Int, agr 2 ρ ρ' ∧ ρ' 0 = ρ 0 ∧ ρ' 1 = ρ 1 ∧ ρ' 2 = t0 := ⟨fun s => if s = 2 then t0 else ρ s, fun s hs => by show (if s = 2 then t0 else ρ s) = _; rw [if_neg (by omega)], rfl, rfl, rfl⟩
    exact ⟨_, (List.mem_cons_of_mem _ List.mem_cons_self), ρ', ha, (okM_c (pvp 2 (by show 0 + (1 * ρ' 0 + 0) = _; omega) (by show 0 + (1 * ρ' 2 + 0) = _; omega) k0) okM_n), (okB_c (by omega) okB_n), (okF_c (by show 0 ≤ 1 + ((-1) * ρ' 1 + 0); omega) (okF_c (by show 0 ≤ (-1) + (1 * ρ' 1 + 0); omega) (okF_c (by show 0 ≤ 299 + ((-1) * ρ' 0 + 0); omega) okF_n)))⟩
-- lkin0
theorem cr_26 (M : pM) (s0 s1 : Int) (b0 : 0 ≤ s0 ∧ s0 ≤ 300) (b1 : 0 ≤ s1 ∧ s1 ≤ 60) (m0 : (0 ≤ (80 : Int) ∧ M 61 (80 : Int).toNat = (0 : Int))) (m1 : (0 ≤ (0 : Int) ∧ M 110 (0 : Int).toNat = (s0))) (m2 : HP 2 (s0) (s1) M) (hG : gI M) : (HP 7 (0 : Int) (0 : Int) M ∧ True) := by
  obtain ⟨-, h1⟩ := m0
  obtain ⟨-, h2⟩ := m1
  obtain ⟨h3, h4, h5⟩ := m2
  have h1 : M 61 80 = 0 := h1
  have h2 : M 110 0 = s0 := h2
  refine ⟨fun _ => ⟨s1, b1.1, b1.2, Or.inl ⟨h1, by omega, by omega, ?_⟩⟩, trivial⟩
  rw [h2]
  exact h5
theorem rul_26 : Rul r_26 := by
  refine ⟨fun _ ρ M hm hB hF hG => ?_, fun gi gv hg => (by cases hg)⟩
  have H := cr_26 M (ρ 0) (ρ 1) (hB _ List.mem_cons_self) (hB _ (List.mem_cons_of_mem _ List.mem_cons_self)) (cvm (c := 61) (by decide) (x' := (80 : Int)) (y' := (0 : Int)) (by show 80 + 0 = _; omega) (by show 0 + 0 = _; omega) (hm _ List.mem_cons_self)) (cvm (c := 110) (by decide) (x' := (0 : Int)) (y' := ((ρ 0))) (by show 0 + 0 = _; omega) (by show 0 + (1 * ρ 0 + 0) = _; omega) (hm _ (List.mem_cons_of_mem _ List.mem_cons_self))) (cvp 2 (x' := ((ρ 0))) (y' := ((ρ 1))) (by show 0 + (1 * ρ 0 + 0) = _; omega) (by show 0 + (1 * ρ 1 + 0) = _; omega) (hm _ (List.mem_cons_of_mem _ (List.mem_cons_of_mem _ List.mem_cons_self)))) hG
  obtain ⟨k0, -⟩ := H
  exact ⟨_, List.mem_cons_self, ρ, fun _ _ => rfl, (okM_c (pvp 7 (by show 0 + 0 = _; omega) (by show 0 + 0 = _; omega) k0) okM_n), okB_n, okF_n⟩
-- chs0
theorem cr_27 (M : pM) (s0 s1 s2 s3 s4 : Int) (b0 : 0 ≤ s0 ∧ s0 ≤ 299) (b1 : 0 ≤ s1 ∧ s1 ≤ 299) (b2 : 0 ≤ s2 ∧ s2 ≤ 60) (b3 : (-2147483648) ≤ s3 ∧ s3 ≤ 2147483647) (b4 : 0 ≤ s4 ∧ s4 ≤ 60) (m0 : HP 2 (s0) (s2) M) (m1 : HP 2 (s1) (s4) M) (m2 : (0 ≤ (s0) ∧ M 108 (s0).toNat = (s3))) (f0 : 0 ≤ ((-1) * s0 + s1 - 1)) (hG : gI M) : (HP 2 (s0 + 1) (s2) M ∧ 0 ≤ ((-1) * s3 + 126) ∧ 0 ≤ (s3 - 126) ∧ 0 ≤ (s2 - 1) ∧ True) ∨ (HP 2 (s0 + 1) (s2 + 1) M ∧ 0 ≤ (s3 - 97) ∧ 0 ≤ ((-1) * s3 + 122) ∧ 0 ≤ ((-1) * s2 + 59) ∧ True) ∨ (HP 2 (s0 + 1) (s2 - 1) M ∧ 0 ≤ ((-1) * s3 + 96) ∧ 0 ≤ (s2 - 2) ∧ True) ∨ (HP 2 (s0 + 1) (s2 - 1) M ∧ 0 ≤ (s3 - 123) ∧ 0 ≤ ((-1) * s3 + 125) ∧ 0 ≤ (s2 - 2) ∧ True) ∨ (HP 2 (s0 + 1) (s2 - 1) M ∧ 0 ≤ (s3 - 127) ∧ 0 ≤ (s2 - 2) ∧ True) := by
  obtain ⟨h1, h2, h3⟩ := m0
  obtain ⟨h4, h5, h6⟩ := m1
  obtain ⟨-, h7⟩ := m2
  have e0 : ∃ k, k = (s0).toNat := ⟨_, rfl⟩
  obtain ⟨k, hk⟩ := e0
  rw [← hk] at h3
  have h6 : hgt M 0 (k + 1 + ((s1).toNat - (k + 1))) = some s4 := by rw [show k + 1 + ((s1).toNat - (k + 1)) = (s1).toNat by omega]; exact h6
  obtain ⟨m, hm⟩ := hgt_pre h6
  obtain ⟨a, ha, hb⟩ := hgt_p hm
  rw [h3] at ha
  cases ha
  rw [show 0 + k = s0.toNat by omega, h7] at hb
  have hn : ∀ y, m = y → HP 2 (s0 + 1) y M := fun y hy => ⟨by omega, by omega, by rw [show (s0 + 1).toNat = k + 1 by omega, hm, hy]⟩
  rcases hg1_c hb with q | q | q
  · exact Or.inl ⟨hn _ q.2.2, by omega, by omega, by omega, trivial⟩
  · exact Or.inr (Or.inl ⟨hn _ q.2.2.2, by omega, by omega, by omega, trivial⟩)
  · have hq := hn _ q.2.2.2
    rcases (show s3 ≤ 96 ∨ (123 ≤ s3 ∧ s3 ≤ 125) ∨ 127 ≤ s3 by omega) with w | w | w
    · exact Or.inr (Or.inr (Or.inl ⟨hq, by omega, by omega, trivial⟩))
    · exact Or.inr (Or.inr (Or.inr (Or.inl ⟨hq, by omega, by omega, by omega, trivial⟩)))
    · exact Or.inr (Or.inr (Or.inr (Or.inr ⟨hq, by omega, by omega, trivial⟩)))
theorem rul_27 : Rul r_27 := by
  refine ⟨fun _ ρ M hm hB hF hG => ?_, fun gi gv hg => (by cases hg)⟩
  have H := cr_27 M (ρ 0) (ρ 1) (ρ 2) (ρ 3) (ρ 4) (hB _ List.mem_cons_self) (hB _ (List.mem_cons_of_mem _ List.mem_cons_self)) (hB _ (List.mem_cons_of_mem _ (List.mem_cons_of_mem _ List.mem_cons_self))) (hB _ (List.mem_cons_of_mem _ (List.mem_cons_of_mem _ (List.mem_cons_of_mem _ List.mem_cons_self)))) (hB _ (List.mem_cons_of_mem _ (List.mem_cons_of_mem _ (List.mem_cons_of_mem _ (List.mem_cons_of_mem _ List.mem_cons_self))))) (cvp 2 (x' := ((ρ 0))) (y' := ((ρ 2))) (by show 0 + (1 * ρ 0 + 0) = _; omega) (by show 0 + (1 * ρ 2 + 0) = _; omega) (hm _ List.mem_cons_self)) (cvp 2 (x' := ((ρ 1))) (y' := ((ρ 4))) (by show 0 + (1 * ρ 1 + 0) = _; omega) (by show 0 + (1 * ρ 4 + 0) = _; omega) (hm _ (List.mem_cons_of_mem _ List.mem_cons_self))) (cvm (c := 108) (by decide) (x' := ((ρ 0))) (y' := ((ρ 3))) (by show 0 + (1 * ρ 0 + 0) = _; omega) (by show 0 + (1 * ρ 3 + 0) = _; omega) (hm _ (List.mem_cons_of_mem _ (List.mem_cons_of_mem _ List.mem_cons_self)))) (by have h := hF _ List.mem_cons_self; have h : 0 ≤ (-1) + ((-1) * ρ 0 + (1 * ρ 1 + 0)) := h; omega) hG
  rcases H with H | H
  · skip
    obtain ⟨k0, f0, f1, f2, -⟩ := H
    exact ⟨_, List.mem_cons_self, ρ, fun _ _ => rfl, (okM_c (pvp 2 (by show 1 + (1 * ρ 0 + 0) = _; omega) (by show 0 + (1 * ρ 2 + 0) = _; omega) k0) okM_n), okB_n, (okF_c (by show 0 ≤ 126 + ((-1) * ρ 3 + 0); omega) (okF_c (by show 0 ≤ (-126) + (1 * ρ 3 + 0); omega) (okF_c (by show 0 ≤ (-1) + (1 * ρ 2 + 0); omega) okF_n)))⟩
  rcases H with H | H
  · skip
    obtain ⟨k0, f0, f1, f2, -⟩ := H
    exact ⟨_, (List.mem_cons_of_mem _ List.mem_cons_self), ρ, fun _ _ => rfl, (okM_c (pvp 2 (by show 1 + (1 * ρ 0 + 0) = _; omega) (by show 1 + (1 * ρ 2 + 0) = _; omega) k0) okM_n), okB_n, (okF_c (by show 0 ≤ (-97) + (1 * ρ 3 + 0); omega) (okF_c (by show 0 ≤ 122 + ((-1) * ρ 3 + 0); omega) (okF_c (by show 0 ≤ 59 + ((-1) * ρ 2 + 0); omega) okF_n)))⟩
  rcases H with H | H
  · skip
    obtain ⟨k0, f0, f1, -⟩ := H
    exact ⟨_, (List.mem_cons_of_mem _ (List.mem_cons_of_mem _ List.mem_cons_self)), ρ, fun _ _ => rfl, (okM_c (pvp 2 (by show 1 + (1 * ρ 0 + 0) = _; omega) (by show (-1) + (1 * ρ 2 + 0) = _; omega) k0) okM_n), okB_n, (okF_c (by show 0 ≤ 96 + ((-1) * ρ 3 + 0); omega) (okF_c (by show 0 ≤ (-2) + (1 * ρ 2 + 0); omega) okF_n))⟩
  rcases H with H | H
  · skip
    obtain ⟨k0, f0, f1, f2, -⟩ := H
    exact ⟨_, (List.mem_cons_of_mem _ (List.mem_cons_of_mem _ (List.mem_cons_of_mem _ List.mem_cons_self))), ρ, fun _ _ => rfl, (okM_c (pvp 2 (by show 1 + (1 * ρ 0 + 0) = _; omega) (by show (-1) + (1 * ρ 2 + 0) = _; omega) k0) okM_n), okB_n, (okF_c (by show 0 ≤ (-123) + (1 * ρ 3 + 0); omega) (okF_c (by show 0 ≤ 125 + ((-1) * ρ 3 + 0); omega) (okF_c (by show 0 ≤ (-2) + (1 * ρ 2 + 0); omega) okF_n)))⟩
  · skip
    obtain ⟨k0, f0, f1, -⟩ := H
    exact ⟨_, (List.mem_cons_of_mem _ (List.mem_cons_of_mem _ (List.mem_cons_of_mem _ (List.mem_cons_of_mem _ List.mem_cons_self)))), ρ, fun _ _ => rfl, (okM_c (pvp 2 (by show 1 + (1 * ρ 0 + 0) = _; omega) (by show (-1) + (1 * ρ 2 + 0) = _; omega) k0) okM_n), okB_n, (okF_c (by show 0 ≤ (-127) + (1 * ρ 3 + 0); omega) (okF_c (by show 0 ≤ (-2) + (1 * ρ 2 + 0); omega) okF_n))⟩
-- lkout1
theorem cr_28 (M : pM) (s0 s1 : Int) (b0 : 0 ≤ s0 ∧ s0 ≤ 300) (b1 : 0 ≤ s1 ∧ s1 ≤ 1) (m0 : HP 7 (0 : Int) (0 : Int) M) (m1 : (0 ≤ (80 : Int) ∧ M 61 (80 : Int).toNat = (1 : Int))) (m2 : (0 ≤ (1 : Int) ∧ M 110 (1 : Int).toNat = (s0))) (m3 : (0 ≤ (85 : Int) ∧ M 61 (85 : Int).toNat = (s1))) (hG : gI M) : (0 ≤ ((-1) * s1) ∧ 0 ≤ (s1) ∧ True) ∨ (∃ t0 : Int, 0 ≤ t0 ∧ t0 ≤ 60 ∧ HP 3 (s0 + 300) (t0) M ∧ 0 ≤ ((-1) * s1 + 1) ∧ 0 ≤ (s1 - 1) ∧ 0 ≤ ((-1) * s0 + 299) ∧ True) := by
  obtain ⟨-, h1⟩ := m1
  obtain ⟨-, h2⟩ := m2
  obtain ⟨-, h3⟩ := m3
  have h1 : M 61 80 = 1 := h1
  have h2 : M 110 1 = s0 := h2
  have h3 : M 61 85 = s1 := h3
  have m0 : M 61 85 ≠ 0 → ∃ H : Int, 0 ≤ H ∧ H ≤ 60 ∧ ((M 61 80 = 0 ∧ 0 ≤ M 110 0 ∧ M 110 0 ≤ 299 ∧ hgt M 0 (M 110 0).toNat = some H) ∨ (M 61 80 = 1 ∧ 0 ≤ M 110 1 ∧ M 110 1 ≤ 299 ∧ hgt M 300 (M 110 1).toNat = some H)) := m0
  by_cases hz : s1 = 0
  · exact Or.inl ⟨by omega, by omega, trivial⟩
  · obtain ⟨H, a1, a2, a3⟩ := m0 (by omega)
    rcases a3 with ⟨a3, a4, a5, a6⟩ | ⟨a3, a4, a5, a6⟩
    · omega
    · rw [h2] at a4 a5 a6
      exact Or.inr ⟨H, a1, a2, ⟨by omega, by omega, by rw [show (s0 + 300 - 300).toNat = s0.toNat by omega]; exact a6⟩, by omega, by omega, by omega, trivial⟩
theorem rul_28 : Rul r_28 := by
  refine ⟨fun _ ρ M hm hB hF hG => ?_, fun gi gv hg => (by cases hg)⟩
  have H := cr_28 M (ρ 0) (ρ 1) (hB _ List.mem_cons_self) (hB _ (List.mem_cons_of_mem _ List.mem_cons_self)) (cvp 7 (x' := (0 : Int)) (y' := (0 : Int)) (by show 0 + 0 = _; omega) (by show 0 + 0 = _; omega) (hm _ List.mem_cons_self)) (cvm (c := 61) (by decide) (x' := (80 : Int)) (y' := (1 : Int)) (by show 80 + 0 = _; omega) (by show 1 + 0 = _; omega) (hm _ (List.mem_cons_of_mem _ List.mem_cons_self))) (cvm (c := 110) (by decide) (x' := (1 : Int)) (y' := ((ρ 0))) (by show 1 + 0 = _; omega) (by show 0 + (1 * ρ 0 + 0) = _; omega) (hm _ (List.mem_cons_of_mem _ (List.mem_cons_of_mem _ List.mem_cons_self)))) (cvm (c := 61) (by decide) (x' := (85 : Int)) (y' := ((ρ 1))) (by show 85 + 0 = _; omega) (by show 0 + (1 * ρ 1 + 0) = _; omega) (hm _ (List.mem_cons_of_mem _ (List.mem_cons_of_mem _ (List.mem_cons_of_mem _ List.mem_cons_self))))) hG
  rcases H with H | H
  · skip
    obtain ⟨f0, f1, -⟩ := H
    exact ⟨_, List.mem_cons_self, ρ, fun _ _ => rfl, okM_n, okB_n, (okF_c (by show 0 ≤ 0 + ((-1) * ρ 1 + 0); omega) (okF_c (by show 0 ≤ 0 + (1 * ρ 1 + 0); omega) okF_n))⟩
  · skip
    obtain ⟨t0, u0, v0, k0, f0, f1, f2, -⟩ := H
    obtain ⟨ρ', ha, a0, a1, a2⟩ : ∃ ρ' : Nat → Int, agr 2 ρ ρ' ∧ ρ' 0 = ρ 0 ∧ ρ' 1 = ρ 1 ∧ ρ' 2 = t0 := ⟨fun s => if s = 2 then t0 else ρ s, fun s hs => by show (if s = 2 then t0 else ρ s) = _; rw [if_neg (by omega)], rfl, rfl, rfl⟩
    exact ⟨_, (List.mem_cons_of_mem _ List.mem_cons_self), ρ', ha, (okM_c (pvp 3 (by show 300 + (1 * ρ' 0 + 0) = _; omega) (by show 0 + (1 * ρ' 2 + 0) = _; omega) k0) okM_n), (okB_c (by omega) okB_n), (okF_c (by show 0 ≤ 1 + ((-1) * ρ' 1 + 0); omega) (okF_c (by show 0 ≤ (-1) + (1 * ρ' 1 + 0); omega) (okF_c (by show 0 ≤ 299 + ((-1) * ρ' 0 + 0); omega) okF_n)))⟩
-- lkin1
theorem cr_29 (M : pM) (s0 s1 : Int) (b0 : 0 ≤ s0 ∧ s0 ≤ 300) (b1 : 0 ≤ s1 ∧ s1 ≤ 60) (m0 : (0 ≤ (80 : Int) ∧ M 61 (80 : Int).toNat = (1 : Int))) (m1 : (0 ≤ (1 : Int) ∧ M 110 (1 : Int).toNat = (s0))) (m2 : HP 3 (s0 + 300) (s1) M) (hG : gI M) : (HP 7 (0 : Int) (0 : Int) M ∧ True) := by
  obtain ⟨-, h1⟩ := m0
  obtain ⟨-, h2⟩ := m1
  obtain ⟨h3, h4, h5⟩ := m2
  have h1 : M 61 80 = 1 := h1
  have h2 : M 110 1 = s0 := h2
  refine ⟨fun _ => ⟨s1, b1.1, b1.2, Or.inr ⟨h1, by omega, by omega, ?_⟩⟩, trivial⟩
  rw [h2]
  rw [show (s0 + 300 - 300).toNat = s0.toNat by omega] at h5
  exact h5
theorem rul_29 : Rul r_29 := by
  refine ⟨fun _ ρ M hm hB hF hG => ?_, fun gi gv hg => (by cases hg)⟩
  have H := cr_29 M (ρ 0) (ρ 1) (hB _ List.mem_cons_self) (hB _ (List.mem_cons_of_mem _ List.mem_cons_self)) (cvm (c := 61) (by decide) (x' := (80 : Int)) (y' := (1 : Int)) (by show 80 + 0 = _; omega) (by show 1 + 0 = _; omega) (hm _ List.mem_cons_self)) (cvm (c := 110) (by decide) (x' := (1 : Int)) (y' := ((ρ 0))) (by show 1 + 0 = _; omega) (by show 0 + (1 * ρ 0 + 0) = _; omega) (hm _ (List.mem_cons_of_mem _ List.mem_cons_self))) (cvp 3 (x' := ((ρ 0) + 300)) (y' := ((ρ 1))) (by show 300 + (1 * ρ 0 + 0) = _; omega) (by show 0 + (1 * ρ 1 + 0) = _; omega) (hm _ (List.mem_cons_of_mem _ (List.mem_cons_of_mem _ List.mem_cons_self)))) hG
  obtain ⟨k0, -⟩ := H
  exact ⟨_, List.mem_cons_self, ρ, fun _ _ => rfl, (okM_c (pvp 7 (by show 0 + 0 = _; omega) (by show 0 + 0 = _; omega) k0) okM_n), okB_n, okF_n⟩
-- chs1
theorem cr_30 (M : pM) (s0 s1 s2 s3 s4 : Int) (b0 : 300 ≤ s0 ∧ s0 ≤ 599) (b1 : 300 ≤ s1 ∧ s1 ≤ 599) (b2 : 0 ≤ s2 ∧ s2 ≤ 60) (b3 : (-2147483648) ≤ s3 ∧ s3 ≤ 2147483647) (b4 : 0 ≤ s4 ∧ s4 ≤ 60) (m0 : HP 3 (s0) (s2) M) (m1 : HP 3 (s1) (s4) M) (m2 : (0 ≤ (s0) ∧ M 108 (s0).toNat = (s3))) (f0 : 0 ≤ ((-1) * s0 + s1 - 1)) (hG : gI M) : (HP 3 (s0 + 1) (s2) M ∧ 0 ≤ ((-1) * s3 + 126) ∧ 0 ≤ (s3 - 126) ∧ 0 ≤ (s2 - 1) ∧ True) ∨ (HP 3 (s0 + 1) (s2 + 1) M ∧ 0 ≤ (s3 - 97) ∧ 0 ≤ ((-1) * s3 + 122) ∧ 0 ≤ ((-1) * s2 + 59) ∧ True) ∨ (HP 3 (s0 + 1) (s2 - 1) M ∧ 0 ≤ ((-1) * s3 + 96) ∧ 0 ≤ (s2 - 2) ∧ True) ∨ (HP 3 (s0 + 1) (s2 - 1) M ∧ 0 ≤ (s3 - 123) ∧ 0 ≤ ((-1) * s3 + 125) ∧ 0 ≤ (s2 - 2) ∧ True) ∨ (HP 3 (s0 + 1) (s2 - 1) M ∧ 0 ≤ (s3 - 127) ∧ 0 ≤ (s2 - 2) ∧ True) := by
  obtain ⟨h1, h2, h3⟩ := m0
  obtain ⟨h4, h5, h6⟩ := m1
  obtain ⟨-, h7⟩ := m2
  have e0 : ∃ k, k = (s0 - 300).toNat := ⟨_, rfl⟩
  obtain ⟨k, hk⟩ := e0
  rw [← hk] at h3
  have h6 : hgt M 300 (k + 1 + ((s1 - 300).toNat - (k + 1))) = some s4 := by rw [show k + 1 + ((s1 - 300).toNat - (k + 1)) = (s1 - 300).toNat by omega]; exact h6
  obtain ⟨m, hm⟩ := hgt_pre h6
  obtain ⟨a, ha, hb⟩ := hgt_p hm
  rw [h3] at ha
  cases ha
  rw [show 300 + k = s0.toNat by omega, h7] at hb
  have hn : ∀ y, m = y → HP 3 (s0 + 1) y M := fun y hy => ⟨by omega, by omega, by rw [show (s0 + 1 - 300).toNat = k + 1 by omega, hm, hy]⟩
  rcases hg1_c hb with q | q | q
  · exact Or.inl ⟨hn _ q.2.2, by omega, by omega, by omega, trivial⟩
  · exact Or.inr (Or.inl ⟨hn _ q.2.2.2, by omega, by omega, by omega, trivial⟩)
  · have hq := hn _ q.2.2.2
    rcases (show s3 ≤ 96 ∨ (123 ≤ s3 ∧ s3 ≤ 125) ∨ 127 ≤ s3 by omega) with w | w | w
    · exact Or.inr (Or.inr (Or.inl ⟨hq, by omega, by omega, trivial⟩))
    · exact Or.inr (Or.inr (Or.inr (Or.inl ⟨hq, by omega, by omega, by omega, trivial⟩)))
    · exact Or.inr (Or.inr (Or.inr (Or.inr ⟨hq, by omega, by omega, trivial⟩)))
theorem rul_30 : Rul r_30 := by
  refine ⟨fun _ ρ M hm hB hF hG => ?_, fun gi gv hg => (by cases hg)⟩
  have H := cr_30 M (ρ 0) (ρ 1) (ρ 2) (ρ 3) (ρ 4) (hB _ List.mem_cons_self) (hB _ (List.mem_cons_of_mem _ List.mem_cons_self)) (hB _ (List.mem_cons_of_mem _ (List.mem_cons_of_mem _ List.mem_cons_self))) (hB _ (List.mem_cons_of_mem _ (List.mem_cons_of_mem _ (List.mem_cons_of_mem _ List.mem_cons_self)))) (hB _ (List.mem_cons_of_mem _ (List.mem_cons_of_mem _ (List.mem_cons_of_mem _ (List.mem_cons_of_mem _ List.mem_cons_self))))) (cvp 3 (x' := ((ρ 0))) (y' := ((ρ 2))) (by show 0 + (1 * ρ 0 + 0) = _; omega) (by show 0 + (1 * ρ 2 + 0) = _; omega) (hm _ List.mem_cons_self)) (cvp 3 (x' := ((ρ 1))) (y' := ((ρ 4))) (by show 0 + (1 * ρ 1 + 0) = _; omega) (by show 0 + (1 * ρ 4 + 0) = _; omega) (hm _ (List.mem_cons_of_mem _ List.mem_cons_self))) (cvm (c := 108) (by decide) (x' := ((ρ 0))) (y' := ((ρ 3))) (by show 0 + (1 * ρ 0 + 0) = _; omega) (by show 0 + (1 * ρ 3 + 0) = _; omega) (hm _ (List.mem_cons_of_mem _ (List.mem_cons_of_mem _ List.mem_cons_self)))) (by have h := hF _ List.mem_cons_self; have h : 0 ≤ (-1) + ((-1) * ρ 0 + (1 * ρ 1 + 0)) := h; omega) hG
  rcases H with H | H
  · skip
    obtain ⟨k0, f0, f1, f2, -⟩ := H
    exact ⟨_, List.mem_cons_self, ρ, fun _ _ => rfl, (okM_c (pvp 3 (by show 1 + (1 * ρ 0 + 0) = _; omega) (by show 0 + (1 * ρ 2 + 0) = _; omega) k0) okM_n), okB_n, (okF_c (by show 0 ≤ 126 + ((-1) * ρ 3 + 0); omega) (okF_c (by show 0 ≤ (-126) + (1 * ρ 3 + 0); omega) (okF_c (by show 0 ≤ (-1) + (1 * ρ 2 + 0); omega) okF_n)))⟩
  rcases H with H | H
  · skip
    obtain ⟨k0, f0, f1, f2, -⟩ := H
    exact ⟨_, (List.mem_cons_of_mem _ List.mem_cons_self), ρ, fun _ _ => rfl, (okM_c (pvp 3 (by show 1 + (1 * ρ 0 + 0) = _; omega) (by show 1 + (1 * ρ 2 + 0) = _; omega) k0) okM_n), okB_n, (okF_c (by show 0 ≤ (-97) + (1 * ρ 3 + 0); omega) (okF_c (by show 0 ≤ 122 + ((-1) * ρ 3 + 0); omega) (okF_c (by show 0 ≤ 59 + ((-1) * ρ 2 + 0); omega) okF_n)))⟩
  rcases H with H | H
  · skip
    obtain ⟨k0, f0, f1, -⟩ := H
    exact ⟨_, (List.mem_cons_of_mem _ (List.mem_cons_of_mem _ List.mem_cons_self)), ρ, fun _ _ => rfl, (okM_c (pvp 3 (by show 1 + (1 * ρ 0 + 0) = _; omega) (by show (-1) + (1 * ρ 2 + 0) = _; omega) k0) okM_n), okB_n, (okF_c (by show 0 ≤ 96 + ((-1) * ρ 3 + 0); omega) (okF_c (by show 0 ≤ (-2) + (1 * ρ 2 + 0); omega) okF_n))⟩
  rcases H with H | H
  · skip
    obtain ⟨k0, f0, f1, f2, -⟩ := H
    exact ⟨_, (List.mem_cons_of_mem _ (List.mem_cons_of_mem _ (List.mem_cons_of_mem _ List.mem_cons_self))), ρ, fun _ _ => rfl, (okM_c (pvp 3 (by show 1 + (1 * ρ 0 + 0) = _; omega) (by show (-1) + (1 * ρ 2 + 0) = _; omega) k0) okM_n), okB_n, (okF_c (by show 0 ≤ (-123) + (1 * ρ 3 + 0); omega) (okF_c (by show 0 ≤ 125 + ((-1) * ρ 3 + 0); omega) (okF_c (by show 0 ≤ (-2) + (1 * ρ 2 + 0); omega) okF_n)))⟩
  · skip
    obtain ⟨k0, f0, f1, -⟩ := H
    exact ⟨_, (List.mem_cons_of_mem _ (List.mem_cons_of_mem _ (List.mem_cons_of_mem _ (List.mem_cons_of_mem _ List.mem_cons_self)))), ρ, fun _ _ => rfl, (okM_c (pvp 3 (by show 1 + (1 * ρ 0 + 0) = _; omega) (by show (-1) + (1 * ρ 2 + 0) = _; omega) k0) okM_n), okB_n, (okF_c (by show 0 ≤ (-127) + (1 * ρ 3 + 0); omega) (okF_c (by show 0 ≤ (-2) + (1 * ρ 2 + 0); omega) okF_n))⟩
-- lkin
theorem cr_31 (M : pM) (m0 : (0 ≤ (85 : Int) ∧ M 61 (85 : Int).toNat = (0 : Int))) (hG : gI M) : (HP 7 (0 : Int) (0 : Int) M ∧ True) := by
  have h : M 61 85 = 0 := m0.2
  exact ⟨fun h' => absurd h h', trivial⟩
theorem rul_31 : Rul r_31 := by
  refine ⟨fun _ ρ M hm hB hF hG => ?_, fun gi gv hg => (by cases hg)⟩
  have H := cr_31 M (cvm (c := 61) (by decide) (x' := (85 : Int)) (y' := (0 : Int)) (by show 85 + 0 = _; omega) (by show 0 + 0 = _; omega) (hm _ List.mem_cons_self)) hG
  obtain ⟨k0, -⟩ := H
  exact ⟨_, List.mem_cons_self, ρ, fun _ _ => rfl, (okM_c (pvp 7 (by show 0 + 0 = _; omega) (by show 0 + 0 = _; omega) k0) okM_n), okB_n, okF_n⟩
