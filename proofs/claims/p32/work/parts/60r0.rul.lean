theorem ok1_p {p : Nat} {x y : Int} {M : pM} : ok1 (5000 + p) x y M = HP p x y M := by rw [ok1_hi (Nat.le_add_right _ _), Nat.add_sub_cancel_left]
theorem cvp (p : Nat) {x y x' y' : Int} {M : pM} (h1 : x = x') (h2 : y = y') (h : ok1 (5000 + p) x y M) : HP p x' y' M := by subst h1; subst h2; exact Eq.mp ok1_p h
theorem cvm {c : Nat} {x y x' y' : Int} {M : pM} (hc : c < 5000) (h1 : x = x') (h2 : y = y') (h : ok1 c x y M) : 0 ≤ x' ∧ M c x'.toNat = y' := by subst h1; subst h2; exact Eq.mp (ok1_lo hc) h
theorem pvp (p : Nat) {x y x' y' : Int} {M : pM} (h1 : x = x') (h2 : y = y') (h : HP p x' y' M) : ok1 (5000 + p) x y M := by subst h1; subst h2; exact Eq.mpr ok1_p h
theorem pvm {c : Nat} {x y x' y' : Int} {M : pM} (hc : c < 5000) (h1 : x = x') (h2 : y = y') (h : 0 ≤ x' ∧ M c x'.toNat = y') : ok1 c x y M := by subst h1; subst h2; exact Eq.mpr (ok1_lo hc) h
theorem okM_n {ρ : Nat → Int} {M : pM} : okM ρ [] M := fun e he => by cases he
theorem okM_c {ρ : Nat → Int} {M : pM} {c : Nat} {i v : lf} {m : mf} (h1 : ok1 c (ev ρ i) (ev ρ v) M) (h2 : okM ρ m M) : okM ρ ((c, i, v) :: m) M := by
  intro e he
  rcases List.mem_cons.mp he with q | q
  · subst q; exact h1
  · exact h2 e q
theorem okB_n {ρ : Nat → Int} : okB ρ [] := fun e he => by cases he
theorem okB_c {ρ : Nat → Int} {s : Nat} {a b : Int} {m : bd} (h1 : a ≤ ρ s ∧ ρ s ≤ b) (h2 : okB ρ m) : okB ρ ((s, a, b) :: m) := by
  intro e he
  rcases List.mem_cons.mp he with q | q
  · subst q; exact h1
  · exact h2 e q
theorem okF_n {ρ : Nat → Int} : okF ρ [] := fun e he => by cases he
theorem okF_c {ρ : Nat → Int} {f : lf} {m : List lf} (h1 : 0 ≤ ev ρ f) (h2 : okF ρ m) : okF ρ (f :: m) := by
  intro e he
  rcases List.mem_cons.mp he with q | q
  · subst q; exact h1
  · exact h2 e q
theorem hg1_c {v n m : Int} (h : hg1 v n = some m) : (v = 126 ∧ 1 ≤ n ∧ m = n) ∨ (97 ≤ v ∧ v ≤ 122 ∧ n ≤ 59 ∧ m = n + 1) ∨ (v ≠ 126 ∧ ¬ (97 ≤ v ∧ v ≤ 122) ∧ 2 ≤ n ∧ m = n - 1) := by
  unfold hg1 at h
  split at h
  · next a =>
    split at h
    · next b => exact Or.inl ⟨a, b, (Option.some.inj h).symm⟩
    · cases h
  · next a =>
    split at h
    · next b =>
      split at h
      · next c => exact Or.inr (Or.inl ⟨b.1, b.2, c, (Option.some.inj h).symm⟩)
      · cases h
    · next b =>
      split at h
      · next c => exact Or.inr (Or.inr ⟨a, b, c, (Option.some.inj h).symm⟩)
      · cases h
theorem pb1_c {k : Nat} {w s b m : Int} (h : pb1 k w s b = some m) : (k = 0 ∧ w = 8 ∧ m = 0) ∨ (k ≠ 0 ∧ ((w = 3 ∧ s = 126 ∧ m = b) ∨ (w = 7 ∧ m = b) ∨ (w = 1 ∧ s = 124 ∧ m = b + 1) ∨ ((1 ≤ w ∧ w ≤ 2 ∨ 4 ≤ w ∧ w ≤ 6) ∧ 0 ≤ s ∧ s ≤ 96 ∧ m = b + 1))) := by
  unfold pb1 at h
  split at h
  · next a =>
    split at h
    · next c => exact Or.inl ⟨a, c, (Option.some.inj h).symm⟩
    · cases h
  · next a =>
    refine Or.inr ⟨a, ?_⟩
    split at h
    · next c =>
      split at h
      · next d => exact Or.inl ⟨c, d, (Option.some.inj h).symm⟩
      · cases h
    · split at h
      · next c => exact Or.inr (Or.inl ⟨c, (Option.some.inj h).symm⟩)
      · split at h
        · next c => exact Or.inr (Or.inr (Or.inl ⟨c.1, c.2, (Option.some.inj h).symm⟩))
        · split at h
          · next c => exact Or.inr (Or.inr (Or.inr ⟨c.1, c.2.1, c.2.2, (Option.some.inj h).symm⟩))
          · cases h
theorem pbc_p {M : pM} {k : Nat} {b : Int} (h : pbc M (k + 1) = some b) : ∃ a, pbc M k = some a ∧ pb1 k (M 111 k) (M 112 k) a = some b := by
  have h : (match pbc M k with | none => none | some b => pb1 k (M 111 k) (M 112 k) b) = some b := h
  cases hk : pbc M k with
  | none => rw [hk] at h; cases h
  | some a => rw [hk] at h; exact ⟨a, rfl, h⟩
theorem pbc_bd {M : pM} : ∀ {k : Nat} {b : Int}, pbc M k = some b → 0 ≤ b ∧ (b = 0 ∨ b + 1 ≤ k)
  | 0, b, h => by cases h; exact ⟨by omega, Or.inl rfl⟩
  | k + 1, b, h => by
    obtain ⟨a, h1, h2⟩ := pbc_p h
    have := pbc_bd h1
    rcases pb1_c h2 with q | q
    · omega
    · omega
theorem pbc_pre {M : pM} : ∀ {k d : Nat} {n : Int}, pbc M (k + d) = some n → ∃ m, pbc M k = some m
  | k, 0, n, h => ⟨n, h⟩
  | k, d + 1, n, h => by
    obtain ⟨a, h1, _⟩ := pbc_p (k := k + d) h
    exact pbc_pre h1
theorem hgt_p {M : pM} {s k : Nat} {b : Int} (h : hgt M s (k + 1) = some b) : ∃ a, hgt M s k = some a ∧ hg1 (M 108 (s + k)) a = some b := by
  have h : (match hgt M s k with | none => none | some n => hg1 (M 108 (s + k)) n) = some b := h
  cases hk : hgt M s k with
  | none => rw [hk] at h; cases h
  | some a => rw [hk] at h; exact ⟨a, rfl, h⟩
theorem hgt_bd {M : pM} {s : Nat} : ∀ {k : Nat} {b : Int}, hgt M s k = some b → 0 ≤ b ∧ b ≤ 60
  | 0, b, h => by cases h; omega
  | k + 1, b, h => by
    obtain ⟨a, h1, h2⟩ := hgt_p h
    have := hgt_bd h1
    rcases hg1_c h2 with q | q | q <;> omega
theorem spo_inj {t c h r t' c' h' r' : Int} (a : rng t c h r) (b : rng t' c' h' r') (e : spo t c h r = spo t' c' h' r') : t = t' ∧ c = c' ∧ h = h' ∧ r = r' := by
  obtain ⟨a1, a2, a3, a4⟩ := a
  obtain ⟨b1, b2, b3, b4⟩ := b
  unfold spo at e
  have e4 : r = r' := by omega
  have e3 : h = h' := by omega
  have e2 : c = c' := by omega
  exact ⟨by omega, e2, e3, e4⟩
theorem ag_88 {l : List (Nat × Nat × Nat)} {M : pM} {i : Nat} {v : Int} (hl : ∀ k, inM l 88 k = false) : agL l M (st M 88 i v) := fun c k hk => if_neg (fun q => by rw [q.1, hl k] at hk; cases hk)
theorem st_88 {M : pM} {i : Nat} {v : Int} {c k : Nat} (h : c ≠ 88) : st M 88 i v c k = M c k := if_neg (fun q => h q.1)
theorem goo_w {b : Nat} {M : pM} {s0 s1 s2 s3 w t c h r v : Int} (hl : ∀ k, inM (RLb b) 88 k = false) (hs : rng s0 s1 s2 s3) (ht : s0 ≤ t) (h1 : goo b M t c h r v) : goo b (st M 88 (spo s0 s1 s2 s3).toNat w) t c h r v := by
  rcases h1 with h1 | h1 | ⟨m, y, m1, m2, m3, m4⟩
  · obtain ⟨f1, f2, f3⟩ := h1
    exact Or.inl ⟨by rw [st_88 (by decide)]; exact f1, by rw [st_88 (by decide), st_88 (by decide)]; exact f2, by rw [st_88 (by decide)]; exact f3⟩
  · exact Or.inr (Or.inl h1)
  · refine Or.inr (Or.inr ⟨m, y, m1, m2, reT_c (ag_88 hl) (ag_88 (fun k => rfl)) (st_88 (by decide)) m3, ?_⟩)
    obtain ⟨t', c', h', r', a1, a2, _, _, a5⟩ := m3
    unfold st
    rw [if_neg (fun q => ?_)]
    · exact m4
    · have := q.2
      have hy : spo t' c' h' r' = spo s0 s1 s2 s3 := by
        obtain ⟨d1, d2, d3, d4⟩ := a1
        obtain ⟨e1, e2, e3, e4⟩ := hs
        rw [a5] at this
        unfold spo at this ⊢
        omega
      have := spo_inj a1 hs hy
      omega
theorem lRL0 (k : Nat) : inM (RLb 0) 88 k = false := rfl
theorem lRL1 (k : Nat) : inM (RLb 1) 88 k = false := rfl
