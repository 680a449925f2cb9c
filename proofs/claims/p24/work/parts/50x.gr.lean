/-! ===== traces and rounded points ===== -/
theorem trN_sur {la : Nat → Int} : ∀ {s i : Nat}, i < trN la s → ∃ q, q < s ∧ 0 ≤ la q ∧ trN la q = i
  | 0, _, h => absurd h (Nat.not_lt_zero _)
  | s + 1, i, h => by
    unfold trN at h
    split at h
    · obtain ⟨q, h1, h2, h3⟩ := trN_sur h; exact ⟨q, by omega, h2, h3⟩
    · by_cases e : i = trN la s
      · exact ⟨s, by omega, by omega, e.symm⟩
      · obtain ⟨q, h1, h2, h3⟩ := trN_sur (show i < trN la s by omega); exact ⟨q, by omega, h2, h3⟩
theorem trN_lt {la : Nat → Int} : ∀ {s q : Nat}, q < s → 0 ≤ la q → trN la q < trN la s
  | 0, _, h, _ => absurd h (Nat.not_lt_zero _)
  | s + 1, q, h, hl => by
    by_cases e : q = s
    · subst e
      rw [show trN la (q + 1) = trN la q + 1 from if_neg (by omega)]
      exact Nat.lt_succ_self _
    · have ih := trN_lt (show q < s by omega) hl
      rw [show trN la (s + 1) = if la s < 0 then trN la s else trN la s + 1 from rfl]
      split <;> omega
theorem trL_s {P S T U : Nat → Int} {p K s : Int} {n : Nat} (h : P n = p ∧ S n = s ∧ T n ≤ K ∧ (U n < 0 ∨ K < U n)) : trL P S T U p K s (n + 1) = n := if_pos h
theorem trL_n {P S T U : Nat → Int} {p K s : Int} {n : Nat} (h : ¬ (P n = p ∧ S n = s ∧ T n ≤ K ∧ (U n < 0 ∨ K < U n))) : trL P S T U p K s (n + 1) = trL P S T U p K s n := if_neg h
theorem rtR_u {f : Nat → Prop} {q b a c : Nat} (h1 : rtR f q b a) (h2 : rtR f q b c) : a = c := by
  obtain ⟨a1, a2, a3, a4⟩ := h1
  obtain ⟨c1, c2, c3, c4⟩ := h2
  rcases Nat.lt_trichotomy a c with h | h | h
  · exact absurd (c3 a a1 h) (a4 (by omega))
  · exact h
  · exact absurd (a3 c c1 h) (c4 (by omega))
theorem lrR_u {f : Nat → Nat → Prop} {q : Nat} : ∀ {i a c : Nat}, lrR f q i a → lrR f q i c → a = c
  | 0, _, _, h1, h2 => Eq.trans h1 (Eq.symm h2)
  | i + 1, a, c, h1, h2 => by
    obtain ⟨r, a1, a2⟩ := h1
    obtain ⟨r', c1, c2⟩ := h2
    have e := lrR_u a1 c1
    subst e
    exact rtR_u a2 c2
theorem mrR_u {f t : Nat → Nat → Prop} {q N : Nat} : ∀ {i a c : Nat}, mrR f t q N i a → mrR f t q N i c → a = c
  | 0, _, _, h1, h2 => Eq.trans h1 (Eq.symm h2)
  | i + 1, a, c, h1, h2 => by
    obtain ⟨r, x, a1, a2, a3⟩ := h1
    obtain ⟨r', x', c1, c2, c3⟩ := h2
    have e := mrR_u a1 c1
    subst e
    have e := rtR_u a2 c2
    subst e
    rcases a3 with ⟨u, v⟩ | ⟨u, v⟩ <;> rcases c3 with ⟨u', v'⟩ | ⟨u', v'⟩
    · omega
    · exact absurd u u'
    · exact absurd u' u
    · omega
theorem lrR_q {f : Nat → Nat → Prop} {q : Nat} : ∀ {i k : Nat}, lrR f q i q → lrR f q (i + k) q
  | _, 0, h => h
  | i, k + 1, h => ⟨q, lrR_q (k := k) h, Nat.le_refl _, Nat.le_refl _, fun j h1 h2 => by omega, fun h1 => by omega⟩
theorem lrR_le {f : Nat → Nat → Prop} {q : Nat} : ∀ {i r : Nat}, lrR f q i r → r ≤ q
  | 0, r, h => by have h : r = 0 := h; omega
  | i + 1, r, h => by obtain ⟨r0, h1, h2⟩ := h; exact h2.2.1
theorem mrR_le {f t : Nat → Nat → Prop} {q N : Nat} : ∀ {i r : Nat}, mrR f t q N i r → r ≤ q
  | 0, r, h => by have h : r = 0 := h; omega
  | i + 1, r, h => by
    obtain ⟨r0, a, h1, h2, h3⟩ := h
    have := h2.2.1
    rcases h3 with ⟨⟨_, h4, _⟩, h5⟩ | ⟨_, h5⟩ <;> omega
/-- both sides' rows are the same up to F: the same trace -/
theorem gb_eq {la P S T U C H st ce he la' P' S' T' U' C' H' st' ce' he' : Nat → Int} {F F' x y y' : Int} {p N m : Nat} (h : GBp la P S T U C H st ce he F x y) (h' : GBp la' P' S' T' U' C' H' st' ce' he' F' x y') (hF : F' = F) (hp : p ≤ 7) (hN : N ≤ 36) (hm : m ≤ 36) (hy : y = 4096 * (p : Int) + 2304 + N) (hy' : y' = 4096 * (p : Int) + 2304 + m)
    (g : ∀ f : Nat, (f : Int) < F → P' f = P f ∧ S' f = S f ∧ T' f = T f ∧ U' f = U f ∧ C' f = C f ∧ H' f = H f) : N = m ∧ ∀ i, i < N → st i = st' i ∧ ce i = ce' i ∧ he i = he' i := by
  subst hF
  obtain ⟨q, s, a1, a2, a3, a4, a5, a6, a7⟩ := h
  obtain ⟨q', s', c1, c2, c3, c4, c5, c6, c7⟩ := h'
  have l1 : trN la s ≤ s := trN_le
  have l2 : trN la' s' ≤ s' := trN_le
  have e1 : q = p := by omega
  have e2 : s = 36 := by omega
  have e3 : q' = p := by omega
  have e4 : s' = 36 := by omega
  subst e1; subst e2; subst e3; subst e4
  have hla : ∀ i, i < 36 → la' i = la i := fun i hi => by
    rw [a6 i hi, c6 i hi]
    exact trL_c (fun j hj => ⟨(g j (by omega)).1, (g j (by omega)).2.1, (g j (by omega)).2.2.1, (g j (by omega)).2.2.2.1⟩)
  have hn : ∀ k, k ≤ 36 → trN la' k = trN la k := fun k hk => trN_c (fun i hi => hla i (by omega))
  have h36 := hn 36 (Nat.le_refl _)
  refine ⟨by omega, fun i hi => ?_⟩
  obtain ⟨k, k1, k2, k3⟩ := trN_sur (la := la) (s := 36) (i := i) (by omega)
  obtain ⟨d1, d2, d3⟩ := a7 k k1 k2
  have k2' : 0 ≤ la' k := by rw [hla k k1]; exact k2
  obtain ⟨f1, f2, f3⟩ := c7 k k1 k2'
  rw [hn k (by omega), k3] at f1 f2 f3
  rw [k3] at d1 d2 d3
  have hb : la k < F'.toNat := by rw [a6 k k1]; exact trL_b.2
  have hg := g (la k).toNat (by omega)
  rw [hla k k1] at f2 f3
  exact ⟨by rw [d1, f1], by rw [d2, f2, hg.2.2.2.2.1], by rw [d3, f3, hg.2.2.2.2.2]⟩
theorem tzF_e {ce pt : Nat → Int} {z : Int} {n a : Nat} {v : Int} (h : v = (apF (ce n).toNat (pt a).toNat : Int)) : tzF ce pt z n a = if v ≤ z then 0 else v - z := by subst h; rfl
theorem st_r {M : pM} {k i a : Nat} {v : Int} (h : a ≠ k) : st M k i v a = M a := st_row h
