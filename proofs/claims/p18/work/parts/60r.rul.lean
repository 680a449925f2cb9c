theorem ok1_p {p : Nat} {x y : Int} {M : pM} : ok1 (5000 + p) x y M = HP p x y M := by rw [ok1_hi (Nat.le_add_right _ _), Nat.add_sub_cancel_left]
theorem cvp (p : Nat) {x y x' y' : Int} {M : pM} (h1 : x = x') (h2 : y = y') (h : ok1 (5000 + p) x y M) : HP p x' y' M := by subst h1; subst h2; exact Eq.mp ok1_p h
theorem cvm {c : Nat} {x y x' y' : Int} {M : pM} (hc : c < 5000) (h1 : x = x') (h2 : y = y') (h : ok1 c x y M) : 0 ≤ x' ∧ M c x'.toNat = y' := by subst h1; subst h2; exact Eq.mp (ok1_lo hc) h
theorem pvp (p : Nat) {x y x' y' : Int} {M : pM} (h1 : x = x') (h2 : y = y') (h : HP p x' y' M) : ok1 (5000 + p) x y M := by subst h1; subst h2; exact Eq.mpr ok1_p h
theorem pvm {c : Nat} {x y x' y' : Int} {M : pM} (hc : c < 5000) (h1 : x = x') (h2 : y = y') (h : 0 ≤ x' ∧ M c x'.toNat = y') : ok1 c x y M := by subst h1; subst h2; exact Eq.mpr (ok1_lo hc) h
theorem okM_n {ρ : Nat → Int} {M : pM} : okM ρ [] M := fun e he => by cases he
theorem okM_c {ρ : Nat → Int} {M : pM} {c : Nat} {i v : lf} {m : mf} (h1 : ok1 c (ev ρ i) (ev ρ v) M) (h2 : okM ρ m M) : okM ρ ((c, i, v) :: m) M := by
  intro e he
  rcases List.mem_cons.mp he with q | q
  · subst q; exact h1
  · exact h2 e q
theorem okB_n {ρ : Nat → Int} : okB ρ [] := fun e he => by cases he
theorem okB_c {ρ : Nat → Int} {s : Nat} {a b : Int} {m : bd} (h1 : a ≤ ρ s ∧ ρ s ≤ b) (h2 : okB ρ m) : okB ρ ((s, a, b) :: m) := by
  intro e he
  rcases List.mem_cons.mp he with q | q
  · subst q; exact h1
  · exact h2 e q
theorem okF_n {ρ : Nat → Int} : okF ρ [] := fun e he => by cases he
theorem okF_c {ρ : Nat → Int} {f : lf} {m : List lf} (h1 : 0 ≤ ev ρ f) (h2 : okF ρ m) : okF ρ (f :: m) := by
  intro e he
  rcases List.mem_cons.mp he with q | q
  · subst q; exact h1
  · exact h2 e q
theorem hg1_c {v n m : Int} (h : hg1 v n = some m) : (v = 126 ∧ 1 ≤ n ∧ m = n) ∨ (97 ≤ v ∧ v ≤ 122 ∧ n ≤ 59 ∧ m = n + 1) ∨ (v ≠ 126 ∧ ¬ (97 ≤ v ∧ v ≤ 122) ∧ 2 ≤ n ∧ m = n - 1) := by
  unfold hg1 at h
  split at h
  · next a =>
    split at h
    · next b => exact Or.inl ⟨a, b, (Option.some.inj h).symm⟩
    · cases h
  · next a =>
    split at h
    · next b =>
      split at h
      · next c => exact Or.inr (Or.inl ⟨b.1, b.2, c, (Option.some.inj h).symm⟩)
      · cases h
    · next b =>
      split at h
      · next c => exact Or.inr (Or.inr ⟨a, b, c, (Option.some.inj h).symm⟩)
      · cases h
theorem pb1_c {k : Nat} {w s b m : Int} (h : pb1 k w s b = some m) : (k = 0 ∧ w = 8 ∧ m = 0) ∨ (k ≠ 0 ∧ ((w = 3 ∧ s = 126 ∧ m = b) ∨ (w = 7 ∧ m = b) ∨ (w = 1 ∧ s = 124 ∧ m = b + 1) ∨ ((1 ≤ w ∧ w ≤ 2 ∨ 4 ≤ w ∧ w ≤ 6) ∧ 0 ≤ s ∧ s ≤ 96 ∧ m = b + 1))) := by
  unfold pb1 at h
  split at h
  · next a =>
    split at h
    · next c => exact Or.inl ⟨a, c, (Option.some.inj h).symm⟩
    · cases h
  · next a =>
    refine Or.inr ⟨a, ?_⟩
    split at h
    · next c =>
      split at h
      · next d => exact Or.inl ⟨c, d, (Option.some.inj h).symm⟩
      · cases h
    · split at h
      · next c => exact Or.inr (Or.inl ⟨c, (Option.some.inj h).symm⟩)
      · split at h
        · next c => exact Or.inr (Or.inr (Or.inl ⟨c.1, c.2, (Option.some.inj h).symm⟩))
        · split at h
          · next c => exact Or.inr (Or.inr (Or.inr ⟨c.1, c.2.1, c.2.2, (Option.some.inj h).symm⟩))
          · cases h
theorem pbc_p {M : pM} {k : Nat} {b : Int} (h : pbc M (k + 1) = some b) : ∃ a, pbc M k = some a ∧ pb1 k (M 111 k) (M 112 k) a = some b := by
  have h : (match pbc M k with | none => none | some b => pb1 k (M 111 k) (M 112 k) b) = some b := h
  cases hk : pbc M k with
  | none => rw [hk] at h; cases h
  | some a => rw [hk] at h; exact ⟨a, rfl, h⟩
theorem pbc_bd {M : pM} : ∀ {k : Nat} {b : Int}, pbc M k = some b → 0 ≤ b ∧ (b = 0 ∨ b + 1 ≤ k)
  | 0, b, h => by cases h; exact ⟨by omega, Or.inl rfl⟩
  | k + 1, b, h => by
    obtain ⟨a, h1, h2⟩ := pbc_p h
    have := pbc_bd h1
    rcases pb1_c h2 with q | q
    · omega
    · omega
theorem pbc_pre {M : pM} : ∀ {k d : Nat} {n : Int}, pbc M (k + d) = some n → ∃ m, pbc M k = some m
  | k, 0, n, h => ⟨n, h⟩
  | k, d + 1, n, h => by
    obtain ⟨a, h1, _⟩ := pbc_p (k := k + d) h
    exact pbc_pre h1
theorem hgt_p {M : pM} {s k : Nat} {b : Int} (h : hgt M s (k + 1) = some b) : ∃ a, hgt M s k = some a ∧ hg1 (M 108 (s + k)) a = some b := by
  have h : (match hgt M s k with | none => none | some n => hg1 (M 108 (s + k)) n) = some b := h
  cases hk : hgt M s k with
  | none => rw [hk] at h; cases h
  | some a => rw [hk] at h; exact ⟨a, rfl, h⟩
theorem hgt_bd {M : pM} {s : Nat} : ∀ {k : Nat} {b : Int}, hgt M s k = some b → 0 ≤ b ∧ b ≤ 60
  | 0, b, h => by cases h; omega
  | k + 1, b, h => by
    obtain ⟨a, h1, h2⟩ := hgt_p h
    have := hgt_bd h1
    rcases hg1_c h2 with q | q | q <;> omega
theorem spo_inj {t c h r t' c' h' r' : Int} (a : rng t c h r) (b : rng t' c' h' r') (e : spo t c h r = spo t' c' h' r') : t = t' ∧ c = c' ∧ h = h' ∧ r = r' := by
  obtain ⟨a1, a2, a3, a4⟩ := a
  obtain ⟨b1, b2, b3, b4⟩ := b
  unfold spo at e
  have e4 : r = r' := by omega
  have e3 : h = h' := by omega
  have e2 : c = c' := by omega
  exact ⟨by omega, e2, e3, e4⟩
theorem ag_88 {l : List (Nat × Nat × Nat)} {M : pM} {i : Nat} {v : Int} (hl : ∀ k, inM l 88 k = false) : agL l M (st M 88 i v) := fun c k hk => if_neg (fun q => by rw [q.1, hl k] at hk; cases hk)
theorem st_88 {M : pM} {i : Nat} {v : Int} {c k : Nat} (h : c ≠ 88) : st M 88 i v c k = M c k := if_neg (fun q => h q.1)
theorem goo_w {b : Nat} {M : pM} {s0 s1 s2 s3 w t c h r v : Int} (hl : ∀ k, inM (RLb b) 88 k = false) (hs : rng s0 s1 s2 s3) (ht : s0 ≤ t) (h1 : goo b M t c h r v) : goo b (st M 88 (spo s0 s1 s2 s3).toNat w) t c h r v := by
  rcases h1 with h1 | h1 | ⟨m, y, m1, m2, m3, m4⟩
  · obtain ⟨f1, f2, f3⟩ := h1
    exact Or.inl ⟨by rw [st_88 (by decide)]; exact f1, by rw [st_88 (by decide), st_88 (by decide)]; exact f2, by rw [st_88 (by decide)]; exact f3⟩
  · exact Or.inr (Or.inl h1)
  · refine Or.inr (Or.inr ⟨m, y, m1, m2, reT_c (ag_88 hl) (ag_88 (fun k => rfl)) (st_88 (by decide)) m3, ?_⟩)
    obtain ⟨t', c', h', r', a1, a2, _, _, a5⟩ := m3
    unfold st
    rw [if_neg (fun q => ?_)]
    · exact m4
    · have := q.2
      have hy : spo t' c' h' r' = spo s0 s1 s2 s3 := by
        obtain ⟨d1, d2, d3, d4⟩ := a1
        obtain ⟨e1, e2, e3, e4⟩ := hs
        rw [a5] at this
        unfold spo at this ⊢
        omega
      have := spo_inj a1 hs hy
      omega
theorem lRL0 (k : Nat) : inM (RLb 0) 88 k = false := rfl
theorem lRL1 (k : Nat) : inM (RLb 1) 88 k = false := rfl
theorem lnj_0 {p : Int} {f : Nat → Int} : lnj p 0 f = 4 := by unfold lnj; rw [if_neg (by decide)]
theorem lnj_1 {p : Int} {f : Nat → Int} : lnj p 1 f = fl1 f p.toNat := by unfold lnj; rw [if_pos rfl]
theorem lnd_0 {w t : Int} : lnd w t 0 = w := by unfold lnd; rw [if_neg (by decide)]
theorem lnd_1 {w t : Int} : lnd w t 1 = t := by unfold lnd; rw [if_pos rfl]
theorem lpl_0 {p : Int} {f : Nat → Int} : lpl p 0 f = 0 := by unfold lpl; rw [if_neg (by decide)]
theorem lpl_1 {p : Int} {f : Nat → Int} : lpl p 1 f = (fl1 f p.toNat : Int) := by unfold lpl; rw [if_pos rfl]
theorem lng_m {p s q x : Int} {f : Nat → Int} {j : Nat} (hj : lnj p s f = j) (hx : f j = x) (h : q < x) : lng p s q f = x := by unfold lng; rw [hj, hx, if_pos h]
theorem lng_q {p s q x : Int} {f : Nat → Int} {j : Nat} (hj : lnj p s f = j) (hx : f j = x) (h : x ≤ q) : lng p s q f = q := by unfold lng; rw [hj, hx, if_neg (by omega)]
theorem lng_ge {p s q : Int} {f : Nat → Int} : q ≤ lng p s q f := by
  unfold lng
  split <;> omega
theorem lub_y {p s q g : Int} {f : Nat → Int} (hg : lng p s q f = g) (h : g < 36) : lub p s q f = g := by unfold lub; rw [hg, if_pos h]
theorem lub_n {p s q g : Int} {f : Nat → Int} (hg : lng p s q f = g) (h : 36 ≤ g) : lub p s q f = -1 := by unfold lub; rw [hg, if_neg (by omega)]
theorem lfr_y {p w t s q g : Int} {f : Nat → Int} (hg : lng p s q f = g) (h : g < 36) : lfr p w t s q f = g + lnd w t s := by unfold lfr; rw [hg, if_pos h]
theorem lfr_n {p w t s q g : Int} {f : Nat → Int} (hg : lng p s q f = g) (h : 36 ≤ g) : lfr p w t s q f = -1 := by unfold lfr; rw [hg, if_neg (by omega)]
theorem lby_y {p s q g : Int} {f : Nat → Int} (hg : lng p s q f = g) (h : g < 36) : lby p s q f = lpl p s f := by unfold lby; rw [hg, if_pos h]
theorem lby_n {p s q g : Int} {f : Nat → Int} (hg : lng p s q f = g) (h : 36 ≤ g) : lby p s q f = -1 := by unfold lby; rw [hg, if_neg (by omega)]
theorem lst_y {p w t s q g : Int} {f : Nat → Int} {k : Nat} (hj : lnj p s f = k) (hg : lng p s q f = g) (h : g < 36) : lst p w t s q f k = g + lnd w t s := by unfold lst; rw [hj, hg, if_pos ⟨rfl, h⟩]
theorem lst_o {p w t s q : Int} {f : Nat → Int} {j k : Nat} (hj : lnj p s f = j) (h : k ≠ j) : lst p w t s q f k = f k := by unfold lst; rw [hj, if_neg (fun x => h x.1)]
theorem lst_n {p w t s q g : Int} {f : Nat → Int} {k : Nat} (hg : lng p s q f = g) (h : 36 ≤ g) : lst p w t s q f k = f k := by unfold lst; rw [hg, if_neg (fun x => by omega)]
theorem sq_o {M : pM} {c i : Nat} {v : Int} {a b : Nat} (h : ¬ (a = c ∧ b = i)) : st M c i v a b = M a b := if_neg h
theorem sq_s {M : pM} {c i : Nat} {v : Int} : st M c i v c i = v := if_pos ⟨rfl, rfl⟩
theorem lF_s {M : pM} {c i : Nat} {v : Int} {u : Nat} (h6 : c ≠ 61) (h1 : ∀ k, k < u → ¬ (91 = c ∧ k = i)) (h4 : ∀ k, k < u → ¬ (94 = c ∧ k = i)) : lF (st M c i v) u = lF M u :=
  lF_c (sq_o (fun x => h6 x.1.symm)) (sq_o (fun x => h6 x.1.symm)) (sq_o (fun x => h6 x.1.symm)) (fun k hk => ⟨sq_o (h1 k hk), sq_o (h4 k hk)⟩)
theorem lF_u {M : pM} {u : Nat} : lF M (u + 1) = lst (M 61 54) (M 61 53) (M 61 55) (M 94 u) (M 91 u) (lF M u) := rfl
theorem fl1_lt {f : Nat → Int} {p : Nat} (h : 1 ≤ p) : fl1 f p < p := by
  obtain ⟨q, rfl⟩ : ∃ q, p = q + 1 := ⟨p - 1, by omega⟩
  have := fl1_le (f := f) (p := q)
  show (if f q < f (fl1 f q) then q else fl1 f q) < q + 1
  split <;> omega
theorem gI_q {M : pM} (hG : gI M) {c n : Nat} {lo hi : Int} (hs : szS (SH c) = n) (hc : gl c = [(lo, hi)]) (hle : lo ≤ hi) {k : Nat} (hk : k < n) : lo ≤ M c k ∧ M c k ≤ hi :=
  hG.1 c k (lo, hi) (fun _ => by rw [hs]; exact hk) (by rw [hc]; show ([(lo, hi)] : List (Int × Int))[k % 1]? = _; rw [Nat.mod_one]; rfl) hle
theorem gq_91 {M : pM} (hG : gI M) {k : Nat} (hk : k < 30) : 0 ≤ M 91 k ∧ M 91 k ≤ 35 := gI_q hG (n := 30) (by decide +kernel) (by decide +kernel) (by decide) hk
theorem gq_94 {M : pM} (hG : gI M) {k : Nat} (hk : k < 30) : 0 ≤ M 94 k ∧ M 94 k ≤ 1 := gI_q hG (n := 30) (by decide +kernel) (by decide +kernel) (by decide) hk
theorem gq_54 {M : pM} (hG : gI M) : 1 ≤ M 61 54 ∧ M 61 54 ≤ 4 := hG.1 61 54 (1, 4) (fun _ => by decide +kernel) (by decide +kernel) (by decide)
/-- the plane that is free first, as the class or the reference has it -/
theorem ln_p {M : pM} {A : Nat} {n : Nat} {p j x : Int} (h1 : ∀ k, k ≤ 3 → M A k = lF M n k) (hp : M 61 54 = p) (p1 : 1 ≤ p) (p4 : p ≤ 4) (hj : j = (fl1 (M A) p.toNat : Int)) (hx : M A j.toNat = x) : lnj (M 61 54) 1 (lF M n) = j.toNat ∧ lF M n j.toNat = x ∧ lpl (M 61 54) 1 (lF M n) = j ∧ j.toNat ≤ 3 := by
  have e : fl1 (lF M n) p.toNat = fl1 (M A) p.toNat := fl1_c (fun k hk => (h1 k (by omega)).symm)
  have l := fl1_lt (f := M A) (p := p.toNat) (by omega)
  refine ⟨?_, ?_, ?_, by omega⟩
  · rw [lnj_1, hp, e]
    omega
  · rw [← h1 j.toNat (by omega)]
    exact hx
  · rw [lpl_1, hp, e]
    exact hj.symm
theorem k4_st {M : pM} {c : Nat} (hc : c = 91 ∨ c = 94) {n x y z v : Int} (hx : 128 * n ≤ x ∧ x ≤ 128 * n + 127) (m0 : HP 29 n z M) (m1 : HP 30 x y M) (m2 : HP 31 n z M) (m3 : HP 25 n 0 M) : HP 29 n z (st M c n.toNat v) ∧ HP 30 x y (st M c n.toNat v) ∧ HP 31 n z (st M c n.toNat v) ∧ HP 25 n 0 (st M c n.toNat v) := by
  obtain ⟨a1, a2, q, s, a3, a4, a5⟩ := m0
  obtain ⟨n', q', s', c1, c2, c3, c4, c5⟩ := m1
  obtain ⟨d1, d2, q2, s2', d3, d4, d5⟩ := m2
  obtain ⟨e1, e2, e3⟩ := m3
  obtain ⟨x3, x4, x5, x6⟩ := c3
  have hn : n' = n := by omega
  subst hn
  have hF : ∀ u, u ≤ n'.toNat → lF (st M c n'.toNat v) u = lF M u := fun u hu => lF_s (by omega) (fun k hk h => by omega) (fun k hk h => by omega)
  have h3 : st M c n'.toNat v 61 53 = M 61 53 := sq_o (fun h => by omega)
  have h4 : st M c n'.toNat v 61 54 = M 61 54 := sq_o (fun h => by omega)
  have h5 : st M c n'.toNat v 61 55 = M 61 55 := sq_o (fun h => by omega)
  have hk : ∀ w s q, w ≤ n'.toNat → cbo M w s q → cbo (st M c n'.toNat v) w s q := fun w s q hw h => by
    unfold cbo
    rw [hF w hw, h3, h4, h5, sq_o (a := 37) (fun h => by omega), sq_o (a := 38) (fun h => by omega), sq_o (a := 39) (fun h => by omega)]
    exact h
  refine ⟨⟨a1, a2, q, s, a3, a4, fun k hk => ?_⟩, ⟨n', q', s', c1, c2, ⟨x3, x4, x5, x6⟩, c4, ?_⟩, ⟨d1, d2, q2, s2', d3, d4, hk _ _ _ (Nat.le_refl _) d5⟩, ⟨e1, e2, fun w hw => ?_⟩⟩
  · rw [hF _ (Nat.le_refl _), h3, h4, h5, sq_o (a := 36) (fun h => by omega)]
    exact a5 k hk
  · rw [hF _ (Nat.le_refl _), h3, h4, h5]
    exact c5
  · rw [sq_o (a := 94) (b := w) (fun h => by omega), sq_o (a := 91) (b := w) (fun h => by omega)]
    exact hk w _ _ (by omega) (e3 w hw)
theorem gI_q94 {M : pM} (hG : gI M) {k : Nat} {x : Int} (h0 : 0 ≤ x) (h1 : x ≤ 1) : gI (st M 94 k x) := by
  refine gI_st hG (fun b hb hle => ?_) (fun e he h1 h2 => ?_)
  · rw [show gl 94 = [((0 : Int), (1 : Int))] by decide +kernel] at hb
    have hb : ([((0 : Int), (1 : Int))] : List (Int × Int))[k % 1]? = some b := hb
    rw [Nat.mod_one] at hb
    cases hb
    exact ⟨h0, h1⟩
  · have hr : rfT.all (fun e => !(Nat.beq e.1 94)) = true := by decide +kernel
    have hr := List.all_eq_true.mp hr e he
    rw [h1] at hr
    exact absurd hr (by decide)
-- leaf0
theorem cr_0 (M : pM) (s0 s1 s2 : Int) (b0 : 0 ≤ s0 ∧ s0 ≤ 298) (b1 : 97 ≤ s1 ∧ s1 ≤ 122) (b2 : 0 ≤ s2 ∧ s2 ≤ 59) (m0 : HP 2 (s0) (s2) M) (hG : gI M) : (HP 2 (s0 + 1) (s2 + 1) (st M 108 (s0).toNat (s1)) ∧ True) := by
  obtain ⟨h1, h2, h3⟩ := m0
  have e := hgt_w (v := s1) h3
  rw [show 0 + s0.toNat = s0.toNat by omega] at e
  refine ⟨⟨by omega, by omega, ?_⟩, trivial⟩
  rw [show (s0 + 1).toNat = s0.toNat + 1 by omega, e]
  unfold hg1
  rw [if_neg (by omega), if_pos ⟨by omega, by omega⟩, if_pos (by omega)]
theorem rul_0 : Rul r_0 := by
  refine ⟨fun h => (by cases h), fun gi gv hg ρ M hm hB hF hG => ?_⟩
  obtain ⟨g1, g2⟩ := List.cons.inj (show ([aI ((0 : Int), ([(0, 1)] : List (Nat × Int))), aI ((0 : Int), ([(1, 1)] : List (Nat × Int)))] : List av) = [.inl gi, .inl gv] from hg)
  obtain ⟨g2, -⟩ := List.cons.inj g2
  cases g1
  cases g2
  have ei : ev ρ ((0 : Int), ([(0, 1)] : List (Nat × Int))) = ((ρ 0)) := by show 0 + (1 * ρ 0 + 0) = _; omega
  have ew : ev ρ ((0 : Int), ([(1, 1)] : List (Nat × Int))) = ((ρ 1)) := by show 0 + (1 * ρ 1 + 0) = _; omega
  rw [show (st M (ctj r_0) (ev ρ ((0 : Int), ([(0, 1)] : List (Nat × Int)))).toNat (ev ρ ((0 : Int), ([(1, 1)] : List (Nat × Int))))) = (st M 108 ((ρ 0)).toNat ((ρ 1))) from by rw [ei, ew]; rfl]
  have H := cr_0 M (ρ 0) (ρ 1) (ρ 2) (hB _ List.mem_cons_self) (hB _ (List.mem_cons_of_mem _ List.mem_cons_self)) (hB _ (List.mem_cons_of_mem _ (List.mem_cons_of_mem _ List.mem_cons_self))) (cvp 2 (x' := ((ρ 0))) (y' := ((ρ 2))) (by show 0 + (1 * ρ 0 + 0) = _; omega) (by show 0 + (1 * ρ 2 + 0) = _; omega) (hm _ List.mem_cons_self)) hG
  obtain ⟨k0, -⟩ := H
  exact ⟨_, List.mem_cons_self, ρ, fun _ _ => rfl, (okM_c (pvp 2 (by show 1 + (1 * ρ 0 + 0) = _; omega) (by show 1 + (1 * ρ 2 + 0) = _; omega) k0) okM_n), okB_n, okF_n⟩
-- not0
theorem cr_1 (M : pM) (s0 s1 s2 : Int) (b0 : 0 ≤ s0 ∧ s0 ≤ 298) (b1 : 126 ≤ s1 ∧ s1 ≤ 126) (b2 : 1 ≤ s2 ∧ s2 ≤ 60) (m0 : HP 2 (s0) (s2) M) (hG : gI M) : (HP 2 (s0 + 1) (s2) (st M 108 (s0).toNat (s1)) ∧ True) := by
  obtain ⟨h1, h2, h3⟩ := m0
  have e := hgt_w (v := s1) h3
  rw [show 0 + s0.toNat = s0.toNat by omega] at e
  refine ⟨⟨by omega, by omega, ?_⟩, trivial⟩
  rw [show (s0 + 1).toNat = s0.toNat + 1 by omega, e]
  unfold hg1
  rw [if_pos (by omega), if_pos (by omega)]
theorem rul_1 : Rul r_1 := by
  refine ⟨fun h => (by cases h), fun gi gv hg ρ M hm hB hF hG => ?_⟩
  obtain ⟨g1, g2⟩ := List.cons.inj (show ([aI ((0 : Int), ([(0, 1)] : List (Nat × Int))), aI ((0 : Int), ([(1, 1)] : List (Nat × Int)))] : List av) = [.inl gi, .inl gv] from hg)
  obtain ⟨g2, -⟩ := List.cons.inj g2
  cases g1
  cases g2
  have ei : ev ρ ((0 : Int), ([(0, 1)] : List (Nat × Int))) = ((ρ 0)) := by show 0 + (1 * ρ 0 + 0) = _; omega
  have ew : ev ρ ((0 : Int), ([(1, 1)] : List (Nat × Int))) = ((ρ 1)) := by show 0 + (1 * ρ 1 + 0) = _; omega
  rw [show (st M (ctj r_1) (ev ρ ((0 : Int), ([(0, 1)] : List (Nat × Int)))).toNat (ev ρ ((0 : Int), ([(1, 1)] : List (Nat × Int))))) = (st M 108 ((ρ 0)).toNat ((ρ 1))) from by rw [ei, ew]; rfl]
  have H := cr_1 M (ρ 0) (ρ 1) (ρ 2) (hB _ List.mem_cons_self) (hB _ (List.mem_cons_of_mem _ List.mem_cons_self)) (hB _ (List.mem_cons_of_mem _ (List.mem_cons_of_mem _ List.mem_cons_self))) (cvp 2 (x' := ((ρ 0))) (y' := ((ρ 2))) (by show 0 + (1 * ρ 0 + 0) = _; omega) (by show 0 + (1 * ρ 2 + 0) = _; omega) (hm _ List.mem_cons_self)) hG
  obtain ⟨k0, -⟩ := H
  exact ⟨_, List.mem_cons_self, ρ, fun _ _ => rfl, (okM_c (pvp 2 (by show 1 + (1 * ρ 0 + 0) = _; omega) (by show 0 + (1 * ρ 2 + 0) = _; omega) k0) okM_n), okB_n, okF_n⟩
-- sign0
theorem cr_2 (M : pM) (s0 s1 s2 : Int) (b0 : 0 ≤ s0 ∧ s0 ≤ 298) (b1 : 0 ≤ s1 ∧ s1 ≤ 96) (b2 : 2 ≤ s2 ∧ s2 ≤ 60) (m0 : HP 2 (s0) (s2) M) (hG : gI M) : (HP 2 (s0 + 1) (s2 - 1) (st M 108 (s0).toNat (s1)) ∧ True) := by
  obtain ⟨h1, h2, h3⟩ := m0
  have e := hgt_w (v := s1) h3
  rw [show 0 + s0.toNat = s0.toNat by omega] at e
  refine ⟨⟨by omega, by omega, ?_⟩, trivial⟩
  rw [show (s0 + 1).toNat = s0.toNat + 1 by omega, e]
  unfold hg1
  rw [if_neg (by omega), if_neg (by omega), if_pos (by omega)]
theorem rul_2 : Rul r_2 := by
  refine ⟨fun h => (by cases h), fun gi gv hg ρ M hm hB hF hG => ?_⟩
  obtain ⟨g1, g2⟩ := List.cons.inj (show ([aI ((0 : Int), ([(0, 1)] : List (Nat × Int))), aI ((0 : Int), ([(1, 1)] : List (Nat × Int)))] : List av) = [.inl gi, .inl gv] from hg)
  obtain ⟨g2, -⟩ := List.cons.inj g2
  cases g1
  cases g2
  have ei : ev ρ ((0 : Int), ([(0, 1)] : List (Nat × Int))) = ((ρ 0)) := by show 0 + (1 * ρ 0 + 0) = _; omega
  have ew : ev ρ ((0 : Int), ([(1, 1)] : List (Nat × Int))) = ((ρ 1)) := by show 0 + (1 * ρ 1 + 0) = _; omega
  rw [show (st M (ctj r_2) (ev ρ ((0 : Int), ([(0, 1)] : List (Nat × Int)))).toNat (ev ρ ((0 : Int), ([(1, 1)] : List (Nat × Int))))) = (st M 108 ((ρ 0)).toNat ((ρ 1))) from by rw [ei, ew]; rfl]
  have H := cr_2 M (ρ 0) (ρ 1) (ρ 2) (hB _ List.mem_cons_self) (hB _ (List.mem_cons_of_mem _ List.mem_cons_self)) (hB _ (List.mem_cons_of_mem _ (List.mem_cons_of_mem _ List.mem_cons_self))) (cvp 2 (x' := ((ρ 0))) (y' := ((ρ 2))) (by show 0 + (1 * ρ 0 + 0) = _; omega) (by show 0 + (1 * ρ 2 + 0) = _; omega) (hm _ List.mem_cons_self)) hG
  obtain ⟨k0, -⟩ := H
  exact ⟨_, List.mem_cons_self, ρ, fun _ _ => rfl, (okM_c (pvp 2 (by show 1 + (1 * ρ 0 + 0) = _; omega) (by show (-1) + (1 * ρ 2 + 0) = _; omega) k0) okM_n), okB_n, okF_n⟩
-- bar0
theorem cr_3 (M : pM) (s0 s1 s2 : Int) (b0 : 0 ≤ s0 ∧ s0 ≤ 298) (b1 : 124 ≤ s1 ∧ s1 ≤ 124) (b2 : 2 ≤ s2 ∧ s2 ≤ 60) (m0 : HP 2 (s0) (s2) M) (hG : gI M) : (HP 2 (s0 + 1) (s2 - 1) (st M 108 (s0).toNat (s1)) ∧ True) := by
  obtain ⟨h1, h2, h3⟩ := m0
  have e := hgt_w (v := s1) h3
  rw [show 0 + s0.toNat = s0.toNat by omega] at e
  refine ⟨⟨by omega, by omega, ?_⟩, trivial⟩
  rw [show (s0 + 1).toNat = s0.toNat + 1 by omega, e]
  unfold hg1
  rw [if_neg (by omega), if_neg (by omega), if_pos (by omega)]
theorem rul_3 : Rul r_3 := by
  refine ⟨fun h => (by cases h), fun gi gv hg ρ M hm hB hF hG => ?_⟩
  obtain ⟨g1, g2⟩ := List.cons.inj (show ([aI ((0 : Int), ([(0, 1)] : List (Nat × Int))), aI ((0 : Int), ([(1, 1)] : List (Nat × Int)))] : List av) = [.inl gi, .inl gv] from hg)
  obtain ⟨g2, -⟩ := List.cons.inj g2
  cases g1
  cases g2
  have ei : ev ρ ((0 : Int), ([(0, 1)] : List (Nat × Int))) = ((ρ 0)) := by show 0 + (1 * ρ 0 + 0) = _; omega
  have ew : ev ρ ((0 : Int), ([(1, 1)] : List (Nat × Int))) = ((ρ 1)) := by show 0 + (1 * ρ 1 + 0) = _; omega
  rw [show (st M (ctj r_3) (ev ρ ((0 : Int), ([(0, 1)] : List (Nat × Int)))).toNat (ev ρ ((0 : Int), ([(1, 1)] : List (Nat × Int))))) = (st M 108 ((ρ 0)).toNat ((ρ 1))) from by rw [ei, ew]; rfl]
  have H := cr_3 M (ρ 0) (ρ 1) (ρ 2) (hB _ List.mem_cons_self) (hB _ (List.mem_cons_of_mem _ List.mem_cons_self)) (hB _ (List.mem_cons_of_mem _ (List.mem_cons_of_mem _ List.mem_cons_self))) (cvp 2 (x' := ((ρ 0))) (y' := ((ρ 2))) (by show 0 + (1 * ρ 0 + 0) = _; omega) (by show 0 + (1 * ρ 2 + 0) = _; omega) (hm _ List.mem_cons_self)) hG
  obtain ⟨k0, -⟩ := H
  exact ⟨_, List.mem_cons_self, ρ, fun _ _ => rfl, (okM_c (pvp 2 (by show 1 + (1 * ρ 0 + 0) = _; omega) (by show (-1) + (1 * ρ 2 + 0) = _; omega) k0) okM_n), okB_n, okF_n⟩
-- ch0
theorem cr_4 (M : pM)  (hG : gI M) : (HP 2 (0 : Int) (0 : Int) M ∧ True) := by
  exact ⟨⟨by omega, by omega, rfl⟩, trivial⟩
theorem rul_4 : Rul r_4 := by
  refine ⟨fun _ ρ M hm hB hF hG => ?_, fun gi gv hg => (by cases hg)⟩
  have H := cr_4 M hG
  obtain ⟨k0, -⟩ := H
  exact ⟨_, List.mem_cons_self, ρ, fun _ _ => rfl, (okM_c (pvp 2 (by show 0 + 0 = _; omega) (by show 0 + 0 = _; omega) k0) okM_n), okB_n, okF_n⟩
-- leaf1
theorem cr_5 (M : pM) (s0 s1 s2 : Int) (b0 : 300 ≤ s0 ∧ s0 ≤ 598) (b1 : 97 ≤ s1 ∧ s1 ≤ 122) (b2 : 0 ≤ s2 ∧ s2 ≤ 59) (m0 : HP 3 (s0) (s2) M) (hG : gI M) : (HP 3 (s0 + 1) (s2 + 1) (st M 108 (s0).toNat (s1)) ∧ True) := by
  obtain ⟨h1, h2, h3⟩ := m0
  have e := hgt_w (v := s1) h3
  rw [show 300 + (s0 - 300).toNat = s0.toNat by omega] at e
  refine ⟨⟨by omega, by omega, ?_⟩, trivial⟩
  rw [show (s0 + 1 - 300).toNat = (s0 - 300).toNat + 1 by omega, e]
  unfold hg1
  rw [if_neg (by omega), if_pos ⟨by omega, by omega⟩, if_pos (by omega)]
theorem rul_5 : Rul r_5 := by
  refine ⟨fun h => (by cases h), fun gi gv hg ρ M hm hB hF hG => ?_⟩
  obtain ⟨g1, g2⟩ := List.cons.inj (show ([aI ((0 : Int), ([(0, 1)] : List (Nat × Int))), aI ((0 : Int), ([(1, 1)] : List (Nat × Int)))] : List av) = [.inl gi, .inl gv] from hg)
  obtain ⟨g2, -⟩ := List.cons.inj g2
  cases g1
  cases g2
  have ei : ev ρ ((0 : Int), ([(0, 1)] : List (Nat × Int))) = ((ρ 0)) := by show 0 + (1 * ρ 0 + 0) = _; omega
  have ew : ev ρ ((0 : Int), ([(1, 1)] : List (Nat × Int))) = ((ρ 1)) := by show 0 + (1 * ρ 1 + 0) = _; omega
  rw [show (st M (ctj r_5) (ev ρ ((0 : Int), ([(0, 1)] : List (Nat × Int)))).toNat (ev ρ ((0 : Int), ([(1, 1)] : List (Nat × Int))))) = (st M 108 ((ρ 0)).toNat ((ρ 1))) from by rw [ei, ew]; rfl]
  have H := cr_5 M (ρ 0) (ρ 1) (ρ 2) (hB _ List.mem_cons_self) (hB _ (List.mem_cons_of_mem _ List.mem_cons_self)) (hB _ (List.mem_cons_of_mem _ (List.mem_cons_of_mem _ List.mem_cons_self))) (cvp 3 (x' := ((ρ 0))) (y' := ((ρ 2))) (by show 0 + (1 * ρ 0 + 0) = _; omega) (by show 0 + (1 * ρ 2 + 0) = _; omega) (hm _ List.mem_cons_self)) hG
  obtain ⟨k0, -⟩ := H
  exact ⟨_, List.mem_cons_self, ρ, fun _ _ => rfl, (okM_c (pvp 3 (by show 1 + (1 * ρ 0 + 0) = _; omega) (by show 1 + (1 * ρ 2 + 0) = _; omega) k0) okM_n), okB_n, okF_n⟩
-- not1
theorem cr_6 (M : pM) (s0 s1 s2 : Int) (b0 : 300 ≤ s0 ∧ s0 ≤ 598) (b1 : 126 ≤ s1 ∧ s1 ≤ 126) (b2 : 1 ≤ s2 ∧ s2 ≤ 60) (m0 : HP 3 (s0) (s2) M) (hG : gI M) : (HP 3 (s0 + 1) (s2) (st M 108 (s0).toNat (s1)) ∧ True) := by
  obtain ⟨h1, h2, h3⟩ := m0
  have e := hgt_w (v := s1) h3
  rw [show 300 + (s0 - 300).toNat = s0.toNat by omega] at e
  refine ⟨⟨by omega, by omega, ?_⟩, trivial⟩
  rw [show (s0 + 1 - 300).toNat = (s0 - 300).toNat + 1 by omega, e]
  unfold hg1
  rw [if_pos (by omega), if_pos (by omega)]
theorem rul_6 : Rul r_6 := by
  refine ⟨fun h => (by cases h), fun gi gv hg ρ M hm hB hF hG => ?_⟩
  obtain ⟨g1, g2⟩ := List.cons.inj (show ([aI ((0 : Int), ([(0, 1)] : List (Nat × Int))), aI ((0 : Int), ([(1, 1)] : List (Nat × Int)))] : List av) = [.inl gi, .inl gv] from hg)
  obtain ⟨g2, -⟩ := List.cons.inj g2
  cases g1
  cases g2
  have ei : ev ρ ((0 : Int), ([(0, 1)] : List (Nat × Int))) = ((ρ 0)) := by show 0 + (1 * ρ 0 + 0) = _; omega
  have ew : ev ρ ((0 : Int), ([(1, 1)] : List (Nat × Int))) = ((ρ 1)) := by show 0 + (1 * ρ 1 + 0) = _; omega
  rw [show (st M (ctj r_6) (ev ρ ((0 : Int), ([(0, 1)] : List (Nat × Int)))).toNat (ev ρ ((0 : Int), ([(1, 1)] : List (Nat × Int))))) = (st M 108 ((ρ 0)).toNat ((ρ 1))) from by rw [ei, ew]; rfl]
  have H := cr_6 M (ρ 0) (ρ 1) (ρ 2) (hB _ List.mem_cons_self) (hB _ (List.mem_cons_of_mem _ List.mem_cons_self)) (hB _ (List.mem_cons_of_mem _ (List.mem_cons_of_mem _ List.mem_cons_self))) (cvp 3 (x' := ((ρ 0))) (y' := ((ρ 2))) (by show 0 + (1 * ρ 0 + 0) = _; omega) (by show 0 + (1 * ρ 2 + 0) = _; omega) (hm _ List.mem_cons_self)) hG
  obtain ⟨k0, -⟩ := H
  exact ⟨_, List.mem_cons_self, ρ, fun _ _ => rfl, (okM_c (pvp 3 (by show 1 + (1 * ρ 0 + 0) = _; omega) (by show 0 + (1 * ρ 2 + 0) = _; omega) k0) okM_n), okB_n, okF_n⟩
-- sign1
theorem cr_7 (M : pM) (s0 s1 s2 : Int) (b0 : 300 ≤ s0 ∧ s0 ≤ 598) (b1 : 0 ≤ s1 ∧ s1 ≤ 96) (b2 : 2 ≤ s2 ∧ s2 ≤ 60) (m0 : HP 3 (s0) (s2) M) (hG : gI M) : (HP 3 (s0 + 1) (s2 - 1) (st M 108 (s0).toNat (s1)) ∧ True) := by
  obtain ⟨h1, h2, h3⟩ := m0
  have e := hgt_w (v := s1) h3
  rw [show 300 + (s0 - 300).toNat = s0.toNat by omega] at e
  refine ⟨⟨by omega, by omega, ?_⟩, trivial⟩
  rw [show (s0 + 1 - 300).toNat = (s0 - 300).toNat + 1 by omega, e]
  unfold hg1
  rw [if_neg (by omega), if_neg (by omega), if_pos (by omega)]
theorem rul_7 : Rul r_7 := by
  refine ⟨fun h => (by cases h), fun gi gv hg ρ M hm hB hF hG => ?_⟩
  obtain ⟨g1, g2⟩ := List.cons.inj (show ([aI ((0 : Int), ([(0, 1)] : List (Nat × Int))), aI ((0 : Int), ([(1, 1)] : List (Nat × Int)))] : List av) = [.inl gi, .inl gv] from hg)
  obtain ⟨g2, -⟩ := List.cons.inj g2
  cases g1
  cases g2
  have ei : ev ρ ((0 : Int), ([(0, 1)] : List (Nat × Int))) = ((ρ 0)) := by show 0 + (1 * ρ 0 + 0) = _; omega
  have ew : ev ρ ((0 : Int), ([(1, 1)] : List (Nat × Int))) = ((ρ 1)) := by show 0 + (1 * ρ 1 + 0) = _; omega
  rw [show (st M (ctj r_7) (ev ρ ((0 : Int), ([(0, 1)] : List (Nat × Int)))).toNat (ev ρ ((0 : Int), ([(1, 1)] : List (Nat × Int))))) = (st M 108 ((ρ 0)).toNat ((ρ 1))) from by rw [ei, ew]; rfl]
  have H := cr_7 M (ρ 0) (ρ 1) (ρ 2) (hB _ List.mem_cons_self) (hB _ (List.mem_cons_of_mem _ List.mem_cons_self)) (hB _ (List.mem_cons_of_mem _ (List.mem_cons_of_mem _ List.mem_cons_self))) (cvp 3 (x' := ((ρ 0))) (y' := ((ρ 2))) (by show 0 + (1 * ρ 0 + 0) = _; omega) (by show 0 + (1 * ρ 2 + 0) = _; omega) (hm _ List.mem_cons_self)) hG
  obtain ⟨k0, -⟩ := H
  exact ⟨_, List.mem_cons_self, ρ, fun _ _ => rfl, (okM_c (pvp 3 (by show 1 + (1 * ρ 0 + 0) = _; omega) (by show (-1) + (1 * ρ 2 + 0) = _; omega) k0) okM_n), okB_n, okF_n⟩
-- bar1
theorem cr_8 (M : pM) (s0 s1 s2 : Int) (b0 : 300 ≤ s0 ∧ s0 ≤ 598) (b1 : 124 ≤ s1 ∧ s1 ≤ 124) (b2 : 2 ≤ s2 ∧ s2 ≤ 60) (m0 : HP 3 (s0) (s2) M) (hG : gI M) : (HP 3 (s0 + 1) (s2 - 1) (st M 108 (s0).toNat (s1)) ∧ True) := by
  obtain ⟨h1, h2, h3⟩ := m0
  have e := hgt_w (v := s1) h3
  rw [show 300 + (s0 - 300).toNat = s0.toNat by omega] at e
  refine ⟨⟨by omega, by omega, ?_⟩, trivial⟩
  rw [show (s0 + 1 - 300).toNat = (s0 - 300).toNat + 1 by omega, e]
  unfold hg1
  rw [if_neg (by omega), if_neg (by omega), if_pos (by omega)]
theorem rul_8 : Rul r_8 := by
  refine ⟨fun h => (by cases h), fun gi gv hg ρ M hm hB hF hG => ?_⟩
  obtain ⟨g1, g2⟩ := List.cons.inj (show ([aI ((0 : Int), ([(0, 1)] : List (Nat × Int))), aI ((0 : Int), ([(1, 1)] : List (Nat × Int)))] : List av) = [.inl gi, .inl gv] from hg)
  obtain ⟨g2, -⟩ := List.cons.inj g2
  cases g1
  cases g2
  have ei : ev ρ ((0 : Int), ([(0, 1)] : List (Nat × Int))) = ((ρ 0)) := by show 0 + (1 * ρ 0 + 0) = _; omega
  have ew : ev ρ ((0 : Int), ([(1, 1)] : List (Nat × Int))) = ((ρ 1)) := by show 0 + (1 * ρ 1 + 0) = _; omega
  rw [show (st M (ctj r_8) (ev ρ ((0 : Int), ([(0, 1)] : List (Nat × Int)))).toNat (ev ρ ((0 : Int), ([(1, 1)] : List (Nat × Int))))) = (st M 108 ((ρ 0)).toNat ((ρ 1))) from by rw [ei, ew]; rfl]
  have H := cr_8 M (ρ 0) (ρ 1) (ρ 2) (hB _ List.mem_cons_self) (hB _ (List.mem_cons_of_mem _ List.mem_cons_self)) (hB _ (List.mem_cons_of_mem _ (List.mem_cons_of_mem _ List.mem_cons_self))) (cvp 3 (x' := ((ρ 0))) (y' := ((ρ 2))) (by show 0 + (1 * ρ 0 + 0) = _; omega) (by show 0 + (1 * ρ 2 + 0) = _; omega) (hm _ List.mem_cons_self)) hG
  obtain ⟨k0, -⟩ := H
  exact ⟨_, List.mem_cons_self, ρ, fun _ _ => rfl, (okM_c (pvp 3 (by show 1 + (1 * ρ 0 + 0) = _; omega) (by show (-1) + (1 * ρ 2 + 0) = _; omega) k0) okM_n), okB_n, okF_n⟩
-- ch1
theorem cr_9 (M : pM)  (hG : gI M) : (HP 3 (300 : Int) (0 : Int) M ∧ True) := by
  exact ⟨⟨by omega, by omega, rfl⟩, trivial⟩
theorem rul_9 : Rul r_9 := by
  refine ⟨fun _ ρ M hm hB hF hG => ?_, fun gi gv hg => (by cases hg)⟩
  have H := cr_9 M hG
  obtain ⟨k0, -⟩ := H
  exact ⟨_, List.mem_cons_self, ρ, fun _ _ => rfl, (okM_c (pvp 3 (by show 300 + 0 = _; omega) (by show 0 + 0 = _; omega) k0) okM_n), okB_n, okF_n⟩
-- pb0
theorem cr_10 (M : pM)  (hG : gI M) : (HP 4 (0 : Int) (0 : Int) M ∧ True) := by
  exact ⟨⟨by omega, by omega, rfl⟩, trivial⟩
theorem rul_10 : Rul r_10 := by
  refine ⟨fun _ ρ M hm hB hF hG => ?_, fun gi gv hg => (by cases hg)⟩
  have H := cr_10 M hG
  obtain ⟨k0, -⟩ := H
  exact ⟨_, List.mem_cons_self, ρ, fun _ _ => rfl, (okM_c (pvp 4 (by show 0 + 0 = _; omega) (by show 0 + 0 = _; omega) k0) okM_n), okB_n, okF_n⟩
-- pw
theorem cr_11 (M : pM) (s0 s1 s2 : Int) (b0 : 0 ≤ s0 ∧ s0 ≤ 79) (b1 : 0 ≤ s1 ∧ s1 ≤ 8) (b2 : 0 ≤ s2 ∧ s2 ≤ 60) (m0 : HP 4 (s0) (s2) M) (hG : gI M) : (HP 4 (s0) (s2) (st M 111 (s0).toNat (s1)) ∧ True) := by
  obtain ⟨h1, h2, h3⟩ := m0
  refine ⟨⟨h1, h2, ?_⟩, trivial⟩
  rw [pbc_congr (M := M) (fun i hi => ⟨by unfold st; rw [if_neg (by omega)], by unfold st; rw [if_neg (by omega)]⟩)]
  exact h3
theorem rul_11 : Rul r_11 := by
  refine ⟨fun h => (by cases h), fun gi gv hg ρ M hm hB hF hG => ?_⟩
  obtain ⟨g1, g2⟩ := List.cons.inj (show ([aI ((0 : Int), ([(0, 1)] : List (Nat × Int))), aI ((0 : Int), ([(1, 1)] : List (Nat × Int)))] : List av) = [.inl gi, .inl gv] from hg)
  obtain ⟨g2, -⟩ := List.cons.inj g2
  cases g1
  cases g2
  have ei : ev ρ ((0 : Int), ([(0, 1)] : List (Nat × Int))) = ((ρ 0)) := by show 0 + (1 * ρ 0 + 0) = _; omega
  have ew : ev ρ ((0 : Int), ([(1, 1)] : List (Nat × Int))) = ((ρ 1)) := by show 0 + (1 * ρ 1 + 0) = _; omega
  rw [show (st M (ctj r_11) (ev ρ ((0 : Int), ([(0, 1)] : List (Nat × Int)))).toNat (ev ρ ((0 : Int), ([(1, 1)] : List (Nat × Int))))) = (st M 111 ((ρ 0)).toNat ((ρ 1))) from by rw [ei, ew]; rfl]
  have H := cr_11 M (ρ 0) (ρ 1) (ρ 2) (hB _ List.mem_cons_self) (hB _ (List.mem_cons_of_mem _ List.mem_cons_self)) (hB _ (List.mem_cons_of_mem _ (List.mem_cons_of_mem _ List.mem_cons_self))) (cvp 4 (x' := ((ρ 0))) (y' := ((ρ 2))) (by show 0 + (1 * ρ 0 + 0) = _; omega) (by show 0 + (1 * ρ 2 + 0) = _; omega) (hm _ List.mem_cons_self)) hG
  obtain ⟨k0, -⟩ := H
  exact ⟨_, List.mem_cons_self, ρ, fun _ _ => rfl, (okM_c (pvp 4 (by show 0 + (1 * ρ 0 + 0) = _; omega) (by show 0 + (1 * ρ 2 + 0) = _; omega) k0) okM_n), okB_n, okF_n⟩
-- ps
theorem cr_12 (M : pM) (s0 s1 s2 : Int) (b0 : 0 ≤ s0 ∧ s0 ≤ 79) (b1 : (-2147483648) ≤ s1 ∧ s1 ≤ 2147483647) (b2 : 0 ≤ s2 ∧ s2 ≤ 60) (m0 : HP 4 (s0) (s2) M) (hG : gI M) : (HP 4 (s0) (s2) (st M 112 (s0).toNat (s1)) ∧ True) := by
  obtain ⟨h1, h2, h3⟩ := m0
  refine ⟨⟨h1, h2, ?_⟩, trivial⟩
  rw [pbc_congr (M := M) (fun i hi => ⟨by unfold st; rw [if_neg (by omega)], by unfold st; rw [if_neg (by omega)]⟩)]
  exact h3
theorem rul_12 : Rul r_12 := by
  refine ⟨fun h => (by cases h), fun gi gv hg ρ M hm hB hF hG => ?_⟩
  obtain ⟨g1, g2⟩ := List.cons.inj (show ([aI ((0 : Int), ([(0, 1)] : List (Nat × Int))), aI ((0 : Int), ([(1, 1)] : List (Nat × Int)))] : List av) = [.inl gi, .inl gv] from hg)
  obtain ⟨g2, -⟩ := List.cons.inj g2
  cases g1
  cases g2
  have ei : ev ρ ((0 : Int), ([(0, 1)] : List (Nat × Int))) = ((ρ 0)) := by show 0 + (1 * ρ 0 + 0) = _; omega
  have ew : ev ρ ((0 : Int), ([(1, 1)] : List (Nat × Int))) = ((ρ 1)) := by show 0 + (1 * ρ 1 + 0) = _; omega
  rw [show (st M (ctj r_12) (ev ρ ((0 : Int), ([(0, 1)] : List (Nat × Int)))).toNat (ev ρ ((0 : Int), ([(1, 1)] : List (Nat × Int))))) = (st M 112 ((ρ 0)).toNat ((ρ 1))) from by rw [ei, ew]; rfl]
  have H := cr_12 M (ρ 0) (ρ 1) (ρ 2) (hB _ List.mem_cons_self) (hB _ (List.mem_cons_of_mem _ List.mem_cons_self)) (hB _ (List.mem_cons_of_mem _ (List.mem_cons_of_mem _ List.mem_cons_self))) (cvp 4 (x' := ((ρ 0))) (y' := ((ρ 2))) (by show 0 + (1 * ρ 0 + 0) = _; omega) (by show 0 + (1 * ρ 2 + 0) = _; omega) (hm _ List.mem_cons_self)) hG
  obtain ⟨k0, -⟩ := H
  exact ⟨_, List.mem_cons_self, ρ, fun _ _ => rfl, (okM_c (pvp 4 (by show 0 + (1 * ρ 0 + 0) = _; omega) (by show 0 + (1 * ρ 2 + 0) = _; omega) k0) okM_n), okB_n, okF_n⟩
-- put8
theorem cr_13 (M : pM) (s0 s1 s2 s3 : Int) (b0 : 0 ≤ s0 ∧ s0 ≤ 0) (b1 : 0 ≤ s1 ∧ s1 ≤ 60) (b2 : 8 ≤ s2 ∧ s2 ≤ 8) (b3 : (-2147483648) ≤ s3 ∧ s3 ≤ 2147483647) (m0 : HP 4 (s0) (s1) M) (m1 : (0 ≤ (s0) ∧ M 111 (s0).toNat = (s2))) (m2 : (0 ≤ (s0) ∧ M 112 (s0).toNat = (s3))) (hG : gI M) : (HP 4 (s0 + 1) (s1) M ∧ True) := by
  obtain ⟨h1, h2, h3⟩ := m0
  have e := pbc_s h3
  rw [m1.2, m2.2] at e
  have hz : s1 = 0 := by rw [show s0.toNat = 0 by omega] at h3; exact (Option.some.inj h3).symm
  refine ⟨⟨by omega, by omega, ?_⟩, trivial⟩
  rw [show (s0 + 1).toNat = s0.toNat + 1 by omega, e]
  unfold pb1
  rw [if_pos (by omega), if_pos (by omega), show s1 = 0 by omega]
theorem rul_13 : Rul r_13 := by
  refine ⟨fun _ ρ M hm hB hF hG => ?_, fun gi gv hg => (by cases hg)⟩
  have H := cr_13 M (ρ 0) (ρ 1) (ρ 2) (ρ 3) (hB _ List.mem_cons_self) (hB _ (List.mem_cons_of_mem _ List.mem_cons_self)) (hB _ (List.mem_cons_of_mem _ (List.mem_cons_of_mem _ List.mem_cons_self))) (hB _ (List.mem_cons_of_mem _ (List.mem_cons_of_mem _ (List.mem_cons_of_mem _ List.mem_cons_self)))) (cvp 4 (x' := ((ρ 0))) (y' := ((ρ 1))) (by show 0 + (1 * ρ 0 + 0) = _; omega) (by show 0 + (1 * ρ 1 + 0) = _; omega) (hm _ List.mem_cons_self)) (cvm (c := 111) (by decide) (x' := ((ρ 0))) (y' := ((ρ 2))) (by show 0 + (1 * ρ 0 + 0) = _; omega) (by show 0 + (1 * ρ 2 + 0) = _; omega) (hm _ (List.mem_cons_of_mem _ List.mem_cons_self))) (cvm (c := 112) (by decide) (x' := ((ρ 0))) (y' := ((ρ 3))) (by show 0 + (1 * ρ 0 + 0) = _; omega) (by show 0 + (1 * ρ 3 + 0) = _; omega) (hm _ (List.mem_cons_of_mem _ (List.mem_cons_of_mem _ List.mem_cons_self)))) hG
  obtain ⟨k0, -⟩ := H
  exact ⟨_, List.mem_cons_self, ρ, fun _ _ => rfl, (okM_c (pvp 4 (by show 1 + (1 * ρ 0 + 0) = _; omega) (by show 0 + (1 * ρ 1 + 0) = _; omega) k0) okM_n), okB_n, okF_n⟩
-- put3
theorem cr_14 (M : pM) (s0 s1 s2 s3 : Int) (b0 : 1 ≤ s0 ∧ s0 ≤ 79) (b1 : 0 ≤ s1 ∧ s1 ≤ 60) (b2 : 3 ≤ s2 ∧ s2 ≤ 3) (b3 : 126 ≤ s3 ∧ s3 ≤ 126) (m0 : HP 4 (s0) (s1) M) (m1 : (0 ≤ (s0) ∧ M 111 (s0).toNat = (s2))) (m2 : (0 ≤ (s0) ∧ M 112 (s0).toNat = (s3))) (hG : gI M) : (HP 4 (s0 + 1) (s1) M ∧ True) := by
  obtain ⟨h1, h2, h3⟩ := m0
  have e := pbc_s h3
  rw [m1.2, m2.2] at e
  refine ⟨⟨by omega, by omega, ?_⟩, trivial⟩
  rw [show (s0 + 1).toNat = s0.toNat + 1 by omega, e]
  unfold pb1
  rw [if_neg (by omega), if_pos (by omega), if_pos (by omega)]
theorem rul_14 : Rul r_14 := by
  refine ⟨fun _ ρ M hm hB hF hG => ?_, fun gi gv hg => (by cases hg)⟩
  have H := cr_14 M (ρ 0) (ρ 1) (ρ 2) (ρ 3) (hB _ List.mem_cons_self) (hB _ (List.mem_cons_of_mem _ List.mem_cons_self)) (hB _ (List.mem_cons_of_mem _ (List.mem_cons_of_mem _ List.mem_cons_self))) (hB _ (List.mem_cons_of_mem _ (List.mem_cons_of_mem _ (List.mem_cons_of_mem _ List.mem_cons_self)))) (cvp 4 (x' := ((ρ 0))) (y' := ((ρ 1))) (by show 0 + (1 * ρ 0 + 0) = _; omega) (by show 0 + (1 * ρ 1 + 0) = _; omega) (hm _ List.mem_cons_self)) (cvm (c := 111) (by decide) (x' := ((ρ 0))) (y' := ((ρ 2))) (by show 0 + (1 * ρ 0 + 0) = _; omega) (by show 0 + (1 * ρ 2 + 0) = _; omega) (hm _ (List.mem_cons_of_mem _ List.mem_cons_self))) (cvm (c := 112) (by decide) (x' := ((ρ 0))) (y' := ((ρ 3))) (by show 0 + (1 * ρ 0 + 0) = _; omega) (by show 0 + (1 * ρ 3 + 0) = _; omega) (hm _ (List.mem_cons_of_mem _ (List.mem_cons_of_mem _ List.mem_cons_self)))) hG
  obtain ⟨k0, -⟩ := H
  exact ⟨_, List.mem_cons_self, ρ, fun _ _ => rfl, (okM_c (pvp 4 (by show 1 + (1 * ρ 0 + 0) = _; omega) (by show 0 + (1 * ρ 1 + 0) = _; omega) k0) okM_n), okB_n, okF_n⟩
-- put7
theorem cr_15 (M : pM) (s0 s1 s2 s3 : Int) (b0 : 1 ≤ s0 ∧ s0 ≤ 79) (b1 : 0 ≤ s1 ∧ s1 ≤ 60) (b2 : 7 ≤ s2 ∧ s2 ≤ 7) (b3 : (-2147483648) ≤ s3 ∧ s3 ≤ 2147483647) (m0 : HP 4 (s0) (s1) M) (m1 : (0 ≤ (s0) ∧ M 111 (s0).toNat = (s2))) (m2 : (0 ≤ (s0) ∧ M 112 (s0).toNat = (s3))) (hG : gI M) : (HP 4 (s0 + 1) (s1) M ∧ True) := by
  obtain ⟨h1, h2, h3⟩ := m0
  have e := pbc_s h3
  rw [m1.2, m2.2] at e
  refine ⟨⟨by omega, by omega, ?_⟩, trivial⟩
  rw [show (s0 + 1).toNat = s0.toNat + 1 by omega, e]
  unfold pb1
  rw [if_neg (by omega), if_neg (by omega), if_pos (by omega)]
theorem rul_15 : Rul r_15 := by
  refine ⟨fun _ ρ M hm hB hF hG => ?_, fun gi gv hg => (by cases hg)⟩
  have H := cr_15 M (ρ 0) (ρ 1) (ρ 2) (ρ 3) (hB _ List.mem_cons_self) (hB _ (List.mem_cons_of_mem _ List.mem_cons_self)) (hB _ (List.mem_cons_of_mem _ (List.mem_cons_of_mem _ List.mem_cons_self))) (hB _ (List.mem_cons_of_mem _ (List.mem_cons_of_mem _ (List.mem_cons_of_mem _ List.mem_cons_self)))) (cvp 4 (x' := ((ρ 0))) (y' := ((ρ 1))) (by show 0 + (1 * ρ 0 + 0) = _; omega) (by show 0 + (1 * ρ 1 + 0) = _; omega) (hm _ List.mem_cons_self)) (cvm (c := 111) (by decide) (x' := ((ρ 0))) (y' := ((ρ 2))) (by show 0 + (1 * ρ 0 + 0) = _; omega) (by show 0 + (1 * ρ 2 + 0) = _; omega) (hm _ (List.mem_cons_of_mem _ List.mem_cons_self))) (cvm (c := 112) (by decide) (x' := ((ρ 0))) (y' := ((ρ 3))) (by show 0 + (1 * ρ 0 + 0) = _; omega) (by show 0 + (1 * ρ 3 + 0) = _; omega) (hm _ (List.mem_cons_of_mem _ (List.mem_cons_of_mem _ List.mem_cons_self)))) hG
  obtain ⟨k0, -⟩ := H
  exact ⟨_, List.mem_cons_self, ρ, fun _ _ => rfl, (okM_c (pvp 4 (by show 1 + (1 * ρ 0 + 0) = _; omega) (by show 0 + (1 * ρ 1 + 0) = _; omega) k0) okM_n), okB_n, okF_n⟩
-- putb1
theorem cr_16 (M : pM) (s0 s1 s2 s3 : Int) (b0 : 1 ≤ s0 ∧ s0 ≤ 79) (b1 : 0 ≤ s1 ∧ s1 ≤ 60) (b2 : 1 ≤ s2 ∧ s2 ≤ 2) (b3 : 0 ≤ s3 ∧ s3 ≤ 96) (m0 : HP 4 (s0) (s1) M) (m1 : (0 ≤ (s0) ∧ M 111 (s0).toNat = (s2))) (m2 : (0 ≤ (s0) ∧ M 112 (s0).toNat = (s3))) (hG : gI M) : (HP 4 (s0 + 1) (s1 + 1) M ∧ True) := by
  obtain ⟨h1, h2, h3⟩ := m0
  have e := pbc_s h3
  rw [m1.2, m2.2] at e
  refine ⟨⟨by omega, by omega, ?_⟩, trivial⟩
  rw [show (s0 + 1).toNat = s0.toNat + 1 by omega, e]
  unfold pb1
  rw [if_neg (by omega), if_neg (by omega), if_neg (by omega), if_neg (by omega), if_pos (by omega)]
theorem rul_16 : Rul r_16 := by
  refine ⟨fun _ ρ M hm hB hF hG => ?_, fun gi gv hg => (by cases hg)⟩
  have H := cr_16 M (ρ 0) (ρ 1) (ρ 2) (ρ 3) (hB _ List.mem_cons_self) (hB _ (List.mem_cons_of_mem _ List.mem_cons_self)) (hB _ (List.mem_cons_of_mem _ (List.mem_cons_of_mem _ List.mem_cons_self))) (hB _ (List.mem_cons_of_mem _ (List.mem_cons_of_mem _ (List.mem_cons_of_mem _ List.mem_cons_self)))) (cvp 4 (x' := ((ρ 0))) (y' := ((ρ 1))) (by show 0 + (1 * ρ 0 + 0) = _; omega) (by show 0 + (1 * ρ 1 + 0) = _; omega) (hm _ List.mem_cons_self)) (cvm (c := 111) (by decide) (x' := ((ρ 0))) (y' := ((ρ 2))) (by show 0 + (1 * ρ 0 + 0) = _; omega) (by show 0 + (1 * ρ 2 + 0) = _; omega) (hm _ (List.mem_cons_of_mem _ List.mem_cons_self))) (cvm (c := 112) (by decide) (x' := ((ρ 0))) (y' := ((ρ 3))) (by show 0 + (1 * ρ 0 + 0) = _; omega) (by show 0 + (1 * ρ 3 + 0) = _; omega) (hm _ (List.mem_cons_of_mem _ (List.mem_cons_of_mem _ List.mem_cons_self)))) hG
  obtain ⟨k0, -⟩ := H
  exact ⟨_, List.mem_cons_self, ρ, fun _ _ => rfl, (okM_c (pvp 4 (by show 1 + (1 * ρ 0 + 0) = _; omega) (by show 1 + (1 * ρ 1 + 0) = _; omega) k0) okM_n), okB_n, okF_n⟩
-- putb2
theorem cr_17 (M : pM) (s0 s1 s2 s3 : Int) (b0 : 1 ≤ s0 ∧ s0 ≤ 79) (b1 : 0 ≤ s1 ∧ s1 ≤ 60) (b2 : 4 ≤ s2 ∧ s2 ≤ 6) (b3 : 0 ≤ s3 ∧ s3 ≤ 96) (m0 : HP 4 (s0) (s1) M) (m1 : (0 ≤ (s0) ∧ M 111 (s0).toNat = (s2))) (m2 : (0 ≤ (s0) ∧ M 112 (s0).toNat = (s3))) (hG : gI M) : (HP 4 (s0 + 1) (s1 + 1) M ∧ True) := by
  obtain ⟨h1, h2, h3⟩ := m0
  have e := pbc_s h3
  rw [m1.2, m2.2] at e
  refine ⟨⟨by omega, by omega, ?_⟩, trivial⟩
  rw [show (s0 + 1).toNat = s0.toNat + 1 by omega, e]
  unfold pb1
  rw [if_neg (by omega), if_neg (by omega), if_neg (by omega), if_neg (by omega), if_pos (by omega)]
theorem rul_17 : Rul r_17 := by
  refine ⟨fun _ ρ M hm hB hF hG => ?_, fun gi gv hg => (by cases hg)⟩
  have H := cr_17 M (ρ 0) (ρ 1) (ρ 2) (ρ 3) (hB _ List.mem_cons_self) (hB _ (List.mem_cons_of_mem _ List.mem_cons_self)) (hB _ (List.mem_cons_of_mem _ (List.mem_cons_of_mem _ List.mem_cons_self))) (hB _ (List.mem_cons_of_mem _ (List.mem_cons_of_mem _ (List.mem_cons_of_mem _ List.mem_cons_self)))) (cvp 4 (x' := ((ρ 0))) (y' := ((ρ 1))) (by show 0 + (1 * ρ 0 + 0) = _; omega) (by show 0 + (1 * ρ 1 + 0) = _; omega) (hm _ List.mem_cons_self)) (cvm (c := 111) (by decide) (x' := ((ρ 0))) (y' := ((ρ 2))) (by show 0 + (1 * ρ 0 + 0) = _; omega) (by show 0 + (1 * ρ 2 + 0) = _; omega) (hm _ (List.mem_cons_of_mem _ List.mem_cons_self))) (cvm (c := 112) (by decide) (x' := ((ρ 0))) (y' := ((ρ 3))) (by show 0 + (1 * ρ 0 + 0) = _; omega) (by show 0 + (1 * ρ 3 + 0) = _; omega) (hm _ (List.mem_cons_of_mem _ (List.mem_cons_of_mem _ List.mem_cons_self)))) hG
  obtain ⟨k0, -⟩ := H
  exact ⟨_, List.mem_cons_self, ρ, fun _ _ => rfl, (okM_c (pvp 4 (by show 1 + (1 * ρ 0 + 0) = _; omega) (by show 1 + (1 * ρ 1 + 0) = _; omega) k0) okM_n), okB_n, okF_n⟩
-- putb3
theorem cr_18 (M : pM) (s0 s1 s2 s3 : Int) (b0 : 1 ≤ s0 ∧ s0 ≤ 79) (b1 : 0 ≤ s1 ∧ s1 ≤ 60) (b2 : 1 ≤ s2 ∧ s2 ≤ 1) (b3 : 124 ≤ s3 ∧ s3 ≤ 124) (m0 : HP 4 (s0) (s1) M) (m1 : (0 ≤ (s0) ∧ M 111 (s0).toNat = (s2))) (m2 : (0 ≤ (s0) ∧ M 112 (s0).toNat = (s3))) (hG : gI M) : (HP 4 (s0 + 1) (s1 + 1) M ∧ True) := by
  obtain ⟨h1, h2, h3⟩ := m0
  have e := pbc_s h3
  rw [m1.2, m2.2] at e
  refine ⟨⟨by omega, by omega, ?_⟩, trivial⟩
  rw [show (s0 + 1).toNat = s0.toNat + 1 by omega, e]
  unfold pb1
  rw [if_neg (by omega), if_neg (by omega), if_neg (by omega), if_pos (by omega)]
theorem rul_18 : Rul r_18 := by
  refine ⟨fun _ ρ M hm hB hF hG => ?_, fun gi gv hg => (by cases hg)⟩
  have H := cr_18 M (ρ 0) (ρ 1) (ρ 2) (ρ 3) (hB _ List.mem_cons_self) (hB _ (List.mem_cons_of_mem _ List.mem_cons_self)) (hB _ (List.mem_cons_of_mem _ (List.mem_cons_of_mem _ List.mem_cons_self))) (hB _ (List.mem_cons_of_mem _ (List.mem_cons_of_mem _ (List.mem_cons_of_mem _ List.mem_cons_self)))) (cvp 4 (x' := ((ρ 0))) (y' := ((ρ 1))) (by show 0 + (1 * ρ 0 + 0) = _; omega) (by show 0 + (1 * ρ 1 + 0) = _; omega) (hm _ List.mem_cons_self)) (cvm (c := 111) (by decide) (x' := ((ρ 0))) (y' := ((ρ 2))) (by show 0 + (1 * ρ 0 + 0) = _; omega) (by show 0 + (1 * ρ 2 + 0) = _; omega) (hm _ (List.mem_cons_of_mem _ List.mem_cons_self))) (cvm (c := 112) (by decide) (x' := ((ρ 0))) (y' := ((ρ 3))) (by show 0 + (1 * ρ 0 + 0) = _; omega) (by show 0 + (1 * ρ 3 + 0) = _; omega) (hm _ (List.mem_cons_of_mem _ (List.mem_cons_of_mem _ List.mem_cons_self)))) hG
  obtain ⟨k0, -⟩ := H
  exact ⟨_, List.mem_cons_self, ρ, fun _ _ => rfl, (okM_c (pvp 4 (by show 1 + (1 * ρ 0 + 0) = _; omega) (by show 1 + (1 * ρ 1 + 0) = _; omega) k0) okM_n), okB_n, okF_n⟩
-- pk
theorem cr_19 (M : pM) (s0 s1 s2 s3 : Int) (b0 : 1 ≤ s0 ∧ s0 ≤ 80) (b1 : 0 ≤ s1 ∧ s1 ≤ 60) (b2 : 0 ≤ s2 ∧ s2 ≤ 79) (b3 : 0 ≤ s3 ∧ s3 ≤ 8) (m0 : HP 4 (s0) (s1) M) (m1 : (0 ≤ (s2) ∧ M 111 (s2).toNat = (s3))) (f0 : 0 ≤ (s0 + (-1) * s2 - 1)) (hG : gI M) : (0 ≤ ((-1) * s2) ∧ 0 ≤ (s2) ∧ 0 ≤ ((-1) * s3 + 8) ∧ 0 ≤ (s3 - 8) ∧ True) ∨ (0 ≤ (s2 - 1) ∧ 0 ≤ ((-1) * s3 + 7) ∧ 0 ≤ (s3 - 1) ∧ True) := by
  obtain ⟨h1, h2, h3⟩ := m0
  have h3 : pbc M (s2.toNat + 1 + (s0.toNat - (s2.toNat + 1))) = some s1 := by rw [show s2.toNat + 1 + (s0.toNat - (s2.toNat + 1)) = s0.toNat by omega]; exact h3
  obtain ⟨m, hm⟩ := pbc_pre h3
  obtain ⟨a, _, hb⟩ := pbc_p hm
  rw [m1.2] at hb
  rcases pb1_c hb with q | q
  · exact Or.inl ⟨by omega, by omega, by omega, by omega, trivial⟩
  · exact Or.inr ⟨by omega, by omega, by omega, trivial⟩
theorem rul_19 : Rul r_19 := by
  refine ⟨fun _ ρ M hm hB hF hG => ?_, fun gi gv hg => (by cases hg)⟩
  have H := cr_19 M (ρ 0) (ρ 1) (ρ 2) (ρ 3) (hB _ List.mem_cons_self) (hB _ (List.mem_cons_of_mem _ List.mem_cons_self)) (hB _ (List.mem_cons_of_mem _ (List.mem_cons_of_mem _ List.mem_cons_self))) (hB _ (List.mem_cons_of_mem _ (List.mem_cons_of_mem _ (List.mem_cons_of_mem _ List.mem_cons_self)))) (cvp 4 (x' := ((ρ 0))) (y' := ((ρ 1))) (by show 0 + (1 * ρ 0 + 0) = _; omega) (by show 0 + (1 * ρ 1 + 0) = _; omega) (hm _ List.mem_cons_self)) (cvm (c := 111) (by decide) (x' := ((ρ 2))) (y' := ((ρ 3))) (by show 0 + (1 * ρ 2 + 0) = _; omega) (by show 0 + (1 * ρ 3 + 0) = _; omega) (hm _ (List.mem_cons_of_mem _ List.mem_cons_self))) (by have h := hF _ List.mem_cons_self; have h : 0 ≤ (-1) + (1 * ρ 0 + ((-1) * ρ 2 + 0)) := h; omega) hG
  rcases H with H | H
  · skip
    obtain ⟨f0, f1, f2, f3, -⟩ := H
    exact ⟨_, List.mem_cons_self, ρ, fun _ _ => rfl, okM_n, okB_n, (okF_c (by show 0 ≤ 0 + ((-1) * ρ 2 + 0); omega) (okF_c (by show 0 ≤ 0 + (1 * ρ 2 + 0); omega) (okF_c (by show 0 ≤ 8 + ((-1) * ρ 3 + 0); omega) (okF_c (by show 0 ≤ (-8) + (1 * ρ 3 + 0); omega) okF_n))))⟩
  · skip
    obtain ⟨f0, f1, f2, -⟩ := H
    exact ⟨_, (List.mem_cons_of_mem _ List.mem_cons_self), ρ, fun _ _ => rfl, okM_n, okB_n, (okF_c (by show 0 ≤ (-1) + (1 * ρ 2 + 0); omega) (okF_c (by show 0 ≤ 7 + ((-1) * ρ 3 + 0); omega) (okF_c (by show 0 ≤ (-1) + (1 * ρ 3 + 0); omega) okF_n)))⟩
-- pop
theorem cr_20 (M : pM) (s0 s1 s2 : Int) (b0 : 2 ≤ s0 ∧ s0 ≤ 80) (b1 : 0 ≤ s1 ∧ s1 ≤ 60) (b2 : 1 ≤ s2 ∧ s2 ≤ 7) (m0 : HP 4 (s0) (s1) M) (m1 : (0 ≤ (s0 - 1) ∧ M 111 (s0 - 1).toNat = (s2))) (hG : gI M) : (HP 4 (s0 - 1) (s1) M ∧ (0 ≤ (s0 - 1) ∧ M 112 (s0 - 1).toNat = (126 : Int)) ∧ 0 ≤ ((-1) * s2 + 3) ∧ 0 ≤ (s2 - 3) ∧ 0 ≤ (s0 + (-1) * s1 - 2) ∧ True) ∨ (∃ t0 : Int, 0 ≤ t0 ∧ t0 ≤ 96 ∧ HP 4 (s0 - 1) (s1 - 1) M ∧ (0 ≤ (s0 - 1) ∧ M 112 (s0 - 1).toNat = (t0)) ∧ 0 ≤ ((-1) * s2 + 2) ∧ 0 ≤ (s1 - 1) ∧ True) ∨ (HP 4 (s0 - 1) (s1 - 1) M ∧ (0 ≤ (s0 - 1) ∧ M 112 (s0 - 1).toNat = (124 : Int)) ∧ 0 ≤ ((-1) * s2 + 1) ∧ 0 ≤ (s2 - 1) ∧ 0 ≤ (s1 - 1) ∧ True) ∨ (∃ t0 : Int, 0 ≤ t0 ∧ t0 ≤ 96 ∧ HP 4 (s0 - 1) (s1 - 1) M ∧ (0 ≤ (s0 - 1) ∧ M 112 (s0 - 1).toNat = (t0)) ∧ 0 ≤ (s2 - 4) ∧ 0 ≤ ((-1) * s2 + 6) ∧ 0 ≤ (s1 - 1) ∧ True) ∨ (HP 4 (s0 - 1) (s1) M ∧ 0 ≤ ((-1) * s2 + 7) ∧ 0 ≤ (s2 - 7) ∧ 0 ≤ (s0 + (-1) * s1 - 2) ∧ True) := by
  obtain ⟨h1, h2, h3⟩ := m0
  obtain ⟨k, hk⟩ : ∃ k, k = (s0 - 1).toNat := ⟨_, rfl⟩
  rw [show s0.toNat = k + 1 by omega] at h3
  obtain ⟨a, ha, hb⟩ := pbc_p h3
  have hbd := pbc_bd ha
  have m1 := m1.2
  rw [← hk] at m1
  rw [m1] at hb
  have hn : ∀ y, a = y → HP 4 (s0 - 1) y M := fun y hy => ⟨by omega, by omega, by rw [← hk, ha, hy]⟩
  have hs : ∀ y, M 112 k = y → (0 ≤ (s0 - 1) ∧ M 112 (s0 - 1).toNat = y) := fun y hy => ⟨by omega, by rw [← hk]; exact hy⟩
  rcases pb1_c hb with q | ⟨_, q | q | q | ⟨q1, q2, q3, q4⟩⟩
  · omega
  · exact Or.inl ⟨hn _ q.2.2.symm, hs _ q.2.1, by omega, by omega, by omega, trivial⟩
  · exact Or.inr (Or.inr (Or.inr (Or.inr ⟨hn _ q.2.symm, by omega, by omega, by omega, trivial⟩)))
  · exact Or.inr (Or.inr (Or.inl ⟨hn _ (by omega), hs _ q.2.1, by omega, by omega, by omega, trivial⟩))
  · rcases q1 with q1 | q1
    · exact Or.inr (Or.inl ⟨M 112 k, q2, q3, hn _ (by omega), hs _ rfl, by omega, by omega, trivial⟩)
    · exact Or.inr (Or.inr (Or.inr (Or.inl ⟨M 112 k, q2, q3, hn _ (by omega), hs _ rfl, by omega, by omega, by omega, trivial⟩)))
theorem rul_20 : Rul r_20 := by
  refine ⟨fun _ ρ M hm hB hF hG => ?_, fun gi gv hg => (by cases hg)⟩
  have H := cr_20 M (ρ 0) (ρ 1) (ρ 2) (hB _ List.mem_cons_self) (hB _ (List.mem_cons_of_mem _ List.mem_cons_self)) (hB _ (List.mem_cons_of_mem _ (List.mem_cons_of_mem _ List.mem_cons_self))) (cvp 4 (x' := ((ρ 0))) (y' := ((ρ 1))) (by show 0 + (1 * ρ 0 + 0) = _; omega) (by show 0 + (1 * ρ 1 + 0) = _; omega) (hm _ List.mem_cons_self)) (cvm (c := 111) (by decide) (x' := ((ρ 0) - 1)) (y' := ((ρ 2))) (by show (-1) + (1 * ρ 0 + 0) = _; omega) (by show 0 + (1 * ρ 2 + 0) = _; omega) (hm _ (List.mem_cons_of_mem _ List.mem_cons_self))) hG
  rcases H with H | H
  · skip
    obtain ⟨k0, k1, f0, f1, f2, -⟩ := H
    exact ⟨_, List.mem_cons_self, ρ, fun _ _ => rfl, (okM_c (pvp 4 (by show (-1) + (1 * ρ 0 + 0) = _; omega) (by show 0 + (1 * ρ 1 + 0) = _; omega) k0) (okM_c (pvm (c := 112) (by decide) (by show (-1) + (1 * ρ 0 + 0) = _; omega) (by show 126 + 0 = _; omega) k1) okM_n)), okB_n, (okF_c (by show 0 ≤ 3 + ((-1) * ρ 2 + 0); omega) (okF_c (by show 0 ≤ (-3) + (1 * ρ 2 + 0); omega) (okF_c (by show 0 ≤ (-2) + (1 * ρ 0 + ((-1) * ρ 1 + 0)); omega) okF_n)))⟩
  rcases H with H | H
  · skip
    obtain ⟨t0, u0, v0, k0, k1, f0, f1, -⟩ := H
    obtain ⟨ρ', ha, a0, a1, a2, a3⟩ : ∃ ρ' : Nat → Int, agr 3 ρ ρ' ∧ ρ' 0 = ρ 0 ∧ ρ' 1 = ρ 1 ∧ ρ' 2 = ρ 2 ∧ ρ' 3 = t0 := ⟨fun s => if s = 3 then t0 else ρ s, fun s hs => by show (if s = 3 then t0 else ρ s) = _; rw [if_neg (by omega)], rfl, rfl, rfl, rfl⟩
    exact ⟨_, (List.mem_cons_of_mem _ List.mem_cons_self), ρ', ha, (okM_c (pvp 4 (by show (-1) + (1 * ρ' 0 + 0) = _; omega) (by show (-1) + (1 * ρ' 1 + 0) = _; omega) k0) (okM_c (pvm (c := 112) (by decide) (by show (-1) + (1 * ρ' 0 + 0) = _; omega) (by show 0 + (1 * ρ' 3 + 0) = _; omega) k1) okM_n)), (okB_c (by omega) okB_n), (okF_c (by show 0 ≤ 2 + ((-1) * ρ' 2 + 0); omega) (okF_c (by show 0 ≤ (-1) + (1 * ρ' 1 + 0); omega) okF_n))⟩
  rcases H with H | H
  · skip
    obtain ⟨k0, k1, f0, f1, f2, -⟩ := H
    exact ⟨_, (List.mem_cons_of_mem _ (List.mem_cons_of_mem _ List.mem_cons_self)), ρ, fun _ _ => rfl, (okM_c (pvp 4 (by show (-1) + (1 * ρ 0 + 0) = _; omega) (by show (-1) + (1 * ρ 1 + 0) = _; omega) k0) (okM_c (pvm (c := 112) (by decide) (by show (-1) + (1 * ρ 0 + 0) = _; omega) (by show 124 + 0 = _; omega) k1) okM_n)), okB_n, (okF_c (by show 0 ≤ 1 + ((-1) * ρ 2 + 0); omega) (okF_c (by show 0 ≤ (-1) + (1 * ρ 2 + 0); omega) (okF_c (by show 0 ≤ (-1) + (1 * ρ 1 + 0); omega) okF_n)))⟩
  rcases H with H | H
  · skip
    obtain ⟨t0, u0, v0, k0, k1, f0, f1, f2, -⟩ := H
    obtain ⟨ρ', ha, a0, a1, a2, a3⟩ : ∃ ρ' : Nat → Int, agr 3 ρ ρ' ∧ ρ' 0 = ρ 0 ∧ ρ' 1 = ρ 1 ∧ ρ' 2 = ρ 2 ∧ ρ' 3 = t0 := ⟨fun s => if s = 3 then t0 else ρ s, fun s hs => by show (if s = 3 then t0 else ρ s) = _; rw [if_neg (by omega)], rfl, rfl, rfl, rfl⟩
    exact ⟨_, (List.mem_cons_of_mem _ (List.mem_cons_of_mem _ (List.mem_cons_of_mem _ List.mem_cons_self))), ρ', ha, (okM_c (pvp 4 (by show (-1) + (1 * ρ' 0 + 0) = _; omega) (by show (-1) + (1 * ρ' 1 + 0) = _; omega) k0) (okM_c (pvm (c := 112) (by decide) (by show (-1) + (1 * ρ' 0 + 0) = _; omega) (by show 0 + (1 * ρ' 3 + 0) = _; omega) k1) okM_n)), (okB_c (by omega) okB_n), (okF_c (by show 0 ≤ (-4) + (1 * ρ' 2 + 0); omega) (okF_c (by show 0 ≤ 6 + ((-1) * ρ' 2 + 0); omega) (okF_c (by show 0 ≤ (-1) + (1 * ρ' 1 + 0); omega) okF_n)))⟩
  · skip
    obtain ⟨k0, f0, f1, f2, -⟩ := H
    exact ⟨_, (List.mem_cons_of_mem _ (List.mem_cons_of_mem _ (List.mem_cons_of_mem _ (List.mem_cons_of_mem _ List.mem_cons_self)))), ρ, fun _ _ => rfl, (okM_c (pvp 4 (by show (-1) + (1 * ρ 0 + 0) = _; omega) (by show 0 + (1 * ρ 1 + 0) = _; omega) k0) okM_n), okB_n, (okF_c (by show 0 ≤ 7 + ((-1) * ρ 2 + 0); omega) (okF_c (by show 0 ≤ (-7) + (1 * ρ 2 + 0); omega) (okF_c (by show 0 ≤ (-2) + (1 * ρ 0 + ((-1) * ρ 1 + 0)); omega) okF_n)))⟩
-- pop1
theorem cr_21 (M : pM) (s0 s1 s2 : Int) (b0 : 1 ≤ s0 ∧ s0 ≤ 1) (b1 : 0 ≤ s1 ∧ s1 ≤ 60) (b2 : 8 ≤ s2 ∧ s2 ≤ 8) (m0 : HP 4 (s0) (s1) M) (m1 : (0 ≤ (s0 - 1) ∧ M 111 (s0 - 1).toNat = (s2))) (hG : gI M) : (HP 4 (0 : Int) (0 : Int) M ∧ 0 ≤ ((-1) * s1) ∧ 0 ≤ (s1) ∧ True) := by
  obtain ⟨h1, h2, h3⟩ := m0
  rw [show s0.toNat = 0 + 1 by omega] at h3
  obtain ⟨a, ha, hb⟩ := pbc_p h3
  rcases pb1_c hb with q | q
  · exact ⟨⟨by omega, by omega, rfl⟩, by omega, by omega, trivial⟩
  · exact absurd rfl q.1
theorem rul_21 : Rul r_21 := by
  refine ⟨fun _ ρ M hm hB hF hG => ?_, fun gi gv hg => (by cases hg)⟩
  have H := cr_21 M (ρ 0) (ρ 1) (ρ 2) (hB _ List.mem_cons_self) (hB _ (List.mem_cons_of_mem _ List.mem_cons_self)) (hB _ (List.mem_cons_of_mem _ (List.mem_cons_of_mem _ List.mem_cons_self))) (cvp 4 (x' := ((ρ 0))) (y' := ((ρ 1))) (by show 0 + (1 * ρ 0 + 0) = _; omega) (by show 0 + (1 * ρ 1 + 0) = _; omega) (hm _ List.mem_cons_self)) (cvm (c := 111) (by decide) (x' := ((ρ 0) - 1)) (y' := ((ρ 2))) (by show (-1) + (1 * ρ 0 + 0) = _; omega) (by show 0 + (1 * ρ 2 + 0) = _; omega) (hm _ (List.mem_cons_of_mem _ List.mem_cons_self))) hG
  obtain ⟨k0, f0, f1, -⟩ := H
  exact ⟨_, List.mem_cons_self, ρ, fun _ _ => rfl, (okM_c (pvp 4 (by show 0 + 0 = _; omega) (by show 0 + 0 = _; omega) k0) okM_n), okB_n, (okF_c (by show 0 ≤ 0 + ((-1) * ρ 1 + 0); omega) (okF_c (by show 0 ≤ 0 + (1 * ρ 1 + 0); omega) okF_n))⟩
-- nt0
theorem cr_22 (M : pM) (s0 s1 : Int) (b0 : 0 ≤ s0 ∧ s0 ≤ 1901) (b1 : 0 ≤ s1 ∧ s1 ≤ 2) (m0 : (0 ≤ (8 : Int) ∧ M 61 (8 : Int).toNat = (s1))) (hG : gI M) : (HP 5 (s0) (0 : Int) M ∧ True) := by
  have h : M 61 8 = s1 := m0.2
  exact ⟨fun h' => by omega, trivial⟩
theorem rul_22 : Rul r_22 := by
  refine ⟨fun _ ρ M hm hB hF hG => ?_, fun gi gv hg => (by cases hg)⟩
  have H := cr_22 M (ρ 0) (ρ 1) (hB _ List.mem_cons_self) (hB _ (List.mem_cons_of_mem _ List.mem_cons_self)) (cvm (c := 61) (by decide) (x' := (8 : Int)) (y' := ((ρ 1))) (by show 8 + 0 = _; omega) (by show 0 + (1 * ρ 1 + 0) = _; omega) (hm _ List.mem_cons_self)) hG
  obtain ⟨k0, -⟩ := H
  exact ⟨_, List.mem_cons_self, ρ, fun _ _ => rfl, (okM_c (pvp 5 (by show 0 + (1 * ρ 0 + 0) = _; omega) (by show 0 + 0 = _; omega) k0) okM_n), okB_n, okF_n⟩
-- nt4
theorem cr_23 (M : pM) (s0 s1 : Int) (b0 : 0 ≤ s0 ∧ s0 ≤ 1901) (b1 : 4 ≤ s1 ∧ s1 ≤ 5) (m0 : (0 ≤ (8 : Int) ∧ M 61 (8 : Int).toNat = (s1))) (hG : gI M) : (HP 5 (s0) (0 : Int) M ∧ True) := by
  have h : M 61 8 = s1 := m0.2
  exact ⟨fun h' => by omega, trivial⟩
theorem rul_23 : Rul r_23 := by
  refine ⟨fun _ ρ M hm hB hF hG => ?_, fun gi gv hg => (by cases hg)⟩
  have H := cr_23 M (ρ 0) (ρ 1) (hB _ List.mem_cons_self) (hB _ (List.mem_cons_of_mem _ List.mem_cons_self)) (cvm (c := 61) (by decide) (x' := (8 : Int)) (y' := ((ρ 1))) (by show 8 + 0 = _; omega) (by show 0 + (1 * ρ 1 + 0) = _; omega) (hm _ List.mem_cons_self)) hG
  obtain ⟨k0, -⟩ := H
  exact ⟨_, List.mem_cons_self, ρ, fun _ _ => rfl, (okM_c (pvp 5 (by show 0 + (1 * ρ 0 + 0) = _; omega) (by show 0 + 0 = _; omega) k0) okM_n), okB_n, okF_n⟩
-- nw
theorem cr_24 (M : pM) (s0 : Int) (b0 : 0 ≤ s0 ∧ s0 ≤ 1901) (m0 : HP 6 (s0) (0 : Int) M) (hG : gI M) : (HP 5 (s0) (0 : Int) M ∧ True) := by
  exact ⟨fun _ => m0, trivial⟩
theorem rul_24 : Rul r_24 := by
  refine ⟨fun _ ρ M hm hB hF hG => ?_, fun gi gv hg => (by cases hg)⟩
  have H := cr_24 M (ρ 0) (hB _ List.mem_cons_self) (cvp 6 (x' := ((ρ 0))) (y' := (0 : Int)) (by show 0 + (1 * ρ 0 + 0) = _; omega) (by show 0 + 0 = _; omega) (hm _ List.mem_cons_self)) hG
  obtain ⟨k0, -⟩ := H
  exact ⟨_, List.mem_cons_self, ρ, fun _ _ => rfl, (okM_c (pvp 5 (by show 0 + (1 * ρ 0 + 0) = _; omega) (by show 0 + 0 = _; omega) k0) okM_n), okB_n, okF_n⟩
-- lkout0
theorem cr_25 (M : pM) (s0 s1 : Int) (b0 : 0 ≤ s0 ∧ s0 ≤ 300) (b1 : 0 ≤ s1 ∧ s1 ≤ 1) (m0 : HP 7 (0 : Int) (0 : Int) M) (m1 : (0 ≤ (80 : Int) ∧ M 61 (80 : Int).toNat = (0 : Int))) (m2 : (0 ≤ (0 : Int) ∧ M 110 (0 : Int).toNat = (s0))) (m3 : (0 ≤ (85 : Int) ∧ M 61 (85 : Int).toNat = (s1))) (hG : gI M) : (0 ≤ ((-1) * s1) ∧ 0 ≤ (s1) ∧ True) ∨ (∃ t0 : Int, 0 ≤ t0 ∧ t0 ≤ 60 ∧ HP 2 (s0) (t0) M ∧ 0 ≤ ((-1) * s1 + 1) ∧ 0 ≤ (s1 - 1) ∧ 0 ≤ ((-1) * s0 + 299) ∧ True) := by
  obtain ⟨-, h1⟩ := m1
  obtain ⟨-, h2⟩ := m2
  obtain ⟨-, h3⟩ := m3
  have h1 : M 61 80 = 0 := h1
  have h2 : M 110 0 = s0 := h2
  have h3 : M 61 85 = s1 := h3
  have m0 : M 61 85 ≠ 0 → ∃ H : Int, 0 ≤ H ∧ H ≤ 60 ∧ ((M 61 80 = 0 ∧ 0 ≤ M 110 0 ∧ M 110 0 ≤ 299 ∧ hgt M 0 (M 110 0).toNat = some H) ∨ (M 61 80 = 1 ∧ 0 ≤ M 110 1 ∧ M 110 1 ≤ 299 ∧ hgt M 300 (M 110 1).toNat = some H)) := m0
  by_cases hz : s1 = 0
  · exact Or.inl ⟨by omega, by omega, trivial⟩
  · obtain ⟨H, a1, a2, a3⟩ := m0 (by omega)
    rcases a3 with ⟨a3, a4, a5, a6⟩ | ⟨a3, a4, a5, a6⟩
    · rw [h2] at a4 a5 a6
      exact Or.inr ⟨H, a1, a2, ⟨by omega, by omega, a6⟩, by omega, by omega, by omega, trivial⟩
    · omega
theorem rul_25 : Rul r_25 := by
  refine ⟨fun _ ρ M hm hB hF hG => ?_, fun gi gv hg => (by cases hg)⟩
  have H := cr_25 M (ρ 0) (ρ 1) (hB _ List.mem_cons_self) (hB _ (List.mem_cons_of_mem _ List.mem_cons_self)) (cvp 7 (x' := (0 : Int)) (y' := (0 : Int)) (by show 0 + 0 = _; omega) (by show 0 + 0 = _; omega) (hm _ List.mem_cons_self)) (cvm (c := 61) (by decide) (x' := (80 : Int)) (y' := (0 : Int)) (by show 80 + 0 = _; omega) (by show 0 + 0 = _; omega) (hm _ (List.mem_cons_of_mem _ List.mem_cons_self))) (cvm (c := 110) (by decide) (x' := (0 : Int)) (y' := ((ρ 0))) (by show 0 + 0 = _; omega) (by show 0 + (1 * ρ 0 + 0) = _; omega) (hm _ (List.mem_cons_of_mem _ (List.mem_cons_of_mem _ List.mem_cons_self)))) (cvm (c := 61) (by decide) (x' := (85 : Int)) (y' := ((ρ 1))) (by show 85 + 0 = _; omega) (by show 0 + (1 * ρ 1 + 0) = _; omega) (hm _ (List.mem_cons_of_mem _ (List.mem_cons_of_mem _ (List.mem_cons_of_mem _ List.mem_cons_self))))) hG
  rcases H with H | H
  · skip
    obtain ⟨f0, f1, -⟩ := H
    exact ⟨_, List.mem_cons_self, ρ, fun _ _ => rfl, okM_n, okB_n, (okF_c (by show 0 ≤ 0 + ((-1) * ρ 1 + 0); omega) (okF_c (by show 0 ≤ 0 + (1 * ρ 1 + 0); omega) okF_n))⟩
  · skip
    obtain ⟨t0, u0, v0, k0, f0, f1, f2, -⟩ := H
    obtain ⟨ρ', ha, a0, a1, a2⟩ : ∃ ρ' : Nat → Int, agr 2 ρ ρ' ∧ ρ' 0 = ρ 0 ∧ ρ' 1 = ρ 1 ∧ ρ' 2 = t0 := ⟨fun s => if s = 2 then t0 else ρ s, fun s hs => by show (if s = 2 then t0 else ρ s) = _; rw [if_neg (by omega)], rfl, rfl, rfl⟩
    exact ⟨_, (List.mem_cons_of_mem _ List.mem_cons_self), ρ', ha, (okM_c (pvp 2 (by show 0 + (1 * ρ' 0 + 0) = _; omega) (by show 0 + (1 * ρ' 2 + 0) = _; omega) k0) okM_n), (okB_c (by omega) okB_n), (okF_c (by show 0 ≤ 1 + ((-1) * ρ' 1 + 0); omega) (okF_c (by show 0 ≤ (-1) + (1 * ρ' 1 + 0); omega) (okF_c (by show 0 ≤ 299 + ((-1) * ρ' 0 + 0); omega) okF_n)))⟩
-- lkin0
theorem cr_26 (M : pM) (s0 s1 : Int) (b0 : 0 ≤ s0 ∧ s0 ≤ 300) (b1 : 0 ≤ s1 ∧ s1 ≤ 60) (m0 : (0 ≤ (80 : Int) ∧ M 61 (80 : Int).toNat = (0 : Int))) (m1 : (0 ≤ (0 : Int) ∧ M 110 (0 : Int).toNat = (s0))) (m2 : HP 2 (s0) (s1) M) (hG : gI M) : (HP 7 (0 : Int) (0 : Int) M ∧ True) := by
  obtain ⟨-, h1⟩ := m0
  obtain ⟨-, h2⟩ := m1
  obtain ⟨h3, h4, h5⟩ := m2
  have h1 : M 61 80 = 0 := h1
  have h2 : M 110 0 = s0 := h2
  refine ⟨fun _ => ⟨s1, b1.1, b1.2, Or.inl ⟨h1, by omega, by omega, ?_⟩⟩, trivial⟩
  rw [h2]
  exact h5
theorem rul_26 : Rul r_26 := by
  refine ⟨fun _ ρ M hm hB hF hG => ?_, fun gi gv hg => (by cases hg)⟩
  have H := cr_26 M (ρ 0) (ρ 1) (hB _ List.mem_cons_self) (hB _ (List.mem_cons_of_mem _ List.mem_cons_self)) (cvm (c := 61) (by decide) (x' := (80 : Int)) (y' := (0 : Int)) (by show 80 + 0 = _; omega) (by show 0 + 0 = _; omega) (hm _ List.mem_cons_self)) (cvm (c := 110) (by decide) (x' := (0 : Int)) (y' := ((ρ 0))) (by show 0 + 0 = _; omega) (by show 0 + (1 * ρ 0 + 0) = _; omega) (hm _ (List.mem_cons_of_mem _ List.mem_cons_self))) (cvp 2 (x' := ((ρ 0))) (y' := ((ρ 1))) (by show 0 + (1 * ρ 0 + 0) = _; omega) (by show 0 + (1 * ρ 1 + 0) = _; omega) (hm _ (List.mem_cons_of_mem _ (List.mem_cons_of_mem _ List.mem_cons_self)))) hG
  obtain ⟨k0, -⟩ := H
  exact ⟨_, List.mem_cons_self, ρ, fun _ _ => rfl, (okM_c (pvp 7 (by show 0 + 0 = _; omega) (by show 0 + 0 = _; omega) k0) okM_n), okB_n, okF_n⟩
-- chs0
theorem cr_27 (M : pM) (s0 s1 s2 s3 s4 : Int) (b0 : 0 ≤ s0 ∧ s0 ≤ 299) (b1 : 0 ≤ s1 ∧ s1 ≤ 299) (b2 : 0 ≤ s2 ∧ s2 ≤ 60) (b3 : (-2147483648) ≤ s3 ∧ s3 ≤ 2147483647) (b4 : 0 ≤ s4 ∧ s4 ≤ 60) (m0 : HP 2 (s0) (s2) M) (m1 : HP 2 (s1) (s4) M) (m2 : (0 ≤ (s0) ∧ M 108 (s0).toNat = (s3))) (f0 : 0 ≤ ((-1) * s0 + s1 - 1)) (hG : gI M) : (HP 2 (s0 + 1) (s2) M ∧ 0 ≤ ((-1) * s3 + 126) ∧ 0 ≤ (s3 - 126) ∧ 0 ≤ (s2 - 1) ∧ True) ∨ (HP 2 (s0 + 1) (s2 + 1) M ∧ 0 ≤ (s3 - 97) ∧ 0 ≤ ((-1) * s3 + 122) ∧ 0 ≤ ((-1) * s2 + 59) ∧ True) ∨ (HP 2 (s0 + 1) (s2 - 1) M ∧ 0 ≤ ((-1) * s3 + 96) ∧ 0 ≤ (s2 - 2) ∧ True) ∨ (HP 2 (s0 + 1) (s2 - 1) M ∧ 0 ≤ (s3 - 123) ∧ 0 ≤ ((-1) * s3 + 125) ∧ 0 ≤ (s2 - 2) ∧ True) ∨ (HP 2 (s0 + 1) (s2 - 1) M ∧ 0 ≤ (s3 - 127) ∧ 0 ≤ (s2 - 2) ∧ True) := by
  obtain ⟨h1, h2, h3⟩ := m0
  obtain ⟨h4, h5, h6⟩ := m1
  obtain ⟨-, h7⟩ := m2
  have e0 : ∃ k, k = (s0).toNat := ⟨_, rfl⟩
  obtain ⟨k, hk⟩ := e0
  rw [← hk] at h3
  have h6 : hgt M 0 (k + 1 + ((s1).toNat - (k + 1))) = some s4 := by rw [show k + 1 + ((s1).toNat - (k + 1)) = (s1).toNat by omega]; exact h6
  obtain ⟨m, hm⟩ := hgt_pre h6
  obtain ⟨a, ha, hb⟩ := hgt_p hm
  rw [h3] at ha
  cases ha
  rw [show 0 + k = s0.toNat by omega, h7] at hb
  have hn : ∀ y, m = y → HP 2 (s0 + 1) y M := fun y hy => ⟨by omega, by omega, by rw [show (s0 + 1).toNat = k + 1 by omega, hm, hy]⟩
  rcases hg1_c hb with q | q | q
  · exact Or.inl ⟨hn _ q.2.2, by omega, by omega, by omega, trivial⟩
  · exact Or.inr (Or.inl ⟨hn _ q.2.2.2, by omega, by omega, by omega, trivial⟩)
  · have hq := hn _ q.2.2.2
    rcases (show s3 ≤ 96 ∨ (123 ≤ s3 ∧ s3 ≤ 125) ∨ 127 ≤ s3 by omega) with w | w | w
    · exact Or.inr (Or.inr (Or.inl ⟨hq, by omega, by omega, trivial⟩))
    · exact Or.inr (Or.inr (Or.inr (Or.inl ⟨hq, by omega, by omega, by omega, trivial⟩)))
    · exact Or.inr (Or.inr (Or.inr (Or.inr ⟨hq, by omega, by omega, trivial⟩)))
theorem rul_27 : Rul r_27 := by
  refine ⟨fun _ ρ M hm hB hF hG => ?_, fun gi gv hg => (by cases hg)⟩
  have H := cr_27 M (ρ 0) (ρ 1) (ρ 2) (ρ 3) (ρ 4) (hB _ List.mem_cons_self) (hB _ (List.mem_cons_of_mem _ List.mem_cons_self)) (hB _ (List.mem_cons_of_mem _ (List.mem_cons_of_mem _ List.mem_cons_self))) (hB _ (List.mem_cons_of_mem _ (List.mem_cons_of_mem _ (List.mem_cons_of_mem _ List.mem_cons_self)))) (hB _ (List.mem_cons_of_mem _ (List.mem_cons_of_mem _ (List.mem_cons_of_mem _ (List.mem_cons_of_mem _ List.mem_cons_self))))) (cvp 2 (x' := ((ρ 0))) (y' := ((ρ 2))) (by show 0 + (1 * ρ 0 + 0) = _; omega) (by show 0 + (1 * ρ 2 + 0) = _; omega) (hm _ List.mem_cons_self)) (cvp 2 (x' := ((ρ 1))) (y' := ((ρ 4))) (by show 0 + (1 * ρ 1 + 0) = _; omega) (by show 0 + (1 * ρ 4 + 0) = _; omega) (hm _ (List.mem_cons_of_mem _ List.mem_cons_self))) (cvm (c := 108) (by decide) (x' := ((ρ 0))) (y' := ((ρ 3))) (by show 0 + (1 * ρ 0 + 0) = _; omega) (by show 0 + (1 * ρ 3 + 0) = _; omega) (hm _ (List.mem_cons_of_mem _ (List.mem_cons_of_mem _ List.mem_cons_self)))) (by have h := hF _ List.mem_cons_self; have h : 0 ≤ (-1) + ((-1) * ρ 0 + (1 * ρ 1 + 0)) := h; omega) hG
  rcases H with H | H
  · skip
    obtain ⟨k0, f0, f1, f2, -⟩ := H
    exact ⟨_, List.mem_cons_self, ρ, fun _ _ => rfl, (okM_c (pvp 2 (by show 1 + (1 * ρ 0 + 0) = _; omega) (by show 0 + (1 * ρ 2 + 0) = _; omega) k0) okM_n), okB_n, (okF_c (by show 0 ≤ 126 + ((-1) * ρ 3 + 0); omega) (okF_c (by show 0 ≤ (-126) + (1 * ρ 3 + 0); omega) (okF_c (by show 0 ≤ (-1) + (1 * ρ 2 + 0); omega) okF_n)))⟩
  rcases H with H | H
  · skip
    obtain ⟨k0, f0, f1, f2, -⟩ := H
    exact ⟨_, (List.mem_cons_of_mem _ List.mem_cons_self), ρ, fun _ _ => rfl, (okM_c (pvp 2 (by show 1 + (1 * ρ 0 + 0) = _; omega) (by show 1 + (1 * ρ 2 + 0) = _; omega) k0) okM_n), okB_n, (okF_c (by show 0 ≤ (-97) + (1 * ρ 3 + 0); omega) (okF_c (by show 0 ≤ 122 + ((-1) * ρ 3 + 0); omega) (okF_c (by show 0 ≤ 59 + ((-1) * ρ 2 + 0); omega) okF_n)))⟩
  rcases H with H | H
  · skip
    obtain ⟨k0, f0, f1, -⟩ := H
    exact ⟨_, (List.mem_cons_of_mem _ (List.mem_cons_of_mem _ List.mem_cons_self)), ρ, fun _ _ => rfl, (okM_c (pvp 2 (by show 1 + (1 * ρ 0 + 0) = _; omega) (by show (-1) + (1 * ρ 2 + 0) = _; omega) k0) okM_n), okB_n, (okF_c (by show 0 ≤ 96 + ((-1) * ρ 3 + 0); omega) (okF_c (by show 0 ≤ (-2) + (1 * ρ 2 + 0); omega) okF_n))⟩
  rcases H with H | H
  · skip
    obtain ⟨k0, f0, f1, f2, -⟩ := H
    exact ⟨_, (List.mem_cons_of_mem _ (List.mem_cons_of_mem _ (List.mem_cons_of_mem _ List.mem_cons_self))), ρ, fun _ _ => rfl, (okM_c (pvp 2 (by show 1 + (1 * ρ 0 + 0) = _; omega) (by show (-1) + (1 * ρ 2 + 0) = _; omega) k0) okM_n), okB_n, (okF_c (by show 0 ≤ (-123) + (1 * ρ 3 + 0); omega) (okF_c (by show 0 ≤ 125 + ((-1) * ρ 3 + 0); omega) (okF_c (by show 0 ≤ (-2) + (1 * ρ 2 + 0); omega) okF_n)))⟩
  · skip
    obtain ⟨k0, f0, f1, -⟩ := H
    exact ⟨_, (List.mem_cons_of_mem _ (List.mem_cons_of_mem _ (List.mem_cons_of_mem _ (List.mem_cons_of_mem _ List.mem_cons_self)))), ρ, fun _ _ => rfl, (okM_c (pvp 2 (by show 1 + (1 * ρ 0 + 0) = _; omega) (by show (-1) + (1 * ρ 2 + 0) = _; omega) k0) okM_n), okB_n, (okF_c (by show 0 ≤ (-127) + (1 * ρ 3 + 0); omega) (okF_c (by show 0 ≤ (-2) + (1 * ρ 2 + 0); omega) okF_n))⟩
-- lkout1
theorem cr_28 (M : pM) (s0 s1 : Int) (b0 : 0 ≤ s0 ∧ s0 ≤ 300) (b1 : 0 ≤ s1 ∧ s1 ≤ 1) (m0 : HP 7 (0 : Int) (0 : Int) M) (m1 : (0 ≤ (80 : Int) ∧ M 61 (80 : Int).toNat = (1 : Int))) (m2 : (0 ≤ (1 : Int) ∧ M 110 (1 : Int).toNat = (s0))) (m3 : (0 ≤ (85 : Int) ∧ M 61 (85 : Int).toNat = (s1))) (hG : gI M) : (0 ≤ ((-1) * s1) ∧ 0 ≤ (s1) ∧ True) ∨ (∃ t0 : Int, 0 ≤ t0 ∧ t0 ≤ 60 ∧ HP 3 (s0 + 300) (t0) M ∧ 0 ≤ ((-1) * s1 + 1) ∧ 0 ≤ (s1 - 1) ∧ 0 ≤ ((-1) * s0 + 299) ∧ True) := by
  obtain ⟨-, h1⟩ := m1
  obtain ⟨-, h2⟩ := m2
  obtain ⟨-, h3⟩ := m3
  have h1 : M 61 80 = 1 := h1
  have h2 : M 110 1 = s0 := h2
  have h3 : M 61 85 = s1 := h3
  have m0 : M 61 85 ≠ 0 → ∃ H : Int, 0 ≤ H ∧ H ≤ 60 ∧ ((M 61 80 = 0 ∧ 0 ≤ M 110 0 ∧ M 110 0 ≤ 299 ∧ hgt M 0 (M 110 0).toNat = some H) ∨ (M 61 80 = 1 ∧ 0 ≤ M 110 1 ∧ M 110 1 ≤ 299 ∧ hgt M 300 (M 110 1).toNat = some H)) := m0
  by_cases hz : s1 = 0
  · exact Or.inl ⟨by omega, by omega, trivial⟩
  · obtain ⟨H, a1, a2, a3⟩ := m0 (by omega)
    rcases a3 with ⟨a3, a4, a5, a6⟩ | ⟨a3, a4, a5, a6⟩
    · omega
    · rw [h2] at a4 a5 a6
      exact Or.inr ⟨H, a1, a2, ⟨by omega, by omega, by rw [show (s0 + 300 - 300).toNat = s0.toNat by omega]; exact a6⟩, by omega, by omega, by omega, trivial⟩
theorem rul_28 : Rul r_28 := by
  refine ⟨fun _ ρ M hm hB hF hG => ?_, fun gi gv hg => (by cases hg)⟩
  have H := cr_28 M (ρ 0) (ρ 1) (hB _ List.mem_cons_self) (hB _ (List.mem_cons_of_mem _ List.mem_cons_self)) (cvp 7 (x' := (0 : Int)) (y' := (0 : Int)) (by show 0 + 0 = _; omega) (by show 0 + 0 = _; omega) (hm _ List.mem_cons_self)) (cvm (c := 61) (by decide) (x' := (80 : Int)) (y' := (1 : Int)) (by show 80 + 0 = _; omega) (by show 1 + 0 = _; omega) (hm _ (List.mem_cons_of_mem _ List.mem_cons_self))) (cvm (c := 110) (by decide) (x' := (1 : Int)) (y' := ((ρ 0))) (by show 1 + 0 = _; omega) (by show 0 + (1 * ρ 0 + 0) = _; omega) (hm _ (List.mem_cons_of_mem _ (List.mem_cons_of_mem _ List.mem_cons_self)))) (cvm (c := 61) (by decide) (x' := (85 : Int)) (y' := ((ρ 1))) (by show 85 + 0 = _; omega) (by show 0 + (1 * ρ 1 + 0) = _; omega) (hm _ (List.mem_cons_of_mem _ (List.mem_cons_of_mem _ (List.mem_cons_of_mem _ List.mem_cons_self))))) hG
  rcases H with H | H
  · skip
    obtain ⟨f0, f1, -⟩ := H
    exact ⟨_, List.mem_cons_self, ρ, fun _ _ => rfl, okM_n, okB_n, (okF_c (by show 0 ≤ 0 + ((-1) * ρ 1 + 0); omega) (okF_c (by show 0 ≤ 0 + (1 * ρ 1 + 0); omega) okF_n))⟩
  · skip
    obtain ⟨t0, u0, v0, k0, f0, f1, f2, -⟩ := H
    obtain ⟨ρ', ha, a0, a1, a2⟩ : ∃ ρ' : Nat → Int, agr 2 ρ ρ' ∧ ρ' 0 = ρ 0 ∧ ρ' 1 = ρ 1 ∧ ρ' 2 = t0 := ⟨fun s => if s = 2 then t0 else ρ s, fun s hs => by show (if s = 2 then t0 else ρ s) = _; rw [if_neg (by omega)], rfl, rfl, rfl⟩
    exact ⟨_, (List.mem_cons_of_mem _ List.mem_cons_self), ρ', ha, (okM_c (pvp 3 (by show 300 + (1 * ρ' 0 + 0) = _; omega) (by show 0 + (1 * ρ' 2 + 0) = _; omega) k0) okM_n), (okB_c (by omega) okB_n), (okF_c (by show 0 ≤ 1 + ((-1) * ρ' 1 + 0); omega) (okF_c (by show 0 ≤ (-1) + (1 * ρ' 1 + 0); omega) (okF_c (by show 0 ≤ 299 + ((-1) * ρ' 0 + 0); omega) okF_n)))⟩
-- lkin1
theorem cr_29 (M : pM) (s0 s1 : Int) (b0 : 0 ≤ s0 ∧ s0 ≤ 300) (b1 : 0 ≤ s1 ∧ s1 ≤ 60) (m0 : (0 ≤ (80 : Int) ∧ M 61 (80 : Int).toNat = (1 : Int))) (m1 : (0 ≤ (1 : Int) ∧ M 110 (1 : Int).toNat = (s0))) (m2 : HP 3 (s0 + 300) (s1) M) (hG : gI M) : (HP 7 (0 : Int) (0 : Int) M ∧ True) := by
  obtain ⟨-, h1⟩ := m0
  obtain ⟨-, h2⟩ := m1
  obtain ⟨h3, h4, h5⟩ := m2
  have h1 : M 61 80 = 1 := h1
  have h2 : M 110 1 = s0 := h2
  refine ⟨fun _ => ⟨s1, b1.1, b1.2, Or.inr ⟨h1, by omega, by omega, ?_⟩⟩, trivial⟩
  rw [h2]
  rw [show (s0 + 300 - 300).toNat = s0.toNat by omega] at h5
  exact h5
theorem rul_29 : Rul r_29 := by
  refine ⟨fun _ ρ M hm hB hF hG => ?_, fun gi gv hg => (by cases hg)⟩
  have H := cr_29 M (ρ 0) (ρ 1) (hB _ List.mem_cons_self) (hB _ (List.mem_cons_of_mem _ List.mem_cons_self)) (cvm (c := 61) (by decide) (x' := (80 : Int)) (y' := (1 : Int)) (by show 80 + 0 = _; omega) (by show 1 + 0 = _; omega) (hm _ List.mem_cons_self)) (cvm (c := 110) (by decide) (x' := (1 : Int)) (y' := ((ρ 0))) (by show 1 + 0 = _; omega) (by show 0 + (1 * ρ 0 + 0) = _; omega) (hm _ (List.mem_cons_of_mem _ List.mem_cons_self))) (cvp 3 (x' := ((ρ 0) + 300)) (y' := ((ρ 1))) (by show 300 + (1 * ρ 0 + 0) = _; omega) (by show 0 + (1 * ρ 1 + 0) = _; omega) (hm _ (List.mem_cons_of_mem _ (List.mem_cons_of_mem _ List.mem_cons_self)))) hG
  obtain ⟨k0, -⟩ := H
  exact ⟨_, List.mem_cons_self, ρ, fun _ _ => rfl, (okM_c (pvp 7 (by show 0 + 0 = _; omega) (by show 0 + 0 = _; omega) k0) okM_n), okB_n, okF_n⟩
-- chs1
theorem cr_30 (M : pM) (s0 s1 s2 s3 s4 : Int) (b0 : 300 ≤ s0 ∧ s0 ≤ 599) (b1 : 300 ≤ s1 ∧ s1 ≤ 599) (b2 : 0 ≤ s2 ∧ s2 ≤ 60) (b3 : (-2147483648) ≤ s3 ∧ s3 ≤ 2147483647) (b4 : 0 ≤ s4 ∧ s4 ≤ 60) (m0 : HP 3 (s0) (s2) M) (m1 : HP 3 (s1) (s4) M) (m2 : (0 ≤ (s0) ∧ M 108 (s0).toNat = (s3))) (f0 : 0 ≤ ((-1) * s0 + s1 - 1)) (hG : gI M) : (HP 3 (s0 + 1) (s2) M ∧ 0 ≤ ((-1) * s3 + 126) ∧ 0 ≤ (s3 - 126) ∧ 0 ≤ (s2 - 1) ∧ True) ∨ (HP 3 (s0 + 1) (s2 + 1) M ∧ 0 ≤ (s3 - 97) ∧ 0 ≤ ((-1) * s3 + 122) ∧ 0 ≤ ((-1) * s2 + 59) ∧ True) ∨ (HP 3 (s0 + 1) (s2 - 1) M ∧ 0 ≤ ((-1) * s3 + 96) ∧ 0 ≤ (s2 - 2) ∧ True) ∨ (HP 3 (s0 + 1) (s2 - 1) M ∧ 0 ≤ (s3 - 123) ∧ 0 ≤ ((-1) * s3 + 125) ∧ 0 ≤ (s2 - 2) ∧ True) ∨ (HP 3 (s0 + 1) (s2 - 1) M ∧ 0 ≤ (s3 - 127) ∧ 0 ≤ (s2 - 2) ∧ True) := by
  obtain ⟨h1, h2, h3⟩ := m0
  obtain ⟨h4, h5, h6⟩ := m1
  obtain ⟨-, h7⟩ := m2
  have e0 : ∃ k, k = (s0 - 300).toNat := ⟨_, rfl⟩
  obtain ⟨k, hk⟩ := e0
  rw [← hk] at h3
  have h6 : hgt M 300 (k + 1 + ((s1 - 300).toNat - (k + 1))) = some s4 := by rw [show k + 1 + ((s1 - 300).toNat - (k + 1)) = (s1 - 300).toNat by omega]; exact h6
  obtain ⟨m, hm⟩ := hgt_pre h6
  obtain ⟨a, ha, hb⟩ := hgt_p hm
  rw [h3] at ha
  cases ha
  rw [show 300 + k = s0.toNat by omega, h7] at hb
  have hn : ∀ y, m = y → HP 3 (s0 + 1) y M := fun y hy => ⟨by omega, by omega, by rw [show (s0 + 1 - 300).toNat = k + 1 by omega, hm, hy]⟩
  rcases hg1_c hb with q | q | q
  · exact Or.inl ⟨hn _ q.2.2, by omega, by omega, by omega, trivial⟩
  · exact Or.inr (Or.inl ⟨hn _ q.2.2.2, by omega, by omega, by omega, trivial⟩)
  · have hq := hn _ q.2.2.2
    rcases (show s3 ≤ 96 ∨ (123 ≤ s3 ∧ s3 ≤ 125) ∨ 127 ≤ s3 by omega) with w | w | w
    · exact Or.inr (Or.inr (Or.inl ⟨hq, by omega, by omega, trivial⟩))
    · exact Or.inr (Or.inr (Or.inr (Or.inl ⟨hq, by omega, by omega, by omega, trivial⟩)))
    · exact Or.inr (Or.inr (Or.inr (Or.inr ⟨hq, by omega, by omega, trivial⟩)))
theorem rul_30 : Rul r_30 := by
  refine ⟨fun _ ρ M hm hB hF hG => ?_, fun gi gv hg => (by cases hg)⟩
  have H := cr_30 M (ρ 0) (ρ 1) (ρ 2) (ρ 3) (ρ 4) (hB _ List.mem_cons_self) (hB _ (List.mem_cons_of_mem _ List.mem_cons_self)) (hB _ (List.mem_cons_of_mem _ (List.mem_cons_of_mem _ List.mem_cons_self))) (hB _ (List.mem_cons_of_mem _ (List.mem_cons_of_mem _ (List.mem_cons_of_mem _ List.mem_cons_self)))) (hB _ (List.mem_cons_of_mem _ (List.mem_cons_of_mem _ (List.mem_cons_of_mem _ (List.mem_cons_of_mem _ List.mem_cons_self))))) (cvp 3 (x' := ((ρ 0))) (y' := ((ρ 2))) (by show 0 + (1 * ρ 0 + 0) = _; omega) (by show 0 + (1 * ρ 2 + 0) = _; omega) (hm _ List.mem_cons_self)) (cvp 3 (x' := ((ρ 1))) (y' := ((ρ 4))) (by show 0 + (1 * ρ 1 + 0) = _; omega) (by show 0 + (1 * ρ 4 + 0) = _; omega) (hm _ (List.mem_cons_of_mem _ List.mem_cons_self))) (cvm (c := 108) (by decide) (x' := ((ρ 0))) (y' := ((ρ 3))) (by show 0 + (1 * ρ 0 + 0) = _; omega) (by show 0 + (1 * ρ 3 + 0) = _; omega) (hm _ (List.mem_cons_of_mem _ (List.mem_cons_of_mem _ List.mem_cons_self)))) (by have h := hF _ List.mem_cons_self; have h : 0 ≤ (-1) + ((-1) * ρ 0 + (1 * ρ 1 + 0)) := h; omega) hG
  rcases H with H | H
  · skip
    obtain ⟨k0, f0, f1, f2, -⟩ := H
    exact ⟨_, List.mem_cons_self, ρ, fun _ _ => rfl, (okM_c (pvp 3 (by show 1 + (1 * ρ 0 + 0) = _; omega) (by show 0 + (1 * ρ 2 + 0) = _; omega) k0) okM_n), okB_n, (okF_c (by show 0 ≤ 126 + ((-1) * ρ 3 + 0); omega) (okF_c (by show 0 ≤ (-126) + (1 * ρ 3 + 0); omega) (okF_c (by show 0 ≤ (-1) + (1 * ρ 2 + 0); omega) okF_n)))⟩
  rcases H with H | H
  · skip
    obtain ⟨k0, f0, f1, f2, -⟩ := H
    exact ⟨_, (List.mem_cons_of_mem _ List.mem_cons_self), ρ, fun _ _ => rfl, (okM_c (pvp 3 (by show 1 + (1 * ρ 0 + 0) = _; omega) (by show 1 + (1 * ρ 2 + 0) = _; omega) k0) okM_n), okB_n, (okF_c (by show 0 ≤ (-97) + (1 * ρ 3 + 0); omega) (okF_c (by show 0 ≤ 122 + ((-1) * ρ 3 + 0); omega) (okF_c (by show 0 ≤ 59 + ((-1) * ρ 2 + 0); omega) okF_n)))⟩
  rcases H with H | H
  · skip
    obtain ⟨k0, f0, f1, -⟩ := H
    exact ⟨_, (List.mem_cons_of_mem _ (List.mem_cons_of_mem _ List.mem_cons_self)), ρ, fun _ _ => rfl, (okM_c (pvp 3 (by show 1 + (1 * ρ 0 + 0) = _; omega) (by show (-1) + (1 * ρ 2 + 0) = _; omega) k0) okM_n), okB_n, (okF_c (by show 0 ≤ 96 + ((-1) * ρ 3 + 0); omega) (okF_c (by show 0 ≤ (-2) + (1 * ρ 2 + 0); omega) okF_n))⟩
  rcases H with H | H
  · skip
    obtain ⟨k0, f0, f1, f2, -⟩ := H
    exact ⟨_, (List.mem_cons_of_mem _ (List.mem_cons_of_mem _ (List.mem_cons_of_mem _ List.mem_cons_self))), ρ, fun _ _ => rfl, (okM_c (pvp 3 (by show 1 + (1 * ρ 0 + 0) = _; omega) (by show (-1) + (1 * ρ 2 + 0) = _; omega) k0) okM_n), okB_n, (okF_c (by show 0 ≤ (-123) + (1 * ρ 3 + 0); omega) (okF_c (by show 0 ≤ 125 + ((-1) * ρ 3 + 0); omega) (okF_c (by show 0 ≤ (-2) + (1 * ρ 2 + 0); omega) okF_n)))⟩
  · skip
    obtain ⟨k0, f0, f1, -⟩ := H
    exact ⟨_, (List.mem_cons_of_mem _ (List.mem_cons_of_mem _ (List.mem_cons_of_mem _ (List.mem_cons_of_mem _ List.mem_cons_self)))), ρ, fun _ _ => rfl, (okM_c (pvp 3 (by show 1 + (1 * ρ 0 + 0) = _; omega) (by show (-1) + (1 * ρ 2 + 0) = _; omega) k0) okM_n), okB_n, (okF_c (by show 0 ≤ (-127) + (1 * ρ 3 + 0); omega) (okF_c (by show 0 ≤ (-2) + (1 * ρ 2 + 0); omega) okF_n))⟩
-- lkin
theorem cr_31 (M : pM) (m0 : (0 ≤ (85 : Int) ∧ M 61 (85 : Int).toNat = (0 : Int))) (hG : gI M) : (HP 7 (0 : Int) (0 : Int) M ∧ True) := by
  have h : M 61 85 = 0 := m0.2
  exact ⟨fun h' => absurd h h', trivial⟩
theorem rul_31 : Rul r_31 := by
  refine ⟨fun _ ρ M hm hB hF hG => ?_, fun gi gv hg => (by cases hg)⟩
  have H := cr_31 M (cvm (c := 61) (by decide) (x' := (85 : Int)) (y' := (0 : Int)) (by show 85 + 0 = _; omega) (by show 0 + 0 = _; omega) (hm _ List.mem_cons_self)) hG
  obtain ⟨k0, -⟩ := H
  exact ⟨_, List.mem_cons_self, ρ, fun _ _ => rfl, (okM_c (pvp 7 (by show 0 + 0 = _; omega) (by show 0 + 0 = _; omega) k0) okM_n), okB_n, okF_n⟩
-- cs
theorem cr_32 (M : pM) (s0 s1 : Int) (b0 : 0 ≤ s0 ∧ s0 ≤ 24) (b1 : 0 ≤ s1 ∧ s1 ≤ 24) (hG : gI M) : (0 ≤ ((-1) * s0 + s1 - 1) ∧ True) ∨ (0 ≤ (s0 + (-1) * s1) ∧ True) := by
  by_cases h : s0 ≤ s1 - 1
  · exact Or.inl ⟨by omega, trivial⟩
  · exact Or.inr ⟨by omega, trivial⟩
theorem rul_32 : Rul r_32 := by
  refine ⟨fun _ ρ M hm hB hF hG => ?_, fun gi gv hg => (by cases hg)⟩
  have H := cr_32 M (ρ 0) (ρ 1) (hB _ List.mem_cons_self) (hB _ (List.mem_cons_of_mem _ List.mem_cons_self)) hG
  rcases H with H | H
  · skip
    obtain ⟨f0, -⟩ := H
    exact ⟨_, List.mem_cons_self, ρ, fun _ _ => rfl, okM_n, okB_n, (okF_c (by show 0 ≤ (-1) + ((-1) * ρ 0 + (1 * ρ 1 + 0)); omega) okF_n)⟩
  · skip
    obtain ⟨f0, -⟩ := H
    exact ⟨_, (List.mem_cons_of_mem _ List.mem_cons_self), ρ, fun _ _ => rfl, okM_n, okB_n, (okF_c (by show 0 ≤ 0 + (1 * ρ 0 + ((-1) * ρ 1 + 0)); omega) okF_n)⟩
-- dpz
theorem cr_33 (M : pM) (m0 : (0 ≤ (43 : Int) ∧ M 61 (43 : Int).toNat = (-1 : Int))) (hG : gI M) : (HP 8 (0 : Int) (0 : Int) M ∧ True) := by
  have h : M 61 43 = -1 := m0.2
  exact ⟨fun q => by omega, trivial⟩
theorem rul_33 : Rul r_33 := by
  refine ⟨fun _ ρ M hm hB hF hG => ?_, fun gi gv hg => (by cases hg)⟩
  have H := cr_33 M (cvm (c := 61) (by decide) (x' := (43 : Int)) (y' := (-1 : Int)) (by show 43 + 0 = _; omega) (by show (-1) + 0 = _; omega) (hm _ List.mem_cons_self)) hG
  obtain ⟨k0, -⟩ := H
  exact ⟨_, List.mem_cons_self, ρ, fun _ _ => rfl, (okM_c (pvp 8 (by show 0 + 0 = _; omega) (by show 0 + 0 = _; omega) k0) okM_n), okB_n, okF_n⟩
-- nf1
theorem cr_34 (M : pM) (s0 s1 s2 s3 s4 : Int) (b0 : 0 ≤ s0 ∧ s0 ≤ 36) (b1 : 0 ≤ s1 ∧ s1 ≤ 63) (b2 : 0 ≤ s2 ∧ s2 ≤ 40) (b3 : 0 ≤ s3 ∧ s3 ≤ 3) (b4 : 0 ≤ s4 ∧ s4 ≤ 3) (m0 : (0 ≤ (40 : Int) ∧ M 61 (40 : Int).toNat = (s4))) (f0 : 0 ≤ ((-1) * s3 + s4 - 1)) (hG : gI M) : (HP 20 (10496 * s0 + 164 * s1 + 4 * s2 + s3) (0 : Int) M ∧ True) := by
  have e : M 61 40 = s4 := m0.2
  refine ⟨fun t c h r hr hx hf => ?_, trivial⟩
  have := spo_inj (t := s0) (c := s1) (h := s2) (r := s3) ⟨b0, b1, b2, b3⟩ hr hx
  have := hf.1
  omega
theorem rul_34 : Rul r_34 := by
  refine ⟨fun _ ρ M hm hB hF hG => ?_, fun gi gv hg => (by cases hg)⟩
  have H := cr_34 M (ρ 0) (ρ 1) (ρ 2) (ρ 3) (ρ 4) (hB _ List.mem_cons_self) (hB _ (List.mem_cons_of_mem _ List.mem_cons_self)) (hB _ (List.mem_cons_of_mem _ (List.mem_cons_of_mem _ List.mem_cons_self))) (hB _ (List.mem_cons_of_mem _ (List.mem_cons_of_mem _ (List.mem_cons_of_mem _ List.mem_cons_self)))) (hB _ (List.mem_cons_of_mem _ (List.mem_cons_of_mem _ (List.mem_cons_of_mem _ (List.mem_cons_of_mem _ List.mem_cons_self))))) (cvm (c := 61) (by decide) (x' := (40 : Int)) (y' := ((ρ 4))) (by show 40 + 0 = _; omega) (by show 0 + (1 * ρ 4 + 0) = _; omega) (hm _ List.mem_cons_self)) (by have h := hF _ List.mem_cons_self; have h : 0 ≤ (-1) + ((-1) * ρ 3 + (1 * ρ 4 + 0)) := h; omega) hG
  obtain ⟨k0, -⟩ := H
  exact ⟨_, List.mem_cons_self, ρ, fun _ _ => rfl, (okM_c (pvp 20 (by show 0 + (10496 * ρ 0 + (164 * ρ 1 + (4 * ρ 2 + (1 * ρ 3 + 0)))) = _; omega) (by show 0 + 0 = _; omega) k0) okM_n), okB_n, okF_n⟩
-- nf2
theorem cr_35 (M : pM) (s0 s1 s2 s3 s4 : Int) (b0 : 0 ≤ s0 ∧ s0 ≤ 36) (b1 : 0 ≤ s1 ∧ s1 ≤ 63) (b2 : 0 ≤ s2 ∧ s2 ≤ 40) (b3 : 0 ≤ s3 ∧ s3 ≤ 3) (b4 : 0 ≤ s4 ∧ s4 ≤ 3) (m0 : (0 ≤ (40 : Int) ∧ M 61 (40 : Int).toNat = (s4))) (f0 : 0 ≤ (s3 + (-1) * s4 - 1)) (hG : gI M) : (HP 20 (10496 * s0 + 164 * s1 + 4 * s2 + s3) (0 : Int) M ∧ True) := by
  have e : M 61 40 = s4 := m0.2
  refine ⟨fun t c h r hr hx hf => ?_, trivial⟩
  have := spo_inj (t := s0) (c := s1) (h := s2) (r := s3) ⟨b0, b1, b2, b3⟩ hr hx
  have := hf.1
  omega
theorem rul_35 : Rul r_35 := by
  refine ⟨fun _ ρ M hm hB hF hG => ?_, fun gi gv hg => (by cases hg)⟩
  have H := cr_35 M (ρ 0) (ρ 1) (ρ 2) (ρ 3) (ρ 4) (hB _ List.mem_cons_self) (hB _ (List.mem_cons_of_mem _ List.mem_cons_self)) (hB _ (List.mem_cons_of_mem _ (List.mem_cons_of_mem _ List.mem_cons_self))) (hB _ (List.mem_cons_of_mem _ (List.mem_cons_of_mem _ (List.mem_cons_of_mem _ List.mem_cons_self)))) (hB _ (List.mem_cons_of_mem _ (List.mem_cons_of_mem _ (List.mem_cons_of_mem _ (List.mem_cons_of_mem _ List.mem_cons_self))))) (cvm (c := 61) (by decide) (x' := (40 : Int)) (y' := ((ρ 4))) (by show 40 + 0 = _; omega) (by show 0 + (1 * ρ 4 + 0) = _; omega) (hm _ List.mem_cons_self)) (by have h := hF _ List.mem_cons_self; have h : 0 ≤ (-1) + (1 * ρ 3 + ((-1) * ρ 4 + 0)) := h; omega) hG
  obtain ⟨k0, -⟩ := H
  exact ⟨_, List.mem_cons_self, ρ, fun _ _ => rfl, (okM_c (pvp 20 (by show 0 + (10496 * ρ 0 + (164 * ρ 1 + (4 * ρ 2 + (1 * ρ 3 + 0)))) = _; omega) (by show 0 + 0 = _; omega) k0) okM_n), okB_n, okF_n⟩
-- nf3
theorem cr_36 (M : pM) (s0 s1 s2 s3 s4 s5 : Int) (b0 : 0 ≤ s0 ∧ s0 ≤ 36) (b1 : 0 ≤ s1 ∧ s1 ≤ 63) (b2 : 0 ≤ s2 ∧ s2 ≤ 40) (b3 : 0 ≤ s3 ∧ s3 ≤ 3) (b4 : 0 ≤ s4 ∧ s4 ≤ 3) (b5 : 0 ≤ s5 ∧ s5 ≤ 63) (m0 : (0 ≤ (40 : Int) ∧ M 61 (40 : Int).toNat = (s4))) (m1 : (0 ≤ (s4) ∧ M 87 (s4).toNat = (s5))) (f0 : 0 ≤ ((-1) * s1 + s5 - 1)) (hG : gI M) : (HP 20 (10496 * s0 + 164 * s1 + 4 * s2 + s3) (0 : Int) M ∧ True) := by
  have e : M 61 40 = s4 := m0.2
  refine ⟨fun t c h r hr hx hf => ?_, trivial⟩
  have := spo_inj (t := s0) (c := s1) (h := s2) (r := s3) ⟨b0, b1, b2, b3⟩ hr hx
  have h2 := hf.2.1
  rw [e, m1.2] at h2
  omega
theorem rul_36 : Rul r_36 := by
  refine ⟨fun _ ρ M hm hB hF hG => ?_, fun gi gv hg => (by cases hg)⟩
  have H := cr_36 M (ρ 0) (ρ 1) (ρ 2) (ρ 3) (ρ 4) (ρ 5) (hB _ List.mem_cons_self) (hB _ (List.mem_cons_of_mem _ List.mem_cons_self)) (hB _ (List.mem_cons_of_mem _ (List.mem_cons_of_mem _ List.mem_cons_self))) (hB _ (List.mem_cons_of_mem _ (List.mem_cons_of_mem _ (List.mem_cons_of_mem _ List.mem_cons_self)))) (hB _ (List.mem_cons_of_mem _ (List.mem_cons_of_mem _ (List.mem_cons_of_mem _ (List.mem_cons_of_mem _ List.mem_cons_self))))) (hB _ (List.mem_cons_of_mem _ (List.mem_cons_of_mem _ (List.mem_cons_of_mem _ (List.mem_cons_of_mem _ (List.mem_cons_of_mem _ List.mem_cons_self)))))) (cvm (c := 61) (by decide) (x' := (40 : Int)) (y' := ((ρ 4))) (by show 40 + 0 = _; omega) (by show 0 + (1 * ρ 4 + 0) = _; omega) (hm _ List.mem_cons_self)) (cvm (c := 87) (by decide) (x' := ((ρ 4))) (y' := ((ρ 5))) (by show 0 + (1 * ρ 4 + 0) = _; omega) (by show 0 + (1 * ρ 5 + 0) = _; omega) (hm _ (List.mem_cons_of_mem _ List.mem_cons_self))) (by have h := hF _ List.mem_cons_self; have h : 0 ≤ (-1) + ((-1) * ρ 1 + (1 * ρ 5 + 0)) := h; omega) hG
  obtain ⟨k0, -⟩ := H
  exact ⟨_, List.mem_cons_self, ρ, fun _ _ => rfl, (okM_c (pvp 20 (by show 0 + (10496 * ρ 0 + (164 * ρ 1 + (4 * ρ 2 + (1 * ρ 3 + 0)))) = _; omega) (by show 0 + 0 = _; omega) k0) okM_n), okB_n, okF_n⟩
-- nf4
theorem cr_37 (M : pM) (s0 s1 s2 s3 s4 s5 : Int) (b0 : 0 ≤ s0 ∧ s0 ≤ 36) (b1 : 0 ≤ s1 ∧ s1 ≤ 63) (b2 : 0 ≤ s2 ∧ s2 ≤ 40) (b3 : 0 ≤ s3 ∧ s3 ≤ 3) (b4 : 0 ≤ s4 ∧ s4 ≤ 3) (b5 : 0 ≤ s5 ∧ s5 ≤ 63) (m0 : (0 ≤ (40 : Int) ∧ M 61 (40 : Int).toNat = (s4))) (m1 : (0 ≤ (s4) ∧ M 87 (s4).toNat = (s5))) (f0 : 0 ≤ (s1 + (-1) * s5 - 1)) (hG : gI M) : (HP 20 (10496 * s0 + 164 * s1 + 4 * s2 + s3) (0 : Int) M ∧ True) := by
  have e : M 61 40 = s4 := m0.2
  refine ⟨fun t c h r hr hx hf => ?_, trivial⟩
  have := spo_inj (t := s0) (c := s1) (h := s2) (r := s3) ⟨b0, b1, b2, b3⟩ hr hx
  have h2 := hf.2.1
  rw [e, m1.2] at h2
  omega
theorem rul_37 : Rul r_37 := by
  refine ⟨fun _ ρ M hm hB hF hG => ?_, fun gi gv hg => (by cases hg)⟩
  have H := cr_37 M (ρ 0) (ρ 1) (ρ 2) (ρ 3) (ρ 4) (ρ 5) (hB _ List.mem_cons_self) (hB _ (List.mem_cons_of_mem _ List.mem_cons_self)) (hB _ (List.mem_cons_of_mem _ (List.mem_cons_of_mem _ List.mem_cons_self))) (hB _ (List.mem_cons_of_mem _ (List.mem_cons_of_mem _ (List.mem_cons_of_mem _ List.mem_cons_self)))) (hB _ (List.mem_cons_of_mem _ (List.mem_cons_of_mem _ (List.mem_cons_of_mem _ (List.mem_cons_of_mem _ List.mem_cons_self))))) (hB _ (List.mem_cons_of_mem _ (List.mem_cons_of_mem _ (List.mem_cons_of_mem _ (List.mem_cons_of_mem _ (List.mem_cons_of_mem _ List.mem_cons_self)))))) (cvm (c := 61) (by decide) (x' := (40 : Int)) (y' := ((ρ 4))) (by show 40 + 0 = _; omega) (by show 0 + (1 * ρ 4 + 0) = _; omega) (hm _ List.mem_cons_self)) (cvm (c := 87) (by decide) (x' := ((ρ 4))) (y' := ((ρ 5))) (by show 0 + (1 * ρ 4 + 0) = _; omega) (by show 0 + (1 * ρ 5 + 0) = _; omega) (hm _ (List.mem_cons_of_mem _ List.mem_cons_self))) (by have h := hF _ List.mem_cons_self; have h : 0 ≤ (-1) + (1 * ρ 1 + ((-1) * ρ 5 + 0)) := h; omega) hG
  obtain ⟨k0, -⟩ := H
  exact ⟨_, List.mem_cons_self, ρ, fun _ _ => rfl, (okM_c (pvp 20 (by show 0 + (10496 * ρ 0 + (164 * ρ 1 + (4 * ρ 2 + (1 * ρ 3 + 0)))) = _; omega) (by show 0 + 0 = _; omega) k0) okM_n), okB_n, okF_n⟩
-- nf5
theorem cr_38 (M : pM) (s0 s1 s2 s3 s4 : Int) (b0 : 0 ≤ s0 ∧ s0 ≤ 36) (b1 : 0 ≤ s1 ∧ s1 ≤ 63) (b2 : 0 ≤ s2 ∧ s2 ≤ 40) (b3 : 0 ≤ s3 ∧ s3 ≤ 3) (b4 : 0 ≤ s4 ∧ s4 ≤ 40) (m0 : (0 ≤ (44 : Int) ∧ M 61 (44 : Int).toNat = (s4))) (f0 : 0 ≤ ((-1) * s2 + s4 - 1)) (hG : gI M) : (HP 20 (10496 * s0 + 164 * s1 + 4 * s2 + s3) (0 : Int) M ∧ True) := by
  have e : M 61 44 = s4 := m0.2
  refine ⟨fun t c h r hr hx hf => ?_, trivial⟩
  have := spo_inj (t := s0) (c := s1) (h := s2) (r := s3) ⟨b0, b1, b2, b3⟩ hr hx
  have := hf.2.2
  omega
theorem rul_38 : Rul r_38 := by
  refine ⟨fun _ ρ M hm hB hF hG => ?_, fun gi gv hg => (by cases hg)⟩
  have H := cr_38 M (ρ 0) (ρ 1) (ρ 2) (ρ 3) (ρ 4) (hB _ List.mem_cons_self) (hB _ (List.mem_cons_of_mem _ List.mem_cons_self)) (hB _ (List.mem_cons_of_mem _ (List.mem_cons_of_mem _ List.mem_cons_self))) (hB _ (List.mem_cons_of_mem _ (List.mem_cons_of_mem _ (List.mem_cons_of_mem _ List.mem_cons_self)))) (hB _ (List.mem_cons_of_mem _ (List.mem_cons_of_mem _ (List.mem_cons_of_mem _ (List.mem_cons_of_mem _ List.mem_cons_self))))) (cvm (c := 61) (by decide) (x' := (44 : Int)) (y' := ((ρ 4))) (by show 44 + 0 = _; omega) (by show 0 + (1 * ρ 4 + 0) = _; omega) (hm _ List.mem_cons_self)) (by have h := hF _ List.mem_cons_self; have h : 0 ≤ (-1) + ((-1) * ρ 2 + (1 * ρ 4 + 0)) := h; omega) hG
  obtain ⟨k0, -⟩ := H
  exact ⟨_, List.mem_cons_self, ρ, fun _ _ => rfl, (okM_c (pvp 20 (by show 0 + (10496 * ρ 0 + (164 * ρ 1 + (4 * ρ 2 + (1 * ρ 3 + 0)))) = _; omega) (by show 0 + 0 = _; omega) k0) okM_n), okB_n, okF_n⟩
-- dpo0
theorem cr_39 (M : pM) (s0 : Int) (b0 : (-1) ≤ s0 ∧ s0 ≤ 3) (m0 : HP 8 (0 : Int) (0 : Int) M) (m1 : (0 ≤ (34 : Int) ∧ M 61 (34 : Int).toNat = (0 : Int))) (m2 : (0 ≤ (43 : Int) ∧ M 61 (43 : Int).toNat = (s0))) (hG : gI M) : (0 ≤ ((-1) * s0 - 1) ∧ True) ∨ (HP 9 (388352 : Int) (0 : Int) M ∧ 0 ≤ (s0) ∧ True) := by
  have e1 : M 61 34 = 0 := m1.2
  have e2 : M 61 43 = s0 := m2.2
  have m0 : 0 ≤ M 61 43 → (M 61 34 = 0 ∧ pds 0 M 388352) ∨ (M 61 34 = 1 ∧ pds 1 M 388352) := m0
  by_cases h : s0 ≤ -1
  · exact Or.inl ⟨by omega, trivial⟩
  · refine Or.inr ⟨?_, by omega, trivial⟩
    rcases m0 (by omega) with q | q
    · exact q.2
    · omega
theorem rul_39 : Rul r_39 := by
  refine ⟨fun _ ρ M hm hB hF hG => ?_, fun gi gv hg => (by cases hg)⟩
  have H := cr_39 M (ρ 0) (hB _ List.mem_cons_self) (cvp 8 (x' := (0 : Int)) (y' := (0 : Int)) (by show 0 + 0 = _; omega) (by show 0 + 0 = _; omega) (hm _ List.mem_cons_self)) (cvm (c := 61) (by decide) (x' := (34 : Int)) (y' := (0 : Int)) (by show 34 + 0 = _; omega) (by show 0 + 0 = _; omega) (hm _ (List.mem_cons_of_mem _ List.mem_cons_self))) (cvm (c := 61) (by decide) (x' := (43 : Int)) (y' := ((ρ 0))) (by show 43 + 0 = _; omega) (by show 0 + (1 * ρ 0 + 0) = _; omega) (hm _ (List.mem_cons_of_mem _ (List.mem_cons_of_mem _ List.mem_cons_self)))) hG
  rcases H with H | H
  · skip
    obtain ⟨f0, -⟩ := H
    exact ⟨_, List.mem_cons_self, ρ, fun _ _ => rfl, okM_n, okB_n, (okF_c (by show 0 ≤ (-1) + ((-1) * ρ 0 + 0); omega) okF_n)⟩
  · skip
    obtain ⟨k0, f0, -⟩ := H
    exact ⟨_, (List.mem_cons_of_mem _ List.mem_cons_self), ρ, fun _ _ => rfl, (okM_c (pvp 9 (by show 388352 + 0 = _; omega) (by show 0 + 0 = _; omega) k0) okM_n), okB_n, (okF_c (by show 0 ≤ 0 + (1 * ρ 0 + 0); omega) okF_n)⟩
-- dpi0
theorem cr_40 (M : pM) (s0 : Int) (b0 : 388352 ≤ s0 ∧ s0 ≤ 388352) (m0 : HP 9 (s0) (0 : Int) M) (m1 : (0 ≤ (34 : Int) ∧ M 61 (34 : Int).toNat = (0 : Int))) (hG : gI M) : (HP 8 (0 : Int) (0 : Int) M ∧ True) := by
  have e1 : M 61 34 = 0 := m1.2
  have e0 : s0 = 388352 := by omega
  subst e0
  exact ⟨fun _ => Or.inl ⟨e1, m0⟩, trivial⟩
theorem rul_40 : Rul r_40 := by
  refine ⟨fun _ ρ M hm hB hF hG => ?_, fun gi gv hg => (by cases hg)⟩
  have H := cr_40 M (ρ 0) (hB _ List.mem_cons_self) (cvp 9 (x' := ((ρ 0))) (y' := (0 : Int)) (by show 0 + (1 * ρ 0 + 0) = _; omega) (by show 0 + 0 = _; omega) (hm _ List.mem_cons_self)) (cvm (c := 61) (by decide) (x' := (34 : Int)) (y' := (0 : Int)) (by show 34 + 0 = _; omega) (by show 0 + 0 = _; omega) (hm _ (List.mem_cons_of_mem _ List.mem_cons_self))) hG
  obtain ⟨k0, -⟩ := H
  exact ⟨_, List.mem_cons_self, ρ, fun _ _ => rfl, (okM_c (pvp 8 (by show 0 + 0 = _; omega) (by show 0 + 0 = _; omega) k0) okM_n), okB_n, okF_n⟩
-- pdx0
theorem cr_41 (M : pM) (s0 s1 : Int) (b0 : 0 ≤ s0 ∧ s0 ≤ 388352) (b1 : 0 ≤ s1 ∧ s1 ≤ 388352) (m0 : HP 9 (s0) (0 : Int) M) (f0 : 0 ≤ ((-1) * s0 + s1)) (f1 : 0 ≤ (s0 + (-1) * s1)) (hG : gI M) : (HP 9 (s1) (0 : Int) M ∧ True) := by
  have e0 : s1 = s0 := by omega
  subst e0
  exact ⟨m0, trivial⟩
theorem rul_41 : Rul r_41 := by
  refine ⟨fun _ ρ M hm hB hF hG => ?_, fun gi gv hg => (by cases hg)⟩
  have H := cr_41 M (ρ 0) (ρ 1) (hB _ List.mem_cons_self) (hB _ (List.mem_cons_of_mem _ List.mem_cons_self)) (cvp 9 (x' := ((ρ 0))) (y' := (0 : Int)) (by show 0 + (1 * ρ 0 + 0) = _; omega) (by show 0 + 0 = _; omega) (hm _ List.mem_cons_self)) (by have h := hF _ List.mem_cons_self; have h : 0 ≤ 0 + ((-1) * ρ 0 + (1 * ρ 1 + 0)) := h; omega) (by have h := hF _ (List.mem_cons_of_mem _ List.mem_cons_self); have h : 0 ≤ 0 + (1 * ρ 0 + ((-1) * ρ 1 + 0)) := h; omega) hG
  obtain ⟨k0, -⟩ := H
  exact ⟨_, List.mem_cons_self, ρ, fun _ _ => rfl, (okM_c (pvp 9 (by show 0 + (1 * ρ 1 + 0) = _; omega) (by show 0 + 0 = _; omega) k0) okM_n), okB_n, okF_n⟩
-- pd00
theorem cr_42 (M : pM)  (hG : gI M) : (HP 9 (0 : Int) (0 : Int) M ∧ True) := by
  refine ⟨fun _ t c h r hr hq hp => ?_, trivial⟩
  obtain ⟨a1, a2, a3, a4⟩ := hr
  omega
theorem rul_42 : Rul r_42 := by
  refine ⟨fun _ ρ M hm hB hF hG => ?_, fun gi gv hg => (by cases hg)⟩
  have H := cr_42 M hG
  obtain ⟨k0, -⟩ := H
  exact ⟨_, List.mem_cons_self, ρ, fun _ _ => rfl, (okM_c (pvp 9 (by show 0 + 0 = _; omega) (by show 0 + 0 = _; omega) k0) okM_n), okB_n, okF_n⟩
-- pdn0
theorem cr_43 (M : pM) (s0 s1 s2 s3 s4 : Int) (b0 : 0 ≤ s0 ∧ s0 ≤ 36) (b1 : 0 ≤ s1 ∧ s1 ≤ 63) (b2 : 0 ≤ s2 ∧ s2 ≤ 40) (b3 : 0 ≤ s3 ∧ s3 ≤ 4) (b4 : 0 ≤ s4 ∧ s4 ≤ 3) (m0 : HP 9 ((-10496) * s0 + 164 * s1 + 4 * s2 + s3 + 377856) (0 : Int) M) (m1 : (0 ≤ (40 : Int) ∧ M 61 (40 : Int).toNat = (s4))) (f0 : 0 ≤ (s3 + (-1) * s4 - 1)) (hG : gI M) : (HP 9 ((-10496) * s0 + 164 * s1 + 4 * s2 + 377860) (0 : Int) M ∧ True) := by
  have e : M 61 40 = s4 := m1.2
  refine ⟨fun h0 t c h r hr hq hp => m0 h0 t c h r hr hq ?_, trivial⟩
  obtain ⟨a1, a2, a3, a4⟩ := hr
  obtain ⟨B, hB⟩ : ∃ B, B = 2624 * (36 - t) + 41 * c + h := ⟨_, rfl⟩
  obtain ⟨B0, hB0⟩ : ∃ B0, B0 = 2624 * (36 - s0) + 41 * s1 + s2 := ⟨_, rfl⟩
  omega
theorem rul_43 : Rul r_43 := by
  refine ⟨fun _ ρ M hm hB hF hG => ?_, fun gi gv hg => (by cases hg)⟩
  have H := cr_43 M (ρ 0) (ρ 1) (ρ 2) (ρ 3) (ρ 4) (hB _ List.mem_cons_self) (hB _ (List.mem_cons_of_mem _ List.mem_cons_self)) (hB _ (List.mem_cons_of_mem _ (List.mem_cons_of_mem _ List.mem_cons_self))) (hB _ (List.mem_cons_of_mem _ (List.mem_cons_of_mem _ (List.mem_cons_of_mem _ List.mem_cons_self)))) (hB _ (List.mem_cons_of_mem _ (List.mem_cons_of_mem _ (List.mem_cons_of_mem _ (List.mem_cons_of_mem _ List.mem_cons_self))))) (cvp 9 (x' := ((-10496) * (ρ 0) + 164 * (ρ 1) + 4 * (ρ 2) + (ρ 3) + 377856)) (y' := (0 : Int)) (by show 377856 + ((-10496) * ρ 0 + (164 * ρ 1 + (4 * ρ 2 + (1 * ρ 3 + 0)))) = _; omega) (by show 0 + 0 = _; omega) (hm _ List.mem_cons_self)) (cvm (c := 61) (by decide) (x' := (40 : Int)) (y' := ((ρ 4))) (by show 40 + 0 = _; omega) (by show 0 + (1 * ρ 4 + 0) = _; omega) (hm _ (List.mem_cons_of_mem _ List.mem_cons_self))) (by have h := hF _ List.mem_cons_self; have h : 0 ≤ (-1) + (1 * ρ 3 + ((-1) * ρ 4 + 0)) := h; omega) hG
  obtain ⟨k0, -⟩ := H
  exact ⟨_, List.mem_cons_self, ρ, fun _ _ => rfl, (okM_c (pvp 9 (by show 377860 + ((-10496) * ρ 0 + (164 * ρ 1 + (4 * ρ 2 + 0))) = _; omega) (by show 0 + 0 = _; omega) k0) okM_n), okB_n, okF_n⟩
-- pdw0
theorem cr_44 (M : pM) (s0 s1 s2 s3 s4 : Int) (b0 : 0 ≤ s0 ∧ s0 ≤ 36) (b1 : 0 ≤ s1 ∧ s1 ≤ 63) (b2 : 0 ≤ s2 ∧ s2 ≤ 40) (b3 : 0 ≤ s3 ∧ s3 ≤ 3) (b4 : 0 ≤ s4 ∧ s4 ≤ 1000) (m0 : HP 9 ((-10496) * s0 + 164 * s1 + 4 * s2 + s3 + 377856) (0 : Int) M) (m1 : HP 11 (10496 * s0 + 164 * s1 + 4 * s2 + s3) (s4) M) (hG : gI M) : (HP 9 ((-10496) * s0 + 164 * s1 + 4 * s2 + s3 + 377857) (0 : Int) (st M 88 (10496 * s0 + 164 * s1 + 4 * s2 + s3).toNat (s4)) ∧ True) := by
  obtain ⟨t1, c1, h1, r1, q1, q2, q3⟩ := m1
  have hs : rng s0 s1 s2 s3 := ⟨b0, b1, b2, b3⟩
  have := spo_inj hs q1 q2
  obtain ⟨x1, x2, x3, x4⟩ := this
  subst x1
  subst x2
  subst x3
  subst x4
  refine ⟨fun h0 t c h r hr hq hp => ?_, trivial⟩
  rw [st_88 (by decide)] at h0 hq
  by_cases he : spo t c h r = spo s0 s1 s2 s3
  · have := spo_inj hr hs he
    obtain ⟨x1, x2, x3, x4⟩ := this
    subst x1
    subst x2
    subst x3
    subst x4
    show goo 0 (st M 88 (spo t c h r).toNat s4) t c h r (st M 88 (spo t c h r).toNat s4 88 (spo t c h r).toNat)
    rw [show st M 88 (spo t c h r).toNat s4 88 (spo t c h r).toNat = s4 from if_pos ⟨rfl, rfl⟩]
    exact goo_w lRL0 hs (Int.le_refl _) q3
  · have hn : (spo t c h r).toNat ≠ (spo s0 s1 s2 s3).toNat := by
      obtain ⟨a1, a2, a3, a4⟩ := hr
      unfold spo at he ⊢
      omega
    have hlt : 10496 * (36 - t) + 164 * c + 4 * h + r < (-10496) * s0 + 164 * s1 + 4 * s2 + s3 + 377856 ∧ s0 ≤ t := by
      have hk : ¬ (10496 * (36 - t) + 164 * c + 4 * h + r = (-10496) * s0 + 164 * s1 + 4 * s2 + s3 + 377856) := fun hk => he (by
        obtain ⟨a1, a2, a3, a4⟩ := hr
        have e4 : r = s3 := by omega
        have e3 : h = s2 := by omega
        have e2 : c = s1 := by omega
        have e1 : t = s0 := by omega
        rw [e1, e2, e3, e4])
      obtain ⟨a1, a2, a3, a4⟩ := hr
      omega
    show goo 0 (st M 88 (spo s0 s1 s2 s3).toNat s4) t c h r (st M 88 (spo s0 s1 s2 s3).toNat s4 88 (spo t c h r).toNat)
    rw [show st M 88 (spo s0 s1 s2 s3).toNat s4 88 (spo t c h r).toNat = M 88 (spo t c h r).toNat from if_neg (fun q => hn q.2)]
    exact goo_w lRL0 hs hlt.2 (m0 h0 t c h r hr hq hlt.1)
theorem rul_44 : Rul r_44 := by
  refine ⟨fun h => (by cases h), fun gi gv hg ρ M hm hB hF hG => ?_⟩
  obtain ⟨g1, g2⟩ := List.cons.inj (show ([aI ((0 : Int), ([(0, 10496), (1, 164), (2, 4), (3, 1)] : List (Nat × Int))), aI ((0 : Int), ([(4, 1)] : List (Nat × Int)))] : List av) = [.inl gi, .inl gv] from hg)
  obtain ⟨g2, -⟩ := List.cons.inj g2
  cases g1
  cases g2
  have ei : ev ρ ((0 : Int), ([(0, 10496), (1, 164), (2, 4), (3, 1)] : List (Nat × Int))) = (10496 * (ρ 0) + 164 * (ρ 1) + 4 * (ρ 2) + (ρ 3)) := by show 0 + (10496 * ρ 0 + (164 * ρ 1 + (4 * ρ 2 + (1 * ρ 3 + 0)))) = _; omega
  have ew : ev ρ ((0 : Int), ([(4, 1)] : List (Nat × Int))) = ((ρ 4)) := by show 0 + (1 * ρ 4 + 0) = _; omega
  rw [show (st M (ctj r_44) (ev ρ ((0 : Int), ([(0, 10496), (1, 164), (2, 4), (3, 1)] : List (Nat × Int)))).toNat (ev ρ ((0 : Int), ([(4, 1)] : List (Nat × Int))))) = (st M 88 (10496 * (ρ 0) + 164 * (ρ 1) + 4 * (ρ 2) + (ρ 3)).toNat ((ρ 4))) from by rw [ei, ew]; rfl]
  have H := cr_44 M (ρ 0) (ρ 1) (ρ 2) (ρ 3) (ρ 4) (hB _ List.mem_cons_self) (hB _ (List.mem_cons_of_mem _ List.mem_cons_self)) (hB _ (List.mem_cons_of_mem _ (List.mem_cons_of_mem _ List.mem_cons_self))) (hB _ (List.mem_cons_of_mem _ (List.mem_cons_of_mem _ (List.mem_cons_of_mem _ List.mem_cons_self)))) (hB _ (List.mem_cons_of_mem _ (List.mem_cons_of_mem _ (List.mem_cons_of_mem _ (List.mem_cons_of_mem _ List.mem_cons_self))))) (cvp 9 (x' := ((-10496) * (ρ 0) + 164 * (ρ 1) + 4 * (ρ 2) + (ρ 3) + 377856)) (y' := (0 : Int)) (by show 377856 + ((-10496) * ρ 0 + (164 * ρ 1 + (4 * ρ 2 + (1 * ρ 3 + 0)))) = _; omega) (by show 0 + 0 = _; omega) (hm _ List.mem_cons_self)) (cvp 11 (x' := (10496 * (ρ 0) + 164 * (ρ 1) + 4 * (ρ 2) + (ρ 3))) (y' := ((ρ 4))) (by show 0 + (10496 * ρ 0 + (164 * ρ 1 + (4 * ρ 2 + (1 * ρ 3 + 0)))) = _; omega) (by show 0 + (1 * ρ 4 + 0) = _; omega) (hm _ (List.mem_cons_of_mem _ List.mem_cons_self))) hG
  obtain ⟨k0, -⟩ := H
  exact ⟨_, List.mem_cons_self, ρ, fun _ _ => rfl, (okM_c (pvp 9 (by show 377857 + ((-10496) * ρ 0 + (164 * ρ 1 + (4 * ρ 2 + (1 * ρ 3 + 0)))) = _; omega) (by show 0 + 0 = _; omega) k0) okM_n), okB_n, okF_n⟩
-- gv00
theorem cr_45 (M : pM) (s0 s1 s2 s3 s4 : Int) (b0 : 0 ≤ s0 ∧ s0 ≤ 36) (b1 : 0 ≤ s1 ∧ s1 ≤ 63) (b2 : 0 ≤ s2 ∧ s2 ≤ 40) (b3 : 0 ≤ s3 ∧ s3 ≤ 3) (b4 : 1000 ≤ s4 ∧ s4 ≤ 1000) (hG : gI M) : (HP 11 (10496 * s0 + 164 * s1 + 4 * s2 + s3) (s4) M ∧ True) := by
  exact ⟨⟨s0, s1, s2, s3, ⟨b0, b1, b2, b3⟩, rfl, Or.inr (Or.inl b4.1)⟩, trivial⟩
theorem rul_45 : Rul r_45 := by
  refine ⟨fun _ ρ M hm hB hF hG => ?_, fun gi gv hg => (by cases hg)⟩
  have H := cr_45 M (ρ 0) (ρ 1) (ρ 2) (ρ 3) (ρ 4) (hB _ List.mem_cons_self) (hB _ (List.mem_cons_of_mem _ List.mem_cons_self)) (hB _ (List.mem_cons_of_mem _ (List.mem_cons_of_mem _ List.mem_cons_self))) (hB _ (List.mem_cons_of_mem _ (List.mem_cons_of_mem _ (List.mem_cons_of_mem _ List.mem_cons_self)))) (hB _ (List.mem_cons_of_mem _ (List.mem_cons_of_mem _ (List.mem_cons_of_mem _ (List.mem_cons_of_mem _ List.mem_cons_self))))) hG
  obtain ⟨k0, -⟩ := H
  exact ⟨_, List.mem_cons_self, ρ, fun _ _ => rfl, (okM_c (pvp 11 (by show 0 + (10496 * ρ 0 + (164 * ρ 1 + (4 * ρ 2 + (1 * ρ 3 + 0)))) = _; omega) (by show 0 + (1 * ρ 4 + 0) = _; omega) k0) okM_n), okB_n, okF_n⟩
-- gvf0
theorem cr_46 (M : pM) (s0 s1 s2 s3 s4 s5 s6 s7 : Int) (b0 : 0 ≤ s0 ∧ s0 ≤ 36) (b1 : 0 ≤ s1 ∧ s1 ≤ 63) (b2 : 0 ≤ s2 ∧ s2 ≤ 40) (b3 : 0 ≤ s3 ∧ s3 ≤ 3) (b4 : 0 ≤ s4 ∧ s4 ≤ 1000) (b5 : 0 ≤ s5 ∧ s5 ≤ 3) (b6 : 0 ≤ s6 ∧ s6 ≤ 63) (b7 : 0 ≤ s7 ∧ s7 ≤ 40) (m0 : (0 ≤ (40 : Int) ∧ M 61 (40 : Int).toNat = (s5))) (m1 : (0 ≤ (s5) ∧ M 87 (s5).toNat = (s6))) (m2 : (0 ≤ (44 : Int) ∧ M 61 (44 : Int).toNat = (s7))) (f0 : 0 ≤ ((-1) * s3 + s5)) (f1 : 0 ≤ (s3 + (-1) * s5)) (f2 : 0 ≤ ((-1) * s1 + s6)) (f3 : 0 ≤ (s1 + (-1) * s6)) (f4 : 0 ≤ (s2 + (-1) * s7)) (hG : gI M) : (HP 11 (10496 * s0 + 164 * s1 + 4 * s2 + s3) (s4) M ∧ True) := by
  have e0 : M 61 40 = s5 := m0.2
  have e2 : M 61 44 = s7 := m2.2
  refine ⟨⟨s0, s1, s2, s3, ⟨b0, b1, b2, b3⟩, rfl, Or.inl ⟨by omega, ?_, by omega⟩⟩, trivial⟩
  rw [e0, m1.2]
  omega
theorem rul_46 : Rul r_46 := by
  refine ⟨fun _ ρ M hm hB hF hG => ?_, fun gi gv hg => (by cases hg)⟩
  have H := cr_46 M (ρ 0) (ρ 1) (ρ 2) (ρ 3) (ρ 4) (ρ 5) (ρ 6) (ρ 7) (hB _ List.mem_cons_self) (hB _ (List.mem_cons_of_mem _ List.mem_cons_self)) (hB _ (List.mem_cons_of_mem _ (List.mem_cons_of_mem _ List.mem_cons_self))) (hB _ (List.mem_cons_of_mem _ (List.mem_cons_of_mem _ (List.mem_cons_of_mem _ List.mem_cons_self)))) (hB _ (List.mem_cons_of_mem _ (List.mem_cons_of_mem _ (List.mem_cons_of_mem _ (List.mem_cons_of_mem _ List.mem_cons_self))))) (hB _ (List.mem_cons_of_mem _ (List.mem_cons_of_mem _ (List.mem_cons_of_mem _ (List.mem_cons_of_mem _ (List.mem_cons_of_mem _ List.mem_cons_self)))))) (hB _ (List.mem_cons_of_mem _ (List.mem_cons_of_mem _ (List.mem_cons_of_mem _ (List.mem_cons_of_mem _ (List.mem_cons_of_mem _ (List.mem_cons_of_mem _ List.mem_cons_self))))))) (hB _ (List.mem_cons_of_mem _ (List.mem_cons_of_mem _ (List.mem_cons_of_mem _ (List.mem_cons_of_mem _ (List.mem_cons_of_mem _ (List.mem_cons_of_mem _ (List.mem_cons_of_mem _ List.mem_cons_self)))))))) (cvm (c := 61) (by decide) (x' := (40 : Int)) (y' := ((ρ 5))) (by show 40 + 0 = _; omega) (by show 0 + (1 * ρ 5 + 0) = _; omega) (hm _ List.mem_cons_self)) (cvm (c := 87) (by decide) (x' := ((ρ 5))) (y' := ((ρ 6))) (by show 0 + (1 * ρ 5 + 0) = _; omega) (by show 0 + (1 * ρ 6 + 0) = _; omega) (hm _ (List.mem_cons_of_mem _ List.mem_cons_self))) (cvm (c := 61) (by decide) (x' := (44 : Int)) (y' := ((ρ 7))) (by show 44 + 0 = _; omega) (by show 0 + (1 * ρ 7 + 0) = _; omega) (hm _ (List.mem_cons_of_mem _ (List.mem_cons_of_mem _ List.mem_cons_self)))) (by have h := hF _ List.mem_cons_self; have h : 0 ≤ 0 + ((-1) * ρ 3 + (1 * ρ 5 + 0)) := h; omega) (by have h := hF _ (List.mem_cons_of_mem _ List.mem_cons_self); have h : 0 ≤ 0 + (1 * ρ 3 + ((-1) * ρ 5 + 0)) := h; omega) (by have h := hF _ (List.mem_cons_of_mem _ (List.mem_cons_of_mem _ List.mem_cons_self)); have h : 0 ≤ 0 + ((-1) * ρ 1 + (1 * ρ 6 + 0)) := h; omega) (by have h := hF _ (List.mem_cons_of_mem _ (List.mem_cons_of_mem _ (List.mem_cons_of_mem _ List.mem_cons_self))); have h : 0 ≤ 0 + (1 * ρ 1 + ((-1) * ρ 6 + 0)) := h; omega) (by have h := hF _ (List.mem_cons_of_mem _ (List.mem_cons_of_mem _ (List.mem_cons_of_mem _ (List.mem_cons_of_mem _ List.mem_cons_self)))); have h : 0 ≤ 0 + (1 * ρ 2 + ((-1) * ρ 7 + 0)) := h; omega) hG
  obtain ⟨k0, -⟩ := H
  exact ⟨_, List.mem_cons_self, ρ, fun _ _ => rfl, (okM_c (pvp 11 (by show 0 + (10496 * ρ 0 + (164 * ρ 1 + (4 * ρ 2 + (1 * ρ 3 + 0)))) = _; omega) (by show 0 + (1 * ρ 4 + 0) = _; omega) k0) okM_n), okB_n, okF_n⟩
-- gve0
theorem cr_47 (M : pM) (s0 s1 s2 s3 s4 s5 : Int) (b0 : 0 ≤ s0 ∧ s0 ≤ 36) (b1 : 0 ≤ s1 ∧ s1 ≤ 63) (b2 : 0 ≤ s2 ∧ s2 ≤ 40) (b3 : 0 ≤ s3 ∧ s3 ≤ 3) (b4 : 0 ≤ s4 ∧ s4 ≤ 388351) (b5 : 0 ≤ s5 ∧ s5 ≤ 1000) (m0 : HP 13 (10496 * s0 + 164 * s1 + 4 * s2 + s3) (s4) M) (m1 : (0 ≤ (s4) ∧ M 88 (s4).toNat = (s5))) (hG : gI M) : (HP 11 (10496 * s0 + 164 * s1 + 4 * s2 + s3) (s5) M ∧ True) := by
  obtain ⟨t, c, h, r, m, a1, a2, a3, a4, a5⟩ := m0
  exact ⟨⟨t, c, h, r, a1, a2, Or.inr (Or.inr ⟨m, s4, a3, a4, a5, m1.2⟩)⟩, trivial⟩
theorem rul_47 : Rul r_47 := by
  refine ⟨fun _ ρ M hm hB hF hG => ?_, fun gi gv hg => (by cases hg)⟩
  have H := cr_47 M (ρ 0) (ρ 1) (ρ 2) (ρ 3) (ρ 4) (ρ 5) (hB _ List.mem_cons_self) (hB _ (List.mem_cons_of_mem _ List.mem_cons_self)) (hB _ (List.mem_cons_of_mem _ (List.mem_cons_of_mem _ List.mem_cons_self))) (hB _ (List.mem_cons_of_mem _ (List.mem_cons_of_mem _ (List.mem_cons_of_mem _ List.mem_cons_self)))) (hB _ (List.mem_cons_of_mem _ (List.mem_cons_of_mem _ (List.mem_cons_of_mem _ (List.mem_cons_of_mem _ List.mem_cons_self))))) (hB _ (List.mem_cons_of_mem _ (List.mem_cons_of_mem _ (List.mem_cons_of_mem _ (List.mem_cons_of_mem _ (List.mem_cons_of_mem _ List.mem_cons_self)))))) (cvp 13 (x' := (10496 * (ρ 0) + 164 * (ρ 1) + 4 * (ρ 2) + (ρ 3))) (y' := ((ρ 4))) (by show 0 + (10496 * ρ 0 + (164 * ρ 1 + (4 * ρ 2 + (1 * ρ 3 + 0)))) = _; omega) (by show 0 + (1 * ρ 4 + 0) = _; omega) (hm _ List.mem_cons_self)) (cvm (c := 88) (by decide) (x' := ((ρ 4))) (y' := ((ρ 5))) (by show 0 + (1 * ρ 4 + 0) = _; omega) (by show 0 + (1 * ρ 5 + 0) = _; omega) (hm _ (List.mem_cons_of_mem _ List.mem_cons_self))) hG
  obtain ⟨k0, -⟩ := H
  exact ⟨_, List.mem_cons_self, ρ, fun _ _ => rfl, (okM_c (pvp 11 (by show 0 + (10496 * ρ 0 + (164 * ρ 1 + (4 * ρ 2 + (1 * ρ 3 + 0)))) = _; omega) (by show 0 + (1 * ρ 5 + 0) = _; omega) k0) okM_n), okB_n, okF_n⟩
-- re0
theorem cr_48 (M : pM) (s0 s1 s2 s3 s4 s5 s6 s7 s8 : Int) (b0 : 0 ≤ s0 ∧ s0 ≤ 36) (b1 : 0 ≤ s1 ∧ s1 ≤ 63) (b2 : 0 ≤ s2 ∧ s2 ≤ 40) (b3 : 0 ≤ s3 ∧ s3 ≤ 3) (b4 : 0 ≤ s4 ∧ s4 ≤ 36) (b5 : 0 ≤ s5 ∧ s5 ≤ 63) (b6 : 0 ≤ s6 ∧ s6 ≤ 40) (b7 : 0 ≤ s7 ∧ s7 ≤ 3) (b8 : 0 ≤ s8 ∧ s8 ≤ 24) (m0 : HP 15 (10496 * s0 + 164 * s1 + 4 * s2 + s3) (s8) M) (m1 : (0 ≤ (36 : Int) ∧ M 61 (36 : Int).toNat = (s5))) (m2 : (0 ≤ (37 : Int) ∧ M 61 (37 : Int).toNat = (s4))) (m3 : (0 ≤ (38 : Int) ∧ M 61 (38 : Int).toNat = (s6))) (m4 : HP 19 (s3 + 4 * s5) (s7) M) (hG : gI M) : (HP 13 (10496 * s0 + 164 * s1 + 4 * s2 + s3) (10496 * s4 + 164 * s5 + 4 * s6 + s7) M ∧ True) := by
  have e1 : M 61 36 = s5 := m1.2
  have e2 : M 61 37 = s4 := m2.2
  have e3 : M 61 38 = s6 := m3.2
  obtain ⟨t, c, h, r, a1, a2, a3, a4, a5, a6⟩ := m0
  have := spo_inj (t := s0) (c := s1) (h := s2) (r := s3) ⟨b0, b1, b2, b3⟩ a1 a2
  obtain ⟨x1, x2, x3, x4⟩ := this
  subst x1
  subst x2
  subst x3
  subst x4
  obtain ⟨c2, r2, d1, d2, d3, d4, d5, d6⟩ := m4
  have y1 : c2 = s5 := by omega
  have y2 : r2 = s3 := by omega
  subst y1
  subst y2
  rw [e1, e2, e3] at a6
  rw [e2] at a5
  exact ⟨⟨s0, s1, s2, r2, s8, ⟨b0, b1, b2, b3⟩, rfl, a3, a4, s4, c2, s6, s7, ⟨b4, b5, b6, b7⟩, a5, a6, d6, rfl⟩, trivial⟩
theorem rul_48 : Rul r_48 := by
  refine ⟨fun _ ρ M hm hB hF hG => ?_, fun gi gv hg => (by cases hg)⟩
  have H := cr_48 M (ρ 0) (ρ 1) (ρ 2) (ρ 3) (ρ 4) (ρ 5) (ρ 6) (ρ 7) (ρ 8) (hB _ List.mem_cons_self) (hB _ (List.mem_cons_of_mem _ List.mem_cons_self)) (hB _ (List.mem_cons_of_mem _ (List.mem_cons_of_mem _ List.mem_cons_self))) (hB _ (List.mem_cons_of_mem _ (List.mem_cons_of_mem _ (List.mem_cons_of_mem _ List.mem_cons_self)))) (hB _ (List.mem_cons_of_mem _ (List.mem_cons_of_mem _ (List.mem_cons_of_mem _ (List.mem_cons_of_mem _ List.mem_cons_self))))) (hB _ (List.mem_cons_of_mem _ (List.mem_cons_of_mem _ (List.mem_cons_of_mem _ (List.mem_cons_of_mem _ (List.mem_cons_of_mem _ List.mem_cons_self)))))) (hB _ (List.mem_cons_of_mem _ (List.mem_cons_of_mem _ (List.mem_cons_of_mem _ (List.mem_cons_of_mem _ (List.mem_cons_of_mem _ (List.mem_cons_of_mem _ List.mem_cons_self))))))) (hB _ (List.mem_cons_of_mem _ (List.mem_cons_of_mem _ (List.mem_cons_of_mem _ (List.mem_cons_of_mem _ (List.mem_cons_of_mem _ (List.mem_cons_of_mem _ (List.mem_cons_of_mem _ List.mem_cons_self)))))))) (hB _ (List.mem_cons_of_mem _ (List.mem_cons_of_mem _ (List.mem_cons_of_mem _ (List.mem_cons_of_mem _ (List.mem_cons_of_mem _ (List.mem_cons_of_mem _ (List.mem_cons_of_mem _ (List.mem_cons_of_mem _ List.mem_cons_self))))))))) (cvp 15 (x' := (10496 * (ρ 0) + 164 * (ρ 1) + 4 * (ρ 2) + (ρ 3))) (y' := ((ρ 8))) (by show 0 + (10496 * ρ 0 + (164 * ρ 1 + (4 * ρ 2 + (1 * ρ 3 + 0)))) = _; omega) (by show 0 + (1 * ρ 8 + 0) = _; omega) (hm _ List.mem_cons_self)) (cvm (c := 61) (by decide) (x' := (36 : Int)) (y' := ((ρ 5))) (by show 36 + 0 = _; omega) (by show 0 + (1 * ρ 5 + 0) = _; omega) (hm _ (List.mem_cons_of_mem _ List.mem_cons_self))) (cvm (c := 61) (by decide) (x' := (37 : Int)) (y' := ((ρ 4))) (by show 37 + 0 = _; omega) (by show 0 + (1 * ρ 4 + 0) = _; omega) (hm _ (List.mem_cons_of_mem _ (List.mem_cons_of_mem _ List.mem_cons_self)))) (cvm (c := 61) (by decide) (x' := (38 : Int)) (y' := ((ρ 6))) (by show 38 + 0 = _; omega) (by show 0 + (1 * ρ 6 + 0) = _; omega) (hm _ (List.mem_cons_of_mem _ (List.mem_cons_of_mem _ (List.mem_cons_of_mem _ List.mem_cons_self))))) (cvp 19 (x' := ((ρ 3) + 4 * (ρ 5))) (y' := ((ρ 7))) (by show 0 + (1 * ρ 3 + (4 * ρ 5 + 0)) = _; omega) (by show 0 + (1 * ρ 7 + 0) = _; omega) (hm _ (List.mem_cons_of_mem _ (List.mem_cons_of_mem _ (List.mem_cons_of_mem _ (List.mem_cons_of_mem _ List.mem_cons_self)))))) hG
  obtain ⟨k0, -⟩ := H
  exact ⟨_, List.mem_cons_self, ρ, fun _ _ => rfl, (okM_c (pvp 13 (by show 0 + (10496 * ρ 0 + (164 * ρ 1 + (4 * ρ 2 + (1 * ρ 3 + 0)))) = _; omega) (by show 0 + (10496 * ρ 4 + (164 * ρ 5 + (4 * ρ 6 + (1 * ρ 7 + 0)))) = _; omega) k0) okM_n), okB_n, okF_n⟩
-- dpw0
theorem cr_49 (M : pM) (s0 s1 s2 s3 s4 s5 s6 : Int) (b0 : 0 ≤ s0 ∧ s0 ≤ 36) (b1 : 0 ≤ s1 ∧ s1 ≤ 63) (b2 : 0 ≤ s2 ∧ s2 ≤ 40) (b3 : 0 ≤ s3 ∧ s3 ≤ 3) (b4 : 388352 ≤ s4 ∧ s4 ≤ 388352) (b5 : 0 ≤ s5 ∧ s5 ≤ 3) (b6 : 0 ≤ s6 ∧ s6 ≤ 999) (m0 : HP 9 (s4) (0 : Int) M) (m1 : (0 ≤ (40 : Int) ∧ M 61 (40 : Int).toNat = (s5))) (m2 : (0 ≤ (10496 * s0 + 164 * s1 + 4 * s2 + s3) ∧ M 88 (10496 * s0 + 164 * s1 + 4 * s2 + s3).toNat = (s6))) (m3 : HP 20 (10496 * s0 + 164 * s1 + 4 * s2 + s3) (0 : Int) M) (f0 : 0 ≤ ((-1) * s3 + s5)) (hG : gI M) : (∃ t0 : Int, 0 ≤ t0 ∧ t0 ≤ 24 ∧ HP 17 (10496 * s0 + 164 * s1 + 4 * s2 + s3) (t0) M ∧ True) := by
  have e0 : s4 = 388352 := by omega
  subst e0
  have e1 : M 61 40 = s5 := m1.2
  have hr : rng s0 s1 s2 s3 := ⟨b0, b1, b2, b3⟩
  have hg := m0 (by omega) s0 s1 s2 s3 hr (by omega) (by omega)
  have m2 : M 88 (spo s0 s1 s2 s3).toNat = s6 := m2.2
  rcases hg with q | q | ⟨m, y, q1, q2, q3, q4⟩
  · exact absurd q (m3 s0 s1 s2 s3 hr rfl)
  · omega
  · exact ⟨m, q1, q2, ⟨s0, s1, s2, s3, hr, rfl, q1, q2, y, q3, q4⟩, trivial⟩
theorem rul_49 : Rul r_49 := by
  refine ⟨fun _ ρ M hm hB hF hG => ?_, fun gi gv hg => (by cases hg)⟩
  have H := cr_49 M (ρ 0) (ρ 1) (ρ 2) (ρ 3) (ρ 4) (ρ 5) (ρ 6) (hB _ List.mem_cons_self) (hB _ (List.mem_cons_of_mem _ List.mem_cons_self)) (hB _ (List.mem_cons_of_mem _ (List.mem_cons_of_mem _ List.mem_cons_self))) (hB _ (List.mem_cons_of_mem _ (List.mem_cons_of_mem _ (List.mem_cons_of_mem _ List.mem_cons_self)))) (hB _ (List.mem_cons_of_mem _ (List.mem_cons_of_mem _ (List.mem_cons_of_mem _ (List.mem_cons_of_mem _ List.mem_cons_self))))) (hB _ (List.mem_cons_of_mem _ (List.mem_cons_of_mem _ (List.mem_cons_of_mem _ (List.mem_cons_of_mem _ (List.mem_cons_of_mem _ List.mem_cons_self)))))) (hB _ (List.mem_cons_of_mem _ (List.mem_cons_of_mem _ (List.mem_cons_of_mem _ (List.mem_cons_of_mem _ (List.mem_cons_of_mem _ (List.mem_cons_of_mem _ List.mem_cons_self))))))) (cvp 9 (x' := ((ρ 4))) (y' := (0 : Int)) (by show 0 + (1 * ρ 4 + 0) = _; omega) (by show 0 + 0 = _; omega) (hm _ List.mem_cons_self)) (cvm (c := 61) (by decide) (x' := (40 : Int)) (y' := ((ρ 5))) (by show 40 + 0 = _; omega) (by show 0 + (1 * ρ 5 + 0) = _; omega) (hm _ (List.mem_cons_of_mem _ List.mem_cons_self))) (cvm (c := 88) (by decide) (x' := (10496 * (ρ 0) + 164 * (ρ 1) + 4 * (ρ 2) + (ρ 3))) (y' := ((ρ 6))) (by show 0 + (10496 * ρ 0 + (164 * ρ 1 + (4 * ρ 2 + (1 * ρ 3 + 0)))) = _; omega) (by show 0 + (1 * ρ 6 + 0) = _; omega) (hm _ (List.mem_cons_of_mem _ (List.mem_cons_of_mem _ List.mem_cons_self)))) (cvp 20 (x' := (10496 * (ρ 0) + 164 * (ρ 1) + 4 * (ρ 2) + (ρ 3))) (y' := (0 : Int)) (by show 0 + (10496 * ρ 0 + (164 * ρ 1 + (4 * ρ 2 + (1 * ρ 3 + 0)))) = _; omega) (by show 0 + 0 = _; omega) (hm _ (List.mem_cons_of_mem _ (List.mem_cons_of_mem _ (List.mem_cons_of_mem _ List.mem_cons_self))))) (by have h := hF _ List.mem_cons_self; have h : 0 ≤ 0 + ((-1) * ρ 3 + (1 * ρ 5 + 0)) := h; omega) hG
  obtain ⟨t0, u0, v0, k0, -⟩ := H
  obtain ⟨ρ', ha, a0, a1, a2, a3, a4, a5, a6, a7⟩ : ∃ ρ' : Nat → Int, agr 7 ρ ρ' ∧ ρ' 0 = ρ 0 ∧ ρ' 1 = ρ 1 ∧ ρ' 2 = ρ 2 ∧ ρ' 3 = ρ 3 ∧ ρ' 4 = ρ 4 ∧ ρ' 5 = ρ 5 ∧ ρ' 6 = ρ 6 ∧ ρ' 7 = t0 := ⟨fun s => if s = 7 then t0 else ρ s, fun s hs => by show (if s = 7 then t0 else ρ s) = _; rw [if_neg (by omega)], rfl, rfl, rfl, rfl, rfl, rfl, rfl, rfl⟩
  exact ⟨_, List.mem_cons_self, ρ', ha, (okM_c (pvp 17 (by show 0 + (10496 * ρ' 0 + (164 * ρ' 1 + (4 * ρ' 2 + (1 * ρ' 3 + 0)))) = _; omega) (by show 0 + (1 * ρ' 7 + 0) = _; omega) k0) okM_n), (okB_c (by omega) okB_n), okF_n⟩
-- dpo1
theorem cr_50 (M : pM) (s0 : Int) (b0 : (-1) ≤ s0 ∧ s0 ≤ 3) (m0 : HP 8 (0 : Int) (0 : Int) M) (m1 : (0 ≤ (34 : Int) ∧ M 61 (34 : Int).toNat = (1 : Int))) (m2 : (0 ≤ (43 : Int) ∧ M 61 (43 : Int).toNat = (s0))) (hG : gI M) : (0 ≤ ((-1) * s0 - 1) ∧ True) ∨ (HP 10 (388352 : Int) (0 : Int) M ∧ 0 ≤ (s0) ∧ True) := by
  have e1 : M 61 34 = 1 := m1.2
  have e2 : M 61 43 = s0 := m2.2
  have m0 : 0 ≤ M 61 43 → (M 61 34 = 0 ∧ pds 0 M 388352) ∨ (M 61 34 = 1 ∧ pds 1 M 388352) := m0
  by_cases h : s0 ≤ -1
  · exact Or.inl ⟨by omega, trivial⟩
  · refine Or.inr ⟨?_, by omega, trivial⟩
    rcases m0 (by omega) with q | q
    · omega
    · exact q.2
theorem rul_50 : Rul r_50 := by
  refine ⟨fun _ ρ M hm hB hF hG => ?_, fun gi gv hg => (by cases hg)⟩
  have H := cr_50 M (ρ 0) (hB _ List.mem_cons_self) (cvp 8 (x' := (0 : Int)) (y' := (0 : Int)) (by show 0 + 0 = _; omega) (by show 0 + 0 = _; omega) (hm _ List.mem_cons_self)) (cvm (c := 61) (by decide) (x' := (34 : Int)) (y' := (1 : Int)) (by show 34 + 0 = _; omega) (by show 1 + 0 = _; omega) (hm _ (List.mem_cons_of_mem _ List.mem_cons_self))) (cvm (c := 61) (by decide) (x' := (43 : Int)) (y' := ((ρ 0))) (by show 43 + 0 = _; omega) (by show 0 + (1 * ρ 0 + 0) = _; omega) (hm _ (List.mem_cons_of_mem _ (List.mem_cons_of_mem _ List.mem_cons_self)))) hG
  rcases H with H | H
  · skip
    obtain ⟨f0, -⟩ := H
    exact ⟨_, List.mem_cons_self, ρ, fun _ _ => rfl, okM_n, okB_n, (okF_c (by show 0 ≤ (-1) + ((-1) * ρ 0 + 0); omega) okF_n)⟩
  · skip
    obtain ⟨k0, f0, -⟩ := H
    exact ⟨_, (List.mem_cons_of_mem _ List.mem_cons_self), ρ, fun _ _ => rfl, (okM_c (pvp 10 (by show 388352 + 0 = _; omega) (by show 0 + 0 = _; omega) k0) okM_n), okB_n, (okF_c (by show 0 ≤ 0 + (1 * ρ 0 + 0); omega) okF_n)⟩
-- dpi1
theorem cr_51 (M : pM) (s0 : Int) (b0 : 388352 ≤ s0 ∧ s0 ≤ 388352) (m0 : HP 10 (s0) (0 : Int) M) (m1 : (0 ≤ (34 : Int) ∧ M 61 (34 : Int).toNat = (1 : Int))) (hG : gI M) : (HP 8 (0 : Int) (0 : Int) M ∧ True) := by
  have e1 : M 61 34 = 1 := m1.2
  have e0 : s0 = 388352 := by omega
  subst e0
  exact ⟨fun _ => Or.inr ⟨e1, m0⟩, trivial⟩
theorem rul_51 : Rul r_51 := by
  refine ⟨fun _ ρ M hm hB hF hG => ?_, fun gi gv hg => (by cases hg)⟩
  have H := cr_51 M (ρ 0) (hB _ List.mem_cons_self) (cvp 10 (x' := ((ρ 0))) (y' := (0 : Int)) (by show 0 + (1 * ρ 0 + 0) = _; omega) (by show 0 + 0 = _; omega) (hm _ List.mem_cons_self)) (cvm (c := 61) (by decide) (x' := (34 : Int)) (y' := (1 : Int)) (by show 34 + 0 = _; omega) (by show 1 + 0 = _; omega) (hm _ (List.mem_cons_of_mem _ List.mem_cons_self))) hG
  obtain ⟨k0, -⟩ := H
  exact ⟨_, List.mem_cons_self, ρ, fun _ _ => rfl, (okM_c (pvp 8 (by show 0 + 0 = _; omega) (by show 0 + 0 = _; omega) k0) okM_n), okB_n, okF_n⟩
-- pdx1
theorem cr_52 (M : pM) (s0 s1 : Int) (b0 : 0 ≤ s0 ∧ s0 ≤ 388352) (b1 : 0 ≤ s1 ∧ s1 ≤ 388352) (m0 : HP 10 (s0) (0 : Int) M) (f0 : 0 ≤ ((-1) * s0 + s1)) (f1 : 0 ≤ (s0 + (-1) * s1)) (hG : gI M) : (HP 10 (s1) (0 : Int) M ∧ True) := by
  have e0 : s1 = s0 := by omega
  subst e0
  exact ⟨m0, trivial⟩
theorem rul_52 : Rul r_52 := by
  refine ⟨fun _ ρ M hm hB hF hG => ?_, fun gi gv hg => (by cases hg)⟩
  have H := cr_52 M (ρ 0) (ρ 1) (hB _ List.mem_cons_self) (hB _ (List.mem_cons_of_mem _ List.mem_cons_self)) (cvp 10 (x' := ((ρ 0))) (y' := (0 : Int)) (by show 0 + (1 * ρ 0 + 0) = _; omega) (by show 0 + 0 = _; omega) (hm _ List.mem_cons_self)) (by have h := hF _ List.mem_cons_self; have h : 0 ≤ 0 + ((-1) * ρ 0 + (1 * ρ 1 + 0)) := h; omega) (by have h := hF _ (List.mem_cons_of_mem _ List.mem_cons_self); have h : 0 ≤ 0 + (1 * ρ 0 + ((-1) * ρ 1 + 0)) := h; omega) hG
  obtain ⟨k0, -⟩ := H
  exact ⟨_, List.mem_cons_self, ρ, fun _ _ => rfl, (okM_c (pvp 10 (by show 0 + (1 * ρ 1 + 0) = _; omega) (by show 0 + 0 = _; omega) k0) okM_n), okB_n, okF_n⟩
-- pd01
theorem cr_53 (M : pM)  (hG : gI M) : (HP 10 (0 : Int) (0 : Int) M ∧ True) := by
  refine ⟨fun _ t c h r hr hq hp => ?_, trivial⟩
  obtain ⟨a1, a2, a3, a4⟩ := hr
  omega
theorem rul_53 : Rul r_53 := by
  refine ⟨fun _ ρ M hm hB hF hG => ?_, fun gi gv hg => (by cases hg)⟩
  have H := cr_53 M hG
  obtain ⟨k0, -⟩ := H
  exact ⟨_, List.mem_cons_self, ρ, fun _ _ => rfl, (okM_c (pvp 10 (by show 0 + 0 = _; omega) (by show 0 + 0 = _; omega) k0) okM_n), okB_n, okF_n⟩
-- pdn1
theorem cr_54 (M : pM) (s0 s1 s2 s3 s4 : Int) (b0 : 0 ≤ s0 ∧ s0 ≤ 36) (b1 : 0 ≤ s1 ∧ s1 ≤ 63) (b2 : 0 ≤ s2 ∧ s2 ≤ 40) (b3 : 0 ≤ s3 ∧ s3 ≤ 4) (b4 : 0 ≤ s4 ∧ s4 ≤ 3) (m0 : HP 10 ((-10496) * s0 + 164 * s1 + 4 * s2 + s3 + 377856) (0 : Int) M) (m1 : (0 ≤ (40 : Int) ∧ M 61 (40 : Int).toNat = (s4))) (f0 : 0 ≤ (s3 + (-1) * s4 - 1)) (hG : gI M) : (HP 10 ((-10496) * s0 + 164 * s1 + 4 * s2 + 377860) (0 : Int) M ∧ True) := by
  have e : M 61 40 = s4 := m1.2
  refine ⟨fun h0 t c h r hr hq hp => m0 h0 t c h r hr hq ?_, trivial⟩
  obtain ⟨a1, a2, a3, a4⟩ := hr
  obtain ⟨B, hB⟩ : ∃ B, B = 2624 * (36 - t) + 41 * c + h := ⟨_, rfl⟩
  obtain ⟨B0, hB0⟩ : ∃ B0, B0 = 2624 * (36 - s0) + 41 * s1 + s2 := ⟨_, rfl⟩
  omega
theorem rul_54 : Rul r_54 := by
  refine ⟨fun _ ρ M hm hB hF hG => ?_, fun gi gv hg => (by cases hg)⟩
  have H := cr_54 M (ρ 0) (ρ 1) (ρ 2) (ρ 3) (ρ 4) (hB _ List.mem_cons_self) (hB _ (List.mem_cons_of_mem _ List.mem_cons_self)) (hB _ (List.mem_cons_of_mem _ (List.mem_cons_of_mem _ List.mem_cons_self))) (hB _ (List.mem_cons_of_mem _ (List.mem_cons_of_mem _ (List.mem_cons_of_mem _ List.mem_cons_self)))) (hB _ (List.mem_cons_of_mem _ (List.mem_cons_of_mem _ (List.mem_cons_of_mem _ (List.mem_cons_of_mem _ List.mem_cons_self))))) (cvp 10 (x' := ((-10496) * (ρ 0) + 164 * (ρ 1) + 4 * (ρ 2) + (ρ 3) + 377856)) (y' := (0 : Int)) (by show 377856 + ((-10496) * ρ 0 + (164 * ρ 1 + (4 * ρ 2 + (1 * ρ 3 + 0)))) = _; omega) (by show 0 + 0 = _; omega) (hm _ List.mem_cons_self)) (cvm (c := 61) (by decide) (x' := (40 : Int)) (y' := ((ρ 4))) (by show 40 + 0 = _; omega) (by show 0 + (1 * ρ 4 + 0) = _; omega) (hm _ (List.mem_cons_of_mem _ List.mem_cons_self))) (by have h := hF _ List.mem_cons_self; have h : 0 ≤ (-1) + (1 * ρ 3 + ((-1) * ρ 4 + 0)) := h; omega) hG
  obtain ⟨k0, -⟩ := H
  exact ⟨_, List.mem_cons_self, ρ, fun _ _ => rfl, (okM_c (pvp 10 (by show 377860 + ((-10496) * ρ 0 + (164 * ρ 1 + (4 * ρ 2 + 0))) = _; omega) (by show 0 + 0 = _; omega) k0) okM_n), okB_n, okF_n⟩
-- pdw1
theorem cr_55 (M : pM) (s0 s1 s2 s3 s4 : Int) (b0 : 0 ≤ s0 ∧ s0 ≤ 36) (b1 : 0 ≤ s1 ∧ s1 ≤ 63) (b2 : 0 ≤ s2 ∧ s2 ≤ 40) (b3 : 0 ≤ s3 ∧ s3 ≤ 3) (b4 : 0 ≤ s4 ∧ s4 ≤ 1000) (m0 : HP 10 ((-10496) * s0 + 164 * s1 + 4 * s2 + s3 + 377856) (0 : Int) M) (m1 : HP 12 (10496 * s0 + 164 * s1 + 4 * s2 + s3) (s4) M) (hG : gI M) : (HP 10 ((-10496) * s0 + 164 * s1 + 4 * s2 + s3 + 377857) (0 : Int) (st M 88 (10496 * s0 + 164 * s1 + 4 * s2 + s3).toNat (s4)) ∧ True) := by
  obtain ⟨t1, c1, h1, r1, q1, q2, q3⟩ := m1
  have hs : rng s0 s1 s2 s3 := ⟨b0, b1, b2, b3⟩
  have := spo_inj hs q1 q2
  obtain ⟨x1, x2, x3, x4⟩ := this
  subst x1
  subst x2
  subst x3
  subst x4
  refine ⟨fun h0 t c h r hr hq hp => ?_, trivial⟩
  rw [st_88 (by decide)] at h0 hq
  by_cases he : spo t c h r = spo s0 s1 s2 s3
  · have := spo_inj hr hs he
    obtain ⟨x1, x2, x3, x4⟩ := this
    subst x1
    subst x2
    subst x3
    subst x4
    show goo 1 (st M 88 (spo t c h r).toNat s4) t c h r (st M 88 (spo t c h r).toNat s4 88 (spo t c h r).toNat)
    rw [show st M 88 (spo t c h r).toNat s4 88 (spo t c h r).toNat = s4 from if_pos ⟨rfl, rfl⟩]
    exact goo_w lRL1 hs (Int.le_refl _) q3
  · have hn : (spo t c h r).toNat ≠ (spo s0 s1 s2 s3).toNat := by
      obtain ⟨a1, a2, a3, a4⟩ := hr
      unfold spo at he ⊢
      omega
    have hlt : 10496 * (36 - t) + 164 * c + 4 * h + r < (-10496) * s0 + 164 * s1 + 4 * s2 + s3 + 377856 ∧ s0 ≤ t := by
      have hk : ¬ (10496 * (36 - t) + 164 * c + 4 * h + r = (-10496) * s0 + 164 * s1 + 4 * s2 + s3 + 377856) := fun hk => he (by
        obtain ⟨a1, a2, a3, a4⟩ := hr
        have e4 : r = s3 := by omega
        have e3 : h = s2 := by omega
        have e2 : c = s1 := by omega
        have e1 : t = s0 := by omega
        rw [e1, e2, e3, e4])
      obtain ⟨a1, a2, a3, a4⟩ := hr
      omega
    show goo 1 (st M 88 (spo s0 s1 s2 s3).toNat s4) t c h r (st M 88 (spo s0 s1 s2 s3).toNat s4 88 (spo t c h r).toNat)
    rw [show st M 88 (spo s0 s1 s2 s3).toNat s4 88 (spo t c h r).toNat = M 88 (spo t c h r).toNat from if_neg (fun q => hn q.2)]
    exact goo_w lRL1 hs hlt.2 (m0 h0 t c h r hr hq hlt.1)
theorem rul_55 : Rul r_55 := by
  refine ⟨fun h => (by cases h), fun gi gv hg ρ M hm hB hF hG => ?_⟩
  obtain ⟨g1, g2⟩ := List.cons.inj (show ([aI ((0 : Int), ([(0, 10496), (1, 164), (2, 4), (3, 1)] : List (Nat × Int))), aI ((0 : Int), ([(4, 1)] : List (Nat × Int)))] : List av) = [.inl gi, .inl gv] from hg)
  obtain ⟨g2, -⟩ := List.cons.inj g2
  cases g1
  cases g2
  have ei : ev ρ ((0 : Int), ([(0, 10496), (1, 164), (2, 4), (3, 1)] : List (Nat × Int))) = (10496 * (ρ 0) + 164 * (ρ 1) + 4 * (ρ 2) + (ρ 3)) := by show 0 + (10496 * ρ 0 + (164 * ρ 1 + (4 * ρ 2 + (1 * ρ 3 + 0)))) = _; omega
  have ew : ev ρ ((0 : Int), ([(4, 1)] : List (Nat × Int))) = ((ρ 4)) := by show 0 + (1 * ρ 4 + 0) = _; omega
  rw [show (st M (ctj r_55) (ev ρ ((0 : Int), ([(0, 10496), (1, 164), (2, 4), (3, 1)] : List (Nat × Int)))).toNat (ev ρ ((0 : Int), ([(4, 1)] : List (Nat × Int))))) = (st M 88 (10496 * (ρ 0) + 164 * (ρ 1) + 4 * (ρ 2) + (ρ 3)).toNat ((ρ 4))) from by rw [ei, ew]; rfl]
  have H := cr_55 M (ρ 0) (ρ 1) (ρ 2) (ρ 3) (ρ 4) (hB _ List.mem_cons_self) (hB _ (List.mem_cons_of_mem _ List.mem_cons_self)) (hB _ (List.mem_cons_of_mem _ (List.mem_cons_of_mem _ List.mem_cons_self))) (hB _ (List.mem_cons_of_mem _ (List.mem_cons_of_mem _ (List.mem_cons_of_mem _ List.mem_cons_self)))) (hB _ (List.mem_cons_of_mem _ (List.mem_cons_of_mem _ (List.mem_cons_of_mem _ (List.mem_cons_of_mem _ List.mem_cons_self))))) (cvp 10 (x' := ((-10496) * (ρ 0) + 164 * (ρ 1) + 4 * (ρ 2) + (ρ 3) + 377856)) (y' := (0 : Int)) (by show 377856 + ((-10496) * ρ 0 + (164 * ρ 1 + (4 * ρ 2 + (1 * ρ 3 + 0)))) = _; omega) (by show 0 + 0 = _; omega) (hm _ List.mem_cons_self)) (cvp 12 (x' := (10496 * (ρ 0) + 164 * (ρ 1) + 4 * (ρ 2) + (ρ 3))) (y' := ((ρ 4))) (by show 0 + (10496 * ρ 0 + (164 * ρ 1 + (4 * ρ 2 + (1 * ρ 3 + 0)))) = _; omega) (by show 0 + (1 * ρ 4 + 0) = _; omega) (hm _ (List.mem_cons_of_mem _ List.mem_cons_self))) hG
  obtain ⟨k0, -⟩ := H
  exact ⟨_, List.mem_cons_self, ρ, fun _ _ => rfl, (okM_c (pvp 10 (by show 377857 + ((-10496) * ρ 0 + (164 * ρ 1 + (4 * ρ 2 + (1 * ρ 3 + 0)))) = _; omega) (by show 0 + 0 = _; omega) k0) okM_n), okB_n, okF_n⟩
-- gv01
theorem cr_56 (M : pM) (s0 s1 s2 s3 s4 : Int) (b0 : 0 ≤ s0 ∧ s0 ≤ 36) (b1 : 0 ≤ s1 ∧ s1 ≤ 63) (b2 : 0 ≤ s2 ∧ s2 ≤ 40) (b3 : 0 ≤ s3 ∧ s3 ≤ 3) (b4 : 1000 ≤ s4 ∧ s4 ≤ 1000) (hG : gI M) : (HP 12 (10496 * s0 + 164 * s1 + 4 * s2 + s3) (s4) M ∧ True) := by
  exact ⟨⟨s0, s1, s2, s3, ⟨b0, b1, b2, b3⟩, rfl, Or.inr (Or.inl b4.1)⟩, trivial⟩
theorem rul_56 : Rul r_56 := by
  refine ⟨fun _ ρ M hm hB hF hG => ?_, fun gi gv hg => (by cases hg)⟩
  have H := cr_56 M (ρ 0) (ρ 1) (ρ 2) (ρ 3) (ρ 4) (hB _ List.mem_cons_self) (hB _ (List.mem_cons_of_mem _ List.mem_cons_self)) (hB _ (List.mem_cons_of_mem _ (List.mem_cons_of_mem _ List.mem_cons_self))) (hB _ (List.mem_cons_of_mem _ (List.mem_cons_of_mem _ (List.mem_cons_of_mem _ List.mem_cons_self)))) (hB _ (List.mem_cons_of_mem _ (List.mem_cons_of_mem _ (List.mem_cons_of_mem _ (List.mem_cons_of_mem _ List.mem_cons_self))))) hG
  obtain ⟨k0, -⟩ := H
  exact ⟨_, List.mem_cons_self, ρ, fun _ _ => rfl, (okM_c (pvp 12 (by show 0 + (10496 * ρ 0 + (164 * ρ 1 + (4 * ρ 2 + (1 * ρ 3 + 0)))) = _; omega) (by show 0 + (1 * ρ 4 + 0) = _; omega) k0) okM_n), okB_n, okF_n⟩
-- gvf1
theorem cr_57 (M : pM) (s0 s1 s2 s3 s4 s5 s6 s7 : Int) (b0 : 0 ≤ s0 ∧ s0 ≤ 36) (b1 : 0 ≤ s1 ∧ s1 ≤ 63) (b2 : 0 ≤ s2 ∧ s2 ≤ 40) (b3 : 0 ≤ s3 ∧ s3 ≤ 3) (b4 : 0 ≤ s4 ∧ s4 ≤ 1000) (b5 : 0 ≤ s5 ∧ s5 ≤ 3) (b6 : 0 ≤ s6 ∧ s6 ≤ 63) (b7 : 0 ≤ s7 ∧ s7 ≤ 40) (m0 : (0 ≤ (40 : Int) ∧ M 61 (40 : Int).toNat = (s5))) (m1 : (0 ≤ (s5) ∧ M 87 (s5).toNat = (s6))) (m2 : (0 ≤ (44 : Int) ∧ M 61 (44 : Int).toNat = (s7))) (f0 : 0 ≤ ((-1) * s3 + s5)) (f1 : 0 ≤ (s3 + (-1) * s5)) (f2 : 0 ≤ ((-1) * s1 + s6)) (f3 : 0 ≤ (s1 + (-1) * s6)) (f4 : 0 ≤ (s2 + (-1) * s7)) (hG : gI M) : (HP 12 (10496 * s0 + 164 * s1 + 4 * s2 + s3) (s4) M ∧ True) := by
  have e0 : M 61 40 = s5 := m0.2
  have e2 : M 61 44 = s7 := m2.2
  refine ⟨⟨s0, s1, s2, s3, ⟨b0, b1, b2, b3⟩, rfl, Or.inl ⟨by omega, ?_, by omega⟩⟩, trivial⟩
  rw [e0, m1.2]
  omega
theorem rul_57 : Rul r_57 := by
  refine ⟨fun _ ρ M hm hB hF hG => ?_, fun gi gv hg => (by cases hg)⟩
  have H := cr_57 M (ρ 0) (ρ 1) (ρ 2) (ρ 3) (ρ 4) (ρ 5) (ρ 6) (ρ 7) (hB _ List.mem_cons_self) (hB _ (List.mem_cons_of_mem _ List.mem_cons_self)) (hB _ (List.mem_cons_of_mem _ (List.mem_cons_of_mem _ List.mem_cons_self))) (hB _ (List.mem_cons_of_mem _ (List.mem_cons_of_mem _ (List.mem_cons_of_mem _ List.mem_cons_self)))) (hB _ (List.mem_cons_of_mem _ (List.mem_cons_of_mem _ (List.mem_cons_of_mem _ (List.mem_cons_of_mem _ List.mem_cons_self))))) (hB _ (List.mem_cons_of_mem _ (List.mem_cons_of_mem _ (List.mem_cons_of_mem _ (List.mem_cons_of_mem _ (List.mem_cons_of_mem _ List.mem_cons_self)))))) (hB _ (List.mem_cons_of_mem _ (List.mem_cons_of_mem _ (List.mem_cons_of_mem _ (List.mem_cons_of_mem _ (List.mem_cons_of_mem _ (List.mem_cons_of_mem _ List.mem_cons_self))))))) (hB _ (List.mem_cons_of_mem _ (List.mem_cons_of_mem _ (List.mem_cons_of_mem _ (List.mem_cons_of_mem _ (List.mem_cons_of_mem _ (List.mem_cons_of_mem _ (List.mem_cons_of_mem _ List.mem_cons_self)))))))) (cvm (c := 61) (by decide) (x' := (40 : Int)) (y' := ((ρ 5))) (by show 40 + 0 = _; omega) (by show 0 + (1 * ρ 5 + 0) = _; omega) (hm _ List.mem_cons_self)) (cvm (c := 87) (by decide) (x' := ((ρ 5))) (y' := ((ρ 6))) (by show 0 + (1 * ρ 5 + 0) = _; omega) (by show 0 + (1 * ρ 6 + 0) = _; omega) (hm _ (List.mem_cons_of_mem _ List.mem_cons_self))) (cvm (c := 61) (by decide) (x' := (44 : Int)) (y' := ((ρ 7))) (by show 44 + 0 = _; omega) (by show 0 + (1 * ρ 7 + 0) = _; omega) (hm _ (List.mem_cons_of_mem _ (List.mem_cons_of_mem _ List.mem_cons_self)))) (by have h := hF _ List.mem_cons_self; have h : 0 ≤ 0 + ((-1) * ρ 3 + (1 * ρ 5 + 0)) := h; omega) (by have h := hF _ (List.mem_cons_of_mem _ List.mem_cons_self); have h : 0 ≤ 0 + (1 * ρ 3 + ((-1) * ρ 5 + 0)) := h; omega) (by have h := hF _ (List.mem_cons_of_mem _ (List.mem_cons_of_mem _ List.mem_cons_self)); have h : 0 ≤ 0 + ((-1) * ρ 1 + (1 * ρ 6 + 0)) := h; omega) (by have h := hF _ (List.mem_cons_of_mem _ (List.mem_cons_of_mem _ (List.mem_cons_of_mem _ List.mem_cons_self))); have h : 0 ≤ 0 + (1 * ρ 1 + ((-1) * ρ 6 + 0)) := h; omega) (by have h := hF _ (List.mem_cons_of_mem _ (List.mem_cons_of_mem _ (List.mem_cons_of_mem _ (List.mem_cons_of_mem _ List.mem_cons_self)))); have h : 0 ≤ 0 + (1 * ρ 2 + ((-1) * ρ 7 + 0)) := h; omega) hG
  obtain ⟨k0, -⟩ := H
  exact ⟨_, List.mem_cons_self, ρ, fun _ _ => rfl, (okM_c (pvp 12 (by show 0 + (10496 * ρ 0 + (164 * ρ 1 + (4 * ρ 2 + (1 * ρ 3 + 0)))) = _; omega) (by show 0 + (1 * ρ 4 + 0) = _; omega) k0) okM_n), okB_n, okF_n⟩
-- gve1
theorem cr_58 (M : pM) (s0 s1 s2 s3 s4 s5 : Int) (b0 : 0 ≤ s0 ∧ s0 ≤ 36) (b1 : 0 ≤ s1 ∧ s1 ≤ 63) (b2 : 0 ≤ s2 ∧ s2 ≤ 40) (b3 : 0 ≤ s3 ∧ s3 ≤ 3) (b4 : 0 ≤ s4 ∧ s4 ≤ 388351) (b5 : 0 ≤ s5 ∧ s5 ≤ 1000) (m0 : HP 14 (10496 * s0 + 164 * s1 + 4 * s2 + s3) (s4) M) (m1 : (0 ≤ (s4) ∧ M 88 (s4).toNat = (s5))) (hG : gI M) : (HP 12 (10496 * s0 + 164 * s1 + 4 * s2 + s3) (s5) M ∧ True) := by
  obtain ⟨t, c, h, r, m, a1, a2, a3, a4, a5⟩ := m0
  exact ⟨⟨t, c, h, r, a1, a2, Or.inr (Or.inr ⟨m, s4, a3, a4, a5, m1.2⟩)⟩, trivial⟩
theorem rul_58 : Rul r_58 := by
  refine ⟨fun _ ρ M hm hB hF hG => ?_, fun gi gv hg => (by cases hg)⟩
  have H := cr_58 M (ρ 0) (ρ 1) (ρ 2) (ρ 3) (ρ 4) (ρ 5) (hB _ List.mem_cons_self) (hB _ (List.mem_cons_of_mem _ List.mem_cons_self)) (hB _ (List.mem_cons_of_mem _ (List.mem_cons_of_mem _ List.mem_cons_self))) (hB _ (List.mem_cons_of_mem _ (List.mem_cons_of_mem _ (List.mem_cons_of_mem _ List.mem_cons_self)))) (hB _ (List.mem_cons_of_mem _ (List.mem_cons_of_mem _ (List.mem_cons_of_mem _ (List.mem_cons_of_mem _ List.mem_cons_self))))) (hB _ (List.mem_cons_of_mem _ (List.mem_cons_of_mem _ (List.mem_cons_of_mem _ (List.mem_cons_of_mem _ (List.mem_cons_of_mem _ List.mem_cons_self)))))) (cvp 14 (x' := (10496 * (ρ 0) + 164 * (ρ 1) + 4 * (ρ 2) + (ρ 3))) (y' := ((ρ 4))) (by show 0 + (10496 * ρ 0 + (164 * ρ 1 + (4 * ρ 2 + (1 * ρ 3 + 0)))) = _; omega) (by show 0 + (1 * ρ 4 + 0) = _; omega) (hm _ List.mem_cons_self)) (cvm (c := 88) (by decide) (x' := ((ρ 4))) (y' := ((ρ 5))) (by show 0 + (1 * ρ 4 + 0) = _; omega) (by show 0 + (1 * ρ 5 + 0) = _; omega) (hm _ (List.mem_cons_of_mem _ List.mem_cons_self))) hG
  obtain ⟨k0, -⟩ := H
  exact ⟨_, List.mem_cons_self, ρ, fun _ _ => rfl, (okM_c (pvp 12 (by show 0 + (10496 * ρ 0 + (164 * ρ 1 + (4 * ρ 2 + (1 * ρ 3 + 0)))) = _; omega) (by show 0 + (1 * ρ 5 + 0) = _; omega) k0) okM_n), okB_n, okF_n⟩
-- re1
theorem cr_59 (M : pM) (s0 s1 s2 s3 s4 s5 s6 s7 s8 : Int) (b0 : 0 ≤ s0 ∧ s0 ≤ 36) (b1 : 0 ≤ s1 ∧ s1 ≤ 63) (b2 : 0 ≤ s2 ∧ s2 ≤ 40) (b3 : 0 ≤ s3 ∧ s3 ≤ 3) (b4 : 0 ≤ s4 ∧ s4 ≤ 36) (b5 : 0 ≤ s5 ∧ s5 ≤ 63) (b6 : 0 ≤ s6 ∧ s6 ≤ 40) (b7 : 0 ≤ s7 ∧ s7 ≤ 3) (b8 : 0 ≤ s8 ∧ s8 ≤ 24) (m0 : HP 16 (10496 * s0 + 164 * s1 + 4 * s2 + s3) (s8) M) (m1 : (0 ≤ (36 : Int) ∧ M 61 (36 : Int).toNat = (s5))) (m2 : (0 ≤ (37 : Int) ∧ M 61 (37 : Int).toNat = (s4))) (m3 : (0 ≤ (38 : Int) ∧ M 61 (38 : Int).toNat = (s6))) (m4 : HP 19 (s3 + 4 * s5) (s7) M) (hG : gI M) : (HP 14 (10496 * s0 + 164 * s1 + 4 * s2 + s3) (10496 * s4 + 164 * s5 + 4 * s6 + s7) M ∧ True) := by
  have e1 : M 61 36 = s5 := m1.2
  have e2 : M 61 37 = s4 := m2.2
  have e3 : M 61 38 = s6 := m3.2
  obtain ⟨t, c, h, r, a1, a2, a3, a4, a5, a6⟩ := m0
  have := spo_inj (t := s0) (c := s1) (h := s2) (r := s3) ⟨b0, b1, b2, b3⟩ a1 a2
  obtain ⟨x1, x2, x3, x4⟩ := this
  subst x1
  subst x2
  subst x3
  subst x4
  obtain ⟨c2, r2, d1, d2, d3, d4, d5, d6⟩ := m4
  have y1 : c2 = s5 := by omega
  have y2 : r2 = s3 := by omega
  subst y1
  subst y2
  rw [e1, e2, e3] at a6
  rw [e2] at a5
  exact ⟨⟨s0, s1, s2, r2, s8, ⟨b0, b1, b2, b3⟩, rfl, a3, a4, s4, c2, s6, s7, ⟨b4, b5, b6, b7⟩, a5, a6, d6, rfl⟩, trivial⟩
theorem rul_59 : Rul r_59 := by
  refine ⟨fun _ ρ M hm hB hF hG => ?_, fun gi gv hg => (by cases hg)⟩
  have H := cr_59 M (ρ 0) (ρ 1) (ρ 2) (ρ 3) (ρ 4) (ρ 5) (ρ 6) (ρ 7) (ρ 8) (hB _ List.mem_cons_self) (hB _ (List.mem_cons_of_mem _ List.mem_cons_self)) (hB _ (List.mem_cons_of_mem _ (List.mem_cons_of_mem _ List.mem_cons_self))) (hB _ (List.mem_cons_of_mem _ (List.mem_cons_of_mem _ (List.mem_cons_of_mem _ List.mem_cons_self)))) (hB _ (List.mem_cons_of_mem _ (List.mem_cons_of_mem _ (List.mem_cons_of_mem _ (List.mem_cons_of_mem _ List.mem_cons_self))))) (hB _ (List.mem_cons_of_mem _ (List.mem_cons_of_mem _ (List.mem_cons_of_mem _ (List.mem_cons_of_mem _ (List.mem_cons_of_mem _ List.mem_cons_self)))))) (hB _ (List.mem_cons_of_mem _ (List.mem_cons_of_mem _ (List.mem_cons_of_mem _ (List.mem_cons_of_mem _ (List.mem_cons_of_mem _ (List.mem_cons_of_mem _ List.mem_cons_self))))))) (hB _ (List.mem_cons_of_mem _ (List.mem_cons_of_mem _ (List.mem_cons_of_mem _ (List.mem_cons_of_mem _ (List.mem_cons_of_mem _ (List.mem_cons_of_mem _ (List.mem_cons_of_mem _ List.mem_cons_self)))))))) (hB _ (List.mem_cons_of_mem _ (List.mem_cons_of_mem _ (List.mem_cons_of_mem _ (List.mem_cons_of_mem _ (List.mem_cons_of_mem _ (List.mem_cons_of_mem _ (List.mem_cons_of_mem _ (List.mem_cons_of_mem _ List.mem_cons_self))))))))) (cvp 16 (x' := (10496 * (ρ 0) + 164 * (ρ 1) + 4 * (ρ 2) + (ρ 3))) (y' := ((ρ 8))) (by show 0 + (10496 * ρ 0 + (164 * ρ 1 + (4 * ρ 2 + (1 * ρ 3 + 0)))) = _; omega) (by show 0 + (1 * ρ 8 + 0) = _; omega) (hm _ List.mem_cons_self)) (cvm (c := 61) (by decide) (x' := (36 : Int)) (y' := ((ρ 5))) (by show 36 + 0 = _; omega) (by show 0 + (1 * ρ 5 + 0) = _; omega) (hm _ (List.mem_cons_of_mem _ List.mem_cons_self))) (cvm (c := 61) (by decide) (x' := (37 : Int)) (y' := ((ρ 4))) (by show 37 + 0 = _; omega) (by show 0 + (1 * ρ 4 + 0) = _; omega) (hm _ (List.mem_cons_of_mem _ (List.mem_cons_of_mem _ List.mem_cons_self)))) (cvm (c := 61) (by decide) (x' := (38 : Int)) (y' := ((ρ 6))) (by show 38 + 0 = _; omega) (by show 0 + (1 * ρ 6 + 0) = _; omega) (hm _ (List.mem_cons_of_mem _ (List.mem_cons_of_mem _ (List.mem_cons_of_mem _ List.mem_cons_self))))) (cvp 19 (x' := ((ρ 3) + 4 * (ρ 5))) (y' := ((ρ 7))) (by show 0 + (1 * ρ 3 + (4 * ρ 5 + 0)) = _; omega) (by show 0 + (1 * ρ 7 + 0) = _; omega) (hm _ (List.mem_cons_of_mem _ (List.mem_cons_of_mem _ (List.mem_cons_of_mem _ (List.mem_cons_of_mem _ List.mem_cons_self)))))) hG
  obtain ⟨k0, -⟩ := H
  exact ⟨_, List.mem_cons_self, ρ, fun _ _ => rfl, (okM_c (pvp 14 (by show 0 + (10496 * ρ 0 + (164 * ρ 1 + (4 * ρ 2 + (1 * ρ 3 + 0)))) = _; omega) (by show 0 + (10496 * ρ 4 + (164 * ρ 5 + (4 * ρ 6 + (1 * ρ 7 + 0)))) = _; omega) k0) okM_n), okB_n, okF_n⟩
-- dpw1
theorem cr_60 (M : pM) (s0 s1 s2 s3 s4 s5 s6 : Int) (b0 : 0 ≤ s0 ∧ s0 ≤ 36) (b1 : 0 ≤ s1 ∧ s1 ≤ 63) (b2 : 0 ≤ s2 ∧ s2 ≤ 40) (b3 : 0 ≤ s3 ∧ s3 ≤ 3) (b4 : 388352 ≤ s4 ∧ s4 ≤ 388352) (b5 : 0 ≤ s5 ∧ s5 ≤ 3) (b6 : 0 ≤ s6 ∧ s6 ≤ 999) (m0 : HP 10 (s4) (0 : Int) M) (m1 : (0 ≤ (40 : Int) ∧ M 61 (40 : Int).toNat = (s5))) (m2 : (0 ≤ (10496 * s0 + 164 * s1 + 4 * s2 + s3) ∧ M 88 (10496 * s0 + 164 * s1 + 4 * s2 + s3).toNat = (s6))) (m3 : HP 20 (10496 * s0 + 164 * s1 + 4 * s2 + s3) (0 : Int) M) (f0 : 0 ≤ ((-1) * s3 + s5)) (hG : gI M) : (∃ t0 : Int, 0 ≤ t0 ∧ t0 ≤ 24 ∧ HP 18 (10496 * s0 + 164 * s1 + 4 * s2 + s3) (t0) M ∧ True) := by
  have e0 : s4 = 388352 := by omega
  subst e0
  have e1 : M 61 40 = s5 := m1.2
  have hr : rng s0 s1 s2 s3 := ⟨b0, b1, b2, b3⟩
  have hg := m0 (by omega) s0 s1 s2 s3 hr (by omega) (by omega)
  have m2 : M 88 (spo s0 s1 s2 s3).toNat = s6 := m2.2
  rcases hg with q | q | ⟨m, y, q1, q2, q3, q4⟩
  · exact absurd q (m3 s0 s1 s2 s3 hr rfl)
  · omega
  · exact ⟨m, q1, q2, ⟨s0, s1, s2, s3, hr, rfl, q1, q2, y, q3, q4⟩, trivial⟩
theorem rul_60 : Rul r_60 := by
  refine ⟨fun _ ρ M hm hB hF hG => ?_, fun gi gv hg => (by cases hg)⟩
  have H := cr_60 M (ρ 0) (ρ 1) (ρ 2) (ρ 3) (ρ 4) (ρ 5) (ρ 6) (hB _ List.mem_cons_self) (hB _ (List.mem_cons_of_mem _ List.mem_cons_self)) (hB _ (List.mem_cons_of_mem _ (List.mem_cons_of_mem _ List.mem_cons_self))) (hB _ (List.mem_cons_of_mem _ (List.mem_cons_of_mem _ (List.mem_cons_of_mem _ List.mem_cons_self)))) (hB _ (List.mem_cons_of_mem _ (List.mem_cons_of_mem _ (List.mem_cons_of_mem _ (List.mem_cons_of_mem _ List.mem_cons_self))))) (hB _ (List.mem_cons_of_mem _ (List.mem_cons_of_mem _ (List.mem_cons_of_mem _ (List.mem_cons_of_mem _ (List.mem_cons_of_mem _ List.mem_cons_self)))))) (hB _ (List.mem_cons_of_mem _ (List.mem_cons_of_mem _ (List.mem_cons_of_mem _ (List.mem_cons_of_mem _ (List.mem_cons_of_mem _ (List.mem_cons_of_mem _ List.mem_cons_self))))))) (cvp 10 (x' := ((ρ 4))) (y' := (0 : Int)) (by show 0 + (1 * ρ 4 + 0) = _; omega) (by show 0 + 0 = _; omega) (hm _ List.mem_cons_self)) (cvm (c := 61) (by decide) (x' := (40 : Int)) (y' := ((ρ 5))) (by show 40 + 0 = _; omega) (by show 0 + (1 * ρ 5 + 0) = _; omega) (hm _ (List.mem_cons_of_mem _ List.mem_cons_self))) (cvm (c := 88) (by decide) (x' := (10496 * (ρ 0) + 164 * (ρ 1) + 4 * (ρ 2) + (ρ 3))) (y' := ((ρ 6))) (by show 0 + (10496 * ρ 0 + (164 * ρ 1 + (4 * ρ 2 + (1 * ρ 3 + 0)))) = _; omega) (by show 0 + (1 * ρ 6 + 0) = _; omega) (hm _ (List.mem_cons_of_mem _ (List.mem_cons_of_mem _ List.mem_cons_self)))) (cvp 20 (x' := (10496 * (ρ 0) + 164 * (ρ 1) + 4 * (ρ 2) + (ρ 3))) (y' := (0 : Int)) (by show 0 + (10496 * ρ 0 + (164 * ρ 1 + (4 * ρ 2 + (1 * ρ 3 + 0)))) = _; omega) (by show 0 + 0 = _; omega) (hm _ (List.mem_cons_of_mem _ (List.mem_cons_of_mem _ (List.mem_cons_of_mem _ List.mem_cons_self))))) (by have h := hF _ List.mem_cons_self; have h : 0 ≤ 0 + ((-1) * ρ 3 + (1 * ρ 5 + 0)) := h; omega) hG
  obtain ⟨t0, u0, v0, k0, -⟩ := H
  obtain ⟨ρ', ha, a0, a1, a2, a3, a4, a5, a6, a7⟩ : ∃ ρ' : Nat → Int, agr 7 ρ ρ' ∧ ρ' 0 = ρ 0 ∧ ρ' 1 = ρ 1 ∧ ρ' 2 = ρ 2 ∧ ρ' 3 = ρ 3 ∧ ρ' 4 = ρ 4 ∧ ρ' 5 = ρ 5 ∧ ρ' 6 = ρ 6 ∧ ρ' 7 = t0 := ⟨fun s => if s = 7 then t0 else ρ s, fun s hs => by show (if s = 7 then t0 else ρ s) = _; rw [if_neg (by omega)], rfl, rfl, rfl, rfl, rfl, rfl, rfl, rfl⟩
  exact ⟨_, List.mem_cons_self, ρ', ha, (okM_c (pvp 18 (by show 0 + (10496 * ρ' 0 + (164 * ρ' 1 + (4 * ρ' 2 + (1 * ρ' 3 + 0)))) = _; omega) (by show 0 + (1 * ρ' 7 + 0) = _; omega) k0) okM_n), (okB_c (by omega) okB_n), okF_n⟩
-- c01
theorem cr_61 (M : pM) (s0 : Int) (b0 : 0 ≤ s0 ∧ s0 ≤ 1) (hG : gI M) : (0 ≤ ((-1) * s0) ∧ 0 ≤ (s0) ∧ True) ∨ (0 ≤ ((-1) * s0 + 1) ∧ 0 ≤ (s0 - 1) ∧ True) := by
  by_cases h : s0 = 0
  · exact Or.inl ⟨by omega, by omega, trivial⟩
  · exact Or.inr ⟨by omega, by omega, trivial⟩
theorem rul_61 : Rul r_61 := by
  refine ⟨fun _ ρ M hm hB hF hG => ?_, fun gi gv hg => (by cases hg)⟩
  have H := cr_61 M (ρ 0) (hB _ List.mem_cons_self) hG
  rcases H with H | H
  · skip
    obtain ⟨f0, f1, -⟩ := H
    exact ⟨_, List.mem_cons_self, ρ, fun _ _ => rfl, okM_n, okB_n, (okF_c (by show 0 ≤ 0 + ((-1) * ρ 0 + 0); omega) (okF_c (by show 0 ≤ 0 + (1 * ρ 0 + 0); omega) okF_n))⟩
  · skip
    obtain ⟨f0, f1, -⟩ := H
    exact ⟨_, (List.mem_cons_of_mem _ List.mem_cons_self), ρ, fun _ _ => rfl, okM_n, okB_n, (okF_c (by show 0 ≤ 1 + ((-1) * ρ 0 + 0); omega) (okF_c (by show 0 ≤ (-1) + (1 * ρ 0 + 0); omega) okF_n))⟩
-- ar1
theorem cr_62 (M : pM)  (hG : gI M) : (HP 26 (1 : Int) (0 : Int) M ∧ True) := by
  refine ⟨⟨by omega, by omega, ?_⟩, trivial⟩
  show (0 : Int) = ((if M 95 0 < M 95 0 then 0 else 0 : Nat) : Int)
  split <;> rfl
theorem rul_62 : Rul r_62 := by
  refine ⟨fun _ ρ M hm hB hF hG => ?_, fun gi gv hg => (by cases hg)⟩
  have H := cr_62 M hG
  obtain ⟨k0, -⟩ := H
  exact ⟨_, List.mem_cons_self, ρ, fun _ _ => rfl, (okM_c (pvp 26 (by show 1 + 0 = _; omega) (by show 0 + 0 = _; omega) k0) okM_n), okB_n, okF_n⟩
-- ac1
theorem cr_63 (M : pM)  (hG : gI M) : (HP 27 (1 : Int) (0 : Int) M ∧ True) := by
  refine ⟨⟨by omega, by omega, ?_⟩, trivial⟩
  show (0 : Int) = ((if M 36 0 < M 36 0 then 0 else 0 : Nat) : Int)
  split <;> rfl
theorem rul_63 : Rul r_63 := by
  refine ⟨fun _ ρ M hm hB hF hG => ?_, fun gi gv hg => (by cases hg)⟩
  have H := cr_63 M hG
  obtain ⟨k0, -⟩ := H
  exact ⟨_, List.mem_cons_self, ρ, fun _ _ => rfl, (okM_c (pvp 27 (by show 1 + 0 = _; omega) (by show 0 + 0 = _; omega) k0) okM_n), okB_n, okF_n⟩
-- arn
theorem cr_64 (M : pM) (s0 s1 s2 s3 : Int) (b0 : 1 ≤ s0 ∧ s0 ≤ 3) (b1 : 0 ≤ s1 ∧ s1 ≤ 2) (b2 : (-2147483648) ≤ s2 ∧ s2 ≤ 2147483647) (b3 : (-2147483648) ≤ s3 ∧ s3 ≤ 2147483647) (m0 : HP 26 (s0) (s1) M) (m1 : (0 ≤ (s0) ∧ M 95 (s0).toNat = (s2))) (m2 : (0 ≤ (s1) ∧ M 95 (s1).toNat = (s3))) (hG : gI M) : (HP 26 (s0 + 1) (s0) M ∧ 0 ≤ ((-1) * s2 + s3 - 1) ∧ True) ∨ (HP 26 (s0 + 1) (s1) M ∧ 0 ≤ (s2 + (-1) * s3) ∧ True) := by
  obtain ⟨a1, a2, a3⟩ := m0
  have e1 : M 95 s0.toNat = s2 := m1.2
  have e2 : M 95 s1.toNat = s3 := m2.2
  have e3 : s1.toNat = fl1 (M 95) s0.toNat := by omega
  have e4 : fl1 (M 95) (s0 + 1).toNat = (if s2 < s3 then s0.toNat else s1.toNat) := by
    rw [show (s0 + 1).toNat = s0.toNat + 1 by omega]
    show (if M 95 s0.toNat < M 95 (fl1 (M 95) s0.toNat) then s0.toNat else fl1 (M 95) s0.toNat) = _
    rw [← e3, e1, e2]
  by_cases h : s2 < s3
  · rw [if_pos h] at e4
    exact Or.inl ⟨⟨by omega, by omega, by rw [e4]; omega⟩, by omega, trivial⟩
  · rw [if_neg h] at e4
    exact Or.inr ⟨⟨by omega, by omega, by rw [e4]; omega⟩, by omega, trivial⟩
theorem rul_64 : Rul r_64 := by
  refine ⟨fun _ ρ M hm hB hF hG => ?_, fun gi gv hg => (by cases hg)⟩
  have H := cr_64 M (ρ 0) (ρ 1) (ρ 2) (ρ 3) (hB _ List.mem_cons_self) (hB _ (List.mem_cons_of_mem _ List.mem_cons_self)) (hB _ (List.mem_cons_of_mem _ (List.mem_cons_of_mem _ List.mem_cons_self))) (hB _ (List.mem_cons_of_mem _ (List.mem_cons_of_mem _ (List.mem_cons_of_mem _ List.mem_cons_self)))) (cvp 26 (x' := ((ρ 0))) (y' := ((ρ 1))) (by show 0 + (1 * ρ 0 + 0) = _; omega) (by show 0 + (1 * ρ 1 + 0) = _; omega) (hm _ List.mem_cons_self)) (cvm (c := 95) (by decide) (x' := ((ρ 0))) (y' := ((ρ 2))) (by show 0 + (1 * ρ 0 + 0) = _; omega) (by show 0 + (1 * ρ 2 + 0) = _; omega) (hm _ (List.mem_cons_of_mem _ List.mem_cons_self))) (cvm (c := 95) (by decide) (x' := ((ρ 1))) (y' := ((ρ 3))) (by show 0 + (1 * ρ 1 + 0) = _; omega) (by show 0 + (1 * ρ 3 + 0) = _; omega) (hm _ (List.mem_cons_of_mem _ (List.mem_cons_of_mem _ List.mem_cons_self)))) hG
  rcases H with H | H
  · skip
    obtain ⟨k0, f0, -⟩ := H
    exact ⟨_, List.mem_cons_self, ρ, fun _ _ => rfl, (okM_c (pvp 26 (by show 1 + (1 * ρ 0 + 0) = _; omega) (by show 0 + (1 * ρ 0 + 0) = _; omega) k0) okM_n), okB_n, (okF_c (by show 0 ≤ (-1) + ((-1) * ρ 2 + (1 * ρ 3 + 0)); omega) okF_n)⟩
  · skip
    obtain ⟨k0, f0, -⟩ := H
    exact ⟨_, (List.mem_cons_of_mem _ List.mem_cons_self), ρ, fun _ _ => rfl, (okM_c (pvp 26 (by show 1 + (1 * ρ 0 + 0) = _; omega) (by show 0 + (1 * ρ 1 + 0) = _; omega) k0) okM_n), okB_n, (okF_c (by show 0 ≤ 0 + (1 * ρ 2 + ((-1) * ρ 3 + 0)); omega) okF_n)⟩
-- acn
theorem cr_65 (M : pM) (s0 s1 s2 s3 : Int) (b0 : 1 ≤ s0 ∧ s0 ≤ 3) (b1 : 0 ≤ s1 ∧ s1 ≤ 2) (b2 : (-2147483648) ≤ s2 ∧ s2 ≤ 2147483647) (b3 : (-2147483648) ≤ s3 ∧ s3 ≤ 2147483647) (m0 : HP 27 (s0) (s1) M) (m1 : (0 ≤ (s0) ∧ M 36 (s0).toNat = (s2))) (m2 : (0 ≤ (s1) ∧ M 36 (s1).toNat = (s3))) (hG : gI M) : (HP 27 (s0 + 1) (s0) M ∧ 0 ≤ ((-1) * s2 + s3 - 1) ∧ True) ∨ (HP 27 (s0 + 1) (s1) M ∧ 0 ≤ (s2 + (-1) * s3) ∧ True) := by
  obtain ⟨a1, a2, a3⟩ := m0
  have e1 : M 36 s0.toNat = s2 := m1.2
  have e2 : M 36 s1.toNat = s3 := m2.2
  have e3 : s1.toNat = fl1 (M 36) s0.toNat := by omega
  have e4 : fl1 (M 36) (s0 + 1).toNat = (if s2 < s3 then s0.toNat else s1.toNat) := by
    rw [show (s0 + 1).toNat = s0.toNat + 1 by omega]
    show (if M 36 s0.toNat < M 36 (fl1 (M 36) s0.toNat) then s0.toNat else fl1 (M 36) s0.toNat) = _
    rw [← e3, e1, e2]
  by_cases h : s2 < s3
  · rw [if_pos h] at e4
    exact Or.inl ⟨⟨by omega, by omega, by rw [e4]; omega⟩, by omega, trivial⟩
  · rw [if_neg h] at e4
    exact Or.inr ⟨⟨by omega, by omega, by rw [e4]; omega⟩, by omega, trivial⟩
theorem rul_65 : Rul r_65 := by
  refine ⟨fun _ ρ M hm hB hF hG => ?_, fun gi gv hg => (by cases hg)⟩
  have H := cr_65 M (ρ 0) (ρ 1) (ρ 2) (ρ 3) (hB _ List.mem_cons_self) (hB _ (List.mem_cons_of_mem _ List.mem_cons_self)) (hB _ (List.mem_cons_of_mem _ (List.mem_cons_of_mem _ List.mem_cons_self))) (hB _ (List.mem_cons_of_mem _ (List.mem_cons_of_mem _ (List.mem_cons_of_mem _ List.mem_cons_self)))) (cvp 27 (x' := ((ρ 0))) (y' := ((ρ 1))) (by show 0 + (1 * ρ 0 + 0) = _; omega) (by show 0 + (1 * ρ 1 + 0) = _; omega) (hm _ List.mem_cons_self)) (cvm (c := 36) (by decide) (x' := ((ρ 0))) (y' := ((ρ 2))) (by show 0 + (1 * ρ 0 + 0) = _; omega) (by show 0 + (1 * ρ 2 + 0) = _; omega) (hm _ (List.mem_cons_of_mem _ List.mem_cons_self))) (cvm (c := 36) (by decide) (x' := ((ρ 1))) (y' := ((ρ 3))) (by show 0 + (1 * ρ 1 + 0) = _; omega) (by show 0 + (1 * ρ 3 + 0) = _; omega) (hm _ (List.mem_cons_of_mem _ (List.mem_cons_of_mem _ List.mem_cons_self)))) hG
  rcases H with H | H
  · skip
    obtain ⟨k0, f0, -⟩ := H
    exact ⟨_, List.mem_cons_self, ρ, fun _ _ => rfl, (okM_c (pvp 27 (by show 1 + (1 * ρ 0 + 0) = _; omega) (by show 0 + (1 * ρ 0 + 0) = _; omega) k0) okM_n), okB_n, (okF_c (by show 0 ≤ (-1) + ((-1) * ρ 2 + (1 * ρ 3 + 0)); omega) okF_n)⟩
  · skip
    obtain ⟨k0, f0, -⟩ := H
    exact ⟨_, (List.mem_cons_of_mem _ List.mem_cons_self), ρ, fun _ _ => rfl, (okM_c (pvp 27 (by show 1 + (1 * ρ 0 + 0) = _; omega) (by show 0 + (1 * ρ 1 + 0) = _; omega) k0) okM_n), okB_n, (okF_c (by show 0 ≤ 0 + (1 * ρ 2 + ((-1) * ρ 3 + 0)); omega) okF_n)⟩
-- acx
theorem cr_66 (M : pM) (s0 s1 s2 : Int) (b0 : 1 ≤ s0 ∧ s0 ≤ 4) (b1 : 1 ≤ s1 ∧ s1 ≤ 4) (b2 : 0 ≤ s2 ∧ s2 ≤ 3) (m0 : HP 27 (s0) (s2) M) (f0 : 0 ≤ ((-1) * s0 + s1)) (f1 : 0 ≤ (s0 + (-1) * s1)) (hG : gI M) : (HP 27 (s1) (s2) M ∧ True) := by
  have e : s1 = s0 := by omega
  subst e
  exact ⟨m0, trivial⟩
theorem rul_66 : Rul r_66 := by
  refine ⟨fun _ ρ M hm hB hF hG => ?_, fun gi gv hg => (by cases hg)⟩
  have H := cr_66 M (ρ 0) (ρ 1) (ρ 2) (hB _ List.mem_cons_self) (hB _ (List.mem_cons_of_mem _ List.mem_cons_self)) (hB _ (List.mem_cons_of_mem _ (List.mem_cons_of_mem _ List.mem_cons_self))) (cvp 27 (x' := ((ρ 0))) (y' := ((ρ 2))) (by show 0 + (1 * ρ 0 + 0) = _; omega) (by show 0 + (1 * ρ 2 + 0) = _; omega) (hm _ List.mem_cons_self)) (by have h := hF _ List.mem_cons_self; have h : 0 ≤ 0 + ((-1) * ρ 0 + (1 * ρ 1 + 0)) := h; omega) (by have h := hF _ (List.mem_cons_of_mem _ List.mem_cons_self); have h : 0 ≤ 0 + (1 * ρ 0 + ((-1) * ρ 1 + 0)) := h; omega) hG
  obtain ⟨k0, -⟩ := H
  exact ⟨_, List.mem_cons_self, ρ, fun _ _ => rfl, (okM_c (pvp 27 (by show 0 + (1 * ρ 1 + 0) = _; omega) (by show 0 + (1 * ρ 2 + 0) = _; omega) k0) okM_n), okB_n, okF_n⟩
-- arx
theorem cr_67 (M : pM) (s0 s1 s2 : Int) (b0 : 1 ≤ s0 ∧ s0 ≤ 4) (b1 : 1 ≤ s1 ∧ s1 ≤ 4) (b2 : 0 ≤ s2 ∧ s2 ≤ 3) (m0 : HP 26 (s0) (s2) M) (f0 : 0 ≤ ((-1) * s0 + s1)) (f1 : 0 ≤ (s0 + (-1) * s1)) (hG : gI M) : (HP 26 (s1) (s2) M ∧ True) := by
  have e : s1 = s0 := by omega
  subst e
  exact ⟨m0, trivial⟩
theorem rul_67 : Rul r_67 := by
  refine ⟨fun _ ρ M hm hB hF hG => ?_, fun gi gv hg => (by cases hg)⟩
  have H := cr_67 M (ρ 0) (ρ 1) (ρ 2) (hB _ List.mem_cons_self) (hB _ (List.mem_cons_of_mem _ List.mem_cons_self)) (hB _ (List.mem_cons_of_mem _ (List.mem_cons_of_mem _ List.mem_cons_self))) (cvp 26 (x' := ((ρ 0))) (y' := ((ρ 2))) (by show 0 + (1 * ρ 0 + 0) = _; omega) (by show 0 + (1 * ρ 2 + 0) = _; omega) (hm _ List.mem_cons_self)) (by have h := hF _ List.mem_cons_self; have h : 0 ≤ 0 + ((-1) * ρ 0 + (1 * ρ 1 + 0)) := h; omega) (by have h := hF _ (List.mem_cons_of_mem _ List.mem_cons_self); have h : 0 ≤ 0 + (1 * ρ 0 + ((-1) * ρ 1 + 0)) := h; omega) hG
  obtain ⟨k0, -⟩ := H
  exact ⟨_, List.mem_cons_self, ρ, fun _ _ => rfl, (okM_c (pvp 26 (by show 0 + (1 * ρ 1 + 0) = _; omega) (by show 0 + (1 * ρ 2 + 0) = _; omega) k0) okM_n), okB_n, okF_n⟩
-- ubx
theorem cr_68 (M : pM) (s0 s1 : Int) (b0 : 0 ≤ s0 ∧ s0 ≤ 30) (b1 : 0 ≤ s1 ∧ s1 ≤ 30) (m0 : HP 24 (s0) (0 : Int) M) (f0 : 0 ≤ ((-1) * s0 + s1)) (f1 : 0 ≤ (s0 + (-1) * s1)) (hG : gI M) : (HP 24 (s1) (0 : Int) M ∧ True) := by
  have e : s1 = s0 := by omega
  subst e
  exact ⟨m0, trivial⟩
theorem rul_68 : Rul r_68 := by
  refine ⟨fun _ ρ M hm hB hF hG => ?_, fun gi gv hg => (by cases hg)⟩
  have H := cr_68 M (ρ 0) (ρ 1) (hB _ List.mem_cons_self) (hB _ (List.mem_cons_of_mem _ List.mem_cons_self)) (cvp 24 (x' := ((ρ 0))) (y' := (0 : Int)) (by show 0 + (1 * ρ 0 + 0) = _; omega) (by show 0 + 0 = _; omega) (hm _ List.mem_cons_self)) (by have h := hF _ List.mem_cons_self; have h : 0 ≤ 0 + ((-1) * ρ 0 + (1 * ρ 1 + 0)) := h; omega) (by have h := hF _ (List.mem_cons_of_mem _ List.mem_cons_self); have h : 0 ≤ 0 + (1 * ρ 0 + ((-1) * ρ 1 + 0)) := h; omega) hG
  obtain ⟨k0, -⟩ := H
  exact ⟨_, List.mem_cons_self, ρ, fun _ _ => rfl, (okM_c (pvp 24 (by show 0 + (1 * ρ 1 + 0) = _; omega) (by show 0 + 0 = _; omega) k0) okM_n), okB_n, okF_n⟩
-- fs0
theorem cr_69 (M : pM) (m0 : (0 ≤ (0 : Int) ∧ M 95 (0 : Int).toNat = (0 : Int))) (m1 : (0 ≤ (1 : Int) ∧ M 95 (1 : Int).toNat = (0 : Int))) (m2 : (0 ≤ (2 : Int) ∧ M 95 (2 : Int).toNat = (0 : Int))) (m3 : (0 ≤ (3 : Int) ∧ M 95 (3 : Int).toNat = (0 : Int))) (m4 : (0 ≤ (4 : Int) ∧ M 95 (4 : Int).toNat = (0 : Int))) (hG : gI M) : (HP 22 (0 : Int) (0 : Int) M ∧ True) := by
  refine ⟨⟨by omega, by omega, fun k hk => ?_⟩, trivial⟩
  match k, hk with
  | 0, _ => exact m0.2
  | 1, _ => exact m1.2
  | 2, _ => exact m2.2
  | 3, _ => exact m3.2
  | 4, _ => exact m4.2
  | k + 5, hk => omega
theorem rul_69 : Rul r_69 := by
  refine ⟨fun _ ρ M hm hB hF hG => ?_, fun gi gv hg => (by cases hg)⟩
  have H := cr_69 M (cvm (c := 95) (by decide) (x' := (0 : Int)) (y' := (0 : Int)) (by show 0 + 0 = _; omega) (by show 0 + 0 = _; omega) (hm _ List.mem_cons_self)) (cvm (c := 95) (by decide) (x' := (1 : Int)) (y' := (0 : Int)) (by show 1 + 0 = _; omega) (by show 0 + 0 = _; omega) (hm _ (List.mem_cons_of_mem _ List.mem_cons_self))) (cvm (c := 95) (by decide) (x' := (2 : Int)) (y' := (0 : Int)) (by show 2 + 0 = _; omega) (by show 0 + 0 = _; omega) (hm _ (List.mem_cons_of_mem _ (List.mem_cons_of_mem _ List.mem_cons_self)))) (cvm (c := 95) (by decide) (x' := (3 : Int)) (y' := (0 : Int)) (by show 3 + 0 = _; omega) (by show 0 + 0 = _; omega) (hm _ (List.mem_cons_of_mem _ (List.mem_cons_of_mem _ (List.mem_cons_of_mem _ List.mem_cons_self))))) (cvm (c := 95) (by decide) (x' := (4 : Int)) (y' := (0 : Int)) (by show 4 + 0 = _; omega) (by show 0 + 0 = _; omega) (hm _ (List.mem_cons_of_mem _ (List.mem_cons_of_mem _ (List.mem_cons_of_mem _ (List.mem_cons_of_mem _ List.mem_cons_self)))))) hG
  obtain ⟨k0, -⟩ := H
  exact ⟨_, List.mem_cons_self, ρ, fun _ _ => rfl, (okM_c (pvp 22 (by show 0 + 0 = _; omega) (by show 0 + 0 = _; omega) k0) okM_n), okB_n, okF_n⟩
-- pf0
theorem cr_70 (M : pM) (m0 : (0 ≤ (0 : Int) ∧ M 36 (0 : Int).toNat = (0 : Int))) (m1 : (0 ≤ (1 : Int) ∧ M 36 (1 : Int).toNat = (0 : Int))) (m2 : (0 ≤ (2 : Int) ∧ M 36 (2 : Int).toNat = (0 : Int))) (m3 : (0 ≤ (3 : Int) ∧ M 36 (3 : Int).toNat = (0 : Int))) (hG : gI M) : (HP 23 (0 : Int) (0 : Int) M ∧ True) := by
  refine ⟨⟨by omega, by omega, fun k hk => ?_⟩, trivial⟩
  match k, hk with
  | 0, _ => exact m0.2
  | 1, _ => exact m1.2
  | 2, _ => exact m2.2
  | 3, _ => exact m3.2
  | k + 4, hk => omega
theorem rul_70 : Rul r_70 := by
  refine ⟨fun _ ρ M hm hB hF hG => ?_, fun gi gv hg => (by cases hg)⟩
  have H := cr_70 M (cvm (c := 36) (by decide) (x' := (0 : Int)) (y' := (0 : Int)) (by show 0 + 0 = _; omega) (by show 0 + 0 = _; omega) (hm _ List.mem_cons_self)) (cvm (c := 36) (by decide) (x' := (1 : Int)) (y' := (0 : Int)) (by show 1 + 0 = _; omega) (by show 0 + 0 = _; omega) (hm _ (List.mem_cons_of_mem _ List.mem_cons_self))) (cvm (c := 36) (by decide) (x' := (2 : Int)) (y' := (0 : Int)) (by show 2 + 0 = _; omega) (by show 0 + 0 = _; omega) (hm _ (List.mem_cons_of_mem _ (List.mem_cons_of_mem _ List.mem_cons_self)))) (cvm (c := 36) (by decide) (x' := (3 : Int)) (y' := (0 : Int)) (by show 3 + 0 = _; omega) (by show 0 + 0 = _; omega) (hm _ (List.mem_cons_of_mem _ (List.mem_cons_of_mem _ (List.mem_cons_of_mem _ List.mem_cons_self))))) hG
  obtain ⟨k0, -⟩ := H
  exact ⟨_, List.mem_cons_self, ρ, fun _ _ => rfl, (okM_c (pvp 23 (by show 0 + 0 = _; omega) (by show 0 + 0 = _; omega) k0) okM_n), okB_n, okF_n⟩
-- wv0
theorem cr_71 (M : pM)  (hG : gI M) : (HP 28 (0 : Int) (0 : Int) M ∧ True) := by
  exact ⟨⟨by omega, by omega, rfl⟩, trivial⟩
theorem rul_71 : Rul r_71 := by
  refine ⟨fun _ ρ M hm hB hF hG => ?_, fun gi gv hg => (by cases hg)⟩
  have H := cr_71 M hG
  obtain ⟨k0, -⟩ := H
  exact ⟨_, List.mem_cons_self, ρ, fun _ _ => rfl, (okM_c (pvp 28 (by show 0 + 0 = _; omega) (by show 0 + 0 = _; omega) k0) okM_n), okB_n, okF_n⟩
-- cb0
theorem cr_72 (M : pM)  (hG : gI M) : (HP 25 (0 : Int) (0 : Int) M ∧ True) := by
  exact ⟨⟨by omega, by omega, fun v hv => absurd hv (Nat.not_lt_zero v)⟩, trivial⟩
theorem rul_72 : Rul r_72 := by
  refine ⟨fun _ ρ M hm hB hF hG => ?_, fun gi gv hg => (by cases hg)⟩
  have H := cr_72 M hG
  obtain ⟨k0, -⟩ := H
  exact ⟨_, List.mem_cons_self, ρ, fun _ _ => rfl, (okM_c (pvp 25 (by show 0 + 0 = _; omega) (by show 0 + 0 = _; omega) k0) okM_n), okB_n, okF_n⟩
-- ub0
theorem cr_73 (M : pM)  (hG : gI M) : (HP 24 (0 : Int) (0 : Int) M ∧ True) := by
  exact ⟨⟨by omega, by omega, fun v hv => absurd hv (Nat.not_lt_zero v)⟩, trivial⟩
theorem rul_73 : Rul r_73 := by
  refine ⟨fun _ ρ M hm hB hF hG => ?_, fun gi gv hg => (by cases hg)⟩
  have H := cr_73 M hG
  obtain ⟨k0, -⟩ := H
  exact ⟨_, List.mem_cons_self, ρ, fun _ _ => rfl, (okM_c (pvp 24 (by show 0 + 0 = _; omega) (by show 0 + 0 = _; omega) k0) okM_n), okB_n, okF_n⟩
-- cbw37
theorem cr_74 (M : pM) (s0 s1 : Int) (b0 : 0 ≤ s0 ∧ s0 ≤ 29) (b1 : (-2147483648) ≤ s1 ∧ s1 ≤ 2147483647) (m0 : HP 25 (s0) (0 : Int) M) (hG : gI M) : (HP 25 (s0) (0 : Int) (st M 37 (s0).toNat (s1)) ∧ True) := by
  obtain ⟨a1, a2, a3⟩ := m0
  refine ⟨⟨a1, a2, fun v hv => ?_⟩, trivial⟩
  have hF : lF (st M 37 s0.toNat s1) v = lF M v := lF_s (by decide) (fun k _ h => absurd h.1 (by decide)) (fun k _ h => absurd h.1 (by decide))
  unfold cbo
  rw [hF, sq_o (a := 94) (b := v) (fun h => absurd h.1 (by decide)), sq_o (a := 91) (b := v) (fun h => absurd h.1 (by decide)), sq_o (a := 61) (b := 54) (fun h => absurd h.1 (by decide)), sq_o (a := 61) (b := 53) (fun h => absurd h.1 (by decide)), sq_o (a := 61) (b := 55) (fun h => absurd h.1 (by decide)), sq_o (a := 37) (fun h => by omega), sq_o (a := 38) (fun h => by omega), sq_o (a := 39) (fun h => by omega)]
  exact a3 v hv
theorem rul_74 : Rul r_74 := by
  refine ⟨fun h => (by cases h), fun gi gv hg ρ M hm hB hF hG => ?_⟩
  obtain ⟨g1, g2⟩ := List.cons.inj (show ([aI ((0 : Int), ([(0, 1)] : List (Nat × Int))), aI ((0 : Int), ([(1, 1)] : List (Nat × Int)))] : List av) = [.inl gi, .inl gv] from hg)
  obtain ⟨g2, -⟩ := List.cons.inj g2
  cases g1
  cases g2
  have ei : ev ρ ((0 : Int), ([(0, 1)] : List (Nat × Int))) = ((ρ 0)) := by show 0 + (1 * ρ 0 + 0) = _; omega
  have ew : ev ρ ((0 : Int), ([(1, 1)] : List (Nat × Int))) = ((ρ 1)) := by show 0 + (1 * ρ 1 + 0) = _; omega
  rw [show (st M (ctj r_74) (ev ρ ((0 : Int), ([(0, 1)] : List (Nat × Int)))).toNat (ev ρ ((0 : Int), ([(1, 1)] : List (Nat × Int))))) = (st M 37 ((ρ 0)).toNat ((ρ 1))) from by rw [ei, ew]; rfl]
  have H := cr_74 M (ρ 0) (ρ 1) (hB _ List.mem_cons_self) (hB _ (List.mem_cons_of_mem _ List.mem_cons_self)) (cvp 25 (x' := ((ρ 0))) (y' := (0 : Int)) (by show 0 + (1 * ρ 0 + 0) = _; omega) (by show 0 + 0 = _; omega) (hm _ List.mem_cons_self)) hG
  obtain ⟨k0, -⟩ := H
  exact ⟨_, List.mem_cons_self, ρ, fun _ _ => rfl, (okM_c (pvp 25 (by show 0 + (1 * ρ 0 + 0) = _; omega) (by show 0 + 0 = _; omega) k0) okM_n), okB_n, okF_n⟩
-- cbw38
theorem cr_75 (M : pM) (s0 s1 : Int) (b0 : 0 ≤ s0 ∧ s0 ≤ 29) (b1 : (-2147483648) ≤ s1 ∧ s1 ≤ 2147483647) (m0 : HP 25 (s0) (0 : Int) M) (hG : gI M) : (HP 25 (s0) (0 : Int) (st M 38 (s0).toNat (s1)) ∧ True) := by
  obtain ⟨a1, a2, a3⟩ := m0
  refine ⟨⟨a1, a2, fun v hv => ?_⟩, trivial⟩
  have hF : lF (st M 38 s0.toNat s1) v = lF M v := lF_s (by decide) (fun k _ h => absurd h.1 (by decide)) (fun k _ h => absurd h.1 (by decide))
  unfold cbo
  rw [hF, sq_o (a := 94) (b := v) (fun h => absurd h.1 (by decide)), sq_o (a := 91) (b := v) (fun h => absurd h.1 (by decide)), sq_o (a := 61) (b := 54) (fun h => absurd h.1 (by decide)), sq_o (a := 61) (b := 53) (fun h => absurd h.1 (by decide)), sq_o (a := 61) (b := 55) (fun h => absurd h.1 (by decide)), sq_o (a := 37) (fun h => by omega), sq_o (a := 38) (fun h => by omega), sq_o (a := 39) (fun h => by omega)]
  exact a3 v hv
theorem rul_75 : Rul r_75 := by
  refine ⟨fun h => (by cases h), fun gi gv hg ρ M hm hB hF hG => ?_⟩
  obtain ⟨g1, g2⟩ := List.cons.inj (show ([aI ((0 : Int), ([(0, 1)] : List (Nat × Int))), aI ((0 : Int), ([(1, 1)] : List (Nat × Int)))] : List av) = [.inl gi, .inl gv] from hg)
  obtain ⟨g2, -⟩ := List.cons.inj g2
  cases g1
  cases g2
  have ei : ev ρ ((0 : Int), ([(0, 1)] : List (Nat × Int))) = ((ρ 0)) := by show 0 + (1 * ρ 0 + 0) = _; omega
  have ew : ev ρ ((0 : Int), ([(1, 1)] : List (Nat × Int))) = ((ρ 1)) := by show 0 + (1 * ρ 1 + 0) = _; omega
  rw [show (st M (ctj r_75) (ev ρ ((0 : Int), ([(0, 1)] : List (Nat × Int)))).toNat (ev ρ ((0 : Int), ([(1, 1)] : List (Nat × Int))))) = (st M 38 ((ρ 0)).toNat ((ρ 1))) from by rw [ei, ew]; rfl]
  have H := cr_75 M (ρ 0) (ρ 1) (hB _ List.mem_cons_self) (hB _ (List.mem_cons_of_mem _ List.mem_cons_self)) (cvp 25 (x' := ((ρ 0))) (y' := (0 : Int)) (by show 0 + (1 * ρ 0 + 0) = _; omega) (by show 0 + 0 = _; omega) (hm _ List.mem_cons_self)) hG
  obtain ⟨k0, -⟩ := H
  exact ⟨_, List.mem_cons_self, ρ, fun _ _ => rfl, (okM_c (pvp 25 (by show 0 + (1 * ρ 0 + 0) = _; omega) (by show 0 + 0 = _; omega) k0) okM_n), okB_n, okF_n⟩
-- cbw39
theorem cr_76 (M : pM) (s0 s1 : Int) (b0 : 0 ≤ s0 ∧ s0 ≤ 29) (b1 : (-2147483648) ≤ s1 ∧ s1 ≤ 2147483647) (m0 : HP 25 (s0) (0 : Int) M) (hG : gI M) : (HP 25 (s0) (0 : Int) (st M 39 (s0).toNat (s1)) ∧ True) := by
  obtain ⟨a1, a2, a3⟩ := m0
  refine ⟨⟨a1, a2, fun v hv => ?_⟩, trivial⟩
  have hF : lF (st M 39 s0.toNat s1) v = lF M v := lF_s (by decide) (fun k _ h => absurd h.1 (by decide)) (fun k _ h => absurd h.1 (by decide))
  unfold cbo
  rw [hF, sq_o (a := 94) (b := v) (fun h => absurd h.1 (by decide)), sq_o (a := 91) (b := v) (fun h => absurd h.1 (by decide)), sq_o (a := 61) (b := 54) (fun h => absurd h.1 (by decide)), sq_o (a := 61) (b := 53) (fun h => absurd h.1 (by decide)), sq_o (a := 61) (b := 55) (fun h => absurd h.1 (by decide)), sq_o (a := 37) (fun h => by omega), sq_o (a := 38) (fun h => by omega), sq_o (a := 39) (fun h => by omega)]
  exact a3 v hv
theorem rul_76 : Rul r_76 := by
  refine ⟨fun h => (by cases h), fun gi gv hg ρ M hm hB hF hG => ?_⟩
  obtain ⟨g1, g2⟩ := List.cons.inj (show ([aI ((0 : Int), ([(0, 1)] : List (Nat × Int))), aI ((0 : Int), ([(1, 1)] : List (Nat × Int)))] : List av) = [.inl gi, .inl gv] from hg)
  obtain ⟨g2, -⟩ := List.cons.inj g2
  cases g1
  cases g2
  have ei : ev ρ ((0 : Int), ([(0, 1)] : List (Nat × Int))) = ((ρ 0)) := by show 0 + (1 * ρ 0 + 0) = _; omega
  have ew : ev ρ ((0 : Int), ([(1, 1)] : List (Nat × Int))) = ((ρ 1)) := by show 0 + (1 * ρ 1 + 0) = _; omega
  rw [show (st M (ctj r_76) (ev ρ ((0 : Int), ([(0, 1)] : List (Nat × Int)))).toNat (ev ρ ((0 : Int), ([(1, 1)] : List (Nat × Int))))) = (st M 39 ((ρ 0)).toNat ((ρ 1))) from by rw [ei, ew]; rfl]
  have H := cr_76 M (ρ 0) (ρ 1) (hB _ List.mem_cons_self) (hB _ (List.mem_cons_of_mem _ List.mem_cons_self)) (cvp 25 (x' := ((ρ 0))) (y' := (0 : Int)) (by show 0 + (1 * ρ 0 + 0) = _; omega) (by show 0 + 0 = _; omega) (hm _ List.mem_cons_self)) hG
  obtain ⟨k0, -⟩ := H
  exact ⟨_, List.mem_cons_self, ρ, fun _ _ => rfl, (okM_c (pvp 25 (by show 0 + (1 * ρ 0 + 0) = _; omega) (by show 0 + 0 = _; omega) k0) okM_n), okB_n, okF_n⟩
-- ubw92
theorem cr_77 (M : pM) (s0 s1 : Int) (b0 : 0 ≤ s0 ∧ s0 ≤ 29) (b1 : (-2147483648) ≤ s1 ∧ s1 ≤ 2147483647) (m0 : HP 24 (s0) (0 : Int) M) (hG : gI M) : (HP 24 (s0) (0 : Int) (st M 92 (s0).toNat (s1)) ∧ True) := by
  obtain ⟨a1, a2, a3⟩ := m0
  refine ⟨⟨a1, a2, fun v hv => ?_⟩, trivial⟩
  have hF : lF (st M 92 s0.toNat s1) v = lF M v := lF_s (by decide) (fun k _ h => absurd h.1 (by decide)) (fun k _ h => absurd h.1 (by decide))
  unfold ubo
  rw [hF, sq_o (a := 94) (b := v) (fun h => absurd h.1 (by decide)), sq_o (a := 91) (b := v) (fun h => absurd h.1 (by decide)), sq_o (a := 61) (b := 54) (fun h => absurd h.1 (by decide)), sq_o (a := 92) (fun h => by omega), sq_o (a := 93) (fun h => by omega)]
  exact a3 v hv
theorem rul_77 : Rul r_77 := by
  refine ⟨fun h => (by cases h), fun gi gv hg ρ M hm hB hF hG => ?_⟩
  obtain ⟨g1, g2⟩ := List.cons.inj (show ([aI ((0 : Int), ([(0, 1)] : List (Nat × Int))), aI ((0 : Int), ([(1, 1)] : List (Nat × Int)))] : List av) = [.inl gi, .inl gv] from hg)
  obtain ⟨g2, -⟩ := List.cons.inj g2
  cases g1
  cases g2
  have ei : ev ρ ((0 : Int), ([(0, 1)] : List (Nat × Int))) = ((ρ 0)) := by show 0 + (1 * ρ 0 + 0) = _; omega
  have ew : ev ρ ((0 : Int), ([(1, 1)] : List (Nat × Int))) = ((ρ 1)) := by show 0 + (1 * ρ 1 + 0) = _; omega
  rw [show (st M (ctj r_77) (ev ρ ((0 : Int), ([(0, 1)] : List (Nat × Int)))).toNat (ev ρ ((0 : Int), ([(1, 1)] : List (Nat × Int))))) = (st M 92 ((ρ 0)).toNat ((ρ 1))) from by rw [ei, ew]; rfl]
  have H := cr_77 M (ρ 0) (ρ 1) (hB _ List.mem_cons_self) (hB _ (List.mem_cons_of_mem _ List.mem_cons_self)) (cvp 24 (x' := ((ρ 0))) (y' := (0 : Int)) (by show 0 + (1 * ρ 0 + 0) = _; omega) (by show 0 + 0 = _; omega) (hm _ List.mem_cons_self)) hG
  obtain ⟨k0, -⟩ := H
  exact ⟨_, List.mem_cons_self, ρ, fun _ _ => rfl, (okM_c (pvp 24 (by show 0 + (1 * ρ 0 + 0) = _; omega) (by show 0 + 0 = _; omega) k0) okM_n), okB_n, okF_n⟩
-- ubw93
theorem cr_78 (M : pM) (s0 s1 : Int) (b0 : 0 ≤ s0 ∧ s0 ≤ 29) (b1 : (-2147483648) ≤ s1 ∧ s1 ≤ 2147483647) (m0 : HP 24 (s0) (0 : Int) M) (hG : gI M) : (HP 24 (s0) (0 : Int) (st M 93 (s0).toNat (s1)) ∧ True) := by
  obtain ⟨a1, a2, a3⟩ := m0
  refine ⟨⟨a1, a2, fun v hv => ?_⟩, trivial⟩
  have hF : lF (st M 93 s0.toNat s1) v = lF M v := lF_s (by decide) (fun k _ h => absurd h.1 (by decide)) (fun k _ h => absurd h.1 (by decide))
  unfold ubo
  rw [hF, sq_o (a := 94) (b := v) (fun h => absurd h.1 (by decide)), sq_o (a := 91) (b := v) (fun h => absurd h.1 (by decide)), sq_o (a := 61) (b := 54) (fun h => absurd h.1 (by decide)), sq_o (a := 92) (fun h => by omega), sq_o (a := 93) (fun h => by omega)]
  exact a3 v hv
theorem rul_78 : Rul r_78 := by
  refine ⟨fun h => (by cases h), fun gi gv hg ρ M hm hB hF hG => ?_⟩
  obtain ⟨g1, g2⟩ := List.cons.inj (show ([aI ((0 : Int), ([(0, 1)] : List (Nat × Int))), aI ((0 : Int), ([(1, 1)] : List (Nat × Int)))] : List av) = [.inl gi, .inl gv] from hg)
  obtain ⟨g2, -⟩ := List.cons.inj g2
  cases g1
  cases g2
  have ei : ev ρ ((0 : Int), ([(0, 1)] : List (Nat × Int))) = ((ρ 0)) := by show 0 + (1 * ρ 0 + 0) = _; omega
  have ew : ev ρ ((0 : Int), ([(1, 1)] : List (Nat × Int))) = ((ρ 1)) := by show 0 + (1 * ρ 1 + 0) = _; omega
  rw [show (st M (ctj r_78) (ev ρ ((0 : Int), ([(0, 1)] : List (Nat × Int)))).toNat (ev ρ ((0 : Int), ([(1, 1)] : List (Nat × Int))))) = (st M 93 ((ρ 0)).toNat ((ρ 1))) from by rw [ei, ew]; rfl]
  have H := cr_78 M (ρ 0) (ρ 1) (hB _ List.mem_cons_self) (hB _ (List.mem_cons_of_mem _ List.mem_cons_self)) (cvp 24 (x' := ((ρ 0))) (y' := (0 : Int)) (by show 0 + (1 * ρ 0 + 0) = _; omega) (by show 0 + 0 = _; omega) (hm _ List.mem_cons_self)) hG
  obtain ⟨k0, -⟩ := H
  exact ⟨_, List.mem_cons_self, ρ, fun _ _ => rfl, (okM_c (pvp 24 (by show 0 + (1 * ρ 0 + 0) = _; omega) (by show 0 + 0 = _; omega) k0) okM_n), okB_n, okF_n⟩
-- xb000
theorem cr_79 (M : pM) (s0 s1 s2 s3 s4 : Int) (b0 : 0 ≤ s0 ∧ s0 ≤ 29) (b1 : 0 ≤ s1 ∧ s1 ≤ 35) (b2 : 0 ≤ s2 ∧ s2 ≤ 44) (b3 : 1 ≤ s3 ∧ s3 ≤ 9) (b4 : 1 ≤ s4 ∧ s4 ≤ 9) (m0 : HP 28 (s0) (s2) M) (m1 : (0 ≤ (53 : Int) ∧ M 61 (53 : Int).toNat = (s3))) (m2 : (0 ≤ (55 : Int) ∧ M 61 (55 : Int).toNat = (s4))) (m3 : (0 ≤ (s0) ∧ M 37 (s0).toNat = (s1))) (m4 : (0 ≤ (s0) ∧ M 38 (s0).toNat = (s1 + s3))) (m5 : (0 ≤ (s0) ∧ M 39 (s0).toNat = (0 : Int))) (f0 : 0 ≤ (s1 + (-1) * s2)) (f1 : 0 ≤ ((-1) * s1 + 35)) (hG : gI M) : (HP 31 (s0) (2 * s1) M ∧ True) := by
  obtain ⟨a1, a2, a3⟩ := m0
  have hj : lnj (M 61 54) 0 (lF M s0.toNat) = 4 := lnj_0
  have hx : lF M s0.toNat 4 = s2 := a3.symm
  have hg : lng (M 61 54) 0 s1 (lF M s0.toNat) = s1 := lng_q hj hx (by omega)
  have hw : M 61 53 = s3 := m1.2
  have ht : M 61 55 = s4 := m2.2
  have hl : lpl (M 61 54) 0 (lF M s0.toNat) = 0 := lpl_0
  refine ⟨⟨by omega, by omega, s1, 0, ⟨by omega, by omega, by omega, by omega⟩, by omega, ?_⟩, trivial⟩
  exact ⟨by rw [lub_y hg (by omega)]; exact m3.2, by rw [lfr_y hg (by omega), lnd_0, hw]; exact m4.2, by rw [lby_y hg (by omega), hl]; exact m5.2⟩
theorem rul_79 : Rul r_79 := by
  refine ⟨fun _ ρ M hm hB hF hG => ?_, fun gi gv hg => (by cases hg)⟩
  have H := cr_79 M (ρ 0) (ρ 1) (ρ 2) (ρ 3) (ρ 4) (hB _ List.mem_cons_self) (hB _ (List.mem_cons_of_mem _ List.mem_cons_self)) (hB _ (List.mem_cons_of_mem _ (List.mem_cons_of_mem _ List.mem_cons_self))) (hB _ (List.mem_cons_of_mem _ (List.mem_cons_of_mem _ (List.mem_cons_of_mem _ List.mem_cons_self)))) (hB _ (List.mem_cons_of_mem _ (List.mem_cons_of_mem _ (List.mem_cons_of_mem _ (List.mem_cons_of_mem _ List.mem_cons_self))))) (cvp 28 (x' := ((ρ 0))) (y' := ((ρ 2))) (by show 0 + (1 * ρ 0 + 0) = _; omega) (by show 0 + (1 * ρ 2 + 0) = _; omega) (hm _ List.mem_cons_self)) (cvm (c := 61) (by decide) (x' := (53 : Int)) (y' := ((ρ 3))) (by show 53 + 0 = _; omega) (by show 0 + (1 * ρ 3 + 0) = _; omega) (hm _ (List.mem_cons_of_mem _ List.mem_cons_self))) (cvm (c := 61) (by decide) (x' := (55 : Int)) (y' := ((ρ 4))) (by show 55 + 0 = _; omega) (by show 0 + (1 * ρ 4 + 0) = _; omega) (hm _ (List.mem_cons_of_mem _ (List.mem_cons_of_mem _ List.mem_cons_self)))) (cvm (c := 37) (by decide) (x' := ((ρ 0))) (y' := ((ρ 1))) (by show 0 + (1 * ρ 0 + 0) = _; omega) (by show 0 + (1 * ρ 1 + 0) = _; omega) (hm _ (List.mem_cons_of_mem _ (List.mem_cons_of_mem _ (List.mem_cons_of_mem _ List.mem_cons_self))))) (cvm (c := 38) (by decide) (x' := ((ρ 0))) (y' := ((ρ 1) + (ρ 3))) (by show 0 + (1 * ρ 0 + 0) = _; omega) (by show 0 + (1 * ρ 1 + (1 * ρ 3 + 0)) = _; omega) (hm _ (List.mem_cons_of_mem _ (List.mem_cons_of_mem _ (List.mem_cons_of_mem _ (List.mem_cons_of_mem _ List.mem_cons_self)))))) (cvm (c := 39) (by decide) (x' := ((ρ 0))) (y' := (0 : Int)) (by show 0 + (1 * ρ 0 + 0) = _; omega) (by show 0 + 0 = _; omega) (hm _ (List.mem_cons_of_mem _ (List.mem_cons_of_mem _ (List.mem_cons_of_mem _ (List.mem_cons_of_mem _ (List.mem_cons_of_mem _ List.mem_cons_self))))))) (by have h := hF _ List.mem_cons_self; have h : 0 ≤ 0 + (1 * ρ 1 + ((-1) * ρ 2 + 0)) := h; omega) (by have h := hF _ (List.mem_cons_of_mem _ List.mem_cons_self); have h : 0 ≤ 35 + ((-1) * ρ 1 + 0) := h; omega) hG
  obtain ⟨k0, -⟩ := H
  exact ⟨_, List.mem_cons_self, ρ, fun _ _ => rfl, (okM_c (pvp 31 (by show 0 + (1 * ρ 0 + 0) = _; omega) (by show 0 + (2 * ρ 1 + 0) = _; omega) k0) okM_n), okB_n, okF_n⟩
-- xw000
theorem cr_80 (M : pM) (s0 s1 s2 s3 s4 : Int) (b0 : 0 ≤ s0 ∧ s0 ≤ 29) (b1 : 0 ≤ s1 ∧ s1 ≤ 35) (b2 : 0 ≤ s2 ∧ s2 ≤ 44) (b3 : 1 ≤ s3 ∧ s3 ≤ 9) (b4 : 1 ≤ s4 ∧ s4 ≤ 9) (m0 : HP 28 (s0) (s2) M) (m1 : (0 ≤ (53 : Int) ∧ M 61 (53 : Int).toNat = (s3))) (m2 : (0 ≤ (55 : Int) ∧ M 61 (55 : Int).toNat = (s4))) (f0 : 0 ≤ (s1 + (-1) * s2)) (f1 : 0 ≤ ((-1) * s1 + 35)) (hG : gI M) : (HP 30 (128 * s0 + 2 * s1) (s1 + s3) M ∧ True) := by
  obtain ⟨a1, a2, a3⟩ := m0
  have hj : lnj (M 61 54) 0 (lF M s0.toNat) = 4 := lnj_0
  have hx : lF M s0.toNat 4 = s2 := a3.symm
  have hg : lng (M 61 54) 0 s1 (lF M s0.toNat) = s1 := lng_q hj hx (by omega)
  have hw : M 61 53 = s3 := m1.2
  have ht : M 61 55 = s4 := m2.2
  have hl : lpl (M 61 54) 0 (lF M s0.toNat) = 0 := lpl_0
  refine ⟨⟨s0, s1, 0, by omega, by omega, ⟨by omega, by omega, by omega, by omega⟩, by omega, ?_⟩, trivial⟩
  rw [lst_y hj hg (by omega), lnd_0, hw]
theorem rul_80 : Rul r_80 := by
  refine ⟨fun _ ρ M hm hB hF hG => ?_, fun gi gv hg => (by cases hg)⟩
  have H := cr_80 M (ρ 0) (ρ 1) (ρ 2) (ρ 3) (ρ 4) (hB _ List.mem_cons_self) (hB _ (List.mem_cons_of_mem _ List.mem_cons_self)) (hB _ (List.mem_cons_of_mem _ (List.mem_cons_of_mem _ List.mem_cons_self))) (hB _ (List.mem_cons_of_mem _ (List.mem_cons_of_mem _ (List.mem_cons_of_mem _ List.mem_cons_self)))) (hB _ (List.mem_cons_of_mem _ (List.mem_cons_of_mem _ (List.mem_cons_of_mem _ (List.mem_cons_of_mem _ List.mem_cons_self))))) (cvp 28 (x' := ((ρ 0))) (y' := ((ρ 2))) (by show 0 + (1 * ρ 0 + 0) = _; omega) (by show 0 + (1 * ρ 2 + 0) = _; omega) (hm _ List.mem_cons_self)) (cvm (c := 61) (by decide) (x' := (53 : Int)) (y' := ((ρ 3))) (by show 53 + 0 = _; omega) (by show 0 + (1 * ρ 3 + 0) = _; omega) (hm _ (List.mem_cons_of_mem _ List.mem_cons_self))) (cvm (c := 61) (by decide) (x' := (55 : Int)) (y' := ((ρ 4))) (by show 55 + 0 = _; omega) (by show 0 + (1 * ρ 4 + 0) = _; omega) (hm _ (List.mem_cons_of_mem _ (List.mem_cons_of_mem _ List.mem_cons_self)))) (by have h := hF _ List.mem_cons_self; have h : 0 ≤ 0 + (1 * ρ 1 + ((-1) * ρ 2 + 0)) := h; omega) (by have h := hF _ (List.mem_cons_of_mem _ List.mem_cons_self); have h : 0 ≤ 35 + ((-1) * ρ 1 + 0) := h; omega) hG
  obtain ⟨k0, -⟩ := H
  exact ⟨_, List.mem_cons_self, ρ, fun _ _ => rfl, (okM_c (pvp 30 (by show 0 + (128 * ρ 0 + (2 * ρ 1 + 0)) = _; omega) (by show 0 + (1 * ρ 1 + (1 * ρ 3 + 0)) = _; omega) k0) okM_n), okB_n, okF_n⟩
-- ub000
theorem cr_81 (M : pM) (s0 s1 s2 s3 s4 : Int) (b0 : 0 ≤ s0 ∧ s0 ≤ 35) (b1 : (-2147483648) ≤ s1 ∧ s1 ≤ 2147483647) (b2 : 1 ≤ s2 ∧ s2 ≤ 9) (b3 : 1 ≤ s3 ∧ s3 ≤ 9) (b4 : 0 ≤ s4 ∧ s4 ≤ 29) (m0 : HP 22 (s4) (0 : Int) M) (m1 : (0 ≤ (4 : Int) ∧ M 95 (4 : Int).toNat = (s1))) (m2 : (0 ≤ (s4) ∧ M 94 (s4).toNat = (0 : Int))) (m3 : (0 ≤ (53 : Int) ∧ M 61 (53 : Int).toNat = (s2))) (m4 : (0 ≤ (55 : Int) ∧ M 61 (55 : Int).toNat = (s3))) (m5 : HP 24 (s4) (0 : Int) M) (m6 : (0 ≤ (s4) ∧ M 91 (s4).toNat = (s0))) (m7 : (0 ≤ (s4) ∧ M 92 (s4).toNat = (s0))) (m8 : (0 ≤ (s4) ∧ M 93 (s4).toNat = (0 : Int))) (f0 : 0 ≤ (s0 + (-1) * s1)) (f1 : 0 ≤ ((-1) * s0 + 35)) (hG : gI M) : (HP 24 (s4 + 1) (0 : Int) M ∧ True) := by
  obtain ⟨a1, a2, a3⟩ := m0
  have hj : lnj (M 61 54) 0 (lF M s4.toNat) = 4 := lnj_0
  have hx : lF M s4.toNat 4 = s1 := by rw [← a3 4 (by omega)]; exact m1.2
  have hg : lng (M 61 54) 0 s0 (lF M s4.toNat) = s0 := lng_q hj hx (by omega)
  have h94 : M 94 s4.toNat = 0 := m2.2
  have hw : M 61 53 = s2 := m3.2
  have ht : M 61 55 = s3 := m4.2
  have hl : lpl (M 61 54) 0 (lF M s4.toNat) = 0 := lpl_0
  have h91 : M 91 s4.toNat = s0 := m6.2
  obtain ⟨d1, d2, d3⟩ := m5
  refine ⟨⟨by omega, by omega, fun v hv => ?_⟩, trivial⟩
  by_cases hv2 : v = s4.toNat
  · rw [hv2]
    unfold ubo
    rw [h94, h91, lub_y hg (by omega), hl]
    exact ⟨m7.2, m8.2⟩
  · exact d3 v (by omega)
theorem rul_81 : Rul r_81 := by
  refine ⟨fun _ ρ M hm hB hF hG => ?_, fun gi gv hg => (by cases hg)⟩
  have H := cr_81 M (ρ 0) (ρ 1) (ρ 2) (ρ 3) (ρ 4) (hB _ List.mem_cons_self) (hB _ (List.mem_cons_of_mem _ List.mem_cons_self)) (hB _ (List.mem_cons_of_mem _ (List.mem_cons_of_mem _ List.mem_cons_self))) (hB _ (List.mem_cons_of_mem _ (List.mem_cons_of_mem _ (List.mem_cons_of_mem _ List.mem_cons_self)))) (hB _ (List.mem_cons_of_mem _ (List.mem_cons_of_mem _ (List.mem_cons_of_mem _ (List.mem_cons_of_mem _ List.mem_cons_self))))) (cvp 22 (x' := ((ρ 4))) (y' := (0 : Int)) (by show 0 + (1 * ρ 4 + 0) = _; omega) (by show 0 + 0 = _; omega) (hm _ List.mem_cons_self)) (cvm (c := 95) (by decide) (x' := (4 : Int)) (y' := ((ρ 1))) (by show 4 + 0 = _; omega) (by show 0 + (1 * ρ 1 + 0) = _; omega) (hm _ (List.mem_cons_of_mem _ List.mem_cons_self))) (cvm (c := 94) (by decide) (x' := ((ρ 4))) (y' := (0 : Int)) (by show 0 + (1 * ρ 4 + 0) = _; omega) (by show 0 + 0 = _; omega) (hm _ (List.mem_cons_of_mem _ (List.mem_cons_of_mem _ List.mem_cons_self)))) (cvm (c := 61) (by decide) (x' := (53 : Int)) (y' := ((ρ 2))) (by show 53 + 0 = _; omega) (by show 0 + (1 * ρ 2 + 0) = _; omega) (hm _ (List.mem_cons_of_mem _ (List.mem_cons_of_mem _ (List.mem_cons_of_mem _ List.mem_cons_self))))) (cvm (c := 61) (by decide) (x' := (55 : Int)) (y' := ((ρ 3))) (by show 55 + 0 = _; omega) (by show 0 + (1 * ρ 3 + 0) = _; omega) (hm _ (List.mem_cons_of_mem _ (List.mem_cons_of_mem _ (List.mem_cons_of_mem _ (List.mem_cons_of_mem _ List.mem_cons_self)))))) (cvp 24 (x' := ((ρ 4))) (y' := (0 : Int)) (by show 0 + (1 * ρ 4 + 0) = _; omega) (by show 0 + 0 = _; omega) (hm _ (List.mem_cons_of_mem _ (List.mem_cons_of_mem _ (List.mem_cons_of_mem _ (List.mem_cons_of_mem _ (List.mem_cons_of_mem _ List.mem_cons_self))))))) (cvm (c := 91) (by decide) (x' := ((ρ 4))) (y' := ((ρ 0))) (by show 0 + (1 * ρ 4 + 0) = _; omega) (by show 0 + (1 * ρ 0 + 0) = _; omega) (hm _ (List.mem_cons_of_mem _ (List.mem_cons_of_mem _ (List.mem_cons_of_mem _ (List.mem_cons_of_mem _ (List.mem_cons_of_mem _ (List.mem_cons_of_mem _ List.mem_cons_self)))))))) (cvm (c := 92) (by decide) (x' := ((ρ 4))) (y' := ((ρ 0))) (by show 0 + (1 * ρ 4 + 0) = _; omega) (by show 0 + (1 * ρ 0 + 0) = _; omega) (hm _ (List.mem_cons_of_mem _ (List.mem_cons_of_mem _ (List.mem_cons_of_mem _ (List.mem_cons_of_mem _ (List.mem_cons_of_mem _ (List.mem_cons_of_mem _ (List.mem_cons_of_mem _ List.mem_cons_self))))))))) (cvm (c := 93) (by decide) (x' := ((ρ 4))) (y' := (0 : Int)) (by show 0 + (1 * ρ 4 + 0) = _; omega) (by show 0 + 0 = _; omega) (hm _ (List.mem_cons_of_mem _ (List.mem_cons_of_mem _ (List.mem_cons_of_mem _ (List.mem_cons_of_mem _ (List.mem_cons_of_mem _ (List.mem_cons_of_mem _ (List.mem_cons_of_mem _ (List.mem_cons_of_mem _ List.mem_cons_self)))))))))) (by have h := hF _ List.mem_cons_self; have h : 0 ≤ 0 + (1 * ρ 0 + ((-1) * ρ 1 + 0)) := h; omega) (by have h := hF _ (List.mem_cons_of_mem _ List.mem_cons_self); have h : 0 ≤ 35 + ((-1) * ρ 0 + 0) := h; omega) hG
  obtain ⟨k0, -⟩ := H
  exact ⟨_, List.mem_cons_self, ρ, fun _ _ => rfl, (okM_c (pvp 24 (by show 1 + (1 * ρ 4 + 0) = _; omega) (by show 0 + 0 = _; omega) k0) okM_n), okB_n, okF_n⟩
-- fs000
theorem cr_82 (M : pM) (s0 s1 s2 s3 s4 : Int) (b0 : 0 ≤ s0 ∧ s0 ≤ 35) (b1 : (-2147483648) ≤ s1 ∧ s1 ≤ 2147483647) (b2 : 1 ≤ s2 ∧ s2 ≤ 9) (b3 : 1 ≤ s3 ∧ s3 ≤ 9) (b4 : 0 ≤ s4 ∧ s4 ≤ 29) (m0 : HP 22 (s4) (0 : Int) M) (m1 : (0 ≤ (4 : Int) ∧ M 95 (4 : Int).toNat = (s1))) (m2 : (0 ≤ (s4) ∧ M 94 (s4).toNat = (0 : Int))) (m3 : (0 ≤ (53 : Int) ∧ M 61 (53 : Int).toNat = (s2))) (m4 : (0 ≤ (55 : Int) ∧ M 61 (55 : Int).toNat = (s3))) (m5 : (0 ≤ (s4) ∧ M 91 (s4).toNat = (s0))) (f0 : 0 ≤ (s0 + (-1) * s1)) (f1 : 0 ≤ ((-1) * s0 + 35)) (hG : gI M) : (HP 22 (s4 + 1) (0 : Int) (st M 95 (4 : Int).toNat (s0 + s2)) ∧ True) := by
  obtain ⟨a1, a2, a3⟩ := m0
  have hj : lnj (M 61 54) 0 (lF M s4.toNat) = 4 := lnj_0
  have hx : lF M s4.toNat 4 = s1 := by rw [← a3 4 (by omega)]; exact m1.2
  have hg : lng (M 61 54) 0 s0 (lF M s4.toNat) = s0 := lng_q hj hx (by omega)
  have h94 : M 94 s4.toNat = 0 := m2.2
  have hw : M 61 53 = s2 := m3.2
  have ht : M 61 55 = s3 := m4.2
  have hl : lpl (M 61 54) 0 (lF M s4.toNat) = 0 := lpl_0
  have h91 : M 91 s4.toNat = s0 := m5.2
  refine ⟨⟨by omega, by omega, fun k hk => ?_⟩, trivial⟩
  rw [show (s4 + 1).toNat = s4.toNat + 1 by omega, lF_s (by decide) (fun i _ h => absurd h.1 (by decide)) (fun i _ h => absurd h.1 (by decide)), lF_u, h94, h91]
  by_cases hk2 : k = 4
  · rw [hk2, lst_y hj hg (by omega), lnd_0, hw]
    exact sq_s
  · rw [lst_o hj hk2, sq_o (i := (4 : Int).toNat) (fun h => hk2 h.2)]
    exact a3 k hk
theorem rul_82 : Rul r_82 := by
  refine ⟨fun h => (by cases h), fun gi gv hg ρ M hm hB hF hG => ?_⟩
  obtain ⟨g1, g2⟩ := List.cons.inj (show ([aI ((4 : Int), ([] : List (Nat × Int))), aI ((0 : Int), ([(0, 1), (2, 1)] : List (Nat × Int)))] : List av) = [.inl gi, .inl gv] from hg)
  obtain ⟨g2, -⟩ := List.cons.inj g2
  cases g1
  cases g2
  have ei : ev ρ ((4 : Int), ([] : List (Nat × Int))) = (4 : Int) := by show 4 + 0 = _; omega
  have ew : ev ρ ((0 : Int), ([(0, 1), (2, 1)] : List (Nat × Int))) = ((ρ 0) + (ρ 2)) := by show 0 + (1 * ρ 0 + (1 * ρ 2 + 0)) = _; omega
  rw [show (st M (ctj r_82) (ev ρ ((4 : Int), ([] : List (Nat × Int)))).toNat (ev ρ ((0 : Int), ([(0, 1), (2, 1)] : List (Nat × Int))))) = (st M 95 (4 : Int).toNat ((ρ 0) + (ρ 2))) from by rw [ei, ew]; rfl]
  have H := cr_82 M (ρ 0) (ρ 1) (ρ 2) (ρ 3) (ρ 4) (hB _ List.mem_cons_self) (hB _ (List.mem_cons_of_mem _ List.mem_cons_self)) (hB _ (List.mem_cons_of_mem _ (List.mem_cons_of_mem _ List.mem_cons_self))) (hB _ (List.mem_cons_of_mem _ (List.mem_cons_of_mem _ (List.mem_cons_of_mem _ List.mem_cons_self)))) (hB _ (List.mem_cons_of_mem _ (List.mem_cons_of_mem _ (List.mem_cons_of_mem _ (List.mem_cons_of_mem _ List.mem_cons_self))))) (cvp 22 (x' := ((ρ 4))) (y' := (0 : Int)) (by show 0 + (1 * ρ 4 + 0) = _; omega) (by show 0 + 0 = _; omega) (hm _ List.mem_cons_self)) (cvm (c := 95) (by decide) (x' := (4 : Int)) (y' := ((ρ 1))) (by show 4 + 0 = _; omega) (by show 0 + (1 * ρ 1 + 0) = _; omega) (hm _ (List.mem_cons_of_mem _ List.mem_cons_self))) (cvm (c := 94) (by decide) (x' := ((ρ 4))) (y' := (0 : Int)) (by show 0 + (1 * ρ 4 + 0) = _; omega) (by show 0 + 0 = _; omega) (hm _ (List.mem_cons_of_mem _ (List.mem_cons_of_mem _ List.mem_cons_self)))) (cvm (c := 61) (by decide) (x' := (53 : Int)) (y' := ((ρ 2))) (by show 53 + 0 = _; omega) (by show 0 + (1 * ρ 2 + 0) = _; omega) (hm _ (List.mem_cons_of_mem _ (List.mem_cons_of_mem _ (List.mem_cons_of_mem _ List.mem_cons_self))))) (cvm (c := 61) (by decide) (x' := (55 : Int)) (y' := ((ρ 3))) (by show 55 + 0 = _; omega) (by show 0 + (1 * ρ 3 + 0) = _; omega) (hm _ (List.mem_cons_of_mem _ (List.mem_cons_of_mem _ (List.mem_cons_of_mem _ (List.mem_cons_of_mem _ List.mem_cons_self)))))) (cvm (c := 91) (by decide) (x' := ((ρ 4))) (y' := ((ρ 0))) (by show 0 + (1 * ρ 4 + 0) = _; omega) (by show 0 + (1 * ρ 0 + 0) = _; omega) (hm _ (List.mem_cons_of_mem _ (List.mem_cons_of_mem _ (List.mem_cons_of_mem _ (List.mem_cons_of_mem _ (List.mem_cons_of_mem _ List.mem_cons_self))))))) (by have h := hF _ List.mem_cons_self; have h : 0 ≤ 0 + (1 * ρ 0 + ((-1) * ρ 1 + 0)) := h; omega) (by have h := hF _ (List.mem_cons_of_mem _ List.mem_cons_self); have h : 0 ≤ 35 + ((-1) * ρ 0 + 0) := h; omega) hG
  obtain ⟨k0, -⟩ := H
  exact ⟨_, List.mem_cons_self, ρ, fun _ _ => rfl, (okM_c (pvp 22 (by show 1 + (1 * ρ 4 + 0) = _; omega) (by show 0 + 0 = _; omega) k0) okM_n), okB_n, okF_n⟩
-- xb001
theorem cr_83 (M : pM) (s0 s1 s2 s3 s4 : Int) (b0 : 0 ≤ s0 ∧ s0 ≤ 29) (b1 : 0 ≤ s1 ∧ s1 ≤ 35) (b2 : 0 ≤ s2 ∧ s2 ≤ 44) (b3 : 1 ≤ s3 ∧ s3 ≤ 9) (b4 : 1 ≤ s4 ∧ s4 ≤ 9) (m0 : HP 28 (s0) (s2) M) (m1 : (0 ≤ (53 : Int) ∧ M 61 (53 : Int).toNat = (s3))) (m2 : (0 ≤ (55 : Int) ∧ M 61 (55 : Int).toNat = (s4))) (m3 : (0 ≤ (s0) ∧ M 37 (s0).toNat = (-1 : Int))) (m4 : (0 ≤ (s0) ∧ M 38 (s0).toNat = (-1 : Int))) (m5 : (0 ≤ (s0) ∧ M 39 (s0).toNat = (-1 : Int))) (f0 : 0 ≤ (s1 + (-1) * s2)) (f1 : 0 ≤ (s1 - 36)) (hG : gI M) : (HP 31 (s0) (2 * s1) M ∧ True) := by
  obtain ⟨a1, a2, a3⟩ := m0
  have hj : lnj (M 61 54) 0 (lF M s0.toNat) = 4 := lnj_0
  have hx : lF M s0.toNat 4 = s2 := a3.symm
  have hg : lng (M 61 54) 0 s1 (lF M s0.toNat) = s1 := lng_q hj hx (by omega)
  have hw : M 61 53 = s3 := m1.2
  have ht : M 61 55 = s4 := m2.2
  have hl : lpl (M 61 54) 0 (lF M s0.toNat) = 0 := lpl_0
  refine ⟨⟨by omega, by omega, s1, 0, ⟨by omega, by omega, by omega, by omega⟩, by omega, ?_⟩, trivial⟩
  exact ⟨by rw [lub_n hg (by omega)]; exact m3.2, by rw [lfr_n hg (by omega)]; exact m4.2, by rw [lby_n hg (by omega)]; exact m5.2⟩
theorem rul_83 : Rul r_83 := by
  refine ⟨fun _ ρ M hm hB hF hG => ?_, fun gi gv hg => (by cases hg)⟩
  have H := cr_83 M (ρ 0) (ρ 1) (ρ 2) (ρ 3) (ρ 4) (hB _ List.mem_cons_self) (hB _ (List.mem_cons_of_mem _ List.mem_cons_self)) (hB _ (List.mem_cons_of_mem _ (List.mem_cons_of_mem _ List.mem_cons_self))) (hB _ (List.mem_cons_of_mem _ (List.mem_cons_of_mem _ (List.mem_cons_of_mem _ List.mem_cons_self)))) (hB _ (List.mem_cons_of_mem _ (List.mem_cons_of_mem _ (List.mem_cons_of_mem _ (List.mem_cons_of_mem _ List.mem_cons_self))))) (cvp 28 (x' := ((ρ 0))) (y' := ((ρ 2))) (by show 0 + (1 * ρ 0 + 0) = _; omega) (by show 0 + (1 * ρ 2 + 0) = _; omega) (hm _ List.mem_cons_self)) (cvm (c := 61) (by decide) (x' := (53 : Int)) (y' := ((ρ 3))) (by show 53 + 0 = _; omega) (by show 0 + (1 * ρ 3 + 0) = _; omega) (hm _ (List.mem_cons_of_mem _ List.mem_cons_self))) (cvm (c := 61) (by decide) (x' := (55 : Int)) (y' := ((ρ 4))) (by show 55 + 0 = _; omega) (by show 0 + (1 * ρ 4 + 0) = _; omega) (hm _ (List.mem_cons_of_mem _ (List.mem_cons_of_mem _ List.mem_cons_self)))) (cvm (c := 37) (by decide) (x' := ((ρ 0))) (y' := (-1 : Int)) (by show 0 + (1 * ρ 0 + 0) = _; omega) (by show (-1) + 0 = _; omega) (hm _ (List.mem_cons_of_mem _ (List.mem_cons_of_mem _ (List.mem_cons_of_mem _ List.mem_cons_self))))) (cvm (c := 38) (by decide) (x' := ((ρ 0))) (y' := (-1 : Int)) (by show 0 + (1 * ρ 0 + 0) = _; omega) (by show (-1) + 0 = _; omega) (hm _ (List.mem_cons_of_mem _ (List.mem_cons_of_mem _ (List.mem_cons_of_mem _ (List.mem_cons_of_mem _ List.mem_cons_self)))))) (cvm (c := 39) (by decide) (x' := ((ρ 0))) (y' := (-1 : Int)) (by show 0 + (1 * ρ 0 + 0) = _; omega) (by show (-1) + 0 = _; omega) (hm _ (List.mem_cons_of_mem _ (List.mem_cons_of_mem _ (List.mem_cons_of_mem _ (List.mem_cons_of_mem _ (List.mem_cons_of_mem _ List.mem_cons_self))))))) (by have h := hF _ List.mem_cons_self; have h : 0 ≤ 0 + (1 * ρ 1 + ((-1) * ρ 2 + 0)) := h; omega) (by have h := hF _ (List.mem_cons_of_mem _ List.mem_cons_self); have h : 0 ≤ (-36) + (1 * ρ 1 + 0) := h; omega) hG
  obtain ⟨k0, -⟩ := H
  exact ⟨_, List.mem_cons_self, ρ, fun _ _ => rfl, (okM_c (pvp 31 (by show 0 + (1 * ρ 0 + 0) = _; omega) (by show 0 + (2 * ρ 1 + 0) = _; omega) k0) okM_n), okB_n, okF_n⟩
-- xw001
theorem cr_84 (M : pM) (s0 s1 s2 s3 s4 : Int) (b0 : 0 ≤ s0 ∧ s0 ≤ 29) (b1 : 0 ≤ s1 ∧ s1 ≤ 35) (b2 : 0 ≤ s2 ∧ s2 ≤ 44) (b3 : 1 ≤ s3 ∧ s3 ≤ 9) (b4 : 1 ≤ s4 ∧ s4 ≤ 9) (m0 : HP 28 (s0) (s2) M) (m1 : (0 ≤ (53 : Int) ∧ M 61 (53 : Int).toNat = (s3))) (m2 : (0 ≤ (55 : Int) ∧ M 61 (55 : Int).toNat = (s4))) (f0 : 0 ≤ (s1 + (-1) * s2)) (f1 : 0 ≤ (s1 - 36)) (hG : gI M) : (HP 30 (128 * s0 + 2 * s1) (s2) M ∧ True) := by
  obtain ⟨a1, a2, a3⟩ := m0
  have hj : lnj (M 61 54) 0 (lF M s0.toNat) = 4 := lnj_0
  have hx : lF M s0.toNat 4 = s2 := a3.symm
  have hg : lng (M 61 54) 0 s1 (lF M s0.toNat) = s1 := lng_q hj hx (by omega)
  have hw : M 61 53 = s3 := m1.2
  have ht : M 61 55 = s4 := m2.2
  have hl : lpl (M 61 54) 0 (lF M s0.toNat) = 0 := lpl_0
  refine ⟨⟨s0, s1, 0, by omega, by omega, ⟨by omega, by omega, by omega, by omega⟩, by omega, ?_⟩, trivial⟩
  rw [lst_n hg (by omega)]
  exact a3
theorem rul_84 : Rul r_84 := by
  refine ⟨fun _ ρ M hm hB hF hG => ?_, fun gi gv hg => (by cases hg)⟩
  have H := cr_84 M (ρ 0) (ρ 1) (ρ 2) (ρ 3) (ρ 4) (hB _ List.mem_cons_self) (hB _ (List.mem_cons_of_mem _ List.mem_cons_self)) (hB _ (List.mem_cons_of_mem _ (List.mem_cons_of_mem _ List.mem_cons_self))) (hB _ (List.mem_cons_of_mem _ (List.mem_cons_of_mem _ (List.mem_cons_of_mem _ List.mem_cons_self)))) (hB _ (List.mem_cons_of_mem _ (List.mem_cons_of_mem _ (List.mem_cons_of_mem _ (List.mem_cons_of_mem _ List.mem_cons_self))))) (cvp 28 (x' := ((ρ 0))) (y' := ((ρ 2))) (by show 0 + (1 * ρ 0 + 0) = _; omega) (by show 0 + (1 * ρ 2 + 0) = _; omega) (hm _ List.mem_cons_self)) (cvm (c := 61) (by decide) (x' := (53 : Int)) (y' := ((ρ 3))) (by show 53 + 0 = _; omega) (by show 0 + (1 * ρ 3 + 0) = _; omega) (hm _ (List.mem_cons_of_mem _ List.mem_cons_self))) (cvm (c := 61) (by decide) (x' := (55 : Int)) (y' := ((ρ 4))) (by show 55 + 0 = _; omega) (by show 0 + (1 * ρ 4 + 0) = _; omega) (hm _ (List.mem_cons_of_mem _ (List.mem_cons_of_mem _ List.mem_cons_self)))) (by have h := hF _ List.mem_cons_self; have h : 0 ≤ 0 + (1 * ρ 1 + ((-1) * ρ 2 + 0)) := h; omega) (by have h := hF _ (List.mem_cons_of_mem _ List.mem_cons_self); have h : 0 ≤ (-36) + (1 * ρ 1 + 0) := h; omega) hG
  obtain ⟨k0, -⟩ := H
  exact ⟨_, List.mem_cons_self, ρ, fun _ _ => rfl, (okM_c (pvp 30 (by show 0 + (128 * ρ 0 + (2 * ρ 1 + 0)) = _; omega) (by show 0 + (1 * ρ 2 + 0) = _; omega) k0) okM_n), okB_n, okF_n⟩
-- ub001
theorem cr_85 (M : pM) (s0 s1 s2 s3 s4 : Int) (b0 : 0 ≤ s0 ∧ s0 ≤ 35) (b1 : (-2147483648) ≤ s1 ∧ s1 ≤ 2147483647) (b2 : 1 ≤ s2 ∧ s2 ≤ 9) (b3 : 1 ≤ s3 ∧ s3 ≤ 9) (b4 : 0 ≤ s4 ∧ s4 ≤ 29) (m0 : HP 22 (s4) (0 : Int) M) (m1 : (0 ≤ (4 : Int) ∧ M 95 (4 : Int).toNat = (s1))) (m2 : (0 ≤ (s4) ∧ M 94 (s4).toNat = (0 : Int))) (m3 : (0 ≤ (53 : Int) ∧ M 61 (53 : Int).toNat = (s2))) (m4 : (0 ≤ (55 : Int) ∧ M 61 (55 : Int).toNat = (s3))) (m5 : HP 24 (s4) (0 : Int) M) (m6 : (0 ≤ (s4) ∧ M 91 (s4).toNat = (s0))) (m7 : (0 ≤ (s4) ∧ M 92 (s4).toNat = (-1 : Int))) (m8 : (0 ≤ (s4) ∧ M 93 (s4).toNat = (0 : Int))) (f0 : 0 ≤ (s0 + (-1) * s1)) (f1 : 0 ≤ (s0 - 36)) (hG : gI M) : (HP 24 (s4 + 1) (0 : Int) M ∧ True) := by
  obtain ⟨a1, a2, a3⟩ := m0
  have hj : lnj (M 61 54) 0 (lF M s4.toNat) = 4 := lnj_0
  have hx : lF M s4.toNat 4 = s1 := by rw [← a3 4 (by omega)]; exact m1.2
  have hg : lng (M 61 54) 0 s0 (lF M s4.toNat) = s0 := lng_q hj hx (by omega)
  have h94 : M 94 s4.toNat = 0 := m2.2
  have hw : M 61 53 = s2 := m3.2
  have ht : M 61 55 = s3 := m4.2
  have hl : lpl (M 61 54) 0 (lF M s4.toNat) = 0 := lpl_0
  have h91 : M 91 s4.toNat = s0 := m6.2
  obtain ⟨d1, d2, d3⟩ := m5
  refine ⟨⟨by omega, by omega, fun v hv => ?_⟩, trivial⟩
  by_cases hv2 : v = s4.toNat
  · rw [hv2]
    unfold ubo
    rw [h94, h91, lub_n hg (by omega), hl]
    exact ⟨m7.2, m8.2⟩
  · exact d3 v (by omega)
theorem rul_85 : Rul r_85 := by
  refine ⟨fun _ ρ M hm hB hF hG => ?_, fun gi gv hg => (by cases hg)⟩
  have H := cr_85 M (ρ 0) (ρ 1) (ρ 2) (ρ 3) (ρ 4) (hB _ List.mem_cons_self) (hB _ (List.mem_cons_of_mem _ List.mem_cons_self)) (hB _ (List.mem_cons_of_mem _ (List.mem_cons_of_mem _ List.mem_cons_self))) (hB _ (List.mem_cons_of_mem _ (List.mem_cons_of_mem _ (List.mem_cons_of_mem _ List.mem_cons_self)))) (hB _ (List.mem_cons_of_mem _ (List.mem_cons_of_mem _ (List.mem_cons_of_mem _ (List.mem_cons_of_mem _ List.mem_cons_self))))) (cvp 22 (x' := ((ρ 4))) (y' := (0 : Int)) (by show 0 + (1 * ρ 4 + 0) = _; omega) (by show 0 + 0 = _; omega) (hm _ List.mem_cons_self)) (cvm (c := 95) (by decide) (x' := (4 : Int)) (y' := ((ρ 1))) (by show 4 + 0 = _; omega) (by show 0 + (1 * ρ 1 + 0) = _; omega) (hm _ (List.mem_cons_of_mem _ List.mem_cons_self))) (cvm (c := 94) (by decide) (x' := ((ρ 4))) (y' := (0 : Int)) (by show 0 + (1 * ρ 4 + 0) = _; omega) (by show 0 + 0 = _; omega) (hm _ (List.mem_cons_of_mem _ (List.mem_cons_of_mem _ List.mem_cons_self)))) (cvm (c := 61) (by decide) (x' := (53 : Int)) (y' := ((ρ 2))) (by show 53 + 0 = _; omega) (by show 0 + (1 * ρ 2 + 0) = _; omega) (hm _ (List.mem_cons_of_mem _ (List.mem_cons_of_mem _ (List.mem_cons_of_mem _ List.mem_cons_self))))) (cvm (c := 61) (by decide) (x' := (55 : Int)) (y' := ((ρ 3))) (by show 55 + 0 = _; omega) (by show 0 + (1 * ρ 3 + 0) = _; omega) (hm _ (List.mem_cons_of_mem _ (List.mem_cons_of_mem _ (List.mem_cons_of_mem _ (List.mem_cons_of_mem _ List.mem_cons_self)))))) (cvp 24 (x' := ((ρ 4))) (y' := (0 : Int)) (by show 0 + (1 * ρ 4 + 0) = _; omega) (by show 0 + 0 = _; omega) (hm _ (List.mem_cons_of_mem _ (List.mem_cons_of_mem _ (List.mem_cons_of_mem _ (List.mem_cons_of_mem _ (List.mem_cons_of_mem _ List.mem_cons_self))))))) (cvm (c := 91) (by decide) (x' := ((ρ 4))) (y' := ((ρ 0))) (by show 0 + (1 * ρ 4 + 0) = _; omega) (by show 0 + (1 * ρ 0 + 0) = _; omega) (hm _ (List.mem_cons_of_mem _ (List.mem_cons_of_mem _ (List.mem_cons_of_mem _ (List.mem_cons_of_mem _ (List.mem_cons_of_mem _ (List.mem_cons_of_mem _ List.mem_cons_self)))))))) (cvm (c := 92) (by decide) (x' := ((ρ 4))) (y' := (-1 : Int)) (by show 0 + (1 * ρ 4 + 0) = _; omega) (by show (-1) + 0 = _; omega) (hm _ (List.mem_cons_of_mem _ (List.mem_cons_of_mem _ (List.mem_cons_of_mem _ (List.mem_cons_of_mem _ (List.mem_cons_of_mem _ (List.mem_cons_of_mem _ (List.mem_cons_of_mem _ List.mem_cons_self))))))))) (cvm (c := 93) (by decide) (x' := ((ρ 4))) (y' := (0 : Int)) (by show 0 + (1 * ρ 4 + 0) = _; omega) (by show 0 + 0 = _; omega) (hm _ (List.mem_cons_of_mem _ (List.mem_cons_of_mem _ (List.mem_cons_of_mem _ (List.mem_cons_of_mem _ (List.mem_cons_of_mem _ (List.mem_cons_of_mem _ (List.mem_cons_of_mem _ (List.mem_cons_of_mem _ List.mem_cons_self)))))))))) (by have h := hF _ List.mem_cons_self; have h : 0 ≤ 0 + (1 * ρ 0 + ((-1) * ρ 1 + 0)) := h; omega) (by have h := hF _ (List.mem_cons_of_mem _ List.mem_cons_self); have h : 0 ≤ (-36) + (1 * ρ 0 + 0) := h; omega) hG
  obtain ⟨k0, -⟩ := H
  exact ⟨_, List.mem_cons_self, ρ, fun _ _ => rfl, (okM_c (pvp 24 (by show 1 + (1 * ρ 4 + 0) = _; omega) (by show 0 + 0 = _; omega) k0) okM_n), okB_n, okF_n⟩
-- fs001
theorem cr_86 (M : pM) (s0 s1 s2 s3 s4 : Int) (b0 : 0 ≤ s0 ∧ s0 ≤ 35) (b1 : (-2147483648) ≤ s1 ∧ s1 ≤ 2147483647) (b2 : 1 ≤ s2 ∧ s2 ≤ 9) (b3 : 1 ≤ s3 ∧ s3 ≤ 9) (b4 : 0 ≤ s4 ∧ s4 ≤ 29) (m0 : HP 22 (s4) (0 : Int) M) (m1 : (0 ≤ (4 : Int) ∧ M 95 (4 : Int).toNat = (s1))) (m2 : (0 ≤ (s4) ∧ M 94 (s4).toNat = (0 : Int))) (m3 : (0 ≤ (53 : Int) ∧ M 61 (53 : Int).toNat = (s2))) (m4 : (0 ≤ (55 : Int) ∧ M 61 (55 : Int).toNat = (s3))) (m5 : (0 ≤ (s4) ∧ M 91 (s4).toNat = (s0))) (f0 : 0 ≤ (s0 + (-1) * s1)) (f1 : 0 ≤ (s0 - 36)) (hG : gI M) : (HP 22 (s4 + 1) (0 : Int) M ∧ True) := by
  obtain ⟨a1, a2, a3⟩ := m0
  have hj : lnj (M 61 54) 0 (lF M s4.toNat) = 4 := lnj_0
  have hx : lF M s4.toNat 4 = s1 := by rw [← a3 4 (by omega)]; exact m1.2
  have hg : lng (M 61 54) 0 s0 (lF M s4.toNat) = s0 := lng_q hj hx (by omega)
  have h94 : M 94 s4.toNat = 0 := m2.2
  have hw : M 61 53 = s2 := m3.2
  have ht : M 61 55 = s3 := m4.2
  have hl : lpl (M 61 54) 0 (lF M s4.toNat) = 0 := lpl_0
  have h91 : M 91 s4.toNat = s0 := m5.2
  refine ⟨⟨by omega, by omega, fun k hk => ?_⟩, trivial⟩
  rw [show (s4 + 1).toNat = s4.toNat + 1 by omega, lF_u, h94, h91, lst_n hg (by omega)]
  exact a3 k hk
theorem rul_86 : Rul r_86 := by
  refine ⟨fun _ ρ M hm hB hF hG => ?_, fun gi gv hg => (by cases hg)⟩
  have H := cr_86 M (ρ 0) (ρ 1) (ρ 2) (ρ 3) (ρ 4) (hB _ List.mem_cons_self) (hB _ (List.mem_cons_of_mem _ List.mem_cons_self)) (hB _ (List.mem_cons_of_mem _ (List.mem_cons_of_mem _ List.mem_cons_self))) (hB _ (List.mem_cons_of_mem _ (List.mem_cons_of_mem _ (List.mem_cons_of_mem _ List.mem_cons_self)))) (hB _ (List.mem_cons_of_mem _ (List.mem_cons_of_mem _ (List.mem_cons_of_mem _ (List.mem_cons_of_mem _ List.mem_cons_self))))) (cvp 22 (x' := ((ρ 4))) (y' := (0 : Int)) (by show 0 + (1 * ρ 4 + 0) = _; omega) (by show 0 + 0 = _; omega) (hm _ List.mem_cons_self)) (cvm (c := 95) (by decide) (x' := (4 : Int)) (y' := ((ρ 1))) (by show 4 + 0 = _; omega) (by show 0 + (1 * ρ 1 + 0) = _; omega) (hm _ (List.mem_cons_of_mem _ List.mem_cons_self))) (cvm (c := 94) (by decide) (x' := ((ρ 4))) (y' := (0 : Int)) (by show 0 + (1 * ρ 4 + 0) = _; omega) (by show 0 + 0 = _; omega) (hm _ (List.mem_cons_of_mem _ (List.mem_cons_of_mem _ List.mem_cons_self)))) (cvm (c := 61) (by decide) (x' := (53 : Int)) (y' := ((ρ 2))) (by show 53 + 0 = _; omega) (by show 0 + (1 * ρ 2 + 0) = _; omega) (hm _ (List.mem_cons_of_mem _ (List.mem_cons_of_mem _ (List.mem_cons_of_mem _ List.mem_cons_self))))) (cvm (c := 61) (by decide) (x' := (55 : Int)) (y' := ((ρ 3))) (by show 55 + 0 = _; omega) (by show 0 + (1 * ρ 3 + 0) = _; omega) (hm _ (List.mem_cons_of_mem _ (List.mem_cons_of_mem _ (List.mem_cons_of_mem _ (List.mem_cons_of_mem _ List.mem_cons_self)))))) (cvm (c := 91) (by decide) (x' := ((ρ 4))) (y' := ((ρ 0))) (by show 0 + (1 * ρ 4 + 0) = _; omega) (by show 0 + (1 * ρ 0 + 0) = _; omega) (hm _ (List.mem_cons_of_mem _ (List.mem_cons_of_mem _ (List.mem_cons_of_mem _ (List.mem_cons_of_mem _ (List.mem_cons_of_mem _ List.mem_cons_self))))))) (by have h := hF _ List.mem_cons_self; have h : 0 ≤ 0 + (1 * ρ 0 + ((-1) * ρ 1 + 0)) := h; omega) (by have h := hF _ (List.mem_cons_of_mem _ List.mem_cons_self); have h : 0 ≤ (-36) + (1 * ρ 0 + 0) := h; omega) hG
  obtain ⟨k0, -⟩ := H
  exact ⟨_, List.mem_cons_self, ρ, fun _ _ => rfl, (okM_c (pvp 22 (by show 1 + (1 * ρ 4 + 0) = _; omega) (by show 0 + 0 = _; omega) k0) okM_n), okB_n, okF_n⟩
-- xb010
theorem cr_87 (M : pM) (s0 s1 s2 s3 s4 : Int) (b0 : 0 ≤ s0 ∧ s0 ≤ 29) (b1 : 0 ≤ s1 ∧ s1 ≤ 35) (b2 : 0 ≤ s2 ∧ s2 ≤ 44) (b3 : 1 ≤ s3 ∧ s3 ≤ 9) (b4 : 1 ≤ s4 ∧ s4 ≤ 9) (m0 : HP 28 (s0) (s2) M) (m1 : (0 ≤ (53 : Int) ∧ M 61 (53 : Int).toNat = (s3))) (m2 : (0 ≤ (55 : Int) ∧ M 61 (55 : Int).toNat = (s4))) (m3 : (0 ≤ (s0) ∧ M 37 (s0).toNat = (s2))) (m4 : (0 ≤ (s0) ∧ M 38 (s0).toNat = (s2 + s3))) (m5 : (0 ≤ (s0) ∧ M 39 (s0).toNat = (0 : Int))) (f0 : 0 ≤ ((-1) * s1 + s2 - 1)) (f1 : 0 ≤ ((-1) * s2 + 35)) (hG : gI M) : (HP 31 (s0) (2 * s1) M ∧ True) := by
  obtain ⟨a1, a2, a3⟩ := m0
  have hj : lnj (M 61 54) 0 (lF M s0.toNat) = 4 := lnj_0
  have hx : lF M s0.toNat 4 = s2 := a3.symm
  have hg : lng (M 61 54) 0 s1 (lF M s0.toNat) = s2 := lng_m hj hx (by omega)
  have hw : M 61 53 = s3 := m1.2
  have ht : M 61 55 = s4 := m2.2
  have hl : lpl (M 61 54) 0 (lF M s0.toNat) = 0 := lpl_0
  refine ⟨⟨by omega, by omega, s1, 0, ⟨by omega, by omega, by omega, by omega⟩, by omega, ?_⟩, trivial⟩
  exact ⟨by rw [lub_y hg (by omega)]; exact m3.2, by rw [lfr_y hg (by omega), lnd_0, hw]; exact m4.2, by rw [lby_y hg (by omega), hl]; exact m5.2⟩
theorem rul_87 : Rul r_87 := by
  refine ⟨fun _ ρ M hm hB hF hG => ?_, fun gi gv hg => (by cases hg)⟩
  have H := cr_87 M (ρ 0) (ρ 1) (ρ 2) (ρ 3) (ρ 4) (hB _ List.mem_cons_self) (hB _ (List.mem_cons_of_mem _ List.mem_cons_self)) (hB _ (List.mem_cons_of_mem _ (List.mem_cons_of_mem _ List.mem_cons_self))) (hB _ (List.mem_cons_of_mem _ (List.mem_cons_of_mem _ (List.mem_cons_of_mem _ List.mem_cons_self)))) (hB _ (List.mem_cons_of_mem _ (List.mem_cons_of_mem _ (List.mem_cons_of_mem _ (List.mem_cons_of_mem _ List.mem_cons_self))))) (cvp 28 (x' := ((ρ 0))) (y' := ((ρ 2))) (by show 0 + (1 * ρ 0 + 0) = _; omega) (by show 0 + (1 * ρ 2 + 0) = _; omega) (hm _ List.mem_cons_self)) (cvm (c := 61) (by decide) (x' := (53 : Int)) (y' := ((ρ 3))) (by show 53 + 0 = _; omega) (by show 0 + (1 * ρ 3 + 0) = _; omega) (hm _ (List.mem_cons_of_mem _ List.mem_cons_self))) (cvm (c := 61) (by decide) (x' := (55 : Int)) (y' := ((ρ 4))) (by show 55 + 0 = _; omega) (by show 0 + (1 * ρ 4 + 0) = _; omega) (hm _ (List.mem_cons_of_mem _ (List.mem_cons_of_mem _ List.mem_cons_self)))) (cvm (c := 37) (by decide) (x' := ((ρ 0))) (y' := ((ρ 2))) (by show 0 + (1 * ρ 0 + 0) = _; omega) (by show 0 + (1 * ρ 2 + 0) = _; omega) (hm _ (List.mem_cons_of_mem _ (List.mem_cons_of_mem _ (List.mem_cons_of_mem _ List.mem_cons_self))))) (cvm (c := 38) (by decide) (x' := ((ρ 0))) (y' := ((ρ 2) + (ρ 3))) (by show 0 + (1 * ρ 0 + 0) = _; omega) (by show 0 + (1 * ρ 2 + (1 * ρ 3 + 0)) = _; omega) (hm _ (List.mem_cons_of_mem _ (List.mem_cons_of_mem _ (List.mem_cons_of_mem _ (List.mem_cons_of_mem _ List.mem_cons_self)))))) (cvm (c := 39) (by decide) (x' := ((ρ 0))) (y' := (0 : Int)) (by show 0 + (1 * ρ 0 + 0) = _; omega) (by show 0 + 0 = _; omega) (hm _ (List.mem_cons_of_mem _ (List.mem_cons_of_mem _ (List.mem_cons_of_mem _ (List.mem_cons_of_mem _ (List.mem_cons_of_mem _ List.mem_cons_self))))))) (by have h := hF _ List.mem_cons_self; have h : 0 ≤ (-1) + ((-1) * ρ 1 + (1 * ρ 2 + 0)) := h; omega) (by have h := hF _ (List.mem_cons_of_mem _ List.mem_cons_self); have h : 0 ≤ 35 + ((-1) * ρ 2 + 0) := h; omega) hG
  obtain ⟨k0, -⟩ := H
  exact ⟨_, List.mem_cons_self, ρ, fun _ _ => rfl, (okM_c (pvp 31 (by show 0 + (1 * ρ 0 + 0) = _; omega) (by show 0 + (2 * ρ 1 + 0) = _; omega) k0) okM_n), okB_n, okF_n⟩
-- xw010
theorem cr_88 (M : pM) (s0 s1 s2 s3 s4 : Int) (b0 : 0 ≤ s0 ∧ s0 ≤ 29) (b1 : 0 ≤ s1 ∧ s1 ≤ 35) (b2 : 0 ≤ s2 ∧ s2 ≤ 44) (b3 : 1 ≤ s3 ∧ s3 ≤ 9) (b4 : 1 ≤ s4 ∧ s4 ≤ 9) (m0 : HP 28 (s0) (s2) M) (m1 : (0 ≤ (53 : Int) ∧ M 61 (53 : Int).toNat = (s3))) (m2 : (0 ≤ (55 : Int) ∧ M 61 (55 : Int).toNat = (s4))) (f0 : 0 ≤ ((-1) * s1 + s2 - 1)) (f1 : 0 ≤ ((-1) * s2 + 35)) (hG : gI M) : (HP 30 (128 * s0 + 2 * s1) (s2 + s3) M ∧ True) := by
  obtain ⟨a1, a2, a3⟩ := m0
  have hj : lnj (M 61 54) 0 (lF M s0.toNat) = 4 := lnj_0
  have hx : lF M s0.toNat 4 = s2 := a3.symm
  have hg : lng (M 61 54) 0 s1 (lF M s0.toNat) = s2 := lng_m hj hx (by omega)
  have hw : M 61 53 = s3 := m1.2
  have ht : M 61 55 = s4 := m2.2
  have hl : lpl (M 61 54) 0 (lF M s0.toNat) = 0 := lpl_0
  refine ⟨⟨s0, s1, 0, by omega, by omega, ⟨by omega, by omega, by omega, by omega⟩, by omega, ?_⟩, trivial⟩
  rw [lst_y hj hg (by omega), lnd_0, hw]
theorem rul_88 : Rul r_88 := by
  refine ⟨fun _ ρ M hm hB hF hG => ?_, fun gi gv hg => (by cases hg)⟩
  have H := cr_88 M (ρ 0) (ρ 1) (ρ 2) (ρ 3) (ρ 4) (hB _ List.mem_cons_self) (hB _ (List.mem_cons_of_mem _ List.mem_cons_self)) (hB _ (List.mem_cons_of_mem _ (List.mem_cons_of_mem _ List.mem_cons_self))) (hB _ (List.mem_cons_of_mem _ (List.mem_cons_of_mem _ (List.mem_cons_of_mem _ List.mem_cons_self)))) (hB _ (List.mem_cons_of_mem _ (List.mem_cons_of_mem _ (List.mem_cons_of_mem _ (List.mem_cons_of_mem _ List.mem_cons_self))))) (cvp 28 (x' := ((ρ 0))) (y' := ((ρ 2))) (by show 0 + (1 * ρ 0 + 0) = _; omega) (by show 0 + (1 * ρ 2 + 0) = _; omega) (hm _ List.mem_cons_self)) (cvm (c := 61) (by decide) (x' := (53 : Int)) (y' := ((ρ 3))) (by show 53 + 0 = _; omega) (by show 0 + (1 * ρ 3 + 0) = _; omega) (hm _ (List.mem_cons_of_mem _ List.mem_cons_self))) (cvm (c := 61) (by decide) (x' := (55 : Int)) (y' := ((ρ 4))) (by show 55 + 0 = _; omega) (by show 0 + (1 * ρ 4 + 0) = _; omega) (hm _ (List.mem_cons_of_mem _ (List.mem_cons_of_mem _ List.mem_cons_self)))) (by have h := hF _ List.mem_cons_self; have h : 0 ≤ (-1) + ((-1) * ρ 1 + (1 * ρ 2 + 0)) := h; omega) (by have h := hF _ (List.mem_cons_of_mem _ List.mem_cons_self); have h : 0 ≤ 35 + ((-1) * ρ 2 + 0) := h; omega) hG
  obtain ⟨k0, -⟩ := H
  exact ⟨_, List.mem_cons_self, ρ, fun _ _ => rfl, (okM_c (pvp 30 (by show 0 + (128 * ρ 0 + (2 * ρ 1 + 0)) = _; omega) (by show 0 + (1 * ρ 2 + (1 * ρ 3 + 0)) = _; omega) k0) okM_n), okB_n, okF_n⟩
-- ub010
theorem cr_89 (M : pM) (s0 s1 s2 s3 s4 : Int) (b0 : 0 ≤ s0 ∧ s0 ≤ 35) (b1 : (-2147483648) ≤ s1 ∧ s1 ≤ 2147483647) (b2 : 1 ≤ s2 ∧ s2 ≤ 9) (b3 : 1 ≤ s3 ∧ s3 ≤ 9) (b4 : 0 ≤ s4 ∧ s4 ≤ 29) (m0 : HP 22 (s4) (0 : Int) M) (m1 : (0 ≤ (4 : Int) ∧ M 95 (4 : Int).toNat = (s1))) (m2 : (0 ≤ (s4) ∧ M 94 (s4).toNat = (0 : Int))) (m3 : (0 ≤ (53 : Int) ∧ M 61 (53 : Int).toNat = (s2))) (m4 : (0 ≤ (55 : Int) ∧ M 61 (55 : Int).toNat = (s3))) (m5 : HP 24 (s4) (0 : Int) M) (m6 : (0 ≤ (s4) ∧ M 91 (s4).toNat = (s0))) (m7 : (0 ≤ (s4) ∧ M 92 (s4).toNat = (s1))) (m8 : (0 ≤ (s4) ∧ M 93 (s4).toNat = (0 : Int))) (f0 : 0 ≤ ((-1) * s0 + s1 - 1)) (f1 : 0 ≤ ((-1) * s1 + 35)) (hG : gI M) : (HP 24 (s4 + 1) (0 : Int) M ∧ True) := by
  obtain ⟨a1, a2, a3⟩ := m0
  have hj : lnj (M 61 54) 0 (lF M s4.toNat) = 4 := lnj_0
  have hx : lF M s4.toNat 4 = s1 := by rw [← a3 4 (by omega)]; exact m1.2
  have hg : lng (M 61 54) 0 s0 (lF M s4.toNat) = s1 := lng_m hj hx (by omega)
  have h94 : M 94 s4.toNat = 0 := m2.2
  have hw : M 61 53 = s2 := m3.2
  have ht : M 61 55 = s3 := m4.2
  have hl : lpl (M 61 54) 0 (lF M s4.toNat) = 0 := lpl_0
  have h91 : M 91 s4.toNat = s0 := m6.2
  obtain ⟨d1, d2, d3⟩ := m5
  refine ⟨⟨by omega, by omega, fun v hv => ?_⟩, trivial⟩
  by_cases hv2 : v = s4.toNat
  · rw [hv2]
    unfold ubo
    rw [h94, h91, lub_y hg (by omega), hl]
    exact ⟨m7.2, m8.2⟩
  · exact d3 v (by omega)
theorem rul_89 : Rul r_89 := by
  refine ⟨fun _ ρ M hm hB hF hG => ?_, fun gi gv hg => (by cases hg)⟩
  have H := cr_89 M (ρ 0) (ρ 1) (ρ 2) (ρ 3) (ρ 4) (hB _ List.mem_cons_self) (hB _ (List.mem_cons_of_mem _ List.mem_cons_self)) (hB _ (List.mem_cons_of_mem _ (List.mem_cons_of_mem _ List.mem_cons_self))) (hB _ (List.mem_cons_of_mem _ (List.mem_cons_of_mem _ (List.mem_cons_of_mem _ List.mem_cons_self)))) (hB _ (List.mem_cons_of_mem _ (List.mem_cons_of_mem _ (List.mem_cons_of_mem _ (List.mem_cons_of_mem _ List.mem_cons_self))))) (cvp 22 (x' := ((ρ 4))) (y' := (0 : Int)) (by show 0 + (1 * ρ 4 + 0) = _; omega) (by show 0 + 0 = _; omega) (hm _ List.mem_cons_self)) (cvm (c := 95) (by decide) (x' := (4 : Int)) (y' := ((ρ 1))) (by show 4 + 0 = _; omega) (by show 0 + (1 * ρ 1 + 0) = _; omega) (hm _ (List.mem_cons_of_mem _ List.mem_cons_self))) (cvm (c := 94) (by decide) (x' := ((ρ 4))) (y' := (0 : Int)) (by show 0 + (1 * ρ 4 + 0) = _; omega) (by show 0 + 0 = _; omega) (hm _ (List.mem_cons_of_mem _ (List.mem_cons_of_mem _ List.mem_cons_self)))) (cvm (c := 61) (by decide) (x' := (53 : Int)) (y' := ((ρ 2))) (by show 53 + 0 = _; omega) (by show 0 + (1 * ρ 2 + 0) = _; omega) (hm _ (List.mem_cons_of_mem _ (List.mem_cons_of_mem _ (List.mem_cons_of_mem _ List.mem_cons_self))))) (cvm (c := 61) (by decide) (x' := (55 : Int)) (y' := ((ρ 3))) (by show 55 + 0 = _; omega) (by show 0 + (1 * ρ 3 + 0) = _; omega) (hm _ (List.mem_cons_of_mem _ (List.mem_cons_of_mem _ (List.mem_cons_of_mem _ (List.mem_cons_of_mem _ List.mem_cons_self)))))) (cvp 24 (x' := ((ρ 4))) (y' := (0 : Int)) (by show 0 + (1 * ρ 4 + 0) = _; omega) (by show 0 + 0 = _; omega) (hm _ (List.mem_cons_of_mem _ (List.mem_cons_of_mem _ (List.mem_cons_of_mem _ (List.mem_cons_of_mem _ (List.mem_cons_of_mem _ List.mem_cons_self))))))) (cvm (c := 91) (by decide) (x' := ((ρ 4))) (y' := ((ρ 0))) (by show 0 + (1 * ρ 4 + 0) = _; omega) (by show 0 + (1 * ρ 0 + 0) = _; omega) (hm _ (List.mem_cons_of_mem _ (List.mem_cons_of_mem _ (List.mem_cons_of_mem _ (List.mem_cons_of_mem _ (List.mem_cons_of_mem _ (List.mem_cons_of_mem _ List.mem_cons_self)))))))) (cvm (c := 92) (by decide) (x' := ((ρ 4))) (y' := ((ρ 1))) (by show 0 + (1 * ρ 4 + 0) = _; omega) (by show 0 + (1 * ρ 1 + 0) = _; omega) (hm _ (List.mem_cons_of_mem _ (List.mem_cons_of_mem _ (List.mem_cons_of_mem _ (List.mem_cons_of_mem _ (List.mem_cons_of_mem _ (List.mem_cons_of_mem _ (List.mem_cons_of_mem _ List.mem_cons_self))))))))) (cvm (c := 93) (by decide) (x' := ((ρ 4))) (y' := (0 : Int)) (by show 0 + (1 * ρ 4 + 0) = _; omega) (by show 0 + 0 = _; omega) (hm _ (List.mem_cons_of_mem _ (List.mem_cons_of_mem _ (List.mem_cons_of_mem _ (List.mem_cons_of_mem _ (List.mem_cons_of_mem _ (List.mem_cons_of_mem _ (List.mem_cons_of_mem _ (List.mem_cons_of_mem _ List.mem_cons_self)))))))))) (by have h := hF _ List.mem_cons_self; have h : 0 ≤ (-1) + ((-1) * ρ 0 + (1 * ρ 1 + 0)) := h; omega) (by have h := hF _ (List.mem_cons_of_mem _ List.mem_cons_self); have h : 0 ≤ 35 + ((-1) * ρ 1 + 0) := h; omega) hG
  obtain ⟨k0, -⟩ := H
  exact ⟨_, List.mem_cons_self, ρ, fun _ _ => rfl, (okM_c (pvp 24 (by show 1 + (1 * ρ 4 + 0) = _; omega) (by show 0 + 0 = _; omega) k0) okM_n), okB_n, okF_n⟩
-- fs010
theorem cr_90 (M : pM) (s0 s1 s2 s3 s4 : Int) (b0 : 0 ≤ s0 ∧ s0 ≤ 35) (b1 : (-2147483648) ≤ s1 ∧ s1 ≤ 2147483647) (b2 : 1 ≤ s2 ∧ s2 ≤ 9) (b3 : 1 ≤ s3 ∧ s3 ≤ 9) (b4 : 0 ≤ s4 ∧ s4 ≤ 29) (m0 : HP 22 (s4) (0 : Int) M) (m1 : (0 ≤ (4 : Int) ∧ M 95 (4 : Int).toNat = (s1))) (m2 : (0 ≤ (s4) ∧ M 94 (s4).toNat = (0 : Int))) (m3 : (0 ≤ (53 : Int) ∧ M 61 (53 : Int).toNat = (s2))) (m4 : (0 ≤ (55 : Int) ∧ M 61 (55 : Int).toNat = (s3))) (m5 : (0 ≤ (s4) ∧ M 91 (s4).toNat = (s0))) (f0 : 0 ≤ ((-1) * s0 + s1 - 1)) (f1 : 0 ≤ ((-1) * s1 + 35)) (hG : gI M) : (HP 22 (s4 + 1) (0 : Int) (st M 95 (4 : Int).toNat (s1 + s2)) ∧ True) := by
  obtain ⟨a1, a2, a3⟩ := m0
  have hj : lnj (M 61 54) 0 (lF M s4.toNat) = 4 := lnj_0
  have hx : lF M s4.toNat 4 = s1 := by rw [← a3 4 (by omega)]; exact m1.2
  have hg : lng (M 61 54) 0 s0 (lF M s4.toNat) = s1 := lng_m hj hx (by omega)
  have h94 : M 94 s4.toNat = 0 := m2.2
  have hw : M 61 53 = s2 := m3.2
  have ht : M 61 55 = s3 := m4.2
  have hl : lpl (M 61 54) 0 (lF M s4.toNat) = 0 := lpl_0
  have h91 : M 91 s4.toNat = s0 := m5.2
  refine ⟨⟨by omega, by omega, fun k hk => ?_⟩, trivial⟩
  rw [show (s4 + 1).toNat = s4.toNat + 1 by omega, lF_s (by decide) (fun i _ h => absurd h.1 (by decide)) (fun i _ h => absurd h.1 (by decide)), lF_u, h94, h91]
  by_cases hk2 : k = 4
  · rw [hk2, lst_y hj hg (by omega), lnd_0, hw]
    exact sq_s
  · rw [lst_o hj hk2, sq_o (i := (4 : Int).toNat) (fun h => hk2 h.2)]
    exact a3 k hk
theorem rul_90 : Rul r_90 := by
  refine ⟨fun h => (by cases h), fun gi gv hg ρ M hm hB hF hG => ?_⟩
  obtain ⟨g1, g2⟩ := List.cons.inj (show ([aI ((4 : Int), ([] : List (Nat × Int))), aI ((0 : Int), ([(1, 1), (2, 1)] : List (Nat × Int)))] : List av) = [.inl gi, .inl gv] from hg)
  obtain ⟨g2, -⟩ := List.cons.inj g2
  cases g1
  cases g2
  have ei : ev ρ ((4 : Int), ([] : List (Nat × Int))) = (4 : Int) := by show 4 + 0 = _; omega
  have ew : ev ρ ((0 : Int), ([(1, 1), (2, 1)] : List (Nat × Int))) = ((ρ 1) + (ρ 2)) := by show 0 + (1 * ρ 1 + (1 * ρ 2 + 0)) = _; omega
  rw [show (st M (ctj r_90) (ev ρ ((4 : Int), ([] : List (Nat × Int)))).toNat (ev ρ ((0 : Int), ([(1, 1), (2, 1)] : List (Nat × Int))))) = (st M 95 (4 : Int).toNat ((ρ 1) + (ρ 2))) from by rw [ei, ew]; rfl]
  have H := cr_90 M (ρ 0) (ρ 1) (ρ 2) (ρ 3) (ρ 4) (hB _ List.mem_cons_self) (hB _ (List.mem_cons_of_mem _ List.mem_cons_self)) (hB _ (List.mem_cons_of_mem _ (List.mem_cons_of_mem _ List.mem_cons_self))) (hB _ (List.mem_cons_of_mem _ (List.mem_cons_of_mem _ (List.mem_cons_of_mem _ List.mem_cons_self)))) (hB _ (List.mem_cons_of_mem _ (List.mem_cons_of_mem _ (List.mem_cons_of_mem _ (List.mem_cons_of_mem _ List.mem_cons_self))))) (cvp 22 (x' := ((ρ 4))) (y' := (0 : Int)) (by show 0 + (1 * ρ 4 + 0) = _; omega) (by show 0 + 0 = _; omega) (hm _ List.mem_cons_self)) (cvm (c := 95) (by decide) (x' := (4 : Int)) (y' := ((ρ 1))) (by show 4 + 0 = _; omega) (by show 0 + (1 * ρ 1 + 0) = _; omega) (hm _ (List.mem_cons_of_mem _ List.mem_cons_self))) (cvm (c := 94) (by decide) (x' := ((ρ 4))) (y' := (0 : Int)) (by show 0 + (1 * ρ 4 + 0) = _; omega) (by show 0 + 0 = _; omega) (hm _ (List.mem_cons_of_mem _ (List.mem_cons_of_mem _ List.mem_cons_self)))) (cvm (c := 61) (by decide) (x' := (53 : Int)) (y' := ((ρ 2))) (by show 53 + 0 = _; omega) (by show 0 + (1 * ρ 2 + 0) = _; omega) (hm _ (List.mem_cons_of_mem _ (List.mem_cons_of_mem _ (List.mem_cons_of_mem _ List.mem_cons_self))))) (cvm (c := 61) (by decide) (x' := (55 : Int)) (y' := ((ρ 3))) (by show 55 + 0 = _; omega) (by show 0 + (1 * ρ 3 + 0) = _; omega) (hm _ (List.mem_cons_of_mem _ (List.mem_cons_of_mem _ (List.mem_cons_of_mem _ (List.mem_cons_of_mem _ List.mem_cons_self)))))) (cvm (c := 91) (by decide) (x' := ((ρ 4))) (y' := ((ρ 0))) (by show 0 + (1 * ρ 4 + 0) = _; omega) (by show 0 + (1 * ρ 0 + 0) = _; omega) (hm _ (List.mem_cons_of_mem _ (List.mem_cons_of_mem _ (List.mem_cons_of_mem _ (List.mem_cons_of_mem _ (List.mem_cons_of_mem _ List.mem_cons_self))))))) (by have h := hF _ List.mem_cons_self; have h : 0 ≤ (-1) + ((-1) * ρ 0 + (1 * ρ 1 + 0)) := h; omega) (by have h := hF _ (List.mem_cons_of_mem _ List.mem_cons_self); have h : 0 ≤ 35 + ((-1) * ρ 1 + 0) := h; omega) hG
  obtain ⟨k0, -⟩ := H
  exact ⟨_, List.mem_cons_self, ρ, fun _ _ => rfl, (okM_c (pvp 22 (by show 1 + (1 * ρ 4 + 0) = _; omega) (by show 0 + 0 = _; omega) k0) okM_n), okB_n, okF_n⟩
-- xb011
theorem cr_91 (M : pM) (s0 s1 s2 s3 s4 : Int) (b0 : 0 ≤ s0 ∧ s0 ≤ 29) (b1 : 0 ≤ s1 ∧ s1 ≤ 35) (b2 : 0 ≤ s2 ∧ s2 ≤ 44) (b3 : 1 ≤ s3 ∧ s3 ≤ 9) (b4 : 1 ≤ s4 ∧ s4 ≤ 9) (m0 : HP 28 (s0) (s2) M) (m1 : (0 ≤ (53 : Int) ∧ M 61 (53 : Int).toNat = (s3))) (m2 : (0 ≤ (55 : Int) ∧ M 61 (55 : Int).toNat = (s4))) (m3 : (0 ≤ (s0) ∧ M 37 (s0).toNat = (-1 : Int))) (m4 : (0 ≤ (s0) ∧ M 38 (s0).toNat = (-1 : Int))) (m5 : (0 ≤ (s0) ∧ M 39 (s0).toNat = (-1 : Int))) (f0 : 0 ≤ ((-1) * s1 + s2 - 1)) (f1 : 0 ≤ (s2 - 36)) (hG : gI M) : (HP 31 (s0) (2 * s1) M ∧ True) := by
  obtain ⟨a1, a2, a3⟩ := m0
  have hj : lnj (M 61 54) 0 (lF M s0.toNat) = 4 := lnj_0
  have hx : lF M s0.toNat 4 = s2 := a3.symm
  have hg : lng (M 61 54) 0 s1 (lF M s0.toNat) = s2 := lng_m hj hx (by omega)
  have hw : M 61 53 = s3 := m1.2
  have ht : M 61 55 = s4 := m2.2
  have hl : lpl (M 61 54) 0 (lF M s0.toNat) = 0 := lpl_0
  refine ⟨⟨by omega, by omega, s1, 0, ⟨by omega, by omega, by omega, by omega⟩, by omega, ?_⟩, trivial⟩
  exact ⟨by rw [lub_n hg (by omega)]; exact m3.2, by rw [lfr_n hg (by omega)]; exact m4.2, by rw [lby_n hg (by omega)]; exact m5.2⟩
theorem rul_91 : Rul r_91 := by
  refine ⟨fun _ ρ M hm hB hF hG => ?_, fun gi gv hg => (by cases hg)⟩
  have H := cr_91 M (ρ 0) (ρ 1) (ρ 2) (ρ 3) (ρ 4) (hB _ List.mem_cons_self) (hB _ (List.mem_cons_of_mem _ List.mem_cons_self)) (hB _ (List.mem_cons_of_mem _ (List.mem_cons_of_mem _ List.mem_cons_self))) (hB _ (List.mem_cons_of_mem _ (List.mem_cons_of_mem _ (List.mem_cons_of_mem _ List.mem_cons_self)))) (hB _ (List.mem_cons_of_mem _ (List.mem_cons_of_mem _ (List.mem_cons_of_mem _ (List.mem_cons_of_mem _ List.mem_cons_self))))) (cvp 28 (x' := ((ρ 0))) (y' := ((ρ 2))) (by show 0 + (1 * ρ 0 + 0) = _; omega) (by show 0 + (1 * ρ 2 + 0) = _; omega) (hm _ List.mem_cons_self)) (cvm (c := 61) (by decide) (x' := (53 : Int)) (y' := ((ρ 3))) (by show 53 + 0 = _; omega) (by show 0 + (1 * ρ 3 + 0) = _; omega) (hm _ (List.mem_cons_of_mem _ List.mem_cons_self))) (cvm (c := 61) (by decide) (x' := (55 : Int)) (y' := ((ρ 4))) (by show 55 + 0 = _; omega) (by show 0 + (1 * ρ 4 + 0) = _; omega) (hm _ (List.mem_cons_of_mem _ (List.mem_cons_of_mem _ List.mem_cons_self)))) (cvm (c := 37) (by decide) (x' := ((ρ 0))) (y' := (-1 : Int)) (by show 0 + (1 * ρ 0 + 0) = _; omega) (by show (-1) + 0 = _; omega) (hm _ (List.mem_cons_of_mem _ (List.mem_cons_of_mem _ (List.mem_cons_of_mem _ List.mem_cons_self))))) (cvm (c := 38) (by decide) (x' := ((ρ 0))) (y' := (-1 : Int)) (by show 0 + (1 * ρ 0 + 0) = _; omega) (by show (-1) + 0 = _; omega) (hm _ (List.mem_cons_of_mem _ (List.mem_cons_of_mem _ (List.mem_cons_of_mem _ (List.mem_cons_of_mem _ List.mem_cons_self)))))) (cvm (c := 39) (by decide) (x' := ((ρ 0))) (y' := (-1 : Int)) (by show 0 + (1 * ρ 0 + 0) = _; omega) (by show (-1) + 0 = _; omega) (hm _ (List.mem_cons_of_mem _ (List.mem_cons_of_mem _ (List.mem_cons_of_mem _ (List.mem_cons_of_mem _ (List.mem_cons_of_mem _ List.mem_cons_self))))))) (by have h := hF _ List.mem_cons_self; have h : 0 ≤ (-1) + ((-1) * ρ 1 + (1 * ρ 2 + 0)) := h; omega) (by have h := hF _ (List.mem_cons_of_mem _ List.mem_cons_self); have h : 0 ≤ (-36) + (1 * ρ 2 + 0) := h; omega) hG
  obtain ⟨k0, -⟩ := H
  exact ⟨_, List.mem_cons_self, ρ, fun _ _ => rfl, (okM_c (pvp 31 (by show 0 + (1 * ρ 0 + 0) = _; omega) (by show 0 + (2 * ρ 1 + 0) = _; omega) k0) okM_n), okB_n, okF_n⟩
-- xw011
theorem cr_92 (M : pM) (s0 s1 s2 s3 s4 : Int) (b0 : 0 ≤ s0 ∧ s0 ≤ 29) (b1 : 0 ≤ s1 ∧ s1 ≤ 35) (b2 : 0 ≤ s2 ∧ s2 ≤ 44) (b3 : 1 ≤ s3 ∧ s3 ≤ 9) (b4 : 1 ≤ s4 ∧ s4 ≤ 9) (m0 : HP 28 (s0) (s2) M) (m1 : (0 ≤ (53 : Int) ∧ M 61 (53 : Int).toNat = (s3))) (m2 : (0 ≤ (55 : Int) ∧ M 61 (55 : Int).toNat = (s4))) (f0 : 0 ≤ ((-1) * s1 + s2 - 1)) (f1 : 0 ≤ (s2 - 36)) (hG : gI M) : (HP 30 (128 * s0 + 2 * s1) (s2) M ∧ True) := by
  obtain ⟨a1, a2, a3⟩ := m0
  have hj : lnj (M 61 54) 0 (lF M s0.toNat) = 4 := lnj_0
  have hx : lF M s0.toNat 4 = s2 := a3.symm
  have hg : lng (M 61 54) 0 s1 (lF M s0.toNat) = s2 := lng_m hj hx (by omega)
  have hw : M 61 53 = s3 := m1.2
  have ht : M 61 55 = s4 := m2.2
  have hl : lpl (M 61 54) 0 (lF M s0.toNat) = 0 := lpl_0
  refine ⟨⟨s0, s1, 0, by omega, by omega, ⟨by omega, by omega, by omega, by omega⟩, by omega, ?_⟩, trivial⟩
  rw [lst_n hg (by omega)]
  exact a3
theorem rul_92 : Rul r_92 := by
  refine ⟨fun _ ρ M hm hB hF hG => ?_, fun gi gv hg => (by cases hg)⟩
  have H := cr_92 M (ρ 0) (ρ 1) (ρ 2) (ρ 3) (ρ 4) (hB _ List.mem_cons_self) (hB _ (List.mem_cons_of_mem _ List.mem_cons_self)) (hB _ (List.mem_cons_of_mem _ (List.mem_cons_of_mem _ List.mem_cons_self))) (hB _ (List.mem_cons_of_mem _ (List.mem_cons_of_mem _ (List.mem_cons_of_mem _ List.mem_cons_self)))) (hB _ (List.mem_cons_of_mem _ (List.mem_cons_of_mem _ (List.mem_cons_of_mem _ (List.mem_cons_of_mem _ List.mem_cons_self))))) (cvp 28 (x' := ((ρ 0))) (y' := ((ρ 2))) (by show 0 + (1 * ρ 0 + 0) = _; omega) (by show 0 + (1 * ρ 2 + 0) = _; omega) (hm _ List.mem_cons_self)) (cvm (c := 61) (by decide) (x' := (53 : Int)) (y' := ((ρ 3))) (by show 53 + 0 = _; omega) (by show 0 + (1 * ρ 3 + 0) = _; omega) (hm _ (List.mem_cons_of_mem _ List.mem_cons_self))) (cvm (c := 61) (by decide) (x' := (55 : Int)) (y' := ((ρ 4))) (by show 55 + 0 = _; omega) (by show 0 + (1 * ρ 4 + 0) = _; omega) (hm _ (List.mem_cons_of_mem _ (List.mem_cons_of_mem _ List.mem_cons_self)))) (by have h := hF _ List.mem_cons_self; have h : 0 ≤ (-1) + ((-1) * ρ 1 + (1 * ρ 2 + 0)) := h; omega) (by have h := hF _ (List.mem_cons_of_mem _ List.mem_cons_self); have h : 0 ≤ (-36) + (1 * ρ 2 + 0) := h; omega) hG
  obtain ⟨k0, -⟩ := H
  exact ⟨_, List.mem_cons_self, ρ, fun _ _ => rfl, (okM_c (pvp 30 (by show 0 + (128 * ρ 0 + (2 * ρ 1 + 0)) = _; omega) (by show 0 + (1 * ρ 2 + 0) = _; omega) k0) okM_n), okB_n, okF_n⟩
-- ub011
theorem cr_93 (M : pM) (s0 s1 s2 s3 s4 : Int) (b0 : 0 ≤ s0 ∧ s0 ≤ 35) (b1 : (-2147483648) ≤ s1 ∧ s1 ≤ 2147483647) (b2 : 1 ≤ s2 ∧ s2 ≤ 9) (b3 : 1 ≤ s3 ∧ s3 ≤ 9) (b4 : 0 ≤ s4 ∧ s4 ≤ 29) (m0 : HP 22 (s4) (0 : Int) M) (m1 : (0 ≤ (4 : Int) ∧ M 95 (4 : Int).toNat = (s1))) (m2 : (0 ≤ (s4) ∧ M 94 (s4).toNat = (0 : Int))) (m3 : (0 ≤ (53 : Int) ∧ M 61 (53 : Int).toNat = (s2))) (m4 : (0 ≤ (55 : Int) ∧ M 61 (55 : Int).toNat = (s3))) (m5 : HP 24 (s4) (0 : Int) M) (m6 : (0 ≤ (s4) ∧ M 91 (s4).toNat = (s0))) (m7 : (0 ≤ (s4) ∧ M 92 (s4).toNat = (-1 : Int))) (m8 : (0 ≤ (s4) ∧ M 93 (s4).toNat = (0 : Int))) (f0 : 0 ≤ ((-1) * s0 + s1 - 1)) (f1 : 0 ≤ (s1 - 36)) (hG : gI M) : (HP 24 (s4 + 1) (0 : Int) M ∧ True) := by
  obtain ⟨a1, a2, a3⟩ := m0
  have hj : lnj (M 61 54) 0 (lF M s4.toNat) = 4 := lnj_0
  have hx : lF M s4.toNat 4 = s1 := by rw [← a3 4 (by omega)]; exact m1.2
  have hg : lng (M 61 54) 0 s0 (lF M s4.toNat) = s1 := lng_m hj hx (by omega)
  have h94 : M 94 s4.toNat = 0 := m2.2
  have hw : M 61 53 = s2 := m3.2
  have ht : M 61 55 = s3 := m4.2
  have hl : lpl (M 61 54) 0 (lF M s4.toNat) = 0 := lpl_0
  have h91 : M 91 s4.toNat = s0 := m6.2
  obtain ⟨d1, d2, d3⟩ := m5
  refine ⟨⟨by omega, by omega, fun v hv => ?_⟩, trivial⟩
  by_cases hv2 : v = s4.toNat
  · rw [hv2]
    unfold ubo
    rw [h94, h91, lub_n hg (by omega), hl]
    exact ⟨m7.2, m8.2⟩
  · exact d3 v (by omega)
theorem rul_93 : Rul r_93 := by
  refine ⟨fun _ ρ M hm hB hF hG => ?_, fun gi gv hg => (by cases hg)⟩
  have H := cr_93 M (ρ 0) (ρ 1) (ρ 2) (ρ 3) (ρ 4) (hB _ List.mem_cons_self) (hB _ (List.mem_cons_of_mem _ List.mem_cons_self)) (hB _ (List.mem_cons_of_mem _ (List.mem_cons_of_mem _ List.mem_cons_self))) (hB _ (List.mem_cons_of_mem _ (List.mem_cons_of_mem _ (List.mem_cons_of_mem _ List.mem_cons_self)))) (hB _ (List.mem_cons_of_mem _ (List.mem_cons_of_mem _ (List.mem_cons_of_mem _ (List.mem_cons_of_mem _ List.mem_cons_self))))) (cvp 22 (x' := ((ρ 4))) (y' := (0 : Int)) (by show 0 + (1 * ρ 4 + 0) = _; omega) (by show 0 + 0 = _; omega) (hm _ List.mem_cons_self)) (cvm (c := 95) (by decide) (x' := (4 : Int)) (y' := ((ρ 1))) (by show 4 + 0 = _; omega) (by show 0 + (1 * ρ 1 + 0) = _; omega) (hm _ (List.mem_cons_of_mem _ List.mem_cons_self))) (cvm (c := 94) (by decide) (x' := ((ρ 4))) (y' := (0 : Int)) (by show 0 + (1 * ρ 4 + 0) = _; omega) (by show 0 + 0 = _; omega) (hm _ (List.mem_cons_of_mem _ (List.mem_cons_of_mem _ List.mem_cons_self)))) (cvm (c := 61) (by decide) (x' := (53 : Int)) (y' := ((ρ 2))) (by show 53 + 0 = _; omega) (by show 0 + (1 * ρ 2 + 0) = _; omega) (hm _ (List.mem_cons_of_mem _ (List.mem_cons_of_mem _ (List.mem_cons_of_mem _ List.mem_cons_self))))) (cvm (c := 61) (by decide) (x' := (55 : Int)) (y' := ((ρ 3))) (by show 55 + 0 = _; omega) (by show 0 + (1 * ρ 3 + 0) = _; omega) (hm _ (List.mem_cons_of_mem _ (List.mem_cons_of_mem _ (List.mem_cons_of_mem _ (List.mem_cons_of_mem _ List.mem_cons_self)))))) (cvp 24 (x' := ((ρ 4))) (y' := (0 : Int)) (by show 0 + (1 * ρ 4 + 0) = _; omega) (by show 0 + 0 = _; omega) (hm _ (List.mem_cons_of_mem _ (List.mem_cons_of_mem _ (List.mem_cons_of_mem _ (List.mem_cons_of_mem _ (List.mem_cons_of_mem _ List.mem_cons_self))))))) (cvm (c := 91) (by decide) (x' := ((ρ 4))) (y' := ((ρ 0))) (by show 0 + (1 * ρ 4 + 0) = _; omega) (by show 0 + (1 * ρ 0 + 0) = _; omega) (hm _ (List.mem_cons_of_mem _ (List.mem_cons_of_mem _ (List.mem_cons_of_mem _ (List.mem_cons_of_mem _ (List.mem_cons_of_mem _ (List.mem_cons_of_mem _ List.mem_cons_self)))))))) (cvm (c := 92) (by decide) (x' := ((ρ 4))) (y' := (-1 : Int)) (by show 0 + (1 * ρ 4 + 0) = _; omega) (by show (-1) + 0 = _; omega) (hm _ (List.mem_cons_of_mem _ (List.mem_cons_of_mem _ (List.mem_cons_of_mem _ (List.mem_cons_of_mem _ (List.mem_cons_of_mem _ (List.mem_cons_of_mem _ (List.mem_cons_of_mem _ List.mem_cons_self))))))))) (cvm (c := 93) (by decide) (x' := ((ρ 4))) (y' := (0 : Int)) (by show 0 + (1 * ρ 4 + 0) = _; omega) (by show 0 + 0 = _; omega) (hm _ (List.mem_cons_of_mem _ (List.mem_cons_of_mem _ (List.mem_cons_of_mem _ (List.mem_cons_of_mem _ (List.mem_cons_of_mem _ (List.mem_cons_of_mem _ (List.mem_cons_of_mem _ (List.mem_cons_of_mem _ List.mem_cons_self)))))))))) (by have h := hF _ List.mem_cons_self; have h : 0 ≤ (-1) + ((-1) * ρ 0 + (1 * ρ 1 + 0)) := h; omega) (by have h := hF _ (List.mem_cons_of_mem _ List.mem_cons_self); have h : 0 ≤ (-36) + (1 * ρ 1 + 0) := h; omega) hG
  obtain ⟨k0, -⟩ := H
  exact ⟨_, List.mem_cons_self, ρ, fun _ _ => rfl, (okM_c (pvp 24 (by show 1 + (1 * ρ 4 + 0) = _; omega) (by show 0 + 0 = _; omega) k0) okM_n), okB_n, okF_n⟩
-- fs011
theorem cr_94 (M : pM) (s0 s1 s2 s3 s4 : Int) (b0 : 0 ≤ s0 ∧ s0 ≤ 35) (b1 : (-2147483648) ≤ s1 ∧ s1 ≤ 2147483647) (b2 : 1 ≤ s2 ∧ s2 ≤ 9) (b3 : 1 ≤ s3 ∧ s3 ≤ 9) (b4 : 0 ≤ s4 ∧ s4 ≤ 29) (m0 : HP 22 (s4) (0 : Int) M) (m1 : (0 ≤ (4 : Int) ∧ M 95 (4 : Int).toNat = (s1))) (m2 : (0 ≤ (s4) ∧ M 94 (s4).toNat = (0 : Int))) (m3 : (0 ≤ (53 : Int) ∧ M 61 (53 : Int).toNat = (s2))) (m4 : (0 ≤ (55 : Int) ∧ M 61 (55 : Int).toNat = (s3))) (m5 : (0 ≤ (s4) ∧ M 91 (s4).toNat = (s0))) (f0 : 0 ≤ ((-1) * s0 + s1 - 1)) (f1 : 0 ≤ (s1 - 36)) (hG : gI M) : (HP 22 (s4 + 1) (0 : Int) M ∧ True) := by
  obtain ⟨a1, a2, a3⟩ := m0
  have hj : lnj (M 61 54) 0 (lF M s4.toNat) = 4 := lnj_0
  have hx : lF M s4.toNat 4 = s1 := by rw [← a3 4 (by omega)]; exact m1.2
  have hg : lng (M 61 54) 0 s0 (lF M s4.toNat) = s1 := lng_m hj hx (by omega)
  have h94 : M 94 s4.toNat = 0 := m2.2
  have hw : M 61 53 = s2 := m3.2
  have ht : M 61 55 = s3 := m4.2
  have hl : lpl (M 61 54) 0 (lF M s4.toNat) = 0 := lpl_0
  have h91 : M 91 s4.toNat = s0 := m5.2
  refine ⟨⟨by omega, by omega, fun k hk => ?_⟩, trivial⟩
  rw [show (s4 + 1).toNat = s4.toNat + 1 by omega, lF_u, h94, h91, lst_n hg (by omega)]
  exact a3 k hk
theorem rul_94 : Rul r_94 := by
  refine ⟨fun _ ρ M hm hB hF hG => ?_, fun gi gv hg => (by cases hg)⟩
  have H := cr_94 M (ρ 0) (ρ 1) (ρ 2) (ρ 3) (ρ 4) (hB _ List.mem_cons_self) (hB _ (List.mem_cons_of_mem _ List.mem_cons_self)) (hB _ (List.mem_cons_of_mem _ (List.mem_cons_of_mem _ List.mem_cons_self))) (hB _ (List.mem_cons_of_mem _ (List.mem_cons_of_mem _ (List.mem_cons_of_mem _ List.mem_cons_self)))) (hB _ (List.mem_cons_of_mem _ (List.mem_cons_of_mem _ (List.mem_cons_of_mem _ (List.mem_cons_of_mem _ List.mem_cons_self))))) (cvp 22 (x' := ((ρ 4))) (y' := (0 : Int)) (by show 0 + (1 * ρ 4 + 0) = _; omega) (by show 0 + 0 = _; omega) (hm _ List.mem_cons_self)) (cvm (c := 95) (by decide) (x' := (4 : Int)) (y' := ((ρ 1))) (by show 4 + 0 = _; omega) (by show 0 + (1 * ρ 1 + 0) = _; omega) (hm _ (List.mem_cons_of_mem _ List.mem_cons_self))) (cvm (c := 94) (by decide) (x' := ((ρ 4))) (y' := (0 : Int)) (by show 0 + (1 * ρ 4 + 0) = _; omega) (by show 0 + 0 = _; omega) (hm _ (List.mem_cons_of_mem _ (List.mem_cons_of_mem _ List.mem_cons_self)))) (cvm (c := 61) (by decide) (x' := (53 : Int)) (y' := ((ρ 2))) (by show 53 + 0 = _; omega) (by show 0 + (1 * ρ 2 + 0) = _; omega) (hm _ (List.mem_cons_of_mem _ (List.mem_cons_of_mem _ (List.mem_cons_of_mem _ List.mem_cons_self))))) (cvm (c := 61) (by decide) (x' := (55 : Int)) (y' := ((ρ 3))) (by show 55 + 0 = _; omega) (by show 0 + (1 * ρ 3 + 0) = _; omega) (hm _ (List.mem_cons_of_mem _ (List.mem_cons_of_mem _ (List.mem_cons_of_mem _ (List.mem_cons_of_mem _ List.mem_cons_self)))))) (cvm (c := 91) (by decide) (x' := ((ρ 4))) (y' := ((ρ 0))) (by show 0 + (1 * ρ 4 + 0) = _; omega) (by show 0 + (1 * ρ 0 + 0) = _; omega) (hm _ (List.mem_cons_of_mem _ (List.mem_cons_of_mem _ (List.mem_cons_of_mem _ (List.mem_cons_of_mem _ (List.mem_cons_of_mem _ List.mem_cons_self))))))) (by have h := hF _ List.mem_cons_self; have h : 0 ≤ (-1) + ((-1) * ρ 0 + (1 * ρ 1 + 0)) := h; omega) (by have h := hF _ (List.mem_cons_of_mem _ List.mem_cons_self); have h : 0 ≤ (-36) + (1 * ρ 1 + 0) := h; omega) hG
  obtain ⟨k0, -⟩ := H
  exact ⟨_, List.mem_cons_self, ρ, fun _ _ => rfl, (okM_c (pvp 22 (by show 1 + (1 * ρ 4 + 0) = _; omega) (by show 0 + 0 = _; omega) k0) okM_n), okB_n, okF_n⟩
-- xb100
theorem cr_95 (M : pM) (s0 s1 s2 s3 s4 s5 s6 : Int) (b0 : 0 ≤ s0 ∧ s0 ≤ 29) (b1 : 0 ≤ s1 ∧ s1 ≤ 35) (b2 : 0 ≤ s2 ∧ s2 ≤ 44) (b3 : 1 ≤ s3 ∧ s3 ≤ 9) (b4 : 1 ≤ s4 ∧ s4 ≤ 9) (b5 : 1 ≤ s5 ∧ s5 ≤ 4) (b6 : 0 ≤ s6 ∧ s6 ≤ 3) (m0 : HP 23 (s0) (0 : Int) M) (m1 : HP 27 (s5) (s6) M) (m2 : (0 ≤ (s6) ∧ M 36 (s6).toNat = (s2))) (m3 : (0 ≤ (54 : Int) ∧ M 61 (54 : Int).toNat = (s5))) (m4 : (0 ≤ (53 : Int) ∧ M 61 (53 : Int).toNat = (s3))) (m5 : (0 ≤ (55 : Int) ∧ M 61 (55 : Int).toNat = (s4))) (m6 : (0 ≤ (s0) ∧ M 37 (s0).toNat = (s1))) (m7 : (0 ≤ (s0) ∧ M 38 (s0).toNat = (s1 + s4))) (m8 : (0 ≤ (s0) ∧ M 39 (s0).toNat = (s6))) (f0 : 0 ≤ (s1 + (-1) * s2)) (f1 : 0 ≤ ((-1) * s1 + 35)) (hG : gI M) : (HP 31 (s0) (2 * s1 + 1) M ∧ True) := by
  obtain ⟨a1, a2, a3⟩ := m0
  obtain ⟨c1, c2, c3⟩ := m1
  obtain ⟨hj, hx, hl, h3⟩ := ln_p (A := 36) a3 (p := s5) m3.2 (by omega) (by omega) c3 m2.2
  have hg : lng (M 61 54) 1 s1 (lF M s0.toNat) = s1 := lng_q hj hx (by omega)
  have hw : M 61 53 = s3 := m4.2
  have ht : M 61 55 = s4 := m5.2
  refine ⟨⟨by omega, by omega, s1, 1, ⟨by omega, by omega, by omega, by omega⟩, by omega, ?_⟩, trivial⟩
  exact ⟨by rw [lub_y hg (by omega)]; exact m6.2, by rw [lfr_y hg (by omega), lnd_1, ht]; exact m7.2, by rw [lby_y hg (by omega), hl]; exact m8.2⟩
theorem rul_95 : Rul r_95 := by
  refine ⟨fun _ ρ M hm hB hF hG => ?_, fun gi gv hg => (by cases hg)⟩
  have H := cr_95 M (ρ 0) (ρ 1) (ρ 2) (ρ 3) (ρ 4) (ρ 5) (ρ 6) (hB _ List.mem_cons_self) (hB _ (List.mem_cons_of_mem _ List.mem_cons_self)) (hB _ (List.mem_cons_of_mem _ (List.mem_cons_of_mem _ List.mem_cons_self))) (hB _ (List.mem_cons_of_mem _ (List.mem_cons_of_mem _ (List.mem_cons_of_mem _ List.mem_cons_self)))) (hB _ (List.mem_cons_of_mem _ (List.mem_cons_of_mem _ (List.mem_cons_of_mem _ (List.mem_cons_of_mem _ List.mem_cons_self))))) (hB _ (List.mem_cons_of_mem _ (List.mem_cons_of_mem _ (List.mem_cons_of_mem _ (List.mem_cons_of_mem _ (List.mem_cons_of_mem _ List.mem_cons_self)))))) (hB _ (List.mem_cons_of_mem _ (List.mem_cons_of_mem _ (List.mem_cons_of_mem _ (List.mem_cons_of_mem _ (List.mem_cons_of_mem _ (List.mem_cons_of_mem _ List.mem_cons_self))))))) (cvp 23 (x' := ((ρ 0))) (y' := (0 : Int)) (by show 0 + (1 * ρ 0 + 0) = _; omega) (by show 0 + 0 = _; omega) (hm _ List.mem_cons_self)) (cvp 27 (x' := ((ρ 5))) (y' := ((ρ 6))) (by show 0 + (1 * ρ 5 + 0) = _; omega) (by show 0 + (1 * ρ 6 + 0) = _; omega) (hm _ (List.mem_cons_of_mem _ List.mem_cons_self))) (cvm (c := 36) (by decide) (x' := ((ρ 6))) (y' := ((ρ 2))) (by show 0 + (1 * ρ 6 + 0) = _; omega) (by show 0 + (1 * ρ 2 + 0) = _; omega) (hm _ (List.mem_cons_of_mem _ (List.mem_cons_of_mem _ List.mem_cons_self)))) (cvm (c := 61) (by decide) (x' := (54 : Int)) (y' := ((ρ 5))) (by show 54 + 0 = _; omega) (by show 0 + (1 * ρ 5 + 0) = _; omega) (hm _ (List.mem_cons_of_mem _ (List.mem_cons_of_mem _ (List.mem_cons_of_mem _ List.mem_cons_self))))) (cvm (c := 61) (by decide) (x' := (53 : Int)) (y' := ((ρ 3))) (by show 53 + 0 = _; omega) (by show 0 + (1 * ρ 3 + 0) = _; omega) (hm _ (List.mem_cons_of_mem _ (List.mem_cons_of_mem _ (List.mem_cons_of_mem _ (List.mem_cons_of_mem _ List.mem_cons_self)))))) (cvm (c := 61) (by decide) (x' := (55 : Int)) (y' := ((ρ 4))) (by show 55 + 0 = _; omega) (by show 0 + (1 * ρ 4 + 0) = _; omega) (hm _ (List.mem_cons_of_mem _ (List.mem_cons_of_mem _ (List.mem_cons_of_mem _ (List.mem_cons_of_mem _ (List.mem_cons_of_mem _ List.mem_cons_self))))))) (cvm (c := 37) (by decide) (x' := ((ρ 0))) (y' := ((ρ 1))) (by show 0 + (1 * ρ 0 + 0) = _; omega) (by show 0 + (1 * ρ 1 + 0) = _; omega) (hm _ (List.mem_cons_of_mem _ (List.mem_cons_of_mem _ (List.mem_cons_of_mem _ (List.mem_cons_of_mem _ (List.mem_cons_of_mem _ (List.mem_cons_of_mem _ List.mem_cons_self)))))))) (cvm (c := 38) (by decide) (x' := ((ρ 0))) (y' := ((ρ 1) + (ρ 4))) (by show 0 + (1 * ρ 0 + 0) = _; omega) (by show 0 + (1 * ρ 1 + (1 * ρ 4 + 0)) = _; omega) (hm _ (List.mem_cons_of_mem _ (List.mem_cons_of_mem _ (List.mem_cons_of_mem _ (List.mem_cons_of_mem _ (List.mem_cons_of_mem _ (List.mem_cons_of_mem _ (List.mem_cons_of_mem _ List.mem_cons_self))))))))) (cvm (c := 39) (by decide) (x' := ((ρ 0))) (y' := ((ρ 6))) (by show 0 + (1 * ρ 0 + 0) = _; omega) (by show 0 + (1 * ρ 6 + 0) = _; omega) (hm _ (List.mem_cons_of_mem _ (List.mem_cons_of_mem _ (List.mem_cons_of_mem _ (List.mem_cons_of_mem _ (List.mem_cons_of_mem _ (List.mem_cons_of_mem _ (List.mem_cons_of_mem _ (List.mem_cons_of_mem _ List.mem_cons_self)))))))))) (by have h := hF _ List.mem_cons_self; have h : 0 ≤ 0 + (1 * ρ 1 + ((-1) * ρ 2 + 0)) := h; omega) (by have h := hF _ (List.mem_cons_of_mem _ List.mem_cons_self); have h : 0 ≤ 35 + ((-1) * ρ 1 + 0) := h; omega) hG
  obtain ⟨k0, -⟩ := H
  exact ⟨_, List.mem_cons_self, ρ, fun _ _ => rfl, (okM_c (pvp 31 (by show 0 + (1 * ρ 0 + 0) = _; omega) (by show 1 + (2 * ρ 1 + 0) = _; omega) k0) okM_n), okB_n, okF_n⟩
-- xp100
theorem cr_96 (M : pM) (s0 s1 s2 s3 s4 s5 s6 : Int) (b0 : 0 ≤ s0 ∧ s0 ≤ 29) (b1 : 0 ≤ s1 ∧ s1 ≤ 35) (b2 : 0 ≤ s2 ∧ s2 ≤ 44) (b3 : 1 ≤ s3 ∧ s3 ≤ 9) (b4 : 1 ≤ s4 ∧ s4 ≤ 9) (b5 : 1 ≤ s5 ∧ s5 ≤ 4) (b6 : 0 ≤ s6 ∧ s6 ≤ 3) (m0 : HP 23 (s0) (0 : Int) M) (m1 : HP 27 (s5) (s6) M) (m2 : (0 ≤ (s6) ∧ M 36 (s6).toNat = (s2))) (m3 : (0 ≤ (54 : Int) ∧ M 61 (54 : Int).toNat = (s5))) (m4 : (0 ≤ (53 : Int) ∧ M 61 (53 : Int).toNat = (s3))) (m5 : (0 ≤ (55 : Int) ∧ M 61 (55 : Int).toNat = (s4))) (f0 : 0 ≤ (s1 + (-1) * s2)) (f1 : 0 ≤ ((-1) * s1 + 35)) (hG : gI M) : (HP 29 (s0) (2 * s1 + 1) (st M 36 (s6).toNat (s1 + s4)) ∧ True) := by
  obtain ⟨a1, a2, a3⟩ := m0
  obtain ⟨c1, c2, c3⟩ := m1
  obtain ⟨hj, hx, hl, h3⟩ := ln_p (A := 36) a3 (p := s5) m3.2 (by omega) (by omega) c3 m2.2
  have hg : lng (M 61 54) 1 s1 (lF M s0.toNat) = s1 := lng_q hj hx (by omega)
  have hw : M 61 53 = s3 := m4.2
  have ht : M 61 55 = s4 := m5.2
  refine ⟨⟨by omega, by omega, s1, 1, ⟨by omega, by omega, by omega, by omega⟩, by omega, fun k hk => ?_⟩, trivial⟩
  rw [lF_s (by decide) (fun i _ h => absurd h.1 (by decide)) (fun i _ h => absurd h.1 (by decide)), sq_o (a := 61) (b := 54) (fun h => absurd h.1 (by decide)), sq_o (a := 61) (b := 53) (fun h => absurd h.1 (by decide)), sq_o (a := 61) (b := 55) (fun h => absurd h.1 (by decide))]
  by_cases hk2 : k = s6.toNat
  · rw [hk2, sq_s, lst_y hj hg (by omega), lnd_1, ht]
  · rw [lst_o hj hk2, sq_o (fun h => hk2 h.2)]
    exact a3 k hk
theorem rul_96 : Rul r_96 := by
  refine ⟨fun h => (by cases h), fun gi gv hg ρ M hm hB hF hG => ?_⟩
  obtain ⟨g1, g2⟩ := List.cons.inj (show ([aI ((0 : Int), ([(6, 1)] : List (Nat × Int))), aI ((0 : Int), ([(1, 1), (4, 1)] : List (Nat × Int)))] : List av) = [.inl gi, .inl gv] from hg)
  obtain ⟨g2, -⟩ := List.cons.inj g2
  cases g1
  cases g2
  have ei : ev ρ ((0 : Int), ([(6, 1)] : List (Nat × Int))) = ((ρ 6)) := by show 0 + (1 * ρ 6 + 0) = _; omega
  have ew : ev ρ ((0 : Int), ([(1, 1), (4, 1)] : List (Nat × Int))) = ((ρ 1) + (ρ 4)) := by show 0 + (1 * ρ 1 + (1 * ρ 4 + 0)) = _; omega
  rw [show (st M (ctj r_96) (ev ρ ((0 : Int), ([(6, 1)] : List (Nat × Int)))).toNat (ev ρ ((0 : Int), ([(1, 1), (4, 1)] : List (Nat × Int))))) = (st M 36 ((ρ 6)).toNat ((ρ 1) + (ρ 4))) from by rw [ei, ew]; rfl]
  have H := cr_96 M (ρ 0) (ρ 1) (ρ 2) (ρ 3) (ρ 4) (ρ 5) (ρ 6) (hB _ List.mem_cons_self) (hB _ (List.mem_cons_of_mem _ List.mem_cons_self)) (hB _ (List.mem_cons_of_mem _ (List.mem_cons_of_mem _ List.mem_cons_self))) (hB _ (List.mem_cons_of_mem _ (List.mem_cons_of_mem _ (List.mem_cons_of_mem _ List.mem_cons_self)))) (hB _ (List.mem_cons_of_mem _ (List.mem_cons_of_mem _ (List.mem_cons_of_mem _ (List.mem_cons_of_mem _ List.mem_cons_self))))) (hB _ (List.mem_cons_of_mem _ (List.mem_cons_of_mem _ (List.mem_cons_of_mem _ (List.mem_cons_of_mem _ (List.mem_cons_of_mem _ List.mem_cons_self)))))) (hB _ (List.mem_cons_of_mem _ (List.mem_cons_of_mem _ (List.mem_cons_of_mem _ (List.mem_cons_of_mem _ (List.mem_cons_of_mem _ (List.mem_cons_of_mem _ List.mem_cons_self))))))) (cvp 23 (x' := ((ρ 0))) (y' := (0 : Int)) (by show 0 + (1 * ρ 0 + 0) = _; omega) (by show 0 + 0 = _; omega) (hm _ List.mem_cons_self)) (cvp 27 (x' := ((ρ 5))) (y' := ((ρ 6))) (by show 0 + (1 * ρ 5 + 0) = _; omega) (by show 0 + (1 * ρ 6 + 0) = _; omega) (hm _ (List.mem_cons_of_mem _ List.mem_cons_self))) (cvm (c := 36) (by decide) (x' := ((ρ 6))) (y' := ((ρ 2))) (by show 0 + (1 * ρ 6 + 0) = _; omega) (by show 0 + (1 * ρ 2 + 0) = _; omega) (hm _ (List.mem_cons_of_mem _ (List.mem_cons_of_mem _ List.mem_cons_self)))) (cvm (c := 61) (by decide) (x' := (54 : Int)) (y' := ((ρ 5))) (by show 54 + 0 = _; omega) (by show 0 + (1 * ρ 5 + 0) = _; omega) (hm _ (List.mem_cons_of_mem _ (List.mem_cons_of_mem _ (List.mem_cons_of_mem _ List.mem_cons_self))))) (cvm (c := 61) (by decide) (x' := (53 : Int)) (y' := ((ρ 3))) (by show 53 + 0 = _; omega) (by show 0 + (1 * ρ 3 + 0) = _; omega) (hm _ (List.mem_cons_of_mem _ (List.mem_cons_of_mem _ (List.mem_cons_of_mem _ (List.mem_cons_of_mem _ List.mem_cons_self)))))) (cvm (c := 61) (by decide) (x' := (55 : Int)) (y' := ((ρ 4))) (by show 55 + 0 = _; omega) (by show 0 + (1 * ρ 4 + 0) = _; omega) (hm _ (List.mem_cons_of_mem _ (List.mem_cons_of_mem _ (List.mem_cons_of_mem _ (List.mem_cons_of_mem _ (List.mem_cons_of_mem _ List.mem_cons_self))))))) (by have h := hF _ List.mem_cons_self; have h : 0 ≤ 0 + (1 * ρ 1 + ((-1) * ρ 2 + 0)) := h; omega) (by have h := hF _ (List.mem_cons_of_mem _ List.mem_cons_self); have h : 0 ≤ 35 + ((-1) * ρ 1 + 0) := h; omega) hG
  obtain ⟨k0, -⟩ := H
  exact ⟨_, List.mem_cons_self, ρ, fun _ _ => rfl, (okM_c (pvp 29 (by show 0 + (1 * ρ 0 + 0) = _; omega) (by show 1 + (2 * ρ 1 + 0) = _; omega) k0) okM_n), okB_n, okF_n⟩
-- ub100
theorem cr_97 (M : pM) (s0 s1 s2 s3 s4 s5 s6 : Int) (b0 : 0 ≤ s0 ∧ s0 ≤ 35) (b1 : (-2147483648) ≤ s1 ∧ s1 ≤ 2147483647) (b2 : 1 ≤ s2 ∧ s2 ≤ 9) (b3 : 1 ≤ s3 ∧ s3 ≤ 9) (b4 : 1 ≤ s4 ∧ s4 ≤ 4) (b5 : 0 ≤ s5 ∧ s5 ≤ 3) (b6 : 0 ≤ s6 ∧ s6 ≤ 29) (m0 : HP 22 (s6) (0 : Int) M) (m1 : HP 26 (s4) (s5) M) (m2 : (0 ≤ (s5) ∧ M 95 (s5).toNat = (s1))) (m3 : (0 ≤ (54 : Int) ∧ M 61 (54 : Int).toNat = (s4))) (m4 : (0 ≤ (s6) ∧ M 94 (s6).toNat = (1 : Int))) (m5 : (0 ≤ (53 : Int) ∧ M 61 (53 : Int).toNat = (s2))) (m6 : (0 ≤ (55 : Int) ∧ M 61 (55 : Int).toNat = (s3))) (m7 : HP 24 (s6) (0 : Int) M) (m8 : (0 ≤ (s6) ∧ M 91 (s6).toNat = (s0))) (m9 : (0 ≤ (s6) ∧ M 92 (s6).toNat = (s0))) (m10 : (0 ≤ (s6) ∧ M 93 (s6).toNat = (s5))) (f0 : 0 ≤ (s0 + (-1) * s1)) (f1 : 0 ≤ ((-1) * s0 + 35)) (hG : gI M) : (HP 24 (s6 + 1) (0 : Int) M ∧ True) := by
  obtain ⟨a1, a2, a3⟩ := m0
  obtain ⟨c1, c2, c3⟩ := m1
  obtain ⟨hj, hx, hl, h3⟩ := ln_p (A := 95) (fun k hk => a3 k (by omega)) (p := s4) m3.2 (by omega) (by omega) c3 m2.2
  have hg : lng (M 61 54) 1 s0 (lF M s6.toNat) = s0 := lng_q hj hx (by omega)
  have h94 : M 94 s6.toNat = 1 := m4.2
  have hw : M 61 53 = s2 := m5.2
  have ht : M 61 55 = s3 := m6.2
  have h91 : M 91 s6.toNat = s0 := m8.2
  obtain ⟨d1, d2, d3⟩ := m7
  refine ⟨⟨by omega, by omega, fun v hv => ?_⟩, trivial⟩
  by_cases hv2 : v = s6.toNat
  · rw [hv2]
    unfold ubo
    rw [h94, h91, lub_y hg (by omega), hl]
    exact ⟨m9.2, m10.2⟩
  · exact d3 v (by omega)
theorem rul_97 : Rul r_97 := by
  refine ⟨fun _ ρ M hm hB hF hG => ?_, fun gi gv hg => (by cases hg)⟩
  have H := cr_97 M (ρ 0) (ρ 1) (ρ 2) (ρ 3) (ρ 4) (ρ 5) (ρ 6) (hB _ List.mem_cons_self) (hB _ (List.mem_cons_of_mem _ List.mem_cons_self)) (hB _ (List.mem_cons_of_mem _ (List.mem_cons_of_mem _ List.mem_cons_self))) (hB _ (List.mem_cons_of_mem _ (List.mem_cons_of_mem _ (List.mem_cons_of_mem _ List.mem_cons_self)))) (hB _ (List.mem_cons_of_mem _ (List.mem_cons_of_mem _ (List.mem_cons_of_mem _ (List.mem_cons_of_mem _ List.mem_cons_self))))) (hB _ (List.mem_cons_of_mem _ (List.mem_cons_of_mem _ (List.mem_cons_of_mem _ (List.mem_cons_of_mem _ (List.mem_cons_of_mem _ List.mem_cons_self)))))) (hB _ (List.mem_cons_of_mem _ (List.mem_cons_of_mem _ (List.mem_cons_of_mem _ (List.mem_cons_of_mem _ (List.mem_cons_of_mem _ (List.mem_cons_of_mem _ List.mem_cons_self))))))) (cvp 22 (x' := ((ρ 6))) (y' := (0 : Int)) (by show 0 + (1 * ρ 6 + 0) = _; omega) (by show 0 + 0 = _; omega) (hm _ List.mem_cons_self)) (cvp 26 (x' := ((ρ 4))) (y' := ((ρ 5))) (by show 0 + (1 * ρ 4 + 0) = _; omega) (by show 0 + (1 * ρ 5 + 0) = _; omega) (hm _ (List.mem_cons_of_mem _ List.mem_cons_self))) (cvm (c := 95) (by decide) (x' := ((ρ 5))) (y' := ((ρ 1))) (by show 0 + (1 * ρ 5 + 0) = _; omega) (by show 0 + (1 * ρ 1 + 0) = _; omega) (hm _ (List.mem_cons_of_mem _ (List.mem_cons_of_mem _ List.mem_cons_self)))) (cvm (c := 61) (by decide) (x' := (54 : Int)) (y' := ((ρ 4))) (by show 54 + 0 = _; omega) (by show 0 + (1 * ρ 4 + 0) = _; omega) (hm _ (List.mem_cons_of_mem _ (List.mem_cons_of_mem _ (List.mem_cons_of_mem _ List.mem_cons_self))))) (cvm (c := 94) (by decide) (x' := ((ρ 6))) (y' := (1 : Int)) (by show 0 + (1 * ρ 6 + 0) = _; omega) (by show 1 + 0 = _; omega) (hm _ (List.mem_cons_of_mem _ (List.mem_cons_of_mem _ (List.mem_cons_of_mem _ (List.mem_cons_of_mem _ List.mem_cons_self)))))) (cvm (c := 61) (by decide) (x' := (53 : Int)) (y' := ((ρ 2))) (by show 53 + 0 = _; omega) (by show 0 + (1 * ρ 2 + 0) = _; omega) (hm _ (List.mem_cons_of_mem _ (List.mem_cons_of_mem _ (List.mem_cons_of_mem _ (List.mem_cons_of_mem _ (List.mem_cons_of_mem _ List.mem_cons_self))))))) (cvm (c := 61) (by decide) (x' := (55 : Int)) (y' := ((ρ 3))) (by show 55 + 0 = _; omega) (by show 0 + (1 * ρ 3 + 0) = _; omega) (hm _ (List.mem_cons_of_mem _ (List.mem_cons_of_mem _ (List.mem_cons_of_mem _ (List.mem_cons_of_mem _ (List.mem_cons_of_mem _ (List.mem_cons_of_mem _ List.mem_cons_self)))))))) (cvp 24 (x' := ((ρ 6))) (y' := (0 : Int)) (by show 0 + (1 * ρ 6 + 0) = _; omega) (by show 0 + 0 = _; omega) (hm _ (List.mem_cons_of_mem _ (List.mem_cons_of_mem _ (List.mem_cons_of_mem _ (List.mem_cons_of_mem _ (List.mem_cons_of_mem _ (List.mem_cons_of_mem _ (List.mem_cons_of_mem _ List.mem_cons_self))))))))) (cvm (c := 91) (by decide) (x' := ((ρ 6))) (y' := ((ρ 0))) (by show 0 + (1 * ρ 6 + 0) = _; omega) (by show 0 + (1 * ρ 0 + 0) = _; omega) (hm _ (List.mem_cons_of_mem _ (List.mem_cons_of_mem _ (List.mem_cons_of_mem _ (List.mem_cons_of_mem _ (List.mem_cons_of_mem _ (List.mem_cons_of_mem _ (List.mem_cons_of_mem _ (List.mem_cons_of_mem _ List.mem_cons_self)))))))))) (cvm (c := 92) (by decide) (x' := ((ρ 6))) (y' := ((ρ 0))) (by show 0 + (1 * ρ 6 + 0) = _; omega) (by show 0 + (1 * ρ 0 + 0) = _; omega) (hm _ (List.mem_cons_of_mem _ (List.mem_cons_of_mem _ (List.mem_cons_of_mem _ (List.mem_cons_of_mem _ (List.mem_cons_of_mem _ (List.mem_cons_of_mem _ (List.mem_cons_of_mem _ (List.mem_cons_of_mem _ (List.mem_cons_of_mem _ List.mem_cons_self))))))))))) (cvm (c := 93) (by decide) (x' := ((ρ 6))) (y' := ((ρ 5))) (by show 0 + (1 * ρ 6 + 0) = _; omega) (by show 0 + (1 * ρ 5 + 0) = _; omega) (hm _ (List.mem_cons_of_mem _ (List.mem_cons_of_mem _ (List.mem_cons_of_mem _ (List.mem_cons_of_mem _ (List.mem_cons_of_mem _ (List.mem_cons_of_mem _ (List.mem_cons_of_mem _ (List.mem_cons_of_mem _ (List.mem_cons_of_mem _ (List.mem_cons_of_mem _ List.mem_cons_self)))))))))))) (by have h := hF _ List.mem_cons_self; have h : 0 ≤ 0 + (1 * ρ 0 + ((-1) * ρ 1 + 0)) := h; omega) (by have h := hF _ (List.mem_cons_of_mem _ List.mem_cons_self); have h : 0 ≤ 35 + ((-1) * ρ 0 + 0) := h; omega) hG
  obtain ⟨k0, -⟩ := H
  exact ⟨_, List.mem_cons_self, ρ, fun _ _ => rfl, (okM_c (pvp 24 (by show 1 + (1 * ρ 6 + 0) = _; omega) (by show 0 + 0 = _; omega) k0) okM_n), okB_n, okF_n⟩
-- fs100
theorem cr_98 (M : pM) (s0 s1 s2 s3 s4 s5 s6 : Int) (b0 : 0 ≤ s0 ∧ s0 ≤ 35) (b1 : (-2147483648) ≤ s1 ∧ s1 ≤ 2147483647) (b2 : 1 ≤ s2 ∧ s2 ≤ 9) (b3 : 1 ≤ s3 ∧ s3 ≤ 9) (b4 : 1 ≤ s4 ∧ s4 ≤ 4) (b5 : 0 ≤ s5 ∧ s5 ≤ 3) (b6 : 0 ≤ s6 ∧ s6 ≤ 29) (m0 : HP 22 (s6) (0 : Int) M) (m1 : HP 26 (s4) (s5) M) (m2 : (0 ≤ (s5) ∧ M 95 (s5).toNat = (s1))) (m3 : (0 ≤ (54 : Int) ∧ M 61 (54 : Int).toNat = (s4))) (m4 : (0 ≤ (s6) ∧ M 94 (s6).toNat = (1 : Int))) (m5 : (0 ≤ (53 : Int) ∧ M 61 (53 : Int).toNat = (s2))) (m6 : (0 ≤ (55 : Int) ∧ M 61 (55 : Int).toNat = (s3))) (m7 : (0 ≤ (s6) ∧ M 91 (s6).toNat = (s0))) (f0 : 0 ≤ (s0 + (-1) * s1)) (f1 : 0 ≤ ((-1) * s0 + 35)) (hG : gI M) : (HP 22 (s6 + 1) (0 : Int) (st M 95 (s5).toNat (s0 + s3)) ∧ True) := by
  obtain ⟨a1, a2, a3⟩ := m0
  obtain ⟨c1, c2, c3⟩ := m1
  obtain ⟨hj, hx, hl, h3⟩ := ln_p (A := 95) (fun k hk => a3 k (by omega)) (p := s4) m3.2 (by omega) (by omega) c3 m2.2
  have hg : lng (M 61 54) 1 s0 (lF M s6.toNat) = s0 := lng_q hj hx (by omega)
  have h94 : M 94 s6.toNat = 1 := m4.2
  have hw : M 61 53 = s2 := m5.2
  have ht : M 61 55 = s3 := m6.2
  have h91 : M 91 s6.toNat = s0 := m7.2
  refine ⟨⟨by omega, by omega, fun k hk => ?_⟩, trivial⟩
  rw [show (s6 + 1).toNat = s6.toNat + 1 by omega, lF_s (by decide) (fun i _ h => absurd h.1 (by decide)) (fun i _ h => absurd h.1 (by decide)), lF_u, h94, h91]
  by_cases hk2 : k = s5.toNat
  · rw [hk2, lst_y hj hg (by omega), lnd_1, ht]
    exact sq_s
  · rw [lst_o hj hk2, sq_o (fun h => hk2 h.2)]
    exact a3 k hk
theorem rul_98 : Rul r_98 := by
  refine ⟨fun h => (by cases h), fun gi gv hg ρ M hm hB hF hG => ?_⟩
  obtain ⟨g1, g2⟩ := List.cons.inj (show ([aI ((0 : Int), ([(5, 1)] : List (Nat × Int))), aI ((0 : Int), ([(0, 1), (3, 1)] : List (Nat × Int)))] : List av) = [.inl gi, .inl gv] from hg)
  obtain ⟨g2, -⟩ := List.cons.inj g2
  cases g1
  cases g2
  have ei : ev ρ ((0 : Int), ([(5, 1)] : List (Nat × Int))) = ((ρ 5)) := by show 0 + (1 * ρ 5 + 0) = _; omega
  have ew : ev ρ ((0 : Int), ([(0, 1), (3, 1)] : List (Nat × Int))) = ((ρ 0) + (ρ 3)) := by show 0 + (1 * ρ 0 + (1 * ρ 3 + 0)) = _; omega
  rw [show (st M (ctj r_98) (ev ρ ((0 : Int), ([(5, 1)] : List (Nat × Int)))).toNat (ev ρ ((0 : Int), ([(0, 1), (3, 1)] : List (Nat × Int))))) = (st M 95 ((ρ 5)).toNat ((ρ 0) + (ρ 3))) from by rw [ei, ew]; rfl]
  have H := cr_98 M (ρ 0) (ρ 1) (ρ 2) (ρ 3) (ρ 4) (ρ 5) (ρ 6) (hB _ List.mem_cons_self) (hB _ (List.mem_cons_of_mem _ List.mem_cons_self)) (hB _ (List.mem_cons_of_mem _ (List.mem_cons_of_mem _ List.mem_cons_self))) (hB _ (List.mem_cons_of_mem _ (List.mem_cons_of_mem _ (List.mem_cons_of_mem _ List.mem_cons_self)))) (hB _ (List.mem_cons_of_mem _ (List.mem_cons_of_mem _ (List.mem_cons_of_mem _ (List.mem_cons_of_mem _ List.mem_cons_self))))) (hB _ (List.mem_cons_of_mem _ (List.mem_cons_of_mem _ (List.mem_cons_of_mem _ (List.mem_cons_of_mem _ (List.mem_cons_of_mem _ List.mem_cons_self)))))) (hB _ (List.mem_cons_of_mem _ (List.mem_cons_of_mem _ (List.mem_cons_of_mem _ (List.mem_cons_of_mem _ (List.mem_cons_of_mem _ (List.mem_cons_of_mem _ List.mem_cons_self))))))) (cvp 22 (x' := ((ρ 6))) (y' := (0 : Int)) (by show 0 + (1 * ρ 6 + 0) = _; omega) (by show 0 + 0 = _; omega) (hm _ List.mem_cons_self)) (cvp 26 (x' := ((ρ 4))) (y' := ((ρ 5))) (by show 0 + (1 * ρ 4 + 0) = _; omega) (by show 0 + (1 * ρ 5 + 0) = _; omega) (hm _ (List.mem_cons_of_mem _ List.mem_cons_self))) (cvm (c := 95) (by decide) (x' := ((ρ 5))) (y' := ((ρ 1))) (by show 0 + (1 * ρ 5 + 0) = _; omega) (by show 0 + (1 * ρ 1 + 0) = _; omega) (hm _ (List.mem_cons_of_mem _ (List.mem_cons_of_mem _ List.mem_cons_self)))) (cvm (c := 61) (by decide) (x' := (54 : Int)) (y' := ((ρ 4))) (by show 54 + 0 = _; omega) (by show 0 + (1 * ρ 4 + 0) = _; omega) (hm _ (List.mem_cons_of_mem _ (List.mem_cons_of_mem _ (List.mem_cons_of_mem _ List.mem_cons_self))))) (cvm (c := 94) (by decide) (x' := ((ρ 6))) (y' := (1 : Int)) (by show 0 + (1 * ρ 6 + 0) = _; omega) (by show 1 + 0 = _; omega) (hm _ (List.mem_cons_of_mem _ (List.mem_cons_of_mem _ (List.mem_cons_of_mem _ (List.mem_cons_of_mem _ List.mem_cons_self)))))) (cvm (c := 61) (by decide) (x' := (53 : Int)) (y' := ((ρ 2))) (by show 53 + 0 = _; omega) (by show 0 + (1 * ρ 2 + 0) = _; omega) (hm _ (List.mem_cons_of_mem _ (List.mem_cons_of_mem _ (List.mem_cons_of_mem _ (List.mem_cons_of_mem _ (List.mem_cons_of_mem _ List.mem_cons_self))))))) (cvm (c := 61) (by decide) (x' := (55 : Int)) (y' := ((ρ 3))) (by show 55 + 0 = _; omega) (by show 0 + (1 * ρ 3 + 0) = _; omega) (hm _ (List.mem_cons_of_mem _ (List.mem_cons_of_mem _ (List.mem_cons_of_mem _ (List.mem_cons_of_mem _ (List.mem_cons_of_mem _ (List.mem_cons_of_mem _ List.mem_cons_self)))))))) (cvm (c := 91) (by decide) (x' := ((ρ 6))) (y' := ((ρ 0))) (by show 0 + (1 * ρ 6 + 0) = _; omega) (by show 0 + (1 * ρ 0 + 0) = _; omega) (hm _ (List.mem_cons_of_mem _ (List.mem_cons_of_mem _ (List.mem_cons_of_mem _ (List.mem_cons_of_mem _ (List.mem_cons_of_mem _ (List.mem_cons_of_mem _ (List.mem_cons_of_mem _ List.mem_cons_self))))))))) (by have h := hF _ List.mem_cons_self; have h : 0 ≤ 0 + (1 * ρ 0 + ((-1) * ρ 1 + 0)) := h; omega) (by have h := hF _ (List.mem_cons_of_mem _ List.mem_cons_self); have h : 0 ≤ 35 + ((-1) * ρ 0 + 0) := h; omega) hG
  obtain ⟨k0, -⟩ := H
  exact ⟨_, List.mem_cons_self, ρ, fun _ _ => rfl, (okM_c (pvp 22 (by show 1 + (1 * ρ 6 + 0) = _; omega) (by show 0 + 0 = _; omega) k0) okM_n), okB_n, okF_n⟩
-- xb101
theorem cr_99 (M : pM) (s0 s1 s2 s3 s4 s5 s6 : Int) (b0 : 0 ≤ s0 ∧ s0 ≤ 29) (b1 : 0 ≤ s1 ∧ s1 ≤ 35) (b2 : 0 ≤ s2 ∧ s2 ≤ 44) (b3 : 1 ≤ s3 ∧ s3 ≤ 9) (b4 : 1 ≤ s4 ∧ s4 ≤ 9) (b5 : 1 ≤ s5 ∧ s5 ≤ 4) (b6 : 0 ≤ s6 ∧ s6 ≤ 3) (m0 : HP 23 (s0) (0 : Int) M) (m1 : HP 27 (s5) (s6) M) (m2 : (0 ≤ (s6) ∧ M 36 (s6).toNat = (s2))) (m3 : (0 ≤ (54 : Int) ∧ M 61 (54 : Int).toNat = (s5))) (m4 : (0 ≤ (53 : Int) ∧ M 61 (53 : Int).toNat = (s3))) (m5 : (0 ≤ (55 : Int) ∧ M 61 (55 : Int).toNat = (s4))) (m6 : (0 ≤ (s0) ∧ M 37 (s0).toNat = (-1 : Int))) (m7 : (0 ≤ (s0) ∧ M 38 (s0).toNat = (-1 : Int))) (m8 : (0 ≤ (s0) ∧ M 39 (s0).toNat = (-1 : Int))) (f0 : 0 ≤ (s1 + (-1) * s2)) (f1 : 0 ≤ (s1 - 36)) (hG : gI M) : (HP 31 (s0) (2 * s1 + 1) M ∧ True) := by
  obtain ⟨a1, a2, a3⟩ := m0
  obtain ⟨c1, c2, c3⟩ := m1
  obtain ⟨hj, hx, hl, h3⟩ := ln_p (A := 36) a3 (p := s5) m3.2 (by omega) (by omega) c3 m2.2
  have hg : lng (M 61 54) 1 s1 (lF M s0.toNat) = s1 := lng_q hj hx (by omega)
  have hw : M 61 53 = s3 := m4.2
  have ht : M 61 55 = s4 := m5.2
  refine ⟨⟨by omega, by omega, s1, 1, ⟨by omega, by omega, by omega, by omega⟩, by omega, ?_⟩, trivial⟩
  exact ⟨by rw [lub_n hg (by omega)]; exact m6.2, by rw [lfr_n hg (by omega)]; exact m7.2, by rw [lby_n hg (by omega)]; exact m8.2⟩
theorem rul_99 : Rul r_99 := by
  refine ⟨fun _ ρ M hm hB hF hG => ?_, fun gi gv hg => (by cases hg)⟩
  have H := cr_99 M (ρ 0) (ρ 1) (ρ 2) (ρ 3) (ρ 4) (ρ 5) (ρ 6) (hB _ List.mem_cons_self) (hB _ (List.mem_cons_of_mem _ List.mem_cons_self)) (hB _ (List.mem_cons_of_mem _ (List.mem_cons_of_mem _ List.mem_cons_self))) (hB _ (List.mem_cons_of_mem _ (List.mem_cons_of_mem _ (List.mem_cons_of_mem _ List.mem_cons_self)))) (hB _ (List.mem_cons_of_mem _ (List.mem_cons_of_mem _ (List.mem_cons_of_mem _ (List.mem_cons_of_mem _ List.mem_cons_self))))) (hB _ (List.mem_cons_of_mem _ (List.mem_cons_of_mem _ (List.mem_cons_of_mem _ (List.mem_cons_of_mem _ (List.mem_cons_of_mem _ List.mem_cons_self)))))) (hB _ (List.mem_cons_of_mem _ (List.mem_cons_of_mem _ (List.mem_cons_of_mem _ (List.mem_cons_of_mem _ (List.mem_cons_of_mem _ (List.mem_cons_of_mem _ List.mem_cons_self))))))) (cvp 23 (x' := ((ρ 0))) (y' := (0 : Int)) (by show 0 + (1 * ρ 0 + 0) = _; omega) (by show 0 + 0 = _; omega) (hm _ List.mem_cons_self)) (cvp 27 (x' := ((ρ 5))) (y' := ((ρ 6))) (by show 0 + (1 * ρ 5 + 0) = _; omega) (by show 0 + (1 * ρ 6 + 0) = _; omega) (hm _ (List.mem_cons_of_mem _ List.mem_cons_self))) (cvm (c := 36) (by decide) (x' := ((ρ 6))) (y' := ((ρ 2))) (by show 0 + (1 * ρ 6 + 0) = _; omega) (by show 0 + (1 * ρ 2 + 0) = _; omega) (hm _ (List.mem_cons_of_mem _ (List.mem_cons_of_mem _ List.mem_cons_self)))) (cvm (c := 61) (by decide) (x' := (54 : Int)) (y' := ((ρ 5))) (by show 54 + 0 = _; omega) (by show 0 + (1 * ρ 5 + 0) = _; omega) (hm _ (List.mem_cons_of_mem _ (List.mem_cons_of_mem _ (List.mem_cons_of_mem _ List.mem_cons_self))))) (cvm (c := 61) (by decide) (x' := (53 : Int)) (y' := ((ρ 3))) (by show 53 + 0 = _; omega) (by show 0 + (1 * ρ 3 + 0) = _; omega) (hm _ (List.mem_cons_of_mem _ (List.mem_cons_of_mem _ (List.mem_cons_of_mem _ (List.mem_cons_of_mem _ List.mem_cons_self)))))) (cvm (c := 61) (by decide) (x' := (55 : Int)) (y' := ((ρ 4))) (by show 55 + 0 = _; omega) (by show 0 + (1 * ρ 4 + 0) = _; omega) (hm _ (List.mem_cons_of_mem _ (List.mem_cons_of_mem _ (List.mem_cons_of_mem _ (List.mem_cons_of_mem _ (List.mem_cons_of_mem _ List.mem_cons_self))))))) (cvm (c := 37) (by decide) (x' := ((ρ 0))) (y' := (-1 : Int)) (by show 0 + (1 * ρ 0 + 0) = _; omega) (by show (-1) + 0 = _; omega) (hm _ (List.mem_cons_of_mem _ (List.mem_cons_of_mem _ (List.mem_cons_of_mem _ (List.mem_cons_of_mem _ (List.mem_cons_of_mem _ (List.mem_cons_of_mem _ List.mem_cons_self)))))))) (cvm (c := 38) (by decide) (x' := ((ρ 0))) (y' := (-1 : Int)) (by show 0 + (1 * ρ 0 + 0) = _; omega) (by show (-1) + 0 = _; omega) (hm _ (List.mem_cons_of_mem _ (List.mem_cons_of_mem _ (List.mem_cons_of_mem _ (List.mem_cons_of_mem _ (List.mem_cons_of_mem _ (List.mem_cons_of_mem _ (List.mem_cons_of_mem _ List.mem_cons_self))))))))) (cvm (c := 39) (by decide) (x' := ((ρ 0))) (y' := (-1 : Int)) (by show 0 + (1 * ρ 0 + 0) = _; omega) (by show (-1) + 0 = _; omega) (hm _ (List.mem_cons_of_mem _ (List.mem_cons_of_mem _ (List.mem_cons_of_mem _ (List.mem_cons_of_mem _ (List.mem_cons_of_mem _ (List.mem_cons_of_mem _ (List.mem_cons_of_mem _ (List.mem_cons_of_mem _ List.mem_cons_self)))))))))) (by have h := hF _ List.mem_cons_self; have h : 0 ≤ 0 + (1 * ρ 1 + ((-1) * ρ 2 + 0)) := h; omega) (by have h := hF _ (List.mem_cons_of_mem _ List.mem_cons_self); have h : 0 ≤ (-36) + (1 * ρ 1 + 0) := h; omega) hG
  obtain ⟨k0, -⟩ := H
  exact ⟨_, List.mem_cons_self, ρ, fun _ _ => rfl, (okM_c (pvp 31 (by show 0 + (1 * ρ 0 + 0) = _; omega) (by show 1 + (2 * ρ 1 + 0) = _; omega) k0) okM_n), okB_n, okF_n⟩
-- xp101
theorem cr_100 (M : pM) (s0 s1 s2 s3 s4 s5 s6 : Int) (b0 : 0 ≤ s0 ∧ s0 ≤ 29) (b1 : 0 ≤ s1 ∧ s1 ≤ 35) (b2 : 0 ≤ s2 ∧ s2 ≤ 44) (b3 : 1 ≤ s3 ∧ s3 ≤ 9) (b4 : 1 ≤ s4 ∧ s4 ≤ 9) (b5 : 1 ≤ s5 ∧ s5 ≤ 4) (b6 : 0 ≤ s6 ∧ s6 ≤ 3) (m0 : HP 23 (s0) (0 : Int) M) (m1 : HP 27 (s5) (s6) M) (m2 : (0 ≤ (s6) ∧ M 36 (s6).toNat = (s2))) (m3 : (0 ≤ (54 : Int) ∧ M 61 (54 : Int).toNat = (s5))) (m4 : (0 ≤ (53 : Int) ∧ M 61 (53 : Int).toNat = (s3))) (m5 : (0 ≤ (55 : Int) ∧ M 61 (55 : Int).toNat = (s4))) (f0 : 0 ≤ (s1 + (-1) * s2)) (f1 : 0 ≤ (s1 - 36)) (hG : gI M) : (HP 29 (s0) (2 * s1 + 1) M ∧ True) := by
  obtain ⟨a1, a2, a3⟩ := m0
  obtain ⟨c1, c2, c3⟩ := m1
  obtain ⟨hj, hx, hl, h3⟩ := ln_p (A := 36) a3 (p := s5) m3.2 (by omega) (by omega) c3 m2.2
  have hg : lng (M 61 54) 1 s1 (lF M s0.toNat) = s1 := lng_q hj hx (by omega)
  have hw : M 61 53 = s3 := m4.2
  have ht : M 61 55 = s4 := m5.2
  refine ⟨⟨by omega, by omega, s1, 1, ⟨by omega, by omega, by omega, by omega⟩, by omega, fun k hk => ?_⟩, trivial⟩
  rw [lst_n hg (by omega)]
  exact a3 k hk
theorem rul_100 : Rul r_100 := by
  refine ⟨fun _ ρ M hm hB hF hG => ?_, fun gi gv hg => (by cases hg)⟩
  have H := cr_100 M (ρ 0) (ρ 1) (ρ 2) (ρ 3) (ρ 4) (ρ 5) (ρ 6) (hB _ List.mem_cons_self) (hB _ (List.mem_cons_of_mem _ List.mem_cons_self)) (hB _ (List.mem_cons_of_mem _ (List.mem_cons_of_mem _ List.mem_cons_self))) (hB _ (List.mem_cons_of_mem _ (List.mem_cons_of_mem _ (List.mem_cons_of_mem _ List.mem_cons_self)))) (hB _ (List.mem_cons_of_mem _ (List.mem_cons_of_mem _ (List.mem_cons_of_mem _ (List.mem_cons_of_mem _ List.mem_cons_self))))) (hB _ (List.mem_cons_of_mem _ (List.mem_cons_of_mem _ (List.mem_cons_of_mem _ (List.mem_cons_of_mem _ (List.mem_cons_of_mem _ List.mem_cons_self)))))) (hB _ (List.mem_cons_of_mem _ (List.mem_cons_of_mem _ (List.mem_cons_of_mem _ (List.mem_cons_of_mem _ (List.mem_cons_of_mem _ (List.mem_cons_of_mem _ List.mem_cons_self))))))) (cvp 23 (x' := ((ρ 0))) (y' := (0 : Int)) (by show 0 + (1 * ρ 0 + 0) = _; omega) (by show 0 + 0 = _; omega) (hm _ List.mem_cons_self)) (cvp 27 (x' := ((ρ 5))) (y' := ((ρ 6))) (by show 0 + (1 * ρ 5 + 0) = _; omega) (by show 0 + (1 * ρ 6 + 0) = _; omega) (hm _ (List.mem_cons_of_mem _ List.mem_cons_self))) (cvm (c := 36) (by decide) (x' := ((ρ 6))) (y' := ((ρ 2))) (by show 0 + (1 * ρ 6 + 0) = _; omega) (by show 0 + (1 * ρ 2 + 0) = _; omega) (hm _ (List.mem_cons_of_mem _ (List.mem_cons_of_mem _ List.mem_cons_self)))) (cvm (c := 61) (by decide) (x' := (54 : Int)) (y' := ((ρ 5))) (by show 54 + 0 = _; omega) (by show 0 + (1 * ρ 5 + 0) = _; omega) (hm _ (List.mem_cons_of_mem _ (List.mem_cons_of_mem _ (List.mem_cons_of_mem _ List.mem_cons_self))))) (cvm (c := 61) (by decide) (x' := (53 : Int)) (y' := ((ρ 3))) (by show 53 + 0 = _; omega) (by show 0 + (1 * ρ 3 + 0) = _; omega) (hm _ (List.mem_cons_of_mem _ (List.mem_cons_of_mem _ (List.mem_cons_of_mem _ (List.mem_cons_of_mem _ List.mem_cons_self)))))) (cvm (c := 61) (by decide) (x' := (55 : Int)) (y' := ((ρ 4))) (by show 55 + 0 = _; omega) (by show 0 + (1 * ρ 4 + 0) = _; omega) (hm _ (List.mem_cons_of_mem _ (List.mem_cons_of_mem _ (List.mem_cons_of_mem _ (List.mem_cons_of_mem _ (List.mem_cons_of_mem _ List.mem_cons_self))))))) (by have h := hF _ List.mem_cons_self; have h : 0 ≤ 0 + (1 * ρ 1 + ((-1) * ρ 2 + 0)) := h; omega) (by have h := hF _ (List.mem_cons_of_mem _ List.mem_cons_self); have h : 0 ≤ (-36) + (1 * ρ 1 + 0) := h; omega) hG
  obtain ⟨k0, -⟩ := H
  exact ⟨_, List.mem_cons_self, ρ, fun _ _ => rfl, (okM_c (pvp 29 (by show 0 + (1 * ρ 0 + 0) = _; omega) (by show 1 + (2 * ρ 1 + 0) = _; omega) k0) okM_n), okB_n, okF_n⟩
-- ub101
theorem cr_101 (M : pM) (s0 s1 s2 s3 s4 s5 s6 : Int) (b0 : 0 ≤ s0 ∧ s0 ≤ 35) (b1 : (-2147483648) ≤ s1 ∧ s1 ≤ 2147483647) (b2 : 1 ≤ s2 ∧ s2 ≤ 9) (b3 : 1 ≤ s3 ∧ s3 ≤ 9) (b4 : 1 ≤ s4 ∧ s4 ≤ 4) (b5 : 0 ≤ s5 ∧ s5 ≤ 3) (b6 : 0 ≤ s6 ∧ s6 ≤ 29) (m0 : HP 22 (s6) (0 : Int) M) (m1 : HP 26 (s4) (s5) M) (m2 : (0 ≤ (s5) ∧ M 95 (s5).toNat = (s1))) (m3 : (0 ≤ (54 : Int) ∧ M 61 (54 : Int).toNat = (s4))) (m4 : (0 ≤ (s6) ∧ M 94 (s6).toNat = (1 : Int))) (m5 : (0 ≤ (53 : Int) ∧ M 61 (53 : Int).toNat = (s2))) (m6 : (0 ≤ (55 : Int) ∧ M 61 (55 : Int).toNat = (s3))) (m7 : HP 24 (s6) (0 : Int) M) (m8 : (0 ≤ (s6) ∧ M 91 (s6).toNat = (s0))) (m9 : (0 ≤ (s6) ∧ M 92 (s6).toNat = (-1 : Int))) (m10 : (0 ≤ (s6) ∧ M 93 (s6).toNat = (s5))) (f0 : 0 ≤ (s0 + (-1) * s1)) (f1 : 0 ≤ (s0 - 36)) (hG : gI M) : (HP 24 (s6 + 1) (0 : Int) M ∧ True) := by
  obtain ⟨a1, a2, a3⟩ := m0
  obtain ⟨c1, c2, c3⟩ := m1
  obtain ⟨hj, hx, hl, h3⟩ := ln_p (A := 95) (fun k hk => a3 k (by omega)) (p := s4) m3.2 (by omega) (by omega) c3 m2.2
  have hg : lng (M 61 54) 1 s0 (lF M s6.toNat) = s0 := lng_q hj hx (by omega)
  have h94 : M 94 s6.toNat = 1 := m4.2
  have hw : M 61 53 = s2 := m5.2
  have ht : M 61 55 = s3 := m6.2
  have h91 : M 91 s6.toNat = s0 := m8.2
  obtain ⟨d1, d2, d3⟩ := m7
  refine ⟨⟨by omega, by omega, fun v hv => ?_⟩, trivial⟩
  by_cases hv2 : v = s6.toNat
  · rw [hv2]
    unfold ubo
    rw [h94, h91, lub_n hg (by omega), hl]
    exact ⟨m9.2, m10.2⟩
  · exact d3 v (by omega)
theorem rul_101 : Rul r_101 := by
  refine ⟨fun _ ρ M hm hB hF hG => ?_, fun gi gv hg => (by cases hg)⟩
  have H := cr_101 M (ρ 0) (ρ 1) (ρ 2) (ρ 3) (ρ 4) (ρ 5) (ρ 6) (hB _ List.mem_cons_self) (hB _ (List.mem_cons_of_mem _ List.mem_cons_self)) (hB _ (List.mem_cons_of_mem _ (List.mem_cons_of_mem _ List.mem_cons_self))) (hB _ (List.mem_cons_of_mem _ (List.mem_cons_of_mem _ (List.mem_cons_of_mem _ List.mem_cons_self)))) (hB _ (List.mem_cons_of_mem _ (List.mem_cons_of_mem _ (List.mem_cons_of_mem _ (List.mem_cons_of_mem _ List.mem_cons_self))))) (hB _ (List.mem_cons_of_mem _ (List.mem_cons_of_mem _ (List.mem_cons_of_mem _ (List.mem_cons_of_mem _ (List.mem_cons_of_mem _ List.mem_cons_self)))))) (hB _ (List.mem_cons_of_mem _ (List.mem_cons_of_mem _ (List.mem_cons_of_mem _ (List.mem_cons_of_mem _ (List.mem_cons_of_mem _ (List.mem_cons_of_mem _ List.mem_cons_self))))))) (cvp 22 (x' := ((ρ 6))) (y' := (0 : Int)) (by show 0 + (1 * ρ 6 + 0) = _; omega) (by show 0 + 0 = _; omega) (hm _ List.mem_cons_self)) (cvp 26 (x' := ((ρ 4))) (y' := ((ρ 5))) (by show 0 + (1 * ρ 4 + 0) = _; omega) (by show 0 + (1 * ρ 5 + 0) = _; omega) (hm _ (List.mem_cons_of_mem _ List.mem_cons_self))) (cvm (c := 95) (by decide) (x' := ((ρ 5))) (y' := ((ρ 1))) (by show 0 + (1 * ρ 5 + 0) = _; omega) (by show 0 + (1 * ρ 1 + 0) = _; omega) (hm _ (List.mem_cons_of_mem _ (List.mem_cons_of_mem _ List.mem_cons_self)))) (cvm (c := 61) (by decide) (x' := (54 : Int)) (y' := ((ρ 4))) (by show 54 + 0 = _; omega) (by show 0 + (1 * ρ 4 + 0) = _; omega) (hm _ (List.mem_cons_of_mem _ (List.mem_cons_of_mem _ (List.mem_cons_of_mem _ List.mem_cons_self))))) (cvm (c := 94) (by decide) (x' := ((ρ 6))) (y' := (1 : Int)) (by show 0 + (1 * ρ 6 + 0) = _; omega) (by show 1 + 0 = _; omega) (hm _ (List.mem_cons_of_mem _ (List.mem_cons_of_mem _ (List.mem_cons_of_mem _ (List.mem_cons_of_mem _ List.mem_cons_self)))))) (cvm (c := 61) (by decide) (x' := (53 : Int)) (y' := ((ρ 2))) (by show 53 + 0 = _; omega) (by show 0 + (1 * ρ 2 + 0) = _; omega) (hm _ (List.mem_cons_of_mem _ (List.mem_cons_of_mem _ (List.mem_cons_of_mem _ (List.mem_cons_of_mem _ (List.mem_cons_of_mem _ List.mem_cons_self))))))) (cvm (c := 61) (by decide) (x' := (55 : Int)) (y' := ((ρ 3))) (by show 55 + 0 = _; omega) (by show 0 + (1 * ρ 3 + 0) = _; omega) (hm _ (List.mem_cons_of_mem _ (List.mem_cons_of_mem _ (List.mem_cons_of_mem _ (List.mem_cons_of_mem _ (List.mem_cons_of_mem _ (List.mem_cons_of_mem _ List.mem_cons_self)))))))) (cvp 24 (x' := ((ρ 6))) (y' := (0 : Int)) (by show 0 + (1 * ρ 6 + 0) = _; omega) (by show 0 + 0 = _; omega) (hm _ (List.mem_cons_of_mem _ (List.mem_cons_of_mem _ (List.mem_cons_of_mem _ (List.mem_cons_of_mem _ (List.mem_cons_of_mem _ (List.mem_cons_of_mem _ (List.mem_cons_of_mem _ List.mem_cons_self))))))))) (cvm (c := 91) (by decide) (x' := ((ρ 6))) (y' := ((ρ 0))) (by show 0 + (1 * ρ 6 + 0) = _; omega) (by show 0 + (1 * ρ 0 + 0) = _; omega) (hm _ (List.mem_cons_of_mem _ (List.mem_cons_of_mem _ (List.mem_cons_of_mem _ (List.mem_cons_of_mem _ (List.mem_cons_of_mem _ (List.mem_cons_of_mem _ (List.mem_cons_of_mem _ (List.mem_cons_of_mem _ List.mem_cons_self)))))))))) (cvm (c := 92) (by decide) (x' := ((ρ 6))) (y' := (-1 : Int)) (by show 0 + (1 * ρ 6 + 0) = _; omega) (by show (-1) + 0 = _; omega) (hm _ (List.mem_cons_of_mem _ (List.mem_cons_of_mem _ (List.mem_cons_of_mem _ (List.mem_cons_of_mem _ (List.mem_cons_of_mem _ (List.mem_cons_of_mem _ (List.mem_cons_of_mem _ (List.mem_cons_of_mem _ (List.mem_cons_of_mem _ List.mem_cons_self))))))))))) (cvm (c := 93) (by decide) (x' := ((ρ 6))) (y' := ((ρ 5))) (by show 0 + (1 * ρ 6 + 0) = _; omega) (by show 0 + (1 * ρ 5 + 0) = _; omega) (hm _ (List.mem_cons_of_mem _ (List.mem_cons_of_mem _ (List.mem_cons_of_mem _ (List.mem_cons_of_mem _ (List.mem_cons_of_mem _ (List.mem_cons_of_mem _ (List.mem_cons_of_mem _ (List.mem_cons_of_mem _ (List.mem_cons_of_mem _ (List.mem_cons_of_mem _ List.mem_cons_self)))))))))))) (by have h := hF _ List.mem_cons_self; have h : 0 ≤ 0 + (1 * ρ 0 + ((-1) * ρ 1 + 0)) := h; omega) (by have h := hF _ (List.mem_cons_of_mem _ List.mem_cons_self); have h : 0 ≤ (-36) + (1 * ρ 0 + 0) := h; omega) hG
  obtain ⟨k0, -⟩ := H
  exact ⟨_, List.mem_cons_self, ρ, fun _ _ => rfl, (okM_c (pvp 24 (by show 1 + (1 * ρ 6 + 0) = _; omega) (by show 0 + 0 = _; omega) k0) okM_n), okB_n, okF_n⟩
-- fs101
theorem cr_102 (M : pM) (s0 s1 s2 s3 s4 s5 s6 : Int) (b0 : 0 ≤ s0 ∧ s0 ≤ 35) (b1 : (-2147483648) ≤ s1 ∧ s1 ≤ 2147483647) (b2 : 1 ≤ s2 ∧ s2 ≤ 9) (b3 : 1 ≤ s3 ∧ s3 ≤ 9) (b4 : 1 ≤ s4 ∧ s4 ≤ 4) (b5 : 0 ≤ s5 ∧ s5 ≤ 3) (b6 : 0 ≤ s6 ∧ s6 ≤ 29) (m0 : HP 22 (s6) (0 : Int) M) (m1 : HP 26 (s4) (s5) M) (m2 : (0 ≤ (s5) ∧ M 95 (s5).toNat = (s1))) (m3 : (0 ≤ (54 : Int) ∧ M 61 (54 : Int).toNat = (s4))) (m4 : (0 ≤ (s6) ∧ M 94 (s6).toNat = (1 : Int))) (m5 : (0 ≤ (53 : Int) ∧ M 61 (53 : Int).toNat = (s2))) (m6 : (0 ≤ (55 : Int) ∧ M 61 (55 : Int).toNat = (s3))) (m7 : (0 ≤ (s6) ∧ M 91 (s6).toNat = (s0))) (f0 : 0 ≤ (s0 + (-1) * s1)) (f1 : 0 ≤ (s0 - 36)) (hG : gI M) : (HP 22 (s6 + 1) (0 : Int) M ∧ True) := by
  obtain ⟨a1, a2, a3⟩ := m0
  obtain ⟨c1, c2, c3⟩ := m1
  obtain ⟨hj, hx, hl, h3⟩ := ln_p (A := 95) (fun k hk => a3 k (by omega)) (p := s4) m3.2 (by omega) (by omega) c3 m2.2
  have hg : lng (M 61 54) 1 s0 (lF M s6.toNat) = s0 := lng_q hj hx (by omega)
  have h94 : M 94 s6.toNat = 1 := m4.2
  have hw : M 61 53 = s2 := m5.2
  have ht : M 61 55 = s3 := m6.2
  have h91 : M 91 s6.toNat = s0 := m7.2
  refine ⟨⟨by omega, by omega, fun k hk => ?_⟩, trivial⟩
  rw [show (s6 + 1).toNat = s6.toNat + 1 by omega, lF_u, h94, h91, lst_n hg (by omega)]
  exact a3 k hk
theorem rul_102 : Rul r_102 := by
  refine ⟨fun _ ρ M hm hB hF hG => ?_, fun gi gv hg => (by cases hg)⟩
  have H := cr_102 M (ρ 0) (ρ 1) (ρ 2) (ρ 3) (ρ 4) (ρ 5) (ρ 6) (hB _ List.mem_cons_self) (hB _ (List.mem_cons_of_mem _ List.mem_cons_self)) (hB _ (List.mem_cons_of_mem _ (List.mem_cons_of_mem _ List.mem_cons_self))) (hB _ (List.mem_cons_of_mem _ (List.mem_cons_of_mem _ (List.mem_cons_of_mem _ List.mem_cons_self)))) (hB _ (List.mem_cons_of_mem _ (List.mem_cons_of_mem _ (List.mem_cons_of_mem _ (List.mem_cons_of_mem _ List.mem_cons_self))))) (hB _ (List.mem_cons_of_mem _ (List.mem_cons_of_mem _ (List.mem_cons_of_mem _ (List.mem_cons_of_mem _ (List.mem_cons_of_mem _ List.mem_cons_self)))))) (hB _ (List.mem_cons_of_mem _ (List.mem_cons_of_mem _ (List.mem_cons_of_mem _ (List.mem_cons_of_mem _ (List.mem_cons_of_mem _ (List.mem_cons_of_mem _ List.mem_cons_self))))))) (cvp 22 (x' := ((ρ 6))) (y' := (0 : Int)) (by show 0 + (1 * ρ 6 + 0) = _; omega) (by show 0 + 0 = _; omega) (hm _ List.mem_cons_self)) (cvp 26 (x' := ((ρ 4))) (y' := ((ρ 5))) (by show 0 + (1 * ρ 4 + 0) = _; omega) (by show 0 + (1 * ρ 5 + 0) = _; omega) (hm _ (List.mem_cons_of_mem _ List.mem_cons_self))) (cvm (c := 95) (by decide) (x' := ((ρ 5))) (y' := ((ρ 1))) (by show 0 + (1 * ρ 5 + 0) = _; omega) (by show 0 + (1 * ρ 1 + 0) = _; omega) (hm _ (List.mem_cons_of_mem _ (List.mem_cons_of_mem _ List.mem_cons_self)))) (cvm (c := 61) (by decide) (x' := (54 : Int)) (y' := ((ρ 4))) (by show 54 + 0 = _; omega) (by show 0 + (1 * ρ 4 + 0) = _; omega) (hm _ (List.mem_cons_of_mem _ (List.mem_cons_of_mem _ (List.mem_cons_of_mem _ List.mem_cons_self))))) (cvm (c := 94) (by decide) (x' := ((ρ 6))) (y' := (1 : Int)) (by show 0 + (1 * ρ 6 + 0) = _; omega) (by show 1 + 0 = _; omega) (hm _ (List.mem_cons_of_mem _ (List.mem_cons_of_mem _ (List.mem_cons_of_mem _ (List.mem_cons_of_mem _ List.mem_cons_self)))))) (cvm (c := 61) (by decide) (x' := (53 : Int)) (y' := ((ρ 2))) (by show 53 + 0 = _; omega) (by show 0 + (1 * ρ 2 + 0) = _; omega) (hm _ (List.mem_cons_of_mem _ (List.mem_cons_of_mem _ (List.mem_cons_of_mem _ (List.mem_cons_of_mem _ (List.mem_cons_of_mem _ List.mem_cons_self))))))) (cvm (c := 61) (by decide) (x' := (55 : Int)) (y' := ((ρ 3))) (by show 55 + 0 = _; omega) (by show 0 + (1 * ρ 3 + 0) = _; omega) (hm _ (List.mem_cons_of_mem _ (List.mem_cons_of_mem _ (List.mem_cons_of_mem _ (List.mem_cons_of_mem _ (List.mem_cons_of_mem _ (List.mem_cons_of_mem _ List.mem_cons_self)))))))) (cvm (c := 91) (by decide) (x' := ((ρ 6))) (y' := ((ρ 0))) (by show 0 + (1 * ρ 6 + 0) = _; omega) (by show 0 + (1 * ρ 0 + 0) = _; omega) (hm _ (List.mem_cons_of_mem _ (List.mem_cons_of_mem _ (List.mem_cons_of_mem _ (List.mem_cons_of_mem _ (List.mem_cons_of_mem _ (List.mem_cons_of_mem _ (List.mem_cons_of_mem _ List.mem_cons_self))))))))) (by have h := hF _ List.mem_cons_self; have h : 0 ≤ 0 + (1 * ρ 0 + ((-1) * ρ 1 + 0)) := h; omega) (by have h := hF _ (List.mem_cons_of_mem _ List.mem_cons_self); have h : 0 ≤ (-36) + (1 * ρ 0 + 0) := h; omega) hG
  obtain ⟨k0, -⟩ := H
  exact ⟨_, List.mem_cons_self, ρ, fun _ _ => rfl, (okM_c (pvp 22 (by show 1 + (1 * ρ 6 + 0) = _; omega) (by show 0 + 0 = _; omega) k0) okM_n), okB_n, okF_n⟩
-- xb110
theorem cr_103 (M : pM) (s0 s1 s2 s3 s4 s5 s6 : Int) (b0 : 0 ≤ s0 ∧ s0 ≤ 29) (b1 : 0 ≤ s1 ∧ s1 ≤ 35) (b2 : 0 ≤ s2 ∧ s2 ≤ 44) (b3 : 1 ≤ s3 ∧ s3 ≤ 9) (b4 : 1 ≤ s4 ∧ s4 ≤ 9) (b5 : 1 ≤ s5 ∧ s5 ≤ 4) (b6 : 0 ≤ s6 ∧ s6 ≤ 3) (m0 : HP 23 (s0) (0 : Int) M) (m1 : HP 27 (s5) (s6) M) (m2 : (0 ≤ (s6) ∧ M 36 (s6).toNat = (s2))) (m3 : (0 ≤ (54 : Int) ∧ M 61 (54 : Int).toNat = (s5))) (m4 : (0 ≤ (53 : Int) ∧ M 61 (53 : Int).toNat = (s3))) (m5 : (0 ≤ (55 : Int) ∧ M 61 (55 : Int).toNat = (s4))) (m6 : (0 ≤ (s0) ∧ M 37 (s0).toNat = (s2))) (m7 : (0 ≤ (s0) ∧ M 38 (s0).toNat = (s2 + s4))) (m8 : (0 ≤ (s0) ∧ M 39 (s0).toNat = (s6))) (f0 : 0 ≤ ((-1) * s1 + s2 - 1)) (f1 : 0 ≤ ((-1) * s2 + 35)) (hG : gI M) : (HP 31 (s0) (2 * s1 + 1) M ∧ True) := by
  obtain ⟨a1, a2, a3⟩ := m0
  obtain ⟨c1, c2, c3⟩ := m1
  obtain ⟨hj, hx, hl, h3⟩ := ln_p (A := 36) a3 (p := s5) m3.2 (by omega) (by omega) c3 m2.2
  have hg : lng (M 61 54) 1 s1 (lF M s0.toNat) = s2 := lng_m hj hx (by omega)
  have hw : M 61 53 = s3 := m4.2
  have ht : M 61 55 = s4 := m5.2
  refine ⟨⟨by omega, by omega, s1, 1, ⟨by omega, by omega, by omega, by omega⟩, by omega, ?_⟩, trivial⟩
  exact ⟨by rw [lub_y hg (by omega)]; exact m6.2, by rw [lfr_y hg (by omega), lnd_1, ht]; exact m7.2, by rw [lby_y hg (by omega), hl]; exact m8.2⟩
theorem rul_103 : Rul r_103 := by
  refine ⟨fun _ ρ M hm hB hF hG => ?_, fun gi gv hg => (by cases hg)⟩
  have H := cr_103 M (ρ 0) (ρ 1) (ρ 2) (ρ 3) (ρ 4) (ρ 5) (ρ 6) (hB _ List.mem_cons_self) (hB _ (List.mem_cons_of_mem _ List.mem_cons_self)) (hB _ (List.mem_cons_of_mem _ (List.mem_cons_of_mem _ List.mem_cons_self))) (hB _ (List.mem_cons_of_mem _ (List.mem_cons_of_mem _ (List.mem_cons_of_mem _ List.mem_cons_self)))) (hB _ (List.mem_cons_of_mem _ (List.mem_cons_of_mem _ (List.mem_cons_of_mem _ (List.mem_cons_of_mem _ List.mem_cons_self))))) (hB _ (List.mem_cons_of_mem _ (List.mem_cons_of_mem _ (List.mem_cons_of_mem _ (List.mem_cons_of_mem _ (List.mem_cons_of_mem _ List.mem_cons_self)))))) (hB _ (List.mem_cons_of_mem _ (List.mem_cons_of_mem _ (List.mem_cons_of_mem _ (List.mem_cons_of_mem _ (List.mem_cons_of_mem _ (List.mem_cons_of_mem _ List.mem_cons_self))))))) (cvp 23 (x' := ((ρ 0))) (y' := (0 : Int)) (by show 0 + (1 * ρ 0 + 0) = _; omega) (by show 0 + 0 = _; omega) (hm _ List.mem_cons_self)) (cvp 27 (x' := ((ρ 5))) (y' := ((ρ 6))) (by show 0 + (1 * ρ 5 + 0) = _; omega) (by show 0 + (1 * ρ 6 + 0) = _; omega) (hm _ (List.mem_cons_of_mem _ List.mem_cons_self))) (cvm (c := 36) (by decide) (x' := ((ρ 6))) (y' := ((ρ 2))) (by show 0 + (1 * ρ 6 + 0) = _; omega) (by show 0 + (1 * ρ 2 + 0) = _; omega) (hm _ (List.mem_cons_of_mem _ (List.mem_cons_of_mem _ List.mem_cons_self)))) (cvm (c := 61) (by decide) (x' := (54 : Int)) (y' := ((ρ 5))) (by show 54 + 0 = _; omega) (by show 0 + (1 * ρ 5 + 0) = _; omega) (hm _ (List.mem_cons_of_mem _ (List.mem_cons_of_mem _ (List.mem_cons_of_mem _ List.mem_cons_self))))) (cvm (c := 61) (by decide) (x' := (53 : Int)) (y' := ((ρ 3))) (by show 53 + 0 = _; omega) (by show 0 + (1 * ρ 3 + 0) = _; omega) (hm _ (List.mem_cons_of_mem _ (List.mem_cons_of_mem _ (List.mem_cons_of_mem _ (List.mem_cons_of_mem _ List.mem_cons_self)))))) (cvm (c := 61) (by decide) (x' := (55 : Int)) (y' := ((ρ 4))) (by show 55 + 0 = _; omega) (by show 0 + (1 * ρ 4 + 0) = _; omega) (hm _ (List.mem_cons_of_mem _ (List.mem_cons_of_mem _ (List.mem_cons_of_mem _ (List.mem_cons_of_mem _ (List.mem_cons_of_mem _ List.mem_cons_self))))))) (cvm (c := 37) (by decide) (x' := ((ρ 0))) (y' := ((ρ 2))) (by show 0 + (1 * ρ 0 + 0) = _; omega) (by show 0 + (1 * ρ 2 + 0) = _; omega) (hm _ (List.mem_cons_of_mem _ (List.mem_cons_of_mem _ (List.mem_cons_of_mem _ (List.mem_cons_of_mem _ (List.mem_cons_of_mem _ (List.mem_cons_of_mem _ List.mem_cons_self)))))))) (cvm (c := 38) (by decide) (x' := ((ρ 0))) (y' := ((ρ 2) + (ρ 4))) (by show 0 + (1 * ρ 0 + 0) = _; omega) (by show 0 + (1 * ρ 2 + (1 * ρ 4 + 0)) = _; omega) (hm _ (List.mem_cons_of_mem _ (List.mem_cons_of_mem _ (List.mem_cons_of_mem _ (List.mem_cons_of_mem _ (List.mem_cons_of_mem _ (List.mem_cons_of_mem _ (List.mem_cons_of_mem _ List.mem_cons_self))))))))) (cvm (c := 39) (by decide) (x' := ((ρ 0))) (y' := ((ρ 6))) (by show 0 + (1 * ρ 0 + 0) = _; omega) (by show 0 + (1 * ρ 6 + 0) = _; omega) (hm _ (List.mem_cons_of_mem _ (List.mem_cons_of_mem _ (List.mem_cons_of_mem _ (List.mem_cons_of_mem _ (List.mem_cons_of_mem _ (List.mem_cons_of_mem _ (List.mem_cons_of_mem _ (List.mem_cons_of_mem _ List.mem_cons_self)))))))))) (by have h := hF _ List.mem_cons_self; have h : 0 ≤ (-1) + ((-1) * ρ 1 + (1 * ρ 2 + 0)) := h; omega) (by have h := hF _ (List.mem_cons_of_mem _ List.mem_cons_self); have h : 0 ≤ 35 + ((-1) * ρ 2 + 0) := h; omega) hG
  obtain ⟨k0, -⟩ := H
  exact ⟨_, List.mem_cons_self, ρ, fun _ _ => rfl, (okM_c (pvp 31 (by show 0 + (1 * ρ 0 + 0) = _; omega) (by show 1 + (2 * ρ 1 + 0) = _; omega) k0) okM_n), okB_n, okF_n⟩
-- xp110
theorem cr_104 (M : pM) (s0 s1 s2 s3 s4 s5 s6 : Int) (b0 : 0 ≤ s0 ∧ s0 ≤ 29) (b1 : 0 ≤ s1 ∧ s1 ≤ 35) (b2 : 0 ≤ s2 ∧ s2 ≤ 44) (b3 : 1 ≤ s3 ∧ s3 ≤ 9) (b4 : 1 ≤ s4 ∧ s4 ≤ 9) (b5 : 1 ≤ s5 ∧ s5 ≤ 4) (b6 : 0 ≤ s6 ∧ s6 ≤ 3) (m0 : HP 23 (s0) (0 : Int) M) (m1 : HP 27 (s5) (s6) M) (m2 : (0 ≤ (s6) ∧ M 36 (s6).toNat = (s2))) (m3 : (0 ≤ (54 : Int) ∧ M 61 (54 : Int).toNat = (s5))) (m4 : (0 ≤ (53 : Int) ∧ M 61 (53 : Int).toNat = (s3))) (m5 : (0 ≤ (55 : Int) ∧ M 61 (55 : Int).toNat = (s4))) (f0 : 0 ≤ ((-1) * s1 + s2 - 1)) (f1 : 0 ≤ ((-1) * s2 + 35)) (hG : gI M) : (HP 29 (s0) (2 * s1 + 1) (st M 36 (s6).toNat (s2 + s4)) ∧ True) := by
  obtain ⟨a1, a2, a3⟩ := m0
  obtain ⟨c1, c2, c3⟩ := m1
  obtain ⟨hj, hx, hl, h3⟩ := ln_p (A := 36) a3 (p := s5) m3.2 (by omega) (by omega) c3 m2.2
  have hg : lng (M 61 54) 1 s1 (lF M s0.toNat) = s2 := lng_m hj hx (by omega)
  have hw : M 61 53 = s3 := m4.2
  have ht : M 61 55 = s4 := m5.2
  refine ⟨⟨by omega, by omega, s1, 1, ⟨by omega, by omega, by omega, by omega⟩, by omega, fun k hk => ?_⟩, trivial⟩
  rw [lF_s (by decide) (fun i _ h => absurd h.1 (by decide)) (fun i _ h => absurd h.1 (by decide)), sq_o (a := 61) (b := 54) (fun h => absurd h.1 (by decide)), sq_o (a := 61) (b := 53) (fun h => absurd h.1 (by decide)), sq_o (a := 61) (b := 55) (fun h => absurd h.1 (by decide))]
  by_cases hk2 : k = s6.toNat
  · rw [hk2, sq_s, lst_y hj hg (by omega), lnd_1, ht]
  · rw [lst_o hj hk2, sq_o (fun h => hk2 h.2)]
    exact a3 k hk
theorem rul_104 : Rul r_104 := by
  refine ⟨fun h => (by cases h), fun gi gv hg ρ M hm hB hF hG => ?_⟩
  obtain ⟨g1, g2⟩ := List.cons.inj (show ([aI ((0 : Int), ([(6, 1)] : List (Nat × Int))), aI ((0 : Int), ([(2, 1), (4, 1)] : List (Nat × Int)))] : List av) = [.inl gi, .inl gv] from hg)
  obtain ⟨g2, -⟩ := List.cons.inj g2
  cases g1
  cases g2
  have ei : ev ρ ((0 : Int), ([(6, 1)] : List (Nat × Int))) = ((ρ 6)) := by show 0 + (1 * ρ 6 + 0) = _; omega
  have ew : ev ρ ((0 : Int), ([(2, 1), (4, 1)] : List (Nat × Int))) = ((ρ 2) + (ρ 4)) := by show 0 + (1 * ρ 2 + (1 * ρ 4 + 0)) = _; omega
  rw [show (st M (ctj r_104) (ev ρ ((0 : Int), ([(6, 1)] : List (Nat × Int)))).toNat (ev ρ ((0 : Int), ([(2, 1), (4, 1)] : List (Nat × Int))))) = (st M 36 ((ρ 6)).toNat ((ρ 2) + (ρ 4))) from by rw [ei, ew]; rfl]
  have H := cr_104 M (ρ 0) (ρ 1) (ρ 2) (ρ 3) (ρ 4) (ρ 5) (ρ 6) (hB _ List.mem_cons_self) (hB _ (List.mem_cons_of_mem _ List.mem_cons_self)) (hB _ (List.mem_cons_of_mem _ (List.mem_cons_of_mem _ List.mem_cons_self))) (hB _ (List.mem_cons_of_mem _ (List.mem_cons_of_mem _ (List.mem_cons_of_mem _ List.mem_cons_self)))) (hB _ (List.mem_cons_of_mem _ (List.mem_cons_of_mem _ (List.mem_cons_of_mem _ (List.mem_cons_of_mem _ List.mem_cons_self))))) (hB _ (List.mem_cons_of_mem _ (List.mem_cons_of_mem _ (List.mem_cons_of_mem _ (List.mem_cons_of_mem _ (List.mem_cons_of_mem _ List.mem_cons_self)))))) (hB _ (List.mem_cons_of_mem _ (List.mem_cons_of_mem _ (List.mem_cons_of_mem _ (List.mem_cons_of_mem _ (List.mem_cons_of_mem _ (List.mem_cons_of_mem _ List.mem_cons_self))))))) (cvp 23 (x' := ((ρ 0))) (y' := (0 : Int)) (by show 0 + (1 * ρ 0 + 0) = _; omega) (by show 0 + 0 = _; omega) (hm _ List.mem_cons_self)) (cvp 27 (x' := ((ρ 5))) (y' := ((ρ 6))) (by show 0 + (1 * ρ 5 + 0) = _; omega) (by show 0 + (1 * ρ 6 + 0) = _; omega) (hm _ (List.mem_cons_of_mem _ List.mem_cons_self))) (cvm (c := 36) (by decide) (x' := ((ρ 6))) (y' := ((ρ 2))) (by show 0 + (1 * ρ 6 + 0) = _; omega) (by show 0 + (1 * ρ 2 + 0) = _; omega) (hm _ (List.mem_cons_of_mem _ (List.mem_cons_of_mem _ List.mem_cons_self)))) (cvm (c := 61) (by decide) (x' := (54 : Int)) (y' := ((ρ 5))) (by show 54 + 0 = _; omega) (by show 0 + (1 * ρ 5 + 0) = _; omega) (hm _ (List.mem_cons_of_mem _ (List.mem_cons_of_mem _ (List.mem_cons_of_mem _ List.mem_cons_self))))) (cvm (c := 61) (by decide) (x' := (53 : Int)) (y' := ((ρ 3))) (by show 53 + 0 = _; omega) (by show 0 + (1 * ρ 3 + 0) = _; omega) (hm _ (List.mem_cons_of_mem _ (List.mem_cons_of_mem _ (List.mem_cons_of_mem _ (List.mem_cons_of_mem _ List.mem_cons_self)))))) (cvm (c := 61) (by decide) (x' := (55 : Int)) (y' := ((ρ 4))) (by show 55 + 0 = _; omega) (by show 0 + (1 * ρ 4 + 0) = _; omega) (hm _ (List.mem_cons_of_mem _ (List.mem_cons_of_mem _ (List.mem_cons_of_mem _ (List.mem_cons_of_mem _ (List.mem_cons_of_mem _ List.mem_cons_self))))))) (by have h := hF _ List.mem_cons_self; have h : 0 ≤ (-1) + ((-1) * ρ 1 + (1 * ρ 2 + 0)) := h; omega) (by have h := hF _ (List.mem_cons_of_mem _ List.mem_cons_self); have h : 0 ≤ 35 + ((-1) * ρ 2 + 0) := h; omega) hG
  obtain ⟨k0, -⟩ := H
  exact ⟨_, List.mem_cons_self, ρ, fun _ _ => rfl, (okM_c (pvp 29 (by show 0 + (1 * ρ 0 + 0) = _; omega) (by show 1 + (2 * ρ 1 + 0) = _; omega) k0) okM_n), okB_n, okF_n⟩
-- ub110
theorem cr_105 (M : pM) (s0 s1 s2 s3 s4 s5 s6 : Int) (b0 : 0 ≤ s0 ∧ s0 ≤ 35) (b1 : (-2147483648) ≤ s1 ∧ s1 ≤ 2147483647) (b2 : 1 ≤ s2 ∧ s2 ≤ 9) (b3 : 1 ≤ s3 ∧ s3 ≤ 9) (b4 : 1 ≤ s4 ∧ s4 ≤ 4) (b5 : 0 ≤ s5 ∧ s5 ≤ 3) (b6 : 0 ≤ s6 ∧ s6 ≤ 29) (m0 : HP 22 (s6) (0 : Int) M) (m1 : HP 26 (s4) (s5) M) (m2 : (0 ≤ (s5) ∧ M 95 (s5).toNat = (s1))) (m3 : (0 ≤ (54 : Int) ∧ M 61 (54 : Int).toNat = (s4))) (m4 : (0 ≤ (s6) ∧ M 94 (s6).toNat = (1 : Int))) (m5 : (0 ≤ (53 : Int) ∧ M 61 (53 : Int).toNat = (s2))) (m6 : (0 ≤ (55 : Int) ∧ M 61 (55 : Int).toNat = (s3))) (m7 : HP 24 (s6) (0 : Int) M) (m8 : (0 ≤ (s6) ∧ M 91 (s6).toNat = (s0))) (m9 : (0 ≤ (s6) ∧ M 92 (s6).toNat = (s1))) (m10 : (0 ≤ (s6) ∧ M 93 (s6).toNat = (s5))) (f0 : 0 ≤ ((-1) * s0 + s1 - 1)) (f1 : 0 ≤ ((-1) * s1 + 35)) (hG : gI M) : (HP 24 (s6 + 1) (0 : Int) M ∧ True) := by
  obtain ⟨a1, a2, a3⟩ := m0
  obtain ⟨c1, c2, c3⟩ := m1
  obtain ⟨hj, hx, hl, h3⟩ := ln_p (A := 95) (fun k hk => a3 k (by omega)) (p := s4) m3.2 (by omega) (by omega) c3 m2.2
  have hg : lng (M 61 54) 1 s0 (lF M s6.toNat) = s1 := lng_m hj hx (by omega)
  have h94 : M 94 s6.toNat = 1 := m4.2
  have hw : M 61 53 = s2 := m5.2
  have ht : M 61 55 = s3 := m6.2
  have h91 : M 91 s6.toNat = s0 := m8.2
  obtain ⟨d1, d2, d3⟩ := m7
  refine ⟨⟨by omega, by omega, fun v hv => ?_⟩, trivial⟩
  by_cases hv2 : v = s6.toNat
  · rw [hv2]
    unfold ubo
    rw [h94, h91, lub_y hg (by omega), hl]
    exact ⟨m9.2, m10.2⟩
  · exact d3 v (by omega)
theorem rul_105 : Rul r_105 := by
  refine ⟨fun _ ρ M hm hB hF hG => ?_, fun gi gv hg => (by cases hg)⟩
  have H := cr_105 M (ρ 0) (ρ 1) (ρ 2) (ρ 3) (ρ 4) (ρ 5) (ρ 6) (hB _ List.mem_cons_self) (hB _ (List.mem_cons_of_mem _ List.mem_cons_self)) (hB _ (List.mem_cons_of_mem _ (List.mem_cons_of_mem _ List.mem_cons_self))) (hB _ (List.mem_cons_of_mem _ (List.mem_cons_of_mem _ (List.mem_cons_of_mem _ List.mem_cons_self)))) (hB _ (List.mem_cons_of_mem _ (List.mem_cons_of_mem _ (List.mem_cons_of_mem _ (List.mem_cons_of_mem _ List.mem_cons_self))))) (hB _ (List.mem_cons_of_mem _ (List.mem_cons_of_mem _ (List.mem_cons_of_mem _ (List.mem_cons_of_mem _ (List.mem_cons_of_mem _ List.mem_cons_self)))))) (hB _ (List.mem_cons_of_mem _ (List.mem_cons_of_mem _ (List.mem_cons_of_mem _ (List.mem_cons_of_mem _ (List.mem_cons_of_mem _ (List.mem_cons_of_mem _ List.mem_cons_self))))))) (cvp 22 (x' := ((ρ 6))) (y' := (0 : Int)) (by show 0 + (1 * ρ 6 + 0) = _; omega) (by show 0 + 0 = _; omega) (hm _ List.mem_cons_self)) (cvp 26 (x' := ((ρ 4))) (y' := ((ρ 5))) (by show 0 + (1 * ρ 4 + 0) = _; omega) (by show 0 + (1 * ρ 5 + 0) = _; omega) (hm _ (List.mem_cons_of_mem _ List.mem_cons_self))) (cvm (c := 95) (by decide) (x' := ((ρ 5))) (y' := ((ρ 1))) (by show 0 + (1 * ρ 5 + 0) = _; omega) (by show 0 + (1 * ρ 1 + 0) = _; omega) (hm _ (List.mem_cons_of_mem _ (List.mem_cons_of_mem _ List.mem_cons_self)))) (cvm (c := 61) (by decide) (x' := (54 : Int)) (y' := ((ρ 4))) (by show 54 + 0 = _; omega) (by show 0 + (1 * ρ 4 + 0) = _; omega) (hm _ (List.mem_cons_of_mem _ (List.mem_cons_of_mem _ (List.mem_cons_of_mem _ List.mem_cons_self))))) (cvm (c := 94) (by decide) (x' := ((ρ 6))) (y' := (1 : Int)) (by show 0 + (1 * ρ 6 + 0) = _; omega) (by show 1 + 0 = _; omega) (hm _ (List.mem_cons_of_mem _ (List.mem_cons_of_mem _ (List.mem_cons_of_mem _ (List.mem_cons_of_mem _ List.mem_cons_self)))))) (cvm (c := 61) (by decide) (x' := (53 : Int)) (y' := ((ρ 2))) (by show 53 + 0 = _; omega) (by show 0 + (1 * ρ 2 + 0) = _; omega) (hm _ (List.mem_cons_of_mem _ (List.mem_cons_of_mem _ (List.mem_cons_of_mem _ (List.mem_cons_of_mem _ (List.mem_cons_of_mem _ List.mem_cons_self))))))) (cvm (c := 61) (by decide) (x' := (55 : Int)) (y' := ((ρ 3))) (by show 55 + 0 = _; omega) (by show 0 + (1 * ρ 3 + 0) = _; omega) (hm _ (List.mem_cons_of_mem _ (List.mem_cons_of_mem _ (List.mem_cons_of_mem _ (List.mem_cons_of_mem _ (List.mem_cons_of_mem _ (List.mem_cons_of_mem _ List.mem_cons_self)))))))) (cvp 24 (x' := ((ρ 6))) (y' := (0 : Int)) (by show 0 + (1 * ρ 6 + 0) = _; omega) (by show 0 + 0 = _; omega) (hm _ (List.mem_cons_of_mem _ (List.mem_cons_of_mem _ (List.mem_cons_of_mem _ (List.mem_cons_of_mem _ (List.mem_cons_of_mem _ (List.mem_cons_of_mem _ (List.mem_cons_of_mem _ List.mem_cons_self))))))))) (cvm (c := 91) (by decide) (x' := ((ρ 6))) (y' := ((ρ 0))) (by show 0 + (1 * ρ 6 + 0) = _; omega) (by show 0 + (1 * ρ 0 + 0) = _; omega) (hm _ (List.mem_cons_of_mem _ (List.mem_cons_of_mem _ (List.mem_cons_of_mem _ (List.mem_cons_of_mem _ (List.mem_cons_of_mem _ (List.mem_cons_of_mem _ (List.mem_cons_of_mem _ (List.mem_cons_of_mem _ List.mem_cons_self)))))))))) (cvm (c := 92) (by decide) (x' := ((ρ 6))) (y' := ((ρ 1))) (by show 0 + (1 * ρ 6 + 0) = _; omega) (by show 0 + (1 * ρ 1 + 0) = _; omega) (hm _ (List.mem_cons_of_mem _ (List.mem_cons_of_mem _ (List.mem_cons_of_mem _ (List.mem_cons_of_mem _ (List.mem_cons_of_mem _ (List.mem_cons_of_mem _ (List.mem_cons_of_mem _ (List.mem_cons_of_mem _ (List.mem_cons_of_mem _ List.mem_cons_self))))))))))) (cvm (c := 93) (by decide) (x' := ((ρ 6))) (y' := ((ρ 5))) (by show 0 + (1 * ρ 6 + 0) = _; omega) (by show 0 + (1 * ρ 5 + 0) = _; omega) (hm _ (List.mem_cons_of_mem _ (List.mem_cons_of_mem _ (List.mem_cons_of_mem _ (List.mem_cons_of_mem _ (List.mem_cons_of_mem _ (List.mem_cons_of_mem _ (List.mem_cons_of_mem _ (List.mem_cons_of_mem _ (List.mem_cons_of_mem _ (List.mem_cons_of_mem _ List.mem_cons_self)))))))))))) (by have h := hF _ List.mem_cons_self; have h : 0 ≤ (-1) + ((-1) * ρ 0 + (1 * ρ 1 + 0)) := h; omega) (by have h := hF _ (List.mem_cons_of_mem _ List.mem_cons_self); have h : 0 ≤ 35 + ((-1) * ρ 1 + 0) := h; omega) hG
  obtain ⟨k0, -⟩ := H
  exact ⟨_, List.mem_cons_self, ρ, fun _ _ => rfl, (okM_c (pvp 24 (by show 1 + (1 * ρ 6 + 0) = _; omega) (by show 0 + 0 = _; omega) k0) okM_n), okB_n, okF_n⟩
-- fs110
theorem cr_106 (M : pM) (s0 s1 s2 s3 s4 s5 s6 : Int) (b0 : 0 ≤ s0 ∧ s0 ≤ 35) (b1 : (-2147483648) ≤ s1 ∧ s1 ≤ 2147483647) (b2 : 1 ≤ s2 ∧ s2 ≤ 9) (b3 : 1 ≤ s3 ∧ s3 ≤ 9) (b4 : 1 ≤ s4 ∧ s4 ≤ 4) (b5 : 0 ≤ s5 ∧ s5 ≤ 3) (b6 : 0 ≤ s6 ∧ s6 ≤ 29) (m0 : HP 22 (s6) (0 : Int) M) (m1 : HP 26 (s4) (s5) M) (m2 : (0 ≤ (s5) ∧ M 95 (s5).toNat = (s1))) (m3 : (0 ≤ (54 : Int) ∧ M 61 (54 : Int).toNat = (s4))) (m4 : (0 ≤ (s6) ∧ M 94 (s6).toNat = (1 : Int))) (m5 : (0 ≤ (53 : Int) ∧ M 61 (53 : Int).toNat = (s2))) (m6 : (0 ≤ (55 : Int) ∧ M 61 (55 : Int).toNat = (s3))) (m7 : (0 ≤ (s6) ∧ M 91 (s6).toNat = (s0))) (f0 : 0 ≤ ((-1) * s0 + s1 - 1)) (f1 : 0 ≤ ((-1) * s1 + 35)) (hG : gI M) : (HP 22 (s6 + 1) (0 : Int) (st M 95 (s5).toNat (s1 + s3)) ∧ True) := by
  obtain ⟨a1, a2, a3⟩ := m0
  obtain ⟨c1, c2, c3⟩ := m1
  obtain ⟨hj, hx, hl, h3⟩ := ln_p (A := 95) (fun k hk => a3 k (by omega)) (p := s4) m3.2 (by omega) (by omega) c3 m2.2
  have hg : lng (M 61 54) 1 s0 (lF M s6.toNat) = s1 := lng_m hj hx (by omega)
  have h94 : M 94 s6.toNat = 1 := m4.2
  have hw : M 61 53 = s2 := m5.2
  have ht : M 61 55 = s3 := m6.2
  have h91 : M 91 s6.toNat = s0 := m7.2
  refine ⟨⟨by omega, by omega, fun k hk => ?_⟩, trivial⟩
  rw [show (s6 + 1).toNat = s6.toNat + 1 by omega, lF_s (by decide) (fun i _ h => absurd h.1 (by decide)) (fun i _ h => absurd h.1 (by decide)), lF_u, h94, h91]
  by_cases hk2 : k = s5.toNat
  · rw [hk2, lst_y hj hg (by omega), lnd_1, ht]
    exact sq_s
  · rw [lst_o hj hk2, sq_o (fun h => hk2 h.2)]
    exact a3 k hk
theorem rul_106 : Rul r_106 := by
  refine ⟨fun h => (by cases h), fun gi gv hg ρ M hm hB hF hG => ?_⟩
  obtain ⟨g1, g2⟩ := List.cons.inj (show ([aI ((0 : Int), ([(5, 1)] : List (Nat × Int))), aI ((0 : Int), ([(1, 1), (3, 1)] : List (Nat × Int)))] : List av) = [.inl gi, .inl gv] from hg)
  obtain ⟨g2, -⟩ := List.cons.inj g2
  cases g1
  cases g2
  have ei : ev ρ ((0 : Int), ([(5, 1)] : List (Nat × Int))) = ((ρ 5)) := by show 0 + (1 * ρ 5 + 0) = _; omega
  have ew : ev ρ ((0 : Int), ([(1, 1), (3, 1)] : List (Nat × Int))) = ((ρ 1) + (ρ 3)) := by show 0 + (1 * ρ 1 + (1 * ρ 3 + 0)) = _; omega
  rw [show (st M (ctj r_106) (ev ρ ((0 : Int), ([(5, 1)] : List (Nat × Int)))).toNat (ev ρ ((0 : Int), ([(1, 1), (3, 1)] : List (Nat × Int))))) = (st M 95 ((ρ 5)).toNat ((ρ 1) + (ρ 3))) from by rw [ei, ew]; rfl]
  have H := cr_106 M (ρ 0) (ρ 1) (ρ 2) (ρ 3) (ρ 4) (ρ 5) (ρ 6) (hB _ List.mem_cons_self) (hB _ (List.mem_cons_of_mem _ List.mem_cons_self)) (hB _ (List.mem_cons_of_mem _ (List.mem_cons_of_mem _ List.mem_cons_self))) (hB _ (List.mem_cons_of_mem _ (List.mem_cons_of_mem _ (List.mem_cons_of_mem _ List.mem_cons_self)))) (hB _ (List.mem_cons_of_mem _ (List.mem_cons_of_mem _ (List.mem_cons_of_mem _ (List.mem_cons_of_mem _ List.mem_cons_self))))) (hB _ (List.mem_cons_of_mem _ (List.mem_cons_of_mem _ (List.mem_cons_of_mem _ (List.mem_cons_of_mem _ (List.mem_cons_of_mem _ List.mem_cons_self)))))) (hB _ (List.mem_cons_of_mem _ (List.mem_cons_of_mem _ (List.mem_cons_of_mem _ (List.mem_cons_of_mem _ (List.mem_cons_of_mem _ (List.mem_cons_of_mem _ List.mem_cons_self))))))) (cvp 22 (x' := ((ρ 6))) (y' := (0 : Int)) (by show 0 + (1 * ρ 6 + 0) = _; omega) (by show 0 + 0 = _; omega) (hm _ List.mem_cons_self)) (cvp 26 (x' := ((ρ 4))) (y' := ((ρ 5))) (by show 0 + (1 * ρ 4 + 0) = _; omega) (by show 0 + (1 * ρ 5 + 0) = _; omega) (hm _ (List.mem_cons_of_mem _ List.mem_cons_self))) (cvm (c := 95) (by decide) (x' := ((ρ 5))) (y' := ((ρ 1))) (by show 0 + (1 * ρ 5 + 0) = _; omega) (by show 0 + (1 * ρ 1 + 0) = _; omega) (hm _ (List.mem_cons_of_mem _ (List.mem_cons_of_mem _ List.mem_cons_self)))) (cvm (c := 61) (by decide) (x' := (54 : Int)) (y' := ((ρ 4))) (by show 54 + 0 = _; omega) (by show 0 + (1 * ρ 4 + 0) = _; omega) (hm _ (List.mem_cons_of_mem _ (List.mem_cons_of_mem _ (List.mem_cons_of_mem _ List.mem_cons_self))))) (cvm (c := 94) (by decide) (x' := ((ρ 6))) (y' := (1 : Int)) (by show 0 + (1 * ρ 6 + 0) = _; omega) (by show 1 + 0 = _; omega) (hm _ (List.mem_cons_of_mem _ (List.mem_cons_of_mem _ (List.mem_cons_of_mem _ (List.mem_cons_of_mem _ List.mem_cons_self)))))) (cvm (c := 61) (by decide) (x' := (53 : Int)) (y' := ((ρ 2))) (by show 53 + 0 = _; omega) (by show 0 + (1 * ρ 2 + 0) = _; omega) (hm _ (List.mem_cons_of_mem _ (List.mem_cons_of_mem _ (List.mem_cons_of_mem _ (List.mem_cons_of_mem _ (List.mem_cons_of_mem _ List.mem_cons_self))))))) (cvm (c := 61) (by decide) (x' := (55 : Int)) (y' := ((ρ 3))) (by show 55 + 0 = _; omega) (by show 0 + (1 * ρ 3 + 0) = _; omega) (hm _ (List.mem_cons_of_mem _ (List.mem_cons_of_mem _ (List.mem_cons_of_mem _ (List.mem_cons_of_mem _ (List.mem_cons_of_mem _ (List.mem_cons_of_mem _ List.mem_cons_self)))))))) (cvm (c := 91) (by decide) (x' := ((ρ 6))) (y' := ((ρ 0))) (by show 0 + (1 * ρ 6 + 0) = _; omega) (by show 0 + (1 * ρ 0 + 0) = _; omega) (hm _ (List.mem_cons_of_mem _ (List.mem_cons_of_mem _ (List.mem_cons_of_mem _ (List.mem_cons_of_mem _ (List.mem_cons_of_mem _ (List.mem_cons_of_mem _ (List.mem_cons_of_mem _ List.mem_cons_self))))))))) (by have h := hF _ List.mem_cons_self; have h : 0 ≤ (-1) + ((-1) * ρ 0 + (1 * ρ 1 + 0)) := h; omega) (by have h := hF _ (List.mem_cons_of_mem _ List.mem_cons_self); have h : 0 ≤ 35 + ((-1) * ρ 1 + 0) := h; omega) hG
  obtain ⟨k0, -⟩ := H
  exact ⟨_, List.mem_cons_self, ρ, fun _ _ => rfl, (okM_c (pvp 22 (by show 1 + (1 * ρ 6 + 0) = _; omega) (by show 0 + 0 = _; omega) k0) okM_n), okB_n, okF_n⟩
-- xb111
theorem cr_107 (M : pM) (s0 s1 s2 s3 s4 s5 s6 : Int) (b0 : 0 ≤ s0 ∧ s0 ≤ 29) (b1 : 0 ≤ s1 ∧ s1 ≤ 35) (b2 : 0 ≤ s2 ∧ s2 ≤ 44) (b3 : 1 ≤ s3 ∧ s3 ≤ 9) (b4 : 1 ≤ s4 ∧ s4 ≤ 9) (b5 : 1 ≤ s5 ∧ s5 ≤ 4) (b6 : 0 ≤ s6 ∧ s6 ≤ 3) (m0 : HP 23 (s0) (0 : Int) M) (m1 : HP 27 (s5) (s6) M) (m2 : (0 ≤ (s6) ∧ M 36 (s6).toNat = (s2))) (m3 : (0 ≤ (54 : Int) ∧ M 61 (54 : Int).toNat = (s5))) (m4 : (0 ≤ (53 : Int) ∧ M 61 (53 : Int).toNat = (s3))) (m5 : (0 ≤ (55 : Int) ∧ M 61 (55 : Int).toNat = (s4))) (m6 : (0 ≤ (s0) ∧ M 37 (s0).toNat = (-1 : Int))) (m7 : (0 ≤ (s0) ∧ M 38 (s0).toNat = (-1 : Int))) (m8 : (0 ≤ (s0) ∧ M 39 (s0).toNat = (-1 : Int))) (f0 : 0 ≤ ((-1) * s1 + s2 - 1)) (f1 : 0 ≤ (s2 - 36)) (hG : gI M) : (HP 31 (s0) (2 * s1 + 1) M ∧ True) := by
  obtain ⟨a1, a2, a3⟩ := m0
  obtain ⟨c1, c2, c3⟩ := m1
  obtain ⟨hj, hx, hl, h3⟩ := ln_p (A := 36) a3 (p := s5) m3.2 (by omega) (by omega) c3 m2.2
  have hg : lng (M 61 54) 1 s1 (lF M s0.toNat) = s2 := lng_m hj hx (by omega)
  have hw : M 61 53 = s3 := m4.2
  have ht : M 61 55 = s4 := m5.2
  refine ⟨⟨by omega, by omega, s1, 1, ⟨by omega, by omega, by omega, by omega⟩, by omega, ?_⟩, trivial⟩
  exact ⟨by rw [lub_n hg (by omega)]; exact m6.2, by rw [lfr_n hg (by omega)]; exact m7.2, by rw [lby_n hg (by omega)]; exact m8.2⟩
theorem rul_107 : Rul r_107 := by
  refine ⟨fun _ ρ M hm hB hF hG => ?_, fun gi gv hg => (by cases hg)⟩
  have H := cr_107 M (ρ 0) (ρ 1) (ρ 2) (ρ 3) (ρ 4) (ρ 5) (ρ 6) (hB _ List.mem_cons_self) (hB _ (List.mem_cons_of_mem _ List.mem_cons_self)) (hB _ (List.mem_cons_of_mem _ (List.mem_cons_of_mem _ List.mem_cons_self))) (hB _ (List.mem_cons_of_mem _ (List.mem_cons_of_mem _ (List.mem_cons_of_mem _ List.mem_cons_self)))) (hB _ (List.mem_cons_of_mem _ (List.mem_cons_of_mem _ (List.mem_cons_of_mem _ (List.mem_cons_of_mem _ List.mem_cons_self))))) (hB _ (List.mem_cons_of_mem _ (List.mem_cons_of_mem _ (List.mem_cons_of_mem _ (List.mem_cons_of_mem _ (List.mem_cons_of_mem _ List.mem_cons_self)))))) (hB _ (List.mem_cons_of_mem _ (List.mem_cons_of_mem _ (List.mem_cons_of_mem _ (List.mem_cons_of_mem _ (List.mem_cons_of_mem _ (List.mem_cons_of_mem _ List.mem_cons_self))))))) (cvp 23 (x' := ((ρ 0))) (y' := (0 : Int)) (by show 0 + (1 * ρ 0 + 0) = _; omega) (by show 0 + 0 = _; omega) (hm _ List.mem_cons_self)) (cvp 27 (x' := ((ρ 5))) (y' := ((ρ 6))) (by show 0 + (1 * ρ 5 + 0) = _; omega) (by show 0 + (1 * ρ 6 + 0) = _; omega) (hm _ (List.mem_cons_of_mem _ List.mem_cons_self))) (cvm (c := 36) (by decide) (x' := ((ρ 6))) (y' := ((ρ 2))) (by show 0 + (1 * ρ 6 + 0) = _; omega) (by show 0 + (1 * ρ 2 + 0) = _; omega) (hm _ (List.mem_cons_of_mem _ (List.mem_cons_of_mem _ List.mem_cons_self)))) (cvm (c := 61) (by decide) (x' := (54 : Int)) (y' := ((ρ 5))) (by show 54 + 0 = _; omega) (by show 0 + (1 * ρ 5 + 0) = _; omega) (hm _ (List.mem_cons_of_mem _ (List.mem_cons_of_mem _ (List.mem_cons_of_mem _ List.mem_cons_self))))) (cvm (c := 61) (by decide) (x' := (53 : Int)) (y' := ((ρ 3))) (by show 53 + 0 = _; omega) (by show 0 + (1 * ρ 3 + 0) = _; omega) (hm _ (List.mem_cons_of_mem _ (List.mem_cons_of_mem _ (List.mem_cons_of_mem _ (List.mem_cons_of_mem _ List.mem_cons_self)))))) (cvm (c := 61) (by decide) (x' := (55 : Int)) (y' := ((ρ 4))) (by show 55 + 0 = _; omega) (by show 0 + (1 * ρ 4 + 0) = _; omega) (hm _ (List.mem_cons_of_mem _ (List.mem_cons_of_mem _ (List.mem_cons_of_mem _ (List.mem_cons_of_mem _ (List.mem_cons_of_mem _ List.mem_cons_self))))))) (cvm (c := 37) (by decide) (x' := ((ρ 0))) (y' := (-1 : Int)) (by show 0 + (1 * ρ 0 + 0) = _; omega) (by show (-1) + 0 = _; omega) (hm _ (List.mem_cons_of_mem _ (List.mem_cons_of_mem _ (List.mem_cons_of_mem _ (List.mem_cons_of_mem _ (List.mem_cons_of_mem _ (List.mem_cons_of_mem _ List.mem_cons_self)))))))) (cvm (c := 38) (by decide) (x' := ((ρ 0))) (y' := (-1 : Int)) (by show 0 + (1 * ρ 0 + 0) = _; omega) (by show (-1) + 0 = _; omega) (hm _ (List.mem_cons_of_mem _ (List.mem_cons_of_mem _ (List.mem_cons_of_mem _ (List.mem_cons_of_mem _ (List.mem_cons_of_mem _ (List.mem_cons_of_mem _ (List.mem_cons_of_mem _ List.mem_cons_self))))))))) (cvm (c := 39) (by decide) (x' := ((ρ 0))) (y' := (-1 : Int)) (by show 0 + (1 * ρ 0 + 0) = _; omega) (by show (-1) + 0 = _; omega) (hm _ (List.mem_cons_of_mem _ (List.mem_cons_of_mem _ (List.mem_cons_of_mem _ (List.mem_cons_of_mem _ (List.mem_cons_of_mem _ (List.mem_cons_of_mem _ (List.mem_cons_of_mem _ (List.mem_cons_of_mem _ List.mem_cons_self)))))))))) (by have h := hF _ List.mem_cons_self; have h : 0 ≤ (-1) + ((-1) * ρ 1 + (1 * ρ 2 + 0)) := h; omega) (by have h := hF _ (List.mem_cons_of_mem _ List.mem_cons_self); have h : 0 ≤ (-36) + (1 * ρ 2 + 0) := h; omega) hG
  obtain ⟨k0, -⟩ := H
  exact ⟨_, List.mem_cons_self, ρ, fun _ _ => rfl, (okM_c (pvp 31 (by show 0 + (1 * ρ 0 + 0) = _; omega) (by show 1 + (2 * ρ 1 + 0) = _; omega) k0) okM_n), okB_n, okF_n⟩
-- xp111
theorem cr_108 (M : pM) (s0 s1 s2 s3 s4 s5 s6 : Int) (b0 : 0 ≤ s0 ∧ s0 ≤ 29) (b1 : 0 ≤ s1 ∧ s1 ≤ 35) (b2 : 0 ≤ s2 ∧ s2 ≤ 44) (b3 : 1 ≤ s3 ∧ s3 ≤ 9) (b4 : 1 ≤ s4 ∧ s4 ≤ 9) (b5 : 1 ≤ s5 ∧ s5 ≤ 4) (b6 : 0 ≤ s6 ∧ s6 ≤ 3) (m0 : HP 23 (s0) (0 : Int) M) (m1 : HP 27 (s5) (s6) M) (m2 : (0 ≤ (s6) ∧ M 36 (s6).toNat = (s2))) (m3 : (0 ≤ (54 : Int) ∧ M 61 (54 : Int).toNat = (s5))) (m4 : (0 ≤ (53 : Int) ∧ M 61 (53 : Int).toNat = (s3))) (m5 : (0 ≤ (55 : Int) ∧ M 61 (55 : Int).toNat = (s4))) (f0 : 0 ≤ ((-1) * s1 + s2 - 1)) (f1 : 0 ≤ (s2 - 36)) (hG : gI M) : (HP 29 (s0) (2 * s1 + 1) M ∧ True) := by
  obtain ⟨a1, a2, a3⟩ := m0
  obtain ⟨c1, c2, c3⟩ := m1
  obtain ⟨hj, hx, hl, h3⟩ := ln_p (A := 36) a3 (p := s5) m3.2 (by omega) (by omega) c3 m2.2
  have hg : lng (M 61 54) 1 s1 (lF M s0.toNat) = s2 := lng_m hj hx (by omega)
  have hw : M 61 53 = s3 := m4.2
  have ht : M 61 55 = s4 := m5.2
  refine ⟨⟨by omega, by omega, s1, 1, ⟨by omega, by omega, by omega, by omega⟩, by omega, fun k hk => ?_⟩, trivial⟩
  rw [lst_n hg (by omega)]
  exact a3 k hk
theorem rul_108 : Rul r_108 := by
  refine ⟨fun _ ρ M hm hB hF hG => ?_, fun gi gv hg => (by cases hg)⟩
  have H := cr_108 M (ρ 0) (ρ 1) (ρ 2) (ρ 3) (ρ 4) (ρ 5) (ρ 6) (hB _ List.mem_cons_self) (hB _ (List.mem_cons_of_mem _ List.mem_cons_self)) (hB _ (List.mem_cons_of_mem _ (List.mem_cons_of_mem _ List.mem_cons_self))) (hB _ (List.mem_cons_of_mem _ (List.mem_cons_of_mem _ (List.mem_cons_of_mem _ List.mem_cons_self)))) (hB _ (List.mem_cons_of_mem _ (List.mem_cons_of_mem _ (List.mem_cons_of_mem _ (List.mem_cons_of_mem _ List.mem_cons_self))))) (hB _ (List.mem_cons_of_mem _ (List.mem_cons_of_mem _ (List.mem_cons_of_mem _ (List.mem_cons_of_mem _ (List.mem_cons_of_mem _ List.mem_cons_self)))))) (hB _ (List.mem_cons_of_mem _ (List.mem_cons_of_mem _ (List.mem_cons_of_mem _ (List.mem_cons_of_mem _ (List.mem_cons_of_mem _ (List.mem_cons_of_mem _ List.mem_cons_self))))))) (cvp 23 (x' := ((ρ 0))) (y' := (0 : Int)) (by show 0 + (1 * ρ 0 + 0) = _; omega) (by show 0 + 0 = _; omega) (hm _ List.mem_cons_self)) (cvp 27 (x' := ((ρ 5))) (y' := ((ρ 6))) (by show 0 + (1 * ρ 5 + 0) = _; omega) (by show 0 + (1 * ρ 6 + 0) = _; omega) (hm _ (List.mem_cons_of_mem _ List.mem_cons_self))) (cvm (c := 36) (by decide) (x' := ((ρ 6))) (y' := ((ρ 2))) (by show 0 + (1 * ρ 6 + 0) = _; omega) (by show 0 + (1 * ρ 2 + 0) = _; omega) (hm _ (List.mem_cons_of_mem _ (List.mem_cons_of_mem _ List.mem_cons_self)))) (cvm (c := 61) (by decide) (x' := (54 : Int)) (y' := ((ρ 5))) (by show 54 + 0 = _; omega) (by show 0 + (1 * ρ 5 + 0) = _; omega) (hm _ (List.mem_cons_of_mem _ (List.mem_cons_of_mem _ (List.mem_cons_of_mem _ List.mem_cons_self))))) (cvm (c := 61) (by decide) (x' := (53 : Int)) (y' := ((ρ 3))) (by show 53 + 0 = _; omega) (by show 0 + (1 * ρ 3 + 0) = _; omega) (hm _ (List.mem_cons_of_mem _ (List.mem_cons_of_mem _ (List.mem_cons_of_mem _ (List.mem_cons_of_mem _ List.mem_cons_self)))))) (cvm (c := 61) (by decide) (x' := (55 : Int)) (y' := ((ρ 4))) (by show 55 + 0 = _; omega) (by show 0 + (1 * ρ 4 + 0) = _; omega) (hm _ (List.mem_cons_of_mem _ (List.mem_cons_of_mem _ (List.mem_cons_of_mem _ (List.mem_cons_of_mem _ (List.mem_cons_of_mem _ List.mem_cons_self))))))) (by have h := hF _ List.mem_cons_self; have h : 0 ≤ (-1) + ((-1) * ρ 1 + (1 * ρ 2 + 0)) := h; omega) (by have h := hF _ (List.mem_cons_of_mem _ List.mem_cons_self); have h : 0 ≤ (-36) + (1 * ρ 2 + 0) := h; omega) hG
  obtain ⟨k0, -⟩ := H
  exact ⟨_, List.mem_cons_self, ρ, fun _ _ => rfl, (okM_c (pvp 29 (by show 0 + (1 * ρ 0 + 0) = _; omega) (by show 1 + (2 * ρ 1 + 0) = _; omega) k0) okM_n), okB_n, okF_n⟩
-- ub111
theorem cr_109 (M : pM) (s0 s1 s2 s3 s4 s5 s6 : Int) (b0 : 0 ≤ s0 ∧ s0 ≤ 35) (b1 : (-2147483648) ≤ s1 ∧ s1 ≤ 2147483647) (b2 : 1 ≤ s2 ∧ s2 ≤ 9) (b3 : 1 ≤ s3 ∧ s3 ≤ 9) (b4 : 1 ≤ s4 ∧ s4 ≤ 4) (b5 : 0 ≤ s5 ∧ s5 ≤ 3) (b6 : 0 ≤ s6 ∧ s6 ≤ 29) (m0 : HP 22 (s6) (0 : Int) M) (m1 : HP 26 (s4) (s5) M) (m2 : (0 ≤ (s5) ∧ M 95 (s5).toNat = (s1))) (m3 : (0 ≤ (54 : Int) ∧ M 61 (54 : Int).toNat = (s4))) (m4 : (0 ≤ (s6) ∧ M 94 (s6).toNat = (1 : Int))) (m5 : (0 ≤ (53 : Int) ∧ M 61 (53 : Int).toNat = (s2))) (m6 : (0 ≤ (55 : Int) ∧ M 61 (55 : Int).toNat = (s3))) (m7 : HP 24 (s6) (0 : Int) M) (m8 : (0 ≤ (s6) ∧ M 91 (s6).toNat = (s0))) (m9 : (0 ≤ (s6) ∧ M 92 (s6).toNat = (-1 : Int))) (m10 : (0 ≤ (s6) ∧ M 93 (s6).toNat = (s5))) (f0 : 0 ≤ ((-1) * s0 + s1 - 1)) (f1 : 0 ≤ (s1 - 36)) (hG : gI M) : (HP 24 (s6 + 1) (0 : Int) M ∧ True) := by
  obtain ⟨a1, a2, a3⟩ := m0
  obtain ⟨c1, c2, c3⟩ := m1
  obtain ⟨hj, hx, hl, h3⟩ := ln_p (A := 95) (fun k hk => a3 k (by omega)) (p := s4) m3.2 (by omega) (by omega) c3 m2.2
  have hg : lng (M 61 54) 1 s0 (lF M s6.toNat) = s1 := lng_m hj hx (by omega)
  have h94 : M 94 s6.toNat = 1 := m4.2
  have hw : M 61 53 = s2 := m5.2
  have ht : M 61 55 = s3 := m6.2
  have h91 : M 91 s6.toNat = s0 := m8.2
  obtain ⟨d1, d2, d3⟩ := m7
  refine ⟨⟨by omega, by omega, fun v hv => ?_⟩, trivial⟩
  by_cases hv2 : v = s6.toNat
  · rw [hv2]
    unfold ubo
    rw [h94, h91, lub_n hg (by omega), hl]
    exact ⟨m9.2, m10.2⟩
  · exact d3 v (by omega)
theorem rul_109 : Rul r_109 := by
  refine ⟨fun _ ρ M hm hB hF hG => ?_, fun gi gv hg => (by cases hg)⟩
  have H := cr_109 M (ρ 0) (ρ 1) (ρ 2) (ρ 3) (ρ 4) (ρ 5) (ρ 6) (hB _ List.mem_cons_self) (hB _ (List.mem_cons_of_mem _ List.mem_cons_self)) (hB _ (List.mem_cons_of_mem _ (List.mem_cons_of_mem _ List.mem_cons_self))) (hB _ (List.mem_cons_of_mem _ (List.mem_cons_of_mem _ (List.mem_cons_of_mem _ List.mem_cons_self)))) (hB _ (List.mem_cons_of_mem _ (List.mem_cons_of_mem _ (List.mem_cons_of_mem _ (List.mem_cons_of_mem _ List.mem_cons_self))))) (hB _ (List.mem_cons_of_mem _ (List.mem_cons_of_mem _ (List.mem_cons_of_mem _ (List.mem_cons_of_mem _ (List.mem_cons_of_mem _ List.mem_cons_self)))))) (hB _ (List.mem_cons_of_mem _ (List.mem_cons_of_mem _ (List.mem_cons_of_mem _ (List.mem_cons_of_mem _ (List.mem_cons_of_mem _ (List.mem_cons_of_mem _ List.mem_cons_self))))))) (cvp 22 (x' := ((ρ 6))) (y' := (0 : Int)) (by show 0 + (1 * ρ 6 + 0) = _; omega) (by show 0 + 0 = _; omega) (hm _ List.mem_cons_self)) (cvp 26 (x' := ((ρ 4))) (y' := ((ρ 5))) (by show 0 + (1 * ρ 4 + 0) = _; omega) (by show 0 + (1 * ρ 5 + 0) = _; omega) (hm _ (List.mem_cons_of_mem _ List.mem_cons_self))) (cvm (c := 95) (by decide) (x' := ((ρ 5))) (y' := ((ρ 1))) (by show 0 + (1 * ρ 5 + 0) = _; omega) (by show 0 + (1 * ρ 1 + 0) = _; omega) (hm _ (List.mem_cons_of_mem _ (List.mem_cons_of_mem _ List.mem_cons_self)))) (cvm (c := 61) (by decide) (x' := (54 : Int)) (y' := ((ρ 4))) (by show 54 + 0 = _; omega) (by show 0 + (1 * ρ 4 + 0) = _; omega) (hm _ (List.mem_cons_of_mem _ (List.mem_cons_of_mem _ (List.mem_cons_of_mem _ List.mem_cons_self))))) (cvm (c := 94) (by decide) (x' := ((ρ 6))) (y' := (1 : Int)) (by show 0 + (1 * ρ 6 + 0) = _; omega) (by show 1 + 0 = _; omega) (hm _ (List.mem_cons_of_mem _ (List.mem_cons_of_mem _ (List.mem_cons_of_mem _ (List.mem_cons_of_mem _ List.mem_cons_self)))))) (cvm (c := 61) (by decide) (x' := (53 : Int)) (y' := ((ρ 2))) (by show 53 + 0 = _; omega) (by show 0 + (1 * ρ 2 + 0) = _; omega) (hm _ (List.mem_cons_of_mem _ (List.mem_cons_of_mem _ (List.mem_cons_of_mem _ (List.mem_cons_of_mem _ (List.mem_cons_of_mem _ List.mem_cons_self))))))) (cvm (c := 61) (by decide) (x' := (55 : Int)) (y' := ((ρ 3))) (by show 55 + 0 = _; omega) (by show 0 + (1 * ρ 3 + 0) = _; omega) (hm _ (List.mem_cons_of_mem _ (List.mem_cons_of_mem _ (List.mem_cons_of_mem _ (List.mem_cons_of_mem _ (List.mem_cons_of_mem _ (List.mem_cons_of_mem _ List.mem_cons_self)))))))) (cvp 24 (x' := ((ρ 6))) (y' := (0 : Int)) (by show 0 + (1 * ρ 6 + 0) = _; omega) (by show 0 + 0 = _; omega) (hm _ (List.mem_cons_of_mem _ (List.mem_cons_of_mem _ (List.mem_cons_of_mem _ (List.mem_cons_of_mem _ (List.mem_cons_of_mem _ (List.mem_cons_of_mem _ (List.mem_cons_of_mem _ List.mem_cons_self))))))))) (cvm (c := 91) (by decide) (x' := ((ρ 6))) (y' := ((ρ 0))) (by show 0 + (1 * ρ 6 + 0) = _; omega) (by show 0 + (1 * ρ 0 + 0) = _; omega) (hm _ (List.mem_cons_of_mem _ (List.mem_cons_of_mem _ (List.mem_cons_of_mem _ (List.mem_cons_of_mem _ (List.mem_cons_of_mem _ (List.mem_cons_of_mem _ (List.mem_cons_of_mem _ (List.mem_cons_of_mem _ List.mem_cons_self)))))))))) (cvm (c := 92) (by decide) (x' := ((ρ 6))) (y' := (-1 : Int)) (by show 0 + (1 * ρ 6 + 0) = _; omega) (by show (-1) + 0 = _; omega) (hm _ (List.mem_cons_of_mem _ (List.mem_cons_of_mem _ (List.mem_cons_of_mem _ (List.mem_cons_of_mem _ (List.mem_cons_of_mem _ (List.mem_cons_of_mem _ (List.mem_cons_of_mem _ (List.mem_cons_of_mem _ (List.mem_cons_of_mem _ List.mem_cons_self))))))))))) (cvm (c := 93) (by decide) (x' := ((ρ 6))) (y' := ((ρ 5))) (by show 0 + (1 * ρ 6 + 0) = _; omega) (by show 0 + (1 * ρ 5 + 0) = _; omega) (hm _ (List.mem_cons_of_mem _ (List.mem_cons_of_mem _ (List.mem_cons_of_mem _ (List.mem_cons_of_mem _ (List.mem_cons_of_mem _ (List.mem_cons_of_mem _ (List.mem_cons_of_mem _ (List.mem_cons_of_mem _ (List.mem_cons_of_mem _ (List.mem_cons_of_mem _ List.mem_cons_self)))))))))))) (by have h := hF _ List.mem_cons_self; have h : 0 ≤ (-1) + ((-1) * ρ 0 + (1 * ρ 1 + 0)) := h; omega) (by have h := hF _ (List.mem_cons_of_mem _ List.mem_cons_self); have h : 0 ≤ (-36) + (1 * ρ 1 + 0) := h; omega) hG
  obtain ⟨k0, -⟩ := H
  exact ⟨_, List.mem_cons_self, ρ, fun _ _ => rfl, (okM_c (pvp 24 (by show 1 + (1 * ρ 6 + 0) = _; omega) (by show 0 + 0 = _; omega) k0) okM_n), okB_n, okF_n⟩
-- fs111
theorem cr_110 (M : pM) (s0 s1 s2 s3 s4 s5 s6 : Int) (b0 : 0 ≤ s0 ∧ s0 ≤ 35) (b1 : (-2147483648) ≤ s1 ∧ s1 ≤ 2147483647) (b2 : 1 ≤ s2 ∧ s2 ≤ 9) (b3 : 1 ≤ s3 ∧ s3 ≤ 9) (b4 : 1 ≤ s4 ∧ s4 ≤ 4) (b5 : 0 ≤ s5 ∧ s5 ≤ 3) (b6 : 0 ≤ s6 ∧ s6 ≤ 29) (m0 : HP 22 (s6) (0 : Int) M) (m1 : HP 26 (s4) (s5) M) (m2 : (0 ≤ (s5) ∧ M 95 (s5).toNat = (s1))) (m3 : (0 ≤ (54 : Int) ∧ M 61 (54 : Int).toNat = (s4))) (m4 : (0 ≤ (s6) ∧ M 94 (s6).toNat = (1 : Int))) (m5 : (0 ≤ (53 : Int) ∧ M 61 (53 : Int).toNat = (s2))) (m6 : (0 ≤ (55 : Int) ∧ M 61 (55 : Int).toNat = (s3))) (m7 : (0 ≤ (s6) ∧ M 91 (s6).toNat = (s0))) (f0 : 0 ≤ ((-1) * s0 + s1 - 1)) (f1 : 0 ≤ (s1 - 36)) (hG : gI M) : (HP 22 (s6 + 1) (0 : Int) M ∧ True) := by
  obtain ⟨a1, a2, a3⟩ := m0
  obtain ⟨c1, c2, c3⟩ := m1
  obtain ⟨hj, hx, hl, h3⟩ := ln_p (A := 95) (fun k hk => a3 k (by omega)) (p := s4) m3.2 (by omega) (by omega) c3 m2.2
  have hg : lng (M 61 54) 1 s0 (lF M s6.toNat) = s1 := lng_m hj hx (by omega)
  have h94 : M 94 s6.toNat = 1 := m4.2
  have hw : M 61 53 = s2 := m5.2
  have ht : M 61 55 = s3 := m6.2
  have h91 : M 91 s6.toNat = s0 := m7.2
  refine ⟨⟨by omega, by omega, fun k hk => ?_⟩, trivial⟩
  rw [show (s6 + 1).toNat = s6.toNat + 1 by omega, lF_u, h94, h91, lst_n hg (by omega)]
  exact a3 k hk
theorem rul_110 : Rul r_110 := by
  refine ⟨fun _ ρ M hm hB hF hG => ?_, fun gi gv hg => (by cases hg)⟩
  have H := cr_110 M (ρ 0) (ρ 1) (ρ 2) (ρ 3) (ρ 4) (ρ 5) (ρ 6) (hB _ List.mem_cons_self) (hB _ (List.mem_cons_of_mem _ List.mem_cons_self)) (hB _ (List.mem_cons_of_mem _ (List.mem_cons_of_mem _ List.mem_cons_self))) (hB _ (List.mem_cons_of_mem _ (List.mem_cons_of_mem _ (List.mem_cons_of_mem _ List.mem_cons_self)))) (hB _ (List.mem_cons_of_mem _ (List.mem_cons_of_mem _ (List.mem_cons_of_mem _ (List.mem_cons_of_mem _ List.mem_cons_self))))) (hB _ (List.mem_cons_of_mem _ (List.mem_cons_of_mem _ (List.mem_cons_of_mem _ (List.mem_cons_of_mem _ (List.mem_cons_of_mem _ List.mem_cons_self)))))) (hB _ (List.mem_cons_of_mem _ (List.mem_cons_of_mem _ (List.mem_cons_of_mem _ (List.mem_cons_of_mem _ (List.mem_cons_of_mem _ (List.mem_cons_of_mem _ List.mem_cons_self))))))) (cvp 22 (x' := ((ρ 6))) (y' := (0 : Int)) (by show 0 + (1 * ρ 6 + 0) = _; omega) (by show 0 + 0 = _; omega) (hm _ List.mem_cons_self)) (cvp 26 (x' := ((ρ 4))) (y' := ((ρ 5))) (by show 0 + (1 * ρ 4 + 0) = _; omega) (by show 0 + (1 * ρ 5 + 0) = _; omega) (hm _ (List.mem_cons_of_mem _ List.mem_cons_self))) (cvm (c := 95) (by decide) (x' := ((ρ 5))) (y' := ((ρ 1))) (by show 0 + (1 * ρ 5 + 0) = _; omega) (by show 0 + (1 * ρ 1 + 0) = _; omega) (hm _ (List.mem_cons_of_mem _ (List.mem_cons_of_mem _ List.mem_cons_self)))) (cvm (c := 61) (by decide) (x' := (54 : Int)) (y' := ((ρ 4))) (by show 54 + 0 = _; omega) (by show 0 + (1 * ρ 4 + 0) = _; omega) (hm _ (List.mem_cons_of_mem _ (List.mem_cons_of_mem _ (List.mem_cons_of_mem _ List.mem_cons_self))))) (cvm (c := 94) (by decide) (x' := ((ρ 6))) (y' := (1 : Int)) (by show 0 + (1 * ρ 6 + 0) = _; omega) (by show 1 + 0 = _; omega) (hm _ (List.mem_cons_of_mem _ (List.mem_cons_of_mem _ (List.mem_cons_of_mem _ (List.mem_cons_of_mem _ List.mem_cons_self)))))) (cvm (c := 61) (by decide) (x' := (53 : Int)) (y' := ((ρ 2))) (by show 53 + 0 = _; omega) (by show 0 + (1 * ρ 2 + 0) = _; omega) (hm _ (List.mem_cons_of_mem _ (List.mem_cons_of_mem _ (List.mem_cons_of_mem _ (List.mem_cons_of_mem _ (List.mem_cons_of_mem _ List.mem_cons_self))))))) (cvm (c := 61) (by decide) (x' := (55 : Int)) (y' := ((ρ 3))) (by show 55 + 0 = _; omega) (by show 0 + (1 * ρ 3 + 0) = _; omega) (hm _ (List.mem_cons_of_mem _ (List.mem_cons_of_mem _ (List.mem_cons_of_mem _ (List.mem_cons_of_mem _ (List.mem_cons_of_mem _ (List.mem_cons_of_mem _ List.mem_cons_self)))))))) (cvm (c := 91) (by decide) (x' := ((ρ 6))) (y' := ((ρ 0))) (by show 0 + (1 * ρ 6 + 0) = _; omega) (by show 0 + (1 * ρ 0 + 0) = _; omega) (hm _ (List.mem_cons_of_mem _ (List.mem_cons_of_mem _ (List.mem_cons_of_mem _ (List.mem_cons_of_mem _ (List.mem_cons_of_mem _ (List.mem_cons_of_mem _ (List.mem_cons_of_mem _ List.mem_cons_self))))))))) (by have h := hF _ List.mem_cons_self; have h : 0 ≤ (-1) + ((-1) * ρ 0 + (1 * ρ 1 + 0)) := h; omega) (by have h := hF _ (List.mem_cons_of_mem _ List.mem_cons_self); have h : 0 ≤ (-36) + (1 * ρ 1 + 0) := h; omega) hG
  obtain ⟨k0, -⟩ := H
  exact ⟨_, List.mem_cons_self, ρ, fun _ _ => rfl, (okM_c (pvp 22 (by show 1 + (1 * ρ 6 + 0) = _; omega) (by show 0 + 0 = _; omega) k0) okM_n), okB_n, okF_n⟩
-- xp0
theorem cr_111 (M : pM) (s0 s1 s2 : Int) (b0 : 0 ≤ s0 ∧ s0 ≤ 29) (b1 : 0 ≤ s1 ∧ s1 ≤ 35) (b2 : 0 ≤ s2 ∧ s2 ≤ 0) (m0 : HP 23 (s0) (0 : Int) M) (hG : gI M) : (HP 29 (s0) (2 * s1) M ∧ True) := by
  obtain ⟨a1, a2, a3⟩ := m0
  refine ⟨⟨by omega, by omega, s1, 0, ⟨by omega, by omega, by omega, by omega⟩, by omega, fun k hk => ?_⟩, trivial⟩
  rw [lst_o lnj_0 (by omega)]
  exact a3 k hk
theorem rul_111 : Rul r_111 := by
  refine ⟨fun _ ρ M hm hB hF hG => ?_, fun gi gv hg => (by cases hg)⟩
  have H := cr_111 M (ρ 0) (ρ 1) (ρ 2) (hB _ List.mem_cons_self) (hB _ (List.mem_cons_of_mem _ List.mem_cons_self)) (hB _ (List.mem_cons_of_mem _ (List.mem_cons_of_mem _ List.mem_cons_self))) (cvp 23 (x' := ((ρ 0))) (y' := (0 : Int)) (by show 0 + (1 * ρ 0 + 0) = _; omega) (by show 0 + 0 = _; omega) (hm _ List.mem_cons_self)) hG
  obtain ⟨k0, -⟩ := H
  exact ⟨_, List.mem_cons_self, ρ, fun _ _ => rfl, (okM_c (pvp 29 (by show 0 + (1 * ρ 0 + 0) = _; omega) (by show 0 + (2 * ρ 1 + 0) = _; omega) k0) okM_n), okB_n, okF_n⟩
-- xw1
theorem cr_112 (M : pM) (s0 s1 s2 s3 : Int) (b0 : 0 ≤ s0 ∧ s0 ≤ 29) (b1 : 0 ≤ s1 ∧ s1 ≤ 35) (b2 : 0 ≤ s2 ∧ s2 ≤ 44) (b3 : 1 ≤ s3 ∧ s3 ≤ 1) (m0 : HP 28 (s0) (s2) M) (hG : gI M) : (HP 30 (128 * s0 + 2 * s1 + 1) (s2) M ∧ True) := by
  obtain ⟨a1, a2, a3⟩ := m0
  have hp := gq_54 hG
  have hl := fl1_lt (f := lF M s0.toNat) (p := (M 61 54).toNat) (by omega)
  refine ⟨⟨s0, s1, 1, by omega, by omega, ⟨by omega, by omega, by omega, by omega⟩, by omega, ?_⟩, trivial⟩
  rw [lst_o lnj_1 (by omega)]
  exact a3
theorem rul_112 : Rul r_112 := by
  refine ⟨fun _ ρ M hm hB hF hG => ?_, fun gi gv hg => (by cases hg)⟩
  have H := cr_112 M (ρ 0) (ρ 1) (ρ 2) (ρ 3) (hB _ List.mem_cons_self) (hB _ (List.mem_cons_of_mem _ List.mem_cons_self)) (hB _ (List.mem_cons_of_mem _ (List.mem_cons_of_mem _ List.mem_cons_self))) (hB _ (List.mem_cons_of_mem _ (List.mem_cons_of_mem _ (List.mem_cons_of_mem _ List.mem_cons_self)))) (cvp 28 (x' := ((ρ 0))) (y' := ((ρ 2))) (by show 0 + (1 * ρ 0 + 0) = _; omega) (by show 0 + (1 * ρ 2 + 0) = _; omega) (hm _ List.mem_cons_self)) hG
  obtain ⟨k0, -⟩ := H
  exact ⟨_, List.mem_cons_self, ρ, fun _ _ => rfl, (okM_c (pvp 30 (by show 1 + (128 * ρ 0 + (2 * ρ 1 + 0)) = _; omega) (by show 0 + (1 * ρ 2 + 0) = _; omega) k0) okM_n), okB_n, okF_n⟩
-- uaw
theorem cr_113 (M : pM) (s0 s1 s2 s3 s4 : Int) (b0 : 0 ≤ s0 ∧ s0 ≤ 29) (b1 : 0 ≤ s1 ∧ s1 ≤ 35) (b2 : 0 ≤ s2 ∧ s2 ≤ 1) (b3 : 0 ≤ s3 ∧ s3 ≤ 44) (b4 : (-2147483648) ≤ s4 ∧ s4 ≤ 2147483647) (m0 : HP 29 (s0) (2 * s1 + s2) M) (m1 : HP 30 (128 * s0 + 2 * s1 + s2) (s3) M) (m2 : HP 31 (s0) (2 * s1 + s2) M) (m3 : HP 25 (s0) (0 : Int) M) (hG : gI M) : (HP 29 (s0) (2 * s1 + s2) (st M 91 (s0).toNat (s4)) ∧ HP 30 (128 * s0 + 2 * s1 + s2) (s3) (st M 91 (s0).toNat (s4)) ∧ HP 31 (s0) (2 * s1 + s2) (st M 91 (s0).toNat (s4)) ∧ HP 25 (s0) (0 : Int) (st M 91 (s0).toNat (s4)) ∧ True) := by
  obtain ⟨x1, x2, x3, x4⟩ := k4_st (c := 91) (v := s4) (Or.inl rfl) (n := s0) ⟨by omega, by omega⟩ m0 m1 m2 m3
  exact ⟨x1, x2, x3, x4, trivial⟩
theorem rul_113 : Rul r_113 := by
  refine ⟨fun h => (by cases h), fun gi gv hg ρ M hm hB hF hG => ?_⟩
  obtain ⟨g1, g2⟩ := List.cons.inj (show ([aI ((0 : Int), ([(0, 1)] : List (Nat × Int))), aI ((0 : Int), ([(4, 1)] : List (Nat × Int)))] : List av) = [.inl gi, .inl gv] from hg)
  obtain ⟨g2, -⟩ := List.cons.inj g2
  cases g1
  cases g2
  have ei : ev ρ ((0 : Int), ([(0, 1)] : List (Nat × Int))) = ((ρ 0)) := by show 0 + (1 * ρ 0 + 0) = _; omega
  have ew : ev ρ ((0 : Int), ([(4, 1)] : List (Nat × Int))) = ((ρ 4)) := by show 0 + (1 * ρ 4 + 0) = _; omega
  rw [show (st M (ctj r_113) (ev ρ ((0 : Int), ([(0, 1)] : List (Nat × Int)))).toNat (ev ρ ((0 : Int), ([(4, 1)] : List (Nat × Int))))) = (st M 91 ((ρ 0)).toNat ((ρ 4))) from by rw [ei, ew]; rfl]
  have H := cr_113 M (ρ 0) (ρ 1) (ρ 2) (ρ 3) (ρ 4) (hB _ List.mem_cons_self) (hB _ (List.mem_cons_of_mem _ List.mem_cons_self)) (hB _ (List.mem_cons_of_mem _ (List.mem_cons_of_mem _ List.mem_cons_self))) (hB _ (List.mem_cons_of_mem _ (List.mem_cons_of_mem _ (List.mem_cons_of_mem _ List.mem_cons_self)))) (hB _ (List.mem_cons_of_mem _ (List.mem_cons_of_mem _ (List.mem_cons_of_mem _ (List.mem_cons_of_mem _ List.mem_cons_self))))) (cvp 29 (x' := ((ρ 0))) (y' := (2 * (ρ 1) + (ρ 2))) (by show 0 + (1 * ρ 0 + 0) = _; omega) (by show 0 + (2 * ρ 1 + (1 * ρ 2 + 0)) = _; omega) (hm _ List.mem_cons_self)) (cvp 30 (x' := (128 * (ρ 0) + 2 * (ρ 1) + (ρ 2))) (y' := ((ρ 3))) (by show 0 + (128 * ρ 0 + (2 * ρ 1 + (1 * ρ 2 + 0))) = _; omega) (by show 0 + (1 * ρ 3 + 0) = _; omega) (hm _ (List.mem_cons_of_mem _ List.mem_cons_self))) (cvp 31 (x' := ((ρ 0))) (y' := (2 * (ρ 1) + (ρ 2))) (by show 0 + (1 * ρ 0 + 0) = _; omega) (by show 0 + (2 * ρ 1 + (1 * ρ 2 + 0)) = _; omega) (hm _ (List.mem_cons_of_mem _ (List.mem_cons_of_mem _ List.mem_cons_self)))) (cvp 25 (x' := ((ρ 0))) (y' := (0 : Int)) (by show 0 + (1 * ρ 0 + 0) = _; omega) (by show 0 + 0 = _; omega) (hm _ (List.mem_cons_of_mem _ (List.mem_cons_of_mem _ (List.mem_cons_of_mem _ List.mem_cons_self))))) hG
  obtain ⟨k0, k1, k2, k3, -⟩ := H
  exact ⟨_, List.mem_cons_self, ρ, fun _ _ => rfl, (okM_c (pvp 29 (by show 0 + (1 * ρ 0 + 0) = _; omega) (by show 0 + (2 * ρ 1 + (1 * ρ 2 + 0)) = _; omega) k0) (okM_c (pvp 30 (by show 0 + (128 * ρ 0 + (2 * ρ 1 + (1 * ρ 2 + 0))) = _; omega) (by show 0 + (1 * ρ 3 + 0) = _; omega) k1) (okM_c (pvp 31 (by show 0 + (1 * ρ 0 + 0) = _; omega) (by show 0 + (2 * ρ 1 + (1 * ρ 2 + 0)) = _; omega) k2) (okM_c (pvp 25 (by show 0 + (1 * ρ 0 + 0) = _; omega) (by show 0 + 0 = _; omega) k3) okM_n)))), okB_n, okF_n⟩
-- nxt
theorem cr_114 (M : pM) (s0 s1 s2 s3 : Int) (b0 : 0 ≤ s0 ∧ s0 ≤ 29) (b1 : 0 ≤ s1 ∧ s1 ≤ 35) (b2 : 0 ≤ s2 ∧ s2 ≤ 1) (b3 : 0 ≤ s3 ∧ s3 ≤ 44) (m0 : HP 29 (s0) (2 * s1 + s2) M) (m1 : HP 30 (128 * s0 + 2 * s1 + s2) (s3) M) (m2 : HP 31 (s0) (2 * s1 + s2) M) (m3 : HP 25 (s0) (0 : Int) M) (m4 : (0 ≤ (s0) ∧ M 94 (s0).toNat = (s2))) (m5 : (0 ≤ (s0) ∧ M 91 (s0).toNat = (s1))) (hG : gI M) : (HP 23 (s0 + 1) (0 : Int) M ∧ HP 28 (s0 + 1) (s3) M ∧ HP 25 (s0 + 1) (0 : Int) M ∧ True) := by
  obtain ⟨a1, a2, q, s, ⟨a3, a4, a5, a6⟩, a7, a8⟩ := m0
  obtain ⟨n', q', s', c1, c2, ⟨c3, c4, c5, c6⟩, c7, c8⟩ := m1
  obtain ⟨d1, d2, q2, s2', ⟨d3, d4, d5, d6⟩, d7, d8⟩ := m2
  obtain ⟨e1, e2, e3⟩ := m3
  have h94 : M 94 s0.toNat = s2 := m4.2
  have h91 : M 91 s0.toNat = s1 := m5.2
  have hq : q = s1 := by omega
  have hs : s = s2 := by omega
  have hq' : q' = s1 := by omega
  have hs' : s' = s2 := by omega
  have hn' : n' = s0 := by omega
  have hq2 : q2 = s1 := by omega
  have hs2 : s2' = s2 := by omega
  subst hq hs
  rw [hq', hs', hn'] at c8
  rw [hq2, hs2] at d8
  have hS : (s0 + 1).toNat = s0.toNat + 1 := by omega
  refine ⟨⟨by omega, by omega, fun k hk => ?_⟩, ⟨by omega, by omega, ?_⟩, ⟨by omega, by omega, fun v hv => ?_⟩, trivial⟩
  · rw [hS, lF_u, h94, h91]
    exact a8 k hk
  · rw [hS, lF_u, h94, h91]
    exact c8
  · by_cases hv2 : v = s0.toNat
    · rw [hv2, h94, h91]
      exact d8
    · exact e3 v (by omega)
theorem rul_114 : Rul r_114 := by
  refine ⟨fun _ ρ M hm hB hF hG => ?_, fun gi gv hg => (by cases hg)⟩
  have H := cr_114 M (ρ 0) (ρ 1) (ρ 2) (ρ 3) (hB _ List.mem_cons_self) (hB _ (List.mem_cons_of_mem _ List.mem_cons_self)) (hB _ (List.mem_cons_of_mem _ (List.mem_cons_of_mem _ List.mem_cons_self))) (hB _ (List.mem_cons_of_mem _ (List.mem_cons_of_mem _ (List.mem_cons_of_mem _ List.mem_cons_self)))) (cvp 29 (x' := ((ρ 0))) (y' := (2 * (ρ 1) + (ρ 2))) (by show 0 + (1 * ρ 0 + 0) = _; omega) (by show 0 + (2 * ρ 1 + (1 * ρ 2 + 0)) = _; omega) (hm _ List.mem_cons_self)) (cvp 30 (x' := (128 * (ρ 0) + 2 * (ρ 1) + (ρ 2))) (y' := ((ρ 3))) (by show 0 + (128 * ρ 0 + (2 * ρ 1 + (1 * ρ 2 + 0))) = _; omega) (by show 0 + (1 * ρ 3 + 0) = _; omega) (hm _ (List.mem_cons_of_mem _ List.mem_cons_self))) (cvp 31 (x' := ((ρ 0))) (y' := (2 * (ρ 1) + (ρ 2))) (by show 0 + (1 * ρ 0 + 0) = _; omega) (by show 0 + (2 * ρ 1 + (1 * ρ 2 + 0)) = _; omega) (hm _ (List.mem_cons_of_mem _ (List.mem_cons_of_mem _ List.mem_cons_self)))) (cvp 25 (x' := ((ρ 0))) (y' := (0 : Int)) (by show 0 + (1 * ρ 0 + 0) = _; omega) (by show 0 + 0 = _; omega) (hm _ (List.mem_cons_of_mem _ (List.mem_cons_of_mem _ (List.mem_cons_of_mem _ List.mem_cons_self))))) (cvm (c := 94) (by decide) (x' := ((ρ 0))) (y' := ((ρ 2))) (by show 0 + (1 * ρ 0 + 0) = _; omega) (by show 0 + (1 * ρ 2 + 0) = _; omega) (hm _ (List.mem_cons_of_mem _ (List.mem_cons_of_mem _ (List.mem_cons_of_mem _ (List.mem_cons_of_mem _ List.mem_cons_self)))))) (cvm (c := 91) (by decide) (x' := ((ρ 0))) (y' := ((ρ 1))) (by show 0 + (1 * ρ 0 + 0) = _; omega) (by show 0 + (1 * ρ 1 + 0) = _; omega) (hm _ (List.mem_cons_of_mem _ (List.mem_cons_of_mem _ (List.mem_cons_of_mem _ (List.mem_cons_of_mem _ (List.mem_cons_of_mem _ List.mem_cons_self))))))) hG
  obtain ⟨k0, k1, k2, -⟩ := H
  exact ⟨_, List.mem_cons_self, ρ, fun _ _ => rfl, (okM_c (pvp 23 (by show 1 + (1 * ρ 0 + 0) = _; omega) (by show 0 + 0 = _; omega) k0) (okM_c (pvp 28 (by show 1 + (1 * ρ 0 + 0) = _; omega) (by show 0 + (1 * ρ 3 + 0) = _; omega) k1) (okM_c (pvp 25 (by show 1 + (1 * ρ 0 + 0) = _; omega) (by show 0 + 0 = _; omega) k2) okM_n))), okB_n, okF_n⟩
-- tl0
theorem cr_115 (M : pM) (s0 s1 s2 s3 : Int) (b0 : 1 ≤ s0 ∧ s0 ≤ 30) (b1 : 0 ≤ s1 ∧ s1 ≤ 29) (b2 : (-1) ≤ s2 ∧ s2 ≤ 35) (b3 : (-2147483648) ≤ s3 ∧ s3 ≤ 2147483647) (m0 : HP 25 (s0) (0 : Int) M) (m1 : HP 24 (s0) (0 : Int) M) (m2 : (0 ≤ (s1) ∧ M 92 (s1).toNat = (s2))) (m3 : (0 ≤ (s1) ∧ M 37 (s1).toNat = (s3))) (f0 : 0 ≤ (s0 + (-1) * s1 - 1)) (hG : gI M) : (0 ≤ (s2 + (-1) * s3) ∧ 0 ≤ ((-1) * s2 + s3) ∧ True) := by
  obtain ⟨a1, a2, a3⟩ := m0
  obtain ⟨c1, c2, c3⟩ := m1
  obtain ⟨k7, k8, k9⟩ := a3 s1.toNat (by omega)
  obtain ⟨u1, u2⟩ := c3 s1.toNat (by omega)
  have hu : M 92 s1.toNat = s2 := m2.2
  rw [hu] at u1
  have h91 := gq_91 hG (k := s1.toNat) (by omega)
  have hge := lng_ge (p := M 61 54) (s := M 94 s1.toNat) (q := M 91 s1.toNat) (f := lF M s1.toNat)
  have hv : M 37 s1.toNat = s3 := m3.2
  rw [hv, ← u1] at k7
  exact ⟨by omega, by omega, trivial⟩
theorem rul_115 : Rul r_115 := by
  refine ⟨fun _ ρ M hm hB hF hG => ?_, fun gi gv hg => (by cases hg)⟩
  have H := cr_115 M (ρ 0) (ρ 1) (ρ 2) (ρ 3) (hB _ List.mem_cons_self) (hB _ (List.mem_cons_of_mem _ List.mem_cons_self)) (hB _ (List.mem_cons_of_mem _ (List.mem_cons_of_mem _ List.mem_cons_self))) (hB _ (List.mem_cons_of_mem _ (List.mem_cons_of_mem _ (List.mem_cons_of_mem _ List.mem_cons_self)))) (cvp 25 (x' := ((ρ 0))) (y' := (0 : Int)) (by show 0 + (1 * ρ 0 + 0) = _; omega) (by show 0 + 0 = _; omega) (hm _ List.mem_cons_self)) (cvp 24 (x' := ((ρ 0))) (y' := (0 : Int)) (by show 0 + (1 * ρ 0 + 0) = _; omega) (by show 0 + 0 = _; omega) (hm _ (List.mem_cons_of_mem _ List.mem_cons_self))) (cvm (c := 92) (by decide) (x' := ((ρ 1))) (y' := ((ρ 2))) (by show 0 + (1 * ρ 1 + 0) = _; omega) (by show 0 + (1 * ρ 2 + 0) = _; omega) (hm _ (List.mem_cons_of_mem _ (List.mem_cons_of_mem _ List.mem_cons_self)))) (cvm (c := 37) (by decide) (x' := ((ρ 1))) (y' := ((ρ 3))) (by show 0 + (1 * ρ 1 + 0) = _; omega) (by show 0 + (1 * ρ 3 + 0) = _; omega) (hm _ (List.mem_cons_of_mem _ (List.mem_cons_of_mem _ (List.mem_cons_of_mem _ List.mem_cons_self))))) (by have h := hF _ List.mem_cons_self; have h : 0 ≤ (-1) + (1 * ρ 0 + ((-1) * ρ 1 + 0)) := h; omega) hG
  obtain ⟨f0, f1, -⟩ := H
  exact ⟨_, List.mem_cons_self, ρ, fun _ _ => rfl, okM_n, okB_n, (okF_c (by show 0 ≤ 0 + (1 * ρ 2 + ((-1) * ρ 3 + 0)); omega) (okF_c (by show 0 ≤ 0 + ((-1) * ρ 2 + (1 * ρ 3 + 0)); omega) okF_n))⟩
-- tl1
theorem cr_116 (M : pM) (s0 s1 s2 s3 s4 s5 s6 : Int) (b0 : 1 ≤ s0 ∧ s0 ≤ 30) (b1 : 0 ≤ s1 ∧ s1 ≤ 29) (b2 : (-1) ≤ s2 ∧ s2 ≤ 35) (b3 : (-2147483648) ≤ s3 ∧ s3 ≤ 2147483647) (b4 : 0 ≤ s4 ∧ s4 ≤ 1) (b5 : 1 ≤ s5 ∧ s5 ≤ 9) (b6 : 1 ≤ s6 ∧ s6 ≤ 9) (m0 : HP 25 (s0) (0 : Int) M) (m1 : HP 24 (s0) (0 : Int) M) (m2 : (0 ≤ (s1) ∧ M 92 (s1).toNat = (s2))) (m3 : (0 ≤ (s1) ∧ M 38 (s1).toNat = (s3))) (m4 : (0 ≤ (s1) ∧ M 94 (s1).toNat = (s4))) (m5 : (0 ≤ (53 : Int) ∧ M 61 (53 : Int).toNat = (s5))) (m6 : (0 ≤ (55 : Int) ∧ M 61 (55 : Int).toNat = (s6))) (f0 : 0 ≤ (s0 + (-1) * s1 - 1)) (f1 : 0 ≤ (s2)) (hG : gI M) : (0 ≤ ((-1) * s4) ∧ 0 ≤ (s4) ∧ 0 ≤ (s2 + (-1) * s3 + s5) ∧ 0 ≤ ((-1) * s2 + s3 + (-1) * s5) ∧ True) ∨ (0 ≤ ((-1) * s4 + 1) ∧ 0 ≤ (s4 - 1) ∧ 0 ≤ (s2 + (-1) * s3 + s6) ∧ 0 ≤ ((-1) * s2 + s3 + (-1) * s6) ∧ True) := by
  obtain ⟨a1, a2, a3⟩ := m0
  obtain ⟨c1, c2, c3⟩ := m1
  obtain ⟨k7, k8, k9⟩ := a3 s1.toNat (by omega)
  obtain ⟨u1, u2⟩ := c3 s1.toNat (by omega)
  have hu : M 92 s1.toNat = s2 := m2.2
  rw [hu] at u1
  have h91 := gq_91 hG (k := s1.toNat) (by omega)
  have hge := lng_ge (p := M 61 54) (s := M 94 s1.toNat) (q := M 91 s1.toNat) (f := lF M s1.toNat)
  have hg : lng (M 61 54) (M 94 s1.toNat) (M 91 s1.toNat) (lF M s1.toNat) < 36 := by
    by_cases h : lng (M 61 54) (M 94 s1.toNat) (M 91 s1.toNat) (lF M s1.toNat) < 36
    · exact h
    · rw [lub_n rfl (by omega)] at u1
      omega
  rw [lub_y rfl hg] at u1
  have hv : M 38 s1.toNat = s3 := m3.2
  have h94 : M 94 s1.toNat = s4 := m4.2
  have hw : M 61 53 = s5 := m5.2
  have ht : M 61 55 = s6 := m6.2
  rw [lfr_y rfl hg, ← u1, hv, h94, hw, ht] at k8
  by_cases h0 : s4 = 0
  · rw [h0, lnd_0] at k8
    exact Or.inl ⟨by omega, by omega, by omega, by omega, trivial⟩
  · have h1 : s4 = 1 := by omega
    rw [h1, lnd_1] at k8
    exact Or.inr ⟨by omega, by omega, by omega, by omega, trivial⟩
theorem rul_116 : Rul r_116 := by
  refine ⟨fun _ ρ M hm hB hF hG => ?_, fun gi gv hg => (by cases hg)⟩
  have H := cr_116 M (ρ 0) (ρ 1) (ρ 2) (ρ 3) (ρ 4) (ρ 5) (ρ 6) (hB _ List.mem_cons_self) (hB _ (List.mem_cons_of_mem _ List.mem_cons_self)) (hB _ (List.mem_cons_of_mem _ (List.mem_cons_of_mem _ List.mem_cons_self))) (hB _ (List.mem_cons_of_mem _ (List.mem_cons_of_mem _ (List.mem_cons_of_mem _ List.mem_cons_self)))) (hB _ (List.mem_cons_of_mem _ (List.mem_cons_of_mem _ (List.mem_cons_of_mem _ (List.mem_cons_of_mem _ List.mem_cons_self))))) (hB _ (List.mem_cons_of_mem _ (List.mem_cons_of_mem _ (List.mem_cons_of_mem _ (List.mem_cons_of_mem _ (List.mem_cons_of_mem _ List.mem_cons_self)))))) (hB _ (List.mem_cons_of_mem _ (List.mem_cons_of_mem _ (List.mem_cons_of_mem _ (List.mem_cons_of_mem _ (List.mem_cons_of_mem _ (List.mem_cons_of_mem _ List.mem_cons_self))))))) (cvp 25 (x' := ((ρ 0))) (y' := (0 : Int)) (by show 0 + (1 * ρ 0 + 0) = _; omega) (by show 0 + 0 = _; omega) (hm _ List.mem_cons_self)) (cvp 24 (x' := ((ρ 0))) (y' := (0 : Int)) (by show 0 + (1 * ρ 0 + 0) = _; omega) (by show 0 + 0 = _; omega) (hm _ (List.mem_cons_of_mem _ List.mem_cons_self))) (cvm (c := 92) (by decide) (x' := ((ρ 1))) (y' := ((ρ 2))) (by show 0 + (1 * ρ 1 + 0) = _; omega) (by show 0 + (1 * ρ 2 + 0) = _; omega) (hm _ (List.mem_cons_of_mem _ (List.mem_cons_of_mem _ List.mem_cons_self)))) (cvm (c := 38) (by decide) (x' := ((ρ 1))) (y' := ((ρ 3))) (by show 0 + (1 * ρ 1 + 0) = _; omega) (by show 0 + (1 * ρ 3 + 0) = _; omega) (hm _ (List.mem_cons_of_mem _ (List.mem_cons_of_mem _ (List.mem_cons_of_mem _ List.mem_cons_self))))) (cvm (c := 94) (by decide) (x' := ((ρ 1))) (y' := ((ρ 4))) (by show 0 + (1 * ρ 1 + 0) = _; omega) (by show 0 + (1 * ρ 4 + 0) = _; omega) (hm _ (List.mem_cons_of_mem _ (List.mem_cons_of_mem _ (List.mem_cons_of_mem _ (List.mem_cons_of_mem _ List.mem_cons_self)))))) (cvm (c := 61) (by decide) (x' := (53 : Int)) (y' := ((ρ 5))) (by show 53 + 0 = _; omega) (by show 0 + (1 * ρ 5 + 0) = _; omega) (hm _ (List.mem_cons_of_mem _ (List.mem_cons_of_mem _ (List.mem_cons_of_mem _ (List.mem_cons_of_mem _ (List.mem_cons_of_mem _ List.mem_cons_self))))))) (cvm (c := 61) (by decide) (x' := (55 : Int)) (y' := ((ρ 6))) (by show 55 + 0 = _; omega) (by show 0 + (1 * ρ 6 + 0) = _; omega) (hm _ (List.mem_cons_of_mem _ (List.mem_cons_of_mem _ (List.mem_cons_of_mem _ (List.mem_cons_of_mem _ (List.mem_cons_of_mem _ (List.mem_cons_of_mem _ List.mem_cons_self)))))))) (by have h := hF _ List.mem_cons_self; have h : 0 ≤ (-1) + (1 * ρ 0 + ((-1) * ρ 1 + 0)) := h; omega) (by have h := hF _ (List.mem_cons_of_mem _ List.mem_cons_self); have h : 0 ≤ 0 + (1 * ρ 2 + 0) := h; omega) hG
  rcases H with H | H
  · skip
    obtain ⟨f0, f1, f2, f3, -⟩ := H
    exact ⟨_, List.mem_cons_self, ρ, fun _ _ => rfl, okM_n, okB_n, (okF_c (by show 0 ≤ 0 + ((-1) * ρ 4 + 0); omega) (okF_c (by show 0 ≤ 0 + (1 * ρ 4 + 0); omega) (okF_c (by show 0 ≤ 0 + (1 * ρ 2 + ((-1) * ρ 3 + (1 * ρ 5 + 0))); omega) (okF_c (by show 0 ≤ 0 + ((-1) * ρ 2 + (1 * ρ 3 + ((-1) * ρ 5 + 0))); omega) okF_n))))⟩
  · skip
    obtain ⟨f0, f1, f2, f3, -⟩ := H
    exact ⟨_, (List.mem_cons_of_mem _ List.mem_cons_self), ρ, fun _ _ => rfl, okM_n, okB_n, (okF_c (by show 0 ≤ 1 + ((-1) * ρ 4 + 0); omega) (okF_c (by show 0 ≤ (-1) + (1 * ρ 4 + 0); omega) (okF_c (by show 0 ≤ 0 + (1 * ρ 2 + ((-1) * ρ 3 + (1 * ρ 6 + 0))); omega) (okF_c (by show 0 ≤ 0 + ((-1) * ρ 2 + (1 * ρ 3 + ((-1) * ρ 6 + 0))); omega) okF_n))))⟩
-- tl2
theorem cr_117 (M : pM) (s0 s1 s2 s3 s4 : Int) (b0 : 1 ≤ s0 ∧ s0 ≤ 30) (b1 : 0 ≤ s1 ∧ s1 ≤ 29) (b2 : (-1) ≤ s2 ∧ s2 ≤ 35) (b3 : (-2147483648) ≤ s3 ∧ s3 ≤ 2147483647) (b4 : (-2147483648) ≤ s4 ∧ s4 ≤ 2147483647) (m0 : HP 25 (s0) (0 : Int) M) (m1 : HP 24 (s0) (0 : Int) M) (m2 : (0 ≤ (s1) ∧ M 92 (s1).toNat = (s2))) (m3 : (0 ≤ (s1) ∧ M 39 (s1).toNat = (s3))) (m4 : (0 ≤ (s1) ∧ M 93 (s1).toNat = (s4))) (f0 : 0 ≤ (s0 + (-1) * s1 - 1)) (f1 : 0 ≤ (s2)) (hG : gI M) : (0 ≤ ((-1) * s3 + s4) ∧ 0 ≤ (s3 + (-1) * s4) ∧ True) := by
  obtain ⟨a1, a2, a3⟩ := m0
  obtain ⟨c1, c2, c3⟩ := m1
  obtain ⟨k7, k8, k9⟩ := a3 s1.toNat (by omega)
  obtain ⟨u1, u2⟩ := c3 s1.toNat (by omega)
  have hu : M 92 s1.toNat = s2 := m2.2
  rw [hu] at u1
  have h91 := gq_91 hG (k := s1.toNat) (by omega)
  have hge := lng_ge (p := M 61 54) (s := M 94 s1.toNat) (q := M 91 s1.toNat) (f := lF M s1.toNat)
  have hg : lng (M 61 54) (M 94 s1.toNat) (M 91 s1.toNat) (lF M s1.toNat) < 36 := by
    by_cases h : lng (M 61 54) (M 94 s1.toNat) (M 91 s1.toNat) (lF M s1.toNat) < 36
    · exact h
    · rw [lub_n rfl (by omega)] at u1
      omega
  rw [lub_y rfl hg] at u1
  have hv : M 39 s1.toNat = s3 := m3.2
  have hp : M 93 s1.toNat = s4 := m4.2
  rw [lby_y rfl hg, hv] at k9
  rw [hp] at u2
  exact ⟨by omega, by omega, trivial⟩
theorem rul_117 : Rul r_117 := by
  refine ⟨fun _ ρ M hm hB hF hG => ?_, fun gi gv hg => (by cases hg)⟩
  have H := cr_117 M (ρ 0) (ρ 1) (ρ 2) (ρ 3) (ρ 4) (hB _ List.mem_cons_self) (hB _ (List.mem_cons_of_mem _ List.mem_cons_self)) (hB _ (List.mem_cons_of_mem _ (List.mem_cons_of_mem _ List.mem_cons_self))) (hB _ (List.mem_cons_of_mem _ (List.mem_cons_of_mem _ (List.mem_cons_of_mem _ List.mem_cons_self)))) (hB _ (List.mem_cons_of_mem _ (List.mem_cons_of_mem _ (List.mem_cons_of_mem _ (List.mem_cons_of_mem _ List.mem_cons_self))))) (cvp 25 (x' := ((ρ 0))) (y' := (0 : Int)) (by show 0 + (1 * ρ 0 + 0) = _; omega) (by show 0 + 0 = _; omega) (hm _ List.mem_cons_self)) (cvp 24 (x' := ((ρ 0))) (y' := (0 : Int)) (by show 0 + (1 * ρ 0 + 0) = _; omega) (by show 0 + 0 = _; omega) (hm _ (List.mem_cons_of_mem _ List.mem_cons_self))) (cvm (c := 92) (by decide) (x' := ((ρ 1))) (y' := ((ρ 2))) (by show 0 + (1 * ρ 1 + 0) = _; omega) (by show 0 + (1 * ρ 2 + 0) = _; omega) (hm _ (List.mem_cons_of_mem _ (List.mem_cons_of_mem _ List.mem_cons_self)))) (cvm (c := 39) (by decide) (x' := ((ρ 1))) (y' := ((ρ 3))) (by show 0 + (1 * ρ 1 + 0) = _; omega) (by show 0 + (1 * ρ 3 + 0) = _; omega) (hm _ (List.mem_cons_of_mem _ (List.mem_cons_of_mem _ (List.mem_cons_of_mem _ List.mem_cons_self))))) (cvm (c := 93) (by decide) (x' := ((ρ 1))) (y' := ((ρ 4))) (by show 0 + (1 * ρ 1 + 0) = _; omega) (by show 0 + (1 * ρ 4 + 0) = _; omega) (hm _ (List.mem_cons_of_mem _ (List.mem_cons_of_mem _ (List.mem_cons_of_mem _ (List.mem_cons_of_mem _ List.mem_cons_self)))))) (by have h := hF _ List.mem_cons_self; have h : 0 ≤ (-1) + (1 * ρ 0 + ((-1) * ρ 1 + 0)) := h; omega) (by have h := hF _ (List.mem_cons_of_mem _ List.mem_cons_self); have h : 0 ≤ 0 + (1 * ρ 2 + 0) := h; omega) hG
  obtain ⟨f0, f1, -⟩ := H
  exact ⟨_, List.mem_cons_self, ρ, fun _ _ => rfl, okM_n, okB_n, (okF_c (by show 0 ≤ 0 + ((-1) * ρ 3 + (1 * ρ 4 + 0)); omega) (okF_c (by show 0 ≤ 0 + (1 * ρ 3 + ((-1) * ρ 4 + 0)); omega) okF_n))⟩
-- tln
theorem cr_118 (M : pM) (s0 s1 s2 s3 s4 : Int) (b0 : 1 ≤ s0 ∧ s0 ≤ 30) (b1 : 0 ≤ s1 ∧ s1 ≤ 29) (b2 : (-1) ≤ s2 ∧ s2 ≤ 35) (b3 : (-2147483648) ≤ s3 ∧ s3 ≤ 2147483647) (b4 : (-2147483648) ≤ s4 ∧ s4 ≤ 2147483647) (m0 : HP 25 (s0) (0 : Int) M) (m1 : HP 24 (s0) (0 : Int) M) (m2 : (0 ≤ (s1) ∧ M 92 (s1).toNat = (s2))) (m3 : (0 ≤ (s1) ∧ M 38 (s1).toNat = (s3))) (m4 : (0 ≤ (s1) ∧ M 39 (s1).toNat = (s4))) (f0 : 0 ≤ (s0 + (-1) * s1 - 1)) (f1 : 0 ≤ ((-1) * s2 - 1)) (hG : gI M) : (0 ≤ ((-1) * s3 - 1) ∧ 0 ≤ (s3 + 1) ∧ 0 ≤ ((-1) * s4 - 1) ∧ 0 ≤ (s4 + 1) ∧ True) := by
  obtain ⟨a1, a2, a3⟩ := m0
  obtain ⟨c1, c2, c3⟩ := m1
  obtain ⟨k7, k8, k9⟩ := a3 s1.toNat (by omega)
  obtain ⟨u1, u2⟩ := c3 s1.toNat (by omega)
  have hu : M 92 s1.toNat = s2 := m2.2
  rw [hu] at u1
  have h91 := gq_91 hG (k := s1.toNat) (by omega)
  have hge := lng_ge (p := M 61 54) (s := M 94 s1.toNat) (q := M 91 s1.toNat) (f := lF M s1.toNat)
  have hg : 36 ≤ lng (M 61 54) (M 94 s1.toNat) (M 91 s1.toNat) (lF M s1.toNat) := by
    by_cases h : lng (M 61 54) (M 94 s1.toNat) (M 91 s1.toNat) (lF M s1.toNat) < 36
    · rw [lub_y rfl h] at u1
      omega
    · omega
  have hv : M 38 s1.toNat = s3 := m3.2
  have hc : M 39 s1.toNat = s4 := m4.2
  rw [lfr_n rfl hg, hv] at k8
  rw [lby_n rfl hg, hc] at k9
  exact ⟨by omega, by omega, by omega, by omega, trivial⟩
theorem rul_118 : Rul r_118 := by
  refine ⟨fun _ ρ M hm hB hF hG => ?_, fun gi gv hg => (by cases hg)⟩
  have H := cr_118 M (ρ 0) (ρ 1) (ρ 2) (ρ 3) (ρ 4) (hB _ List.mem_cons_self) (hB _ (List.mem_cons_of_mem _ List.mem_cons_self)) (hB _ (List.mem_cons_of_mem _ (List.mem_cons_of_mem _ List.mem_cons_self))) (hB _ (List.mem_cons_of_mem _ (List.mem_cons_of_mem _ (List.mem_cons_of_mem _ List.mem_cons_self)))) (hB _ (List.mem_cons_of_mem _ (List.mem_cons_of_mem _ (List.mem_cons_of_mem _ (List.mem_cons_of_mem _ List.mem_cons_self))))) (cvp 25 (x' := ((ρ 0))) (y' := (0 : Int)) (by show 0 + (1 * ρ 0 + 0) = _; omega) (by show 0 + 0 = _; omega) (hm _ List.mem_cons_self)) (cvp 24 (x' := ((ρ 0))) (y' := (0 : Int)) (by show 0 + (1 * ρ 0 + 0) = _; omega) (by show 0 + 0 = _; omega) (hm _ (List.mem_cons_of_mem _ List.mem_cons_self))) (cvm (c := 92) (by decide) (x' := ((ρ 1))) (y' := ((ρ 2))) (by show 0 + (1 * ρ 1 + 0) = _; omega) (by show 0 + (1 * ρ 2 + 0) = _; omega) (hm _ (List.mem_cons_of_mem _ (List.mem_cons_of_mem _ List.mem_cons_self)))) (cvm (c := 38) (by decide) (x' := ((ρ 1))) (y' := ((ρ 3))) (by show 0 + (1 * ρ 1 + 0) = _; omega) (by show 0 + (1 * ρ 3 + 0) = _; omega) (hm _ (List.mem_cons_of_mem _ (List.mem_cons_of_mem _ (List.mem_cons_of_mem _ List.mem_cons_self))))) (cvm (c := 39) (by decide) (x' := ((ρ 1))) (y' := ((ρ 4))) (by show 0 + (1 * ρ 1 + 0) = _; omega) (by show 0 + (1 * ρ 4 + 0) = _; omega) (hm _ (List.mem_cons_of_mem _ (List.mem_cons_of_mem _ (List.mem_cons_of_mem _ (List.mem_cons_of_mem _ List.mem_cons_self)))))) (by have h := hF _ List.mem_cons_self; have h : 0 ≤ (-1) + (1 * ρ 0 + ((-1) * ρ 1 + 0)) := h; omega) (by have h := hF _ (List.mem_cons_of_mem _ List.mem_cons_self); have h : 0 ≤ (-1) + ((-1) * ρ 2 + 0) := h; omega) hG
  obtain ⟨f0, f1, f2, f3, -⟩ := H
  exact ⟨_, List.mem_cons_self, ρ, fun _ _ => rfl, okM_n, okB_n, (okF_c (by show 0 ≤ (-1) + ((-1) * ρ 3 + 0); omega) (okF_c (by show 0 ≤ 1 + (1 * ρ 3 + 0); omega) (okF_c (by show 0 ≤ (-1) + ((-1) * ρ 4 + 0); omega) (okF_c (by show 0 ≤ 1 + (1 * ρ 4 + 0); omega) okF_n))))⟩
-- tl1n
theorem cr_119 (M : pM) (s0 s1 s2 s3 : Int) (b0 : 1 ≤ s0 ∧ s0 ≤ 30) (b1 : 0 ≤ s1 ∧ s1 ≤ 29) (b2 : (-1) ≤ s2 ∧ s2 ≤ 35) (b3 : (-2147483648) ≤ s3 ∧ s3 ≤ 2147483647) (m0 : HP 25 (s0) (0 : Int) M) (m1 : HP 24 (s0) (0 : Int) M) (m2 : (0 ≤ (s1) ∧ M 92 (s1).toNat = (s2))) (m3 : (0 ≤ (s1) ∧ M 38 (s1).toNat = (s3))) (f0 : 0 ≤ (s0 + (-1) * s1 - 1)) (f1 : 0 ≤ ((-1) * s2 - 1)) (hG : gI M) : (0 ≤ ((-1) * s3 - 1) ∧ 0 ≤ (s3 + 1) ∧ True) := by
  obtain ⟨a1, a2, a3⟩ := m0
  obtain ⟨c1, c2, c3⟩ := m1
  obtain ⟨k7, k8, k9⟩ := a3 s1.toNat (by omega)
  obtain ⟨u1, u2⟩ := c3 s1.toNat (by omega)
  have hu : M 92 s1.toNat = s2 := m2.2
  rw [hu] at u1
  have h91 := gq_91 hG (k := s1.toNat) (by omega)
  have hge := lng_ge (p := M 61 54) (s := M 94 s1.toNat) (q := M 91 s1.toNat) (f := lF M s1.toNat)
  have hg : 36 ≤ lng (M 61 54) (M 94 s1.toNat) (M 91 s1.toNat) (lF M s1.toNat) := by
    by_cases h : lng (M 61 54) (M 94 s1.toNat) (M 91 s1.toNat) (lF M s1.toNat) < 36
    · rw [lub_y rfl h] at u1
      omega
    · omega
  have hv : M 38 s1.toNat = s3 := m3.2
  rw [lfr_n rfl hg, hv] at k8
  exact ⟨by omega, by omega, trivial⟩
theorem rul_119 : Rul r_119 := by
  refine ⟨fun _ ρ M hm hB hF hG => ?_, fun gi gv hg => (by cases hg)⟩
  have H := cr_119 M (ρ 0) (ρ 1) (ρ 2) (ρ 3) (hB _ List.mem_cons_self) (hB _ (List.mem_cons_of_mem _ List.mem_cons_self)) (hB _ (List.mem_cons_of_mem _ (List.mem_cons_of_mem _ List.mem_cons_self))) (hB _ (List.mem_cons_of_mem _ (List.mem_cons_of_mem _ (List.mem_cons_of_mem _ List.mem_cons_self)))) (cvp 25 (x' := ((ρ 0))) (y' := (0 : Int)) (by show 0 + (1 * ρ 0 + 0) = _; omega) (by show 0 + 0 = _; omega) (hm _ List.mem_cons_self)) (cvp 24 (x' := ((ρ 0))) (y' := (0 : Int)) (by show 0 + (1 * ρ 0 + 0) = _; omega) (by show 0 + 0 = _; omega) (hm _ (List.mem_cons_of_mem _ List.mem_cons_self))) (cvm (c := 92) (by decide) (x' := ((ρ 1))) (y' := ((ρ 2))) (by show 0 + (1 * ρ 1 + 0) = _; omega) (by show 0 + (1 * ρ 2 + 0) = _; omega) (hm _ (List.mem_cons_of_mem _ (List.mem_cons_of_mem _ List.mem_cons_self)))) (cvm (c := 38) (by decide) (x' := ((ρ 1))) (y' := ((ρ 3))) (by show 0 + (1 * ρ 1 + 0) = _; omega) (by show 0 + (1 * ρ 3 + 0) = _; omega) (hm _ (List.mem_cons_of_mem _ (List.mem_cons_of_mem _ (List.mem_cons_of_mem _ List.mem_cons_self))))) (by have h := hF _ List.mem_cons_self; have h : 0 ≤ (-1) + (1 * ρ 0 + ((-1) * ρ 1 + 0)) := h; omega) (by have h := hF _ (List.mem_cons_of_mem _ List.mem_cons_self); have h : 0 ≤ (-1) + ((-1) * ρ 2 + 0) := h; omega) hG
  obtain ⟨f0, f1, -⟩ := H
  exact ⟨_, List.mem_cons_self, ρ, fun _ _ => rfl, okM_n, okB_n, (okF_c (by show 0 ≤ (-1) + ((-1) * ρ 3 + 0); omega) (okF_c (by show 0 ≤ 1 + (1 * ρ 3 + 0); omega) okF_n))⟩
-- tl2n
theorem cr_120 (M : pM) (s0 s1 s2 s3 : Int) (b0 : 1 ≤ s0 ∧ s0 ≤ 30) (b1 : 0 ≤ s1 ∧ s1 ≤ 29) (b2 : (-1) ≤ s2 ∧ s2 ≤ 35) (b3 : (-2147483648) ≤ s3 ∧ s3 ≤ 2147483647) (m0 : HP 25 (s0) (0 : Int) M) (m1 : HP 24 (s0) (0 : Int) M) (m2 : (0 ≤ (s1) ∧ M 92 (s1).toNat = (s2))) (m3 : (0 ≤ (s1) ∧ M 39 (s1).toNat = (s3))) (f0 : 0 ≤ (s0 + (-1) * s1 - 1)) (f1 : 0 ≤ ((-1) * s2 - 1)) (hG : gI M) : (0 ≤ ((-1) * s3 - 1) ∧ 0 ≤ (s3 + 1) ∧ True) := by
  obtain ⟨a1, a2, a3⟩ := m0
  obtain ⟨c1, c2, c3⟩ := m1
  obtain ⟨k7, k8, k9⟩ := a3 s1.toNat (by omega)
  obtain ⟨u1, u2⟩ := c3 s1.toNat (by omega)
  have hu : M 92 s1.toNat = s2 := m2.2
  rw [hu] at u1
  have h91 := gq_91 hG (k := s1.toNat) (by omega)
  have hge := lng_ge (p := M 61 54) (s := M 94 s1.toNat) (q := M 91 s1.toNat) (f := lF M s1.toNat)
  have hg : 36 ≤ lng (M 61 54) (M 94 s1.toNat) (M 91 s1.toNat) (lF M s1.toNat) := by
    by_cases h : lng (M 61 54) (M 94 s1.toNat) (M 91 s1.toNat) (lF M s1.toNat) < 36
    · rw [lub_y rfl h] at u1
      omega
    · omega
  have hc : M 39 s1.toNat = s3 := m3.2
  rw [lby_n rfl hg, hc] at k9
  exact ⟨by omega, by omega, trivial⟩
theorem rul_120 : Rul r_120 := by
  refine ⟨fun _ ρ M hm hB hF hG => ?_, fun gi gv hg => (by cases hg)⟩
  have H := cr_120 M (ρ 0) (ρ 1) (ρ 2) (ρ 3) (hB _ List.mem_cons_self) (hB _ (List.mem_cons_of_mem _ List.mem_cons_self)) (hB _ (List.mem_cons_of_mem _ (List.mem_cons_of_mem _ List.mem_cons_self))) (hB _ (List.mem_cons_of_mem _ (List.mem_cons_of_mem _ (List.mem_cons_of_mem _ List.mem_cons_self)))) (cvp 25 (x' := ((ρ 0))) (y' := (0 : Int)) (by show 0 + (1 * ρ 0 + 0) = _; omega) (by show 0 + 0 = _; omega) (hm _ List.mem_cons_self)) (cvp 24 (x' := ((ρ 0))) (y' := (0 : Int)) (by show 0 + (1 * ρ 0 + 0) = _; omega) (by show 0 + 0 = _; omega) (hm _ (List.mem_cons_of_mem _ List.mem_cons_self))) (cvm (c := 92) (by decide) (x' := ((ρ 1))) (y' := ((ρ 2))) (by show 0 + (1 * ρ 1 + 0) = _; omega) (by show 0 + (1 * ρ 2 + 0) = _; omega) (hm _ (List.mem_cons_of_mem _ (List.mem_cons_of_mem _ List.mem_cons_self)))) (cvm (c := 39) (by decide) (x' := ((ρ 1))) (y' := ((ρ 3))) (by show 0 + (1 * ρ 1 + 0) = _; omega) (by show 0 + (1 * ρ 3 + 0) = _; omega) (hm _ (List.mem_cons_of_mem _ (List.mem_cons_of_mem _ (List.mem_cons_of_mem _ List.mem_cons_self))))) (by have h := hF _ List.mem_cons_self; have h : 0 ≤ (-1) + (1 * ρ 0 + ((-1) * ρ 1 + 0)) := h; omega) (by have h := hF _ (List.mem_cons_of_mem _ List.mem_cons_self); have h : 0 ≤ (-1) + ((-1) * ρ 2 + 0) := h; omega) hG
  obtain ⟨f0, f1, -⟩ := H
  exact ⟨_, List.mem_cons_self, ρ, fun _ _ => rfl, okM_n, okB_n, (okF_c (by show 0 ≤ (-1) + ((-1) * ρ 3 + 0); omega) (okF_c (by show 0 ≤ 1 + (1 * ρ 3 + 0); omega) okF_n))⟩
