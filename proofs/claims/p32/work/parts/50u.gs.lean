/-! the rules' common parts -/
theorem tn_o {M : pM} {n : Int} (h : 0 ≤ (1 : Int) ∧ M 2 (1 : Int).toNat = n) (hn : 0 ≤ n ∧ n ≤ 1900) : (tN M : Int) = n := by
  have h5 : M 2 1 = n := h.2
  unfold tN
  rw [h5]
  omega
theorem ru_o {M : pM} {x y : Int} {P p : Nat} (h : HP 44 x y M) (hx : x = 2048 * P + p ∧ P ≤ 2 ∧ p ≤ 1900) : y = (ru M P p : Int) := by
  obtain ⟨P', p', h1, h2, h3, h4⟩ := Eq.mp hp_44 h
  have e1 : P' = P := by omega
  have e2 : p' = p := by omega
  rw [← e1, ← e2]
  exact h4
theorem wi_o {M : pM} {x y : Int} {s e : Nat} (h : HP 50 x y M) (hx : x = 2048 * s + e ∧ s ≤ 1900 ∧ e ≤ 1900) : y = wid M s e := by
  obtain ⟨s', e', h1, h2, h3, h4⟩ := Eq.mp hp_50 h
  have e1 : s' = s := by omega
  have e2 : e' = e := by omega
  rw [← e1, ← e2]
  exact h4
theorem dv_o {M : pM} {x y : Int} {s e : Nat} (h : HP 51 x y M) (hx : x = 2048 * s + e ∧ s ≤ 1900 ∧ e ≤ 1900) : y = dv M s (e - s) := by
  obtain ⟨s', e', h1, h2, h3, h4⟩ := Eq.mp hp_51 h
  have e1 : s' = s := by omega
  have e2 : e' = e := by omega
  rw [← e1, ← e2]
  exact h4
theorem tk_fin {M : pM} {p s e : Nat} {z x a b c : Int} (q : tS M p = s ∧ tE M p = e ∧ tK M p = z) (hx : x = p) (ha : a = s) (hb : b = e) (hc : c = z) : HP 45 x a M ∧ HP 46 x b M ∧ HP 47 x c M ∧ True := by
  have e1 : x.toNat = p := by omega
  refine ⟨Eq.mpr hp_45 ⟨by omega, ?_⟩, Eq.mpr hp_46 ⟨by omega, ?_⟩, Eq.mpr hp_47 ⟨by omega, ?_⟩, trivial⟩
  · rw [e1, q.1]; exact ha
  · rw [e1, q.2.1]; exact hb
  · rw [e1, q.2.2]; exact hc
theorem pk_o {m a : Int} {N : pM} {x y : Int} {s e : Nat} (h : PKp m a N x y) (hx : x = 2048 * s + e ∧ s < 2048 ∧ e < 2048) : s ≤ e ∧ y = pkd m a N s (e - s) ∧ ∀ i, i < e - s → 97 ≤ N 1 (s + i) ∧ N 1 (s + i) ≤ 122 := by
  obtain ⟨s', k, h1, h2, h3, h4⟩ := h
  have e1 : s' = s := by omega
  have e2 : k = e - s := by omega
  subst e1; subst e2
  exact ⟨by omega, h3, h4⟩
theorem wid_long {M : pM} {s e : Nat} (h : s + 9 ≤ e) : wid M s e = -1 := by
  unfold wid
  refine if_neg (fun hm => ?_)
  have h8 : (bts M s (e - s)).length ≤ 8 := (by decide : ∀ l ∈ kws, l.length ≤ 8) _ hm
  unfold bts at h8
  rw [List.length_map, List.length_range] at h8
  omega
theorem sgs_at : ∀ i, i < 10 → sgs.getD i 0 ∈ sgs := by decide
theorem sgs_of {c : Int} (h : c ∈ sgs) : ∃ i, i < 10 ∧ sgs.getD i 0 = c := by
  obtain ⟨i, h1, h2⟩ := List.getElem_of_mem h
  have h1' : i < 10 := h1
  exact ⟨i, h1', by rw [List.getD_eq_getElem?_getD, List.getElem?_eq_getElem h1]; exact h2⟩
theorem sn_no {M : pM} {x y c : Int} (hT : HP 40 x y M) (h : HP 69 10 c M) : c ∉ sgs := by
  intro hm
  obtain ⟨i, h1, h2⟩ := sgs_of hm
  exact Eq.mp hp_69 h i h1 (by omega) (by rw [(Eq.mp hp_40 hT).2 i h1]; exact h2)
theorem ng_no {M : pM} {c : Int} (h : HP 144 10 c M) : c ∉ sgs := by
  intro hm
  obtain ⟨i, h1, h2⟩ := sgs_of hm
  exact Eq.mp hp_144 h i h1 (by omega) h2.symm
theorem ru_lt {M : pM} {P p : Nat} (h : p < tN M) (hc : isC P (M 1 p) = true) : p + 1 ≤ ru M P p := by
  have hz : al M P (p + 1) (p + 1) := ⟨Nat.le_refl _, Or.inr rfl, fun i h1 h2 => by omega⟩
  unfold ru
  rw [show tN M - p = (tN M - p - 1) + 1 by omega]
  show p + 1 ≤ if isC P (M 1 p) = true then rn M P (p + 1) (tN M - p - 1) else p
  rw [if_pos hc]
  exact rn_bd.1
theorem qck_L {N : pM} {p : Nat} {A : pM} {i : Nat} (h1 : 2 ≤ i) (h2 : i ≤ 7) : qck N p A 1 i = qcN 0 20 none (tK N (qps N p i)) := by
  show (if i = 1 then _ else if i ≤ 7 then qcN 0 20 none (tK N (qps N p i)) else _) = _
  rw [if_neg (by omega), if_pos h2]
theorem qck_S {N : pM} {p : Nat} {A : pM} {i : Nat} (h1 : 3 ≤ i) (h2 : i ≤ 6) : qck N p A 10 i = qcN 0 30 none (tK N (qps N p i)) := by
  show (if i = 1 then _ else if i = 2 then _ else if i ≤ 6 then qcN 0 30 none (tK N (qps N p i)) else _) = _
  rw [if_neg (by omega), if_neg (by omega), if_pos h2]
theorem qgr_o {N : pM} {s n i : Nat} (h : qgr N s n = true) (hi : i < n) : 97 ≤ N 1 (s + i) ∧ N 1 (s + i) ≤ 104 := of_decide_eq_true (List.all_eq_true.mp h i (List.mem_range.mpr hi))
theorem qgr_i {N : pM} {s n : Nat} (h : ∀ i, i < n → 97 ≤ N 1 (s + i) ∧ N 1 (s + i) ≤ 104) : qgr N s n = true := List.all_eq_true.mpr (fun i hi => decide_eq_true (h i (List.mem_range.mp hi)))
theorem gr_o {N : pM} {x : Int} {s k : Nat} (h : GRp N x) (hx : x = 16 * (s : Int) + k ∧ k < 16) : ∀ i, i < k → 97 ≤ N 1 (s + i) ∧ N 1 (s + i) ≤ 104 := by
  obtain ⟨s', k', h1, h2, h3⟩ := h
  have e1 : s' = s := by omega
  have e2 : k' = k := by omega
  rw [← e1, ← e2]
  exact h3
theorem qb4_01 (m : Int) (i : Nat) : qb4 m i = 0 ∨ qb4 m i = 1 := by unfold qb4; split; exact Or.inr rfl; exact Or.inl rfl
theorem qb8_01 (m : Int) (i : Nat) : qb8 m i = 0 ∨ qb8 m i = 1 := by unfold qb8; split; exact Or.inr rfl; exact Or.inl rfl
theorem qtd_0 {a : Int} (h : a = 0) : qtd a = none := by unfold qtd; rw [h]; rfl
theorem qtd_1 {a : Int} (h : a = 1) : qtd a = some 3 := if_pos h
theorem rd1 {M : pM} {i c : Int} (h : 0 ≤ i ∧ M 1 i.toNat = c) (hi : i ≤ 1990) : tm M 1 i.toNat = c := by rw [tm_1 (by omega)]; exact h.2
/-- the letters of two names with one packing -/
theorem nm_eq {m a hi : Int} (hm : hi < m) (h0 : 0 < hi) {N : pM} (hb : hby N) (hl : ∀ c : Int, 97 ≤ c → c ≤ 122 → 1 ≤ c - a ∧ c - a ≤ hi) {p q : Nat} (hp : tK N p = 262143) (hq : tK N q = 262143) (h : qpk m a N p = qpk m a N q) : qnm N p = qnm N q := by
  have w1 := tk_wd hb (p := p) (by omega) (by omega)
  have w2 := tk_wd hb (p := q) (by omega) (by omega)
  refine lpk_inj (m := m) (a := a) (hi := hi) hm h0 _ _ _ rfl (bts_ok (fun i hi => ?_)) (bts_ok (fun i hi => ?_)) ?_
  · have := w1.2.2.2.2.2 (tS N p + i) (by omega) (by omega); exact hl _ this.1 this.2
  · have := w2.2.2.2.2.2 (tS N q + i) (by omega) (by omega); exact hl _ this.1 this.2
  · unfold qnm
    rw [← pkd_l, ← pkd_l]
    exact h
theorem qtn_i {N A : pM} {p i : Nat} (hi : i < 4) (h1 : (i : Int) < A 0 2) (h : qnm N (A 13 i).toNat = qnm N (qps N p 1)) : qtn N p A = true := List.any_eq_true.mpr ⟨i, List.mem_range.mpr hi, decide_eq_true ⟨h1, h⟩⟩
theorem qtn_n {N A : pM} {p : Nat} (h : ∀ i : Nat, i < 4 → (i : Int) < A 0 2 → qnm N (A 13 i).toNat ≠ qnm N (qps N p 1)) : ¬ qtn N p A = true := by
  intro hn
  obtain ⟨i, h1, h2⟩ := List.any_eq_true.mp hn
  have h2 := of_decide_eq_true h2
  exact h i (List.mem_range.mp h1) h2.1 h2.2
theorem qwn_v {k : Nat} (v : Int) (h : qwn k = v) {x : Int} (hx : x ≠ v) : x ≠ qwn k := by rw [h]; exact hx
/-! the reference's cells written -/
theorem RA_m {N : pM} {R R' : Nat → Nat → Int} (f : ∀ g0 g1 g2 g6 A, agR g0 g1 g2 g6 R N A → agR g0 g1 g2 g6 R' N A) {x y : Int} (h : RAp N R x y) : RAp N R' x y := by
  obtain ⟨s, a, b, c⟩ := h
  exact ⟨s, a, b, f _ _ _ _ _ c⟩
theorem RW_m {N : pM} {R R' : Nat → Nat → Int} (f : ∀ g0 g1 g2 g6 A, agR g0 g1 g2 g6 R N A → agR g0 g1 g2 g6 R' N A) {x y : Int} (h : RWp N R x y) : RWp N R' x y := by
  obtain ⟨s, K, a, b, c, d⟩ := h
  exact ⟨s, K, a, b, c, f _ _ _ _ _ d⟩
theorem RG_m {N : pM} {R R' : Nat → Nat → Int} (f : ∀ g0 g1 g2 g6 A, agR g0 g1 g2 g6 R N A → agR g0 g1 g2 g6 R' N A) {x y : Int} (h : RGp N R x y) : RGp N R' x y := by
  obtain ⟨s, k, u, W, a, b, c, d, e⟩ := h
  exact ⟨s, k, u, W, a, b, c, d, f _ _ _ _ _ e⟩
theorem RL_m {N : pM} {R R' : Nat → Nat → Int} (f : ∀ g0 g1 g2 g6 A, agR g0 g1 g2 g6 R N A → agR g0 g1 g2 g6 R' N A) {x y : Int} (h : RLp N R x y) : RLp N R' x y := by
  obtain ⟨s, k, u, W, a, b, c, d, e⟩ := h
  exact ⟨s, k, u, W, a, b, c, d, f _ _ _ _ _ e⟩
theorem RX_m {N : pM} {R R' : Nat → Nat → Int} (f : ∀ g0 g1 g2 g6 A, agR g0 g1 g2 g6 R N A → agR g0 g1 g2 g6 R' N A) {x y : Int} (h : RXp N R x y) : RXp N R' x y := by
  obtain ⟨s, a, b, c⟩ := h
  exact ⟨s, a, b, f _ _ _ _ _ c⟩
theorem RS_m {N : pM} {R R' : Nat → Nat → Int} (h12 : ∀ i, i < 16 → R' 12 i = R 12 i) (h13 : ∀ i, i < 4 → R' 13 i = R 13 i) {x y w r g : Int} {k : Nat} (h : RSp N R x y) (hy : y = w + 32 * r + 1024 * g + 8192 * k) (hw : (0 ≤ w ∧ w ≤ 12) ∧ (0 ≤ r ∧ r ≤ 20) ∧ 0 ≤ g ∧ g ≤ 3) : RSp N R' x y := by
  obtain ⟨s, k, W, a, b, c, d, e, f⟩ := h
  have d' := d
  obtain ⟨b1, b2, b3, b4⟩ := d'
  have eg : s.2 0 2 = g := by omega
  refine ⟨s, k, W, a, b, c, d, fun j hj h4 => ?_, fun hk => ?_⟩
  · rw [h12 _ (by omega)]; exact e j hj h4
  · rw [h13 _ (by omega)]; exact f hk
theorem cw {M : pM} {c o i j : Nat} {v : Int} : st M c (o + j) v c (o + i) = if i = j then v else M c (o + i) := by
  unfold st
  by_cases e : i = j
  · rw [if_pos ⟨rfl, by omega⟩, if_pos e]
  · rw [if_neg (fun h => e (by omega)), if_neg e]
theorem cw0 {M : pM} {c i j : Nat} {v : Int} : st M c j v c i = if i = j then v else M c i := by
  unfold st
  by_cases e : i = j
  · rw [if_pos ⟨rfl, e⟩, if_pos e]
  · rw [if_neg (fun h => e h.2), if_neg e]
theorem agR_w69 {b j : Nat} {v : Int} {g0 g1 g2 g6 : Nat → Int} {N A M : pM} (h : agR g0 g1 g2 g6 (qU (qRr b M) 0 j v) N A) : agR g0 g1 g2 g6 (qRr b (st M 69 (64 * b + j) v)) N A := agR_c (R := qU (qRr b M) 0 j v) (R' := qRr b (st M 69 (64 * b + j) v)) (fun i _ => cw) (fun i _ => rfl) (fun i _ => rfl) (fun i _ => rfl) (fun i _ => rfl) (fun i _ => rfl) (fun i _ => rfl) (fun i _ => rfl) (fun i _ => rfl) (fun i _ => rfl) (fun i _ => rfl) (fun i _ => rfl) (fun i _ => rfl) (fun i _ => rfl) (fun i _ => rfl) (fun i _ => rfl) (fun i _ => rfl) (fun i _ => rfl) h
theorem agR_w70 {b j : Nat} {v : Int} {g0 g1 g2 g6 : Nat → Int} {N A M : pM} (h : agR g0 g1 g2 g6 (qU (qRr b M) 1 j v) N A) : agR g0 g1 g2 g6 (qRr b (st M 70 (48 * b + j) v)) N A := agR_c (R := qU (qRr b M) 1 j v) (R' := qRr b (st M 70 (48 * b + j) v)) (fun i _ => rfl) (fun i _ => cw) (fun i _ => rfl) (fun i _ => rfl) (fun i _ => rfl) (fun i _ => rfl) (fun i _ => rfl) (fun i _ => rfl) (fun i _ => rfl) (fun i _ => rfl) (fun i _ => rfl) (fun i _ => rfl) (fun i _ => rfl) (fun i _ => rfl) (fun i _ => rfl) (fun i _ => rfl) (fun i _ => rfl) (fun i _ => rfl) h
theorem agR_w71 {b j : Nat} {v : Int} {g0 g1 g2 g6 : Nat → Int} {N A M : pM} (h : agR g0 g1 g2 g6 (qU (qRr b M) 2 j v) N A) : agR g0 g1 g2 g6 (qRr b (st M 71 (6 * b + j) v)) N A := agR_c (R := qU (qRr b M) 2 j v) (R' := qRr b (st M 71 (6 * b + j) v)) (fun i _ => rfl) (fun i _ => rfl) (fun i _ => cw) (fun i _ => rfl) (fun i _ => rfl) (fun i _ => rfl) (fun i _ => rfl) (fun i _ => rfl) (fun i _ => rfl) (fun i _ => rfl) (fun i _ => rfl) (fun i _ => rfl) (fun i _ => rfl) (fun i _ => rfl) (fun i _ => rfl) (fun i _ => rfl) (fun i _ => rfl) (fun i _ => rfl) h
theorem agR_w72 {b j : Nat} {v : Int} {g0 g1 g2 g6 : Nat → Int} {N A M : pM} (h : agR g0 g1 g2 g6 (qU (qRr b M) 3 j v) N A) : agR g0 g1 g2 g6 (qRr b (st M 72 (6 * b + j) v)) N A := agR_c (R := qU (qRr b M) 3 j v) (R' := qRr b (st M 72 (6 * b + j) v)) (fun i _ => rfl) (fun i _ => rfl) (fun i _ => rfl) (fun i _ => cw) (fun i _ => rfl) (fun i _ => rfl) (fun i _ => rfl) (fun i _ => rfl) (fun i _ => rfl) (fun i _ => rfl) (fun i _ => rfl) (fun i _ => rfl) (fun i _ => rfl) (fun i _ => rfl) (fun i _ => rfl) (fun i _ => rfl) (fun i _ => rfl) (fun i _ => rfl) h
theorem agR_w73 {b j : Nat} {v : Int} {g0 g1 g2 g6 : Nat → Int} {N A M : pM} (h : agR g0 g1 g2 g6 (qU (qRr b M) 4 j v) N A) : agR g0 g1 g2 g6 (qRr b (st M 73 (6 * b + j) v)) N A := agR_c (R := qU (qRr b M) 4 j v) (R' := qRr b (st M 73 (6 * b + j) v)) (fun i _ => rfl) (fun i _ => rfl) (fun i _ => rfl) (fun i _ => rfl) (fun i _ => cw) (fun i _ => rfl) (fun i _ => rfl) (fun i _ => rfl) (fun i _ => rfl) (fun i _ => rfl) (fun i _ => rfl) (fun i _ => rfl) (fun i _ => rfl) (fun i _ => rfl) (fun i _ => rfl) (fun i _ => rfl) (fun i _ => rfl) (fun i _ => rfl) h
theorem agR_w74 {b j : Nat} {v : Int} {g0 g1 g2 g6 : Nat → Int} {N A M : pM} (h : agR g0 g1 g2 g6 (qU (qRr b M) 5 j v) N A) : agR g0 g1 g2 g6 (qRr b (st M 74 (12 * b + j) v)) N A := agR_c (R := qU (qRr b M) 5 j v) (R' := qRr b (st M 74 (12 * b + j) v)) (fun i _ => rfl) (fun i _ => rfl) (fun i _ => rfl) (fun i _ => rfl) (fun i _ => rfl) (fun i _ => cw) (fun i _ => rfl) (fun i _ => rfl) (fun i _ => rfl) (fun i _ => rfl) (fun i _ => rfl) (fun i _ => rfl) (fun i _ => rfl) (fun i _ => rfl) (fun i _ => rfl) (fun i _ => rfl) (fun i _ => rfl) (fun i _ => rfl) h
theorem agR_w75 {b j : Nat} {v : Int} {g0 g1 g2 g6 : Nat → Int} {N A M : pM} (h : agR g0 g1 g2 g6 (qU (qRr b M) 6 j v) N A) : agR g0 g1 g2 g6 (qRr b (st M 75 (12 * b + j) v)) N A := agR_c (R := qU (qRr b M) 6 j v) (R' := qRr b (st M 75 (12 * b + j) v)) (fun i _ => rfl) (fun i _ => rfl) (fun i _ => rfl) (fun i _ => rfl) (fun i _ => rfl) (fun i _ => rfl) (fun i _ => cw) (fun i _ => rfl) (fun i _ => rfl) (fun i _ => rfl) (fun i _ => rfl) (fun i _ => rfl) (fun i _ => rfl) (fun i _ => rfl) (fun i _ => rfl) (fun i _ => rfl) (fun i _ => rfl) (fun i _ => rfl) h
theorem agR_w76 {b j : Nat} {v : Int} {g0 g1 g2 g6 : Nat → Int} {N A M : pM} (h : agR g0 g1 g2 g6 (qU (qRr b M) 7 j v) N A) : agR g0 g1 g2 g6 (qRr b (st M 76 (12 * b + j) v)) N A := agR_c (R := qU (qRr b M) 7 j v) (R' := qRr b (st M 76 (12 * b + j) v)) (fun i _ => rfl) (fun i _ => rfl) (fun i _ => rfl) (fun i _ => rfl) (fun i _ => rfl) (fun i _ => rfl) (fun i _ => rfl) (fun i _ => cw) (fun i _ => rfl) (fun i _ => rfl) (fun i _ => rfl) (fun i _ => rfl) (fun i _ => rfl) (fun i _ => rfl) (fun i _ => rfl) (fun i _ => rfl) (fun i _ => rfl) (fun i _ => rfl) h
theorem agR_w77 {b j : Nat} {v : Int} {g0 g1 g2 g6 : Nat → Int} {N A M : pM} (h : agR g0 g1 g2 g6 (qU (qRr b M) 8 j v) N A) : agR g0 g1 g2 g6 (qRr b (st M 77 (12 * b + j) v)) N A := agR_c (R := qU (qRr b M) 8 j v) (R' := qRr b (st M 77 (12 * b + j) v)) (fun i _ => rfl) (fun i _ => rfl) (fun i _ => rfl) (fun i _ => rfl) (fun i _ => rfl) (fun i _ => rfl) (fun i _ => rfl) (fun i _ => rfl) (fun i _ => cw) (fun i _ => rfl) (fun i _ => rfl) (fun i _ => rfl) (fun i _ => rfl) (fun i _ => rfl) (fun i _ => rfl) (fun i _ => rfl) (fun i _ => rfl) (fun i _ => rfl) h
theorem agR_w78 {b j : Nat} {v : Int} {g0 g1 g2 g6 : Nat → Int} {N A M : pM} (h : agR g0 g1 g2 g6 (qU (qRr b M) 9 j v) N A) : agR g0 g1 g2 g6 (qRr b (st M 78 (20 * b + j) v)) N A := agR_c (R := qU (qRr b M) 9 j v) (R' := qRr b (st M 78 (20 * b + j) v)) (fun i _ => rfl) (fun i _ => rfl) (fun i _ => rfl) (fun i _ => rfl) (fun i _ => rfl) (fun i _ => rfl) (fun i _ => rfl) (fun i _ => rfl) (fun i _ => rfl) (fun i _ => cw) (fun i _ => rfl) (fun i _ => rfl) (fun i _ => rfl) (fun i _ => rfl) (fun i _ => rfl) (fun i _ => rfl) (fun i _ => rfl) (fun i _ => rfl) h
theorem agR_w79 {b j : Nat} {v : Int} {g0 g1 g2 g6 : Nat → Int} {N A M : pM} (h : agR g0 g1 g2 g6 (qU (qRr b M) 10 j v) N A) : agR g0 g1 g2 g6 (qRr b (st M 79 (20 * b + j) v)) N A := agR_c (R := qU (qRr b M) 10 j v) (R' := qRr b (st M 79 (20 * b + j) v)) (fun i _ => rfl) (fun i _ => rfl) (fun i _ => rfl) (fun i _ => rfl) (fun i _ => rfl) (fun i _ => rfl) (fun i _ => rfl) (fun i _ => rfl) (fun i _ => rfl) (fun i _ => rfl) (fun i _ => cw) (fun i _ => rfl) (fun i _ => rfl) (fun i _ => rfl) (fun i _ => rfl) (fun i _ => rfl) (fun i _ => rfl) (fun i _ => rfl) h
theorem agR_w80 {b j : Nat} {v : Int} {g0 g1 g2 g6 : Nat → Int} {N A M : pM} (h : agR g0 g1 g2 g6 (qU (qRr b M) 11 j v) N A) : agR g0 g1 g2 g6 (qRr b (st M 80 (20 * b + j) v)) N A := agR_c (R := qU (qRr b M) 11 j v) (R' := qRr b (st M 80 (20 * b + j) v)) (fun i _ => rfl) (fun i _ => rfl) (fun i _ => rfl) (fun i _ => rfl) (fun i _ => rfl) (fun i _ => rfl) (fun i _ => rfl) (fun i _ => rfl) (fun i _ => rfl) (fun i _ => rfl) (fun i _ => rfl) (fun i _ => cw) (fun i _ => rfl) (fun i _ => rfl) (fun i _ => rfl) (fun i _ => rfl) (fun i _ => rfl) (fun i _ => rfl) h
theorem agR_w81 {b j : Nat} {v : Int} {g0 g1 g2 g6 : Nat → Int} {N A M : pM} (h : agR g0 g1 g2 g6 (qU (qRr b M) 12 j v) N A) : agR g0 g1 g2 g6 (qRr b (st M 81 (16 * b + j) v)) N A := agR_c (R := qU (qRr b M) 12 j v) (R' := qRr b (st M 81 (16 * b + j) v)) (fun i _ => rfl) (fun i _ => rfl) (fun i _ => rfl) (fun i _ => rfl) (fun i _ => rfl) (fun i _ => rfl) (fun i _ => rfl) (fun i _ => rfl) (fun i _ => rfl) (fun i _ => rfl) (fun i _ => rfl) (fun i _ => rfl) (fun i _ => cw) (fun i _ => rfl) (fun i _ => rfl) (fun i _ => rfl) (fun i _ => rfl) (fun i _ => rfl) h
theorem agR_w82 {b j : Nat} {v : Int} {g0 g1 g2 g6 : Nat → Int} {N A M : pM} (h : agR g0 g1 g2 g6 (qU (qRr b M) 13 j v) N A) : agR g0 g1 g2 g6 (qRr b (st M 82 (4 * b + j) v)) N A := agR_c (R := qU (qRr b M) 13 j v) (R' := qRr b (st M 82 (4 * b + j) v)) (fun i _ => rfl) (fun i _ => rfl) (fun i _ => rfl) (fun i _ => rfl) (fun i _ => rfl) (fun i _ => rfl) (fun i _ => rfl) (fun i _ => rfl) (fun i _ => rfl) (fun i _ => rfl) (fun i _ => rfl) (fun i _ => rfl) (fun i _ => rfl) (fun i _ => cw) (fun i _ => rfl) (fun i _ => rfl) (fun i _ => rfl) (fun i _ => rfl) h
theorem agR_w83 {b j : Nat} {v : Int} {g0 g1 g2 g6 : Nat → Int} {N A M : pM} (h : agR g0 g1 g2 g6 (qU (qRr b M) 14 j v) N A) : agR g0 g1 g2 g6 (qRr b (st M 83 (4 * b + j) v)) N A := agR_c (R := qU (qRr b M) 14 j v) (R' := qRr b (st M 83 (4 * b + j) v)) (fun i _ => rfl) (fun i _ => rfl) (fun i _ => rfl) (fun i _ => rfl) (fun i _ => rfl) (fun i _ => rfl) (fun i _ => rfl) (fun i _ => rfl) (fun i _ => rfl) (fun i _ => rfl) (fun i _ => rfl) (fun i _ => rfl) (fun i _ => rfl) (fun i _ => rfl) (fun i _ => cw) (fun i _ => rfl) (fun i _ => rfl) (fun i _ => rfl) h
theorem agR_w84 {b j : Nat} {v : Int} {g0 g1 g2 g6 : Nat → Int} {N A M : pM} (h : agR g0 g1 g2 g6 (qU (qRr b M) 15 j v) N A) : agR g0 g1 g2 g6 (qRr b (st M 84 (j) v)) N A := agR_c (R := qU (qRr b M) 15 j v) (R' := qRr b (st M 84 (j) v)) (fun i _ => rfl) (fun i _ => rfl) (fun i _ => rfl) (fun i _ => rfl) (fun i _ => rfl) (fun i _ => rfl) (fun i _ => rfl) (fun i _ => rfl) (fun i _ => rfl) (fun i _ => rfl) (fun i _ => rfl) (fun i _ => rfl) (fun i _ => rfl) (fun i _ => rfl) (fun i _ => rfl) (fun i _ => cw0) (fun i _ => rfl) (fun i _ => rfl) h
theorem agR_w85 {b j : Nat} {v : Int} {g0 g1 g2 g6 : Nat → Int} {N A M : pM} (h : agR g0 g1 g2 g6 (qU (qRr b M) 16 j v) N A) : agR g0 g1 g2 g6 (qRr b (st M 85 (j) v)) N A := agR_c (R := qU (qRr b M) 16 j v) (R' := qRr b (st M 85 (j) v)) (fun i _ => rfl) (fun i _ => rfl) (fun i _ => rfl) (fun i _ => rfl) (fun i _ => rfl) (fun i _ => rfl) (fun i _ => rfl) (fun i _ => rfl) (fun i _ => rfl) (fun i _ => rfl) (fun i _ => rfl) (fun i _ => rfl) (fun i _ => rfl) (fun i _ => rfl) (fun i _ => rfl) (fun i _ => rfl) (fun i _ => cw0) (fun i _ => rfl) h
theorem agR_w86 {b j : Nat} {v : Int} {g0 g1 g2 g6 : Nat → Int} {N A M : pM} (h : agR g0 g1 g2 g6 (qU (qRr b M) 17 j v) N A) : agR g0 g1 g2 g6 (qRr b (st M 86 (64 * b + j) v)) N A := agR_c (R := qU (qRr b M) 17 j v) (R' := qRr b (st M 86 (64 * b + j) v)) (fun i _ => rfl) (fun i _ => rfl) (fun i _ => rfl) (fun i _ => rfl) (fun i _ => rfl) (fun i _ => rfl) (fun i _ => rfl) (fun i _ => rfl) (fun i _ => rfl) (fun i _ => rfl) (fun i _ => rfl) (fun i _ => rfl) (fun i _ => rfl) (fun i _ => rfl) (fun i _ => rfl) (fun i _ => rfl) (fun i _ => rfl) (fun i _ => cw) h
