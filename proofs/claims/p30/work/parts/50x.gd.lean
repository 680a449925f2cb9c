/-! ===== ways home by roads: the steps ===== -/
section DD
variable {A B : Nat → Nat} {C : Nat → Int} {n k m t a c : Nat} {z : Int} {D D' : dMx}
theorem drd_m {j : Nat} (h : drd A B C k D) (hj : j ≤ k) : drd A B C j D := fun r hr => h r (by omega)
theorem dr_0 (h : ∀ i j, i < 64 → j < 64 → D i j = if i = j then 0 else 100000) : qDR A B C n 0 D := by
  refine ⟨⟨fun i j hi hj => ?_, fun i hi => ?_⟩, fun i j hi hj => ?_, fun p hp i j hi hj => ?_, fun r hr => absurd hr (Nat.not_lt_zero r)⟩
  · rw [h i j hi hj]; split <;> omega
  · rw [h i i hi hi, if_pos rfl]
  · rw [h i j hi hj, h j i hj hi]
    by_cases e : i = j
    · rw [if_pos e, if_pos e.symm]
    · rw [if_neg e, if_neg (fun q => e q.symm)]
  · have h1 := hp.1 i hi
    have h2 := hp.1 j hj
    rw [h i j hi hj]
    by_cases e : i = j
    · subst e; rw [if_pos rfl]; omega
    · rw [if_neg e]; omega
theorem dr_s (h : qDR A B C n k D) (hA : A k < 64) (hB : B k < 64) (hv : D (A k) (B k) ≤ C k) : qDR A B C n (k + 1) D := by
  obtain ⟨h1, h2, h3, h4⟩ := h
  refine ⟨h1, h2, h3, fun r hr => ?_⟩
  by_cases e : r = k
  · subst e
    exact ⟨hv, by rw [h2 _ _ hB hA]; exact hv⟩
  · exact h4 r (by omega)
theorem dr_w (h : qDR A B C n k D) (hA : A k < 64) (hB : B k < 64) (hk : k < n) (h0 : 0 ≤ C k) (hv : C k < D (A k) (B k)) (hD : ∀ i j, i < 64 → j < 64 → D' i j = if i = A k ∧ j = B k then C k else D i j) (hR : ∀ r, A r < 64 ∧ B r < 64) : qDS A B C n k D' := by
  obtain ⟨⟨h1, h1'⟩, h2, h3, h4⟩ := h
  have hne : A k ≠ B k := fun e => by rw [e, h1' _ hB] at hv; omega
  have hle : ∀ i j, i < 64 → j < 64 → D' i j ≤ D i j := fun i j hi hj => by
    rw [hD i j hi hj]
    split
    · next q => rw [q.1, q.2]; omega
    · omega
  refine ⟨⟨fun i j hi hj => ?_, fun i hi => ?_⟩, fun p hp i j hi hj => ?_, fun r hr => ?_, hne, ?_, ?_, fun i j hi hj q1 q2 => ?_⟩
  · have := h1 i j hi hj
    have := h1 (A k) (B k) hA hB
    rw [hD i j hi hj]
    split <;> omega
  · rw [hD i i hi hi, if_neg (fun q => hne (q.1.symm.trans q.2))]
    exact h1' i hi
  · rw [hD i j hi hj]
    split
    · next q =>
      rw [q.1, q.2]
      exact (hp.2 k hk).2
    · exact h3 p hp i j hi hj
  · have q1 := hle (A r) (B r) (hR r).1 (hR r).2
    have q2 := hle (B r) (A r) (hR r).2 (hR r).1
    have := h4 r hr
    omega
  · rw [hD _ _ hA hB, if_pos ⟨rfl, rfl⟩]
  · rw [hD _ _ hB hA, if_neg (fun q => hne q.2), h2 _ _ hB hA]
    omega
  · rw [hD i j hi hj, hD j i hj hi, if_neg q1, if_neg (fun q => q2 ⟨q.2, q.1⟩), h2 i j hi hj]
theorem dr_x (h : qDS A B C n k D) (hA : A k < 64) (hB : B k < 64) (hk : k < n) (h0 : 0 ≤ C k ∧ C k ≤ 99) (hD : ∀ i j, i < 64 → j < 64 → D' i j = if i = B k ∧ j = A k then C k else D i j) (hR : ∀ r, A r < 64 ∧ B r < 64) : qDR A B C n (k + 1) D' := by
  obtain ⟨⟨h1, h1'⟩, h3, h4, hne, h5, h6, h7⟩ := h
  have hle : ∀ i j, i < 64 → j < 64 → D' i j ≤ D i j := fun i j hi hj => by
    rw [hD i j hi hj]
    split
    · next q => rw [q.1, q.2]; omega
    · omega
  refine ⟨⟨fun i j hi hj => ?_, fun i hi => ?_⟩, fun i j hi hj => ?_, fun p hp i j hi hj => ?_, fun r hr => ?_⟩
  · have := h1 i j hi hj
    rw [hD i j hi hj]
    split <;> omega
  · rw [hD i i hi hi, if_neg (fun q => hne (q.2.symm.trans q.1))]
    exact h1' i hi
  · rw [hD i j hi hj, hD j i hj hi]
    by_cases q1 : i = A k ∧ j = B k
    · rw [if_neg (fun q => hne (q1.1.symm.trans q.1)), if_pos ⟨q1.2, q1.1⟩, q1.1, q1.2]
      exact h5
    · by_cases q2 : i = B k ∧ j = A k
      · rw [if_pos q2, if_neg (fun q => hne (q2.2.symm.trans q.1)), q2.1, q2.2]
        exact h5.symm
      · rw [if_neg q2, if_neg (fun q => q1 ⟨q.2, q.1⟩)]
        exact h7 i j hi hj q1 q2
  · rw [hD i j hi hj]
    split
    · next q =>
      rw [q.1, q.2]
      exact (hp.2 k hk).1
    · exact h3 p hp i j hi hj
  · by_cases e : r = k
    · subst e
      have q1 := hle (A r) (B r) hA hB
      exact ⟨by omega, by rw [hD _ _ hB hA, if_pos ⟨rfl, rfl⟩]; omega⟩
    · have q1 := hle (A r) (B r) (hR r).1 (hR r).2
      have q2 := hle (B r) (A r) (hR r).2 (hR r).1
      have := h4 r (by omega)
      omega
theorem dw_0 (h : qDR A B C n k D) (hk : n ≤ k) : qDW A B C n 0 0 D := ⟨D, h.1, h.2.2.1, drd_m h.2.2.2 hk, fun k hk => absurd hk (Nat.not_lt_zero k), fun i j _ _ => by rw [if_neg (Nat.not_lt_zero _)]⟩
theorem dw_um {O : dMx} (hg : drg O) (hm : m < 64) (ha : a < 64) (hO : ∀ i j, i < 64 → j < 64 → D i j = if 64 * i + j < t then min (O i j) (O i m + O m j) else O i j) : D a m = O a m ∧ D m a = O m a := by
  have h0 := hg.2 m hm
  rw [hO a m ha hm, hO m a hm ha, h0]
  constructor <;> (split <;> omega)
theorem dw_s (h : qDW A B C n m t D) (hm : m < 64) (ha : a < 64) (hc : c < 64) (ht : t = 64 * a + c) (hD : ∀ i j, i < 64 → j < 64 → D' i j = if i = a ∧ j = c then min (D a c) (D a m + D m c) else D i j) : qDW A B C n m (t + 1) D' := by
  obtain ⟨O, h1, h2, h3, h4, h5⟩ := h
  refine ⟨O, h1, h2, h3, h4, fun i j hi hj => ?_⟩
  have e1 := (dw_um h1 hm ha h5).1
  have e2 := (dw_um h1 hm hc h5).2
  have e3 := h5 a c ha hc
  rw [if_neg (by omega)] at e3
  rw [hD i j hi hj]
  by_cases q : i = a ∧ j = c
  · rw [if_pos q, if_pos (by omega), e1, e2, e3, q.1, q.2]
  · rw [if_neg q, h5 i j hi hj]
    by_cases q2 : 64 * i + j < t
    · rw [if_pos q2, if_pos (by omega)]
    · rw [if_neg q2, if_neg (by omega)]
theorem dw_e (h : qDW A B C n m 4096 D) (hm : m < 64) (hR : ∀ r, A r < 64 ∧ B r < 64) : qDW A B C n (m + 1) 0 D := by
  obtain ⟨O, h1, h2, h3, h4, h5⟩ := h
  have hD : ∀ i j, i < 64 → j < 64 → D i j = min (O i j) (O i m + O m j) := fun i j hi hj => by rw [h5 i j hi hj, if_pos (by omega)]
  have h0 := h1.2 m hm
  refine ⟨D, ⟨fun i j hi hj => ?_, fun i hi => ?_⟩, fun p hp i j hi hj => ?_, fun r hr => ?_, fun k hk i j hi hj => ?_, fun i j _ _ => by rw [if_neg (Nat.not_lt_zero _)]⟩
  · have a1 := h1.1 i j hi hj
    have a2 := h1.1 i m hi hm
    have a3 := h1.1 m j hm hj
    rw [hD i j hi hj]
    omega
  · have a2 := h1.1 i m hi hm
    have a3 := h1.1 m i hm hi
    have a4 := h1.2 i hi
    rw [hD i i hi hi]
    omega
  · have a1 := h2 p hp i j hi hj
    have a2 := h2 p hp i m hi hm
    have a3 := h2 p hp m j hm hj
    rw [hD i j hi hj]
    omega
  · have a1 := h3 r hr
    rw [hD _ _ (hR r).1 (hR r).2, hD _ _ (hR r).2 (hR r).1]
    omega
  · have hk6 : k < 64 := by omega
    have b1 := h1.1 m k hm hk6
    have b2 := h1.1 k m hk6 hm
    rw [hD i j hi hj, hD i k hi hk6, hD k j hk6 hj]
    by_cases e : k = m
    · subst e
      have a1 := h1.1 i k hi hm
      have a2 := h1.1 k j hm hj
      omega
    · have a1 := h4 k (by omega) i j hi hj
      have a2 := h4 k (by omega) m j hm hj
      have a3 := h4 k (by omega) i m hi hm
      omega
theorem dw_f (h : qDW A B C n 64 0 D) (hR : ∀ r, A r < 64 ∧ B r < 64) : qDF A B C n D := by
  obtain ⟨O, h1, h2, h3, h4, h5⟩ := h
  have hD : ∀ i j, i < 64 → j < 64 → D i j = O i j := fun i j hi hj => by rw [h5 i j hi hj, if_neg (Nat.not_lt_zero _)]
  refine ⟨⟨fun i j hi hj => by rw [hD i j hi hj]; exact h1.1 i j hi hj, fun i hi => by rw [hD i i hi hi]; exact h1.2 i hi⟩, fun p hp i j hi hj => by rw [hD i j hi hj]; exact h2 p hp i j hi hj, fun r hr => ?_, fun k hk i j hi hj => ?_⟩
  · rw [hD _ _ (hR r).1 (hR r).2, hD _ _ (hR r).2 (hR r).1]
    exact h3 r hr
  · rw [hD i j hi hj, hD i k hi hk, hD k j hk hj]
    exact h4 k hk i j hi hj
end DD
section DB
variable {A B : Nat → Nat} {C : Nat → Int} {n k t f N : Nat} {D d d' : Nat → Int} {y z : Int}
/-- what the matrix says of the row of f -/
def dok (A B : Nat → Nat) (C : Nat → Int) (n : Nat) (D : Nat → Int) (f : Nat) : Prop := (∀ v, v < 64 → 0 ≤ D v ∧ D v ≤ 100000) ∧ D f = 0 ∧ (∀ r, r < n → D (B r) ≤ D (A r) + C r ∧ D (A r) ≤ D (B r) + C r) ∧ ∀ p, dfe A B C n p → ∀ v, v < 64 → p v - p f ≤ D v
theorem dok_of {F : dMx} (h : qDF A B C n F) (hf : f < 64) (hR : ∀ r, A r < 64 ∧ B r < 64) (hD : ∀ v, v < 64 → D v = F f v) : dok A B C n D f := by
  obtain ⟨h1, h2, h3, h4⟩ := h
  refine ⟨fun v hv => by rw [hD v hv]; exact h1.1 f v hf hv, by rw [hD f hf]; exact h1.2 f hf, fun r hr => ?_, fun p hp v hv => by rw [hD v hv]; exact h2 p hp f v hf hv⟩
  have a := hR r
  have b := h3 r hr
  rw [hD _ a.1, hD _ a.2]
  have c1 := h4 (A r) a.1 f (B r) hf a.2
  have c2 := h4 (B r) a.2 f (A r) hf a.1
  omega
theorem dle_r (h : ∀ v, v < 64 → D v ≤ d v) : ∀ v, v < 64 → D v ≤ d v ∧ d v ≤ d v := fun v hv => ⟨h v hv, Int.le_refl _⟩
theorem db_up {h : Nat} (hb : dbs D d f N) (hf : f < 64) (hh : h < 64) (h0 : 0 ≤ D h) (h1 : D h ≤ z) (h2 : z < d h) (h3 : z ≤ 99 * ((N + 1 : Nat) : Int)) (hd : ∀ v, v < 64 → d' v = if v = h then z else d v) : dbs D d' f (N + 1) ∧ ∀ v, v < 64 → D v ≤ d' v ∧ d' v ≤ d v := by
  obtain ⟨b1, b2⟩ := hb
  refine ⟨⟨?_, fun v hv => ?_⟩, fun v hv => ?_⟩
  · rw [hd f hf, if_neg (fun e => by rw [← e] at h2 h0 h1; omega)]
    exact b1
  · have := b2 v hv
    rw [hd v hv]
    split
    · next e => rw [e]; omega
    · omega
  · have := b2 v hv
    rw [hd v hv]
    split
    · next e => rw [e]; omega
    · omega
theorem dbs_m {N' : Nat} (hb : dbs D d f N) (hN : N ≤ N') : dbs D d f N' := ⟨hb.1, fun v hv => by have := hb.2 v hv; omega⟩
theorem dcr_m {r : Nat} (hR : ∀ r, A r < 64 ∧ B r < 64) (h : ∀ v, v < 64 → D v ≤ d' v ∧ d' v ≤ d v) (hc : dcr A B C D d' r) : dcr A B C D d r := by
  have h1 := h _ (hR r).1
  have h2 := h _ (hR r).2
  rcases hc with hc | hc
  · exact Or.inl ⟨hc.1, by omega⟩
  · exact Or.inr ⟨hc.1, by omega⟩
theorem dct_le (hR : ∀ r, A r < 64 ∧ B r < 64) (h : ∀ v, v < 64 → D v ≤ d' v ∧ d' v ≤ d v) : ∀ n, dct A B C D d' n ≤ dct A B C D d n
  | 0 => Nat.le_refl _
  | n + 1 => by
    have ih := dct_le hR h n
    show dct A B C D d' n + (if dcr A B C D d' n then 1 else 0) ≤ dct A B C D d n + (if dcr A B C D d n then 1 else 0)
    by_cases hc : dcr A B C D d' n
    · rw [if_pos hc, if_pos (dcr_m hR h hc)]; omega
    · rw [if_neg hc]; split <;> omega
theorem dct_lt (hR : ∀ r, A r < 64 ∧ B r < 64) (h : ∀ v, v < 64 → D v ≤ d' v ∧ d' v ≤ d v) {r : Nat} (h1 : dcr A B C D d r) (h2 : ¬ dcr A B C D d' r) : ∀ n, r < n → dct A B C D d' n + 1 ≤ dct A B C D d n
  | 0, hr => absurd hr (Nat.not_lt_zero r)
  | n + 1, hr => by
    show dct A B C D d' n + (if dcr A B C D d' n then 1 else 0) + 1 ≤ dct A B C D d n + (if dcr A B C D d n then 1 else 0)
    by_cases e : r = n
    · subst e
      have := dct_le (C := C) hR h r
      rw [if_neg h2, if_pos h1]
      omega
    · have ih := dct_lt hR h h1 h2 n (by omega)
      by_cases hc : dcr A B C D d' n
      · rw [if_pos hc, if_pos (dcr_m hR h hc)]; omega
      · rw [if_neg hc]; split <;> omega
theorem dct_n : ∀ n, dct A B C D d n ≤ n
  | 0 => Nat.le_refl _
  | n + 1 => by
    have ih := dct_n n
    show dct A B C D d n + (if dcr A B C D d n then 1 else 0) ≤ n + 1
    split <;> omega
theorem dhd_lt (hR : ∀ r, A r < 64 ∧ B r < 64) (r : Nat) (s : Bool) : dhd A B r s < 64 ∧ dtl A B r s < 64 := by
  cases s
  · exact ⟨(hR r).1, (hR r).2⟩
  · exact ⟨(hR r).2, (hR r).1⟩
theorem dcr_o {r : Nat} {s : Bool} (ht : dtg A B C D r s) (h2 : D (dhd A B r s) < d (dhd A B r s)) : dcr A B C D d r := by
  cases s
  · exact Or.inr ⟨ht.1, h2⟩
  · exact Or.inl ⟨ht.1, h2⟩
theorem dcr_n {r : Nat} {s : Bool} (h1 : d (dtl A B r s) = D (dtl A B r s)) (h2 : d (dhd A B r s) = D (dhd A B r s)) : ¬ dcr A B C D d r := by
  intro h
  cases s
  · have h1 : d (B r) = D (B r) := h1
    have h2 : d (A r) = D (A r) := h2
    rcases h with h | h <;> omega
  · have h1 : d (A r) = D (A r) := h1
    have h2 : d (B r) = D (B r) := h2
    rcases h with h | h <;> omega
theorem dG_up {q q' : Nat → Bool → Prop} (hR : ∀ r, A r < 64 ∧ B r < 64) (h : ∀ v, v < 64 → D v ≤ d' v ∧ d' v ≤ d v) (hq : ∀ r s, r < n → dtg A B C D r s → d' (dtl A B r s) = D (dtl A B r s) → q' r s → q r s ∨ d' (dhd A B r s) = D (dhd A B r s)) (hG : dG A B C n D d t q) : dG A B C n D d' t q' := by
  rcases hG with hG | ⟨r, s, g1, g2, g3, g4, g5, g6⟩
  · exact Or.inl (fun v hv hD => by have := hG v hv hD; have := h v hv; omega)
  · have a1 := dhd_lt hR r s
    have b1 := h _ a1.1
    have b2 := h _ a1.2
    have c1 : d' (dtl A B r s) = D (dtl A B r s) := by omega
    have hl := dct_le (C := C) hR h n
    refine Or.inr ⟨r, s, g1, g2, c1, by omega, fun e => ?_, fun e => ?_⟩
    · by_cases e1 : d (dhd A B r s) = D (dhd A B r s)
      · have := g5 e1; omega
      · have := dct_lt hR h (dcr_o g2 (by omega)) (dcr_n c1 e) n g1
        omega
    · rcases hq r s g1 g2 c1 e with e | e
      · have := g6 e; omega
      · exact e
theorem db_1 (hR : ∀ r, A r < 64 ∧ B r < 64) (h : ∀ v, v < 64 → D v ≤ d' v ∧ d' v ≤ d v) (hk : d' (B k) ≤ d' (A k) + C k) (hG : dG A B C n D d t (fun r _ => r < k)) : dG A B C n D d' t (fun r s => r < k ∨ (r = k ∧ s = true)) := by
  refine dG_up hR h (fun r s hr ht hl hq => ?_) hG
  rcases hq with hq | ⟨q1, q2⟩
  · exact Or.inl hq
  · subst q1; subst q2
    have b := h _ (hR r).2
    have hl : d' (A r) = D (A r) := hl
    have ht : D (A r) + C r = D (B r) := ht.1
    exact Or.inr (show d' (B r) = D (B r) by omega)
theorem db_2 (hR : ∀ r, A r < 64 ∧ B r < 64) (h : ∀ v, v < 64 → D v ≤ d' v ∧ d' v ≤ d v) (hk : d' (A k) ≤ d' (B k) + C k) (hG : dG A B C n D d t (fun r s => r < k ∨ (r = k ∧ s = true))) : dG A B C n D d' t (fun r _ => r < k + 1) := by
  refine dG_up hR h (fun r s hr ht hl hq => ?_) hG
  have hq : r < k + 1 := hq
  by_cases e : r = k
  · subst e
    cases s
    · have b := h _ (hR r).1
      have hl : d' (B r) = D (B r) := hl
      have ht : D (B r) + C r = D (A r) := ht.1
      exact Or.inr (show d' (A r) = D (A r) by omega)
    · exact Or.inl (Or.inr ⟨rfl, rfl⟩)
  · exact Or.inl (Or.inl (by omega))
/-- the first relaxation of a road, the second -/
theorem b1_w (hR : ∀ r, A r < 64 ∧ B r < 64) (ho : dok A B C n D f) (hf : f < 64) (hkn : k < n) (hc : 0 ≤ C k ∧ C k ≤ 99) (h : qBI A B C n D d f k t y) (hz : z = d (A k) + C k) (hlt : z < d (B k)) (hd : ∀ v, v < 64 → d' v = if v = B k then z else d v) : qBJ A B C n D d' f k t 1 := by
  obtain ⟨h1, h2, h3⟩ := h
  have a := hR k
  have c1 := (ho.2.2.1 k hkn).1
  have c2 := h1.2 _ a.1
  have c3 := h1.2 _ a.2
  have c4 := ho.1 _ a.2
  obtain ⟨e1, e2⟩ := db_up h1 hf a.2 c4.1 (z := z) (by omega) hlt (by omega) hd
  have hne : A k ≠ B k := fun e => by rw [e] at hz; omega
  refine ⟨e1, fun q => absurd q (by decide), db_1 hR e2 ?_ h3⟩
  rw [hd _ a.2, if_pos rfl, hd _ a.1, if_neg hne]
  omega
theorem b1_k (hR : ∀ r, A r < 64 ∧ B r < 64) (h : qBI A B C n D d f k t y) (hk : d (B k) ≤ d (A k) + C k) : qBJ A B C n D d f k t y := by
  obtain ⟨h1, h2, h3⟩ := h
  exact ⟨dbs_m h1 (by omega), fun q => ⟨h2 q, hk⟩, db_1 hR (dle_r (fun v hv => (h1.2 v hv).1)) hk h3⟩
theorem b2_w (hR : ∀ r, A r < 64 ∧ B r < 64) (ho : dok A B C n D f) (hf : f < 64) (hkn : k < n) (hc : 0 ≤ C k ∧ C k ≤ 99) (h : qBJ A B C n D d f k t y) (hz : z = d (B k) + C k) (hlt : z < d (A k)) (hd : ∀ v, v < 64 → d' v = if v = A k then z else d v) : qBI A B C n D d' f (k + 1) t 1 := by
  obtain ⟨h1, h2, h3⟩ := h
  have a := hR k
  have c1 := (ho.2.2.1 k hkn).2
  have c2 := h1.2 _ a.1
  have c3 := h1.2 _ a.2
  have c4 := ho.1 _ a.1
  obtain ⟨e1, e2⟩ := db_up h1 hf a.1 c4.1 (z := z) (by omega) hlt (by omega) hd
  have hne : B k ≠ A k := fun e => by rw [e] at hz; omega
  refine ⟨dbs_m e1 (by omega), fun q => absurd q (by decide), db_2 hR e2 ?_ h3⟩
  rw [hd _ a.1, if_pos rfl, hd _ a.2, if_neg hne]
  omega
theorem b2_k (hR : ∀ r, A r < 64 ∧ B r < 64) (h : qBJ A B C n D d f k t y) (hk : d (A k) ≤ d (B k) + C k) : qBI A B C n D d f (k + 1) t y := by
  obtain ⟨h1, h2, h3⟩ := h
  refine ⟨dbs_m h1 (by omega), fun q r hr => ?_, db_2 hR (dle_r (fun v hv => (h1.2 v hv).1)) hk h3⟩
  obtain ⟨h4, h5⟩ := h2 q
  by_cases e : r = k
  · subst e; omega
  · exact h4 r (by omega)
theorem bs_0 (ho : dok A B C n D f) (hn : n ≤ 20) (hd : ∀ v, v < 64 → d v = if v = f then 0 else 1000000) (hf : f < 64) : qBS A B C n D d f 0 := by
  refine ⟨⟨by rw [hd f hf, if_pos rfl], fun v hv => ?_⟩, Or.inr (by have := dct_n (A := A) (B := B) (C := C) (D := D) (d := d) n; omega)⟩
  have := ho.1 v hv
  rw [hd v hv]
  by_cases e : v = f
  · subst e
    rw [if_pos rfl, ho.2.1]
    omega
  · rw [if_neg e]; omega
theorem bi_0 (hR : ∀ r, A r < 64 ∧ B r < 64) (ho : dok A B C n D f) (hf : f < 64) (hc : ∀ r, r < n → 0 ≤ C r) (h : qBS A B C n D d f t) : qBI A B C n D d f 0 t 0 := by
  obtain ⟨h1, h2⟩ := h
  refine ⟨h1, fun _ r hr => absurd hr (Nat.not_lt_zero r), ?_⟩
  rcases h2 with h2 | h2
  · exact Or.inl h2
  by_cases ha : dal D d
  · exact Or.inl ha
  by_cases hx : ∃ r s, r < n ∧ dtg A B C D r s ∧ d (dtl A B r s) = D (dtl A B r s) ∧ d (dhd A B r s) ≠ D (dhd A B r s)
  · obtain ⟨r, s, x1, x2, x3, x4⟩ := hx
    exact Or.inr ⟨r, s, x1, x2, x3, h2, fun e => absurd e x4, fun e => absurd e (Nat.not_lt_zero r)⟩
  · exfalso
    refine ha (fun v hv hD => ?_)
    apply Classical.byContradiction
    intro hne
    -- every road into what is not settled from what is settled has slack
    have hs : ∀ r s, r < n → D (dtl A B r s) + C r = D (dhd A B r s) → D (dhd A B r s) < 100000 → d (dtl A B r s) = D (dtl A B r s) → d (dhd A B r s) = D (dhd A B r s) := fun r s x1 x2 x3 x4 => by
      apply Classical.byContradiction
      intro x5
      exact hx ⟨r, s, x1, ⟨x2, x3⟩, x4, x5⟩
    have hp : dfe A B C n (fun w => if D w < 100000 ∧ d w ≠ D w then D w + 1 else D w) := by
      refine ⟨fun w hw => ?_, fun r hr => ?_⟩
      · have := ho.1 w hw
        show 0 ≤ (if D w < 100000 ∧ d w ≠ D w then D w + 1 else D w) ∧ (if D w < 100000 ∧ d w ≠ D w then D w + 1 else D w) ≤ 100000
        split <;> omega
      · have b := ho.2.2.1 r hr
        have c0 := hc r hr
        have r1 := ho.1 _ (hR r).1
        have r2 := ho.1 _ (hR r).2
        have s1 : D (A r) + C r = D (B r) → D (B r) < 100000 → d (A r) = D (A r) → d (B r) = D (B r) := hs r true hr
        have s2 : D (B r) + C r = D (A r) → D (A r) < 100000 → d (B r) = D (B r) → d (A r) = D (A r) := hs r false hr
        show (if D (A r) < 100000 ∧ d (A r) ≠ D (A r) then D (A r) + 1 else D (A r)) - (if D (B r) < 100000 ∧ d (B r) ≠ D (B r) then D (B r) + 1 else D (B r)) ≤ C r ∧ (if D (B r) < 100000 ∧ d (B r) ≠ D (B r) then D (B r) + 1 else D (B r)) - (if D (A r) < 100000 ∧ d (A r) ≠ D (A r) then D (A r) + 1 else D (A r)) ≤ C r
        by_cases u1 : D (A r) < 100000 ∧ d (A r) ≠ D (A r)
        · by_cases u2 : D (B r) < 100000 ∧ d (B r) ≠ D (B r)
          · rw [if_pos u1, if_pos u2]; omega
          · rw [if_pos u1, if_neg u2]
            refine ⟨?_, by omega⟩
            by_cases e : D (B r) + C r = D (A r)
            · by_cases e2 : d (B r) = D (B r)
              · exact absurd (s2 e u1.1 e2) u1.2
              · omega
            · omega
        · by_cases u2 : D (B r) < 100000 ∧ d (B r) ≠ D (B r)
          · rw [if_neg u1, if_pos u2]
            refine ⟨by omega, ?_⟩
            by_cases e : D (A r) + C r = D (B r)
            · by_cases e2 : d (A r) = D (A r)
              · exact absurd (s1 e u2.1 e2) u2.2
              · omega
            · omega
          · rw [if_neg u1, if_neg u2]; omega
    have k1 := ho.2.2.2 _ hp v hv
    have k2 : (if D v < 100000 ∧ d v ≠ D v then D v + 1 else D v) - (if D f < 100000 ∧ d f ≠ D f then D f + 1 else D f) ≤ D v := k1
    have f0 := ho.2.1
    have f1 := h1.1
    rw [if_pos ⟨hD, hne⟩, if_neg (fun q => q.2 (by omega))] at k2
    omega
theorem bd_of (ho : dok A B C n D f) (hb : dbs D d f N) (hN : N ≤ 840) (ha : ∀ v, v < 64 → D v < 100000 → d v ≤ D v) : qBD D d := fun v hv => by
  have h1 := ho.1 v hv
  have h2 := hb.2 v hv
  by_cases e : D v < 100000
  · have := ha v hv e
    exact Or.inl ⟨by omega, e⟩
  · exact Or.inr ⟨by omega, by omega⟩
theorem bn_e (h : qBI A B C n D d f k t y) (hk : n ≤ k) (hk2 : k ≤ 20) : qBS A B C n D d f (t + 1) := by
  obtain ⟨h1, h2, h3⟩ := h
  refine ⟨dbs_m h1 (by omega), ?_⟩
  rcases h3 with h3 | ⟨r, s, g1, g2, g3, g4, g5, g6⟩
  · exact Or.inl h3
  · have := g5 (g6 (show r < k by omega))
    exact Or.inr (by omega)
theorem bn_d (hR : ∀ r, A r < 64 ∧ B r < 64) (ho : dok A B C n D f) (hf : f < 64) (h : qBI A B C n D d f k t 0) (hk : n ≤ k) (hk2 : k ≤ 20) (ht : t ≤ 20) : qBD D d := by
  obtain ⟨h1, h2, h3⟩ := h
  refine bd_of ho h1 (by omega) (fun v hv e => ?_)
  have hp : dfe A B C n (fun w => min (d w) 100000) := by
    refine ⟨fun w hw => ?_, fun r hr => ?_⟩
    · have := ho.1 w hw
      have := h1.2 w hw
      show 0 ≤ min (d w) 100000 ∧ min (d w) 100000 ≤ 100000
      omega
    · have := h2 rfl r (by omega)
      show min (d (A r)) 100000 - min (d (B r)) 100000 ≤ C r ∧ min (d (B r)) 100000 - min (d (A r)) 100000 ≤ C r
      omega
  have k1 := ho.2.2.2 _ hp v hv
  have k2 : min (d v) 100000 - min (d f) 100000 ≤ D v := k1
  have := h1.1
  omega
theorem bs_e (ho : dok A B C n D f) (h : qBS A B C n D d f t) (ht : 21 ≤ t) (ht2 : t ≤ 21) : qBD D d := by
  obtain ⟨h1, h2⟩ := h
  refine bd_of ho h1 (by omega) (fun v hv e => ?_)
  rcases h2 with h2 | h2
  · have := h2 v hv e; omega
  · omega
end DB
/-! by the rows -/
section DV
variable {b k a c f n : Nat} {M : pM}
theorem dR_lt (b : Nat) (M : pM) : ∀ r, dRa b M r < 64 ∧ dRb b M r < 64 := fun r => by
  unfold dRa dRb
  constructor <;> (split <;> omega)
theorem dRa_v (hk : k < 20) (ha : a < 64) (h : M 78 (20 * b + k) = (a : Int)) : dRa b M k = a := by
  unfold dRa
  rw [if_pos hk, h]
  omega
theorem dRb_v (hk : k < 20) (ha : a < 64) (h : M 79 (20 * b + k) = (a : Int)) : dRb b M k = a := by
  unfold dRb
  rw [if_pos hk, h]
  omega
theorem dRm_v {m : Int} (hk : k < 20) (h : M 80 (20 * b + k) = m) : dRm b M k = m := (if_pos hk).trans h
theorem dRn_v (hn : n ≤ 20) (h : M 67 b = (n : Int)) : dRn b M = n := by
  unfold dRn
  rw [h]
  omega
theorem dRm_0 (hG : gI M) (hb : b ≤ 1) (r : Nat) : 0 ≤ dRm b M r := by
  unfold dRm
  split
  · have e : gl 80 = [(0, 99)] := by decide +kernel
    have z : szS (SH 80) = 40 := by decide +kernel
    exact (hG.1 80 (20 * b + r) (0, 99) (fun _ => by rw [z]; omega) (by rw [e]; show [((0 : Int), (99 : Int))][(20 * b + r) % 1]? = _; rw [Nat.mod_one]; rfl) (by decide)).1
  · omega
theorem dfar_v (ha : a < 64) (hc : c < 64) : dfar M a c = M 114 (64 * a + c) := if_pos ⟨ha, hc⟩
theorem dDd_v (ha : a < 64) : dDd M a = M 57 a := if_pos ha
theorem dDf_v (ha : a < 64) : dDf f M a = M 114 (64 * f + a) := if_pos ha
theorem dDf_f (hf : f < 64) : ∀ v, v < 64 → dDf f M v = dfar M f v := fun v hv => by rw [dDf_v hv, dfar_v hf hv]
theorem dfar_st {z : Int} {I : Nat} (hI : I = 64 * a + c) (ha : a < 64) (hc : c < 64) : ∀ i j, i < 64 → j < 64 → dfar (st M 114 I z) i j = if i = a ∧ j = c then z else dfar M i j := fun i j hi hj => by
  rw [dfar_v hi hj, dfar_v hi hj]
  show (if 114 = 114 ∧ 64 * i + j = I then z else M 114 (64 * i + j)) = _
  by_cases q : i = a ∧ j = c
  · rw [if_pos q, if_pos ⟨rfl, by omega⟩]
  · rw [if_neg q, if_neg (by omega)]
theorem dDd_st {z : Int} {I : Nat} (hI : I = a) : ∀ v, v < 64 → dDd (st M 57 I z) v = if v = a then z else dDd M v := fun v hv => by
  rw [dDd_v hv, dDd_v hv]
  show (if 57 = 57 ∧ v = I then z else M 57 v) = _
  by_cases q : v = a
  · rw [if_pos q, if_pos ⟨rfl, by omega⟩]
  · rw [if_neg q, if_neg (by omega)]
theorem rows_st {X I : Nat} {z : Int} (h : X = 114 ∨ X = 57) : dRa b (st M X I z) = dRa b M ∧ dRb b (st M X I z) = dRb b M ∧ dRm b (st M X I z) = dRm b M ∧ dRn b (st M X I z) = dRn b M :=
  ⟨dRa_c (fun r _ => if_neg (by omega)), dRb_c (fun r _ => if_neg (by omega)), dRm_c (fun r _ => if_neg (by omega)), dRn_c (if_neg (by omega))⟩
theorem dDf_st {I : Nat} {z : Int} (hf : f < 64) : dDf f (st M 57 I z) = dDf f M := dDf_c hf (fun i _ => if_neg (by omega))
theorem dok_b (h : DFp b M) (hf : f < 64) : dok (dRa b M) (dRb b M) (dRm b M) (dRn b M) (dDf f M) f := dok_of h hf (dR_lt b M) (dDf_f hf)
theorem eq_rn (h : qEQ b M) : M (3 + 9 * b) 10 = M 67 b := by
  obtain ⟨⟨_, h1, _⟩, _⟩ := h
  exact h1
theorem eq_ro (h : qEQ b M) {i : Nat} (hi : i < 20) (hw : (i : Int) < M (3 + 9 * b) 10) : M (9 + 9 * b) (3 * i) = M 78 (20 * b + i) ∧ M (9 + 9 * b) (3 * i + 1) = M 79 (20 * b + i) ∧ M (9 + 9 * b) (3 * i + 2) = M 80 (20 * b + i) := by
  obtain ⟨hcn, N, A, ha, hW, hc, R', he, hr⟩ := h
  have h0 : (i : Int) < A 0 1 := by omega
  obtain ⟨c0, c1, c2⟩ := hc.2.2.2.2.2.2.1 i hi h0
  obtain ⟨r0, r1, r2⟩ := hr.2.2.2.2.2.2.1 i hi h0
  rw [he 9 i (by decide) (by decide)] at r0
  rw [he 10 i (by decide) (by decide)] at r1
  rw [he 11 i (by decide) (by decide)] at r2
  have c0 : M (4 + 9 * b + 5) (3 * i) = A 10 i := c0
  have c1 : M (4 + 9 * b + 5) (3 * i + 1) = A 11 i := c1
  have c2 : M (4 + 9 * b + 5) (3 * i + 2) = A 12 i := c2
  have r0 : M 78 (20 * b + i) = A 10 i := r0
  have r1 : M 79 (20 * b + i) = A 11 i := r1
  have r2 : M 80 (20 * b + i) = A 12 i := r2
  rw [show 9 + 9 * b = 4 + 9 * b + 5 by omega, c0, c1, c2, r0, r1, r2]
  exact ⟨rfl, rfl, rfl⟩
end DV
