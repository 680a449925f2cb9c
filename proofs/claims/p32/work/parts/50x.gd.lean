/-! ===== ways home by roads: the steps ===== -/
section DD
variable {A B : Nat → Nat} {C : Nat → Int} {n k m t a c : Nat} {z : Int} {D D' : dMx}
theorem drd_m {j : Nat} (h : drd A B C k D) (hj : j ≤ k) : drd A B C j D := fun r hr => h r (by omega)
theorem dr_0 (h : ∀ i j, i < 64 → j < 64 → D i j = if i = j then 0 else 100000) : qDR A B C n 0 D := by
  refine ⟨⟨fun i j hi hj => ?_, fun i hi => ?_⟩, fun i j hi hj => ?_, fun p hp i j hi hj => ?_, fun r hr => absurd hr (Nat.not_lt_zero r)⟩
  · rw [h i j hi hj]; split <;> omega
  · rw [h i i hi hi, if_pos rfl]
  · rw [h i j hi hj, h j i hj hi]
    by_cases e : i = j
    · rw [if_pos e, if_pos e.symm]
    · rw [if_neg e, if_neg (fun q => e q.symm)]
  · have h1 := hp.1 i hi
    have h2 := hp.1 j hj
    rw [h i j hi hj]
    by_cases e : i = j
    · subst e; rw [if_pos rfl]; omega
    · rw [if_neg e]; omega
theorem dr_s (h : qDR A B C n k D) (hA : A k < 64) (hB : B k < 64) (hv : D (A k) (B k) ≤ C k) : qDR A B C n (k + 1) D := by
  obtain ⟨h1, h2, h3, h4⟩ := h
  refine ⟨h1, h2, h3, fun r hr => ?_⟩
  by_cases e : r = k
  · subst e
    exact ⟨hv, by rw [h2 _ _ hB hA]; exact hv⟩
  · exact h4 r (by omega)
theorem dr_w (h : qDR A B C n k D) (hA : A k < 64) (hB : B k < 64) (hk : k < n) (h0 : 0 ≤ C k) (hv : C k < D (A k) (B k)) (hD : ∀ i j, i < 64 → j < 64 → D' i j = if i = A k ∧ j = B k then C k else D i j) (hR : ∀ r, A r < 64 ∧ B r < 64) : qDS A B C n k D' := by
  obtain ⟨⟨h1, h1'⟩, h2, h3, h4⟩ := h
  have hne : A k ≠ B k := fun e => by rw [e, h1' _ hB] at hv; omega
  have hle : ∀ i j, i < 64 → j < 64 → D' i j ≤ D i j := fun i j hi hj => by
    rw [hD i j hi hj]
    split
    · next q => rw [q.1, q.2]; omega
    · omega
  refine ⟨⟨fun i j hi hj => ?_, fun i hi => ?_⟩, fun p hp i j hi hj => ?_, fun r hr => ?_, hne, ?_, ?_, fun i j hi hj q1 q2 => ?_⟩
  · have := h1 i j hi hj
    have := h1 (A k) (B k) hA hB
    rw [hD i j hi hj]
    split <;> omega
  · rw [hD i i hi hi, if_neg (fun q => hne (q.1.symm.trans q.2))]
    exact h1' i hi
  · rw [hD i j hi hj]
    split
    · next q =>
      rw [q.1, q.2]
      exact (hp.2 k hk).2
    · exact h3 p hp i j hi hj
  · have q1 := hle (A r) (B r) (hR r).1 (hR r).2
    have q2 := hle (B r) (A r) (hR r).2 (hR r).1
    have := h4 r hr
    omega
  · rw [hD _ _ hA hB, if_pos ⟨rfl, rfl⟩]
  · rw [hD _ _ hB hA, if_neg (fun q => hne q.2), h2 _ _ hB hA]
    omega
  · rw [hD i j hi hj, hD j i hj hi, if_neg q1, if_neg (fun q => q2 ⟨q.2, q.1⟩), h2 i j hi hj]
theorem dr_x (h : qDS A B C n k D) (hA : A k < 64) (hB : B k < 64) (hk : k < n) (h0 : 0 ≤ C k ∧ C k ≤ 99) (hD : ∀ i j, i < 64 → j < 64 → D' i j = if i = B k ∧ j = A k then C k else D i j) (hR : ∀ r, A r < 64 ∧ B r < 64) : qDR A B C n (k + 1) D' := by
  obtain ⟨⟨h1, h1'⟩, h3, h4, hne, h5, h6, h7⟩ := h
  have hle : ∀ i j, i < 64 → j < 64 → D' i j ≤ D i j := fun i j hi hj => by
    rw [hD i j hi hj]
    split
    · next q => rw [q.1, q.2]; omega
    · omega
  refine ⟨⟨fun i j hi hj => ?_, fun i hi => ?_⟩, fun i j hi hj => ?_, fun p hp i j hi hj => ?_, fun r hr => ?_⟩
  · have := h1 i j hi hj
    rw [hD i j hi hj]
    split <;> omega
  · rw [hD i i hi hi, if_neg (fun q => hne (q.2.symm.trans q.1))]
    exact h1' i hi
  · rw [hD i j hi hj, hD j i hj hi]
    by_cases q1 : i = A k ∧ j = B k
    · rw [if_neg (fun q => hne (q1.1.symm.trans q.1)), if_pos ⟨q1.2, q1.1⟩, q1.1, q1.2]
      exact h5
    · by_cases q2 : i = B k ∧ j = A k
      · rw [if_pos q2, if_neg (fun q => hne (q2.2.symm.trans q.1)), q2.1, q2.2]
        exact h5.symm
      · rw [if_neg q2, if_neg (fun q => q1 ⟨q.2, q.1⟩)]
        exact h7 i j hi hj q1 q2
  · rw [hD i j hi hj]
    split
    · next q =>
      rw [q.1, q.2]
      exact (hp.2 k hk).1
    · exact h3 p hp i j hi hj
  · by_cases e : r = k
    · subst e
      have q1 := hle (A r) (B r) hA hB
      exact ⟨by omega, by rw [hD _ _ hB hA, if_pos ⟨rfl, rfl⟩]; omega⟩
    · have q1 := hle (A r) (B r) (hR r).1 (hR r).2
      have q2 := hle (B r) (A r) (hR r).2 (hR r).1
      have := h4 r (by omega)
      omega
theorem dw_0 (h : qDR A B C n k D) (hk : n ≤ k) : qDW A B C n 0 0 D := ⟨D, h.1, h.2.2.1, drd_m h.2.2.2 hk, fun k hk => absurd hk (Nat.not_lt_zero k), fun i j _ _ => by rw [if_neg (Nat.not_lt_zero _)]⟩
theorem dw_um {O : dMx} (hg : drg O) (hm : m < 64) (ha : a < 64) (hO : ∀ i j, i < 64 → j < 64 → D i j = if 64 * i + j < t then min (O i j) (O i m + O m j) else O i j) : D a m = O a m ∧ D m a = O m a := by
  have h0 := hg.2 m hm
  rw [hO a m ha hm, hO m a hm ha, h0]
  constructor <;> (split <;> omega)
theorem dw_s (h : qDW A B C n m t D) (hm : m < 64) (ha : a < 64) (hc : c < 64) (ht : t = 64 * a + c) (hD : ∀ i j, i < 64 → j < 64 → D' i j = if i = a ∧ j = c then min (D a c) (D a m + D m c) else D i j) : qDW A B C n m (t + 1) D' := by
  obtain ⟨O, h1, h2, h3, h4, h5⟩ := h
  refine ⟨O, h1, h2, h3, h4, fun i j hi hj => ?_⟩
  have e1 := (dw_um h1 hm ha h5).1
  have e2 := (dw_um h1 hm hc h5).2
  have e3 := h5 a c ha hc
  rw [if_neg (by omega)] at e3
  rw [hD i j hi hj]
  by_cases q : i = a ∧ j = c
  · rw [if_pos q, if_pos (by omega), e1, e2, e3, q.1, q.2]
  · rw [if_neg q, h5 i j hi hj]
    by_cases q2 : 64 * i + j < t
    · rw [if_pos q2, if_pos (by omega)]
    · rw [if_neg q2, if_neg (by omega)]
theorem dw_e (h : qDW A B C n m 4096 D) (hm : m < 64) (hR : ∀ r, A r < 64 ∧ B r < 64) : qDW A B C n (m + 1) 0 D := by
  obtain ⟨O, h1, h2, h3, h4, h5⟩ := h
  have hD : ∀ i j, i < 64 → j < 64 → D i j = min (O i j) (O i m + O m j) := fun i j hi hj => by rw [h5 i j hi hj, if_pos (by omega)]
  have h0 := h1.2 m hm
  refine ⟨D, ⟨fun i j hi hj => ?_, fun i hi => ?_⟩, fun p hp i j hi hj => ?_, fun r hr => ?_, fun k hk i j hi hj => ?_, fun i j _ _ => by rw [if_neg (Nat.not_lt_zero _)]⟩
  · have a1 := h1.1 i j hi hj
    have a2 := h1.1 i m hi hm
    have a3 := h1.1 m j hm hj
    rw [hD i j hi hj]
    omega
  · have a2 := h1.1 i m hi hm
    have a3 := h1.1 m i hm hi
    have a4 := h1.2 i hi
    rw [hD i i hi hi]
    omega
  · have a1 := h2 p hp i j hi hj
    have a2 := h2 p hp i m hi hm
    have a3 := h2 p hp m j hm hj
    rw [hD i j hi hj]
    omega
  · have a1 := h3 r hr
    rw [hD _ _ (hR r).1 (hR r).2, hD _ _ (hR r).2 (hR r).1]
    omega
  · have hk6 : k < 64 := by omega
    have b1 := h1.1 m k hm hk6
    have b2 := h1.1 k m hk6 hm
    rw [hD i j hi hj, hD i k hi hk6, hD k j hk6 hj]
    by_cases e : k = m
    · subst e
      have a1 := h1.1 i k hi hm
      have a2 := h1.1 k j hm hj
      omega
    · have a1 := h4 k (by omega) i j hi hj
      have a2 := h4 k (by omega) m j hm hj
      have a3 := h4 k (by omega) i m hi hm
      omega
theorem dw_f (h : qDW A B C n 64 0 D) (hR : ∀ r, A r < 64 ∧ B r < 64) : qDF A B C n D := by
  obtain ⟨O, h1, h2, h3, h4, h5⟩ := h
  have hD : ∀ i j, i < 64 → j < 64 → D i j = O i j := fun i j hi hj => by rw [h5 i j hi hj, if_neg (Nat.not_lt_zero _)]
  refine ⟨⟨fun i j hi hj => by rw [hD i j hi hj]; exact h1.1 i j hi hj, fun i hi => by rw [hD i i hi hi]; exact h1.2 i hi⟩, fun p hp i j hi hj => by rw [hD i j hi hj]; exact h2 p hp i j hi hj, fun r hr => ?_, fun k hk i j hi hj => ?_⟩
  · rw [hD _ _ (hR r).1 (hR r).2, hD _ _ (hR r).2 (hR r).1]
    exact h3 r hr
  · rw [hD i j hi hj, hD i k hi hk, hD k j hk hj]
    exact h4 k hk i j hi hj
end DD
section DB
variable {A B : Nat → Nat} {C : Nat → Int} {n k t f N : Nat} {D d d' : Nat → Int} {y z : Int}
/-- what the matrix says of the row of f -/
def dok (A B : Nat → Nat) (C : Nat → Int) (n : Nat) (D : Nat → Int) (f : Nat) : Prop := (∀ v, v < 64 → 0 ≤ D v ∧ D v ≤ 100000) ∧ D f = 0 ∧ (∀ r, r < n → D (B r) ≤ D (A r) + C r ∧ D (A r) ≤ D (B r) + C r) ∧ ∀ p, dfe A B C n p → ∀ v, v < 64 → p v - p f ≤ D v
theorem dok_of {F : dMx} (h : qDF A B C n F) (hf : f < 64) (hR : ∀ r, A r < 64 ∧ B r < 64) (hD : ∀ v, v < 64 → D v = F f v) : dok A B C n D f := by
  obtain ⟨h1, h2, h3, h4⟩ := h
  refine ⟨fun v hv => by rw [hD v hv]; exact h1.1 f v hf hv, by rw [hD f hf]; exact h1.2 f hf, fun r hr => ?_, fun p hp v hv => by rw [hD v hv]; exact h2 p hp f v hf hv⟩
  have a := hR r
  have b := h3 r hr
  rw [hD _ a.1, hD _ a.2]
  have c1 := h4 (A r) a.1 f (B r) hf a.2
  have c2 := h4 (B r) a.2 f (A r) hf a.1
  omega
theorem dle_r (h : ∀ v, v < 64 → D v ≤ d v) : ∀ v, v < 64 → D v ≤ d v ∧ d v ≤ d v := fun v hv => ⟨h v hv, Int.le_refl _⟩
theorem db_up {h : Nat} (hb : dbs D d f N) (hf : f < 64) (hh : h < 64) (h0 : 0 ≤ D h) (h1 : D h ≤ z) (h2 : z < d h) (h3 : z ≤ 99 * ((N + 1 : Nat) : Int)) (hd : ∀ v, v < 64 → d' v = if v = h then z else d v) : dbs D d' f (N + 1) ∧ ∀ v, v < 64 → D v ≤ d' v ∧ d' v ≤ d v := by
  obtain ⟨b1, b2⟩ := hb
  refine ⟨⟨?_, fun v hv => ?_⟩, fun v hv => ?_⟩
  · rw [hd f hf, if_neg (fun e => by rw [← e] at h2 h0 h1; omega)]
    exact b1
  · have := b2 v hv
    rw [hd v hv]
    split
    · next e => rw [e]; omega
    · omega
  · have := b2 v hv
    rw [hd v hv]
    split
    · next e => rw [e]; omega
    · omega
theorem dbs_m {N' : Nat} (hb : dbs D d f N) (hN : N ≤ N') : dbs D d f N' := ⟨hb.1, fun v hv => by have := hb.2 v hv; omega⟩
theorem dcr_m {r : Nat} (hR : ∀ r, A r < 64 ∧ B r < 64) (h : ∀ v, v < 64 → D v ≤ d' v ∧ d' v ≤ d v) (hc : dcr A B C D d' r) : dcr A B C D d r := by
  have h1 := h _ (hR r).1
  have h2 := h _ (hR r).2
  rcases hc with hc | hc
  · exact Or.inl ⟨hc.1, by omega⟩
  · exact Or.inr ⟨hc.1, by omega⟩
theorem dct_le (hR : ∀ r, A r < 64 ∧ B r < 64) (h : ∀ v, v < 64 → D v ≤ d' v ∧ d' v ≤ d v) : ∀ n, dct A B C D d' n ≤ dct A B C D d n
  | 0 => Nat.le_refl _
  | n + 1 => by
    have ih := dct_le hR h n
    show dct A B C D d' n + (if dcr A B C D d' n then 1 else 0) ≤ dct A B C D d n + (if dcr A B C D d n then 1 else 0)
    by_cases hc : dcr A B C D d' n
    · rw [if_pos hc, if_pos (dcr_m hR h hc)]; omega
    · rw [if_neg hc]; split <;> omega
theorem dct_lt (hR : ∀ r, A r < 64 ∧ B r < 64) (h : ∀ v, v < 64 → D v ≤ d' v ∧ d' v ≤ d v) {r : Nat} (h1 : dcr A B C D d r) (h2 : ¬ dcr A B C D d' r) : ∀ n, r < n → dct A B C D d' n + 1 ≤ dct A B C D d n
  | 0, hr => absurd hr (Nat.not_lt_zero r)
  | n + 1, hr => by
    show dct A B C D d' n + (if dcr A B C D d' n then 1 else 0) + 1 ≤ dct A B C D d n + (if dcr A B C D d n then 1 else 0)
    by_cases e : r = n
    · subst e
      have := dct_le (C := C) hR h r
      rw [if_neg h2, if_pos h1]
      omega
    · have ih := dct_lt hR h h1 h2 n (by omega)
      by_cases hc : dcr A B C D d' n
      · rw [if_pos hc, if_pos (dcr_m hR h hc)]; omega
      · rw [if_neg hc]; split <;> omega
theorem dct_n : ∀ n, dct A B C D d n ≤ n
  | 0 => Nat.le_refl _
  | n + 1 => by
    have ih := dct_n n
    show dct A B C D d n + (if dcr A B C D d n then 1 else 0) ≤ n + 1
    split <;> omega
theorem dhd_lt (hR : ∀ r, A r < 64 ∧ B r < 64) (r : Nat) (s : Bool) : dhd A B r s < 64 ∧ dtl A B r s < 64 := by
  cases s
  · exact ⟨(hR r).1, (hR r).2⟩
  · exact ⟨(hR r).2, (hR r).1⟩
theorem dcr_o {r : Nat} {s : Bool} (ht : dtg A B C D r s) (h2 : D (dhd A B r s) < d (dhd A B r s)) : dcr A B C D d r := by
  cases s
  · exact Or.inr ⟨ht.1, h2⟩
  · exact Or.inl ⟨ht.1, h2⟩
theorem dcr_n {r : Nat} {s : Bool} (h1 : d (dtl A B r s) = D (dtl A B r s)) (h2 : d (dhd A B r s) = D (dhd A B r s)) : ¬ dcr A B C D d r := by
  intro h
  cases s
  · have h1 : d (B r) = D (B r) := h1
    have h2 : d (A r) = D (A r) := h2
    rcases h with h | h <;> omega
  · have h1 : d (A r) = D (A r) := h1
    have h2 : d (B r) = D (B r) := h2
    rcases h with h | h <;> omega
theorem dG_up {q q' : Nat → Bool → Prop} (hR : ∀ r, A r < 64 ∧ B r < 64) (h : ∀ v, v < 64 → D v ≤ d' v ∧ d' v ≤ d v) (hq : ∀ r s, r < n → dtg A B C D r s → d' (dtl A B r s) = D (dtl A B r s) → q' r s → q r s ∨ d' (dhd A B r s) = D (dhd A B r s)) (hG : dG A B C n D d t q) : dG A B C n D d' t q' := by
  rcases hG with hG | ⟨r, s, g1, g2, g3, g4, g5, g6⟩
  · exact Or.inl (fun v hv hD => by have := hG v hv hD; have := h v hv; omega)
  · have a1 := dhd_lt hR r s
    have b1 := h _ a1.1
    have b2 := h _ a1.2
    have c1 : d' (dtl A B r s) = D (dtl A B r s) := by omega
    have hl := dct_le (C := C) hR h n
    refine Or.inr ⟨r, s, g1, g2, c1, by omega, fun e => ?_, fun e => ?_⟩
    · by_cases e1 : d (dhd A B r s) = D (dhd A B r s)
      · have := g5 e1; omega
      · have := dct_lt hR h (dcr_o g2 (by omega)) (dcr_n c1 e) n g1
        omega
    · rcases hq r s g1 g2 c1 e with e | e
      · have := g6 e; omega
      · exact e
theorem db_1 (hR : ∀ r, A r < 64 ∧ B r < 64) (h : ∀ v, v < 64 → D v ≤ d' v ∧ d' v ≤ d v) (hk : d' (B k) ≤ d' (A k) + C k) (hG : dG A B C n D d t (fun r _ => r < k)) : dG A B C n D d' t (fun r s => r < k ∨ (r = k ∧ s = true)) := by
  refine dG_up hR h (fun r s hr ht hl hq => ?_) hG
  rcases hq with hq | ⟨q1, q2⟩
  · exact Or.inl hq
  · subst q1; subst q2
    have b := h _ (hR r).2
    have hl : d' (A r) = D (A r) := hl
    have ht : D (A r) + C r = D (B r) := ht.1
    exact Or.inr (show d' (B r) = D (B r) by omega)
theorem db_2 (hR : ∀ r, A r < 64 ∧ B r < 64) (h : ∀ v, v < 64 → D v ≤ d' v ∧ d' v ≤ d v) (hk : d' (A k) ≤ d' (B k) + C k) (hG : dG A B C n D d t (fun r s => r < k ∨ (r = k ∧ s = true))) : dG A B C n D d' t (fun r _ => r < k + 1) := by
  refine dG_up hR h (fun r s hr ht hl hq => ?_) hG
  have hq : r < k + 1 := hq
  by_cases e : r = k
  · subst e
    cases s
    · have b := h _ (hR r).1
      have hl : d' (B r) = D (B r) := hl
      have ht : D (B r) + C r = D (A r) := ht.1
      exact Or.inr (show d' (A r) = D (A r) by omega)
    · exact Or.inl (Or.inr ⟨rfl, rfl⟩)
  · exact Or.inl (Or.inl (by omega))
/-- the first relaxation of a road, the second -/
theorem b1_w (hR : ∀ r, A r < 64 ∧ B r < 64) (ho : dok A B C n D f) (hf : f < 64) (hkn : k < n) (hc : 0 ≤ C k ∧ C k ≤ 99) (h : qBI A B C n D d f k t y) (hz : z = d (A k) + C k) (hlt : z < d (B k)) (hd : ∀ v, v < 64 → d' v = if v = B k then z else d v) : qBJ A B C n D d' f k t 1 := by
  obtain ⟨h1, h2, h3⟩ := h
  have a := hR k
  have c1 := (ho.2.2.1 k hkn).1
  have c2 := h1.2 _ a.1
  have c3 := h1.2 _ a.2
  have c4 := ho.1 _ a.2
  obtain ⟨e1, e2⟩ := db_up h1 hf a.2 c4.1 (z := z) (by omega) hlt (by omega) hd
  have hne : A k ≠ B k := fun e => by rw [e] at hz; omega
  refine ⟨e1, fun q => absurd q (by decide), db_1 hR e2 ?_ h3⟩
  rw [hd _ a.2, if_pos rfl, hd _ a.1, if_neg hne]
  omega
theorem b1_k (hR : ∀ r, A r < 64 ∧ B r < 64) (h : qBI A B C n D d f k t y) (hk : d (B k) ≤ d (A k) + C k) : qBJ A B C n D d f k t y := by
  obtain ⟨h1, h2, h3⟩ := h
  exact ⟨dbs_m h1 (by omega), fun q => ⟨h2 q, hk⟩, db_1 hR (dle_r (fun v hv => (h1.2 v hv).1)) hk h3⟩
theorem b2_w (hR : ∀ r, A r < 64 ∧ B r < 64) (ho : dok A B C n D f) (hf : f < 64) (hkn : k < n) (hc : 0 ≤ C k ∧ C k ≤ 99) (h : qBJ A B C n D d f k t y) (hz : z = d (B k) + C k) (hlt : z < d (A k)) (hd : ∀ v, v < 64 → d' v = if v = A k then z else d v) : qBI A B C n D d' f (k + 1) t 1 := by
  obtain ⟨h1, h2, h3⟩ := h
  have a := hR k
  have c1 := (ho.2.2.1 k hkn).2
  have c2 := h1.2 _ a.1
  have c3 := h1.2 _ a.2
  have c4 := ho.1 _ a.1
  obtain ⟨e1, e2⟩ := db_up h1 hf a.1 c4.1 (z := z) (by omega) hlt (by omega) hd
  have hne : B k ≠ A k := fun e => by rw [e] at hz; omega
  refine ⟨dbs_m e1 (by omega), fun q => absurd q (by decide), db_2 hR e2 ?_ h3⟩
  rw [hd _ a.1, if_pos rfl, hd _ a.2, if_neg hne]
  omega
theorem b2_k (hR : ∀ r, A r < 64 ∧ B r < 64) (h : qBJ A B C n D d f k t y) (hk : d (A k) ≤ d (B k) + C k) : qBI A B C n D d f (k + 1) t y := by
  obtain ⟨h1, h2, h3⟩ := h
  refine ⟨dbs_m h1 (by omega), fun q r hr => ?_, db_2 hR (dle_r (fun v hv => (h1.2 v hv).1)) hk h3⟩
  obtain ⟨h4, h5⟩ := h2 q
  by_cases e : r = k
  · subst e; omega
  · exact h4 r (by omega)
theorem bs_0 (ho : dok A B C n D f) (hn : n ≤ 20) (hd : ∀ v, v < 64 → d v = if v = f then 0 else 1000000) (hf : f < 64) : qBS A B C n D d f 0 := by
  refine ⟨⟨by rw [hd f hf, if_pos rfl], fun v hv => ?_⟩, Or.inr (by have := dct_n (A := A) (B := B) (C := C) (D := D) (d := d) n; omega)⟩
  have := ho.1 v hv
  rw [hd v hv]
  by_cases e : v = f
  · subst e
    rw [if_pos rfl, ho.2.1]
    omega
  · rw [if_neg e]; omega
theorem bi_0 (hR : ∀ r, A r < 64 ∧ B r < 64) (ho : dok A B C n D f) (hf : f < 64) (hc : ∀ r, r < n → 0 ≤ C r) (h : qBS A B C n D d f t) : qBI A B C n D d f 0 t 0 := by
  obtain ⟨h1, h2⟩ := h
  refine ⟨h1, fun _ r hr => absurd hr (Nat.not_lt_zero r), ?_⟩
  rcases h2 with h2 | h2
  · exact Or.inl h2
  by_cases ha : dal D d
  · exact Or.inl ha
  by_cases hx : ∃ r s, r < n ∧ dtg A B C D r s ∧ d (dtl A B r s) = D (dtl A B r s) ∧ d (dhd A B r s) ≠ D (dhd A B r s)
  · obtain ⟨r, s, x1, x2, x3, x4⟩ := hx
    exact Or.inr ⟨r, s, x1, x2, x3, h2, fun e => absurd e x4, fun e => absurd e (Nat.not_lt_zero r)⟩
  · exfalso
    refine ha (fun v hv hD => ?_)
    apply Classical.byContradiction
    intro hne
    -- every road into what is not settled from what is settled has slack
    have hs : ∀ r s, r < n → D (dtl A B r s) + C r = D (dhd A B r s) → D (dhd A B r s) < 100000 → d (dtl A B r s) = D (dtl A B r s) → d (dhd A B r s) = D (dhd A B r s) := fun r s x1 x2 x3 x4 => by
      apply Classical.byContradiction
      intro x5
      exact hx ⟨r, s, x1, ⟨x2, x3⟩, x4, x5⟩
    have hp : dfe A B C n (fun w => if D w < 100000 ∧ d w ≠ D w then D w + 1 else D w) := by
      refine ⟨fun w hw => ?_, fun r hr => ?_⟩
      · have := ho.1 w hw
        show 0 ≤ (if D w < 100000 ∧ d w ≠ D w then D w + 1 else D w) ∧ (if D w < 100000 ∧ d w ≠ D w then D w + 1 else D w) ≤ 100000
        split <;> omega
      · have b := ho.2.2.1 r hr
        have c0 := hc r hr
        have r1 := ho.1 _ (hR r).1
        have r2 := ho.1 _ (hR r).2
        have s1 : D (A r) + C r = D (B r) → D (B r) < 100000 → d (A r) = D (A r) → d (B r) = D (B r) := hs r true hr
        have s2 : D (B r) + C r = D (A r) → D (A r) < 100000 → d (B r) = D (B r) → d (A r) = D (A r) := hs r false hr
        show (if D (A r) < 100000 ∧ d (A r) ≠ D (A r) then D (A r) + 1 else D (A r)) - (if D (B r) < 100000 ∧ d (B r) ≠ D (B r) then D (B r) + 1 else D (B r)) ≤ C r ∧ (if D (B r) < 100000 ∧ d (B r) ≠ D (B r) then D (B r) + 1 else D (B r)) - (if D (A r) < 100000 ∧ d (A r) ≠ D (A r) then D (A r) + 1 else D (A r)) ≤ C r
        by_cases u1 : D (A r) < 100000 ∧ d (A r) ≠ D (A r)
        · by_cases u2 : D (B r) < 100000 ∧ d (B r) ≠ D (B r)
          · rw [if_pos u1, if_pos u2]; omega
          · rw [if_pos u1, if_neg u2]
            refine ⟨?_, by omega⟩
            by_cases e : D (B r) + C r = D (A r)
            · by_cases e2 : d (B r) = D (B r)
              · exact absurd (s2 e u1.1 e2) u1.2
              · omega
            · omega
        · by_cases u2 : D (B r) < 100000 ∧ d (B r) ≠ D (B r)
          · rw [if_neg u1, if_pos u2]
            refine ⟨by omega, ?_⟩
            by_cases e : D (A r) + C r = D (B r)
            · by_cases e2 : d (A r) = D (A r)
              · exact absurd (s1 e u2.1 e2) u2.2
              · omega
            · omega
          · rw [if_neg u1, if_neg u2]; omega
    have k1 := ho.2.2.2 _ hp v hv
    have k2 : (if D v < 100000 ∧ d v ≠ D v then D v + 1 else D v) - (if D f < 100000 ∧ d f ≠ D f then D f + 1 else D f) ≤ D v := k1
    have f0 := ho.2.1
    have f1 := h1.1
    rw [if_pos ⟨hD, hne⟩, if_neg (fun q => q.2 (by omega))] at k2
    omega
theorem bd_of (ho : dok A B C n D f) (hb : dbs D d f N) (hN : N ≤ 840) (ha : ∀ v, v < 64 → D v < 100000 → d v ≤ D v) : qBD D d := fun v hv => by
  have h1 := ho.1 v hv
  have h2 := hb.2 v hv
  by_cases e : D v < 100000
  · have := ha v hv e
    exact Or.inl ⟨by omega, e⟩
  · exact Or.inr ⟨by omega, by omega⟩
theorem bn_e (h : qBI A B C n D d f k t y) (hk : n ≤ k) (hk2 : k ≤ 20) : qBS A B C n D d f (t + 1) := by
  obtain ⟨h1, h2, h3⟩ := h
  refine ⟨dbs_m h1 (by omega), ?_⟩
  rcases h3 with h3 | ⟨r, s, g1, g2, g3, g4, g5, g6⟩
  · exact Or.inl h3
  · have := g5 (g6 (show r < k by omega))
    exact Or.inr (by omega)
theorem bn_d (hR : ∀ r, A r < 64 ∧ B r < 64) (ho : dok A B C n D f) (hf : f < 64) (h : qBI A B C n D d f k t 0) (hk : n ≤ k) (hk2 : k ≤ 20) (ht : t ≤ 20) : qBD D d := by
  obtain ⟨h1, h2, h3⟩ := h
  refine bd_of ho h1 (by omega) (fun v hv e => ?_)
  have hp : dfe A B C n (fun w => min (d w) 100000) := by
    refine ⟨fun w hw => ?_, fun r hr => ?_⟩
    · have := ho.1 w hw
      have := h1.2 w hw
      show 0 ≤ min (d w) 100000 ∧ min (d w) 100000 ≤ 100000
      omega
    · have := h2 rfl r (by omega)
      show min (d (A r)) 100000 - min (d (B r)) 100000 ≤ C r ∧ min (d (B r)) 100000 - min (d (A r)) 100000 ≤ C r
      omega
  have k1 := ho.2.2.2 _ hp v hv
  have k2 : min (d v) 100000 - min (d f) 100000 ≤ D v := k1
  have := h1.1
  omega
theorem bs_e (ho : dok A B C n D f) (h : qBS A B C n D d f t) (ht : 21 ≤ t) (ht2 : t ≤ 21) : qBD D d := by
  obtain ⟨h1, h2⟩ := h
  refine bd_of ho h1 (by omega) (fun v hv e => ?_)
  rcases h2 with h2 | h2
  · have := h2 v hv e; omega
  · omega
end DB
/-! by the rows -/
section DV
variable {b k a c f n : Nat} {M : pM}
theorem dR_lt (b : Nat) (M : pM) : ∀ r, dRa b M r < 64 ∧ dRb b M r < 64 := fun r => by
  unfold dRa dRb
  constructor <;> (split <;> omega)
theorem dRa_v (hk : k < 20) (ha : a < 64) (h : M 78 (20 * b + k) = (a : Int)) : dRa b M k = a := by
  unfold dRa
  rw [if_pos hk, h]
  omega
theorem dRb_v (hk : k < 20) (ha : a < 64) (h : M 79 (20 * b + k) = (a : Int)) : dRb b M k = a := by
  unfold dRb
  rw [if_pos hk, h]
  omega
theorem dRm_v {m : Int} (hk : k < 20) (h : M 80 (20 * b + k) = m) : dRm b M k = m := (if_pos hk).trans h
theorem dRn_v (hn : n ≤ 20) (h : M 67 b = (n : Int)) : dRn b M = n := by
  unfold dRn
  rw [h]
  omega
theorem dRm_0 (hG : gI M) (hb : b ≤ 1) (r : Nat) : 0 ≤ dRm b M r := by
  unfold dRm
  split
  · have e : gl 80 = [(0, 99)] := by decide +kernel
    have z : szS (SH 80) = 40 := by decide +kernel
    exact (hG.1 80 (20 * b + r) (0, 99) (fun _ => by rw [z]; omega) (by rw [e]; show [((0 : Int), (99 : Int))][(20 * b + r) % 1]? = _; rw [Nat.mod_one]; rfl) (by decide)).1
  · omega
theorem dfar_v (ha : a < 64) (hc : c < 64) : dfar M a c = M 114 (64 * a + c) := if_pos ⟨ha, hc⟩
theorem dDd_v (ha : a < 64) : dDd M a = M 57 a := if_pos ha
theorem dDf_v (ha : a < 64) : dDf f M a = M 114 (64 * f + a) := if_pos ha
theorem dDf_f (hf : f < 64) : ∀ v, v < 64 → dDf f M v = dfar M f v := fun v hv => by rw [dDf_v hv, dfar_v hf hv]
theorem dfar_st {z : Int} {I : Nat} (hI : I = 64 * a + c) (ha : a < 64) (hc : c < 64) : ∀ i j, i < 64 → j < 64 → dfar (st M 114 I z) i j = if i = a ∧ j = c then z else dfar M i j := fun i j hi hj => by
  rw [dfar_v hi hj, dfar_v hi hj]
  show (if 114 = 114 ∧ 64 * i + j = I then z else M 114 (64 * i + j)) = _
  by_cases q : i = a ∧ j = c
  · rw [if_pos q, if_pos ⟨rfl, by omega⟩]
  · rw [if_neg q, if_neg (by omega)]
theorem dDd_st {z : Int} {I : Nat} (hI : I = a) : ∀ v, v < 64 → dDd (st M 57 I z) v = if v = a then z else dDd M v := fun v hv => by
  rw [dDd_v hv, dDd_v hv]
  show (if 57 = 57 ∧ v = I then z else M 57 v) = _
  by_cases q : v = a
  · rw [if_pos q, if_pos ⟨rfl, by omega⟩]
  · rw [if_neg q, if_neg (by omega)]
theorem rows_st {X I : Nat} {z : Int} (h : X = 114 ∨ X = 57) : dRa b (st M X I z) = dRa b M ∧ dRb b (st M X I z) = dRb b M ∧ dRm b (st M X I z) = dRm b M ∧ dRn b (st M X I z) = dRn b M :=
  ⟨dRa_c (fun r _ => if_neg (by omega)), dRb_c (fun r _ => if_neg (by omega)), dRm_c (fun r _ => if_neg (by omega)), dRn_c (if_neg (by omega))⟩
theorem dDf_st {I : Nat} {z : Int} (hf : f < 64) : dDf f (st M 57 I z) = dDf f M := dDf_c hf (fun i _ => if_neg (by omega))
theorem dok_b (h : DFp b M) (hf : f < 64) : dok (dRa b M) (dRb b M) (dRm b M) (dRn b M) (dDf f M) f := dok_of h hf (dR_lt b M) (dDf_f hf)
theorem eq_rn (h : qEQ b M) : M (3 + 9 * b) 10 = M 67 b := by
  obtain ⟨⟨_, h1, _⟩, _⟩ := h
  exact h1
theorem eq_ro (h : qEQ b M) {i : Nat} (hi : i < 20) (hw : (i : Int) < M (3 + 9 * b) 10) : M (9 + 9 * b) (3 * i) = M 78 (20 * b + i) ∧ M (9 + 9 * b) (3 * i + 1) = M 79 (20 * b + i) ∧ M (9 + 9 * b) (3 * i + 2) = M 80 (20 * b + i) := by
  obtain ⟨hcn, N, A, ha, hW, hc, R', he, hr⟩ := h
  have h0 : (i : Int) < A 0 1 := by omega
  obtain ⟨c0, c1, c2⟩ := hc.2.2.2.2.2.2.1 i hi h0
  obtain ⟨r0, r1, r2⟩ := hr.2.2.2.2.2.2.1 i hi h0
  rw [he 9 i (by decide) (by decide)] at r0
  rw [he 10 i (by decide) (by decide)] at r1
  rw [he 11 i (by decide) (by decide)] at r2
  have c0 : M (4 + 9 * b + 5) (3 * i) = A 10 i := c0
  have c1 : M (4 + 9 * b + 5) (3 * i + 1) = A 11 i := c1
  have c2 : M (4 + 9 * b + 5) (3 * i + 2) = A 12 i := c2
  have r0 : M 78 (20 * b + i) = A 10 i := r0
  have r1 : M 79 (20 * b + i) = A 11 i := r1
  have r2 : M 80 (20 * b + i) = A 12 i := r2
  rw [show 9 + 9 * b = 4 + 9 * b + 5 by omega, c0, c1, c2, r0, r1, r2]
  exact ⟨rfl, rfl, rfl⟩
end DV
/-! ===== who brings the gliders home: the steps ===== -/
section HA
variable {m m' : Nat → Int} {t c p : Nat → Nat} {T n g j a : Nat} {b L : Int}
theorem hps_0 (hm : ∀ o, 0 ≤ m o) : ∀ g, 0 ≤ hps m t a g
  | 0 => Int.le_refl 0
  | g + 1 => by
    have ih := hps_0 hm g
    have := hm g
    show 0 ≤ hps m t a g + (if t g = a then m g else 0)
    split <;> omega
theorem hps_m (hm : ∀ o, 0 ≤ m o) {g : Nat} : ∀ k, hps m t a g ≤ hps m t a (g + k)
  | 0 => Int.le_refl _
  | k + 1 => by
    have ih := hps_m hm (g := g) k
    have := hm (g + k)
    show hps m t a g ≤ hps m t a (g + k) + (if t (g + k) = a then m (g + k) else 0)
    split <;> omega
theorem hps_c : ∀ {g : Nat}, (∀ o, o < g → t o = c o) → hps m t a g = hps m c a g
  | 0, _ => rfl
  | g + 1, h => by
    show hps m t a g + (if t g = a then m g else 0) = hps m c a g + (if c g = a then m g else 0)
    rw [hps_c (fun o ho => h o (by omega)), h g (by omega)]
theorem hps_m' : ∀ {g : Nat}, (∀ o, o < g → m o = m' o) → hps m t a g = hps m' t a g
  | 0, _ => rfl
  | g + 1, h => by
    show hps m t a g + (if t g = a then m g else 0) = hps m' t a g + (if t g = a then m' g else 0)
    rw [hps_m' (fun o ho => h o (by omega)), h g (by omega)]
theorem hps_b {K : Int} (hK : 0 ≤ K) : ∀ {g : Nat}, (∀ o, o < g → m o ≤ K) → hps m t a g ≤ K * g
  | 0, _ => by show (0 : Int) ≤ K * ((0 : Nat) : Int); omega
  | g + 1, h => by
    have ih := hps_b hK (g := g) (fun o ho => h o (by omega))
    have := h g (by omega)
    show hps m t a g + (if t g = a then m g else 0) ≤ K * ((g + 1 : Nat) : Int)
    have e : K * ((g + 1 : Nat) : Int) = K * (g : Int) + K := by rw [Int.natCast_add, Int.mul_add]; omega
    rw [e]
    split <;> omega
theorem hco_c (h : ∀ o, o < n → t o = c o) : hco m t n = hco m c n := by
  unfold hco
  rw [hps_c h, hps_c h, hps_c h]
theorem hco_m (h : ∀ o, o < n → m o = m' o) : hco m t n = hco m' t n := by
  unfold hco
  rw [hps_m' h, hps_m' h, hps_m' h]
theorem hco_ge (ha : a < 3) : hps m t a n ≤ hco m t n := by
  unfold hco
  have : a = 0 ∨ a = 1 ∨ a = 2 := by omega
  rcases this with e | e | e <;> (subst e; omega)
theorem hco_le {X : Int} (h : ∀ a, a < 3 → hps m t a n ≤ X) : hco m t n ≤ X := by
  have h0 := h 0 (by decide)
  have h1 := h 1 (by decide)
  have h2 := h 2 (by decide)
  unfold hco
  omega
theorem hco_eq (h : ∀ a, a < 3 → hps m t a n ≤ L) (h2 : ∃ a, a < 3 ∧ hps m t a n = L) : hco m t n = L := by
  obtain ⟨a, h3, h4⟩ := h2
  have h5 := hco_ge (m := m) (t := t) (n := n) h3
  have h6 := hco_le h
  omega
theorem hlx_s {k : Nat} (h : hlx t c g) (hk : g ≤ k) : hlx t c k := by
  obtain ⟨i, h1, h2, h3⟩ := h
  exact ⟨i, by omega, h2, h3⟩
theorem hlx_c {c' : Nat → Nat} (h : hlx t c g) (hc : ∀ o, o < g → c o = c' o) : hlx t c' g := by
  obtain ⟨i, h1, h2, h3⟩ := h
  exact ⟨i, h1, fun o ho => by rw [h2 o ho, hc o (by omega)], by rw [← hc i h1]; exact h3⟩
theorem hlx_tri : ∀ n, hqq t c n ∨ hlx t c n ∨ hlx c t n
  | 0 => Or.inl (fun o ho => absurd ho (Nat.not_lt_zero o))
  | n + 1 => by
    rcases hlx_tri n with h | h | h
    · by_cases e : t n = c n
      · refine Or.inl (fun o ho => ?_)
        by_cases e2 : o = n
        · rw [e2]; exact e
        · exact h o (by omega)
      · by_cases e2 : t n < c n
        · exact Or.inr (Or.inl ⟨n, by omega, h, e2⟩)
        · exact Or.inr (Or.inr ⟨n, by omega, fun o ho => (h o ho).symm, by omega⟩)
    · exact Or.inr (Or.inl (hlx_s h (by omega)))
    · exact Or.inr (Or.inr (hlx_s h (by omega)))
theorem hbs_s {b0 : Int} {S S' : (Nat → Nat) → Prop} (h : hbs m T n b0 S b c) (h1 : ∀ t, hva T n t → S' t → ¬ S t → b ≤ hco m t n) (h2 : S c → S' c) : hbs m T n b0 S' b c := by
  obtain ⟨k1, k2⟩ := h
  refine ⟨fun t ht hs => ?_, ?_⟩
  · by_cases e : S t
    · exact k1 t ht e
    · exact h1 t ht hs e
  · rcases k2 with k2 | ⟨k2, k3, k4⟩
    · exact Or.inl k2
    · exact Or.inr ⟨k2, h2 k3, k4⟩
/-- the search, step by step -/
theorem hj_pr {b0 : Int} (hm : ∀ o, 0 ≤ m o) (hg : g ≤ n) (h : hbs m T n b0 (hcv T g 0 p) b c) (hx : qMX m p g j L) (hL : b ≤ L) : hbs m T n b0 (hcv T g T p) b c := by
  obtain ⟨x1, ⟨a, x2, x3⟩, x4, x5⟩ := hx
  refine hbs_s h (fun t ht hs hn => ?_) (fun hs => ?_)
  · rcases hs with hs | ⟨hs, _⟩
    · exact absurd (Or.inl hs) hn
    · have e1 : hps m t a g = hps m p a g := hps_c hs
      have e2 := hps_m (t := t) (a := a) hm (g := g) (n - g)
      rw [show g + (n - g) = n by omega] at e2
      have e3 := hco_ge (m := m) (t := t) (n := n) x2
      omega
  · rcases hs with hs | ⟨hs, _⟩
    · exact Or.inl hs
    · exact Or.inr ⟨hs, Or.inl rfl⟩
theorem hj_dn {b0 : Int} {p' : Nat → Nat} (hT : 1 ≤ T) (hp : ∀ o, o < g → p' o = p o) (hj : p' g = j) (hjT : j < T) (h : hbs m T n b0 (hcv T g j p) b c) : hbs m T n b0 (hcv T (g + 1) 0 p') b c := by
  refine hbs_s h (fun t ht hs hn => ?_) (fun hs => ?_)
  · exfalso
    rcases hs with ⟨i, i1, i2, i3⟩ | ⟨_, hs | hs⟩
    · by_cases e : i = g
      · subst e
        exact hn (Or.inr ⟨fun o ho => by rw [i2 o ho, hp o ho], Or.inr (by rw [hj] at i3; exact i3)⟩)
      · exact hn (Or.inl ⟨i, by omega, fun o ho => by rw [i2 o ho, hp o (by omega)], by rw [← hp i (by omega)]; exact i3⟩)
    · omega
    · omega
  · rcases hs with ⟨i, i1, i2, i3⟩ | ⟨hq, hs | hs⟩
    · exact Or.inl ⟨i, by omega, fun o ho => by rw [i2 o ho, hp o (by omega)], by rw [hp i i1]; exact i3⟩
    · omega
    · exact Or.inl ⟨g, by omega, fun o ho => by rw [hq o ho, hp o ho], by rw [hj]; exact hs⟩
theorem hj_up {b0 : Int} {p' : Nat → Nat} (hp : ∀ o, o < g → p' o = p o) (hj : p' g = j) (hjT : j < T) (hg : g < n) (h : hbs m T n b0 (hcv T (g + 1) T p') b c) : hbs m T n b0 (hcv T g (j + 1) p) b c := by
  refine hbs_s h (fun t ht hs hn => ?_) (fun hs => ?_)
  · exfalso
    rcases hs with ⟨i, i1, i2, i3⟩ | ⟨hq, hs⟩
    · exact hn (Or.inl ⟨i, by omega, fun o ho => by rw [i2 o ho, hp o (by omega)], by rw [hp i i1]; exact i3⟩)
    · have htg := ht g hg
      by_cases e : t g = j
      · refine hn (Or.inr ⟨fun o ho => ?_, Or.inl rfl⟩)
        by_cases e2 : o = g
        · rw [e2, hj]; exact e
        · rw [hp o (by omega)]; exact hq o (by omega)
      · exact hn (Or.inl ⟨g, by omega, fun o ho => by rw [hq o ho, hp o ho], by rw [hj]; omega⟩)
  · rcases hs with ⟨i, i1, i2, i3⟩ | ⟨hq, _⟩
    · by_cases e : i = g
      · subst e
        exact Or.inr ⟨fun o ho => by rw [i2 o ho, hp o ho], Or.inr (by rw [hj] at i3; omega)⟩
      · exact Or.inl ⟨i, by omega, fun o ho => by rw [i2 o ho, hp o (by omega)], by rw [← hp i (by omega)]; exact i3⟩
    · exact Or.inr ⟨fun o ho => by rw [hq o (by omega), hp o ho], Or.inr (by rw [hq g (by omega), hj]; omega)⟩
/-- two trailers change their parts -/
def hsw (t : Nat → Nat) (g j a : Nat) : Nat → Nat := fun o => if o < g then t o else if t o = j then a else if t o = a then j else t o
theorem hsw_p : ∀ k, hps m (hsw t g j a) j (g + k) - hps m (hsw t g j a) j g = hps m t a (g + k) - hps m t a g ∧ hps m (hsw t g j a) a (g + k) - hps m (hsw t g j a) a g = hps m t j (g + k) - hps m t j g ∧ ∀ c, c ≠ j → c ≠ a → hps m (hsw t g j a) c (g + k) - hps m (hsw t g j a) c g = hps m t c (g + k) - hps m t c g
  | 0 => ⟨by show hps m (hsw t g j a) j g - hps m (hsw t g j a) j g = hps m t a g - hps m t a g; omega, by show hps m (hsw t g j a) a g - hps m (hsw t g j a) a g = hps m t j g - hps m t j g; omega, fun c _ _ => by show hps m (hsw t g j a) c g - hps m (hsw t g j a) c g = hps m t c g - hps m t c g; omega⟩
  | k + 1 => by
    obtain ⟨h1, h2, h3⟩ := hsw_p k
    have e : hsw t g j a (g + k) = if t (g + k) = j then a else if t (g + k) = a then j else t (g + k) := if_neg (by omega)
    have s : ∀ (q : Nat → Nat) (c : Nat), hps m q c (g + (k + 1)) = hps m q c (g + k) + (if q (g + k) = c then m (g + k) else 0) := fun q c => rfl
    refine ⟨?_, ?_, fun c c1 c2 => ?_⟩
    · rw [s, s, e]
      by_cases q1 : t (g + k) = j
      · rw [if_pos q1]
        by_cases q2 : a = j
        · rw [if_pos q2, if_pos (by omega)]; omega
        · rw [if_neg q2, if_neg (by omega)]; omega
      · rw [if_neg q1]
        by_cases q2 : t (g + k) = a
        · rw [if_pos q2, if_pos rfl, if_pos q2]; omega
        · rw [if_neg q2, if_neg q1]
          omega
    · rw [s, s, e]
      by_cases q1 : t (g + k) = j
      · rw [if_pos q1, if_pos rfl, if_pos q1]; omega
      · rw [if_neg q1]
        by_cases q2 : t (g + k) = a
        · rw [if_pos q2]
          by_cases q3 : j = a
          · exact absurd (q2.trans q3.symm) q1
          · rw [if_neg q3, if_neg q1]; omega
        · rw [if_neg q2, if_neg q2, if_neg q1]; omega
    · have := h3 c c1 c2
      rw [s, s, e]
      by_cases q1 : t (g + k) = j
      · rw [if_pos q1, if_neg (fun q => c2 q.symm), if_neg (fun q => c1 (by omega))]; omega
      · rw [if_neg q1]
        by_cases q2 : t (g + k) = a
        · rw [if_pos q2, if_neg (fun q => c1 q.symm), if_neg (fun q => c2 (by omega))]; omega
        · rw [if_neg q2]; omega
theorem hj_sw {b0 : Int} (hg : g < n) (hjT : j < T) (hT : T ≤ 3) (h : hbs m T n b0 (hcv T g (j + 1) p) b c) (hx : qMX m p g j L) (h0 : hps m p j g = 0) : hbs m T n b0 (hcv T g T p) b c := by
  obtain ⟨k1, k2⟩ := h
  obtain ⟨x1, x2, x4, x5⟩ := hx
  refine hbs_s ⟨k1, k2⟩ (fun t ht hs hn => ?_) (fun hs => ?_)
  · rcases hs with hs | ⟨hs, _⟩
    · exact absurd (Or.inl hs) hn
    · have htg := ht g hg
      have haj : j < t g := by
        apply Classical.byContradiction
        intro q
        exact hn (Or.inr ⟨hs, Or.inr (by omega)⟩)
      have h1 : hps m p (t g) g = 0 := x5 j (t g) haj (by omega) h0
      have e1 : ∀ a, hps m (hsw t g j (t g)) a g = hps m t a g := fun a => hps_c (fun o ho => if_pos ho)
      have e2 : ∀ a, hps m t a g = hps m p a g := fun a => hps_c hs
      obtain ⟨w1, w2, w3⟩ := hsw_p (m := m) (t := t) (g := g) (j := j) (a := t g) (n - g)
      rw [show g + (n - g) = n by omega] at w1 w2 w3
      have hv : hva T n (hsw t g j (t g)) := fun o ho => by
        have := ht o ho
        unfold hsw
        (repeat' split) <;> omega
      have hS : hcv T g (j + 1) p (hsw t g j (t g)) := Or.inr ⟨fun o ho => (if_pos ho).trans (hs o ho), Or.inr (by
        have e : hsw t g j (t g) g = j := by
          unfold hsw
          rw [if_neg (by omega), if_neg (by omega), if_pos rfl]
        rw [e]; omega)⟩
      have k3 := k1 _ hv hS
      have k4 : hco m (hsw t g j (t g)) n ≤ hco m t n := hco_le (fun a ha => by
        have f1 := e1 j
        have f2 := e1 (t g)
        have f3 := e2 j
        have f4 := e2 (t g)
        by_cases q1 : a = j
        · subst q1
          have := hco_ge (m := m) (t := t) (n := n) (a := t g) (by omega)
          omega
        · by_cases q2 : a = t g
          · have := hco_ge (m := m) (t := t) (n := n) (a := j) (by omega)
            rw [q2]
            omega
          · have := hco_ge (m := m) (t := t) (n := n) ha
            have := w3 a q1 q2
            have := e1 a
            omega)
      omega
  · rcases hs with hs | ⟨hs, _⟩
    · exact Or.inl hs
    · exact Or.inr ⟨hs, Or.inl rfl⟩
theorem hj_in (hb : b = 1000000) (hT : 1 ≤ T) : hbs m T n 1000000 (hcv T 0 0 p) b c := ⟨fun t _ hs => by
    rcases hs with ⟨i, i1, _⟩ | ⟨_, hs | hs⟩
    · omega
    · omega
    · omega, Or.inl hb⟩
theorem hj_lf (h : hbs m T n 1000000 (hcv T n 0 p) b c) (hx : qMX m p n j L) (hL : L < b) : hco m p n = L ∧ ∀ t, hva T n t → hlx t p n → L < hco m t n := by
  refine ⟨hco_eq hx.1 hx.2.1, fun t ht hl => ?_⟩
  have := h.1 t ht (Or.inl hl)
  omega
theorem hj_le {q : Nat → Nat} (hp : ∀ o, o < n → q o = p o) (hc : ∀ o, o < n → c o = q o) (hv : hva T n q) (h1 : hco m q n = b) (h2 : ∀ t, hva T n t → hlx t q n → b < hco m t n) : hbs m T n 1000000 (hcv T n T p) b c := by
  refine ⟨fun t ht hs => ?_, Or.inr ⟨fun o ho => by rw [hc o ho]; exact hv o ho, Or.inr ⟨fun o ho => (hc o ho).trans (hp o ho), Or.inl rfl⟩, (hco_c hc).trans h1, fun t ht hl => h2 t ht (hlx_c hl hc)⟩⟩
  rcases hs with hs | ⟨hs, _⟩
  · have := h2 t ht (hlx_c hs (fun o ho => (hp o ho).symm))
    omega
  · rw [hco_c (c := q) (fun o ho => (hs o ho).trans (hp o ho).symm), h1]
    omega
theorem mx_z (h : qMX m p g j L) (h1 : hps m p j g ≠ 0) : qMX m p g (j + 1) L := ⟨h.1, h.2.1, fun a ha => by
    by_cases e : a = j
    · rw [e]; exact h1
    · exact h.2.2.1 a (by omega), h.2.2.2⟩
theorem mx_u {p' : Nat → Nat} {v : Int} (hm : ∀ o, 0 ≤ m o) (hp : ∀ o, o < g → p' o = p o) (hj : p' g = j) (hj3 : j < 3) (h : qMX m p g j L) (hv : hps m p' j (g + 1) = v) : qMX m p' (g + 1) 0 (max L v) := by
  obtain ⟨x1, ⟨a, x2, x3⟩, x4, x5⟩ := h
  have s : ∀ c, hps m p' c (g + 1) = hps m p c g + (if j = c then m g else 0) := fun c => by
    show hps m p' c g + (if p' g = c then m g else 0) = _
    rw [hj, hps_c hp]
  have sj := s j
  rw [if_pos rfl] at sj
  have hg := hm g
  have ne : ∀ c, c ≠ j → hps m p' c (g + 1) = hps m p c g := fun c hc => by rw [s, if_neg (fun q => hc q.symm)]; omega
  refine ⟨fun c hc => ?_, ?_, fun c hc => absurd hc (Nat.not_lt_zero c), fun c d hcd hd h0 => ?_⟩
  · by_cases e : c = j
    · rw [e]; omega
    · rw [ne c e]; have := x1 c hc; omega
  · have := x1 j hj3
    by_cases e : L ≤ v
    · exact ⟨j, hj3, by omega⟩
    · refine ⟨a, x2, ?_⟩
      have e2 : a ≠ j := fun q => by rw [q] at x3; omega
      rw [ne a e2]; omega
  · by_cases e : c = j
    · have hz := hps_0 (t := p) (a := j) hm g
      rw [e] at h0 hcd
      rw [ne d (by omega)]
      exact x5 j d hcd hd (by omega)
    · rw [ne c e] at h0
      by_cases e2 : d = j
      · exact absurd h0 (x4 c (by omega))
      · rw [ne d e2]
        exact x5 c d hcd hd h0
theorem ld_u {p' : Nat → Nat} {R R' : Nat → Int} {z : Int} (hp : ∀ o, o < g → p' o = p o) (hj : p' g = j) (h : ∀ a, a < 3 → R a = hps m p a g) (hR : ∀ a, a < 3 → R' a = if a = j then R j + z else R a) (hz : z = m g) (hj3 : j < 3) : ∀ a, a < 3 → R' a = hps m p' a (g + 1) := fun a ha => by
  show _ = hps m p' a g + (if p' g = a then m g else 0)
  rw [hj, hps_c hp, hR a ha]
  by_cases e : a = j
  · rw [if_pos e, if_pos e.symm, h j hj3, e, hz]
  · rw [if_neg e, if_neg (fun q => e q.symm), h a ha]; omega
theorem ld_d {p' : Nat → Nat} {R R' : Nat → Int} {z : Int} (hp : ∀ o, o < g → p' o = p o) (hj : p' g = j) (h : ∀ a, a < 3 → R a = hps m p' a (g + 1)) (hR : ∀ a, a < 3 → R' a = if a = j then R j - z else R a) (hz : z = m g) (hj3 : j < 3) : ∀ a, a < 3 → R' a = hps m p a g := fun a ha => by
  have s : ∀ c, hps m p' c (g + 1) = hps m p c g + (if j = c then m g else 0) := fun c => by
    show hps m p' c g + (if p' g = c then m g else 0) = _
    rw [hj, hps_c hp]
  rw [hR a ha]
  by_cases e : a = j
  · rw [if_pos e, h j hj3, s, if_pos rfl, e, hz]; omega
  · rw [if_neg e, h a ha, s, if_neg (fun q => e q.symm)]; omega
/-- at the end: the least is there -/
theorem hj_fin {b0 : Int} (hb0 : 35640 < b0) (hT : 1 ≤ T) (hn : n ≤ 9) (hm : ∀ o, o < n → m o ≤ 3960) {S : (Nat → Nat) → Prop} (hS : ∀ t, hva T n t → S t) (h : hbs m T n b0 S b c) : b ≤ 35640 ∧ hva T n c ∧ hco m c n = b ∧ (∀ t, hva T n t → b ≤ hco m t n) ∧ ∀ t, hva T n t → hlx t c n → b < hco m t n := by
  have hz : hva T n (fun _ => 0) := fun o ho => by show 0 < T; omega
  have k1 := h.1 _ hz (hS _ hz)
  have k2 : hco m (fun _ => 0) n ≤ 35640 := hco_le (fun a _ => by
    have := hps_b (m := m) (t := fun _ => 0) (a := a) (K := 3960) (by decide) hm
    omega)
  have hb : b ≤ 35640 := by omega
  rcases h.2 with h2 | ⟨h2, _, h4, h5⟩
  · omega
  · exact ⟨hb, h2, h4, fun t ht => h.1 t ht (hS t ht), h5⟩
/-- two leasts of the same sums are one -/
theorem hfin_b {v : Int} {c' : Nat → Nat} (h1 : hva T n c) (h2 : hco m c n = b) (h3 : ∀ t, hva T n t → b ≤ hco m t n) (k1 : hva T n c') (k2 : hco m c' n = v) (k3 : ∀ t, hva T n t → v ≤ hco m t n) : b = v := by
  have := h3 _ k1
  have := k3 _ h1
  omega
theorem hfin_c {v : Int} {c' : Nat → Nat} (h1 : hva T n c) (h2 : hco m c n = b) (h3 : ∀ t, hva T n t → b ≤ hco m t n) (h4 : ∀ t, hva T n t → hlx t c n → b < hco m t n) (k1 : hva T n c') (k2 : hco m c' n = v) (k3 : ∀ t, hva T n t → v ≤ hco m t n) (k4 : ∀ t, hva T n t → hlx t c' n → v < hco m t n) : ∀ o, o < n → c o = c' o := by
  have e := hfin_b h1 h2 h3 k1 k2 k3
  rcases hlx_tri (t := c) (c := c') n with q | q | q
  · exact q
  · have := k4 c h1 q; omega
  · have := h4 c' k1 q; omega
/-- numbers of ways -/
theorem hnu_lt : ∀ n, hva T n t → hnu T t n < T ^ n
  | 0, _ => by show 0 < T ^ 0; rw [Nat.pow_zero]; decide
  | n + 1, h => by
    have ih := hnu_lt n (fun o ho => h o (by omega))
    have := h n (by omega)
    show hnu T t n * T + t n < T ^ (n + 1)
    rw [Nat.pow_succ]
    calc hnu T t n * T + t n < hnu T t n * T + T := by omega
      _ = (hnu T t n + 1) * T := by rw [Nat.add_mul, Nat.one_mul]
      _ ≤ T ^ n * T := Nat.mul_le_mul_right T ih
theorem hnu_c : ∀ {n : Nat}, (∀ o, o < n → t o = c o) → hnu T t n = hnu T c n
  | 0, _ => rfl
  | n + 1, h => by
    show hnu T t n * T + t n = hnu T c n * T + c n
    rw [hnu_c (fun o ho => h o (by omega)), h n (by omega)]
theorem hnu_lx (hT : 1 ≤ T) : ∀ {n : Nat}, hva T n t → hva T n c → hlx t c n → hnu T t n < hnu T c n
  | 0, _, _, ⟨i, i1, _⟩ => absurd i1 (Nat.not_lt_zero i)
  | n + 1, ht, hc, ⟨i, i1, i2, i3⟩ => by
    show hnu T t n * T + t n < hnu T c n * T + c n
    by_cases e : i = n
    · subst e
      rw [hnu_c (T := T) i2]
      omega
    · have ih := hnu_lx hT (n := n) (fun o ho => ht o (by omega)) (fun o ho => hc o (by omega)) ⟨i, by omega, i2, i3⟩
      have h1 := ht n (by omega)
      have h2 : (hnu T t n + 1) * T ≤ hnu T c n * T := Nat.mul_le_mul_right T ih
      rw [Nat.add_mul, Nat.one_mul] at h2
      omega
theorem hnu_in (hT : 1 ≤ T) (ht : hva T n t) (hc : hva T n c) (h : hnu T t n = hnu T c n) : hqq t c n := by
  rcases hlx_tri (t := t) (c := c) n with q | q | q
  · exact q
  · have := hnu_lx hT ht hc q; omega
  · have := hnu_lx hT hc ht q; omega
theorem hdg_v {w : Nat} (hT : 1 ≤ T) : hva T n (hdg T n w) := fun o _ => Nat.mod_lt _ (by omega)
theorem hdg_k {w : Nat} (hw : w < T ^ n) : ∀ k, k ≤ n → hnu T (hdg T n w) k = w / T ^ (n - k)
  | 0, _ => by show 0 = w / T ^ n; rw [Nat.div_eq_of_lt hw]
  | k + 1, hk => by
    have ih := hdg_k hw k (by omega)
    show hnu T (hdg T n w) k * T + w / T ^ (n - 1 - k) % T = w / T ^ (n - (k + 1))
    rw [ih, show n - (k + 1) = n - 1 - k by omega, show n - k = (n - 1 - k) + 1 by omega, Nat.pow_succ, ← Nat.div_div_eq_div_mul]
    have := Nat.div_add_mod (w / T ^ (n - 1 - k)) T
    rw [Nat.mul_comm] at this
    exact this
theorem hdg_n {w : Nat} (hw : w < T ^ n) : hnu T (hdg T n w) n = w := by
  rw [hdg_k hw n (Nat.le_refl n), Nat.sub_self, Nat.pow_zero, Nat.div_one]
theorem hdg_q {w o : Nat} (ho : o < n) : w / T ^ (n - o) = w / T ^ (n - (o + 1)) / T ∧ hdg T n w o = w / T ^ (n - (o + 1)) % T := by
  refine ⟨?_, ?_⟩
  · rw [show n - o = (n - (o + 1)) + 1 by omega, Nat.pow_succ, Nat.div_div_eq_div_mul]
  · unfold hdg
    rw [show n - 1 - o = n - (o + 1) by omega]
theorem sw_k {w : Nat} {v : Int} (hT : 1 ≤ T) (hw : w < T ^ n) (h : hbs m T n 100000 (fun t => hnu T t n < w) b c) (hv : hco m (hdg T n w) n = v) (hb : b ≤ v) : hbs m T n 100000 (fun t => hnu T t n < w + 1) b c :=
  hbs_s h (fun t ht hs hn => by
    have hs : hnu T t n < w + 1 := hs
    have hn : ¬ hnu T t n < w := hn
    have e : hnu T t n = hnu T (hdg T n w) n := by rw [hdg_n hw]; omega
    rw [hco_c (hnu_in hT ht (hdg_v hT) e), hv]
    exact hb) (fun hs => by have hs : hnu T c n < w := hs; show hnu T c n < w + 1; omega)
theorem sw_x {w : Nat} {v : Int} (h : hbs m T n 100000 (fun t => hnu T t n < w) b c) (hb : v < b) : ∀ t, hva T n t → hnu T t n < w → v < hco m t n := fun t ht hs => by
  have := h.1 t ht hs
  omega
theorem sw_e {w : Nat} {v : Int} (hT : 1 ≤ T) (hw : w < T ^ n) (hv : hco m (hdg T n w) n = v) (h : ∀ t, hva T n t → hnu T t n < w → v < hco m t n) (hc : ∀ o, o < n → c o = hdg T n w o) : hbs m T n 100000 (fun t => hnu T t n < w + 1) v c := by
  have hcv : hva T n c := fun o ho => by rw [hc o ho]; exact hdg_v hT o ho
  have hcn : hnu T c n = w := by rw [hnu_c hc, hdg_n hw]
  refine ⟨fun t ht hs => ?_, Or.inr ⟨hcv, ?_, (hco_c hc).trans hv, fun t ht hl => h t ht ?_⟩⟩
  · have hs : hnu T t n < w + 1 := hs
    by_cases e : hnu T t n < w
    · have := h t ht e; omega
    · have e : hnu T t n = hnu T (hdg T n w) n := by rw [hdg_n hw]; omega
      rw [hco_c (hnu_in hT ht (hdg_v hT) e), hv]
      omega
  · show hnu T c n < w + 1
    omega
  · have := hnu_lx hT ht hcv hl
    omega
end HA
/-! no least sum of minutes is above 1980 -/
def hcn (P : Nat → Bool) : Nat → Nat
  | 0 => 0
  | X + 1 => hcn P X + (if P X = true then 1 else 0)
theorem hcn_or {P Q R : Nat → Bool} (h : ∀ θ, P θ = true → Q θ = true ∨ R θ = true) : ∀ X, hcn P X ≤ hcn Q X + hcn R X
  | 0 => Nat.le_refl 0
  | X + 1 => by
    have ih := hcn_or h X
    show hcn P X + (if P X = true then 1 else 0) ≤ hcn Q X + (if Q X = true then 1 else 0) + (hcn R X + (if R X = true then 1 else 0))
    by_cases e : P X = true
    · rw [if_pos e]
      rcases h X e with q | q
      · rw [if_pos q]; omega
      · rw [if_pos q]; omega
    · rw [if_neg e]; omega
theorem hcn_all {P : Nat → Bool} : ∀ X, (∀ θ, θ < X → P θ = true) → hcn P X = X
  | 0, _ => rfl
  | X + 1, h => by
    have ih := hcn_all X (fun θ hθ => h θ (by omega))
    show hcn P X + (if P X = true then 1 else 0) = X + 1
    rw [ih, if_pos (h X (by omega))]
theorem hcn_int {lo : Int} : ∀ X : Nat, (hcn (fun θ => decide (lo ≤ (θ : Int) ∧ (θ : Int) < lo + 99)) X : Int) ≤ 99 ∧ ((hcn (fun θ => decide (lo ≤ (θ : Int) ∧ (θ : Int) < lo + 99)) X : Int) ≤ (X : Int) - lo ∨ hcn (fun θ => decide (lo ≤ (θ : Int) ∧ (θ : Int) < lo + 99)) X = 0)
  | 0 => ⟨by show ((0 : Nat) : Int) ≤ 99; decide, Or.inr rfl⟩
  | X + 1 => by
    obtain ⟨h1, h2⟩ := hcn_int (lo := lo) X
    have e : hcn (fun θ => decide (lo ≤ (θ : Int) ∧ (θ : Int) < lo + 99)) (X + 1) = hcn (fun θ => decide (lo ≤ (θ : Int) ∧ (θ : Int) < lo + 99)) X + (if decide (lo ≤ (X : Int) ∧ (X : Int) < lo + 99) = true then 1 else 0) := rfl
    rw [e]
    by_cases q : lo ≤ (X : Int) ∧ (X : Int) < lo + 99
    · rw [if_pos (decide_eq_true q)]
      omega
    · rw [if_neg (fun z => q (of_decide_eq_true z))]
      omega
def hcvb (lo : Nat → Int) : Nat → Nat → Bool
  | 0, _ => false
  | n + 1, θ => hcvb lo n θ || decide (lo n ≤ (θ : Int) ∧ (θ : Int) < lo n + 99)
theorem hcvb_t {lo : Nat → Int} : ∀ {n θ r : Nat}, r < n → lo r ≤ (θ : Int) ∧ (θ : Int) < lo r + 99 → hcvb lo n θ = true
  | 0, _, r, hr, _ => absurd hr (Nat.not_lt_zero r)
  | n + 1, θ, r, hr, h => by
    show (hcvb lo n θ || decide (lo n ≤ (θ : Int) ∧ (θ : Int) < lo n + 99)) = true
    by_cases e : r = n
    · subst e
      rw [decide_eq_true h, Bool.or_true]
    · rw [hcvb_t (by omega) h, Bool.true_or]
theorem hcvb_n {lo : Nat → Int} : ∀ n X, (hcn (hcvb lo n) X : Int) ≤ 99 * (n : Int)
  | 0, X => by
    have : ∀ X, hcn (hcvb lo 0) X = 0 := fun X => by
      induction X with
      | zero => rfl
      | succ X ih => show hcn (hcvb lo 0) X + (if false = true then 1 else 0) = 0; rw [ih, if_neg (by decide)]
    rw [this X]
    decide
  | n + 1, X => by
    have ih := hcvb_n (lo := lo) n X
    have h1 := hcn_or (P := hcvb lo (n + 1)) (Q := hcvb lo n) (R := fun θ => decide (lo n ≤ (θ : Int) ∧ (θ : Int) < lo n + 99)) (fun θ h => (Bool.or_eq_true _ _).mp h) X
    have h2 := (hcn_int (lo := lo n) X).1
    omega
theorem dok_bd {A B : Nat → Nat} {C : Nat → Int} {n f : Nat} {D : Nat → Int} (hR : ∀ r, A r < 64 ∧ B r < 64) (hn : n ≤ 20) (hC : ∀ r, r < n → 0 ≤ C r ∧ C r ≤ 99) (ho : dok A B C n D f) : ∀ v, v < 64 → D v < 100000 → D v ≤ 1980 := fun v hv hD => by
  have h0 := ho.1 v hv
  have hcv : ∀ θ, θ < (D v).toNat → hcvb (fun r => min (D (A r)) (D (B r))) n θ = true := fun θ hθ => by
    apply Classical.byContradiction
    intro hx
    have hno : ∀ r, r < n → ¬ (min (D (A r)) (D (B r)) ≤ (θ : Int) ∧ (θ : Int) < min (D (A r)) (D (B r)) + 99) := fun r hr q => hx (hcvb_t (lo := fun r => min (D (A r)) (D (B r))) hr q)
    have hp : dfe A B C n (fun w => if (θ : Int) < D w ∧ D w < 100000 then D w + 1 else D w) := by
      refine ⟨fun w hw => ?_, fun r hr => ?_⟩
      · have := ho.1 w hw
        show 0 ≤ (if (θ : Int) < D w ∧ D w < 100000 then D w + 1 else D w) ∧ (if (θ : Int) < D w ∧ D w < 100000 then D w + 1 else D w) ≤ 100000
        split <;> omega
      · have b := ho.2.2.1 r hr
        have c0 := hC r hr
        have r1 := ho.1 _ (hR r).1
        have r2 := ho.1 _ (hR r).2
        have q := hno r hr
        show (if (θ : Int) < D (A r) ∧ D (A r) < 100000 then D (A r) + 1 else D (A r)) - (if (θ : Int) < D (B r) ∧ D (B r) < 100000 then D (B r) + 1 else D (B r)) ≤ C r ∧ (if (θ : Int) < D (B r) ∧ D (B r) < 100000 then D (B r) + 1 else D (B r)) - (if (θ : Int) < D (A r) ∧ D (A r) < 100000 then D (A r) + 1 else D (A r)) ≤ C r
        by_cases u1 : (θ : Int) < D (A r) ∧ D (A r) < 100000
        · rw [if_pos u1]
          by_cases u2 : (θ : Int) < D (B r) ∧ D (B r) < 100000
          · rw [if_pos u2]; omega
          · rw [if_neg u2]; omega
        · rw [if_neg u1]
          by_cases u2 : (θ : Int) < D (B r) ∧ D (B r) < 100000
          · rw [if_pos u2]; omega
          · rw [if_neg u2]; omega
    have k1 := ho.2.2.2 _ hp v hv
    have k2 : (if (θ : Int) < D v ∧ D v < 100000 then D v + 1 else D v) - (if (θ : Int) < D f ∧ D f < 100000 then D f + 1 else D f) ≤ D v := k1
    have f0 := ho.2.1
    rw [if_pos ⟨by omega, hD⟩, if_neg (by omega)] at k2
    omega
  have k1 := hcn_all _ hcv
  have k2 := hcvb_n (lo := fun r => min (D (A r)) (D (B r))) n (D v).toNat
  rw [k1] at k2
  omega
/-! by the rows -/
theorem hps_d {m : Nat → Int} {t : Nat → Nat} {a g : Nat} {K : Int} (hm : ∀ o, 0 ≤ m o ∧ m o ≤ K) : ∀ k, 0 ≤ hps m t a (g + k) - hps m t a g ∧ hps m t a (g + k) - hps m t a g ≤ K * k
  | 0 => by
    show 0 ≤ hps m t a g - hps m t a g ∧ hps m t a g - hps m t a g ≤ K * ((0 : Nat) : Int)
    have e : K * ((0 : Nat) : Int) = 0 := Int.mul_zero K
    rw [e]; omega
  | k + 1 => by
    have ih := hps_d (t := t) (a := a) (g := g) hm k
    have := hm (g + k)
    show 0 ≤ hps m t a (g + k) + (if t (g + k) = a then m (g + k) else 0) - hps m t a g ∧ hps m t a (g + k) + (if t (g + k) = a then m (g + k) else 0) - hps m t a g ≤ K * ((k + 1 : Nat) : Int)
    have e : K * ((k + 1 : Nat) : Int) = K * (k : Int) + K := by rw [Int.natCast_add, Int.mul_add]; omega
    rw [e]
    split <;> omega
section HV
variable {M : pM} {o k g f n : Nat} {d x : Int}
theorem gI_57 (hG : gI M) {i : Nat} (hi : i < 64) : 0 ≤ M 57 i ∧ M 57 i ≤ 1000000 := by
  have e : gl 57 = [(0, 1000000)] := by decide +kernel
  have z : szS (SH 57) = 64 := by decide +kernel
  exact hG.1 57 i (0, 1000000) (fun _ => by rw [z]; exact hi) (by rw [e]; show [((0 : Int), (1000000 : Int))][i % 1]? = _; rw [Nat.mod_one]; rfl) (by decide)
theorem gI_114 (hG : gI M) {i : Nat} (hi : i < 4096) : 0 ≤ M 114 i ∧ M 114 i ≤ 100000 := by
  have e : gl 114 = [(0, 100000)] := by decide +kernel
  have z : szS (SH 114) = 4096 := by decide +kernel
  exact hG.1 114 i (0, 100000) (fun _ => by rw [z]; exact hi) (by rw [e]; show [((0 : Int), (100000 : Int))][i % 1]? = _; rw [Nat.mod_one]; rfl) (by decide)
theorem gI_56 (hG : gI M) {i : Nat} (hi : i < 9) : 0 ≤ M 56 i ∧ M 56 i ≤ 63 := by
  have e : gl 56 = [(0, 63)] := by decide +kernel
  have z : szS (SH 56) = 9 := by decide +kernel
  exact hG.1 56 i (0, 63) (fun _ => by rw [z]; exact hi) (by rw [e]; show [((0 : Int), (63 : Int))][i % 1]? = _; rw [Nat.mod_one]; rfl) (by decide)
theorem gI_60 (hG : gI M) {i : Nat} (hi : i < 9) : 0 ≤ M 60 i ∧ M 60 i ≤ 2 := by
  have e : gl 60 = [(0, 2)] := by decide +kernel
  have z : szS (SH 60) = 9 := by decide +kernel
  exact hG.1 60 i (0, 2) (fun _ => by rw [z]; exact hi) (by rw [e]; show [((0 : Int), (2 : Int))][i % 1]? = _; rw [Nat.mod_one]; rfl) (by decide)
theorem gI_116 (hG : gI M) {i : Nat} (hi : i < 9) : 0 ≤ M 116 i ∧ M 116 i ≤ 2 := by
  have e : gl 116 = [(0, 2)] := by decide +kernel
  have z : szS (SH 116) = 9 := by decide +kernel
  exact hG.1 116 i (0, 2) (fun _ => by rw [z]; exact hi) (by rw [e]; show [((0 : Int), (2 : Int))][i % 1]? = _; rw [Nat.mod_one]; rfl) (by decide)
theorem dRm_b {b : Nat} (hG : gI M) (hb : b ≤ 1) (r : Nat) : 0 ≤ dRm b M r ∧ dRm b M r ≤ 99 := by
  unfold dRm
  split
  · have e : gl 80 = [(0, 99)] := by decide +kernel
    have z : szS (SH 80) = 40 := by decide +kernel
    exact hG.1 80 (20 * b + r) (0, 99) (fun _ => by rw [z]; omega) (by rw [e]; show [((0 : Int), (99 : Int))][(20 * b + r) % 1]? = _; rw [Nat.mod_one]; rfl) (by decide)
  · omega
theorem hmC_0 (hG : gI M) : ∀ o, 0 ≤ hmC M o := fun o => by
  unfold hmC
  split
  · next h => have := gI_57 hG h.2; omega
  · omega
theorem hmR_0 (hG : gI M) (hf : f < 64) : ∀ o, 0 ≤ hmR f M o ∧ hmR f M o ≤ 200000 := fun o => by
  unfold hmR
  split
  · next h => have := gI_114 hG (i := 64 * f + (M 115 o).toNat) (by omega); omega
  · omega
theorem hmC_v {c : Nat} (ho : o < 9) (hc : c < 64) (h1 : M 56 o = (c : Int)) (h2 : M 57 c = d) : hmC M o = 2 * d := by
  have e : (M 56 o).toNat = c := by omega
  unfold hmC
  rw [e, if_pos ⟨ho, hc⟩, h2]
theorem hmR_v {c : Nat} (ho : o < 9) (hc : c < 64) (h1 : M 115 o = (c : Int)) (h2 : M 114 (64 * f + c) = x) : hmR f M o = 2 * x := by
  have e : (M 115 o).toNat = c := by omega
  unfold hmR
  rw [e, if_pos ⟨ho, hc⟩, h2]
theorem hnC_v (hn : n ≤ 9) (h : M 55 1 = (n : Int)) : hnC M = n := by unfold hnC; rw [h]; omega
theorem hnR_v (hn : n ≤ 9) (h : M 61 99 = (n : Int)) : hnR M = n := by unfold hnR; rw [h]; omega
theorem hnR_le : hnR M ≤ 9 := Nat.min_le_right _ _
theorem hrow_lt {c : Nat} (ho : o < g) (hg : g ≤ k) : hrow c k M o = hrow c g M o := by
  unfold hrow
  rw [if_pos ho, if_pos (by omega)]
theorem hrow_v {c j : Nat} (ho : o < g) (h : M c o = (j : Int)) : hrow c g M o = j := by
  unfold hrow
  rw [if_pos ho, h]
  omega
theorem hrow_e {c c' : Nat} (ho : o < g) (h : M c o = M c' o) : hrow c g M o = hrow c' g M o := by
  unfold hrow
  rw [if_pos ho, if_pos ho, h]
theorem hmC_st {X I : Nat} {z : Int} (h : X ≠ 56) (h2 : X ≠ 57) : hmC (st M X I z) = hmC M := hmC_c (fun i _ => if_neg (fun q => h q.1.symm)) (fun i _ => if_neg (fun q => h2 q.1.symm))
theorem hmR_st {X I : Nat} {z : Int} (hf : f < 64) (h : X ≠ 115) (h2 : X ≠ 114) : hmR f (st M X I z) = hmR f M := hmR_c hf (fun i _ => if_neg (fun q => h q.1.symm)) (fun i _ => if_neg (fun q => h2 q.1.symm))
theorem hrow_st {c X I : Nat} {z : Int} (h : X ≠ c) : hrow c g (st M X I z) = hrow c g M := hrow_c (fun i _ => if_neg (fun q => h q.1.symm))
theorem hnR_st {X I : Nat} {z : Int} (h : X ≠ 61) : hnR (st M X I z) = hnR M := hnR_c (if_neg (fun q => h q.1.symm))
theorem hst_v {X I a : Nat} {z : Int} : st M X I z X a = if a = I then z else M X a := by
  unfold st
  by_cases e : a = I
  · rw [if_pos e, if_pos ⟨rfl, e⟩]
  · rw [if_neg e, if_neg (fun q => e q.2)]
/-- the class's minutes and the reference's are the same -/
theorem hm_eq (hG : gI M) (ho : o < 9) (hf : f < 64) (hB : qBD (dDf f M) (dDd M)) (hO : M 56 o = M 115 o) : (hmC M o = hmR f M o ∧ hmC M o < 200000) ∨ (hmC M o = 2000000 ∧ hmR f M o = 200000) := by
  have h1 := gI_56 hG ho
  obtain ⟨c, hc⟩ : ∃ c : Nat, M 56 o = (c : Int) := ⟨(M 56 o).toNat, by omega⟩
  have hc64 : c < 64 := by omega
  have e1 := hmC_v ho hc64 hc rfl
  have e2 := hmR_v (f := f) ho hc64 (hO.symm.trans hc) rfl
  have hv := hB c hc64
  rw [dDd_v hc64, dDf_v hc64] at hv
  omega
end HV
