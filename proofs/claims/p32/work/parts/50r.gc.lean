/-! what the readers lay down -/
def qU (R : Nat → Nat → Int) (k j : Nat) (v : Int) : Nat → Nat → Int := fun c i => if c = k then (if i = j then v else R c i) else R c i
theorem qRc_st {b k j : Nat} {v : Int} {M : pM} : qRc b (st M (4 + 9 * b + k) j v) = qU (qRc b M) k j v := by
  funext c i
  show (if 4 + 9 * b + c = 4 + 9 * b + k ∧ i = j then v else M (4 + 9 * b + c) i) = if c = k then (if i = j then v else M (4 + 9 * b + c) i) else M (4 + 9 * b + c) i
  by_cases h : c = k
  · subst h
    rw [if_pos rfl]
    by_cases e : i = j
    · rw [if_pos ⟨rfl, e⟩, if_pos e]
    · rw [if_neg (fun h => e h.2), if_neg e]
  · rw [if_neg (fun h' => h (by omega)), if_neg h]
theorem qU_at {R : Nat → Nat → Int} {k j : Nat} {v : Int} : qU R k j v k j = v := by unfold qU; rw [if_pos rfl, if_pos rfl]
theorem qU_ne {R : Nat → Nat → Int} {k j i : Nat} {v : Int} (h : i ≠ j) : qU R k j v k i = R k i := by unfold qU; rw [if_pos rfl, if_neg h]
theorem agC_g {g0 g0' g1 g1' : Nat → Int} {R : Nat → Nat → Int} {N A : pM} (h0 : ∀ i, i < 64 → g0' i = g0 i) (h1 : ∀ i, i < 48 → g1' i = g1 i) (h : agC g0 g1 R N A) : agC g0' g1' R N A :=
  ⟨fun i hi => by rw [h0 i hi]; exact h.1 i hi, fun i hi => by rw [h1 i hi]; exact h.2.1 i hi, h.2.2⟩
theorem agC_0 {g0 g0' g1 : Nat → Int} {R : Nat → Nat → Int} {N A : pM} {j : Nat} {v : Int} (h : agC g0 g1 R N A) (hg : ∀ i, i < 64 → g0' i = if i = j then v else g0 i) : agC g0' g1 (qU R 0 j v) N A := by
  refine ⟨fun i hi => ?_, h.2⟩
  rw [hg i hi]
  by_cases e : i = j
  · rw [if_pos e, e, qU_at]
  · rw [if_neg e, qU_ne e]; exact h.1 i hi
theorem agC_1 {g0 g1 g1' : Nat → Int} {R : Nat → Nat → Int} {N A : pM} {j : Nat} {v : Int} (h : agC g0 g1 R N A) (hg : ∀ i, i < 48 → g1' i = if i = j then v else g1 i) : agC g0 g1' (qU R 1 j v) N A := by
  refine ⟨h.1, fun i hi => ?_, h.2.2⟩
  rw [hg i hi]
  by_cases e : i = j
  · rw [if_pos e, e, qU_at]
  · rw [if_neg e, qU_ne e]; exact h.2.1 i hi
theorem k_cg0 {N : pM} {R : Nat → Nat → Int} {x W y' : Int} {u : Nat} (h : CAp N R x W) (hy' : y' = W + 131072 * (u : Int)) : CGp N R x y' := by
  obtain ⟨s, q, w, a⟩ := h
  exact ⟨s, 0, u, W, q, by decide, by omega, w, agC_g (fun i _ => if_neg (by omega)) (fun _ _ => rfl) a⟩
theorem k_cgw {N : pM} {R : Nat → Nat → Int} {x y y' w r g v : Int} {k u : Nat} (h : CGp N R x y) (hy : y = w + 32 * r + 1024 * g + 8192 * k + 131072 * u) (hw : (0 ≤ w ∧ w ≤ 12) ∧ (0 ≤ r ∧ r ≤ 20) ∧ 0 ≤ g ∧ g ≤ 4) (hk : k < 8) (hu : u < 8) (hv : ∀ s, qat N x s → v = qlt N s.1 2 k - 97) (hy' : y' = y + 8192) : CGp N (qU R 0 (8 * u + k) v) x y' := by
  obtain ⟨s, k', u', W, q, e1, e2, e3, a⟩ := h
  have e3' := e3
  obtain ⟨b1, b2, b3, b4⟩ := e3'
  have ek : k' = k := by omega
  subst ek
  have eu : u' = u := by omega
  subst eu
  refine ⟨s, k' + 1, u', W, q, by omega, by omega, e3, agC_0 a (fun i hi => ?_)⟩
  have hv := hv s q
  by_cases e : i = 8 * u' + k'
  · rw [if_pos e, if_pos (by omega), hv, show i % 8 = k' by omega]
  · rw [if_neg e]
    by_cases f : i / 8 = u' ∧ i % 8 < k'
    · rw [if_pos f, if_pos (by omega)]
    · rw [if_neg f, if_neg (by omega)]
theorem k_cge {N : pM} {R : Nat → Nat → Int} {x y y' w r g a P l : Int} {u : Nat} (h : CGp N R x y) (hy : y = w + 32 * r + 1024 * g + 8192 * 8 + 131072 * u) (hw : (0 ≤ w ∧ w ≤ 12) ∧ (0 ≤ r ∧ r ≤ 20) ∧ 0 ≤ g ∧ g ≤ 4) (hE : ∃ s, qat N x s ∧ EXq N s 0 2 a) (hx : x = 4096 * P + l ∧ 0 ≤ l ∧ l ≤ 950) (hv : (u : Int) = qvl N P.toNat 1) (hy' : y' = w + 32 * r + 1024 * g) : CWp N R x y' := by
  obtain ⟨s, k', u', W, q, e1, e2, e3, a⟩ := h
  obtain ⟨t, q', hE⟩ := hE
  have := qat_u q q'
  subst this
  have e3' := e3
  obtain ⟨b1, b2, b3, b4⟩ := e3'
  have ek : k' = 8 := by omega
  subst ek
  have eu : u' = u := by omega
  subst eu
  have hp : P.toNat = t.1 := by have := qat_p q hx; omega
  rw [hp] at hv
  refine ⟨t, 0, q, ⟨hE.2.2.1, hE.2.2.2.1⟩, ?_, agC_g (fun i hi => ?_) (fun _ _ => rfl) a⟩
  · rw [show y' = W by omega]; exact e3
  · show (if ((i / 8 : Nat) : Int) = qvl N t.1 1 then qlt N t.1 2 (i % 8) - 97 else t.2 1 i) = _
    by_cases f : i / 8 = u'
    · rw [if_pos (by omega), if_pos ⟨f, by omega⟩]
    · rw [if_neg (by omega), if_neg (fun h => f h.1)]
theorem k_cl0 {N : pM} {R : Nat → Nat → Int} {x W y' : Int} {u : Nat} (h : CAp N R x W) (hy' : y' = W + 131072 * (u : Int)) : CLp N R x y' := by
  obtain ⟨s, q, w, a⟩ := h
  exact ⟨s, 0, u, W, q, by decide, by omega, w, agC_g (fun _ _ => rfl) (fun i _ => if_neg (by omega)) a⟩
theorem k_clw {N : pM} {R : Nat → Nat → Int} {x y y' w r g v P l : Int} {k u : Nat} (h : CLp N R x y) (hy : y = w + 32 * r + 1024 * g + 8192 * k + 131072 * u) (hw : (0 ≤ w ∧ w ≤ 12) ∧ (0 ≤ r ∧ r ≤ 20) ∧ 0 ≤ g ∧ g ≤ 4) (hk : k < 6) (hu : u < 8) (hx : x = 4096 * P + l ∧ 0 ≤ l ∧ l ≤ 950) (hv : v = qvl N P.toNat (2 + k)) (hy' : y' = y + 8192) : CLp N (qU R 1 (6 * u + k) v) x y' := by
  obtain ⟨s, k', u', W, q, e1, e2, e3, a⟩ := h
  have e3' := e3
  obtain ⟨b1, b2, b3, b4⟩ := e3'
  have ek : k' = k := by omega
  subst ek
  have eu : u' = u := by omega
  subst eu
  have hp : P.toNat = s.1 := by have := qat_p q hx; omega
  rw [hp] at hv
  refine ⟨s, k' + 1, u', W, q, by omega, by omega, e3, agC_1 a (fun i hi => ?_)⟩
  by_cases e : i = 6 * u' + k'
  · rw [if_pos e, if_pos (by omega), hv, show i % 6 = k' by omega]
  · rw [if_neg e]
    by_cases f : i / 6 = u' ∧ i % 6 < k'
    · rw [if_pos f, if_pos (by omega)]
    · rw [if_neg f, if_neg (by omega)]
theorem k_cle {N : pM} {R : Nat → Nat → Int} {x y y' w r g a P l : Int} {u : Nat} (h : CLp N R x y) (hy : y = w + 32 * r + 1024 * g + 8192 * 6 + 131072 * u) (hw : (0 ≤ w ∧ w ≤ 12) ∧ (0 ≤ r ∧ r ≤ 20) ∧ 0 ≤ g ∧ g ≤ 4) (hE : ∃ s, qat N x s ∧ EXq N s 1 7 a) (hx : x = 4096 * P + l ∧ 0 ≤ l ∧ l ≤ 950) (hv : qlt N P.toNat 1 0 = 97 + u) (hy' : y' = w + 32 * r + 1024 * g) : CWp N R x y' := by
  obtain ⟨s, k', u', W, q, e1, e2, e3, a⟩ := h
  obtain ⟨t, q', hE⟩ := hE
  have := qat_u q q'
  subst this
  have e3' := e3
  obtain ⟨b1, b2, b3, b4⟩ := e3'
  have ek : k' = 6 := by omega
  subst ek
  have eu : u' = u := by omega
  subst eu
  have hp : P.toNat = t.1 := by have := qat_p q hx; omega
  rw [hp] at hv
  refine ⟨t, 1, q, ⟨hE.2.2.1, hE.2.2.2.1⟩, ?_, agC_g (fun _ _ => rfl) (fun i hi => ?_) a⟩
  · rw [show y' = W by omega]; exact e3
  · show (if ((i / 6 : Nat) : Int) = qlt N t.1 1 0 - 97 then qvl N t.1 (2 + i % 6) else t.2 2 i) = _
    by_cases f : i / 6 = u'
    · rw [if_pos (by omega), if_pos ⟨f, by omega⟩]
    · rw [if_neg (by omega), if_neg (fun h => f h.1)]
theorem k_cww {N : pM} {R : Nat → Nat → Int} {x y a P l h k f v : Int} (hc : CAp N R x y) (hE : ∃ s, qat N x s ∧ EXq N s 2 3 a) (hx : x = 4096 * P + l ∧ 0 ≤ l ∧ l ≤ 950) (h1 : h = qvl N P.toNat 1) (h2 : k = qwl N P.toNat) (h3 : f = qvl N P.toNat 3) (hh : 0 ≤ h ∧ h ≤ 5) (hk : 0 ≤ k ∧ k ≤ 3) (hf : 0 ≤ f ∧ f ≤ 3) (hv : v = k + 4 * f) : CWp N (qU R 2 h.toNat v) x y := by
  obtain ⟨s, q, w, a⟩ := hc
  obtain ⟨t, q', hE⟩ := hE
  have := qat_u q q'
  subst this
  have hp : P.toNat = t.1 := by have := qat_p q hx; omega
  rw [hp] at h1 h2 h3
  have e3 : ∀ i : Nat, qef N t.1 t.2 2 3 i = if (i : Int) = h then k else t.2 3 i := fun i => by rw [h1, h2]; rfl
  have e4 : ∀ i : Nat, qef N t.1 t.2 2 4 i = if (i : Int) = h then f else t.2 4 i := fun i => by rw [h1, h3]; rfl
  refine ⟨t, 2, q, ⟨hE.2.2.1, hE.2.2.2.1⟩, w, a.1, a.2.1, fun i hi => ?_, fun i hi => ?_, a.2.2.2.2⟩
  · rw [e3, e4]
    by_cases e : i = h.toNat
    · rw [e, qU_at, show (if ((h.toNat : Nat) : Int) = h then k else t.2 3 h.toNat) = k from if_pos (by omega), show (if ((h.toNat : Nat) : Int) = h then f else t.2 4 h.toNat) = f from if_pos (by omega), if_neg (by omega)]; omega
    · rw [qU_ne e, show (if (i : Int) = h then k else t.2 3 i) = t.2 3 i from if_neg (by omega), show (if (i : Int) = h then f else t.2 4 i) = t.2 4 i from if_neg (by omega)]; exact a.2.2.1 i hi
  · rw [e3, e4]
    have := a.2.2.2.1 i hi
    split <;> omega
theorem k_ctw {N : pM} {R : Nat → Nat → Int} {x y a P l h v : Int} (hc : CAp N R x y) (hE : ∃ s, qat N x s ∧ EXq N s 3 2 a) (hx : x = 4096 * P + l ∧ 0 ≤ l ∧ l ≤ 950) (h1 : h = qvl N P.toNat 1) (h2 : v = qvl N P.toNat 2) (hh : 0 ≤ h ∧ h ≤ 5) : CWp N (qU R 3 h.toNat v) x y := by
  obtain ⟨s, q, w, a⟩ := hc
  obtain ⟨t, q', hE⟩ := hE
  have := qat_u q q'
  subst this
  have hp : P.toNat = t.1 := by have := qat_p q hx; omega
  rw [hp] at h1 h2
  have e5 : ∀ i : Nat, qef N t.1 t.2 3 5 i = if (i : Int) = h then v else t.2 5 i := fun i => by rw [h1, h2]; rfl
  refine ⟨t, 3, q, ⟨hE.2.2.1, hE.2.2.2.1⟩, w, a.1, a.2.1, a.2.2.1, a.2.2.2.1, fun i hi => ?_, a.2.2.2.2.2⟩
  rw [e5]
  by_cases e : i = h.toNat
  · rw [e, qU_at, if_pos (by omega)]
  · rw [qU_ne e, if_neg (by omega)]; exact a.2.2.2.2.1 i hi
theorem k_cap {N : pM} {R : Nat → Nat → Int} {x y w r g v : Int} {i : Nat} (hc : CAp N R x y) (hy : y = w + 32 * r + 1024 * g) (hw : (0 ≤ w ∧ w ≤ 12) ∧ (0 ≤ r ∧ r ≤ 20) ∧ 0 ≤ g ∧ g ≤ 4) (hi : 4 * w ≤ i) : CAp N (qU R 4 i v) x y := by
  obtain ⟨s, q, e, a⟩ := hc
  obtain ⟨c1, c2, c3⟩ := qW_o e hy hw.1 hw.2.1 hw.2.2
  refine ⟨s, q, e, a.1, a.2.1, a.2.2.1, a.2.2.2.1, a.2.2.2.2.1, fun j hj hjw => ?_, a.2.2.2.2.2.2⟩
  rw [qU_ne (by omega), qU_ne (by omega), qU_ne (by omega), qU_ne (by omega)]
  exact a.2.2.2.2.2.1 j hj hjw
theorem k_crp {N : pM} {R : Nat → Nat → Int} {x y w r g v : Int} {i : Nat} (hc : CAp N R x y) (hy : y = w + 32 * r + 1024 * g) (hw : (0 ≤ w ∧ w ≤ 12) ∧ (0 ≤ r ∧ r ≤ 20) ∧ 0 ≤ g ∧ g ≤ 4) (hi : 3 * r ≤ i) : CAp N (qU R 5 i v) x y := by
  obtain ⟨s, q, e, a⟩ := hc
  obtain ⟨c1, c2, c3⟩ := qW_o e hy hw.1 hw.2.1 hw.2.2
  refine ⟨s, q, e, a.1, a.2.1, a.2.2.1, a.2.2.2.1, a.2.2.2.2.1, a.2.2.2.2.2.1, fun j hj hjw => ?_, a.2.2.2.2.2.2.2⟩
  rw [qU_ne (by omega), qU_ne (by omega), qU_ne (by omega)]
  exact a.2.2.2.2.2.2.1 j hj hjw
theorem k_cae {N : pM} {R : Nat → Nat → Int} {x y y' w r g a P l v1 v2 v4 v6 v8 : Int} (hc : CAp N R x y) (hy : y = w + 32 * r + 1024 * g) (hw : (0 ≤ w ∧ w ≤ 12) ∧ (0 ≤ r ∧ r ≤ 20) ∧ 0 ≤ g ∧ g ≤ 4) (hE : ∃ s, qat N x s ∧ EXq N s 4 8 a) (hx : x = 4096 * P + l ∧ 0 ≤ l ∧ l ≤ 950) (h1 : v1 = qvl N P.toNat 1) (h2 : v2 = qvl N P.toNat 2) (h4 : v4 = qvl N P.toNat 4) (h6 : v6 = qvl N P.toNat 6) (h8 : v8 = qvl N P.toNat 8) (r0 : R 4 (4 * w).toNat = v1 + 8 * v2) (r1 : R 4 (4 * w + 1).toNat = v4) (r2 : R 4 (4 * w + 2).toNat = v6) (r3 : R 4 (4 * w + 3).toNat = v8) (hl : w ≤ 11) (hy' : y' = y + 1) : CWp N R x y' := by
  obtain ⟨s, q, e, a⟩ := hc
  obtain ⟨t, q', hE⟩ := hE
  have := qat_u q q'
  subst this
  obtain ⟨c1, c2, c3⟩ := qW_o e hy hw.1 hw.2.1 hw.2.2
  have hp : P.toNat = t.1 := by have := qat_p q hx; omega
  rw [hp] at h1 h2 h4 h6 h8
  have d0 : qef N t.1 t.2 4 0 0 = w + 1 := by rw [← c1]; rfl
  have d6 : ∀ i : Nat, qef N t.1 t.2 4 6 i = if (i : Int) = w then v1 + 8 * v2 else t.2 6 i := fun i => by rw [← c1, h1, h2]; rfl
  have d7 : ∀ i : Nat, qef N t.1 t.2 4 7 i = if (i : Int) = w then v4 else t.2 7 i := fun i => by rw [← c1, h4]; rfl
  have d8 : ∀ i : Nat, qef N t.1 t.2 4 8 i = if (i : Int) = w then v6 else t.2 8 i := fun i => by rw [← c1, h6]; rfl
  have d9 : ∀ i : Nat, qef N t.1 t.2 4 9 i = if (i : Int) = w then v8 else t.2 9 i := fun i => by rw [← c1, h8]; rfl
  have d1 : qef N t.1 t.2 4 0 1 = r := by rw [← c2]; rfl
  have d2 : qef N t.1 t.2 4 0 2 = g := by rw [← c3]; rfl
  refine ⟨t, 4, q, ⟨hE.2.2.1, hE.2.2.2.1⟩, ⟨by rw [d0, d1, d2]; omega, by rw [d0]; omega, by rw [d1]; omega, by rw [d2]; omega⟩, a.1, a.2.1, a.2.2.1, a.2.2.2.1, a.2.2.2.2.1, fun j hj hjw => ?_, a.2.2.2.2.2.2⟩
  rw [d0] at hjw
  rw [d6, d7, d8, d9]
  by_cases f : (j : Int) = w
  · rw [if_pos f, if_pos f, if_pos f, if_pos f, ← r0, ← r1, ← r2, ← r3]
    refine ⟨?_, ?_, ?_, ?_⟩ <;> congr 1 <;> omega
  · rw [if_neg f, if_neg f, if_neg f, if_neg f]
    exact a.2.2.2.2.2.1 j hj (by omega)
theorem k_cre {N : pM} {R : Nat → Nat → Int} {x y y' w r g a P l v1 v2 v3 v4 v5 : Int} (hc : CAp N R x y) (hy : y = w + 32 * r + 1024 * g) (hw : (0 ≤ w ∧ w ≤ 12) ∧ (0 ≤ r ∧ r ≤ 20) ∧ 0 ≤ g ∧ g ≤ 4) (hE : ∃ s, qat N x s ∧ EXq N s 9 5 a) (hx : x = 4096 * P + l ∧ 0 ≤ l ∧ l ≤ 950) (h1 : v1 = qvl N P.toNat 1) (h2 : v2 = qvl N P.toNat 2) (h3 : v3 = qvl N P.toNat 3) (h4 : v4 = qvl N P.toNat 4) (h5 : v5 = qvl N P.toNat 5) (r0 : R 5 (3 * r).toNat = v1 + 8 * v2) (r1 : R 5 (3 * r + 1).toNat = v3 + 8 * v4) (r2 : R 5 (3 * r + 2).toNat = v5) (hl : r ≤ 19) (hy' : y' = y + 32) : CWp N R x y' := by
  obtain ⟨s, q, e, a⟩ := hc
  obtain ⟨t, q', hE⟩ := hE
  have := qat_u q q'
  subst this
  obtain ⟨c1, c2, c3⟩ := qW_o e hy hw.1 hw.2.1 hw.2.2
  have hp : P.toNat = t.1 := by have := qat_p q hx; omega
  rw [hp] at h1 h2 h3 h4 h5
  have d0 : qef N t.1 t.2 9 0 0 = w := by rw [← c1]; rfl
  have d1 : qef N t.1 t.2 9 0 1 = r + 1 := by rw [← c2]; rfl
  have d2 : qef N t.1 t.2 9 0 2 = g := by rw [← c3]; rfl
  have d6 : ∀ i : Nat, qef N t.1 t.2 9 10 i = if (i : Int) = r then v1 + 8 * v2 else t.2 10 i := fun i => by rw [← c2, h1, h2]; rfl
  have d7 : ∀ i : Nat, qef N t.1 t.2 9 11 i = if (i : Int) = r then v3 + 8 * v4 else t.2 11 i := fun i => by rw [← c2, h3, h4]; rfl
  have d8 : ∀ i : Nat, qef N t.1 t.2 9 12 i = if (i : Int) = r then v5 else t.2 12 i := fun i => by rw [← c2, h5]; rfl
  refine ⟨t, 9, q, ⟨hE.2.2.1, hE.2.2.2.1⟩, ⟨by rw [d0, d1, d2]; omega, by rw [d0]; omega, by rw [d1]; omega, by rw [d2]; omega⟩, a.1, a.2.1, a.2.2.1, a.2.2.2.1, a.2.2.2.2.1, a.2.2.2.2.2.1, fun j hj hjw => ?_, a.2.2.2.2.2.2.2⟩
  rw [d1] at hjw
  rw [d6, d7, d8]
  by_cases f : (j : Int) = r
  · rw [if_pos f, if_pos f, if_pos f, ← r0, ← r1, ← r2]
    refine ⟨?_, ?_, ?_⟩ <;> congr 1 <;> omega
  · rw [if_neg f, if_neg f, if_neg f]
    exact a.2.2.2.2.2.2.1 j hj (by omega)
theorem k_cs0 {N : pM} {R : Nat → Nat → Int} {x W : Int} (h : CAp N R x W) : CSp N R x W := by
  obtain ⟨s, q, w, a⟩ := h
  exact ⟨s, 0, W, q, ⟨by decide, Or.inl rfl⟩, by omega, w, fun j hj => by omega⟩
theorem k_cah {N : pM} {R : Nat → Nat → Int} {x y w r g v : Int} {i : Nat} (hc : CAp N R x y) (hy : y = w + 32 * r + 1024 * g) (hw : (0 ≤ w ∧ w ≤ 12) ∧ (0 ≤ r ∧ r ≤ 20) ∧ 0 ≤ g ∧ g ≤ 4) (hi : 5 * g ≤ i) : CAp N (qU R 7 i v) x y := by
  obtain ⟨s, q, e, a⟩ := hc
  obtain ⟨c1, c2, c3⟩ := qW_o e hy hw.1 hw.2.1 hw.2.2
  refine ⟨s, q, e, a.1, a.2.1, a.2.2.1, a.2.2.2.1, a.2.2.2.2.1, a.2.2.2.2.2.1, a.2.2.2.2.2.2.1, a.2.2.2.2.2.2.2.1, fun j k hj hk hjw => ?_⟩
  rw [qU_ne (by omega)]
  exact a.2.2.2.2.2.2.2.2 j k hj hk hjw
theorem k_csw {N : pM} {R : Nat → Nat → Int} {x y y' w r g v P l : Int} {k : Nat} (h : CSp N R x y) (hy : y = w + 32 * r + 1024 * g + 8192 * k) (hw : (0 ≤ w ∧ w ≤ 12) ∧ (0 ≤ r ∧ r ≤ 20) ∧ 0 ≤ g ∧ g ≤ 3) (hk : k ≤ 4) (hx : x = 4096 * P + l ∧ 0 ≤ l ∧ l ≤ 950) (hv : v = if k < 4 then qvl N P.toNat (3 + k) else qvl N P.toNat 8) (hy' : y' = y + 8192) : CSp N (qU R 7 (5 * g.toNat + k) v) x y' := by
  obtain ⟨s, k', W, q, e1, e2, e3, a⟩ := h
  have e3' := e3
  obtain ⟨b1, b2, b3, b4⟩ := e3'
  have ek : k' = k := by omega
  subst ek
  have eg : s.2 0 2 = g := by omega
  have hp : P.toNat = s.1 := by have := qat_p q hx; omega
  rw [hp] at hv
  refine ⟨s, k' + 1, W, q, ⟨by omega, Or.inr (by omega)⟩, by omega, e3, fun j hj => ?_⟩
  rw [eg]
  by_cases e : j = k'
  · rw [e, qU_at]; exact hv
  · rw [qU_ne (by omega)]
    have := a j (by omega)
    rw [eg] at this
    exact this
theorem k_cnw {N : pM} {R : Nat → Nat → Int} {x y w r g v : Int} {i : Nat} (hc : CAp N R x y) (hy : y = w + 32 * r + 1024 * g) (hw : (0 ≤ w ∧ w ≤ 12) ∧ (0 ≤ r ∧ r ≤ 20) ∧ 0 ≤ g ∧ g ≤ 4) (hi : g ≤ i) : CAp N (qU R 6 i v) x y := by
  obtain ⟨s, q, e, a⟩ := hc
  obtain ⟨c1, c2, c3⟩ := qW_o e hy hw.1 hw.2.1 hw.2.2
  refine ⟨s, q, e, a.1, a.2.1, a.2.2.1, a.2.2.2.1, a.2.2.2.2.1, a.2.2.2.2.2.1, a.2.2.2.2.2.2.1, fun j hj hjw => ?_, a.2.2.2.2.2.2.2.2⟩
  rw [qU_ne (by omega)]
  exact a.2.2.2.2.2.2.2.1 j hj hjw
theorem qnm_ok {N : pM} {s : Nat × pM} {j : Nat} (h : qff N s.1 s.2 10 j = none) (hj : 1 ≤ j) : tK N (qps N s.1 1) = 262143 := by
  have h1 := qff_c h (Nat.le_refl 1) hj
  have h1 : (if tK N (qps N s.1 1) ≤ 255 then some 1 else if tK N (qps N s.1 1) = 262143 then (if qtn N s.1 s.2 = true then some 3 else none) else some 2) = (none : Option Int) := h1
  split at h1
  · cases h1
  · split at h1
    · assumption
    · cases h1
theorem k_cge2 {N : pM} {R : Nat → Nat → Int} {x y y5 y' w r g a P l v : Int} (hc : CAp N R x y) (hS : CSp N R x y5) (hy : y = w + 32 * r + 1024 * g) (hy5 : y5 = y + 8192 * 5) (hw : (0 ≤ w ∧ w ≤ 12) ∧ (0 ≤ r ∧ r ≤ 20) ∧ 0 ≤ g ∧ g ≤ 3) (hE : ∃ s, qat N x s ∧ EXq N s 10 8 a) (hx : x = 4096 * P + l ∧ 0 ≤ l ∧ l ≤ 950) (hn : v = qpk 32 96 N (qps N P.toNat 1)) (hr : R 6 g.toNat = v) (hy' : y' = y + 1024) : CWp N R x y' := by
  obtain ⟨s, q, e, a⟩ := hc
  obtain ⟨t, q', hE⟩ := hE
  have := qat_u q q'
  subst this
  obtain ⟨s2, k5, W5, q5, f1, f2, f3, f4⟩ := hS
  have := qat_u q q5
  subst this
  obtain ⟨c1, c2, c3⟩ := qW_o e hy hw.1 hw.2.1 ⟨hw.2.2.1, by omega⟩
  have f3' := f3
  obtain ⟨b1, b2, b3, b4⟩ := f3'
  have ek : k5 = 5 := by omega
  subst ek
  have hp : P.toNat = s2.1 := by have := qat_p q hx; omega
  rw [hp] at hn
  have d0 : qef N s2.1 s2.2 10 0 0 = w := by rw [← c1]; rfl
  have d1 : qef N s2.1 s2.2 10 0 1 = r := by rw [← c2]; rfl
  have d2 : qef N s2.1 s2.2 10 0 2 = g + 1 := by rw [← c3]; rfl
  have d6 : ∀ i : Nat, qef N s2.1 s2.2 10 13 i = if (i : Int) = g then (qps N s2.1 1 : Int) else s2.2 13 i := fun i => by rw [← c3]; rfl
  have d7 : ∀ i : Nat, qef N s2.1 s2.2 10 14 i = if ((i / 5 : Nat) : Int) = g then (if i % 5 < 4 then qvl N s2.1 (3 + i % 5) else qvl N s2.1 8) else s2.2 14 i := fun i => by rw [← c3]; rfl
  refine ⟨s2, 10, q, ⟨hE.2.2.1, hE.2.2.2.1⟩, ⟨by rw [d0, d1, d2]; omega, by rw [d0]; omega, by rw [d1]; omega, by rw [d2]; omega⟩, a.1, a.2.1, a.2.2.1, a.2.2.2.1, a.2.2.2.2.1, a.2.2.2.2.2.1, a.2.2.2.2.2.2.1, fun j hj hjw => ?_, fun j k hj hk hjw => ?_⟩
  · rw [d2] at hjw
    rw [d6]
    by_cases f : (j : Int) = g
    · rw [if_pos f, Int.toNat_natCast, ← hn, ← hr]
      exact ⟨by congr 1; omega, qnm_ok hE.2.2.2.1 (by decide)⟩
    · rw [if_neg f]
      exact a.2.2.2.2.2.2.2.1 j hj (by omega)
  · rw [d2] at hjw
    rw [d7]
    by_cases f : (j : Int) = g
    · rw [if_pos (by omega)]
      have := f4 k (by omega)
      rw [c3, show g.toNat = j by omega] at this
      rw [this, show (5 * j + k) % 5 = k by omega]
    · rw [if_neg (by omega)]
      exact a.2.2.2.2.2.2.2.2 j k hj hk (by omega)
theorem k_cwf {N : pM} {R : Nat → Nat → Int} {x y a : Int} (hc : CAp N R x y) (hE : ∃ s, qat N x s ∧ EXq N s 8 2 a) : CWp N R x y := by
  obtain ⟨s, q, e, a⟩ := hc
  obtain ⟨t, q', hE⟩ := hE
  have := qat_u q q'
  subst this
  exact ⟨t, 8, q, ⟨hE.2.2.1, hE.2.2.2.1⟩, e, a⟩
theorem k_cend {N : pM} {R : Nat → Nat → Int} {x y P l : Int} (hc : CAp N R x y) (hx : x = 4096 * P + l ∧ 0 ≤ l ∧ l ≤ 950) (hz : tK N P.toNat = 131071) : CEp N R l y := by
  obtain ⟨s, ⟨L, l1, e0, r0⟩, e, a⟩ := hc
  have hp : P.toNat = s.1 := by omega
  rw [hp] at hz
  exact ⟨L, s, by omega, r0, hz, e, a⟩
/-- behind a line's sign -/
theorem k_next {N : pM} {x P l a e : Int} {s : Nat × pM} {K : Nat} (q : qat N x s) (hf : qfl N s K) (hL : LNp N x a) (ha : 0 ≤ a) (hx : x = 4096 * P + l ∧ 0 ≤ l ∧ l ≤ 950) (hz : tK N a.toNat = 524347) (he : e = (tE N a.toNat : Int)) (hb : e ≤ 1900) : qat N (4096 * e + l + 1) (qps N s.1 (qni K + 1), qef N s.1 s.2 K) ∧ l ≤ 949 := by
  obtain ⟨t, K', q', hf', h1⟩ := hL
  have := qat_u q q'
  subst this
  have eK : K' = K := by
    have h2 := hf.1.1
    rw [hf'.1.1] at h2
    exact Option.some.inj h2
  subst eK
  obtain ⟨L, l1, e0, r0⟩ := q
  have hz' : tK N (qps N t.1 (qni K')) = 524347 := by rw [show qps N t.1 (qni K') = a.toNat by omega]; exact hz
  have hr := run_next r0 hf' hz'
  have hg := run_ge hr
  have he' : e = (qps N t.1 (qni K' + 1) : Int) := by
    rw [he, show a.toNat = qps N t.1 (qni K') by omega]
    rfl
  have hg : 2 * (L + 1) ≤ qps N t.1 (qni K' + 1) := hg
  exact ⟨⟨L + 1, by omega, by show _ = 4096 * ((qps N t.1 (qni K' + 1) : Nat) : Int) + _; omega, hr⟩, by omega⟩
theorem k_semi {N : pM} {R : Nat → Nat → Int} {x P l a e W x' : Int} (h : CWp N R x W) (hL : LNp N x a) (ha : 0 ≤ a) (hx : x = 4096 * P + l ∧ 0 ≤ l ∧ l ≤ 950) (hz : tK N a.toNat = 524347) (he : e = (tE N a.toNat : Int)) (hb : e ≤ 1900) (hx' : x' = 4096 * e + l + 1) : CAp N R x' W ∧ l ≤ 949 := by
  obtain ⟨s, K, q, hf, hw, a⟩ := h
  obtain ⟨h1, h2⟩ := k_next q hf hL ha hx hz he hb
  exact ⟨⟨_, by rw [hx']; exact h1, hw, a⟩, h2⟩
theorem k_semiR {N : pM} {R : Nat → Nat → Int} {x P l a e W x' : Int} (h : RWp N R x W) (hL : LNp N x a) (ha : 0 ≤ a) (hx : x = 4096 * P + l ∧ 0 ≤ l ∧ l ≤ 950) (hz : tK N a.toNat = 524347) (he : e = (tE N a.toNat : Int)) (hb : e ≤ 1900) (hx' : x' = 4096 * e + l + 1) : RAp N R x' W ∧ l ≤ 949 := by
  obtain ⟨s, K, q, hf, hw, a⟩ := h
  obtain ⟨h1, h2⟩ := k_next q hf hL ha hx hz he hb
  exact ⟨⟨_, by rw [hx']; exact h1, hw, a⟩, h2⟩
theorem k_semiM {N : pM} {f : Int → Nat → Int} {c n : Nat} {x P l a e m x' : Int} (h : MWp f c n N x m) (hL : LNp N x a) (ha : 0 ≤ a) (hx : x = 4096 * P + l ∧ 0 ≤ l ∧ l ≤ 950) (hz : tK N a.toNat = 524347) (he : e = (tE N a.toNat : Int)) (hb : e ≤ 1900) (hx' : x' = 4096 * e + l + 1) : MKp f c n N x' m := by
  obtain ⟨s, K, q, hf, a⟩ := h
  obtain ⟨h1, h2⟩ := k_next q hf hL ha hx hz he hb
  exact ⟨_, by rw [hx']; exact h1, a⟩
theorem k_mid {N : pM} {f : Int → Nat → Int} {c n K : Nat} {x a m : Int} (h : MKp f c n N x m) (hE : ∃ s, qat N x s ∧ EXq N s K (qni K - 1) a) (he : ∀ p A, qef N p A K c = A c) : MWp f c n N x m := by
  obtain ⟨s, q, b⟩ := h
  obtain ⟨t, q', hE⟩ := hE
  have := qat_u q q'
  subst this
  exact ⟨t, K, q, ⟨hE.2.2.1, hE.2.2.2.1⟩, fun i hi => by rw [he]; exact b i hi⟩
/-! the reference's side -/
theorem agR_g {g0 g0' g1 g1' g2 g2' g6 g6' : Nat → Int} {R : Nat → Nat → Int} {N A : pM} (h0 : ∀ i, i < 64 → g0' i = g0 i) (h1 : ∀ i, i < 48 → g1' i = g1 i) (h2 : ∀ i, i < 6 → g2' i = g2 i) (h6 : ∀ i, i < 8 → g6' i = g6 i) (h : agR g0 g1 g2 g6 R N A) : agR g0' g1' g2' g6' R N A :=
  ⟨fun i hi => by rw [h0 i hi]; exact h.1 i hi, fun i hi => by rw [h1 i hi]; exact h.2.1 i hi, fun i hi => by rw [h2 i hi]; exact h.2.2.1 i hi, h.2.2.2.1, h.2.2.2.2.1, h.2.2.2.2.2.1, h.2.2.2.2.2.2.1, h.2.2.2.2.2.2.2.1, h.2.2.2.2.2.2.2.2.1, h.2.2.2.2.2.2.2.2.2.1, h.2.2.2.2.2.2.2.2.2.2.1, fun i hi => by rw [h6 i hi]; exact h.2.2.2.2.2.2.2.2.2.2.2.1 i hi, h.2.2.2.2.2.2.2.2.2.2.2.2⟩
theorem l_rg0 {N : pM} {R : Nat → Nat → Int} {x W y' : Int} {u : Nat} (h : RAp N R x W) (hy' : y' = W + 131072 * (u : Int)) : RGp N R x y' := by
  obtain ⟨s, q, w, a⟩ := h
  exact ⟨s, 0, u, W, q, by decide, by omega, w, agR_g (fun i _ => if_neg (by omega)) (fun _ _ => rfl) (fun _ _ => rfl) (fun _ _ => rfl) a⟩
theorem l_rgw {N : pM} {R : Nat → Nat → Int} {x y y' w r g v : Int} {k u : Nat} (h : RGp N R x y) (hy : y = w + 32 * r + 1024 * g + 8192 * k + 131072 * u) (hw : (0 ≤ w ∧ w ≤ 12) ∧ (0 ≤ r ∧ r ≤ 20) ∧ 0 ≤ g ∧ g ≤ 4) (hk : k < 8) (hu : u < 8) (hv : ∀ s, qat N x s → v = qlt N s.1 2 k - 97) (hy' : y' = y + 8192) : RGp N (qU R 0 (8 * u + k) v) x y' := by
  obtain ⟨s, k', u', W, q, e1, e2, e3, a⟩ := h
  have e3' := e3
  obtain ⟨b1, b2, b3, b4⟩ := e3'
  have ek : k' = k := by omega
  subst ek
  have eu : u' = u := by omega
  subst eu
  refine ⟨s, k' + 1, u', W, q, by omega, by omega, e3, fun i hi => ?_, a.2⟩
  have hv := hv s q
  by_cases e : i = 8 * u' + k'
  · rw [e, qU_at]; dsimp only; rw [if_pos (by omega), hv, show (8 * u' + k') % 8 = k' by omega]
  · rw [qU_ne e, a.1 i hi]
    dsimp only
    by_cases f : i / 8 = u' ∧ i % 8 < k'
    · rw [if_pos f, if_pos (by omega)]
    · rw [if_neg f, if_neg (by omega)]
theorem l_rgh {N : pM} {R : Nat → Nat → Int} {x y y' w r g a P l : Int} {u : Nat} (h : RGp N R x y) (hy : y = w + 32 * r + 1024 * g + 8192 * 8 + 131072 * u) (hw : (0 ≤ w ∧ w ≤ 12) ∧ (0 ≤ r ∧ r ≤ 20) ∧ 0 ≤ g ∧ g ≤ 4) (hE : ∃ s, qat N x s ∧ EXq N s 0 2 a) (hx : x = 4096 * P + l ∧ 0 ≤ l ∧ l ≤ 950) (hv : (u : Int) = qvl N P.toNat 1) (hy' : y' = w + 32 * r + 1024 * g) : RWp N (qU R 15 u 1) x y' := by
  obtain ⟨s, k', u', W, q, e1, e2, e3, a⟩ := h
  obtain ⟨t, q', hE⟩ := hE
  have := qat_u q q'
  subst this
  have e3' := e3
  obtain ⟨b1, b2, b3, b4⟩ := e3'
  have ek : k' = 8 := by omega
  subst ek
  have eu : u' = u := by omega
  subst eu
  have hp : P.toNat = t.1 := by have := qat_p q hx; omega
  rw [hp] at hv
  have d15 : ∀ i : Nat, qef N t.1 t.2 0 15 i = if (i : Int) = u' then 1 else t.2 15 i := fun i => by rw [hv]; rfl
  refine ⟨t, 0, q, ⟨hE.2.2.1, hE.2.2.2.1⟩, ?_, fun i hi => ?_, a.2.1, a.2.2.1, a.2.2.2.1, a.2.2.2.2.1, a.2.2.2.2.2.1, a.2.2.2.2.2.2.1, a.2.2.2.2.2.2.2.1, a.2.2.2.2.2.2.2.2.1, a.2.2.2.2.2.2.2.2.2.1, fun i hi => ?_, a.2.2.2.2.2.2.2.2.2.2.2.1, a.2.2.2.2.2.2.2.2.2.2.2.2⟩
  · rw [show y' = W by omega]; exact e3
  · show R 0 i = (if ((i / 8 : Nat) : Int) = qvl N t.1 1 then qlt N t.1 2 (i % 8) - 97 else t.2 1 i)
    rw [a.1 i hi]
    dsimp only
    by_cases f : i / 8 = u'
    · rw [if_pos ⟨f, by omega⟩, if_pos (by omega)]
    · rw [if_neg (fun h => f h.1), if_neg (by omega)]
  · rw [d15]
    by_cases f : i = u'
    · rw [f, qU_at, if_pos rfl]
    · rw [qU_ne f, if_neg (by omega)]; exact a.2.2.2.2.2.2.2.2.2.2.1 i hi
theorem l_rlh {N : pM} {R : Nat → Nat → Int} {x W y' : Int} {u : Nat} (h : RAp N R x W) (hy' : y' = W + 131072 * (u : Int)) : RLp N (qU R 16 u 1) x y' := by
  obtain ⟨s, q, w, a⟩ := h
  refine ⟨s, 0, u, W, q, by decide, by omega, w, a.1, fun i hi => ?_, a.2.2.1, a.2.2.2.1, a.2.2.2.2.1, a.2.2.2.2.2.1, a.2.2.2.2.2.2.1, a.2.2.2.2.2.2.2.1, a.2.2.2.2.2.2.2.2.1, a.2.2.2.2.2.2.2.2.2.1, a.2.2.2.2.2.2.2.2.2.2.1, fun i hi => ?_, a.2.2.2.2.2.2.2.2.2.2.2.2⟩
  · dsimp only; rw [if_neg (by omega)]; exact a.2.1 i hi
  · by_cases f : i = u
    · rw [f, qU_at]; dsimp only; rw [if_pos rfl]
    · rw [qU_ne f]; dsimp only; rw [if_neg f]; exact a.2.2.2.2.2.2.2.2.2.2.2.1 i hi
theorem l_rlw {N : pM} {R : Nat → Nat → Int} {x y y' w r g v P l : Int} {k u : Nat} (h : RLp N R x y) (hy : y = w + 32 * r + 1024 * g + 8192 * k + 131072 * u) (hw : (0 ≤ w ∧ w ≤ 12) ∧ (0 ≤ r ∧ r ≤ 20) ∧ 0 ≤ g ∧ g ≤ 4) (hk : k < 6) (hu : u < 8) (hx : x = 4096 * P + l ∧ 0 ≤ l ∧ l ≤ 950) (hv : v = qvl N P.toNat (2 + k)) (hy' : y' = y + 8192) : RLp N (qU R 1 (6 * u + k) v) x y' := by
  obtain ⟨s, k', u', W, q, e1, e2, e3, a⟩ := h
  have e3' := e3
  obtain ⟨b1, b2, b3, b4⟩ := e3'
  have ek : k' = k := by omega
  subst ek
  have eu : u' = u := by omega
  subst eu
  have hp : P.toNat = s.1 := by have := qat_p q hx; omega
  rw [hp] at hv
  refine ⟨s, k' + 1, u', W, q, by omega, by omega, e3, a.1, fun i hi => ?_, a.2.2⟩
  by_cases e : i = 6 * u' + k'
  · rw [e, qU_at]; dsimp only; rw [if_pos (by omega), hv, show (6 * u' + k') % 6 = k' by omega]
  · rw [qU_ne e, a.2.1 i hi]
    dsimp only
    by_cases f : i / 6 = u' ∧ i % 6 < k'
    · rw [if_pos f, if_pos (by omega)]
    · rw [if_neg f, if_neg (by omega)]
theorem l_rle {N : pM} {R : Nat → Nat → Int} {x y y' w r g a P l : Int} {u : Nat} (h : RLp N R x y) (hy : y = w + 32 * r + 1024 * g + 8192 * 6 + 131072 * u) (hw : (0 ≤ w ∧ w ≤ 12) ∧ (0 ≤ r ∧ r ≤ 20) ∧ 0 ≤ g ∧ g ≤ 4) (hE : ∃ s, qat N x s ∧ EXq N s 1 7 a) (hx : x = 4096 * P + l ∧ 0 ≤ l ∧ l ≤ 950) (hv : qlt N P.toNat 1 0 = 97 + u) (hy' : y' = w + 32 * r + 1024 * g) : RWp N R x y' := by
  obtain ⟨s, k', u', W, q, e1, e2, e3, a⟩ := h
  obtain ⟨t, q', hE⟩ := hE
  have := qat_u q q'
  subst this
  have e3' := e3
  obtain ⟨b1, b2, b3, b4⟩ := e3'
  have ek : k' = 6 := by omega
  subst ek
  have eu : u' = u := by omega
  subst eu
  have hp : P.toNat = t.1 := by have := qat_p q hx; omega
  rw [hp] at hv
  refine ⟨t, 1, q, ⟨hE.2.2.1, hE.2.2.2.1⟩, ?_, agR_g (fun _ _ => rfl) (fun i hi => ?_) (fun _ _ => rfl) (fun i hi => ?_) a⟩
  · rw [show y' = W by omega]; exact e3
  · show (if ((i / 6 : Nat) : Int) = qlt N t.1 1 0 - 97 then qvl N t.1 (2 + i % 6) else t.2 2 i) = _
    by_cases f : i / 6 = u'
    · rw [if_pos (by omega), if_pos ⟨f, by omega⟩]
    · rw [if_neg (by omega), if_neg (fun h => f h.1)]
  · show (if (i : Int) = qlt N t.1 1 0 - 97 then 1 else t.2 16 i) = _
    by_cases f : i = u'
    · rw [if_pos (by omega), if_pos f]
    · rw [if_neg (by omega), if_neg f]
theorem l_rxa {N : pM} {R : Nat → Nat → Int} {x y P l h k : Int} (hc : RAp N R x y) (hx : x = 4096 * P + l ∧ 0 ≤ l ∧ l ≤ 950) (h1 : h = qvl N P.toNat 1) (h2 : k = qwl N P.toNat) (hh : 0 ≤ h ∧ h ≤ 5) : RXp N (qU R 2 h.toNat k) x y := by
  obtain ⟨s, q, w, a⟩ := hc
  have hp : P.toNat = s.1 := by have := qat_p q hx; omega
  rw [hp] at h1 h2
  refine ⟨s, q, w, a.1, a.2.1, fun i hi => ?_, a.2.2.2⟩
  by_cases e : i = h.toNat
  · rw [e, qU_at]; dsimp only; rw [if_pos (by omega)]; exact h2
  · rw [qU_ne e]; dsimp only; rw [if_neg (by omega)]; exact a.2.2.1 i hi
theorem l_rxb {N : pM} {R : Nat → Nat → Int} {x y a P l h f : Int} (hc : RXp N R x y) (hE : ∃ s, qat N x s ∧ EXq N s 2 3 a) (hx : x = 4096 * P + l ∧ 0 ≤ l ∧ l ≤ 950) (h1 : h = qvl N P.toNat 1) (h3 : f = qvl N P.toNat 3) (hh : 0 ≤ h ∧ h ≤ 5) : RWp N (qU R 3 h.toNat f) x y := by
  obtain ⟨s, q, w, a⟩ := hc
  obtain ⟨t, q', hE⟩ := hE
  have := qat_u q q'
  subst this
  have hp : P.toNat = t.1 := by have := qat_p q hx; omega
  rw [hp] at h1 h3
  have e4 : ∀ i : Nat, qef N t.1 t.2 2 4 i = if (i : Int) = h then f else t.2 4 i := fun i => by rw [h1, h3]; rfl
  refine ⟨t, 2, q, ⟨hE.2.2.1, hE.2.2.2.1⟩, w, a.1, a.2.1, a.2.2.1, fun i hi => ?_, a.2.2.2.2⟩
  rw [e4]
  by_cases e : i = h.toNat
  · rw [e, qU_at, if_pos (by omega)]
  · rw [qU_ne e, if_neg (by omega)]; exact a.2.2.2.1 i hi
theorem l_rtw {N : pM} {R : Nat → Nat → Int} {x y a P l h v : Int} (hc : RAp N R x y) (hE : ∃ s, qat N x s ∧ EXq N s 3 2 a) (hx : x = 4096 * P + l ∧ 0 ≤ l ∧ l ≤ 950) (h1 : h = qvl N P.toNat 1) (h2 : v = qvl N P.toNat 2) (hh : 0 ≤ h ∧ h ≤ 5) : RWp N (qU R 4 h.toNat v) x y := by
  obtain ⟨s, q, w, a⟩ := hc
  obtain ⟨t, q', hE⟩ := hE
  have := qat_u q q'
  subst this
  have hp : P.toNat = t.1 := by have := qat_p q hx; omega
  rw [hp] at h1 h2
  have e5 : ∀ i : Nat, qef N t.1 t.2 3 5 i = if (i : Int) = h then v else t.2 5 i := fun i => by rw [h1, h2]; rfl
  refine ⟨t, 3, q, ⟨hE.2.2.1, hE.2.2.2.1⟩, w, a.1, a.2.1, a.2.2.1, a.2.2.2.1, fun i hi => ?_, a.2.2.2.2.2⟩
  rw [e5]
  by_cases e : i = h.toNat
  · rw [e, qU_at, if_pos (by omega)]
  · rw [qU_ne e, if_neg (by omega)]; exact a.2.2.2.2.1 i hi
theorem l_rap {N : pM} {R : Nat → Nat → Int} {x y w r g v : Int} {i c : Nat} (hc : RAp N R x y) (hy : y = w + 32 * r + 1024 * g) (hw : (0 ≤ w ∧ w ≤ 12) ∧ (0 ≤ r ∧ r ≤ 20) ∧ 0 ≤ g ∧ g ≤ 4) (hi : w ≤ i) (h5 : 5 ≤ c ∧ c ≤ 8) : RAp N (qU R c i v) x y := by
  obtain ⟨s, q, e, a⟩ := hc
  obtain ⟨c1, c2, c3⟩ := qW_o e hy hw.1 hw.2.1 hw.2.2
  have hz : ∀ d j : Nat, j ≠ i → qU R c i v d j = R d j := by
    intro d j hj
    show (if d = c then (if j = i then v else R d j) else R d j) = R d j
    rw [if_neg hj, ite_self]
  have hn : ∀ d j : Nat, d ≠ c → qU R c i v d j = R d j := fun d j hd => if_neg hd
  refine ⟨s, q, e, ?_⟩
  obtain ⟨a0, a1, a2, a3, a4, a5, a6, a7, a8, a9, a10, a11, a12⟩ := a
  refine ⟨fun j hj => ?_, fun j hj => ?_, fun j hj => ?_, fun j hj => ?_, fun j hj => ?_, fun j hj hw => ?_, fun j hj hw => ?_, fun j k hj hk hw => ?_, fun j hj hw => ?_, fun j hj hw => ?_, fun j hj => ?_, fun j hj => ?_, fun j hj => ?_⟩
  · rw [hn _ _ (by omega)]; exact a0 j hj
  · rw [hn _ _ (by omega)]; exact a1 j hj
  · rw [hn _ _ (by omega)]; exact a2 j hj
  · rw [hn _ _ (by omega)]; exact a3 j hj
  · rw [hn _ _ (by omega)]; exact a4 j hj
  · rw [hz _ _ (by omega), hz _ _ (by omega), hz _ _ (by omega), hz _ _ (by omega)]; exact a5 j hj hw
  · rw [hn _ _ (by omega), hn _ _ (by omega), hn _ _ (by omega)]; exact a6 j hj hw
  · rw [hn _ _ (by omega)]; exact a7 j k hj hk hw
  · rw [hn _ _ (by omega)]; exact a8 j hj hw
  · rw [hn _ _ (by omega)]; exact a9 j hj hw
  · rw [hn _ _ (by omega)]; exact a10 j hj
  · rw [hn _ _ (by omega)]; exact a11 j hj
  · rw [hn _ _ (by omega)]; exact a12 j hj
theorem l_rrp {N : pM} {R : Nat → Nat → Int} {x y w r g v : Int} {i c : Nat} (hc : RAp N R x y) (hy : y = w + 32 * r + 1024 * g) (hw : (0 ≤ w ∧ w ≤ 12) ∧ (0 ≤ r ∧ r ≤ 20) ∧ 0 ≤ g ∧ g ≤ 4) (hi : r ≤ i) (h5 : 9 ≤ c ∧ c ≤ 11) : RAp N (qU R c i v) x y := by
  obtain ⟨s, q, e, a⟩ := hc
  obtain ⟨c1, c2, c3⟩ := qW_o e hy hw.1 hw.2.1 hw.2.2
  have hz : ∀ d j : Nat, j ≠ i → qU R c i v d j = R d j := by
    intro d j hj
    show (if d = c then (if j = i then v else R d j) else R d j) = R d j
    rw [if_neg hj, ite_self]
  have hn : ∀ d j : Nat, d ≠ c → qU R c i v d j = R d j := fun d j hd => if_neg hd
  refine ⟨s, q, e, ?_⟩
  obtain ⟨a0, a1, a2, a3, a4, a5, a6, a7, a8, a9, a10, a11, a12⟩ := a
  refine ⟨fun j hj => ?_, fun j hj => ?_, fun j hj => ?_, fun j hj => ?_, fun j hj => ?_, fun j hj hw => ?_, fun j hj hw => ?_, fun j k hj hk hw => ?_, fun j hj hw => ?_, fun j hj hw => ?_, fun j hj => ?_, fun j hj => ?_, fun j hj => ?_⟩
  · rw [hn _ _ (by omega)]; exact a0 j hj
  · rw [hn _ _ (by omega)]; exact a1 j hj
  · rw [hn _ _ (by omega)]; exact a2 j hj
  · rw [hn _ _ (by omega)]; exact a3 j hj
  · rw [hn _ _ (by omega)]; exact a4 j hj
  · rw [hn _ _ (by omega), hn _ _ (by omega), hn _ _ (by omega), hn _ _ (by omega)]; exact a5 j hj hw
  · rw [hz _ _ (by omega), hz _ _ (by omega), hz _ _ (by omega)]; exact a6 j hj hw
  · rw [hn _ _ (by omega)]; exact a7 j k hj hk hw
  · rw [hn _ _ (by omega)]; exact a8 j hj hw
  · rw [hn _ _ (by omega)]; exact a9 j hj hw
  · rw [hn _ _ (by omega)]; exact a10 j hj
  · rw [hn _ _ (by omega)]; exact a11 j hj
  · rw [hn _ _ (by omega)]; exact a12 j hj
theorem l_rae {N : pM} {R : Nat → Nat → Int} {x y y' w r g a P l v1 v2 v4 v6 v8 : Int} (hc : RAp N R x y) (hy : y = w + 32 * r + 1024 * g) (hw : (0 ≤ w ∧ w ≤ 12) ∧ (0 ≤ r ∧ r ≤ 20) ∧ 0 ≤ g ∧ g ≤ 4) (hE : ∃ s, qat N x s ∧ EXq N s 4 8 a) (hx : x = 4096 * P + l ∧ 0 ≤ l ∧ l ≤ 950) (h1 : v1 = qvl N P.toNat 1) (h2 : v2 = qvl N P.toNat 2) (h4 : v4 = qvl N P.toNat 4) (h6 : v6 = qvl N P.toNat 6) (h8 : v8 = qvl N P.toNat 8) (r0 : R 5 w.toNat = v1 + 8 * v2) (r1 : R 6 w.toNat = v4) (r2 : R 7 w.toNat = v6) (r3 : R 8 w.toNat = v8) (hl : w ≤ 11) (hy' : y' = y + 1) : RWp N R x y' := by
  obtain ⟨s, q, e, a⟩ := hc
  obtain ⟨t, q', hE⟩ := hE
  have := qat_u q q'
  subst this
  obtain ⟨c1, c2, c3⟩ := qW_o e hy hw.1 hw.2.1 hw.2.2
  have hp : P.toNat = t.1 := by have := qat_p q hx; omega
  rw [hp] at h1 h2 h4 h6 h8
  have d0 : qef N t.1 t.2 4 0 0 = w + 1 := by rw [← c1]; rfl
  have d6 : ∀ i : Nat, qef N t.1 t.2 4 6 i = if (i : Int) = w then v1 + 8 * v2 else t.2 6 i := fun i => by rw [← c1, h1, h2]; rfl
  have d7 : ∀ i : Nat, qef N t.1 t.2 4 7 i = if (i : Int) = w then v4 else t.2 7 i := fun i => by rw [← c1, h4]; rfl
  have d8 : ∀ i : Nat, qef N t.1 t.2 4 8 i = if (i : Int) = w then v6 else t.2 8 i := fun i => by rw [← c1, h6]; rfl
  have d9 : ∀ i : Nat, qef N t.1 t.2 4 9 i = if (i : Int) = w then v8 else t.2 9 i := fun i => by rw [← c1, h8]; rfl
  have d1 : qef N t.1 t.2 4 0 1 = r := by rw [← c2]; rfl
  have d2 : qef N t.1 t.2 4 0 2 = g := by rw [← c3]; rfl
  refine ⟨t, 4, q, ⟨hE.2.2.1, hE.2.2.2.1⟩, ⟨by rw [d0, d1, d2]; omega, by rw [d0]; omega, by rw [d1]; omega, by rw [d2]; omega⟩, a.1, a.2.1, a.2.2.1, a.2.2.2.1, a.2.2.2.2.1, fun j hj hjw => ?_, a.2.2.2.2.2.2⟩
  rw [d0] at hjw
  rw [d6, d7, d8, d9]
  by_cases f : (j : Int) = w
  · rw [if_pos f, if_pos f, if_pos f, if_pos f, ← r0, ← r1, ← r2, ← r3, show w.toNat = j by omega]
    exact ⟨rfl, rfl, rfl, rfl⟩
  · rw [if_neg f, if_neg f, if_neg f, if_neg f]
    exact a.2.2.2.2.2.1 j hj (by omega)
theorem l_rre {N : pM} {R : Nat → Nat → Int} {x y y' w r g a P l v1 v2 v3 v4 v5 : Int} (hc : RAp N R x y) (hy : y = w + 32 * r + 1024 * g) (hw : (0 ≤ w ∧ w ≤ 12) ∧ (0 ≤ r ∧ r ≤ 20) ∧ 0 ≤ g ∧ g ≤ 4) (hE : ∃ s, qat N x s ∧ EXq N s 9 5 a) (hx : x = 4096 * P + l ∧ 0 ≤ l ∧ l ≤ 950) (h1 : v1 = qvl N P.toNat 1) (h2 : v2 = qvl N P.toNat 2) (h3 : v3 = qvl N P.toNat 3) (h4 : v4 = qvl N P.toNat 4) (h5 : v5 = qvl N P.toNat 5) (r0 : R 9 r.toNat = v1 + 8 * v2) (r1 : R 10 r.toNat = v3 + 8 * v4) (r2 : R 11 r.toNat = v5) (hl : r ≤ 19) (hy' : y' = y + 32) : RWp N R x y' := by
  obtain ⟨s, q, e, a⟩ := hc
  obtain ⟨t, q', hE⟩ := hE
  have := qat_u q q'
  subst this
  obtain ⟨c1, c2, c3⟩ := qW_o e hy hw.1 hw.2.1 hw.2.2
  have hp : P.toNat = t.1 := by have := qat_p q hx; omega
  rw [hp] at h1 h2 h3 h4 h5
  have d0 : qef N t.1 t.2 9 0 0 = w := by rw [← c1]; rfl
  have d1 : qef N t.1 t.2 9 0 1 = r + 1 := by rw [← c2]; rfl
  have d2 : qef N t.1 t.2 9 0 2 = g := by rw [← c3]; rfl
  have d6 : ∀ i : Nat, qef N t.1 t.2 9 10 i = if (i : Int) = r then v1 + 8 * v2 else t.2 10 i := fun i => by rw [← c2, h1, h2]; rfl
  have d7 : ∀ i : Nat, qef N t.1 t.2 9 11 i = if (i : Int) = r then v3 + 8 * v4 else t.2 11 i := fun i => by rw [← c2, h3, h4]; rfl
  have d8 : ∀ i : Nat, qef N t.1 t.2 9 12 i = if (i : Int) = r then v5 else t.2 12 i := fun i => by rw [← c2, h5]; rfl
  refine ⟨t, 9, q, ⟨hE.2.2.1, hE.2.2.2.1⟩, ⟨by rw [d0, d1, d2]; omega, by rw [d0]; omega, by rw [d1]; omega, by rw [d2]; omega⟩, a.1, a.2.1, a.2.2.1, a.2.2.2.1, a.2.2.2.2.1, a.2.2.2.2.2.1, fun j hj hjw => ?_, a.2.2.2.2.2.2.2⟩
  rw [d1] at hjw
  rw [d6, d7, d8]
  by_cases f : (j : Int) = r
  · rw [if_pos f, if_pos f, if_pos f, ← r0, ← r1, ← r2, show r.toNat = j by omega]
    exact ⟨rfl, rfl, rfl⟩
  · rw [if_neg f, if_neg f, if_neg f]
    exact a.2.2.2.2.2.2.1 j hj (by omega)
theorem l_rfw {N : pM} {R : Nat → Nat → Int} {x y a P l v1 v2 : Int} (hc : RAp N R x y) (hE : ∃ s, qat N x s ∧ EXq N s 8 2 a) (hx : x = 4096 * P + l ∧ 0 ≤ l ∧ l ≤ 950) (h1 : v1 = qvl N P.toNat 1) (h2 : v2 = qvl N P.toNat 2) (h0 : 0 ≤ v1 + 8 * v2) : RWp N (qU R 17 (v1 + 8 * v2).toNat 1) x y := by
  obtain ⟨s, q, e, a⟩ := hc
  obtain ⟨t, q', hE⟩ := hE
  have := qat_u q q'
  subst this
  have hp : P.toNat = t.1 := by have := qat_p q hx; omega
  rw [hp] at h1 h2
  have d : ∀ i : Nat, qef N t.1 t.2 8 17 i = if (i : Int) = v1 + 8 * v2 then 1 else t.2 17 i := fun i => by rw [h1, h2]; rfl
  refine ⟨t, 8, q, ⟨hE.2.2.1, hE.2.2.2.1⟩, e, a.1, a.2.1, a.2.2.1, a.2.2.2.1, a.2.2.2.2.1, a.2.2.2.2.2.1, a.2.2.2.2.2.2.1, a.2.2.2.2.2.2.2.1, a.2.2.2.2.2.2.2.2.1, a.2.2.2.2.2.2.2.2.2.1, a.2.2.2.2.2.2.2.2.2.2.1, a.2.2.2.2.2.2.2.2.2.2.2.1, fun i hi => ?_⟩
  rw [d]
  by_cases f : i = (v1 + 8 * v2).toNat
  · rw [f, qU_at, if_pos (by omega)]
  · rw [qU_ne f, if_neg (by omega)]; exact a.2.2.2.2.2.2.2.2.2.2.2.2 i hi
theorem l_rnw {N : pM} {R : Nat → Nat → Int} {x y w r g v : Int} {i : Nat} (hc : RAp N R x y) (hy : y = w + 32 * r + 1024 * g) (hw : (0 ≤ w ∧ w ≤ 12) ∧ (0 ≤ r ∧ r ≤ 20) ∧ 0 ≤ g ∧ g ≤ 4) (hi : g ≤ i) : RAp N (qU R 14 i v) x y := by
  obtain ⟨s, q, e, a⟩ := hc
  obtain ⟨c1, c2, c3⟩ := qW_o e hy hw.1 hw.2.1 hw.2.2
  refine ⟨s, q, e, a.1, a.2.1, a.2.2.1, a.2.2.2.1, a.2.2.2.2.1, a.2.2.2.2.2.1, a.2.2.2.2.2.2.1, a.2.2.2.2.2.2.2.1, a.2.2.2.2.2.2.2.2.1, fun j hj hjw => ?_, a.2.2.2.2.2.2.2.2.2.2⟩
  rw [qU_ne (by omega)]
  exact a.2.2.2.2.2.2.2.2.2.1 j hj hjw
theorem l_ras {N : pM} {R : Nat → Nat → Int} {x y w r g v : Int} {i : Nat} (hc : RAp N R x y) (hy : y = w + 32 * r + 1024 * g) (hw : (0 ≤ w ∧ w ≤ 12) ∧ (0 ≤ r ∧ r ≤ 20) ∧ 0 ≤ g ∧ g ≤ 4) (hi : 4 * g ≤ i) : RAp N (qU R 12 i v) x y := by
  obtain ⟨s, q, e, a⟩ := hc
  obtain ⟨c1, c2, c3⟩ := qW_o e hy hw.1 hw.2.1 hw.2.2
  refine ⟨s, q, e, a.1, a.2.1, a.2.2.1, a.2.2.2.1, a.2.2.2.2.1, a.2.2.2.2.2.1, a.2.2.2.2.2.2.1, fun j k hj hk hjw => ?_, a.2.2.2.2.2.2.2.2⟩
  rw [qU_ne (by omega)]
  exact a.2.2.2.2.2.2.2.1 j k hj hk hjw
theorem l_rah {N : pM} {R : Nat → Nat → Int} {x y w r g v : Int} {i : Nat} (hc : RAp N R x y) (hy : y = w + 32 * r + 1024 * g) (hw : (0 ≤ w ∧ w ≤ 12) ∧ (0 ≤ r ∧ r ≤ 20) ∧ 0 ≤ g ∧ g ≤ 4) (hi : g ≤ i) : RAp N (qU R 13 i v) x y := by
  obtain ⟨s, q, e, a⟩ := hc
  obtain ⟨c1, c2, c3⟩ := qW_o e hy hw.1 hw.2.1 hw.2.2
  refine ⟨s, q, e, a.1, a.2.1, a.2.2.1, a.2.2.2.1, a.2.2.2.2.1, a.2.2.2.2.2.1, a.2.2.2.2.2.2.1, a.2.2.2.2.2.2.2.1, fun j hj hjw => ?_, a.2.2.2.2.2.2.2.2.2⟩
  rw [qU_ne (by omega)]
  exact a.2.2.2.2.2.2.2.2.1 j hj hjw
theorem l_rs0 {N : pM} {R : Nat → Nat → Int} {x W : Int} (h : RAp N R x W) : RSp N R x W := by
  obtain ⟨s, q, w, a⟩ := h
  exact ⟨s, 0, W, q, ⟨by decide, Or.inl rfl⟩, by omega, w, fun j hj => by omega, fun h => by omega⟩
theorem l_rsw {N : pM} {R : Nat → Nat → Int} {x y y' w r g v P l : Int} {k : Nat} (h : RSp N R x y) (hy : y = w + 32 * r + 1024 * g + 8192 * k) (hw : (0 ≤ w ∧ w ≤ 12) ∧ (0 ≤ r ∧ r ≤ 20) ∧ 0 ≤ g ∧ g ≤ 3) (hk : k ≤ 3) (hx : x = 4096 * P + l ∧ 0 ≤ l ∧ l ≤ 950) (hv : v = qvl N P.toNat (3 + k)) (hy' : y' = y + 8192) : RSp N (qU R 12 (4 * g.toNat + k) v) x y' := by
  obtain ⟨s, k', W, q, e1, e2, e3, a, _⟩ := h
  have e3' := e3
  obtain ⟨b1, b2, b3, b4⟩ := e3'
  have ek : k' = k := by omega
  subst ek
  have eg : s.2 0 2 = g := by omega
  have hp : P.toNat = s.1 := by have := qat_p q hx; omega
  rw [hp] at hv
  refine ⟨s, k' + 1, W, q, ⟨by omega, Or.inr (by omega)⟩, by omega, e3, fun j hj h4 => ?_, fun h => by omega⟩
  rw [eg]
  by_cases e : j = k'
  · rw [e, qU_at]; exact hv
  · rw [qU_ne (by omega)]
    have := a j (by omega) h4
    rw [eg] at this
    exact this
theorem l_rhw {N : pM} {R : Nat → Nat → Int} {x y y' w r g v P l : Int} (h : RSp N R x y) (hy : y = w + 32 * r + 1024 * g + 8192 * 4) (hw : (0 ≤ w ∧ w ≤ 12) ∧ (0 ≤ r ∧ r ≤ 20) ∧ 0 ≤ g ∧ g ≤ 3) (hx : x = 4096 * P + l ∧ 0 ≤ l ∧ l ≤ 950) (hv : v = qvl N P.toNat 8) (hy' : y' = y + 8192) : RSp N (qU R 13 g.toNat v) x y' := by
  obtain ⟨s, k', W, q, e1, e2, e3, a, _⟩ := h
  have e3' := e3
  obtain ⟨b1, b2, b3, b4⟩ := e3'
  have ek : k' = 4 := by omega
  subst ek
  have eg : s.2 0 2 = g := by omega
  have hp : P.toNat = s.1 := by have := qat_p q hx; omega
  rw [hp] at hv
  refine ⟨s, 5, W, q, ⟨by omega, Or.inr (by omega)⟩, by omega, e3, fun j hj h4 => a j (by omega) h4, fun _ => ?_⟩
  rw [eg, qU_at]
  exact hv
theorem l_rge {N : pM} {R : Nat → Nat → Int} {x y y5 y' w r g a P l v : Int} (hc : RAp N R x y) (hS : RSp N R x y5) (hy : y = w + 32 * r + 1024 * g) (hy5 : y5 = y + 8192 * 5) (hw : (0 ≤ w ∧ w ≤ 12) ∧ (0 ≤ r ∧ r ≤ 20) ∧ 0 ≤ g ∧ g ≤ 3) (hE : ∃ s, qat N x s ∧ EXq N s 10 8 a) (hx : x = 4096 * P + l ∧ 0 ≤ l ∧ l ≤ 950) (hr : R 14 g.toNat = qpk 256 0 N (qps N P.toNat 1)) (hy' : y' = y + 1024) : RWp N R x y' := by
  obtain ⟨s, q, e, a⟩ := hc
  obtain ⟨t, q', hE⟩ := hE
  have := qat_u q q'
  subst this
  obtain ⟨s2, k5, W5, q5, f1, f2, f3, f4, f5⟩ := hS
  have := qat_u q q5
  subst this
  obtain ⟨c1, c2, c3⟩ := qW_o e hy hw.1 hw.2.1 ⟨hw.2.2.1, by omega⟩
  have f3' := f3
  obtain ⟨b1, b2, b3, b4⟩ := f3'
  have ek : k5 = 5 := by omega
  subst ek
  have hp : P.toNat = s2.1 := by have := qat_p q hx; omega
  rw [hp] at hr
  have d0 : qef N s2.1 s2.2 10 0 0 = w := by rw [← c1]; rfl
  have d1 : qef N s2.1 s2.2 10 0 1 = r := by rw [← c2]; rfl
  have d2 : qef N s2.1 s2.2 10 0 2 = g + 1 := by rw [← c3]; rfl
  have d6 : ∀ i : Nat, qef N s2.1 s2.2 10 13 i = if (i : Int) = g then (qps N s2.1 1 : Int) else s2.2 13 i := fun i => by rw [← c3]; rfl
  have d7 : ∀ i : Nat, qef N s2.1 s2.2 10 14 i = if ((i / 5 : Nat) : Int) = g then (if i % 5 < 4 then qvl N s2.1 (3 + i % 5) else qvl N s2.1 8) else s2.2 14 i := fun i => by rw [← c3]; rfl
  refine ⟨s2, 10, q, ⟨hE.2.2.1, hE.2.2.2.1⟩, ⟨by rw [d0, d1, d2]; omega, by rw [d0]; omega, by rw [d1]; omega, by rw [d2]; omega⟩, a.1, a.2.1, a.2.2.1, a.2.2.2.1, a.2.2.2.2.1, a.2.2.2.2.2.1, a.2.2.2.2.2.2.1, fun j k hj hk hjw => ?_, fun j hj hjw => ?_, fun j hj hjw => ?_, a.2.2.2.2.2.2.2.2.2.2⟩
  · rw [d2] at hjw
    rw [d7]
    by_cases f : (j : Int) = g
    · rw [if_pos (by omega), if_pos (by omega)]
      have := f4 k (by omega) hk
      rw [c3, show g.toNat = j by omega] at this
      rw [this, show (5 * j + k) % 5 = k by omega]
    · rw [if_neg (by omega)]
      exact a.2.2.2.2.2.2.2.1 j k hj hk (by omega)
  · rw [d2] at hjw
    rw [d7]
    by_cases f : (j : Int) = g
    · rw [if_pos (by omega), if_neg (by omega)]
      have := f5 rfl
      rw [c3, show g.toNat = j by omega] at this
      exact this
    · rw [if_neg (by omega)]
      exact a.2.2.2.2.2.2.2.2.1 j hj (by omega)
  · rw [d2] at hjw
    rw [d6]
    by_cases f : (j : Int) = g
    · rw [if_pos f, Int.toNat_natCast, ← hr]
      exact ⟨by congr 1; omega, qnm_ok hE.2.2.2.1 (by decide)⟩
    · rw [if_neg f]
      exact a.2.2.2.2.2.2.2.2.2.1 j hj (by omega)
theorem l_rend {N : pM} {R : Nat → Nat → Int} {x y P l : Int} (hc : RAp N R x y) (hx : x = 4096 * P + l ∧ 0 ≤ l ∧ l ≤ 950) (hz : tK N P.toNat = 131071) : REp N R l y := by
  obtain ⟨s, ⟨L, l1, e0, r0⟩, e, a⟩ := hc
  have hp : P.toNat = s.1 := by omega
  rw [hp] at hz
  exact ⟨L, s, by omega, r0, hz, e, a⟩
