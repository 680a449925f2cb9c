def QLd (a c' t' h' : Int) (K0 : pM) : pQ := fun x K' => x = some (vi a) ∧ gI K' ∧ fr [(61, 36, 38)] K0 K' ∧ (a = 1 → K' 61 36 = c' ∧ K' 61 37 = t' ∧ K' 61 38 = h')
def KW (b : Nat) (M K0 K : pM) : Prop := gI K ∧ agL (RLb b) M K ∧ fr [(61, 36, 38)] K0 K
theorem st_i {M : pM} {c i : Nat} {v : Int} : st M c i v c i = v := if_pos ⟨rfl, rfl⟩
theorem st_o {M : pM} {c i c' i' : Nat} {v : Int} (h : ¬ (c' = c ∧ i' = i)) : st M c i v c' i' = M c' i' := if_neg h
theorem KW_st {b : Nat} (hb : b ≤ 1) {M K0 K : pM} (h : KW b M K0 K) {k : Nat} (h1 : 36 ≤ k) (h2 : k ≤ 38) {v : Int} (hv : r32 v) : KW b M K0 (st K 61 k v) := by
  obtain ⟨g, a, f⟩ := h
  unfold r32 at hv
  refine ⟨gI_st g (fun bb hb hle => ?_) (fun e he q1 q2 => ?_), fun c i hi => ?_, fun c i hi => ?_⟩
  · have hx : (gl 61)[k % (gl 61).length]? = some ((-2147483648 : Int), (2147483647 : Int)) := by
      rcases (show k = 36 ∨ k = 37 ∨ k = 38 by omega) with rfl | rfl | rfl <;> decide +kernel
    rw [hx] at hb
    cases hb
    exact ⟨by show (-2147483648 : Int) ≤ v; omega, by show v ≤ (2147483647 : Int); omega⟩
  · have hr : rfT.all (fun e => !(Nat.beq e.1 61 && Nat.ble 36 e.2.1 && Nat.ble e.2.1 38)) = true := by decide +kernel
    have hr := List.all_eq_true.mp hr e he
    rw [q1, q2, Nat.ble_eq_true_of_le h1, Nat.ble_eq_true_of_le h2] at hr
    exact absurd hr (by decide)
  · rw [st_o (fun q => ?_)]
    · exact a c i hi
    · rw [q.1, q.2] at hi
      rcases (show b = 0 ∨ b = 1 by omega) with rfl | rfl <;> rcases (show k = 36 ∨ k = 37 ∨ k = 38 by omega) with rfl | rfl | rfl <;> exact absurd hi (by decide)
  · rw [st_o (fun q => ?_)]
    · exact f c i hi
    · rw [q.1, q.2, inM_1 h1 h2 List.mem_cons_self] at hi
      cases hi
theorem U321 {b : Nat} (hb : b ≤ 1) {M : pM} (hM : gI M) (h34 : M 61 34 = (b : Int)) (x y z : Int) : ∃ a : Int, (a = 0 ∨ (a = 1 ∧ y ≤ 36 ∧ 0 ≤ z)) ∧ ∀ (r : Nat) (K0 K : pM), KW b M K0 K → K 61 36 = x → K 61 37 = y → K 61 38 = z → ∀ (l1 l2 l3 l4 l5 l6 l7 l8 l9 l10 l11 l12 l13 l14 l15 : Option pv), J (OJ (r + 1)) 222 119 (QLd a x y z K0) 321 [some (vr 62), l1, l2, l3, l4, l5, l6, l7, l8, l9, l10, l11, l12, l13, l14, l15] [] 119 K := by
  have fin : ∀ (a : Int), (a = 0 ∨ a = 1) → ∀ (r : Nat) (K0 K : pM), KW b M K0 K → K 61 36 = x → K 61 37 = y → K 61 38 = z → ∀ (l1 l2 l3 l4 l5 l6 l7 l8 l9 l10 l11 l12 l13 l14 l15 : Option pv), J (OJ (r + 1)) 222 119 (QLd a x y z K0) 361 [some (vr 62), l1, l2, l3, l4, l5, l6, l7, l8, l9, l10, l11, l12, l13, l14, l15] [vi a] 119 K := by
    intro a ha r K0 K hW h36 h37 h38 l1 l2 l3 l4 l5 l6 l7 l8 l9 l10 l11 l12 l13 l14 l15
    rw [s_222_361]
    exact ⟨rfl, ha, rfl, hW.1, hW.2.2, fun _ => ⟨h36, h37, h38⟩⟩
  by_cases h1 : 36 < y
  · refine ⟨0, Or.inl rfl, fun r K0 K hW h36 h37 h38 l1 l2 l3 l4 l5 l6 l7 l8 l9 l10 l11 l12 l13 l14 l15 => ?_⟩
    rw [s_222_321, s_222_322 (a := 61)]
    refine ⟨ob_61 (by decide), ?_⟩
    rw [h37, s_222_325, s_222_327]
    refine ⟨fun _ => ?_, fun h => absurd h1 h⟩
    rw [s_222_360]
    exact fin 0 (Or.inl rfl) r K0 K hW h36 h37 h38 l1 l2 l3 l4 l5 l6 l7 l8 l9 l10 l11 l12 l13 l14 l15
  · by_cases h2 : z < 0
    · refine ⟨0, Or.inl rfl, fun r K0 K hW h36 h37 h38 l1 l2 l3 l4 l5 l6 l7 l8 l9 l10 l11 l12 l13 l14 l15 => ?_⟩
      rw [s_222_321, s_222_322 (a := 61)]
      refine ⟨ob_61 (by decide), ?_⟩
      rw [h37, s_222_325, s_222_327]
      refine ⟨fun h => absurd h h1, fun _ => ?_⟩
      rw [s_222_330, s_222_331 (a := 61)]
      refine ⟨ob_61 (by decide), ?_⟩
      rw [h38, s_222_334]
      refine ⟨fun _ => ?_, fun h => absurd h2 h⟩
      rw [s_222_360]
      exact fin 0 (Or.inl rfl) r K0 K hW h36 h37 h38 l1 l2 l3 l4 l5 l6 l7 l8 l9 l10 l11 l12 l13 l14 l15
    · obtain ⟨s, hs, hgo⟩ := U215 hb hM h34 x y z
      have run : ∀ (Q : pQ) (r : Nat) (K0 K : pM), KW b M K0 K → K 61 36 = x → K 61 37 = y → K 61 38 = z → ∀ (l1 l2 l3 l4 l5 l6 l7 l8 l9 l10 l11 l12 l13 l14 l15 : Option pv), J (OJ (r + 1)) 222 119 Q 353 [some (vr 62), l1, l2, l3, l4, l5, l6, l7, l8, l9, l10, l11, l12, l13, l14, l15] [vi s] 119 K → J (OJ (r + 1)) 222 119 Q 321 [some (vr 62), l1, l2, l3, l4, l5, l6, l7, l8, l9, l10, l11, l12, l13, l14, l15] [] 119 K := by
        intro Q r K0 K hW h36 h37 h38 l1 l2 l3 l4 l5 l6 l7 l8 l9 l10 l11 l12 l13 l14 l15 hJ
        rw [s_222_321, s_222_322 (a := 61)]
        refine ⟨ob_61 (by decide), ?_⟩
        rw [h37, s_222_325, s_222_327]
        refine ⟨fun h => absurd h h1, fun _ => ?_⟩
        rw [s_222_330, s_222_331 (a := 61)]
        refine ⟨ob_61 (by decide), ?_⟩
        rw [h38, s_222_334]
        refine ⟨fun h => absurd h h2, fun _ => ?_⟩
        rw [s_222_337, s_222_338, s_222_339 (a := 61)]
        refine ⟨ob_61 (by decide), ?_⟩
        rw [h36, s_222_342, s_222_343 (a := 61)]
        refine ⟨ob_61 (by decide), ?_⟩
        rw [h37, s_222_346, s_222_347 (a := 61)]
        refine ⟨ob_61 (by decide), ?_⟩
        rw [h38, s_222_350 (b := 61)]
        exact ⟨ob_61 (by decide), by rw [stk_n]; decide, hgo r K hW.1 hW.2.1 _ ⟨s, rfl, hJ⟩⟩
      by_cases h3 : s = 0
      · refine ⟨1, Or.inr ⟨rfl, by omega, by omega⟩, fun r K0 K hW h36 h37 h38 l1 l2 l3 l4 l5 l6 l7 l8 l9 l10 l11 l12 l13 l14 l15 => run _ r K0 K hW h36 h37 h38 l1 l2 l3 l4 l5 l6 l7 l8 l9 l10 l11 l12 l13 l14 l15 ?_⟩
        rw [s_222_353]
        refine ⟨fun h => absurd h3 h, fun _ => ?_⟩
        rw [s_222_356, s_222_357]
        exact fin 1 (Or.inr rfl) r K0 K hW h36 h37 h38 l1 l2 l3 l4 l5 l6 l7 l8 l9 l10 l11 l12 l13 l14 l15
      · refine ⟨0, Or.inl rfl, fun r K0 K hW h36 h37 h38 l1 l2 l3 l4 l5 l6 l7 l8 l9 l10 l11 l12 l13 l14 l15 => run _ r K0 K hW h36 h37 h38 l1 l2 l3 l4 l5 l6 l7 l8 l9 l10 l11 l12 l13 l14 l15 ?_⟩
        rw [s_222_353]
        refine ⟨fun _ => ?_, fun h => absurd h3 h⟩
        rw [s_222_360]
        exact fin 0 (Or.inl rfl) r K0 K hW h36 h37 h38 l1 l2 l3 l4 l5 l6 l7 l8 l9 l10 l11 l12 l13 l14 l15
theorem U317 {b : Nat} (hb : b ≤ 1) {M : pM} (hM : gI M) (h34 : M 61 34 = (b : Int)) (x y : Int) {h q : Int} (h0 : 0 ≤ h) (h1 : h ≤ 40) (q0 : 0 ≤ q) (q1 : q ≤ 2147483647) : ∃ a z : Int, (a = 0 ∨ (a = 1 ∧ y ≤ 36 ∧ 0 ≤ z ∧ z ≤ 40)) ∧ ∀ (r : Nat) (K0 K : pM), KW b M K0 K → K 61 36 = x → K 61 37 = y → ∀ (l1 l2 l3 l4 l5 l6 l7 l8 l9 l10 l11 l12 l13 l14 l15 : Option pv), J (OJ (r + 1)) 222 119 (QLd a x y z K0) 317 [some (vr 62), l1, l2, l3, l4, l5, l6, l7, l8, l9, l10, l11, l12, l13, l14, l15] [vi q, vi h, vr 62] 119 K := by
  obtain ⟨a, ha, hgo⟩ := U321 hb hM h34 x y (h - q)
  refine ⟨a, h - q, by omega, fun r K0 K hW h36 h37 l1 l2 l3 l4 l5 l6 l7 l8 l9 l10 l11 l12 l13 l14 l15 => ?_⟩
  rw [s_222_317, w32_id (by unfold r32; omega), s_222_318 (a := 61)]
  refine ⟨ob_61 (by decide), hgo r K0 _ (KW_st hb hW (by decide) (by decide) (by unfold r32; omega)) ?_ ?_ st_i l1 l2 l3 l4 l5 l6 l7 l8 l9 l10 l11 l12 l13 l14 l15⟩
  · rw [st_o (by decide)]; exact h36
  · rw [st_o (by decide)]; exact h37
theorem U290 {b : Nat} (hb : b ≤ 1) {M : pM} (hM : gI M) (h34 : M 61 34 = (b : Int)) (x y : Int) {h hr e s : Int} (al : Int) (h0 : 0 ≤ h) (h1 : h ≤ 40) (r0 : 0 ≤ hr) (r1 : hr ≤ 5) (e0 : 0 ≤ e) (e1 : e ≤ 30) (s0 : 0 ≤ s) (s1 : s ≤ 30) : ∃ a z : Int, (a = 0 ∨ (a = 1 ∧ y ≤ 36 ∧ 0 ≤ z ∧ z ≤ 40)) ∧ ∀ (r : Nat) (K0 K : pM), KW b M K0 K → K 61 36 = x → K 61 37 = y → ∀ (l1 l2 l3 l5 l7 l8 l9 l10 l11 l12 l13 l15 : Option pv), J (OJ (r + 1 + 1)) 222 119 (QLd a x y z K0) 290 [some (vr 62), l1, l2, l3, some (vi h), l5, some (vi hr), l7, l8, l9, l10, l11, l12, l13, some (vi al), l15] [vi e, vi s] 119 K := by
  obtain ⟨f, _, hf⟩ := U211 hb hM h34 r0 r1
  obtain ⟨lo, hlo⟩ : ∃ lo, lo = w32 (s + e - w32 (f * al)) := ⟨_, rfl⟩
  have run : ∀ (Q : pQ) (r : Nat) (K0 K : pM), KW b M K0 K → ∀ (l1 l2 l3 l5 l7 l8 l9 l10 l11 l12 l13 l15 : Option pv), J (OJ (r + 1 + 1)) 222 119 Q 308 [some (vr 62), l1, l2, l3, some (vi h), l5, some (vi hr), l7, l8, l9, l10, l11, l12, l13, some (vi al), some (vi lo)] [vi lo, vi h, vr 62] 119 K → J (OJ (r + 1 + 1)) 222 119 Q 290 [some (vr 62), l1, l2, l3, some (vi h), l5, some (vi hr), l7, l8, l9, l10, l11, l12, l13, some (vi al), l15] [vi e, vi s] 119 K := by
    intro Q r K0 K hW l1 l2 l3 l5 l7 l8 l9 l10 l11 l12 l13 l15 hJ
    rw [s_222_290, w32_id (by unfold r32; omega), s_222_291, s_222_292, s_222_294 (b := 61)]
    refine ⟨ob_61 (by decide), by rw [stk_i, stk_n]; decide, hf r K hW.1 hW.2.1 _ ⟨f, rfl, ?_⟩⟩
    rw [s_222_297, s_222_299, s_222_300, ← hlo, s_222_301, s_222_303, s_222_304, s_222_306]
    exact hJ
  have hb := w32_r (s + e - w32 (f * al))
  rw [← hlo] at hb
  unfold r32 at hb
  by_cases hl : lo ≤ 0
  · obtain ⟨a, z, ha, hgo⟩ := U317 ‹b ≤ 1› hM h34 x y (q := 0) h0 h1 (by omega) (by omega)
    refine ⟨a, z, ha, fun r K0 K hW h36 h37 l1 l2 l3 l5 l7 l8 l9 l10 l11 l12 l13 l15 => run _ r K0 K hW l1 l2 l3 l5 l7 l8 l9 l10 l11 l12 l13 l15 ?_⟩
    rw [s_222_308]
    refine ⟨fun _ => ?_, fun g => absurd hl g⟩
    rw [s_222_316]
    exact hgo (r + 1) K0 K hW h36 h37 l1 l2 l3 (some (vi h)) l5 (some (vi hr)) l7 l8 l9 l10 l11 l12 l13 (some (vi al)) (some (vi lo))
  · obtain ⟨a, z, ha, hgo⟩ := U317 ‹b ≤ 1› hM h34 x y (q := lo) h0 h1 (by omega) (by omega)
    refine ⟨a, z, ha, fun r K0 K hW h36 h37 l1 l2 l3 l5 l7 l8 l9 l10 l11 l12 l13 l15 => run _ r K0 K hW l1 l2 l3 l5 l7 l8 l9 l10 l11 l12 l13 l15 ?_⟩
    rw [s_222_308]
    refine ⟨fun g => absurd g hl, fun _ => ?_⟩
    rw [s_222_311, s_222_313]
    exact hgo (r + 1) K0 K hW h36 h37 l1 l2 l3 (some (vi h)) l5 (some (vi hr)) l7 l8 l9 l10 l11 l12 l13 (some (vi al)) (some (vi lo))
theorem U270 {b : Nat} (hb : b ≤ 1) {M : pM} (hM : gI M) (h34 : M 61 34 = (b : Int)) (x y : Int) {h hr d s : Int} (al : Int) (h0 : 0 ≤ h) (h1 : h ≤ 40) (r0 : 0 ≤ hr) (r1 : hr ≤ 5) (d0 : 0 ≤ d) (d1 : d ≤ 7) (s0 : 0 ≤ s) (s1 : s ≤ 30) : ∃ a z : Int, (a = 0 ∨ (a = 1 ∧ y ≤ 36 ∧ 0 ≤ z ∧ z ≤ 40)) ∧ ∀ (r : Nat) (K0 K : pM), KW b M K0 K → K 61 36 = x → K 61 37 = y → ∀ (l1 l2 l3 l5 l7 l9 l10 l11 l14 l15 : Option pv) (y13 : Int), J (OJ (r + 1 + 1)) 222 119 (QLd a x y z K0) 270 [some (vr 62), l1, l2, l3, some (vi h), l5, some (vi hr), l7, some (vi d), l9, l10, l11, some (vi s), some (vi y13), l14, l15] [vi al] 119 K := by
  have run : ∀ (Q : pQ) (r : Nat) (K : pM), ∀ (l1 l2 l3 l5 l7 l9 l10 l11 l14 l15 : Option pv) (y13 : Int), J (OJ (r + 1 + 1)) 222 119 Q 279 [some (vr 62), l1, l2, l3, some (vi h), l5, some (vi hr), l7, some (vi d), l9, l10, l11, some (vi s), some (vi y13), some (vi al), l15] [vi 1, vi (d % 2), vi s] 119 K → J (OJ (r + 1 + 1)) 222 119 Q 270 [some (vr 62), l1, l2, l3, some (vi h), l5, some (vi hr), l7, some (vi d), l9, l10, l11, some (vi s), some (vi y13), l14, l15] [vi al] 119 K := by
    intro Q r K l1 l2 l3 l5 l7 l9 l10 l11 l14 l15 y13 hJ
    rw [s_222_270, s_222_272, s_222_274, s_222_276, s_222_277]
    refine ⟨by decide, ?_⟩
    rw [Int.tmod_eq_emod_of_nonneg d0, s_222_278]
    exact hJ
  by_cases hd : d % 2 = 1
  · obtain ⟨a, z, ha, hgo⟩ := U290 hb hM h34 x y (e := s / 2) al h0 h1 r0 r1 (by omega) (by omega) s0 s1
    refine ⟨a, z, ha, fun r K0 K hW h36 h37 l1 l2 l3 l5 l7 l9 l10 l11 l14 l15 y13 => run _ r K l1 l2 l3 l5 l7 l9 l10 l11 l14 l15 y13 ?_⟩
    rw [s_222_279]
    refine ⟨fun g => absurd hd g, fun _ => ?_⟩
    rw [s_222_282, s_222_284, s_222_285]
    refine ⟨by decide, ?_⟩
    rw [tdv2 s0 (by omega), s_222_286]
    exact hgo r K0 K hW h36 h37 l1 l2 l3 l5 l7 (some (vi d)) l9 l10 l11 (some (vi s)) (some (vi y13)) l15
  · obtain ⟨a, z, ha, hgo⟩ := U290 hb hM h34 x y (e := 0) al h0 h1 r0 r1 (by omega) (by omega) s0 s1
    refine ⟨a, z, ha, fun r K0 K hW h36 h37 l1 l2 l3 l5 l7 l9 l10 l11 l14 l15 y13 => run _ r K l1 l2 l3 l5 l7 l9 l10 l11 l14 l15 y13 ?_⟩
    rw [s_222_279]
    refine ⟨fun _ => ?_, fun g => absurd hd g⟩
    rw [s_222_289]
    exact hgo r K0 K hW h36 h37 l1 l2 l3 l5 l7 (some (vi d)) l9 l10 l11 (some (vi s)) (some (vi y13)) l15
theorem UA {b : Nat} (hb : b ≤ 1) {M : pM} (hM : gI M) (h34 : M 61 34 = (b : Int)) {g c t h : Int} (g0 : 0 ≤ g) (g1 : g ≤ 3) (c0 : 0 ≤ c) (c1 : c ≤ 63) (t0 : 0 ≤ t) (t1 : t ≤ 35) (h0 : 0 ≤ h) (h1 : h ≤ 40) : ∃ a c' t' h' : Int, (a = 0 ∨ (a = 1 ∧ (0 ≤ c' ∧ c' ≤ 63) ∧ (t + 1 ≤ t' ∧ t' ≤ 36) ∧ (0 ≤ h' ∧ h' ≤ 40))) ∧ ∀ (r : Nat) (K0 K : pM), KW b M K0 K → K 61 36 = c → ∀ (l8 l9 l10 l11 l12 l13 l14 l15 : Option pv), J (OJ (r + 1 + 1)) 222 119 (QLd a c' t' h' K0) 36 [some (vr 62), some (vi g), some (vi c), some (vi t), some (vi h), some (vi 0), some (vi (t / 6)), some (vi (4 * (4 * (b : Int) + g))), l8, l9, l10, l11, l12, l13, l14, l15] [] 119 K := by
  obtain ⟨v, hv, hlift⟩ := U207 hb hM h34 c0 c1 (hr := t / 6) (by omega) (by omega)
  obtain ⟨tp, htp, htop⟩ := U212 hb hM h34 (hr := t / 6) (by omega) (by omega)
  have hsk := gb_81 hM (k := (4 * (4 * (b : Int) + g)).toNat) (by omega)
  obtain ⟨sk, hsk1⟩ : ∃ sk, sk = M 81 (4 * (4 * (b : Int) + g)).toNat := ⟨_, rfl⟩
  rw [← hsk1] at hsk
  have run : ∀ (Q : pQ) (r : Nat) (K0 K : pM), KW b M K0 K → K 61 36 = c → ∀ (l8 l9 l10 l11 l12 l13 l14 l15 : Option pv), (∀ K2, KW b M K0 K2 → K2 61 36 = c → K2 61 37 = t + 1 → K2 61 38 = h + v - sk → J (OJ (r + 1 + 1)) 222 119 Q 73 [some (vr 62), some (vi g), some (vi c), some (vi t), some (vi h), some (vi 0), some (vi (t / 6)), some (vi (4 * (4 * (b : Int) + g))), some (vi tp), l9, l10, l11, l12, l13, l14, l15] [] 119 K2) → J (OJ (r + 1 + 1)) 222 119 Q 36 [some (vr 62), some (vi g), some (vi c), some (vi t), some (vi h), some (vi 0), some (vi (t / 6)), some (vi (4 * (4 * (b : Int) + g))), l8, l9, l10, l11, l12, l13, l14, l15] [] 119 K := by
    intro Q r K0 K hW h36 l8 l9 l10 l11 l12 l13 l14 l15 hJ
    rw [s_222_36, s_222_37, s_222_38, s_222_39, w32_id (by unfold r32; omega), s_222_40 (a := 61)]
    refine ⟨ob_61 (by decide), ?_⟩
    obtain ⟨K1, hK1, hW1, e36, e37⟩ : ∃ K1, K1 = st K 61 37 (t + 1) ∧ KW b M K0 K1 ∧ K1 61 36 = c ∧ K1 61 37 = t + 1 := ⟨_, rfl, KW_st hb hW (by decide) (by decide) (by unfold r32; omega), by rw [st_o (by decide)]; exact h36, st_i⟩
    rw [← hK1, s_222_43, s_222_44, s_222_46, s_222_47, s_222_48, s_222_50 (b := 61)]
    refine ⟨ob_61 (by decide), by rw [stk_i, stk_r, stk_n]; decide, hlift (r + 1) K1 hW1.1 hW1.2.1 _ ⟨v, rfl, ?_⟩⟩
    rw [s_222_53, w32_id (by unfold r32; omega), s_222_54, s_222_55 (a := 61)]
    refine ⟨ob_61 (by decide), ?_⟩
    rw [rv_28 hW1.1, s_222_58, s_222_60 (a := 81)]
    refine ⟨by omega, by rw [al_81 (by decide)]; omega, ?_⟩
    rw [hW1.2.1 81 _ (rl_81 hb (by omega) (by omega)), ← hsk1, s_222_61, w32_id (by unfold r32; omega), s_222_62 (a := 61)]
    refine ⟨ob_61 (by decide), ?_⟩
    obtain ⟨K2, hK2, hW2, f36, f37, f38⟩ : ∃ K2, K2 = st K1 61 38 (h + v - sk) ∧ KW b M K0 K2 ∧ K2 61 36 = c ∧ K2 61 37 = t + 1 ∧ K2 61 38 = h + v - sk := ⟨_, rfl, KW_st hb hW1 (by decide) (by decide) (by unfold r32; omega), by rw [st_o (by decide)]; exact e36, by rw [st_o (by decide)]; exact e37, st_i⟩
    rw [← hK2, s_222_65, s_222_66, s_222_68 (b := 61)]
    refine ⟨ob_61 (by decide), by rw [stk_n]; decide, htop r K2 hW2.1 hW2.2.1 _ ⟨tp, rfl, ?_⟩⟩
    rw [s_222_71]
    exact hJ K2 hW2 f36 f37 f38
  by_cases q1 : h + v - sk ≤ tp
  · obtain ⟨a, ha, hgo⟩ := U321 hb hM h34 c (t + 1) (h + v - sk)
    refine ⟨a, c, t + 1, h + v - sk, by omega, fun r K0 K hW h36 l8 l9 l10 l11 l12 l13 l14 l15 => run _ r K0 K hW h36 l8 l9 l10 l11 l12 l13 l14 l15 (fun K2 hW2 f36 f37 f38 => ?_)⟩
    rw [s_222_73, s_222_74 (a := 61)]
    refine ⟨ob_61 (by decide), ?_⟩
    rw [f38, s_222_77, s_222_79]
    refine ⟨fun _ => ?_, fun x => absurd q1 x⟩
    rw [s_222_109]
    exact hgo (r + 1) K0 K2 hW2 f36 f37 f38 (some (vi g)) (some (vi c)) (some (vi t)) (some (vi h)) (some (vi 0)) (some (vi (t / 6))) (some (vi (4 * (4 * (b : Int) + g)))) (some (vi tp)) l9 l10 l11 l12 l13 l14 l15
  · by_cases q2 : h + v - sk ≤ h
    · obtain ⟨a, ha, hgo⟩ := U321 hb hM h34 c (t + 1) (h + v - sk)
      refine ⟨a, c, t + 1, h + v - sk, by omega, fun r K0 K hW h36 l8 l9 l10 l11 l12 l13 l14 l15 => run _ r K0 K hW h36 l8 l9 l10 l11 l12 l13 l14 l15 (fun K2 hW2 f36 f37 f38 => ?_)⟩
      rw [s_222_73, s_222_74 (a := 61)]
      refine ⟨ob_61 (by decide), ?_⟩
      rw [f38, s_222_77, s_222_79]
      refine ⟨fun x => absurd x q1, fun _ => ?_⟩
      rw [s_222_82, s_222_83 (a := 61)]
      refine ⟨ob_61 (by decide), ?_⟩
      rw [f38, s_222_86, s_222_88]
      refine ⟨fun _ => ?_, fun x => absurd q2 x⟩
      rw [s_222_109]
      exact hgo (r + 1) K0 K2 hW2 f36 f37 f38 (some (vi g)) (some (vi c)) (some (vi t)) (some (vi h)) (some (vi 0)) (some (vi (t / 6))) (some (vi (4 * (4 * (b : Int) + g)))) (some (vi tp)) l9 l10 l11 l12 l13 l14 l15
    · have run2 : ∀ (Q : pQ) (r : Nat) (K0 K2 : pM), KW b M K0 K2 → K2 61 38 = h + v - sk → ∀ (l9 l10 l11 l12 l13 l14 l15 : Option pv), J (OJ (r + 1 + 1)) 222 119 Q 96 [some (vr 62), some (vi g), some (vi c), some (vi t), some (vi h), some (vi 0), some (vi (t / 6)), some (vi (4 * (4 * (b : Int) + g))), some (vi tp), l9, l10, l11, l12, l13, l14, l15] [vi h, vi tp, vr 62] 119 K2 → J (OJ (r + 1 + 1)) 222 119 Q 73 [some (vr 62), some (vi g), some (vi c), some (vi t), some (vi h), some (vi 0), some (vi (t / 6)), some (vi (4 * (4 * (b : Int) + g))), some (vi tp), l9, l10, l11, l12, l13, l14, l15] [] 119 K2 := by
        intro Q r K0 K2 hW2 f38 l9 l10 l11 l12 l13 l14 l15 hJ
        rw [s_222_73, s_222_74 (a := 61)]
        refine ⟨ob_61 (by decide), ?_⟩
        rw [f38, s_222_77, s_222_79]
        refine ⟨fun x => absurd x q1, fun _ => ?_⟩
        rw [s_222_82, s_222_83 (a := 61)]
        refine ⟨ob_61 (by decide), ?_⟩
        rw [f38, s_222_86, s_222_88]
        refine ⟨fun x => absurd x q2, fun _ => ?_⟩
        rw [s_222_91, s_222_92, s_222_94]
        exact hJ
      by_cases q3 : tp ≤ h
      · obtain ⟨a, ha, hgo⟩ := U321 hb hM h34 c (t + 1) h
        refine ⟨a, c, t + 1, h, by omega, fun r K0 K hW h36 l8 l9 l10 l11 l12 l13 l14 l15 => run _ r K0 K hW h36 l8 l9 l10 l11 l12 l13 l14 l15 (fun K2 hW2 f36 f37 f38 => run2 _ r K0 K2 hW2 f38 l9 l10 l11 l12 l13 l14 l15 ?_)⟩
        rw [s_222_96]
        refine ⟨fun _ => ?_, fun x => absurd q3 x⟩
        rw [s_222_104, s_222_106 (a := 61)]
        refine ⟨ob_61 (by decide), ?_⟩
        rw [s_222_109]
        exact hgo (r + 1) K0 _ (KW_st hb hW2 (by decide) (by decide) (by unfold r32; omega)) (by rw [st_o (by decide)]; exact f36) (by rw [st_o (by decide)]; exact f37) st_i (some (vi g)) (some (vi c)) (some (vi t)) (some (vi h)) (some (vi 0)) (some (vi (t / 6))) (some (vi (4 * (4 * (b : Int) + g)))) (some (vi tp)) l9 l10 l11 l12 l13 l14 l15
      · obtain ⟨a, ha, hgo⟩ := U321 hb hM h34 c (t + 1) tp
        refine ⟨a, c, t + 1, tp, by omega, fun r K0 K hW h36 l8 l9 l10 l11 l12 l13 l14 l15 => run _ r K0 K hW h36 l8 l9 l10 l11 l12 l13 l14 l15 (fun K2 hW2 f36 f37 f38 => run2 _ r K0 K2 hW2 f38 l9 l10 l11 l12 l13 l14 l15 ?_)⟩
        rw [s_222_96]
        refine ⟨fun x => absurd x q3, fun _ => ?_⟩
        rw [s_222_99, s_222_101, s_222_106 (a := 61)]
        refine ⟨ob_61 (by decide), ?_⟩
        rw [s_222_109]
        exact hgo (r + 1) K0 _ (KW_st hb hW2 (by decide) (by decide) (by unfold r32; omega)) (by rw [st_o (by decide)]; exact f36) (by rw [st_o (by decide)]; exact f37) st_i (some (vi g)) (some (vi c)) (some (vi t)) (some (vi h)) (some (vi 0)) (some (vi (t / 6))) (some (vi (4 * (4 * (b : Int) + g)))) (some (vi tp)) l9 l10 l11 l12 l13 l14 l15
theorem U214 {b : Nat} (hb : b ≤ 1) {M : pM} (hM : gI M) (h34 : M 61 34 = (b : Int)) (x y : Int) {h hr d s : Int} (h0 : 0 ≤ h) (h1 : h ≤ 40) (r0 : 0 ≤ hr) (r1 : hr ≤ 5) (d0 : 0 ≤ d) (d1 : d ≤ 7) (s0 : 0 ≤ s) (s1 : s ≤ 30) : ∃ a z : Int, (a = 0 ∨ (a = 1 ∧ y ≤ 36 ∧ 0 ≤ z ∧ z ≤ 40)) ∧ ∀ (r : Nat) (K0 K : pM), KW b M K0 K → K 61 36 = x → K 61 37 = y → ∀ (l1 l2 l3 l5 l7 l9 l10 l11 l13 l14 l15 : Option pv), J (OJ (r + 1 + 1)) 222 119 (QLd a x y z K0) 214 [some (vr 62), l1, l2, l3, some (vi h), l5, some (vi hr), l7, some (vi d), l9, l10, l11, some (vi s), l13, l14, l15] [] 119 K := by
  obtain ⟨w, _, hway⟩ := U210 hb hM h34 r0 r1
  obtain ⟨vx, _, hdx⟩ := U220 d0 d1
  obtain ⟨vy, _, hdy⟩ := U221 d0 d1
  have run : ∀ (Q : pQ) (r : Nat) (K0 K : pM), KW b M K0 K → ∀ (l1 l2 l3 l5 l7 l9 l10 l11 l13 l14 l15 : Option pv), J (OJ (r + 1 + 1)) 222 119 Q 224 [some (vr 62), l1, l2, l3, some (vi h), l5, some (vi hr), l7, some (vi d), l9, l10, l11, some (vi s), some (vi w), l14, l15] [vi w] 119 K → J (OJ (r + 1 + 1)) 222 119 Q 214 [some (vr 62), l1, l2, l3, some (vi h), l5, some (vi hr), l7, some (vi d), l9, l10, l11, some (vi s), l13, l14, l15] [] 119 K := by
    intro Q r K0 K hW l1 l2 l3 l5 l7 l9 l10 l11 l13 l14 l15 hJ
    rw [s_222_214, s_222_215, s_222_217 (b := 61)]
    refine ⟨ob_61 (by decide), by rw [stk_n]; decide, hway r K hW.1 hW.2.1 _ ⟨w, rfl, ?_⟩⟩
    rw [s_222_220, s_222_222]
    exact hJ
  by_cases w0 : w = 0
  · obtain ⟨a, z, ha, hgo⟩ := U270 hb hM h34 x y (w32 (-vy)) h0 h1 r0 r1 d0 d1 s0 s1
    refine ⟨a, z, ha, fun r K0 K hW h36 h37 l1 l2 l3 l5 l7 l9 l10 l11 l13 l14 l15 => run _ r K0 K hW l1 l2 l3 l5 l7 l9 l10 l11 l13 l14 l15 ?_⟩
    rw [s_222_224]
    refine ⟨fun g => absurd w0 g, fun _ => ?_⟩
    rw [s_222_227, s_222_229]
    refine ⟨by rw [stk_n]; decide, hdy (r + 1) K _ ⟨vy, rfl, ?_⟩⟩
    rw [s_222_232, s_222_233]
    exact hgo r K0 K hW h36 h37 l1 l2 l3 l5 l7 l9 l10 l11 l14 l15 w
  · by_cases w1 : w = 1
    · obtain ⟨a, z, ha, hgo⟩ := U270 hb hM h34 x y vx h0 h1 r0 r1 d0 d1 s0 s1
      refine ⟨a, z, ha, fun r K0 K hW h36 h37 l1 l2 l3 l5 l7 l9 l10 l11 l13 l14 l15 => run _ r K0 K hW l1 l2 l3 l5 l7 l9 l10 l11 l13 l14 l15 ?_⟩
      rw [s_222_224]
      refine ⟨fun _ => ?_, fun g => absurd w0 g⟩
      rw [s_222_236, s_222_238, s_222_239]
      refine ⟨fun g => absurd w1 g, fun _ => ?_⟩
      rw [s_222_242, s_222_244]
      refine ⟨by rw [stk_n]; decide, hdx (r + 1) K _ ⟨vx, rfl, ?_⟩⟩
      rw [s_222_247]
      exact hgo r K0 K hW h36 h37 l1 l2 l3 l5 l7 l9 l10 l11 l14 l15 w
    · by_cases w2 : w = 2
      · obtain ⟨a, z, ha, hgo⟩ := U270 hb hM h34 x y vy h0 h1 r0 r1 d0 d1 s0 s1
        refine ⟨a, z, ha, fun r K0 K hW h36 h37 l1 l2 l3 l5 l7 l9 l10 l11 l13 l14 l15 => run _ r K0 K hW l1 l2 l3 l5 l7 l9 l10 l11 l13 l14 l15 ?_⟩
        rw [s_222_224]
        refine ⟨fun _ => ?_, fun g => absurd w0 g⟩
        rw [s_222_236, s_222_238, s_222_239]
        refine ⟨fun _ => ?_, fun g => absurd w1 g⟩
        rw [s_222_250, s_222_252, s_222_253]
        refine ⟨fun g => absurd w2 g, fun _ => ?_⟩
        rw [s_222_256, s_222_258]
        refine ⟨by rw [stk_n]; decide, hdy (r + 1) K _ ⟨vy, rfl, ?_⟩⟩
        rw [s_222_261]
        exact hgo r K0 K hW h36 h37 l1 l2 l3 l5 l7 l9 l10 l11 l14 l15 w
      · obtain ⟨a, z, ha, hgo⟩ := U270 hb hM h34 x y (w32 (-vx)) h0 h1 r0 r1 d0 d1 s0 s1
        refine ⟨a, z, ha, fun r K0 K hW h36 h37 l1 l2 l3 l5 l7 l9 l10 l11 l13 l14 l15 => run _ r K0 K hW l1 l2 l3 l5 l7 l9 l10 l11 l13 l14 l15 ?_⟩
        rw [s_222_224]
        refine ⟨fun _ => ?_, fun g => absurd w0 g⟩
        rw [s_222_236, s_222_238, s_222_239]
        refine ⟨fun _ => ?_, fun g => absurd w1 g⟩
        rw [s_222_250, s_222_252, s_222_253]
        refine ⟨fun _ => ?_, fun g => absurd w2 g⟩
        rw [s_222_264, s_222_266]
        refine ⟨by rw [stk_n]; decide, hdx (r + 1) K _ ⟨vx, rfl, ?_⟩⟩
        rw [s_222_269]
        exact hgo r K0 K hW h36 h37 l1 l2 l3 l5 l7 l9 l10 l11 l14 l15 w
theorem UB {b : Nat} (hb : b ≤ 1) {M : pM} (hM : gI M) (h34 : M 61 34 = (b : Int)) {g c t h : Int} (g0 : 0 ≤ g) (g1 : g ≤ 3) (c0 : 0 ≤ c) (c1 : c ≤ 63) (t0 : 0 ≤ t) (t1 : t ≤ 35) (h0 : 0 ≤ h) (h1 : h ≤ 40) {m : Int} (m0 : 1 ≤ m) (m1 : m ≤ 24) : ∃ a c' t' h' : Int, (a = 0 ∨ (a = 1 ∧ (0 ≤ c' ∧ c' ≤ 63) ∧ (t + 1 ≤ t' ∧ t' ≤ 36) ∧ (0 ≤ h' ∧ h' ≤ 40))) ∧ ∀ (r : Nat) (K0 K : pM), KW b M K0 K → ∀ (l8 l9 l10 l11 l12 l13 l14 l15 : Option pv), J (OJ (r + 1 + 1)) 222 119 (QLd a c' t' h' K0) 112 [some (vr 62), some (vi g), some (vi c), some (vi t), some (vi h), some (vi m), some (vi (t / 6)), some (vi (4 * (4 * (b : Int) + g))), l8, l9, l10, l11, l12, l13, l14, l15] [] 119 K := by
  obtain ⟨vx, hvx, hdx⟩ := U220 (d := (m - 1) / 3) (by omega) (by omega)
  obtain ⟨vy, hvy, hdy⟩ := U221 (d := (m - 1) / 3) (by omega) (by omega)
  have run : ∀ (Q : pQ) (r : Nat) (K : pM), ∀ (l8 l9 l10 l11 l12 l13 l14 l15 : Option pv), J (OJ (r + 1 + 1)) 222 119 Q 152 [some (vr 62), some (vi g), some (vi c), some (vi t), some (vi h), some (vi m), some (vi (t / 6)), some (vi (4 * (4 * (b : Int) + g))), some (vi ((m - 1) / 3)), some (vi ((m - 1) % 3)), some (vi (c % 8 + vx)), some (vi (c / 8 + vy)), l12, l13, l14, l15] [] 119 K → J (OJ (r + 1 + 1)) 222 119 Q 112 [some (vr 62), some (vi g), some (vi c), some (vi t), some (vi h), some (vi m), some (vi (t / 6)), some (vi (4 * (4 * (b : Int) + g))), l8, l9, l10, l11, l12, l13, l14, l15] [] 119 K := by
    intro Q r K l8 l9 l10 l11 l12 l13 l14 l15 hJ
    rw [s_222_112, s_222_114, s_222_115, w32_id (by unfold r32; omega), s_222_116, s_222_117]
    refine ⟨by decide, ?_⟩
    rw [tdv3 (by omega) (by omega), s_222_118, s_222_120, s_222_122, s_222_123, w32_id (by unfold r32; omega), s_222_124, s_222_125]
    refine ⟨by decide, ?_⟩
    rw [Int.tmod_eq_emod_of_nonneg (show (0 : Int) ≤ m - 1 by omega), s_222_126, s_222_128, s_222_129, s_222_131]
    refine ⟨by decide, ?_⟩
    rw [Int.tmod_eq_emod_of_nonneg c0, s_222_132, s_222_134]
    refine ⟨by rw [stk_i, stk_n]; decide, hdx (r + 1) K _ ⟨vx, rfl, ?_⟩⟩
    rw [s_222_137, w32_id (by unfold r32; omega), s_222_138, s_222_140, s_222_141, s_222_143]
    refine ⟨by decide, ?_⟩
    rw [tdv8 c0 (by omega), s_222_144, s_222_146]
    refine ⟨by rw [stk_i, stk_n]; decide, hdy (r + 1) K _ ⟨vy, rfl, ?_⟩⟩
    rw [s_222_149, w32_id (by unfold r32; omega), s_222_150]
    exact hJ
  have out : ∀ (r : Nat) (K0 K : pM), KW b M K0 K → ∀ (l1 l2 l3 l4 l5 l6 l7 l8 l9 l10 l11 l12 l13 l14 l15 : Option pv), J (OJ (r + 1 + 1)) 222 119 (QLd 0 0 0 0 K0) 176 [some (vr 62), l1, l2, l3, l4, l5, l6, l7, l8, l9, l10, l11, l12, l13, l14, l15] [] 119 K := by
    intro r K0 K hW l1 l2 l3 l4 l5 l6 l7 l8 l9 l10 l11 l12 l13 l14 l15
    rw [s_222_176, s_222_177]
    exact ⟨rfl, Or.inl rfl, rfl, hW.1, hW.2.2, fun h => absurd h (by decide)⟩
  by_cases x0 : c % 8 + vx < 0
  · refine ⟨0, 0, 0, 0, Or.inl rfl, fun r K0 K hW l8 l9 l10 l11 l12 l13 l14 l15 => run _ r K l8 l9 l10 l11 l12 l13 l14 l15 ?_⟩
    rw [s_222_152, s_222_154]
    exact ⟨fun _ => out r K0 K hW _ _ _ _ _ _ _ _ _ _ _ _ _ _ _, fun g => absurd x0 g⟩
  by_cases x1 : 8 ≤ c % 8 + vx
  · refine ⟨0, 0, 0, 0, Or.inl rfl, fun r K0 K hW l8 l9 l10 l11 l12 l13 l14 l15 => run _ r K l8 l9 l10 l11 l12 l13 l14 l15 ?_⟩
    rw [s_222_152, s_222_154]
    refine ⟨fun g => absurd g x0, fun _ => ?_⟩
    rw [s_222_157, s_222_159, s_222_161]
    exact ⟨fun _ => out r K0 K hW _ _ _ _ _ _ _ _ _ _ _ _ _ _ _, fun g => absurd x1 g⟩
  by_cases y0 : c / 8 + vy < 0
  · refine ⟨0, 0, 0, 0, Or.inl rfl, fun r K0 K hW l8 l9 l10 l11 l12 l13 l14 l15 => run _ r K l8 l9 l10 l11 l12 l13 l14 l15 ?_⟩
    rw [s_222_152, s_222_154]
    refine ⟨fun g => absurd g x0, fun _ => ?_⟩
    rw [s_222_157, s_222_159, s_222_161]
    refine ⟨fun g => absurd g x1, fun _ => ?_⟩
    rw [s_222_164, s_222_166]
    exact ⟨fun _ => out r K0 K hW _ _ _ _ _ _ _ _ _ _ _ _ _ _ _, fun g => absurd y0 g⟩
  by_cases y1 : 8 ≤ c / 8 + vy
  · refine ⟨0, 0, 0, 0, Or.inl rfl, fun r K0 K hW l8 l9 l10 l11 l12 l13 l14 l15 => run _ r K l8 l9 l10 l11 l12 l13 l14 l15 ?_⟩
    rw [s_222_152, s_222_154]
    refine ⟨fun g => absurd g x0, fun _ => ?_⟩
    rw [s_222_157, s_222_159, s_222_161]
    refine ⟨fun g => absurd g x1, fun _ => ?_⟩
    rw [s_222_164, s_222_166]
    refine ⟨fun g => absurd g y0, fun _ => ?_⟩
    rw [s_222_169, s_222_171, s_222_173]
    refine ⟨fun g => absurd y1 (by omega), fun _ => ?_⟩
    exact out r K0 K hW _ _ _ _ _ _ _ _ _ _ _ _ _ _ _
  have hsk := gb_81 hM (k := (4 * (4 * (b : Int) + g) + 1 + (m - 1) % 3).toNat) (by omega)
  obtain ⟨sk, hsk1⟩ : ∃ sk, sk = M 81 (4 * (4 * (b : Int) + g) + 1 + (m - 1) % 3).toNat := ⟨_, rfl⟩
  rw [← hsk1] at hsk
  obtain ⟨a, z, ha, hgo⟩ := U214 hb hM h34 (c % 8 + vx + 8 * (c / 8 + vy)) (t + 3 - (m - 1) % 3) (hr := t / 6) (d := (m - 1) / 3) (s := sk) h0 h1 (by omega) (by omega) (by omega) (by omega) hsk.1 hsk.2
  refine ⟨a, c % 8 + vx + 8 * (c / 8 + vy), t + 3 - (m - 1) % 3, z, by omega, fun r K0 K hW l8 l9 l10 l11 l12 l13 l14 l15 => run _ r K l8 l9 l10 l11 l12 l13 l14 l15 ?_⟩
  rw [s_222_152, s_222_154]
  refine ⟨fun g => absurd g x0, fun _ => ?_⟩
  rw [s_222_157, s_222_159, s_222_161]
  refine ⟨fun g => absurd g x1, fun _ => ?_⟩
  rw [s_222_164, s_222_166]
  refine ⟨fun g => absurd g y0, fun _ => ?_⟩
  rw [s_222_169, s_222_171, s_222_173]
  refine ⟨fun _ => ?_, fun g => absurd (by omega) g⟩
  rw [s_222_178, s_222_179, s_222_181, s_222_183, s_222_185, w32_id (by unfold r32; omega), s_222_186, w32_id (by unfold r32; omega), s_222_187 (a := 61)]
  refine ⟨ob_61 (by decide), ?_⟩
  obtain ⟨K1, hK1, hW1, e36⟩ : ∃ K1, K1 = st K 61 36 (c % 8 + vx + 8 * (c / 8 + vy)) ∧ KW b M K0 K1 ∧ K1 61 36 = c % 8 + vx + 8 * (c / 8 + vy) := ⟨_, rfl, KW_st hb hW (by decide) (by decide) (by unfold r32; omega), st_i⟩
  rw [← hK1, s_222_190, s_222_191, s_222_192, s_222_193, w32_id (by unfold r32; omega), s_222_194, s_222_196, w32_id (by unfold r32; omega), s_222_197 (a := 61)]
  refine ⟨ob_61 (by decide), ?_⟩
  obtain ⟨K2, hK2, hW2, f36, f37⟩ : ∃ K2, K2 = st K1 61 37 (t + 3 - (m - 1) % 3) ∧ KW b M K0 K2 ∧ K2 61 36 = c % 8 + vx + 8 * (c / 8 + vy) ∧ K2 61 37 = t + 3 - (m - 1) % 3 := ⟨_, rfl, KW_st hb hW1 (by decide) (by decide) (by unfold r32; omega), by rw [st_o (by decide)]; exact e36, st_i⟩
  rw [← hK2, s_222_200, s_222_201 (a := 61)]
  refine ⟨ob_61 (by decide), ?_⟩
  rw [rv_28 hW2.1, s_222_204, s_222_206, s_222_207, w32_id (by unfold r32; omega), s_222_208, s_222_210, w32_id (by unfold r32; omega), s_222_211 (a := 81)]
  refine ⟨by omega, by rw [al_81 (by decide)]; omega, ?_⟩
  rw [hW2.2.1 81 _ (rl_81 hb (by omega) (by omega)), ← hsk1, s_222_212]
  exact hgo r K0 K2 hW2 f36 f37 (some (vi g)) (some (vi c)) (some (vi t)) (some (vi m)) (some (vi (4 * (4 * (b : Int) + g)))) (some (vi ((m - 1) % 3))) (some (vi (c % 8 + vx))) (some (vi (c / 8 + vy))) l13 l14 l15
theorem U222 {b : Nat} (hb : b ≤ 1) {M : pM} (hM : gI M) (h34 : M 61 34 = (b : Int)) {g c t h m : Int} (g0 : 0 ≤ g) (g1 : g ≤ 3) (c0 : 0 ≤ c) (c1 : c ≤ 63) (t0 : 0 ≤ t) (t1 : t ≤ 36) (h0 : 0 ≤ h) (h1 : h ≤ 40) (m0 : 0 ≤ m) (m1 : m ≤ 24) : ∃ a c' t' h' : Int, (a = 0 ∨ (a = 1 ∧ (0 ≤ c' ∧ c' ≤ 63) ∧ (t + 1 ≤ t' ∧ t' ≤ 36) ∧ (0 ≤ h' ∧ h' ≤ 40))) ∧ ∀ (N : pM), gI N → agL (RLb b) M N → OJ 20 222 [vr 62, vi g, vi c, vi t, vi h, vi m] 119 N (QLd a c' t' h' N) := by
  have opn : ∀ (N : pM) (Q : pQ), J (OJ 19) 222 119 Q 0 [some (vr 62), some (vi g), some (vi c), some (vi t), some (vi h), some (vi m), none, none, none, none, none, none, none, none, none, none] [] 119 N → OJ 20 222 [vr 62, vi g, vi c, vi t, vi h, vi m] 119 N Q := fun N Q hJ => ⟨by decide +kernel, Nat.le_of_ble_eq_true rfl, hJ⟩
  by_cases ht : t < 36
  · have run : ∀ (K : pM) (Q : pQ), gI K → agL (RLb b) M K → (∀ K1, KW b M K K1 → K1 61 36 = c → J (OJ 19) 222 119 Q 33 [some (vr 62), some (vi g), some (vi c), some (vi t), some (vi h), some (vi m), some (vi (t / 6)), some (vi (4 * (4 * (b : Int) + g))), none, none, none, none, none, none, none, none] [vi m] 119 K1) → OJ 20 222 [vr 62, vi g, vi c, vi t, vi h, vi m] 119 K Q := by
      intro K Q hG ha hJ
      have e34 : K 61 34 = (b : Int) := by rw [ha 61 34 (rl_b hb)]; exact h34
      apply opn
      rw [s_222_0, s_222_1, s_222_3]
      refine ⟨fun _ => ?_, fun x => absurd ht x⟩
      rw [s_222_8, s_222_9, s_222_11]
      refine ⟨by decide, ?_⟩
      rw [tdv6 t0 (by omega), s_222_12, s_222_14, s_222_15, s_222_16, s_222_17 (a := 61)]
      refine ⟨ob_61 (by decide), ?_⟩
      rw [e34, s_222_20, w32_id (by unfold r32; omega), s_222_21, s_222_22, w32_id (by unfold r32; omega), s_222_23, w32_id (by unfold r32; omega), s_222_24, s_222_26, s_222_27, s_222_28 (a := 61)]
      refine ⟨ob_61 (by decide), ?_⟩
      rw [s_222_31]
      exact hJ _ (KW_st hb ⟨hG, ha, fun _ _ _ => rfl⟩ (by decide) (by decide) (by unfold r32; omega)) st_i
    by_cases hm : m = 0
    · subst hm
      obtain ⟨a, c', t', h', hr, hgo⟩ := UA hb hM h34 g0 g1 c0 c1 t0 (by omega) h0 h1
      refine ⟨a, c', t', h', hr, fun N hN ha => run N _ hN ha (fun K1 hW h36 => ?_)⟩
      rw [s_222_33]
      exact ⟨fun x => absurd rfl x, fun _ => hgo 17 N K1 hW h36 _ _ _ _ _ _ _ _⟩
    · obtain ⟨a, c', t', h', hr, hgo⟩ := UB hb hM h34 g0 g1 c0 c1 t0 (by omega) h0 h1 (m := m) (by omega) m1
      refine ⟨a, c', t', h', hr, fun N hN ha => run N _ hN ha (fun K1 hW h36 => ?_)⟩
      rw [s_222_33]
      exact ⟨fun _ => hgo 17 N K1 hW _ _ _ _ _ _ _ _, fun x => absurd hm x⟩
  · refine ⟨0, 0, 0, 0, Or.inl rfl, fun N hN ha => opn N _ ?_⟩
    rw [s_222_0, s_222_1, s_222_3]
    refine ⟨fun x => absurd x ht, fun _ => ?_⟩
    rw [s_222_6, s_222_7]
    exact ⟨rfl, Or.inl rfl, rfl, hN, fun _ _ _ => rfl, fun x => absurd x (by decide)⟩
