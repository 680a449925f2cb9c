theorem agfr {b : Nat} (hb : b ≤ 1) {M K : pM} (h : fr [(61, 36, 38)] M K) : agL (RLb b) M K := by
  intro c k hk
  refine h c k ?_
  cases hq : inM [(61, 36, 38)] c k with
  | false => rfl
  | true =>
    exfalso
    obtain ⟨e, he, h1⟩ := List.any_eq_true.mp hq
    have e9 := List.mem_singleton.mp he
    subst e9
    obtain ⟨h1, h3⟩ := and_t h1
    obtain ⟨h1, h2⟩ := and_t h1
    have h1 := beq_t h1
    have h2 : 36 ≤ k := Nat.le_of_ble_eq_true h2
    have h3 : k ≤ 38 := Nat.le_of_ble_eq_true h3
    subst h1
    rcases (show b = 0 ∨ b = 1 by omega) with rfl | rfl <;> rcases (show k = 36 ∨ k = 37 ∨ k = 38 by omega) with rfl | rfl | rfl <;> exact absurd hk (by decide)
theorem agfp {M K : pM} (h : fr [(61, 36, 38)] M K) : agL PTl M K := by
  intro c k hk
  refine h c k ?_
  cases hq : inM [(61, 36, 38)] c k with
  | false => rfl
  | true =>
    exfalso
    obtain ⟨e, he, h1⟩ := List.any_eq_true.mp hq
    have e9 := List.mem_singleton.mp he
    subst e9
    obtain ⟨h1, h3⟩ := and_t h1
    obtain ⟨h1, h2⟩ := and_t h1
    have h1 := beq_t h1
    have h2 : 36 ≤ k := Nat.le_of_ble_eq_true h2
    have h3 : k ≤ 38 := Nat.le_of_ble_eq_true h3
    subst h1
    rcases (show k = 36 ∨ k = 37 ∨ k = 38 by omega) with rfl | rfl | rfl <;> exact absurd hk (by decide)
theorem hold_356 : Hold k_356 := by
  intro r hr ρ As M hA hm hB hF hG
  obtain ⟨A0, rfl, hA1⟩ := sm_R hA
  obtain ⟨A1, rfl, hA11⟩ := sm_I hA1
  obtain ⟨A2, rfl, hA111⟩ := sm_I hA11
  obtain ⟨A3, rfl, hA1111⟩ := sm_I hA111
  obtain ⟨A4, rfl, hA11111⟩ := sm_I hA1111
  obtain ⟨A5, rfl, hA111111⟩ := sm_I hA11111
  cases A5 with
  | cons _ _ => exact hA111111.elim
  | nil =>
    rw [show ev ρ ((0 : Int), ([(1, 1)] : List (Nat × Int))) = ρ 1 from by show 0 + (1 * ρ 1 + 0) = _; omega, show ev ρ ((0 : Int), ([(2, 1)] : List (Nat × Int))) = ρ 2 from by show 0 + (1 * ρ 2 + 0) = _; omega, show ev ρ ((0 : Int), ([(3, 1)] : List (Nat × Int))) = ρ 3 from by show 0 + (1 * ρ 3 + 0) = _; omega, show ev ρ ((0 : Int), ([(4, 1)] : List (Nat × Int))) = ρ 4 from by show 0 + (1 * ρ 4 + 0) = _; omega, show ev ρ ((0 : Int), ([(5, 1)] : List (Nat × Int))) = ρ 5 from by show 0 + (1 * ρ 5 + 0) = _; omega]
    have b0 : 0 ≤ ρ 0 ∧ ρ 0 ≤ 3 := hB _ List.mem_cons_self
    have b1 : 0 ≤ ρ 1 ∧ ρ 1 ≤ 3 := hB _ (List.mem_cons_of_mem _ List.mem_cons_self)
    have b2 : 0 ≤ ρ 2 ∧ ρ 2 ≤ 63 := hB _ (List.mem_cons_of_mem _ (List.mem_cons_of_mem _ List.mem_cons_self))
    have b3 : 0 ≤ ρ 3 ∧ ρ 3 ≤ 36 := hB _ (List.mem_cons_of_mem _ (List.mem_cons_of_mem _ (List.mem_cons_of_mem _ List.mem_cons_self)))
    have b4 : 0 ≤ ρ 4 ∧ ρ 4 ≤ 40 := hB _ (List.mem_cons_of_mem _ (List.mem_cons_of_mem _ (List.mem_cons_of_mem _ (List.mem_cons_of_mem _ List.mem_cons_self))))
    have b5 : 0 ≤ ρ 5 ∧ ρ 5 ≤ 24 := hB _ (List.mem_cons_of_mem _ (List.mem_cons_of_mem _ (List.mem_cons_of_mem _ (List.mem_cons_of_mem _ (List.mem_cons_of_mem _ List.mem_cons_self)))))
    have h34 := cvm (c := 61) (by decide) (x' := (34 : Int)) (y' := (0 : Int)) (by show 34 + 0 = _; omega) (by show 0 + 0 = _; omega) (hm _ List.mem_cons_self)
    have h43 := cvm (c := 61) (by decide) (x' := (43 : Int)) (y' := ((ρ 1))) (by show 43 + 0 = _; omega) (by show 0 + (1 * ρ 1 + 0) = _; omega) (hm _ (List.mem_cons_of_mem _ List.mem_cons_self))
    have h34 : M 61 34 = ((0 : Nat) : Int) := h34.2
    have h43 : M 61 43 = ρ 1 := h43.2
    have hr : (21 : Nat) ≤ r := hr
    obtain ⟨a, c', t', h', ha, hgo⟩ := U222 (b := 0) (by decide) hG h34 (g := ρ 1) (c := ρ 2) (t := ρ 3) (h := ρ 4) (m := ρ 5) (by omega) (by omega) (by omega) (by omega) (by omega) (by omega) (by omega) (by omega) (by omega) (by omega)
    refine OJ_le (show 20 ≤ r by omega) (OJ_mono (fun x K' hq => ?_) (hgo M hG (fun _ _ _ => rfl)))
    obtain ⟨q1, q2, q3, q4⟩ := hq
    refine ⟨q2, q3, ?_⟩
    rcases ha with ha | ⟨ha, z1, z2, z3⟩
    · subst ha
      exact ⟨_, (List.mem_cons_of_mem _ List.mem_cons_self), ρ, fun _ _ => rfl, ⟨_, q1, rfl⟩, okM_n, okB_n, okF_n⟩
    · subst ha
      obtain ⟨q5, q6, q7⟩ := q4 rfl
      have hld : ldT 0 M (ρ 1) (ρ 2) (ρ 3) (ρ 4) (ρ 5) c' t' h' := fun N hN hag => OJ_mono (fun x N' hx => ⟨hx.1, hx.2.1, hx.2.2.1, hx.2.2.2 rfl⟩) (hgo N hN hag)
      have hle : HP 15 (spo (ρ 3) (ρ 2) (ρ 4) (ρ 0)) (ρ 5) K' := ⟨ρ 3, ρ 2, ρ 4, ρ 0, ⟨⟨by omega, by omega⟩, ⟨by omega, by omega⟩, ⟨by omega, by omega⟩, by omega, by omega⟩, rfl, by omega, by omega, by rw [q6]; omega, by rw [q5, q6, q7, q3 61 43 rfl, h43]; exact ldT_c (agfr (by decide) q3) hld⟩
      obtain ⟨ρ', hag, a0, a1, a2, a3, a4, a5, a6, a7, a8⟩ : ∃ ρ' : Nat → Int, agr 6 ρ ρ' ∧ ρ' 0 = ρ 0 ∧ ρ' 1 = ρ 1 ∧ ρ' 2 = ρ 2 ∧ ρ' 3 = ρ 3 ∧ ρ' 4 = ρ 4 ∧ ρ' 5 = ρ 5 ∧ ρ' 6 = c' ∧ ρ' 7 = t' ∧ ρ' 8 = h' := ⟨fun s => if s = 8 then h' else if s = 7 then t' else if s = 6 then c' else ρ s, fun s hs => by show (if s = 8 then h' else if s = 7 then t' else if s = 6 then c' else ρ s) = _; rw [if_neg (by omega)]; rw [if_neg (by omega)]; rw [if_neg (by omega)], rfl, rfl, rfl, rfl, rfl, rfl, rfl, rfl, rfl⟩
      exact ⟨_, List.mem_cons_self, ρ', hag, ⟨_, q1, rfl⟩, (okM_c (pvm (c := 61) (by decide) (x' := 36) (y' := c') (by show 36 + 0 = _; omega) (by show 0 + (1 * ρ' 6 + 0) = _; omega) ⟨by decide, q5⟩) (okM_c (pvm (c := 61) (by decide) (x' := 37) (y' := t') (by show 37 + 0 = _; omega) (by show 0 + (1 * ρ' 7 + 0) = _; omega) ⟨by decide, q6⟩) (okM_c (pvm (c := 61) (by decide) (x' := 38) (y' := h') (by show 38 + 0 = _; omega) (by show 0 + (1 * ρ' 8 + 0) = _; omega) ⟨by decide, q7⟩) (okM_c (pvp 15 (x' := spo (ρ 3) (ρ 2) (ρ 4) (ρ 0)) (y' := ρ 5) (by show 0 + (1 * ρ' 0 + (164 * ρ' 2 + (10496 * ρ' 3 + (4 * ρ' 4 + 0)))) = _; unfold spo; omega) (by show 0 + (1 * ρ' 5 + 0) = _; omega) hle) okM_n)))), (okB_c (by omega) (okB_c (by omega) (okB_c (by omega) okB_n))), (okF_c (by show 0 ≤ (-1) + ((-1) * ρ' 3 + (1 * ρ' 7 + 0)); omega) okF_n)⟩
theorem hold_357 : Hold k_357 := by
  intro r hr ρ As M hA hm hB hF hG
  obtain ⟨A0, rfl, hA1⟩ := sm_R hA
  obtain ⟨A1, rfl, hA11⟩ := sm_I hA1
  obtain ⟨A2, rfl, hA111⟩ := sm_I hA11
  obtain ⟨A3, rfl, hA1111⟩ := sm_I hA111
  obtain ⟨A4, rfl, hA11111⟩ := sm_I hA1111
  obtain ⟨A5, rfl, hA111111⟩ := sm_I hA11111
  cases A5 with
  | cons _ _ => exact hA111111.elim
  | nil =>
    rw [show ev ρ ((0 : Int), ([(2, 1)] : List (Nat × Int))) = ρ 2 from by show 0 + (1 * ρ 2 + 0) = _; omega, show ev ρ ((0 : Int), ([(3, 1)] : List (Nat × Int))) = ρ 3 from by show 0 + (1 * ρ 3 + 0) = _; omega, show ev ρ ((0 : Int), ([(4, 1)] : List (Nat × Int))) = ρ 4 from by show 0 + (1 * ρ 4 + 0) = _; omega, show ev ρ ((0 : Int), ([(5, 1)] : List (Nat × Int))) = ρ 5 from by show 0 + (1 * ρ 5 + 0) = _; omega, show ev ρ ((0 : Int), ([(6, 1)] : List (Nat × Int))) = ρ 6 from by show 0 + (1 * ρ 6 + 0) = _; omega]
    have b0 : 0 ≤ ρ 0 ∧ ρ 0 ≤ 3 := hB _ List.mem_cons_self
    have b1 : 0 ≤ ρ 1 ∧ ρ 1 ≤ 1000 := hB _ (List.mem_cons_of_mem _ List.mem_cons_self)
    have b2 : 0 ≤ ρ 2 ∧ ρ 2 ≤ 3 := hB _ (List.mem_cons_of_mem _ (List.mem_cons_of_mem _ List.mem_cons_self))
    have b3 : 0 ≤ ρ 3 ∧ ρ 3 ≤ 63 := hB _ (List.mem_cons_of_mem _ (List.mem_cons_of_mem _ (List.mem_cons_of_mem _ List.mem_cons_self)))
    have b4 : 0 ≤ ρ 4 ∧ ρ 4 ≤ 36 := hB _ (List.mem_cons_of_mem _ (List.mem_cons_of_mem _ (List.mem_cons_of_mem _ (List.mem_cons_of_mem _ List.mem_cons_self))))
    have b5 : 0 ≤ ρ 5 ∧ ρ 5 ≤ 40 := hB _ (List.mem_cons_of_mem _ (List.mem_cons_of_mem _ (List.mem_cons_of_mem _ (List.mem_cons_of_mem _ (List.mem_cons_of_mem _ List.mem_cons_self)))))
    have b6 : 0 ≤ ρ 6 ∧ ρ 6 ≤ 24 := hB _ (List.mem_cons_of_mem _ (List.mem_cons_of_mem _ (List.mem_cons_of_mem _ (List.mem_cons_of_mem _ (List.mem_cons_of_mem _ (List.mem_cons_of_mem _ List.mem_cons_self))))))
    have h43 := cvm (c := 61) (by decide) (x' := (43 : Int)) (y' := ((ρ 2))) (by show 43 + 0 = _; omega) (by show 0 + (1 * ρ 2 + 0) = _; omega) (hm _ (List.mem_cons_of_mem _ List.mem_cons_self))
    have hD := cvp 17 (x' := ((ρ 0) + 164 * (ρ 3) + 10496 * (ρ 4) + 4 * (ρ 5))) (y' := ((ρ 6))) (by show 0 + (1 * ρ 0 + (164 * ρ 3 + (10496 * ρ 4 + (4 * ρ 5 + 0)))) = _; omega) (by show 0 + (1 * ρ 6 + 0) = _; omega) (hm _ (List.mem_cons_of_mem _ (List.mem_cons_of_mem _ List.mem_cons_self)))
    have h88 := cvm (c := 88) (by decide) (x' := ((ρ 0) + 164 * (ρ 3) + 10496 * (ρ 4) + 4 * (ρ 5))) (y' := ((ρ 1))) (by show 0 + (1 * ρ 0 + (164 * ρ 3 + (10496 * ρ 4 + (4 * ρ 5 + 0)))) = _; omega) (by show 0 + (1 * ρ 1 + 0) = _; omega) (hm _ (List.mem_cons_of_mem _ (List.mem_cons_of_mem _ (List.mem_cons_of_mem _ List.mem_cons_self))))
    have h43 : M 61 43 = ρ 2 := h43.2
    have hr : (21 : Nat) ≤ r := hr
    obtain ⟨t2, c2, h2, r2, g1, g2, g3, g4, z, g5, g6⟩ := hD
    have hrn : rng (ρ 4) (ρ 3) (ρ 5) (ρ 0) := ⟨⟨by omega, by omega⟩, ⟨by omega, by omega⟩, ⟨by omega, by omega⟩, by omega, by omega⟩
    have hsp : spo (ρ 4) (ρ 3) (ρ 5) (ρ 0) = spo t2 c2 h2 r2 := by rw [← g2]; unfold spo; omega
    obtain ⟨x1, x2, x3, x4⟩ := spo_inj hrn g1 hsp
    subst x1; subst x2; subst x3; subst x4
    obtain ⟨t', c', h', r', d1, d2, d3, d4, d5⟩ := g5
    rw [h43] at d3
    refine OJ_le (show 20 ≤ r by omega) (OJ_mono (fun x K' hq => ?_) (d3 M hG (fun _ _ _ => rfl)))
    obtain ⟨q1, q2, q3, q5, q6, q7⟩ := hq
    refine ⟨q2, q3, ?_⟩
    obtain ⟨⟨u1, u2⟩, ⟨u3, u4⟩, ⟨u5, u6⟩, u7, u8⟩ := d1
    have hwr : HP 21 (spo (ρ 4) (ρ 3) (ρ 5) (ρ 0)) (ρ 1) K' := ⟨ρ 4, ρ 3, ρ 5, ρ 0, hrn, rfl, r', by rw [q5, q6, q7]; exact ⟨⟨u1, u2⟩, ⟨u3, u4⟩, ⟨u5, u6⟩, u7, u8⟩, by rw [q5]; exact rdT_c (agfp q3) d4, by rw [q5, q6, q7, ← d5, q3 88 _ rfl, g6]; exact h88.2⟩
    obtain ⟨ρ', hag, a0, a1, a2, a3, a4, a5, a6, a7, a8, a9⟩ : ∃ ρ' : Nat → Int, agr 7 ρ ρ' ∧ ρ' 0 = ρ 0 ∧ ρ' 1 = ρ 1 ∧ ρ' 2 = ρ 2 ∧ ρ' 3 = ρ 3 ∧ ρ' 4 = ρ 4 ∧ ρ' 5 = ρ 5 ∧ ρ' 6 = ρ 6 ∧ ρ' 7 = c' ∧ ρ' 8 = t' ∧ ρ' 9 = h' := ⟨fun s => if s = 9 then h' else if s = 8 then t' else if s = 7 then c' else ρ s, fun s hs => by show (if s = 9 then h' else if s = 8 then t' else if s = 7 then c' else ρ s) = _; rw [if_neg (by omega)]; rw [if_neg (by omega)]; rw [if_neg (by omega)], rfl, rfl, rfl, rfl, rfl, rfl, rfl, rfl, rfl, rfl⟩
    exact ⟨_, List.mem_cons_self, ρ', hag, ⟨_, q1, rfl⟩, (okM_c (pvm (c := 61) (by decide) (x' := 36) (y' := c') (by show 36 + 0 = _; omega) (by show 0 + (1 * ρ' 7 + 0) = _; omega) ⟨by decide, q5⟩) (okM_c (pvm (c := 61) (by decide) (x' := 37) (y' := t') (by show 37 + 0 = _; omega) (by show 0 + (1 * ρ' 8 + 0) = _; omega) ⟨by decide, q6⟩) (okM_c (pvm (c := 61) (by decide) (x' := 38) (y' := h') (by show 38 + 0 = _; omega) (by show 0 + (1 * ρ' 9 + 0) = _; omega) ⟨by decide, q7⟩) (okM_c (pvp 21 (x' := spo (ρ 4) (ρ 3) (ρ 5) (ρ 0)) (y' := ρ 1) (by show 0 + (1 * ρ' 0 + (164 * ρ' 3 + (10496 * ρ' 4 + (4 * ρ' 5 + 0)))) = _; unfold spo; omega) (by show 0 + (1 * ρ' 1 + 0) = _; omega) hwr) okM_n)))), (okB_c (by omega) (okB_c (by omega) (okB_c (by omega) okB_n))), (okF_c (by show 0 ≤ (-1) + ((-1) * ρ' 4 + (1 * ρ' 8 + 0)); omega) okF_n)⟩
theorem hold_363 : Hold k_363 := by
  intro r hr ρ As M hA hm hB hF hG
  obtain ⟨A0, rfl, hA1⟩ := sm_R hA
  obtain ⟨A1, rfl, hA11⟩ := sm_I hA1
  obtain ⟨A2, rfl, hA111⟩ := sm_I hA11
  obtain ⟨A3, rfl, hA1111⟩ := sm_I hA111
  obtain ⟨A4, rfl, hA11111⟩ := sm_I hA1111
  obtain ⟨A5, rfl, hA111111⟩ := sm_I hA11111
  cases A5 with
  | cons _ _ => exact hA111111.elim
  | nil =>
    rw [show ev ρ ((0 : Int), ([(1, 1)] : List (Nat × Int))) = ρ 1 from by show 0 + (1 * ρ 1 + 0) = _; omega, show ev ρ ((0 : Int), ([(2, 1)] : List (Nat × Int))) = ρ 2 from by show 0 + (1 * ρ 2 + 0) = _; omega, show ev ρ ((0 : Int), ([(3, 1)] : List (Nat × Int))) = ρ 3 from by show 0 + (1 * ρ 3 + 0) = _; omega, show ev ρ ((0 : Int), ([(4, 1)] : List (Nat × Int))) = ρ 4 from by show 0 + (1 * ρ 4 + 0) = _; omega, show ev ρ ((0 : Int), ([(5, 1)] : List (Nat × Int))) = ρ 5 from by show 0 + (1 * ρ 5 + 0) = _; omega]
    have b0 : 0 ≤ ρ 0 ∧ ρ 0 ≤ 3 := hB _ List.mem_cons_self
    have b1 : 0 ≤ ρ 1 ∧ ρ 1 ≤ 3 := hB _ (List.mem_cons_of_mem _ List.mem_cons_self)
    have b2 : 0 ≤ ρ 2 ∧ ρ 2 ≤ 63 := hB _ (List.mem_cons_of_mem _ (List.mem_cons_of_mem _ List.mem_cons_self))
    have b3 : 0 ≤ ρ 3 ∧ ρ 3 ≤ 36 := hB _ (List.mem_cons_of_mem _ (List.mem_cons_of_mem _ (List.mem_cons_of_mem _ List.mem_cons_self)))
    have b4 : 0 ≤ ρ 4 ∧ ρ 4 ≤ 40 := hB _ (List.mem_cons_of_mem _ (List.mem_cons_of_mem _ (List.mem_cons_of_mem _ (List.mem_cons_of_mem _ List.mem_cons_self))))
    have b5 : 0 ≤ ρ 5 ∧ ρ 5 ≤ 24 := hB _ (List.mem_cons_of_mem _ (List.mem_cons_of_mem _ (List.mem_cons_of_mem _ (List.mem_cons_of_mem _ (List.mem_cons_of_mem _ List.mem_cons_self)))))
    have h34 := cvm (c := 61) (by decide) (x' := (34 : Int)) (y' := (1 : Int)) (by show 34 + 0 = _; omega) (by show 1 + 0 = _; omega) (hm _ List.mem_cons_self)
    have h43 := cvm (c := 61) (by decide) (x' := (43 : Int)) (y' := ((ρ 1))) (by show 43 + 0 = _; omega) (by show 0 + (1 * ρ 1 + 0) = _; omega) (hm _ (List.mem_cons_of_mem _ List.mem_cons_self))
    have h34 : M 61 34 = ((1 : Nat) : Int) := h34.2
    have h43 : M 61 43 = ρ 1 := h43.2
    have hr : (21 : Nat) ≤ r := hr
    obtain ⟨a, c', t', h', ha, hgo⟩ := U222 (b := 1) (by decide) hG h34 (g := ρ 1) (c := ρ 2) (t := ρ 3) (h := ρ 4) (m := ρ 5) (by omega) (by omega) (by omega) (by omega) (by omega) (by omega) (by omega) (by omega) (by omega) (by omega)
    refine OJ_le (show 20 ≤ r by omega) (OJ_mono (fun x K' hq => ?_) (hgo M hG (fun _ _ _ => rfl)))
    obtain ⟨q1, q2, q3, q4⟩ := hq
    refine ⟨q2, q3, ?_⟩
    rcases ha with ha | ⟨ha, z1, z2, z3⟩
    · subst ha
      exact ⟨_, (List.mem_cons_of_mem _ List.mem_cons_self), ρ, fun _ _ => rfl, ⟨_, q1, rfl⟩, okM_n, okB_n, okF_n⟩
    · subst ha
      obtain ⟨q5, q6, q7⟩ := q4 rfl
      have hld : ldT 1 M (ρ 1) (ρ 2) (ρ 3) (ρ 4) (ρ 5) c' t' h' := fun N hN hag => OJ_mono (fun x N' hx => ⟨hx.1, hx.2.1, hx.2.2.1, hx.2.2.2 rfl⟩) (hgo N hN hag)
      have hle : HP 16 (spo (ρ 3) (ρ 2) (ρ 4) (ρ 0)) (ρ 5) K' := ⟨ρ 3, ρ 2, ρ 4, ρ 0, ⟨⟨by omega, by omega⟩, ⟨by omega, by omega⟩, ⟨by omega, by omega⟩, by omega, by omega⟩, rfl, by omega, by omega, by rw [q6]; omega, by rw [q5, q6, q7, q3 61 43 rfl, h43]; exact ldT_c (agfr (by decide) q3) hld⟩
      obtain ⟨ρ', hag, a0, a1, a2, a3, a4, a5, a6, a7, a8⟩ : ∃ ρ' : Nat → Int, agr 6 ρ ρ' ∧ ρ' 0 = ρ 0 ∧ ρ' 1 = ρ 1 ∧ ρ' 2 = ρ 2 ∧ ρ' 3 = ρ 3 ∧ ρ' 4 = ρ 4 ∧ ρ' 5 = ρ 5 ∧ ρ' 6 = c' ∧ ρ' 7 = t' ∧ ρ' 8 = h' := ⟨fun s => if s = 8 then h' else if s = 7 then t' else if s = 6 then c' else ρ s, fun s hs => by show (if s = 8 then h' else if s = 7 then t' else if s = 6 then c' else ρ s) = _; rw [if_neg (by omega)]; rw [if_neg (by omega)]; rw [if_neg (by omega)], rfl, rfl, rfl, rfl, rfl, rfl, rfl, rfl, rfl⟩
      exact ⟨_, List.mem_cons_self, ρ', hag, ⟨_, q1, rfl⟩, (okM_c (pvm (c := 61) (by decide) (x' := 36) (y' := c') (by show 36 + 0 = _; omega) (by show 0 + (1 * ρ' 6 + 0) = _; omega) ⟨by decide, q5⟩) (okM_c (pvm (c := 61) (by decide) (x' := 37) (y' := t') (by show 37 + 0 = _; omega) (by show 0 + (1 * ρ' 7 + 0) = _; omega) ⟨by decide, q6⟩) (okM_c (pvm (c := 61) (by decide) (x' := 38) (y' := h') (by show 38 + 0 = _; omega) (by show 0 + (1 * ρ' 8 + 0) = _; omega) ⟨by decide, q7⟩) (okM_c (pvp 16 (x' := spo (ρ 3) (ρ 2) (ρ 4) (ρ 0)) (y' := ρ 5) (by show 0 + (1 * ρ' 0 + (164 * ρ' 2 + (10496 * ρ' 3 + (4 * ρ' 4 + 0)))) = _; unfold spo; omega) (by show 0 + (1 * ρ' 5 + 0) = _; omega) hle) okM_n)))), (okB_c (by omega) (okB_c (by omega) (okB_c (by omega) okB_n))), (okF_c (by show 0 ≤ (-1) + ((-1) * ρ' 3 + (1 * ρ' 7 + 0)); omega) okF_n)⟩
theorem hold_364 : Hold k_364 := by
  intro r hr ρ As M hA hm hB hF hG
  obtain ⟨A0, rfl, hA1⟩ := sm_R hA
  obtain ⟨A1, rfl, hA11⟩ := sm_I hA1
  obtain ⟨A2, rfl, hA111⟩ := sm_I hA11
  obtain ⟨A3, rfl, hA1111⟩ := sm_I hA111
  obtain ⟨A4, rfl, hA11111⟩ := sm_I hA1111
  obtain ⟨A5, rfl, hA111111⟩ := sm_I hA11111
  cases A5 with
  | cons _ _ => exact hA111111.elim
  | nil =>
    rw [show ev ρ ((0 : Int), ([(2, 1)] : List (Nat × Int))) = ρ 2 from by show 0 + (1 * ρ 2 + 0) = _; omega, show ev ρ ((0 : Int), ([(3, 1)] : List (Nat × Int))) = ρ 3 from by show 0 + (1 * ρ 3 + 0) = _; omega, show ev ρ ((0 : Int), ([(4, 1)] : List (Nat × Int))) = ρ 4 from by show 0 + (1 * ρ 4 + 0) = _; omega, show ev ρ ((0 : Int), ([(5, 1)] : List (Nat × Int))) = ρ 5 from by show 0 + (1 * ρ 5 + 0) = _; omega, show ev ρ ((0 : Int), ([(6, 1)] : List (Nat × Int))) = ρ 6 from by show 0 + (1 * ρ 6 + 0) = _; omega]
    have b0 : 0 ≤ ρ 0 ∧ ρ 0 ≤ 3 := hB _ List.mem_cons_self
    have b1 : 0 ≤ ρ 1 ∧ ρ 1 ≤ 1000 := hB _ (List.mem_cons_of_mem _ List.mem_cons_self)
    have b2 : 0 ≤ ρ 2 ∧ ρ 2 ≤ 3 := hB _ (List.mem_cons_of_mem _ (List.mem_cons_of_mem _ List.mem_cons_self))
    have b3 : 0 ≤ ρ 3 ∧ ρ 3 ≤ 63 := hB _ (List.mem_cons_of_mem _ (List.mem_cons_of_mem _ (List.mem_cons_of_mem _ List.mem_cons_self)))
    have b4 : 0 ≤ ρ 4 ∧ ρ 4 ≤ 36 := hB _ (List.mem_cons_of_mem _ (List.mem_cons_of_mem _ (List.mem_cons_of_mem _ (List.mem_cons_of_mem _ List.mem_cons_self))))
    have b5 : 0 ≤ ρ 5 ∧ ρ 5 ≤ 40 := hB _ (List.mem_cons_of_mem _ (List.mem_cons_of_mem _ (List.mem_cons_of_mem _ (List.mem_cons_of_mem _ (List.mem_cons_of_mem _ List.mem_cons_self)))))
    have b6 : 0 ≤ ρ 6 ∧ ρ 6 ≤ 24 := hB _ (List.mem_cons_of_mem _ (List.mem_cons_of_mem _ (List.mem_cons_of_mem _ (List.mem_cons_of_mem _ (List.mem_cons_of_mem _ (List.mem_cons_of_mem _ List.mem_cons_self))))))
    have h43 := cvm (c := 61) (by decide) (x' := (43 : Int)) (y' := ((ρ 2))) (by show 43 + 0 = _; omega) (by show 0 + (1 * ρ 2 + 0) = _; omega) (hm _ (List.mem_cons_of_mem _ List.mem_cons_self))
    have hD := cvp 18 (x' := ((ρ 0) + 164 * (ρ 3) + 10496 * (ρ 4) + 4 * (ρ 5))) (y' := ((ρ 6))) (by show 0 + (1 * ρ 0 + (164 * ρ 3 + (10496 * ρ 4 + (4 * ρ 5 + 0)))) = _; omega) (by show 0 + (1 * ρ 6 + 0) = _; omega) (hm _ (List.mem_cons_of_mem _ (List.mem_cons_of_mem _ List.mem_cons_self)))
    have h88 := cvm (c := 88) (by decide) (x' := ((ρ 0) + 164 * (ρ 3) + 10496 * (ρ 4) + 4 * (ρ 5))) (y' := ((ρ 1))) (by show 0 + (1 * ρ 0 + (164 * ρ 3 + (10496 * ρ 4 + (4 * ρ 5 + 0)))) = _; omega) (by show 0 + (1 * ρ 1 + 0) = _; omega) (hm _ (List.mem_cons_of_mem _ (List.mem_cons_of_mem _ (List.mem_cons_of_mem _ List.mem_cons_self))))
    have h43 : M 61 43 = ρ 2 := h43.2
    have hr : (21 : Nat) ≤ r := hr
    obtain ⟨t2, c2, h2, r2, g1, g2, g3, g4, z, g5, g6⟩ := hD
    have hrn : rng (ρ 4) (ρ 3) (ρ 5) (ρ 0) := ⟨⟨by omega, by omega⟩, ⟨by omega, by omega⟩, ⟨by omega, by omega⟩, by omega, by omega⟩
    have hsp : spo (ρ 4) (ρ 3) (ρ 5) (ρ 0) = spo t2 c2 h2 r2 := by rw [← g2]; unfold spo; omega
    obtain ⟨x1, x2, x3, x4⟩ := spo_inj hrn g1 hsp
    subst x1; subst x2; subst x3; subst x4
    obtain ⟨t', c', h', r', d1, d2, d3, d4, d5⟩ := g5
    rw [h43] at d3
    refine OJ_le (show 20 ≤ r by omega) (OJ_mono (fun x K' hq => ?_) (d3 M hG (fun _ _ _ => rfl)))
    obtain ⟨q1, q2, q3, q5, q6, q7⟩ := hq
    refine ⟨q2, q3, ?_⟩
    obtain ⟨⟨u1, u2⟩, ⟨u3, u4⟩, ⟨u5, u6⟩, u7, u8⟩ := d1
    have hwr : HP 21 (spo (ρ 4) (ρ 3) (ρ 5) (ρ 0)) (ρ 1) K' := ⟨ρ 4, ρ 3, ρ 5, ρ 0, hrn, rfl, r', by rw [q5, q6, q7]; exact ⟨⟨u1, u2⟩, ⟨u3, u4⟩, ⟨u5, u6⟩, u7, u8⟩, by rw [q5]; exact rdT_c (agfp q3) d4, by rw [q5, q6, q7, ← d5, q3 88 _ rfl, g6]; exact h88.2⟩
    obtain ⟨ρ', hag, a0, a1, a2, a3, a4, a5, a6, a7, a8, a9⟩ : ∃ ρ' : Nat → Int, agr 7 ρ ρ' ∧ ρ' 0 = ρ 0 ∧ ρ' 1 = ρ 1 ∧ ρ' 2 = ρ 2 ∧ ρ' 3 = ρ 3 ∧ ρ' 4 = ρ 4 ∧ ρ' 5 = ρ 5 ∧ ρ' 6 = ρ 6 ∧ ρ' 7 = c' ∧ ρ' 8 = t' ∧ ρ' 9 = h' := ⟨fun s => if s = 9 then h' else if s = 8 then t' else if s = 7 then c' else ρ s, fun s hs => by show (if s = 9 then h' else if s = 8 then t' else if s = 7 then c' else ρ s) = _; rw [if_neg (by omega)]; rw [if_neg (by omega)]; rw [if_neg (by omega)], rfl, rfl, rfl, rfl, rfl, rfl, rfl, rfl, rfl, rfl⟩
    exact ⟨_, List.mem_cons_self, ρ', hag, ⟨_, q1, rfl⟩, (okM_c (pvm (c := 61) (by decide) (x' := 36) (y' := c') (by show 36 + 0 = _; omega) (by show 0 + (1 * ρ' 7 + 0) = _; omega) ⟨by decide, q5⟩) (okM_c (pvm (c := 61) (by decide) (x' := 37) (y' := t') (by show 37 + 0 = _; omega) (by show 0 + (1 * ρ' 8 + 0) = _; omega) ⟨by decide, q6⟩) (okM_c (pvm (c := 61) (by decide) (x' := 38) (y' := h') (by show 38 + 0 = _; omega) (by show 0 + (1 * ρ' 9 + 0) = _; omega) ⟨by decide, q7⟩) (okM_c (pvp 21 (x' := spo (ρ 4) (ρ 3) (ρ 5) (ρ 0)) (y' := ρ 1) (by show 0 + (1 * ρ' 0 + (164 * ρ' 3 + (10496 * ρ' 4 + (4 * ρ' 5 + 0)))) = _; unfold spo; omega) (by show 0 + (1 * ρ' 1 + 0) = _; omega) hwr) okM_n)))), (okB_c (by omega) (okB_c (by omega) (okB_c (by omega) okB_n))), (okF_c (by show 0 ≤ (-1) + ((-1) * ρ' 4 + (1 * ρ' 8 + 0)); omega) okF_n)⟩
theorem hold_352 : Hold k_352 := by
  intro r hr ρ As M hA hm hB hF hG
  obtain ⟨A0, rfl, hA1⟩ := sm_R hA
  obtain ⟨A1, rfl, hA11⟩ := sm_I hA1
  obtain ⟨A2, rfl, hA111⟩ := sm_I hA11
  cases A2 with
  | cons _ _ => exact hA111.elim
  | nil =>
    rw [show ev ρ ((0 : Int), ([(0, 1)] : List (Nat × Int))) = ρ 0 from by show 0 + (1 * ρ 0 + 0) = _; omega, show ev ρ ((0 : Int), ([(1, 1)] : List (Nat × Int))) = ρ 1 from by show 0 + (1 * ρ 1 + 0) = _; omega]
    have b0 : 0 ≤ ρ 0 ∧ ρ 0 ≤ 63 := hB _ List.mem_cons_self
    have b1 : 0 ≤ ρ 1 ∧ ρ 1 ≤ 3 := hB _ (List.mem_cons_of_mem _ List.mem_cons_self)
    have b2 : 0 ≤ ρ 2 ∧ ρ 2 ≤ 3 := hB _ (List.mem_cons_of_mem _ (List.mem_cons_of_mem _ List.mem_cons_self))
    have h40 := cvm (c := 61) (by decide) (x' := (40 : Int)) (y' := ((ρ 2))) (by show 40 + 0 = _; omega) (by show 0 + (1 * ρ 2 + 0) = _; omega) (hm _ List.mem_cons_self)
    have h40 : M 61 40 = ρ 2 := h40.2
    have f0 : 0 ≤ 0 + ((-1) * ρ 1 + (1 * ρ 2 + 0)) := hF _ List.mem_cons_self
    have hr : (20 : Nat) ≤ r := hr
    obtain ⟨v, hv⟩ := U227 hG (c := ρ 0) (k := ρ 1) (by omega) (by omega)
    obtain ⟨⟨w1, w2, w3⟩, hgo⟩ := id hv
    refine OJ_le hr (OJ_mono (fun x K' hq => ?_) (hgo M hG (fun _ _ _ => rfl)))
    obtain ⟨q1, q2⟩ := hq
    subst q2
    refine ⟨hG, fun _ _ _ => rfl, ?_⟩
    obtain ⟨ρ', hag, a0, a1, a2, a3⟩ : ∃ ρ' : Nat → Int, agr 3 ρ ρ' ∧ ρ' 0 = ρ 0 ∧ ρ' 1 = ρ 1 ∧ ρ' 2 = ρ 2 ∧ ρ' 3 = v := ⟨fun s => if s = 3 then v else ρ s, fun s hs => by show (if s = 3 then v else ρ s) = _; rw [if_neg (by omega)], rfl, rfl, rfl, rfl⟩
    exact ⟨_, List.mem_cons_self, ρ', hag, ⟨_, q1, by show vi v = vi (0 + (1 * ρ' 3 + 0)); congr 1; omega⟩, (okM_c (pvp 19 (x' := 4 * ρ 0 + ρ 1) (y' := v) (by show 0 + (4 * ρ' 0 + (1 * ρ' 1 + 0)) = _; omega) (by show 0 + (1 * ρ' 3 + 0) = _; omega) ⟨_, _, by omega, by omega, by omega, by omega, rfl, hv⟩) okM_n), (okB_c (by omega) okB_n), (okF_c (by show 0 ≤ 0 + ((-1) * ρ' 1 + (1 * ρ' 3 + 0)); omega) (okF_c (by show 0 ≤ 0 + (1 * ρ' 2 + ((-1) * ρ' 3 + 0)); omega) okF_n))⟩
theorem hold_353 : Hold k_353 := by
  intro r hr ρ As M hA hm hB hF hG
  obtain ⟨A0, rfl, hA1⟩ := sm_R hA
  obtain ⟨A1, rfl, hA11⟩ := sm_I hA1
  obtain ⟨A2, rfl, hA111⟩ := sm_I hA11
  cases A2 with
  | cons _ _ => exact hA111.elim
  | nil =>
    rw [show ev ρ ((0 : Int), ([(1, 1)] : List (Nat × Int))) = ρ 1 from by show 0 + (1 * ρ 1 + 0) = _; omega, show ev ρ ((0 : Int), ([(2, 1)] : List (Nat × Int))) = ρ 2 from by show 0 + (1 * ρ 2 + 0) = _; omega]
    have b0 : 0 ≤ ρ 0 ∧ ρ 0 ≤ 3 := hB _ List.mem_cons_self
    have b1 : 0 ≤ ρ 1 ∧ ρ 1 ≤ 63 := hB _ (List.mem_cons_of_mem _ List.mem_cons_self)
    have b2 : 0 ≤ ρ 2 ∧ ρ 2 ≤ 3 := hB _ (List.mem_cons_of_mem _ (List.mem_cons_of_mem _ List.mem_cons_self))
    have hd := cvp 19 (x' := (4 * (ρ 1) + (ρ 2))) (y' := ((ρ 0))) (by show 0 + (4 * ρ 1 + (1 * ρ 2 + 0)) = _; omega) (by show 0 + (1 * ρ 0 + 0) = _; omega) (hm _ List.mem_cons_self)
    have hr : (20 : Nat) ≤ r := hr
    obtain ⟨c2, r2, g1, g2, g3, g4, g5, g6⟩ := hd
    have x1 : c2 = ρ 1 := by omega
    have x2 : r2 = ρ 2 := by omega
    subst x1; subst x2
    refine OJ_le hr (OJ_mono (fun x K' hq => ?_) (g6.2 M hG (fun _ _ _ => rfl)))
    obtain ⟨q1, q2⟩ := hq
    subst q2
    exact ⟨hG, fun _ _ _ => rfl, _, List.mem_cons_self, ρ, fun _ _ => rfl, ⟨_, q1, by show vi (ρ 0) = vi (0 + (1 * ρ 0 + 0)); congr 1; omega⟩, okM_n, okB_n, okF_n⟩
theorem hold_354 : Hold k_354 := by
  intro r hr ρ As M hA hm hB hF hG
  obtain ⟨A0, rfl, hA1⟩ := sm_R hA
  obtain ⟨A1, rfl, hA11⟩ := sm_I hA1
  obtain ⟨A2, rfl, hA111⟩ := sm_I hA11
  cases A2 with
  | cons _ _ => exact hA111.elim
  | nil =>
    rw [show ev ρ ((0 : Int), ([(4, 1)] : List (Nat × Int))) = ρ 4 from by show 0 + (1 * ρ 4 + 0) = _; omega, show ev ρ ((0 : Int), ([(5, 1)] : List (Nat × Int))) = ρ 5 from by show 0 + (1 * ρ 5 + 0) = _; omega]
    have b0 : 0 ≤ ρ 0 ∧ ρ 0 ≤ 36 := hB _ List.mem_cons_self
    have b1 : 0 ≤ ρ 1 ∧ ρ 1 ≤ 63 := hB _ (List.mem_cons_of_mem _ List.mem_cons_self)
    have b2 : 0 ≤ ρ 2 ∧ ρ 2 ≤ 40 := hB _ (List.mem_cons_of_mem _ (List.mem_cons_of_mem _ List.mem_cons_self))
    have b3 : 0 ≤ ρ 3 ∧ ρ 3 ≤ 1000 := hB _ (List.mem_cons_of_mem _ (List.mem_cons_of_mem _ (List.mem_cons_of_mem _ List.mem_cons_self)))
    have b4 : 0 ≤ ρ 4 ∧ ρ 4 ≤ 63 := hB _ (List.mem_cons_of_mem _ (List.mem_cons_of_mem _ (List.mem_cons_of_mem _ (List.mem_cons_of_mem _ List.mem_cons_self))))
    have b5 : 0 ≤ ρ 5 ∧ ρ 5 ≤ 3 := hB _ (List.mem_cons_of_mem _ (List.mem_cons_of_mem _ (List.mem_cons_of_mem _ (List.mem_cons_of_mem _ (List.mem_cons_of_mem _ List.mem_cons_self)))))
    have b6 : 0 ≤ ρ 6 ∧ ρ 6 ≤ 3 := hB _ (List.mem_cons_of_mem _ (List.mem_cons_of_mem _ (List.mem_cons_of_mem _ (List.mem_cons_of_mem _ (List.mem_cons_of_mem _ (List.mem_cons_of_mem _ List.mem_cons_self))))))
    have b7 : 0 ≤ ρ 7 ∧ ρ 7 ≤ 36 := hB _ (List.mem_cons_of_mem _ (List.mem_cons_of_mem _ (List.mem_cons_of_mem _ (List.mem_cons_of_mem _ (List.mem_cons_of_mem _ (List.mem_cons_of_mem _ (List.mem_cons_of_mem _ List.mem_cons_self)))))))
    have b8 : 0 ≤ ρ 8 ∧ ρ 8 ≤ 40 := hB _ (List.mem_cons_of_mem _ (List.mem_cons_of_mem _ (List.mem_cons_of_mem _ (List.mem_cons_of_mem _ (List.mem_cons_of_mem _ (List.mem_cons_of_mem _ (List.mem_cons_of_mem _ (List.mem_cons_of_mem _ List.mem_cons_self))))))))
    have h40 := cvm (c := 61) (by decide) (x' := (40 : Int)) (y' := ((ρ 6))) (by show 40 + 0 = _; omega) (by show 0 + (1 * ρ 6 + 0) = _; omega) (hm _ List.mem_cons_self)
    have h36 := cvm (c := 61) (by decide) (x' := (36 : Int)) (y' := ((ρ 4))) (by show 36 + 0 = _; omega) (by show 0 + (1 * ρ 4 + 0) = _; omega) (hm _ (List.mem_cons_of_mem _ List.mem_cons_self))
    have h37 := cvm (c := 61) (by decide) (x' := (37 : Int)) (y' := ((ρ 7))) (by show 37 + 0 = _; omega) (by show 0 + (1 * ρ 7 + 0) = _; omega) (hm _ (List.mem_cons_of_mem _ (List.mem_cons_of_mem _ List.mem_cons_self)))
    have h38 := cvm (c := 61) (by decide) (x' := (38 : Int)) (y' := ((ρ 8))) (by show 38 + 0 = _; omega) (by show 0 + (1 * ρ 8 + 0) = _; omega) (hm _ (List.mem_cons_of_mem _ (List.mem_cons_of_mem _ (List.mem_cons_of_mem _ List.mem_cons_self))))
    have hw := cvp 21 (x' := (10496 * (ρ 0) + 164 * (ρ 1) + 4 * (ρ 2) + (ρ 5))) (y' := ((ρ 3))) (by show 0 + (10496 * ρ 0 + (164 * ρ 1 + (4 * ρ 2 + (1 * ρ 5 + 0)))) = _; omega) (by show 0 + (1 * ρ 3 + 0) = _; omega) (hm _ (List.mem_cons_of_mem _ (List.mem_cons_of_mem _ (List.mem_cons_of_mem _ (List.mem_cons_of_mem _ List.mem_cons_self)))))
    have h40 : M 61 40 = ρ 6 := h40.2
    have h36 : M 61 36 = ρ 4 := h36.2
    have h37 : M 61 37 = ρ 7 := h37.2
    have h38 : M 61 38 = ρ 8 := h38.2
    have hr : (20 : Nat) ≤ r := hr
    obtain ⟨t2, c2, h2, r2, g1, g2, r', g3, g4, g5⟩ := hw
    have hrn : rng (ρ 0) (ρ 1) (ρ 2) (ρ 5) := ⟨⟨by omega, by omega⟩, ⟨by omega, by omega⟩, ⟨by omega, by omega⟩, by omega, by omega⟩
    have hsp : spo (ρ 0) (ρ 1) (ρ 2) (ρ 5) = spo t2 c2 h2 r2 := by rw [← g2]; unfold spo; omega
    obtain ⟨x1, x2, x3, x4⟩ := spo_inj hrn g1 hsp
    subst x1; subst x2; subst x3; subst x4
    rw [h36, h37, h38] at g3 g5
    rw [h36] at g4
    obtain ⟨⟨w1, w2, w3⟩, hgo⟩ := id g4
    obtain ⟨_, _, _, u7, u8⟩ := g3
    refine OJ_le hr (OJ_mono (fun x K' hq => ?_) (hgo M hG (fun _ _ _ => rfl)))
    obtain ⟨q1, q2⟩ := hq
    subst q2
    refine ⟨hG, fun _ _ _ => rfl, ?_⟩
    obtain ⟨ρ', hag, a0, a1, a2, a3, a4, a5, a6, a7, a8, a9⟩ : ∃ ρ' : Nat → Int, agr 9 ρ ρ' ∧ ρ' 0 = ρ 0 ∧ ρ' 1 = ρ 1 ∧ ρ' 2 = ρ 2 ∧ ρ' 3 = ρ 3 ∧ ρ' 4 = ρ 4 ∧ ρ' 5 = ρ 5 ∧ ρ' 6 = ρ 6 ∧ ρ' 7 = ρ 7 ∧ ρ' 8 = ρ 8 ∧ ρ' 9 = r' := ⟨fun s => if s = 9 then r' else ρ s, fun s hs => by show (if s = 9 then r' else ρ s) = _; rw [if_neg (by omega)], rfl, rfl, rfl, rfl, rfl, rfl, rfl, rfl, rfl, rfl⟩
    exact ⟨_, List.mem_cons_self, ρ', hag, ⟨_, q1, by show vi r' = vi (0 + (1 * ρ' 9 + 0)); congr 1; omega⟩, (okM_c (pvp 19 (x' := 4 * ρ 4 + ρ 5) (y' := r') (by show 0 + (4 * ρ' 4 + (1 * ρ' 5 + 0)) = _; omega) (by show 0 + (1 * ρ' 9 + 0) = _; omega) ⟨_, _, by omega, by omega, by omega, by omega, rfl, g4⟩) (okM_c (pvm (c := 88) (by decide) (x' := spo (ρ 7) (ρ 4) (ρ 8) r') (y' := ρ 3) (by show 0 + (164 * ρ' 4 + (10496 * ρ' 7 + (4 * ρ' 8 + (1 * ρ' 9 + 0)))) = _; unfold spo; omega) (by show 0 + (1 * ρ' 3 + 0) = _; omega) ⟨by unfold spo; omega, g5⟩) okM_n)), (okB_c (by omega) okB_n), (okF_c (by show 0 ≤ 0 + ((-1) * ρ' 5 + (1 * ρ' 9 + 0)); omega) (okF_c (by show 0 ≤ 0 + (1 * ρ' 6 + ((-1) * ρ' 9 + 0)); omega) okF_n))⟩
