theorem OJ_mono : ∀ {r i : Nat} {a : List pv} {n : Nat} {M : pM} {Q Q' : pQ}, (∀ x M', Q x M' → Q' x M') → OJ r i a n M Q → OJ r i a n M Q'
  | 0, _, _, _, _, _, _, _, h => h.elim
  | _ + 1, _, _, _, _, _, _, hq, h => ⟨h.1, h.2.1, J_mono hq h.2.2⟩
theorem sm_mv {ρ : Nat → Int} {v : Nat} {As : List pv} (h : sm ρ [aR v, aI (0, [(0, 1)]), aI (0, [(1, 1)]), aI (0, [(2, 1)]), aI (0, [(3, 1)]), aI (0, [(4, 1)])] As) : As = [vr v, vi (ρ 0), vi (ρ 1), vi (ρ 2), vi (ρ 3), vi (ρ 4)] := by
  obtain ⟨l0, rfl, h0⟩ := sm_R h
  obtain ⟨l1, rfl, h1⟩ := sm_I h0
  obtain ⟨l2, rfl, h2⟩ := sm_I h1
  obtain ⟨l3, rfl, h3⟩ := sm_I h2
  obtain ⟨l4, rfl, h4⟩ := sm_I h3
  obtain ⟨l5, rfl, h5⟩ := sm_I h4
  cases l5 with
  | cons _ _ => exact h5.elim
  | nil =>
    have e : ∀ s, ev ρ (0, [(s, 1)]) = ρ s := fun s => ev_fs
    rw [e, e, e, e, e]
theorem hold_204 (hs : Hold k_51) : Hold k_204 := by
  intro r hr ρ As M hA hm hB hF hG
  have hr : 20 ≤ r := hr
  have h0 := hs 20 (by decide) ρ As M hA (fun e he => by cases he) hB hF hG
  obtain ⟨ret, M', ⟨h1, h2, e, he, ρ', ha, hr', hm', hb', hf'⟩, ex⟩ := OJ_det 20 _ _ _ _ _ h0
  have hMM : M' = M := funext (fun c => funext (fun k => h2 c k rfl))
  subst hMM
  have hAs := sm_mv hA
  have ha : ∀ s, s < 5 → ρ' s = ρ s := ha
  refine OJ_le hr (ex _ ⟨h1, h2, ?_⟩)
  rcases List.mem_cons.mp he with q | q
  · subst q
    exact ⟨_, List.mem_cons_self, ρ', ha, hr', hm', hb', hf'⟩
  · rcases List.mem_cons.mp q with q | q
    · subst q
      refine ⟨_, List.mem_cons_of_mem _ List.mem_cons_self, ρ', ha, hr', ?_, hb', hf'⟩
      intro e he
      have e9 := List.mem_singleton.mp he
      subst e9
      show ok1 5000 (ev ρ' (0, [(0, 97088), (1, 1517), (2, 41), (3, 1)])) (ev ρ' (0, [(4, 1)])) M'
      rw [ok1_hi (by decide), show ev ρ' (0, [(4, 1)]) = ρ 4 from by rw [show ev ρ' (0, [(4, 1)]) = ρ' 4 from ev_fs, ha 4 (by decide)]]
      have hB : okB ρ [(0, 0, 3), (1, 0, 63), (2, 0, 36), (3, 0, 40), (4, 0, 24)] := hB
      have b0 := hB (0, 0, 3) (by simp)
      have b1 := hB (1, 0, 63) (by simp)
      have b2 := hB (2, 0, 36) (by simp)
      have b3 := hB (3, 0, 40) (by simp)
      have hb' : okB ρ' [(5, 0, 40), (6, 0, 36), (7, 0, 63)] := hb'
      have c5 := hb' (5, 0, 40) (by simp)
      have c6 := hb' (6, 0, 36) (by simp)
      have c7 := hb' (7, 0, 63) (by simp)
      have hf : 0 ≤ ev ρ' ((-1), [(2, (-1)), (6, 1)]) := hf' _ List.mem_cons_self
      have hf : 0 ≤ (-1) + ((-1) * ρ' 2 + (1 * ρ' 6 + 0)) := hf
      rw [ha 2 (by decide)] at hf
      obtain ⟨x, x1, x2⟩ := hr'
      have x2 : x = vi (0 + (6400 * ρ' 5 + (100 * ρ' 6 + (1 * ρ' 7 + 0)))) := x2
      refine ⟨ρ 0, ρ 1, ρ 2, ρ 3, ρ' 5, ρ' 6, ρ' 7, ⟨b0.1, b0.2, b1.1, b1.2, b2.1, b2.2, b3.1, b3.2⟩, ?_, ⟨c5.1, c5.2, by omega, c6.2, c7.1, c7.2⟩, ?_⟩
      · show 0 + (97088 * ρ' 0 + (1517 * ρ' 1 + (41 * ρ' 2 + (1 * ρ' 3 + 0)))) = _
        rw [ha 0 (by decide), ha 1 (by decide), ha 2 (by decide), ha 3 (by decide)]
        omega
      · rw [← hAs]
        refine ex _ ⟨?_, rfl⟩
        rw [x1, x2]
        congr 2
        omega
    · cases q
theorem hold_205 : Hold k_205 := by
  intro r hr ρ As M hA hm hB hF hG
  have hr : 20 ≤ r := hr
  have hAs := sm_mv hA
  have hq : ok1 5000 (ev ρ (0, [(0, 97088), (1, 1517), (2, 41), (3, 1)])) (ev ρ (0, [(4, 1)])) M := hm _ List.mem_cons_self
  rw [ok1_hi (by decide), show ev ρ (0, [(4, 1)]) = ρ 4 from ev_fs] at hq
  have hB : okB ρ [(0, 0, 3), (1, 0, 63), (2, 0, 36), (3, 0, 40), (4, 0, 24)] := hB
  have b0 := hB (0, 0, 3) (by simp)
  have b1 := hB (1, 0, 63) (by simp)
  have b2 := hB (2, 0, 36) (by simp)
  have b3 := hB (3, 0, 40) (by simp)
  obtain ⟨g, c, t, h, h', t', c', ⟨r0, r1, r2, r3, r4, r5, r6, r7⟩, hx, ⟨s0, s1, s2, s3, s4, s5⟩, hO⟩ := hq
  have hx : 0 + (97088 * ρ 0 + (1517 * ρ 1 + (41 * ρ 2 + (1 * ρ 3 + 0)))) = ((g * 64 + c) * 37 + t) * 41 + h := hx
  have b0 : 0 ≤ ρ 0 ∧ ρ 0 ≤ 3 := b0
  have b1 : 0 ≤ ρ 1 ∧ ρ 1 ≤ 63 := b1
  have b2 : 0 ≤ ρ 2 ∧ ρ 2 ≤ 36 := b2
  have b3 : 0 ≤ ρ 3 ∧ ρ 3 ≤ 40 := b3
  have g0 : g = ρ 0 := by omega
  have g1 : c = ρ 1 := by omega
  have g2 : t = ρ 2 := by omega
  have g3 : h = ρ 3 := by omega
  rw [g0, g1, g2, g3, ← hAs] at hO
  rw [g2] at s2
  refine OJ_le hr (OJ_mono (fun x M' hxM => ?_) hO)
  obtain ⟨x1, x2⟩ := hxM
  subst x2
  refine ⟨hG, fun _ _ _ => rfl, _, List.mem_cons_self, fun s => if s = 5 then h' else if s = 6 then t' else if s = 7 then c' else ρ s, ?_, ?_, fun e he => (by cases he), ?_, ?_⟩
  · intro s hs
    have hs : s < 5 := hs
    show (if s = 5 then h' else if s = 6 then t' else if s = 7 then c' else ρ s) = ρ s
    rw [if_neg (by omega), if_neg (by omega), if_neg (by omega)]
  · refine ⟨_, x1, ?_⟩
    show vi (6400 * h' + 100 * t' + c') = vi (0 + (6400 * h' + (100 * t' + (1 * c' + 0))))
    congr 1
    omega
  · intro e he
    rcases List.mem_cons.mp he with q | q
    · subst q; exact ⟨s0, s1⟩
    · rcases List.mem_cons.mp q with q | q
      · subst q; exact ⟨(by show 0 ≤ t'; omega), s3⟩
      · rcases List.mem_cons.mp q with q | q
        · subst q; exact ⟨s4, s5⟩
        · cases q
  · intro f hf
    have e9 := List.mem_singleton.mp hf
    subst e9
    show 0 ≤ (-1) + ((-1) * ρ 2 + (1 * t' + 0))
    omega
theorem hold_208 (hs : Hold k_52) : Hold k_208 := by
  intro r hr ρ As M hA hm hB hF hG
  have hr : 20 ≤ r := hr
  have h0 := hs 20 (by decide) ρ As M hA (fun e he => by cases he) hB hF hG
  obtain ⟨ret, M', ⟨h1, h2, e, he, ρ', ha, hr', hm', hb', hf'⟩, ex⟩ := OJ_det 20 _ _ _ _ _ h0
  have hMM : M' = M := funext (fun c => funext (fun k => h2 c k rfl))
  subst hMM
  have hAs := sm_mv hA
  have ha : ∀ s, s < 5 → ρ' s = ρ s := ha
  refine OJ_le hr (ex _ ⟨h1, h2, ?_⟩)
  rcases List.mem_cons.mp he with q | q
  · subst q
    exact ⟨_, List.mem_cons_self, ρ', ha, hr', hm', hb', hf'⟩
  · rcases List.mem_cons.mp q with q | q
    · subst q
      refine ⟨_, List.mem_cons_of_mem _ List.mem_cons_self, ρ', ha, hr', ?_, hb', hf'⟩
      intro e he
      have e9 := List.mem_singleton.mp he
      subst e9
      show ok1 5001 (ev ρ' (0, [(0, 97088), (1, 1517), (2, 41), (3, 1)])) (ev ρ' (0, [(4, 1)])) M'
      rw [ok1_hi (by decide), show ev ρ' (0, [(4, 1)]) = ρ 4 from by rw [show ev ρ' (0, [(4, 1)]) = ρ' 4 from ev_fs, ha 4 (by decide)]]
      have hB : okB ρ [(0, 0, 3), (1, 0, 63), (2, 0, 36), (3, 0, 40), (4, 0, 24)] := hB
      have b0 := hB (0, 0, 3) (by simp)
      have b1 := hB (1, 0, 63) (by simp)
      have b2 := hB (2, 0, 36) (by simp)
      have b3 := hB (3, 0, 40) (by simp)
      have hb' : okB ρ' [(5, 0, 40), (6, 0, 36), (7, 0, 63)] := hb'
      have c5 := hb' (5, 0, 40) (by simp)
      have c6 := hb' (6, 0, 36) (by simp)
      have c7 := hb' (7, 0, 63) (by simp)
      have hf : 0 ≤ ev ρ' ((-1), [(2, (-1)), (6, 1)]) := hf' _ List.mem_cons_self
      have hf : 0 ≤ (-1) + ((-1) * ρ' 2 + (1 * ρ' 6 + 0)) := hf
      rw [ha 2 (by decide)] at hf
      obtain ⟨x, x1, x2⟩ := hr'
      have x2 : x = vi (0 + (6400 * ρ' 5 + (100 * ρ' 6 + (1 * ρ' 7 + 0)))) := x2
      refine ⟨ρ 0, ρ 1, ρ 2, ρ 3, ρ' 5, ρ' 6, ρ' 7, ⟨b0.1, b0.2, b1.1, b1.2, b2.1, b2.2, b3.1, b3.2⟩, ?_, ⟨c5.1, c5.2, by omega, c6.2, c7.1, c7.2⟩, ?_⟩
      · show 0 + (97088 * ρ' 0 + (1517 * ρ' 1 + (41 * ρ' 2 + (1 * ρ' 3 + 0)))) = _
        rw [ha 0 (by decide), ha 1 (by decide), ha 2 (by decide), ha 3 (by decide)]
        omega
      · rw [← hAs]
        refine ex _ ⟨?_, rfl⟩
        rw [x1, x2]
        congr 2
        omega
    · cases q
theorem hold_209 : Hold k_209 := by
  intro r hr ρ As M hA hm hB hF hG
  have hr : 20 ≤ r := hr
  have hAs := sm_mv hA
  have hq : ok1 5001 (ev ρ (0, [(0, 97088), (1, 1517), (2, 41), (3, 1)])) (ev ρ (0, [(4, 1)])) M := hm _ List.mem_cons_self
  rw [ok1_hi (by decide), show ev ρ (0, [(4, 1)]) = ρ 4 from ev_fs] at hq
  have hB : okB ρ [(0, 0, 3), (1, 0, 63), (2, 0, 36), (3, 0, 40), (4, 0, 24)] := hB
  have b0 := hB (0, 0, 3) (by simp)
  have b1 := hB (1, 0, 63) (by simp)
  have b2 := hB (2, 0, 36) (by simp)
  have b3 := hB (3, 0, 40) (by simp)
  obtain ⟨g, c, t, h, h', t', c', ⟨r0, r1, r2, r3, r4, r5, r6, r7⟩, hx, ⟨s0, s1, s2, s3, s4, s5⟩, hO⟩ := hq
  have hx : 0 + (97088 * ρ 0 + (1517 * ρ 1 + (41 * ρ 2 + (1 * ρ 3 + 0)))) = ((g * 64 + c) * 37 + t) * 41 + h := hx
  have b0 : 0 ≤ ρ 0 ∧ ρ 0 ≤ 3 := b0
  have b1 : 0 ≤ ρ 1 ∧ ρ 1 ≤ 63 := b1
  have b2 : 0 ≤ ρ 2 ∧ ρ 2 ≤ 36 := b2
  have b3 : 0 ≤ ρ 3 ∧ ρ 3 ≤ 40 := b3
  have g0 : g = ρ 0 := by omega
  have g1 : c = ρ 1 := by omega
  have g2 : t = ρ 2 := by omega
  have g3 : h = ρ 3 := by omega
  rw [g0, g1, g2, g3, ← hAs] at hO
  rw [g2] at s2
  refine OJ_le hr (OJ_mono (fun x M' hxM => ?_) hO)
  obtain ⟨x1, x2⟩ := hxM
  subst x2
  refine ⟨hG, fun _ _ _ => rfl, _, List.mem_cons_self, fun s => if s = 5 then h' else if s = 6 then t' else if s = 7 then c' else ρ s, ?_, ?_, fun e he => (by cases he), ?_, ?_⟩
  · intro s hs
    have hs : s < 5 := hs
    show (if s = 5 then h' else if s = 6 then t' else if s = 7 then c' else ρ s) = ρ s
    rw [if_neg (by omega), if_neg (by omega), if_neg (by omega)]
  · refine ⟨_, x1, ?_⟩
    show vi (6400 * h' + 100 * t' + c') = vi (0 + (6400 * h' + (100 * t' + (1 * c' + 0))))
    congr 1
    omega
  · intro e he
    rcases List.mem_cons.mp he with q | q
    · subst q; exact ⟨s0, s1⟩
    · rcases List.mem_cons.mp q with q | q
      · subst q; exact ⟨(by show 0 ≤ t'; omega), s3⟩
      · rcases List.mem_cons.mp q with q | q
        · subst q; exact ⟨s4, s5⟩
        · cases q
  · intro f hf
    have e9 := List.mem_singleton.mp hf
    subst e9
    show 0 ≤ (-1) + ((-1) * ρ 2 + (1 * t' + 0))
    omega
theorem J_323 {O : pO} {Q : pQ} {a b : Int} {v : Nat} {M : pM} (h0 : 0 ≤ a) (h1 : a < b) (hq : Q (some (vi a)) M) : J O 323 119 Q 0 [some (vi a), some (vi b), some (vr v)] [] 119 M := by
  refine Eq.mpr (J_iload_n (k := 0) (show decode (mB 323) 0 = .ok (.iload_n 0, 1) by decide +kernel) rfl) ?_
  refine Eq.mpr (J_if (pc := 1) (tgt := 9) (show decode (mB 323) 1 = .ok (.ifCond .lt 8, 3) by decide +kernel) (by decide)) ?_
  refine ⟨fun q => absurd (show a < 0 from q) (by omega), fun _ => ?_⟩
  refine Eq.mpr (J_iload_n (pc := 4) (k := 0) (show decode (mB 323) 4 = .ok (.iload_n 0, 1) by decide +kernel) rfl) ?_
  refine Eq.mpr (J_iload_n (pc := 5) (k := 1) (show decode (mB 323) 5 = .ok (.iload_n 1, 1) by decide +kernel) rfl) ?_
  refine Eq.mpr (J_icmp (pc := 6) (tgt := 16) (show decode (mB 323) 6 = .ok (.if_icmp .lt 10, 3) by decide +kernel) (by decide)) ?_
  refine ⟨fun _ => ?_, fun q => absurd (show a < b from h1) q⟩
  refine Eq.mpr (J_iload_n (pc := 16) (k := 0) (show decode (mB 323) 16 = .ok (.iload_n 0, 1) by decide +kernel) rfl) ?_
  refine Eq.mpr (J_iret (pc := 17) (show decode (mB 323) 17 = .ok (.ireturn, 1) by decide +kernel)) ?_
  exact ⟨rfl, trivial, hq⟩
theorem hold_9 : Hold k_9 := by
  intro r hr ρ As M hA hm hB hF hG
  have hr : 2 ≤ r := hr
  obtain ⟨l0, rfl, hA1⟩ := sm_I hA
  obtain ⟨l1, rfl, hA2⟩ := sm_I hA1
  cases l1 with
  | cons _ _ => exact hA2.elim
  | nil =>
    have e : ∀ s, ev ρ (0, [(s, 1)]) = ρ s := fun s => ev_fs
    rw [e, e]
    have hB : okB ρ [(0, 0, 2147483647), (1, 0, 2147483647)] := hB
    have b0 : 0 ≤ ρ 0 ∧ ρ 0 ≤ 2147483647 := hB (0, 0, 2147483647) (by simp)
    have hf : 0 ≤ (-1) + ((-1) * ρ 0 + (1 * ρ 1 + 0)) := hF _ List.mem_cons_self
    obtain ⟨r, rfl⟩ : ∃ k, r = k + 2 := ⟨r - 2, by omega⟩
    refine ⟨by decide +kernel, Nat.le_of_ble_eq_true rfl, ?_⟩
    refine Eq.mpr (J_iload_n (pc := 0) (k := 0) (show decode (mB 306) 0 = .ok (.iload_n 0, 1) by decide +kernel) rfl) ?_
    refine Eq.mpr (J_iload_n (pc := 1) (k := 1) (show decode (mB 306) 1 = .ok (.iload_n 1, 1) by decide +kernel) rfl) ?_
    refine J_sy (show decode (mB 306) 2 = .ok (.getstatic 1053, 3) by decide +kernel) ⟨rfl, (14, 1053, 1, 743), by decide, rfl, rfl, ?_⟩
    rw [if_neg (by decide)]
    refine J_sx (show decode (mB 306) 5 = .ok (.invokestatic 1059, 3) by decide +kernel) ⟨rfl, Or.inl ⟨(14, 1059, 1, 323, 745, 0), by decide +kernel, rfl, rfl, rfl, Or.inl ⟨by decide +kernel, [vi (ρ 0), vi (ρ 1), vr (M 1009 0).toNat], [], rfl, rfl, by decide, rfl, ?_⟩⟩⟩
    refine ⟨fun x M' => x = some (vi (ρ 0)) ∧ M' = M, ⟨by decide +kernel, Nat.le_of_ble_eq_true rfl, J_323 b0.1 (by omega) ⟨rfl, rfl⟩⟩, fun x M' hx => ⟨[vi (ρ 0)], ⟨ρ 0, hx.1, rfl⟩, ?_⟩⟩
    rw [hx.2]
    refine Eq.mpr (J_pop (pc := 8) (show decode (mB 306) 8 = .ok (.pop, 1) by decide +kernel) rfl) ?_
    refine Eq.mpr (J_vret (pc := 9) rfl (show decode (mB 306) 9 = .ok (.return_, 1) by decide +kernel)) ?_
    exact ⟨rfl, hG, fun _ _ _ => rfl, _, List.mem_cons_self, ρ, fun _ _ => rfl, rfl, fun e he => (by cases he), fun e he => (by cases he), fun e he => (by cases he)⟩
