/-! ===== a walk of the checker is sound ===== -/
def SM (O : pO) (j : Nat) (Q : pQ) (md : mdL) (M0 : pM) (ρ0 : Nat → Int) (N n : Nat) (A : aA) (pc : Nat) : Prop := N ≤ n → ∀ (ρ : Nat → Int) (L : pL) (S : List pv) (M : pM), agr N ρ0 ρ → gam ρ A L S M → gI M → fr md M0 M → J O j (nz j) Q pc L S 119 M
theorem px_sx {O : pO} {j n0 : Nat} {Q : pQ} {P : pP} {pc : Nat} {L : pL} {S : List pv} {M : pM} {n : Nat} {A : aA} {i : Instr} {len : Nat} {r : Nat × aA} (h : px j i len n A = some r) (k : ∃ S', pur j i len L S S' ∧ P (pc + len) L S' 119 M) : sx O j n0 Q P pc L S 119 M i len := by
  cases i <;> first | exact k | (cases h)
theorem sx1_sx {O : pO} {j n0 : Nat} {Q : pQ} {P : pP} {pc : Nat} {L : pL} {S : List pv} {M : pM} {n : Nat} {A : aA} {i : Instr} {len : Nat} {r : Nat × aA} (h : sx1 i len n A = some r) (k : ∃ L' S', sto i len L L' S S' ∧ P (pc + len) L' S' 119 M) : sx O j n0 Q P pc L S 119 M i len := by
  cases i <;> first | (cases h; done) | exact k
theorem k57 {k : Nat} (h : (Nat.beq k 1005 || Nat.beq k 1007) = true) : ∃ i, i < 2 ∧ k = 1005 + 2 * i := by
  rcases (Bool.or_eq_true _ _).mp h with q | q
  · exact ⟨0, by decide, beq_t q⟩
  · exact ⟨1, by decide, beq_t q⟩
theorem k68 {k : Nat} (h : (Nat.beq k 1006 || Nat.beq k 1008) = true) : ∃ i, i < 2 ∧ k = 1006 + 2 * i ∧ cond (Nat.beq k 1006) (126 : Int) 10 = ((slen i : Nat) : Int) := by
  rcases (Bool.or_eq_true _ _).mp h with q | q
  · exact ⟨0, by decide, beq_t q, by rw [q]; rfl⟩
  · exact ⟨1, by decide, beq_t q, by rw [beq_t q]; rfl⟩
theorem zx_ok {O : pO} {j : Nat} {P : pP} {pc : Nat} {ρ : Nat → Int} {n : Nat} {A : aA} {L : pL} {S : List pv} {M : pM} {i : Instr} {len : Nat} {r : Nat × aA} (g : gam ρ A L S M) (hG : gI M) (h : zx j i len n A = some r) (k : ∀ S', nxt ρ n r L S' M → P (pc + len) L S' 119 M) : sy O j P pc L S 119 M i len := by
  cases i
  case ldc ix =>
    simp only [zx] at h
    split at h
    · cases h
    · next q hq =>
      obtain ⟨hc, he⟩ := cond_t h
      cases he
      have h1 := beq_t hc
      subst h1
      have m1 := List.mem_of_find?_eq_some hq
      have m0 := List.find?_some hq
      obtain ⟨m2, m3⟩ := and_t m0
      exact ⟨rfl, q, m1, beq_t m2, beq_t m3, k _ (psh_ok g g.2.1 rfl)⟩
  case getfield ix =>
    simp only [zx] at h
    split at h
    · next x T hk =>
      split at h
      · cases h
      · next q hq =>
        obtain ⟨hc, he⟩ := cond_t h
        cases he
        obtain ⟨h1, h2⟩ := and_t hc
        have h1 := beq_t h1
        subst h1
        obtain ⟨i, hi, rfl⟩ := k57 h2
        have hs := g.2.1
        rw [hk] at hs
        obtain ⟨S0, e1, e2⟩ := sm_R hs
        subst e1
        have m1 := List.mem_of_find?_eq_some hq
        have m0 := List.find?_some hq
        obtain ⟨m2, m3⟩ := and_t m0
        refine ⟨rfl, q, m1, beq_t m2, beq_t m3, i, S0, hi, rfl, k _ (psh_ok g e2 ?_)⟩
        cases hz : Nat.beq q.2.2.1 0 with
        | true =>
          rw [if_pos (beq_t hz)]
          show vr (1006 + 2 * i) = vr (1005 + 2 * i + 1)
          rw [show 1006 + 2 * i = 1005 + 2 * i + 1 by omega]
        | false =>
          rw [if_neg (fun w => by rw [w] at hz; cases hz)]
          show vi 0 = vi (ev ρ (fk 0))
          rw [ev_fk]
    · cases h
  case getstatic ix =>
    simp only [zx] at h
    split at h
    · cases h
    · next q hq =>
      obtain ⟨hc, he⟩ := cond_t h
      cases he
      obtain ⟨h1, h2⟩ := and_t hc
      have h1 := beq_t h1
      subst h1
      have m1 := List.mem_of_find?_eq_some hq
      have m0 := List.find?_some hq
      obtain ⟨m2, m3⟩ := and_t m0
      refine ⟨rfl, q, m1, beq_t m2, beq_t m3, ?_⟩
      rw [if_pos (beq_t h2)]
      exact k _ (psh_ok g g.2.1 (by show vi 1 = vi (ev ρ (fk 1)); rw [ev_fk]))
  case baload =>
    simp only [zx] at h
    split at h
    · next f x T hk =>
      obtain ⟨hc, he⟩ := cond_t h
      obtain ⟨hc, h3⟩ := and_t hc
      obtain ⟨h1, h2⟩ := and_t hc
      have h1 := beq_t h1
      subst h1
      obtain ⟨i, hi, e9, e8⟩ := k68 h2
      obtain ⟨lq, l1, l2, l3⟩ := ixA_ok g.2.2.2.1 g.2.2.2.2 h3
      cases l1
      rw [ev_fk, e8] at l3
      subst e9
      have hs := g.2.1
      rw [hk] at hs
      obtain ⟨S1, e1, e0⟩ := sm_I hs
      obtain ⟨S0, e3, e2⟩ := sm_R e0
      subst e1; subst e3
      have := rd_ok hG g e2 (fun v hv => mem2 hk hv) (by omega) he l2 (fun hh => absurd hh (by omega)) (fun q => nc_S q (by rw [hk]; exact List.mem_cons_self))
      rw [show 1006 + 2 * i - 1 = 1005 + 2 * i by omega] at this
      exact ⟨rfl, _, i, S0, hi, rfl, l2, l3, k _ this⟩
    · cases h
  case arraylength =>
    simp only [zx] at h
    split at h
    · next x T hk =>
      obtain ⟨hc, he⟩ := cond_t h
      obtain ⟨h1, h2⟩ := and_t hc
      have h1 := beq_t h1
      subst h1
      obtain ⟨i, hi, e9, e8⟩ := k68 h2
      cases he
      rw [e8] at k
      subst e9
      have hs := g.2.1
      rw [hk] at hs
      obtain ⟨S0, e1, e2⟩ := sm_R hs
      subst e1
      exact ⟨rfl, i, S0, hi, rfl, k _ (psh_ok g e2 (by show vi _ = vi (ev ρ (fk _)); rw [ev_fk]))⟩
    · cases h
  all_goals (cases h)
theorem ex_ok {O : pO} {j : Nat} {Q : pQ} {md : mdL} {M0 : pM} {ρ0 : Nat → Int} {N n n' : Nat} {A A' : aA} {pc pc' : Nat} {i : Instr} {len : Nat} (hd : decode (mB j) pc = .ok (i, len)) (h : ex md j pc i len n A = some (pc', n', A')) (k : SM O j Q md M0 ρ0 N n' A' pc') : SM O j Q md M0 ρ0 N n A pc := by
  intro hn ρ L S M ha g hG hf
  unfold ex at h
  split at h
  · next off =>
    obtain ⟨hc, he⟩ := cond_t h
    split at he
    · next t ht =>
      cases he
      exact J_sx hd ⟨beq_t hc, _, ht, k hn ρ L S M ha g hG hf⟩
    · cases he
  · cases h1 : px j i len n A with
    | some r =>
      rw [h1] at h
      cases h
      obtain ⟨S', p1, ρ', p2, p3, p4⟩ := px_ok g h1
      exact J_sx hd (px_sx h1 ⟨S', p1, k (Nat.le_trans hn p3) ρ' L S' M (agr_tr ha p2 hn) p4 hG hf⟩)
    | none =>
      rw [h1] at h
      cases h2 : sx1 i len n A with
      | some r =>
        rw [h2] at h
        cases h
        obtain ⟨L', S', p1, ρ', p2, p3, p4⟩ := sx1_ok g h2
        exact J_sx hd (sx1_sx h2 ⟨L', S', p1, k (Nat.le_trans hn p3) ρ' L' S' M (agr_tr ha p2 hn) p4 hG hf⟩)
      | none =>
        rw [h2] at h
        cases h3 : mx1 md j i len n A with
        | some r =>
          rw [h3] at h
          cases h
          exact J_sx hd (mx1_ok g hG hf h3 (fun ρ' S' M' p1 p2 p3 p4 p5 => k (Nat.le_trans hn p2) ρ' L S' M' (agr_tr ha p1 hn) p3 p4 p5))
        | none =>
          rw [h3] at h
          cases h4 : zx j i len n A with
          | none => rw [h4] at h; cases h
          | some r =>
            rw [h4] at h
            cases h
            exact J_sy hd (zx_ok g hG h4 (fun S' ⟨ρ', p1, p2, p3⟩ => k (Nat.le_trans hn p2) ρ' L S' M (agr_tr ha p1 hn) p3 hG hf))
theorem gam_adf {ρ : Nat → Int} {A : aA} {L : pL} {S : List pv} {M : pM} (g : gam ρ A L S M) {f : lf} (h : 0 ≤ ev ρ f) : gam ρ (adf A f) L S M := by
  have := adf_ok g.2.2.2.1 g.2.2.2.2 h
  exact ⟨g.1, g.2.1, g.2.2.1, this.1, this.2⟩
theorem gam_adL {ρ : Nat → Int} {L : pL} {S : List pv} {M : pM} : ∀ {l : List lf} {A : aA}, gam ρ A L S M → okF ρ l → gam ρ (adL A l) L S M
  | [], _, g, _ => g
  | f :: r, A, g, h => gam_adL (l := r) (gam_adf g (h f List.mem_cons_self)) (fun q hq => h q (List.mem_cons_of_mem _ hq))
theorem cng_ok {c : jC} {x y : Int} (h : ¬ cnd c x y) : cnd (cng c) x y := by
  cases c
  · exact h
  · exact Classical.not_not.mp h
  · exact Int.not_lt.mp h
  · exact Int.not_le.mp h
  · exact Int.not_lt.mp h
  · exact Int.not_le.mp h
theorem gam_psA {ρ : Nat → Int} {A : aA} {L : pL} {S S0 : List pv} {M : pM} (g : gam ρ A L S M) {T : List av} (h : sm ρ T S0) : gam ρ (psA A T) L S0 M := ⟨g.1, h, g.2.2.1, g.2.2.2.1, g.2.2.2.2⟩
theorem adc_ok {ρ : Nat → Int} {A A' : aA} {L : pL} {S : List pv} {M : pM} (g : gam ρ A L S M) {c : jC} {x y : lf} {m : Nat} (h : adc A c x y m = some A') (hc : cnd c (ev ρ x) (ev ρ y)) : gam ρ A' L S M := by
  cases c
  · cases h
    have hc : ev ρ x = ev ρ y := hc
    exact gam_adf (gam_adf g (by rw [ev_fsb]; omega)) (by rw [ev_fsb]; omega)
  · have hc : ¬ ev ρ x = ev ρ y := hc
    unfold adc at h
    dsimp only at h
    split at h
    · cases h; exact g
    · obtain ⟨h1, h2⟩ := cond_t h
      cases h2
      have := en_ok g.2.2.2.1 g.2.2.2.2 h1
      rw [ev_fsb] at this
      exact gam_adf g (by rw [ev_fak, ev_fsb]; omega)
    · obtain ⟨h1, h2⟩ := cond_t h
      cases h2
      have := en_ok g.2.2.2.1 g.2.2.2.2 h1
      rw [ev_fsb] at this
      exact gam_adf g (by rw [ev_fak, ev_fsb]; omega)
  · cases h
    have hc : ev ρ x < ev ρ y := hc
    exact gam_adf g (by rw [ev_fak, ev_fsb]; omega)
  · cases h
    have hc : ev ρ y ≤ ev ρ x := hc
    exact gam_adf g (by rw [ev_fsb]; omega)
  · cases h
    have hc : ev ρ y < ev ρ x := hc
    exact gam_adf g (by rw [ev_fak, ev_fsb]; omega)
  · cases h
    have hc : ev ρ x ≤ ev ρ y := hc
    exact gam_adf g (by rw [ev_fsb]; omega)
section ACTS
variable {O : pO} {j : Nat} {Q : pQ} {md : mdL} {M0 : pM} {ρ0 : Nat → Int} {N : Nat}
def KS (O : pO) (j : Nat) (Q : pQ) (md : mdL) (M0 : pM) (ρ0 : Nat → Int) (N : Nat) (K : kK) : Prop := ∀ n A pc z z', K n A pc z = some z' → SM O j Q md M0 ρ0 N n A pc
theorem br2_ok {K : kK} (hK : KS O j Q md M0 ρ0 N K) {n : Nat} {A : aA} {pc : Nat} {c : jC} {off : Int} {x y : lf} {z z' : Nat} (h : br2 K n A pc c off x y z = some z') {ρ : Nat → Int} {L : pL} {S : List pv} {M : pM} (hn : N ≤ n) (ha : agr N ρ0 ρ) (g : gam ρ A L S M) (hG : gI M) (hf : fr md M0 M) : ∃ t : Nat, (pc : Int) + off = (t : Nat) ∧ (cnd c (ev ρ x) (ev ρ y) → J O j (nz j) Q t L S 119 M) ∧ (¬ cnd c (ev ρ x) (ev ρ y) → J O j (nz j) Q (pc + 3) L S 119 M) := by
  unfold br2 at h
  split at h
  · cases h
  · next t ht =>
    split at h
    · cases h
    · next A1 h1 =>
      split at h
      · cases h
      · next A2 h2 =>
        split at h
        · cases h
        · next z1 h3 => exact ⟨t, ht, fun q => hK _ _ _ _ _ h3 hn ρ L S M ha (adc_ok g h1 q) hG hf, fun q => hK _ _ _ _ _ h hn ρ L S M ha (adc_ok g h2 (cng_ok q)) hG hf⟩
theorem brA_ok {K : kK} (hK : KS O j Q md M0 ρ0 N K) {n : Nat} {A : aA} {pc : Nat} {i : Instr} {len : Nat} {z z' : Nat} (hd : decode (mB j) pc = .ok (i, len)) (h : brA K n A pc i len z = some z') : SM O j Q md M0 ρ0 N n A pc := by
  intro hn ρ L S M ha g hG hf
  refine J_sx hd ?_
  unfold brA at h
  split at h
  · next c off =>
    split at h
    · next x T hk =>
      obtain ⟨hc, he⟩ := cond_t h
      have hs := g.2.1
      rw [hk] at hs
      obtain ⟨S0, e1, e2⟩ := sm_I hs
      subst e1
      obtain ⟨t, q1, q2, q3⟩ := br2_ok hK he hn ha (gam_psA g e2) hG hf
      rw [ev_fk] at q2 q3
      exact ⟨beq_t hc, _, S0, t, rfl, q1, q2, q3⟩
    · cases h
  · next c off =>
    split at h
    · next y x T hk =>
      obtain ⟨hc, he⟩ := cond_t h
      have hs := g.2.1
      rw [hk] at hs
      obtain ⟨S1, e1, e0⟩ := sm_I hs
      obtain ⟨S0, e3, e2⟩ := sm_I e0
      subst e1; subst e3
      obtain ⟨t, q1, q2, q3⟩ := br2_ok hK he hn ha (gam_psA g e2) hG hf
      exact ⟨beq_t hc, _, _, S0, t, rfl, q1, q2, q3⟩
    · cases h
  · cases h
theorem gam_eq {ρ : Nat → Int} {A : aA} {L : pL} {S : List pv} {M : pM} (g : gam ρ A L S M) {x : lf} {v : Int} (h : ev ρ x = v) : gam ρ (adf (adf A (fak x (-v))) (fak (fsc (-1) x) v)) L S M := gam_adf (gam_adf g (by rw [ev_fak]; omega)) (by rw [ev_fak, ev_neg]; omega)
theorem swT_ok {K : kK} (hK : KS O j Q md M0 ρ0 N K) {n : Nat} {A : aA} {pc : Nat} {x : lf} {ρ : Nat → Int} {L : pL} {S : List pv} {M : pM} (hn : N ≤ n) (ha : agr N ρ0 ρ) (g : gam ρ A L S M) (hG : gI M) (hf : fr md M0 M) : ∀ {l : List Int} {v : Int} {z z' : Nat}, swT K n A pc x l v z = some z' → ∀ k : Nat, ev ρ x = v + k → k < l.length → ∃ off, l[k]? = some off ∧ ∃ t : Nat, (pc : Int) + off = t ∧ J O j (nz j) Q t L S 119 M
  | [], _, _, _, _ => fun k _ h => absurd h (Nat.not_lt_zero k)
  | off :: r, v, z, z', h => by
    intro k hk hl
    unfold swT at h
    split at h
    · cases h
    · next t ht =>
      split at h
      · cases h
      · next y hy =>
        cases k with
        | zero => exact ⟨off, rfl, t, ht, hK _ _ _ _ _ hy hn ρ L S M ha (gam_eq g (by omega)) hG hf⟩
        | succ k =>
          obtain ⟨o, q1, q2⟩ := swT_ok hK hn ha g hG hf h k (by omega) (by simpa using hl)
          exact ⟨o, by simpa using q1, q2⟩
theorem swL_ok {K : kK} (hK : KS O j Q md M0 ρ0 N K) {n : Nat} {A : aA} {pc : Nat} {x : lf} {ρ : Nat → Int} {L : pL} {S : List pv} {M : pM} (hn : N ≤ n) (ha : agr N ρ0 ρ) (g : gam ρ A L S M) (hG : gI M) (hf : fr md M0 M) {d : Int} {t0 : Nat} (ht0 : (pc : Int) + d = t0) : ∀ {l : List (Int × Int)} {z z' : Nat}, swL K n A pc x l z = some z' → ((∀ e ∈ l, e.1 ≠ ev ρ x) → J O j (nz j) Q t0 L S 119 M) → ∃ t : Nat, (pc : Int) + Op.lookupswitch.offset l d (ev ρ x) = t ∧ J O j (nz j) Q t L S 119 M
  | [], _, _, _, h0 => ⟨t0, ht0, h0 (fun _ w => by cases w)⟩
  | (a, o) :: r, z, z', h, h0 => by
    unfold swL at h
    split at h
    · cases h
    · next t ht =>
      split at h
      · cases h
      · next y hy =>
        show ∃ t : Nat, (pc : Int) + (if a = ev ρ x then o else Op.lookupswitch.offset r d (ev ρ x)) = t ∧ J O j (nz j) Q t L S 119 M
        by_cases he : a = ev ρ x
        · rw [if_pos he]
          exact ⟨t, ht, hK _ _ _ _ _ hy hn ρ L S M ha (gam_eq g he.symm) hG hf⟩
        · rw [if_neg he]
          refine swL_ok hK hn ha g hG hf ht0 h (fun q => h0 (fun e w => ?_))
          rcases List.mem_cons.mp w with w | w
          · rw [w]; exact he
          · exact q e w
theorem swA_ok {K : kK} (hK : KS O j Q md M0 ρ0 N K) {n : Nat} {A : aA} {pc : Nat} {i : Instr} {len : Nat} {z z' : Nat} (hd : decode (mB j) pc = .ok (i, len)) (h : swA K n A pc i z = some z') : SM O j Q md M0 ρ0 N n A pc := by
  intro hn ρ L S M ha g hG hf
  refine J_sx hd ?_
  unfold swA at h
  split at h
  · next x T hk =>
    have hs := g.2.1
    rw [hk] at hs
    obtain ⟨S0, e1, e2⟩ := sm_I hs
    subst e1
    have g' := gam_psA g e2
    split at h
    · next d lo hi offs =>
      split at h
      · cases h
      · next t ht =>
        obtain ⟨h1, h2⟩ := cond_t h
        have h1 := ieq_iff.mp h1
        split at h2
        · cases h2
        · next y hy =>
          split at h2
          · cases h2
          · next w hw =>
            refine ⟨_, S0, rfl, fun tgt hx htg => ?_, ⟨t, ht⟩, fun k hx hh => ?_⟩
            · have e : tgt = t := by
                have ht' : (pc : Int) + d = (t : Nat) := ht
                omega
              subst e
              rcases hx with q | q
              · exact hK _ _ _ _ _ hw hn ρ L S0 M ha (gam_adf g' (by rw [ev_fak, ev_neg]; omega)) hG hf
              · exact hK _ _ _ _ _ h2 hn ρ L S0 M ha (gam_adf g' (by rw [ev_fak]; omega)) hG hf
            · have hlen : k < offs.toList.length := by
                have h1 : lo + (offs.toList.length : Int) - 1 = hi := h1
                omega
              obtain ⟨o, q1, q2⟩ := swT_ok hK hn ha g' hG hf hy k hx hlen
              exact ⟨o, by simpa using q1, q2⟩
    · next d ps =>
      split at h
      · cases h
      · next t ht =>
        obtain ⟨h1, h2⟩ := cond_t h
        split at h2
        · cases h2
        · next y hy =>
          obtain ⟨tt, q1, q2⟩ := swL_ok hK hn ha g' hG hf ht hy (fun hne => by
            cases hk' : ps.toList.any (fun e => inG (psA A T) x (e.1, e.1)) with
            | true =>
              obtain ⟨e, w1, w2⟩ := List.any_eq_true.mp hk'
              have w3 : e.1 ≤ ev ρ x ∧ ev ρ x ≤ e.1 := inG_ok g'.2.2.2.1 g'.2.2.2.2 w2
              exact absurd (show e.1 = ev ρ x by omega) (hne e w1)
            | false =>
              rw [hk'] at h2
              exact hK _ _ _ _ _ (show K n (psA A T) t y = some z' from h2) hn ρ L S0 M ha g' hG hf)
          exact ⟨h1, _, S0, rfl, tt, q1, q2⟩
    · cases h
  · cases h
theorem dedA_ok {n : Nat} {A : aA} {pc : Nat} {z z' : Nat} (h : dedA A z = some z') : SM O j Q md M0 ρ0 N n A pc := by
  intro hn ρ L S M ha g hG hf
  unfold dedA at h
  obtain ⟨h1, -⟩ := cond_t h
  exfalso
  split at h1
  · have := ivF_ok g.2.2.2.1 g.2.2.2.2 h1
    rw [ev_fk] at this
    omega
  · next s hs =>
    split at h1
    · cases h1
    · next b hb =>
      have h2 := bl_ok g.2.2.2.1 hb
      have h3 := ige_iff.mp h1
      omega
theorem lmS_ok {ρ : Nat → Int} {F : List lf} (hF : okF ρ F) : ∀ {l : List (Nat × Nat)} {f : lf}, l.all (fun e => Nat.blt e.1 F.length) = true → ev ρ (lmS F l f) ≤ ev ρ f
  | [], f, _ => Int.le_refl _
  | e :: r, f, h => by
    rw [List.all_cons] at h
    obtain ⟨h1, h2⟩ := and_t h
    have h1 : e.1 < F.length := Nat.blt_eq ▸ h1
    have q := lmS_ok hF (l := r) (f := fsb f (fsc (Int.ofNat e.2) (F.getD e.1 (0, [])))) h2
    rw [ev_fsb, ev_fsc] at q
    have hm : F.getD e.1 (0, []) ∈ F := by
      rw [List.getD_eq_getElem?_getD, List.getElem?_eq_getElem h1]
      exact List.getElem_mem h1
    have : 0 ≤ Int.ofNat e.2 * ev ρ (F.getD e.1 (0, [])) := Int.mul_nonneg (Int.natCast_nonneg _) (hF _ hm)
    show ev ρ (lmS F r (fsb f (fsc (Int.ofNat e.2) (F.getD e.1 (0, []))))) ≤ _
    omega
theorem lmA_ok {K : kK} (hK : KS O j Q md M0 ρ0 N K) {n : Nat} {A : aA} {pc z z' : Nat} (h : lmA K n A pc z = some z') : SM O j Q md M0 ρ0 N n A pc := by
  intro hn ρ L S M ha g hG hf
  unfold lmA at h
  split at h
  next f y hr =>
  split at h
  next l x hl =>
  obtain ⟨h1, h2⟩ := cond_t h
  obtain ⟨h1, h3⟩ := and_t h1
  obtain ⟨h1, h4⟩ := and_t h1
  refine hK _ _ _ _ _ h2 hn ρ L S M ha (gam_adf g ?_) hG hf
  have q1 := iv_ok g.2.2.2.1 h3
  have q2 := lmS_ok g.2.2.2.2 (l := l) (f := fak (fsc (Int.ofNat (y % hB + 1)) f) (Int.ofNat (y % hB))) h4
  have q5 := Int.le_trans q1 q2
  rw [ev_fak, ev_fsc] at q5
  have q3 : Int.ofNat (y % hB + 1) = ((y % hB : Nat) : Int) + 1 := rfl
  have q4 : Int.ofNat (y % hB) = ((y % hB : Nat) : Int) := rfl
  rw [q3, q4] at q5
  have hm : (0 : Int) ≤ ((y % hB : Nat) : Int) := Int.natCast_nonneg _
  generalize ((y % hB : Nat) : Int) = m at q5 hm
  generalize ev ρ f = v at q5 ⊢
  rcases Int.lt_or_le v 0 with hv | hv
  · exfalso
    have : (m + 1) * v ≤ (m + 1) * (-1) := Int.mul_le_mul_of_nonneg_left (by omega) (by omega)
    omega
  · exact hv
theorem spA_ok {K : kK} (hK : KS O j Q md M0 ρ0 N K) {n : Nat} {A : aA} {pc z z' : Nat} (h : spA K n A pc z = some z') : SM O j Q md M0 ρ0 N n A pc := by
  intro hn ρ L S M ha g hG hf
  unfold spA at h
  split at h
  next f y hr =>
  obtain ⟨h1, h2⟩ := cond_t h
  split at h2
  · cases h2
  · next x hx =>
    rcases Int.lt_or_le (ev ρ f) 0 with hv | hv
    · exact hK _ _ _ _ _ h2 hn ρ L S M ha (gam_adf g (by rw [ev_fak, ev_neg]; omega)) hG hf
    · exact hK _ _ _ _ _ hx hn ρ L S M ha (gam_adf g hv) hG hf
theorem rfL_ok {K : kK} (hK : KS O j Q md M0 ρ0 N K) {a k pc : Nat} (ha5 : a < 5000) {n : Nat} {A : aA} {S0 : List pv} {T : List av} {ρ : Nat → Int} {L : pL} {S : List pv} {M : pM} (hn : N ≤ n) (ha : agr N ρ0 ρ) (g : gam ρ A L S M) (hT : sm ρ T S0) (hG : gI M) (hf : fr md M0 M) : ∀ {l : List Nat} {z z' : Nat}, rfL K n A T a k pc l z = some z' → ∀ x ∈ l, M a k = ((x : Nat) : Int) → J O j (nz j) Q pc L (vr x :: S0) 119 M
  | [], _, _, _ => fun x hx => by cases hx
  | y :: r, z, z', h => by
    intro x hx he
    unfold rfL at h
    split at h
    · cases h
    · next w hw =>
      rcases List.mem_cons.mp hx with q | q
      · subst q
        refine hK _ _ _ _ _ hw hn ρ L _ M ha ⟨g.1, ⟨rfl, hT⟩, fun e he' => ?_, g.2.2.2.1, g.2.2.2.2⟩ hG hf
        rcases List.mem_cons.mp he' with u | u
        · subst u
          show ok1 a (ev ρ (fk (k : Int))) (ev ρ (fk (x : Int))) M
          rw [ok1_lo ha5]
          refine ⟨ev_k0, ?_⟩
          rw [toN_k, ev_fk]
          exact he
        · exact g.2.2.1 e u
      · exact rfL_ok hK ha5 hn ha g hT hG hf h x q he
theorem rfA_ok {K : kK} (hK : KS O j Q md M0 ρ0 N K) {n : Nat} {A : aA} {pc : Nat} {i : Instr} {len : Nat} {z z' : Nat} (hd : decode (mB j) pc = .ok (i, len)) (h : rfA K j n A pc i len z = some z') : SM O j Q md M0 ρ0 N n A pc := by
  intro hn ρ L S M ha g hG hf
  refine J_sx hd ?_
  unfold rfA at h
  split at h
  · next ix =>
    split at h
    · next a T hk =>
      have hs := g.2.1
      rw [hk] at hs
      obtain ⟨S0, e1, e2⟩ := sm_R hs
      subst e1
      split at h
      · cases h
      · next q hq =>
        obtain ⟨hc, he⟩ := cond_t h
        obtain ⟨hc, h4⟩ := and_t hc
        obtain ⟨hc, h3⟩ := and_t hc
        obtain ⟨h1, h2⟩ := and_t hc
        have h1 := beq_t h1
        subst h1
        obtain ⟨o1, o2, o3⟩ := obA_ok h2
        obtain ⟨f1, f2, f3⟩ := fdf_ok hq
        refine ⟨rfl, q, f1, f2, f3, a, S0, rfl, o3, ?_⟩
        rw [(fty_3 (beq_t h3) (M a q.2.2.2.1)).1]
        have hne : rf a q.2.2.2.1 ≠ [] := fun w => by rw [w] at h4; cases h4
        obtain ⟨x, x1, x2⟩ := rf_one hG hne
        rw [x2, Int.toNat_natCast]
        exact rfL_ok hK (by omega) hn ha g e2 hG hf he x x1 x2
    · cases h
  · cases h
theorem ldA_ok {K : kK} (hK : KS O j Q md M0 ρ0 N K) {n : Nat} {A : aA} {pc z z' : Nat} (h : ldA K n A pc z = some z') : SM O j Q md M0 ρ0 N n A pc := by
  intro hn ρ L S M ha g hG hf
  unfold ldA at h
  obtain ⟨hc, he⟩ := cond_t h
  have hc : z / hB % hB < szA (z % hB) := Nat.blt_eq ▸ hc
  have hc5 : z % hB < 5000 := by
    rcases Nat.lt_or_ge (z % hB) 5000 with q | q
    · exact q
    · exfalso
      unfold szA at hc
      rw [show Nat.blt (z % hB) 119 = false from by cases hz : Nat.blt (z % hB) 119 with | false => rfl | true => have : z % hB < 119 := Nat.blt_eq ▸ hz; omega, show Nat.beq (z % hB) 1003 = false from by cases hz : Nat.beq (z % hB) 1003 with | false => rfl | true => have := beq_t hz; omega] at hc
      exact absurd hc (Nat.not_lt_zero _)
  split at he
  · cases he
  · next m B hr =>
    have hk : z % hB < 119 → (ev ρ (fk (Int.ofNat (z / hB % hB)))).toNat < szS (SH (z % hB)) := by
      intro hl
      have e : (ev ρ (fk (Int.ofNat (z / hB % hB)))).toNat = z / hB % hB := toN_k
      rw [e]
      unfold szA at hc
      rw [show Nat.blt (z % hB) 119 = true from Nat.blt_eq ▸ hl] at hc
      exact hc
    cases hm : mget A.2.2.1 (z % hB) (fk (Int.ofNat (z / hB % hB))) with
    | some v =>
      have e : (n, ((A.1, [aI v], A.2.2) : aA)) = (m, B) := by
        unfold rd at hr
        rw [hm] at hr
        exact Option.some.inj hr
      cases e
      exact hK _ _ _ _ _ he hn ρ L S M ha g hG hf
    | none =>
      have hnc : nc n A = true := by
        unfold rd at hr
        rw [hm] at hr
        dsimp only at hr
        split at hr
        · cases hr
        · exact (cond_t hr).1
      obtain ⟨ρ', p1, p2, p3⟩ := rd_ok (T := []) (S0 := []) hG g trivial (fun v hv => by cases hv) hc5 hr ev_k0 hk (fun _ => rfl)
      exact hK _ _ _ _ _ he (Nat.le_trans hn p2) ρ' L S M (agr_tr ha p1 hn) ⟨p3.1, sm_agr p1 (nc_and hnc).2.1 g.2.1, p3.2.2.1, p3.2.2.2.1, p3.2.2.2.2⟩ hG hf
end ACTS
