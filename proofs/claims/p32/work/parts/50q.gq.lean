/-! lines: places, runs -/
theorem qat_u {N : pM} {x : Int} {s s' : Nat × pM} (h : qat N x s) (h' : qat N x s') : s' = s := by
  obtain ⟨L, l1, e, r⟩ := h
  obtain ⟨L', l2, e', r'⟩ := h'
  have : L = L' := by omega
  subst this
  rw [r] at r'
  exact (Option.some.inj r').symm
theorem qat_p {N : pM} {x P l : Int} {s : Nat × pM} (h : qat N x s) (hx : x = 4096 * P + l ∧ 0 ≤ l ∧ l ≤ 950) : (s.1 : Int) = P := by
  obtain ⟨L, l1, e, r⟩ := h
  omega
theorem qni_le {K : Nat} : 1 ≤ qni K ∧ qni K ≤ 9 := by unfold qni; (repeat' split) <;> omega
theorem qkw_o {z : Int} {K : Nat} (h : qkw z = some K) : z = 262144 + K ∧ (K ≤ 4 ∨ 8 ≤ K ∧ K ≤ 10) := by
  unfold qkw at h
  split at h
  · next hc =>
    have := Option.some.inj h
    omega
  · cases h
theorem qkw_i {z : Int} {K : Nat} (hz : z = 262144 + K) (hK : K ≤ 4 ∨ 8 ≤ K ∧ K ≤ 10) : qkw z = some K := by
  unfold qkw
  rw [if_pos (by omega)]
  congr 1
  omega
theorem qkw_n {z : Int} (h : z < 262144 ∨ 262149 ≤ z ∧ z ≤ 262151 ∨ 262155 ≤ z) : qkw z = none := if_neg (by omega)
def EXq (N : pM) (s : Nat × pM) (K j : Nat) (a : Int) : Prop := K ≤ 10 ∧ j < qni K ∧ qkl N s K ∧ qff N s.1 s.2 K j = none ∧ a = (qps N s.1 (j + 1) : Int)
theorem ex_o {N : pM} {x y a : Int} {K j : Nat} (h : EXp N x y) (hy : y = 256 * a + (16 * K + j + 1) ∧ 0 ≤ a ∧ j < 15 ∧ K < 16) : ∃ s, qat N x s ∧ EXq N s K j a := by
  obtain ⟨s, K', j', h1, h2, h3, h4, h5, h6⟩ := h
  have := qni_le (K := K')
  have e1 : K' = K := by omega
  subst e1
  have e2 : j' = j := by omega
  subst e2
  exact ⟨s, h1, h2, h4, h5, h6, by omega⟩
theorem ex_i {N : pM} {x y a : Int} {s : Nat × pM} {K j : Nat} (h1 : qat N x s) (h : EXq N s K j a) (hy : y = 256 * a + (16 * K + j + 1)) : EXp N x y := by
  obtain ⟨h2, h3, h4, h5, h6⟩ := h
  exact ⟨s, K, j, h1, h2, by omega, h3, h4, h5⟩
theorem qff_s {N : pM} {p : Nat} {A : pM} {K n : Nat} (h : qff N p A K n = none) (hc : qck N p A K (n + 1) = none) : qff N p A K (n + 1) = none := by
  show (match qff N p A K n with | some f => some f | none => match qck N p A K (n + 1) with | some k => some ((tS N (qps N p (n + 1)) : Int), k) | none => none) = none
  rw [h, hc]
theorem qff_o {N : pM} {p : Nat} {A : pM} {K n : Nat} (h : qff N p A K (n + 1) = none) : qff N p A K n = none ∧ qck N p A K (n + 1) = none := by
  have h : (match qff N p A K n with | some f => some f | none => match qck N p A K (n + 1) with | some k => some ((tS N (qps N p (n + 1)) : Int), k) | none => none) = none := h
  cases h1 : qff N p A K n with
  | some f => rw [h1] at h; cases h
  | none =>
    rw [h1] at h
    cases h2 : qck N p A K (n + 1) with
    | some k => rw [h2] at h; cases h
    | none => exact ⟨rfl, rfl⟩
theorem qff_c {N : pM} {p : Nat} {A : pM} {K : Nat} : ∀ {n i : Nat}, qff N p A K n = none → 1 ≤ i → i ≤ n → qck N p A K i = none
  | 0, i, _, h1, h2 => by omega
  | n + 1, i, h, h1, h2 => by
    obtain ⟨a, b⟩ := qff_o h
    by_cases e : i = n + 1
    · rw [e]; exact b
    · exact qff_c a h1 (by omega)
theorem qff_f {N : pM} {p : Nat} {A : pM} {K j : Nat} {k : Int} (h : qff N p A K j = none) (hc : qck N p A K (j + 1) = some k) : ∀ d, qff N p A K (j + 1 + d) = some ((tS N (qps N p (j + 1)) : Int), k)
  | 0 => by
    show (match qff N p A K j with | some f => some f | none => match qck N p A K (j + 1) with | some k => some ((tS N (qps N p (j + 1)) : Int), k) | none => none) = _
    rw [h, hc]
  | d + 1 => by
    show (match qff N p A K (j + 1 + d) with | some f => some f | none => _) = _
    rw [qff_f h hc d]
theorem fa_i {N : pM} {x a v k : Int} {s : Nat × pM} {K j : Nat} (hq : qat N x s) (h : EXq N s K j a) (hs : v = (tS N a.toNat : Int)) (hc : qck N s.1 s.2 K (j + 1) = some k) : FLp N v k := by
  obtain ⟨L, l1, e, r⟩ := hq
  obtain ⟨h2, h3, h4, h5, h6⟩ := h
  refine ⟨L, s, r, ?_⟩
  unfold qfa
  rw [h4.1]
  show (if qfu s.2 K = true then _ else _) = _
  rw [h4.2, if_neg (by decide), show qni K = j + 1 + (qni K - (j + 1)) by omega, qff_f h5 hc, hs, show a.toNat = qps N s.1 (j + 1) by omega]
theorem ex_s {N : pM} {a e : Int} {s : Nat × pM} {K j : Nat} (h : EXq N s K j a) (hc : qck N s.1 s.2 K (j + 1) = none) (hj : j + 1 < qni K) (he : e = (tE N a.toNat : Int)) : EXq N s K (j + 1) e := by
  obtain ⟨h2, h3, h4, h5, h6⟩ := h
  refine ⟨h2, hj, h4, qff_s h5 hc, ?_⟩
  rw [he, show a.toNat = qps N s.1 (j + 1) by omega]
  rfl
/-! an item's fault -/
theorem qcN_1 {lo hi : Int} {x : Option Int} {z : Int} (h : z ≤ 255) : qcN lo hi x z = some 1 := if_pos h
theorem qcN_2 {lo hi : Int} {x : Option Int} {z : Int} (h : 256 ≤ z) (h2 : z < 393216 ∨ 403216 ≤ z) : qcN lo hi x z = some 2 := by unfold qcN; rw [if_neg (by omega), if_pos h2]
theorem qcN_4 {lo hi : Int} {x : Option Int} {z : Int} (h : 393216 ≤ z ∧ z < 403216) (h2 : z - 393216 < lo ∨ hi < z - 393216) : qcN lo hi x z = some 4 := by unfold qcN; rw [if_neg (by omega), if_neg (by omega), if_pos h2]
theorem qcN_x {lo hi : Int} {x : Option Int} {z : Int} (h : 393216 ≤ z ∧ z < 403216) (h2 : lo ≤ z - 393216 ∧ z - 393216 ≤ hi) : qcN lo hi x z = x := by unfold qcN; rw [if_neg (by omega), if_neg (by omega), if_neg (by omega)]
theorem qcN_o {lo hi : Int} {x : Option Int} {z : Int} (h : qcN lo hi x z = none) : 393216 ≤ z ∧ z < 403216 ∧ lo ≤ z - 393216 ∧ z - 393216 ≤ hi ∧ x = none := by
  unfold qcN at h
  split at h
  · cases h
  · split at h
    · cases h
    · split at h
      · cases h
      · exact ⟨by omega, by omega, by omega, by omega, h⟩
theorem qcK_1 {w z : Int} (h : z ≤ 255) : qcK w z = some 1 := if_pos h
theorem qcK_2 {w z : Int} (h : 256 ≤ z) (h2 : z ≠ w) : qcK w z = some 2 := by unfold qcK; rw [if_neg (by omega), if_neg h2]
theorem qcK_x {w z : Int} (h : 256 ≤ z) (h2 : z = w) : qcK w z = none := by unfold qcK; rw [if_neg (by omega), if_pos h2]
theorem qcK_o {w z : Int} (h : qcK w z = none) : z = w := by
  unfold qcK at h
  split at h
  · cases h
  · split at h
    · assumption
    · cases h
theorem qcW_1 {x : Option Int} {z : Int} (h : z ≤ 255) : qcW x z = some 1 := if_pos h
theorem qcW_2 {x : Option Int} {z : Int} (h : 256 ≤ z) (h2 : z < 262143 ∨ 262168 < z) : qcW x z = some 2 := by unfold qcW; rw [if_neg (by omega), if_pos h2]
theorem qcW_x {x : Option Int} {z : Int} (h : 262143 ≤ z ∧ z ≤ 262168) : qcW x z = x := by unfold qcW; rw [if_neg (by omega), if_neg (by omega)]
theorem qcW_o {x : Option Int} {z : Int} (h : qcW x z = none) : 262143 ≤ z ∧ z ≤ 262168 ∧ x = none := by
  unfold qcW at h
  split at h
  · cases h
  · split at h
    · cases h
    · exact ⟨by omega, by omega, h⟩
theorem qck_semi {N : pM} {p : Nat} {A : pM} {K : Nat} (hK : K ≤ 4 ∨ 8 ≤ K ∧ K ≤ 10) : qck N p A K (qni K) = qcK 524347 (tK N (qps N p (qni K))) := by
  have : K = 0 ∨ K = 1 ∨ K = 2 ∨ K = 3 ∨ K = 4 ∨ K = 8 ∨ K = 9 ∨ K = 10 := by omega
  rcases this with h | h | h | h | h | h | h | h <;> subst h <;> rfl
theorem qck_1 {N : pM} {p : Nat} {A : pM} {K j : Nat} (hK : K ≤ 4 ∨ 8 ≤ K ∧ K ≤ 10) (hj : j < qni K) (hz : tK N (qps N p (j + 1)) ≤ 255) : qck N p A K (j + 1) = some 1 := by
  have hn : ∀ {lo hi x}, qcN lo hi x (tK N (qps N p (j + 1))) = some 1 := qcN_1 hz
  have hk : ∀ {w}, qcK w (tK N (qps N p (j + 1))) = some 1 := qcK_1 hz
  have hw : ∀ {x}, qcW x (tK N (qps N p (j + 1))) = some 1 := qcW_1 hz
  have : K = 0 ∨ K = 1 ∨ K = 2 ∨ K = 3 ∨ K = 4 ∨ K = 8 ∨ K = 9 ∨ K = 10 := by omega
  have q9 := (qni_le (K := K)).2
  have j9 : j = 0 ∨ j = 1 ∨ j = 2 ∨ j = 3 ∨ j = 4 ∨ j = 5 ∨ j = 6 ∨ j = 7 ∨ j = 8 := by omega
  rcases this with h | h | h | h | h | h | h | h <;> subst h <;> rcases j9 with i | i | i | i | i | i | i | i | i <;> subst i <;> first | exact hn | exact hk | exact hw | exact if_pos hz
theorem run_ge {N : pM} : ∀ {L : Nat} {s : Nat × pM}, qrun N L = some s → 2 * L ≤ s.1
  | 0, s, h => by omega
  | L + 1, s, h => by
    have h : (match qrun N L with | none => none | some s => qnx N s) = some s := h
    cases h1 : qrun N L with
    | none => rw [h1] at h; cases h
    | some t =>
      rw [h1] at h
      have h : qnx N t = some s := h
      have ih := run_ge h1
      unfold qnx at h
      cases h2 : qkw (tK N t.1) with
      | none => rw [h2] at h; cases h
      | some K =>
        rw [h2] at h
        have h : (if qfu t.2 K = true then none else match qff N t.1 t.2 K (qni K) with | some _ => none | none => some (qps N t.1 (qni K + 1), qef N t.1 t.2 K)) = some s := h
        split at h
        · cases h
        · cases h3 : qff N t.1 t.2 K (qni K) with
          | some _ => rw [h3] at h; cases h
          | none =>
            rw [h3] at h
            have := Option.some.inj h
            subst this
            have hk := qkw_o h2
            have hn := qni_le (K := K)
            have hc := qff_c h3 hn.1 (Nat.le_refl _)
            rw [qck_semi hk.2] at hc
            have hc := qcK_o hc
            have g1 := tE_gt (N := N) (p := qps N t.1 (qni K)) (by omega)
            have g2 := tE_ge (N := N) (p := qps N t.1 (qni K))
            have g3 := tE_gt (N := N) (p := t.1) (by omega)
            have g4 := tE_ge (N := N) (p := t.1)
            have g5 : ∀ n, qps N t.1 1 ≤ qps N t.1 (n + 1) := by
              intro n
              induction n with
              | zero => exact Nat.le_refl _
              | succ n ih => have := tE_ge (N := N) (p := qps N t.1 (n + 1)); have e : qps N t.1 (n + 1 + 1) = tE N (qps N t.1 (n + 1)) := rfl; omega
            have g6 := g5 (qni K - 1)
            rw [show qni K - 1 + 1 = qni K by omega] at g6
            have g7 : qps N t.1 1 = tE N t.1 := rfl
            show 2 * (L + 1) ≤ tE N (qps N t.1 (qni K))
            omega
theorem run_next {N : pM} {L K : Nat} {s : Nat × pM} (h : qrun N L = some s) (hf : qfl N s K) (hz : tK N (qps N s.1 (qni K)) = 524347) : qrun N (L + 1) = some (qps N s.1 (qni K + 1), qef N s.1 s.2 K) := by
  obtain ⟨⟨h1, h2⟩, h3⟩ := hf
  show (match qrun N L with | none => none | some s => qnx N s) = _
  rw [h]
  show qnx N s = _
  unfold qnx
  rw [h1]
  show (if qfu s.2 K = true then none else _) = _
  have hn := qni_le (K := K)
  have h4 : qff N s.1 s.2 K (qni K) = none := by
    have := qff_s h3 (by rw [show qni K - 1 + 1 = qni K by omega, qck_semi (qkw_o h1).2]; exact qcK_x (by omega) hz)
    rw [show qni K - 1 + 1 = qni K by omega] at this
    exact this
  rw [h2, if_neg (by decide), h4]
theorem run_none {N : pM} {L : Nat} (h : qrun N L = none) : ∀ d, qrun N (L + d) = none
  | 0 => h
  | d + 1 => by
    show (match qrun N (L + d) with | none => none | some s => qnx N s) = none
    rw [run_none h d]
theorem run_stuck {N : pM} {l m : Nat} {s t : Nat × pM} (h1 : qrun N l = some s) (h2 : qnx N s = none) (h3 : qrun N m = some t) : m ≤ l := by
  refine Nat.le_of_not_lt (fun hl => ?_)
  have h4 : qrun N (l + 1) = none := by
    show (match qrun N l with | none => none | some s => qnx N s) = none
    rw [h1]; exact h2
  have := run_none h4 (m - (l + 1))
  rw [show l + 1 + (m - (l + 1)) = m by omega, h3] at this
  cases this
theorem stuck_u {N : pM} {l m : Nat} {s t : Nat × pM} (h1 : qrun N l = some s) (h2 : qnx N s = none) (h3 : qrun N m = some t) (h4 : qnx N t = none) : l = m ∧ s = t := by
  have e : l = m := Nat.le_antisymm (run_stuck h3 h4 h1) (run_stuck h1 h2 h3)
  subst e
  rw [h1] at h3
  exact ⟨rfl, Option.some.inj h3⟩
theorem end_nx {N : pM} {s : Nat × pM} (h : tK N s.1 = 131071) : qnx N s = none ∧ qfa N s = none := by
  have : qkw (tK N s.1) = none := by rw [h]; exact qkw_n (Or.inl (by decide))
  unfold qnx qfa
  rw [this]
  exact ⟨rfl, if_pos h⟩
theorem fa_nx {N : pM} {s : Nat × pM} {f : Int × Int} (h : qfa N s = some f) : qnx N s = none := by
  unfold qfa at h
  unfold qnx
  cases h2 : qkw (tK N s.1) with
  | none => rfl
  | some K =>
    rw [h2] at h
    show (if qfu s.2 K = true then none else _) = none
    have h : (if qfu s.2 K = true then some ((tS N s.1 : Int), 2) else qff N s.1 s.2 K (qni K)) = some f := h
    split
    · rfl
    · next hc =>
      rw [if_neg hc] at h
      rw [h]
/-! rules about tokens ahead, in the words of the sayings -/
theorem q45 {x y : Int} {M : pM} (h : HP 45 x y M) : 0 ≤ x ∧ y = (tS (tm M) x.toNat : Int) := by rw [tS_ag agtm]; exact Eq.mp hp_45 h
theorem q46 {x y : Int} {M : pM} (h : HP 46 x y M) : 0 ≤ x ∧ y = (tE (tm M) x.toNat : Int) := by rw [tE_ag agtm]; exact Eq.mp hp_46 h
theorem q47 {x y : Int} {M : pM} (h : HP 47 x y M) : 0 ≤ x ∧ tK (tm M) x.toNat = y := by rw [tK_ag agtm]; exact ⟨(Eq.mp hp_47 h).1, (Eq.mp hp_47 h).2.symm⟩
theorem q79 {x y P : Int} {i : Nat} {M : pM} (h : HP 79 x y M) (hx : x = 16 * P + i ∧ i < 16) (hP : 0 ≤ P) : y = qvl (tm M) P.toNat i := by
  obtain ⟨p, j, h1, h2, h3⟩ := Eq.mp hp_79 h
  have e1 : j = i := by omega
  have e2 : P.toNat = p := by omega
  rw [e2, ← e1]
  exact h3
theorem r_fl {M : pM} {x y a v z k : Int} {K j : Nat} (h : HP 53 x y M) (hz : HP 47 a z M) (hs : HP 45 a v M) (hy : y = 256 * a + (16 * K + j + 1) ∧ j < 15 ∧ K < 16) (hc : ∀ s : Nat × pM, qat (tm M) x s → EXq (tm M) s K j a → tK (tm M) (qps (tm M) s.1 (j + 1)) = z → qck (tm M) s.1 s.2 K (j + 1) = some k) : HP 66 v k M := by
  obtain ⟨s, h1, h2⟩ := ex_o (Eq.mp hp_53 h) ⟨hy.1, (q47 hz).1, hy.2⟩
  refine Eq.mpr hp_66 (fa_i h1 h2 (q45 hs).2 (hc s h1 h2 ?_))
  rw [show qps (tm M) s.1 (j + 1) = a.toNat by have := h2.2.2.2.2; omega]
  exact (q47 hz).2
theorem r_ex {M : pM} {x y y' a e z : Int} {K j : Nat} (h : HP 53 x y M) (hz : HP 47 a z M) (he : HP 46 a e M) (hy : y = 256 * a + (16 * K + j + 1) ∧ j < 15 ∧ K < 16) (hy' : y' = 256 * e + (16 * K + j + 2)) (hj : j + 1 < qni K) (hc : ∀ s : Nat × pM, qat (tm M) x s → EXq (tm M) s K j a → tK (tm M) (qps (tm M) s.1 (j + 1)) = z → qck (tm M) s.1 s.2 K (j + 1) = none) : HP 53 x y' M := by
  obtain ⟨s, h1, h2⟩ := ex_o (Eq.mp hp_53 h) ⟨hy.1, (q47 hz).1, hy.2⟩
  refine Eq.mpr hp_53 (ex_i h1 (ex_s h2 (hc s h1 h2 ?_) hj (q46 he).2) (by omega))
  rw [show qps (tm M) s.1 (j + 1) = a.toNat by have := h2.2.2.2.2; omega]
  exact (q47 hz).2
theorem r_va {M : pM} {x y a v z P l X : Int} {K j : Nat} (h : HP 53 x y M) (hz : HP 47 a z M) (hx : x = 4096 * P + l ∧ 0 ≤ l ∧ l ≤ 950) (hy : y = 256 * a + (16 * K + j + 1) ∧ j < 15 ∧ K < 16) (hv : z = 393216 + v) (hX : X = 16 * P + (j + 1)) : HP 79 X v M := by
  obtain ⟨s, h1, h2⟩ := ex_o (Eq.mp hp_53 h) ⟨hy.1, (q47 hz).1, hy.2⟩
  refine Eq.mpr hp_79 ⟨s.1, j + 1, by omega, by have := qat_p h1 hx; omega, ?_⟩
  unfold qvl
  rw [show qps (tm M) s.1 (j + 1) = a.toNat by have := h2.2.2.2.2; omega, (q47 hz).2]
  omega
theorem qW_o {y w r g : Int} {A : pM} (h : qW y A) (hy : y = w + 32 * r + 1024 * g) (hw : 0 ≤ w ∧ w ≤ 12) (hr : 0 ≤ r ∧ r ≤ 20) (hg : 0 ≤ g ∧ g ≤ 4) : A 0 0 = w ∧ A 0 1 = r ∧ A 0 2 = g := by
  obtain ⟨h1, h2, h3, h4⟩ := h
  omega
/-! a line's first word -/
theorem r_exs {N : pM} {x y P l a : Int} {s : Nat × pM} {K : Nat} (h1 : qat N x s) (hx : x = 4096 * P + l ∧ 0 ≤ l ∧ l ≤ 950) (hz : tK N P.toNat = 262144 + K) (he : a = (tE N P.toNat : Int)) (hK : K ≤ 4 ∨ 8 ≤ K ∧ K ≤ 10) (hf : qfu s.2 K = false) (hy : y = 256 * a + (16 * K + 1)) : EXp N x y := by
  have hp : P.toNat = s.1 := by have := qat_p h1 hx; omega
  rw [hp] at hz he
  exact ex_i (j := 0) h1 ⟨by omega, (qni_le (K := K)).1, ⟨qkw_i hz hK, hf⟩, rfl, he⟩ (by omega)
theorem r_ful {N : pM} {x P l v : Int} {s : Nat × pM} {K : Nat} (h1 : qat N x s) (hx : x = 4096 * P + l ∧ 0 ≤ l ∧ l ≤ 950) (hz : tK N P.toNat = 262144 + K) (hv : v = (tS N P.toNat : Int)) (hK : K ≤ 4 ∨ 8 ≤ K ∧ K ≤ 10) (hf : qfu s.2 K = true) : FLp N v 2 := by
  have hp : P.toNat = s.1 := by have := qat_p h1 hx; omega
  rw [hp] at hz hv
  obtain ⟨L, l1, e, r⟩ := h1
  refine ⟨L, s, r, ?_⟩
  unfold qfa
  rw [qkw_i hz hK, hv]
  exact if_pos hf
theorem r_ftk {N : pM} {x P l v z k : Int} {s : Nat × pM} (h1 : qat N x s) (hx : x = 4096 * P + l ∧ 0 ≤ l ∧ l ≤ 950) (hz : tK N P.toNat = z) (hv : v = (tS N P.toNat : Int)) (hn : z < 131071 ∨ 131072 ≤ z ∧ z < 262144 ∨ 262149 ≤ z ∧ z ≤ 262151 ∨ 262155 ≤ z) (hk : k = if z ≤ 255 then 1 else 2) : FLp N v k := by
  have hp : P.toNat = s.1 := by have := qat_p h1 hx; omega
  rw [hp] at hz hv
  obtain ⟨L, l1, e, r⟩ := h1
  refine ⟨L, s, r, ?_⟩
  unfold qfa
  rw [hz, qkw_n (by omega), hv, hk]
  exact if_neg (by omega)
