/-! ===== the gate: what the sayings give ===== -/
theorem agtm {M : pM} : agT M (tm M) := ⟨fun _ hi => if_pos (Or.inl ⟨rfl, hi⟩), if_pos (Or.inr ⟨rfl, rfl⟩)⟩
theorem tm_1 {M : pM} {i : Nat} (hi : i < 2000) : tm M 1 i = M 1 i := agtm.1 i hi
theorem tm_st {M : pM} {c i : Nat} {v : Int} (h1 : c ≠ 1) (h2 : c ≠ 2) : tm (st M c i v) = tm M := tm_ag ⟨fun k _ => if_neg (fun h => h1 h.1.symm), if_neg (fun h => h2 h.1.symm)⟩
theorem gI_bt {M : pM} (hG : gI M) {i : Nat} (hi : i < 1900) : 0 ≤ M 1 i ∧ M 1 i ≤ 255 := by
  have e : gl 1 = [(0, 255)] := by decide +kernel
  have z : szS (SH 1) = 1900 := by decide +kernel
  exact hG.1 1 i (0, 255) (fun _ => by rw [z]; exact hi) (by rw [e]; show [((0 : Int), (255 : Int))][i % 1]? = _; rw [Nat.mod_one]; rfl) (by decide)
def hby (N : pM) : Prop := ∀ i, i < 1900 → 0 ≤ N 1 i ∧ N 1 i ≤ 255
theorem hby_M {M : pM} (hG : gI M) : hby M := fun _ hi => gI_bt hG hi
theorem hby_tm {M : pM} (hG : gI M) : hby (tm M) := fun i hi => by rw [tm_1 (by omega)]; exact gI_bt hG hi
theorem isC_1 {c : Int} (h : isC 1 c = true) : 97 ≤ c ∧ c ≤ 122 := of_decide_eq_true h
theorem isC_2 {c : Int} (h : isC 2 c = true) : 48 ≤ c ∧ c ≤ 57 := of_decide_eq_true h
theorem dv_bd {N : pM} {s : Nat} : ∀ {k : Nat}, (∀ i, s ≤ i → i < s + k → 48 ≤ N 1 i ∧ N 1 i ≤ 57) → 0 ≤ dv N s k ∧ dv N s k < 10 ^ k
  | 0, _ => ⟨Int.le_refl 0, by show (0 : Int) < 10 ^ 0; decide⟩
  | k + 1, h => by
    have ih := dv_bd (N := N) (s := s) (k := k) (fun i h1 h2 => h i h1 (by omega))
    have hc := h (s + k) (by omega) (by omega)
    show 0 ≤ 10 * dv N s k + (N 1 (s + k) - 48) ∧ 10 * dv N s k + (N 1 (s + k) - 48) < 10 ^ (k + 1)
    rw [Int.pow_succ]
    omega
theorem wid_bd {N : pM} {s e : Nat} : -1 ≤ wid N s e ∧ wid N s e ≤ 23 := by
  unfold wid
  split
  · next h =>
    have := List.idxOf_lt_length_of_mem h
    have : kws.length = 24 := rfl
    omega
  · omega
/-- which token it is -/
theorem tk_cl {N : pM} (hb : hby N) (p : Nat) :
    (tK N p = 131071 ∧ tN N ≤ tS N p ∧ tE N p = tS N p) ∨
    (tS N p < tN N ∧ tK N p = 262144 + wid N (tS N p) (tE N p) ∧ ru N 1 (tS N p) = tE N p ∧ tS N p + 1 ≤ tE N p ∧ tE N p ≤ tS N p + 8) ∨
    (tS N p < tN N ∧ tK N p = -1 ∧ tS N p + 1 ≤ tE N p) ∨
    (tS N p < tN N ∧ 393216 ≤ tK N p ∧ tK N p ≤ 403215 ∧ tS N p + 1 ≤ tE N p) ∨
    (tS N p < tN N ∧ tK N p = 524288 + N 1 (tS N p) ∧ N 1 (tS N p) ∈ sgs ∧ tE N p = tS N p + 1) ∨
    (tS N p < tN N ∧ tK N p = N 1 (tS N p) ∧ 0 ≤ N 1 (tS N p) ∧ N 1 (tS N p) ≤ 255 ∧ tE N p = tS N p + 1) := by
  generalize hs : tS N p = s
  have h0 : ru N 0 p = s := hs
  have hn := tN_le (M := N)
  by_cases h1 : tN N ≤ s
  · obtain ⟨_, a2, a3⟩ := tk_end h0 h1
    exact Or.inl ⟨a3, h1, a2⟩
  refine Or.inr ?_
  have b1 := ru_bd (M := N) (P := 1) (p := s)
  have b2 := ru_bd (M := N) (P := 2) (p := s)
  by_cases h2 : s < ru N 1 s
  · by_cases h3 : ru N 1 s ≤ s + 8
    · obtain ⟨_, a2, a3⟩ := tk_word h0 (by omega) rfl h2 h3
      exact Or.inl ⟨by omega, by rw [a2]; exact a3, a2.symm, by omega, by omega⟩
    · obtain ⟨_, a2, a3⟩ := tk_long h0 (by omega) rfl (by omega)
      exact Or.inr (Or.inl ⟨by omega, a3, by omega⟩)
  have h2' : ru N 1 s = s := by omega
  by_cases h4 : s < ru N 2 s
  · by_cases h5 : ru N 2 s ≤ s + 4 ∧ ru N 1 (ru N 2 s) = ru N 2 s
    · obtain ⟨_, a2, a3⟩ := tk_num h0 (by omega) h2' rfl h4 h5.1 h5.2
      have hd := dv_bd (N := N) (s := s) (k := ru N 2 s - s) (fun i i1 i2 => isC_2 (ru_in i1 (by omega)))
      have hp : (10 : Int) ^ (ru N 2 s - s) ≤ 10000 := by
        have : ru N 2 s - s = 1 ∨ ru N 2 s - s = 2 ∨ ru N 2 s - s = 3 ∨ ru N 2 s - s = 4 := by omega
        rcases this with h | h | h | h <;> rw [h] <;> decide
      exact Or.inr (Or.inr (Or.inl ⟨by omega, by omega, by omega, by omega⟩))
    · obtain ⟨_, a2, a3⟩ := tk_bad h0 (by omega) h2' rfl h4 h5
      exact Or.inr (Or.inl ⟨by omega, a3, by omega⟩)
  · obtain ⟨_, a2, a3⟩ := tk_sign h0 (by omega) h2' (by omega)
    have := hb s (by omega)
    by_cases h6 : N 1 s ∈ sgs
    · rw [if_pos h6] at a3
      exact Or.inr (Or.inr (Or.inr (Or.inl ⟨by omega, a3, h6, a2⟩)))
    · rw [if_neg h6] at a3
      exact Or.inr (Or.inr (Or.inr (Or.inr ⟨by omega, a3, by omega, by omega, a2⟩)))
theorem sgs_bd {c : Int} (h : c ∈ sgs) : 33 ≤ c ∧ c ≤ 126 := (by decide : ∀ c ∈ sgs, (33 : Int) ≤ c ∧ c ≤ 126) c h
theorem tE_ge {N : pM} {p : Nat} : p ≤ tS N p ∧ tS N p ≤ tE N p := by
  have b0 := ru_bd (M := N) (P := 0) (p := p)
  have b1 := ru_bd (M := N) (P := 1) (p := tS N p)
  have b2 := ru_bd (M := N) (P := 2) (p := tS N p)
  refine ⟨b0.1, ?_⟩
  unfold tE
  split
  · omega
  · split
    · omega
    · split <;> omega
theorem tE_gt {N : pM} {p : Nat} (h : tK N p ≠ 131071) : tS N p + 1 ≤ tE N p := by
  have h1 : ¬ tN N ≤ tS N p := fun hn => h (tk_end rfl hn).2.2
  have b1 := ru_bd (M := N) (P := 1) (p := tS N p)
  have b2 := ru_bd (M := N) (P := 2) (p := tS N p)
  unfold tE
  rw [if_neg h1]
  split
  · omega
  · split <;> omega
/-- a word's token -/
theorem tk_wd {N : pM} (hb : hby N) {p : Nat} (h1 : 262143 ≤ tK N p) (h2 : tK N p ≤ 262168) : tS N p < tN N ∧ tK N p = 262144 + wid N (tS N p) (tE N p) ∧ ru N 1 (tS N p) = tE N p ∧ tS N p + 1 ≤ tE N p ∧ tE N p ≤ tS N p + 8 ∧ ∀ i, tS N p ≤ i → i < tE N p → 97 ≤ N 1 i ∧ N 1 i ≤ 122 := by
  have := wid_bd (N := N) (s := tS N p) (e := tE N p)
  rcases tk_cl hb p with h | h | h | h | h | h
  · omega
  · exact ⟨h.1, h.2.1, h.2.2.1, h.2.2.2.1, h.2.2.2.2, fun i i1 i2 => isC_1 (ru_in i1 (by rw [h.2.2.1]; exact i2))⟩
  · omega
  · omega
  · have := sgs_bd h.2.2.1; omega
  · omega
/-! packing is one to one -/
def lpk (m a : Int) (l : List Int) : Int := l.foldl (fun u c => m * u + (c - a)) 0
theorem lpk_app {m a : Int} {l : List Int} {c : Int} : lpk m a (l ++ [c]) = m * lpk m a l + (c - a) := by unfold lpk; rw [List.foldl_append]; rfl
theorem bts_succ {N : pM} {s k : Nat} : bts N s (k + 1) = bts N s k ++ [N 1 (s + k)] := by unfold bts; rw [List.range_succ, List.map_append]; rfl
theorem pkd_l {m a : Int} {N : pM} {s : Nat} : ∀ {k : Nat}, pkd m a N s k = lpk m a (bts N s k)
  | 0 => rfl
  | k + 1 => by rw [bts_succ, lpk_app, ← pkd_l]; rfl
def lok (a lo hi : Int) (l : List Int) : Prop := ∀ c ∈ l, lo ≤ c - a ∧ c - a ≤ hi
theorem lpk_pos {m a hi : Int} (hm : 0 < m) : ∀ (n : Nat) (l : List Int), l.length = n → lok a 1 hi l → 0 ≤ lpk m a l ∧ (l ≠ [] → 0 < lpk m a l)
  | 0, l, hl, _ => by
    have : l = [] := List.eq_nil_of_length_eq_zero hl
    subst this
    exact ⟨Int.le_refl 0, fun h => absurd rfl h⟩
  | n + 1, l, hl, h => by
    obtain ⟨l', c, rfl⟩ : ∃ l' c, l = l' ++ [c] := by
      rcases List.eq_nil_or_concat l with e | ⟨l', c, e⟩
      · subst e; cases hl
      · exact ⟨l', c, by rw [e, List.concat_eq_append]⟩
    rw [List.length_append] at hl
    have ih := lpk_pos (hi := hi) hm n l' (by simpa using hl) (fun c hc => h c (List.mem_append_left _ hc))
    have hc := h c (List.mem_append_right _ List.mem_cons_self)
    rw [lpk_app]
    have : 0 ≤ m * lpk m a l' := Int.mul_nonneg (by omega) ih.1
    exact ⟨by omega, fun _ => by omega⟩
theorem lpk_inj {m a hi : Int} (hm : hi < m) (h0 : 0 < hi) : ∀ (n : Nat) (l k : List Int), l.length = n → lok a 1 hi l → lok a 1 hi k → lpk m a l = lpk m a k → l = k
  | 0, l, k, hl, _, h2, he => by
    have : l = [] := List.eq_nil_of_length_eq_zero hl
    subst this
    cases hk : k with
    | nil => rfl
    | cons x t =>
      have := (lpk_pos (m := m) (a := a) (hi := hi) (by omega) k.length k rfl h2).2 (by rw [hk]; exact List.cons_ne_nil _ _)
      rw [← he] at this
      exact absurd this (Int.lt_irrefl 0)
  | n + 1, l, k, hl, h1, h2, he => by
    obtain ⟨l', c, rfl⟩ : ∃ l' c, l = l' ++ [c] := by
      rcases List.eq_nil_or_concat l with e | ⟨l', c, e⟩
      · subst e; cases hl
      · exact ⟨l', c, by rw [e, List.concat_eq_append]⟩
    have hlp := lpk_pos (m := m) (a := a) (hi := hi) (by omega) _ (l' ++ [c]) rfl h1
    rcases List.eq_nil_or_concat k with e | ⟨k', d, e⟩
    · subst e
      have := hlp.2 (by simp)
      rw [he] at this
      exact absurd this (Int.lt_irrefl 0)
    rw [List.concat_eq_append] at e
    subst e
    rw [lpk_app, lpk_app] at he
    have hc := h1 c (List.mem_append_right _ List.mem_cons_self)
    have hd := h2 d (List.mem_append_right _ List.mem_cons_self)
    have e1 : (m * lpk m a l' + (c - a)) % m = c - a := by rw [Int.mul_add_emod_self_left]; exact Int.emod_eq_of_lt (by omega) (by omega)
    have e2 : (m * lpk m a k' + (d - a)) % m = d - a := by rw [Int.mul_add_emod_self_left]; exact Int.emod_eq_of_lt (by omega) (by omega)
    have e3 : c - a = d - a := by rw [← e1, ← e2, he]
    have e4 : m * lpk m a l' = m * lpk m a k' := by omega
    have e5 : lpk m a l' = lpk m a k' := Int.eq_of_mul_eq_mul_left (by omega) e4
    have := lpk_inj hm h0 n l' k' (by simpa using hl) (fun c hc => h1 c (List.mem_append_left _ hc)) (fun c hc => h2 c (List.mem_append_left _ hc)) e5
    rw [this, show c = d by omega]
theorem bts_ok {N : pM} {a lo hi : Int} {s : Nat} : ∀ {k : Nat}, (∀ i, i < k → lo ≤ N 1 (s + i) - a ∧ N 1 (s + i) - a ≤ hi) → lok a lo hi (bts N s k) := by
  intro k h c hc
  unfold bts at hc
  obtain ⟨i, h1, h2⟩ := List.mem_map.mp hc
  rw [← h2]
  exact h i (List.mem_range.mp h1)
theorem kws_ok : ∀ l ∈ kws, (∀ c ∈ l, (97 : Int) ≤ c ∧ c ≤ 122) ∧ 2 ≤ l.length := by decide
theorem qwn_l (k : Nat) : qwn k = lpk 256 0 (kws.getD k []) := by
  unfold qwn lpk
  congr 1
  funext u c
  omega
theorem kws_mem {k : Nat} (hk : k < 24) : kws.getD k [] ∈ kws := by
  have : k < kws.length := hk
  rw [List.getD_eq_getElem?_getD, List.getElem?_eq_getElem this]
  exact List.getElem_mem this
theorem kws_idx : ∀ k, k < 24 → kws.idxOf (kws.getD k []) = k := by decide
/-- a word's packing says which kept word it is -/
theorem qk_wid {N : pM} {s e k : Nat} (hk : k < 24) (hl : ∀ i, i < e - s → 97 ≤ N 1 (s + i) ∧ N 1 (s + i) ≤ 122) (h : pkd 256 0 N s (e - s) = qwn k) : wid N s e = k := by
  have e1 : bts N s (e - s) = kws.getD k [] := by
    refine lpk_inj (m := 256) (a := 0) (hi := 122) (by decide) (by decide) _ _ _ rfl (bts_ok (fun i hi => by have := hl i hi; omega)) (fun c hc => by have := (kws_ok _ (kws_mem hk)).1 c hc; omega) ?_
    rw [← pkd_l, ← qwn_l]
    exact h
  unfold wid
  rw [e1, if_pos (kws_mem hk), kws_idx k hk]
theorem qk_nwid {N : pM} {s e : Nat} (h : ∀ k, k < 24 → pkd 256 0 N s (e - s) ≠ qwn k) : wid N s e = -1 := by
  unfold wid
  refine if_neg (fun hm => ?_)
  obtain ⟨k, h1, h2⟩ := List.getElem_of_mem hm
  have h1' : k < 24 := h1
  refine h k h1' ?_
  rw [pkd_l, qwn_l, List.getD_eq_getElem?_getD, List.getElem?_eq_getElem h1, ← h2]
  rfl
theorem wid_len {N : pM} {s e : Nat} (h : 0 ≤ wid N s e) : s + 2 ≤ e := by
  unfold wid at h
  split at h
  · next hm =>
    have := (kws_ok _ hm).2
    unfold bts at this
    rw [List.length_map, List.length_range] at this
    omega
  · omega
/-! numbers packed stay small -/
theorem pk_bd {m a hi : Int} (hm : hi < m) (h0 : 0 ≤ hi) {N : pM} {s : Nat} : ∀ {k : Nat}, (∀ i, i < k → 0 ≤ N 1 (s + i) - a ∧ N 1 (s + i) - a ≤ hi) → 0 ≤ pkd m a N s k ∧ pkd m a N s k < m ^ k
  | 0, _ => ⟨Int.le_refl 0, by show (0 : Int) < m ^ 0; rw [Int.pow_zero]; decide⟩
  | k + 1, h => by
    have ih := pk_bd hm h0 (N := N) (s := s) (k := k) (fun i hi => h i (by omega))
    have hc := h k (by omega)
    show 0 ≤ m * pkd m a N s k + (N 1 (s + k) - a) ∧ m * pkd m a N s k + (N 1 (s + k) - a) < m ^ (k + 1)
    have e1 : 0 ≤ m * pkd m a N s k := Int.mul_nonneg (by omega) ih.1
    have e2 : m * pkd m a N s k + m ≤ m * m ^ k := by
      have : m * (pkd m a N s k + 1) ≤ m * m ^ k := Int.mul_le_mul_of_nonneg_left (by omega) (by omega)
      rw [Int.mul_add, Int.mul_one] at this
      exact this
    rw [Int.pow_succ, Int.mul_comm (m ^ k) m]
    omega
