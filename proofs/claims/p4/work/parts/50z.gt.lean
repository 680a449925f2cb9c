/-! ===== the gate: the text of a map, its tokens ===== -/
def isC (P : Nat) (c : Int) : Bool := match P with
  | 0 => decide (c = 32 ∨ c = 10)
  | 1 => decide (97 ≤ c ∧ c ≤ 122)
  | _ => decide (48 ≤ c ∧ c ≤ 57)
/-- how many bytes there are -/
def tN (M : pM) : Nat := min (M 2 1).toNat 1900
def rn (M : pM) (P p : Nat) : Nat → Nat
  | 0 => p
  | k + 1 => if isC P (M 1 p) = true then rn M P (p + 1) k else p
/-- where the run of kind P from p on ends -/
def ru (M : pM) (P p : Nat) : Nat := rn M P p (tN M - p)
def al (M : pM) (P p q : Nat) : Prop := p ≤ q ∧ (q ≤ tN M ∨ q = p) ∧ ∀ i, p ≤ i → i < q → isC P (M 1 i) = true
theorem rn_al {M : pM} {P : Nat} : ∀ {k p q : Nat}, p ≤ q → q ≤ p + k → (∀ i, p ≤ i → i < q → isC P (M 1 i) = true) → (q = p + k ∨ isC P (M 1 q) = false) → rn M P p k = q
  | 0, p, q, h1, h2, _, _ => by show p = q; omega
  | k + 1, p, q, h1, h2, h3, h4 => by
    show (if isC P (M 1 p) = true then rn M P (p + 1) k else p) = q
    by_cases hp : p = q
    · subst hp
      rcases h4 with h4 | h4
      · omega
      · rw [h4]; rfl
    · rw [if_pos (h3 p (Nat.le_refl p) (by omega))]
      refine rn_al (by omega) (by omega) (fun i i1 i2 => h3 i (by omega) i2) ?_
      rcases h4 with h4 | h4
      · exact Or.inl (by omega)
      · exact Or.inr h4
theorem ru_al {M : pM} {P p q : Nat} (h : al M P p q) (h4 : tN M ≤ q ∨ isC P (M 1 q) = false) : ru M P p = q := by
  obtain ⟨h1, h2, h3⟩ := h
  unfold ru
  by_cases hq : q ≤ tN M
  · refine rn_al h1 (by omega) h3 ?_
    rcases h4 with h4 | h4
    · exact Or.inl (by omega)
    · exact Or.inr h4
  · have : q = p := by omega
    subst this
    rw [show tN M - q = 0 by omega]
    rfl
theorem rn_in {M : pM} {P : Nat} : ∀ {k p i : Nat}, p ≤ i → i < rn M P p k → isC P (M 1 i) = true
  | 0, p, i, h1, h2 => by
    have h2 : i < p := h2
    omega
  | k + 1, p, i, h1, h2 => by
    have h2 : i < (if isC P (M 1 p) = true then rn M P (p + 1) k else p) := h2
    by_cases hp : isC P (M 1 p) = true
    · rw [if_pos hp] at h2
      by_cases hi : i = p
      · rw [hi]; exact hp
      · exact rn_in (by omega) h2
    · rw [if_neg hp] at h2
      omega
theorem ru_in {M : pM} {P p i : Nat} (h1 : p ≤ i) (h2 : i < ru M P p) : isC P (M 1 i) = true := rn_in h1 h2
/-- the value of k digits from s on, the packing of k letters -/
def dv (M : pM) (s : Nat) : Nat → Int
  | 0 => 0
  | k + 1 => 10 * dv M s k + (M 1 (s + k) - 48)
def pkd (m a : Int) (M : pM) (s : Nat) : Nat → Int
  | 0 => 0
  | k + 1 => m * pkd m a M s k + (M 1 (s + k) - a)
def kws : List (List Int) := [[114, 111, 119], [108, 105, 102, 116], [119, 105, 110, 100], [116, 111, 112], [119, 97, 108, 108], [97, 98, 111, 118, 101], [102, 114, 111, 109], [116, 111], [102, 105, 101, 108, 100], [114, 111, 97, 100], [103, 108, 105, 100, 101, 114], [115, 105, 110, 107], [104, 97, 110, 100, 105, 99, 97, 112], [115, 99, 111, 114, 101], [97, 110, 100], [111, 114], [110, 111, 116], [100, 111, 110, 101], [108, 101, 103, 115], [116, 105, 109, 101], [98, 101, 115, 116], [102, 105, 114, 115, 116], [119, 97, 108, 108, 115], [114, 111, 117, 110, 100, 101, 100]]
def bts (M : pM) (s k : Nat) : List Int := (List.range k).map (fun i => M 1 (s + i))
/-- the place of a word among the kept ones, or -1 -/
def wid (M : pM) (s e : Nat) : Int := if bts M s (e - s) ∈ kws then (kws.idxOf (bts M s (e - s)) : Int) else -1
def sgs : List Int := [59, 40, 41, 60, 62, 61, 43, 45, 42, 47]
/-- the token from p on: its begin, its end, its code -/
def tS (M : pM) (p : Nat) : Nat := ru M 0 p
def tE (M : pM) (p : Nat) : Nat := if tN M ≤ tS M p then tS M p else if tS M p < ru M 1 (tS M p) then ru M 1 (tS M p) else if tS M p < ru M 2 (tS M p) then ru M 2 (tS M p) else tS M p + 1
def tK (M : pM) (p : Nat) : Int := if tN M ≤ tS M p then 131071 else if tS M p < ru M 1 (tS M p) then (if ru M 1 (tS M p) ≤ tS M p + 8 then 262144 + wid M (tS M p) (ru M 1 (tS M p)) else -1) else if tS M p < ru M 2 (tS M p) then (if ru M 2 (tS M p) ≤ tS M p + 4 ∧ ru M 1 (ru M 2 (tS M p)) = ru M 2 (tS M p) then 393216 + dv M (tS M p) (ru M 2 (tS M p) - tS M p) else -1) else if M 1 (tS M p) ∈ sgs then 524288 + M 1 (tS M p) else M 1 (tS M p)
theorem tk_end {M : pM} {p s : Nat} (h : ru M 0 p = s) (h1 : tN M ≤ s) : tS M p = s ∧ tE M p = s ∧ tK M p = 131071 := by
  have hs : tS M p = s := h
  refine ⟨hs, ?_, ?_⟩
  · unfold tE; rw [hs, if_pos h1]
  · unfold tK; rw [hs, if_pos h1]
theorem tk_word {M : pM} {p s e : Nat} (h : ru M 0 p = s) (h1 : s < tN M) (h2 : ru M 1 s = e) (h3 : s < e) (h4 : e ≤ s + 8) : tS M p = s ∧ tE M p = e ∧ tK M p = 262144 + wid M s e := by
  have hs : tS M p = s := h
  refine ⟨hs, ?_, ?_⟩
  · unfold tE; rw [hs, if_neg (by omega), h2, if_pos h3]
  · unfold tK; rw [hs, if_neg (by omega), h2, if_pos h3, if_pos h4]
theorem tk_long {M : pM} {p s e : Nat} (h : ru M 0 p = s) (h1 : s < tN M) (h2 : ru M 1 s = e) (h4 : s + 9 ≤ e) : tS M p = s ∧ tE M p = e ∧ tK M p = -1 := by
  have hs : tS M p = s := h
  refine ⟨hs, ?_, ?_⟩
  · unfold tE; rw [hs, if_neg (by omega), h2, if_pos (by omega)]
  · unfold tK; rw [hs, if_neg (by omega), h2, if_pos (by omega), if_neg (by omega)]
theorem tk_num {M : pM} {p s e : Nat} (h : ru M 0 p = s) (h1 : s < tN M) (h2 : ru M 1 s = s) (h3 : ru M 2 s = e) (h5 : s < e) (h6 : e ≤ s + 4) (h7 : ru M 1 e = e) : tS M p = s ∧ tE M p = e ∧ tK M p = 393216 + dv M s (e - s) := by
  have hs : tS M p = s := h
  refine ⟨hs, ?_, ?_⟩
  · unfold tE; rw [hs, if_neg (by omega), h2, if_neg (by omega), h3, if_pos h5]
  · unfold tK; rw [hs, if_neg (by omega), h2, if_neg (by omega), h3, if_pos h5, if_pos ⟨h6, h7⟩]
theorem tk_bad {M : pM} {p s e : Nat} (h : ru M 0 p = s) (h1 : s < tN M) (h2 : ru M 1 s = s) (h3 : ru M 2 s = e) (h5 : s < e) (h6 : ¬ (e ≤ s + 4 ∧ ru M 1 e = e)) : tS M p = s ∧ tE M p = e ∧ tK M p = -1 := by
  have hs : tS M p = s := h
  refine ⟨hs, ?_, ?_⟩
  · unfold tE; rw [hs, if_neg (by omega), h2, if_neg (by omega), h3, if_pos h5]
  · unfold tK; rw [hs, if_neg (by omega), h2, if_neg (by omega), h3, if_pos h5, if_neg h6]
theorem tk_sign {M : pM} {p s : Nat} (h : ru M 0 p = s) (h1 : s < tN M) (h2 : ru M 1 s = s) (h3 : ru M 2 s = s) : tS M p = s ∧ tE M p = s + 1 ∧ tK M p = if M 1 s ∈ sgs then 524288 + M 1 s else M 1 s := by
  have hs : tS M p = s := h
  refine ⟨hs, ?_, ?_⟩
  · unfold tE; rw [hs, if_neg (by omega), h2, if_neg (by omega), h3, if_neg (by omega)]
  · unfold tK; rw [hs, if_neg (by omega), h2, if_neg (by omega), h3, if_neg (by omega)]
/-! a saying of the text: memories that agree on the text agree on its tokens -/
def agT (M M' : pM) : Prop := (∀ i, i < 2000 → M' 1 i = M 1 i) ∧ M' 2 1 = M 2 1
theorem tN_le {M : pM} : tN M ≤ 1900 := Nat.min_le_right _ _
theorem tN_ag {M M' : pM} (h : agT M M') : tN M' = tN M := by unfold tN; rw [h.2]
theorem rn_ag {M M' : pM} (h : agT M M') {P : Nat} : ∀ {k p : Nat}, p + k ≤ 2000 → rn M' P p k = rn M P p k
  | 0, _, _ => rfl
  | k + 1, p, hp => by
    show (if isC P (M' 1 p) = true then rn M' P (p + 1) k else p) = (if isC P (M 1 p) = true then rn M P (p + 1) k else p)
    rw [h.1 p (by omega), rn_ag h (by omega)]
theorem ru_ag {M M' : pM} (h : agT M M') {P p : Nat} : ru M' P p = ru M P p := by
  unfold ru
  rw [tN_ag h]
  have := tN_le (M := M)
  by_cases hp : p ≤ 1900
  · exact rn_ag h (by omega)
  · rw [show tN M - p = 0 by omega]; rfl
theorem rn_bd {M : pM} {P : Nat} : ∀ {k p : Nat}, p ≤ rn M P p k ∧ rn M P p k ≤ p + k
  | 0, p => ⟨Nat.le_refl p, Nat.le_refl p⟩
  | k + 1, p => by
    have := rn_bd (M := M) (P := P) (k := k) (p := p + 1)
    show p ≤ (if isC P (M 1 p) = true then rn M P (p + 1) k else p) ∧ (if isC P (M 1 p) = true then rn M P (p + 1) k else p) ≤ p + (k + 1)
    split <;> omega
theorem ru_bd {M : pM} {P p : Nat} : p ≤ ru M P p ∧ (ru M P p ≤ tN M ∨ ru M P p = p) := by
  have := rn_bd (M := M) (P := P) (k := tN M - p) (p := p)
  unfold ru
  omega
theorem dv_ag {M M' : pM} (h : agT M M') {s : Nat} : ∀ {k : Nat}, s + k ≤ 2000 → dv M' s k = dv M s k
  | 0, _ => rfl
  | k + 1, hk => by
    show 10 * dv M' s k + (M' 1 (s + k) - 48) = 10 * dv M s k + (M 1 (s + k) - 48)
    rw [dv_ag h (by omega), h.1 (s + k) (by omega)]
theorem tS_ag {M M' : pM} (h : agT M M') {p : Nat} : tS M' p = tS M p := ru_ag h
theorem bts_ag {M M' : pM} (h : agT M M') {s k : Nat} (hk : s + k ≤ 2000) : bts M' s k = bts M s k := by
  unfold bts
  exact List.map_congr_left (fun i hi => h.1 (s + i) (by have := List.mem_range.mp hi; omega))
theorem wid_ag {M M' : pM} (h : agT M M') {s e : Nat} (h1 : s ≤ 2000) (h2 : e ≤ 2000) : wid M' s e = wid M s e := by
  unfold wid
  rw [bts_ag h (by omega)]
theorem tE_ag {M M' : pM} (h : agT M M') {p : Nat} : tE M' p = tE M p := by
  unfold tE
  rw [tS_ag h, tN_ag h, ru_ag h, ru_ag h]
theorem tK_ag {M M' : pM} (h : agT M M') {p : Nat} : tK M' p = tK M p := by
  unfold tK
  rw [tS_ag h, tN_ag h]
  simp only [ru_ag h]
  by_cases h1 : tN M ≤ tS M p
  · rw [if_pos h1, if_pos h1]
  · rw [if_neg h1, if_neg h1]
    have b0 := tN_le (M := M)
    have b1 := ru_bd (M := M) (P := 1) (p := tS M p)
    have b2 := ru_bd (M := M) (P := 2) (p := tS M p)
    rw [wid_ag h (by omega) (by omega), dv_ag h (by omega), h.1 (tS M p) (by omega)]
