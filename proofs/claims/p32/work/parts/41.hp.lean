/-! ===== sayings of the memory ===== -/
/-- how many cells there were when the method began, where there are 119 now -/
def nz (j : Nat) : Nat := 119 - mC j
/-- the plan at ref v lets glider g come from (c, t, h) by move y -/
def mvd (v : Nat) (x y : Int) (M : pM) : Prop := ∃ g c t h h' t' c' : Int, (0 ≤ g ∧ g ≤ 3 ∧ 0 ≤ c ∧ c ≤ 63 ∧ 0 ≤ t ∧ t ≤ 36 ∧ 0 ≤ h ∧ h ≤ 40) ∧ x = ((g * 64 + c) * 37 + t) * 41 + h ∧ (0 ≤ h' ∧ h' ≤ 40 ∧ t + 1 ≤ t' ∧ t' ≤ 36 ∧ 0 ≤ c' ∧ c' ≤ 63) ∧
  OJ 20 61 [vr v, vi g, vi c, vi t, vi h, vi y] 119 M (fun a M' => a = some (vi (6400 * h' + 100 * t' + c')) ∧ M' = M)
/-- what one code makes of n numbers on the pile -/
def hg1 (v n : Int) : Option Int := if v = 126 then (if 1 ≤ n then some n else none) else if 97 ≤ v ∧ v ≤ 122 then (if n ≤ 59 then some (n + 1) else none) else (if 2 ≤ n then some (n - 1) else none)
/-- how many numbers k codes from s on leave -/
def hgt (M : pM) (s : Nat) : Nat → Option Int
  | 0 => some 0
  | k + 1 => match hgt M s k with
    | none => none
    | some n => hg1 (M 108 (s + k)) n
/-- one entry of the reader's pile, behind b of two sides -/
def pb1 (k : Nat) (w s b : Int) : Option Int := if k = 0 then (if w = 8 then some 0 else none) else if w = 3 then (if s = 126 then some b else none) else if w = 7 then some b else if w = 1 ∧ s = 124 then some (b + 1) else if (1 ≤ w ∧ w ≤ 2 ∨ 4 ≤ w ∧ w ≤ 6) ∧ 0 ≤ s ∧ s ≤ 96 then some (b + 1) else none
def pbc (M : pM) : Nat → Option Int
  | 0 => some 0
  | k + 1 => match pbc M k with
    | none => none
    | some b => pb1 k (M 111 k) (M 112 k) b
def gI (M : pM) : Prop := (∀ (c k : Nat) (b : Int × Int), (c < 119 → k < szS (SH c)) → (gl c)[k % (gl c).length]? = some b → b.1 ≤ b.2 → b.1 ≤ M c k ∧ M c k ≤ b.2) ∧ ∀ e ∈ rfT, ∃ x ∈ e.2.2, M e.1 e.2.1 = ((x : Nat) : Int)
def fr (m : mdL) (M0 M : pM) : Prop := ∀ c k, inM m c k = false → M c k = M0 c k
/-- what holds of the ways round: memories that agree on l -/
def agL (l : List (Nat × Nat × Nat)) (M N : pM) : Prop := ∀ c k, inM l c k = true → N c k = M c k
/-- move m leads glider g from (c, t, h) to (c', t', h') -/
def ldT (b : Nat) (M : pM) (g c t h m c' t' h' : Int) : Prop := ∀ N, gI N → agL (RLb b) M N → OJ 20 222 [vr 62, vi g, vi c, vi t, vi h, vi m] 119 N (fun a N' => a = some (vi 1) ∧ gI N' ∧ fr [(61, 36, 38)] N N' ∧ N' 61 36 = c' ∧ N' 61 37 = t' ∧ N' 61 38 = h')
/-- in c, having rounded r, one has rounded r' -/
def rdT (M : pM) (c r r' : Int) : Prop := (r ≤ r' ∧ r' ≤ M 61 40 ∧ r' ≤ 3) ∧ ∀ N, gI N → agL PTl M N → OJ 20 227 [vr 62, vi c, vi r] 119 N (fun a N' => a = some (vi r') ∧ N' = N)
def rng (t c h r : Int) : Prop := (0 ≤ t ∧ t ≤ 36) ∧ (0 ≤ c ∧ c ≤ 63) ∧ (0 ≤ h ∧ h ≤ 40) ∧ 0 ≤ r ∧ r ≤ 3
def spo (t c h r : Int) : Int := 10496 * t + 164 * c + 4 * h + r
def flo (M : pM) (c h r : Int) : Prop := r = M 61 40 ∧ c = M 87 (M 61 40).toNat ∧ M 61 44 ≤ h
def reT (b : Nat) (M : pM) (t c h r m y : Int) : Prop := ∃ t' c' h' r', rng t' c' h' r' ∧ t + 1 ≤ t' ∧ ldT b M (M 61 43) c t h m c' t' h' ∧ rdT M c' r r' ∧ y = spo t' c' h' r'
def goo (b : Nat) (M : pM) (t c h r v : Int) : Prop := flo M c h r ∨ 1000 ≤ v ∨ ∃ m y, 0 ≤ m ∧ m ≤ 24 ∧ reT b M t c h r m y ∧ M 88 y.toNat = v
def pds (b : Nat) (M : pM) (X : Int) : Prop := 0 ≤ M 61 40 ∧ M 61 40 ≤ 3 → ∀ t c h r, rng t c h r → r ≤ M 61 40 → 10496 * (36 - t) + 164 * c + 4 * h + r < X → goo b M t c h r (M 88 (spo t c h r).toNat)
/-- results that are named -/
def nm2 (q : Nat) (x y : Int) : Prop := ∃ i f a b, op2n i = some q ∧ iop i = some f ∧ r32 b ∧ x = 4294967296 * a + b ∧ y = f a b
def nm1 (q : Nat) (x y : Int) : Prop := match q with
  | 0 => y = w8 x
  | _ => y = ((Int32.ofInt x).toUInt32 % 65536).toInt32.toInt
def ln2 (q : Nat) (x y : Int) : Prop := ∃ i f a b, lo2n i = some q ∧ lop i = some f ∧ r64 b ∧ x = 18446744073709551616 * a + b ∧ y = f a b
def lnf (q : Nat) (a b : Int) : Int := match q with
  | 0 => (Int64.ofInt a <<< ((Int32.ofInt b).toInt64 &&& 63)).toInt
  | 1 => (Int64.ofInt a >>> ((Int32.ofInt b).toInt64 &&& 63)).toInt
  | _ => ((Int64.ofInt a).toUInt64 >>> ((Int32.ofInt b).toInt64.toUInt64 &&& Int64.toUInt64 63)).toInt64.toInt
def ln1 (q : Nat) (x y : Int) : Prop := ∃ a b, r32 b ∧ x = 4294967296 * a + b ∧ y = lnf q a b
def hNM (p : Nat) (x y : Int) : Prop := if p < 106 then nm2 (p - 100) x y else if p < 116 then ln2 (p - 110) x y else if p < 119 then ln1 (p - 116) x y else nm1 (p - 120) x y
/-! ===== the gate: the text of a map, its tokens ===== -/
def isC (P : Nat) (c : Int) : Bool := match P with
  | 0 => decide (c = 32 ∨ c = 10)
  | 1 => decide (97 ≤ c ∧ c ≤ 122)
  | _ => decide (48 ≤ c ∧ c ≤ 57)
/-- how many bytes there are -/
def tN (M : pM) : Nat := min (M 2 1).toNat 1900
def rn (M : pM) (P p : Nat) : Nat → Nat
  | 0 => p
  | k + 1 => if isC P (M 1 p) = true then rn M P (p + 1) k else p
/-- where the run of kind P from p on ends -/
def ru (M : pM) (P p : Nat) : Nat := rn M P p (tN M - p)
def al (M : pM) (P p q : Nat) : Prop := p ≤ q ∧ (q ≤ tN M ∨ q = p) ∧ ∀ i, p ≤ i → i < q → isC P (M 1 i) = true
theorem rn_al {M : pM} {P : Nat} : ∀ {k p q : Nat}, p ≤ q → q ≤ p + k → (∀ i, p ≤ i → i < q → isC P (M 1 i) = true) → (q = p + k ∨ isC P (M 1 q) = false) → rn M P p k = q
  | 0, p, q, h1, h2, _, _ => by show p = q; omega
  | k + 1, p, q, h1, h2, h3, h4 => by
    show (if isC P (M 1 p) = true then rn M P (p + 1) k else p) = q
    by_cases hp : p = q
    · subst hp
      rcases h4 with h4 | h4
      · omega
      · rw [h4]; rfl
    · rw [if_pos (h3 p (Nat.le_refl p) (by omega))]
      refine rn_al (by omega) (by omega) (fun i i1 i2 => h3 i (by omega) i2) ?_
      rcases h4 with h4 | h4
      · exact Or.inl (by omega)
      · exact Or.inr h4
theorem ru_al {M : pM} {P p q : Nat} (h : al M P p q) (h4 : tN M ≤ q ∨ isC P (M 1 q) = false) : ru M P p = q := by
  obtain ⟨h1, h2, h3⟩ := h
  unfold ru
  by_cases hq : q ≤ tN M
  · refine rn_al h1 (by omega) h3 ?_
    rcases h4 with h4 | h4
    · exact Or.inl (by omega)
    · exact Or.inr h4
  · have : q = p := by omega
    subst this
    rw [show tN M - q = 0 by omega]
    rfl
theorem rn_in {M : pM} {P : Nat} : ∀ {k p i : Nat}, p ≤ i → i < rn M P p k → isC P (M 1 i) = true
  | 0, p, i, h1, h2 => by
    have h2 : i < p := h2
    omega
  | k + 1, p, i, h1, h2 => by
    have h2 : i < (if isC P (M 1 p) = true then rn M P (p + 1) k else p) := h2
    by_cases hp : isC P (M 1 p) = true
    · rw [if_pos hp] at h2
      by_cases hi : i = p
      · rw [hi]; exact hp
      · exact rn_in (by omega) h2
    · rw [if_neg hp] at h2
      omega
theorem ru_in {M : pM} {P p i : Nat} (h1 : p ≤ i) (h2 : i < ru M P p) : isC P (M 1 i) = true := rn_in h1 h2
/-- the value of k digits from s on, the packing of k letters -/
def dv (M : pM) (s : Nat) : Nat → Int
  | 0 => 0
  | k + 1 => 10 * dv M s k + (M 1 (s + k) - 48)
def pkd (m a : Int) (M : pM) (s : Nat) : Nat → Int
  | 0 => 0
  | k + 1 => m * pkd m a M s k + (M 1 (s + k) - a)
def kws : List (List Int) := [[114, 111, 119], [108, 105, 102, 116], [119, 105, 110, 100], [116, 111, 112], [119, 97, 108, 108], [97, 98, 111, 118, 101], [102, 114, 111, 109], [116, 111], [102, 105, 101, 108, 100], [114, 111, 97, 100], [103, 108, 105, 100, 101, 114], [115, 105, 110, 107], [104, 97, 110, 100, 105, 99, 97, 112], [115, 99, 111, 114, 101], [97, 110, 100], [111, 114], [110, 111, 116], [100, 111, 110, 101], [108, 101, 103, 115], [116, 105, 109, 101], [98, 101, 115, 116], [102, 105, 114, 115, 116], [119, 97, 108, 108, 115], [114, 111, 117, 110, 100, 101, 100]]
def bts (M : pM) (s k : Nat) : List Int := (List.range k).map (fun i => M 1 (s + i))
/-- the place of a word among the kept ones, or -1 -/
def wid (M : pM) (s e : Nat) : Int := if bts M s (e - s) ∈ kws then (kws.idxOf (bts M s (e - s)) : Int) else -1
def sgs : List Int := [59, 40, 41, 60, 62, 61, 43, 45, 42, 47]
/-- the token from p on: its begin, its end, its code -/
def tS (M : pM) (p : Nat) : Nat := ru M 0 p
def tE (M : pM) (p : Nat) : Nat := if tN M ≤ tS M p then tS M p else if tS M p < ru M 1 (tS M p) then ru M 1 (tS M p) else if tS M p < ru M 2 (tS M p) then ru M 2 (tS M p) else tS M p + 1
def tK (M : pM) (p : Nat) : Int := if tN M ≤ tS M p then 131071 else if tS M p < ru M 1 (tS M p) then (if ru M 1 (tS M p) ≤ tS M p + 8 then 262144 + wid M (tS M p) (ru M 1 (tS M p)) else -1) else if tS M p < ru M 2 (tS M p) then (if ru M 2 (tS M p) ≤ tS M p + 4 ∧ ru M 1 (ru M 2 (tS M p)) = ru M 2 (tS M p) then 393216 + dv M (tS M p) (ru M 2 (tS M p) - tS M p) else -1) else if M 1 (tS M p) ∈ sgs then 524288 + M 1 (tS M p) else M 1 (tS M p)
theorem tk_end {M : pM} {p s : Nat} (h : ru M 0 p = s) (h1 : tN M ≤ s) : tS M p = s ∧ tE M p = s ∧ tK M p = 131071 := by
  have hs : tS M p = s := h
  refine ⟨hs, ?_, ?_⟩
  · unfold tE; rw [hs, if_pos h1]
  · unfold tK; rw [hs, if_pos h1]
theorem tk_word {M : pM} {p s e : Nat} (h : ru M 0 p = s) (h1 : s < tN M) (h2 : ru M 1 s = e) (h3 : s < e) (h4 : e ≤ s + 8) : tS M p = s ∧ tE M p = e ∧ tK M p = 262144 + wid M s e := by
  have hs : tS M p = s := h
  refine ⟨hs, ?_, ?_⟩
  · unfold tE; rw [hs, if_neg (by omega), h2, if_pos h3]
  · unfold tK; rw [hs, if_neg (by omega), h2, if_pos h3, if_pos h4]
theorem tk_long {M : pM} {p s e : Nat} (h : ru M 0 p = s) (h1 : s < tN M) (h2 : ru M 1 s = e) (h4 : s + 9 ≤ e) : tS M p = s ∧ tE M p = e ∧ tK M p = -1 := by
  have hs : tS M p = s := h
  refine ⟨hs, ?_, ?_⟩
  · unfold tE; rw [hs, if_neg (by omega), h2, if_pos (by omega)]
  · unfold tK; rw [hs, if_neg (by omega), h2, if_pos (by omega), if_neg (by omega)]
theorem tk_num {M : pM} {p s e : Nat} (h : ru M 0 p = s) (h1 : s < tN M) (h2 : ru M 1 s = s) (h3 : ru M 2 s = e) (h5 : s < e) (h6 : e ≤ s + 4) (h7 : ru M 1 e = e) : tS M p = s ∧ tE M p = e ∧ tK M p = 393216 + dv M s (e - s) := by
  have hs : tS M p = s := h
  refine ⟨hs, ?_, ?_⟩
  · unfold tE; rw [hs, if_neg (by omega), h2, if_neg (by omega), h3, if_pos h5]
  · unfold tK; rw [hs, if_neg (by omega), h2, if_neg (by omega), h3, if_pos h5, if_pos ⟨h6, h7⟩]
theorem tk_bad {M : pM} {p s e : Nat} (h : ru M 0 p = s) (h1 : s < tN M) (h2 : ru M 1 s = s) (h3 : ru M 2 s = e) (h5 : s < e) (h6 : ¬ (e ≤ s + 4 ∧ ru M 1 e = e)) : tS M p = s ∧ tE M p = e ∧ tK M p = -1 := by
  have hs : tS M p = s := h
  refine ⟨hs, ?_, ?_⟩
  · unfold tE; rw [hs, if_neg (by omega), h2, if_neg (by omega), h3, if_pos h5]
  · unfold tK; rw [hs, if_neg (by omega), h2, if_neg (by omega), h3, if_pos h5, if_neg h6]
theorem tk_sign {M : pM} {p s : Nat} (h : ru M 0 p = s) (h1 : s < tN M) (h2 : ru M 1 s = s) (h3 : ru M 2 s = s) : tS M p = s ∧ tE M p = s + 1 ∧ tK M p = if M 1 s ∈ sgs then 524288 + M 1 s else M 1 s := by
  have hs : tS M p = s := h
  refine ⟨hs, ?_, ?_⟩
  · unfold tE; rw [hs, if_neg (by omega), h2, if_neg (by omega), h3, if_neg (by omega)]
  · unfold tK; rw [hs, if_neg (by omega), h2, if_neg (by omega), h3, if_neg (by omega)]
/-! a saying of the text: memories that agree on the text agree on its tokens -/
def agT (M M' : pM) : Prop := (∀ i, i < 2000 → M' 1 i = M 1 i) ∧ M' 2 1 = M 2 1
theorem tN_le {M : pM} : tN M ≤ 1900 := Nat.min_le_right _ _
theorem tN_ag {M M' : pM} (h : agT M M') : tN M' = tN M := by unfold tN; rw [h.2]
theorem rn_ag {M M' : pM} (h : agT M M') {P : Nat} : ∀ {k p : Nat}, p + k ≤ 2000 → rn M' P p k = rn M P p k
  | 0, _, _ => rfl
  | k + 1, p, hp => by
    show (if isC P (M' 1 p) = true then rn M' P (p + 1) k else p) = (if isC P (M 1 p) = true then rn M P (p + 1) k else p)
    rw [h.1 p (by omega), rn_ag h (by omega)]
theorem ru_ag {M M' : pM} (h : agT M M') {P p : Nat} : ru M' P p = ru M P p := by
  unfold ru
  rw [tN_ag h]
  have := tN_le (M := M)
  by_cases hp : p ≤ 1900
  · exact rn_ag h (by omega)
  · rw [show tN M - p = 0 by omega]; rfl
theorem rn_bd {M : pM} {P : Nat} : ∀ {k p : Nat}, p ≤ rn M P p k ∧ rn M P p k ≤ p + k
  | 0, p => ⟨Nat.le_refl p, Nat.le_refl p⟩
  | k + 1, p => by
    have := rn_bd (M := M) (P := P) (k := k) (p := p + 1)
    show p ≤ (if isC P (M 1 p) = true then rn M P (p + 1) k else p) ∧ (if isC P (M 1 p) = true then rn M P (p + 1) k else p) ≤ p + (k + 1)
    split <;> omega
theorem ru_bd {M : pM} {P p : Nat} : p ≤ ru M P p ∧ (ru M P p ≤ tN M ∨ ru M P p = p) := by
  have := rn_bd (M := M) (P := P) (k := tN M - p) (p := p)
  unfold ru
  omega
theorem dv_ag {M M' : pM} (h : agT M M') {s : Nat} : ∀ {k : Nat}, s + k ≤ 2000 → dv M' s k = dv M s k
  | 0, _ => rfl
  | k + 1, hk => by
    show 10 * dv M' s k + (M' 1 (s + k) - 48) = 10 * dv M s k + (M 1 (s + k) - 48)
    rw [dv_ag h (by omega), h.1 (s + k) (by omega)]
theorem tS_ag {M M' : pM} (h : agT M M') {p : Nat} : tS M' p = tS M p := ru_ag h
theorem bts_ag {M M' : pM} (h : agT M M') {s k : Nat} (hk : s + k ≤ 2000) : bts M' s k = bts M s k := by
  unfold bts
  exact List.map_congr_left (fun i hi => h.1 (s + i) (by have := List.mem_range.mp hi; omega))
theorem wid_ag {M M' : pM} (h : agT M M') {s e : Nat} (h1 : s ≤ 2000) (h2 : e ≤ 2000) : wid M' s e = wid M s e := by
  unfold wid
  rw [bts_ag h (by omega)]
theorem tE_ag {M M' : pM} (h : agT M M') {p : Nat} : tE M' p = tE M p := by
  unfold tE
  rw [tS_ag h, tN_ag h, ru_ag h, ru_ag h]
theorem tK_ag {M M' : pM} (h : agT M M') {p : Nat} : tK M' p = tK M p := by
  unfold tK
  rw [tS_ag h, tN_ag h]
  simp only [ru_ag h]
  by_cases h1 : tN M ≤ tS M p
  · rw [if_pos h1, if_pos h1]
  · rw [if_neg h1, if_neg h1]
    have b0 := tN_le (M := M)
    have b1 := ru_bd (M := M) (P := 1) (p := tS M p)
    have b2 := ru_bd (M := M) (P := 2) (p := tS M p)
    rw [wid_ag h (by omega) (by omega), dv_ag h (by omega), h.1 (tS M p) (by omega)]
/-! the gate: a text's lines -/
def wds : List Int := kws.flatMap (fun l => l ++ [32])
/-- of the i-th letter of the kept words: which word, which letter of it -/
def qws : Nat → Nat × Nat
  | 0 => (0, 0)
  | i + 1 => if wds.getD i 0 = 32 then ((qws i).1 + 1, 0) else ((qws i).1, (qws i).2 + 1)
def tm (M : pM) : pM := fun c k => if (c = 1 ∧ k < 2000) ∨ (c = 2 ∧ k = 1) then M c k else 0
theorem tm_ag {M M' : pM} (h : agT M M') : tm M' = tm M := by
  funext c k
  unfold tm
  by_cases hc : (c = 1 ∧ k < 2000) ∨ (c = 2 ∧ k = 1)
  · rw [if_pos hc, if_pos hc]
    rcases hc with ⟨h1, h2⟩ | ⟨h1, h2⟩
    · subst h1; exact h.1 k h2
    · subst h1; subst h2; exact h.2
  · rw [if_neg hc, if_neg hc]
/-- where the i-th token behind the line's first is looked for -/
def qps (N : pM) (p : Nat) : Nat → Nat
  | 0 => p
  | i + 1 => tE N (qps N p i)
def qvl (N : pM) (p i : Nat) : Int := tK N (qps N p i) - 393216
def qlt (N : pM) (p i x : Nat) : Int := N 1 (tS N (qps N p i) + x)
def qsz (N : pM) (p i : Nat) : Nat := tE N (qps N p i) - tS N (qps N p i)
def qwl (N : pM) (p : Nat) : Int := if qlt N p 2 0 = 110 then 0 else if qlt N p 2 0 = 101 then 1 else if qlt N p 2 0 = 115 then 2 else 3
def qnm (N : pM) (p : Nat) : List Int := bts N (tS N p) (tE N p - tS N p)
def qpk (m a : Int) (N : pM) (p : Nat) : Int := pkd m a N (tS N p) (tE N p - tS N p)
def qgr (N : pM) (s n : Nat) : Bool := (List.range n).all (fun i => decide (97 ≤ N 1 (s + i) ∧ N 1 (s + i) ≤ 104))
/-- an item's fault, if it has one: a number, a word that is kept, a word -/
def qcN (lo hi : Int) (x : Option Int) (z : Int) : Option Int := if z ≤ 255 then some 1 else if z < 393216 ∨ 403216 ≤ z then some 2 else if z - 393216 < lo ∨ hi < z - 393216 then some 4 else x
def qcK (w : Int) (z : Int) : Option Int := if z ≤ 255 then some 1 else if z = w then none else some 2
def qcW (x : Option Int) (z : Int) : Option Int := if z ≤ 255 then some 1 else if z < 262143 ∨ 262168 < z then some 2 else x
def qtd (a : Int) : Option Int := if a = 1 then some 3 else none
def qtn (N : pM) (p : Nat) (A : pM) : Bool := (List.range 4).any (fun i => decide ((i : Int) < A 0 2 ∧ qnm N (A 13 i).toNat = qnm N (qps N p 1)))
def qck (N : pM) (p : Nat) (A : pM) (K i : Nat) : Option Int :=
  if K = 0 then (if i = 1 then qcN 0 7 (qtd (A 15 (qvl N p 1).toNat)) (tK N (qps N p 1))
    else if i = 2 then qcW (if qsz N p 2 = 8 ∧ qgr N (tS N (qps N p 2)) 8 = true then none else some 4) (tK N (qps N p 2))
    else qcK 524347 (tK N (qps N p i)))
  else if K = 1 then (if i = 1 then qcW (if qsz N p 1 = 1 ∧ qgr N (tS N (qps N p 1)) 1 = true then qtd (A 16 (qlt N p 1 0 - 97).toNat) else some 4) (tK N (qps N p 1))
    else if i ≤ 7 then qcN 0 20 none (tK N (qps N p i))
    else qcK 524347 (tK N (qps N p i)))
  else if K = 2 then (if i = 1 then qcN 0 5 (if 0 ≤ A 3 (qvl N p 1).toNat then some 3 else none) (tK N (qps N p 1))
    else if i = 2 then qcW (if qsz N p 2 = 1 ∧ (qlt N p 2 0 = 110 ∨ qlt N p 2 0 = 101 ∨ qlt N p 2 0 = 115 ∨ qlt N p 2 0 = 119) then none else some 2) (tK N (qps N p 2))
    else if i = 3 then qcN 0 3 none (tK N (qps N p 3))
    else qcK 524347 (tK N (qps N p i)))
  else if K = 3 then (if i = 1 then qcN 0 5 (if 0 ≤ A 5 (qvl N p 1).toNat then some 3 else none) (tK N (qps N p 1))
    else if i = 2 then qcN 1 40 none (tK N (qps N p 2))
    else qcK 524347 (tK N (qps N p i)))
  else if K = 4 then (if i = 1 then qcN 0 7 none (tK N (qps N p 1))
    else if i = 2 then qcN 0 7 none (tK N (qps N p 2))
    else if i = 3 then qcK 262149 (tK N (qps N p 3))
    else if i = 4 then qcN 0 40 none (tK N (qps N p 4))
    else if i = 5 then qcK 262150 (tK N (qps N p 5))
    else if i = 6 then qcN 0 36 none (tK N (qps N p 6))
    else if i = 7 then qcK 262151 (tK N (qps N p 7))
    else if i = 8 then qcN (qvl N p 6 + 1) 36 none (tK N (qps N p 8))
    else qcK 524347 (tK N (qps N p i)))
  else if K = 8 then (if i = 1 then qcN 0 7 none (tK N (qps N p 1))
    else if i = 2 then qcN 0 7 (qtd (A 17 (qvl N p 1 + 8 * qvl N p 2).toNat)) (tK N (qps N p 2))
    else qcK 524347 (tK N (qps N p i)))
  else if K = 9 then (if i = 1 then qcN 0 7 none (tK N (qps N p 1))
    else if i = 2 then qcN 0 7 none (tK N (qps N p 2))
    else if i = 3 then qcN 0 7 none (tK N (qps N p 3))
    else if i = 4 then qcN 0 7 (if qvl N p 3 + 8 * qvl N p 4 = qvl N p 1 + 8 * qvl N p 2 then some 5 else none) (tK N (qps N p 4))
    else if i = 5 then qcN 1 99 none (tK N (qps N p 5))
    else qcK 524347 (tK N (qps N p i)))
  else (if i = 1 then (if tK N (qps N p 1) ≤ 255 then some 1 else if tK N (qps N p 1) = 262143 then (if qtn N p A = true then some 3 else none) else some 2)
    else if i = 2 then qcK 262155 (tK N (qps N p 2))
    else if i ≤ 6 then qcN 0 30 none (tK N (qps N p i))
    else if i = 7 then qcK 262156 (tK N (qps N p 7))
    else if i = 8 then qcN 50 200 none (tK N (qps N p 8))
    else qcK 524347 (tK N (qps N p i)))
/-- how many items a kind has, which kind a first word is, which kind is full -/
def qni (K : Nat) : Nat := if K = 0 then 3 else if K = 1 then 8 else if K = 2 then 4 else if K = 3 then 3 else if K = 4 then 9 else if K = 8 then 3 else if K = 9 then 6 else 9
def qkw (z : Int) : Option Nat := if 262144 ≤ z ∧ z ≤ 262148 ∨ 262152 ≤ z ∧ z ≤ 262154 then some (z - 262144).toNat else none
def qfu (A : pM) (K : Nat) : Bool := decide (K = 4 ∧ 12 ≤ A 0 0 ∨ K = 9 ∧ 20 ≤ A 0 1 ∨ K = 10 ∧ 4 ≤ A 0 2)
def qff (N : pM) (p : Nat) (A : pM) (K : Nat) : Nat → Option (Int × Int)
  | 0 => none
  | n + 1 => match qff N p A K n with
    | some f => some f
    | none => match qck N p A K (n + 1) with
      | some k => some ((tS N (qps N p (n + 1)) : Int), k)
      | none => none
/-- what a line does -/
def qef (N : pM) (p : Nat) (A : pM) (K : Nat) : pM :=
  if K = 0 then (fun c k => if c = 1 then (if ((k / 8 : Nat) : Int) = qvl N p 1 then qlt N p 2 (k % 8) - 97 else A 1 k) else if c = 15 then (if (k : Int) = qvl N p 1 then 1 else A 15 k) else A c k)
  else if K = 1 then (fun c k => if c = 2 then (if ((k / 6 : Nat) : Int) = qlt N p 1 0 - 97 then qvl N p (2 + k % 6) else A 2 k) else if c = 16 then (if (k : Int) = qlt N p 1 0 - 97 then 1 else A 16 k) else A c k)
  else if K = 2 then (fun c k => if c = 3 then (if (k : Int) = qvl N p 1 then qwl N p else A 3 k) else if c = 4 then (if (k : Int) = qvl N p 1 then qvl N p 3 else A 4 k) else A c k)
  else if K = 3 then (fun c k => if c = 5 then (if (k : Int) = qvl N p 1 then qvl N p 2 else A 5 k) else A c k)
  else if K = 4 then (fun c k => if c = 0 then (if k = 0 then A 0 0 + 1 else A 0 k) else if c = 6 then (if (k : Int) = A 0 0 then qvl N p 1 + 8 * qvl N p 2 else A 6 k) else if c = 7 then (if (k : Int) = A 0 0 then qvl N p 4 else A 7 k) else if c = 8 then (if (k : Int) = A 0 0 then qvl N p 6 else A 8 k) else if c = 9 then (if (k : Int) = A 0 0 then qvl N p 8 else A 9 k) else A c k)
  else if K = 8 then (fun c k => if c = 17 then (if (k : Int) = qvl N p 1 + 8 * qvl N p 2 then 1 else A 17 k) else A c k)
  else if K = 9 then (fun c k => if c = 0 then (if k = 1 then A 0 1 + 1 else A 0 k) else if c = 10 then (if (k : Int) = A 0 1 then qvl N p 1 + 8 * qvl N p 2 else A 10 k) else if c = 11 then (if (k : Int) = A 0 1 then qvl N p 3 + 8 * qvl N p 4 else A 11 k) else if c = 12 then (if (k : Int) = A 0 1 then qvl N p 5 else A 12 k) else A c k)
  else (fun c k => if c = 0 then (if k = 2 then A 0 2 + 1 else A 0 k) else if c = 13 then (if (k : Int) = A 0 2 then (qps N p 1 : Int) else A 13 k) else if c = 14 then (if ((k / 5 : Nat) : Int) = A 0 2 then (if k % 5 < 4 then qvl N p (3 + k % 5) else qvl N p 8) else A 14 k) else A c k)
/-- the fault at a place, the state behind a line, the state ahead of line L -/
def qfa (N : pM) (s : Nat × pM) : Option (Int × Int) := match qkw (tK N s.1) with
  | none => if tK N s.1 = 131071 then none else some ((tS N s.1 : Int), if tK N s.1 ≤ 255 then 1 else 2)
  | some K => if qfu s.2 K = true then some ((tS N s.1 : Int), 2) else qff N s.1 s.2 K (qni K)
def qnx (N : pM) (s : Nat × pM) : Option (Nat × pM) := match qkw (tK N s.1) with
  | none => none
  | some K => if qfu s.2 K = true then none else match qff N s.1 s.2 K (qni K) with
    | some _ => none
    | none => some (qps N s.1 (qni K + 1), qef N s.1 s.2 K)
def qA0 : pM := fun c _ => if c = 3 then -1 else if c = 5 then -1 else 0
def qrun (N : pM) : Nat → Option (Nat × pM)
  | 0 => some (0, qA0)
  | L + 1 => match qrun N L with
    | none => none
    | some s => qnx N s
def qat (N : pM) (x : Int) (s : Nat × pM) : Prop := ∃ L : Nat, L < 4096 ∧ x = 4096 * (s.1 : Int) + L ∧ qrun N L = some s
def qkl (N : pM) (s : Nat × pM) (K : Nat) : Prop := qkw (tK N s.1) = some K ∧ qfu s.2 K = false
def qfl (N : pM) (s : Nat × pM) (K : Nat) : Prop := qkl N s K ∧ qff N s.1 s.2 K (qni K - 1) = none
def qW (y : Int) (A : pM) : Prop := y = A 0 0 + 32 * A 0 1 + 1024 * A 0 2 ∧ (0 ≤ A 0 0 ∧ A 0 0 ≤ 12) ∧ (0 ≤ A 0 1 ∧ A 0 1 ≤ 20) ∧ 0 ≤ A 0 2 ∧ A 0 2 ≤ 4
def qb4 (m : Int) (i : Nat) : Int := if (Int32.ofInt m).toBitVec.getLsbD i = true then 1 else 0
def qb8 (m : Int) (i : Nat) : Int := if (Int64.ofInt m).toBitVec.getLsbD i = true then 1 else 0
/-- the class's rows, the reference's rows, and what they hold of a state -/
def qRc (b : Nat) (M : pM) : Nat → Nat → Int := fun k i => M (4 + 9 * b + k) i
def qRr (b : Nat) (M : pM) : Nat → Nat → Int := fun k i =>
  if k = 0 then M 69 (64 * b + i) else if k = 1 then M 70 (48 * b + i) else if k = 2 then M 71 (6 * b + i) else if k = 3 then M 72 (6 * b + i) else if k = 4 then M 73 (6 * b + i)
  else if k = 5 then M 74 (12 * b + i) else if k = 6 then M 75 (12 * b + i) else if k = 7 then M 76 (12 * b + i) else if k = 8 then M 77 (12 * b + i)
  else if k = 9 then M 78 (20 * b + i) else if k = 10 then M 79 (20 * b + i) else if k = 11 then M 80 (20 * b + i)
  else if k = 12 then M 81 (16 * b + i) else if k = 13 then M 82 (4 * b + i) else if k = 14 then M 83 (4 * b + i)
  else if k = 15 then M 84 i else if k = 16 then M 85 i else if k = 17 then M 86 (64 * b + i) else 0
def agC (g0 g1 : Nat → Int) (R : Nat → Nat → Int) (N A : pM) : Prop :=
  (∀ i, i < 64 → R 0 i = g0 i) ∧ (∀ i, i < 48 → R 1 i = g1 i) ∧ (∀ i, i < 6 → R 2 i = if A 3 i < 0 then -1 else 4 * A 4 i + A 3 i) ∧ (∀ i, i < 6 → -1 ≤ A 3 i ∧ 0 ≤ A 4 i) ∧ (∀ i, i < 6 → R 3 i = A 5 i)
  ∧ (∀ i : Nat, i < 12 → (i : Int) < A 0 0 → R 4 (4 * i) = A 6 i ∧ R 4 (4 * i + 1) = A 7 i ∧ R 4 (4 * i + 2) = A 8 i ∧ R 4 (4 * i + 3) = A 9 i)
  ∧ (∀ i : Nat, i < 20 → (i : Int) < A 0 1 → R 5 (3 * i) = A 10 i ∧ R 5 (3 * i + 1) = A 11 i ∧ R 5 (3 * i + 2) = A 12 i)
  ∧ (∀ i : Nat, i < 4 → (i : Int) < A 0 2 → R 6 i = qpk 32 96 N (A 13 i).toNat ∧ tK N (A 13 i).toNat = 262143)
  ∧ (∀ i j : Nat, i < 4 → j < 5 → (i : Int) < A 0 2 → R 7 (5 * i + j) = A 14 (5 * i + j))
def agR (g0 g1 g2 g6 : Nat → Int) (R : Nat → Nat → Int) (N A : pM) : Prop :=
  (∀ i, i < 64 → R 0 i = g0 i) ∧ (∀ i, i < 48 → R 1 i = g1 i) ∧ (∀ i, i < 6 → R 2 i = g2 i) ∧ (∀ i, i < 6 → R 3 i = A 4 i) ∧ (∀ i, i < 6 → R 4 i = A 5 i)
  ∧ (∀ i : Nat, i < 12 → (i : Int) < A 0 0 → R 5 i = A 6 i ∧ R 6 i = A 7 i ∧ R 7 i = A 8 i ∧ R 8 i = A 9 i)
  ∧ (∀ i : Nat, i < 20 → (i : Int) < A 0 1 → R 9 i = A 10 i ∧ R 10 i = A 11 i ∧ R 11 i = A 12 i)
  ∧ (∀ i j : Nat, i < 4 → j < 4 → (i : Int) < A 0 2 → R 12 (4 * i + j) = A 14 (5 * i + j))
  ∧ (∀ i : Nat, i < 4 → (i : Int) < A 0 2 → R 13 i = A 14 (5 * i + 4))
  ∧ (∀ i : Nat, i < 4 → (i : Int) < A 0 2 → R 14 i = qpk 256 0 N (A 13 i).toNat ∧ tK N (A 13 i).toNat = 262143)
  ∧ (∀ i, i < 8 → R 15 i = A 15 i) ∧ (∀ i, i < 8 → R 16 i = g6 i) ∧ (∀ i, i < 64 → R 17 i = A 17 i)
/-- the sayings -/
def EXp (N : pM) (x y : Int) : Prop := ∃ (s : Nat × pM) (K j : Nat), qat N x s ∧ K ≤ 10 ∧ y = 256 * (qps N s.1 (j + 1) : Int) + (16 * K + j + 1) ∧ j < qni K ∧ qkl N s K ∧ qff N s.1 s.2 K j = none
def LNp (N : pM) (x y : Int) : Prop := ∃ (s : Nat × pM) (K : Nat), qat N x s ∧ qfl N s K ∧ y = qps N s.1 (qni K)
def FLp (N : pM) (x y : Int) : Prop := ∃ (L : Nat) (s : Nat × pM), qrun N L = some s ∧ qfa N s = some (x, y)
def CAp (N : pM) (R : Nat → Nat → Int) (x y : Int) : Prop := ∃ s : Nat × pM, qat N x s ∧ qW y s.2 ∧ agC (s.2 1) (s.2 2) R N s.2
def CWp (N : pM) (R : Nat → Nat → Int) (x y : Int) : Prop := ∃ (s : Nat × pM) (K : Nat), qat N x s ∧ qfl N s K ∧ qW y (qef N s.1 s.2 K) ∧ agC (qef N s.1 s.2 K 1) (qef N s.1 s.2 K 2) R N (qef N s.1 s.2 K)
def CEp (N : pM) (R : Nat → Nat → Int) (x y : Int) : Prop := ∃ (L : Nat) (s : Nat × pM), x = L ∧ qrun N L = some s ∧ tK N s.1 = 131071 ∧ qW y s.2 ∧ agC (s.2 1) (s.2 2) R N s.2
def CGp (N : pM) (R : Nat → Nat → Int) (x y : Int) : Prop := ∃ (s : Nat × pM) (k u : Nat) (W : Int), qat N x s ∧ k ≤ 8 ∧ y = W + 8192 * (k : Int) + 131072 * (u : Int) ∧ qW W s.2 ∧ agC (fun i => if i / 8 = u ∧ i % 8 < k then qlt N s.1 2 (i % 8) - 97 else s.2 1 i) (s.2 2) R N s.2
def CLp (N : pM) (R : Nat → Nat → Int) (x y : Int) : Prop := ∃ (s : Nat × pM) (k u : Nat) (W : Int), qat N x s ∧ k ≤ 6 ∧ y = W + 8192 * (k : Int) + 131072 * (u : Int) ∧ qW W s.2 ∧ agC (s.2 1) (fun i => if i / 6 = u ∧ i % 6 < k then qvl N s.1 (2 + i % 6) else s.2 2 i) R N s.2
def CSp (N : pM) (R : Nat → Nat → Int) (x y : Int) : Prop := ∃ (s : Nat × pM) (k : Nat) (W : Int), qat N x s ∧ (k ≤ 5 ∧ (k = 0 ∨ s.2 0 2 ≤ 3)) ∧ y = W + 8192 * (k : Int) ∧ qW W s.2 ∧ ∀ j, j < k → R 7 (5 * (s.2 0 2).toNat + j) = if j < 4 then qvl N s.1 (3 + j) else qvl N s.1 8
def RAp (N : pM) (R : Nat → Nat → Int) (x y : Int) : Prop := ∃ s : Nat × pM, qat N x s ∧ qW y s.2 ∧ agR (s.2 1) (s.2 2) (s.2 3) (s.2 16) R N s.2
def RWp (N : pM) (R : Nat → Nat → Int) (x y : Int) : Prop := ∃ (s : Nat × pM) (K : Nat), qat N x s ∧ qfl N s K ∧ qW y (qef N s.1 s.2 K) ∧ agR (qef N s.1 s.2 K 1) (qef N s.1 s.2 K 2) (qef N s.1 s.2 K 3) (qef N s.1 s.2 K 16) R N (qef N s.1 s.2 K)
def REp (N : pM) (R : Nat → Nat → Int) (x y : Int) : Prop := ∃ (L : Nat) (s : Nat × pM), x = L ∧ qrun N L = some s ∧ tK N s.1 = 131071 ∧ qW y s.2 ∧ agR (s.2 1) (s.2 2) (s.2 3) (s.2 16) R N s.2
def RGp (N : pM) (R : Nat → Nat → Int) (x y : Int) : Prop := ∃ (s : Nat × pM) (k u : Nat) (W : Int), qat N x s ∧ k ≤ 8 ∧ y = W + 8192 * (k : Int) + 131072 * (u : Int) ∧ qW W s.2 ∧ agR (fun i => if i / 8 = u ∧ i % 8 < k then qlt N s.1 2 (i % 8) - 97 else s.2 1 i) (s.2 2) (s.2 3) (s.2 16) R N s.2
def RLp (N : pM) (R : Nat → Nat → Int) (x y : Int) : Prop := ∃ (s : Nat × pM) (k u : Nat) (W : Int), qat N x s ∧ k ≤ 6 ∧ y = W + 8192 * (k : Int) + 131072 * (u : Int) ∧ qW W s.2 ∧ agR (s.2 1) (fun i => if i / 6 = u ∧ i % 6 < k then qvl N s.1 (2 + i % 6) else s.2 2 i) (s.2 3) (fun i => if i = u then 1 else s.2 16 i) R N s.2
def RXp (N : pM) (R : Nat → Nat → Int) (x y : Int) : Prop := ∃ s : Nat × pM, qat N x s ∧ qW y s.2 ∧ agR (s.2 1) (s.2 2) (fun i => if (i : Int) = qvl N s.1 1 then qwl N s.1 else s.2 3 i) (s.2 16) R N s.2
def RSp (N : pM) (R : Nat → Nat → Int) (x y : Int) : Prop := ∃ (s : Nat × pM) (k : Nat) (W : Int), qat N x s ∧ (k ≤ 5 ∧ (k = 0 ∨ s.2 0 2 ≤ 3)) ∧ y = W + 8192 * (k : Int) ∧ qW W s.2 ∧ (∀ j, j < k → j < 4 → R 12 (4 * (s.2 0 2).toNat + j) = qvl N s.1 (3 + j)) ∧ (k = 5 → R 13 (s.2 0 2).toNat = qvl N s.1 8)
def MKp (f : Int → Nat → Int) (c n : Nat) (N : pM) (x y : Int) : Prop := ∃ s : Nat × pM, qat N x s ∧ ∀ i, i < n → f y i = s.2 c i
def MWp (f : Int → Nat → Int) (c n : Nat) (N : pM) (x y : Int) : Prop := ∃ (s : Nat × pM) (K : Nat), qat N x s ∧ qfl N s K ∧ ∀ i, i < n → f y i = qef N s.1 s.2 K c i
def VAp (N : pM) (x y : Int) : Prop := ∃ p i : Nat, i < 16 ∧ x = 16 * (p : Int) + i ∧ y = qvl N p i
def TIp (N : pM) (x y : Int) : Prop := ∃ p i : Nat, i < 16 ∧ x = 16 * (p : Int) + i ∧ y = qps N p i
def GRp (N : pM) (x : Int) : Prop := ∃ s k : Nat, k < 16 ∧ x = 16 * (s : Int) + k ∧ ∀ i, i < k → 97 ≤ N 1 (s + i) ∧ N 1 (s + i) ≤ 104
def PKp (m a : Int) (N : pM) (x y : Int) : Prop := ∃ s k : Nat, s + k < 2048 ∧ x = 2049 * (s : Int) + k ∧ y = pkd m a N s k ∧ ∀ i, i < k → 97 ≤ N 1 (s + i) ∧ N 1 (s + i) ≤ 122
def qwn (k : Nat) : Int := (kws.getD k []).foldl (fun a c => 256 * a + c) 0
/-- byte j of a number, the bytes of numbers in a row -/
def qby (v : Int) (j : Nat) : Int := (Int32.ofInt (((Int32.ofInt v).toUInt32 >>> ((Int32.ofInt (24 - 8 * (j : Int))).toUInt32 &&& Int32.toUInt32 31)).toInt32.toInt) &&& Int32.ofInt 255).toInt
def qfd (M : pM) (x : Nat) : Nat → Int → Prop
  | 0, Y => Y = 0
  | k + 1, Y => ∃ (Z v : Int), r32 v ∧ Y = 4294967296 * Z + v ∧ qfd M x k Z ∧ ∀ j, j < 4 → M 1 (x + 4 * k + j) = qby v j
/-! the plan in force and the reference's bank -/
def qFc (b : Nat) (M : pM) (y : Int) : Prop := y = M (3 + 9 * b) 7 + 32 * M (3 + 9 * b) 10 + 1024 * M (3 + 9 * b) 13 ∧ (0 ≤ M (3 + 9 * b) 7 ∧ M (3 + 9 * b) 7 ≤ 12) ∧ (0 ≤ M (3 + 9 * b) 10 ∧ M (3 + 9 * b) 10 ≤ 20) ∧ 0 ≤ M (3 + 9 * b) 13 ∧ M (3 + 9 * b) 13 ≤ 4
def qFr (b : Nat) (M : pM) (y : Int) : Prop := y = M 65 b + 32 * M 67 b + 1024 * M 68 b ∧ (0 ≤ M 65 b ∧ M 65 b ≤ 12) ∧ (0 ≤ M 67 b ∧ M 67 b ≤ 20) ∧ 0 ≤ M 68 b ∧ M 68 b ≤ 4
def agS (R : Nat → Nat → Int) (N A : pM) : Prop := ∃ R' : Nat → Nat → Int, (∀ k i, k ≠ 15 → k ≠ 16 → R' k i = R k i) ∧ agR (A 1) (A 2) (A 3) (A 16) R' N A
def qEQ (b : Nat) (M : pM) : Prop := (M (3 + 9 * b) 7 = M 65 b ∧ M (3 + 9 * b) 10 = M 67 b ∧ M (3 + 9 * b) 13 = M 68 b) ∧ ∃ N A : pM, (A 0 0 = M 65 b ∧ A 0 1 = M 67 b ∧ A 0 2 = M 68 b) ∧ qW (A 0 0 + 32 * A 0 1 + 1024 * A 0 2) A ∧ agC (A 1) (A 2) (qRc b M) N A ∧ agS (qRr b M) N A
/-- a wall holds in a cell at a moment -/
def qhs (R : Nat → Int) (c m : Int) (w : Nat) : Prop := R (4 * w) = c ∧ R (4 * w + 2) ≤ m ∧ m < R (4 * w + 3)
def CLq (R : Nat → Int) (x y : Int) : Prop := ∃ c m k h : Nat, (c < 64 ∧ k ≤ 12 ∧ h < 64) ∧ x = 64 * (m : Int) + c ∧ y = 64 * (k : Int) + h ∧ (∀ w, w < k → qhs R c m w → (h : Int) ≤ R (4 * w + 1)) ∧ (h = 40 ∨ ∃ w, w < k ∧ qhs R c m w ∧ R (4 * w + 1) = h)
def qns (R4 R5 R6 R7 : Nat → Int) (c m H : Int) (w : Nat) : Prop := R4 w = c ∧ R5 w < H ∧ R6 w ≤ m ∧ m < R7 w
def NSq (R4 R5 R6 R7 : Nat → Int) (x y : Int) : Prop := ∃ c m k H : Nat, (c < 64 ∧ k ≤ 12 ∧ H < 64) ∧ x = 64 * (m : Int) + c ∧ y = 64 * (k : Int) + H ∧ ∀ w, w < k → ¬ qns R4 R5 R6 R7 c m H w
/-- class and reference hold the same traces: P pilots, F fixes -/
def qt5 (M : pM) (j : Nat) : Prop := M 42 j = M 97 j ∧ M 43 j = M 98 j ∧ M 44 j = M 99 j ∧ M 45 j = M 100 j ∧ M 46 j = M 101 j
def qtr (M : pM) (P F : Nat) : Prop := (∀ j, j < P → M 41 j = M 96 j) ∧ ∀ j, j < F → qt5 M j ∧ M 47 j = M 102 j
def qtx (M : pM) (P F i : Nat) : Prop := (∀ j, j < P → M 41 j = M 96 j) ∧ (∀ j, j < F → qt5 M j ∧ (j ≠ i → M 47 j = M 102 j)) ∧ M 102 i = -1
/-! ===== ways home by roads: what the reference keeps, what the class works out ===== -/
abbrev dMx : Type := Nat → Nat → Int
def dfar (M : pM) : dMx := fun i j => if i < 64 ∧ j < 64 then M 114 (64 * i + j) else 0
def dRa (b : Nat) (M : pM) : Nat → Nat := fun r => if r < 20 then min (M 78 (20 * b + r)).toNat 63 else 0
def dRb (b : Nat) (M : pM) : Nat → Nat := fun r => if r < 20 then min (M 79 (20 * b + r)).toNat 63 else 0
def dRm (b : Nat) (M : pM) : Nat → Int := fun r => if r < 20 then M 80 (20 * b + r) else 0
def dRn (b : Nat) (M : pM) : Nat := min (M 67 b).toNat 20
/-- a height that no road breaks -/
def dfe (A B : Nat → Nat) (C : Nat → Int) (n : Nat) (p : Nat → Int) : Prop := (∀ v, v < 64 → 0 ≤ p v ∧ p v ≤ 100000) ∧ ∀ r, r < n → p (A r) - p (B r) ≤ C r ∧ p (B r) - p (A r) ≤ C r
def dpo (A B : Nat → Nat) (C : Nat → Int) (n : Nat) (D : dMx) : Prop := ∀ p, dfe A B C n p → ∀ i j, i < 64 → j < 64 → p j - p i ≤ D i j
def drg (D : dMx) : Prop := (∀ i j, i < 64 → j < 64 → 0 ≤ D i j ∧ D i j ≤ 100000) ∧ ∀ i, i < 64 → D i i = 0
def drd (A B : Nat → Nat) (C : Nat → Int) (k : Nat) (D : dMx) : Prop := ∀ r, r < k → D (A r) (B r) ≤ C r ∧ D (B r) (A r) ≤ C r
def dsy (D : dMx) : Prop := ∀ i j, i < 64 → j < 64 → D i j = D j i
def dtr (m : Nat) (D : dMx) : Prop := ∀ k, k < m → ∀ i j, i < 64 → j < 64 → D i j ≤ D i k + D k j
def qDR (A B : Nat → Nat) (C : Nat → Int) (n k : Nat) (D : dMx) : Prop := drg D ∧ dsy D ∧ dpo A B C n D ∧ drd A B C k D
def qDS (A B : Nat → Nat) (C : Nat → Int) (n k : Nat) (D : dMx) : Prop := drg D ∧ dpo A B C n D ∧ drd A B C k D ∧ A k ≠ B k ∧ D (A k) (B k) = C k ∧ C k ≤ D (B k) (A k) ∧ ∀ i j, i < 64 → j < 64 → ¬ (i = A k ∧ j = B k) → ¬ (i = B k ∧ j = A k) → D i j = D j i
def qDW (A B : Nat → Nat) (C : Nat → Int) (n m t : Nat) (D : dMx) : Prop := ∃ O : dMx, drg O ∧ dpo A B C n O ∧ drd A B C n O ∧ dtr m O ∧ ∀ i j, i < 64 → j < 64 → D i j = if 64 * i + j < t then min (O i j) (O i m + O m j) else O i j
def qDF (A B : Nat → Nat) (C : Nat → Int) (n : Nat) (D : dMx) : Prop := drg D ∧ dpo A B C n D ∧ drd A B C n D ∧ dtr 64 D
/-- from one cell: D what is to come, d what is there -/
def dbs (D d : Nat → Int) (f N : Nat) : Prop := d f = 0 ∧ ∀ v, v < 64 → D v ≤ d v ∧ (d v = 1000000 ∨ d v ≤ 99 * (N : Int))
def dal (D d : Nat → Int) : Prop := ∀ v, v < 64 → D v < 100000 → d v = D v
/-- a road's ends by its direction -/
def dtl (A B : Nat → Nat) (r : Nat) (s : Bool) : Nat := if s = true then A r else B r
def dhd (A B : Nat → Nat) (r : Nat) (s : Bool) : Nat := if s = true then B r else A r
def dtg (A B : Nat → Nat) (C : Nat → Int) (D : Nat → Int) (r : Nat) (s : Bool) : Prop := D (dtl A B r s) + C r = D (dhd A B r s) ∧ D (dhd A B r s) < 100000
abbrev dcr (A B : Nat → Nat) (C : Nat → Int) (D d : Nat → Int) (r : Nat) : Prop := (D (A r) + C r = D (B r) ∧ D (B r) < d (B r)) ∨ (D (B r) + C r = D (A r) ∧ D (A r) < d (A r))
def dct (A B : Nat → Nat) (C : Nat → Int) (D d : Nat → Int) : Nat → Nat
  | 0 => 0
  | n + 1 => dct A B C D d n + (if dcr A B C D d n then 1 else 0)
def dG (A B : Nat → Nat) (C : Nat → Int) (n : Nat) (D d : Nat → Int) (t : Nat) (q : Nat → Bool → Prop) : Prop := dal D d ∨ ∃ r s, r < n ∧ dtg A B C D r s ∧ d (dtl A B r s) = D (dtl A B r s) ∧ dct A B C D d n + t ≤ 20 ∧ (d (dhd A B r s) = D (dhd A B r s) → dct A B C D d n + t ≤ 19) ∧ (q r s → d (dhd A B r s) = D (dhd A B r s))
def dfk (A B : Nat → Nat) (C : Nat → Int) (k : Nat) (d : Nat → Int) : Prop := ∀ r, r < k → d (A r) - d (B r) ≤ C r ∧ d (B r) - d (A r) ≤ C r
def qBS (A B : Nat → Nat) (C : Nat → Int) (n : Nat) (D d : Nat → Int) (f t : Nat) : Prop := dbs D d f (40 * t) ∧ (dal D d ∨ dct A B C D d n + t ≤ 20)
def qBI (A B : Nat → Nat) (C : Nat → Int) (n : Nat) (D d : Nat → Int) (f k t : Nat) (y : Int) : Prop := dbs D d f (40 * t + 2 * k) ∧ (y = 0 → dfk A B C k d) ∧ dG A B C n D d t (fun r _ => r < k)
def qBJ (A B : Nat → Nat) (C : Nat → Int) (n : Nat) (D d : Nat → Int) (f k t : Nat) (y : Int) : Prop := dbs D d f (40 * t + 2 * k + 1) ∧ (y = 0 → dfk A B C k d ∧ d (B k) ≤ d (A k) + C k) ∧ dG A B C n D d t (fun r s => r < k ∨ (r = k ∧ s = true))
def qBD (D d : Nat → Int) : Prop := ∀ v, v < 64 → (d v = D v ∧ D v < 100000) ∨ (d v = 1000000 ∧ D v = 100000)
def dDf (f : Nat) (M : pM) : Nat → Int := fun v => if v < 64 then M 114 (64 * f + v) else 0
def dDd (M : pM) : Nat → Int := fun v => if v < 64 then M 57 v else 0
def DIp (M : pM) (x : Int) : Prop := 0 ≤ x ∧ x ≤ 4096 ∧ ∀ i : Nat, (i : Int) < x → M 114 i = if i / 64 = i % 64 then 0 else 100000
def DRp (b : Nat) (M : pM) (x : Int) : Prop := ∃ k : Nat, k ≤ 20 ∧ x = (k : Int) ∧ qDR (dRa b M) (dRb b M) (dRm b M) (dRn b M) k (dfar M)
def DSp (b : Nat) (M : pM) (x : Int) : Prop := ∃ k : Nat, k < 20 ∧ x = (k : Int) ∧ qDS (dRa b M) (dRb b M) (dRm b M) (dRn b M) k (dfar M)
def DWp (b : Nat) (M : pM) (x : Int) : Prop := ∃ m t : Nat, m ≤ 64 ∧ t ≤ 4096 ∧ x = 8192 * (m : Int) + t ∧ qDW (dRa b M) (dRb b M) (dRm b M) (dRn b M) m t (dfar M)
def DFp (b : Nat) (M : pM) : Prop := qDF (dRa b M) (dRb b M) (dRm b M) (dRn b M) (dfar M)
def DLp (M : pM) (x y : Int) : Prop := x ≤ 64 ∧ ∀ i : Nat, (i : Int) < x → M 57 i = y
def BSp (b : Nat) (M : pM) (x : Int) : Prop := ∃ f t : Nat, f < 64 ∧ t ≤ 21 ∧ x = (f : Int) + 64 * t ∧ qBS (dRa b M) (dRb b M) (dRm b M) (dRn b M) (dDf f M) (dDd M) f t
def BIp (b : Nat) (M : pM) (x y : Int) : Prop := ∃ f k t : Nat, f < 64 ∧ k ≤ 20 ∧ t ≤ 20 ∧ x = (f : Int) + 64 * k + 2048 * t ∧ qBI (dRa b M) (dRb b M) (dRm b M) (dRn b M) (dDf f M) (dDd M) f k t y
def BJp (b : Nat) (M : pM) (x y : Int) : Prop := ∃ f k t : Nat, f < 64 ∧ k < 20 ∧ t ≤ 20 ∧ x = (f : Int) + 64 * k + 2048 * t ∧ qBJ (dRa b M) (dRb b M) (dRm b M) (dRn b M) (dDf f M) (dDd M) f k t y
def BDp (M : pM) (x : Int) : Prop := ∃ f : Nat, f < 64 ∧ x = (f : Int) ∧ qBD (dDf f M) (dDd M)
theorem dRa_c {b : Nat} {M M' : pM} (h : ∀ r, r < 20 → M' 78 (20 * b + r) = M 78 (20 * b + r)) : dRa b M' = dRa b M := funext (fun r => by
  unfold dRa
  by_cases hr : r < 20
  · rw [if_pos hr, if_pos hr, h r hr]
  · rw [if_neg hr, if_neg hr])
theorem dRb_c {b : Nat} {M M' : pM} (h : ∀ r, r < 20 → M' 79 (20 * b + r) = M 79 (20 * b + r)) : dRb b M' = dRb b M := funext (fun r => by
  unfold dRb
  by_cases hr : r < 20
  · rw [if_pos hr, if_pos hr, h r hr]
  · rw [if_neg hr, if_neg hr])
theorem dRm_c {b : Nat} {M M' : pM} (h : ∀ r, r < 20 → M' 80 (20 * b + r) = M 80 (20 * b + r)) : dRm b M' = dRm b M := funext (fun r => by
  unfold dRm
  by_cases hr : r < 20
  · rw [if_pos hr, if_pos hr, h r hr]
  · rw [if_neg hr, if_neg hr])
theorem dRn_c {b : Nat} {M M' : pM} (h : M' 67 b = M 67 b) : dRn b M' = dRn b M := by unfold dRn; rw [h]
theorem dfar_c {M M' : pM} (h : ∀ i, i < 4096 → M' 114 i = M 114 i) : dfar M' = dfar M := funext (fun i => funext (fun j => by
  unfold dfar
  by_cases hr : i < 64 ∧ j < 64
  · rw [if_pos hr, if_pos hr, h _ (by omega)]
  · rw [if_neg hr, if_neg hr]))
theorem dDf_c {f : Nat} {M M' : pM} (hf : f < 64) (h : ∀ i, i < 4096 → M' 114 i = M 114 i) : dDf f M' = dDf f M := funext (fun v => by
  unfold dDf
  by_cases hr : v < 64
  · rw [if_pos hr, if_pos hr, h _ (by omega)]
  · rw [if_neg hr, if_neg hr])
theorem dDd_c {M M' : pM} (h : ∀ i, i < 64 → M' 57 i = M 57 i) : dDd M' = dDd M := funext (fun v => by
  unfold dDd
  by_cases hr : v < 64
  · rw [if_pos hr, if_pos hr, h _ hr]
  · rw [if_neg hr, if_neg hr])
/-! ===== who brings the gliders home: the class's search, the reference's ways by number ===== -/
/-- twice the minutes to the glider o: by the class's distances, by the reference's matrix from f -/
def hmC (M : pM) : Nat → Int := fun o => if o < 9 ∧ (M 56 o).toNat < 64 then 2 * M 57 (M 56 o).toNat else 0
def hmR (f : Nat) (M : pM) : Nat → Int := fun o => if o < 9 ∧ (M 115 o).toNat < 64 then 2 * M 114 (64 * f + (M 115 o).toNat) else 0
def hrow (c g : Nat) (M : pM) : Nat → Nat := fun o => if o < g then (M c o).toNat else 0
def hnC (M : pM) : Nat := min (M 55 1).toNat 9
def hnR (M : pM) : Nat := min (M 61 99).toNat 9
def hps (m : Nat → Int) (t : Nat → Nat) (a : Nat) : Nat → Int
  | 0 => 0
  | g + 1 => hps m t a g + (if t g = a then m g else 0)
def hco (m : Nat → Int) (t : Nat → Nat) (n : Nat) : Int := max (hps m t 0 n) (max (hps m t 1 n) (hps m t 2 n))
def hva (T n : Nat) (t : Nat → Nat) : Prop := ∀ o, o < n → t o < T
def hqq (t c : Nat → Nat) (g : Nat) : Prop := ∀ o, o < g → t o = c o
def hlx (t c : Nat → Nat) (g : Nat) : Prop := ∃ i, i < g ∧ (∀ o, o < i → t o = c o) ∧ t i < c i
def hcv (T g j : Nat) (p t : Nat → Nat) : Prop := hlx t p g ∨ (hqq t p g ∧ (j = T ∨ t g < j))
def hbs (m : Nat → Int) (T n : Nat) (b0 : Int) (S : (Nat → Nat) → Prop) (b : Int) (c : Nat → Nat) : Prop := (∀ t, hva T n t → S t → b ≤ hco m t n) ∧ (b = b0 ∨ (hva T n c ∧ S c ∧ hco m c n = b ∧ ∀ t, hva T n t → hlx t c n → b < hco m t n))
def HJp (g : Nat) (M : pM) (x y : Int) : Prop := ∃ j T : Nat, 1 ≤ T ∧ T ≤ 3 ∧ j ≤ T ∧ x = (j : Int) ∧ y = (T : Int) ∧ hva T g (hrow 59 g M) ∧ hbs (hmC M) T (hnC M) 1000000 (hcv T g j (hrow 59 g M)) (M 55 6) (hrow 60 9 M)
def qMX (m : Nat → Int) (p : Nat → Nat) (g j : Nat) (L : Int) : Prop := (∀ a, a < 3 → hps m p a g ≤ L) ∧ (∃ a, a < 3 ∧ hps m p a g = L) ∧ (∀ a, a < j → hps m p a g ≠ 0) ∧ ∀ a c, a < c → c < 3 → hps m p a g = 0 → hps m p c g = 0
def MXp (g : Nat) (M : pM) (x y : Int) : Prop := ∃ j : Nat, j ≤ 3 ∧ x = (j : Int) ∧ qMX (hmC M) (hrow 59 g M) g j y
def LDp (g : Nat) (M : pM) : Prop := ∀ a : Nat, a < 3 → M 58 a = hps (hmC M) (hrow 59 g M) a g
def HLp (M : pM) (x y : Int) : Prop := ∃ T : Nat, 1 ≤ T ∧ T ≤ 3 ∧ y = (T : Int) ∧ hva T (hnC M) (hrow 59 9 M) ∧ hco (hmC M) (hrow 59 9 M) (hnC M) = x ∧ ∀ t, hva T (hnC M) t → hlx t (hrow 59 9 M) (hnC M) → x < hco (hmC M) t (hnC M)
def ACp (M : pM) (x : Int) : Prop := ∀ i : Nat, i < 9 → (i : Int) < x → M 60 i = M 59 i
def RBp (M : pM) (x : Int) : Prop := 0 ≤ x ∧ x ≤ 9 ∧ ∀ o : Nat, (o : Int) < x → hmC M o ≤ 3960
def OUp (M : pM) (x : Int) : Prop := 0 ≤ x ∧ x ≤ 9 ∧ ∀ i : Nat, (i : Int) < x → M 56 i = M 115 i
def LLp (M : pM) (x : Int) : Prop := x ≤ 3 ∧ ∀ i : Nat, (i : Int) < x → M 58 i = 0
def NRp (M : pM) (x : Int) : Prop := x ≤ 9 ∧ ∃ o : Nat, (o : Int) < x ∧ 2000000 ≤ hmC M o
/-- a way's number and its figures -/
def hdg (T n w i : Nat) : Nat := w / T ^ (n - 1 - i) % T
def hnu (T : Nat) (t : Nat → Nat) : Nat → Nat
  | 0 => 0
  | n + 1 => hnu T t n * T + t n
def LZp (M : pM) (x : Int) : Prop := x ≤ 3 ∧ ∀ i : Nat, (i : Int) < x → M 118 i = 0
def MRp (M : pM) (x y : Int) : Prop := x ≤ 3 ∧ 0 ≤ y ∧ (∀ a : Nat, (a : Int) < x → M 118 a ≤ y) ∧ (y = 0 ∨ ∃ a : Nat, (a : Int) < x ∧ M 118 a = y)
def LHp (T : Nat) (M : pM) (x y : Int) : Prop := ∃ f o w : Nat, f < 64 ∧ o ≤ hnR M ∧ x = (f : Int) + 64 * o + 1024 * w ∧ y = ((w / T ^ (hnR M - o) : Nat) : Int) ∧ (∀ i, o ≤ i → i < hnR M → M 117 i = ((hdg T (hnR M) w i : Nat) : Int)) ∧ ∀ a : Nat, a < 3 → M 118 a = hps (hmR f M) (hdg T (hnR M) w) a (hnR M) - hps (hmR f M) (hdg T (hnR M) w) a o
def LAp (T : Nat) (M : pM) (x y : Int) : Prop := ∃ f o w : Nat, f < 64 ∧ o < hnR M ∧ x = (f : Int) + 64 * ((o : Int) + 1) + 1024 * w ∧ y = ((w / T ^ (hnR M - (o + 1)) : Nat) : Int) ∧ (∀ i, o ≤ i → i < hnR M → M 117 i = ((hdg T (hnR M) w i : Nat) : Int)) ∧ ∀ a : Nat, a < 3 → M 118 a = hps (hmR f M) (hdg T (hnR M) w) a (hnR M) - hps (hmR f M) (hdg T (hnR M) w) a (o + 1)
def LCp (T : Nat) (M : pM) (x y : Int) : Prop := ∃ f w : Nat, f < 64 ∧ x = (f : Int) + 64 * w ∧ (∀ i, i < hnR M → M 117 i = ((hdg T (hnR M) w i : Nat) : Int)) ∧ hco (hmR f M) (hdg T (hnR M) w) (hnR M) = y
def PWp (T : Nat) (x y : Int) : Prop := ∃ k : Nat, k ≤ 9 ∧ x = (k : Int) ∧ y = ((T ^ k : Nat) : Int)
def SWp (T : Nat) (M : pM) (x y : Int) : Prop := ∃ f w : Nat, f < 64 ∧ x = (f : Int) + 64 * w ∧ hbs (hmR f M) T (hnR M) 100000 (fun t => hnu T t (hnR M) < w) y (hrow 116 9 M)
def SXp (T : Nat) (M : pM) (x y : Int) : Prop := ∃ f w : Nat, f < 64 ∧ x = (f : Int) + 64 * w ∧ w < T ^ hnR M ∧ (∀ i, i < hnR M → M 117 i = ((hdg T (hnR M) w i : Nat) : Int)) ∧ hco (hmR f M) (hdg T (hnR M) w) (hnR M) = y ∧ ∀ t, hva T (hnR M) t → hnu T t (hnR M) < w → y < hco (hmR f M) t (hnR M)
def CPp (M : pM) (x : Int) : Prop := x ≤ 9 ∧ ∀ i : Nat, (i : Int) < x → M 116 i = M 117 i
def RQp (M : pM) (x : Int) : Prop := ∃ f n : Nat, f < 64 ∧ n ≤ 9 ∧ x = (f : Int) + 64 * n ∧ ∀ o, o < n → hmR f M o ≤ 3960
def NQp (M : pM) (x : Int) : Prop := ∃ f n : Nat, f < 64 ∧ n ≤ 9 ∧ x = (f : Int) + 64 * n ∧ ∃ o, o < n ∧ 200000 ≤ hmR f M o
def SFp (M : pM) (x y : Int) : Prop := ∃ f T : Nat, f < 64 ∧ 1 ≤ T ∧ T ≤ 3 ∧ x = (f : Int) + 64 * T ∧ hva T (hnR M) (hrow 116 9 M) ∧ hco (hmR f M) (hrow 116 9 M) (hnR M) = y ∧ (∀ t, hva T (hnR M) t → y ≤ hco (hmR f M) t (hnR M)) ∧ ∀ t, hva T (hnR M) t → hlx t (hrow 116 9 M) (hnR M) → y < hco (hmR f M) t (hnR M)
theorem hmC_c {M M' : pM} (h : ∀ i, i < 9 → M' 56 i = M 56 i) (h2 : ∀ i, i < 64 → M' 57 i = M 57 i) : hmC M' = hmC M := funext (fun o => by
  unfold hmC
  by_cases ho : o < 9
  · rw [h o ho]
    by_cases hc : o < 9 ∧ (M 56 o).toNat < 64
    · rw [if_pos hc, if_pos hc, h2 _ hc.2]
    · rw [if_neg hc, if_neg hc]
  · rw [if_neg (fun q => ho q.1), if_neg (fun q => ho q.1)])
theorem hmR_c {f : Nat} {M M' : pM} (hf : f < 64) (h : ∀ i, i < 9 → M' 115 i = M 115 i) (h2 : ∀ i, i < 4096 → M' 114 i = M 114 i) : hmR f M' = hmR f M := funext (fun o => by
  unfold hmR
  by_cases ho : o < 9
  · rw [h o ho]
    by_cases hc : o < 9 ∧ (M 115 o).toNat < 64
    · rw [if_pos hc, if_pos hc, h2 _ (by omega)]
    · rw [if_neg hc, if_neg hc]
  · rw [if_neg (fun q => ho q.1), if_neg (fun q => ho q.1)])
theorem hrow_c {c g : Nat} {M M' : pM} (h : ∀ i, i < g → M' c i = M c i) : hrow c g M' = hrow c g M := funext (fun o => by
  unfold hrow
  by_cases ho : o < g
  · rw [if_pos ho, if_pos ho, h o ho]
  · rw [if_neg ho, if_neg ho])
theorem hnC_c {M M' : pM} (h : M' 55 1 = M 55 1) : hnC M' = hnC M := by unfold hnC; rw [h]
theorem hnR_c {M M' : pM} (h : M' 61 99 = M 61 99) : hnR M' = hnR M := by unfold hnR; rw [h]
set_option maxRecDepth 100000 in
/-- the gate's sayings, and the named results from 100 on -/
def HG (p : Nat) (x y : Int) (M : pM) : Prop := if 100 ≤ p ∧ p < 126 then hNM p x y else if p = 40 then ((∀ i : Nat, i < 126 → M 1005 i = wds.getD i 0) ∧ ∀ i : Nat, i < 10 → M 1007 i = sgs.getD i 0) else if p = 41 then (0 ≤ x ∧ x ≤ 1920 ∧ ∀ i : Nat, i < x.toNat → M 62 i = w8 (M 1 i)) else if p = 42 then (0 ≤ M 2 1 ∧ M 2 1 ≤ 1900 ∧ M 61 3 = M 2 1 ∧ ∀ i : Nat, i < tN M → M 63 i = w8 (M 1 i)) else if p = 43 then (∃ P p q : Nat, P ≤ 2 ∧ p ≤ 1900 ∧ x = 2048 * P + p ∧ y = q ∧ al M P p q) else if p = 44 then (∃ P p : Nat, P ≤ 2 ∧ p ≤ 1900 ∧ x = 2048 * P + p ∧ y = (ru M P p : Int)) else if p = 45 then (0 ≤ x ∧ y = (tS M x.toNat : Int)) else if p = 46 then (0 ≤ x ∧ y = (tE M x.toNat : Int)) else if p = 47 then (0 ≤ x ∧ y = tK M x.toNat) else if p = 48 then ((0 ≤ x ∧ -1 ≤ M 2 5 ∧ M 2 5 ≤ 9999) ∧ M 2 4 = (tS M x.toNat : Int) ∧ M 2 2 = (tE M x.toNat : Int) ∧ tK M x.toNat = 131072 * M 2 3 + M 2 5) else if p = 49 then (0 ≤ x ∧ M 61 6 = (tS M x.toNat : Int) ∧ M 61 7 = (tE M x.toNat : Int) ∧ (M 61 8 = 0 ∧ tK M x.toNat = 131071 ∨ M 61 8 = 1 ∧ -1 ≤ tK M x.toNat ∧ tK M x.toNat ≤ 255 ∨ M 61 8 = 2 ∧ tK M x.toNat = 262143 ∧ PKp 256 0 (tm M) (2048 * (tS M x.toNat : Int) + tE M x.toNat) (M 61 10) ∨ M 61 8 = 3 ∧ (∃ k : Nat, k < 24 ∧ tK M x.toNat = 262144 + k ∧ M 61 10 = qwn k) ∨ M 61 8 = 4 ∧ tK M x.toNat = 393216 + M 61 9 ∨ M 61 8 = 5 ∧ 524288 ≤ tK M x.toNat ∧ tK M x.toNat ≤ 524543)) else if p = 50 then (∃ s e : Nat, s ≤ 1900 ∧ e ≤ 1900 ∧ x = 2048 * s + e ∧ y = wid M s e) else if p = 51 then (∃ s e : Nat, s ≤ e ∧ e ≤ 1950 ∧ x = 2048 * s + e ∧ y = dv M s (e - s)) else if p = 53 then (EXp (tm M) x y) else if p = 54 then (CAp (tm M) (qRc 0 M) x y) else if p = 55 then (CAp (tm M) (qRc 1 M) x y) else if p = 56 then (CWp (tm M) (qRc 0 M) x y) else if p = 57 then (CWp (tm M) (qRc 1 M) x y) else if p = 58 then (CEp (tm M) (qRc 0 M) x y ∧ qFc 0 M y) else if p = 59 then (CEp (tm M) (qRc 1 M) x y ∧ qFc 1 M y) else if p = 60 then (RAp (tm M) (qRr 0 M) x y) else if p = 61 then (RAp (tm M) (qRr 1 M) x y) else if p = 62 then (RWp (tm M) (qRr 0 M) x y) else if p = 63 then (RWp (tm M) (qRr 1 M) x y) else if p = 64 then (REp (tm M) (qRr 0 M) x y ∧ qFr 0 M y) else if p = 65 then (REp (tm M) (qRr 1 M) x y ∧ qFr 1 M y) else if p = 66 then (FLp (tm M) x y) else if p = 69 then (∀ i : Nat, i < 10 → (i : Int) < x → M 1007 i ≠ y) else if p = 70 then (x ∈ sgs) else if p = 71 then (MKp qb4 15 8 (tm M) x y) else if p = 72 then (MKp qb4 16 8 (tm M) x y) else if p = 73 then (MWp qb4 15 8 (tm M) x y) else if p = 74 then (MWp qb4 16 8 (tm M) x y) else if p = 79 then (VAp (tm M) x y) else if p = 80 then (GRp (tm M) x) else if p = 81 then (CGp (tm M) (qRc 0 M) x y) else if p = 82 then (CGp (tm M) (qRc 1 M) x y) else if p = 83 then (CLp (tm M) (qRc 0 M) x y) else if p = 84 then (CLp (tm M) (qRc 1 M) x y) else if p = 85 then (CSp (tm M) (qRc 0 M) x y) else if p = 86 then (CSp (tm M) (qRc 1 M) x y) else if p = 87 then (0 ≤ x ∧ qlt (tm M) x.toNat 1 0 = 97 + y) else if p = 88 then (0 ≤ x ∧ y = qwl (tm M) x.toNat) else if p = 89 then (LNp (tm M) x y) else if p = 90 then (PKp 32 96 (tm M) x y) else if p = 91 then (0 ≤ x ∧ y = qpk 32 96 (tm M) (qps (tm M) x.toNat 1)) else if p = 92 then (∀ i : Nat, i < 4 → (i : Int) < x → M 10 i ≠ y) else if p = 93 then (∀ i : Nat, i < 4 → (i : Int) < x → M 19 i ≠ y) else if p = 94 then (MKp qb8 17 64 (tm M) x y) else if p = 95 then (MWp qb8 17 64 (tm M) x y) else if p = 96 then (∃ p g : Nat, p ≤ 1950 ∧ g ≤ 4 ∧ x = 8 * (p : Int) + g ∧ ∀ j, j < g → M 1 (p + j) = qby y j) else if p = 97 then (∃ p k : Nat, p ≤ 1950 ∧ k ≤ 5 ∧ x = 8 * (p : Int) + k ∧ qfd M p k y) else if p = 130 then (x ≤ 64 ∧ ∀ i : Nat, (i : Int) < x → M 4 i = y) else if p = 131 then (x ≤ 48 ∧ ∀ i : Nat, (i : Int) < x → M 5 i = y) else if p = 132 then (x ≤ 6 ∧ ∀ i : Nat, (i : Int) < x → M 6 i = y) else if p = 133 then (x ≤ 6 ∧ ∀ i : Nat, (i : Int) < x → M 7 i = y) else if p = 134 then (x ≤ 64 ∧ ∀ i : Nat, (i : Int) < x → M 13 i = y) else if p = 135 then (x ≤ 48 ∧ ∀ i : Nat, (i : Int) < x → M 14 i = y) else if p = 136 then (x ≤ 6 ∧ ∀ i : Nat, (i : Int) < x → M 15 i = y) else if p = 137 then (x ≤ 6 ∧ ∀ i : Nat, (i : Int) < x → M 16 i = y) else if p = 140 then (∃ k : Nat, k < 24 ∧ x = k ∧ y = qwn k) else if p = 142 then (∀ k : Nat, k < 24 → (k : Int) < x → y ≠ qwn k) else if p = 143 then (PKp 256 0 (tm M) x y) else if p = 144 then (∀ k : Nat, k < 10 → (k : Int) < x → y ≠ sgs.getD k 0) else if p = 145 then (RGp (tm M) (qRr 0 M) x y) else if p = 146 then (RGp (tm M) (qRr 1 M) x y) else if p = 147 then (RLp (tm M) (qRr 0 M) x y) else if p = 148 then (RLp (tm M) (qRr 1 M) x y) else if p = 149 then (RSp (tm M) (qRr 0 M) x y) else if p = 150 then (RSp (tm M) (qRr 1 M) x y) else if p = 151 then (RXp (tm M) (qRr 0 M) x y) else if p = 152 then (RXp (tm M) (qRr 1 M) x y) else if p = 153 then (∀ i : Nat, i < 4 → 0 + (i : Int) < x → M 83 (0 + i) ≠ y) else if p = 154 then (∀ i : Nat, i < 4 → 4 + (i : Int) < x → M 83 (4 + i) ≠ y) else if p = 155 then (0 ≤ x ∧ ∃ g : Nat, g < 4 ∧ y = g ∧ M 83 (0 + g) = qpk 256 0 (tm M) (qps (tm M) x.toNat 1)) else if p = 156 then (0 ≤ x ∧ ∃ g : Nat, g < 4 ∧ y = g ∧ M 83 (4 + g) = qpk 256 0 (tm M) (qps (tm M) x.toNat 1)) else if p = 157 then (TIp (tm M) x y) else if p = 158 then (0 ≤ x ∧ x ≤ 1901 ∧ ∀ i : Nat, i < x.toNat → M 63 i = M 62 i) else if p = 160 then (x ≤ 64 ∧ ∀ i : Nat, (i : Int) < x → M 69 (0 + i) = y) else if p = 161 then (x ≤ 48 ∧ ∀ i : Nat, (i : Int) < x → M 70 (0 + i) = y) else if p = 162 then (x ≤ 6 ∧ ∀ i : Nat, (i : Int) < x → M 71 (0 + i) = y) else if p = 163 then (x ≤ 6 ∧ ∀ i : Nat, (i : Int) < x → M 72 (0 + i) = y) else if p = 164 then (x ≤ 6 ∧ ∀ i : Nat, (i : Int) < x → M 73 (0 + i) = y) else if p = 165 then (x ≤ 64 ∧ ∀ i : Nat, (i : Int) < x → M 86 (0 + i) = y) else if p = 166 then (x ≤ 8 ∧ ∀ i : Nat, (i : Int) < x → M 84 (0 + i) = y) else if p = 167 then (x ≤ 8 ∧ ∀ i : Nat, (i : Int) < x → M 85 (0 + i) = y) else if p = 170 then (x ≤ 64 ∧ ∀ i : Nat, (i : Int) < x → M 69 (64 + i) = y) else if p = 171 then (x ≤ 48 ∧ ∀ i : Nat, (i : Int) < x → M 70 (48 + i) = y) else if p = 172 then (x ≤ 6 ∧ ∀ i : Nat, (i : Int) < x → M 71 (6 + i) = y) else if p = 173 then (x ≤ 6 ∧ ∀ i : Nat, (i : Int) < x → M 72 (6 + i) = y) else if p = 174 then (x ≤ 6 ∧ ∀ i : Nat, (i : Int) < x → M 73 (6 + i) = y) else if p = 175 then (x ≤ 64 ∧ ∀ i : Nat, (i : Int) < x → M 86 (64 + i) = y) else if p = 176 then (x ≤ 8 ∧ ∀ i : Nat, (i : Int) < x → M 84 (0 + i) = y) else if p = 177 then (x ≤ 8 ∧ ∀ i : Nat, (i : Int) < x → M 85 (0 + i) = y) else if p = 178 then (∃ i : Nat, i ≤ 126 ∧ x = i ∧ y = 32 * ((qws i).1 : Int) + ((qws i).2 : Int)) else if p = 179 then (∃ s e i : Nat, (s ≤ e ∧ e ≤ 1900 ∧ i ≤ 126) ∧ x = 2048 * (s : Int) + e ∧ y = i ∧ ∀ k, k < (qws i).1 → bts (tm M) s (e - s) ≠ kws.getD k []) else if p = 180 then (∃ s e i : Nat, (s ≤ e ∧ e ≤ 1900 ∧ i ≤ 126) ∧ x = 2048 * (s : Int) + e ∧ y = i ∧ (qws i).2 ≤ e - s ∧ ∀ j, j < (qws i).2 → tm M 1 (s + j) = (kws.getD (qws i).1 []).getD j 0) else if p = 181 then (∃ s e i : Nat, (s ≤ 1900 ∧ e ≤ 1900 ∧ i ≤ 126) ∧ x = 2048 * (s : Int) + e ∧ y = i ∧ bts (tm M) s (e - s) ≠ kws.getD (qws i).1 []) else if p = 182 then (M 61 34 = 0 ∧ qEQ 0 M ∨ M 61 34 = 1 ∧ qEQ 1 M) else if p = 183 then (qEQ 0 M) else if p = 184 then (qEQ 1 M) else if p = 185 then (∃ a i : Nat, a ≤ 5 ∧ i ≤ a + 1 ∧ x = 8 * (a : Int) + i ∧ y = i ∧ ∀ k : Nat, i ≤ k → k ≤ a → M 7 (0 + k) < 0) else if p = 186 then (∃ a i : Nat, a ≤ 5 ∧ i ≤ a + 1 ∧ x = 8 * (a : Int) + i ∧ y = i ∧ ∀ k : Nat, i ≤ k → k ≤ a → M 16 (0 + k) < 0) else if p = 187 then (∃ a i : Nat, a ≤ 5 ∧ i ≤ a + 1 ∧ x = 8 * (a : Int) + i ∧ y = i ∧ ∀ k : Nat, i ≤ k → k ≤ a → M 73 (0 + k) < 0) else if p = 188 then (∃ a i : Nat, a ≤ 5 ∧ i ≤ a + 1 ∧ x = 8 * (a : Int) + i ∧ y = i ∧ ∀ k : Nat, i ≤ k → k ≤ a → M 73 (6 + k) < 0) else if p = 189 then (∃ a i : Nat, a ≤ 5 ∧ i ≤ a + 1 ∧ x = 8 * (a : Int) + i ∧ y = i ∧ ∀ k : Nat, i ≤ k → k ≤ a → M 6 (0 + k) < 0) else if p = 190 then (∃ a i : Nat, a ≤ 5 ∧ i ≤ a + 1 ∧ x = 8 * (a : Int) + i ∧ y = i ∧ ∀ k : Nat, i ≤ k → k ≤ a → M 15 (0 + k) < 0) else if p = 191 then (∃ a i : Nat, a ≤ 5 ∧ i ≤ a + 1 ∧ x = 8 * (a : Int) + i ∧ y = i ∧ ∀ k : Nat, i ≤ k → k ≤ a → M 71 (0 + k) < 0) else if p = 192 then (∃ a i : Nat, a ≤ 5 ∧ i ≤ a + 1 ∧ x = 8 * (a : Int) + i ∧ y = i ∧ ∀ k : Nat, i ≤ k → k ≤ a → M 71 (6 + k) < 0) else if p = 193 then (CLq (M 8) x y) else if p = 194 then (CLq (M 17) x y) else if p = 195 then (NSq (fun i => M 74 (0 + i)) (fun i => M 75 (0 + i)) (fun i => M 76 (0 + i)) (fun i => M 77 (0 + i)) x y) else if p = 196 then (NSq (fun i => M 74 (12 + i)) (fun i => M 75 (12 + i)) (fun i => M 76 (12 + i)) (fun i => M 77 (12 + i)) x y) else if p = 197 then (∃ P F : Nat, P ≤ 8 ∧ F ≤ 200 ∧ x = 256 * (P : Int) + F ∧ qtr M P F) else if p = 198 then (∃ P F i : Nat, P ≤ 8 ∧ F ≤ 200 ∧ i < F ∧ x = 256 * (P : Int) + F ∧ y = i ∧ qtx M P F i) else if p = 285 then (DIp M x) else if p = 286 then (DRp 0 M x) else if p = 287 then (DRp 1 M x) else if p = 288 then (DSp 0 M x) else if p = 289 then (DSp 1 M x) else if p = 290 then (DWp 0 M x) else if p = 291 then (DWp 1 M x) else if p = 292 then (DFp 0 M) else if p = 293 then (DFp 1 M) else if p = 294 then (M 61 34 = 0 ∧ DFp 0 M ∨ M 61 34 = 1 ∧ DFp 1 M) else if p = 295 then (DLp M x y) else if p = 296 then (BSp 0 M x) else if p = 297 then (BSp 1 M x) else if p = 298 then (BIp 0 M x y) else if p = 299 then (BIp 1 M x y) else if p = 300 then (BJp 0 M x y) else if p = 301 then (BJp 1 M x y) else if p = 302 then (BDp M x) else if p = 310 then (HJp 0 M x y) else if p = 311 then (HJp 1 M x y) else if p = 312 then (HJp 2 M x y) else if p = 313 then (HJp 3 M x y) else if p = 314 then (HJp 4 M x y) else if p = 315 then (HJp 5 M x y) else if p = 316 then (HJp 6 M x y) else if p = 317 then (HJp 7 M x y) else if p = 318 then (HJp 8 M x y) else if p = 319 then (HJp 9 M x y) else if p = 320 then (MXp 0 M x y) else if p = 321 then (MXp 1 M x y) else if p = 322 then (MXp 2 M x y) else if p = 323 then (MXp 3 M x y) else if p = 324 then (MXp 4 M x y) else if p = 325 then (MXp 5 M x y) else if p = 326 then (MXp 6 M x y) else if p = 327 then (MXp 7 M x y) else if p = 328 then (MXp 8 M x y) else if p = 329 then (MXp 9 M x y) else if p = 330 then (LDp 0 M) else if p = 331 then (LDp 1 M) else if p = 332 then (LDp 2 M) else if p = 333 then (LDp 3 M) else if p = 334 then (LDp 4 M) else if p = 335 then (LDp 5 M) else if p = 336 then (LDp 6 M) else if p = 337 then (LDp 7 M) else if p = 338 then (LDp 8 M) else if p = 339 then (LDp 9 M) else if p = 340 then (HLp M x y) else if p = 341 then (ACp M x) else if p = 342 then (RBp M x) else if p = 343 then (OUp M x) else if p = 344 then (LLp M x) else if p = 345 then (LHp 1 M x y) else if p = 346 then (LHp 2 M x y) else if p = 347 then (LHp 3 M x y) else if p = 348 then (LAp 1 M x y) else if p = 349 then (LAp 2 M x y) else if p = 350 then (LAp 3 M x y) else if p = 351 then (LCp 1 M x y) else if p = 352 then (LCp 2 M x y) else if p = 353 then (LCp 3 M x y) else if p = 354 then (MRp M x y) else if p = 355 then (PWp 1 x y) else if p = 356 then (PWp 2 x y) else if p = 357 then (PWp 3 x y) else if p = 358 then (RQp M x) else if p = 359 then (SWp 1 M x y) else if p = 360 then (SWp 2 M x y) else if p = 361 then (SWp 3 M x y) else if p = 365 then (NRp M x) else if p = 366 then (NQp M x) else if p = 367 then (LZp M x) else if p = 368 then (SXp 1 M x y) else if p = 369 then (SXp 2 M x y) else if p = 370 then (SXp 3 M x y) else if p = 371 then (CPp M x) else if p = 372 then (SFp M x y) else True
def HP (p : Nat) (x y : Int) (M : pM) : Prop := match p with
  | 0 => mvd 4 x y M
  | 1 => mvd 13 x y M
  | 2 => 0 ≤ x ∧ x ≤ 299 ∧ hgt M 0 x.toNat = some y
  | 3 => 300 ≤ x ∧ x ≤ 599 ∧ hgt M 300 (x - 300).toNat = some y
  | 4 => 0 ≤ x ∧ x ≤ 80 ∧ pbc M x.toNat = some y
  | 5 => M 61 8 = 3 → M 61 10 = 7237492 → 3 ≤ x
  | 6 => M 61 10 = 7237492 → 3 ≤ x
  | 7 => M 61 85 ≠ 0 → ∃ H : Int, 0 ≤ H ∧ H ≤ 60 ∧ ((M 61 80 = 0 ∧ 0 ≤ M 110 0 ∧ M 110 0 ≤ 299 ∧ hgt M 0 (M 110 0).toNat = some H) ∨ (M 61 80 = 1 ∧ 0 ≤ M 110 1 ∧ M 110 1 ≤ 299 ∧ hgt M 300 (M 110 1).toNat = some H))
  | 8 => 0 ≤ M 61 43 → (M 61 34 = 0 ∧ pds 0 M 388352) ∨ (M 61 34 = 1 ∧ pds 1 M 388352)
  | 9 => pds 0 M x
  | 10 => pds 1 M x
  | 11 => ∃ t c h r, rng t c h r ∧ x = spo t c h r ∧ goo 0 M t c h r y
  | 12 => ∃ t c h r, rng t c h r ∧ x = spo t c h r ∧ goo 1 M t c h r y
  | 13 => ∃ t c h r m, rng t c h r ∧ x = spo t c h r ∧ 0 ≤ m ∧ m ≤ 24 ∧ reT 0 M t c h r m y
  | 14 => ∃ t c h r m, rng t c h r ∧ x = spo t c h r ∧ 0 ≤ m ∧ m ≤ 24 ∧ reT 1 M t c h r m y
  | 15 => ∃ t c h r, rng t c h r ∧ x = spo t c h r ∧ 0 ≤ y ∧ y ≤ 24 ∧ t + 1 ≤ M 61 37 ∧ ldT 0 M (M 61 43) c t h y (M 61 36) (M 61 37) (M 61 38)
  | 16 => ∃ t c h r, rng t c h r ∧ x = spo t c h r ∧ 0 ≤ y ∧ y ≤ 24 ∧ t + 1 ≤ M 61 37 ∧ ldT 1 M (M 61 43) c t h y (M 61 36) (M 61 37) (M 61 38)
  | 17 => ∃ t c h r, rng t c h r ∧ x = spo t c h r ∧ 0 ≤ y ∧ y ≤ 24 ∧ ∃ z, reT 0 M t c h r y z ∧ M 88 z.toNat = M 88 x.toNat
  | 18 => ∃ t c h r, rng t c h r ∧ x = spo t c h r ∧ 0 ≤ y ∧ y ≤ 24 ∧ ∃ z, reT 1 M t c h r y z ∧ M 88 z.toNat = M 88 x.toNat
  | 19 => ∃ c r, 0 ≤ c ∧ c ≤ 63 ∧ 0 ≤ r ∧ r ≤ 3 ∧ x = 4 * c + r ∧ rdT M c r y
  | 20 => ∀ t c h r, rng t c h r → x = spo t c h r → ¬ flo M c h r
  | 21 => ∃ t c h r, rng t c h r ∧ x = spo t c h r ∧ ∃ r', rng (M 61 37) (M 61 36) (M 61 38) r' ∧ rdT M (M 61 36) r r' ∧ M 88 (spo (M 61 37) (M 61 36) (M 61 38) r').toNat = y
  | p + 22 => HG (p + 22) x y M
theorem hgt_congr {M M' : pM} {s : Nat} : ∀ {k : Nat}, (∀ i, s ≤ i → i < s + k → M' 108 i = M 108 i) → hgt M' s k = hgt M s k
  | 0, _ => rfl
  | k + 1, h => by
    have ih := hgt_congr (M := M) (M' := M') (s := s) (k := k) (fun i h1 h2 => h i h1 (by omega))
    unfold hgt
    rw [ih, h (s + k) (by omega) (by omega)]
theorem pbc_congr {M M' : pM} : ∀ {k : Nat}, (∀ i, i < k → M' 111 i = M 111 i ∧ M' 112 i = M 112 i) → pbc M' k = pbc M k
  | 0, _ => rfl
  | k + 1, h => by
    have ih := pbc_congr (M := M) (M' := M') (k := k) (fun i h1 => h i (by omega))
    unfold pbc
    rw [ih, (h k (by omega)).1, (h k (by omega)).2]
theorem inM_1 {c lo hi k : Nat} {m : mdL} (h1 : lo ≤ k) (h2 : k ≤ hi) (h : (c, lo, hi) ∈ m) : inM m c k = true := by
  refine List.any_eq_true.mpr ⟨_, h, ?_⟩
  show (Nat.beq c c && Nat.ble lo k && Nat.ble k hi) = true
  rw [Nat.beq_refl, Nat.ble_eq_true_of_le h1, Nat.ble_eq_true_of_le h2]
  rfl
theorem ag_tr {l : List (Nat × Nat × Nat)} {M M' N : pM} (h : agL l M M') (h2 : agL l M' N) : agL l M N := fun c k hk => by rw [h2 c k hk, h c k hk]
theorem ldT_c {b : Nat} {M M' : pM} (h : agL (RLb b) M M') {g c t k m c' t' k' : Int} (h1 : ldT b M g c t k m c' t' k') : ldT b M' g c t k m c' t' k' := fun N hN ha => h1 N hN (ag_tr h ha)
theorem rdT_c {M M' : pM} (h : agL PTl M M') {c r r' : Int} (h1 : rdT M c r r') : rdT M' c r r' := ⟨by rw [h 61 40 rfl]; exact h1.1, fun N hN ha => h1.2 N hN (ag_tr h ha)⟩
theorem reT_c {b : Nat} {M M' : pM} (h : agL (RLb b) M M') (h2 : agL PTl M M') (h3 : M' 61 43 = M 61 43) {t c k r m y : Int} (h1 : reT b M t c k r m y) : reT b M' t c k r m y := by
  obtain ⟨t', c', h', r', a1, a2, a3, a4, a5⟩ := h1
  exact ⟨t', c', h', r', a1, a2, by rw [h3]; exact ldT_c h a3, rdT_c h2 a4, a5⟩
theorem flo_c {M M' : pM} (hg : M' 61 40 = M 61 40) (h8 : ∀ k, k ≤ 3 → M' 87 k = M 87 k) (h4 : M' 61 44 = M 61 44) {c k r : Int} (hr : r ≤ 3) (h1 : flo M' c k r) : flo M c k r := by
  obtain ⟨a1, a2, a3⟩ := h1
  rw [hg] at a1
  rw [hg, h8 _ (by omega)] at a2
  exact ⟨a1, a2, by omega⟩
theorem flo_d {M M' : pM} (hg : M' 61 40 = M 61 40) (h8 : ∀ k, k ≤ 3 → M' 87 k = M 87 k) (h4 : M' 61 44 = M 61 44) {c k r : Int} (hr : r ≤ 3) (h1 : flo M c k r) : flo M' c k r := flo_c hg.symm (fun k hk => (h8 k hk).symm) h4.symm hr h1
theorem goo_c {b : Nat} {M M' : pM} (h : agL (RLb b) M M') (h2 : agL PTl M M') (h3 : M' 61 43 = M 61 43) (h4 : M' 61 44 = M 61 44) (h8 : ∀ k, k ≤ 388351 → M' 88 k = M 88 k) {t c k r v : Int} (hr : r ≤ 3) (h1 : goo b M t c k r v) : goo b M' t c k r v := by
  rcases h1 with h1 | h1 | ⟨m, y, m1, m2, m3, m4⟩
  · exact Or.inl (flo_d (h2 61 40 rfl) (fun i hi => h2 87 i (inM_1 (lo := 0) (hi := 3) (by omega) hi (List.mem_cons_of_mem _ List.mem_cons_self))) h4 hr h1)
  · exact Or.inr (Or.inl h1)
  · refine Or.inr (Or.inr ⟨m, y, m1, m2, reT_c h h2 h3 m3, ?_⟩)
    obtain ⟨t', c', h', r', ⟨a1, a2, a3, a4⟩, _, _, _, a5⟩ := m3
    rw [h8 _ (by unfold spo at a5; omega)]
    exact m4
theorem pds_c {b : Nat} {M M' : pM} (h : agL (RLb b) M M') (h2 : agL PTl M M') (h3 : M' 61 43 = M 61 43) (h4 : M' 61 44 = M 61 44) (h8 : ∀ k, k ≤ 388351 → M' 88 k = M 88 k) {X : Int} (h1 : pds b M X) : pds b M' X := by
  intro h0 t c k r hr hq hp
  have e4 : M' 61 40 = M 61 40 := h2 61 40 rfl
  rw [e4] at h0 hq
  have := h1 h0 t c k r hr hq hp
  obtain ⟨a1, a2, a3, a4⟩ := hr
  rw [h8 _ (by unfold spo; omega)]
  exact goo_c h h2 h3 h4 h8 a4.2 this
theorem inM_l {a b : mdL} {c k : Nat} (h : inM a c k = true) : inM (a ++ b) c k = true := by
  unfold inM at h ⊢
  rw [List.any_append, h]
  rfl
theorem inM_r {a b : mdL} {c k : Nat} (h : inM b c k = true) : inM (a ++ b) c k = true := by
  unfold inM at h ⊢
  rw [List.any_append, h, Bool.or_true]
theorem hpd_8 {x y : Int} {M M' : pM} (h : ∀ c k, inM (RLb 0 ++ (RLb 1 ++ (PTl ++ ENl))) c k = true → M' c k = M c k) (hp : HP 8 x y M) : HP 8 x y M' := by
  have i0 : agL (RLb 0) M M' := fun c k hk => h c k (inM_l (b := RLb 1 ++ (PTl ++ ENl)) hk)
  have i1 : agL (RLb 1) M M' := fun c k hk => h c k (inM_r (a := RLb 0) (inM_l (b := PTl ++ ENl) hk))
  have i2 : agL PTl M M' := fun c k hk => h c k (inM_r (a := RLb 0) (inM_r (a := RLb 1) (inM_l (b := ENl) hk)))
  have h8 : ∀ k, k ≤ 388351 → M' 88 k = M 88 k := fun k hk => h 88 k (inM_r (a := RLb 0) (inM_r (a := RLb 1) (inM_r (a := PTl) (inM_1 (lo := 0) (hi := 388351) (by omega) hk (List.mem_cons_of_mem _ List.mem_cons_self)))))
  intro q
  have e1 : M' 61 43 = M 61 43 := h 61 43 rfl
  have e2 : M' 61 34 = M 61 34 := h 61 34 rfl
  have e3 : M' 61 44 = M 61 44 := h 61 44 rfl
  rw [e1] at q
  rw [e2]
  exact (hp q).imp (fun q => ⟨q.1, pds_c i0 i2 e1 e3 h8 q.2⟩) (fun q => ⟨q.1, pds_c i1 i2 e1 e3 h8 q.2⟩)
theorem hpd_9 {x y : Int} {M M' : pM} (h : ∀ c k, inM (RLb 0 ++ (PTl ++ ENl)) c k = true → M' c k = M c k) (hp : HP 9 x y M) : HP 9 x y M' := by
  have i0 : agL (RLb 0) M M' := fun c k hk => h c k (inM_l (b := PTl ++ ENl) hk)
  have i2 : agL PTl M M' := fun c k hk => h c k (inM_r (a := RLb 0) (inM_l (b := ENl) hk))
  have h8 : ∀ k, k ≤ 388351 → M' 88 k = M 88 k := fun k hk => h 88 k (inM_r (a := RLb 0) (inM_r (a := PTl) (inM_1 (lo := 0) (hi := 388351) (by omega) hk (List.mem_cons_of_mem _ List.mem_cons_self))))
  exact pds_c i0 i2 (h 61 43 rfl) (h 61 44 rfl) h8 hp
theorem hpd_10 {x y : Int} {M M' : pM} (h : ∀ c k, inM (RLb 1 ++ (PTl ++ ENl)) c k = true → M' c k = M c k) (hp : HP 10 x y M) : HP 10 x y M' := by
  have i0 : agL (RLb 1) M M' := fun c k hk => h c k (inM_l (b := PTl ++ ENl) hk)
  have i2 : agL PTl M M' := fun c k hk => h c k (inM_r (a := RLb 1) (inM_l (b := ENl) hk))
  have h8 : ∀ k, k ≤ 388351 → M' 88 k = M 88 k := fun k hk => h 88 k (inM_r (a := RLb 1) (inM_r (a := PTl) (inM_1 (lo := 0) (hi := 388351) (by omega) hk (List.mem_cons_of_mem _ List.mem_cons_self))))
  exact pds_c i0 i2 (h 61 43 rfl) (h 61 44 rfl) h8 hp
theorem hpd_11 {x y : Int} {M M' : pM} (h : ∀ c k, inM (RLb 0 ++ (PTl ++ ENl)) c k = true → M' c k = M c k) (hp : HP 11 x y M) : HP 11 x y M' := by
  have i0 : agL (RLb 0) M M' := fun c k hk => h c k (inM_l (b := PTl ++ ENl) hk)
  have i2 : agL PTl M M' := fun c k hk => h c k (inM_r (a := RLb 0) (inM_l (b := ENl) hk))
  have h8 : ∀ k, k ≤ 388351 → M' 88 k = M 88 k := fun k hk => h 88 k (inM_r (a := RLb 0) (inM_r (a := PTl) (inM_1 (lo := 0) (hi := 388351) (by omega) hk (List.mem_cons_of_mem _ List.mem_cons_self))))
  obtain ⟨t, c, k, r, a1, a2, a3⟩ := hp
  exact ⟨t, c, k, r, a1, a2, goo_c i0 i2 (h 61 43 rfl) (h 61 44 rfl) h8 a1.2.2.2.2 a3⟩
theorem hpd_12 {x y : Int} {M M' : pM} (h : ∀ c k, inM (RLb 1 ++ (PTl ++ ENl)) c k = true → M' c k = M c k) (hp : HP 12 x y M) : HP 12 x y M' := by
  have i0 : agL (RLb 1) M M' := fun c k hk => h c k (inM_l (b := PTl ++ ENl) hk)
  have i2 : agL PTl M M' := fun c k hk => h c k (inM_r (a := RLb 1) (inM_l (b := ENl) hk))
  have h8 : ∀ k, k ≤ 388351 → M' 88 k = M 88 k := fun k hk => h 88 k (inM_r (a := RLb 1) (inM_r (a := PTl) (inM_1 (lo := 0) (hi := 388351) (by omega) hk (List.mem_cons_of_mem _ List.mem_cons_self))))
  obtain ⟨t, c, k, r, a1, a2, a3⟩ := hp
  exact ⟨t, c, k, r, a1, a2, goo_c i0 i2 (h 61 43 rfl) (h 61 44 rfl) h8 a1.2.2.2.2 a3⟩
theorem hpd_13 {x y : Int} {M M' : pM} (h : ∀ c k, inM (RLb 0 ++ (PTl ++ [(61, 43, 43)])) c k = true → M' c k = M c k) (hp : HP 13 x y M) : HP 13 x y M' := by
  have i0 : agL (RLb 0) M M' := fun c k hk => h c k (inM_l (b := PTl ++ [(61, 43, 43)]) hk)
  have i2 : agL PTl M M' := fun c k hk => h c k (inM_r (a := RLb 0) (inM_l (b := [(61, 43, 43)]) hk))
  obtain ⟨t, c, k, r, m, a1, a2, a3, a4, a5⟩ := hp
  exact ⟨t, c, k, r, m, a1, a2, a3, a4, reT_c i0 i2 (h 61 43 rfl) a5⟩
theorem hpd_14 {x y : Int} {M M' : pM} (h : ∀ c k, inM (RLb 1 ++ (PTl ++ [(61, 43, 43)])) c k = true → M' c k = M c k) (hp : HP 14 x y M) : HP 14 x y M' := by
  have i0 : agL (RLb 1) M M' := fun c k hk => h c k (inM_l (b := PTl ++ [(61, 43, 43)]) hk)
  have i2 : agL PTl M M' := fun c k hk => h c k (inM_r (a := RLb 1) (inM_l (b := [(61, 43, 43)]) hk))
  obtain ⟨t, c, k, r, m, a1, a2, a3, a4, a5⟩ := hp
  exact ⟨t, c, k, r, m, a1, a2, a3, a4, reT_c i0 i2 (h 61 43 rfl) a5⟩
theorem hpd_15 {x y : Int} {M M' : pM} (h : ∀ c k, inM (RLb 0 ++ [(61, 43, 43), (61, 36, 38)]) c k = true → M' c k = M c k) (hp : HP 15 x y M) : HP 15 x y M' := by
  have i0 : agL (RLb 0) M M' := fun c k hk => h c k (inM_l (b := [(61, 43, 43), (61, 36, 38)]) hk)
  obtain ⟨t, c, k, r, a1, a2, a3, a4, a5, a6⟩ := hp
  exact ⟨t, c, k, r, a1, a2, a3, a4, by rw [h 61 37 rfl]; exact a5, by rw [h 61 43 rfl, h 61 36 rfl, h 61 37 rfl, h 61 38 rfl]; exact ldT_c i0 a6⟩
theorem hpd_16 {x y : Int} {M M' : pM} (h : ∀ c k, inM (RLb 1 ++ [(61, 43, 43), (61, 36, 38)]) c k = true → M' c k = M c k) (hp : HP 16 x y M) : HP 16 x y M' := by
  have i0 : agL (RLb 1) M M' := fun c k hk => h c k (inM_l (b := [(61, 43, 43), (61, 36, 38)]) hk)
  obtain ⟨t, c, k, r, a1, a2, a3, a4, a5, a6⟩ := hp
  exact ⟨t, c, k, r, a1, a2, a3, a4, by rw [h 61 37 rfl]; exact a5, by rw [h 61 43 rfl, h 61 36 rfl, h 61 37 rfl, h 61 38 rfl]; exact ldT_c i0 a6⟩
theorem hpd_17 {x y : Int} {M M' : pM} (h : ∀ c k, inM (RLb 0 ++ (PTl ++ ENl)) c k = true → M' c k = M c k) (hp : HP 17 x y M) : HP 17 x y M' := by
  have i0 : agL (RLb 0) M M' := fun c k hk => h c k (inM_l (b := PTl ++ ENl) hk)
  have i2 : agL PTl M M' := fun c k hk => h c k (inM_r (a := RLb 0) (inM_l (b := ENl) hk))
  have h8 : ∀ k, k ≤ 388351 → M' 88 k = M 88 k := fun k hk => h 88 k (inM_r (a := RLb 0) (inM_r (a := PTl) (inM_1 (lo := 0) (hi := 388351) (by omega) hk (List.mem_cons_of_mem _ List.mem_cons_self))))
  obtain ⟨t, c, k, r, a1, a2, a3, a4, z, a5, a6⟩ := hp
  refine ⟨t, c, k, r, a1, a2, a3, a4, z, reT_c i0 i2 (h 61 43 rfl) a5, ?_⟩
  obtain ⟨t', c', h', r', ⟨d1, d2, d3, d4⟩, _, _, _, d5⟩ := a5
  obtain ⟨f1, f2, f3, f4⟩ := a1
  rw [h8 _ (by unfold spo at d5; omega), h8 _ (by unfold spo at a2; omega)]
  exact a6
theorem hpd_18 {x y : Int} {M M' : pM} (h : ∀ c k, inM (RLb 1 ++ (PTl ++ ENl)) c k = true → M' c k = M c k) (hp : HP 18 x y M) : HP 18 x y M' := by
  have i0 : agL (RLb 1) M M' := fun c k hk => h c k (inM_l (b := PTl ++ ENl) hk)
  have i2 : agL PTl M M' := fun c k hk => h c k (inM_r (a := RLb 1) (inM_l (b := ENl) hk))
  have h8 : ∀ k, k ≤ 388351 → M' 88 k = M 88 k := fun k hk => h 88 k (inM_r (a := RLb 1) (inM_r (a := PTl) (inM_1 (lo := 0) (hi := 388351) (by omega) hk (List.mem_cons_of_mem _ List.mem_cons_self))))
  obtain ⟨t, c, k, r, a1, a2, a3, a4, z, a5, a6⟩ := hp
  refine ⟨t, c, k, r, a1, a2, a3, a4, z, reT_c i0 i2 (h 61 43 rfl) a5, ?_⟩
  obtain ⟨t', c', h', r', ⟨d1, d2, d3, d4⟩, _, _, _, d5⟩ := a5
  obtain ⟨f1, f2, f3, f4⟩ := a1
  rw [h8 _ (by unfold spo at d5; omega), h8 _ (by unfold spo at a2; omega)]
  exact a6
theorem hpd_19 {x y : Int} {M M' : pM} (h : ∀ c k, inM (PTl) c k = true → M' c k = M c k) (hp : HP 19 x y M) : HP 19 x y M' := by
  obtain ⟨c, r, a1, a2, a3, a4, a5, a6⟩ := hp
  exact ⟨c, r, a1, a2, a3, a4, a5, rdT_c h a6⟩
theorem hpd_20 {x y : Int} {M M' : pM} (h : ∀ c k, inM (PTl ++ [(61, 44, 44)]) c k = true → M' c k = M c k) (hp : HP 20 x y M) : HP 20 x y M' := by
  intro t c k r hr hx hfl
  have i2 : agL PTl M M' := fun c k hk => h c k (inM_l (b := [(61, 44, 44)]) hk)
  exact hp t c k r hr hx (flo_c (i2 61 40 rfl) (fun i hi => i2 87 i (inM_1 (lo := 0) (hi := 3) (by omega) hi (List.mem_cons_of_mem _ List.mem_cons_self))) (h 61 44 rfl) hr.2.2.2.2 hfl)
theorem hpd_21 {x y : Int} {M M' : pM} (h : ∀ c k, inM (PTl ++ [(61, 36, 38), (88, 0, 388351)]) c k = true → M' c k = M c k) (hp : HP 21 x y M) : HP 21 x y M' := by
  have i2 : agL PTl M M' := fun c k hk => h c k (inM_l (b := [(61, 36, 38), (88, 0, 388351)]) hk)
  have h8 : ∀ k, k ≤ 388351 → M' 88 k = M 88 k := fun k hk => h 88 k (inM_r (a := PTl) (inM_1 (lo := 0) (hi := 388351) (by omega) hk (List.mem_cons_of_mem _ List.mem_cons_self)))
  obtain ⟨t, c, k, r, a1, a2, r', a3, a4, a5⟩ := hp
  have e6 : M' 61 36 = M 61 36 := h 61 36 rfl
  have e7 : M' 61 37 = M 61 37 := h 61 37 rfl
  have e8 : M' 61 38 = M 61 38 := h 61 38 rfl
  refine ⟨t, c, k, r, a1, a2, r', by rw [e6, e7, e8]; exact a3, by rw [e6]; exact rdT_c i2 a4, ?_⟩
  rw [e6, e7, e8, h8 _ (by obtain ⟨d1, d2, d3, d4⟩ := a3; unfold spo; omega)]
  exact a5
theorem ag_of {M M' : pM} (h : ∀ c k, inM [(1, 0, 1999), (2, 1, 1)] c k = true → M' c k = M c k) : agT M M' := ⟨fun i hi => h 1 i (inM_1 (lo := 0) (hi := 1999) (by omega) (by omega) List.mem_cons_self), h 2 1 rfl⟩
theorem al_ag {M M' : pM} (h : agT M M') {P p q : Nat} (ha : al M P p q) : al M' P p q := by
  obtain ⟨h1, h2, h3⟩ := ha
  refine ⟨h1, by rw [tN_ag h]; exact h2, fun i i1 i2 => ?_⟩
  have := tN_le (M := M)
  rw [h.1 i (by omega)]
  exact h3 i i1 i2
theorem qfd_ag {M M' : pM} {x : Nat} (h : ∀ i, i < 2000 → M' 1 i = M 1 i) : ∀ {k : Nat} {Y : Int}, x + 4 * k ≤ 1990 → qfd M x k Y → qfd M' x k Y
  | 0, _, _, hp => hp
  | k + 1, Y, hk, hp => by
    obtain ⟨Z, v, h1, h2, h3, h4⟩ := hp
    exact ⟨Z, v, h1, h2, qfd_ag h (by omega) h3, fun j hj => by rw [h _ (by omega)]; exact h4 j hj⟩
theorem qW_g {y : Int} {A : pM} (h : qW y A) : (A 0 2).toNat ≤ 4 := by
  have := h.2.2.2
  omega
theorem agC_c {g0 g1 : Nat → Int} {R R' : Nat → Nat → Int} {N A : pM} (h0 : ∀ i, i < 64 → R' 0 i = R 0 i) (h1 : ∀ i, i < 48 → R' 1 i = R 1 i) (h2 : ∀ i, i < 6 → R' 2 i = R 2 i) (h3 : ∀ i, i < 6 → R' 3 i = R 3 i) (h4 : ∀ i, i < 48 → R' 4 i = R 4 i) (h5 : ∀ i, i < 60 → R' 5 i = R 5 i) (h6 : ∀ i, i < 4 → R' 6 i = R 6 i) (h7 : ∀ i, i < 20 → R' 7 i = R 7 i) (hp : agC g0 g1 R N A) : agC g0 g1 R' N A := by
  obtain ⟨a0, a1, a2, a3, a4, a5, a6, a7, a8⟩ := hp
  refine ⟨fun i hi => ?_, fun i hi => ?_, fun i hi => ?_, a3, fun i hi => ?_, fun i hi hw => ?_, fun i hi hw => ?_, fun i hi hw => ?_, fun i j hi hj hw => ?_⟩
  · rw [h0 i hi]; exact a0 i hi
  · rw [h1 i hi]; exact a1 i hi
  · rw [h2 i hi]; exact a2 i hi
  · rw [h3 i hi]; exact a4 i hi
  · rw [h4 _ (by omega), h4 _ (by omega), h4 _ (by omega), h4 _ (by omega)]; exact a5 i hi hw
  · rw [h5 _ (by omega), h5 _ (by omega), h5 _ (by omega)]; exact a6 i hi hw
  · rw [h6 i hi]; exact a7 i hi hw
  · rw [h7 _ (by omega)]; exact a8 i j hi hj hw
theorem agR_c {g0 g1 g2 g6 : Nat → Int} {R R' : Nat → Nat → Int} {N A : pM} (h0 : ∀ i, i < 64 → R' 0 i = R 0 i) (h1 : ∀ i, i < 48 → R' 1 i = R 1 i) (h2 : ∀ i, i < 6 → R' 2 i = R 2 i) (h3 : ∀ i, i < 6 → R' 3 i = R 3 i) (h4 : ∀ i, i < 6 → R' 4 i = R 4 i) (h5 : ∀ i, i < 12 → R' 5 i = R 5 i) (h6 : ∀ i, i < 12 → R' 6 i = R 6 i) (h7 : ∀ i, i < 12 → R' 7 i = R 7 i) (h8 : ∀ i, i < 12 → R' 8 i = R 8 i) (h9 : ∀ i, i < 20 → R' 9 i = R 9 i) (h10 : ∀ i, i < 20 → R' 10 i = R 10 i) (h11 : ∀ i, i < 20 → R' 11 i = R 11 i) (h12 : ∀ i, i < 16 → R' 12 i = R 12 i) (h13 : ∀ i, i < 4 → R' 13 i = R 13 i) (h14 : ∀ i, i < 4 → R' 14 i = R 14 i) (h15 : ∀ i, i < 8 → R' 15 i = R 15 i) (h16 : ∀ i, i < 8 → R' 16 i = R 16 i) (h17 : ∀ i, i < 64 → R' 17 i = R 17 i) (hp : agR g0 g1 g2 g6 R N A) : agR g0 g1 g2 g6 R' N A := by
  obtain ⟨a0, a1, a2, a3, a4, a5, a6, a7, a8, a9, a10, a11, a12⟩ := hp
  refine ⟨fun i hi => ?_, fun i hi => ?_, fun i hi => ?_, fun i hi => ?_, fun i hi => ?_, fun i hi hw => ?_, fun i hi hw => ?_, fun i j hi hj hw => ?_, fun i hi hw => ?_, fun i hi hw => ?_, fun i hi => ?_, fun i hi => ?_, fun i hi => ?_⟩
  · rw [h0 i hi]; exact a0 i hi
  · rw [h1 i hi]; exact a1 i hi
  · rw [h2 i hi]; exact a2 i hi
  · rw [h3 i hi]; exact a3 i hi
  · rw [h4 i hi]; exact a4 i hi
  · rw [h5 i hi, h6 i hi, h7 i hi, h8 i hi]; exact a5 i hi hw
  · rw [h9 i hi, h10 i hi, h11 i hi]; exact a6 i hi hw
  · rw [h12 _ (by omega)]; exact a7 i j hi hj hw
  · rw [h13 i hi]; exact a8 i hi hw
  · rw [h14 i hi]; exact a9 i hi hw
  · rw [h15 i hi]; exact a10 i hi
  · rw [h16 i hi]; exact a11 i hi
  · rw [h17 i hi]; exact a12 i hi

theorem dC_0 {M M' : pM} (h : ∀ c k, inM [(1, 0, 1999), (2, 1, 1), (4, 0, 63), (5, 0, 47), (6, 0, 5), (7, 0, 5), (8, 0, 47), (9, 0, 59), (10, 0, 3), (11, 0, 19)] c k = true → M' c k = M c k) : tm M' = tm M ∧ ∀ g0 g1 N A, agC g0 g1 (qRc 0 M) N A → agC g0 g1 (qRc 0 M') N A := by
  refine ⟨tm_ag (ag_of (fun c k hk => h c k (inM_l (b := [(4, 0, 63), (5, 0, 47), (6, 0, 5), (7, 0, 5), (8, 0, 47), (9, 0, 59), (10, 0, 3), (11, 0, 19)]) hk))), fun g0 g1 N A hp => agC_c (R := qRc 0 M) (R' := qRc 0 M') (fun i hi => h 4 i (inM_1 (lo := 0) (hi := 63) (by omega) (by omega) (List.mem_cons_of_mem _ (List.mem_cons_of_mem _ List.mem_cons_self)))) (fun i hi => h 5 i (inM_1 (lo := 0) (hi := 47) (by omega) (by omega) (List.mem_cons_of_mem _ (List.mem_cons_of_mem _ (List.mem_cons_of_mem _ List.mem_cons_self))))) (fun i hi => h 6 i (inM_1 (lo := 0) (hi := 5) (by omega) (by omega) (List.mem_cons_of_mem _ (List.mem_cons_of_mem _ (List.mem_cons_of_mem _ (List.mem_cons_of_mem _ List.mem_cons_self)))))) (fun i hi => h 7 i (inM_1 (lo := 0) (hi := 5) (by omega) (by omega) (List.mem_cons_of_mem _ (List.mem_cons_of_mem _ (List.mem_cons_of_mem _ (List.mem_cons_of_mem _ (List.mem_cons_of_mem _ List.mem_cons_self))))))) (fun i hi => h 8 i (inM_1 (lo := 0) (hi := 47) (by omega) (by omega) (List.mem_cons_of_mem _ (List.mem_cons_of_mem _ (List.mem_cons_of_mem _ (List.mem_cons_of_mem _ (List.mem_cons_of_mem _ (List.mem_cons_of_mem _ List.mem_cons_self)))))))) (fun i hi => h 9 i (inM_1 (lo := 0) (hi := 59) (by omega) (by omega) (List.mem_cons_of_mem _ (List.mem_cons_of_mem _ (List.mem_cons_of_mem _ (List.mem_cons_of_mem _ (List.mem_cons_of_mem _ (List.mem_cons_of_mem _ (List.mem_cons_of_mem _ List.mem_cons_self))))))))) (fun i hi => h 10 i (inM_1 (lo := 0) (hi := 3) (by omega) (by omega) (List.mem_cons_of_mem _ (List.mem_cons_of_mem _ (List.mem_cons_of_mem _ (List.mem_cons_of_mem _ (List.mem_cons_of_mem _ (List.mem_cons_of_mem _ (List.mem_cons_of_mem _ (List.mem_cons_of_mem _ List.mem_cons_self)))))))))) (fun i hi => h 11 i (inM_1 (lo := 0) (hi := 19) (by omega) (by omega) (List.mem_cons_of_mem _ (List.mem_cons_of_mem _ (List.mem_cons_of_mem _ (List.mem_cons_of_mem _ (List.mem_cons_of_mem _ (List.mem_cons_of_mem _ (List.mem_cons_of_mem _ (List.mem_cons_of_mem _ (List.mem_cons_of_mem _ List.mem_cons_self))))))))))) hp⟩
theorem dR_0 {M M' : pM} (h : ∀ c k, inM [(1, 0, 1999), (2, 1, 1), (69, 0, 63), (70, 0, 47), (71, 0, 5), (72, 0, 5), (73, 0, 5), (74, 0, 11), (75, 0, 11), (76, 0, 11), (77, 0, 11), (78, 0, 19), (79, 0, 19), (80, 0, 19), (81, 0, 15), (82, 0, 3), (83, 0, 3), (84, 0, 7), (85, 0, 7), (86, 0, 63)] c k = true → M' c k = M c k) : tm M' = tm M ∧ ∀ g0 g1 g2 g6 N A, agR g0 g1 g2 g6 (qRr 0 M) N A → agR g0 g1 g2 g6 (qRr 0 M') N A := by
  refine ⟨tm_ag (ag_of (fun c k hk => h c k (inM_l (b := [(69, 0, 63), (70, 0, 47), (71, 0, 5), (72, 0, 5), (73, 0, 5), (74, 0, 11), (75, 0, 11), (76, 0, 11), (77, 0, 11), (78, 0, 19), (79, 0, 19), (80, 0, 19), (81, 0, 15), (82, 0, 3), (83, 0, 3), (84, 0, 7), (85, 0, 7), (86, 0, 63)]) hk))), fun g0 g1 g2 g6 N A hp => agR_c (R := qRr 0 M) (R' := qRr 0 M') (fun i hi => h 69 (0 + i) (inM_1 (lo := 0) (hi := 63) (by omega) (by omega) (List.mem_cons_of_mem _ (List.mem_cons_of_mem _ List.mem_cons_self)))) (fun i hi => h 70 (0 + i) (inM_1 (lo := 0) (hi := 47) (by omega) (by omega) (List.mem_cons_of_mem _ (List.mem_cons_of_mem _ (List.mem_cons_of_mem _ List.mem_cons_self))))) (fun i hi => h 71 (0 + i) (inM_1 (lo := 0) (hi := 5) (by omega) (by omega) (List.mem_cons_of_mem _ (List.mem_cons_of_mem _ (List.mem_cons_of_mem _ (List.mem_cons_of_mem _ List.mem_cons_self)))))) (fun i hi => h 72 (0 + i) (inM_1 (lo := 0) (hi := 5) (by omega) (by omega) (List.mem_cons_of_mem _ (List.mem_cons_of_mem _ (List.mem_cons_of_mem _ (List.mem_cons_of_mem _ (List.mem_cons_of_mem _ List.mem_cons_self))))))) (fun i hi => h 73 (0 + i) (inM_1 (lo := 0) (hi := 5) (by omega) (by omega) (List.mem_cons_of_mem _ (List.mem_cons_of_mem _ (List.mem_cons_of_mem _ (List.mem_cons_of_mem _ (List.mem_cons_of_mem _ (List.mem_cons_of_mem _ List.mem_cons_self)))))))) (fun i hi => h 74 (0 + i) (inM_1 (lo := 0) (hi := 11) (by omega) (by omega) (List.mem_cons_of_mem _ (List.mem_cons_of_mem _ (List.mem_cons_of_mem _ (List.mem_cons_of_mem _ (List.mem_cons_of_mem _ (List.mem_cons_of_mem _ (List.mem_cons_of_mem _ List.mem_cons_self))))))))) (fun i hi => h 75 (0 + i) (inM_1 (lo := 0) (hi := 11) (by omega) (by omega) (List.mem_cons_of_mem _ (List.mem_cons_of_mem _ (List.mem_cons_of_mem _ (List.mem_cons_of_mem _ (List.mem_cons_of_mem _ (List.mem_cons_of_mem _ (List.mem_cons_of_mem _ (List.mem_cons_of_mem _ List.mem_cons_self)))))))))) (fun i hi => h 76 (0 + i) (inM_1 (lo := 0) (hi := 11) (by omega) (by omega) (List.mem_cons_of_mem _ (List.mem_cons_of_mem _ (List.mem_cons_of_mem _ (List.mem_cons_of_mem _ (List.mem_cons_of_mem _ (List.mem_cons_of_mem _ (List.mem_cons_of_mem _ (List.mem_cons_of_mem _ (List.mem_cons_of_mem _ List.mem_cons_self))))))))))) (fun i hi => h 77 (0 + i) (inM_1 (lo := 0) (hi := 11) (by omega) (by omega) (List.mem_cons_of_mem _ (List.mem_cons_of_mem _ (List.mem_cons_of_mem _ (List.mem_cons_of_mem _ (List.mem_cons_of_mem _ (List.mem_cons_of_mem _ (List.mem_cons_of_mem _ (List.mem_cons_of_mem _ (List.mem_cons_of_mem _ (List.mem_cons_of_mem _ List.mem_cons_self)))))))))))) (fun i hi => h 78 (0 + i) (inM_1 (lo := 0) (hi := 19) (by omega) (by omega) (List.mem_cons_of_mem _ (List.mem_cons_of_mem _ (List.mem_cons_of_mem _ (List.mem_cons_of_mem _ (List.mem_cons_of_mem _ (List.mem_cons_of_mem _ (List.mem_cons_of_mem _ (List.mem_cons_of_mem _ (List.mem_cons_of_mem _ (List.mem_cons_of_mem _ (List.mem_cons_of_mem _ List.mem_cons_self))))))))))))) (fun i hi => h 79 (0 + i) (inM_1 (lo := 0) (hi := 19) (by omega) (by omega) (List.mem_cons_of_mem _ (List.mem_cons_of_mem _ (List.mem_cons_of_mem _ (List.mem_cons_of_mem _ (List.mem_cons_of_mem _ (List.mem_cons_of_mem _ (List.mem_cons_of_mem _ (List.mem_cons_of_mem _ (List.mem_cons_of_mem _ (List.mem_cons_of_mem _ (List.mem_cons_of_mem _ (List.mem_cons_of_mem _ List.mem_cons_self)))))))))))))) (fun i hi => h 80 (0 + i) (inM_1 (lo := 0) (hi := 19) (by omega) (by omega) (List.mem_cons_of_mem _ (List.mem_cons_of_mem _ (List.mem_cons_of_mem _ (List.mem_cons_of_mem _ (List.mem_cons_of_mem _ (List.mem_cons_of_mem _ (List.mem_cons_of_mem _ (List.mem_cons_of_mem _ (List.mem_cons_of_mem _ (List.mem_cons_of_mem _ (List.mem_cons_of_mem _ (List.mem_cons_of_mem _ (List.mem_cons_of_mem _ List.mem_cons_self))))))))))))))) (fun i hi => h 81 (0 + i) (inM_1 (lo := 0) (hi := 15) (by omega) (by omega) (List.mem_cons_of_mem _ (List.mem_cons_of_mem _ (List.mem_cons_of_mem _ (List.mem_cons_of_mem _ (List.mem_cons_of_mem _ (List.mem_cons_of_mem _ (List.mem_cons_of_mem _ (List.mem_cons_of_mem _ (List.mem_cons_of_mem _ (List.mem_cons_of_mem _ (List.mem_cons_of_mem _ (List.mem_cons_of_mem _ (List.mem_cons_of_mem _ (List.mem_cons_of_mem _ List.mem_cons_self)))))))))))))))) (fun i hi => h 82 (0 + i) (inM_1 (lo := 0) (hi := 3) (by omega) (by omega) (List.mem_cons_of_mem _ (List.mem_cons_of_mem _ (List.mem_cons_of_mem _ (List.mem_cons_of_mem _ (List.mem_cons_of_mem _ (List.mem_cons_of_mem _ (List.mem_cons_of_mem _ (List.mem_cons_of_mem _ (List.mem_cons_of_mem _ (List.mem_cons_of_mem _ (List.mem_cons_of_mem _ (List.mem_cons_of_mem _ (List.mem_cons_of_mem _ (List.mem_cons_of_mem _ (List.mem_cons_of_mem _ List.mem_cons_self))))))))))))))))) (fun i hi => h 83 (0 + i) (inM_1 (lo := 0) (hi := 3) (by omega) (by omega) (List.mem_cons_of_mem _ (List.mem_cons_of_mem _ (List.mem_cons_of_mem _ (List.mem_cons_of_mem _ (List.mem_cons_of_mem _ (List.mem_cons_of_mem _ (List.mem_cons_of_mem _ (List.mem_cons_of_mem _ (List.mem_cons_of_mem _ (List.mem_cons_of_mem _ (List.mem_cons_of_mem _ (List.mem_cons_of_mem _ (List.mem_cons_of_mem _ (List.mem_cons_of_mem _ (List.mem_cons_of_mem _ (List.mem_cons_of_mem _ List.mem_cons_self)))))))))))))))))) (fun i hi => h 84 i (inM_1 (lo := 0) (hi := 7) (by omega) (by omega) (List.mem_cons_of_mem _ (List.mem_cons_of_mem _ (List.mem_cons_of_mem _ (List.mem_cons_of_mem _ (List.mem_cons_of_mem _ (List.mem_cons_of_mem _ (List.mem_cons_of_mem _ (List.mem_cons_of_mem _ (List.mem_cons_of_mem _ (List.mem_cons_of_mem _ (List.mem_cons_of_mem _ (List.mem_cons_of_mem _ (List.mem_cons_of_mem _ (List.mem_cons_of_mem _ (List.mem_cons_of_mem _ (List.mem_cons_of_mem _ (List.mem_cons_of_mem _ List.mem_cons_self))))))))))))))))))) (fun i hi => h 85 i (inM_1 (lo := 0) (hi := 7) (by omega) (by omega) (List.mem_cons_of_mem _ (List.mem_cons_of_mem _ (List.mem_cons_of_mem _ (List.mem_cons_of_mem _ (List.mem_cons_of_mem _ (List.mem_cons_of_mem _ (List.mem_cons_of_mem _ (List.mem_cons_of_mem _ (List.mem_cons_of_mem _ (List.mem_cons_of_mem _ (List.mem_cons_of_mem _ (List.mem_cons_of_mem _ (List.mem_cons_of_mem _ (List.mem_cons_of_mem _ (List.mem_cons_of_mem _ (List.mem_cons_of_mem _ (List.mem_cons_of_mem _ (List.mem_cons_of_mem _ List.mem_cons_self)))))))))))))))))))) (fun i hi => h 86 (0 + i) (inM_1 (lo := 0) (hi := 63) (by omega) (by omega) (List.mem_cons_of_mem _ (List.mem_cons_of_mem _ (List.mem_cons_of_mem _ (List.mem_cons_of_mem _ (List.mem_cons_of_mem _ (List.mem_cons_of_mem _ (List.mem_cons_of_mem _ (List.mem_cons_of_mem _ (List.mem_cons_of_mem _ (List.mem_cons_of_mem _ (List.mem_cons_of_mem _ (List.mem_cons_of_mem _ (List.mem_cons_of_mem _ (List.mem_cons_of_mem _ (List.mem_cons_of_mem _ (List.mem_cons_of_mem _ (List.mem_cons_of_mem _ (List.mem_cons_of_mem _ (List.mem_cons_of_mem _ List.mem_cons_self))))))))))))))))))))) hp⟩
theorem dC_1 {M M' : pM} (h : ∀ c k, inM [(1, 0, 1999), (2, 1, 1), (13, 0, 63), (14, 0, 47), (15, 0, 5), (16, 0, 5), (17, 0, 47), (18, 0, 59), (19, 0, 3), (20, 0, 19)] c k = true → M' c k = M c k) : tm M' = tm M ∧ ∀ g0 g1 N A, agC g0 g1 (qRc 1 M) N A → agC g0 g1 (qRc 1 M') N A := by
  refine ⟨tm_ag (ag_of (fun c k hk => h c k (inM_l (b := [(13, 0, 63), (14, 0, 47), (15, 0, 5), (16, 0, 5), (17, 0, 47), (18, 0, 59), (19, 0, 3), (20, 0, 19)]) hk))), fun g0 g1 N A hp => agC_c (R := qRc 1 M) (R' := qRc 1 M') (fun i hi => h 13 i (inM_1 (lo := 0) (hi := 63) (by omega) (by omega) (List.mem_cons_of_mem _ (List.mem_cons_of_mem _ List.mem_cons_self)))) (fun i hi => h 14 i (inM_1 (lo := 0) (hi := 47) (by omega) (by omega) (List.mem_cons_of_mem _ (List.mem_cons_of_mem _ (List.mem_cons_of_mem _ List.mem_cons_self))))) (fun i hi => h 15 i (inM_1 (lo := 0) (hi := 5) (by omega) (by omega) (List.mem_cons_of_mem _ (List.mem_cons_of_mem _ (List.mem_cons_of_mem _ (List.mem_cons_of_mem _ List.mem_cons_self)))))) (fun i hi => h 16 i (inM_1 (lo := 0) (hi := 5) (by omega) (by omega) (List.mem_cons_of_mem _ (List.mem_cons_of_mem _ (List.mem_cons_of_mem _ (List.mem_cons_of_mem _ (List.mem_cons_of_mem _ List.mem_cons_self))))))) (fun i hi => h 17 i (inM_1 (lo := 0) (hi := 47) (by omega) (by omega) (List.mem_cons_of_mem _ (List.mem_cons_of_mem _ (List.mem_cons_of_mem _ (List.mem_cons_of_mem _ (List.mem_cons_of_mem _ (List.mem_cons_of_mem _ List.mem_cons_self)))))))) (fun i hi => h 18 i (inM_1 (lo := 0) (hi := 59) (by omega) (by omega) (List.mem_cons_of_mem _ (List.mem_cons_of_mem _ (List.mem_cons_of_mem _ (List.mem_cons_of_mem _ (List.mem_cons_of_mem _ (List.mem_cons_of_mem _ (List.mem_cons_of_mem _ List.mem_cons_self))))))))) (fun i hi => h 19 i (inM_1 (lo := 0) (hi := 3) (by omega) (by omega) (List.mem_cons_of_mem _ (List.mem_cons_of_mem _ (List.mem_cons_of_mem _ (List.mem_cons_of_mem _ (List.mem_cons_of_mem _ (List.mem_cons_of_mem _ (List.mem_cons_of_mem _ (List.mem_cons_of_mem _ List.mem_cons_self)))))))))) (fun i hi => h 20 i (inM_1 (lo := 0) (hi := 19) (by omega) (by omega) (List.mem_cons_of_mem _ (List.mem_cons_of_mem _ (List.mem_cons_of_mem _ (List.mem_cons_of_mem _ (List.mem_cons_of_mem _ (List.mem_cons_of_mem _ (List.mem_cons_of_mem _ (List.mem_cons_of_mem _ (List.mem_cons_of_mem _ List.mem_cons_self))))))))))) hp⟩
theorem dR_1 {M M' : pM} (h : ∀ c k, inM [(1, 0, 1999), (2, 1, 1), (69, 64, 127), (70, 48, 95), (71, 6, 11), (72, 6, 11), (73, 6, 11), (74, 12, 23), (75, 12, 23), (76, 12, 23), (77, 12, 23), (78, 20, 39), (79, 20, 39), (80, 20, 39), (81, 16, 31), (82, 4, 7), (83, 4, 7), (84, 0, 7), (85, 0, 7), (86, 64, 127)] c k = true → M' c k = M c k) : tm M' = tm M ∧ ∀ g0 g1 g2 g6 N A, agR g0 g1 g2 g6 (qRr 1 M) N A → agR g0 g1 g2 g6 (qRr 1 M') N A := by
  refine ⟨tm_ag (ag_of (fun c k hk => h c k (inM_l (b := [(69, 64, 127), (70, 48, 95), (71, 6, 11), (72, 6, 11), (73, 6, 11), (74, 12, 23), (75, 12, 23), (76, 12, 23), (77, 12, 23), (78, 20, 39), (79, 20, 39), (80, 20, 39), (81, 16, 31), (82, 4, 7), (83, 4, 7), (84, 0, 7), (85, 0, 7), (86, 64, 127)]) hk))), fun g0 g1 g2 g6 N A hp => agR_c (R := qRr 1 M) (R' := qRr 1 M') (fun i hi => h 69 (64 + i) (inM_1 (lo := 64) (hi := 127) (by omega) (by omega) (List.mem_cons_of_mem _ (List.mem_cons_of_mem _ List.mem_cons_self)))) (fun i hi => h 70 (48 + i) (inM_1 (lo := 48) (hi := 95) (by omega) (by omega) (List.mem_cons_of_mem _ (List.mem_cons_of_mem _ (List.mem_cons_of_mem _ List.mem_cons_self))))) (fun i hi => h 71 (6 + i) (inM_1 (lo := 6) (hi := 11) (by omega) (by omega) (List.mem_cons_of_mem _ (List.mem_cons_of_mem _ (List.mem_cons_of_mem _ (List.mem_cons_of_mem _ List.mem_cons_self)))))) (fun i hi => h 72 (6 + i) (inM_1 (lo := 6) (hi := 11) (by omega) (by omega) (List.mem_cons_of_mem _ (List.mem_cons_of_mem _ (List.mem_cons_of_mem _ (List.mem_cons_of_mem _ (List.mem_cons_of_mem _ List.mem_cons_self))))))) (fun i hi => h 73 (6 + i) (inM_1 (lo := 6) (hi := 11) (by omega) (by omega) (List.mem_cons_of_mem _ (List.mem_cons_of_mem _ (List.mem_cons_of_mem _ (List.mem_cons_of_mem _ (List.mem_cons_of_mem _ (List.mem_cons_of_mem _ List.mem_cons_self)))))))) (fun i hi => h 74 (12 + i) (inM_1 (lo := 12) (hi := 23) (by omega) (by omega) (List.mem_cons_of_mem _ (List.mem_cons_of_mem _ (List.mem_cons_of_mem _ (List.mem_cons_of_mem _ (List.mem_cons_of_mem _ (List.mem_cons_of_mem _ (List.mem_cons_of_mem _ List.mem_cons_self))))))))) (fun i hi => h 75 (12 + i) (inM_1 (lo := 12) (hi := 23) (by omega) (by omega) (List.mem_cons_of_mem _ (List.mem_cons_of_mem _ (List.mem_cons_of_mem _ (List.mem_cons_of_mem _ (List.mem_cons_of_mem _ (List.mem_cons_of_mem _ (List.mem_cons_of_mem _ (List.mem_cons_of_mem _ List.mem_cons_self)))))))))) (fun i hi => h 76 (12 + i) (inM_1 (lo := 12) (hi := 23) (by omega) (by omega) (List.mem_cons_of_mem _ (List.mem_cons_of_mem _ (List.mem_cons_of_mem _ (List.mem_cons_of_mem _ (List.mem_cons_of_mem _ (List.mem_cons_of_mem _ (List.mem_cons_of_mem _ (List.mem_cons_of_mem _ (List.mem_cons_of_mem _ List.mem_cons_self))))))))))) (fun i hi => h 77 (12 + i) (inM_1 (lo := 12) (hi := 23) (by omega) (by omega) (List.mem_cons_of_mem _ (List.mem_cons_of_mem _ (List.mem_cons_of_mem _ (List.mem_cons_of_mem _ (List.mem_cons_of_mem _ (List.mem_cons_of_mem _ (List.mem_cons_of_mem _ (List.mem_cons_of_mem _ (List.mem_cons_of_mem _ (List.mem_cons_of_mem _ List.mem_cons_self)))))))))))) (fun i hi => h 78 (20 + i) (inM_1 (lo := 20) (hi := 39) (by omega) (by omega) (List.mem_cons_of_mem _ (List.mem_cons_of_mem _ (List.mem_cons_of_mem _ (List.mem_cons_of_mem _ (List.mem_cons_of_mem _ (List.mem_cons_of_mem _ (List.mem_cons_of_mem _ (List.mem_cons_of_mem _ (List.mem_cons_of_mem _ (List.mem_cons_of_mem _ (List.mem_cons_of_mem _ List.mem_cons_self))))))))))))) (fun i hi => h 79 (20 + i) (inM_1 (lo := 20) (hi := 39) (by omega) (by omega) (List.mem_cons_of_mem _ (List.mem_cons_of_mem _ (List.mem_cons_of_mem _ (List.mem_cons_of_mem _ (List.mem_cons_of_mem _ (List.mem_cons_of_mem _ (List.mem_cons_of_mem _ (List.mem_cons_of_mem _ (List.mem_cons_of_mem _ (List.mem_cons_of_mem _ (List.mem_cons_of_mem _ (List.mem_cons_of_mem _ List.mem_cons_self)))))))))))))) (fun i hi => h 80 (20 + i) (inM_1 (lo := 20) (hi := 39) (by omega) (by omega) (List.mem_cons_of_mem _ (List.mem_cons_of_mem _ (List.mem_cons_of_mem _ (List.mem_cons_of_mem _ (List.mem_cons_of_mem _ (List.mem_cons_of_mem _ (List.mem_cons_of_mem _ (List.mem_cons_of_mem _ (List.mem_cons_of_mem _ (List.mem_cons_of_mem _ (List.mem_cons_of_mem _ (List.mem_cons_of_mem _ (List.mem_cons_of_mem _ List.mem_cons_self))))))))))))))) (fun i hi => h 81 (16 + i) (inM_1 (lo := 16) (hi := 31) (by omega) (by omega) (List.mem_cons_of_mem _ (List.mem_cons_of_mem _ (List.mem_cons_of_mem _ (List.mem_cons_of_mem _ (List.mem_cons_of_mem _ (List.mem_cons_of_mem _ (List.mem_cons_of_mem _ (List.mem_cons_of_mem _ (List.mem_cons_of_mem _ (List.mem_cons_of_mem _ (List.mem_cons_of_mem _ (List.mem_cons_of_mem _ (List.mem_cons_of_mem _ (List.mem_cons_of_mem _ List.mem_cons_self)))))))))))))))) (fun i hi => h 82 (4 + i) (inM_1 (lo := 4) (hi := 7) (by omega) (by omega) (List.mem_cons_of_mem _ (List.mem_cons_of_mem _ (List.mem_cons_of_mem _ (List.mem_cons_of_mem _ (List.mem_cons_of_mem _ (List.mem_cons_of_mem _ (List.mem_cons_of_mem _ (List.mem_cons_of_mem _ (List.mem_cons_of_mem _ (List.mem_cons_of_mem _ (List.mem_cons_of_mem _ (List.mem_cons_of_mem _ (List.mem_cons_of_mem _ (List.mem_cons_of_mem _ (List.mem_cons_of_mem _ List.mem_cons_self))))))))))))))))) (fun i hi => h 83 (4 + i) (inM_1 (lo := 4) (hi := 7) (by omega) (by omega) (List.mem_cons_of_mem _ (List.mem_cons_of_mem _ (List.mem_cons_of_mem _ (List.mem_cons_of_mem _ (List.mem_cons_of_mem _ (List.mem_cons_of_mem _ (List.mem_cons_of_mem _ (List.mem_cons_of_mem _ (List.mem_cons_of_mem _ (List.mem_cons_of_mem _ (List.mem_cons_of_mem _ (List.mem_cons_of_mem _ (List.mem_cons_of_mem _ (List.mem_cons_of_mem _ (List.mem_cons_of_mem _ (List.mem_cons_of_mem _ List.mem_cons_self)))))))))))))))))) (fun i hi => h 84 i (inM_1 (lo := 0) (hi := 7) (by omega) (by omega) (List.mem_cons_of_mem _ (List.mem_cons_of_mem _ (List.mem_cons_of_mem _ (List.mem_cons_of_mem _ (List.mem_cons_of_mem _ (List.mem_cons_of_mem _ (List.mem_cons_of_mem _ (List.mem_cons_of_mem _ (List.mem_cons_of_mem _ (List.mem_cons_of_mem _ (List.mem_cons_of_mem _ (List.mem_cons_of_mem _ (List.mem_cons_of_mem _ (List.mem_cons_of_mem _ (List.mem_cons_of_mem _ (List.mem_cons_of_mem _ (List.mem_cons_of_mem _ List.mem_cons_self))))))))))))))))))) (fun i hi => h 85 i (inM_1 (lo := 0) (hi := 7) (by omega) (by omega) (List.mem_cons_of_mem _ (List.mem_cons_of_mem _ (List.mem_cons_of_mem _ (List.mem_cons_of_mem _ (List.mem_cons_of_mem _ (List.mem_cons_of_mem _ (List.mem_cons_of_mem _ (List.mem_cons_of_mem _ (List.mem_cons_of_mem _ (List.mem_cons_of_mem _ (List.mem_cons_of_mem _ (List.mem_cons_of_mem _ (List.mem_cons_of_mem _ (List.mem_cons_of_mem _ (List.mem_cons_of_mem _ (List.mem_cons_of_mem _ (List.mem_cons_of_mem _ (List.mem_cons_of_mem _ List.mem_cons_self)))))))))))))))))))) (fun i hi => h 86 (64 + i) (inM_1 (lo := 64) (hi := 127) (by omega) (by omega) (List.mem_cons_of_mem _ (List.mem_cons_of_mem _ (List.mem_cons_of_mem _ (List.mem_cons_of_mem _ (List.mem_cons_of_mem _ (List.mem_cons_of_mem _ (List.mem_cons_of_mem _ (List.mem_cons_of_mem _ (List.mem_cons_of_mem _ (List.mem_cons_of_mem _ (List.mem_cons_of_mem _ (List.mem_cons_of_mem _ (List.mem_cons_of_mem _ (List.mem_cons_of_mem _ (List.mem_cons_of_mem _ (List.mem_cons_of_mem _ (List.mem_cons_of_mem _ (List.mem_cons_of_mem _ (List.mem_cons_of_mem _ List.mem_cons_self))))))))))))))))))))) hp⟩
theorem agS_c {R R2 : Nat → Nat → Int} {N A : pM} (h0 : ∀ i, i < 64 → R2 0 i = R 0 i) (h1 : ∀ i, i < 48 → R2 1 i = R 1 i) (h2 : ∀ i, i < 6 → R2 2 i = R 2 i) (h3 : ∀ i, i < 6 → R2 3 i = R 3 i) (h4 : ∀ i, i < 6 → R2 4 i = R 4 i) (h5 : ∀ i, i < 12 → R2 5 i = R 5 i) (h6 : ∀ i, i < 12 → R2 6 i = R 6 i) (h7 : ∀ i, i < 12 → R2 7 i = R 7 i) (h8 : ∀ i, i < 12 → R2 8 i = R 8 i) (h9 : ∀ i, i < 20 → R2 9 i = R 9 i) (h10 : ∀ i, i < 20 → R2 10 i = R 10 i) (h11 : ∀ i, i < 20 → R2 11 i = R 11 i) (h12 : ∀ i, i < 16 → R2 12 i = R 12 i) (h13 : ∀ i, i < 4 → R2 13 i = R 13 i) (h14 : ∀ i, i < 4 → R2 14 i = R 14 i) (h17 : ∀ i, i < 64 → R2 17 i = R 17 i) (hp : agS R N A) : agS R2 N A := by
  obtain ⟨R', e, a⟩ := hp
  refine ⟨fun k i => if k = 15 ∨ k = 16 then R' k i else R2 k i, fun k i g1 g2 => if_neg (fun h => h.elim g1 g2), agR_c (R := R') (R' := fun k i => if k = 15 ∨ k = 16 then R' k i else R2 k i) ?_ ?_ ?_ ?_ ?_ ?_ ?_ ?_ ?_ ?_ ?_ ?_ ?_ ?_ ?_ (fun _ _ => rfl) (fun _ _ => rfl) ?_ a⟩
  · exact fun i hi => (show R2 0 i = R' 0 i by rw [h0 i hi, e 0 i (by decide) (by decide)])
  · exact fun i hi => (show R2 1 i = R' 1 i by rw [h1 i hi, e 1 i (by decide) (by decide)])
  · exact fun i hi => (show R2 2 i = R' 2 i by rw [h2 i hi, e 2 i (by decide) (by decide)])
  · exact fun i hi => (show R2 3 i = R' 3 i by rw [h3 i hi, e 3 i (by decide) (by decide)])
  · exact fun i hi => (show R2 4 i = R' 4 i by rw [h4 i hi, e 4 i (by decide) (by decide)])
  · exact fun i hi => (show R2 5 i = R' 5 i by rw [h5 i hi, e 5 i (by decide) (by decide)])
  · exact fun i hi => (show R2 6 i = R' 6 i by rw [h6 i hi, e 6 i (by decide) (by decide)])
  · exact fun i hi => (show R2 7 i = R' 7 i by rw [h7 i hi, e 7 i (by decide) (by decide)])
  · exact fun i hi => (show R2 8 i = R' 8 i by rw [h8 i hi, e 8 i (by decide) (by decide)])
  · exact fun i hi => (show R2 9 i = R' 9 i by rw [h9 i hi, e 9 i (by decide) (by decide)])
  · exact fun i hi => (show R2 10 i = R' 10 i by rw [h10 i hi, e 10 i (by decide) (by decide)])
  · exact fun i hi => (show R2 11 i = R' 11 i by rw [h11 i hi, e 11 i (by decide) (by decide)])
  · exact fun i hi => (show R2 12 i = R' 12 i by rw [h12 i hi, e 12 i (by decide) (by decide)])
  · exact fun i hi => (show R2 13 i = R' 13 i by rw [h13 i hi, e 13 i (by decide) (by decide)])
  · exact fun i hi => (show R2 14 i = R' 14 i by rw [h14 i hi, e 14 i (by decide) (by decide)])
  · exact fun i hi => (show R2 17 i = R' 17 i by rw [h17 i hi, e 17 i (by decide) (by decide)])
theorem CLq_c {R R' : Nat → Int} (h : ∀ i, i < 48 → R' i = R i) {x y : Int} (hp : CLq R x y) : CLq R' x y := by
  obtain ⟨c, m, k, g, a1, a2, a3, a4, a5⟩ := hp
  have hq : ∀ w, w < k → (qhs R' c m w ↔ qhs R c m w) := fun w hw => by unfold qhs; rw [h _ (by omega), h _ (by omega), h _ (by omega)]
  refine ⟨c, m, k, g, a1, a2, a3, fun w hw hh => by rw [h _ (by omega)]; exact a4 w hw ((hq w hw).mp hh), ?_⟩
  rcases a5 with a5 | ⟨w, b1, b2, b3⟩
  · exact Or.inl a5
  · exact Or.inr ⟨w, b1, (hq w b1).mpr b2, by rw [h _ (by omega)]; exact b3⟩
theorem NSq_c {R4 R5 R6 R7 S4 S5 S6 S7 : Nat → Int} (h4 : ∀ i, i < 12 → S4 i = R4 i) (h5 : ∀ i, i < 12 → S5 i = R5 i) (h6 : ∀ i, i < 12 → S6 i = R6 i) (h7 : ∀ i, i < 12 → S7 i = R7 i) {x y : Int} (hp : NSq R4 R5 R6 R7 x y) : NSq S4 S5 S6 S7 x y := by
  obtain ⟨c, m, k, H, a1, a2, a3, a4⟩ := hp
  exact ⟨c, m, k, H, a1, a2, a3, fun w hw hh => a4 w hw (by unfold qns at hh ⊢; rw [h4 w (by omega), h5 w (by omega), h6 w (by omega), h7 w (by omega)] at hh; exact hh)⟩
theorem qt5_c {M M' : pM} {j : Nat} (h : ∀ c, 42 ≤ c ∧ c ≤ 46 ∨ 97 ≤ c ∧ c ≤ 101 → M' c j = M c j) (hp : qt5 M j) : qt5 M' j := by
  unfold qt5 at hp ⊢
  rw [h 42 (by decide), h 43 (by decide), h 44 (by decide), h 45 (by decide), h 46 (by decide), h 97 (by decide), h 98 (by decide), h 99 (by decide), h 100 (by decide), h 101 (by decide)]
  exact hp
theorem qtr_c {M M' : pM} {P F : Nat} (h1 : ∀ c j, c = 41 ∨ c = 96 → j < P → M' c j = M c j) (h2 : ∀ c j, 42 ≤ c ∧ c ≤ 47 ∨ 97 ≤ c ∧ c ≤ 102 → j < F → M' c j = M c j) (hp : qtr M P F) : qtr M' P F :=
  ⟨fun j hj => by rw [h1 41 j (by decide) hj, h1 96 j (by decide) hj]; exact hp.1 j hj, fun j hj => ⟨qt5_c (fun c hc => h2 c j (by omega) hj) (hp.2 j hj).1, by rw [h2 47 j (by decide) hj, h2 102 j (by decide) hj]; exact (hp.2 j hj).2⟩⟩
theorem qtx_c {M M' : pM} {P F i : Nat} (hi : i < F) (h1 : ∀ c j, c = 41 ∨ c = 96 → j < P → M' c j = M c j) (h2 : ∀ c j, 42 ≤ c ∧ c ≤ 47 ∨ 97 ≤ c ∧ c ≤ 102 → j < F → M' c j = M c j) (hp : qtx M P F i) : qtx M' P F i :=
  ⟨fun j hj => by rw [h1 41 j (by decide) hj, h1 96 j (by decide) hj]; exact hp.1 j hj, fun j hj => ⟨qt5_c (fun c hc => h2 c j (by omega) hj) (hp.2.1 j hj).1, fun hn => by rw [h2 47 j (by decide) hj, h2 102 j (by decide) hj]; exact (hp.2.1 j hj).2 hn⟩, by rw [h2 102 i (by decide) hi]; exact hp.2.2⟩
def trD : List (Nat × Nat × Nat) := [(41, 0, 7), (96, 0, 7), (42, 0, 199), (43, 0, 199), (44, 0, 199), (45, 0, 199), (46, 0, 199), (47, 0, 199), (97, 0, 199), (98, 0, 199), (99, 0, 199), (100, 0, 199), (101, 0, 199), (102, 0, 199)]
theorem trD_1 {c j : Nat} (h : c = 41 ∨ c = 96) (hj : j < 8) : inM trD c j = true := by
  have hb : (List.range 8).all (fun j => inM trD 41 j && inM trD 96 j) = true := by decide +kernel
  have hab := List.all_eq_true.mp hb j (List.mem_range.mpr hj)
  rw [Bool.and_eq_true] at hab
  obtain ⟨a, b⟩ := hab
  rcases h with h | h <;> subst h <;> assumption
theorem trD_2 {c j : Nat} (h : 42 ≤ c ∧ c ≤ 47 ∨ 97 ≤ c ∧ c ≤ 102) (hj : j < 200) : inM trD c j = true := by
  have hm : (c, 0, 199) ∈ trD := by
    have : c = 42 ∨ c = 43 ∨ c = 44 ∨ c = 45 ∨ c = 46 ∨ c = 47 ∨ c = 97 ∨ c = 98 ∨ c = 99 ∨ c = 100 ∨ c = 101 ∨ c = 102 := by omega
    rcases this with h | h | h | h | h | h | h | h | h | h | h | h <;> subst h <;> decide
  exact inM_1 (lo := 0) (hi := 199) (by omega) (by omega) hm

theorem qEQ_0 {M M' : pM} (h : ∀ c k, inM [(4, 0, 63), (5, 0, 47), (6, 0, 5), (7, 0, 5), (8, 0, 47), (9, 0, 59), (10, 0, 3), (11, 0, 19), (69, 0, 63), (70, 0, 47), (71, 0, 5), (72, 0, 5), (73, 0, 5), (74, 0, 11), (75, 0, 11), (76, 0, 11), (77, 0, 11), (78, 0, 19), (79, 0, 19), (80, 0, 19), (81, 0, 15), (82, 0, 3), (83, 0, 3), (86, 0, 63), (3, 7, 7), (3, 10, 10), (3, 13, 13), (65, 0, 0), (67, 0, 0), (68, 0, 0)] c k = true → M' c k = M c k) (hp : qEQ 0 M) : qEQ 0 M' := by
  have e0 : M' (3 + 9 * 0) 7 = M (3 + 9 * 0) 7 := h 3 7 rfl
  have e1 : M' (3 + 9 * 0) 10 = M (3 + 9 * 0) 10 := h 3 10 rfl
  have e2 : M' (3 + 9 * 0) 13 = M (3 + 9 * 0) 13 := h 3 13 rfl
  have e3 : M' 65 0 = M 65 0 := h 65 0 rfl
  have e4 : M' 67 0 = M 67 0 := h 67 0 rfl
  have e5 : M' 68 0 = M 68 0 := h 68 0 rfl
  obtain ⟨h1, N, A, h2, h3, h4, h5⟩ := hp
  refine ⟨by rw [e0, e1, e2, e3, e4, e5]; exact h1, N, A, by rw [e3, e4, e5]; exact h2, h3, agC_c (R := qRc 0 M) (R' := qRc 0 M') (fun i hi => h 4 i (inM_1 (lo := 0) (hi := 63) (by omega) (by omega) List.mem_cons_self)) (fun i hi => h 5 i (inM_1 (lo := 0) (hi := 47) (by omega) (by omega) (List.mem_cons_of_mem _ List.mem_cons_self))) (fun i hi => h 6 i (inM_1 (lo := 0) (hi := 5) (by omega) (by omega) (List.mem_cons_of_mem _ (List.mem_cons_of_mem _ List.mem_cons_self)))) (fun i hi => h 7 i (inM_1 (lo := 0) (hi := 5) (by omega) (by omega) (List.mem_cons_of_mem _ (List.mem_cons_of_mem _ (List.mem_cons_of_mem _ List.mem_cons_self))))) (fun i hi => h 8 i (inM_1 (lo := 0) (hi := 47) (by omega) (by omega) (List.mem_cons_of_mem _ (List.mem_cons_of_mem _ (List.mem_cons_of_mem _ (List.mem_cons_of_mem _ List.mem_cons_self)))))) (fun i hi => h 9 i (inM_1 (lo := 0) (hi := 59) (by omega) (by omega) (List.mem_cons_of_mem _ (List.mem_cons_of_mem _ (List.mem_cons_of_mem _ (List.mem_cons_of_mem _ (List.mem_cons_of_mem _ List.mem_cons_self))))))) (fun i hi => h 10 i (inM_1 (lo := 0) (hi := 3) (by omega) (by omega) (List.mem_cons_of_mem _ (List.mem_cons_of_mem _ (List.mem_cons_of_mem _ (List.mem_cons_of_mem _ (List.mem_cons_of_mem _ (List.mem_cons_of_mem _ List.mem_cons_self)))))))) (fun i hi => h 11 i (inM_1 (lo := 0) (hi := 19) (by omega) (by omega) (List.mem_cons_of_mem _ (List.mem_cons_of_mem _ (List.mem_cons_of_mem _ (List.mem_cons_of_mem _ (List.mem_cons_of_mem _ (List.mem_cons_of_mem _ (List.mem_cons_of_mem _ List.mem_cons_self))))))))) h4, agS_c (R := qRr 0 M) (R2 := qRr 0 M') (fun i hi => h 69 (0 + i) (inM_1 (lo := 0) (hi := 63) (by omega) (by omega) (List.mem_cons_of_mem _ (List.mem_cons_of_mem _ (List.mem_cons_of_mem _ (List.mem_cons_of_mem _ (List.mem_cons_of_mem _ (List.mem_cons_of_mem _ (List.mem_cons_of_mem _ (List.mem_cons_of_mem _ List.mem_cons_self)))))))))) (fun i hi => h 70 (0 + i) (inM_1 (lo := 0) (hi := 47) (by omega) (by omega) (List.mem_cons_of_mem _ (List.mem_cons_of_mem _ (List.mem_cons_of_mem _ (List.mem_cons_of_mem _ (List.mem_cons_of_mem _ (List.mem_cons_of_mem _ (List.mem_cons_of_mem _ (List.mem_cons_of_mem _ (List.mem_cons_of_mem _ List.mem_cons_self))))))))))) (fun i hi => h 71 (0 + i) (inM_1 (lo := 0) (hi := 5) (by omega) (by omega) (List.mem_cons_of_mem _ (List.mem_cons_of_mem _ (List.mem_cons_of_mem _ (List.mem_cons_of_mem _ (List.mem_cons_of_mem _ (List.mem_cons_of_mem _ (List.mem_cons_of_mem _ (List.mem_cons_of_mem _ (List.mem_cons_of_mem _ (List.mem_cons_of_mem _ List.mem_cons_self)))))))))))) (fun i hi => h 72 (0 + i) (inM_1 (lo := 0) (hi := 5) (by omega) (by omega) (List.mem_cons_of_mem _ (List.mem_cons_of_mem _ (List.mem_cons_of_mem _ (List.mem_cons_of_mem _ (List.mem_cons_of_mem _ (List.mem_cons_of_mem _ (List.mem_cons_of_mem _ (List.mem_cons_of_mem _ (List.mem_cons_of_mem _ (List.mem_cons_of_mem _ (List.mem_cons_of_mem _ List.mem_cons_self))))))))))))) (fun i hi => h 73 (0 + i) (inM_1 (lo := 0) (hi := 5) (by omega) (by omega) (List.mem_cons_of_mem _ (List.mem_cons_of_mem _ (List.mem_cons_of_mem _ (List.mem_cons_of_mem _ (List.mem_cons_of_mem _ (List.mem_cons_of_mem _ (List.mem_cons_of_mem _ (List.mem_cons_of_mem _ (List.mem_cons_of_mem _ (List.mem_cons_of_mem _ (List.mem_cons_of_mem _ (List.mem_cons_of_mem _ List.mem_cons_self)))))))))))))) (fun i hi => h 74 (0 + i) (inM_1 (lo := 0) (hi := 11) (by omega) (by omega) (List.mem_cons_of_mem _ (List.mem_cons_of_mem _ (List.mem_cons_of_mem _ (List.mem_cons_of_mem _ (List.mem_cons_of_mem _ (List.mem_cons_of_mem _ (List.mem_cons_of_mem _ (List.mem_cons_of_mem _ (List.mem_cons_of_mem _ (List.mem_cons_of_mem _ (List.mem_cons_of_mem _ (List.mem_cons_of_mem _ (List.mem_cons_of_mem _ List.mem_cons_self))))))))))))))) (fun i hi => h 75 (0 + i) (inM_1 (lo := 0) (hi := 11) (by omega) (by omega) (List.mem_cons_of_mem _ (List.mem_cons_of_mem _ (List.mem_cons_of_mem _ (List.mem_cons_of_mem _ (List.mem_cons_of_mem _ (List.mem_cons_of_mem _ (List.mem_cons_of_mem _ (List.mem_cons_of_mem _ (List.mem_cons_of_mem _ (List.mem_cons_of_mem _ (List.mem_cons_of_mem _ (List.mem_cons_of_mem _ (List.mem_cons_of_mem _ (List.mem_cons_of_mem _ List.mem_cons_self)))))))))))))))) (fun i hi => h 76 (0 + i) (inM_1 (lo := 0) (hi := 11) (by omega) (by omega) (List.mem_cons_of_mem _ (List.mem_cons_of_mem _ (List.mem_cons_of_mem _ (List.mem_cons_of_mem _ (List.mem_cons_of_mem _ (List.mem_cons_of_mem _ (List.mem_cons_of_mem _ (List.mem_cons_of_mem _ (List.mem_cons_of_mem _ (List.mem_cons_of_mem _ (List.mem_cons_of_mem _ (List.mem_cons_of_mem _ (List.mem_cons_of_mem _ (List.mem_cons_of_mem _ (List.mem_cons_of_mem _ List.mem_cons_self))))))))))))))))) (fun i hi => h 77 (0 + i) (inM_1 (lo := 0) (hi := 11) (by omega) (by omega) (List.mem_cons_of_mem _ (List.mem_cons_of_mem _ (List.mem_cons_of_mem _ (List.mem_cons_of_mem _ (List.mem_cons_of_mem _ (List.mem_cons_of_mem _ (List.mem_cons_of_mem _ (List.mem_cons_of_mem _ (List.mem_cons_of_mem _ (List.mem_cons_of_mem _ (List.mem_cons_of_mem _ (List.mem_cons_of_mem _ (List.mem_cons_of_mem _ (List.mem_cons_of_mem _ (List.mem_cons_of_mem _ (List.mem_cons_of_mem _ List.mem_cons_self)))))))))))))))))) (fun i hi => h 78 (0 + i) (inM_1 (lo := 0) (hi := 19) (by omega) (by omega) (List.mem_cons_of_mem _ (List.mem_cons_of_mem _ (List.mem_cons_of_mem _ (List.mem_cons_of_mem _ (List.mem_cons_of_mem _ (List.mem_cons_of_mem _ (List.mem_cons_of_mem _ (List.mem_cons_of_mem _ (List.mem_cons_of_mem _ (List.mem_cons_of_mem _ (List.mem_cons_of_mem _ (List.mem_cons_of_mem _ (List.mem_cons_of_mem _ (List.mem_cons_of_mem _ (List.mem_cons_of_mem _ (List.mem_cons_of_mem _ (List.mem_cons_of_mem _ List.mem_cons_self))))))))))))))))))) (fun i hi => h 79 (0 + i) (inM_1 (lo := 0) (hi := 19) (by omega) (by omega) (List.mem_cons_of_mem _ (List.mem_cons_of_mem _ (List.mem_cons_of_mem _ (List.mem_cons_of_mem _ (List.mem_cons_of_mem _ (List.mem_cons_of_mem _ (List.mem_cons_of_mem _ (List.mem_cons_of_mem _ (List.mem_cons_of_mem _ (List.mem_cons_of_mem _ (List.mem_cons_of_mem _ (List.mem_cons_of_mem _ (List.mem_cons_of_mem _ (List.mem_cons_of_mem _ (List.mem_cons_of_mem _ (List.mem_cons_of_mem _ (List.mem_cons_of_mem _ (List.mem_cons_of_mem _ List.mem_cons_self)))))))))))))))))))) (fun i hi => h 80 (0 + i) (inM_1 (lo := 0) (hi := 19) (by omega) (by omega) (List.mem_cons_of_mem _ (List.mem_cons_of_mem _ (List.mem_cons_of_mem _ (List.mem_cons_of_mem _ (List.mem_cons_of_mem _ (List.mem_cons_of_mem _ (List.mem_cons_of_mem _ (List.mem_cons_of_mem _ (List.mem_cons_of_mem _ (List.mem_cons_of_mem _ (List.mem_cons_of_mem _ (List.mem_cons_of_mem _ (List.mem_cons_of_mem _ (List.mem_cons_of_mem _ (List.mem_cons_of_mem _ (List.mem_cons_of_mem _ (List.mem_cons_of_mem _ (List.mem_cons_of_mem _ (List.mem_cons_of_mem _ List.mem_cons_self))))))))))))))))))))) (fun i hi => h 81 (0 + i) (inM_1 (lo := 0) (hi := 15) (by omega) (by omega) (List.mem_cons_of_mem _ (List.mem_cons_of_mem _ (List.mem_cons_of_mem _ (List.mem_cons_of_mem _ (List.mem_cons_of_mem _ (List.mem_cons_of_mem _ (List.mem_cons_of_mem _ (List.mem_cons_of_mem _ (List.mem_cons_of_mem _ (List.mem_cons_of_mem _ (List.mem_cons_of_mem _ (List.mem_cons_of_mem _ (List.mem_cons_of_mem _ (List.mem_cons_of_mem _ (List.mem_cons_of_mem _ (List.mem_cons_of_mem _ (List.mem_cons_of_mem _ (List.mem_cons_of_mem _ (List.mem_cons_of_mem _ (List.mem_cons_of_mem _ List.mem_cons_self)))))))))))))))))))))) (fun i hi => h 82 (0 + i) (inM_1 (lo := 0) (hi := 3) (by omega) (by omega) (List.mem_cons_of_mem _ (List.mem_cons_of_mem _ (List.mem_cons_of_mem _ (List.mem_cons_of_mem _ (List.mem_cons_of_mem _ (List.mem_cons_of_mem _ (List.mem_cons_of_mem _ (List.mem_cons_of_mem _ (List.mem_cons_of_mem _ (List.mem_cons_of_mem _ (List.mem_cons_of_mem _ (List.mem_cons_of_mem _ (List.mem_cons_of_mem _ (List.mem_cons_of_mem _ (List.mem_cons_of_mem _ (List.mem_cons_of_mem _ (List.mem_cons_of_mem _ (List.mem_cons_of_mem _ (List.mem_cons_of_mem _ (List.mem_cons_of_mem _ (List.mem_cons_of_mem _ List.mem_cons_self))))))))))))))))))))))) (fun i hi => h 83 (0 + i) (inM_1 (lo := 0) (hi := 3) (by omega) (by omega) (List.mem_cons_of_mem _ (List.mem_cons_of_mem _ (List.mem_cons_of_mem _ (List.mem_cons_of_mem _ (List.mem_cons_of_mem _ (List.mem_cons_of_mem _ (List.mem_cons_of_mem _ (List.mem_cons_of_mem _ (List.mem_cons_of_mem _ (List.mem_cons_of_mem _ (List.mem_cons_of_mem _ (List.mem_cons_of_mem _ (List.mem_cons_of_mem _ (List.mem_cons_of_mem _ (List.mem_cons_of_mem _ (List.mem_cons_of_mem _ (List.mem_cons_of_mem _ (List.mem_cons_of_mem _ (List.mem_cons_of_mem _ (List.mem_cons_of_mem _ (List.mem_cons_of_mem _ (List.mem_cons_of_mem _ List.mem_cons_self)))))))))))))))))))))))) (fun i hi => h 86 (0 + i) (inM_1 (lo := 0) (hi := 63) (by omega) (by omega) (List.mem_cons_of_mem _ (List.mem_cons_of_mem _ (List.mem_cons_of_mem _ (List.mem_cons_of_mem _ (List.mem_cons_of_mem _ (List.mem_cons_of_mem _ (List.mem_cons_of_mem _ (List.mem_cons_of_mem _ (List.mem_cons_of_mem _ (List.mem_cons_of_mem _ (List.mem_cons_of_mem _ (List.mem_cons_of_mem _ (List.mem_cons_of_mem _ (List.mem_cons_of_mem _ (List.mem_cons_of_mem _ (List.mem_cons_of_mem _ (List.mem_cons_of_mem _ (List.mem_cons_of_mem _ (List.mem_cons_of_mem _ (List.mem_cons_of_mem _ (List.mem_cons_of_mem _ (List.mem_cons_of_mem _ (List.mem_cons_of_mem _ List.mem_cons_self))))))))))))))))))))))))) h5⟩
theorem qEQ_1 {M M' : pM} (h : ∀ c k, inM [(13, 0, 63), (14, 0, 47), (15, 0, 5), (16, 0, 5), (17, 0, 47), (18, 0, 59), (19, 0, 3), (20, 0, 19), (69, 64, 127), (70, 48, 95), (71, 6, 11), (72, 6, 11), (73, 6, 11), (74, 12, 23), (75, 12, 23), (76, 12, 23), (77, 12, 23), (78, 20, 39), (79, 20, 39), (80, 20, 39), (81, 16, 31), (82, 4, 7), (83, 4, 7), (86, 64, 127), (12, 7, 7), (12, 10, 10), (12, 13, 13), (65, 1, 1), (67, 1, 1), (68, 1, 1)] c k = true → M' c k = M c k) (hp : qEQ 1 M) : qEQ 1 M' := by
  have e0 : M' (3 + 9 * 1) 7 = M (3 + 9 * 1) 7 := h 12 7 rfl
  have e1 : M' (3 + 9 * 1) 10 = M (3 + 9 * 1) 10 := h 12 10 rfl
  have e2 : M' (3 + 9 * 1) 13 = M (3 + 9 * 1) 13 := h 12 13 rfl
  have e3 : M' 65 1 = M 65 1 := h 65 1 rfl
  have e4 : M' 67 1 = M 67 1 := h 67 1 rfl
  have e5 : M' 68 1 = M 68 1 := h 68 1 rfl
  obtain ⟨h1, N, A, h2, h3, h4, h5⟩ := hp
  refine ⟨by rw [e0, e1, e2, e3, e4, e5]; exact h1, N, A, by rw [e3, e4, e5]; exact h2, h3, agC_c (R := qRc 1 M) (R' := qRc 1 M') (fun i hi => h 13 i (inM_1 (lo := 0) (hi := 63) (by omega) (by omega) List.mem_cons_self)) (fun i hi => h 14 i (inM_1 (lo := 0) (hi := 47) (by omega) (by omega) (List.mem_cons_of_mem _ List.mem_cons_self))) (fun i hi => h 15 i (inM_1 (lo := 0) (hi := 5) (by omega) (by omega) (List.mem_cons_of_mem _ (List.mem_cons_of_mem _ List.mem_cons_self)))) (fun i hi => h 16 i (inM_1 (lo := 0) (hi := 5) (by omega) (by omega) (List.mem_cons_of_mem _ (List.mem_cons_of_mem _ (List.mem_cons_of_mem _ List.mem_cons_self))))) (fun i hi => h 17 i (inM_1 (lo := 0) (hi := 47) (by omega) (by omega) (List.mem_cons_of_mem _ (List.mem_cons_of_mem _ (List.mem_cons_of_mem _ (List.mem_cons_of_mem _ List.mem_cons_self)))))) (fun i hi => h 18 i (inM_1 (lo := 0) (hi := 59) (by omega) (by omega) (List.mem_cons_of_mem _ (List.mem_cons_of_mem _ (List.mem_cons_of_mem _ (List.mem_cons_of_mem _ (List.mem_cons_of_mem _ List.mem_cons_self))))))) (fun i hi => h 19 i (inM_1 (lo := 0) (hi := 3) (by omega) (by omega) (List.mem_cons_of_mem _ (List.mem_cons_of_mem _ (List.mem_cons_of_mem _ (List.mem_cons_of_mem _ (List.mem_cons_of_mem _ (List.mem_cons_of_mem _ List.mem_cons_self)))))))) (fun i hi => h 20 i (inM_1 (lo := 0) (hi := 19) (by omega) (by omega) (List.mem_cons_of_mem _ (List.mem_cons_of_mem _ (List.mem_cons_of_mem _ (List.mem_cons_of_mem _ (List.mem_cons_of_mem _ (List.mem_cons_of_mem _ (List.mem_cons_of_mem _ List.mem_cons_self))))))))) h4, agS_c (R := qRr 1 M) (R2 := qRr 1 M') (fun i hi => h 69 (64 + i) (inM_1 (lo := 64) (hi := 127) (by omega) (by omega) (List.mem_cons_of_mem _ (List.mem_cons_of_mem _ (List.mem_cons_of_mem _ (List.mem_cons_of_mem _ (List.mem_cons_of_mem _ (List.mem_cons_of_mem _ (List.mem_cons_of_mem _ (List.mem_cons_of_mem _ List.mem_cons_self)))))))))) (fun i hi => h 70 (48 + i) (inM_1 (lo := 48) (hi := 95) (by omega) (by omega) (List.mem_cons_of_mem _ (List.mem_cons_of_mem _ (List.mem_cons_of_mem _ (List.mem_cons_of_mem _ (List.mem_cons_of_mem _ (List.mem_cons_of_mem _ (List.mem_cons_of_mem _ (List.mem_cons_of_mem _ (List.mem_cons_of_mem _ List.mem_cons_self))))))))))) (fun i hi => h 71 (6 + i) (inM_1 (lo := 6) (hi := 11) (by omega) (by omega) (List.mem_cons_of_mem _ (List.mem_cons_of_mem _ (List.mem_cons_of_mem _ (List.mem_cons_of_mem _ (List.mem_cons_of_mem _ (List.mem_cons_of_mem _ (List.mem_cons_of_mem _ (List.mem_cons_of_mem _ (List.mem_cons_of_mem _ (List.mem_cons_of_mem _ List.mem_cons_self)))))))))))) (fun i hi => h 72 (6 + i) (inM_1 (lo := 6) (hi := 11) (by omega) (by omega) (List.mem_cons_of_mem _ (List.mem_cons_of_mem _ (List.mem_cons_of_mem _ (List.mem_cons_of_mem _ (List.mem_cons_of_mem _ (List.mem_cons_of_mem _ (List.mem_cons_of_mem _ (List.mem_cons_of_mem _ (List.mem_cons_of_mem _ (List.mem_cons_of_mem _ (List.mem_cons_of_mem _ List.mem_cons_self))))))))))))) (fun i hi => h 73 (6 + i) (inM_1 (lo := 6) (hi := 11) (by omega) (by omega) (List.mem_cons_of_mem _ (List.mem_cons_of_mem _ (List.mem_cons_of_mem _ (List.mem_cons_of_mem _ (List.mem_cons_of_mem _ (List.mem_cons_of_mem _ (List.mem_cons_of_mem _ (List.mem_cons_of_mem _ (List.mem_cons_of_mem _ (List.mem_cons_of_mem _ (List.mem_cons_of_mem _ (List.mem_cons_of_mem _ List.mem_cons_self)))))))))))))) (fun i hi => h 74 (12 + i) (inM_1 (lo := 12) (hi := 23) (by omega) (by omega) (List.mem_cons_of_mem _ (List.mem_cons_of_mem _ (List.mem_cons_of_mem _ (List.mem_cons_of_mem _ (List.mem_cons_of_mem _ (List.mem_cons_of_mem _ (List.mem_cons_of_mem _ (List.mem_cons_of_mem _ (List.mem_cons_of_mem _ (List.mem_cons_of_mem _ (List.mem_cons_of_mem _ (List.mem_cons_of_mem _ (List.mem_cons_of_mem _ List.mem_cons_self))))))))))))))) (fun i hi => h 75 (12 + i) (inM_1 (lo := 12) (hi := 23) (by omega) (by omega) (List.mem_cons_of_mem _ (List.mem_cons_of_mem _ (List.mem_cons_of_mem _ (List.mem_cons_of_mem _ (List.mem_cons_of_mem _ (List.mem_cons_of_mem _ (List.mem_cons_of_mem _ (List.mem_cons_of_mem _ (List.mem_cons_of_mem _ (List.mem_cons_of_mem _ (List.mem_cons_of_mem _ (List.mem_cons_of_mem _ (List.mem_cons_of_mem _ (List.mem_cons_of_mem _ List.mem_cons_self)))))))))))))))) (fun i hi => h 76 (12 + i) (inM_1 (lo := 12) (hi := 23) (by omega) (by omega) (List.mem_cons_of_mem _ (List.mem_cons_of_mem _ (List.mem_cons_of_mem _ (List.mem_cons_of_mem _ (List.mem_cons_of_mem _ (List.mem_cons_of_mem _ (List.mem_cons_of_mem _ (List.mem_cons_of_mem _ (List.mem_cons_of_mem _ (List.mem_cons_of_mem _ (List.mem_cons_of_mem _ (List.mem_cons_of_mem _ (List.mem_cons_of_mem _ (List.mem_cons_of_mem _ (List.mem_cons_of_mem _ List.mem_cons_self))))))))))))))))) (fun i hi => h 77 (12 + i) (inM_1 (lo := 12) (hi := 23) (by omega) (by omega) (List.mem_cons_of_mem _ (List.mem_cons_of_mem _ (List.mem_cons_of_mem _ (List.mem_cons_of_mem _ (List.mem_cons_of_mem _ (List.mem_cons_of_mem _ (List.mem_cons_of_mem _ (List.mem_cons_of_mem _ (List.mem_cons_of_mem _ (List.mem_cons_of_mem _ (List.mem_cons_of_mem _ (List.mem_cons_of_mem _ (List.mem_cons_of_mem _ (List.mem_cons_of_mem _ (List.mem_cons_of_mem _ (List.mem_cons_of_mem _ List.mem_cons_self)))))))))))))))))) (fun i hi => h 78 (20 + i) (inM_1 (lo := 20) (hi := 39) (by omega) (by omega) (List.mem_cons_of_mem _ (List.mem_cons_of_mem _ (List.mem_cons_of_mem _ (List.mem_cons_of_mem _ (List.mem_cons_of_mem _ (List.mem_cons_of_mem _ (List.mem_cons_of_mem _ (List.mem_cons_of_mem _ (List.mem_cons_of_mem _ (List.mem_cons_of_mem _ (List.mem_cons_of_mem _ (List.mem_cons_of_mem _ (List.mem_cons_of_mem _ (List.mem_cons_of_mem _ (List.mem_cons_of_mem _ (List.mem_cons_of_mem _ (List.mem_cons_of_mem _ List.mem_cons_self))))))))))))))))))) (fun i hi => h 79 (20 + i) (inM_1 (lo := 20) (hi := 39) (by omega) (by omega) (List.mem_cons_of_mem _ (List.mem_cons_of_mem _ (List.mem_cons_of_mem _ (List.mem_cons_of_mem _ (List.mem_cons_of_mem _ (List.mem_cons_of_mem _ (List.mem_cons_of_mem _ (List.mem_cons_of_mem _ (List.mem_cons_of_mem _ (List.mem_cons_of_mem _ (List.mem_cons_of_mem _ (List.mem_cons_of_mem _ (List.mem_cons_of_mem _ (List.mem_cons_of_mem _ (List.mem_cons_of_mem _ (List.mem_cons_of_mem _ (List.mem_cons_of_mem _ (List.mem_cons_of_mem _ List.mem_cons_self)))))))))))))))))))) (fun i hi => h 80 (20 + i) (inM_1 (lo := 20) (hi := 39) (by omega) (by omega) (List.mem_cons_of_mem _ (List.mem_cons_of_mem _ (List.mem_cons_of_mem _ (List.mem_cons_of_mem _ (List.mem_cons_of_mem _ (List.mem_cons_of_mem _ (List.mem_cons_of_mem _ (List.mem_cons_of_mem _ (List.mem_cons_of_mem _ (List.mem_cons_of_mem _ (List.mem_cons_of_mem _ (List.mem_cons_of_mem _ (List.mem_cons_of_mem _ (List.mem_cons_of_mem _ (List.mem_cons_of_mem _ (List.mem_cons_of_mem _ (List.mem_cons_of_mem _ (List.mem_cons_of_mem _ (List.mem_cons_of_mem _ List.mem_cons_self))))))))))))))))))))) (fun i hi => h 81 (16 + i) (inM_1 (lo := 16) (hi := 31) (by omega) (by omega) (List.mem_cons_of_mem _ (List.mem_cons_of_mem _ (List.mem_cons_of_mem _ (List.mem_cons_of_mem _ (List.mem_cons_of_mem _ (List.mem_cons_of_mem _ (List.mem_cons_of_mem _ (List.mem_cons_of_mem _ (List.mem_cons_of_mem _ (List.mem_cons_of_mem _ (List.mem_cons_of_mem _ (List.mem_cons_of_mem _ (List.mem_cons_of_mem _ (List.mem_cons_of_mem _ (List.mem_cons_of_mem _ (List.mem_cons_of_mem _ (List.mem_cons_of_mem _ (List.mem_cons_of_mem _ (List.mem_cons_of_mem _ (List.mem_cons_of_mem _ List.mem_cons_self)))))))))))))))))))))) (fun i hi => h 82 (4 + i) (inM_1 (lo := 4) (hi := 7) (by omega) (by omega) (List.mem_cons_of_mem _ (List.mem_cons_of_mem _ (List.mem_cons_of_mem _ (List.mem_cons_of_mem _ (List.mem_cons_of_mem _ (List.mem_cons_of_mem _ (List.mem_cons_of_mem _ (List.mem_cons_of_mem _ (List.mem_cons_of_mem _ (List.mem_cons_of_mem _ (List.mem_cons_of_mem _ (List.mem_cons_of_mem _ (List.mem_cons_of_mem _ (List.mem_cons_of_mem _ (List.mem_cons_of_mem _ (List.mem_cons_of_mem _ (List.mem_cons_of_mem _ (List.mem_cons_of_mem _ (List.mem_cons_of_mem _ (List.mem_cons_of_mem _ (List.mem_cons_of_mem _ List.mem_cons_self))))))))))))))))))))))) (fun i hi => h 83 (4 + i) (inM_1 (lo := 4) (hi := 7) (by omega) (by omega) (List.mem_cons_of_mem _ (List.mem_cons_of_mem _ (List.mem_cons_of_mem _ (List.mem_cons_of_mem _ (List.mem_cons_of_mem _ (List.mem_cons_of_mem _ (List.mem_cons_of_mem _ (List.mem_cons_of_mem _ (List.mem_cons_of_mem _ (List.mem_cons_of_mem _ (List.mem_cons_of_mem _ (List.mem_cons_of_mem _ (List.mem_cons_of_mem _ (List.mem_cons_of_mem _ (List.mem_cons_of_mem _ (List.mem_cons_of_mem _ (List.mem_cons_of_mem _ (List.mem_cons_of_mem _ (List.mem_cons_of_mem _ (List.mem_cons_of_mem _ (List.mem_cons_of_mem _ (List.mem_cons_of_mem _ List.mem_cons_self)))))))))))))))))))))))) (fun i hi => h 86 (64 + i) (inM_1 (lo := 64) (hi := 127) (by omega) (by omega) (List.mem_cons_of_mem _ (List.mem_cons_of_mem _ (List.mem_cons_of_mem _ (List.mem_cons_of_mem _ (List.mem_cons_of_mem _ (List.mem_cons_of_mem _ (List.mem_cons_of_mem _ (List.mem_cons_of_mem _ (List.mem_cons_of_mem _ (List.mem_cons_of_mem _ (List.mem_cons_of_mem _ (List.mem_cons_of_mem _ (List.mem_cons_of_mem _ (List.mem_cons_of_mem _ (List.mem_cons_of_mem _ (List.mem_cons_of_mem _ (List.mem_cons_of_mem _ (List.mem_cons_of_mem _ (List.mem_cons_of_mem _ (List.mem_cons_of_mem _ (List.mem_cons_of_mem _ (List.mem_cons_of_mem _ (List.mem_cons_of_mem _ List.mem_cons_self))))))))))))))))))))))))) h5⟩
theorem hg_dep {p : Nat} {x y : Int} {M M' : pM} (h : ∀ c k, inD (hdp p) c k = true → M' c k = M c k) (hp : HG p x y M) : HG p x y M' := by
  unfold HG at hp ⊢
  by_cases hc : 100 ≤ p ∧ p < 126
  · rw [if_pos hc] at hp ⊢; exact hp
  · rw [if_neg hc] at hp ⊢
    by_cases h40 : p = 40
    · subst h40
      rw [if_pos rfl] at hp ⊢
      exact ⟨fun i hi => by rw [h 1005 i (inM_1 (lo := 0) (hi := 125) (by omega) (by omega) List.mem_cons_self)]; exact hp.1 i hi, fun i hi => by rw [h 1007 i (inM_1 (lo := 0) (hi := 9) (by omega) (by omega) (List.mem_cons_of_mem _ List.mem_cons_self))]; exact hp.2 i hi⟩
    rw [if_neg h40] at hp ⊢
    by_cases h41 : p = 41
    · subst h41
      rw [if_pos rfl] at hp ⊢
      obtain ⟨h1, h2, h3⟩ := hp
      exact ⟨h1, h2, fun i hi => by rw [h 62 i (inM_1 (lo := 0) (hi := 1919) (by omega) (by omega) (List.mem_cons_of_mem _ List.mem_cons_self)), h 1 i (inM_1 (lo := 0) (hi := 1999) (by omega) (by omega) List.mem_cons_self)]; exact h3 i hi⟩
    rw [if_neg h41] at hp ⊢
    by_cases h42 : p = 42
    · subst h42
      rw [if_pos rfl] at hp ⊢
      have hT : agT M M' := ag_of (fun c k hk => h c k (inM_l (b := [(61, 3, 3), (63, 0, 1999)]) hk))
      obtain ⟨h1, h2, h3, h4⟩ := hp
      have e1 : M' 2 1 = M 2 1 := h 2 1 rfl
      have e2 : M' 61 3 = M 61 3 := h 61 3 rfl
      have e3 := tN_le (M := M)
      refine ⟨by omega, by omega, by omega, fun i hi => ?_⟩
      rw [tN_ag hT] at hi
      rw [h 63 i (inM_1 (lo := 0) (hi := 1999) (by omega) (by omega) (List.mem_cons_of_mem _ (List.mem_cons_of_mem _ (List.mem_cons_of_mem _ List.mem_cons_self)))), h 1 i (inM_1 (lo := 0) (hi := 1999) (by omega) (by omega) List.mem_cons_self)]
      exact h4 i hi
    rw [if_neg h42] at hp ⊢
    by_cases h43 : p = 43
    · subst h43
      rw [if_pos rfl] at hp ⊢
      have hT : agT M M' := ag_of (fun c k hk => h c k (inM_l (b := []) hk))
      obtain ⟨P, a, q, h1, h2, h3, h4, h5⟩ := hp
      exact ⟨P, a, q, h1, h2, h3, h4, al_ag hT h5⟩
    rw [if_neg h43] at hp ⊢
    by_cases h44 : p = 44
    · subst h44
      rw [if_pos rfl] at hp ⊢
      have hT : agT M M' := ag_of (fun c k hk => h c k (inM_l (b := []) hk))
      obtain ⟨P, a, h1, h2, h3, h4⟩ := hp
      exact ⟨P, a, h1, h2, h3, by rw [ru_ag hT]; exact h4⟩
    rw [if_neg h44] at hp ⊢
    by_cases h45 : p = 45
    · subst h45
      rw [if_pos rfl] at hp ⊢
      have hT : agT M M' := ag_of (fun c k hk => h c k (inM_l (b := []) hk))
      exact ⟨hp.1, by rw [tS_ag hT]; exact hp.2⟩
    rw [if_neg h45] at hp ⊢
    by_cases h46 : p = 46
    · subst h46
      rw [if_pos rfl] at hp ⊢
      have hT : agT M M' := ag_of (fun c k hk => h c k (inM_l (b := []) hk))
      exact ⟨hp.1, by rw [tE_ag hT]; exact hp.2⟩
    rw [if_neg h46] at hp ⊢
    by_cases h47 : p = 47
    · subst h47
      rw [if_pos rfl] at hp ⊢
      have hT : agT M M' := ag_of (fun c k hk => h c k (inM_l (b := []) hk))
      exact ⟨hp.1, by rw [tK_ag hT]; exact hp.2⟩
    rw [if_neg h47] at hp ⊢
    by_cases h48 : p = 48
    · subst h48
      rw [if_pos rfl] at hp ⊢
      have hT : agT M M' := ag_of (fun c k hk => h c k (inM_l (b := [(2, 2, 5)]) hk))
      rw [tS_ag hT, tE_ag hT, tK_ag hT, h 2 4 rfl, h 2 2 rfl, h 2 3 rfl, h 2 5 rfl]
      exact hp
    rw [if_neg h48] at hp ⊢
    by_cases h49 : p = 49
    · subst h49
      rw [if_pos rfl] at hp ⊢
      have hT : agT M M' := ag_of (fun c k hk => h c k (inM_l (b := [(61, 6, 10)]) hk))
      rw [tS_ag hT, tE_ag hT, tK_ag hT, tm_ag hT, h 61 6 rfl, h 61 7 rfl, h 61 8 rfl, h 61 9 rfl, h 61 10 rfl]
      exact hp
    rw [if_neg h49] at hp ⊢
    by_cases h50 : p = 50
    · subst h50
      rw [if_pos rfl] at hp ⊢
      have hT : agT M M' := ag_of (fun c k hk => h c k (inM_l (b := []) hk))
      obtain ⟨s, e, h1, h2, h3, h4⟩ := hp
      exact ⟨s, e, h1, h2, h3, by rw [wid_ag hT (by omega) (by omega)]; exact h4⟩
    rw [if_neg h50] at hp ⊢
    by_cases h51 : p = 51
    · subst h51
      rw [if_pos rfl] at hp ⊢
      have hT : agT M M' := ag_of (fun c k hk => h c k (inM_l (b := []) hk))
      obtain ⟨s, e, h1, h2, h3, h4⟩ := hp
      exact ⟨s, e, h1, h2, h3, by rw [dv_ag hT (by omega)]; exact h4⟩
    rw [if_neg h51] at hp ⊢
    by_cases h53 : p = 53
    · subst h53
      rw [if_pos rfl] at hp ⊢
      have hT : agT M M' := ag_of (fun c k hk => h c k (inM_l (b := []) hk))
      rw [tm_ag hT]
      exact hp
    rw [if_neg h53] at hp ⊢
    by_cases h54 : p = 54
    · subst h54
      rw [if_pos rfl] at hp ⊢
      obtain ⟨e, hA⟩ := dC_0 (fun c k hk => h c k hk)
      rw [e]
      obtain ⟨a0, a1, a2, a⟩ := hp
      exact ⟨a0, a1, a2, hA _ _ _ _ a⟩
    rw [if_neg h54] at hp ⊢
    by_cases h55 : p = 55
    · subst h55
      rw [if_pos rfl] at hp ⊢
      obtain ⟨e, hA⟩ := dC_1 (fun c k hk => h c k hk)
      rw [e]
      obtain ⟨a0, a1, a2, a⟩ := hp
      exact ⟨a0, a1, a2, hA _ _ _ _ a⟩
    rw [if_neg h55] at hp ⊢
    by_cases h56 : p = 56
    · subst h56
      rw [if_pos rfl] at hp ⊢
      obtain ⟨e, hA⟩ := dC_0 (fun c k hk => h c k hk)
      rw [e]
      obtain ⟨a0, a1, a2, a3, a4, a⟩ := hp
      exact ⟨a0, a1, a2, a3, a4, hA _ _ _ _ a⟩
    rw [if_neg h56] at hp ⊢
    by_cases h57 : p = 57
    · subst h57
      rw [if_pos rfl] at hp ⊢
      obtain ⟨e, hA⟩ := dC_1 (fun c k hk => h c k hk)
      rw [e]
      obtain ⟨a0, a1, a2, a3, a4, a⟩ := hp
      exact ⟨a0, a1, a2, a3, a4, hA _ _ _ _ a⟩
    rw [if_neg h57] at hp ⊢
    by_cases h58 : p = 58
    · subst h58
      rw [if_pos rfl] at hp ⊢
      obtain ⟨e, hA⟩ := dC_0 (fun c k hk => h c k (inM_l (b := [(3, 7, 7), (3, 10, 10), (3, 13, 13)]) hk))
      rw [e]
      obtain ⟨⟨a0, a1, a2, a3, a4, a5, a⟩, hf⟩ := hp
      refine ⟨⟨a0, a1, a2, a3, a4, a5, hA _ _ _ _ a⟩, ?_⟩
      have e0 : M' (3 + 9 * 0) 7 = M (3 + 9 * 0) 7 := h 3 7 rfl
      have e1 : M' (3 + 9 * 0) 10 = M (3 + 9 * 0) 10 := h 3 10 rfl
      have e2 : M' (3 + 9 * 0) 13 = M (3 + 9 * 0) 13 := h 3 13 rfl
      unfold qFc at hf ⊢
      rw [e0, e1, e2]
      exact hf
    rw [if_neg h58] at hp ⊢
    by_cases h59 : p = 59
    · subst h59
      rw [if_pos rfl] at hp ⊢
      obtain ⟨e, hA⟩ := dC_1 (fun c k hk => h c k (inM_l (b := [(12, 7, 7), (12, 10, 10), (12, 13, 13)]) hk))
      rw [e]
      obtain ⟨⟨a0, a1, a2, a3, a4, a5, a⟩, hf⟩ := hp
      refine ⟨⟨a0, a1, a2, a3, a4, a5, hA _ _ _ _ a⟩, ?_⟩
      have e0 : M' (3 + 9 * 1) 7 = M (3 + 9 * 1) 7 := h 12 7 rfl
      have e1 : M' (3 + 9 * 1) 10 = M (3 + 9 * 1) 10 := h 12 10 rfl
      have e2 : M' (3 + 9 * 1) 13 = M (3 + 9 * 1) 13 := h 12 13 rfl
      unfold qFc at hf ⊢
      rw [e0, e1, e2]
      exact hf
    rw [if_neg h59] at hp ⊢
    by_cases h60 : p = 60
    · subst h60
      rw [if_pos rfl] at hp ⊢
      obtain ⟨e, hA⟩ := dR_0 (fun c k hk => h c k hk)
      rw [e]
      obtain ⟨a0, a1, a2, a⟩ := hp
      exact ⟨a0, a1, a2, hA _ _ _ _ _ _ a⟩
    rw [if_neg h60] at hp ⊢
    by_cases h61 : p = 61
    · subst h61
      rw [if_pos rfl] at hp ⊢
      obtain ⟨e, hA⟩ := dR_1 (fun c k hk => h c k hk)
      rw [e]
      obtain ⟨a0, a1, a2, a⟩ := hp
      exact ⟨a0, a1, a2, hA _ _ _ _ _ _ a⟩
    rw [if_neg h61] at hp ⊢
    by_cases h62 : p = 62
    · subst h62
      rw [if_pos rfl] at hp ⊢
      obtain ⟨e, hA⟩ := dR_0 (fun c k hk => h c k hk)
      rw [e]
      obtain ⟨a0, a1, a2, a3, a4, a⟩ := hp
      exact ⟨a0, a1, a2, a3, a4, hA _ _ _ _ _ _ a⟩
    rw [if_neg h62] at hp ⊢
    by_cases h63 : p = 63
    · subst h63
      rw [if_pos rfl] at hp ⊢
      obtain ⟨e, hA⟩ := dR_1 (fun c k hk => h c k hk)
      rw [e]
      obtain ⟨a0, a1, a2, a3, a4, a⟩ := hp
      exact ⟨a0, a1, a2, a3, a4, hA _ _ _ _ _ _ a⟩
    rw [if_neg h63] at hp ⊢
    by_cases h64 : p = 64
    · subst h64
      rw [if_pos rfl] at hp ⊢
      obtain ⟨e, hA⟩ := dR_0 (fun c k hk => h c k (inM_l (b := [(65, 0, 0), (67, 0, 0), (68, 0, 0)]) hk))
      rw [e]
      obtain ⟨⟨a0, a1, a2, a3, a4, a5, a⟩, hf⟩ := hp
      refine ⟨⟨a0, a1, a2, a3, a4, a5, hA _ _ _ _ _ _ a⟩, ?_⟩
      have e0 : M' 65 0 = M 65 0 := h 65 0 rfl
      have e1 : M' 67 0 = M 67 0 := h 67 0 rfl
      have e2 : M' 68 0 = M 68 0 := h 68 0 rfl
      unfold qFr at hf ⊢
      rw [e0, e1, e2]
      exact hf
    rw [if_neg h64] at hp ⊢
    by_cases h65 : p = 65
    · subst h65
      rw [if_pos rfl] at hp ⊢
      obtain ⟨e, hA⟩ := dR_1 (fun c k hk => h c k (inM_l (b := [(65, 1, 1), (67, 1, 1), (68, 1, 1)]) hk))
      rw [e]
      obtain ⟨⟨a0, a1, a2, a3, a4, a5, a⟩, hf⟩ := hp
      refine ⟨⟨a0, a1, a2, a3, a4, a5, hA _ _ _ _ _ _ a⟩, ?_⟩
      have e0 : M' 65 1 = M 65 1 := h 65 1 rfl
      have e1 : M' 67 1 = M 67 1 := h 67 1 rfl
      have e2 : M' 68 1 = M 68 1 := h 68 1 rfl
      unfold qFr at hf ⊢
      rw [e0, e1, e2]
      exact hf
    rw [if_neg h65] at hp ⊢
    by_cases h66 : p = 66
    · subst h66
      rw [if_pos rfl] at hp ⊢
      have hT : agT M M' := ag_of (fun c k hk => h c k (inM_l (b := []) hk))
      rw [tm_ag hT]
      exact hp
    rw [if_neg h66] at hp ⊢
    by_cases h69 : p = 69
    · subst h69
      rw [if_pos rfl] at hp ⊢
      exact fun i h1 h2 => by rw [h 1007 i (inM_1 (lo := 0) (hi := 9) (by omega) (by omega) List.mem_cons_self)]; exact hp i h1 h2
    rw [if_neg h69] at hp ⊢
    by_cases h70 : p = 70
    · subst h70
      rw [if_pos rfl] at hp ⊢
      exact hp
    rw [if_neg h70] at hp ⊢
    by_cases h71 : p = 71
    · subst h71
      rw [if_pos rfl] at hp ⊢
      have hT : agT M M' := ag_of (fun c k hk => h c k (inM_l (b := []) hk))
      rw [tm_ag hT]
      exact hp
    rw [if_neg h71] at hp ⊢
    by_cases h72 : p = 72
    · subst h72
      rw [if_pos rfl] at hp ⊢
      have hT : agT M M' := ag_of (fun c k hk => h c k (inM_l (b := []) hk))
      rw [tm_ag hT]
      exact hp
    rw [if_neg h72] at hp ⊢
    by_cases h73 : p = 73
    · subst h73
      rw [if_pos rfl] at hp ⊢
      have hT : agT M M' := ag_of (fun c k hk => h c k (inM_l (b := []) hk))
      rw [tm_ag hT]
      exact hp
    rw [if_neg h73] at hp ⊢
    by_cases h74 : p = 74
    · subst h74
      rw [if_pos rfl] at hp ⊢
      have hT : agT M M' := ag_of (fun c k hk => h c k (inM_l (b := []) hk))
      rw [tm_ag hT]
      exact hp
    rw [if_neg h74] at hp ⊢
    by_cases h79 : p = 79
    · subst h79
      rw [if_pos rfl] at hp ⊢
      have hT : agT M M' := ag_of (fun c k hk => h c k (inM_l (b := []) hk))
      rw [tm_ag hT]
      exact hp
    rw [if_neg h79] at hp ⊢
    by_cases h80 : p = 80
    · subst h80
      rw [if_pos rfl] at hp ⊢
      have hT : agT M M' := ag_of (fun c k hk => h c k (inM_l (b := []) hk))
      rw [tm_ag hT]
      exact hp
    rw [if_neg h80] at hp ⊢
    by_cases h81 : p = 81
    · subst h81
      rw [if_pos rfl] at hp ⊢
      obtain ⟨e, hA⟩ := dC_0 (fun c k hk => h c k hk)
      rw [e]
      obtain ⟨a0, a1, a2, a3, a4, a5, a6, a7, a⟩ := hp
      exact ⟨a0, a1, a2, a3, a4, a5, a6, a7, hA _ _ _ _ a⟩
    rw [if_neg h81] at hp ⊢
    by_cases h82 : p = 82
    · subst h82
      rw [if_pos rfl] at hp ⊢
      obtain ⟨e, hA⟩ := dC_1 (fun c k hk => h c k hk)
      rw [e]
      obtain ⟨a0, a1, a2, a3, a4, a5, a6, a7, a⟩ := hp
      exact ⟨a0, a1, a2, a3, a4, a5, a6, a7, hA _ _ _ _ a⟩
    rw [if_neg h82] at hp ⊢
    by_cases h83 : p = 83
    · subst h83
      rw [if_pos rfl] at hp ⊢
      obtain ⟨e, hA⟩ := dC_0 (fun c k hk => h c k hk)
      rw [e]
      obtain ⟨a0, a1, a2, a3, a4, a5, a6, a7, a⟩ := hp
      exact ⟨a0, a1, a2, a3, a4, a5, a6, a7, hA _ _ _ _ a⟩
    rw [if_neg h83] at hp ⊢
    by_cases h84 : p = 84
    · subst h84
      rw [if_pos rfl] at hp ⊢
      obtain ⟨e, hA⟩ := dC_1 (fun c k hk => h c k hk)
      rw [e]
      obtain ⟨a0, a1, a2, a3, a4, a5, a6, a7, a⟩ := hp
      exact ⟨a0, a1, a2, a3, a4, a5, a6, a7, hA _ _ _ _ a⟩
    rw [if_neg h84] at hp ⊢
    by_cases h85 : p = 85
    · subst h85
      rw [if_pos rfl] at hp ⊢
      have hT : agT M M' := ag_of (fun c k hk => h c k (inM_l (b := [(11, 0, 19)]) hk))
      rw [tm_ag hT]
      obtain ⟨s, k, W, a1, a2, a3, a4, a5⟩ := hp
      exact ⟨s, k, W, a1, a2, a3, a4, fun j hj => by rw [← a5 j hj]; exact h 11 (5 * (s.2 0 2).toNat + j) (inM_1 (lo := 0) (hi := 19) (by omega) (by have := qW_g a4; omega) (List.mem_cons_of_mem _ (List.mem_cons_of_mem _ List.mem_cons_self)))⟩
    rw [if_neg h85] at hp ⊢
    by_cases h86 : p = 86
    · subst h86
      rw [if_pos rfl] at hp ⊢
      have hT : agT M M' := ag_of (fun c k hk => h c k (inM_l (b := [(20, 0, 19)]) hk))
      rw [tm_ag hT]
      obtain ⟨s, k, W, a1, a2, a3, a4, a5⟩ := hp
      exact ⟨s, k, W, a1, a2, a3, a4, fun j hj => by rw [← a5 j hj]; exact h 20 (5 * (s.2 0 2).toNat + j) (inM_1 (lo := 0) (hi := 19) (by omega) (by have := qW_g a4; omega) (List.mem_cons_of_mem _ (List.mem_cons_of_mem _ List.mem_cons_self)))⟩
    rw [if_neg h86] at hp ⊢
    by_cases h87 : p = 87
    · subst h87
      rw [if_pos rfl] at hp ⊢
      have hT : agT M M' := ag_of (fun c k hk => h c k (inM_l (b := []) hk))
      rw [tm_ag hT]
      exact hp
    rw [if_neg h87] at hp ⊢
    by_cases h88 : p = 88
    · subst h88
      rw [if_pos rfl] at hp ⊢
      have hT : agT M M' := ag_of (fun c k hk => h c k (inM_l (b := []) hk))
      rw [tm_ag hT]
      exact hp
    rw [if_neg h88] at hp ⊢
    by_cases h89 : p = 89
    · subst h89
      rw [if_pos rfl] at hp ⊢
      have hT : agT M M' := ag_of (fun c k hk => h c k (inM_l (b := []) hk))
      rw [tm_ag hT]
      exact hp
    rw [if_neg h89] at hp ⊢
    by_cases h90 : p = 90
    · subst h90
      rw [if_pos rfl] at hp ⊢
      have hT : agT M M' := ag_of (fun c k hk => h c k (inM_l (b := []) hk))
      rw [tm_ag hT]
      exact hp
    rw [if_neg h90] at hp ⊢
    by_cases h91 : p = 91
    · subst h91
      rw [if_pos rfl] at hp ⊢
      have hT : agT M M' := ag_of (fun c k hk => h c k (inM_l (b := []) hk))
      rw [tm_ag hT]
      exact hp
    rw [if_neg h91] at hp ⊢
    by_cases h92 : p = 92
    · subst h92
      rw [if_pos rfl] at hp ⊢
      exact fun i h1 h2 => by rw [h 10 i (inM_1 (lo := 0) (hi := 3) (by omega) (by omega) List.mem_cons_self)]; exact hp i h1 h2
    rw [if_neg h92] at hp ⊢
    by_cases h93 : p = 93
    · subst h93
      rw [if_pos rfl] at hp ⊢
      exact fun i h1 h2 => by rw [h 19 i (inM_1 (lo := 0) (hi := 3) (by omega) (by omega) List.mem_cons_self)]; exact hp i h1 h2
    rw [if_neg h93] at hp ⊢
    by_cases h94 : p = 94
    · subst h94
      rw [if_pos rfl] at hp ⊢
      have hT : agT M M' := ag_of (fun c k hk => h c k (inM_l (b := []) hk))
      rw [tm_ag hT]
      exact hp
    rw [if_neg h94] at hp ⊢
    by_cases h95 : p = 95
    · subst h95
      rw [if_pos rfl] at hp ⊢
      have hT : agT M M' := ag_of (fun c k hk => h c k (inM_l (b := []) hk))
      rw [tm_ag hT]
      exact hp
    rw [if_neg h95] at hp ⊢
    by_cases h96 : p = 96
    · subst h96
      rw [if_pos rfl] at hp ⊢
      obtain ⟨q, g, h1, h2, h3, h4⟩ := hp
      exact ⟨q, g, h1, h2, h3, fun j hj => by rw [h 1 (q + j) (inM_1 (lo := 0) (hi := 1999) (by omega) (by omega) List.mem_cons_self)]; exact h4 j hj⟩
    rw [if_neg h96] at hp ⊢
    by_cases h97 : p = 97
    · subst h97
      rw [if_pos rfl] at hp ⊢
      obtain ⟨q, g, h1, h2, h3, h4⟩ := hp
      exact ⟨q, g, h1, h2, h3, qfd_ag (fun i hi => h 1 i (inM_1 (lo := 0) (hi := 1999) (by omega) (by omega) List.mem_cons_self)) (by omega) h4⟩
    rw [if_neg h97] at hp ⊢
    by_cases h130 : p = 130
    · subst h130
      rw [if_pos rfl] at hp ⊢
      obtain ⟨h1, h2⟩ := hp
      exact ⟨h1, fun i hi => by rw [h 4 i (inM_1 (lo := 0) (hi := 63) (by omega) (by omega) List.mem_cons_self)]; exact h2 i hi⟩
    rw [if_neg h130] at hp ⊢
    by_cases h131 : p = 131
    · subst h131
      rw [if_pos rfl] at hp ⊢
      obtain ⟨h1, h2⟩ := hp
      exact ⟨h1, fun i hi => by rw [h 5 i (inM_1 (lo := 0) (hi := 47) (by omega) (by omega) List.mem_cons_self)]; exact h2 i hi⟩
    rw [if_neg h131] at hp ⊢
    by_cases h132 : p = 132
    · subst h132
      rw [if_pos rfl] at hp ⊢
      obtain ⟨h1, h2⟩ := hp
      exact ⟨h1, fun i hi => by rw [h 6 i (inM_1 (lo := 0) (hi := 5) (by omega) (by omega) List.mem_cons_self)]; exact h2 i hi⟩
    rw [if_neg h132] at hp ⊢
    by_cases h133 : p = 133
    · subst h133
      rw [if_pos rfl] at hp ⊢
      obtain ⟨h1, h2⟩ := hp
      exact ⟨h1, fun i hi => by rw [h 7 i (inM_1 (lo := 0) (hi := 5) (by omega) (by omega) List.mem_cons_self)]; exact h2 i hi⟩
    rw [if_neg h133] at hp ⊢
    by_cases h134 : p = 134
    · subst h134
      rw [if_pos rfl] at hp ⊢
      obtain ⟨h1, h2⟩ := hp
      exact ⟨h1, fun i hi => by rw [h 13 i (inM_1 (lo := 0) (hi := 63) (by omega) (by omega) List.mem_cons_self)]; exact h2 i hi⟩
    rw [if_neg h134] at hp ⊢
    by_cases h135 : p = 135
    · subst h135
      rw [if_pos rfl] at hp ⊢
      obtain ⟨h1, h2⟩ := hp
      exact ⟨h1, fun i hi => by rw [h 14 i (inM_1 (lo := 0) (hi := 47) (by omega) (by omega) List.mem_cons_self)]; exact h2 i hi⟩
    rw [if_neg h135] at hp ⊢
    by_cases h136 : p = 136
    · subst h136
      rw [if_pos rfl] at hp ⊢
      obtain ⟨h1, h2⟩ := hp
      exact ⟨h1, fun i hi => by rw [h 15 i (inM_1 (lo := 0) (hi := 5) (by omega) (by omega) List.mem_cons_self)]; exact h2 i hi⟩
    rw [if_neg h136] at hp ⊢
    by_cases h137 : p = 137
    · subst h137
      rw [if_pos rfl] at hp ⊢
      obtain ⟨h1, h2⟩ := hp
      exact ⟨h1, fun i hi => by rw [h 16 i (inM_1 (lo := 0) (hi := 5) (by omega) (by omega) List.mem_cons_self)]; exact h2 i hi⟩
    rw [if_neg h137] at hp ⊢
    by_cases h140 : p = 140
    · subst h140
      rw [if_pos rfl] at hp ⊢
      exact hp
    rw [if_neg h140] at hp ⊢
    by_cases h142 : p = 142
    · subst h142
      rw [if_pos rfl] at hp ⊢
      exact hp
    rw [if_neg h142] at hp ⊢
    by_cases h143 : p = 143
    · subst h143
      rw [if_pos rfl] at hp ⊢
      have hT : agT M M' := ag_of (fun c k hk => h c k (inM_l (b := []) hk))
      rw [tm_ag hT]
      exact hp
    rw [if_neg h143] at hp ⊢
    by_cases h144 : p = 144
    · subst h144
      rw [if_pos rfl] at hp ⊢
      exact hp
    rw [if_neg h144] at hp ⊢
    by_cases h145 : p = 145
    · subst h145
      rw [if_pos rfl] at hp ⊢
      obtain ⟨e, hA⟩ := dR_0 (fun c k hk => h c k hk)
      rw [e]
      obtain ⟨a0, a1, a2, a3, a4, a5, a6, a7, a⟩ := hp
      exact ⟨a0, a1, a2, a3, a4, a5, a6, a7, hA _ _ _ _ _ _ a⟩
    rw [if_neg h145] at hp ⊢
    by_cases h146 : p = 146
    · subst h146
      rw [if_pos rfl] at hp ⊢
      obtain ⟨e, hA⟩ := dR_1 (fun c k hk => h c k hk)
      rw [e]
      obtain ⟨a0, a1, a2, a3, a4, a5, a6, a7, a⟩ := hp
      exact ⟨a0, a1, a2, a3, a4, a5, a6, a7, hA _ _ _ _ _ _ a⟩
    rw [if_neg h146] at hp ⊢
    by_cases h147 : p = 147
    · subst h147
      rw [if_pos rfl] at hp ⊢
      obtain ⟨e, hA⟩ := dR_0 (fun c k hk => h c k hk)
      rw [e]
      obtain ⟨a0, a1, a2, a3, a4, a5, a6, a7, a⟩ := hp
      exact ⟨a0, a1, a2, a3, a4, a5, a6, a7, hA _ _ _ _ _ _ a⟩
    rw [if_neg h147] at hp ⊢
    by_cases h148 : p = 148
    · subst h148
      rw [if_pos rfl] at hp ⊢
      obtain ⟨e, hA⟩ := dR_1 (fun c k hk => h c k hk)
      rw [e]
      obtain ⟨a0, a1, a2, a3, a4, a5, a6, a7, a⟩ := hp
      exact ⟨a0, a1, a2, a3, a4, a5, a6, a7, hA _ _ _ _ _ _ a⟩
    rw [if_neg h148] at hp ⊢
    by_cases h149 : p = 149
    · subst h149
      rw [if_pos rfl] at hp ⊢
      have hT : agT M M' := ag_of (fun c k hk => h c k (inM_l (b := [(81, 0, 15), (82, 0, 3)]) hk))
      rw [tm_ag hT]
      obtain ⟨s, k, W, a1, a2, a3, a4, a5, a6⟩ := hp
      exact ⟨s, k, W, a1, a2, a3, a4, fun j hj hj4 => by rw [← a5 j hj hj4]; exact h 81 (0 + (4 * (s.2 0 2).toNat + j)) (inM_1 (lo := 0) (hi := 15) (by omega) (by have := qW_g a4; omega) (List.mem_cons_of_mem _ (List.mem_cons_of_mem _ List.mem_cons_self))), fun hk => by rw [← a6 hk]; exact h 82 (0 + (s.2 0 2).toNat) (inM_1 (lo := 0) (hi := 3) (by omega) (by have := qW_g a4; omega) (List.mem_cons_of_mem _ (List.mem_cons_of_mem _ (List.mem_cons_of_mem _ List.mem_cons_self))))⟩
    rw [if_neg h149] at hp ⊢
    by_cases h150 : p = 150
    · subst h150
      rw [if_pos rfl] at hp ⊢
      have hT : agT M M' := ag_of (fun c k hk => h c k (inM_l (b := [(81, 16, 31), (82, 4, 7)]) hk))
      rw [tm_ag hT]
      obtain ⟨s, k, W, a1, a2, a3, a4, a5, a6⟩ := hp
      exact ⟨s, k, W, a1, a2, a3, a4, fun j hj hj4 => by rw [← a5 j hj hj4]; exact h 81 (16 + (4 * (s.2 0 2).toNat + j)) (inM_1 (lo := 16) (hi := 31) (by omega) (by have := qW_g a4; omega) (List.mem_cons_of_mem _ (List.mem_cons_of_mem _ List.mem_cons_self))), fun hk => by rw [← a6 hk]; exact h 82 (4 + (s.2 0 2).toNat) (inM_1 (lo := 4) (hi := 7) (by omega) (by have := qW_g a4; omega) (List.mem_cons_of_mem _ (List.mem_cons_of_mem _ (List.mem_cons_of_mem _ List.mem_cons_self))))⟩
    rw [if_neg h150] at hp ⊢
    by_cases h151 : p = 151
    · subst h151
      rw [if_pos rfl] at hp ⊢
      obtain ⟨e, hA⟩ := dR_0 (fun c k hk => h c k hk)
      rw [e]
      obtain ⟨a0, a1, a2, a⟩ := hp
      exact ⟨a0, a1, a2, hA _ _ _ _ _ _ a⟩
    rw [if_neg h151] at hp ⊢
    by_cases h152 : p = 152
    · subst h152
      rw [if_pos rfl] at hp ⊢
      obtain ⟨e, hA⟩ := dR_1 (fun c k hk => h c k hk)
      rw [e]
      obtain ⟨a0, a1, a2, a⟩ := hp
      exact ⟨a0, a1, a2, hA _ _ _ _ _ _ a⟩
    rw [if_neg h152] at hp ⊢
    by_cases h153 : p = 153
    · subst h153
      rw [if_pos rfl] at hp ⊢
      exact fun i h1 h2 => by rw [h 83 (0 + i) (inM_1 (lo := 0) (hi := 3) (by omega) (by omega) List.mem_cons_self)]; exact hp i h1 h2
    rw [if_neg h153] at hp ⊢
    by_cases h154 : p = 154
    · subst h154
      rw [if_pos rfl] at hp ⊢
      exact fun i h1 h2 => by rw [h 83 (4 + i) (inM_1 (lo := 4) (hi := 7) (by omega) (by omega) List.mem_cons_self)]; exact hp i h1 h2
    rw [if_neg h154] at hp ⊢
    by_cases h155 : p = 155
    · subst h155
      rw [if_pos rfl] at hp ⊢
      have hT : agT M M' := ag_of (fun c k hk => h c k (inM_l (b := [(83, 0, 3)]) hk))
      obtain ⟨h1, g, h2, h3, h4⟩ := hp
      rw [tm_ag hT]
      exact ⟨h1, g, h2, h3, by rw [h 83 (0 + g) (inM_1 (lo := 0) (hi := 3) (by omega) (by omega) (List.mem_cons_of_mem _ (List.mem_cons_of_mem _ List.mem_cons_self)))]; exact h4⟩
    rw [if_neg h155] at hp ⊢
    by_cases h156 : p = 156
    · subst h156
      rw [if_pos rfl] at hp ⊢
      have hT : agT M M' := ag_of (fun c k hk => h c k (inM_l (b := [(83, 4, 7)]) hk))
      obtain ⟨h1, g, h2, h3, h4⟩ := hp
      rw [tm_ag hT]
      exact ⟨h1, g, h2, h3, by rw [h 83 (4 + g) (inM_1 (lo := 4) (hi := 7) (by omega) (by omega) (List.mem_cons_of_mem _ (List.mem_cons_of_mem _ List.mem_cons_self)))]; exact h4⟩
    rw [if_neg h156] at hp ⊢
    by_cases h157 : p = 157
    · subst h157
      rw [if_pos rfl] at hp ⊢
      have hT : agT M M' := ag_of (fun c k hk => h c k (inM_l (b := []) hk))
      rw [tm_ag hT]
      exact hp
    rw [if_neg h157] at hp ⊢
    by_cases h158 : p = 158
    · subst h158
      rw [if_pos rfl] at hp ⊢
      obtain ⟨h1, h2, h3⟩ := hp
      exact ⟨h1, h2, fun i hi => by rw [h 63 i (inM_1 (lo := 0) (hi := 1999) (by omega) (by omega) (List.mem_cons_of_mem _ List.mem_cons_self)), h 62 i (inM_1 (lo := 0) (hi := 1919) (by omega) (by omega) List.mem_cons_self)]; exact h3 i hi⟩
    rw [if_neg h158] at hp ⊢
    by_cases h160 : p = 160
    · subst h160
      rw [if_pos rfl] at hp ⊢
      obtain ⟨h1, h2⟩ := hp
      exact ⟨h1, fun i hi => by rw [h 69 (0 + i) (inM_1 (lo := 0) (hi := 63) (by omega) (by omega) List.mem_cons_self)]; exact h2 i hi⟩
    rw [if_neg h160] at hp ⊢
    by_cases h161 : p = 161
    · subst h161
      rw [if_pos rfl] at hp ⊢
      obtain ⟨h1, h2⟩ := hp
      exact ⟨h1, fun i hi => by rw [h 70 (0 + i) (inM_1 (lo := 0) (hi := 47) (by omega) (by omega) List.mem_cons_self)]; exact h2 i hi⟩
    rw [if_neg h161] at hp ⊢
    by_cases h162 : p = 162
    · subst h162
      rw [if_pos rfl] at hp ⊢
      obtain ⟨h1, h2⟩ := hp
      exact ⟨h1, fun i hi => by rw [h 71 (0 + i) (inM_1 (lo := 0) (hi := 5) (by omega) (by omega) List.mem_cons_self)]; exact h2 i hi⟩
    rw [if_neg h162] at hp ⊢
    by_cases h163 : p = 163
    · subst h163
      rw [if_pos rfl] at hp ⊢
      obtain ⟨h1, h2⟩ := hp
      exact ⟨h1, fun i hi => by rw [h 72 (0 + i) (inM_1 (lo := 0) (hi := 5) (by omega) (by omega) List.mem_cons_self)]; exact h2 i hi⟩
    rw [if_neg h163] at hp ⊢
    by_cases h164 : p = 164
    · subst h164
      rw [if_pos rfl] at hp ⊢
      obtain ⟨h1, h2⟩ := hp
      exact ⟨h1, fun i hi => by rw [h 73 (0 + i) (inM_1 (lo := 0) (hi := 5) (by omega) (by omega) List.mem_cons_self)]; exact h2 i hi⟩
    rw [if_neg h164] at hp ⊢
    by_cases h165 : p = 165
    · subst h165
      rw [if_pos rfl] at hp ⊢
      obtain ⟨h1, h2⟩ := hp
      exact ⟨h1, fun i hi => by rw [h 86 (0 + i) (inM_1 (lo := 0) (hi := 63) (by omega) (by omega) List.mem_cons_self)]; exact h2 i hi⟩
    rw [if_neg h165] at hp ⊢
    by_cases h166 : p = 166
    · subst h166
      rw [if_pos rfl] at hp ⊢
      obtain ⟨h1, h2⟩ := hp
      exact ⟨h1, fun i hi => by rw [h 84 (0 + i) (inM_1 (lo := 0) (hi := 7) (by omega) (by omega) List.mem_cons_self)]; exact h2 i hi⟩
    rw [if_neg h166] at hp ⊢
    by_cases h167 : p = 167
    · subst h167
      rw [if_pos rfl] at hp ⊢
      obtain ⟨h1, h2⟩ := hp
      exact ⟨h1, fun i hi => by rw [h 85 (0 + i) (inM_1 (lo := 0) (hi := 7) (by omega) (by omega) List.mem_cons_self)]; exact h2 i hi⟩
    rw [if_neg h167] at hp ⊢
    by_cases h170 : p = 170
    · subst h170
      rw [if_pos rfl] at hp ⊢
      obtain ⟨h1, h2⟩ := hp
      exact ⟨h1, fun i hi => by rw [h 69 (64 + i) (inM_1 (lo := 64) (hi := 127) (by omega) (by omega) List.mem_cons_self)]; exact h2 i hi⟩
    rw [if_neg h170] at hp ⊢
    by_cases h171 : p = 171
    · subst h171
      rw [if_pos rfl] at hp ⊢
      obtain ⟨h1, h2⟩ := hp
      exact ⟨h1, fun i hi => by rw [h 70 (48 + i) (inM_1 (lo := 48) (hi := 95) (by omega) (by omega) List.mem_cons_self)]; exact h2 i hi⟩
    rw [if_neg h171] at hp ⊢
    by_cases h172 : p = 172
    · subst h172
      rw [if_pos rfl] at hp ⊢
      obtain ⟨h1, h2⟩ := hp
      exact ⟨h1, fun i hi => by rw [h 71 (6 + i) (inM_1 (lo := 6) (hi := 11) (by omega) (by omega) List.mem_cons_self)]; exact h2 i hi⟩
    rw [if_neg h172] at hp ⊢
    by_cases h173 : p = 173
    · subst h173
      rw [if_pos rfl] at hp ⊢
      obtain ⟨h1, h2⟩ := hp
      exact ⟨h1, fun i hi => by rw [h 72 (6 + i) (inM_1 (lo := 6) (hi := 11) (by omega) (by omega) List.mem_cons_self)]; exact h2 i hi⟩
    rw [if_neg h173] at hp ⊢
    by_cases h174 : p = 174
    · subst h174
      rw [if_pos rfl] at hp ⊢
      obtain ⟨h1, h2⟩ := hp
      exact ⟨h1, fun i hi => by rw [h 73 (6 + i) (inM_1 (lo := 6) (hi := 11) (by omega) (by omega) List.mem_cons_self)]; exact h2 i hi⟩
    rw [if_neg h174] at hp ⊢
    by_cases h175 : p = 175
    · subst h175
      rw [if_pos rfl] at hp ⊢
      obtain ⟨h1, h2⟩ := hp
      exact ⟨h1, fun i hi => by rw [h 86 (64 + i) (inM_1 (lo := 64) (hi := 127) (by omega) (by omega) List.mem_cons_self)]; exact h2 i hi⟩
    rw [if_neg h175] at hp ⊢
    by_cases h176 : p = 176
    · subst h176
      rw [if_pos rfl] at hp ⊢
      obtain ⟨h1, h2⟩ := hp
      exact ⟨h1, fun i hi => by rw [h 84 (0 + i) (inM_1 (lo := 0) (hi := 7) (by omega) (by omega) List.mem_cons_self)]; exact h2 i hi⟩
    rw [if_neg h176] at hp ⊢
    by_cases h177 : p = 177
    · subst h177
      rw [if_pos rfl] at hp ⊢
      obtain ⟨h1, h2⟩ := hp
      exact ⟨h1, fun i hi => by rw [h 85 (0 + i) (inM_1 (lo := 0) (hi := 7) (by omega) (by omega) List.mem_cons_self)]; exact h2 i hi⟩
    rw [if_neg h177] at hp ⊢
    by_cases h178 : p = 178
    · subst h178
      rw [if_pos rfl] at hp ⊢
      exact hp
    rw [if_neg h178] at hp ⊢
    by_cases h179 : p = 179
    · subst h179
      rw [if_pos rfl] at hp ⊢
      have hT : agT M M' := ag_of (fun c k hk => h c k (inM_l (b := []) hk))
      rw [tm_ag hT]
      exact hp
    rw [if_neg h179] at hp ⊢
    by_cases h180 : p = 180
    · subst h180
      rw [if_pos rfl] at hp ⊢
      have hT : agT M M' := ag_of (fun c k hk => h c k (inM_l (b := []) hk))
      rw [tm_ag hT]
      exact hp
    rw [if_neg h180] at hp ⊢
    by_cases h181 : p = 181
    · subst h181
      rw [if_pos rfl] at hp ⊢
      have hT : agT M M' := ag_of (fun c k hk => h c k (inM_l (b := []) hk))
      rw [tm_ag hT]
      exact hp
    rw [if_neg h181] at hp ⊢
    by_cases h182 : p = 182
    · subst h182
      rw [if_pos rfl] at hp ⊢
      have e : M' 61 34 = M 61 34 := h 61 34 rfl
      rw [e]
      rcases hp with ⟨h1, h2⟩ | ⟨h1, h2⟩
      · exact Or.inl ⟨h1, qEQ_0 (fun c k hk => h c k (inM_r (a := [(61, 34, 34)]) (inM_l (b := [(13, 0, 63), (14, 0, 47), (15, 0, 5), (16, 0, 5), (17, 0, 47), (18, 0, 59), (19, 0, 3), (20, 0, 19), (69, 64, 127), (70, 48, 95), (71, 6, 11), (72, 6, 11), (73, 6, 11), (74, 12, 23), (75, 12, 23), (76, 12, 23), (77, 12, 23), (78, 20, 39), (79, 20, 39), (80, 20, 39), (81, 16, 31), (82, 4, 7), (83, 4, 7), (86, 64, 127), (12, 7, 7), (12, 10, 10), (12, 13, 13), (65, 1, 1), (67, 1, 1), (68, 1, 1)]) hk))) h2⟩
      · exact Or.inr ⟨h1, qEQ_1 (fun c k hk => h c k (inM_r (a := [(61, 34, 34)]) (inM_r (a := [(4, 0, 63), (5, 0, 47), (6, 0, 5), (7, 0, 5), (8, 0, 47), (9, 0, 59), (10, 0, 3), (11, 0, 19), (69, 0, 63), (70, 0, 47), (71, 0, 5), (72, 0, 5), (73, 0, 5), (74, 0, 11), (75, 0, 11), (76, 0, 11), (77, 0, 11), (78, 0, 19), (79, 0, 19), (80, 0, 19), (81, 0, 15), (82, 0, 3), (83, 0, 3), (86, 0, 63), (3, 7, 7), (3, 10, 10), (3, 13, 13), (65, 0, 0), (67, 0, 0), (68, 0, 0)]) hk))) h2⟩
    rw [if_neg h182] at hp ⊢
    by_cases h183 : p = 183
    · subst h183
      rw [if_pos rfl] at hp ⊢
      exact qEQ_0 (fun c k hk => h c k hk) hp
    rw [if_neg h183] at hp ⊢
    by_cases h184 : p = 184
    · subst h184
      rw [if_pos rfl] at hp ⊢
      exact qEQ_1 (fun c k hk => h c k hk) hp
    rw [if_neg h184] at hp ⊢
    by_cases h185 : p = 185
    · subst h185
      rw [if_pos rfl] at hp ⊢
      obtain ⟨a, i, h1, h2, h3, h4, h5⟩ := hp
      exact ⟨a, i, h1, h2, h3, h4, fun k k1 k2 => by rw [h 7 (0 + k) (inM_1 (lo := 0) (hi := 5) (by omega) (by omega) List.mem_cons_self)]; exact h5 k k1 k2⟩
    rw [if_neg h185] at hp ⊢
    by_cases h186 : p = 186
    · subst h186
      rw [if_pos rfl] at hp ⊢
      obtain ⟨a, i, h1, h2, h3, h4, h5⟩ := hp
      exact ⟨a, i, h1, h2, h3, h4, fun k k1 k2 => by rw [h 16 (0 + k) (inM_1 (lo := 0) (hi := 5) (by omega) (by omega) List.mem_cons_self)]; exact h5 k k1 k2⟩
    rw [if_neg h186] at hp ⊢
    by_cases h187 : p = 187
    · subst h187
      rw [if_pos rfl] at hp ⊢
      obtain ⟨a, i, h1, h2, h3, h4, h5⟩ := hp
      exact ⟨a, i, h1, h2, h3, h4, fun k k1 k2 => by rw [h 73 (0 + k) (inM_1 (lo := 0) (hi := 5) (by omega) (by omega) List.mem_cons_self)]; exact h5 k k1 k2⟩
    rw [if_neg h187] at hp ⊢
    by_cases h188 : p = 188
    · subst h188
      rw [if_pos rfl] at hp ⊢
      obtain ⟨a, i, h1, h2, h3, h4, h5⟩ := hp
      exact ⟨a, i, h1, h2, h3, h4, fun k k1 k2 => by rw [h 73 (6 + k) (inM_1 (lo := 6) (hi := 11) (by omega) (by omega) List.mem_cons_self)]; exact h5 k k1 k2⟩
    rw [if_neg h188] at hp ⊢
    by_cases h189 : p = 189
    · subst h189
      rw [if_pos rfl] at hp ⊢
      obtain ⟨a, i, h1, h2, h3, h4, h5⟩ := hp
      exact ⟨a, i, h1, h2, h3, h4, fun k k1 k2 => by rw [h 6 (0 + k) (inM_1 (lo := 0) (hi := 5) (by omega) (by omega) List.mem_cons_self)]; exact h5 k k1 k2⟩
    rw [if_neg h189] at hp ⊢
    by_cases h190 : p = 190
    · subst h190
      rw [if_pos rfl] at hp ⊢
      obtain ⟨a, i, h1, h2, h3, h4, h5⟩ := hp
      exact ⟨a, i, h1, h2, h3, h4, fun k k1 k2 => by rw [h 15 (0 + k) (inM_1 (lo := 0) (hi := 5) (by omega) (by omega) List.mem_cons_self)]; exact h5 k k1 k2⟩
    rw [if_neg h190] at hp ⊢
    by_cases h191 : p = 191
    · subst h191
      rw [if_pos rfl] at hp ⊢
      obtain ⟨a, i, h1, h2, h3, h4, h5⟩ := hp
      exact ⟨a, i, h1, h2, h3, h4, fun k k1 k2 => by rw [h 71 (0 + k) (inM_1 (lo := 0) (hi := 5) (by omega) (by omega) List.mem_cons_self)]; exact h5 k k1 k2⟩
    rw [if_neg h191] at hp ⊢
    by_cases h192 : p = 192
    · subst h192
      rw [if_pos rfl] at hp ⊢
      obtain ⟨a, i, h1, h2, h3, h4, h5⟩ := hp
      exact ⟨a, i, h1, h2, h3, h4, fun k k1 k2 => by rw [h 71 (6 + k) (inM_1 (lo := 6) (hi := 11) (by omega) (by omega) List.mem_cons_self)]; exact h5 k k1 k2⟩
    rw [if_neg h192] at hp ⊢
    by_cases h193 : p = 193
    · subst h193
      rw [if_pos rfl] at hp ⊢
      exact CLq_c (fun i hi => h 8 i (inM_1 (lo := 0) (hi := 47) (by omega) (by omega) List.mem_cons_self)) hp
    rw [if_neg h193] at hp ⊢
    by_cases h194 : p = 194
    · subst h194
      rw [if_pos rfl] at hp ⊢
      exact CLq_c (fun i hi => h 17 i (inM_1 (lo := 0) (hi := 47) (by omega) (by omega) List.mem_cons_self)) hp
    rw [if_neg h194] at hp ⊢
    by_cases h195 : p = 195
    · subst h195
      rw [if_pos rfl] at hp ⊢
      exact NSq_c (fun i hi => h 74 (0 + i) (inM_1 (lo := 0) (hi := 11) (by omega) (by omega) List.mem_cons_self)) (fun i hi => h 75 (0 + i) (inM_1 (lo := 0) (hi := 11) (by omega) (by omega) (List.mem_cons_of_mem _ List.mem_cons_self))) (fun i hi => h 76 (0 + i) (inM_1 (lo := 0) (hi := 11) (by omega) (by omega) (List.mem_cons_of_mem _ (List.mem_cons_of_mem _ List.mem_cons_self)))) (fun i hi => h 77 (0 + i) (inM_1 (lo := 0) (hi := 11) (by omega) (by omega) (List.mem_cons_of_mem _ (List.mem_cons_of_mem _ (List.mem_cons_of_mem _ List.mem_cons_self))))) hp
    rw [if_neg h195] at hp ⊢
    by_cases h196 : p = 196
    · subst h196
      rw [if_pos rfl] at hp ⊢
      exact NSq_c (fun i hi => h 74 (12 + i) (inM_1 (lo := 12) (hi := 23) (by omega) (by omega) List.mem_cons_self)) (fun i hi => h 75 (12 + i) (inM_1 (lo := 12) (hi := 23) (by omega) (by omega) (List.mem_cons_of_mem _ List.mem_cons_self))) (fun i hi => h 76 (12 + i) (inM_1 (lo := 12) (hi := 23) (by omega) (by omega) (List.mem_cons_of_mem _ (List.mem_cons_of_mem _ List.mem_cons_self)))) (fun i hi => h 77 (12 + i) (inM_1 (lo := 12) (hi := 23) (by omega) (by omega) (List.mem_cons_of_mem _ (List.mem_cons_of_mem _ (List.mem_cons_of_mem _ List.mem_cons_self))))) hp
    rw [if_neg h196] at hp ⊢
    by_cases h197 : p = 197
    · subst h197
      rw [if_pos rfl] at hp ⊢
      obtain ⟨P, F, h1, h2, h3, h4⟩ := hp
      exact ⟨P, F, h1, h2, h3, qtr_c (fun c j hc hj => h c j (trD_1 hc (by omega))) (fun c j hc hj => h c j (trD_2 hc (by omega))) h4⟩
    rw [if_neg h197] at hp ⊢
    by_cases h198 : p = 198
    · subst h198
      rw [if_pos rfl] at hp ⊢
      obtain ⟨P, F, i, h1, h2, h0, h3, h5, h4⟩ := hp
      exact ⟨P, F, i, h1, h2, h0, h3, h5, qtx_c h0 (fun c j hc hj => h c j (trD_1 hc (by omega))) (fun c j hc hj => h c j (trD_2 hc (by omega))) h4⟩
    rw [if_neg h198] at hp ⊢
    by_cases h285 : p = 285
    · subst h285
      rw [if_pos rfl] at hp ⊢
      obtain ⟨h1, h2, h3⟩ := hp
      exact ⟨h1, h2, fun i hi => by rw [h 114 i (inM_1 (lo := 0) (hi := 4095) (by omega) (by omega) List.mem_cons_self)]; exact h3 i hi⟩
    rw [if_neg h285] at hp ⊢
    by_cases h286 : p = 286
    · subst h286
      rw [if_pos rfl] at hp ⊢
      have e1_0 := dRa_c (b := 0) (M := M) (M' := M') (fun r hr => h 78 (20 * 0 + r) (inM_1 (lo := 0) (hi := 19) (by omega) (by omega) (List.mem_cons_of_mem _ (List.mem_cons_of_mem _ List.mem_cons_self))))
      have e2_0 := dRb_c (b := 0) (M := M) (M' := M') (fun r hr => h 79 (20 * 0 + r) (inM_1 (lo := 0) (hi := 19) (by omega) (by omega) (List.mem_cons_of_mem _ (List.mem_cons_of_mem _ (List.mem_cons_of_mem _ List.mem_cons_self)))))
      have e3_0 := dRm_c (b := 0) (M := M) (M' := M') (fun r hr => h 80 (20 * 0 + r) (inM_1 (lo := 0) (hi := 19) (by omega) (by omega) (List.mem_cons_of_mem _ (List.mem_cons_of_mem _ (List.mem_cons_of_mem _ (List.mem_cons_of_mem _ List.mem_cons_self))))))
      have e4_0 := dRn_c (b := 0) (M := M) (M' := M') (h 67 0 rfl)
      have e5 := dfar_c (M := M) (M' := M') (fun i hi => h 114 i (inM_1 (lo := 0) (hi := 4095) (by omega) (by omega) List.mem_cons_self))
      unfold DRp at hp ⊢
      rw [e1_0, e2_0, e3_0, e4_0, e5]
      exact hp
    rw [if_neg h286] at hp ⊢
    by_cases h287 : p = 287
    · subst h287
      rw [if_pos rfl] at hp ⊢
      have e1_1 := dRa_c (b := 1) (M := M) (M' := M') (fun r hr => h 78 (20 * 1 + r) (inM_1 (lo := 20) (hi := 39) (by omega) (by omega) (List.mem_cons_of_mem _ (List.mem_cons_of_mem _ List.mem_cons_self))))
      have e2_1 := dRb_c (b := 1) (M := M) (M' := M') (fun r hr => h 79 (20 * 1 + r) (inM_1 (lo := 20) (hi := 39) (by omega) (by omega) (List.mem_cons_of_mem _ (List.mem_cons_of_mem _ (List.mem_cons_of_mem _ List.mem_cons_self)))))
      have e3_1 := dRm_c (b := 1) (M := M) (M' := M') (fun r hr => h 80 (20 * 1 + r) (inM_1 (lo := 20) (hi := 39) (by omega) (by omega) (List.mem_cons_of_mem _ (List.mem_cons_of_mem _ (List.mem_cons_of_mem _ (List.mem_cons_of_mem _ List.mem_cons_self))))))
      have e4_1 := dRn_c (b := 1) (M := M) (M' := M') (h 67 1 rfl)
      have e5 := dfar_c (M := M) (M' := M') (fun i hi => h 114 i (inM_1 (lo := 0) (hi := 4095) (by omega) (by omega) List.mem_cons_self))
      unfold DRp at hp ⊢
      rw [e1_1, e2_1, e3_1, e4_1, e5]
      exact hp
    rw [if_neg h287] at hp ⊢
    by_cases h288 : p = 288
    · subst h288
      rw [if_pos rfl] at hp ⊢
      have e1_0 := dRa_c (b := 0) (M := M) (M' := M') (fun r hr => h 78 (20 * 0 + r) (inM_1 (lo := 0) (hi := 19) (by omega) (by omega) (List.mem_cons_of_mem _ (List.mem_cons_of_mem _ List.mem_cons_self))))
      have e2_0 := dRb_c (b := 0) (M := M) (M' := M') (fun r hr => h 79 (20 * 0 + r) (inM_1 (lo := 0) (hi := 19) (by omega) (by omega) (List.mem_cons_of_mem _ (List.mem_cons_of_mem _ (List.mem_cons_of_mem _ List.mem_cons_self)))))
      have e3_0 := dRm_c (b := 0) (M := M) (M' := M') (fun r hr => h 80 (20 * 0 + r) (inM_1 (lo := 0) (hi := 19) (by omega) (by omega) (List.mem_cons_of_mem _ (List.mem_cons_of_mem _ (List.mem_cons_of_mem _ (List.mem_cons_of_mem _ List.mem_cons_self))))))
      have e4_0 := dRn_c (b := 0) (M := M) (M' := M') (h 67 0 rfl)
      have e5 := dfar_c (M := M) (M' := M') (fun i hi => h 114 i (inM_1 (lo := 0) (hi := 4095) (by omega) (by omega) List.mem_cons_self))
      unfold DSp at hp ⊢
      rw [e1_0, e2_0, e3_0, e4_0, e5]
      exact hp
    rw [if_neg h288] at hp ⊢
    by_cases h289 : p = 289
    · subst h289
      rw [if_pos rfl] at hp ⊢
      have e1_1 := dRa_c (b := 1) (M := M) (M' := M') (fun r hr => h 78 (20 * 1 + r) (inM_1 (lo := 20) (hi := 39) (by omega) (by omega) (List.mem_cons_of_mem _ (List.mem_cons_of_mem _ List.mem_cons_self))))
      have e2_1 := dRb_c (b := 1) (M := M) (M' := M') (fun r hr => h 79 (20 * 1 + r) (inM_1 (lo := 20) (hi := 39) (by omega) (by omega) (List.mem_cons_of_mem _ (List.mem_cons_of_mem _ (List.mem_cons_of_mem _ List.mem_cons_self)))))
      have e3_1 := dRm_c (b := 1) (M := M) (M' := M') (fun r hr => h 80 (20 * 1 + r) (inM_1 (lo := 20) (hi := 39) (by omega) (by omega) (List.mem_cons_of_mem _ (List.mem_cons_of_mem _ (List.mem_cons_of_mem _ (List.mem_cons_of_mem _ List.mem_cons_self))))))
      have e4_1 := dRn_c (b := 1) (M := M) (M' := M') (h 67 1 rfl)
      have e5 := dfar_c (M := M) (M' := M') (fun i hi => h 114 i (inM_1 (lo := 0) (hi := 4095) (by omega) (by omega) List.mem_cons_self))
      unfold DSp at hp ⊢
      rw [e1_1, e2_1, e3_1, e4_1, e5]
      exact hp
    rw [if_neg h289] at hp ⊢
    by_cases h290 : p = 290
    · subst h290
      rw [if_pos rfl] at hp ⊢
      have e1_0 := dRa_c (b := 0) (M := M) (M' := M') (fun r hr => h 78 (20 * 0 + r) (inM_1 (lo := 0) (hi := 19) (by omega) (by omega) (List.mem_cons_of_mem _ (List.mem_cons_of_mem _ List.mem_cons_self))))
      have e2_0 := dRb_c (b := 0) (M := M) (M' := M') (fun r hr => h 79 (20 * 0 + r) (inM_1 (lo := 0) (hi := 19) (by omega) (by omega) (List.mem_cons_of_mem _ (List.mem_cons_of_mem _ (List.mem_cons_of_mem _ List.mem_cons_self)))))
      have e3_0 := dRm_c (b := 0) (M := M) (M' := M') (fun r hr => h 80 (20 * 0 + r) (inM_1 (lo := 0) (hi := 19) (by omega) (by omega) (List.mem_cons_of_mem _ (List.mem_cons_of_mem _ (List.mem_cons_of_mem _ (List.mem_cons_of_mem _ List.mem_cons_self))))))
      have e4_0 := dRn_c (b := 0) (M := M) (M' := M') (h 67 0 rfl)
      have e5 := dfar_c (M := M) (M' := M') (fun i hi => h 114 i (inM_1 (lo := 0) (hi := 4095) (by omega) (by omega) List.mem_cons_self))
      unfold DWp at hp ⊢
      rw [e1_0, e2_0, e3_0, e4_0, e5]
      exact hp
    rw [if_neg h290] at hp ⊢
    by_cases h291 : p = 291
    · subst h291
      rw [if_pos rfl] at hp ⊢
      have e1_1 := dRa_c (b := 1) (M := M) (M' := M') (fun r hr => h 78 (20 * 1 + r) (inM_1 (lo := 20) (hi := 39) (by omega) (by omega) (List.mem_cons_of_mem _ (List.mem_cons_of_mem _ List.mem_cons_self))))
      have e2_1 := dRb_c (b := 1) (M := M) (M' := M') (fun r hr => h 79 (20 * 1 + r) (inM_1 (lo := 20) (hi := 39) (by omega) (by omega) (List.mem_cons_of_mem _ (List.mem_cons_of_mem _ (List.mem_cons_of_mem _ List.mem_cons_self)))))
      have e3_1 := dRm_c (b := 1) (M := M) (M' := M') (fun r hr => h 80 (20 * 1 + r) (inM_1 (lo := 20) (hi := 39) (by omega) (by omega) (List.mem_cons_of_mem _ (List.mem_cons_of_mem _ (List.mem_cons_of_mem _ (List.mem_cons_of_mem _ List.mem_cons_self))))))
      have e4_1 := dRn_c (b := 1) (M := M) (M' := M') (h 67 1 rfl)
      have e5 := dfar_c (M := M) (M' := M') (fun i hi => h 114 i (inM_1 (lo := 0) (hi := 4095) (by omega) (by omega) List.mem_cons_self))
      unfold DWp at hp ⊢
      rw [e1_1, e2_1, e3_1, e4_1, e5]
      exact hp
    rw [if_neg h291] at hp ⊢
    by_cases h292 : p = 292
    · subst h292
      rw [if_pos rfl] at hp ⊢
      have e1_0 := dRa_c (b := 0) (M := M) (M' := M') (fun r hr => h 78 (20 * 0 + r) (inM_1 (lo := 0) (hi := 19) (by omega) (by omega) (List.mem_cons_of_mem _ (List.mem_cons_of_mem _ List.mem_cons_self))))
      have e2_0 := dRb_c (b := 0) (M := M) (M' := M') (fun r hr => h 79 (20 * 0 + r) (inM_1 (lo := 0) (hi := 19) (by omega) (by omega) (List.mem_cons_of_mem _ (List.mem_cons_of_mem _ (List.mem_cons_of_mem _ List.mem_cons_self)))))
      have e3_0 := dRm_c (b := 0) (M := M) (M' := M') (fun r hr => h 80 (20 * 0 + r) (inM_1 (lo := 0) (hi := 19) (by omega) (by omega) (List.mem_cons_of_mem _ (List.mem_cons_of_mem _ (List.mem_cons_of_mem _ (List.mem_cons_of_mem _ List.mem_cons_self))))))
      have e4_0 := dRn_c (b := 0) (M := M) (M' := M') (h 67 0 rfl)
      have e5 := dfar_c (M := M) (M' := M') (fun i hi => h 114 i (inM_1 (lo := 0) (hi := 4095) (by omega) (by omega) List.mem_cons_self))
      unfold DFp at hp ⊢
      rw [e1_0, e2_0, e3_0, e4_0, e5]
      exact hp
    rw [if_neg h292] at hp ⊢
    by_cases h293 : p = 293
    · subst h293
      rw [if_pos rfl] at hp ⊢
      have e1_1 := dRa_c (b := 1) (M := M) (M' := M') (fun r hr => h 78 (20 * 1 + r) (inM_1 (lo := 20) (hi := 39) (by omega) (by omega) (List.mem_cons_of_mem _ (List.mem_cons_of_mem _ List.mem_cons_self))))
      have e2_1 := dRb_c (b := 1) (M := M) (M' := M') (fun r hr => h 79 (20 * 1 + r) (inM_1 (lo := 20) (hi := 39) (by omega) (by omega) (List.mem_cons_of_mem _ (List.mem_cons_of_mem _ (List.mem_cons_of_mem _ List.mem_cons_self)))))
      have e3_1 := dRm_c (b := 1) (M := M) (M' := M') (fun r hr => h 80 (20 * 1 + r) (inM_1 (lo := 20) (hi := 39) (by omega) (by omega) (List.mem_cons_of_mem _ (List.mem_cons_of_mem _ (List.mem_cons_of_mem _ (List.mem_cons_of_mem _ List.mem_cons_self))))))
      have e4_1 := dRn_c (b := 1) (M := M) (M' := M') (h 67 1 rfl)
      have e5 := dfar_c (M := M) (M' := M') (fun i hi => h 114 i (inM_1 (lo := 0) (hi := 4095) (by omega) (by omega) List.mem_cons_self))
      unfold DFp at hp ⊢
      rw [e1_1, e2_1, e3_1, e4_1, e5]
      exact hp
    rw [if_neg h293] at hp ⊢
    by_cases h294 : p = 294
    · subst h294
      rw [if_pos rfl] at hp ⊢
      have e : M' 61 34 = M 61 34 := h 61 34 rfl
      have e1_0 := dRa_c (b := 0) (M := M) (M' := M') (fun r hr => h 78 (20 * 0 + r) (inM_1 (lo := 0) (hi := 19) (by omega) (by omega) (List.mem_cons_of_mem _ (List.mem_cons_of_mem _ (List.mem_cons_of_mem _ List.mem_cons_self)))))
      have e2_0 := dRb_c (b := 0) (M := M) (M' := M') (fun r hr => h 79 (20 * 0 + r) (inM_1 (lo := 0) (hi := 19) (by omega) (by omega) (List.mem_cons_of_mem _ (List.mem_cons_of_mem _ (List.mem_cons_of_mem _ (List.mem_cons_of_mem _ List.mem_cons_self))))))
      have e3_0 := dRm_c (b := 0) (M := M) (M' := M') (fun r hr => h 80 (20 * 0 + r) (inM_1 (lo := 0) (hi := 19) (by omega) (by omega) (List.mem_cons_of_mem _ (List.mem_cons_of_mem _ (List.mem_cons_of_mem _ (List.mem_cons_of_mem _ (List.mem_cons_of_mem _ List.mem_cons_self)))))))
      have e4_0 := dRn_c (b := 0) (M := M) (M' := M') (h 67 0 rfl)
      have e1_1 := dRa_c (b := 1) (M := M) (M' := M') (fun r hr => h 78 (20 * 1 + r) (inM_1 (lo := 20) (hi := 39) (by omega) (by omega) (List.mem_cons_of_mem _ (List.mem_cons_of_mem _ (List.mem_cons_of_mem _ (List.mem_cons_of_mem _ (List.mem_cons_of_mem _ (List.mem_cons_of_mem _ (List.mem_cons_of_mem _ List.mem_cons_self)))))))))
      have e2_1 := dRb_c (b := 1) (M := M) (M' := M') (fun r hr => h 79 (20 * 1 + r) (inM_1 (lo := 20) (hi := 39) (by omega) (by omega) (List.mem_cons_of_mem _ (List.mem_cons_of_mem _ (List.mem_cons_of_mem _ (List.mem_cons_of_mem _ (List.mem_cons_of_mem _ (List.mem_cons_of_mem _ (List.mem_cons_of_mem _ (List.mem_cons_of_mem _ List.mem_cons_self))))))))))
      have e3_1 := dRm_c (b := 1) (M := M) (M' := M') (fun r hr => h 80 (20 * 1 + r) (inM_1 (lo := 20) (hi := 39) (by omega) (by omega) (List.mem_cons_of_mem _ (List.mem_cons_of_mem _ (List.mem_cons_of_mem _ (List.mem_cons_of_mem _ (List.mem_cons_of_mem _ (List.mem_cons_of_mem _ (List.mem_cons_of_mem _ (List.mem_cons_of_mem _ (List.mem_cons_of_mem _ List.mem_cons_self)))))))))))
      have e4_1 := dRn_c (b := 1) (M := M) (M' := M') (h 67 1 rfl)
      have e5 := dfar_c (M := M) (M' := M') (fun i hi => h 114 i (inM_1 (lo := 0) (hi := 4095) (by omega) (by omega) (List.mem_cons_of_mem _ List.mem_cons_self)))
      have a0 : DFp 0 M' = DFp 0 M := by
        unfold DFp
        rw [e1_0, e2_0, e3_0, e4_0, e5]
      have a1 : DFp 1 M' = DFp 1 M := by
        unfold DFp
        rw [e1_1, e2_1, e3_1, e4_1, e5]
      rw [e, a0, a1]
      exact hp
    rw [if_neg h294] at hp ⊢
    by_cases h295 : p = 295
    · subst h295
      rw [if_pos rfl] at hp ⊢
      obtain ⟨h1, h2⟩ := hp
      exact ⟨h1, fun i hi => by rw [h 57 i (inM_1 (lo := 0) (hi := 63) (by omega) (by omega) List.mem_cons_self)]; exact h2 i hi⟩
    rw [if_neg h295] at hp ⊢
    by_cases h296 : p = 296
    · subst h296
      rw [if_pos rfl] at hp ⊢
      have e1_0 := dRa_c (b := 0) (M := M) (M' := M') (fun r hr => h 78 (20 * 0 + r) (inM_1 (lo := 0) (hi := 19) (by omega) (by omega) (List.mem_cons_of_mem _ (List.mem_cons_of_mem _ (List.mem_cons_of_mem _ List.mem_cons_self)))))
      have e2_0 := dRb_c (b := 0) (M := M) (M' := M') (fun r hr => h 79 (20 * 0 + r) (inM_1 (lo := 0) (hi := 19) (by omega) (by omega) (List.mem_cons_of_mem _ (List.mem_cons_of_mem _ (List.mem_cons_of_mem _ (List.mem_cons_of_mem _ List.mem_cons_self))))))
      have e3_0 := dRm_c (b := 0) (M := M) (M' := M') (fun r hr => h 80 (20 * 0 + r) (inM_1 (lo := 0) (hi := 19) (by omega) (by omega) (List.mem_cons_of_mem _ (List.mem_cons_of_mem _ (List.mem_cons_of_mem _ (List.mem_cons_of_mem _ (List.mem_cons_of_mem _ List.mem_cons_self)))))))
      have e4_0 := dRn_c (b := 0) (M := M) (M' := M') (h 67 0 rfl)
      have e6 := dDd_c (M := M) (M' := M') (fun i hi => h 57 i (inM_1 (lo := 0) (hi := 63) (by omega) (by omega) (List.mem_cons_of_mem _ List.mem_cons_self)))
      obtain ⟨f, t, h1, h2, h3, h4⟩ := hp
      refine ⟨f, t, h1, h2, h3, ?_⟩
      rw [e1_0, e2_0, e3_0, e4_0, dDf_c h1 (fun i hi => h 114 i (inM_1 (lo := 0) (hi := 4095) (by omega) (by omega) List.mem_cons_self)), e6]
      exact h4
    rw [if_neg h296] at hp ⊢
    by_cases h297 : p = 297
    · subst h297
      rw [if_pos rfl] at hp ⊢
      have e1_1 := dRa_c (b := 1) (M := M) (M' := M') (fun r hr => h 78 (20 * 1 + r) (inM_1 (lo := 20) (hi := 39) (by omega) (by omega) (List.mem_cons_of_mem _ (List.mem_cons_of_mem _ (List.mem_cons_of_mem _ List.mem_cons_self)))))
      have e2_1 := dRb_c (b := 1) (M := M) (M' := M') (fun r hr => h 79 (20 * 1 + r) (inM_1 (lo := 20) (hi := 39) (by omega) (by omega) (List.mem_cons_of_mem _ (List.mem_cons_of_mem _ (List.mem_cons_of_mem _ (List.mem_cons_of_mem _ List.mem_cons_self))))))
      have e3_1 := dRm_c (b := 1) (M := M) (M' := M') (fun r hr => h 80 (20 * 1 + r) (inM_1 (lo := 20) (hi := 39) (by omega) (by omega) (List.mem_cons_of_mem _ (List.mem_cons_of_mem _ (List.mem_cons_of_mem _ (List.mem_cons_of_mem _ (List.mem_cons_of_mem _ List.mem_cons_self)))))))
      have e4_1 := dRn_c (b := 1) (M := M) (M' := M') (h 67 1 rfl)
      have e6 := dDd_c (M := M) (M' := M') (fun i hi => h 57 i (inM_1 (lo := 0) (hi := 63) (by omega) (by omega) (List.mem_cons_of_mem _ List.mem_cons_self)))
      obtain ⟨f, t, h1, h2, h3, h4⟩ := hp
      refine ⟨f, t, h1, h2, h3, ?_⟩
      rw [e1_1, e2_1, e3_1, e4_1, dDf_c h1 (fun i hi => h 114 i (inM_1 (lo := 0) (hi := 4095) (by omega) (by omega) List.mem_cons_self)), e6]
      exact h4
    rw [if_neg h297] at hp ⊢
    by_cases h298 : p = 298
    · subst h298
      rw [if_pos rfl] at hp ⊢
      have e1_0 := dRa_c (b := 0) (M := M) (M' := M') (fun r hr => h 78 (20 * 0 + r) (inM_1 (lo := 0) (hi := 19) (by omega) (by omega) (List.mem_cons_of_mem _ (List.mem_cons_of_mem _ (List.mem_cons_of_mem _ List.mem_cons_self)))))
      have e2_0 := dRb_c (b := 0) (M := M) (M' := M') (fun r hr => h 79 (20 * 0 + r) (inM_1 (lo := 0) (hi := 19) (by omega) (by omega) (List.mem_cons_of_mem _ (List.mem_cons_of_mem _ (List.mem_cons_of_mem _ (List.mem_cons_of_mem _ List.mem_cons_self))))))
      have e3_0 := dRm_c (b := 0) (M := M) (M' := M') (fun r hr => h 80 (20 * 0 + r) (inM_1 (lo := 0) (hi := 19) (by omega) (by omega) (List.mem_cons_of_mem _ (List.mem_cons_of_mem _ (List.mem_cons_of_mem _ (List.mem_cons_of_mem _ (List.mem_cons_of_mem _ List.mem_cons_self)))))))
      have e4_0 := dRn_c (b := 0) (M := M) (M' := M') (h 67 0 rfl)
      have e6 := dDd_c (M := M) (M' := M') (fun i hi => h 57 i (inM_1 (lo := 0) (hi := 63) (by omega) (by omega) (List.mem_cons_of_mem _ List.mem_cons_self)))
      obtain ⟨f, q, t, h1, h2, h3, h4, h5⟩ := hp
      refine ⟨f, q, t, h1, h2, h3, h4, ?_⟩
      rw [e1_0, e2_0, e3_0, e4_0, dDf_c h1 (fun i hi => h 114 i (inM_1 (lo := 0) (hi := 4095) (by omega) (by omega) List.mem_cons_self)), e6]
      exact h5
    rw [if_neg h298] at hp ⊢
    by_cases h299 : p = 299
    · subst h299
      rw [if_pos rfl] at hp ⊢
      have e1_1 := dRa_c (b := 1) (M := M) (M' := M') (fun r hr => h 78 (20 * 1 + r) (inM_1 (lo := 20) (hi := 39) (by omega) (by omega) (List.mem_cons_of_mem _ (List.mem_cons_of_mem _ (List.mem_cons_of_mem _ List.mem_cons_self)))))
      have e2_1 := dRb_c (b := 1) (M := M) (M' := M') (fun r hr => h 79 (20 * 1 + r) (inM_1 (lo := 20) (hi := 39) (by omega) (by omega) (List.mem_cons_of_mem _ (List.mem_cons_of_mem _ (List.mem_cons_of_mem _ (List.mem_cons_of_mem _ List.mem_cons_self))))))
      have e3_1 := dRm_c (b := 1) (M := M) (M' := M') (fun r hr => h 80 (20 * 1 + r) (inM_1 (lo := 20) (hi := 39) (by omega) (by omega) (List.mem_cons_of_mem _ (List.mem_cons_of_mem _ (List.mem_cons_of_mem _ (List.mem_cons_of_mem _ (List.mem_cons_of_mem _ List.mem_cons_self)))))))
      have e4_1 := dRn_c (b := 1) (M := M) (M' := M') (h 67 1 rfl)
      have e6 := dDd_c (M := M) (M' := M') (fun i hi => h 57 i (inM_1 (lo := 0) (hi := 63) (by omega) (by omega) (List.mem_cons_of_mem _ List.mem_cons_self)))
      obtain ⟨f, q, t, h1, h2, h3, h4, h5⟩ := hp
      refine ⟨f, q, t, h1, h2, h3, h4, ?_⟩
      rw [e1_1, e2_1, e3_1, e4_1, dDf_c h1 (fun i hi => h 114 i (inM_1 (lo := 0) (hi := 4095) (by omega) (by omega) List.mem_cons_self)), e6]
      exact h5
    rw [if_neg h299] at hp ⊢
    by_cases h300 : p = 300
    · subst h300
      rw [if_pos rfl] at hp ⊢
      have e1_0 := dRa_c (b := 0) (M := M) (M' := M') (fun r hr => h 78 (20 * 0 + r) (inM_1 (lo := 0) (hi := 19) (by omega) (by omega) (List.mem_cons_of_mem _ (List.mem_cons_of_mem _ (List.mem_cons_of_mem _ List.mem_cons_self)))))
      have e2_0 := dRb_c (b := 0) (M := M) (M' := M') (fun r hr => h 79 (20 * 0 + r) (inM_1 (lo := 0) (hi := 19) (by omega) (by omega) (List.mem_cons_of_mem _ (List.mem_cons_of_mem _ (List.mem_cons_of_mem _ (List.mem_cons_of_mem _ List.mem_cons_self))))))
      have e3_0 := dRm_c (b := 0) (M := M) (M' := M') (fun r hr => h 80 (20 * 0 + r) (inM_1 (lo := 0) (hi := 19) (by omega) (by omega) (List.mem_cons_of_mem _ (List.mem_cons_of_mem _ (List.mem_cons_of_mem _ (List.mem_cons_of_mem _ (List.mem_cons_of_mem _ List.mem_cons_self)))))))
      have e4_0 := dRn_c (b := 0) (M := M) (M' := M') (h 67 0 rfl)
      have e6 := dDd_c (M := M) (M' := M') (fun i hi => h 57 i (inM_1 (lo := 0) (hi := 63) (by omega) (by omega) (List.mem_cons_of_mem _ List.mem_cons_self)))
      obtain ⟨f, q, t, h1, h2, h3, h4, h5⟩ := hp
      refine ⟨f, q, t, h1, h2, h3, h4, ?_⟩
      rw [e1_0, e2_0, e3_0, e4_0, dDf_c h1 (fun i hi => h 114 i (inM_1 (lo := 0) (hi := 4095) (by omega) (by omega) List.mem_cons_self)), e6]
      exact h5
    rw [if_neg h300] at hp ⊢
    by_cases h301 : p = 301
    · subst h301
      rw [if_pos rfl] at hp ⊢
      have e1_1 := dRa_c (b := 1) (M := M) (M' := M') (fun r hr => h 78 (20 * 1 + r) (inM_1 (lo := 20) (hi := 39) (by omega) (by omega) (List.mem_cons_of_mem _ (List.mem_cons_of_mem _ (List.mem_cons_of_mem _ List.mem_cons_self)))))
      have e2_1 := dRb_c (b := 1) (M := M) (M' := M') (fun r hr => h 79 (20 * 1 + r) (inM_1 (lo := 20) (hi := 39) (by omega) (by omega) (List.mem_cons_of_mem _ (List.mem_cons_of_mem _ (List.mem_cons_of_mem _ (List.mem_cons_of_mem _ List.mem_cons_self))))))
      have e3_1 := dRm_c (b := 1) (M := M) (M' := M') (fun r hr => h 80 (20 * 1 + r) (inM_1 (lo := 20) (hi := 39) (by omega) (by omega) (List.mem_cons_of_mem _ (List.mem_cons_of_mem _ (List.mem_cons_of_mem _ (List.mem_cons_of_mem _ (List.mem_cons_of_mem _ List.mem_cons_self)))))))
      have e4_1 := dRn_c (b := 1) (M := M) (M' := M') (h 67 1 rfl)
      have e6 := dDd_c (M := M) (M' := M') (fun i hi => h 57 i (inM_1 (lo := 0) (hi := 63) (by omega) (by omega) (List.mem_cons_of_mem _ List.mem_cons_self)))
      obtain ⟨f, q, t, h1, h2, h3, h4, h5⟩ := hp
      refine ⟨f, q, t, h1, h2, h3, h4, ?_⟩
      rw [e1_1, e2_1, e3_1, e4_1, dDf_c h1 (fun i hi => h 114 i (inM_1 (lo := 0) (hi := 4095) (by omega) (by omega) List.mem_cons_self)), e6]
      exact h5
    rw [if_neg h301] at hp ⊢
    by_cases h302 : p = 302
    · subst h302
      rw [if_pos rfl] at hp ⊢
      have e6 := dDd_c (M := M) (M' := M') (fun i hi => h 57 i (inM_1 (lo := 0) (hi := 63) (by omega) (by omega) (List.mem_cons_of_mem _ List.mem_cons_self)))
      obtain ⟨f, h1, h2, h3⟩ := hp
      refine ⟨f, h1, h2, ?_⟩
      rw [dDf_c h1 (fun i hi => h 114 i (inM_1 (lo := 0) (hi := 4095) (by omega) (by omega) List.mem_cons_self)), e6]
      exact h3
    rw [if_neg h302] at hp ⊢
    by_cases h310 : p = 310
    · subst h310
      rw [if_pos rfl] at hp ⊢
      have eC := hmC_c (M := M) (M' := M') (fun i hi => h 56 i (inM_1 (lo := 0) (hi := 8) (by omega) (by omega) (List.mem_cons_of_mem _ (List.mem_cons_of_mem _ (List.mem_cons_of_mem _ List.mem_cons_self))))) (fun i hi => h 57 i (inM_1 (lo := 0) (hi := 63) (by omega) (by omega) (List.mem_cons_of_mem _ (List.mem_cons_of_mem _ (List.mem_cons_of_mem _ (List.mem_cons_of_mem _ List.mem_cons_self))))))
      have e59 : hrow 59 0 M' = hrow 59 0 M := hrow_c (fun i hi => absurd hi (Nat.not_lt_zero i))
      have e60 : hrow 60 9 M' = hrow 60 9 M := hrow_c (fun i hi => h 60 i (inM_1 (lo := 0) (hi := 8) (by omega) (by omega) List.mem_cons_self))
      have eN := hnC_c (M := M) (M' := M') (h 55 1 rfl)
      have eB : M' 55 6 = M 55 6 := h 55 6 rfl
      unfold HJp at hp ⊢
      rw [eC, e59, e60, eN, eB]
      exact hp
    rw [if_neg h310] at hp ⊢
    by_cases h311 : p = 311
    · subst h311
      rw [if_pos rfl] at hp ⊢
      have eC := hmC_c (M := M) (M' := M') (fun i hi => h 56 i (inM_1 (lo := 0) (hi := 8) (by omega) (by omega) (List.mem_cons_of_mem _ (List.mem_cons_of_mem _ (List.mem_cons_of_mem _ (List.mem_cons_of_mem _ List.mem_cons_self)))))) (fun i hi => h 57 i (inM_1 (lo := 0) (hi := 63) (by omega) (by omega) (List.mem_cons_of_mem _ (List.mem_cons_of_mem _ (List.mem_cons_of_mem _ (List.mem_cons_of_mem _ (List.mem_cons_of_mem _ List.mem_cons_self)))))))
      have e59 : hrow 59 1 M' = hrow 59 1 M := hrow_c (fun i hi => h 59 i (inM_1 (lo := 0) (hi := 0) (by omega) (by omega) List.mem_cons_self))
      have e60 : hrow 60 9 M' = hrow 60 9 M := hrow_c (fun i hi => h 60 i (inM_1 (lo := 0) (hi := 8) (by omega) (by omega) (List.mem_cons_of_mem _ List.mem_cons_self)))
      have eN := hnC_c (M := M) (M' := M') (h 55 1 rfl)
      have eB : M' 55 6 = M 55 6 := h 55 6 rfl
      unfold HJp at hp ⊢
      rw [eC, e59, e60, eN, eB]
      exact hp
    rw [if_neg h311] at hp ⊢
    by_cases h312 : p = 312
    · subst h312
      rw [if_pos rfl] at hp ⊢
      have eC := hmC_c (M := M) (M' := M') (fun i hi => h 56 i (inM_1 (lo := 0) (hi := 8) (by omega) (by omega) (List.mem_cons_of_mem _ (List.mem_cons_of_mem _ (List.mem_cons_of_mem _ (List.mem_cons_of_mem _ List.mem_cons_self)))))) (fun i hi => h 57 i (inM_1 (lo := 0) (hi := 63) (by omega) (by omega) (List.mem_cons_of_mem _ (List.mem_cons_of_mem _ (List.mem_cons_of_mem _ (List.mem_cons_of_mem _ (List.mem_cons_of_mem _ List.mem_cons_self)))))))
      have e59 : hrow 59 2 M' = hrow 59 2 M := hrow_c (fun i hi => h 59 i (inM_1 (lo := 0) (hi := 1) (by omega) (by omega) List.mem_cons_self))
      have e60 : hrow 60 9 M' = hrow 60 9 M := hrow_c (fun i hi => h 60 i (inM_1 (lo := 0) (hi := 8) (by omega) (by omega) (List.mem_cons_of_mem _ List.mem_cons_self)))
      have eN := hnC_c (M := M) (M' := M') (h 55 1 rfl)
      have eB : M' 55 6 = M 55 6 := h 55 6 rfl
      unfold HJp at hp ⊢
      rw [eC, e59, e60, eN, eB]
      exact hp
    rw [if_neg h312] at hp ⊢
    by_cases h313 : p = 313
    · subst h313
      rw [if_pos rfl] at hp ⊢
      have eC := hmC_c (M := M) (M' := M') (fun i hi => h 56 i (inM_1 (lo := 0) (hi := 8) (by omega) (by omega) (List.mem_cons_of_mem _ (List.mem_cons_of_mem _ (List.mem_cons_of_mem _ (List.mem_cons_of_mem _ List.mem_cons_self)))))) (fun i hi => h 57 i (inM_1 (lo := 0) (hi := 63) (by omega) (by omega) (List.mem_cons_of_mem _ (List.mem_cons_of_mem _ (List.mem_cons_of_mem _ (List.mem_cons_of_mem _ (List.mem_cons_of_mem _ List.mem_cons_self)))))))
      have e59 : hrow 59 3 M' = hrow 59 3 M := hrow_c (fun i hi => h 59 i (inM_1 (lo := 0) (hi := 2) (by omega) (by omega) List.mem_cons_self))
      have e60 : hrow 60 9 M' = hrow 60 9 M := hrow_c (fun i hi => h 60 i (inM_1 (lo := 0) (hi := 8) (by omega) (by omega) (List.mem_cons_of_mem _ List.mem_cons_self)))
      have eN := hnC_c (M := M) (M' := M') (h 55 1 rfl)
      have eB : M' 55 6 = M 55 6 := h 55 6 rfl
      unfold HJp at hp ⊢
      rw [eC, e59, e60, eN, eB]
      exact hp
    rw [if_neg h313] at hp ⊢
    by_cases h314 : p = 314
    · subst h314
      rw [if_pos rfl] at hp ⊢
      have eC := hmC_c (M := M) (M' := M') (fun i hi => h 56 i (inM_1 (lo := 0) (hi := 8) (by omega) (by omega) (List.mem_cons_of_mem _ (List.mem_cons_of_mem _ (List.mem_cons_of_mem _ (List.mem_cons_of_mem _ List.mem_cons_self)))))) (fun i hi => h 57 i (inM_1 (lo := 0) (hi := 63) (by omega) (by omega) (List.mem_cons_of_mem _ (List.mem_cons_of_mem _ (List.mem_cons_of_mem _ (List.mem_cons_of_mem _ (List.mem_cons_of_mem _ List.mem_cons_self)))))))
      have e59 : hrow 59 4 M' = hrow 59 4 M := hrow_c (fun i hi => h 59 i (inM_1 (lo := 0) (hi := 3) (by omega) (by omega) List.mem_cons_self))
      have e60 : hrow 60 9 M' = hrow 60 9 M := hrow_c (fun i hi => h 60 i (inM_1 (lo := 0) (hi := 8) (by omega) (by omega) (List.mem_cons_of_mem _ List.mem_cons_self)))
      have eN := hnC_c (M := M) (M' := M') (h 55 1 rfl)
      have eB : M' 55 6 = M 55 6 := h 55 6 rfl
      unfold HJp at hp ⊢
      rw [eC, e59, e60, eN, eB]
      exact hp
    rw [if_neg h314] at hp ⊢
    by_cases h315 : p = 315
    · subst h315
      rw [if_pos rfl] at hp ⊢
      have eC := hmC_c (M := M) (M' := M') (fun i hi => h 56 i (inM_1 (lo := 0) (hi := 8) (by omega) (by omega) (List.mem_cons_of_mem _ (List.mem_cons_of_mem _ (List.mem_cons_of_mem _ (List.mem_cons_of_mem _ List.mem_cons_self)))))) (fun i hi => h 57 i (inM_1 (lo := 0) (hi := 63) (by omega) (by omega) (List.mem_cons_of_mem _ (List.mem_cons_of_mem _ (List.mem_cons_of_mem _ (List.mem_cons_of_mem _ (List.mem_cons_of_mem _ List.mem_cons_self)))))))
      have e59 : hrow 59 5 M' = hrow 59 5 M := hrow_c (fun i hi => h 59 i (inM_1 (lo := 0) (hi := 4) (by omega) (by omega) List.mem_cons_self))
      have e60 : hrow 60 9 M' = hrow 60 9 M := hrow_c (fun i hi => h 60 i (inM_1 (lo := 0) (hi := 8) (by omega) (by omega) (List.mem_cons_of_mem _ List.mem_cons_self)))
      have eN := hnC_c (M := M) (M' := M') (h 55 1 rfl)
      have eB : M' 55 6 = M 55 6 := h 55 6 rfl
      unfold HJp at hp ⊢
      rw [eC, e59, e60, eN, eB]
      exact hp
    rw [if_neg h315] at hp ⊢
    by_cases h316 : p = 316
    · subst h316
      rw [if_pos rfl] at hp ⊢
      have eC := hmC_c (M := M) (M' := M') (fun i hi => h 56 i (inM_1 (lo := 0) (hi := 8) (by omega) (by omega) (List.mem_cons_of_mem _ (List.mem_cons_of_mem _ (List.mem_cons_of_mem _ (List.mem_cons_of_mem _ List.mem_cons_self)))))) (fun i hi => h 57 i (inM_1 (lo := 0) (hi := 63) (by omega) (by omega) (List.mem_cons_of_mem _ (List.mem_cons_of_mem _ (List.mem_cons_of_mem _ (List.mem_cons_of_mem _ (List.mem_cons_of_mem _ List.mem_cons_self)))))))
      have e59 : hrow 59 6 M' = hrow 59 6 M := hrow_c (fun i hi => h 59 i (inM_1 (lo := 0) (hi := 5) (by omega) (by omega) List.mem_cons_self))
      have e60 : hrow 60 9 M' = hrow 60 9 M := hrow_c (fun i hi => h 60 i (inM_1 (lo := 0) (hi := 8) (by omega) (by omega) (List.mem_cons_of_mem _ List.mem_cons_self)))
      have eN := hnC_c (M := M) (M' := M') (h 55 1 rfl)
      have eB : M' 55 6 = M 55 6 := h 55 6 rfl
      unfold HJp at hp ⊢
      rw [eC, e59, e60, eN, eB]
      exact hp
    rw [if_neg h316] at hp ⊢
    by_cases h317 : p = 317
    · subst h317
      rw [if_pos rfl] at hp ⊢
      have eC := hmC_c (M := M) (M' := M') (fun i hi => h 56 i (inM_1 (lo := 0) (hi := 8) (by omega) (by omega) (List.mem_cons_of_mem _ (List.mem_cons_of_mem _ (List.mem_cons_of_mem _ (List.mem_cons_of_mem _ List.mem_cons_self)))))) (fun i hi => h 57 i (inM_1 (lo := 0) (hi := 63) (by omega) (by omega) (List.mem_cons_of_mem _ (List.mem_cons_of_mem _ (List.mem_cons_of_mem _ (List.mem_cons_of_mem _ (List.mem_cons_of_mem _ List.mem_cons_self)))))))
      have e59 : hrow 59 7 M' = hrow 59 7 M := hrow_c (fun i hi => h 59 i (inM_1 (lo := 0) (hi := 6) (by omega) (by omega) List.mem_cons_self))
      have e60 : hrow 60 9 M' = hrow 60 9 M := hrow_c (fun i hi => h 60 i (inM_1 (lo := 0) (hi := 8) (by omega) (by omega) (List.mem_cons_of_mem _ List.mem_cons_self)))
      have eN := hnC_c (M := M) (M' := M') (h 55 1 rfl)
      have eB : M' 55 6 = M 55 6 := h 55 6 rfl
      unfold HJp at hp ⊢
      rw [eC, e59, e60, eN, eB]
      exact hp
    rw [if_neg h317] at hp ⊢
    by_cases h318 : p = 318
    · subst h318
      rw [if_pos rfl] at hp ⊢
      have eC := hmC_c (M := M) (M' := M') (fun i hi => h 56 i (inM_1 (lo := 0) (hi := 8) (by omega) (by omega) (List.mem_cons_of_mem _ (List.mem_cons_of_mem _ (List.mem_cons_of_mem _ (List.mem_cons_of_mem _ List.mem_cons_self)))))) (fun i hi => h 57 i (inM_1 (lo := 0) (hi := 63) (by omega) (by omega) (List.mem_cons_of_mem _ (List.mem_cons_of_mem _ (List.mem_cons_of_mem _ (List.mem_cons_of_mem _ (List.mem_cons_of_mem _ List.mem_cons_self)))))))
      have e59 : hrow 59 8 M' = hrow 59 8 M := hrow_c (fun i hi => h 59 i (inM_1 (lo := 0) (hi := 7) (by omega) (by omega) List.mem_cons_self))
      have e60 : hrow 60 9 M' = hrow 60 9 M := hrow_c (fun i hi => h 60 i (inM_1 (lo := 0) (hi := 8) (by omega) (by omega) (List.mem_cons_of_mem _ List.mem_cons_self)))
      have eN := hnC_c (M := M) (M' := M') (h 55 1 rfl)
      have eB : M' 55 6 = M 55 6 := h 55 6 rfl
      unfold HJp at hp ⊢
      rw [eC, e59, e60, eN, eB]
      exact hp
    rw [if_neg h318] at hp ⊢
    by_cases h319 : p = 319
    · subst h319
      rw [if_pos rfl] at hp ⊢
      have eC := hmC_c (M := M) (M' := M') (fun i hi => h 56 i (inM_1 (lo := 0) (hi := 8) (by omega) (by omega) (List.mem_cons_of_mem _ (List.mem_cons_of_mem _ (List.mem_cons_of_mem _ (List.mem_cons_of_mem _ List.mem_cons_self)))))) (fun i hi => h 57 i (inM_1 (lo := 0) (hi := 63) (by omega) (by omega) (List.mem_cons_of_mem _ (List.mem_cons_of_mem _ (List.mem_cons_of_mem _ (List.mem_cons_of_mem _ (List.mem_cons_of_mem _ List.mem_cons_self)))))))
      have e59 : hrow 59 9 M' = hrow 59 9 M := hrow_c (fun i hi => h 59 i (inM_1 (lo := 0) (hi := 8) (by omega) (by omega) List.mem_cons_self))
      have e60 : hrow 60 9 M' = hrow 60 9 M := hrow_c (fun i hi => h 60 i (inM_1 (lo := 0) (hi := 8) (by omega) (by omega) (List.mem_cons_of_mem _ List.mem_cons_self)))
      have eN := hnC_c (M := M) (M' := M') (h 55 1 rfl)
      have eB : M' 55 6 = M 55 6 := h 55 6 rfl
      unfold HJp at hp ⊢
      rw [eC, e59, e60, eN, eB]
      exact hp
    rw [if_neg h319] at hp ⊢
    by_cases h320 : p = 320
    · subst h320
      rw [if_pos rfl] at hp ⊢
      have eC := hmC_c (M := M) (M' := M') (fun i hi => h 56 i (inM_1 (lo := 0) (hi := 8) (by omega) (by omega) List.mem_cons_self)) (fun i hi => h 57 i (inM_1 (lo := 0) (hi := 63) (by omega) (by omega) (List.mem_cons_of_mem _ List.mem_cons_self)))
      have e59 : hrow 59 0 M' = hrow 59 0 M := hrow_c (fun i hi => absurd hi (Nat.not_lt_zero i))
      unfold MXp at hp ⊢
      rw [eC, e59]
      exact hp
    rw [if_neg h320] at hp ⊢
    by_cases h321 : p = 321
    · subst h321
      rw [if_pos rfl] at hp ⊢
      have eC := hmC_c (M := M) (M' := M') (fun i hi => h 56 i (inM_1 (lo := 0) (hi := 8) (by omega) (by omega) (List.mem_cons_of_mem _ List.mem_cons_self))) (fun i hi => h 57 i (inM_1 (lo := 0) (hi := 63) (by omega) (by omega) (List.mem_cons_of_mem _ (List.mem_cons_of_mem _ List.mem_cons_self))))
      have e59 : hrow 59 1 M' = hrow 59 1 M := hrow_c (fun i hi => h 59 i (inM_1 (lo := 0) (hi := 0) (by omega) (by omega) List.mem_cons_self))
      unfold MXp at hp ⊢
      rw [eC, e59]
      exact hp
    rw [if_neg h321] at hp ⊢
    by_cases h322 : p = 322
    · subst h322
      rw [if_pos rfl] at hp ⊢
      have eC := hmC_c (M := M) (M' := M') (fun i hi => h 56 i (inM_1 (lo := 0) (hi := 8) (by omega) (by omega) (List.mem_cons_of_mem _ List.mem_cons_self))) (fun i hi => h 57 i (inM_1 (lo := 0) (hi := 63) (by omega) (by omega) (List.mem_cons_of_mem _ (List.mem_cons_of_mem _ List.mem_cons_self))))
      have e59 : hrow 59 2 M' = hrow 59 2 M := hrow_c (fun i hi => h 59 i (inM_1 (lo := 0) (hi := 1) (by omega) (by omega) List.mem_cons_self))
      unfold MXp at hp ⊢
      rw [eC, e59]
      exact hp
    rw [if_neg h322] at hp ⊢
    by_cases h323 : p = 323
    · subst h323
      rw [if_pos rfl] at hp ⊢
      have eC := hmC_c (M := M) (M' := M') (fun i hi => h 56 i (inM_1 (lo := 0) (hi := 8) (by omega) (by omega) (List.mem_cons_of_mem _ List.mem_cons_self))) (fun i hi => h 57 i (inM_1 (lo := 0) (hi := 63) (by omega) (by omega) (List.mem_cons_of_mem _ (List.mem_cons_of_mem _ List.mem_cons_self))))
      have e59 : hrow 59 3 M' = hrow 59 3 M := hrow_c (fun i hi => h 59 i (inM_1 (lo := 0) (hi := 2) (by omega) (by omega) List.mem_cons_self))
      unfold MXp at hp ⊢
      rw [eC, e59]
      exact hp
    rw [if_neg h323] at hp ⊢
    by_cases h324 : p = 324
    · subst h324
      rw [if_pos rfl] at hp ⊢
      have eC := hmC_c (M := M) (M' := M') (fun i hi => h 56 i (inM_1 (lo := 0) (hi := 8) (by omega) (by omega) (List.mem_cons_of_mem _ List.mem_cons_self))) (fun i hi => h 57 i (inM_1 (lo := 0) (hi := 63) (by omega) (by omega) (List.mem_cons_of_mem _ (List.mem_cons_of_mem _ List.mem_cons_self))))
      have e59 : hrow 59 4 M' = hrow 59 4 M := hrow_c (fun i hi => h 59 i (inM_1 (lo := 0) (hi := 3) (by omega) (by omega) List.mem_cons_self))
      unfold MXp at hp ⊢
      rw [eC, e59]
      exact hp
    rw [if_neg h324] at hp ⊢
    by_cases h325 : p = 325
    · subst h325
      rw [if_pos rfl] at hp ⊢
      have eC := hmC_c (M := M) (M' := M') (fun i hi => h 56 i (inM_1 (lo := 0) (hi := 8) (by omega) (by omega) (List.mem_cons_of_mem _ List.mem_cons_self))) (fun i hi => h 57 i (inM_1 (lo := 0) (hi := 63) (by omega) (by omega) (List.mem_cons_of_mem _ (List.mem_cons_of_mem _ List.mem_cons_self))))
      have e59 : hrow 59 5 M' = hrow 59 5 M := hrow_c (fun i hi => h 59 i (inM_1 (lo := 0) (hi := 4) (by omega) (by omega) List.mem_cons_self))
      unfold MXp at hp ⊢
      rw [eC, e59]
      exact hp
    rw [if_neg h325] at hp ⊢
    by_cases h326 : p = 326
    · subst h326
      rw [if_pos rfl] at hp ⊢
      have eC := hmC_c (M := M) (M' := M') (fun i hi => h 56 i (inM_1 (lo := 0) (hi := 8) (by omega) (by omega) (List.mem_cons_of_mem _ List.mem_cons_self))) (fun i hi => h 57 i (inM_1 (lo := 0) (hi := 63) (by omega) (by omega) (List.mem_cons_of_mem _ (List.mem_cons_of_mem _ List.mem_cons_self))))
      have e59 : hrow 59 6 M' = hrow 59 6 M := hrow_c (fun i hi => h 59 i (inM_1 (lo := 0) (hi := 5) (by omega) (by omega) List.mem_cons_self))
      unfold MXp at hp ⊢
      rw [eC, e59]
      exact hp
    rw [if_neg h326] at hp ⊢
    by_cases h327 : p = 327
    · subst h327
      rw [if_pos rfl] at hp ⊢
      have eC := hmC_c (M := M) (M' := M') (fun i hi => h 56 i (inM_1 (lo := 0) (hi := 8) (by omega) (by omega) (List.mem_cons_of_mem _ List.mem_cons_self))) (fun i hi => h 57 i (inM_1 (lo := 0) (hi := 63) (by omega) (by omega) (List.mem_cons_of_mem _ (List.mem_cons_of_mem _ List.mem_cons_self))))
      have e59 : hrow 59 7 M' = hrow 59 7 M := hrow_c (fun i hi => h 59 i (inM_1 (lo := 0) (hi := 6) (by omega) (by omega) List.mem_cons_self))
      unfold MXp at hp ⊢
      rw [eC, e59]
      exact hp
    rw [if_neg h327] at hp ⊢
    by_cases h328 : p = 328
    · subst h328
      rw [if_pos rfl] at hp ⊢
      have eC := hmC_c (M := M) (M' := M') (fun i hi => h 56 i (inM_1 (lo := 0) (hi := 8) (by omega) (by omega) (List.mem_cons_of_mem _ List.mem_cons_self))) (fun i hi => h 57 i (inM_1 (lo := 0) (hi := 63) (by omega) (by omega) (List.mem_cons_of_mem _ (List.mem_cons_of_mem _ List.mem_cons_self))))
      have e59 : hrow 59 8 M' = hrow 59 8 M := hrow_c (fun i hi => h 59 i (inM_1 (lo := 0) (hi := 7) (by omega) (by omega) List.mem_cons_self))
      unfold MXp at hp ⊢
      rw [eC, e59]
      exact hp
    rw [if_neg h328] at hp ⊢
    by_cases h329 : p = 329
    · subst h329
      rw [if_pos rfl] at hp ⊢
      have eC := hmC_c (M := M) (M' := M') (fun i hi => h 56 i (inM_1 (lo := 0) (hi := 8) (by omega) (by omega) (List.mem_cons_of_mem _ List.mem_cons_self))) (fun i hi => h 57 i (inM_1 (lo := 0) (hi := 63) (by omega) (by omega) (List.mem_cons_of_mem _ (List.mem_cons_of_mem _ List.mem_cons_self))))
      have e59 : hrow 59 9 M' = hrow 59 9 M := hrow_c (fun i hi => h 59 i (inM_1 (lo := 0) (hi := 8) (by omega) (by omega) List.mem_cons_self))
      unfold MXp at hp ⊢
      rw [eC, e59]
      exact hp
    rw [if_neg h329] at hp ⊢
    by_cases h330 : p = 330
    · subst h330
      rw [if_pos rfl] at hp ⊢
      have eC := hmC_c (M := M) (M' := M') (fun i hi => h 56 i (inM_1 (lo := 0) (hi := 8) (by omega) (by omega) (List.mem_cons_of_mem _ List.mem_cons_self))) (fun i hi => h 57 i (inM_1 (lo := 0) (hi := 63) (by omega) (by omega) (List.mem_cons_of_mem _ (List.mem_cons_of_mem _ List.mem_cons_self))))
      have e59 : hrow 59 0 M' = hrow 59 0 M := hrow_c (fun i hi => absurd hi (Nat.not_lt_zero i))
      exact fun a ha => by rw [h 58 a (inM_1 (lo := 0) (hi := 2) (by omega) (by omega) List.mem_cons_self), eC, e59]; exact hp a ha
    rw [if_neg h330] at hp ⊢
    by_cases h331 : p = 331
    · subst h331
      rw [if_pos rfl] at hp ⊢
      have eC := hmC_c (M := M) (M' := M') (fun i hi => h 56 i (inM_1 (lo := 0) (hi := 8) (by omega) (by omega) (List.mem_cons_of_mem _ (List.mem_cons_of_mem _ List.mem_cons_self)))) (fun i hi => h 57 i (inM_1 (lo := 0) (hi := 63) (by omega) (by omega) (List.mem_cons_of_mem _ (List.mem_cons_of_mem _ (List.mem_cons_of_mem _ List.mem_cons_self)))))
      have e59 : hrow 59 1 M' = hrow 59 1 M := hrow_c (fun i hi => h 59 i (inM_1 (lo := 0) (hi := 0) (by omega) (by omega) List.mem_cons_self))
      exact fun a ha => by rw [h 58 a (inM_1 (lo := 0) (hi := 2) (by omega) (by omega) (List.mem_cons_of_mem _ List.mem_cons_self)), eC, e59]; exact hp a ha
    rw [if_neg h331] at hp ⊢
    by_cases h332 : p = 332
    · subst h332
      rw [if_pos rfl] at hp ⊢
      have eC := hmC_c (M := M) (M' := M') (fun i hi => h 56 i (inM_1 (lo := 0) (hi := 8) (by omega) (by omega) (List.mem_cons_of_mem _ (List.mem_cons_of_mem _ List.mem_cons_self)))) (fun i hi => h 57 i (inM_1 (lo := 0) (hi := 63) (by omega) (by omega) (List.mem_cons_of_mem _ (List.mem_cons_of_mem _ (List.mem_cons_of_mem _ List.mem_cons_self)))))
      have e59 : hrow 59 2 M' = hrow 59 2 M := hrow_c (fun i hi => h 59 i (inM_1 (lo := 0) (hi := 1) (by omega) (by omega) List.mem_cons_self))
      exact fun a ha => by rw [h 58 a (inM_1 (lo := 0) (hi := 2) (by omega) (by omega) (List.mem_cons_of_mem _ List.mem_cons_self)), eC, e59]; exact hp a ha
    rw [if_neg h332] at hp ⊢
    by_cases h333 : p = 333
    · subst h333
      rw [if_pos rfl] at hp ⊢
      have eC := hmC_c (M := M) (M' := M') (fun i hi => h 56 i (inM_1 (lo := 0) (hi := 8) (by omega) (by omega) (List.mem_cons_of_mem _ (List.mem_cons_of_mem _ List.mem_cons_self)))) (fun i hi => h 57 i (inM_1 (lo := 0) (hi := 63) (by omega) (by omega) (List.mem_cons_of_mem _ (List.mem_cons_of_mem _ (List.mem_cons_of_mem _ List.mem_cons_self)))))
      have e59 : hrow 59 3 M' = hrow 59 3 M := hrow_c (fun i hi => h 59 i (inM_1 (lo := 0) (hi := 2) (by omega) (by omega) List.mem_cons_self))
      exact fun a ha => by rw [h 58 a (inM_1 (lo := 0) (hi := 2) (by omega) (by omega) (List.mem_cons_of_mem _ List.mem_cons_self)), eC, e59]; exact hp a ha
    rw [if_neg h333] at hp ⊢
    by_cases h334 : p = 334
    · subst h334
      rw [if_pos rfl] at hp ⊢
      have eC := hmC_c (M := M) (M' := M') (fun i hi => h 56 i (inM_1 (lo := 0) (hi := 8) (by omega) (by omega) (List.mem_cons_of_mem _ (List.mem_cons_of_mem _ List.mem_cons_self)))) (fun i hi => h 57 i (inM_1 (lo := 0) (hi := 63) (by omega) (by omega) (List.mem_cons_of_mem _ (List.mem_cons_of_mem _ (List.mem_cons_of_mem _ List.mem_cons_self)))))
      have e59 : hrow 59 4 M' = hrow 59 4 M := hrow_c (fun i hi => h 59 i (inM_1 (lo := 0) (hi := 3) (by omega) (by omega) List.mem_cons_self))
      exact fun a ha => by rw [h 58 a (inM_1 (lo := 0) (hi := 2) (by omega) (by omega) (List.mem_cons_of_mem _ List.mem_cons_self)), eC, e59]; exact hp a ha
    rw [if_neg h334] at hp ⊢
    by_cases h335 : p = 335
    · subst h335
      rw [if_pos rfl] at hp ⊢
      have eC := hmC_c (M := M) (M' := M') (fun i hi => h 56 i (inM_1 (lo := 0) (hi := 8) (by omega) (by omega) (List.mem_cons_of_mem _ (List.mem_cons_of_mem _ List.mem_cons_self)))) (fun i hi => h 57 i (inM_1 (lo := 0) (hi := 63) (by omega) (by omega) (List.mem_cons_of_mem _ (List.mem_cons_of_mem _ (List.mem_cons_of_mem _ List.mem_cons_self)))))
      have e59 : hrow 59 5 M' = hrow 59 5 M := hrow_c (fun i hi => h 59 i (inM_1 (lo := 0) (hi := 4) (by omega) (by omega) List.mem_cons_self))
      exact fun a ha => by rw [h 58 a (inM_1 (lo := 0) (hi := 2) (by omega) (by omega) (List.mem_cons_of_mem _ List.mem_cons_self)), eC, e59]; exact hp a ha
    rw [if_neg h335] at hp ⊢
    by_cases h336 : p = 336
    · subst h336
      rw [if_pos rfl] at hp ⊢
      have eC := hmC_c (M := M) (M' := M') (fun i hi => h 56 i (inM_1 (lo := 0) (hi := 8) (by omega) (by omega) (List.mem_cons_of_mem _ (List.mem_cons_of_mem _ List.mem_cons_self)))) (fun i hi => h 57 i (inM_1 (lo := 0) (hi := 63) (by omega) (by omega) (List.mem_cons_of_mem _ (List.mem_cons_of_mem _ (List.mem_cons_of_mem _ List.mem_cons_self)))))
      have e59 : hrow 59 6 M' = hrow 59 6 M := hrow_c (fun i hi => h 59 i (inM_1 (lo := 0) (hi := 5) (by omega) (by omega) List.mem_cons_self))
      exact fun a ha => by rw [h 58 a (inM_1 (lo := 0) (hi := 2) (by omega) (by omega) (List.mem_cons_of_mem _ List.mem_cons_self)), eC, e59]; exact hp a ha
    rw [if_neg h336] at hp ⊢
    by_cases h337 : p = 337
    · subst h337
      rw [if_pos rfl] at hp ⊢
      have eC := hmC_c (M := M) (M' := M') (fun i hi => h 56 i (inM_1 (lo := 0) (hi := 8) (by omega) (by omega) (List.mem_cons_of_mem _ (List.mem_cons_of_mem _ List.mem_cons_self)))) (fun i hi => h 57 i (inM_1 (lo := 0) (hi := 63) (by omega) (by omega) (List.mem_cons_of_mem _ (List.mem_cons_of_mem _ (List.mem_cons_of_mem _ List.mem_cons_self)))))
      have e59 : hrow 59 7 M' = hrow 59 7 M := hrow_c (fun i hi => h 59 i (inM_1 (lo := 0) (hi := 6) (by omega) (by omega) List.mem_cons_self))
      exact fun a ha => by rw [h 58 a (inM_1 (lo := 0) (hi := 2) (by omega) (by omega) (List.mem_cons_of_mem _ List.mem_cons_self)), eC, e59]; exact hp a ha
    rw [if_neg h337] at hp ⊢
    by_cases h338 : p = 338
    · subst h338
      rw [if_pos rfl] at hp ⊢
      have eC := hmC_c (M := M) (M' := M') (fun i hi => h 56 i (inM_1 (lo := 0) (hi := 8) (by omega) (by omega) (List.mem_cons_of_mem _ (List.mem_cons_of_mem _ List.mem_cons_self)))) (fun i hi => h 57 i (inM_1 (lo := 0) (hi := 63) (by omega) (by omega) (List.mem_cons_of_mem _ (List.mem_cons_of_mem _ (List.mem_cons_of_mem _ List.mem_cons_self)))))
      have e59 : hrow 59 8 M' = hrow 59 8 M := hrow_c (fun i hi => h 59 i (inM_1 (lo := 0) (hi := 7) (by omega) (by omega) List.mem_cons_self))
      exact fun a ha => by rw [h 58 a (inM_1 (lo := 0) (hi := 2) (by omega) (by omega) (List.mem_cons_of_mem _ List.mem_cons_self)), eC, e59]; exact hp a ha
    rw [if_neg h338] at hp ⊢
    by_cases h339 : p = 339
    · subst h339
      rw [if_pos rfl] at hp ⊢
      have eC := hmC_c (M := M) (M' := M') (fun i hi => h 56 i (inM_1 (lo := 0) (hi := 8) (by omega) (by omega) (List.mem_cons_of_mem _ (List.mem_cons_of_mem _ List.mem_cons_self)))) (fun i hi => h 57 i (inM_1 (lo := 0) (hi := 63) (by omega) (by omega) (List.mem_cons_of_mem _ (List.mem_cons_of_mem _ (List.mem_cons_of_mem _ List.mem_cons_self)))))
      have e59 : hrow 59 9 M' = hrow 59 9 M := hrow_c (fun i hi => h 59 i (inM_1 (lo := 0) (hi := 8) (by omega) (by omega) List.mem_cons_self))
      exact fun a ha => by rw [h 58 a (inM_1 (lo := 0) (hi := 2) (by omega) (by omega) (List.mem_cons_of_mem _ List.mem_cons_self)), eC, e59]; exact hp a ha
    rw [if_neg h339] at hp ⊢
    by_cases h340 : p = 340
    · subst h340
      rw [if_pos rfl] at hp ⊢
      have eC := hmC_c (M := M) (M' := M') (fun i hi => h 56 i (inM_1 (lo := 0) (hi := 8) (by omega) (by omega) (List.mem_cons_of_mem _ (List.mem_cons_of_mem _ List.mem_cons_self)))) (fun i hi => h 57 i (inM_1 (lo := 0) (hi := 63) (by omega) (by omega) (List.mem_cons_of_mem _ (List.mem_cons_of_mem _ (List.mem_cons_of_mem _ List.mem_cons_self)))))
      have e59 : hrow 59 9 M' = hrow 59 9 M := hrow_c (fun i hi => h 59 i (inM_1 (lo := 0) (hi := 8) (by omega) (by omega) List.mem_cons_self))
      have eN := hnC_c (M := M) (M' := M') (h 55 1 rfl)
      unfold HLp at hp ⊢
      rw [eC, e59, eN]
      exact hp
    rw [if_neg h340] at hp ⊢
    by_cases h341 : p = 341
    · subst h341
      rw [if_pos rfl] at hp ⊢
      exact fun i h0 hi => by rw [h 60 i (inM_1 (lo := 0) (hi := 8) (by omega) (by omega) (List.mem_cons_of_mem _ List.mem_cons_self)), h 59 i (inM_1 (lo := 0) (hi := 8) (by omega) (by omega) List.mem_cons_self)]; exact hp i h0 hi
    rw [if_neg h341] at hp ⊢
    by_cases h342 : p = 342
    · subst h342
      rw [if_pos rfl] at hp ⊢
      have eC := hmC_c (M := M) (M' := M') (fun i hi => h 56 i (inM_1 (lo := 0) (hi := 8) (by omega) (by omega) List.mem_cons_self)) (fun i hi => h 57 i (inM_1 (lo := 0) (hi := 63) (by omega) (by omega) (List.mem_cons_of_mem _ List.mem_cons_self)))
      unfold RBp at hp ⊢
      rw [eC]
      exact hp
    rw [if_neg h342] at hp ⊢
    by_cases h343 : p = 343
    · subst h343
      rw [if_pos rfl] at hp ⊢
      obtain ⟨h0, h1, h2⟩ := hp
      exact ⟨h0, h1, fun i hi => by rw [h 56 i (inM_1 (lo := 0) (hi := 8) (by omega) (by omega) List.mem_cons_self), h 115 i (inM_1 (lo := 0) (hi := 8) (by omega) (by omega) (List.mem_cons_of_mem _ List.mem_cons_self))]; exact h2 i hi⟩
    rw [if_neg h343] at hp ⊢
    by_cases h344 : p = 344
    · subst h344
      rw [if_pos rfl] at hp ⊢
      obtain ⟨h1, h2⟩ := hp
      exact ⟨h1, fun i hi => by rw [h 58 i (inM_1 (lo := 0) (hi := 2) (by omega) (by omega) List.mem_cons_self)]; exact h2 i hi⟩
    rw [if_neg h344] at hp ⊢
    by_cases h345 : p = 345
    · subst h345
      rw [if_pos rfl] at hp ⊢
      have eR := hnR_c (M := M) (M' := M') (h 61 99 rfl)
      have hn : hnR M ≤ 9 := Nat.min_le_right _ _
      obtain ⟨f, o, w, h1, h2, h3, h4, h5, h6⟩ := hp
      refine ⟨f, o, w, h1, by rw [eR]; exact h2, h3, by rw [eR]; exact h4, fun i hi hj => ?_, fun a ha => ?_⟩
      · rw [eR] at hj ⊢
        rw [h 117 i (inM_1 (lo := 0) (hi := 8) (by omega) (by omega) (List.mem_cons_of_mem _ (List.mem_cons_of_mem _ (List.mem_cons_of_mem _ List.mem_cons_self))))]
        exact h5 i hi hj
      · rw [h 118 a (inM_1 (lo := 0) (hi := 2) (by omega) (by omega) (List.mem_cons_of_mem _ (List.mem_cons_of_mem _ (List.mem_cons_of_mem _ (List.mem_cons_of_mem _ List.mem_cons_self))))), eR, (hmR_c (M := M) (M' := M') h1 (fun i hi => h 115 i (inM_1 (lo := 0) (hi := 8) (by omega) (by omega) (List.mem_cons_of_mem _ (List.mem_cons_of_mem _ List.mem_cons_self)))) (fun i hi => h 114 i (inM_1 (lo := 0) (hi := 4095) (by omega) (by omega) (List.mem_cons_of_mem _ List.mem_cons_self))))]
        exact h6 a ha
    rw [if_neg h345] at hp ⊢
    by_cases h346 : p = 346
    · subst h346
      rw [if_pos rfl] at hp ⊢
      have eR := hnR_c (M := M) (M' := M') (h 61 99 rfl)
      have hn : hnR M ≤ 9 := Nat.min_le_right _ _
      obtain ⟨f, o, w, h1, h2, h3, h4, h5, h6⟩ := hp
      refine ⟨f, o, w, h1, by rw [eR]; exact h2, h3, by rw [eR]; exact h4, fun i hi hj => ?_, fun a ha => ?_⟩
      · rw [eR] at hj ⊢
        rw [h 117 i (inM_1 (lo := 0) (hi := 8) (by omega) (by omega) (List.mem_cons_of_mem _ (List.mem_cons_of_mem _ (List.mem_cons_of_mem _ List.mem_cons_self))))]
        exact h5 i hi hj
      · rw [h 118 a (inM_1 (lo := 0) (hi := 2) (by omega) (by omega) (List.mem_cons_of_mem _ (List.mem_cons_of_mem _ (List.mem_cons_of_mem _ (List.mem_cons_of_mem _ List.mem_cons_self))))), eR, (hmR_c (M := M) (M' := M') h1 (fun i hi => h 115 i (inM_1 (lo := 0) (hi := 8) (by omega) (by omega) (List.mem_cons_of_mem _ (List.mem_cons_of_mem _ List.mem_cons_self)))) (fun i hi => h 114 i (inM_1 (lo := 0) (hi := 4095) (by omega) (by omega) (List.mem_cons_of_mem _ List.mem_cons_self))))]
        exact h6 a ha
    rw [if_neg h346] at hp ⊢
    by_cases h347 : p = 347
    · subst h347
      rw [if_pos rfl] at hp ⊢
      have eR := hnR_c (M := M) (M' := M') (h 61 99 rfl)
      have hn : hnR M ≤ 9 := Nat.min_le_right _ _
      obtain ⟨f, o, w, h1, h2, h3, h4, h5, h6⟩ := hp
      refine ⟨f, o, w, h1, by rw [eR]; exact h2, h3, by rw [eR]; exact h4, fun i hi hj => ?_, fun a ha => ?_⟩
      · rw [eR] at hj ⊢
        rw [h 117 i (inM_1 (lo := 0) (hi := 8) (by omega) (by omega) (List.mem_cons_of_mem _ (List.mem_cons_of_mem _ (List.mem_cons_of_mem _ List.mem_cons_self))))]
        exact h5 i hi hj
      · rw [h 118 a (inM_1 (lo := 0) (hi := 2) (by omega) (by omega) (List.mem_cons_of_mem _ (List.mem_cons_of_mem _ (List.mem_cons_of_mem _ (List.mem_cons_of_mem _ List.mem_cons_self))))), eR, (hmR_c (M := M) (M' := M') h1 (fun i hi => h 115 i (inM_1 (lo := 0) (hi := 8) (by omega) (by omega) (List.mem_cons_of_mem _ (List.mem_cons_of_mem _ List.mem_cons_self)))) (fun i hi => h 114 i (inM_1 (lo := 0) (hi := 4095) (by omega) (by omega) (List.mem_cons_of_mem _ List.mem_cons_self))))]
        exact h6 a ha
    rw [if_neg h347] at hp ⊢
    by_cases h348 : p = 348
    · subst h348
      rw [if_pos rfl] at hp ⊢
      have eR := hnR_c (M := M) (M' := M') (h 61 99 rfl)
      have hn : hnR M ≤ 9 := Nat.min_le_right _ _
      obtain ⟨f, o, w, h1, h2, h3, h4, h5, h6⟩ := hp
      refine ⟨f, o, w, h1, by rw [eR]; exact h2, h3, by rw [eR]; exact h4, fun i hi hj => ?_, fun a ha => ?_⟩
      · rw [eR] at hj ⊢
        rw [h 117 i (inM_1 (lo := 0) (hi := 8) (by omega) (by omega) (List.mem_cons_of_mem _ (List.mem_cons_of_mem _ (List.mem_cons_of_mem _ List.mem_cons_self))))]
        exact h5 i hi hj
      · rw [h 118 a (inM_1 (lo := 0) (hi := 2) (by omega) (by omega) (List.mem_cons_of_mem _ (List.mem_cons_of_mem _ (List.mem_cons_of_mem _ (List.mem_cons_of_mem _ List.mem_cons_self))))), eR, (hmR_c (M := M) (M' := M') h1 (fun i hi => h 115 i (inM_1 (lo := 0) (hi := 8) (by omega) (by omega) (List.mem_cons_of_mem _ (List.mem_cons_of_mem _ List.mem_cons_self)))) (fun i hi => h 114 i (inM_1 (lo := 0) (hi := 4095) (by omega) (by omega) (List.mem_cons_of_mem _ List.mem_cons_self))))]
        exact h6 a ha
    rw [if_neg h348] at hp ⊢
    by_cases h349 : p = 349
    · subst h349
      rw [if_pos rfl] at hp ⊢
      have eR := hnR_c (M := M) (M' := M') (h 61 99 rfl)
      have hn : hnR M ≤ 9 := Nat.min_le_right _ _
      obtain ⟨f, o, w, h1, h2, h3, h4, h5, h6⟩ := hp
      refine ⟨f, o, w, h1, by rw [eR]; exact h2, h3, by rw [eR]; exact h4, fun i hi hj => ?_, fun a ha => ?_⟩
      · rw [eR] at hj ⊢
        rw [h 117 i (inM_1 (lo := 0) (hi := 8) (by omega) (by omega) (List.mem_cons_of_mem _ (List.mem_cons_of_mem _ (List.mem_cons_of_mem _ List.mem_cons_self))))]
        exact h5 i hi hj
      · rw [h 118 a (inM_1 (lo := 0) (hi := 2) (by omega) (by omega) (List.mem_cons_of_mem _ (List.mem_cons_of_mem _ (List.mem_cons_of_mem _ (List.mem_cons_of_mem _ List.mem_cons_self))))), eR, (hmR_c (M := M) (M' := M') h1 (fun i hi => h 115 i (inM_1 (lo := 0) (hi := 8) (by omega) (by omega) (List.mem_cons_of_mem _ (List.mem_cons_of_mem _ List.mem_cons_self)))) (fun i hi => h 114 i (inM_1 (lo := 0) (hi := 4095) (by omega) (by omega) (List.mem_cons_of_mem _ List.mem_cons_self))))]
        exact h6 a ha
    rw [if_neg h349] at hp ⊢
    by_cases h350 : p = 350
    · subst h350
      rw [if_pos rfl] at hp ⊢
      have eR := hnR_c (M := M) (M' := M') (h 61 99 rfl)
      have hn : hnR M ≤ 9 := Nat.min_le_right _ _
      obtain ⟨f, o, w, h1, h2, h3, h4, h5, h6⟩ := hp
      refine ⟨f, o, w, h1, by rw [eR]; exact h2, h3, by rw [eR]; exact h4, fun i hi hj => ?_, fun a ha => ?_⟩
      · rw [eR] at hj ⊢
        rw [h 117 i (inM_1 (lo := 0) (hi := 8) (by omega) (by omega) (List.mem_cons_of_mem _ (List.mem_cons_of_mem _ (List.mem_cons_of_mem _ List.mem_cons_self))))]
        exact h5 i hi hj
      · rw [h 118 a (inM_1 (lo := 0) (hi := 2) (by omega) (by omega) (List.mem_cons_of_mem _ (List.mem_cons_of_mem _ (List.mem_cons_of_mem _ (List.mem_cons_of_mem _ List.mem_cons_self))))), eR, (hmR_c (M := M) (M' := M') h1 (fun i hi => h 115 i (inM_1 (lo := 0) (hi := 8) (by omega) (by omega) (List.mem_cons_of_mem _ (List.mem_cons_of_mem _ List.mem_cons_self)))) (fun i hi => h 114 i (inM_1 (lo := 0) (hi := 4095) (by omega) (by omega) (List.mem_cons_of_mem _ List.mem_cons_self))))]
        exact h6 a ha
    rw [if_neg h350] at hp ⊢
    by_cases h351 : p = 351
    · subst h351
      rw [if_pos rfl] at hp ⊢
      have eR := hnR_c (M := M) (M' := M') (h 61 99 rfl)
      have hn : hnR M ≤ 9 := Nat.min_le_right _ _
      obtain ⟨f, w, h1, h2, h3, h4⟩ := hp
      refine ⟨f, w, h1, h2, fun i hj => ?_, ?_⟩
      · rw [eR] at hj ⊢
        rw [h 117 i (inM_1 (lo := 0) (hi := 8) (by omega) (by omega) (List.mem_cons_of_mem _ (List.mem_cons_of_mem _ (List.mem_cons_of_mem _ List.mem_cons_self))))]
        exact h3 i hj
      · rw [eR, (hmR_c (M := M) (M' := M') h1 (fun i hi => h 115 i (inM_1 (lo := 0) (hi := 8) (by omega) (by omega) (List.mem_cons_of_mem _ (List.mem_cons_of_mem _ List.mem_cons_self)))) (fun i hi => h 114 i (inM_1 (lo := 0) (hi := 4095) (by omega) (by omega) (List.mem_cons_of_mem _ List.mem_cons_self))))]
        exact h4
    rw [if_neg h351] at hp ⊢
    by_cases h352 : p = 352
    · subst h352
      rw [if_pos rfl] at hp ⊢
      have eR := hnR_c (M := M) (M' := M') (h 61 99 rfl)
      have hn : hnR M ≤ 9 := Nat.min_le_right _ _
      obtain ⟨f, w, h1, h2, h3, h4⟩ := hp
      refine ⟨f, w, h1, h2, fun i hj => ?_, ?_⟩
      · rw [eR] at hj ⊢
        rw [h 117 i (inM_1 (lo := 0) (hi := 8) (by omega) (by omega) (List.mem_cons_of_mem _ (List.mem_cons_of_mem _ (List.mem_cons_of_mem _ List.mem_cons_self))))]
        exact h3 i hj
      · rw [eR, (hmR_c (M := M) (M' := M') h1 (fun i hi => h 115 i (inM_1 (lo := 0) (hi := 8) (by omega) (by omega) (List.mem_cons_of_mem _ (List.mem_cons_of_mem _ List.mem_cons_self)))) (fun i hi => h 114 i (inM_1 (lo := 0) (hi := 4095) (by omega) (by omega) (List.mem_cons_of_mem _ List.mem_cons_self))))]
        exact h4
    rw [if_neg h352] at hp ⊢
    by_cases h353 : p = 353
    · subst h353
      rw [if_pos rfl] at hp ⊢
      have eR := hnR_c (M := M) (M' := M') (h 61 99 rfl)
      have hn : hnR M ≤ 9 := Nat.min_le_right _ _
      obtain ⟨f, w, h1, h2, h3, h4⟩ := hp
      refine ⟨f, w, h1, h2, fun i hj => ?_, ?_⟩
      · rw [eR] at hj ⊢
        rw [h 117 i (inM_1 (lo := 0) (hi := 8) (by omega) (by omega) (List.mem_cons_of_mem _ (List.mem_cons_of_mem _ (List.mem_cons_of_mem _ List.mem_cons_self))))]
        exact h3 i hj
      · rw [eR, (hmR_c (M := M) (M' := M') h1 (fun i hi => h 115 i (inM_1 (lo := 0) (hi := 8) (by omega) (by omega) (List.mem_cons_of_mem _ (List.mem_cons_of_mem _ List.mem_cons_self)))) (fun i hi => h 114 i (inM_1 (lo := 0) (hi := 4095) (by omega) (by omega) (List.mem_cons_of_mem _ List.mem_cons_self))))]
        exact h4
    rw [if_neg h353] at hp ⊢
    by_cases h354 : p = 354
    · subst h354
      rw [if_pos rfl] at hp ⊢
      obtain ⟨h1, h2, h3, h4⟩ := hp
      refine ⟨h1, h2, fun a ha => by rw [h 118 a (inM_1 (lo := 0) (hi := 2) (by omega) (by omega) List.mem_cons_self)]; exact h3 a ha, ?_⟩
      rcases h4 with h4 | ⟨a, a1, a2⟩
      · exact Or.inl h4
      · exact Or.inr ⟨a, a1, by rw [h 118 a (inM_1 (lo := 0) (hi := 2) (by omega) (by omega) List.mem_cons_self)]; exact a2⟩
    rw [if_neg h354] at hp ⊢
    by_cases h355 : p = 355
    · subst h355
      rw [if_pos rfl] at hp ⊢
      exact hp
    rw [if_neg h355] at hp ⊢
    by_cases h356 : p = 356
    · subst h356
      rw [if_pos rfl] at hp ⊢
      exact hp
    rw [if_neg h356] at hp ⊢
    by_cases h357 : p = 357
    · subst h357
      rw [if_pos rfl] at hp ⊢
      exact hp
    rw [if_neg h357] at hp ⊢
    by_cases h358 : p = 358
    · subst h358
      rw [if_pos rfl] at hp ⊢
      obtain ⟨f, n, h1, h2, h3, h4⟩ := hp
      exact ⟨f, n, h1, h2, h3, by rw [(hmR_c (M := M) (M' := M') h1 (fun i hi => h 115 i (inM_1 (lo := 0) (hi := 8) (by omega) (by omega) (List.mem_cons_of_mem _ List.mem_cons_self))) (fun i hi => h 114 i (inM_1 (lo := 0) (hi := 4095) (by omega) (by omega) List.mem_cons_self)))]; exact h4⟩
    rw [if_neg h358] at hp ⊢
    by_cases h359 : p = 359
    · subst h359
      rw [if_pos rfl] at hp ⊢
      have eR := hnR_c (M := M) (M' := M') (h 61 99 rfl)
      have hn : hnR M ≤ 9 := Nat.min_le_right _ _
      have e116 : hrow 116 9 M' = hrow 116 9 M := hrow_c (fun i hi => h 116 i (inM_1 (lo := 0) (hi := 8) (by omega) (by omega) (List.mem_cons_of_mem _ (List.mem_cons_of_mem _ (List.mem_cons_of_mem _ List.mem_cons_self)))))
      obtain ⟨f, w, h1, h2, h3⟩ := hp
      exact ⟨f, w, h1, h2, by rw [eR, (hmR_c (M := M) (M' := M') h1 (fun i hi => h 115 i (inM_1 (lo := 0) (hi := 8) (by omega) (by omega) (List.mem_cons_of_mem _ (List.mem_cons_of_mem _ List.mem_cons_self)))) (fun i hi => h 114 i (inM_1 (lo := 0) (hi := 4095) (by omega) (by omega) (List.mem_cons_of_mem _ List.mem_cons_self)))), e116]; exact h3⟩
    rw [if_neg h359] at hp ⊢
    by_cases h360 : p = 360
    · subst h360
      rw [if_pos rfl] at hp ⊢
      have eR := hnR_c (M := M) (M' := M') (h 61 99 rfl)
      have hn : hnR M ≤ 9 := Nat.min_le_right _ _
      have e116 : hrow 116 9 M' = hrow 116 9 M := hrow_c (fun i hi => h 116 i (inM_1 (lo := 0) (hi := 8) (by omega) (by omega) (List.mem_cons_of_mem _ (List.mem_cons_of_mem _ (List.mem_cons_of_mem _ List.mem_cons_self)))))
      obtain ⟨f, w, h1, h2, h3⟩ := hp
      exact ⟨f, w, h1, h2, by rw [eR, (hmR_c (M := M) (M' := M') h1 (fun i hi => h 115 i (inM_1 (lo := 0) (hi := 8) (by omega) (by omega) (List.mem_cons_of_mem _ (List.mem_cons_of_mem _ List.mem_cons_self)))) (fun i hi => h 114 i (inM_1 (lo := 0) (hi := 4095) (by omega) (by omega) (List.mem_cons_of_mem _ List.mem_cons_self)))), e116]; exact h3⟩
    rw [if_neg h360] at hp ⊢
    by_cases h361 : p = 361
    · subst h361
      rw [if_pos rfl] at hp ⊢
      have eR := hnR_c (M := M) (M' := M') (h 61 99 rfl)
      have hn : hnR M ≤ 9 := Nat.min_le_right _ _
      have e116 : hrow 116 9 M' = hrow 116 9 M := hrow_c (fun i hi => h 116 i (inM_1 (lo := 0) (hi := 8) (by omega) (by omega) (List.mem_cons_of_mem _ (List.mem_cons_of_mem _ (List.mem_cons_of_mem _ List.mem_cons_self)))))
      obtain ⟨f, w, h1, h2, h3⟩ := hp
      exact ⟨f, w, h1, h2, by rw [eR, (hmR_c (M := M) (M' := M') h1 (fun i hi => h 115 i (inM_1 (lo := 0) (hi := 8) (by omega) (by omega) (List.mem_cons_of_mem _ (List.mem_cons_of_mem _ List.mem_cons_self)))) (fun i hi => h 114 i (inM_1 (lo := 0) (hi := 4095) (by omega) (by omega) (List.mem_cons_of_mem _ List.mem_cons_self)))), e116]; exact h3⟩
    rw [if_neg h361] at hp ⊢
    by_cases h365 : p = 365
    · subst h365
      rw [if_pos rfl] at hp ⊢
      have eC := hmC_c (M := M) (M' := M') (fun i hi => h 56 i (inM_1 (lo := 0) (hi := 8) (by omega) (by omega) List.mem_cons_self)) (fun i hi => h 57 i (inM_1 (lo := 0) (hi := 63) (by omega) (by omega) (List.mem_cons_of_mem _ List.mem_cons_self)))
      unfold NRp at hp ⊢
      rw [eC]
      exact hp
    rw [if_neg h365] at hp ⊢
    by_cases h366 : p = 366
    · subst h366
      rw [if_pos rfl] at hp ⊢
      obtain ⟨f, n, h1, h2, h3, h4⟩ := hp
      exact ⟨f, n, h1, h2, h3, by rw [(hmR_c (M := M) (M' := M') h1 (fun i hi => h 115 i (inM_1 (lo := 0) (hi := 8) (by omega) (by omega) (List.mem_cons_of_mem _ List.mem_cons_self))) (fun i hi => h 114 i (inM_1 (lo := 0) (hi := 4095) (by omega) (by omega) List.mem_cons_self)))]; exact h4⟩
    rw [if_neg h366] at hp ⊢
    by_cases h367 : p = 367
    · subst h367
      rw [if_pos rfl] at hp ⊢
      obtain ⟨h1, h2⟩ := hp
      exact ⟨h1, fun i hi => by rw [h 118 i (inM_1 (lo := 0) (hi := 2) (by omega) (by omega) List.mem_cons_self)]; exact h2 i hi⟩
    rw [if_neg h367] at hp ⊢
    by_cases h368 : p = 368
    · subst h368
      rw [if_pos rfl] at hp ⊢
      have eR := hnR_c (M := M) (M' := M') (h 61 99 rfl)
      have hn : hnR M ≤ 9 := Nat.min_le_right _ _
      obtain ⟨f, w, h1, h2, h3, h4, h5, h6⟩ := hp
      refine ⟨f, w, h1, h2, by rw [eR]; exact h3, fun i hj => ?_, ?_, ?_⟩
      · rw [eR] at hj ⊢
        rw [h 117 i (inM_1 (lo := 0) (hi := 8) (by omega) (by omega) (List.mem_cons_of_mem _ (List.mem_cons_of_mem _ (List.mem_cons_of_mem _ List.mem_cons_self))))]
        exact h4 i hj
      · rw [eR, (hmR_c (M := M) (M' := M') h1 (fun i hi => h 115 i (inM_1 (lo := 0) (hi := 8) (by omega) (by omega) (List.mem_cons_of_mem _ (List.mem_cons_of_mem _ List.mem_cons_self)))) (fun i hi => h 114 i (inM_1 (lo := 0) (hi := 4095) (by omega) (by omega) (List.mem_cons_of_mem _ List.mem_cons_self))))]
        exact h5
      · rw [eR, (hmR_c (M := M) (M' := M') h1 (fun i hi => h 115 i (inM_1 (lo := 0) (hi := 8) (by omega) (by omega) (List.mem_cons_of_mem _ (List.mem_cons_of_mem _ List.mem_cons_self)))) (fun i hi => h 114 i (inM_1 (lo := 0) (hi := 4095) (by omega) (by omega) (List.mem_cons_of_mem _ List.mem_cons_self))))]
        exact h6
    rw [if_neg h368] at hp ⊢
    by_cases h369 : p = 369
    · subst h369
      rw [if_pos rfl] at hp ⊢
      have eR := hnR_c (M := M) (M' := M') (h 61 99 rfl)
      have hn : hnR M ≤ 9 := Nat.min_le_right _ _
      obtain ⟨f, w, h1, h2, h3, h4, h5, h6⟩ := hp
      refine ⟨f, w, h1, h2, by rw [eR]; exact h3, fun i hj => ?_, ?_, ?_⟩
      · rw [eR] at hj ⊢
        rw [h 117 i (inM_1 (lo := 0) (hi := 8) (by omega) (by omega) (List.mem_cons_of_mem _ (List.mem_cons_of_mem _ (List.mem_cons_of_mem _ List.mem_cons_self))))]
        exact h4 i hj
      · rw [eR, (hmR_c (M := M) (M' := M') h1 (fun i hi => h 115 i (inM_1 (lo := 0) (hi := 8) (by omega) (by omega) (List.mem_cons_of_mem _ (List.mem_cons_of_mem _ List.mem_cons_self)))) (fun i hi => h 114 i (inM_1 (lo := 0) (hi := 4095) (by omega) (by omega) (List.mem_cons_of_mem _ List.mem_cons_self))))]
        exact h5
      · rw [eR, (hmR_c (M := M) (M' := M') h1 (fun i hi => h 115 i (inM_1 (lo := 0) (hi := 8) (by omega) (by omega) (List.mem_cons_of_mem _ (List.mem_cons_of_mem _ List.mem_cons_self)))) (fun i hi => h 114 i (inM_1 (lo := 0) (hi := 4095) (by omega) (by omega) (List.mem_cons_of_mem _ List.mem_cons_self))))]
        exact h6
    rw [if_neg h369] at hp ⊢
    by_cases h370 : p = 370
    · subst h370
      rw [if_pos rfl] at hp ⊢
      have eR := hnR_c (M := M) (M' := M') (h 61 99 rfl)
      have hn : hnR M ≤ 9 := Nat.min_le_right _ _
      obtain ⟨f, w, h1, h2, h3, h4, h5, h6⟩ := hp
      refine ⟨f, w, h1, h2, by rw [eR]; exact h3, fun i hj => ?_, ?_, ?_⟩
      · rw [eR] at hj ⊢
        rw [h 117 i (inM_1 (lo := 0) (hi := 8) (by omega) (by omega) (List.mem_cons_of_mem _ (List.mem_cons_of_mem _ (List.mem_cons_of_mem _ List.mem_cons_self))))]
        exact h4 i hj
      · rw [eR, (hmR_c (M := M) (M' := M') h1 (fun i hi => h 115 i (inM_1 (lo := 0) (hi := 8) (by omega) (by omega) (List.mem_cons_of_mem _ (List.mem_cons_of_mem _ List.mem_cons_self)))) (fun i hi => h 114 i (inM_1 (lo := 0) (hi := 4095) (by omega) (by omega) (List.mem_cons_of_mem _ List.mem_cons_self))))]
        exact h5
      · rw [eR, (hmR_c (M := M) (M' := M') h1 (fun i hi => h 115 i (inM_1 (lo := 0) (hi := 8) (by omega) (by omega) (List.mem_cons_of_mem _ (List.mem_cons_of_mem _ List.mem_cons_self)))) (fun i hi => h 114 i (inM_1 (lo := 0) (hi := 4095) (by omega) (by omega) (List.mem_cons_of_mem _ List.mem_cons_self))))]
        exact h6
    rw [if_neg h370] at hp ⊢
    by_cases h371 : p = 371
    · subst h371
      rw [if_pos rfl] at hp ⊢
      obtain ⟨h1, h2⟩ := hp
      exact ⟨h1, fun i hi => by rw [h 116 i (inM_1 (lo := 0) (hi := 8) (by omega) (by omega) (List.mem_cons_of_mem _ List.mem_cons_self)), h 117 i (inM_1 (lo := 0) (hi := 8) (by omega) (by omega) List.mem_cons_self)]; exact h2 i hi⟩
    rw [if_neg h371] at hp ⊢
    by_cases h372 : p = 372
    · subst h372
      rw [if_pos rfl] at hp ⊢
      have eR := hnR_c (M := M) (M' := M') (h 61 99 rfl)
      have hn : hnR M ≤ 9 := Nat.min_le_right _ _
      have e116 : hrow 116 9 M' = hrow 116 9 M := hrow_c (fun i hi => h 116 i (inM_1 (lo := 0) (hi := 8) (by omega) (by omega) (List.mem_cons_of_mem _ (List.mem_cons_of_mem _ (List.mem_cons_of_mem _ List.mem_cons_self)))))
      obtain ⟨f, T, h1, h2, h3, h4, h5⟩ := hp
      exact ⟨f, T, h1, h2, h3, h4, by rw [eR, (hmR_c (M := M) (M' := M') h1 (fun i hi => h 115 i (inM_1 (lo := 0) (hi := 8) (by omega) (by omega) (List.mem_cons_of_mem _ (List.mem_cons_of_mem _ List.mem_cons_self)))) (fun i hi => h 114 i (inM_1 (lo := 0) (hi := 4095) (by omega) (by omega) (List.mem_cons_of_mem _ List.mem_cons_self)))), e116]; exact h5⟩
    rw [if_neg h372] at hp ⊢
    trivial
theorem hp_dep {p : Nat} {x y : Int} {M M' : pM} (h : ∀ c k, inD (hdp p) c k = true → M' c k = M c k) (hp : HP p x y M) : HP p x y M' := by
  match p, h, hp with
  | 0, h, hp =>
    have : M' = M := funext (fun c => funext (fun k => h c k rfl))
    rw [this]
    exact hp
  | 1, h, hp =>
    have : M' = M := funext (fun c => funext (fun k => h c k rfl))
    rw [this]
    exact hp
  | 2, h, hp =>
    obtain ⟨h1, h2, h3⟩ := hp
    refine ⟨h1, h2, ?_⟩
    rw [hgt_congr (M := M) (fun i i1 i2 => h 108 i (inM_1 (lo := 0) (hi := 299) (by omega) (by omega) List.mem_cons_self))]
    exact h3
  | 3, h, hp =>
    obtain ⟨h1, h2, h3⟩ := hp
    refine ⟨h1, h2, ?_⟩
    rw [hgt_congr (M := M) (fun i i1 i2 => h 108 i (inM_1 (lo := 300) (hi := 599) (by omega) (by omega) List.mem_cons_self))]
    exact h3
  | 4, h, hp =>
    obtain ⟨h1, h2, h3⟩ := hp
    refine ⟨h1, h2, ?_⟩
    rw [pbc_congr (M := M) (fun i i1 => ⟨h 111 i (inM_1 (lo := 0) (hi := 79) (by omega) (by omega) List.mem_cons_self), h 112 i (inM_1 (lo := 0) (hi := 79) (by omega) (by omega) (List.mem_cons_of_mem _ List.mem_cons_self))⟩)]
    exact h3
  | 5, h, hp =>
    intro h1 h2
    rw [h 61 8 rfl] at h1
    rw [h 61 10 rfl] at h2
    exact hp h1 h2
  | 6, h, hp =>
    intro h2
    rw [h 61 10 rfl] at h2
    exact hp h2
  | 7, h, hp =>
    intro h1
    rw [h 61 85 rfl] at h1
    obtain ⟨H, a1, a2, a3⟩ := hp h1
    refine ⟨H, a1, a2, ?_⟩
    rw [h 61 80 rfl, h 110 0 rfl, h 110 1 rfl]
    have hc : ∀ i, i ≤ 599 → M' 108 i = M 108 i := fun i hi => h 108 i (inM_1 (lo := 0) (hi := 599) (by omega) hi (List.mem_cons_of_mem _ (List.mem_cons_of_mem _ List.mem_cons_self)))
    rcases a3 with ⟨a3, a4, a5, a6⟩ | ⟨a3, a4, a5, a6⟩
    · exact Or.inl ⟨a3, a4, a5, by rw [hgt_congr (M := M) (fun i i1 i2 => hc i (by omega))]; exact a6⟩
    · exact Or.inr ⟨a3, a4, a5, by rw [hgt_congr (M := M) (fun i i1 i2 => hc i (by omega))]; exact a6⟩
  | 8, h, hp => exact hpd_8 (fun c k hk => h c k hk) hp
  | 9, h, hp => exact hpd_9 (fun c k hk => h c k hk) hp
  | 10, h, hp => exact hpd_10 (fun c k hk => h c k hk) hp
  | 11, h, hp => exact hpd_11 (fun c k hk => h c k hk) hp
  | 12, h, hp => exact hpd_12 (fun c k hk => h c k hk) hp
  | 13, h, hp => exact hpd_13 (fun c k hk => h c k hk) hp
  | 14, h, hp => exact hpd_14 (fun c k hk => h c k hk) hp
  | 15, h, hp => exact hpd_15 (fun c k hk => h c k hk) hp
  | 16, h, hp => exact hpd_16 (fun c k hk => h c k hk) hp
  | 17, h, hp => exact hpd_17 (fun c k hk => h c k hk) hp
  | 18, h, hp => exact hpd_18 (fun c k hk => h c k hk) hp
  | 19, h, hp => exact hpd_19 (fun c k hk => h c k hk) hp
  | 20, h, hp => exact hpd_20 (fun c k hk => h c k hk) hp
  | 21, h, hp => exact hpd_21 (fun c k hk => h c k hk) hp
  | _ + 22, h, hp => exact hg_dep h hp
/-- a code more -/
theorem hgt_w {M : pM} {s k : Nat} {v n : Int} (h : hgt M s k = some n) : hgt (st M 108 (s + k) v) s (k + 1) = hg1 v n := by
  unfold hgt
  rw [hgt_congr (M := M) (fun i i1 i2 => by unfold st; rw [if_neg (by omega)]), h]
  show hg1 (st M 108 (s + k) v 108 (s + k)) n = _
  unfold st
  rw [if_pos ⟨rfl, rfl⟩]
theorem hgt_s {M : pM} {s k : Nat} {n : Int} (h : hgt M s k = some n) : hgt M s (k + 1) = hg1 (M 108 (s + k)) n := by
  rw [show hgt M s (k + 1) = (match hgt M s k with | none => none | some n => hg1 (M 108 (s + k)) n) from rfl, h]
/-- what works out to the end works out before -/
theorem hgt_pre {M : pM} {s : Nat} : ∀ {k d : Nat} {n : Int}, hgt M s (k + d) = some n → ∃ m, hgt M s k = some m
  | k, 0, n, h => ⟨n, h⟩
  | k, d + 1, n, h => by
    have h : hgt M s (k + d + 1) = some n := h
    cases hd : hgt M s (k + d) with
    | none =>
      rw [show hgt M s (k + d + 1) = (match hgt M s (k + d) with | none => none | some n => hg1 (M 108 (s + (k + d))) n) from rfl, hd] at h
      cases h
    | some m => exact hgt_pre hd
theorem pbc_s {M : pM} {k : Nat} {b : Int} (h : pbc M k = some b) : pbc M (k + 1) = pb1 k (M 111 k) (M 112 k) b := by
  rw [show pbc M (k + 1) = (match pbc M k with | none => none | some b => pb1 k (M 111 k) (M 112 k) b) from rfl, h]
