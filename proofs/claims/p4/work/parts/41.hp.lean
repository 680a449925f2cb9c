/-! ===== sayings of the memory ===== -/
/-- how many cells there were when the method began, where there are 119 now -/
def nz (j : Nat) : Nat := 119 - mC j
/-- the plan at ref v lets glider g come from (c, t, h) by move y -/
def mvd (v : Nat) (x y : Int) (M : pM) : Prop := ∃ g c t h h' t' c' : Int, (0 ≤ g ∧ g ≤ 3 ∧ 0 ≤ c ∧ c ≤ 63 ∧ 0 ≤ t ∧ t ≤ 36 ∧ 0 ≤ h ∧ h ≤ 40) ∧ x = ((g * 64 + c) * 37 + t) * 41 + h ∧ (0 ≤ h' ∧ h' ≤ 40 ∧ t + 1 ≤ t' ∧ t' ≤ 36 ∧ 0 ≤ c' ∧ c' ≤ 63) ∧
  OJ 20 61 [vr v, vi g, vi c, vi t, vi h, vi y] 119 M (fun a M' => a = some (vi (6400 * h' + 100 * t' + c')) ∧ M' = M)
/-- what one code makes of n numbers on the pile -/
def hg1 (v n : Int) : Option Int := if v = 126 then (if 1 ≤ n then some n else none) else if 97 ≤ v ∧ v ≤ 122 then (if n ≤ 59 then some (n + 1) else none) else (if 2 ≤ n then some (n - 1) else none)
/-- how many numbers k codes from s on leave -/
def hgt (M : pM) (s : Nat) : Nat → Option Int
  | 0 => some 0
  | k + 1 => match hgt M s k with
    | none => none
    | some n => hg1 (M 108 (s + k)) n
/-- one entry of the reader's pile, behind b of two sides -/
def pb1 (k : Nat) (w s b : Int) : Option Int := if k = 0 then (if w = 8 then some 0 else none) else if w = 3 then (if s = 126 then some b else none) else if w = 7 then some b else if w = 1 ∧ s = 124 then some (b + 1) else if (1 ≤ w ∧ w ≤ 2 ∨ 4 ≤ w ∧ w ≤ 6) ∧ 0 ≤ s ∧ s ≤ 96 then some (b + 1) else none
def pbc (M : pM) : Nat → Option Int
  | 0 => some 0
  | k + 1 => match pbc M k with
    | none => none
    | some b => pb1 k (M 111 k) (M 112 k) b
def gI (M : pM) : Prop := (∀ (c k : Nat) (b : Int × Int), (c < 119 → k < szS (SH c)) → (gl c)[k % (gl c).length]? = some b → b.1 ≤ b.2 → b.1 ≤ M c k ∧ M c k ≤ b.2) ∧ ∀ e ∈ rfT, ∃ x ∈ e.2.2, M e.1 e.2.1 = ((x : Nat) : Int)
def fr (m : mdL) (M0 M : pM) : Prop := ∀ c k, inM m c k = false → M c k = M0 c k
/-- what holds of the ways round: memories that agree on l -/
def agL (l : List (Nat × Nat × Nat)) (M N : pM) : Prop := ∀ c k, inM l c k = true → N c k = M c k
/-- move m leads glider g from (c, t, h) to (c', t', h') -/
def ldT (b : Nat) (M : pM) (g c t h m c' t' h' : Int) : Prop := ∀ N, gI N → agL (RLb b) M N → OJ 20 222 [vr 62, vi g, vi c, vi t, vi h, vi m] 119 N (fun a N' => a = some (vi 1) ∧ gI N' ∧ fr [(61, 36, 38)] N N' ∧ N' 61 36 = c' ∧ N' 61 37 = t' ∧ N' 61 38 = h')
/-- in c, having rounded r, one has rounded r' -/
def rdT (M : pM) (c r r' : Int) : Prop := (r ≤ r' ∧ r' ≤ M 61 40 ∧ r' ≤ 3) ∧ ∀ N, gI N → agL PTl M N → OJ 20 227 [vr 62, vi c, vi r] 119 N (fun a N' => a = some (vi r') ∧ N' = N)
def rng (t c h r : Int) : Prop := (0 ≤ t ∧ t ≤ 36) ∧ (0 ≤ c ∧ c ≤ 63) ∧ (0 ≤ h ∧ h ≤ 40) ∧ 0 ≤ r ∧ r ≤ 3
def spo (t c h r : Int) : Int := 10496 * t + 164 * c + 4 * h + r
def flo (M : pM) (c h r : Int) : Prop := r = M 61 40 ∧ c = M 87 (M 61 40).toNat ∧ M 61 44 ≤ h
def reT (b : Nat) (M : pM) (t c h r m y : Int) : Prop := ∃ t' c' h' r', rng t' c' h' r' ∧ t + 1 ≤ t' ∧ ldT b M (M 61 43) c t h m c' t' h' ∧ rdT M c' r r' ∧ y = spo t' c' h' r'
def goo (b : Nat) (M : pM) (t c h r v : Int) : Prop := flo M c h r ∨ 1000 ≤ v ∨ ∃ m y, 0 ≤ m ∧ m ≤ 24 ∧ reT b M t c h r m y ∧ M 88 y.toNat = v
def pds (b : Nat) (M : pM) (X : Int) : Prop := 0 ≤ M 61 40 ∧ M 61 40 ≤ 3 → ∀ t c h r, rng t c h r → r ≤ M 61 40 → 10496 * (36 - t) + 164 * c + 4 * h + r < X → goo b M t c h r (M 88 (spo t c h r).toNat)
/-- results that are named -/
def nm2 (q : Nat) (x y : Int) : Prop := ∃ i f a b, op2n i = some q ∧ iop i = some f ∧ r32 b ∧ x = 4294967296 * a + b ∧ y = f a b
def nm1 (q : Nat) (x y : Int) : Prop := match q with
  | 0 => y = w8 x
  | _ => y = ((Int32.ofInt x).toUInt32 % 65536).toInt32.toInt
def ln2 (q : Nat) (x y : Int) : Prop := ∃ i f a b, lo2n i = some q ∧ lop i = some f ∧ r64 b ∧ x = 18446744073709551616 * a + b ∧ y = f a b
def lnf (q : Nat) (a b : Int) : Int := match q with
  | 0 => (Int64.ofInt a <<< ((Int32.ofInt b).toInt64 &&& 63)).toInt
  | 1 => (Int64.ofInt a >>> ((Int32.ofInt b).toInt64 &&& 63)).toInt
  | _ => ((Int64.ofInt a).toUInt64 >>> ((Int32.ofInt b).toInt64.toUInt64 &&& Int64.toUInt64 63)).toInt64.toInt
def ln1 (q : Nat) (x y : Int) : Prop := ∃ a b, r32 b ∧ x = 4294967296 * a + b ∧ y = lnf q a b
def hNM (p : Nat) (x y : Int) : Prop := if p < 106 then nm2 (p - 100) x y else if p < 116 then ln2 (p - 110) x y else if p < 119 then ln1 (p - 116) x y else nm1 (p - 120) x y
/-! ===== the gate: the text of a map, its tokens ===== -/
def isC (P : Nat) (c : Int) : Bool := match P with
  | 0 => decide (c = 32 ∨ c = 10)
  | 1 => decide (97 ≤ c ∧ c ≤ 122)
  | _ => decide (48 ≤ c ∧ c ≤ 57)
/-- how many bytes there are -/
def tN (M : pM) : Nat := min (M 2 1).toNat 1900
def rn (M : pM) (P p : Nat) : Nat → Nat
  | 0 => p
  | k + 1 => if isC P (M 1 p) = true then rn M P (p + 1) k else p
/-- where the run of kind P from p on ends -/
def ru (M : pM) (P p : Nat) : Nat := rn M P p (tN M - p)
def al (M : pM) (P p q : Nat) : Prop := p ≤ q ∧ (q ≤ tN M ∨ q = p) ∧ ∀ i, p ≤ i → i < q → isC P (M 1 i) = true
theorem rn_al {M : pM} {P : Nat} : ∀ {k p q : Nat}, p ≤ q → q ≤ p + k → (∀ i, p ≤ i → i < q → isC P (M 1 i) = true) → (q = p + k ∨ isC P (M 1 q) = false) → rn M P p k = q
  | 0, p, q, h1, h2, _, _ => by show p = q; omega
  | k + 1, p, q, h1, h2, h3, h4 => by
    show (if isC P (M 1 p) = true then rn M P (p + 1) k else p) = q
    by_cases hp : p = q
    · subst hp
      rcases h4 with h4 | h4
      · omega
      · rw [h4]; rfl
    · rw [if_pos (h3 p (Nat.le_refl p) (by omega))]
      refine rn_al (by omega) (by omega) (fun i i1 i2 => h3 i (by omega) i2) ?_
      rcases h4 with h4 | h4
      · exact Or.inl (by omega)
      · exact Or.inr h4
theorem ru_al {M : pM} {P p q : Nat} (h : al M P p q) (h4 : tN M ≤ q ∨ isC P (M 1 q) = false) : ru M P p = q := by
  obtain ⟨h1, h2, h3⟩ := h
  unfold ru
  by_cases hq : q ≤ tN M
  · refine rn_al h1 (by omega) h3 ?_
    rcases h4 with h4 | h4
    · exact Or.inl (by omega)
    · exact Or.inr h4
  · have : q = p := by omega
    subst this
    rw [show tN M - q = 0 by omega]
    rfl
theorem rn_in {M : pM} {P : Nat} : ∀ {k p i : Nat}, p ≤ i → i < rn M P p k → isC P (M 1 i) = true
  | 0, p, i, h1, h2 => by
    have h2 : i < p := h2
    omega
  | k + 1, p, i, h1, h2 => by
    have h2 : i < (if isC P (M 1 p) = true then rn M P (p + 1) k else p) := h2
    by_cases hp : isC P (M 1 p) = true
    · rw [if_pos hp] at h2
      by_cases hi : i = p
      · rw [hi]; exact hp
      · exact rn_in (by omega) h2
    · rw [if_neg hp] at h2
      omega
theorem ru_in {M : pM} {P p i : Nat} (h1 : p ≤ i) (h2 : i < ru M P p) : isC P (M 1 i) = true := rn_in h1 h2
/-- the value of k digits from s on, the packing of k letters -/
def dv (M : pM) (s : Nat) : Nat → Int
  | 0 => 0
  | k + 1 => 10 * dv M s k + (M 1 (s + k) - 48)
def pkd (m a : Int) (M : pM) (s : Nat) : Nat → Int
  | 0 => 0
  | k + 1 => m * pkd m a M s k + (M 1 (s + k) - a)
def kws : List (List Int) := [[114, 111, 119], [108, 105, 102, 116], [119, 105, 110, 100], [116, 111, 112], [119, 97, 108, 108], [97, 98, 111, 118, 101], [102, 114, 111, 109], [116, 111], [102, 105, 101, 108, 100], [114, 111, 97, 100], [103, 108, 105, 100, 101, 114], [115, 105, 110, 107], [104, 97, 110, 100, 105, 99, 97, 112], [115, 99, 111, 114, 101], [97, 110, 100], [111, 114], [110, 111, 116], [100, 111, 110, 101], [108, 101, 103, 115], [116, 105, 109, 101], [98, 101, 115, 116], [102, 105, 114, 115, 116], [119, 97, 108, 108, 115], [114, 111, 117, 110, 100, 101, 100]]
def bts (M : pM) (s k : Nat) : List Int := (List.range k).map (fun i => M 1 (s + i))
/-- the place of a word among the kept ones, or -1 -/
def wid (M : pM) (s e : Nat) : Int := if bts M s (e - s) ∈ kws then (kws.idxOf (bts M s (e - s)) : Int) else -1
def sgs : List Int := [59, 40, 41, 60, 62, 61, 43, 45, 42, 47]
/-- the token from p on: its begin, its end, its code -/
def tS (M : pM) (p : Nat) : Nat := ru M 0 p
def tE (M : pM) (p : Nat) : Nat := if tN M ≤ tS M p then tS M p else if tS M p < ru M 1 (tS M p) then ru M 1 (tS M p) else if tS M p < ru M 2 (tS M p) then ru M 2 (tS M p) else tS M p + 1
def tK (M : pM) (p : Nat) : Int := if tN M ≤ tS M p then 131071 else if tS M p < ru M 1 (tS M p) then (if ru M 1 (tS M p) ≤ tS M p + 8 then 262144 + wid M (tS M p) (ru M 1 (tS M p)) else -1) else if tS M p < ru M 2 (tS M p) then (if ru M 2 (tS M p) ≤ tS M p + 4 ∧ ru M 1 (ru M 2 (tS M p)) = ru M 2 (tS M p) then 393216 + dv M (tS M p) (ru M 2 (tS M p) - tS M p) else -1) else if M 1 (tS M p) ∈ sgs then 524288 + M 1 (tS M p) else M 1 (tS M p)
theorem tk_end {M : pM} {p s : Nat} (h : ru M 0 p = s) (h1 : tN M ≤ s) : tS M p = s ∧ tE M p = s ∧ tK M p = 131071 := by
  have hs : tS M p = s := h
  refine ⟨hs, ?_, ?_⟩
  · unfold tE; rw [hs, if_pos h1]
  · unfold tK; rw [hs, if_pos h1]
theorem tk_word {M : pM} {p s e : Nat} (h : ru M 0 p = s) (h1 : s < tN M) (h2 : ru M 1 s = e) (h3 : s < e) (h4 : e ≤ s + 8) : tS M p = s ∧ tE M p = e ∧ tK M p = 262144 + wid M s e := by
  have hs : tS M p = s := h
  refine ⟨hs, ?_, ?_⟩
  · unfold tE; rw [hs, if_neg (by omega), h2, if_pos h3]
  · unfold tK; rw [hs, if_neg (by omega), h2, if_pos h3, if_pos h4]
theorem tk_long {M : pM} {p s e : Nat} (h : ru M 0 p = s) (h1 : s < tN M) (h2 : ru M 1 s = e) (h4 : s + 9 ≤ e) : tS M p = s ∧ tE M p = e ∧ tK M p = -1 := by
  have hs : tS M p = s := h
  refine ⟨hs, ?_, ?_⟩
  · unfold tE; rw [hs, if_neg (by omega), h2, if_pos (by omega)]
  · unfold tK; rw [hs, if_neg (by omega), h2, if_pos (by omega), if_neg (by omega)]
theorem tk_num {M : pM} {p s e : Nat} (h : ru M 0 p = s) (h1 : s < tN M) (h2 : ru M 1 s = s) (h3 : ru M 2 s = e) (h5 : s < e) (h6 : e ≤ s + 4) (h7 : ru M 1 e = e) : tS M p = s ∧ tE M p = e ∧ tK M p = 393216 + dv M s (e - s) := by
  have hs : tS M p = s := h
  refine ⟨hs, ?_, ?_⟩
  · unfold tE; rw [hs, if_neg (by omega), h2, if_neg (by omega), h3, if_pos h5]
  · unfold tK; rw [hs, if_neg (by omega), h2, if_neg (by omega), h3, if_pos h5, if_pos ⟨h6, h7⟩]
theorem tk_bad {M : pM} {p s e : Nat} (h : ru M 0 p = s) (h1 : s < tN M) (h2 : ru M 1 s = s) (h3 : ru M 2 s = e) (h5 : s < e) (h6 : ¬ (e ≤ s + 4 ∧ ru M 1 e = e)) : tS M p = s ∧ tE M p = e ∧ tK M p = -1 := by
  have hs : tS M p = s := h
  refine ⟨hs, ?_, ?_⟩
  · unfold tE; rw [hs, if_neg (by omega), h2, if_neg (by omega), h3, if_pos h5]
  · unfold tK; rw [hs, if_neg (by omega), h2, if_neg (by omega), h3, if_pos h5, if_neg h6]
theorem tk_sign {M : pM} {p s : Nat} (h : ru M 0 p = s) (h1 : s < tN M) (h2 : ru M 1 s = s) (h3 : ru M 2 s = s) : tS M p = s ∧ tE M p = s + 1 ∧ tK M p = if M 1 s ∈ sgs then 524288 + M 1 s else M 1 s := by
  have hs : tS M p = s := h
  refine ⟨hs, ?_, ?_⟩
  · unfold tE; rw [hs, if_neg (by omega), h2, if_neg (by omega), h3, if_neg (by omega)]
  · unfold tK; rw [hs, if_neg (by omega), h2, if_neg (by omega), h3, if_neg (by omega)]
/-! a saying of the text: memories that agree on the text agree on its tokens -/
def agT (M M' : pM) : Prop := (∀ i, i < 2000 → M' 1 i = M 1 i) ∧ M' 2 1 = M 2 1
theorem tN_le {M : pM} : tN M ≤ 1900 := Nat.min_le_right _ _
theorem tN_ag {M M' : pM} (h : agT M M') : tN M' = tN M := by unfold tN; rw [h.2]
theorem rn_ag {M M' : pM} (h : agT M M') {P : Nat} : ∀ {k p : Nat}, p + k ≤ 2000 → rn M' P p k = rn M P p k
  | 0, _, _ => rfl
  | k + 1, p, hp => by
    show (if isC P (M' 1 p) = true then rn M' P (p + 1) k else p) = (if isC P (M 1 p) = true then rn M P (p + 1) k else p)
    rw [h.1 p (by omega), rn_ag h (by omega)]
theorem ru_ag {M M' : pM} (h : agT M M') {P p : Nat} : ru M' P p = ru M P p := by
  unfold ru
  rw [tN_ag h]
  have := tN_le (M := M)
  by_cases hp : p ≤ 1900
  · exact rn_ag h (by omega)
  · rw [show tN M - p = 0 by omega]; rfl
theorem rn_bd {M : pM} {P : Nat} : ∀ {k p : Nat}, p ≤ rn M P p k ∧ rn M P p k ≤ p + k
  | 0, p => ⟨Nat.le_refl p, Nat.le_refl p⟩
  | k + 1, p => by
    have := rn_bd (M := M) (P := P) (k := k) (p := p + 1)
    show p ≤ (if isC P (M 1 p) = true then rn M P (p + 1) k else p) ∧ (if isC P (M 1 p) = true then rn M P (p + 1) k else p) ≤ p + (k + 1)
    split <;> omega
theorem ru_bd {M : pM} {P p : Nat} : p ≤ ru M P p ∧ (ru M P p ≤ tN M ∨ ru M P p = p) := by
  have := rn_bd (M := M) (P := P) (k := tN M - p) (p := p)
  unfold ru
  omega
theorem dv_ag {M M' : pM} (h : agT M M') {s : Nat} : ∀ {k : Nat}, s + k ≤ 2000 → dv M' s k = dv M s k
  | 0, _ => rfl
  | k + 1, hk => by
    show 10 * dv M' s k + (M' 1 (s + k) - 48) = 10 * dv M s k + (M 1 (s + k) - 48)
    rw [dv_ag h (by omega), h.1 (s + k) (by omega)]
theorem tS_ag {M M' : pM} (h : agT M M') {p : Nat} : tS M' p = tS M p := ru_ag h
theorem bts_ag {M M' : pM} (h : agT M M') {s k : Nat} (hk : s + k ≤ 2000) : bts M' s k = bts M s k := by
  unfold bts
  exact List.map_congr_left (fun i hi => h.1 (s + i) (by have := List.mem_range.mp hi; omega))
theorem wid_ag {M M' : pM} (h : agT M M') {s e : Nat} (h1 : s ≤ 2000) (h2 : e ≤ 2000) : wid M' s e = wid M s e := by
  unfold wid
  rw [bts_ag h (by omega)]
theorem tE_ag {M M' : pM} (h : agT M M') {p : Nat} : tE M' p = tE M p := by
  unfold tE
  rw [tS_ag h, tN_ag h, ru_ag h, ru_ag h]
theorem tK_ag {M M' : pM} (h : agT M M') {p : Nat} : tK M' p = tK M p := by
  unfold tK
  rw [tS_ag h, tN_ag h]
  simp only [ru_ag h]
  by_cases h1 : tN M ≤ tS M p
  · rw [if_pos h1, if_pos h1]
  · rw [if_neg h1, if_neg h1]
    have b0 := tN_le (M := M)
    have b1 := ru_bd (M := M) (P := 1) (p := tS M p)
    have b2 := ru_bd (M := M) (P := 2) (p := tS M p)
    rw [wid_ag h (by omega) (by omega), dv_ag h (by omega), h.1 (tS M p) (by omega)]
/-- the gate's sayings, and the named results from 100 on -/
def HG (p : Nat) (x y : Int) (M : pM) : Prop := if 100 ≤ p ∧ p < 126 then hNM p x y else if p = 43 then (∃ P p q : Nat, P ≤ 2 ∧ p ≤ 1900 ∧ x = 2048 * P + p ∧ y = q ∧ al M P p q) else if p = 44 then (∃ P p : Nat, P ≤ 2 ∧ p ≤ 1900 ∧ x = 2048 * P + p ∧ y = (ru M P p : Int)) else if p = 45 then (0 ≤ x ∧ y = (tS M x.toNat : Int)) else if p = 46 then (0 ≤ x ∧ y = (tE M x.toNat : Int)) else if p = 47 then (0 ≤ x ∧ y = tK M x.toNat) else if p = 50 then (∃ s e : Nat, s ≤ 1900 ∧ e ≤ 1900 ∧ x = 2048 * s + e ∧ y = wid M s e) else if p = 51 then (∃ s e : Nat, s ≤ e ∧ e ≤ 1900 ∧ x = 2048 * s + e ∧ y = dv M s (e - s)) else True
def HP (p : Nat) (x y : Int) (M : pM) : Prop := match p with
  | 0 => mvd 4 x y M
  | 1 => mvd 13 x y M
  | 2 => 0 ≤ x ∧ x ≤ 299 ∧ hgt M 0 x.toNat = some y
  | 3 => 300 ≤ x ∧ x ≤ 599 ∧ hgt M 300 (x - 300).toNat = some y
  | 4 => 0 ≤ x ∧ x ≤ 80 ∧ pbc M x.toNat = some y
  | 5 => M 61 8 = 3 → M 61 10 = 7237492 → 3 ≤ x
  | 6 => M 61 10 = 7237492 → 3 ≤ x
  | 7 => M 61 85 ≠ 0 → ∃ H : Int, 0 ≤ H ∧ H ≤ 60 ∧ ((M 61 80 = 0 ∧ 0 ≤ M 110 0 ∧ M 110 0 ≤ 299 ∧ hgt M 0 (M 110 0).toNat = some H) ∨ (M 61 80 = 1 ∧ 0 ≤ M 110 1 ∧ M 110 1 ≤ 299 ∧ hgt M 300 (M 110 1).toNat = some H))
  | 8 => 0 ≤ M 61 43 → (M 61 34 = 0 ∧ pds 0 M 388352) ∨ (M 61 34 = 1 ∧ pds 1 M 388352)
  | 9 => pds 0 M x
  | 10 => pds 1 M x
  | 11 => ∃ t c h r, rng t c h r ∧ x = spo t c h r ∧ goo 0 M t c h r y
  | 12 => ∃ t c h r, rng t c h r ∧ x = spo t c h r ∧ goo 1 M t c h r y
  | 13 => ∃ t c h r m, rng t c h r ∧ x = spo t c h r ∧ 0 ≤ m ∧ m ≤ 24 ∧ reT 0 M t c h r m y
  | 14 => ∃ t c h r m, rng t c h r ∧ x = spo t c h r ∧ 0 ≤ m ∧ m ≤ 24 ∧ reT 1 M t c h r m y
  | 15 => ∃ t c h r, rng t c h r ∧ x = spo t c h r ∧ 0 ≤ y ∧ y ≤ 24 ∧ t + 1 ≤ M 61 37 ∧ ldT 0 M (M 61 43) c t h y (M 61 36) (M 61 37) (M 61 38)
  | 16 => ∃ t c h r, rng t c h r ∧ x = spo t c h r ∧ 0 ≤ y ∧ y ≤ 24 ∧ t + 1 ≤ M 61 37 ∧ ldT 1 M (M 61 43) c t h y (M 61 36) (M 61 37) (M 61 38)
  | 17 => ∃ t c h r, rng t c h r ∧ x = spo t c h r ∧ 0 ≤ y ∧ y ≤ 24 ∧ ∃ z, reT 0 M t c h r y z ∧ M 88 z.toNat = M 88 x.toNat
  | 18 => ∃ t c h r, rng t c h r ∧ x = spo t c h r ∧ 0 ≤ y ∧ y ≤ 24 ∧ ∃ z, reT 1 M t c h r y z ∧ M 88 z.toNat = M 88 x.toNat
  | 19 => ∃ c r, 0 ≤ c ∧ c ≤ 63 ∧ 0 ≤ r ∧ r ≤ 3 ∧ x = 4 * c + r ∧ rdT M c r y
  | 20 => ∀ t c h r, rng t c h r → x = spo t c h r → ¬ flo M c h r
  | 21 => ∃ t c h r, rng t c h r ∧ x = spo t c h r ∧ ∃ r', rng (M 61 37) (M 61 36) (M 61 38) r' ∧ rdT M (M 61 36) r r' ∧ M 88 (spo (M 61 37) (M 61 36) (M 61 38) r').toNat = y
  | p + 22 => HG (p + 22) x y M
theorem hgt_congr {M M' : pM} {s : Nat} : ∀ {k : Nat}, (∀ i, s ≤ i → i < s + k → M' 108 i = M 108 i) → hgt M' s k = hgt M s k
  | 0, _ => rfl
  | k + 1, h => by
    have ih := hgt_congr (M := M) (M' := M') (s := s) (k := k) (fun i h1 h2 => h i h1 (by omega))
    unfold hgt
    rw [ih, h (s + k) (by omega) (by omega)]
theorem pbc_congr {M M' : pM} : ∀ {k : Nat}, (∀ i, i < k → M' 111 i = M 111 i ∧ M' 112 i = M 112 i) → pbc M' k = pbc M k
  | 0, _ => rfl
  | k + 1, h => by
    have ih := pbc_congr (M := M) (M' := M') (k := k) (fun i h1 => h i (by omega))
    unfold pbc
    rw [ih, (h k (by omega)).1, (h k (by omega)).2]
theorem inM_1 {c lo hi k : Nat} {m : mdL} (h1 : lo ≤ k) (h2 : k ≤ hi) (h : (c, lo, hi) ∈ m) : inM m c k = true := by
  refine List.any_eq_true.mpr ⟨_, h, ?_⟩
  show (Nat.beq c c && Nat.ble lo k && Nat.ble k hi) = true
  rw [Nat.beq_refl, Nat.ble_eq_true_of_le h1, Nat.ble_eq_true_of_le h2]
  rfl
theorem ag_tr {l : List (Nat × Nat × Nat)} {M M' N : pM} (h : agL l M M') (h2 : agL l M' N) : agL l M N := fun c k hk => by rw [h2 c k hk, h c k hk]
theorem ldT_c {b : Nat} {M M' : pM} (h : agL (RLb b) M M') {g c t k m c' t' k' : Int} (h1 : ldT b M g c t k m c' t' k') : ldT b M' g c t k m c' t' k' := fun N hN ha => h1 N hN (ag_tr h ha)
theorem rdT_c {M M' : pM} (h : agL PTl M M') {c r r' : Int} (h1 : rdT M c r r') : rdT M' c r r' := ⟨by rw [h 61 40 rfl]; exact h1.1, fun N hN ha => h1.2 N hN (ag_tr h ha)⟩
theorem reT_c {b : Nat} {M M' : pM} (h : agL (RLb b) M M') (h2 : agL PTl M M') (h3 : M' 61 43 = M 61 43) {t c k r m y : Int} (h1 : reT b M t c k r m y) : reT b M' t c k r m y := by
  obtain ⟨t', c', h', r', a1, a2, a3, a4, a5⟩ := h1
  exact ⟨t', c', h', r', a1, a2, by rw [h3]; exact ldT_c h a3, rdT_c h2 a4, a5⟩
theorem flo_c {M M' : pM} (hg : M' 61 40 = M 61 40) (h8 : ∀ k, k ≤ 3 → M' 87 k = M 87 k) (h4 : M' 61 44 = M 61 44) {c k r : Int} (hr : r ≤ 3) (h1 : flo M' c k r) : flo M c k r := by
  obtain ⟨a1, a2, a3⟩ := h1
  rw [hg] at a1
  rw [hg, h8 _ (by omega)] at a2
  exact ⟨a1, a2, by omega⟩
theorem flo_d {M M' : pM} (hg : M' 61 40 = M 61 40) (h8 : ∀ k, k ≤ 3 → M' 87 k = M 87 k) (h4 : M' 61 44 = M 61 44) {c k r : Int} (hr : r ≤ 3) (h1 : flo M c k r) : flo M' c k r := flo_c hg.symm (fun k hk => (h8 k hk).symm) h4.symm hr h1
theorem goo_c {b : Nat} {M M' : pM} (h : agL (RLb b) M M') (h2 : agL PTl M M') (h3 : M' 61 43 = M 61 43) (h4 : M' 61 44 = M 61 44) (h8 : ∀ k, k ≤ 388351 → M' 88 k = M 88 k) {t c k r v : Int} (hr : r ≤ 3) (h1 : goo b M t c k r v) : goo b M' t c k r v := by
  rcases h1 with h1 | h1 | ⟨m, y, m1, m2, m3, m4⟩
  · exact Or.inl (flo_d (h2 61 40 rfl) (fun i hi => h2 87 i (inM_1 (lo := 0) (hi := 3) (by omega) hi (List.mem_cons_of_mem _ List.mem_cons_self))) h4 hr h1)
  · exact Or.inr (Or.inl h1)
  · refine Or.inr (Or.inr ⟨m, y, m1, m2, reT_c h h2 h3 m3, ?_⟩)
    obtain ⟨t', c', h', r', ⟨a1, a2, a3, a4⟩, _, _, _, a5⟩ := m3
    rw [h8 _ (by unfold spo at a5; omega)]
    exact m4
theorem pds_c {b : Nat} {M M' : pM} (h : agL (RLb b) M M') (h2 : agL PTl M M') (h3 : M' 61 43 = M 61 43) (h4 : M' 61 44 = M 61 44) (h8 : ∀ k, k ≤ 388351 → M' 88 k = M 88 k) {X : Int} (h1 : pds b M X) : pds b M' X := by
  intro h0 t c k r hr hq hp
  have e4 : M' 61 40 = M 61 40 := h2 61 40 rfl
  rw [e4] at h0 hq
  have := h1 h0 t c k r hr hq hp
  obtain ⟨a1, a2, a3, a4⟩ := hr
  rw [h8 _ (by unfold spo; omega)]
  exact goo_c h h2 h3 h4 h8 a4.2 this
theorem inM_l {a b : mdL} {c k : Nat} (h : inM a c k = true) : inM (a ++ b) c k = true := by
  unfold inM at h ⊢
  rw [List.any_append, h]
  rfl
theorem inM_r {a b : mdL} {c k : Nat} (h : inM b c k = true) : inM (a ++ b) c k = true := by
  unfold inM at h ⊢
  rw [List.any_append, h, Bool.or_true]
theorem hpd_8 {x y : Int} {M M' : pM} (h : ∀ c k, inM (RLb 0 ++ (RLb 1 ++ (PTl ++ ENl))) c k = true → M' c k = M c k) (hp : HP 8 x y M) : HP 8 x y M' := by
  have i0 : agL (RLb 0) M M' := fun c k hk => h c k (inM_l (b := RLb 1 ++ (PTl ++ ENl)) hk)
  have i1 : agL (RLb 1) M M' := fun c k hk => h c k (inM_r (a := RLb 0) (inM_l (b := PTl ++ ENl) hk))
  have i2 : agL PTl M M' := fun c k hk => h c k (inM_r (a := RLb 0) (inM_r (a := RLb 1) (inM_l (b := ENl) hk)))
  have h8 : ∀ k, k ≤ 388351 → M' 88 k = M 88 k := fun k hk => h 88 k (inM_r (a := RLb 0) (inM_r (a := RLb 1) (inM_r (a := PTl) (inM_1 (lo := 0) (hi := 388351) (by omega) hk (List.mem_cons_of_mem _ List.mem_cons_self)))))
  intro q
  have e1 : M' 61 43 = M 61 43 := h 61 43 rfl
  have e2 : M' 61 34 = M 61 34 := h 61 34 rfl
  have e3 : M' 61 44 = M 61 44 := h 61 44 rfl
  rw [e1] at q
  rw [e2]
  exact (hp q).imp (fun q => ⟨q.1, pds_c i0 i2 e1 e3 h8 q.2⟩) (fun q => ⟨q.1, pds_c i1 i2 e1 e3 h8 q.2⟩)
theorem hpd_9 {x y : Int} {M M' : pM} (h : ∀ c k, inM (RLb 0 ++ (PTl ++ ENl)) c k = true → M' c k = M c k) (hp : HP 9 x y M) : HP 9 x y M' := by
  have i0 : agL (RLb 0) M M' := fun c k hk => h c k (inM_l (b := PTl ++ ENl) hk)
  have i2 : agL PTl M M' := fun c k hk => h c k (inM_r (a := RLb 0) (inM_l (b := ENl) hk))
  have h8 : ∀ k, k ≤ 388351 → M' 88 k = M 88 k := fun k hk => h 88 k (inM_r (a := RLb 0) (inM_r (a := PTl) (inM_1 (lo := 0) (hi := 388351) (by omega) hk (List.mem_cons_of_mem _ List.mem_cons_self))))
  exact pds_c i0 i2 (h 61 43 rfl) (h 61 44 rfl) h8 hp
theorem hpd_10 {x y : Int} {M M' : pM} (h : ∀ c k, inM (RLb 1 ++ (PTl ++ ENl)) c k = true → M' c k = M c k) (hp : HP 10 x y M) : HP 10 x y M' := by
  have i0 : agL (RLb 1) M M' := fun c k hk => h c k (inM_l (b := PTl ++ ENl) hk)
  have i2 : agL PTl M M' := fun c k hk => h c k (inM_r (a := RLb 1) (inM_l (b := ENl) hk))
  have h8 : ∀ k, k ≤ 388351 → M' 88 k = M 88 k := fun k hk => h 88 k (inM_r (a := RLb 1) (inM_r (a := PTl) (inM_1 (lo := 0) (hi := 388351) (by omega) hk (List.mem_cons_of_mem _ List.mem_cons_self))))
  exact pds_c i0 i2 (h 61 43 rfl) (h 61 44 rfl) h8 hp
theorem hpd_11 {x y : Int} {M M' : pM} (h : ∀ c k, inM (RLb 0 ++ (PTl ++ ENl)) c k = true → M' c k = M c k) (hp : HP 11 x y M) : HP 11 x y M' := by
  have i0 : agL (RLb 0) M M' := fun c k hk => h c k (inM_l (b := PTl ++ ENl) hk)
  have i2 : agL PTl M M' := fun c k hk => h c k (inM_r (a := RLb 0) (inM_l (b := ENl) hk))
  have h8 : ∀ k, k ≤ 388351 → M' 88 k = M 88 k := fun k hk => h 88 k (inM_r (a := RLb 0) (inM_r (a := PTl) (inM_1 (lo := 0) (hi := 388351) (by omega) hk (List.mem_cons_of_mem _ List.mem_cons_self))))
  obtain ⟨t, c, k, r, a1, a2, a3⟩ := hp
  exact ⟨t, c, k, r, a1, a2, goo_c i0 i2 (h 61 43 rfl) (h 61 44 rfl) h8 a1.2.2.2.2 a3⟩
theorem hpd_12 {x y : Int} {M M' : pM} (h : ∀ c k, inM (RLb 1 ++ (PTl ++ ENl)) c k = true → M' c k = M c k) (hp : HP 12 x y M) : HP 12 x y M' := by
  have i0 : agL (RLb 1) M M' := fun c k hk => h c k (inM_l (b := PTl ++ ENl) hk)
  have i2 : agL PTl M M' := fun c k hk => h c k (inM_r (a := RLb 1) (inM_l (b := ENl) hk))
  have h8 : ∀ k, k ≤ 388351 → M' 88 k = M 88 k := fun k hk => h 88 k (inM_r (a := RLb 1) (inM_r (a := PTl) (inM_1 (lo := 0) (hi := 388351) (by omega) hk (List.mem_cons_of_mem _ List.mem_cons_self))))
  obtain ⟨t, c, k, r, a1, a2, a3⟩ := hp
  exact ⟨t, c, k, r, a1, a2, goo_c i0 i2 (h 61 43 rfl) (h 61 44 rfl) h8 a1.2.2.2.2 a3⟩
theorem hpd_13 {x y : Int} {M M' : pM} (h : ∀ c k, inM (RLb 0 ++ (PTl ++ [(61, 43, 43)])) c k = true → M' c k = M c k) (hp : HP 13 x y M) : HP 13 x y M' := by
  have i0 : agL (RLb 0) M M' := fun c k hk => h c k (inM_l (b := PTl ++ [(61, 43, 43)]) hk)
  have i2 : agL PTl M M' := fun c k hk => h c k (inM_r (a := RLb 0) (inM_l (b := [(61, 43, 43)]) hk))
  obtain ⟨t, c, k, r, m, a1, a2, a3, a4, a5⟩ := hp
  exact ⟨t, c, k, r, m, a1, a2, a3, a4, reT_c i0 i2 (h 61 43 rfl) a5⟩
theorem hpd_14 {x y : Int} {M M' : pM} (h : ∀ c k, inM (RLb 1 ++ (PTl ++ [(61, 43, 43)])) c k = true → M' c k = M c k) (hp : HP 14 x y M) : HP 14 x y M' := by
  have i0 : agL (RLb 1) M M' := fun c k hk => h c k (inM_l (b := PTl ++ [(61, 43, 43)]) hk)
  have i2 : agL PTl M M' := fun c k hk => h c k (inM_r (a := RLb 1) (inM_l (b := [(61, 43, 43)]) hk))
  obtain ⟨t, c, k, r, m, a1, a2, a3, a4, a5⟩ := hp
  exact ⟨t, c, k, r, m, a1, a2, a3, a4, reT_c i0 i2 (h 61 43 rfl) a5⟩
theorem hpd_15 {x y : Int} {M M' : pM} (h : ∀ c k, inM (RLb 0 ++ [(61, 43, 43), (61, 36, 38)]) c k = true → M' c k = M c k) (hp : HP 15 x y M) : HP 15 x y M' := by
  have i0 : agL (RLb 0) M M' := fun c k hk => h c k (inM_l (b := [(61, 43, 43), (61, 36, 38)]) hk)
  obtain ⟨t, c, k, r, a1, a2, a3, a4, a5, a6⟩ := hp
  exact ⟨t, c, k, r, a1, a2, a3, a4, by rw [h 61 37 rfl]; exact a5, by rw [h 61 43 rfl, h 61 36 rfl, h 61 37 rfl, h 61 38 rfl]; exact ldT_c i0 a6⟩
theorem hpd_16 {x y : Int} {M M' : pM} (h : ∀ c k, inM (RLb 1 ++ [(61, 43, 43), (61, 36, 38)]) c k = true → M' c k = M c k) (hp : HP 16 x y M) : HP 16 x y M' := by
  have i0 : agL (RLb 1) M M' := fun c k hk => h c k (inM_l (b := [(61, 43, 43), (61, 36, 38)]) hk)
  obtain ⟨t, c, k, r, a1, a2, a3, a4, a5, a6⟩ := hp
  exact ⟨t, c, k, r, a1, a2, a3, a4, by rw [h 61 37 rfl]; exact a5, by rw [h 61 43 rfl, h 61 36 rfl, h 61 37 rfl, h 61 38 rfl]; exact ldT_c i0 a6⟩
theorem hpd_17 {x y : Int} {M M' : pM} (h : ∀ c k, inM (RLb 0 ++ (PTl ++ ENl)) c k = true → M' c k = M c k) (hp : HP 17 x y M) : HP 17 x y M' := by
  have i0 : agL (RLb 0) M M' := fun c k hk => h c k (inM_l (b := PTl ++ ENl) hk)
  have i2 : agL PTl M M' := fun c k hk => h c k (inM_r (a := RLb 0) (inM_l (b := ENl) hk))
  have h8 : ∀ k, k ≤ 388351 → M' 88 k = M 88 k := fun k hk => h 88 k (inM_r (a := RLb 0) (inM_r (a := PTl) (inM_1 (lo := 0) (hi := 388351) (by omega) hk (List.mem_cons_of_mem _ List.mem_cons_self))))
  obtain ⟨t, c, k, r, a1, a2, a3, a4, z, a5, a6⟩ := hp
  refine ⟨t, c, k, r, a1, a2, a3, a4, z, reT_c i0 i2 (h 61 43 rfl) a5, ?_⟩
  obtain ⟨t', c', h', r', ⟨d1, d2, d3, d4⟩, _, _, _, d5⟩ := a5
  obtain ⟨f1, f2, f3, f4⟩ := a1
  rw [h8 _ (by unfold spo at d5; omega), h8 _ (by unfold spo at a2; omega)]
  exact a6
theorem hpd_18 {x y : Int} {M M' : pM} (h : ∀ c k, inM (RLb 1 ++ (PTl ++ ENl)) c k = true → M' c k = M c k) (hp : HP 18 x y M) : HP 18 x y M' := by
  have i0 : agL (RLb 1) M M' := fun c k hk => h c k (inM_l (b := PTl ++ ENl) hk)
  have i2 : agL PTl M M' := fun c k hk => h c k (inM_r (a := RLb 1) (inM_l (b := ENl) hk))
  have h8 : ∀ k, k ≤ 388351 → M' 88 k = M 88 k := fun k hk => h 88 k (inM_r (a := RLb 1) (inM_r (a := PTl) (inM_1 (lo := 0) (hi := 388351) (by omega) hk (List.mem_cons_of_mem _ List.mem_cons_self))))
  obtain ⟨t, c, k, r, a1, a2, a3, a4, z, a5, a6⟩ := hp
  refine ⟨t, c, k, r, a1, a2, a3, a4, z, reT_c i0 i2 (h 61 43 rfl) a5, ?_⟩
  obtain ⟨t', c', h', r', ⟨d1, d2, d3, d4⟩, _, _, _, d5⟩ := a5
  obtain ⟨f1, f2, f3, f4⟩ := a1
  rw [h8 _ (by unfold spo at d5; omega), h8 _ (by unfold spo at a2; omega)]
  exact a6
theorem hpd_19 {x y : Int} {M M' : pM} (h : ∀ c k, inM (PTl) c k = true → M' c k = M c k) (hp : HP 19 x y M) : HP 19 x y M' := by
  obtain ⟨c, r, a1, a2, a3, a4, a5, a6⟩ := hp
  exact ⟨c, r, a1, a2, a3, a4, a5, rdT_c h a6⟩
theorem hpd_20 {x y : Int} {M M' : pM} (h : ∀ c k, inM (PTl ++ [(61, 44, 44)]) c k = true → M' c k = M c k) (hp : HP 20 x y M) : HP 20 x y M' := by
  intro t c k r hr hx hfl
  have i2 : agL PTl M M' := fun c k hk => h c k (inM_l (b := [(61, 44, 44)]) hk)
  exact hp t c k r hr hx (flo_c (i2 61 40 rfl) (fun i hi => i2 87 i (inM_1 (lo := 0) (hi := 3) (by omega) hi (List.mem_cons_of_mem _ List.mem_cons_self))) (h 61 44 rfl) hr.2.2.2.2 hfl)
theorem hpd_21 {x y : Int} {M M' : pM} (h : ∀ c k, inM (PTl ++ [(61, 36, 38), (88, 0, 388351)]) c k = true → M' c k = M c k) (hp : HP 21 x y M) : HP 21 x y M' := by
  have i2 : agL PTl M M' := fun c k hk => h c k (inM_l (b := [(61, 36, 38), (88, 0, 388351)]) hk)
  have h8 : ∀ k, k ≤ 388351 → M' 88 k = M 88 k := fun k hk => h 88 k (inM_r (a := PTl) (inM_1 (lo := 0) (hi := 388351) (by omega) hk (List.mem_cons_of_mem _ List.mem_cons_self)))
  obtain ⟨t, c, k, r, a1, a2, r', a3, a4, a5⟩ := hp
  have e6 : M' 61 36 = M 61 36 := h 61 36 rfl
  have e7 : M' 61 37 = M 61 37 := h 61 37 rfl
  have e8 : M' 61 38 = M 61 38 := h 61 38 rfl
  refine ⟨t, c, k, r, a1, a2, r', by rw [e6, e7, e8]; exact a3, by rw [e6]; exact rdT_c i2 a4, ?_⟩
  rw [e6, e7, e8, h8 _ (by obtain ⟨d1, d2, d3, d4⟩ := a3; unfold spo; omega)]
  exact a5
theorem ag_of {M M' : pM} (h : ∀ c k, inM [(1, 0, 1999), (2, 1, 1)] c k = true → M' c k = M c k) : agT M M' := ⟨fun i hi => h 1 i (inM_1 (lo := 0) (hi := 1999) (by omega) (by omega) List.mem_cons_self), h 2 1 rfl⟩
theorem al_ag {M M' : pM} (h : agT M M') {P p q : Nat} (ha : al M P p q) : al M' P p q := by
  obtain ⟨h1, h2, h3⟩ := ha
  refine ⟨h1, by rw [tN_ag h]; exact h2, fun i i1 i2 => ?_⟩
  have := tN_le (M := M)
  rw [h.1 i (by omega)]
  exact h3 i i1 i2
theorem hg_dep {p : Nat} {x y : Int} {M M' : pM} (h : ∀ c k, inD (hdp p) c k = true → M' c k = M c k) (hp : HG p x y M) : HG p x y M' := by
  unfold HG at hp ⊢
  split
  · next hc => rw [if_pos hc] at hp; exact hp
  · next hc =>
    rw [if_neg hc] at hp
    by_cases h43 : p = 43
    · subst h43
      rw [if_pos rfl] at hp ⊢
      have hT : agT M M' := ag_of h
      obtain ⟨P, a, q, h1, h2, h3, h4, h5⟩ := hp
      exact ⟨P, a, q, h1, h2, h3, h4, al_ag hT h5⟩
    rw [if_neg h43] at hp ⊢
    by_cases h44 : p = 44
    · subst h44
      rw [if_pos rfl] at hp ⊢
      have hT : agT M M' := ag_of h
      obtain ⟨P, a, h1, h2, h3, h4⟩ := hp
      exact ⟨P, a, h1, h2, h3, by rw [ru_ag hT]; exact h4⟩
    rw [if_neg h44] at hp ⊢
    by_cases h45 : p = 45
    · subst h45
      rw [if_pos rfl] at hp ⊢
      have hT : agT M M' := ag_of h
      exact ⟨hp.1, by rw [tS_ag hT]; exact hp.2⟩
    rw [if_neg h45] at hp ⊢
    by_cases h46 : p = 46
    · subst h46
      rw [if_pos rfl] at hp ⊢
      have hT : agT M M' := ag_of h
      exact ⟨hp.1, by rw [tE_ag hT]; exact hp.2⟩
    rw [if_neg h46] at hp ⊢
    by_cases h47 : p = 47
    · subst h47
      rw [if_pos rfl] at hp ⊢
      have hT : agT M M' := ag_of h
      exact ⟨hp.1, by rw [tK_ag hT]; exact hp.2⟩
    rw [if_neg h47] at hp ⊢
    by_cases h50 : p = 50
    · subst h50
      rw [if_pos rfl] at hp ⊢
      have hT : agT M M' := ag_of h
      obtain ⟨s, e, h1, h2, h3, h4⟩ := hp
      exact ⟨s, e, h1, h2, h3, by rw [wid_ag hT (by omega) (by omega)]; exact h4⟩
    rw [if_neg h50] at hp ⊢
    by_cases h51 : p = 51
    · subst h51
      rw [if_pos rfl] at hp ⊢
      have hT : agT M M' := ag_of h
      obtain ⟨s, e, h1, h2, h3, h4⟩ := hp
      exact ⟨s, e, h1, h2, h3, by rw [dv_ag hT (by omega)]; exact h4⟩
    rw [if_neg h51] at hp ⊢
    trivial
theorem hp_dep {p : Nat} {x y : Int} {M M' : pM} (h : ∀ c k, inD (hdp p) c k = true → M' c k = M c k) (hp : HP p x y M) : HP p x y M' := by
  match p, h, hp with
  | 0, h, hp =>
    have : M' = M := funext (fun c => funext (fun k => h c k rfl))
    rw [this]
    exact hp
  | 1, h, hp =>
    have : M' = M := funext (fun c => funext (fun k => h c k rfl))
    rw [this]
    exact hp
  | 2, h, hp =>
    obtain ⟨h1, h2, h3⟩ := hp
    refine ⟨h1, h2, ?_⟩
    rw [hgt_congr (M := M) (fun i i1 i2 => h 108 i (inM_1 (lo := 0) (hi := 299) (by omega) (by omega) List.mem_cons_self))]
    exact h3
  | 3, h, hp =>
    obtain ⟨h1, h2, h3⟩ := hp
    refine ⟨h1, h2, ?_⟩
    rw [hgt_congr (M := M) (fun i i1 i2 => h 108 i (inM_1 (lo := 300) (hi := 599) (by omega) (by omega) List.mem_cons_self))]
    exact h3
  | 4, h, hp =>
    obtain ⟨h1, h2, h3⟩ := hp
    refine ⟨h1, h2, ?_⟩
    rw [pbc_congr (M := M) (fun i i1 => ⟨h 111 i (inM_1 (lo := 0) (hi := 79) (by omega) (by omega) List.mem_cons_self), h 112 i (inM_1 (lo := 0) (hi := 79) (by omega) (by omega) (List.mem_cons_of_mem _ List.mem_cons_self))⟩)]
    exact h3
  | 5, h, hp =>
    intro h1 h2
    rw [h 61 8 rfl] at h1
    rw [h 61 10 rfl] at h2
    exact hp h1 h2
  | 6, h, hp =>
    intro h2
    rw [h 61 10 rfl] at h2
    exact hp h2
  | 7, h, hp =>
    intro h1
    rw [h 61 85 rfl] at h1
    obtain ⟨H, a1, a2, a3⟩ := hp h1
    refine ⟨H, a1, a2, ?_⟩
    rw [h 61 80 rfl, h 110 0 rfl, h 110 1 rfl]
    have hc : ∀ i, i ≤ 599 → M' 108 i = M 108 i := fun i hi => h 108 i (inM_1 (lo := 0) (hi := 599) (by omega) hi (List.mem_cons_of_mem _ (List.mem_cons_of_mem _ List.mem_cons_self)))
    rcases a3 with ⟨a3, a4, a5, a6⟩ | ⟨a3, a4, a5, a6⟩
    · exact Or.inl ⟨a3, a4, a5, by rw [hgt_congr (M := M) (fun i i1 i2 => hc i (by omega))]; exact a6⟩
    · exact Or.inr ⟨a3, a4, a5, by rw [hgt_congr (M := M) (fun i i1 i2 => hc i (by omega))]; exact a6⟩
  | 8, h, hp => exact hpd_8 (fun c k hk => h c k hk) hp
  | 9, h, hp => exact hpd_9 (fun c k hk => h c k hk) hp
  | 10, h, hp => exact hpd_10 (fun c k hk => h c k hk) hp
  | 11, h, hp => exact hpd_11 (fun c k hk => h c k hk) hp
  | 12, h, hp => exact hpd_12 (fun c k hk => h c k hk) hp
  | 13, h, hp => exact hpd_13 (fun c k hk => h c k hk) hp
  | 14, h, hp => exact hpd_14 (fun c k hk => h c k hk) hp
  | 15, h, hp => exact hpd_15 (fun c k hk => h c k hk) hp
  | 16, h, hp => exact hpd_16 (fun c k hk => h c k hk) hp
  | 17, h, hp => exact hpd_17 (fun c k hk => h c k hk) hp
  | 18, h, hp => exact hpd_18 (fun c k hk => h c k hk) hp
  | 19, h, hp => exact hpd_19 (fun c k hk => h c k hk) hp
  | 20, h, hp => exact hpd_20 (fun c k hk => h c k hk) hp
  | 21, h, hp => exact hpd_21 (fun c k hk => h c k hk) hp
  | _ + 22, h, hp => exact hg_dep h hp
/-- a code more -/
theorem hgt_w {M : pM} {s k : Nat} {v n : Int} (h : hgt M s k = some n) : hgt (st M 108 (s + k) v) s (k + 1) = hg1 v n := by
  unfold hgt
  rw [hgt_congr (M := M) (fun i i1 i2 => by unfold st; rw [if_neg (by omega)]), h]
  show hg1 (st M 108 (s + k) v 108 (s + k)) n = _
  unfold st
  rw [if_pos ⟨rfl, rfl⟩]
theorem hgt_s {M : pM} {s k : Nat} {n : Int} (h : hgt M s k = some n) : hgt M s (k + 1) = hg1 (M 108 (s + k)) n := by
  rw [show hgt M s (k + 1) = (match hgt M s k with | none => none | some n => hg1 (M 108 (s + k)) n) from rfl, h]
/-- what works out to the end works out before -/
theorem hgt_pre {M : pM} {s : Nat} : ∀ {k d : Nat} {n : Int}, hgt M s (k + d) = some n → ∃ m, hgt M s k = some m
  | k, 0, n, h => ⟨n, h⟩
  | k, d + 1, n, h => by
    have h : hgt M s (k + d + 1) = some n := h
    cases hd : hgt M s (k + d) with
    | none =>
      rw [show hgt M s (k + d + 1) = (match hgt M s (k + d) with | none => none | some n => hg1 (M 108 (s + (k + d))) n) from rfl, hd] at h
      cases h
    | some m => exact hgt_pre hd
theorem pbc_s {M : pM} {k : Nat} {b : Int} (h : pbc M k = some b) : pbc M (k + 1) = pb1 k (M 111 k) (M 112 k) b := by
  rw [show pbc M (k + 1) = (match pbc M k with | none => none | some b => pb1 k (M 111 k) (M 112 k) b) from rfl, h]
