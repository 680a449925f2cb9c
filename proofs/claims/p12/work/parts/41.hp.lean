/-! ===== sayings of the memory ===== -/
/-- the plan at ref v lets glider g come from (c, t, h) by move y -/
def mvd (v : Nat) (x y : Int) (M : pM) : Prop := ∃ g c t h h' t' c' : Int, (0 ≤ g ∧ g ≤ 3 ∧ 0 ≤ c ∧ c ≤ 63 ∧ 0 ≤ t ∧ t ≤ 36 ∧ 0 ≤ h ∧ h ≤ 40) ∧ x = ((g * 64 + c) * 37 + t) * 41 + h ∧ (0 ≤ h' ∧ h' ≤ 40 ∧ t + 1 ≤ t' ∧ t' ≤ 36 ∧ 0 ≤ c' ∧ c' ≤ 63) ∧
  OJ 20 61 [vr v, vi g, vi c, vi t, vi h, vi y] 119 M (fun a M' => a = some (vi (6400 * h' + 100 * t' + c')) ∧ M' = M)
/-- what one code makes of n numbers on the pile -/
def hg1 (v n : Int) : Option Int := if v = 126 then (if 1 ≤ n then some n else none) else if 97 ≤ v ∧ v ≤ 122 then (if n ≤ 59 then some (n + 1) else none) else (if 2 ≤ n then some (n - 1) else none)
/-- how many numbers k codes from s on leave -/
def hgt (M : pM) (s : Nat) : Nat → Option Int
  | 0 => some 0
  | k + 1 => match hgt M s k with
    | none => none
    | some n => hg1 (M 108 (s + k)) n
/-- one entry of the reader's pile, behind b of two sides -/
def pb1 (k : Nat) (w s b : Int) : Option Int := if k = 0 then (if w = 8 then some 0 else none) else if w = 3 then (if s = 126 then some b else none) else if w = 7 then some b else if w = 1 ∧ s = 124 then some (b + 1) else if (1 ≤ w ∧ w ≤ 2 ∨ 4 ≤ w ∧ w ≤ 6) ∧ 0 ≤ s ∧ s ≤ 96 then some (b + 1) else none
def pbc (M : pM) : Nat → Option Int
  | 0 => some 0
  | k + 1 => match pbc M k with
    | none => none
    | some b => pb1 k (M 111 k) (M 112 k) b
def HP (p : Nat) (x y : Int) (M : pM) : Prop := match p with
  | 0 => mvd 4 x y M
  | 1 => mvd 13 x y M
  | 2 => 0 ≤ x ∧ x ≤ 299 ∧ hgt M 0 x.toNat = some y
  | 3 => 300 ≤ x ∧ x ≤ 599 ∧ hgt M 300 (x - 300).toNat = some y
  | 4 => 0 ≤ x ∧ x ≤ 80 ∧ pbc M x.toNat = some y
  | 5 => M 61 8 = 3 → M 61 10 = 7237492 → 3 ≤ x
  | 6 => M 61 10 = 7237492 → 3 ≤ x
  | 7 => M 61 85 ≠ 0 → ∃ H : Int, 0 ≤ H ∧ H ≤ 60 ∧ ((M 61 80 = 0 ∧ 0 ≤ M 110 0 ∧ M 110 0 ≤ 299 ∧ hgt M 0 (M 110 0).toNat = some H) ∨ (M 61 80 = 1 ∧ 0 ≤ M 110 1 ∧ M 110 1 ≤ 299 ∧ hgt M 300 (M 110 1).toNat = some H))
  | _ => True
theorem hgt_congr {M M' : pM} {s : Nat} : ∀ {k : Nat}, (∀ i, s ≤ i → i < s + k → M' 108 i = M 108 i) → hgt M' s k = hgt M s k
  | 0, _ => rfl
  | k + 1, h => by
    have ih := hgt_congr (M := M) (M' := M') (s := s) (k := k) (fun i h1 h2 => h i h1 (by omega))
    unfold hgt
    rw [ih, h (s + k) (by omega) (by omega)]
theorem pbc_congr {M M' : pM} : ∀ {k : Nat}, (∀ i, i < k → M' 111 i = M 111 i ∧ M' 112 i = M 112 i) → pbc M' k = pbc M k
  | 0, _ => rfl
  | k + 1, h => by
    have ih := pbc_congr (M := M) (M' := M') (k := k) (fun i h1 => h i (by omega))
    unfold pbc
    rw [ih, (h k (by omega)).1, (h k (by omega)).2]
theorem inM_1 {c lo hi k : Nat} {m : mdL} (h1 : lo ≤ k) (h2 : k ≤ hi) (h : (c, lo, hi) ∈ m) : inM m c k = true := by
  refine List.any_eq_true.mpr ⟨_, h, ?_⟩
  show (Nat.beq c c && Nat.ble lo k && Nat.ble k hi) = true
  rw [Nat.beq_refl, Nat.ble_eq_true_of_le h1, Nat.ble_eq_true_of_le h2]
  rfl
theorem hp_dep {p : Nat} {x y : Int} {M M' : pM} (h : ∀ c k, inD (hdp p) c k = true → M' c k = M c k) (hp : HP p x y M) : HP p x y M' := by
  rcases p with _ | _ | _ | _ | _ | _ | _ | _ | p
  · have : M' = M := funext (fun c => funext (fun k => h c k rfl))
    rw [this]
    exact hp
  · have : M' = M := funext (fun c => funext (fun k => h c k rfl))
    rw [this]
    exact hp
  · obtain ⟨h1, h2, h3⟩ := hp
    refine ⟨h1, h2, ?_⟩
    rw [hgt_congr (M := M) (fun i i1 i2 => h 108 i (inM_1 (lo := 0) (hi := 299) (by omega) (by omega) List.mem_cons_self))]
    exact h3
  · obtain ⟨h1, h2, h3⟩ := hp
    refine ⟨h1, h2, ?_⟩
    rw [hgt_congr (M := M) (fun i i1 i2 => h 108 i (inM_1 (lo := 300) (hi := 599) (by omega) (by omega) List.mem_cons_self))]
    exact h3
  · obtain ⟨h1, h2, h3⟩ := hp
    refine ⟨h1, h2, ?_⟩
    rw [pbc_congr (M := M) (fun i i1 => ⟨h 111 i (inM_1 (lo := 0) (hi := 79) (by omega) (by omega) List.mem_cons_self), h 112 i (inM_1 (lo := 0) (hi := 79) (by omega) (by omega) (List.mem_cons_of_mem _ List.mem_cons_self))⟩)]
    exact h3
  · intro h1 h2
    rw [h 61 8 rfl] at h1
    rw [h 61 10 rfl] at h2
    exact hp h1 h2
  · intro h2
    rw [h 61 10 rfl] at h2
    exact hp h2
  · intro h1
    rw [h 61 85 rfl] at h1
    obtain ⟨H, a1, a2, a3⟩ := hp h1
    refine ⟨H, a1, a2, ?_⟩
    rw [h 61 80 rfl, h 110 0 rfl, h 110 1 rfl]
    have hc : ∀ i, i ≤ 599 → M' 108 i = M 108 i := fun i hi => h 108 i (inM_1 (lo := 0) (hi := 599) (by omega) hi (List.mem_cons_of_mem _ (List.mem_cons_of_mem _ List.mem_cons_self)))
    rcases a3 with ⟨a3, a4, a5, a6⟩ | ⟨a3, a4, a5, a6⟩
    · exact Or.inl ⟨a3, a4, a5, by rw [hgt_congr (M := M) (fun i i1 i2 => hc i (by omega))]; exact a6⟩
    · exact Or.inr ⟨a3, a4, a5, by rw [hgt_congr (M := M) (fun i i1 i2 => hc i (by omega))]; exact a6⟩
  · trivial
/-- a code more -/
theorem hgt_w {M : pM} {s k : Nat} {v n : Int} (h : hgt M s k = some n) : hgt (st M 108 (s + k) v) s (k + 1) = hg1 v n := by
  unfold hgt
  rw [hgt_congr (M := M) (fun i i1 i2 => by unfold st; rw [if_neg (by omega)]), h]
  show hg1 (st M 108 (s + k) v 108 (s + k)) n = _
  unfold st
  rw [if_pos ⟨rfl, rfl⟩]
theorem hgt_s {M : pM} {s k : Nat} {n : Int} (h : hgt M s k = some n) : hgt M s (k + 1) = hg1 (M 108 (s + k)) n := by
  rw [show hgt M s (k + 1) = (match hgt M s k with | none => none | some n => hg1 (M 108 (s + k)) n) from rfl, h]
/-- what works out to the end works out before -/
theorem hgt_pre {M : pM} {s : Nat} : ∀ {k d : Nat} {n : Int}, hgt M s (k + d) = some n → ∃ m, hgt M s k = some m
  | k, 0, n, h => ⟨n, h⟩
  | k, d + 1, n, h => by
    have h : hgt M s (k + d + 1) = some n := h
    cases hd : hgt M s (k + d) with
    | none =>
      rw [show hgt M s (k + d + 1) = (match hgt M s (k + d) with | none => none | some n => hg1 (M 108 (s + (k + d))) n) from rfl, hd] at h
      cases h
    | some m => exact hgt_pre hd
theorem pbc_s {M : pM} {k : Nat} {b : Int} (h : pbc M k = some b) : pbc M (k + 1) = pb1 k (M 111 k) (M 112 k) b := by
  rw [show pbc M (k + 1) = (match pbc M k with | none => none | some b => pb1 k (M 111 k) (M 112 k) b) from rfl, h]
