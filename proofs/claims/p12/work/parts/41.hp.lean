/-! ===== sayings of the memory ===== -/
/-- the plan at ref v lets glider g come from (c, t, h) by move y -/
def mvd (v : Nat) (x y : Int) (M : pM) : Prop := ∃ g c t h h' t' c' : Int, (0 ≤ g ∧ g ≤ 3 ∧ 0 ≤ c ∧ c ≤ 63 ∧ 0 ≤ t ∧ t ≤ 36 ∧ 0 ≤ h ∧ h ≤ 40) ∧ x = ((g * 64 + c) * 37 + t) * 41 + h ∧ (0 ≤ h' ∧ h' ≤ 40 ∧ t + 1 ≤ t' ∧ t' ≤ 36 ∧ 0 ≤ c' ∧ c' ≤ 63) ∧
  OJ 20 61 [vr v, vi g, vi c, vi t, vi h, vi y] 119 M (fun a M' => a = some (vi (6400 * h' + 100 * t' + c')) ∧ M' = M)
def HP (p : Nat) (x y : Int) (M : pM) : Prop := match p with
  | 0 => mvd 4 x y M
  | 1 => mvd 13 x y M
  | _ => True
theorem hp_dep {p : Nat} {x y : Int} {M M' : pM} (h : ∀ c k, inD (hdp p) c k = true → M' c k = M c k) (hp : HP p x y M) : HP p x y M' := by
  rcases p with _ | _ | p
  · have : M' = M := funext (fun c => funext (fun k => h c k rfl))
    rw [this]
    exact hp
  · have : M' = M := funext (fun c => funext (fun k => h c k rfl))
    rw [this]
    exact hp
  · trivial
