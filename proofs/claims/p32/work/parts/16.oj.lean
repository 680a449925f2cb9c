/-! ===== calls opened: r deep ===== -/
def OJ : Nat → pO
  | 0 => fun _ _ _ _ _ => False
  | r + 1 => fun i a n M Q => mth i = 0 ∧ (a.flatMap en0).length ≤ mX i ∧ J (OJ r) i n Q 0 (ent i a) [] n M
theorem OJ_ok (l : Launch) : ∀ r, OS l r (OJ r)
  | 0 => OS_none l 0
  | r + 1 => OS_next (OJ_ok l r) (fun _ _ _ _ _ _ _ _ h => h)
theorem mo_OJ {r i : Nat} {a : List pv} {n : Nat} {M : pM} {Q : pQ} (hm : mth i = 0) (hl : (a.flatMap en0).length ≤ mX i) : mo (OJ (r + 1)) i a n M Q = J (OJ r) i n Q 0 (ent i a) [] n M := by
  refine propext ⟨fun h => ?_, fun h => ⟨Q, ⟨hm, hl, h⟩, fun _ _ q => q⟩⟩
  obtain ⟨Q0, ⟨-, -, h1⟩, h2⟩ := h
  exact J_mono h2 h1
theorem alw_u {n a t t' : Nat} (h : 0 ≤ alw n a t) (h' : 0 ≤ alw n a t') : alw n a t = alw n a t' := by
  obtain ⟨l1, -, e1, e2⟩ := alw_of h
  obtain ⟨l2, -, e3, e4⟩ := alw_of h'
  rw [e1] at e3
  cases e3
  rfl
theorem J_alenE {O : pO} {j n0 : Nat} {Q : pQ} {pc : Nat} {L : pL} {S : List pv} {n : Nat} {M : pM} {a : Nat} (t : Nat) {len : Int} (ha : a < 1000) (hl : alw n a t = len) (h0 : 0 ≤ len) (hd : decode (mB j) pc = .ok (.arraylength, 1)) : J O j n0 Q pc L (vr (a + 1) :: S) n M = J O j n0 Q (pc + 1) L (vi len :: S) n M := by
  have e : ∀ t, aln M n a t = alw n a t := fun t => by unfold aln; rw [if_neg (by omega), if_neg (by omega)]
  refine propext ⟨fun h => ?_, fun h => J_alen (t := t) hd (by rw [e]; exact hl) h0 h⟩
  rw [J_of hd (fun ⟨_, i, S', _, h2, _⟩ => by have := Sum.inr.inj (Sum.inr.inj (List.cons.inj h2).1); omega)] at h
  obtain ⟨-, a', S', t', h1, h2, h3⟩ := h
  cases h1
  rw [e] at h2 h3
  rw [alw_u h2 (by omega : 0 ≤ alw n a t), hl] at h3
  exact h3
theorem J_alenS {O : pO} {j n0 : Nat} {Q : pQ} {pc : Nat} {L : pL} {S : List pv} {n : Nat} {M : pM} {len : Int} (hn : n ≤ 119) (hl : M 1003 0 = len) (h0 : 0 ≤ len) (hd : decode (mB j) pc = .ok (.arraylength, 1)) : J O j n0 Q pc L (vr 1003 :: S) n M = J O j n0 Q (pc + 1) L (vi len :: S) n M := by
  refine propext ⟨fun h => ?_, fun h => J_alen (a := 1002) (t := 0) hd (by rw [al_1002]; exact hl) h0 h⟩
  rw [J_of hd (fun ⟨_, i, S', _, h2, _⟩ => by have := Sum.inr.inj (Sum.inr.inj (List.cons.inj h2).1); omega)] at h
  obtain ⟨-, a', S', t', h1, h2, h3⟩ := h
  cases h1
  by_cases ht : t' = 0
  · subst ht; rw [al_1002, hl] at h3; exact h3
  · have e : aln M n 1002 t' = -1 := by
      unfold aln
      rw [if_neg (fun q => ht q.2), if_neg (fun q => ht q.2)]
      unfold alw
      rw [if_neg (by omega)]
    rw [e] at h2
    omega
theorem kI_eq {O : pO} {j n0 : Nat} {Q : pQ} {pc : Nat} {L : pL} {S : List pv} {n : Nat} {M : pM} {x : Int} : kI O j n0 Q pc L S n (some (vi x)) M = J O j n0 Q pc L (vi x :: S) n M := propext ⟨fun ⟨y, h1, h2⟩ => by cases h1; exact h2, fun h => ⟨x, rfl, h⟩⟩
theorem kL_eq {O : pO} {j n0 : Nat} {Q : pQ} {pc : Nat} {L : pL} {S : List pv} {n : Nat} {M : pM} {x : Int} : kL O j n0 Q pc L S n (some (vl x)) M = J O j n0 Q pc L (vl x :: S) n M := propext ⟨fun ⟨y, h1, h2⟩ => by cases h1; exact h2, fun h => ⟨x, rfl, h⟩⟩
theorem kV_eq {O : pO} {j n0 : Nat} {Q : pQ} {pc : Nat} {L : pL} {S : List pv} {n : Nat} {M : pM} : kV O j n0 Q pc L S n none M = J O j n0 Q pc L S n M := propext ⟨fun h => h.2, fun h => ⟨rfl, h⟩⟩
/-- a row of cells filled, a row laid anew -/
def fil (M : pM) (k len : Nat) (v : Int) : pM := fun a b => if a = k ∧ b < len then v else M a b
def row (M : pM) (k : Nat) (X : Nat → Int) : pM := fun a => if a = k then X else M a
theorem row_at {M : pM} {k : Nat} {X : Nat → Int} : row M k X k = X := by unfold row; rw [if_pos rfl]
theorem row_ne {M : pM} {k a : Nat} {X : Nat → Int} (h : a ≠ k) : row M k X a = M a := by unfold row; rw [if_neg h]
theorem st_row' {M : pM} {k i : Nat} {v : Int} : st M k i v = row M k (fun b => if b = i then v else M k b) := by
  funext a b
  unfold st row
  by_cases h : a = k
  · subst h; simp
  · simp [h]
theorem row_row {M : pM} {k : Nat} {X Y : Nat → Int} : row (row M k X) k Y = row M k Y := by
  funext a b
  unfold row
  by_cases h : a = k <;> simp [h]
theorem row_self {M : pM} {k : Nat} : row M k (M k) = M := by
  funext a b
  unfold row
  by_cases h : a = k <;> simp [h]
theorem stA {M : pM} {k i : Nat} {v : Int} {a b : Nat} : st M k i v a b = if a = k ∧ b = i then v else M a b := rfl
theorem zrA {M : pM} {k : Nat} {a b : Nat} : zr M k a b = if a = k then 0 else M a b := rfl
theorem rowA {M : pM} {k : Nat} {X : Nat → Int} {a b : Nat} : row M k X a b = if a = k then X b else M a b := by unfold row; split <;> rfl
theorem filA {M : pM} {k len : Nat} {v : Int} {a b : Nat} : fil M k len v a b = if a = k ∧ b < len then v else M a b := rfl
