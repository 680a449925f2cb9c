def uqb (l : List (Nat × Nat)) : Bool := match l with
  | [] => true
  | a :: r => r.all (fun b => !(a.1 == b.1 && a.2 == b.2)) && uqb r
theorem uq_of {α : Type} {key : α → Nat × Nat} : ∀ {l : List α}, uqb (l.map key) = true → ∀ a ∈ l, ∀ b ∈ l, key a = key b → a = b := by
  intro l
  induction l with
  | nil => intro _ a ha; cases ha
  | cons x l ih =>
    intro h a ha b hb hk
    rw [List.map_cons] at h
    unfold uqb at h
    rw [Bool.and_eq_true] at h
    obtain ⟨h1, h2⟩ := h
    have hx : ∀ c ∈ l, key x ≠ key c := by
      intro c hc he
      have := List.all_eq_true.mp h1 (key c) (List.mem_map.mpr ⟨c, hc, rfl⟩)
      rw [he] at this
      simp at this
    rcases List.mem_cons.mp ha with ha1 | ha1
    · rcases List.mem_cons.mp hb with hb1 | hb1
      · rw [ha1, hb1]
      · rw [ha1] at hk; exact absurd hk (hx b hb1)
    · rcases List.mem_cons.mp hb with hb1 | hb1
      · rw [hb1] at hk; exact absurd hk.symm (hx a ha1)
      · exact ih h2 a ha1 b hb1 hk
theorem fld_u : uqb (fldL.map (fun q => (q.1, q.2.1))) = true := by decide +kernel
theorem cal_u : uqb (calL.map (fun q => (q.1, q.2.1))) = true := by decide +kernel
theorem new_u : uqb (newL.map (fun q => (q.1, q.2.1))) = true := by decide +kernel
theorem gs_u : uqb (gsL.map (fun q => (q.1, q.2.1))) = true := by decide +kernel
theorem cn_u : uqb (cnL.map (fun q => (q.1, q.2.1))) = true := by decide +kernel
theorem cln_u : uqb (clnL.map (fun q => (q.1, q.2.1))) = true := by decide +kernel
theorem ex_u {α : Type} {l : List α} {key : α → Nat × Nat} (hu : uqb (l.map key) = true) {q : α} (hq : q ∈ l) {a b : Nat} (e : key q = (a, b)) {p : α → Prop} : (∃ x ∈ l, (key x).1 = a ∧ (key x).2 = b ∧ p x) = p q := by
  refine propext ⟨fun h => ?_, fun h => ⟨q, hq, by rw [e], by rw [e], h⟩⟩
  obtain ⟨x, hx, h1, h2, h3⟩ := h
  have : x = q := uq_of hu x hx q hq (by rw [e, ← h1, ← h2])
  rw [← this]
  exact h3
theorem str_cn : ∀ q ∈ cnL, ∀ x ∈ strL, ¬ (q.1 = x.1 ∧ q.2.1 = x.2.1) := by decide +kernel
theorem sf_fl : ∀ q ∈ fldL, ∀ x ∈ sfL, ¬ (q.1 = x.1 ∧ q.2.1 = x.2.1) := by decide +kernel
theorem gb_gs : ∀ q ∈ gsL, ∀ x ∈ gbL, ¬ (q.1 = x.1 ∧ q.2.1 = x.2.1) := by decide +kernel
theorem fst_e {α β : Type} {a c : α} {b d : β} (e : (a, b) = (c, d)) : a = c := congrArg Prod.fst e
theorem snd_e {α β : Type} {a c : α} {b d : β} (e : (a, b) = (c, d)) : b = d := congrArg Prod.snd e
theorem J_iconst {O : pO} {j n0 : Nat} {Q : pQ} {pc : Nat} {L : pL} {S : List pv} {n : Nat} {M : pM} {v : Int} (hd : decode (mB j) pc = .ok (.iconst v, 1)) (hv : r32 v) : J O j n0 Q pc L S n M = J O j n0 Q (pc + 1) L (vi v :: S) n M := by
  rw [J_of hd (fun h => h)]; simp [sx, pur, iop, lop, hv]
theorem J_bipush {O : pO} {j n0 : Nat} {Q : pQ} {pc : Nat} {L : pL} {S : List pv} {n : Nat} {M : pM} {v : Int} (hd : decode (mB j) pc = .ok (.bipush v, 2)) (hv : -128 ≤ v ∧ v ≤ 127) : J O j n0 Q pc L S n M = J O j n0 Q (pc + 2) L (vi v :: S) n M := by
  rw [J_of hd (fun h => h)]; simp [sx, pur, iop, lop, hv]
theorem J_sipush {O : pO} {j n0 : Nat} {Q : pQ} {pc : Nat} {L : pL} {S : List pv} {n : Nat} {M : pM} {v : Int} (hd : decode (mB j) pc = .ok (.sipush v, 3)) (hv : -32768 ≤ v ∧ v ≤ 32767) : J O j n0 Q pc L S n M = J O j n0 Q (pc + 3) L (vi v :: S) n M := by
  rw [J_of hd (fun h => h)]; simp [sx, pur, iop, lop, hv]
theorem J_lconst {O : pO} {j n0 : Nat} {Q : pQ} {pc : Nat} {L : pL} {S : List pv} {n : Nat} {M : pM} {v : Fin 2} (hd : decode (mB j) pc = .ok (.lconst v, 1)) : J O j n0 Q pc L S n M = J O j n0 Q (pc + 1) L (vl ((v : Nat) : Int) :: S) n M := by
  rw [J_of hd (fun h => h)]; simp [sx, pur, iop, lop]
theorem J_ldc {O : pO} {j n0 : Nat} {Q : pQ} {pc : Nat} {L : pL} {S : List pv} {n : Nat} {M : pM} {ix : Nat} {q : Nat × Nat × Int × Nat} (hq : q ∈ cnL) (e : (q.1, q.2.1) = (mO j, ix)) (hd : decode (mB j) pc = .ok (.ldc ix, 2)) : J O j n0 Q pc L S n M = J O j n0 Q (pc + 2) L (vi q.2.2.1 :: S) n M := by
  rw [J_of hd (fun ⟨_, x, hx, h1, h2, _⟩ => str_cn q hq x hx ⟨(fst_e e).trans h1.symm, (snd_e e).trans h2.symm⟩)]
  show (∃ S', (2 = 2 ∧ ∃ x ∈ cnL, x.1 = mO j ∧ x.2.1 = ix ∧ S' = vi x.2.2.1 :: S) ∧ _) = _
  refine propext ⟨fun h => ?_, fun h => ⟨_, ⟨rfl, q, hq, congrArg Prod.fst e, congrArg Prod.snd e, rfl⟩, h⟩⟩
  obtain ⟨S', ⟨-, x, hx, h1, h2, rfl⟩, h3⟩ := h
  have : x = q := uq_of cn_u x hx q hq (by rw [show (x.1, x.2.1) = (mO j, ix) from by rw [h1, h2], e])
  rw [← this]
  exact h3
theorem J_ldc_w {O : pO} {j n0 : Nat} {Q : pQ} {pc : Nat} {L : pL} {S : List pv} {n : Nat} {M : pM} {ix : Nat} {q : Nat × Nat × Int × Nat} (hq : q ∈ cnL) (e : (q.1, q.2.1) = (mO j, ix)) (hd : decode (mB j) pc = .ok (.ldc_w ix, 3)) : J O j n0 Q pc L S n M = J O j n0 Q (pc + 3) L (vi q.2.2.1 :: S) n M := by
  rw [J_of hd (fun h => h)]
  show (∃ S', (3 = 3 ∧ ∃ x ∈ cnL, x.1 = mO j ∧ x.2.1 = ix ∧ S' = vi x.2.2.1 :: S) ∧ _) = _
  refine propext ⟨fun h => ?_, fun h => ⟨_, ⟨rfl, q, hq, congrArg Prod.fst e, congrArg Prod.snd e, rfl⟩, h⟩⟩
  obtain ⟨S', ⟨-, x, hx, h1, h2, rfl⟩, h3⟩ := h
  have : x = q := uq_of cn_u x hx q hq (by rw [show (x.1, x.2.1) = (mO j, ix) from by rw [h1, h2], e])
  rw [← this]
  exact h3
theorem J_ldc2_w {O : pO} {j n0 : Nat} {Q : pQ} {pc : Nat} {L : pL} {S : List pv} {n : Nat} {M : pM} {ix : Nat} {q : Nat × Nat × Int × Nat} (hq : q ∈ clnL) (e : (q.1, q.2.1) = (mO j, ix)) (hd : decode (mB j) pc = .ok (.ldc2_w ix, 3)) : J O j n0 Q pc L S n M = J O j n0 Q (pc + 3) L (vl q.2.2.1 :: S) n M := by
  rw [J_of hd (fun h => h)]
  show (∃ S', (3 = 3 ∧ ∃ x ∈ clnL, x.1 = mO j ∧ x.2.1 = ix ∧ S' = vl x.2.2.1 :: S) ∧ _) = _
  refine propext ⟨fun h => ?_, fun h => ⟨_, ⟨rfl, q, hq, congrArg Prod.fst e, congrArg Prod.snd e, rfl⟩, h⟩⟩
  obtain ⟨S', ⟨-, x, hx, h1, h2, rfl⟩, h3⟩ := h
  have : x = q := uq_of cln_u x hx q hq (by rw [show (x.1, x.2.1) = (mO j, ix) from by rw [h1, h2], e])
  rw [← this]
  exact h3
theorem J_iload {O : pO} {j n0 : Nat} {Q : pQ} {pc : Nat} {L : pL} {S : List pv} {n : Nat} {M : pM} {k : Nat} {x : Int} (hd : decode (mB j) pc = .ok (.iload k, 2)) (hl : L[k]? = some (some (vi x))) : J O j n0 Q pc L S n M = J O j n0 Q (pc + 2) L (vi x :: S) n M := by
  rw [J_of hd (fun h => h)]; simp [sx, pur, iop, lop, hl]
theorem J_iload_n {O : pO} {j n0 : Nat} {Q : pQ} {pc : Nat} {L : pL} {S : List pv} {n : Nat} {M : pM} {k : Fin 4} {x : Int} (hd : decode (mB j) pc = .ok (.iload_n k, 1)) (hl : L[(k : Nat)]? = some (some (vi x))) : J O j n0 Q pc L S n M = J O j n0 Q (pc + 1) L (vi x :: S) n M := by
  rw [J_of hd (fun h => h)]; simp [sx, pur, iop, lop, hl]
theorem J_lload {O : pO} {j n0 : Nat} {Q : pQ} {pc : Nat} {L : pL} {S : List pv} {n : Nat} {M : pM} {k : Nat} {x : Int} (hd : decode (mB j) pc = .ok (.lload k, 2)) (hl : L[k]? = some (some (vl x))) : J O j n0 Q pc L S n M = J O j n0 Q (pc + 2) L (vl x :: S) n M := by
  rw [J_of hd (fun h => h)]; simp [sx, pur, iop, lop, hl]
theorem J_lload_n {O : pO} {j n0 : Nat} {Q : pQ} {pc : Nat} {L : pL} {S : List pv} {n : Nat} {M : pM} {k : Fin 4} {x : Int} (hd : decode (mB j) pc = .ok (.lload_n k, 1)) (hl : L[(k : Nat)]? = some (some (vl x))) : J O j n0 Q pc L S n M = J O j n0 Q (pc + 1) L (vl x :: S) n M := by
  rw [J_of hd (fun h => h)]; simp [sx, pur, iop, lop, hl]
theorem J_aload {O : pO} {j n0 : Nat} {Q : pQ} {pc : Nat} {L : pL} {S : List pv} {n : Nat} {M : pM} {k : Nat} {x : Nat} (hd : decode (mB j) pc = .ok (.aload k, 2)) (hl : L[k]? = some (some (vr x))) : J O j n0 Q pc L S n M = J O j n0 Q (pc + 2) L (vr x :: S) n M := by
  rw [J_of hd (fun h => h)]; simp [sx, pur, iop, lop, hl]
theorem J_aload_n {O : pO} {j n0 : Nat} {Q : pQ} {pc : Nat} {L : pL} {S : List pv} {n : Nat} {M : pM} {k : Fin 4} {x : Nat} (hd : decode (mB j) pc = .ok (.aload_n k, 1)) (hl : L[(k : Nat)]? = some (some (vr x))) : J O j n0 Q pc L S n M = J O j n0 Q (pc + 1) L (vr x :: S) n M := by
  rw [J_of hd (fun h => h)]; simp [sx, pur, iop, lop, hl]
theorem J_dup {O : pO} {j n0 : Nat} {Q : pQ} {pc : Nat} {L : pL} {S : List pv} {n : Nat} {M : pM} {v : pv} (hd : decode (mB j) pc = .ok (.dup, 1)) (hc : catv v = 1) : J O j n0 Q pc L (v :: S) n M = J O j n0 Q (pc + 1) L (v :: v :: S) n M := by
  rw [J_of hd (fun h => h)]; simp [sx, pur, iop, lop, hc]
theorem J_pop {O : pO} {j n0 : Nat} {Q : pQ} {pc : Nat} {L : pL} {S : List pv} {n : Nat} {M : pM} {v : pv} (hd : decode (mB j) pc = .ok (.pop, 1)) (hc : catv v = 1) : J O j n0 Q pc L (v :: S) n M = J O j n0 Q (pc + 1) L S n M := by
  rw [J_of hd (fun h => h)]
  refine propext ⟨fun h => ?_, fun h => ⟨_, ⟨rfl, v, S, rfl, hc, rfl⟩, h⟩⟩
  obtain ⟨S', ⟨-, v', S0, h1, -, rfl⟩, h3⟩ := h
  cases h1
  exact h3
theorem J_dup2 {O : pO} {j n0 : Nat} {Q : pQ} {pc : Nat} {L : pL} {S : List pv} {n : Nat} {M : pM} {v u : pv} (hd : decode (mB j) pc = .ok (.dup2, 1)) (hc : catv v = 1) (hc2 : catv u = 1) : J O j n0 Q pc L (v :: u :: S) n M = J O j n0 Q (pc + 1) L (v :: u :: v :: u :: S) n M := by
  rw [J_of hd (fun h => h)]; simp [sx, pur, iop, lop, hc, hc2]
theorem J_ineg {O : pO} {j n0 : Nat} {Q : pQ} {pc : Nat} {L : pL} {S : List pv} {n : Nat} {M : pM} {a : Int} (hd : decode (mB j) pc = .ok (.ineg, 1)) : J O j n0 Q pc L (vi a :: S) n M = J O j n0 Q (pc + 1) L (vi (w32 (-a)) :: S) n M := by
  rw [J_of hd (fun h => h)]; simp [sx, pur, iop, lop]
theorem J_i2l {O : pO} {j n0 : Nat} {Q : pQ} {pc : Nat} {L : pL} {S : List pv} {n : Nat} {M : pM} {a : Int} (hd : decode (mB j) pc = .ok (.i2l, 1)) : J O j n0 Q pc L (vi a :: S) n M = J O j n0 Q (pc + 1) L (vl a :: S) n M := by
  rw [J_of hd (fun h => h)]; simp [sx, pur, iop, lop]
theorem J_i2b {O : pO} {j n0 : Nat} {Q : pQ} {pc : Nat} {L : pL} {S : List pv} {n : Nat} {M : pM} {a : Int} (hd : decode (mB j) pc = .ok (.i2b, 1)) : J O j n0 Q pc L (vi a :: S) n M = J O j n0 Q (pc + 1) L (vi (w8 a) :: S) n M := by
  rw [J_of hd (fun h => h)]; simp [sx, pur, iop, lop]
theorem J_l2i {O : pO} {j n0 : Nat} {Q : pQ} {pc : Nat} {L : pL} {S : List pv} {n : Nat} {M : pM} {a : Int} (hd : decode (mB j) pc = .ok (.l2i, 1)) : J O j n0 Q pc L (vl a :: S) n M = J O j n0 Q (pc + 1) L (vi (Int64.ofInt a).toInt32.toInt :: S) n M := by
  rw [J_of hd (fun h => h)]
  refine propext ⟨fun h => ?_, fun h => ⟨_, ⟨rfl, a, S, rfl, rfl⟩, h⟩⟩
  obtain ⟨S', ⟨-, a', S0, h1, rfl⟩, h3⟩ := h
  cases h1
  exact h3
theorem J_i2c {O : pO} {j n0 : Nat} {Q : pQ} {pc : Nat} {L : pL} {S : List pv} {n : Nat} {M : pM} {a : Int} (hd : decode (mB j) pc = .ok (.i2c, 1)) : J O j n0 Q pc L (vi a :: S) n M = J O j n0 Q (pc + 1) L (vi ((Int32.ofInt a).toUInt32 % 65536).toInt32.toInt :: S) n M := by
  rw [J_of hd (fun h => h)]; simp [sx, pur, iop, lop]
theorem J_idiv {O : pO} {j n0 : Nat} {Q : pQ} {pc : Nat} {L : pL} {S : List pv} {n : Nat} {M : pM} {a b : Int} (hd : decode (mB j) pc = .ok (.idiv, 1)) : J O j n0 Q pc L (vi b :: vi a :: S) n M = (¬ b = 0 ∧ J O j n0 Q (pc + 1) L (vi (w32 (a.tdiv b)) :: S) n M) := by
  rw [J_of hd (fun h => h)]
  refine propext ⟨fun h => ?_, fun h => ⟨_, ⟨rfl, a, b, S, rfl, h.1, rfl⟩, h.2⟩⟩
  obtain ⟨S', ⟨-, a', b', S0, h1, h2, rfl⟩, h3⟩ := h
  cases h1
  exact ⟨h2, h3⟩
theorem J_irem {O : pO} {j n0 : Nat} {Q : pQ} {pc : Nat} {L : pL} {S : List pv} {n : Nat} {M : pM} {a b : Int} (hd : decode (mB j) pc = .ok (.irem, 1)) : J O j n0 Q pc L (vi b :: vi a :: S) n M = (¬ b = 0 ∧ J O j n0 Q (pc + 1) L (vi (a.tmod b) :: S) n M) := by
  rw [J_of hd (fun h => h)]
  refine propext ⟨fun h => ?_, fun h => ⟨_, ⟨rfl, a, b, S, rfl, h.1, rfl⟩, h.2⟩⟩
  obtain ⟨S', ⟨-, a', b', S0, h1, h2, rfl⟩, h3⟩ := h
  cases h1
  exact ⟨h2, h3⟩
theorem J_lcmp {O : pO} {j n0 : Nat} {Q : pQ} {pc : Nat} {L : pL} {S : List pv} {n : Nat} {M : pM} {a b : Int} (hd : decode (mB j) pc = .ok (.lcmp, 1)) : J O j n0 Q pc L (vl b :: vl a :: S) n M = J O j n0 Q (pc + 1) L (vi (if b < a then 1 else if a = b then 0 else -1) :: S) n M := by
  rw [J_of hd (fun h => h)]
  refine propext ⟨fun h => ?_, fun h => ⟨_, ⟨rfl, a, b, S, rfl, rfl⟩, h⟩⟩
  obtain ⟨S', ⟨-, a', b', S0, h1, rfl⟩, h3⟩ := h
  cases h1
  exact h3
theorem J_lshl {O : pO} {j n0 : Nat} {Q : pQ} {pc : Nat} {L : pL} {S : List pv} {n : Nat} {M : pM} {a b : Int} (hd : decode (mB j) pc = .ok (.lshl, 1)) : J O j n0 Q pc L (vi b :: vl a :: S) n M = J O j n0 Q (pc + 1) L (vl ((Int64.ofInt a <<< ((Int32.ofInt b).toInt64 &&& 63)).toInt) :: S) n M := by
  rw [J_of hd (fun h => h)]
  refine propext ⟨fun h => ?_, fun h => ⟨_, ⟨rfl, a, b, S, rfl, rfl⟩, h⟩⟩
  obtain ⟨S', ⟨-, a', b', S0, h1, rfl⟩, h3⟩ := h
  cases h1
  exact h3
theorem J_lshr {O : pO} {j n0 : Nat} {Q : pQ} {pc : Nat} {L : pL} {S : List pv} {n : Nat} {M : pM} {a b : Int} (hd : decode (mB j) pc = .ok (.lshr, 1)) : J O j n0 Q pc L (vi b :: vl a :: S) n M = J O j n0 Q (pc + 1) L (vl ((Int64.ofInt a >>> ((Int32.ofInt b).toInt64 &&& 63)).toInt) :: S) n M := by
  rw [J_of hd (fun h => h)]
  refine propext ⟨fun h => ?_, fun h => ⟨_, ⟨rfl, a, b, S, rfl, rfl⟩, h⟩⟩
  obtain ⟨S', ⟨-, a', b', S0, h1, rfl⟩, h3⟩ := h
  cases h1
  exact h3
theorem J_lushr {O : pO} {j n0 : Nat} {Q : pQ} {pc : Nat} {L : pL} {S : List pv} {n : Nat} {M : pM} {a b : Int} (hd : decode (mB j) pc = .ok (.lushr, 1)) : J O j n0 Q pc L (vi b :: vl a :: S) n M = J O j n0 Q (pc + 1) L (vl (((Int64.ofInt a).toUInt64 >>> ((Int32.ofInt b).toInt64.toUInt64 &&& Int64.toUInt64 63)).toInt64.toInt) :: S) n M := by
  rw [J_of hd (fun h => h)]
  refine propext ⟨fun h => ?_, fun h => ⟨_, ⟨rfl, a, b, S, rfl, rfl⟩, h⟩⟩
  obtain ⟨S', ⟨-, a', b', S0, h1, rfl⟩, h3⟩ := h
  cases h1
  exact h3
theorem J_iadd {O : pO} {j n0 : Nat} {Q : pQ} {pc : Nat} {L : pL} {S : List pv} {n : Nat} {M : pM} {a b : Int} (hd : decode (mB j) pc = .ok (.iadd, 1)) : J O j n0 Q pc L (vi b :: vi a :: S) n M = J O j n0 Q (pc + 1) L (vi (w32 (a + b)) :: S) n M := by
  rw [J_of hd (fun h => h)]
  refine propext ⟨fun h => ?_, fun h => ⟨_, ⟨rfl, Or.inl ⟨_, a, b, S, rfl, rfl, rfl⟩⟩, h⟩⟩
  obtain ⟨S', ⟨-, ⟨f, a', b', S0, hf, h1, rfl⟩ | ⟨f, a', b', S0, hf, -⟩⟩, h3⟩ := h
  · cases h1; cases hf; exact h3
  · cases hf
theorem J_isub {O : pO} {j n0 : Nat} {Q : pQ} {pc : Nat} {L : pL} {S : List pv} {n : Nat} {M : pM} {a b : Int} (hd : decode (mB j) pc = .ok (.isub, 1)) : J O j n0 Q pc L (vi b :: vi a :: S) n M = J O j n0 Q (pc + 1) L (vi (w32 (a - b)) :: S) n M := by
  rw [J_of hd (fun h => h)]
  refine propext ⟨fun h => ?_, fun h => ⟨_, ⟨rfl, Or.inl ⟨_, a, b, S, rfl, rfl, rfl⟩⟩, h⟩⟩
  obtain ⟨S', ⟨-, ⟨f, a', b', S0, hf, h1, rfl⟩ | ⟨f, a', b', S0, hf, -⟩⟩, h3⟩ := h
  · cases h1; cases hf; exact h3
  · cases hf
theorem J_imul {O : pO} {j n0 : Nat} {Q : pQ} {pc : Nat} {L : pL} {S : List pv} {n : Nat} {M : pM} {a b : Int} (hd : decode (mB j) pc = .ok (.imul, 1)) : J O j n0 Q pc L (vi b :: vi a :: S) n M = J O j n0 Q (pc + 1) L (vi (w32 (a * b)) :: S) n M := by
  rw [J_of hd (fun h => h)]
  refine propext ⟨fun h => ?_, fun h => ⟨_, ⟨rfl, Or.inl ⟨_, a, b, S, rfl, rfl, rfl⟩⟩, h⟩⟩
  obtain ⟨S', ⟨-, ⟨f, a', b', S0, hf, h1, rfl⟩ | ⟨f, a', b', S0, hf, -⟩⟩, h3⟩ := h
  · cases h1; cases hf; exact h3
  · cases hf
theorem J_iand {O : pO} {j n0 : Nat} {Q : pQ} {pc : Nat} {L : pL} {S : List pv} {n : Nat} {M : pM} {a b : Int} (hd : decode (mB j) pc = .ok (.iand, 1)) : J O j n0 Q pc L (vi b :: vi a :: S) n M = J O j n0 Q (pc + 1) L (vi ((Int32.ofInt a &&& Int32.ofInt b).toInt) :: S) n M := by
  rw [J_of hd (fun h => h)]
  refine propext ⟨fun h => ?_, fun h => ⟨_, ⟨rfl, Or.inl ⟨_, a, b, S, rfl, rfl, rfl⟩⟩, h⟩⟩
  obtain ⟨S', ⟨-, ⟨f, a', b', S0, hf, h1, rfl⟩ | ⟨f, a', b', S0, hf, -⟩⟩, h3⟩ := h
  · cases h1; cases hf; exact h3
  · cases hf
theorem J_ior {O : pO} {j n0 : Nat} {Q : pQ} {pc : Nat} {L : pL} {S : List pv} {n : Nat} {M : pM} {a b : Int} (hd : decode (mB j) pc = .ok (.ior, 1)) : J O j n0 Q pc L (vi b :: vi a :: S) n M = J O j n0 Q (pc + 1) L (vi ((Int32.ofInt a ||| Int32.ofInt b).toInt) :: S) n M := by
  rw [J_of hd (fun h => h)]
  refine propext ⟨fun h => ?_, fun h => ⟨_, ⟨rfl, Or.inl ⟨_, a, b, S, rfl, rfl, rfl⟩⟩, h⟩⟩
  obtain ⟨S', ⟨-, ⟨f, a', b', S0, hf, h1, rfl⟩ | ⟨f, a', b', S0, hf, -⟩⟩, h3⟩ := h
  · cases h1; cases hf; exact h3
  · cases hf
theorem J_ixor {O : pO} {j n0 : Nat} {Q : pQ} {pc : Nat} {L : pL} {S : List pv} {n : Nat} {M : pM} {a b : Int} (hd : decode (mB j) pc = .ok (.ixor, 1)) : J O j n0 Q pc L (vi b :: vi a :: S) n M = J O j n0 Q (pc + 1) L (vi ((Int32.ofInt a ^^^ Int32.ofInt b).toInt) :: S) n M := by
  rw [J_of hd (fun h => h)]
  refine propext ⟨fun h => ?_, fun h => ⟨_, ⟨rfl, Or.inl ⟨_, a, b, S, rfl, rfl, rfl⟩⟩, h⟩⟩
  obtain ⟨S', ⟨-, ⟨f, a', b', S0, hf, h1, rfl⟩ | ⟨f, a', b', S0, hf, -⟩⟩, h3⟩ := h
  · cases h1; cases hf; exact h3
  · cases hf
theorem J_ishl {O : pO} {j n0 : Nat} {Q : pQ} {pc : Nat} {L : pL} {S : List pv} {n : Nat} {M : pM} {a b : Int} (hd : decode (mB j) pc = .ok (.ishl, 1)) : J O j n0 Q pc L (vi b :: vi a :: S) n M = J O j n0 Q (pc + 1) L (vi ((Int32.ofInt a <<< (Int32.ofInt b &&& 31)).toInt) :: S) n M := by
  rw [J_of hd (fun h => h)]
  refine propext ⟨fun h => ?_, fun h => ⟨_, ⟨rfl, Or.inl ⟨_, a, b, S, rfl, rfl, rfl⟩⟩, h⟩⟩
  obtain ⟨S', ⟨-, ⟨f, a', b', S0, hf, h1, rfl⟩ | ⟨f, a', b', S0, hf, -⟩⟩, h3⟩ := h
  · cases h1; cases hf; exact h3
  · cases hf
theorem J_ishr {O : pO} {j n0 : Nat} {Q : pQ} {pc : Nat} {L : pL} {S : List pv} {n : Nat} {M : pM} {a b : Int} (hd : decode (mB j) pc = .ok (.ishr, 1)) : J O j n0 Q pc L (vi b :: vi a :: S) n M = J O j n0 Q (pc + 1) L (vi ((Int32.ofInt a >>> (Int32.ofInt b &&& 31)).toInt) :: S) n M := by
  rw [J_of hd (fun h => h)]
  refine propext ⟨fun h => ?_, fun h => ⟨_, ⟨rfl, Or.inl ⟨_, a, b, S, rfl, rfl, rfl⟩⟩, h⟩⟩
  obtain ⟨S', ⟨-, ⟨f, a', b', S0, hf, h1, rfl⟩ | ⟨f, a', b', S0, hf, -⟩⟩, h3⟩ := h
  · cases h1; cases hf; exact h3
  · cases hf
theorem J_iushr {O : pO} {j n0 : Nat} {Q : pQ} {pc : Nat} {L : pL} {S : List pv} {n : Nat} {M : pM} {a b : Int} (hd : decode (mB j) pc = .ok (.iushr, 1)) : J O j n0 Q pc L (vi b :: vi a :: S) n M = J O j n0 Q (pc + 1) L (vi (((Int32.ofInt a).toUInt32 >>> ((Int32.ofInt b).toUInt32 &&& Int32.toUInt32 31)).toInt32.toInt) :: S) n M := by
  rw [J_of hd (fun h => h)]
  refine propext ⟨fun h => ?_, fun h => ⟨_, ⟨rfl, Or.inl ⟨_, a, b, S, rfl, rfl, rfl⟩⟩, h⟩⟩
  obtain ⟨S', ⟨-, ⟨f, a', b', S0, hf, h1, rfl⟩ | ⟨f, a', b', S0, hf, -⟩⟩, h3⟩ := h
  · cases h1; cases hf; exact h3
  · cases hf
theorem J_ladd {O : pO} {j n0 : Nat} {Q : pQ} {pc : Nat} {L : pL} {S : List pv} {n : Nat} {M : pM} {a b : Int} (hd : decode (mB j) pc = .ok (.ladd, 1)) : J O j n0 Q pc L (vl b :: vl a :: S) n M = J O j n0 Q (pc + 1) L (vl ((Int64.ofInt a + Int64.ofInt b).toInt) :: S) n M := by
  rw [J_of hd (fun h => h)]
  refine propext ⟨fun h => ?_, fun h => ⟨_, ⟨rfl, Or.inr ⟨_, a, b, S, rfl, rfl, rfl⟩⟩, h⟩⟩
  obtain ⟨S', ⟨-, ⟨f, a', b', S0, hf, -⟩ | ⟨f, a', b', S0, hf, h1, rfl⟩⟩, h3⟩ := h
  · cases hf
  · cases h1; cases hf; exact h3
theorem J_lsub {O : pO} {j n0 : Nat} {Q : pQ} {pc : Nat} {L : pL} {S : List pv} {n : Nat} {M : pM} {a b : Int} (hd : decode (mB j) pc = .ok (.lsub, 1)) : J O j n0 Q pc L (vl b :: vl a :: S) n M = J O j n0 Q (pc + 1) L (vl ((Int64.ofInt a - Int64.ofInt b).toInt) :: S) n M := by
  rw [J_of hd (fun h => h)]
  refine propext ⟨fun h => ?_, fun h => ⟨_, ⟨rfl, Or.inr ⟨_, a, b, S, rfl, rfl, rfl⟩⟩, h⟩⟩
  obtain ⟨S', ⟨-, ⟨f, a', b', S0, hf, -⟩ | ⟨f, a', b', S0, hf, h1, rfl⟩⟩, h3⟩ := h
  · cases hf
  · cases h1; cases hf; exact h3
theorem J_lmul {O : pO} {j n0 : Nat} {Q : pQ} {pc : Nat} {L : pL} {S : List pv} {n : Nat} {M : pM} {a b : Int} (hd : decode (mB j) pc = .ok (.lmul, 1)) : J O j n0 Q pc L (vl b :: vl a :: S) n M = J O j n0 Q (pc + 1) L (vl ((Int64.ofInt a * Int64.ofInt b).toInt) :: S) n M := by
  rw [J_of hd (fun h => h)]
  refine propext ⟨fun h => ?_, fun h => ⟨_, ⟨rfl, Or.inr ⟨_, a, b, S, rfl, rfl, rfl⟩⟩, h⟩⟩
  obtain ⟨S', ⟨-, ⟨f, a', b', S0, hf, -⟩ | ⟨f, a', b', S0, hf, h1, rfl⟩⟩, h3⟩ := h
  · cases hf
  · cases h1; cases hf; exact h3
theorem J_land {O : pO} {j n0 : Nat} {Q : pQ} {pc : Nat} {L : pL} {S : List pv} {n : Nat} {M : pM} {a b : Int} (hd : decode (mB j) pc = .ok (.land, 1)) : J O j n0 Q pc L (vl b :: vl a :: S) n M = J O j n0 Q (pc + 1) L (vl ((Int64.ofInt a &&& Int64.ofInt b).toInt) :: S) n M := by
  rw [J_of hd (fun h => h)]
  refine propext ⟨fun h => ?_, fun h => ⟨_, ⟨rfl, Or.inr ⟨_, a, b, S, rfl, rfl, rfl⟩⟩, h⟩⟩
  obtain ⟨S', ⟨-, ⟨f, a', b', S0, hf, -⟩ | ⟨f, a', b', S0, hf, h1, rfl⟩⟩, h3⟩ := h
  · cases hf
  · cases h1; cases hf; exact h3
theorem J_lor {O : pO} {j n0 : Nat} {Q : pQ} {pc : Nat} {L : pL} {S : List pv} {n : Nat} {M : pM} {a b : Int} (hd : decode (mB j) pc = .ok (.lor, 1)) : J O j n0 Q pc L (vl b :: vl a :: S) n M = J O j n0 Q (pc + 1) L (vl ((Int64.ofInt a ||| Int64.ofInt b).toInt) :: S) n M := by
  rw [J_of hd (fun h => h)]
  refine propext ⟨fun h => ?_, fun h => ⟨_, ⟨rfl, Or.inr ⟨_, a, b, S, rfl, rfl, rfl⟩⟩, h⟩⟩
  obtain ⟨S', ⟨-, ⟨f, a', b', S0, hf, -⟩ | ⟨f, a', b', S0, hf, h1, rfl⟩⟩, h3⟩ := h
  · cases hf
  · cases h1; cases hf; exact h3
theorem J_lxor {O : pO} {j n0 : Nat} {Q : pQ} {pc : Nat} {L : pL} {S : List pv} {n : Nat} {M : pM} {a b : Int} (hd : decode (mB j) pc = .ok (.lxor, 1)) : J O j n0 Q pc L (vl b :: vl a :: S) n M = J O j n0 Q (pc + 1) L (vl ((Int64.ofInt a ^^^ Int64.ofInt b).toInt) :: S) n M := by
  rw [J_of hd (fun h => h)]
  refine propext ⟨fun h => ?_, fun h => ⟨_, ⟨rfl, Or.inr ⟨_, a, b, S, rfl, rfl, rfl⟩⟩, h⟩⟩
  obtain ⟨S', ⟨-, ⟨f, a', b', S0, hf, -⟩ | ⟨f, a', b', S0, hf, h1, rfl⟩⟩, h3⟩ := h
  · cases hf
  · cases h1; cases hf; exact h3
theorem J_istore {O : pO} {j n0 : Nat} {Q : pQ} {pc : Nat} {L : pL} {S : List pv} {n : Nat} {M : pM} {k : Nat} {x : Int} {L' : pL} (hd : decode (mB j) pc = .ok (.istore k, 2)) (hk : k < L.length) (hL : (kil L k).set k (some (vi x)) = L') : J O j n0 Q pc L (vi x :: S) n M = J O j n0 Q (pc + 2) L' S n M := by
  rw [J_of hd (fun h => h)]
  refine propext ⟨fun h => ?_, fun h => ⟨_, _, ⟨rfl, x, rfl, hk, hL.symm⟩, h⟩⟩
  obtain ⟨L1, S1, ⟨-, x1, h1, -, rfl⟩, h3⟩ := h
  cases h1
  rw [hL] at h3
  exact h3
theorem J_istore_n {O : pO} {j n0 : Nat} {Q : pQ} {pc : Nat} {L : pL} {S : List pv} {n : Nat} {M : pM} {k : Fin 4} {x : Int} {L' : pL} (hd : decode (mB j) pc = .ok (.istore_n k, 1)) (hk : (k : Nat) < L.length) (hL : (kil L (k : Nat)).set (k : Nat) (some (vi x)) = L') : J O j n0 Q pc L (vi x :: S) n M = J O j n0 Q (pc + 1) L' S n M := by
  rw [J_of hd (fun h => h)]
  refine propext ⟨fun h => ?_, fun h => ⟨_, _, ⟨rfl, x, rfl, hk, hL.symm⟩, h⟩⟩
  obtain ⟨L1, S1, ⟨-, x1, h1, -, rfl⟩, h3⟩ := h
  cases h1
  rw [hL] at h3
  exact h3
theorem J_astore {O : pO} {j n0 : Nat} {Q : pQ} {pc : Nat} {L : pL} {S : List pv} {n : Nat} {M : pM} {k : Nat} {x : Nat} {L' : pL} (hd : decode (mB j) pc = .ok (.astore k, 2)) (hk : k < L.length) (hL : (kil L k).set k (some (vr x)) = L') : J O j n0 Q pc L (vr x :: S) n M = J O j n0 Q (pc + 2) L' S n M := by
  rw [J_of hd (fun h => h)]
  refine propext ⟨fun h => ?_, fun h => ⟨_, _, ⟨rfl, x, rfl, hk, hL.symm⟩, h⟩⟩
  obtain ⟨L1, S1, ⟨-, x1, h1, -, rfl⟩, h3⟩ := h
  cases h1
  rw [hL] at h3
  exact h3
theorem J_astore_n {O : pO} {j n0 : Nat} {Q : pQ} {pc : Nat} {L : pL} {S : List pv} {n : Nat} {M : pM} {k : Fin 4} {x : Nat} {L' : pL} (hd : decode (mB j) pc = .ok (.astore_n k, 1)) (hk : (k : Nat) < L.length) (hL : (kil L (k : Nat)).set (k : Nat) (some (vr x)) = L') : J O j n0 Q pc L (vr x :: S) n M = J O j n0 Q (pc + 1) L' S n M := by
  rw [J_of hd (fun h => h)]
  refine propext ⟨fun h => ?_, fun h => ⟨_, _, ⟨rfl, x, rfl, hk, hL.symm⟩, h⟩⟩
  obtain ⟨L1, S1, ⟨-, x1, h1, -, rfl⟩, h3⟩ := h
  cases h1
  rw [hL] at h3
  exact h3
theorem J_lstore {O : pO} {j n0 : Nat} {Q : pQ} {pc : Nat} {L : pL} {S : List pv} {n : Nat} {M : pM} {k : Nat} {x : Int} {L' : pL} (hd : decode (mB j) pc = .ok (.lstore k, 2)) (hk : k + 1 < L.length) (hL : ((kil L k).set k (some (vl x))).set (k + 1) none = L') : J O j n0 Q pc L (vl x :: S) n M = J O j n0 Q (pc + 2) L' S n M := by
  rw [J_of hd (fun h => h)]
  refine propext ⟨fun h => ?_, fun h => ⟨_, _, ⟨rfl, x, rfl, hk, hL.symm⟩, h⟩⟩
  obtain ⟨L1, S1, ⟨-, x1, h1, -, rfl⟩, h3⟩ := h
  cases h1
  rw [hL] at h3
  exact h3
theorem J_lstore_n {O : pO} {j n0 : Nat} {Q : pQ} {pc : Nat} {L : pL} {S : List pv} {n : Nat} {M : pM} {k : Fin 4} {x : Int} {L' : pL} (hd : decode (mB j) pc = .ok (.lstore_n k, 1)) (hk : (k : Nat) + 1 < L.length) (hL : ((kil L (k : Nat)).set (k : Nat) (some (vl x))).set ((k : Nat) + 1) none = L') : J O j n0 Q pc L (vl x :: S) n M = J O j n0 Q (pc + 1) L' S n M := by
  rw [J_of hd (fun h => h)]
  refine propext ⟨fun h => ?_, fun h => ⟨_, _, ⟨rfl, x, rfl, hk, hL.symm⟩, h⟩⟩
  obtain ⟨L1, S1, ⟨-, x1, h1, -, rfl⟩, h3⟩ := h
  cases h1
  rw [hL] at h3
  exact h3
theorem J_iinc {O : pO} {j n0 : Nat} {Q : pQ} {pc : Nat} {L : pL} {S : List pv} {n : Nat} {M : pM} {k : Nat} {x c : Int} {L' : pL} (hd : decode (mB j) pc = .ok (.iinc k c, 3)) (hc : r32 c) (hk : L[k]? = some (some (vi x))) (hL : (kil L k).set k (some (vi (w32 (x + c)))) = L') : J O j n0 Q pc L S n M = J O j n0 Q (pc + 3) L' S n M := by
  rw [J_of hd (fun h => h)]
  refine propext ⟨fun h => ?_, fun h => ⟨_, _, ⟨rfl, hc, x, hk, rfl, hL.symm⟩, h⟩⟩
  obtain ⟨L1, S1, ⟨-, -, x1, h1, rfl, rfl⟩, h3⟩ := h
  rw [hk] at h1
  cases h1
  rw [hL] at h3
  exact h3
theorem J_if {O : pO} {j n0 : Nat} {Q : pQ} {pc : Nat} {L : pL} {S : List pv} {n : Nat} {M : pM} {c : jC} {off x : Int} {tgt : Nat} (hd : decode (mB j) pc = .ok (.ifCond c off, 3)) (ht : (pc : Int) + off = (tgt : Nat)) : J O j n0 Q pc L (vi x :: S) n M = ((cnd c x 0 → J O j n0 Q tgt L S n M) ∧ (¬ cnd c x 0 → J O j n0 Q (pc + 3) L S n M)) := by
  rw [J_of hd (fun h => h)]
  refine propext ⟨fun h => ?_, fun h => ⟨rfl, x, S, tgt, rfl, ht, h.1, h.2⟩⟩
  obtain ⟨-, x', S', t, h1, h2, h3, h4⟩ := h
  cases h1
  have : t = tgt := by omega
  subst this
  exact ⟨h3, h4⟩
theorem J_icmp {O : pO} {j n0 : Nat} {Q : pQ} {pc : Nat} {L : pL} {S : List pv} {n : Nat} {M : pM} {c : jC} {off x y : Int} {tgt : Nat} (hd : decode (mB j) pc = .ok (.if_icmp c off, 3)) (ht : (pc : Int) + off = (tgt : Nat)) : J O j n0 Q pc L (vi y :: vi x :: S) n M = ((cnd c x y → J O j n0 Q tgt L S n M) ∧ (¬ cnd c x y → J O j n0 Q (pc + 3) L S n M)) := by
  rw [J_of hd (fun h => h)]
  refine propext ⟨fun h => ?_, fun h => ⟨rfl, x, y, S, tgt, rfl, ht, h.1, h.2⟩⟩
  obtain ⟨-, x', y', S', t, h1, h2, h3, h4⟩ := h
  cases h1
  have : t = tgt := by omega
  subst this
  exact ⟨h3, h4⟩
theorem J_goto {O : pO} {j n0 : Nat} {Q : pQ} {pc : Nat} {L : pL} {S : List pv} {n : Nat} {M : pM} {off : Int} {tgt : Nat} (hd : decode (mB j) pc = .ok (.goto off, 3)) (ht : (pc : Int) + off = (tgt : Nat)) : J O j n0 Q pc L S n M = J O j n0 Q tgt L S n M := by
  rw [J_of hd (fun h => h)]
  refine propext ⟨fun h => ?_, fun h => ⟨rfl, tgt, ht, h⟩⟩
  obtain ⟨-, t, h1, h2⟩ := h
  have : t = tgt := by omega
  subst this
  exact h2
theorem J_tabO {O : pO} {j n0 : Nat} {Q : pQ} {pc : Nat} {L : pL} {S : List pv} {n : Nat} {M : pM} {d lo hi x : Int} {offs : Array Int} {len dt : Nat} (hd : decode (mB j) pc = .ok (.tableswitch d lo hi offs, len)) (ht : (pc : Int) + d = (dt : Nat)) (hx : x < lo ∨ hi < x) (h : J O j n0 Q dt L S n M) : J O j n0 Q pc L (vi x :: S) n M := by
  rw [J_of hd (fun h => h)]
  refine ⟨x, S, rfl, fun t _ ht' => ?_, ⟨dt, ht⟩, fun k h1 h2 => by omega⟩
  have : t = dt := by omega
  subst this
  exact h
theorem J_tabI {O : pO} {j n0 : Nat} {Q : pQ} {pc : Nat} {L : pL} {S : List pv} {n : Nat} {M : pM} {d lo hi x : Int} {offs : Array Int} {len dt tgt k : Nat} {off : Int} (hd : decode (mB j) pc = .ok (.tableswitch d lo hi offs, len)) (ht : (pc : Int) + d = (dt : Nat)) (hx : x = lo + k) (hh : x ≤ hi) (ho : offs[k]? = some off) (h2 : (pc : Int) + off = (tgt : Nat)) (h : J O j n0 Q tgt L S n M) : J O j n0 Q pc L (vi x :: S) n M := by
  rw [J_of hd (fun h => h)]
  refine ⟨x, S, rfl, fun t h1 ht' => by omega, ⟨dt, ht⟩, fun k' h1 h3 => ?_⟩
  have : k' = k := by omega
  subst this
  exact ⟨off, ho, tgt, h2, h⟩
theorem J_look {O : pO} {j n0 : Nat} {Q : pQ} {pc : Nat} {L : pL} {S : List pv} {n : Nat} {M : pM} {d x : Int} {ps : Array (Int × Int)} {len tgt : Nat} (hd : decode (mB j) pc = .ok (.lookupswitch d ps, len)) (hp : (ps.toList.zip (ps.toList.drop 1)).all (fun (a, next) => a.1 < next.1) = true) (ht : (pc : Int) + Op.lookupswitch.offset ps.toList d x = (tgt : Nat)) : J O j n0 Q pc L (vi x :: S) n M = J O j n0 Q tgt L S n M := by
  rw [J_of hd (fun h => h)]
  refine propext ⟨fun h => ?_, fun h => ⟨hp, x, S, rfl, tgt, ht, h⟩⟩
  obtain ⟨-, x', S', h1, t, h2, h3⟩ := h
  cases h1
  have : t = tgt := by omega
  subst this
  exact h3
theorem J_get {O : pO} {j n0 : Nat} {Q : pQ} {pc : Nat} {L : pL} {S : List pv} {n : Nat} {M : pM} {ix a : Nat} {q : Nat × Nat × Nat × Nat × Nat × Nat} (hq : q ∈ fldL) (e : (q.1, q.2.1) = (mO j, ix)) (hd : decode (mB j) pc = .ok (.getfield ix, 3)) : J O j n0 Q pc L (vr (a + 1) :: S) n M = (ob n a = q.2.2.1 ∧ J O j n0 Q (pc + 3) L (tgv (tyA q.2.2.1 q.2.2.2.1) (M a q.2.2.2.1) :: S) n M) := by
  rw [J_of hd (fun ⟨_, x, hx, h1, h2, _⟩ => sf_fl q hq x hx ⟨(fst_e e).trans h1.symm, (snd_e e).trans h2.symm⟩)]
  refine propext ⟨fun h => ?_, fun h => ⟨rfl, q, hq, congrArg Prod.fst e, congrArg Prod.snd e, a, S, rfl, h.1, h.2⟩⟩
  obtain ⟨-, x, hx, h1, h2, a', S', h3, h4, h5⟩ := h
  have : x = q := uq_of fld_u x hx q hq (by rw [show (x.1, x.2.1) = (mO j, ix) from by rw [h1, h2], e])
  subst this
  cases h3
  exact ⟨h4, h5⟩
theorem J_put {O : pO} {j n0 : Nat} {Q : pQ} {pc : Nat} {L : pL} {S : List pv} {n : Nat} {M : pM} {ix a : Nat} {v : pv} {x : Int} {q : Nat × Nat × Nat × Nat × Nat × Nat} (hq : q ∈ fldL) (e : (q.1, q.2.1) = (mO j, ix)) (hf : (cT q.2.2.1 q.2.2.2.1).2.2.2 = false ∨ ((mY j).name = "<init>" ∧ q.2.2.1 = mO j ∧ q.2.2.2.2.2 = 0)) {C : Prop} (hu : ∀ y, utg (tyA q.2.2.1 q.2.2.2.1) v y ↔ (C ∧ y = x)) (hd : decode (mB j) pc = .ok (.putfield ix, 3)) : J O j n0 Q pc L (v :: vr (a + 1) :: S) n M = (ob n a = q.2.2.1 ∧ C ∧ J O j n0 Q (pc + 3) L S n (st M a q.2.2.2.1 x)) := by
  rw [J_of hd (fun h => h)]
  refine propext ⟨fun h => ?_, fun h => ⟨rfl, q, hq, congrArg Prod.fst e, congrArg Prod.snd e, hf, a, v, x, S, rfl, h.1, (hu x).mpr ⟨h.2.1, rfl⟩, h.2.2⟩⟩
  obtain ⟨-, z, hz, h1, h2, -, a', v', x', S', h3, h4, h6, h5⟩ := h
  have : z = q := uq_of fld_u z hz q hq (by rw [show (z.1, z.2.1) = (mO j, ix) from by rw [h1, h2], e])
  subst this
  cases h3
  obtain ⟨hC, rfl⟩ := (hu x').mp h6
  exact ⟨h4, hC, h5⟩
theorem J_gs {O : pO} {j n0 : Nat} {Q : pQ} {pc : Nat} {L : pL} {S : List pv} {n : Nat} {M : pM} {ix : Nat} {q : Nat × Nat × Nat × Nat} (hq : q ∈ gsL) (e : (q.1, q.2.1) = (mO j, ix)) (hd : decode (mB j) pc = .ok (.getstatic ix, 3)) : J O j n0 Q pc L S n M = J O j n0 Q (pc + 3) L (vr (1001 + q.2.2.1) :: S) n M := by
  rw [J_of hd (fun ⟨_, x, hx, h1, h2, _⟩ => gb_gs q hq x hx ⟨(fst_e e).trans h1.symm, (snd_e e).trans h2.symm⟩)]
  refine propext ⟨fun h => ?_, fun h => ⟨rfl, q, hq, congrArg Prod.fst e, congrArg Prod.snd e, h⟩⟩
  obtain ⟨-, x, hx, h1, h2, h5⟩ := h
  have : x = q := uq_of gs_u x hx q hq (by rw [show (x.1, x.2.1) = (mO j, ix) from by rw [h1, h2], e])
  subst this
  exact h5
theorem J_iald {O : pO} {j n0 : Nat} {Q : pQ} {pc : Nat} {L : pL} {S : List pv} {n : Nat} {M : pM} {a : Nat} {x : Int} (hd : decode (mB j) pc = .ok (.iaload, 1)) : J O j n0 Q pc L (vi x :: vr (a + 1) :: S) n M = (0 ≤ x ∧ x < aln M n a 0 ∧ J O j n0 Q (pc + 1) L (vi (M a x.toNat) :: S) n M) := by
  rw [J_of hd (fun h => h)]
  refine propext ⟨fun h => ?_, fun h => ⟨rfl, x, a, S, rfl, h.1, h.2.1, h.2.2⟩⟩
  obtain ⟨-, x', a', S', h1, h2, h3, h4⟩ := h
  cases h1
  exact ⟨h2, h3, h4⟩
theorem J_lald {O : pO} {j n0 : Nat} {Q : pQ} {pc : Nat} {L : pL} {S : List pv} {n : Nat} {M : pM} {a : Nat} {x : Int} (hd : decode (mB j) pc = .ok (.laload, 1)) : J O j n0 Q pc L (vi x :: vr (a + 1) :: S) n M = (0 ≤ x ∧ x < alw n a 1 ∧ J O j n0 Q (pc + 1) L (vl (M a x.toNat) :: S) n M) := by
  rw [J_of hd (fun h => h)]
  refine propext ⟨fun h => ?_, fun h => ⟨rfl, x, a, S, rfl, h.1, h.2.1, h.2.2⟩⟩
  obtain ⟨-, x', a', S', h1, h2, h3, h4⟩ := h
  cases h1
  exact ⟨h2, h3, h4⟩
theorem J_bald {O : pO} {j n0 : Nat} {Q : pQ} {pc : Nat} {L : pL} {S : List pv} {n : Nat} {M : pM} {a : Nat} {x : Int} (ha : a < 1000) (hd : decode (mB j) pc = .ok (.baload, 1)) : J O j n0 Q pc L (vi x :: vr (a + 1) :: S) n M = (0 ≤ x ∧ (x < alw n a 2 ∨ x < alw n a 3) ∧ J O j n0 Q (pc + 1) L (vi (M a x.toNat) :: S) n M) := by
  rw [J_of hd (fun ⟨_, x', i, S', _, h2, _⟩ => by have := Sum.inr.inj (Sum.inr.inj (List.cons.inj (List.cons.inj h2).2).1); omega)]
  refine propext ⟨fun h => ?_, fun h => ⟨rfl, x, a, S, rfl, h.1, h.2.1, h.2.2⟩⟩
  obtain ⟨-, x', a', S', h1, h2, h3, h4⟩ := h
  cases h1
  exact ⟨h2, h3, h4⟩
theorem J_iast {O : pO} {j n0 : Nat} {Q : pQ} {pc : Nat} {L : pL} {S : List pv} {n : Nat} {M : pM} {a : Nat} {x v : Int} (hd : decode (mB j) pc = .ok (.iastore, 1)) : J O j n0 Q pc L (vi v :: vi x :: vr (a + 1) :: S) n M = (0 ≤ x ∧ x < alw n a 0 ∧ J O j n0 Q (pc + 1) L S n (st M a x.toNat v)) := by
  rw [J_of hd (fun h => h)]
  refine propext ⟨fun h => ?_, fun h => ⟨rfl, v, x, a, S, rfl, h.1, h.2.1, h.2.2⟩⟩
  obtain ⟨-, v', x', a', S', h1, h2, h3, h4⟩ := h
  cases h1
  exact ⟨h2, h3, h4⟩
theorem J_last {O : pO} {j n0 : Nat} {Q : pQ} {pc : Nat} {L : pL} {S : List pv} {n : Nat} {M : pM} {a : Nat} {x v : Int} (hd : decode (mB j) pc = .ok (.lastore, 1)) : J O j n0 Q pc L (vl v :: vi x :: vr (a + 1) :: S) n M = (0 ≤ x ∧ x < alw n a 1 ∧ J O j n0 Q (pc + 1) L S n (st M a x.toNat v)) := by
  rw [J_of hd (fun h => h)]
  refine propext ⟨fun h => ?_, fun h => ⟨rfl, v, x, a, S, rfl, h.1, h.2.1, h.2.2⟩⟩
  obtain ⟨-, v', x', a', S', h1, h2, h3, h4⟩ := h
  cases h1
  exact ⟨h2, h3, h4⟩
theorem J_bast {O : pO} {j n0 : Nat} {Q : pQ} {pc : Nat} {L : pL} {S : List pv} {n : Nat} {M : pM} {a : Nat} {x v : Int} (hd : decode (mB j) pc = .ok (.bastore, 1)) : J O j n0 Q pc L (vi v :: vi x :: vr (a + 1) :: S) n M = (0 ≤ x ∧ ((x < alw n a 2 ∧ J O j n0 Q (pc + 1) L S n (st M a x.toNat (w8 v))) ∨ (x < alw n a 3 ∧ (v = 0 ∨ v = 1) ∧ J O j n0 Q (pc + 1) L S n (st M a x.toNat v)))) := by
  rw [J_of hd (fun h => h)]
  refine propext ⟨fun h => ?_, fun h => ⟨rfl, v, x, a, S, rfl, h.1, h.2⟩⟩
  obtain ⟨-, v', x', a', S', h1, h2, h3⟩ := h
  cases h1
  exact ⟨h2, h3⟩
theorem J_alen {O : pO} {j n0 : Nat} {Q : pQ} {pc : Nat} {L : pL} {S : List pv} {n : Nat} {M : pM} {a t : Nat} {len : Int} (hd : decode (mB j) pc = .ok (.arraylength, 1)) (hl : aln M n a t = len) (h0 : 0 ≤ len) (h : J O j n0 Q (pc + 1) L (vi len :: S) n M) : J O j n0 Q pc L (vr (a + 1) :: S) n M := by
  refine J_sx hd ?_
  exact ⟨rfl, a, S, t, rfl, by rw [hl]; exact h0, by rw [hl]; exact h⟩
theorem J_newa {O : pO} {j n0 : Nat} {Q : pQ} {pc : Nat} {L : pL} {S : List pv} {n : Nat} {M : pM} {t : ArrayType} {x : Int} (hd : decode (mB j) pc = .ok (.newarray t, 2)) (ht : t = .int ∨ t = .long ∨ t = .byte ∨ t = .boolean) : J O j n0 Q pc L (vi x :: S) n M = (n < NCELL ∧ n + 1 ≤ n0 + mC j ∧ SH n = .inr (atg t, x.toNat) ∧ 0 ≤ x ∧ x ≤ 1000000 ∧ J O j n0 Q (pc + 2) L (vr (n + 1) :: S) (n + 1) (zr M n)) := by
  rw [J_of hd (fun h => h)]
  refine propext ⟨fun h => ?_, fun h => ⟨rfl, x, S, rfl, h.1, h.2.1, h.2.2.1, ht, h.2.2.2.1, h.2.2.2.2.1, h.2.2.2.2.2⟩⟩
  obtain ⟨-, x', S', h1, h2, h3, h4, -, h5, h6, h7⟩ := h
  cases h1
  exact ⟨h2, h3, h4, h5, h6, h7⟩
theorem J_new {O : pO} {j n0 : Nat} {Q : pQ} {pc : Nat} {L : pL} {S : List pv} {n : Nat} {M : pM} {ix : Nat} {q : Nat × Nat × Nat × Nat × Nat × Nat × Nat} (hq : q ∈ newL) (e : (q.1, q.2.1) = (mO j, ix)) (hd : decode (mB j) pc = .ok (.new ix, 3)) : J O j n0 Q pc L S n M = (n < NCELL ∧ n + 1 ≤ n0 + mC j ∧ SH n = .inl q.2.2.1 ∧ J O j n0 Q (pc + 3) L (vr (n + 1) :: S) (n + 1) (zr M n)) := by
  rw [J_of hd (fun h => h)]
  refine propext ⟨fun h => ?_, fun h => ⟨rfl, q, hq, congrArg Prod.fst e, congrArg Prod.snd e, h.1, h.2.1, h.2.2.1, h.2.2.2⟩⟩
  obtain ⟨-, x, hx, h1, h2, h3, h4, h5, h6⟩ := h
  have : x = q := uq_of new_u x hx q hq (by rw [show (x.1, x.2.1) = (mO j, ix) from by rw [h1, h2], e])
  subst this
  exact ⟨h3, h4, h5, h6⟩
def kI (O : pO) (j n0 : Nat) (Q : pQ) (pc : Nat) (L : pL) (S : List pv) (n : Nat) : pQ := fun r M' => ∃ x, r = some (vi x) ∧ J O j n0 Q pc L (vi x :: S) n M'
def kL (O : pO) (j n0 : Nat) (Q : pQ) (pc : Nat) (L : pL) (S : List pv) (n : Nat) : pQ := fun r M' => ∃ x, r = some (vl x) ∧ J O j n0 Q pc L (vl x :: S) n M'
def kV (O : pO) (j n0 : Nat) (Q : pQ) (pc : Nat) (L : pL) (S : List pv) (n : Nat) : pQ := fun r M' => r = none ∧ J O j n0 Q pc L S n M'
def kR (rt : Option FieldType) (O : pO) (j n0 : Nat) (Q : pQ) (pc : Nat) (L : pL) (S : List pv) (n : Nat) : pQ := fun r M' => ∃ S'', psh rt r S S'' ∧ J O j n0 Q pc L S'' n M'
theorem kR_I {O : pO} {j n0 : Nat} {Q : pQ} {pc : Nat} {L : pL} {S : List pv} {n : Nat} {rt : Option FieldType} (h : rt = some .int ∨ rt = some .boolean ∨ rt = some .char) : kR rt O j n0 Q pc L S n = kI O j n0 Q pc L S n := by
  funext r M'
  refine propext ⟨fun q => ?_, fun q => ?_⟩
  · obtain ⟨S'', h1, h2⟩ := q
    rcases h with rfl | rfl | rfl <;> (obtain ⟨x, e1, rfl⟩ := h1; exact ⟨x, e1, h2⟩)
  · obtain ⟨x, e1, h2⟩ := q
    rcases h with rfl | rfl | rfl <;> exact ⟨_, ⟨x, e1, rfl⟩, h2⟩
theorem kR_L {O : pO} {j n0 : Nat} {Q : pQ} {pc : Nat} {L : pL} {S : List pv} {n : Nat} : kR (some .long) O j n0 Q pc L S n = kL O j n0 Q pc L S n := by
  funext r M'
  refine propext ⟨fun q => ?_, fun q => ?_⟩
  · obtain ⟨S'', ⟨x, e1, rfl⟩, h2⟩ := q; exact ⟨x, e1, h2⟩
  · obtain ⟨x, e1, h2⟩ := q; exact ⟨_, ⟨x, e1, rfl⟩, h2⟩
theorem kR_V {O : pO} {j n0 : Nat} {Q : pQ} {pc : Nat} {L : pL} {S : List pv} {n : Nat} : kR none O j n0 Q pc L S n = kV O j n0 Q pc L S n := by
  funext r M'
  refine propext ⟨fun q => ?_, fun q => ?_⟩
  · obtain ⟨S'', ⟨e1, rfl⟩, h2⟩ := q; exact ⟨e1, h2⟩
  · exact ⟨S, ⟨q.1, rfl⟩, q.2⟩
theorem J_callV {O : pO} {j n0 : Nat} {Q : pQ} {pc : Nat} {L : pL} {S : List pv} {n : Nat} {M : pM} {ix b i : Nat} {As : List pv} {q : Nat × Nat × Nat × Nat × Nat × Nat} (hq : q ∈ calL) (e : (q.1, q.2.1) = (mO j, ix)) (e3 : q.2.2.1 = 0) (ei : q.2.2.2.1 = i) (h14 : mO i ≠ 14) (hc : mC i = 0) (hA : As.length = mA i) (hd : decode (mB j) pc = .ok (.invokevirtual ix, 3)) : J O j n0 Q pc L (As.reverse ++ vr (b + 1) :: S) n M = (ob n b = mO i ∧ stk S ≤ 8 ∧ mo O i (vr (b + 1) :: As) n M (kR (mR i) O j n0 Q (pc + 3) L S n)) := by
  subst ei
  rw [J_of hd (fun ⟨_, x, hx, h1, h2, _, _, _, _, _, _, _, h8, _⟩ => h14 (by rw [← uq_of cal_u x hx q hq (by rw [show (x.1, x.2.1) = (mO j, ix) from by rw [h1, h2], e])]; exact h8))]
  refine propext ⟨fun h => ?_, fun h => ⟨rfl, q, hq, congrArg Prod.fst e, congrArg Prod.snd e, e3, As, b, S, rfl, hA, h.1, h.2.1, hc, h.2.2⟩⟩
  obtain ⟨-, x, hx, h1, h2, -, As', b', S', h4, h5, h6, h7, h8, h9⟩ := h
  have : x = q := uq_of cal_u x hx q hq (by rw [show (x.1, x.2.1) = (mO j, ix) from by rw [h1, h2], e])
  subst this
  have hl : As.reverse.length = As'.reverse.length := by rw [List.length_reverse, List.length_reverse, hA, h5]
  obtain ⟨g1, g2⟩ := List.append_inj h4 hl
  cases g2
  have g1 := List.reverse_inj.mp g1
  subst g1
  exact ⟨h6, h7, h9⟩
theorem J_callS {O : pO} {j n0 : Nat} {Q : pQ} {pc : Nat} {L : pL} {S : List pv} {n : Nat} {M : pM} {ix i : Nat} {As : List pv} {q : Nat × Nat × Nat × Nat × Nat × Nat} (hq : q ∈ calL) (e : (q.1, q.2.1) = (mO j, ix)) (e3 : q.2.2.1 = 1) (ei : q.2.2.2.1 = i) (hm : mth i = 0) (hc : mC i = 0) (hA : As.length = mA i) (hd : decode (mB j) pc = .ok (.invokestatic ix, 3)) : J O j n0 Q pc L (As.reverse ++ S) n M = (stk S ≤ 8 ∧ mo O i As n M (kR (mR i) O j n0 Q (pc + 3) L S n)) := by
  subst ei
  rw [J_of hd (fun h => h)]
  refine propext ⟨fun h => ?_, fun h => ⟨rfl, Or.inl ⟨q, hq, congrArg Prod.fst e, congrArg Prod.snd e, e3, Or.inl ⟨hm, As, S, rfl, hA, h.1, hc, h.2⟩⟩⟩⟩
  obtain ⟨-, ⟨x, hx, h1, h2, -, hh⟩ | ⟨g0, -⟩⟩ := h
  case inr => exact absurd ⟨congrArg Prod.fst e, congrArg Prod.snd e⟩ (g0 q hq)
  have : x = q := uq_of cal_u x hx q hq (by rw [show (x.1, x.2.1) = (mO j, ix) from by rw [h1, h2], e])
  subst this
  rcases hh with ⟨-, As', S', h4, h5, h6, h7, h8⟩ | ⟨m, -⟩ | ⟨m, -⟩ | ⟨m, -⟩
  · have hl : As.reverse.length = As'.reverse.length := by rw [List.length_reverse, List.length_reverse, hA, h5]
    obtain ⟨g1, g2⟩ := List.append_inj h4 hl
    subst g2
    have g1 := List.reverse_inj.mp g1
    subst g1
    exact ⟨h6, h8⟩
  · omega
  · omega
  · omega
theorem J_max {O : pO} {j n0 : Nat} {Q : pQ} {pc : Nat} {L : pL} {S : List pv} {n : Nat} {M : pM} {ix : Nat} {a b : Int} {q : Nat × Nat × Nat × Nat × Nat × Nat} (hq : q ∈ calL) (e : (q.1, q.2.1) = (mO j, ix)) (e3 : q.2.2.1 = 1) (hm : mth q.2.2.2.1 = 1) (hd : decode (mB j) pc = .ok (.invokestatic ix, 3)) : J O j n0 Q pc L (vi b :: vi a :: S) n M = (stk S ≤ 8 ∧ J O j n0 Q (pc + 3) L (vi (if a < b then b else a) :: S) n M) := by
  rw [J_of hd (fun h => h)]
  refine propext ⟨fun h => ?_, fun h => ⟨rfl, Or.inl ⟨q, hq, congrArg Prod.fst e, congrArg Prod.snd e, e3, Or.inr (Or.inl ⟨hm, a, b, S, rfl, h.1, h.2⟩)⟩⟩⟩
  obtain ⟨-, ⟨x, hx, h1, h2, -, hh⟩ | ⟨g0, -⟩⟩ := h
  case inr => exact absurd ⟨congrArg Prod.fst e, congrArg Prod.snd e⟩ (g0 q hq)
  have : x = q := uq_of cal_u x hx q hq (by rw [show (x.1, x.2.1) = (mO j, ix) from by rw [h1, h2], e])
  subst this
  rcases hh with ⟨m, -⟩ | ⟨m, a', b', S', h4, h5, h6⟩ | ⟨m, a', b', S', h4, h5, h6⟩ | ⟨m, a', S', h4, h5, h6⟩ <;> first | omega | (cases h4; exact ⟨h5, h6⟩)
theorem J_min {O : pO} {j n0 : Nat} {Q : pQ} {pc : Nat} {L : pL} {S : List pv} {n : Nat} {M : pM} {ix : Nat} {a b : Int} {q : Nat × Nat × Nat × Nat × Nat × Nat} (hq : q ∈ calL) (e : (q.1, q.2.1) = (mO j, ix)) (e3 : q.2.2.1 = 1) (hm : mth q.2.2.2.1 = 2) (hd : decode (mB j) pc = .ok (.invokestatic ix, 3)) : J O j n0 Q pc L (vi b :: vi a :: S) n M = (stk S ≤ 8 ∧ J O j n0 Q (pc + 3) L (vi (if b < a then b else a) :: S) n M) := by
  rw [J_of hd (fun h => h)]
  refine propext ⟨fun h => ?_, fun h => ⟨rfl, Or.inl ⟨q, hq, congrArg Prod.fst e, congrArg Prod.snd e, e3, Or.inr (Or.inr (Or.inl ⟨hm, a, b, S, rfl, h.1, h.2⟩))⟩⟩⟩
  obtain ⟨-, ⟨x, hx, h1, h2, -, hh⟩ | ⟨g0, -⟩⟩ := h
  case inr => exact absurd ⟨congrArg Prod.fst e, congrArg Prod.snd e⟩ (g0 q hq)
  have : x = q := uq_of cal_u x hx q hq (by rw [show (x.1, x.2.1) = (mO j, ix) from by rw [h1, h2], e])
  subst this
  rcases hh with ⟨m, -⟩ | ⟨m, a', b', S', h4, h5, h6⟩ | ⟨m, a', b', S', h4, h5, h6⟩ | ⟨m, a', S', h4, h5, h6⟩ <;> first | omega | (cases h4; exact ⟨h5, h6⟩)
theorem J_abs {O : pO} {j n0 : Nat} {Q : pQ} {pc : Nat} {L : pL} {S : List pv} {n : Nat} {M : pM} {ix : Nat} {a : Int} {q : Nat × Nat × Nat × Nat × Nat × Nat} (hq : q ∈ calL) (e : (q.1, q.2.1) = (mO j, ix)) (e3 : q.2.2.1 = 1) (hm : mth q.2.2.2.1 = 3) (hd : decode (mB j) pc = .ok (.invokestatic ix, 3)) : J O j n0 Q pc L (vi a :: S) n M = (stk S ≤ 8 ∧ J O j n0 Q (pc + 3) L (vi (if 0 ≤ a then a else w32 (0 - a)) :: S) n M) := by
  rw [J_of hd (fun h => h)]
  refine propext ⟨fun h => ?_, fun h => ⟨rfl, Or.inl ⟨q, hq, congrArg Prod.fst e, congrArg Prod.snd e, e3, Or.inr (Or.inr (Or.inr ⟨hm, a, S, rfl, h.1, h.2⟩))⟩⟩⟩
  obtain ⟨-, ⟨x, hx, h1, h2, -, hh⟩ | ⟨g0, -⟩⟩ := h
  case inr => exact absurd ⟨congrArg Prod.fst e, congrArg Prod.snd e⟩ (g0 q hq)
  have : x = q := uq_of cal_u x hx q hq (by rw [show (x.1, x.2.1) = (mO j, ix) from by rw [h1, h2], e])
  subst this
  rcases hh with ⟨m, -⟩ | ⟨m, a', b', S', h4, h5, h6⟩ | ⟨m, a', b', S', h4, h5, h6⟩ | ⟨m, a', S', h4, h5, h6⟩ <;> first | omega | (cases h4; exact ⟨h5, h6⟩)
theorem J_obj {O : pO} {j n0 : Nat} {Q : pQ} {pc : Nat} {L : pL} {S : List pv} {n : Nat} {M : pM} {ix b : Nat} {q : Nat × Nat × Nat} (hq : q ∈ obiL) (e : (q.1, q.2.1) = (mO j, ix)) (hd : decode (mB j) pc = .ok (.invokespecial ix, 3)) (hk : stk S ≤ 8) (h : J O j n0 Q (pc + 3) L S n M) : J O j n0 Q pc L (vr (b + 1) :: S) n M := by
  rw [J_of hd (fun h => h)]
  exact ⟨rfl, Or.inl ⟨q, hq, (Prod.mk.inj e).1, (Prod.mk.inj e).2, b, S, rfl, hk, h⟩⟩
theorem J_callI {O : pO} {j n0 : Nat} {Q : pQ} {pc : Nat} {L : pL} {S : List pv} {n : Nat} {M : pM} {ix b i : Nat} {As : List pv} {q : Nat × Nat × Nat × Nat × Nat × Nat} (hq : q ∈ calL) (e : (q.1, q.2.1) = (mO j, ix)) (e3 : q.2.2.1 = 2) (ei : q.2.2.2.1 = i) (hA : As.length = mA i) (hmr : mR i = none) (hd : decode (mB j) pc = .ok (.invokespecial ix, 3)) (h1 : ob n b = mO i) (h2 : stk S ≤ 8) (h3 : n + mC i ≤ n0 + mC j) (h4 : mo O i (vr (b + 1) :: As) n M (kV O j n0 Q (pc + 3) L S (n + mC i))) : J O j n0 Q pc L (As.reverse ++ vr (b + 1) :: S) n M := by
  subst ei
  rw [J_of hd (fun h => h)]
  exact ⟨rfl, Or.inr ⟨q, hq, congrArg Prod.fst e, congrArg Prod.snd e, e3, As, b, S, rfl, hA, h1, h2, h3, hmr, h4⟩⟩
theorem J_iret {O : pO} {j n0 : Nat} {Q : pQ} {pc : Nat} {L : pL} {n : Nat} {M : pM} {x : Int} (hd : decode (mB j) pc = .ok (.ireturn, 1)) : J O j n0 Q pc L [vi x] n M = (n = n0 + mC j ∧ rok (mR j) x ∧ Q (some (vi x)) M) := by
  rw [J_of hd (fun h => h)]
  refine propext ⟨fun h => ?_, fun h => ⟨rfl, h.1, x, rfl, h.2.1, h.2.2⟩⟩
  obtain ⟨-, h1, x', h2, h3, h4⟩ := h
  cases h2
  exact ⟨h1, h3, h4⟩
theorem J_lret {O : pO} {j n0 : Nat} {Q : pQ} {pc : Nat} {L : pL} {n : Nat} {M : pM} {x : Int} (hr : mR j = some .long) (hd : decode (mB j) pc = .ok (.lreturn, 1)) : J O j n0 Q pc L [vl x] n M = (n = n0 + mC j ∧ Q (some (vl x)) M) := by
  rw [J_of hd (fun h => h)]
  refine propext ⟨fun h => ?_, fun h => ⟨rfl, h.1, hr, x, rfl, h.2⟩⟩
  obtain ⟨-, h1, -, x', h2, h4⟩ := h
  cases h2
  exact ⟨h1, h4⟩
theorem J_vret {O : pO} {j n0 : Nat} {Q : pQ} {pc : Nat} {L : pL} {n : Nat} {M : pM} (hr : mR j = none) (hd : decode (mB j) pc = .ok (.return_, 1)) : J O j n0 Q pc L [] n M = (n = n0 + mC j ∧ Q none M) := by
  rw [J_of hd (fun h => h)]
  refine propext ⟨fun h => ?_, fun h => ⟨rfl, h.1, hr, rfl, h.2⟩⟩
  obtain ⟨-, h1, -, -, h4⟩ := h
  exact ⟨h1, h4⟩
theorem J_acp {O : pO} {j n0 : Nat} {Q : pQ} {pc : Nat} {L : pL} {S : List pv} {n : Nat} {M : pM} {ix a b : Nat} {x y k : Int} {q : Nat × Nat × Nat} (hq : q ∈ acpL) (e : (q.1, q.2.1) = (mO j, ix)) (hn : ∀ q ∈ calL, ¬ (q.1 = mO j ∧ q.2.1 = ix)) (hd : decode (mB j) pc = .ok (.invokestatic ix, 3)) (hk : stk S ≤ 8) (h0 : 0 ≤ x) (h1 : 0 ≤ y) (h2 : 0 ≤ k) (h3 : x + k ≤ alw n a 0) (h4 : y + k ≤ alw n b 0) (h : J O j n0 Q (pc + 3) L S n (cpy M a b x.toNat y.toNat k.toNat)) : J O j n0 Q pc L (vi k :: vi y :: vr (b + 1) :: vi x :: vr (a + 1) :: S) n M := by
  rw [J_of hd (fun h => h)]
  exact ⟨rfl, Or.inr ⟨hn, q, hq, (Prod.mk.inj e).1, (Prod.mk.inj e).2, a, b, x, y, k, S, rfl, hk, h0, h1, h2, h3, h4, h⟩⟩
