/-! bits: rows out of the kit's BITS.to-paste begin here -/
def bt (x : Int32) (i : Nat) : Bool := x.toBitVec.getLsbD i
theorem b_or (x y : Int32) (i : Nat) : bt (x ||| y) i = (bt x i || bt y i) := by unfold bt; rw [Int32.toBitVec_or, BitVec.getLsbD_or]
theorem b_and (x y : Int32) (i : Nat) : bt (x &&& y) i = (bt x i && bt y i) := by unfold bt; rw [Int32.toBitVec_and, BitVec.getLsbD_and]
theorem b_ext {x y : Int32} (h : ∀ i, i < 32 → bt x i = bt y i) : x = y := Int32.toBitVec_inj.mp (BitVec.eq_of_getLsbD_eq (fun i hi => h i hi))
theorem s_l : ∀ n, n < 32 → ((Int32.ofInt (n : Nat) &&& 31).toBitVec.smod 32).toNat = n := by decide +kernel
theorem s_u : ∀ n, n < 32 → (((Int32.ofInt (n : Nat)).toUInt32 &&& Int32.toUInt32 31).toBitVec % 32).toNat = n := by decide +kernel
theorem b_shl (n : Nat) (hn : n < 32) (x : Int32) {i : Nat} (hi : i < 32) : bt (x <<< (Int32.ofInt (n : Nat) &&& 31)) i = (decide (n ≤ i) && bt x (i - n)) := by
  unfold bt
  rw [Int32.toBitVec_shiftLeft]
  show (x.toBitVec <<< ((Int32.ofInt (n : Nat) &&& 31).toBitVec.smod 32).toNat).getLsbD i = _
  rw [s_l n hn, BitVec.getLsbD_shiftLeft]
  rcases Nat.lt_or_ge i n with h | h
  · simp [h, Nat.not_le.mpr h]
  · simp [hi, h, Nat.not_lt.mpr h]
theorem b_sshr (n : Nat) (hn : n < 32) (x : Int32) {i : Nat} (hi : i < 32) : bt (x >>> (Int32.ofInt (n : Nat) &&& 31)) i = if n + i < 32 then bt x (n + i) else bt x 31 := by
  unfold bt
  rw [Int32.toBitVec_shiftRight]
  show (x.toBitVec.sshiftRight ((Int32.ofInt (n : Nat) &&& 31).toBitVec.smod 32).toNat).getLsbD i = _
  rw [s_l n hn, BitVec.getLsbD_sshiftRight, BitVec.msb_eq_getLsbD_last]
  simp [hi]
theorem b_ushr (n : Nat) (hn : n < 32) (x : Int32) (i : Nat) : bt ((x.toUInt32 >>> ((Int32.ofInt (n : Nat)).toUInt32 &&& Int32.toUInt32 31)).toInt32) i = bt x (n + i) := by
  show (x.toUInt32 >>> ((Int32.ofInt (n : Nat)).toUInt32 &&& Int32.toUInt32 31)).toBitVec.getLsbD i = x.toUInt32.toBitVec.getLsbD (n + i)
  rw [UInt32.toBitVec_shiftRight]
  show (x.toUInt32.toBitVec >>> (((Int32.ofInt (n : Nat)).toUInt32 &&& Int32.toUInt32 31).toBitVec % 32).toNat).getLsbD i = _
  rw [s_u n hn, BitVec.getLsbD_ushiftRight]
theorem b_1 : ∀ i, i < 32 → bt (Int32.ofInt 1) i = decide (i = 0) := by decide +kernel
theorem b_255 : ∀ i, i < 32 → bt (Int32.ofInt 255) i = decide (i < 8) := by decide +kernel
theorem i32_rt {x : Int32} : Int32.ofInt x.toInt = x := Int32.ofInt_toInt x
/-! named results undone -/
theorem op2_o {i : Instr} {q : Nat} {f : Int → Int → Int} (h : op2n i = some q) (hf : iop i = some f) : f = match q with
    | 0 => (fun a b => (Int32.ofInt a &&& Int32.ofInt b).toInt)
    | 1 => (fun a b => (Int32.ofInt a ||| Int32.ofInt b).toInt)
    | 2 => (fun a b => (Int32.ofInt a ^^^ Int32.ofInt b).toInt)
    | 3 => (fun a b => (Int32.ofInt a <<< (Int32.ofInt b &&& 31)).toInt)
    | 4 => (fun a b => (Int32.ofInt a >>> (Int32.ofInt b &&& 31)).toInt)
    | _ => (fun a b => ((Int32.ofInt a).toUInt32 >>> ((Int32.ofInt b).toUInt32 &&& Int32.toUInt32 31)).toInt32.toInt) := by
  unfold op2n at h
  split at h
  all_goals first | (have h := Option.some.inj h; subst h; exact (Option.some.inj hf).symm) | cases h
theorem nm2_o {q : Nat} {x y a b : Int} (h : nm2 q x y) (hx : x = 4294967296 * a + b) (hb : r32 b) : ∃ i f, op2n i = some q ∧ iop i = some f ∧ y = f a b := by
  obtain ⟨i, f, a', b', h1, h2, h3, h4, h5⟩ := h
  have h3' := h3
  have hb' := hb
  unfold r32 at h3' hb'
  have e1 : b' = b := by omega
  have e2 : a' = a := by omega
  subst e1; subst e2
  exact ⟨i, f, h1, h2, h5⟩
theorem n_and {x y a b : Int} {M : pM} (h : HP 100 x y M) (hx : x = 4294967296 * a + b) (hb : r32 b) : y = (Int32.ofInt a &&& Int32.ofInt b).toInt := by
  obtain ⟨i, f, h1, h2, h3⟩ := nm2_o (q := 0) h hx hb
  rw [h3, op2_o h1 h2]
  rfl
theorem n_or {x y a b : Int} {M : pM} (h : HP 101 x y M) (hx : x = 4294967296 * a + b) (hb : r32 b) : y = (Int32.ofInt a ||| Int32.ofInt b).toInt := by
  obtain ⟨i, f, h1, h2, h3⟩ := nm2_o (q := 1) h hx hb
  rw [h3, op2_o h1 h2]
  rfl
theorem n_shl {x y a b : Int} {M : pM} (h : HP 103 x y M) (hx : x = 4294967296 * a + b) (hb : r32 b) : y = (Int32.ofInt a <<< (Int32.ofInt b &&& 31)).toInt := by
  obtain ⟨i, f, h1, h2, h3⟩ := nm2_o (q := 3) h hx hb
  rw [h3, op2_o h1 h2]
  rfl
theorem n_shr {x y a b : Int} {M : pM} (h : HP 104 x y M) (hx : x = 4294967296 * a + b) (hb : r32 b) : y = (Int32.ofInt a >>> (Int32.ofInt b &&& 31)).toInt := by
  obtain ⟨i, f, h1, h2, h3⟩ := nm2_o (q := 4) h hx hb
  rw [h3, op2_o h1 h2]
  rfl
theorem n_ushr {x y a b : Int} {M : pM} (h : HP 105 x y M) (hx : x = 4294967296 * a + b) (hb : r32 b) : y = ((Int32.ofInt a).toUInt32 >>> ((Int32.ofInt b).toUInt32 &&& Int32.toUInt32 31)).toInt32.toInt := by
  obtain ⟨i, f, h1, h2, h3⟩ := nm2_o (q := 5) h hx hb
  rw [h3, op2_o h1 h2]
  rfl
theorem lop_o {i : Instr} {q : Nat} {f : Int → Int → Int} (h : lo2n i = some q) (hf : lop i = some f) : f = match q with
    | 0 => (fun a b => (Int64.ofInt a &&& Int64.ofInt b).toInt)
    | 1 => (fun a b => (Int64.ofInt a ||| Int64.ofInt b).toInt)
    | 2 => (fun a b => (Int64.ofInt a ^^^ Int64.ofInt b).toInt)
    | 3 => (fun a b => (Int64.ofInt a + Int64.ofInt b).toInt)
    | 4 => (fun a b => (Int64.ofInt a - Int64.ofInt b).toInt)
    | _ => (fun a b => (Int64.ofInt a * Int64.ofInt b).toInt) := by
  unfold lo2n at h
  split at h
  all_goals first | (have h := Option.some.inj h; subst h; exact (Option.some.inj hf).symm) | cases h
theorem ln2_o {q : Nat} {x y a b : Int} (h : ln2 q x y) (hx : x = 18446744073709551616 * a + b) (hb : r64 b) : ∃ i f, lo2n i = some q ∧ lop i = some f ∧ y = f a b := by
  obtain ⟨i, f, a', b', h1, h2, h3, h4, h5⟩ := h
  have h3' := h3
  have hb' := hb
  unfold r64 at h3' hb'
  have e1 : b' = b := by omega
  have e2 : a' = a := by omega
  subst e1; subst e2
  exact ⟨i, f, h1, h2, h5⟩
theorem n_land {x y a b : Int} {M : pM} (h : HP 110 x y M) (hx : x = 18446744073709551616 * a + b) (hb : r64 b) : y = (Int64.ofInt a &&& Int64.ofInt b).toInt := by
  obtain ⟨i, f, h1, h2, h3⟩ := ln2_o (q := 0) h hx hb
  rw [h3, lop_o h1 h2]
  rfl
theorem n_lor {x y a b : Int} {M : pM} (h : HP 111 x y M) (hx : x = 18446744073709551616 * a + b) (hb : r64 b) : y = (Int64.ofInt a ||| Int64.ofInt b).toInt := by
  obtain ⟨i, f, h1, h2, h3⟩ := ln2_o (q := 1) h hx hb
  rw [h3, lop_o h1 h2]
  rfl
theorem n_ladd {x y a b : Int} {M : pM} (h : HP 113 x y M) (hx : x = 18446744073709551616 * a + b) (hb : r64 b) : y = (Int64.ofInt a + Int64.ofInt b).toInt := by
  obtain ⟨i, f, h1, h2, h3⟩ := ln2_o (q := 3) h hx hb
  rw [h3, lop_o h1 h2]
  rfl
theorem n_lmul {x y a b : Int} {M : pM} (h : HP 115 x y M) (hx : x = 18446744073709551616 * a + b) (hb : r64 b) : y = (Int64.ofInt a * Int64.ofInt b).toInt := by
  obtain ⟨i, f, h1, h2, h3⟩ := ln2_o (q := 5) h hx hb
  rw [h3, lop_o h1 h2]
  rfl
theorem ln1_o {q : Nat} {x y a b : Int} (h : ln1 q x y) (hx : x = 4294967296 * a + b) (hb : r32 b) : y = lnf q a b := by
  obtain ⟨a', b', h3, h4, h5⟩ := h
  have h3' := h3
  have hb' := hb
  unfold r32 at h3' hb'
  have e1 : b' = b := by omega
  have e2 : a' = a := by omega
  subst e1; subst e2
  exact h5
theorem n_lshl {x y a b : Int} {M : pM} (h : HP 116 x y M) (hx : x = 4294967296 * a + b) (hb : r32 b) : y = (Int64.ofInt a <<< ((Int32.ofInt b).toInt64 &&& 63)).toInt := ln1_o (q := 0) h hx hb
theorem n_lshr {x y a b : Int} {M : pM} (h : HP 117 x y M) (hx : x = 4294967296 * a + b) (hb : r32 b) : y = (Int64.ofInt a >>> ((Int32.ofInt b).toInt64 &&& 63)).toInt := ln1_o (q := 1) h hx hb
theorem n_i2b {x y : Int} {M : pM} (h : HP 120 x y M) : y = w8 x := h
theorem n_i2c {x y : Int} {M : pM} (h : HP 121 x y M) : y = ((Int32.ofInt x).toUInt32 % 65536).toInt32.toInt := h
/-! bits of the masks -/
theorem one_b (x : Int32) : (x &&& Int32.ofInt 1).toInt = if bt x 0 = true then 1 else 0 := by
  have e : x &&& Int32.ofInt 1 = if bt x 0 = true then Int32.ofInt 1 else Int32.ofInt 0 := by
    refine b_ext (fun i hi => ?_)
    rw [b_and, b_1 i hi]
    by_cases h : i = 0
    · subst h
      cases hb : bt x 0
      · rw [if_neg (by decide)]; rfl
      · rw [if_pos rfl]; rfl
    · rw [decide_eq_false h, Bool.and_false]
      split
      · rw [b_1 i hi, decide_eq_false h]
      · exact ((by decide +kernel : ∀ i, i < 32 → bt (Int32.ofInt 0) i = false) i hi).symm
  rw [e]
  split <;> rfl
theorem t4_bit {m o t x x' : Int} {y : Nat} {M : pM} (hy : y < 8) (h1 : HP 104 x o M) (hx : x = 4294967296 * m + y) (h2 : HP 100 x' t M) (hx' : x' = 4294967296 * o + 1) : t = qb4 m y := by
  have e1 := n_shr (b := (y : Int)) h1 hx (by unfold r32; omega)
  have e2 := n_and h2 hx' (by unfold r32; omega)
  have hb : bt (Int32.ofInt m >>> (Int32.ofInt (y : Int) &&& 31)) 0 = bt (Int32.ofInt m) y := by rw [b_sshr y (by omega) _ (by decide), if_pos (by omega), Nat.add_zero]
  rw [e2, e1, i32_rt, one_b, hb]
  rfl
theorem t4_set {m o n x x' : Int} {y i : Nat} {M : pM} (hy : y < 8) (hi : i < 8) (h1 : HP 103 x o M) (hx : x = 4294967296 * 1 + y) (h2 : HP 101 x' n M) (hx' : x' = 4294967296 * m + o) (ho : r32 o) : qb4 n i = if i = y then 1 else qb4 m i := by
  have e1 := n_shl (b := (y : Int)) h1 hx (by unfold r32; omega)
  have e2 := n_or h2 hx' ho
  have hb : bt (Int32.ofInt n) i = (bt (Int32.ofInt m) i || decide (i = y)) := by
    rw [e2, i32_rt, b_or, e1, i32_rt, b_shl y (by omega) _ (by omega), b_1 _ (by omega)]
    congr 1
    by_cases h : i = y
    · subst h
      rw [Nat.sub_self]
      simp
    · rw [decide_eq_false h]
      by_cases h' : y ≤ i
      · rw [decide_eq_false (show ¬ (i - y = 0) by omega), Bool.and_false]
      · rw [decide_eq_false h', Bool.false_and]
  show (if bt (Int32.ofInt n) i = true then (1 : Int) else 0) = if i = y then 1 else (if bt (Int32.ofInt m) i = true then 1 else 0)
  rw [hb]
  by_cases h : i = y
  · rw [decide_eq_true h, Bool.or_true, if_pos rfl, if_pos h]
  · rw [decide_eq_false h, Bool.or_false, if_neg h]
def bq (x : Int64) (i : Nat) : Bool := x.toBitVec.getLsbD i
theorem q_or (x y : Int64) (i : Nat) : bq (x ||| y) i = (bq x i || bq y i) := by unfold bq; rw [Int64.toBitVec_or, BitVec.getLsbD_or]
theorem q_and (x y : Int64) (i : Nat) : bq (x &&& y) i = (bq x i && bq y i) := by unfold bq; rw [Int64.toBitVec_and, BitVec.getLsbD_and]
theorem q_ext {x y : Int64} (h : ∀ i, i < 64 → bq x i = bq y i) : x = y := Int64.toBitVec_inj.mp (BitVec.eq_of_getLsbD_eq (fun i hi => h i hi))
theorem s_q : ∀ n, n < 64 → (((Int32.ofInt (n : Nat)).toInt64 &&& 63).toBitVec.smod 64).toNat = n := by decide +kernel
theorem q_shl (n : Nat) (hn : n < 64) (x : Int64) {i : Nat} (hi : i < 64) : bq (x <<< ((Int32.ofInt (n : Nat)).toInt64 &&& 63)) i = (decide (n ≤ i) && bq x (i - n)) := by
  unfold bq
  rw [Int64.toBitVec_shiftLeft]
  show (x.toBitVec <<< (((Int32.ofInt (n : Nat)).toInt64 &&& 63).toBitVec.smod 64).toNat).getLsbD i = _
  rw [s_q n hn, BitVec.getLsbD_shiftLeft]
  rcases Nat.lt_or_ge i n with h | h
  · simp [h, Nat.not_le.mpr h]
  · simp [hi, h, Nat.not_lt.mpr h]
theorem q_sshr (n : Nat) (hn : n < 64) (x : Int64) {i : Nat} (hi : i < 64) : bq (x >>> ((Int32.ofInt (n : Nat)).toInt64 &&& 63)) i = if n + i < 64 then bq x (n + i) else bq x 63 := by
  unfold bq
  rw [Int64.toBitVec_shiftRight]
  show (x.toBitVec.sshiftRight (((Int32.ofInt (n : Nat)).toInt64 &&& 63).toBitVec.smod 64).toNat).getLsbD i = _
  rw [s_q n hn, BitVec.getLsbD_sshiftRight, BitVec.msb_eq_getLsbD_last]
  simp [hi]
theorem q_1 : ∀ i, i < 64 → bq (Int64.ofInt 1) i = decide (i = 0) := by decide +kernel
theorem i64_rt {x : Int64} : Int64.ofInt x.toInt = x := Int64.ofInt_toInt x
theorem one_q (x : Int64) : (x &&& Int64.ofInt 1).toInt = if bq x 0 = true then 1 else 0 := by
  have e : x &&& Int64.ofInt 1 = if bq x 0 = true then Int64.ofInt 1 else Int64.ofInt 0 := by
    refine q_ext (fun i hi => ?_)
    rw [q_and, q_1 i hi]
    by_cases h : i = 0
    · subst h
      cases hb : bq x 0
      · rw [if_neg (by decide)]; rfl
      · rw [if_pos rfl]; rfl
    · rw [decide_eq_false h, Bool.and_false]
      split
      · rw [q_1 i hi, decide_eq_false h]
      · exact ((by decide +kernel : ∀ i, i < 64 → bq (Int64.ofInt 0) i = false) i hi).symm
  rw [e]
  split <;> rfl
theorem t8_bit {m o t x x' : Int} {y : Nat} {M : pM} (hy : y < 64) (h1 : HP 117 x o M) (hx : x = 4294967296 * m + y) (h2 : HP 110 x' t M) (hx' : x' = 18446744073709551616 * o + 1) : t = qb8 m y := by
  have e1 := n_lshr (b := (y : Int)) h1 hx (by unfold r32; omega)
  have e2 := n_land h2 hx' (by unfold r64; omega)
  have hb : bq (Int64.ofInt m >>> ((Int32.ofInt (y : Int)).toInt64 &&& 63)) 0 = bq (Int64.ofInt m) y := by rw [q_sshr y (by omega) _ (by decide), if_pos (by omega), Nat.add_zero]
  rw [e2, e1, i64_rt, one_q, hb]
  rfl
theorem t8_set {m o n x x' : Int} {y i : Nat} {M : pM} (hy : y < 64) (hi : i < 64) (h1 : HP 116 x o M) (hx : x = 4294967296 * 1 + y) (h2 : HP 111 x' n M) (hx' : x' = 18446744073709551616 * m + o) (ho : r64 o) : qb8 n i = if i = y then 1 else qb8 m i := by
  have e1 := n_lshl (b := (y : Int)) h1 hx (by unfold r32; omega)
  have e2 := n_lor h2 hx' ho
  have hb : bq (Int64.ofInt n) i = (bq (Int64.ofInt m) i || decide (i = y)) := by
    rw [e2, i64_rt, q_or, e1, i64_rt, q_shl y (by omega) _ (by omega), q_1 _ (by omega)]
    congr 1
    by_cases h : i = y
    · subst h
      rw [Nat.sub_self]
      simp
    · rw [decide_eq_false h]
      by_cases h' : y ≤ i
      · rw [decide_eq_false (show ¬ (i - y = 0) by omega), Bool.and_false]
      · rw [decide_eq_false h', Bool.false_and]
  show (if bq (Int64.ofInt n) i = true then (1 : Int) else 0) = if i = y then 1 else (if bq (Int64.ofInt m) i = true then 1 else 0)
  rw [hb]
  by_cases h : i = y
  · rw [decide_eq_true h, Bool.or_true, if_pos rfl, if_pos h]
  · rw [decide_eq_false h, Bool.or_false, if_neg h]
theorem qb4_0 : ∀ i, i < 8 → qb4 0 i = 0 := by decide +kernel
theorem qb8_0 : ∀ i, i < 64 → qb8 0 i = 0 := by decide +kernel
