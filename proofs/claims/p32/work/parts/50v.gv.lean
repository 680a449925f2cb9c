theorem u32_n {x : Int} (h : 0 ≤ x ∧ x ≤ 4294967295) : (Int32.ofInt x).toUInt32.toNat = x.toNat := by
  show (BitVec.ofInt 32 x).toNat = _
  rw [BitVec.toNat_ofInt]
  show (x % ((2 ^ 32 : Nat) : Int)).toNat = _
  rw [show ((2 ^ 32 : Nat) : Int) = 4294967296 from rfl]
  omega
theorem i2c_id {x : Int} (h : 0 ≤ x ∧ x ≤ 65535) : ((Int32.ofInt x).toUInt32 % 65536).toInt32.toInt = x := by
  have e : (Int32.ofInt x).toUInt32 % 65536 = (Int32.ofInt x).toUInt32 := by
    apply UInt32.toNat_inj.mp
    rw [UInt32.toNat_mod, u32_n (by omega)]
    show x.toNat % 65536 = x.toNat
    omega
  rw [e]
  show (Int32.ofInt x).toInt = x
  exact i32_t ⟨by omega, by omega⟩
theorem l64_mul {v : Int} (h0 : 0 ≤ v) (h : v ≤ 1099511627775) : (Int64.ofInt 32 * Int64.ofInt v).toInt = 32 * v := by
  rw [← Int64.ofInt_mul]
  exact i64_t ⟨by omega, by omega⟩
theorem l64_add {a b : Int} (h0 : -9223372036854775808 ≤ a + b) (h : a + b ≤ 9223372036854775807) : (Int64.ofInt a + Int64.ofInt b).toInt = a + b := by
  rw [← Int64.ofInt_add]
  exact i64_t ⟨h0, h⟩
theorem l64_shl8 {v : Int} (h0 : 0 ≤ v) (h : v ≤ 36028797018963967) : (Int64.ofInt v <<< ((Int32.ofInt 8).toInt64 &&& 63)).toInt = 256 * v := by
  have e : Int64.ofInt v <<< ((Int32.ofInt 8).toInt64 &&& 63) = Int64.ofInt (256 * v) := by
    apply Int64.toBitVec_inj.mp
    rw [Int64.toBitVec_shiftLeft]
    show (BitVec.ofInt 64 v) <<< (((Int32.ofInt 8).toInt64 &&& 63).toBitVec.smod 64).toNat = BitVec.ofInt 64 (256 * v)
    have hs : (((Int32.ofInt 8).toInt64 &&& 63).toBitVec.smod 64).toNat = 8 := s_q 8 (by decide)
    rw [hs]
    apply BitVec.eq_of_toNat_eq
    rw [BitVec.toNat_shiftLeft, BitVec.toNat_ofInt, BitVec.toNat_ofInt, Nat.shiftLeft_eq]
    show ((v % ((2 ^ 64 : Nat) : Int)).toNat * 2 ^ 8) % 2 ^ 64 = ((256 * v) % ((2 ^ 64 : Nat) : Int)).toNat
    rw [show ((2 ^ 64 : Nat) : Int) = 18446744073709551616 from rfl, show (2 ^ 8 : Nat) = 256 from rfl, show (2 ^ 64 : Nat) = 18446744073709551616 from rfl]
    omega
  rw [e]
  exact i64_t ⟨by omega, by omega⟩
theorem l64_or {v b : Int} (h0 : 0 ≤ v) (h : v ≤ 36028797018963967) (h1 : 0 ≤ b) (h2 : b ≤ 255) : (Int64.ofInt (256 * v) ||| Int64.ofInt b).toInt = 256 * v + b := by
  have e : Int64.ofInt (256 * v) ||| Int64.ofInt b = Int64.ofInt (256 * v + b) := by
    apply Int64.toBitVec_inj.mp
    rw [Int64.toBitVec_or]
    show BitVec.ofInt 64 (256 * v) ||| BitVec.ofInt 64 b = BitVec.ofInt 64 (256 * v + b)
    apply BitVec.eq_of_toNat_eq
    rw [BitVec.toNat_or, BitVec.toNat_ofInt, BitVec.toNat_ofInt, BitVec.toNat_ofInt]
    show ((256 * v) % ((2 ^ 64 : Nat) : Int)).toNat ||| (b % ((2 ^ 64 : Nat) : Int)).toNat = ((256 * v + b) % ((2 ^ 64 : Nat) : Int)).toNat
    rw [show ((2 ^ 64 : Nat) : Int) = 18446744073709551616 from rfl]
    have k := Nat.shiftLeft_add_eq_or_of_lt (show b.toNat < 2 ^ 8 by show b.toNat < 256; omega) v.toNat
    rw [Nat.shiftLeft_eq, show (2 ^ 8 : Nat) = 256 from rfl] at k
    rw [show ((256 * v) % 18446744073709551616).toNat = v.toNat * 256 by omega, show (b % 18446744073709551616).toNat = b.toNat by omega, ← k]
    omega
  rw [e]
  exact i64_t ⟨by omega, by omega⟩
theorem pk_b2 {N : pM} {s : Nat} : ∀ {k : Nat}, (∀ i, i < k → 97 ≤ N 1 (s + i) ∧ N 1 (s + i) ≤ 122) → 2 * pkd 256 0 N s k < 256 ^ k
  | 0, _ => by show (2 : Int) * 0 < 256 ^ 0; decide
  | k + 1, h => by
    have ih := pk_b2 (N := N) (s := s) (k := k) (fun i hi => h i (by omega))
    have hc := h k (by omega)
    show 2 * (256 * pkd 256 0 N s k + (N 1 (s + k) - 0)) < 256 ^ (k + 1)
    rw [Int.pow_succ]
    omega
theorem and255_bd (y : Int) : 0 ≤ (Int32.ofInt y &&& Int32.ofInt 255).toInt ∧ (Int32.ofInt y &&& Int32.ofInt 255).toInt ≤ 255 := by
  have h1 : (Int32.ofInt y &&& Int32.ofInt 255).toBitVec.toNat ≤ 255 := by
    rw [Int32.toBitVec_and, BitVec.toNat_and]
    exact Nat.and_le_right
  have h2 : (Int32.ofInt y &&& Int32.ofInt 255).toInt = ((Int32.ofInt y &&& Int32.ofInt 255).toBitVec.toNat : Int) := BitVec.toInt_eq_toNat_of_lt (by omega)
  omega
theorem qfd_n {M M' : pM} {x : Nat} : ∀ {k : Nat} {Y : Int}, (∀ i, i < x + 4 * k → M' 1 i = M 1 i) → qfd M x k Y → qfd M' x k Y
  | 0, _, _, hp => hp
  | k + 1, Y, h, hp => by
    obtain ⟨Z, v, h1, h2, h3, h4⟩ := hp
    exact ⟨Z, v, h1, h2, qfd_n (fun i hi => h i (by omega)) h3, fun j hj => by rw [h _ (by omega)]; exact h4 j hj⟩
theorem qfd_s {M : pM} {x k : Nat} {Y Z v : Int} (h : qfd M x (k + 1) Y) (hY : Y = 4294967296 * Z + v) (hv : r32 v) : qfd M x k Z ∧ ∀ j, j < 4 → M 1 (x + 4 * k + j) = qby v j := by
  obtain ⟨Z', v', h1, h2, h3, h4⟩ := h
  unfold r32 at h1 hv
  have e1 : v' = v := by omega
  have e2 : Z' = Z := by omega
  subst e1; subst e2
  exact ⟨h3, h4⟩
theorem qfd_5 {M : pM} {x : Nat} {Y v0 v1 v2 v3 v4 : Int} (h : qfd M x 5 Y) (hY : Y = (((v0 * 4294967296 + v1) * 4294967296 + v2) * 4294967296 + v3) * 4294967296 + v4) (h0 : r32 v0) (h1 : r32 v1) (h2 : r32 v2) (h3 : r32 v3) (h4 : r32 v4) : (∀ j, j < 4 → M 1 (x + 4 * 0 + j) = qby v0 j) ∧ (∀ j, j < 4 → M 1 (x + 4 * 1 + j) = qby v1 j) ∧ (∀ j, j < 4 → M 1 (x + 4 * 2 + j) = qby v2 j) ∧ (∀ j, j < 4 → M 1 (x + 4 * 3 + j) = qby v3 j) ∧ (∀ j, j < 4 → M 1 (x + 4 * 4 + j) = qby v4 j) := by
  obtain ⟨a4, b4⟩ := qfd_s (k := 4) (Z := ((v0 * 4294967296 + v1) * 4294967296 + v2) * 4294967296 + v3) h (by omega) h4
  obtain ⟨a3, b3⟩ := qfd_s (k := 3) (Z := (v0 * 4294967296 + v1) * 4294967296 + v2) a4 (by omega) h3
  obtain ⟨a2, b2⟩ := qfd_s (k := 2) (Z := v0 * 4294967296 + v1) a3 (by omega) h2
  obtain ⟨a1, b1⟩ := qfd_s (k := 1) (Z := v0) a2 (by omega) h1
  obtain ⟨a0, b0⟩ := qfd_s (k := 0) (Z := 0) a1 (by omega) h0
  exact ⟨b0, b1, b2, b3, b4⟩
theorem i8_b {x y : Int32} (h : ∀ i, i < 8 → bt x i = bt y i) : x.toInt8 = y.toInt8 := by
  apply Int8.toBitVec_inj.mp
  apply BitVec.eq_of_getLsbD_eq
  intro i hi
  show (x.toBitVec.signExtend 8).getLsbD i = (y.toBitVec.signExtend 8).getLsbD i
  rw [BitVec.getLsbD_signExtend, BitVec.getLsbD_signExtend, decide_eq_true hi, if_pos (by omega), if_pos (by omega)]
  congr 1
  exact h i hi
theorem by_w8 {v : Int} (r : Nat) (hr : r < 4) : w8 (Int32.ofInt v >>> (Int32.ofInt (24 - 8 * (r : Int)) &&& 31)).toInt = w8 (qby v r) := by
  have hn : (24 : Int) - 8 * (r : Int) = ((24 - 8 * r : Nat) : Int) := by omega
  have e : (Int32.ofInt v >>> (Int32.ofInt (24 - 8 * (r : Int)) &&& 31)).toInt8 = (Int32.ofInt (qby v r)).toInt8 := by
    refine i8_b (fun i hi => ?_)
    unfold qby
    rw [hn, i32_rt, i32_rt, b_and, b_255 i (by omega), decide_eq_true hi, Bool.and_true, b_sshr _ (by omega) _ (by omega), b_ushr _ (by omega), if_pos (by omega)]
  have h1 := i32_8 (Int32.ofInt v >>> (Int32.ofInt (24 - 8 * (r : Int)) &&& 31)).toInt
  have h2 := i32_8 (qby v r)
  rw [i32_rt, e] at h1
  rw [← h2] at h1
  refine (i32_eq ⟨by unfold w8; omega, by unfold w8; omega⟩ ⟨by unfold w8; omega, by unfold w8; omega⟩).mp h1
theorem qws_n : ∀ i, i < 126 → wds.getD i 0 ≠ 32 → (qws i).1 ≤ 23 ∧ (qws i).2 ≤ 14 ∧ (kws.getD (qws i).1 []).getD (qws i).2 0 = wds.getD i 0 ∧ (qws i).2 < (kws.getD (qws i).1 []).length := by decide +kernel
theorem qws_b : ∀ i, i < 126 → wds.getD i 0 = 32 → (qws i).1 ≤ 23 ∧ (kws.getD (qws i).1 []).length = (qws i).2 := by decide +kernel
theorem qws_m : ∀ i, i < 127 → (qws i).2 ≤ 15 := by decide +kernel
theorem qws_e : (qws 126).1 = 24 := by decide +kernel
theorem bts_len {N : pM} {s k : Nat} : (bts N s k).length = k := by unfold bts; rw [List.length_map, List.length_range]
theorem bts_at {N : pM} {s k j : Nat} (h : j < k) : (bts N s k).getD j 0 = N 1 (s + j) := by
  unfold bts
  rw [List.getD_eq_getElem?_getD, List.getElem?_map, List.getElem?_range h]
  rfl
/-- what the words' letter at i says, where word and letter are n and m -/
theorem kw_o {M : pM} {a b x y i n m d : Int} (hT : HP 40 a b M) (h : HP 178 x y M) (hx : x = i) (hy : y = 32 * n + m) (hm : 0 ≤ m ∧ m ≤ 15) (hi : 0 ≤ i ∧ i ≤ 125) (hd : M 1005 i.toNat = d) : wds.getD i.toNat 0 = d ∧ ((qws i.toNat).1 : Int) = n ∧ ((qws i.toNat).2 : Int) = m := by
  obtain ⟨k, h1, h2, h3⟩ := Eq.mp hp_178 h
  have e1 : k = i.toNat := by omega
  subst e1
  have := qws_m i.toNat (by omega)
  exact ⟨by rw [← (Eq.mp hp_40 hT).1 i.toNat (by omega)]; exact hd, by omega, by omega⟩
theorem qws_sn {i : Nat} (h : wds.getD i 0 ≠ 32) : qws (i + 1) = ((qws i).1, (qws i).2 + 1) := if_neg h
theorem qws_sb {i : Nat} (h : wds.getD i 0 = 32) : qws (i + 1) = ((qws i).1 + 1, 0) := if_pos h
theorem wid_of {N : pM} {s e k : Nat} (hk : k < 24) (h : bts N s (e - s) = kws.getD k []) : wid N s e = k := by
  unfold wid
  rw [h, if_pos (kws_mem hk), kws_idx k hk]
theorem wid_no {N : pM} {s e : Nat} (h : ∀ k, k < 24 → bts N s (e - s) ≠ kws.getD k []) : wid N s e = -1 := by
  unfold wid
  refine if_neg (fun hm => ?_)
  obtain ⟨k, h1, h2⟩ := List.getElem_of_mem hm
  have h1' : k < 24 := h1
  exact h k h1' (by rw [List.getD_eq_getElem?_getD, List.getElem?_eq_getElem h1, ← h2]; rfl)
