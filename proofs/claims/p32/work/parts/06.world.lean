/-! ===== numbers ===== -/
theorem w32_r (z : Int) : r32 (w32 z) := by unfold r32 w32; omega
theorem w64_r (z : Int) : r64 (w64 z) := by unfold r64 w64; omega
theorem w8_r (z : Int) : r32 (w8 z) := by unfold r32 w8; omega
theorem w32_id {z : Int} (h : r32 z) : w32 z = z := by unfold r32 at h; unfold w32; omega
theorem i32_sz : (Int32.size : Nat) = 4294967296 := rfl
theorem i32_w (z : Int) : Int32.ofInt (w32 z) = Int32.ofInt z := by
  apply Int32.toInt_inj.mp
  rw [Int32.toInt_ofInt, Int32.toInt_ofInt]
  unfold w32
  simp only [Int.bmod, i32_sz]
  omega
theorem i32_t {z : Int} (h : r32 z) : (Int32.ofInt z).toInt = z := Int32.toInt_ofInt_of_le h.1 (by have := h.2; omega)
theorem i64_t {z : Int} (h : r64 z) : (Int64.ofInt z).toInt = z := Int64.toInt_ofInt_of_le h.1 (by have := h.2; omega)
theorem i32_r (x : Int32) : r32 x.toInt := ⟨Int32.le_toInt x, by have := Int32.toInt_lt x; omega⟩
theorem i64_r (x : Int64) : r64 x.toInt := ⟨Int64.le_toInt x, by have := Int64.toInt_lt x; omega⟩
theorem i32_lt {a b : Int} (ha : r32 a) (hb : r32 b) : Int32.ofInt a < Int32.ofInt b ↔ a < b := by rw [Int32.lt_iff_toInt_lt, i32_t ha, i32_t hb]
theorem i32_le {a b : Int} (ha : r32 a) (hb : r32 b) : Int32.ofInt a ≤ Int32.ofInt b ↔ a ≤ b := by rw [Int32.le_iff_toInt_le, i32_t ha, i32_t hb]
theorem i32_eq {a b : Int} (ha : r32 a) (hb : r32 b) : Int32.ofInt a = Int32.ofInt b ↔ a = b := by rw [← Int32.toInt_inj, i32_t ha, i32_t hb]
theorem r32_0 : r32 0 := by unfold r32; omega
theorem i32_add (a b : Int) : Int32.ofInt (w32 (a + b)) = Int32.ofInt a + Int32.ofInt b := by rw [i32_w, Int32.ofInt_add]
theorem i32_sub (a b : Int) : Int32.ofInt (w32 (a - b)) = Int32.ofInt a - Int32.ofInt b := by rw [i32_w, Int32.ofInt_sub]
theorem i32_mul (a b : Int) : Int32.ofInt (w32 (a * b)) = Int32.ofInt a * Int32.ofInt b := by rw [i32_w, Int32.ofInt_mul]
theorem i32_neg (a : Int) : Int32.ofInt (w32 (-a)) = -Int32.ofInt a := by rw [i32_w, Int32.ofInt_neg]
theorem i32_div {a b : Int} (ha : r32 a) (hb : r32 b) : Int32.ofInt (w32 (a.tdiv b)) = Int32.ofInt a / Int32.ofInt b := by
  rw [i32_w]
  apply Int32.toInt_inj.mp
  rw [Int32.toInt_ofInt, Int32.toInt_div, i32_t ha, i32_t hb]
theorem i32_rem {a b : Int} (ha : r32 a) (hb : r32 b) : Int32.ofInt (a.tmod b) = Int32.ofInt a - Int32.ofInt a / Int32.ofInt b * Int32.ofInt b := by
  rw [← i32_div ha hb, i32_w, Int.tmod_def, Int32.ofInt_sub, Int32.ofInt_mul, Int32.mul_comm]
theorem tmod_r {a b : Int} (ha : r32 a) (hb : r32 b) (h : ¬ b = 0) : r32 (a.tmod b) := by
  have h1 : (a.tmod b).natAbs ≤ a.natAbs := by rw [Int.natAbs_tmod]; exact Nat.mod_le _ _
  have h2 := Int.tmod_nonneg b (a := a)
  unfold r32 at *
  rcases Int.lt_or_le a 0 with h0 | h0
  · have h3 : -a.tmod b = (-a).tmod b := (Int.neg_tmod a b).symm
    have h4 := Int.tmod_nonneg b (a := -a) (by omega)
    omega
  · have := h2 h0
    omega
theorem i32_8 (a : Int) : Int32.ofInt (w8 a) = (Int32.ofInt a).toInt8.toInt32 := by
  apply Int32.toInt_inj.mp
  rw [Int32.toInt_ofInt, Int8.toInt_toInt32, Int32.toInt_toInt8, Int32.toInt_ofInt]
  unfold w8
  simp only [Int.bmod, i32_sz]
  omega
theorem i32_i64 {a : Int} (ha : r32 a) : Int64.ofInt a = (Int32.ofInt a).toInt64 := by
  apply Int64.toInt_inj.mp
  rw [Int32.toInt_toInt64, i32_t ha, i64_t ⟨by have := ha.1; omega, by have := ha.2; omega⟩]
theorem i32_cl {x : Int} (hx : r32 x) (h0 : 0 ≤ x) : (Int32.ofInt x).toNatClampNeg = x.toNat := by
  show (Int32.ofInt x).toInt.toNat = x.toNat
  rw [i32_t hx]
theorem vin {x : Int} {n : Nat} (hx : r32 x) (h0 : 0 ≤ x) (h1 : x < n) : vp_in (Int32.ofInt x) n := by
  rw [vp_in_iff, i32_t hx]
  exact ⟨h0, h1⟩
/-! ===== the world of cells ===== -/
abbrev pE : Type := va_G × (Nat → ClassId) × (Nat → Nat) × Nat
def cv (ad : Nat → Nat) (v : pv) : Value := match v with
  | .inl x => .int (Int32.ofInt x)
  | .inr (.inl x) => .long (Int64.ofInt x)
  | .inr (.inr 0) => .null
  | .inr (.inr (k + 1)) => .ref (ad k)
def fsO (E : pE) (c : Nat) (f : Nat → Int) : List Value := (List.range (cN c)).map (fun i => cv E.2.2.1 (tgv (tyA c i) (f i)))
def ceO (E : pE) (s : pS) (f : Nat → Int) : va_E := match s with
  | .inl c => .inr (c, fsO E c f)
  | .inr (t, len) => .inl (E.2.1 t, len, if t = 1 then .inr (.inl (fun i => Int64.ofInt (f i))) else .inl (fun i => Int32.ofInt (f i)))
def wsO (E : pE) (n : Nat) (M : pM) : va_W := (List.range n).map (fun k => (E.2.2.2 + k, ceO E (SH k) (M k)))
theorem wsO_at {E : pE} {n k : Nat} {M : pM} (h : k < n) : (wsO E n M)[k]? = some (E.2.2.2 + k, ceO E (SH k) (M k)) := by simp [wsO, h]
theorem wsO_set {E : pE} {n k : Nat} {M M' : pM} {e : va_E} (h : k < n) (ho : ∀ a, a ≠ k → M' a = M a) (he : e = ceO E (SH k) (M' k)) : (wsO E n M).set k (E.2.2.2 + k, e) = wsO E n M' := by
  apply List.ext_getElem?
  intro i
  by_cases hi : i = k
  · subst hi
    rw [wsO_at h, List.getElem?_set_self (by simp [wsO, h]), he]
  · rw [List.getElem?_set_ne (Ne.symm hi)]
    by_cases hn : i < n
    · rw [wsO_at hn, wsO_at hn, ho i hi]
    · simp [wsO, hn]
theorem wsO_succ {E : pE} {n : Nat} {M M' : pM} {e : va_E} (ho : ∀ a, a < n → M' a = M a) (he : e = ceO E (SH n) (M' n)) : wsO E n M ++ [(E.2.2.2 + n, e)] = wsO E (n + 1) M' := by
  have h : wsO E n M = wsO E n M' := by
    unfold wsO
    apply List.map_congr_left
    intro a ha
    rw [ho a (List.mem_range.mp ha)]
  rw [h]
  unfold wsO
  rw [List.range_succ, List.map_append, he]
  rfl
theorem wsO_D (E : pE) (n : Nat) (M : pM) : va_D (fun q => E.2.2.2 ≤ q) (wsO E n M) := by
  have at' : ∀ (i : Nat) (p : Nat × va_E), (wsO E n M)[i]? = some p → p.1 = E.2.2.2 + i := by
    intro i p h
    by_cases hn : i < n
    · rw [wsO_at hn] at h
      cases h
      rfl
    · simp [wsO, hn] at h
  refine ⟨fun i j p q hp hq hpq => ?_, fun k q hk => ?_⟩
  · have := at' i p hp
    have := at' j q hq
    omega
  · show E.2.2.2 ≤ q.1
    have := at' k q hk
    omega
theorem fsO_get {E : pE} {c k : Nat} {f : Nat → Int} (h : k < cN c) : (fsO E c f)[k]? = some (cv E.2.2.1 (tgv (tyA c k) (f k))) := by simp [fsO, h]
theorem fsO_len {E : pE} {c : Nat} {f : Nat → Int} : (fsO E c f).length = cN c := by simp [fsO]
theorem fsO_set {E : pE} {c k : Nat} {f f' : Nat → Int} {v : Value} (h : k < cN c) (ho : ∀ a, a ≠ k → f' a = f a) (hv : v = cv E.2.2.1 (tgv (tyA c k) (f' k))) : (fsO E c f).set k v = fsO E c f' := by
  apply List.ext_getElem?
  intro i
  by_cases hi : i = k
  · subst hi
    rw [fsO_get h, List.getElem?_set_self (by rw [fsO_len]; exact h), hv]
  · rw [List.getElem?_set_ne (Ne.symm hi)]
    by_cases hn : i < cN c
    · rw [fsO_get hn, fsO_get hn, ho i hi]
    · simp [fsO, hn]
/-- what a slot may hold -/
def rTy (ty : FieldType) (x : Int) : Prop := match ty with
  | .long => r64 x
  | .object _ => 0 ≤ x ∧ x ≤ 5000
  | .array _ => 0 ≤ x ∧ x ≤ 5000
  | _ => r32 x
def slT (k i : Nat) : FieldType := match SH k with
  | .inl c => if c = 99 then .int else tyA c i
  | .inr q => if q.1 = 1 then .long else .int
def wfM (M : pM) : Prop := ∀ k i, rTy (slT k i) (M k i)
def wfv (v : pv) : Prop := match v with
  | .inl x => r32 x
  | .inr (.inl x) => r64 x
  | .inr (.inr k) => k ≤ 5000
def wfS (S : List pv) : Prop := ∀ v ∈ S, wfv v
def wfL (L : pL) : Prop := ∀ v, some v ∈ L → wfv v
theorem tgv_wf {ty : FieldType} {x : Int} (h : rTy ty x) : wfv (tgv ty x) := by
  cases ty <;> first | exact h | (show x.toNat ≤ 5000; have := h.2; omega)
theorem utg_wf {ty : FieldType} {v : pv} {x : Int} (h : utg ty v x) (hv : wfv v) : rTy ty x := by
  cases ty <;> simp only [utg] at h
  case boolean => obtain ⟨rfl, -⟩ := h; exact hv
  case int => subst h; exact hv
  case long => subst h; exact hv
  case object => obtain ⟨k, rfl, rfl⟩ := h; have : k ≤ 5000 := hv; exact ⟨by omega, by omega⟩
  case array => obtain ⟨k, rfl, rfl⟩ := h; have : k ≤ 5000 := hv; exact ⟨by omega, by omega⟩
theorem utg_tgv {ty : FieldType} {v : pv} {x : Int} (h : utg ty v x) : tgv ty x = v := by
  cases ty <;> simp only [utg] at h
  case boolean => exact h.1.symm
  case int => exact h.symm
  case long => exact h.symm
  case object => obtain ⟨k, rfl, rfl⟩ := h; rfl
  case array => obtain ⟨k, rfl, rfl⟩ := h; rfl
theorem st_row {M : pM} {k i : Nat} {v : Int} {a : Nat} (h : a ≠ k) : st M k i v a = M a := by funext b; simp [st, h]
theorem st_at {M : pM} {k i : Nat} {v : Int} : st M k i v k i = v := by simp [st]
theorem st_ne {M : pM} {k i : Nat} {v : Int} {b : Nat} (h : b ≠ i) : st M k i v k b = M k b := by simp [st, h]
theorem st_wf {M : pM} {k i : Nat} {v : Int} (hM : wfM M) (hv : rTy (slT k i) v) : wfM (st M k i v) := by
  intro a b
  unfold st
  split
  · rename_i h; rw [h.1, h.2]; exact hv
  · exact hM a b
theorem zr_row {M : pM} {k a : Nat} (h : a ≠ k) : zr M k a = M a := by funext b; simp [zr, h]
theorem rTy_0 (ty : FieldType) : rTy ty 0 := by cases ty <;> simp [rTy, r32, r64]
theorem zr_wf {M : pM} {k : Nat} (hM : wfM M) : wfM (zr M k) := by
  intro a b
  unfold zr
  split
  · exact rTy_0 _
  · exact hM a b
theorem ob_of {n a c : Nat} (hc : c < 13) (h : ob n a = c) : a < n ∧ SH a = .inl c := by
  unfold ob at h
  split at h
  · rename_i hl
    cases hs : SH a with
    | inl x => rw [hs] at h; exact ⟨hl, by rw [show x = c from h]⟩
    | inr x => rw [hs] at h; have h : 99 = c := h; omega
  · omega
theorem alw_of {n a t : Nat} (h : 0 ≤ alw n a t) : ∃ len : Nat, a < n ∧ SH a = .inr (t, len) ∧ alw n a t = len := by
  unfold alw at h ⊢
  split at h
  · rename_i hl
    rw [if_pos hl]
    cases hs : SH a with
    | inl x => rw [hs] at h; simp at h
    | inr q =>
      rw [hs] at h
      obtain ⟨t', len⟩ := q
      by_cases ht : t' = t
      · subst ht; exact ⟨len, hl, rfl, by simp⟩
      · simp [ht] at h
  · simp at h
