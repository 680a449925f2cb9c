/-! ===== instructions that touch the stack alone ===== -/
theorem inK_ok {v a b : Int} (h : inK v a b = true) : a ≤ v ∧ v ≤ b := by
  unfold inK at h
  obtain ⟨h1, h2⟩ := and_t h
  have := ige_iff.mp h1
  have := ige_iff.mp h2
  exact ⟨by omega, by omega⟩
theorem isK_ok {f : lf} (h : isK f = true) (ρ : Nat → Int) : ev ρ f = f.1 := by
  unfold isK at h
  obtain ⟨c, l⟩ := f
  cases l with
  | nil => show c + 0 = c; omega
  | cons t r => cases h
theorem and_r {x y : Int32} (h : 0 ≤ y.toInt) : 0 ≤ (x &&& y).toInt ∧ (x &&& y).toInt ≤ y.toInt := by
  have hm : y.toBitVec.msb = false := by
    rw [BitVec.msb_eq_toInt]
    exact decide_eq_false (by show ¬ y.toInt < 0; omega)
  have e1 : y.toInt = (y.toBitVec.toNat : Int) := BitVec.toInt_eq_toNat_of_msb hm
  have hm2 : (x &&& y).toBitVec.msb = false := by
    show (x.toBitVec &&& y.toBitVec).msb = false
    rw [BitVec.msb_and, hm, Bool.and_false]
  have e2 : (x &&& y).toInt = ((x &&& y).toBitVec.toNat : Int) := BitVec.toInt_eq_toNat_of_msb hm2
  have e3 : (x &&& y).toBitVec.toNat = x.toBitVec.toNat &&& y.toBitVec.toNat := rfl
  have h3 : x.toBitVec.toNat &&& y.toBitVec.toNat ≤ y.toBitVec.toNat := Nat.and_le_right
  rw [e2, e1, e3]
  omega
theorem i2c_r (a : Int) : 0 ≤ ((Int32.ofInt a).toUInt32 % 65536).toInt32.toInt ∧ ((Int32.ofInt a).toUInt32 % 65536).toInt32.toInt ≤ 65535 := by
  have h1 : ((Int32.ofInt a).toUInt32 % 65536).toNat < 65536 := by
    rw [UInt32.toNat_mod]
    exact Nat.mod_lt _ (by decide)
  have e : ((Int32.ofInt a).toUInt32 % 65536).toInt32.toInt = (((Int32.ofInt a).toUInt32 % 65536).toNat : Int) := by
    show ((Int32.ofInt a).toUInt32 % 65536).toBitVec.toInt = _
    rw [BitVec.toInt_eq_toNat_of_lt]
    · rfl
    · show 2 * ((Int32.ofInt a).toUInt32 % 65536).toNat < _
      omega
  rw [e]
  omega
theorem w8_b (a : Int) : -128 ≤ w8 a ∧ w8 a ≤ 127 := by unfold w8; omega
theorem w8_id {a : Int} (h : -128 ≤ a ∧ a ≤ 127) : w8 a = a := by unfold w8; omega
theorem tmod_b {a d : Int} (h : 1 ≤ d) : 1 - d ≤ a.tmod d ∧ a.tmod d ≤ d - 1 := by
  have h1 : (a.tmod d).natAbs = a.natAbs % d.natAbs := Int.natAbs_tmod a d
  have h2 : a.natAbs % d.natAbs < d.natAbs := Nat.mod_lt _ (by omega)
  omega
theorem dvA_ok {ρ : Nat → Int} {n : Nat} {A : aA} {L : pL} {S S0 : List pv} {M : pM} (g : gam ρ A L S M) {T : List av} (hT : sm ρ T S0) (hs : ∀ v ∈ T, v ∈ A.2.1) {a b : lf} {r : Nat × aA} (h : dvA n A T a b = some r) : ¬ ev ρ b = 0 ∧ nxt ρ n r L (vi (w32 ((ev ρ a).tdiv (ev ρ b))) :: S0) M := by
  have k := w32_r ((ev ρ a).tdiv (ev ρ b))
  unfold dvA at h
  cases hb : isK b && ige (b.1 - 1) with
  | true =>
    rw [hb] at h
    obtain ⟨h1, h2⟩ := and_t hb
    have e := isK_ok h1 ρ
    have h2 := ige_iff.mp h2
    refine ⟨by rw [e]; omega, ?_⟩
    cases ha : en A a with
    | true =>
      rw [ha] at h
      have h0 := en_ok g.2.2.2.1 g.2.2.2.2 ha
      cases hh : hiT A.2.2.2.1 a.2 a.1 with
      | none => rw [hh] at h; cases h
      | some u =>
        rw [hh] at h
        obtain ⟨h3, h4⟩ := cond_t h
        have h3 := ige_iff.mp h3
        have hu : ev ρ a ≤ u := hiT_ok g.2.2.2.1 hh
        have q1 : (ev ρ a).tdiv (ev ρ b) = ev ρ a / b.1 := by rw [e, Int.tdiv_eq_ediv_of_nonneg h0]
        have q2 : 0 ≤ ev ρ a / b.1 := Int.ediv_nonneg h0 (by omega)
        have q3 : ev ρ a / b.1 ≤ u / b.1 := Int.ediv_le_ediv (by omega) hu
        rw [q1, w32_id ⟨by omega, by omega⟩]
        exact pfr_ok g hT hs h4 q2 q3
    | false =>
      rw [ha] at h
      exact pfr_ok g hT hs h k.1 k.2
  | false =>
    rw [hb] at h
    cases hx : en A (fak b (-1)) && en A a with
    | true =>
      rw [hx] at h
      obtain ⟨x1, x2⟩ := and_t hx
      have x1 := en_ok g.2.2.2.1 g.2.2.2.2 x1
      have x2 := en_ok g.2.2.2.1 g.2.2.2.2 x2
      rw [ev_fak] at x1
      refine ⟨by omega, ?_⟩
      cases hh : hiT A.2.2.2.1 a.2 a.1 with
      | none => rw [hh] at h; cases h
      | some u =>
        rw [hh] at h
        obtain ⟨h3, h4⟩ := cond_t h
        have h3 := ige_iff.mp h3
        have hu : ev ρ a ≤ u := hiT_ok g.2.2.2.1 hh
        have q1 : (ev ρ a).tdiv (ev ρ b) = ev ρ a / ev ρ b := by rw [Int.tdiv_eq_ediv_of_nonneg x2]
        have q2 : 0 ≤ ev ρ a / ev ρ b := Int.ediv_nonneg x2 (by omega)
        have q3 : ev ρ a / ev ρ b ≤ ev ρ a := Int.ediv_le_self _ x2
        rw [q1, w32_id ⟨by omega, by omega⟩]
        exact pfr_ok g hT hs h4 q2 (by show _ ≤ u; omega)
    | false =>
    rw [hx] at h
    obtain ⟨h1, h2⟩ := cond_t h
    refine ⟨?_, pfr_ok g hT hs h2 k.1 k.2⟩
    rcases (Bool.or_eq_true _ _).mp h1 with q | q
    · have := en_ok g.2.2.2.1 g.2.2.2.2 q
      rw [ev_fak] at this
      omega
    · have := en_ok g.2.2.2.1 g.2.2.2.2 q
      rw [ev_fak, ev_neg] at this
      omega
theorem rmA_ok {ρ : Nat → Int} {n : Nat} {A : aA} {L : pL} {S S0 : List pv} {M : pM} (g : gam ρ A L S M) {T : List av} (hT : sm ρ T S0) (hs : ∀ v ∈ T, v ∈ A.2.1) {a b : lf} {r : Nat × aA} (h : rmA n A T a b = some r) : ¬ ev ρ b = 0 ∧ nxt ρ n r L (vi ((ev ρ a).tmod (ev ρ b)) :: S0) M := by
  unfold rmA at h
  cases hb : isK b && ige (b.1 - 1) with
  | true =>
    rw [hb] at h
    obtain ⟨h1, h2⟩ := and_t hb
    have e := isK_ok h1 ρ
    have h2 := ige_iff.mp h2
    have k := tmod_b (a := ev ρ a) (d := b.1) (by omega)
    refine ⟨by rw [e]; omega, ?_⟩
    rw [e]
    cases ha : en A a with
    | true =>
      rw [ha] at h
      have h0 := en_ok g.2.2.2.1 g.2.2.2.2 ha
      exact pfr_ok g hT hs h (Int.tmod_nonneg b.1 h0) k.2
    | false =>
      rw [ha] at h
      exact pfr_ok g hT hs h k.1 k.2
  | false =>
    rw [hb] at h
    obtain ⟨h1, h2⟩ := cond_t h
    obtain ⟨h3, h4⟩ := and_t h1
    have q1 := en_ok g.2.2.2.1 g.2.2.2.2 h3
    have q2 := en_ok g.2.2.2.1 g.2.2.2.2 h4
    rw [ev_fak] at q1
    have k := tmod_b (a := ev ρ a) (d := ev ρ b) (by omega)
    refine ⟨by omega, ?_⟩
    cases hh : hiT A.2.2.2.1 b.2 b.1 with
    | none => rw [hh] at h2; cases h2
    | some u =>
      rw [hh] at h2
      dsimp only at h2
      have hu : ev ρ b ≤ u := hiT_ok g.2.2.2.1 hh
      cases hp : pfr n A T (0, u - 1) with
      | none => rw [hp] at h2; cases h2
      | some q =>
        rw [hp] at h2
        obtain ⟨h5, h6⟩ := cond_t h2
        cases h6
        have hx := Int.tmod_nonneg (ev ρ b) q2
        obtain ⟨ρ', g1, g2, g3⟩ := pfr_ok g hT hs hp hx (by show _ ≤ u - 1; omega)
        have e1 : ρ' n = (ev ρ a).tmod (ev ρ b) := by
          unfold pfr at hp
          obtain ⟨-, he⟩ := cond_t hp
          cases he
          have := g3.2.1.1
          have : vi ((ev ρ a).tmod (ev ρ b)) = vi (ev ρ' (fs n)) := this
          rw [ev_fs] at this
          exact (Sum.inl.inj this).symm
        have hg : 0 ≤ ev ρ' (fak (fsb b (fs n)) (-1)) := by
          rw [ev_fak, ev_fsb, ev_fs, e1, ev_agr g1 h5]
          omega
        have hk := adf_ok g3.2.2.2.1 g3.2.2.2.2 hg
        exact ⟨ρ', g1, g2, g3.1, g3.2.1, g3.2.2.1, hk.1, hk.2⟩
theorem and255 {a : Int} : (Int32.ofInt a &&& Int32.ofInt 255).toInt = a % 256 := by
  have h := and_r (x := Int32.ofInt a) (y := Int32.ofInt 255) (by decide)
  have hm : (Int32.ofInt a &&& Int32.ofInt 255).toBitVec.msb = false := by
    rw [BitVec.msb_eq_toInt]
    exact decide_eq_false (by show ¬ (Int32.ofInt a &&& Int32.ofInt 255).toInt < 0; omega)
  have e2 : (Int32.ofInt a &&& Int32.ofInt 255).toInt = ((Int32.ofInt a &&& Int32.ofInt 255).toBitVec.toNat : Int) := BitVec.toInt_eq_toNat_of_msb hm
  have e3 : (Int32.ofInt a &&& Int32.ofInt 255).toBitVec.toNat = (BitVec.ofInt 32 a).toNat &&& 255 := rfl
  have e4 : (BitVec.ofInt 32 a).toNat &&& 255 = (BitVec.ofInt 32 a).toNat % 256 := Nat.and_two_pow_sub_one_eq_mod _ 8
  rw [e2, e3, e4, BitVec.toNat_ofInt]
  have : (0 : Int) ≤ a % (4294967296 : Int) := Int.emod_nonneg _ (by decide)
  show (((a % ((2 ^ 32 : Nat) : Int)).toNat % 256 : Nat) : Int) = a % 256
  rw [show ((2 ^ 32 : Nat) : Int) = 4294967296 from rfl]
  omega
theorem anB_ok {ρ : Nat → Int} {n : Nat} {A : aA} {L : pL} {S S0 : List pv} {M : pM} (g : gam ρ A L S M) {T : List av} (hT : sm ρ T S0) (hs : ∀ v ∈ T, v ∈ A.2.1) {a b : lf} {r : Nat × aA} (h : anB n A T a b = some r) : nxt ρ n r L (vi ((Int32.ofInt (ev ρ a) &&& Int32.ofInt (ev ρ b)).toInt) :: S0) M := by
  unfold anB at h
  cases hb : isK b && inK b.1 0 2147483647 with
  | true =>
    rw [hb] at h
    obtain ⟨h1, h2⟩ := and_t hb
    have e := isK_ok h1 ρ
    have h2 := inK_ok h2
    have e2 : (Int32.ofInt b.1).toInt = b.1 := i32_t ⟨by omega, by omega⟩
    have k := and_r (x := Int32.ofInt (ev ρ a)) (y := Int32.ofInt b.1) (by rw [e2]; omega)
    rw [e2] at k
    rw [e]
    exact pfr_ok g hT hs h k.1 k.2
  | false =>
    rw [hb] at h
    cases ha : isK a && inK a.1 0 2147483647 with
    | true =>
      rw [ha] at h
      obtain ⟨h1, h2⟩ := and_t ha
      have e := isK_ok h1 ρ
      have h2 := inK_ok h2
      have e2 : (Int32.ofInt a.1).toInt = a.1 := i32_t ⟨by omega, by omega⟩
      have k := and_r (x := Int32.ofInt (ev ρ b)) (y := Int32.ofInt a.1) (by rw [e2]; omega)
      rw [e2] at k
      rw [e, Int32.and_comm]
      exact pfr_ok g hT hs h k.1 k.2
    | false =>
      rw [ha] at h
      have k := i32_r (Int32.ofInt (ev ρ a) &&& Int32.ofInt (ev ρ b))
      exact pfr_ok g hT hs h k.1 k.2
theorem anA_ok {ρ : Nat → Int} {n : Nat} {A : aA} {L : pL} {S S0 : List pv} {M : pM} (g : gam ρ A L S M) {T : List av} (hT : sm ρ T S0) (hs : ∀ v ∈ T, v ∈ A.2.1) {a b : lf} {r : Nat × aA} (h : anA n A T a b = some r) : nxt ρ n r L (vi ((Int32.ofInt (ev ρ a) &&& Int32.ofInt (ev ρ b)).toInt) :: S0) M := by
  unfold anA at h
  cases h1 : isK b && ieq b.1 255 && inG A a (0, 255) with
  | true =>
    rw [h1] at h
    cases h
    obtain ⟨h1, h3⟩ := and_t h1
    obtain ⟨h1, h2⟩ := and_t h1
    have h3 : 0 ≤ ev ρ a ∧ ev ρ a ≤ 255 := inG_ok g.2.2.2.1 g.2.2.2.2 h3
    rw [isK_ok h1 ρ, ieq_iff.mp h2, and255]
    exact psh_ok g hT (by show vi _ = vi (ev ρ a); congr 1; omega)
  | false =>
    rw [h1] at h
    cases h4 : isK b && ieq b.1 255 && inG A a (-256, -1) with
    | true =>
      rw [h4] at h
      cases h
      obtain ⟨h1, h3⟩ := and_t h4
      obtain ⟨h1, h2⟩ := and_t h1
      have h3 : -256 ≤ ev ρ a ∧ ev ρ a ≤ -1 := inG_ok g.2.2.2.1 g.2.2.2.2 h3
      rw [isK_ok h1 ρ, ieq_iff.mp h2, and255]
      exact psh_ok g hT (by show vi _ = vi (ev ρ (fak a 256)); rw [ev_fak]; congr 1; omega)
    | false =>
      rw [h4] at h
      exact anB_ok g hT hs h
theorem mlA_ok {ρ : Nat → Int} {n : Nat} {A : aA} {L : pL} {S S0 : List pv} {M : pM} (g : gam ρ A L S M) {T : List av} (hT : sm ρ T S0) (hs : ∀ v ∈ T, v ∈ A.2.1) {a b : lf} {r : Nat × aA} (h : mlA n A T a b = some r) : nxt ρ n r L (vi (w32 (ev ρ a * ev ρ b)) :: S0) M := by
  unfold mlA at h
  cases hb : isK b with
  | true =>
    rw [hb] at h
    have := pw_ok g hT hs h
    rw [ev_fsc] at this
    rw [isK_ok hb ρ, Int.mul_comm]
    exact this
  | false =>
    rw [hb] at h
    cases ha : isK a with
    | true =>
      rw [ha] at h
      have := pw_ok g hT hs h
      rw [ev_fsc] at this
      rw [isK_ok ha ρ]
      exact this
    | false =>
      rw [ha] at h
      have k := w32_r (ev ρ a * ev ρ b)
      exact pfr_ok g hT hs h k.1 k.2
theorem shr0 {a : Int} (h : r32 a) : (Int32.ofInt a >>> (Int32.ofInt 0 &&& 31)).toInt = a := by
  have e : Int32.ofInt a >>> (Int32.ofInt 0 &&& 31) = Int32.ofInt a := by
    rw [show (Int32.ofInt 0 &&& 31) = 0 by decide]
    exact Int32.shiftRight_zero
  rw [e, i32_t h]
theorem kcf_ok {l : List (Nat × Nat × Int × Nat)} {o ix : Nat} {q : Nat × Nat × Int × Nat} (h : kcf l o ix = some q) : q ∈ l ∧ q.1 = o ∧ q.2.1 = ix := by
  unfold kcf at h
  have h1 := List.mem_of_find?_eq_some h
  have h2 := List.find?_some h
  obtain ⟨h3, h4⟩ := and_t h2
  exact ⟨h1, beq_t h3, beq_t h4⟩

set_option maxHeartbeats 4000000 in
theorem px_ok {ρ : Nat → Int} {n : Nat} {A : aA} {L : pL} {S : List pv} {M : pM} {j : Nat} {i : Instr} {len : Nat} {r : Nat × aA} (g : gam ρ A L S M) (h : px j i len n A = some r) : ∃ S', pur j i len L S S' ∧ nxt ρ n r L S' M := by
  cases i
  case iconst v =>
    obtain ⟨hc, he⟩ := cond_t (show cond (Nat.beq len 1 && inK v (-2147483648) 2147483647) (some (n, psA A (aI (fk v) :: A.2.1))) none = some r from h)
    obtain ⟨h1, h2⟩ := and_t hc
    cases he
    exact ⟨_, ⟨beq_t h1, inK_ok h2, rfl⟩, psh_ok g g.2.1 (by show vi v = vi (ev ρ (fk v)); rw [ev_fk])⟩
  case bipush v =>
    obtain ⟨hc, he⟩ := cond_t (show cond (Nat.beq len 2 && inK v (-128) 127) (some (n, psA A (aI (fk v) :: A.2.1))) none = some r from h)
    obtain ⟨h1, h2⟩ := and_t hc
    cases he
    exact ⟨_, ⟨beq_t h1, inK_ok h2, rfl⟩, psh_ok g g.2.1 (by show vi v = vi (ev ρ (fk v)); rw [ev_fk])⟩
  case sipush v =>
    obtain ⟨hc, he⟩ := cond_t (show cond (Nat.beq len 3 && inK v (-32768) 32767) (some (n, psA A (aI (fk v) :: A.2.1))) none = some r from h)
    obtain ⟨h1, h2⟩ := and_t hc
    cases he
    exact ⟨_, ⟨beq_t h1, inK_ok h2, rfl⟩, psh_ok g g.2.1 (by show vi v = vi (ev ρ (fk v)); rw [ev_fk])⟩
  case lconst v =>
    obtain ⟨hc, he⟩ := cond_t (show cond (Nat.beq len 1) (some (n, psA A (aJ :: A.2.1))) none = some r from h)
    cases he
    exact ⟨_, ⟨beq_t hc, rfl⟩, psh_ok g g.2.1 ⟨_, rfl⟩⟩
  case ldc ix =>
    cases hk : kcf cnL (mO j) ix with
    | none => simp only [px, hk] at h; cases h
    | some q =>
      have h' : cond (Nat.beq len 2) (some (n, psA A (aI (fk q.2.2.1) :: A.2.1))) none = some r := by simp only [px, hk] at h; exact h
      obtain ⟨hc, he⟩ := cond_t h'
      cases he
      have k := kcf_ok hk
      exact ⟨_, ⟨beq_t hc, q, k.1, k.2.1, k.2.2, rfl⟩, psh_ok g g.2.1 (by show vi _ = vi (ev ρ (fk _)); rw [ev_fk])⟩
  case ldc_w ix =>
    cases hk : kcf cnL (mO j) ix with
    | none => simp only [px, hk] at h; cases h
    | some q =>
      have h' : cond (Nat.beq len 3) (some (n, psA A (aI (fk q.2.2.1) :: A.2.1))) none = some r := by simp only [px, hk] at h; exact h
      obtain ⟨hc, he⟩ := cond_t h'
      cases he
      have k := kcf_ok hk
      exact ⟨_, ⟨beq_t hc, q, k.1, k.2.1, k.2.2, rfl⟩, psh_ok g g.2.1 (by show vi _ = vi (ev ρ (fk _)); rw [ev_fk])⟩
  case ldc2_w ix =>
    cases hk : kcf clnL (mO j) ix with
    | none => simp only [px, hk] at h; cases h
    | some q =>
      have h' : cond (Nat.beq len 3) (some (n, psA A (aJ :: A.2.1))) none = some r := by simp only [px, hk] at h; exact h
      obtain ⟨hc, he⟩ := cond_t h'
      cases he
      have k := kcf_ok hk
      exact ⟨_, ⟨beq_t hc, q, k.1, k.2.1, k.2.2, rfl⟩, psh_ok g g.2.1 ⟨_, rfl⟩⟩
  case iload k =>
    simp only [px] at h
    split at h
    · next f hk =>
      obtain ⟨hc, he⟩ := cond_t h
      cases he
      obtain ⟨y, h1, h2⟩ := lm_at g.1 hk
      have h2 : y = vi (ev ρ f) := h2
      rw [h2] at h1
      exact ⟨_, ⟨beq_t hc, _, h1, rfl⟩, psh_ok g g.2.1 rfl⟩
    · cases h
  case iload_n k =>
    simp only [px] at h
    split at h
    · next f hk =>
      obtain ⟨hc, he⟩ := cond_t h
      cases he
      obtain ⟨y, h1, h2⟩ := lm_at g.1 hk
      have h2 : y = vi (ev ρ f) := h2
      rw [h2] at h1
      exact ⟨_, ⟨beq_t hc, _, h1, rfl⟩, psh_ok g g.2.1 rfl⟩
    · cases h
  case lload k =>
    simp only [px] at h
    split at h
    · next u hk =>
      obtain ⟨hc, he⟩ := cond_t h
      cases he
      obtain ⟨y, h1, h2⟩ := lm_at g.1 hk
      obtain ⟨z, h2⟩ := vm_J h2
      rw [h2] at h1
      exact ⟨_, ⟨beq_t hc, _, h1, rfl⟩, psh_ok g g.2.1 ⟨_, rfl⟩⟩
    · cases h
  case lload_n k =>
    simp only [px] at h
    split at h
    · next u hk =>
      obtain ⟨hc, he⟩ := cond_t h
      cases he
      obtain ⟨y, h1, h2⟩ := lm_at g.1 hk
      obtain ⟨z, h2⟩ := vm_J h2
      rw [h2] at h1
      exact ⟨_, ⟨beq_t hc, _, h1, rfl⟩, psh_ok g g.2.1 ⟨_, rfl⟩⟩
    · cases h
  case aload k =>
    simp only [px] at h
    split at h
    · next x hk =>
      obtain ⟨hc, he⟩ := cond_t h
      cases he
      obtain ⟨y, h1, h2⟩ := lm_at g.1 hk
      have h2 : y = vr x := h2
      rw [h2] at h1
      exact ⟨_, ⟨beq_t hc, _, h1, rfl⟩, psh_ok g g.2.1 rfl⟩
    · cases h
  case aload_n k =>
    simp only [px] at h
    split at h
    · next x hk =>
      obtain ⟨hc, he⟩ := cond_t h
      cases he
      obtain ⟨y, h1, h2⟩ := lm_at g.1 hk
      have h2 : y = vr x := h2
      rw [h2] at h1
      exact ⟨_, ⟨beq_t hc, _, h1, rfl⟩, psh_ok g g.2.1 rfl⟩
    · cases h
  case dup =>
    simp only [px] at h
    split at h
    · next v T hk =>
      obtain ⟨hc, he⟩ := cond_t h
      cases he
      obtain ⟨h1, h2⟩ := and_t hc
      have hs := g.2.1
      rw [hk] at hs
      obtain ⟨x, S0, e1, e2, e3⟩ := sm_pfx hs
      subst e1
      exact ⟨_, ⟨beq_t h1, x, S0, rfl, by rw [catA_vm e2]; exact beq_t h2, rfl⟩, psh_ok g (show sm ρ (v :: T) (x :: S0) from ⟨e2, e3⟩) e2⟩
    · cases h
  case pop =>
    simp only [px] at h
    split at h
    · next v T hk =>
      obtain ⟨hc, he⟩ := cond_t h
      cases he
      obtain ⟨h1, h2⟩ := and_t hc
      have hs := g.2.1
      rw [hk] at hs
      obtain ⟨x, S0, e1, e2, e3⟩ := sm_pfx hs
      subst e1
      exact ⟨_, ⟨beq_t h1, x, S0, rfl, by rw [catA_vm e2]; exact beq_t h2, rfl⟩, pop_ok g e3⟩
    · cases h
  case dup2 =>
    simp only [px] at h
    split at h
    · next v u T hk =>
      obtain ⟨hc, he⟩ := cond_t h
      cases he
      obtain ⟨h1, h2⟩ := and_t hc
      obtain ⟨h0, h1⟩ := and_t h1
      have hs := g.2.1
      rw [hk] at hs
      obtain ⟨x, S0, e1, e2, e3⟩ := sm_pfx hs
      obtain ⟨y, S1, f1, f2, f3⟩ := sm_pfx e3
      subst e1; subst f1
      exact ⟨_, ⟨beq_t h0, x, y, S1, rfl, by rw [catA_vm e2]; exact beq_t h1, by rw [catA_vm f2]; exact beq_t h2, rfl⟩, psh_ok g (show sm ρ (u :: v :: u :: T) (y :: x :: y :: S1) from ⟨f2, e2, f2, f3⟩) e2⟩
    · cases h
  case ineg =>
    simp only [px] at h
    split at h
    · next a T hk =>
      obtain ⟨hc, he⟩ := cond_t h
      have hs := g.2.1
      rw [hk] at hs
      obtain ⟨S0, e1, e2⟩ := sm_I hs
      subst e1
      have := pw_ok g e2 (fun v hv => by rw [hk]; exact List.mem_cons_of_mem _ hv) he
      rw [ev_neg] at this
      exact ⟨_, ⟨beq_t hc, _, _, rfl, rfl⟩, this⟩
    · cases h
  case i2l =>
    simp only [px] at h
    split at h
    · next a T hk =>
      obtain ⟨hc, he⟩ := cond_t h
      have hs := g.2.1
      rw [hk] at hs
      obtain ⟨S0, e1, e2⟩ := sm_I hs
      subst e1
      cases he
      exact ⟨_, ⟨beq_t hc, _, _, rfl, rfl⟩, psh_ok g e2 ⟨_, rfl⟩⟩
    · cases h
  case l2i =>
    simp only [px] at h
    split at h
    · next a T hk =>
      obtain ⟨hc, he⟩ := cond_t h
      have hs := g.2.1
      rw [hk] at hs
      obtain ⟨z, S0, e1, e2⟩ := sm_J hs
      subst e1
      have k := i32_r (Int64.ofInt z).toInt32
      exact ⟨_, ⟨beq_t hc, _, _, rfl, rfl⟩, pfr_ok g e2 (fun v hv => by rw [hk]; exact List.mem_cons_of_mem _ hv) he k.1 k.2⟩
    · cases h
  case i2b =>
    simp only [px] at h
    split at h
    · next a T hk =>
      obtain ⟨hc, he⟩ := cond_t h
      have hs := g.2.1
      rw [hk] at hs
      obtain ⟨S0, e1, e2⟩ := sm_I hs
      subst e1
      refine ⟨_, ⟨beq_t hc, _, _, rfl, rfl⟩, ?_⟩
      cases hb : inG A a (-128, 127) with
      | true =>
        rw [hb] at he
        cases he
        rw [w8_id (inG_ok g.2.2.2.1 g.2.2.2.2 hb)]
        exact psh_ok g e2 rfl
      | false =>
        rw [hb] at he
        have k := w8_b (ev ρ a)
        exact pfr_ok g e2 (fun v hv => by rw [hk]; exact List.mem_cons_of_mem _ hv) he k.1 k.2
    · cases h
  case i2c =>
    simp only [px] at h
    split at h
    · next a T hk =>
      obtain ⟨hc, he⟩ := cond_t h
      have hs := g.2.1
      rw [hk] at hs
      obtain ⟨S0, e1, e2⟩ := sm_I hs
      subst e1
      have k := i2c_r (ev ρ a)
      exact ⟨_, ⟨beq_t hc, _, _, rfl, rfl⟩, pfr_ok g e2 (fun v hv => by rw [hk]; exact List.mem_cons_of_mem _ hv) he k.1 k.2⟩
    · cases h
  case idiv =>
    simp only [px] at h
    split at h
    · next b a T hk =>
      obtain ⟨hc, he⟩ := cond_t h
      have hs := g.2.1
      rw [hk] at hs
      obtain ⟨S1, e1, e0⟩ := sm_I hs
      obtain ⟨S0, e3, e2⟩ := sm_I e0
      subst e1; subst e3
      have k := dvA_ok g e2 (fun v hv => by rw [hk]; exact List.mem_cons_of_mem _ (List.mem_cons_of_mem _ hv)) he
      exact ⟨_, ⟨beq_t hc, _, _, _, rfl, k.1, rfl⟩, k.2⟩
    · cases h
  case irem =>
    simp only [px] at h
    split at h
    · next b a T hk =>
      obtain ⟨hc, he⟩ := cond_t h
      have hs := g.2.1
      rw [hk] at hs
      obtain ⟨S1, e1, e0⟩ := sm_I hs
      obtain ⟨S0, e3, e2⟩ := sm_I e0
      subst e1; subst e3
      have k := rmA_ok g e2 (fun v hv => by rw [hk]; exact List.mem_cons_of_mem _ (List.mem_cons_of_mem _ hv)) he
      exact ⟨_, ⟨beq_t hc, _, _, _, rfl, k.1, rfl⟩, k.2⟩
    · cases h
  case lcmp =>
    simp only [px] at h
    split at h
    · next b a T hk =>
      obtain ⟨hc, he⟩ := cond_t h
      have hs := g.2.1
      rw [hk] at hs
      obtain ⟨z, S1, e1, e0⟩ := sm_J hs
      obtain ⟨y, S0, e3, e2⟩ := sm_J e0
      subst e1; subst e3
      exact ⟨_, ⟨beq_t hc, _, _, _, rfl, rfl⟩, pfr_ok g e2 (fun v hv => by rw [hk]; exact List.mem_cons_of_mem _ (List.mem_cons_of_mem _ hv)) he (by show (-1 : Int) ≤ _; split <;> (try split) <;> omega) (by show _ ≤ (1 : Int); split <;> (try split) <;> omega)⟩
    · cases h
  case lshl =>
    simp only [px] at h
    split at h
    · next b a T hk =>
      obtain ⟨hc, he⟩ := cond_t h
      cases he
      have hs := g.2.1
      rw [hk] at hs
      obtain ⟨S1, e1, e0⟩ := sm_I hs
      obtain ⟨y, S0, e3, e2⟩ := sm_J e0
      subst e1; subst e3
      exact ⟨_, ⟨beq_t hc, _, _, _, rfl, rfl⟩, psh_ok g e2 ⟨_, rfl⟩⟩
    · cases h
  case lshr =>
    simp only [px] at h
    split at h
    · next b a T hk =>
      obtain ⟨hc, he⟩ := cond_t h
      cases he
      have hs := g.2.1
      rw [hk] at hs
      obtain ⟨S1, e1, e0⟩ := sm_I hs
      obtain ⟨y, S0, e3, e2⟩ := sm_J e0
      subst e1; subst e3
      exact ⟨_, ⟨beq_t hc, _, _, _, rfl, rfl⟩, psh_ok g e2 ⟨_, rfl⟩⟩
    · cases h
  case lushr =>
    simp only [px] at h
    split at h
    · next b a T hk =>
      obtain ⟨hc, he⟩ := cond_t h
      cases he
      have hs := g.2.1
      rw [hk] at hs
      obtain ⟨S1, e1, e0⟩ := sm_I hs
      obtain ⟨y, S0, e3, e2⟩ := sm_J e0
      subst e1; subst e3
      exact ⟨_, ⟨beq_t hc, _, _, _, rfl, rfl⟩, psh_ok g e2 ⟨_, rfl⟩⟩
    · cases h
  case iadd =>
    simp only [px] at h
    split at h
    · next b a T hk =>
      obtain ⟨hc, he⟩ := cond_t h
      have hs := g.2.1
      rw [hk] at hs
      obtain ⟨S1, e1, e0⟩ := sm_I hs
      obtain ⟨S0, e3, e2⟩ := sm_I e0
      subst e1; subst e3
      have := pw_ok g e2 (fun v hv => by rw [hk]; exact List.mem_cons_of_mem _ (List.mem_cons_of_mem _ hv)) he
      rw [ev_fad] at this
      exact ⟨_, ⟨beq_t hc, Or.inl ⟨_, _, _, _, rfl, rfl, rfl⟩⟩, this⟩
    · cases h
  case isub =>
    simp only [px] at h
    split at h
    · next b a T hk =>
      obtain ⟨hc, he⟩ := cond_t h
      have hs := g.2.1
      rw [hk] at hs
      obtain ⟨S1, e1, e0⟩ := sm_I hs
      obtain ⟨S0, e3, e2⟩ := sm_I e0
      subst e1; subst e3
      have := pw_ok g e2 (fun v hv => by rw [hk]; exact List.mem_cons_of_mem _ (List.mem_cons_of_mem _ hv)) he
      rw [ev_fsb] at this
      exact ⟨_, ⟨beq_t hc, Or.inl ⟨_, _, _, _, rfl, rfl, rfl⟩⟩, this⟩
    · cases h
  case imul =>
    simp only [px] at h
    split at h
    · next b a T hk =>
      obtain ⟨hc, he⟩ := cond_t h
      have hs := g.2.1
      rw [hk] at hs
      obtain ⟨S1, e1, e0⟩ := sm_I hs
      obtain ⟨S0, e3, e2⟩ := sm_I e0
      subst e1; subst e3
      exact ⟨_, ⟨beq_t hc, Or.inl ⟨_, _, _, _, rfl, rfl, rfl⟩⟩, mlA_ok g e2 (fun v hv => by rw [hk]; exact List.mem_cons_of_mem _ (List.mem_cons_of_mem _ hv)) he⟩
    · cases h
  case iand =>
    simp only [px] at h
    split at h
    · next b a T hk =>
      obtain ⟨hc, he⟩ := cond_t h
      have hs := g.2.1
      rw [hk] at hs
      obtain ⟨S1, e1, e0⟩ := sm_I hs
      obtain ⟨S0, e3, e2⟩ := sm_I e0
      subst e1; subst e3
      exact ⟨_, ⟨beq_t hc, Or.inl ⟨_, _, _, _, rfl, rfl, rfl⟩⟩, anA_ok g e2 (fun v hv => by rw [hk]; exact List.mem_cons_of_mem _ (List.mem_cons_of_mem _ hv)) he⟩
    · cases h
  case ior =>
    simp only [px] at h
    split at h
    · next b a T hk =>
      obtain ⟨hc, he⟩ := cond_t h
      have hs := g.2.1
      rw [hk] at hs
      obtain ⟨S1, e1, e0⟩ := sm_I hs
      obtain ⟨S0, e3, e2⟩ := sm_I e0
      subst e1; subst e3
      exact ⟨_, ⟨beq_t hc, Or.inl ⟨_, _, _, _, rfl, rfl, rfl⟩⟩, pfr_ok g e2 (fun v hv => by rw [hk]; exact List.mem_cons_of_mem _ (List.mem_cons_of_mem _ hv)) he (i32_r _).1 (i32_r _).2⟩
    · cases h
  case ixor =>
    simp only [px] at h
    split at h
    · next b a T hk =>
      obtain ⟨hc, he⟩ := cond_t h
      have hs := g.2.1
      rw [hk] at hs
      obtain ⟨S1, e1, e0⟩ := sm_I hs
      obtain ⟨S0, e3, e2⟩ := sm_I e0
      subst e1; subst e3
      exact ⟨_, ⟨beq_t hc, Or.inl ⟨_, _, _, _, rfl, rfl, rfl⟩⟩, pfr_ok g e2 (fun v hv => by rw [hk]; exact List.mem_cons_of_mem _ (List.mem_cons_of_mem _ hv)) he (i32_r _).1 (i32_r _).2⟩
    · cases h
  case ishl =>
    simp only [px] at h
    split at h
    · next b a T hk =>
      obtain ⟨hc, he⟩ := cond_t h
      have hs := g.2.1
      rw [hk] at hs
      obtain ⟨S1, e1, e0⟩ := sm_I hs
      obtain ⟨S0, e3, e2⟩ := sm_I e0
      subst e1; subst e3
      exact ⟨_, ⟨beq_t hc, Or.inl ⟨_, _, _, _, rfl, rfl, rfl⟩⟩, pfr_ok g e2 (fun v hv => by rw [hk]; exact List.mem_cons_of_mem _ (List.mem_cons_of_mem _ hv)) he (i32_r _).1 (i32_r _).2⟩
    · cases h
  case ishr =>
    simp only [px] at h
    split at h
    · next b a T hk =>
      obtain ⟨hc, he⟩ := cond_t h
      have hs := g.2.1
      rw [hk] at hs
      obtain ⟨S1, e1, e0⟩ := sm_I hs
      obtain ⟨S0, e3, e2⟩ := sm_I e0
      subst e1; subst e3
      refine ⟨_, ⟨beq_t hc, Or.inl ⟨_, _, _, _, rfl, rfl, rfl⟩⟩, ?_⟩
      cases hq : isK b && ieq b.1 0 && inG A a r3 with
      | true =>
        rw [hq] at he
        cases he
        obtain ⟨hq, h3⟩ := and_t hq
        obtain ⟨h1, h2⟩ := and_t hq
        have h3 := inG_ok g.2.2.2.1 g.2.2.2.2 h3
        refine psh_ok g e2 ?_
        show vi _ = vi (ev ρ a)
        rw [isK_ok h1 ρ, ieq_iff.mp h2, shr0 h3]
      | false =>
        rw [hq] at he
        exact pfr_ok g e2 (fun v hv => by rw [hk]; exact List.mem_cons_of_mem _ (List.mem_cons_of_mem _ hv)) he (i32_r _).1 (i32_r _).2
    · cases h
  case iushr =>
    simp only [px] at h
    split at h
    · next b a T hk =>
      obtain ⟨hc, he⟩ := cond_t h
      have hs := g.2.1
      rw [hk] at hs
      obtain ⟨S1, e1, e0⟩ := sm_I hs
      obtain ⟨S0, e3, e2⟩ := sm_I e0
      subst e1; subst e3
      exact ⟨_, ⟨beq_t hc, Or.inl ⟨_, _, _, _, rfl, rfl, rfl⟩⟩, pfr_ok g e2 (fun v hv => by rw [hk]; exact List.mem_cons_of_mem _ (List.mem_cons_of_mem _ hv)) he (i32_r _).1 (i32_r _).2⟩
    · cases h
  case ladd =>
    simp only [px] at h
    split at h
    · next b a T hk =>
      obtain ⟨hc, he⟩ := cond_t h
      cases he
      have hs := g.2.1
      rw [hk] at hs
      obtain ⟨z, S1, e1, e0⟩ := sm_J hs
      obtain ⟨y, S0, e3, e2⟩ := sm_J e0
      subst e1; subst e3
      exact ⟨_, ⟨beq_t hc, Or.inr ⟨_, _, _, _, rfl, rfl, rfl⟩⟩, psh_ok g e2 ⟨_, rfl⟩⟩
    · cases h
  case lsub =>
    simp only [px] at h
    split at h
    · next b a T hk =>
      obtain ⟨hc, he⟩ := cond_t h
      cases he
      have hs := g.2.1
      rw [hk] at hs
      obtain ⟨z, S1, e1, e0⟩ := sm_J hs
      obtain ⟨y, S0, e3, e2⟩ := sm_J e0
      subst e1; subst e3
      exact ⟨_, ⟨beq_t hc, Or.inr ⟨_, _, _, _, rfl, rfl, rfl⟩⟩, psh_ok g e2 ⟨_, rfl⟩⟩
    · cases h
  case lmul =>
    simp only [px] at h
    split at h
    · next b a T hk =>
      obtain ⟨hc, he⟩ := cond_t h
      cases he
      have hs := g.2.1
      rw [hk] at hs
      obtain ⟨z, S1, e1, e0⟩ := sm_J hs
      obtain ⟨y, S0, e3, e2⟩ := sm_J e0
      subst e1; subst e3
      exact ⟨_, ⟨beq_t hc, Or.inr ⟨_, _, _, _, rfl, rfl, rfl⟩⟩, psh_ok g e2 ⟨_, rfl⟩⟩
    · cases h
  case land =>
    simp only [px] at h
    split at h
    · next b a T hk =>
      obtain ⟨hc, he⟩ := cond_t h
      cases he
      have hs := g.2.1
      rw [hk] at hs
      obtain ⟨z, S1, e1, e0⟩ := sm_J hs
      obtain ⟨y, S0, e3, e2⟩ := sm_J e0
      subst e1; subst e3
      exact ⟨_, ⟨beq_t hc, Or.inr ⟨_, _, _, _, rfl, rfl, rfl⟩⟩, psh_ok g e2 ⟨_, rfl⟩⟩
    · cases h
  case lor =>
    simp only [px] at h
    split at h
    · next b a T hk =>
      obtain ⟨hc, he⟩ := cond_t h
      cases he
      have hs := g.2.1
      rw [hk] at hs
      obtain ⟨z, S1, e1, e0⟩ := sm_J hs
      obtain ⟨y, S0, e3, e2⟩ := sm_J e0
      subst e1; subst e3
      exact ⟨_, ⟨beq_t hc, Or.inr ⟨_, _, _, _, rfl, rfl, rfl⟩⟩, psh_ok g e2 ⟨_, rfl⟩⟩
    · cases h
  case lxor =>
    simp only [px] at h
    split at h
    · next b a T hk =>
      obtain ⟨hc, he⟩ := cond_t h
      cases he
      have hs := g.2.1
      rw [hk] at hs
      obtain ⟨z, S1, e1, e0⟩ := sm_J hs
      obtain ⟨y, S0, e3, e2⟩ := sm_J e0
      subst e1; subst e3
      exact ⟨_, ⟨beq_t hc, Or.inr ⟨_, _, _, _, rfl, rfl, rfl⟩⟩, psh_ok g e2 ⟨_, rfl⟩⟩
    · cases h
  all_goals (cases h)
