/-! ===== stores ===== -/
theorem lm_kil {ρ : Nat → Int} : ∀ {a : List (Option av)} {l : pL} {m : Nat}, lm ρ a l → lm ρ (kiA a (m + 1)) (l.set m (clr (l.getD m none)))
  | [], [], _, _ => trivial
  | [], _ :: _, _, q => q.elim
  | _ :: _, [], _, q => q.elim
  | none :: a, x :: l, 0, q => ⟨trivial, q.2⟩
  | some (.inl f) :: a, x :: l, 0, q => by
    obtain ⟨y, h1, h2⟩ := q.1
    subst h1
    have h2 : y = vi (ev ρ f) := h2
    subst h2
    exact ⟨⟨_, rfl, rfl⟩, q.2⟩
  | some (.inr (.inl u)) :: a, x :: l, 0, q => ⟨trivial, q.2⟩
  | some (.inr (.inr k)) :: a, x :: l, 0, q => by
    obtain ⟨y, h1, h2⟩ := q.1
    subst h1
    have h2 : y = vr k := h2
    subst h2
    exact ⟨⟨_, rfl, rfl⟩, q.2⟩
  | o :: a, x :: l, m + 1, q => by
    have ih := lm_kil (m := m) q.2
    have e : kiA (o :: a) (m + 1 + 1) = o :: kiA a (m + 1) := by
      show (match (o :: a).getD (m + 1) none with
        | some (.inl _) => o :: a
        | some (.inr (.inr _)) => o :: a
        | _ => (o :: a).set (m + 1) none) = o :: (match a.getD m none with
        | some (.inl _) => a
        | some (.inr (.inr _)) => a
        | _ => a.set m none)
      rw [show (o :: a).getD (m + 1) none = a.getD m none from rfl]
      split <;> rfl
    rw [e]
    exact ⟨q.1, ih⟩
theorem lm_kil' {ρ : Nat → Int} {a : List (Option av)} {l : pL} {k : Nat} (h : lm ρ a l) : lm ρ (kiA a k) (kil l k) := by
  cases k with
  | zero => exact h
  | succ m => exact lm_kil h
theorem sto1_ok {ρ : Nat → Int} {n : Nat} {A : aA} {L : pL} {S S0 : List pv} {M : pM} (g : gam ρ A L S M) {T : List av} (hT : sm ρ T S0) {k : Nat} {v : av} {x : pv} (hv : vm ρ v x) {r : Nat × aA} (h : sto1 n A k v T = some r) : k < L.length ∧ nxt ρ n r ((kil L k).set k (some x)) S0 M := by
  unfold sto1 at h
  obtain ⟨hc, he⟩ := cond_t h
  cases he
  have hk : k < A.1.length := Nat.blt_eq ▸ hc
  rw [lm_len g.1] at hk
  exact ⟨hk, nxt_same ⟨lm_set (lm_kil' g.1) ⟨x, rfl, hv⟩, hT, g.2.2.1, g.2.2.2.1, g.2.2.2.2⟩⟩
theorem sto2_ok {ρ : Nat → Int} {n : Nat} {A : aA} {L : pL} {S S0 : List pv} {M : pM} (g : gam ρ A L S M) {T : List av} (hT : sm ρ T S0) {k : Nat} {z : Int} {r : Nat × aA} (h : sto2 n A k T = some r) : k + 1 < L.length ∧ nxt ρ n r (((kil L k).set k (some (vl z))).set (k + 1) none) S0 M := by
  unfold sto2 at h
  obtain ⟨hc, he⟩ := cond_t h
  cases he
  have hk : k + 1 < A.1.length := Nat.blt_eq ▸ hc
  rw [lm_len g.1] at hk
  exact ⟨hk, nxt_same ⟨lm_set (lm_set (lm_kil' g.1) ⟨vl z, rfl, z, rfl⟩) trivial, hT, g.2.2.1, g.2.2.2.1, g.2.2.2.2⟩⟩
theorem sx1_ok {ρ : Nat → Int} {n : Nat} {A : aA} {L : pL} {S : List pv} {M : pM} {i : Instr} {len : Nat} {r : Nat × aA} (g : gam ρ A L S M) (h : sx1 i len n A = some r) : ∃ L' S', sto i len L L' S S' ∧ nxt ρ n r L' S' M := by
  cases i
  case istore k =>
    simp only [sx1] at h
    split at h
    · next f T hk =>
      obtain ⟨hc, he⟩ := cond_t h
      have hs := g.2.1
      rw [hk] at hs
      obtain ⟨S0, e1, e2⟩ := sm_I hs
      subst e1
      have q := sto1_ok g e2 (show vm ρ (aI f) (vi (ev ρ f)) from rfl) he
      exact ⟨_, _, ⟨beq_t hc, _, rfl, q.1, rfl⟩, q.2⟩
    · cases h
  case istore_n k =>
    simp only [sx1] at h
    split at h
    · next f T hk =>
      obtain ⟨hc, he⟩ := cond_t h
      have hs := g.2.1
      rw [hk] at hs
      obtain ⟨S0, e1, e2⟩ := sm_I hs
      subst e1
      have q := sto1_ok g e2 (show vm ρ (aI f) (vi (ev ρ f)) from rfl) he
      exact ⟨_, _, ⟨beq_t hc, _, rfl, q.1, rfl⟩, q.2⟩
    · cases h
  case astore k =>
    simp only [sx1] at h
    split at h
    · next x T hk =>
      obtain ⟨hc, he⟩ := cond_t h
      have hs := g.2.1
      rw [hk] at hs
      obtain ⟨S0, e1, e2⟩ := sm_R hs
      subst e1
      have q := sto1_ok g e2 (show vm ρ (aR x) (vr x) from rfl) he
      exact ⟨_, _, ⟨beq_t hc, _, rfl, q.1, rfl⟩, q.2⟩
    · cases h
  case astore_n k =>
    simp only [sx1] at h
    split at h
    · next x T hk =>
      obtain ⟨hc, he⟩ := cond_t h
      have hs := g.2.1
      rw [hk] at hs
      obtain ⟨S0, e1, e2⟩ := sm_R hs
      subst e1
      have q := sto1_ok g e2 (show vm ρ (aR x) (vr x) from rfl) he
      exact ⟨_, _, ⟨beq_t hc, _, rfl, q.1, rfl⟩, q.2⟩
    · cases h
  case lstore k =>
    simp only [sx1] at h
    split at h
    · next f T hk =>
      obtain ⟨hc, he⟩ := cond_t h
      have hs := g.2.1
      rw [hk] at hs
      obtain ⟨z, S0, e1, e2⟩ := sm_J hs
      subst e1
      have q := sto2_ok (z := z) g e2 he
      exact ⟨_, _, ⟨beq_t hc, _, rfl, q.1, rfl⟩, q.2⟩
    · cases h
  case lstore_n k =>
    simp only [sx1] at h
    split at h
    · next f T hk =>
      obtain ⟨hc, he⟩ := cond_t h
      have hs := g.2.1
      rw [hk] at hs
      obtain ⟨z, S0, e1, e2⟩ := sm_J hs
      subst e1
      have q := sto2_ok (z := z) g e2 he
      exact ⟨_, _, ⟨beq_t hc, _, rfl, q.1, rfl⟩, q.2⟩
    · cases h
  case iinc k c =>
    simp only [sx1] at h
    split at h
    · next f hk =>
      obtain ⟨hc, he⟩ := cond_t h
      obtain ⟨h1, h2⟩ := and_t hc
      split at he
      · next m B hp =>
        split at he
        · next v T hv =>
          obtain ⟨ρ', g1, g2, g3⟩ := pw_ok g g.2.1 (fun _ q => q) hp
          rw [ev_fak] at g3
          have hs := g3.2.1
          rw [hv] at hs
          obtain ⟨y, l, e1, e2, e3⟩ := sm_pfx hs
          have e4 := List.cons.inj e1
          rw [← e4.1] at e2
          rw [← e4.2] at e3
          obtain ⟨q1, ρ2, q2, q3, q4⟩ := sto1_ok g3 e3 e2 he
          obtain ⟨z, f1, f2⟩ := lm_at g.1 hk
          have f2 : z = vi (ev ρ f) := f2
          rw [f2] at f1
          exact ⟨_, _, ⟨beq_t h1, inK_ok h2, _, f1, rfl, rfl⟩, ρ2, agr_tr g1 q2 g2, Nat.le_trans g2 q3, q4⟩
        · cases he
      · cases he
    · cases h
  all_goals (cases h)
/-! ===== cells ===== -/
theorem fdf_ok {l : List (Nat × Nat × Nat × Nat × Nat × Nat)} {o ix : Nat} {q : Nat × Nat × Nat × Nat × Nat × Nat} (h : fdf l o ix = some q) : q ∈ l ∧ q.1 = o ∧ q.2.1 = ix := by
  unfold fdf at h
  have h1 := List.mem_of_find?_eq_some h
  have h2 := List.find?_some h
  obtain ⟨h3, h4⟩ := and_t h2
  exact ⟨h1, beq_t h3, beq_t h4⟩
theorem obA_ok {a c : Nat} (h : obA a c = true) : a < 119 ∧ SH a = .inl c ∧ ob 119 a = c := by
  unfold obA at h
  cases hl : Nat.blt a 119 with
  | false => rw [hl] at h; cases h
  | true =>
    rw [hl] at h
    have hl : a < 119 := Nat.blt_eq ▸ hl
    have h : (match SH a with
      | .inl q => Nat.beq q c
      | .inr _ => false) = true := h
    cases hs : SH a with
    | inr q => rw [hs] at h; cases h
    | inl q =>
      rw [hs] at h
      have e : q = c := beq_t h
      refine ⟨hl, by rw [e], ?_⟩
      unfold ob
      rw [if_pos hl, hs]
      exact e
theorem fty_0 {t : FieldType} (h : fty t = 0) : t = .int := by cases t <;> first | rfl | cases h
theorem fty_1 {t : FieldType} (h : fty t = 1) : t = .boolean := by cases t <;> first | rfl | cases h
theorem fty_2 {t : FieldType} (h : fty t = 2) : t = .long := by cases t <;> first | rfl | cases h
theorem fty_3 {t : FieldType} (h : fty t = 3) (x : Int) : tgv t x = vr x.toNat ∧ ∀ k : Nat, utg t (vr k) (k : Int) := by cases t <;> first | exact ⟨rfl, fun k => ⟨k, rfl, rfl⟩⟩ | cases h
theorem rfG_ok {c k : Nat} : ∀ {l : List (Nat × Nat × List Nat)}, rfG l c k ≠ [] → ∃ e ∈ l, e.1 = c ∧ e.2.1 = k ∧ e.2.2 = rfG l c k
  | [], h => absurd rfl h
  | e :: r, h => by
    unfold rfG at h ⊢
    cases hc : Nat.beq e.1 c && Nat.beq e.2.1 k with
    | true =>
      obtain ⟨h1, h2⟩ := and_t hc
      exact ⟨e, List.mem_cons_self, beq_t h1, beq_t h2, rfl⟩
    | false =>
      rw [hc] at h
      obtain ⟨q, h1, h2⟩ := rfG_ok (l := r) h
      exact ⟨q, List.mem_cons_of_mem _ h1, h2⟩
def rfK : Bool := rfT.all (fun e => match SH e.1 with
    | .inl c => Nat.beq (fty (tyA c e.2.1)) 3 && Nat.blt e.1 119
    | .inr _ => false)
theorem rfK_ok : rfK = true := by decide +kernel
theorem rf_at {e : Nat × Nat × List Nat} (he : e ∈ rfT) : ∃ c, SH e.1 = .inl c ∧ fty (tyA c e.2.1) = 3 ∧ e.1 < 119 := by
  have := List.all_eq_true.mp rfK_ok e he
  cases hs : SH e.1 with
  | inr q => rw [hs] at this; cases this
  | inl c =>
    rw [hs] at this
    obtain ⟨h1, h2⟩ := and_t this
    exact ⟨c, rfl, beq_t h1, Nat.blt_eq ▸ h2⟩
def rfU : Bool := uqb (rfT.map (fun e => (e.1, e.2.1)))
theorem rfU_ok : rfU = true := by decide +kernel
theorem gI_st {M : pM} (hG : gI M) {c k : Nat} {x : Int} (h1 : ∀ b, (gl c)[k % (gl c).length]? = some b → b.1 ≤ b.2 → b.1 ≤ x ∧ x ≤ b.2) (h2 : ∀ e ∈ rfT, e.1 = c → e.2.1 = k → ∃ y ∈ e.2.2, x = ((y : Nat) : Int)) : gI (st M c k x) := by
  refine ⟨fun c' k' b hk hb hl => ?_, fun e he => ?_⟩
  · unfold st
    by_cases h : c' = c ∧ k' = k
    · rw [if_pos h]
      rw [h.1, h.2] at hb
      exact h1 b hb hl
    · rw [if_neg h]
      exact hG.1 c' k' b hk hb hl
  · unfold st
    by_cases h : e.1 = c ∧ e.2.1 = k
    · rw [if_pos h]
      exact h2 e he h.1 h.2
    · rw [if_neg h]
      exact hG.2 e he
theorem fr_st {md : mdL} {M0 M : pM} (h : fr md M0 M) {c k : Nat} {x : Int} (hm : inM md c k = true) : fr md M0 (st M c k x) := by
  intro c' k' hi
  unfold st
  rw [if_neg (fun q => by rw [q.1, q.2, hm] at hi; cases hi)]
  exact h c' k' hi
theorem inA_M {md : mdL} {A : aA} {ρ : Nat → Int} (hB : okB ρ A.2.2.2.1) (hF : okF ρ A.2.2.2.2) {c : Nat} {f : lf} (h : inA md A c f = true) : inM md c (ev ρ f).toNat = true := by
  unfold inA at h
  obtain ⟨e, he, h1⟩ := List.any_eq_true.mp h
  obtain ⟨h2, h4⟩ := and_t h1
  obtain ⟨h2, h3⟩ := and_t h2
  have h3 := en_ok hB hF h3
  have h4 := en_ok hB hF h4
  rw [ev_fak] at h3 h4
  rw [ev_neg] at h4
  have e1 : Int.ofNat e.2.1 = (e.2.1 : Int) := rfl
  have e2 : Int.ofNat e.2.2 = (e.2.2 : Int) := rfl
  rw [e1] at h3
  rw [e2] at h4
  refine List.any_eq_true.mpr ⟨e, he, ?_⟩
  rw [h2, Nat.ble_eq_true_of_le (by omega), Nat.ble_eq_true_of_le (by omega)]
  rfl
theorem dif_ok {ρ : Nat → Int} {B : bd} (hB : okB ρ B) {f g : lf} (h : dif B f g = true) : ev ρ f ≠ ev ρ g := by
  have h : (iv B (fak (fsb f g) (-1)) || iv B (fak (fsc (-1) (fsb f g)) (-1))) = true := h
  rcases (Bool.or_eq_true _ _).mp h with q | q
  · have := iv_ok hB q
    rw [ev_fak, ev_fsb] at this
    omega
  · have := iv_ok hB q
    rw [ev_fak, ev_neg, ev_fsb] at this
    omega
theorem ouW_ok {ρ : Nat → Int} {B : bd} (hB : okB ρ B) {m : mdL} {c : Nat} {ix : lf} (h : ouW B m c ix = true) (h0 : 0 ≤ ev ρ ix) : inM m c (ev ρ ix).toNat = false := by
  cases hi : inM m c (ev ρ ix).toNat with
  | false => rfl
  | true =>
    exfalso
    unfold inM at hi
    obtain ⟨d, d1, d2⟩ := List.any_eq_true.mp hi
    obtain ⟨d2, d5⟩ := and_t d2
    obtain ⟨d3, d4⟩ := and_t d2
    have d4 := Nat.le_of_ble_eq_true d4
    have d5 := Nat.le_of_ble_eq_true d5
    have w3 := List.all_eq_true.mp h d d1
    rcases (Bool.or_eq_true _ _).mp w3 with w4 | w4
    · rcases (Bool.or_eq_true _ _).mp w4 with w5 | w5
      · rw [d3] at w5; cases w5
      · have := iv_ok hB w5
        rw [ev_fak] at this
        have e1 : Int.ofNat d.2.2 = (d.2.2 : Int) := rfl
        rw [e1] at this
        omega
    · have := iv_ok hB w4
      rw [ev_fak, ev_neg] at this
      have e1 : Int.ofNat d.2.1 = (d.2.1 : Int) := rfl
      rw [e1] at this
      omega
theorem mwx_ok {ρ : Nat → Int} {A : aA} {M : pM} (hm : okM ρ A.2.2.1 M) (hB : okB ρ A.2.2.2.1) {c : Nat} {ix : lf} {x : Int} (h0 : 0 ≤ ev ρ ix) : okM ρ (mwx A c ix) (st M c (ev ρ ix).toNat x) := by
  intro e he
  obtain ⟨h1, h2⟩ := List.mem_filter.mp he
  have h3 := hm e h1
  unfold kpW at h2
  by_cases h5 : 5000 ≤ e.1
  · rw [ok1_hi h5] at h3 ⊢
    rw [Nat.ble_eq_true_of_le h5] at h2
    generalize e.1 - 5000 = pp at h2 h3 ⊢
    refine hp_dep (fun c' k' hk => ?_) h3
    cases hd : hdp pp with
    | none => rw [hd] at h2; cases h2
    | some dm =>
      rw [hd] at h2 hk
      unfold st
      rw [if_neg]
      intro q
      have hk : inM dm c' k' = true := hk
      rw [q.1, q.2, ouW_ok hB h2 h0] at hk
      cases hk
  · rw [ok1_lo (by omega)] at h3 ⊢
    rw [show Nat.ble 5000 e.1 = false from by cases hz : Nat.ble 5000 e.1 with | false => rfl | true => exact absurd (Nat.le_of_ble_eq_true hz) h5] at h2
    refine ⟨h3.1, ?_⟩
    unfold st
    rw [if_neg, h3.2]
    intro q
    rcases (Bool.or_eq_true _ _).mp h2 with w | w
    · rw [q.1, Nat.beq_refl] at w
      cases w
    · have := dif_ok hB w
      have := h3.1
      omega
theorem mwr_ok {ρ : Nat → Int} {A : aA} {M : pM} (hm : okM ρ A.2.2.1 M) (hB : okB ρ A.2.2.2.1) {c : Nat} (hc5 : c < 5000) {ix v : lf} {x : Int} (h0 : 0 ≤ ev ρ ix) (hx : x = ev ρ v) : okM ρ (mwr A c ix v) (st M c (ev ρ ix).toNat x) := by
  intro e he
  rcases List.mem_cons.mp he with q | q
  · subst q
    show ok1 c (ev ρ ix) (ev ρ v) _
    rw [ok1_lo hc5]
    refine ⟨h0, ?_⟩
    unfold st
    rw [if_pos ⟨rfl, rfl⟩, hx]
  · exact mwx_ok hm hB h0 e q
theorem gB_bd {ρ : Nat → Int} {c : Nat} {ix : lf} {b b' : Int × Int} (h : gB c ix = some b) (h0 : 0 ≤ ev ρ ix) (hb : (gl c)[(ev ρ ix).toNat % (gl c).length]? = some b') : b' = b := by
  unfold gB at h
  obtain ⟨h1, h2⟩ := cond_t h
  have hd := evT_mod (ρ := ρ) h1
  have e : (ev ρ ix).toNat % (gl c).length = (ix.1 % Int.ofNat (gl c).length).toNat := by
    have e1 : ev ρ ix % Int.ofNat (gl c).length = ix.1 % Int.ofNat (gl c).length := by
      show (ix.1 + evT ρ ix.2) % _ = _
      obtain ⟨w, hw⟩ := hd
      rw [hw, Int.add_mul_emod_self_left]
    rw [← e1]
    obtain ⟨m, hm⟩ := Int.eq_ofNat_of_zero_le h0
    rw [hm]
    show (m : Int).toNat % (gl c).length = ((m : Int) % ((gl c).length : Int)).toNat
    rw [← Int.natCast_emod, Int.toNat_natCast, Int.toNat_natCast]
  rw [e] at hb
  rw [hb] at h2
  obtain ⟨h3, h4⟩ := cond_t h2
  exact Option.some.inj h4
theorem gB_no {c k : Nat} {b : Int × Int} (h : gB c (fk (k : Int)) = none) (hb : (gl c)[k % (gl c).length]? = some b) : ¬ b.1 ≤ b.2 := by
  have h : (match (gl c)[(((k : Nat) : Int) % Int.ofNat (gl c).length).toNat]? with
    | none => none
    | some b => cond (ige (b.2 - b.1)) (some b) none) = none := h
  have e : (((k : Nat) : Int) % Int.ofNat (gl c).length).toNat = k % (gl c).length := by
    show (((k : Nat) : Int) % (((gl c).length : Nat) : Int)).toNat = _
    rw [← Int.natCast_emod, Int.toNat_natCast]
  rw [e, hb] at h
  intro hl
  have : ige (b.2 - b.1) = true := ige_iff.mpr (by omega)
  have h : cond (ige (b.2 - b.1)) (some b) none = none := h
  rw [this] at h
  cases h
theorem alA_ok {ρ : Nat → Int} {A : aA} {M : pM} (hm : okM ρ A.2.2.1 M) {a t : Nat} {l : lf} (h : alA A a t = some l) : (a < 119 → alw 119 a t = ev ρ l ∧ ∃ q : Nat, SH a = .inr (t, q) ∧ ev ρ l = q) ∧ (t = 0 → aln M 119 a 0 = ev ρ l) := by
  unfold alA at h
  cases hl : Nat.blt a 119 with
  | true =>
    rw [hl] at h
    have hl : a < 119 := Nat.blt_eq ▸ hl
    have h : (match SH a with
      | .inr q => cond (Nat.beq q.1 t) (some (fk q.2)) none
      | .inl _ => none) = some l := h
    cases hs : SH a with
    | inl q => rw [hs] at h; cases h
    | inr q =>
      rw [hs] at h
      obtain ⟨h1, h2⟩ := cond_t h
      cases h2
      have e1 := beq_t h1
      have e2 : alw 119 a t = ev ρ (fk q.2) := by
        unfold alw
        rw [if_pos hl, hs, ev_fk]
        show (if q.1 = t then (q.2 : Int) else -1) = _
        rw [if_pos e1]
      refine ⟨fun _ => ⟨e2, q.2, by rw [← e1], by rw [ev_fk]⟩, fun ht => ?_⟩
      unfold aln
      rw [if_neg (by omega), if_neg (by omega), ← ht]
      exact e2
  | false =>
    have hn : ¬ a < 119 := fun q => by rw [show Nat.blt a 119 = true from Nat.blt_eq ▸ q] at hl; cases hl
    rw [hl] at h
    refine ⟨fun q => absurd q hn, fun ht => ?_⟩
    have h : cond ((Nat.beq a 1000 || Nat.beq a 1001) && Nat.beq t 0) (some (fk 8)) (cond (Nat.beq a 1002 && Nat.beq t 0) (mget A.2.2.1 1003 (fk 0)) none) = some l := h
    cases h1 : (Nat.beq a 1000 || Nat.beq a 1001) && Nat.beq t 0 with
    | true =>
      rw [h1] at h
      cases h
      obtain ⟨h2, -⟩ := and_t h1
      have h3 : a = 1000 ∨ a = 1001 := by
        rcases (Bool.or_eq_true _ _).mp h2 with q | q
        · exact Or.inl (beq_t q)
        · exact Or.inr (beq_t q)
      unfold aln
      rw [if_neg (by omega), if_pos ⟨h3, rfl⟩, ev_fk]
    | false =>
      rw [h1] at h
      obtain ⟨h2, h3⟩ := cond_t h
      obtain ⟨h4, -⟩ := and_t h2
      have e := mget_ok (by decide) hm h3
      rw [ev_fk] at e
      unfold aln
      rw [if_pos ⟨beq_t h4, rfl⟩]
      exact e.2
theorem ixA_ok {ρ : Nat → Int} {A : aA} (hB : okB ρ A.2.2.2.1) (hF : okF ρ A.2.2.2.2) {f : lf} {o : Option lf} (h : ixA A f o = true) : ∃ l, o = some l ∧ 0 ≤ ev ρ f ∧ ev ρ f < ev ρ l := by
  unfold ixA at h
  cases o with
  | none => cases h
  | some l =>
    obtain ⟨h1, h2⟩ := and_t h
    have k1 := en_ok hB hF h1
    have k2 := en_ok hB hF h2
    rw [ev_fak, ev_fsb] at k2
    exact ⟨l, rfl, k1, by omega⟩
