/-! ===== one step of the checker is sound ===== -/
theorem sm_pfx {ρ : Nat → Int} {v : av} {a : List av} {S : List pv} (h : sm ρ (v :: a) S) : ∃ x l, S = x :: l ∧ vm ρ v x ∧ sm ρ a l := by
  cases S with
  | nil => exact h.elim
  | cons x l => exact ⟨x, l, rfl, h.1, h.2⟩
theorem sm_I {ρ : Nat → Int} {f : lf} {a : List av} {S : List pv} (h : sm ρ (.inl f :: a) S) : ∃ l, S = vi (ev ρ f) :: l ∧ sm ρ a l := by
  obtain ⟨x, l, h1, h2, h3⟩ := sm_pfx h
  exact ⟨l, by rw [h1, show x = vi (ev ρ f) from h2], h3⟩
theorem vm_J {ρ : Nat → Int} {u : Option lf} {x : pv} (h : vm ρ (.inr (.inl u)) x) : ∃ z, x = vl z := by
  cases u with
  | none => exact h
  | some f => exact ⟨ev ρ f, h⟩
theorem sm_J {ρ : Nat → Int} {u : Option lf} {a : List av} {S : List pv} (h : sm ρ (.inr (.inl u) :: a) S) : ∃ z l, S = vl z :: l ∧ sm ρ a l := by
  obtain ⟨x, l, h1, h2, h3⟩ := sm_pfx h
  obtain ⟨z, h2⟩ := vm_J h2
  exact ⟨z, l, by rw [h1, h2], h3⟩
theorem sm_K {ρ : Nat → Int} {f : lf} {a : List av} {S : List pv} (h : sm ρ (.inr (.inl (some f)) :: a) S) : ∃ l, S = vl (ev ρ f) :: l ∧ sm ρ a l := by
  obtain ⟨x, l, h1, h2, h3⟩ := sm_pfx h
  exact ⟨l, by rw [h1, show x = vl (ev ρ f) from h2], h3⟩
theorem sm_R {ρ : Nat → Int} {k : Nat} {a : List av} {S : List pv} (h : sm ρ (.inr (.inr k) :: a) S) : ∃ l, S = vr k :: l ∧ sm ρ a l := by
  obtain ⟨x, l, h1, h2, h3⟩ := sm_pfx h
  exact ⟨l, by rw [h1, show x = vr k from h2], h3⟩
theorem cond_t {α : Type} {b : Bool} {x : Option α} {r : α} (h : cond b x none = some r) : b = true ∧ x = some r := by
  cases b with
  | true => exact ⟨rfl, h⟩
  | false => cases h
theorem beq_t {a b : Nat} (h : Nat.beq a b = true) : a = b := Nat.eq_of_beq_eq_true h
theorem and_t {a b : Bool} (h : (a && b) = true) : a = true ∧ b = true := (Bool.and_eq_true a b).mp h
theorem catA_vm {ρ : Nat → Int} {v : av} {x : pv} (h : vm ρ v x) : catv x = catA v := by
  cases v with
  | inl f => rw [show x = vi (ev ρ f) from h]; rfl
  | inr v => cases v with
    | inl u => obtain ⟨z, h⟩ := vm_J h; rw [h]; rfl
    | inr k => rw [show x = vr k from h]; rfl
theorem stkA_sm {ρ : Nat → Int} : ∀ {a : List av} {S : List pv}, sm ρ a S → stk S = stkA a
  | [], [], _ => rfl
  | [], _ :: _, q => q.elim
  | _ :: _, [], q => q.elim
  | v :: a, x :: l, q => by
    show (catv x :: l.map catv).sum = (catA v :: a.map catA).sum
    have := stkA_sm q.2
    unfold stk stkA at this
    rw [List.sum_cons, List.sum_cons, this, catA_vm q.1]
/-- the new state is right for a stack S', under a valuation that differs above n alone -/
def nxt (ρ : Nat → Int) (n : Nat) (r : Nat × aA) (L : pL) (S : List pv) (M : pM) : Prop := ∃ ρ', agr n ρ ρ' ∧ n ≤ r.1 ∧ gam ρ' r.2 L S M
theorem nxt_same {ρ : Nat → Int} {n : Nat} {A : aA} {L : pL} {S : List pv} {M : pM} (h : gam ρ A L S M) : nxt ρ n (n, A) L S M := ⟨ρ, fun _ _ => rfl, Nat.le_refl _, h⟩
theorem psh_ok {ρ : Nat → Int} {n : Nat} {A : aA} {L : pL} {S S0 : List pv} {M : pM} (g : gam ρ A L S M) {T : List av} (hT : sm ρ T S0) {v : av} {x : pv} (hv : vm ρ v x) : nxt ρ n (n, psA A (v :: T)) L (x :: S0) M := nxt_same ⟨g.1, ⟨hv, hT⟩, g.2.2.1, g.2.2.2.1, g.2.2.2.2⟩
theorem pop_ok {ρ : Nat → Int} {n : Nat} {A : aA} {L : pL} {S S0 : List pv} {M : pM} (g : gam ρ A L S M) {T : List av} (hT : sm ρ T S0) : nxt ρ n (n, psA A T) L S0 M := nxt_same ⟨g.1, hT, g.2.2.1, g.2.2.2.1, g.2.2.2.2⟩
theorem all_sub {α : Type} {p : α → Bool} {a b : List α} (h : ∀ v ∈ a, v ∈ b) (hb : b.all p = true) : a.all p = true := List.all_eq_true.mpr (fun v hv => List.all_eq_true.mp hb v (h v hv))
theorem pfr_ok {ρ : Nat → Int} {n : Nat} {A : aA} {L : pL} {S S0 : List pv} {M : pM} (g : gam ρ A L S M) {T : List av} (hT : sm ρ T S0) (hs : ∀ v ∈ T, v ∈ A.2.1) {b : Int × Int} {r : Nat × aA} (h : pfr n A T b = some r) {x : Int} (h1 : b.1 ≤ x) (h2 : x ≤ b.2) : nxt ρ n r L (vi x :: S0) M := by
  unfold pfr at h
  obtain ⟨hc, he⟩ := cond_t h
  cases he
  refine ⟨upq ρ n x, agr_upq, Nat.le_succ n, ?_⟩
  have g' := gam_agr (agr_upq (x := x)) hc g
  refine ⟨g'.1, ⟨?_, sm_agr agr_upq (all_sub hs (nc_and hc).2.1) hT⟩, g'.2.2.1, okB_cons g'.2.2.2.1 ?_ ?_, g'.2.2.2.2⟩
  · show vi x = vi (ev (upq ρ n x) (fs n))
    rw [ev_fs, upq_at]
  · rw [upq_at]; exact h1
  · rw [upq_at]; exact h2
theorem inG_ok {ρ : Nat → Int} {A : aA} (hB : okB ρ A.2.2.2.1) (hF : okF ρ A.2.2.2.2) {f : lf} {b : Int × Int} (h : inG A f b = true) : b.1 ≤ ev ρ f ∧ ev ρ f ≤ b.2 := by
  unfold inG at h
  obtain ⟨h1, h2⟩ := and_t h
  have k1 := en_ok hB hF h1
  have k2 := en_ok hB hF h2
  rw [ev_fak] at k1 k2
  rw [ev_neg] at k2
  exact ⟨by omega, by omega⟩
theorem pw_ok {ρ : Nat → Int} {n : Nat} {A : aA} {L : pL} {S S0 : List pv} {M : pM} (g : gam ρ A L S M) {T : List av} (hT : sm ρ T S0) (hs : ∀ v ∈ T, v ∈ A.2.1) {f : lf} {r : Nat × aA} (h : pw n A T f = some r) : nxt ρ n r L (vi (w32 (ev ρ f)) :: S0) M := by
  unfold pw at h
  cases hc : en A (fak f 2147483648) && en A (fak (fsc (-1) f) 2147483647) with
  | true =>
    rw [hc] at h
    cases h
    obtain ⟨h1, h2⟩ := and_t hc
    have k1 := en_ok g.2.2.2.1 g.2.2.2.2 h1
    have k2 := en_ok g.2.2.2.1 g.2.2.2.2 h2
    rw [ev_fak] at k1 k2
    rw [ev_neg] at k2
    rw [w32_id ⟨by omega, by omega⟩]
    exact psh_ok g hT rfl
  | false =>
    rw [hc] at h
    have k := w32_r (ev ρ f)
    exact pfr_ok g hT hs h k.1 k.2
theorem mget_e {c : Nat} {ix v : lf} : ∀ {m : mf}, mget m c ix = some v → (c, ix, v) ∈ m
  | [], h => by cases h
  | e :: r, h => by
    unfold mget at h
    cases hc : Nat.beq e.1 c && feq e.2.1 ix with
    | true =>
      rw [hc] at h
      cases h
      obtain ⟨h1, h2⟩ := and_t hc
      rw [← beq_t h1, ← feq_ok h2]
      exact List.mem_cons_self
    | false =>
      rw [hc] at h
      exact List.mem_cons_of_mem _ (mget_e h)
theorem mget_ok {ρ : Nat → Int} {M : pM} {c : Nat} (hc : c < 5000) {ix v : lf} {m : mf} (hm : okM ρ m M) (h : mget m c ix = some v) : 0 ≤ ev ρ ix ∧ M c (ev ρ ix).toNat = ev ρ v := by
  have := hm _ (mget_e h)
  rw [ok1_lo hc] at this
  exact this
theorem evT_mod {ρ : Nat → Int} {d : Int} : ∀ {l : List (Nat × Int)}, l.all (fun t => ieq (t.2 % d) 0) = true → d ∣ evT ρ l
  | [], _ => Int.dvd_zero d
  | t :: r, h => by
    rw [List.all_cons] at h
    obtain ⟨h1, h2⟩ := and_t h
    exact Int.dvd_add (Int.dvd_mul_of_dvd_left (Int.dvd_of_emod_eq_zero (ieq_iff.mp h1))) (evT_mod h2)
theorem gB_ok {M : pM} (hG : gI M) {ρ : Nat → Int} {c : Nat} {ix : lf} {b : Int × Int} (h : gB c ix = some b) (h0 : 0 ≤ ev ρ ix) (hk : c < 119 → (ev ρ ix).toNat < szS (SH c)) : b.1 ≤ b.2 ∧ b.1 ≤ M c (ev ρ ix).toNat ∧ M c (ev ρ ix).toNat ≤ b.2 ∧ (gl c)[(ev ρ ix).toNat % (gl c).length]? = some b := by
  unfold gB at h
  obtain ⟨h1, h2⟩ := cond_t h
  cases hl : (gl c)[(ix.1 % Int.ofNat (gl c).length).toNat]? with
  | none => rw [hl] at h2; cases h2
  | some q =>
    rw [hl] at h2
    obtain ⟨h3, h4⟩ := cond_t h2
    cases h4
    have h5 := ige_iff.mp h3
    have hd := evT_mod (ρ := ρ) h1
    have e : (ev ρ ix).toNat % (gl c).length = (ix.1 % Int.ofNat (gl c).length).toNat := by
      have e1 : ev ρ ix % Int.ofNat (gl c).length = ix.1 % Int.ofNat (gl c).length := by
        show (ix.1 + evT ρ ix.2) % _ = _
        obtain ⟨w, hw⟩ := hd
        rw [hw, Int.add_mul_emod_self_left]
      rw [← e1]
      obtain ⟨m, hm⟩ := Int.eq_ofNat_of_zero_le h0
      rw [hm]
      show (m : Int).toNat % (gl c).length = ((m : Int) % ((gl c).length : Int)).toNat
      rw [← Int.natCast_emod, Int.toNat_natCast, Int.toNat_natCast]
    rw [← e] at hl
    have := hG.1 c (ev ρ ix).toNat b hk hl (by omega)
    exact ⟨by omega, this.1, this.2, hl⟩
theorem rd_ok {M : pM} (hG : gI M) {ρ : Nat → Int} {n : Nat} {A : aA} {L : pL} {S S0 : List pv} (g : gam ρ A L S M) {T : List av} (hT : sm ρ T S0) (hs : ∀ v ∈ T, v ∈ A.2.1) {c : Nat} (hc5 : c < 5000) {ix : lf} {r : Nat × aA} (h : rd n A T c ix = some r) (h0 : 0 ≤ ev ρ ix) (hk : c < 119 → (ev ρ ix).toNat < szS (SH c)) (hi : nc n A = true → ncF n ix = true) : nxt ρ n r L (vi (M c (ev ρ ix).toNat) :: S0) M := by
  unfold rd at h
  cases hm : mget A.2.2.1 c ix with
  | some v =>
    rw [hm] at h
    cases h
    rw [(mget_ok hc5 g.2.2.1 hm).2]
    exact psh_ok g hT rfl
  | none =>
    rw [hm] at h
    cases hb : gB c ix with
    | none => rw [hb] at h; cases h
    | some b =>
      rw [hb] at h
      obtain ⟨hc, he⟩ := cond_t h
      cases he
      have hq := gB_ok hG hb h0 hk
      refine ⟨upq ρ n (M c (ev ρ ix).toNat), agr_upq, Nat.le_succ n, ?_⟩
      have g' := gam_agr (agr_upq (x := M c (ev ρ ix).toNat)) hc g
      refine ⟨g'.1, ⟨?_, sm_agr agr_upq (all_sub hs (nc_and hc).2.1) hT⟩, ?_, okB_cons g'.2.2.2.1 ?_ ?_, g'.2.2.2.2⟩
      · show vi _ = vi (ev _ (fs n))
        rw [ev_fs, upq_at]
      · intro e he
        rcases List.mem_cons.mp he with q | q
        · subst q
          show ok1 c (ev _ ix) (ev _ (fs n)) M
          rw [ok1_lo hc5, ev_agr agr_upq (hi hc), ev_fs, upq_at]
          exact ⟨h0, rfl⟩
        · exact g'.2.2.1 e q
      · rw [upq_at]; exact hq.2.1
      · rw [upq_at]; exact hq.2.2.1
