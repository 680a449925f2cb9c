theorem alA_lt {A : aA} {a t : Nat} {l : lf} (h : alA A a t = some l) : a < 5000 := by
  unfold alA at h
  cases hl : Nat.blt a 119 with
  | true => have : a < 119 := Nat.blt_eq ▸ hl; omega
  | false =>
    rw [hl] at h
    have h : cond ((Nat.beq a 1000 || Nat.beq a 1001) && Nat.beq t 0) (some (fk 8)) (cond (Nat.beq a 1002 && Nat.beq t 0) (mget A.2.2.1 1003 (fk 0)) none) = some l := h
    cases h1 : (Nat.beq a 1000 || Nat.beq a 1001) && Nat.beq t 0 with
    | true =>
      obtain ⟨h2, -⟩ := and_t h1
      rcases (Bool.or_eq_true _ _).mp h2 with q | q
      · rw [beq_t q]; decide
      · rw [beq_t q]; decide
    | false =>
      rw [h1] at h
      obtain ⟨h2, h3⟩ := cond_t h
      obtain ⟨h4, -⟩ := and_t h2
      rw [beq_t h4]; decide
theorem nc_S {n : Nat} {A : aA} (h : nc n A = true) {f : lf} (hf : aI f ∈ A.2.1) : ncF n f = true := List.all_eq_true.mp (nc_and h).2.1 _ hf
theorem sh_sz {a t len : Nat} (h : SH a = .inr (t, len)) : szS (SH a) = len := by rw [h]; rfl
theorem sh_o {a c : Nat} (h : SH a = .inl c) : szS (SH a) = cN c := by rw [h]; rfl
theorem toN_lt {x : Int} {m : Nat} (h0 : 0 ≤ x) (h : x < m) : x.toNat < m := by omega
theorem toN_k {ρ : Nat → Int} {k : Nat} : (ev ρ (fk (k : Int))).toNat = k := by rw [ev_fk]; exact Int.toNat_natCast k
theorem ev_k0 {ρ : Nat → Int} {k : Nat} : 0 ≤ ev ρ (fk (k : Int)) := by rw [ev_fk]; omega
theorem mem2 {α : Type} {a b : α} {l m : List α} (h : l = a :: b :: m) {v : α} (hv : v ∈ m) : v ∈ l := by rw [h]; exact List.mem_cons_of_mem _ (List.mem_cons_of_mem _ hv)
theorem mem1 {α : Type} {a : α} {l m : List α} (h : l = a :: m) {v : α} (hv : v ∈ m) : v ∈ l := by rw [h]; exact List.mem_cons_of_mem _ hv
theorem rfno_int {a k c : Nat} (hs : SH a = .inl c) (ht : fty (tyA c k) ≠ 3) {e : Nat × Nat × List Nat} (he : e ∈ rfT) (h1 : e.1 = a) (h2 : e.2.1 = k) : False := by
  obtain ⟨c', q1, q2, -⟩ := rf_at he
  rw [h1, hs] at q1
  cases q1
  rw [h2] at q2
  exact ht q2
theorem rfno_arr {a : Nat} {q : Nat × Nat} (hs : SH a = .inr q) {e : Nat × Nat × List Nat} (he : e ∈ rfT) (h1 : e.1 = a) : False := by
  obtain ⟨c', q1, -, -⟩ := rf_at he
  rw [h1, hs] at q1
  cases q1
theorem rf_one {M : pM} (hG : gI M) {a k : Nat} (h : rf a k ≠ []) : ∃ x ∈ rf a k, M a k = ((x : Nat) : Int) := by
  obtain ⟨e, h1, h2, h3, h4⟩ := rfG_ok h
  obtain ⟨x, h5, h6⟩ := hG.2 e h1
  rw [h4] at h5
  rw [h2, h3] at h6
  exact ⟨x, h5, h6⟩
theorem rf_mem {a k x : Nat} (h : (rf a k).contains x = true) {e : Nat × Nat × List Nat} (he : e ∈ rfT) (h1 : e.1 = a) (h2 : e.2.1 = k) : ∃ y ∈ e.2.2, ((x : Nat) : Int) = ((y : Nat) : Int) := by
  have hx : x ∈ rf a k := List.contains_iff_mem.mp h
  have hne : rf a k ≠ [] := fun q => by rw [q] at hx; cases hx
  obtain ⟨e', q1, q2, q3, q4⟩ := rfG_ok hne
  have : e' = e := uq_of (key := fun e : Nat × Nat × List Nat => (e.1, e.2.1)) rfU_ok e' q1 e he (by show (e'.1, e'.2.1) = (e.1, e.2.1); rw [q2, q3, h1, h2])
  refine ⟨x, ?_, rfl⟩
  rw [← this, q4]
  exact hx
def rfB : Bool := rfT.all (fun e => match (gl e.1)[e.2.1 % (gl e.1).length]? with
    | none => true
    | some b => ige (b.1 - b.2 - 1))
theorem rfB_t : rfB = true := by decide +kernel
theorem rfB_ok {e : Nat × Nat × List Nat} (he : e ∈ rfT) {b : Int × Int} (hb : (gl e.1)[e.2.1 % (gl e.1).length]? = some b) : ¬ b.1 ≤ b.2 := by
  have := List.all_eq_true.mp rfB_t e he
  rw [hb] at this
  have := ige_iff.mp this
  omega
set_option maxHeartbeats 4000000 in
theorem mx1_ok {O : pO} {j : Nat} {Q : pQ} {P : pP} {pc : Nat} {ρ : Nat → Int} {n : Nat} {A : aA} {L : pL} {S : List pv} {M M0 : pM} {md : mdL} {i : Instr} {len : Nat} {r : Nat × aA} (g : gam ρ A L S M) (hG : gI M) (hf : fr md M0 M) (h : mx1 md j i len n A = some r) (k : ∀ ρ' S' M', agr n ρ ρ' → n ≤ r.1 → gam ρ' r.2 L S' M' → gI M' → fr md M0 M' → P (pc + len) L S' 119 M') : sx O j (nz j) Q P pc L S 119 M i len := by
  have k1 : ∀ S', nxt ρ n r L S' M → P (pc + len) L S' 119 M := fun S' ⟨ρ', h1, h2, h3⟩ => k ρ' S' M h1 h2 h3 hG hf
  cases i
  case getfield ix =>
    simp only [mx1] at h
    split at h
    · next a T hk =>
      have hs := g.2.1
      rw [hk] at hs
      obtain ⟨S0, e1, e2⟩ := sm_R hs
      subst e1
      cases hq : fdf fldL (mO j) ix with
      | none => rw [hq] at h; cases h
      | some q =>
        rw [hq] at h
        obtain ⟨hc, he⟩ := cond_t h
        obtain ⟨h1, h2⟩ := and_t hc
        have h1 := beq_t h1
        subst h1
        obtain ⟨o1, o2, o3⟩ := obA_ok h2
        obtain ⟨f1, f2, f3⟩ := fdf_ok hq
        have hsl : q.2.2.2.1 < szS (SH a) := by rw [sh_o o2]; exact (fld_rg q f1).1
        refine ⟨rfl, q, f1, f2, f3, a, S0, rfl, o3, ?_⟩
        have hrd : ∀ {r}, rd n A T a (fk (q.2.2.2.1 : Int)) = some r → nxt ρ n r L (vi (M a q.2.2.2.1) :: S0) M := by
          intro r hr
          have := rd_ok hG g e2 (fun v hv => mem1 hk hv) (by omega) hr ev_k0 (fun _ => by rw [toN_k]; exact hsl) (fun _ => rfl)
          rw [toN_k] at this
          exact this
        split at he
        · next ht => rw [fty_0 ht]; exact k1 _ (hrd he)
        · next ht => rw [fty_1 ht]; exact k1 _ (hrd he)
        · next ht =>
          rw [fty_2 ht]
          cases he
          exact k1 _ (psh_ok g e2 ⟨_, rfl⟩)
        · next ht =>
          rw [(fty_3 ht (M a q.2.2.2.1)).1]
          split at he
          · next v hv =>
            obtain ⟨hc2, he2⟩ := cond_t he
            obtain ⟨hc3, hc4⟩ := and_t hc2
            cases he2
            have := (mget_ok (by omega) g.2.2.1 hv).2
            rw [toN_k, isK_ok hc3 ρ] at this
            rw [this]
            exact k1 _ (psh_ok g e2 rfl)
          · split at he
            · next x hx =>
              cases he
              obtain ⟨y, y1, y2⟩ := rf_one hG (a := a) (k := q.2.2.2.1) (by rw [hx]; simp)
              rw [hx] at y1
              have : y = x := by simpa using y1
              rw [y2, this, Int.toNat_natCast]
              exact k1 _ (psh_ok g e2 rfl)
            · cases he
        · cases he
    · cases h
  case putfield ix =>
    simp only [mx1] at h
    split at h
    · next v a T hk =>
      have hs := g.2.1
      rw [hk] at hs
      obtain ⟨y, S1, e1, ey, e0⟩ := sm_pfx hs
      obtain ⟨S0, e3, e2⟩ := sm_R e0
      subst e1; subst e3
      cases hq : fdf fldL (mO j) ix with
      | none => rw [hq] at h; cases h
      | some q =>
        rw [hq] at h
        obtain ⟨hc, he⟩ := cond_t h
        obtain ⟨hc, h4⟩ := and_t hc
        obtain ⟨hc, h3⟩ := and_t hc
        obtain ⟨h1, h2⟩ := and_t hc
        have h1 := beq_t h1
        subst h1
        obtain ⟨o1, o2, o3⟩ := obA_ok h2
        obtain ⟨f1, f2, f3⟩ := fdf_ok hq
        have hnf : (cT q.2.2.1 q.2.2.2.1).2.2.2 = false := by simpa using h3
        have hint : ∀ f b, y = vi (ev ρ f) → fty (tyA q.2.2.1 q.2.2.2.1) ≠ 3 → gB a (fk (q.2.2.2.1 : Int)) = some b → inG A f b = true → ∀ r, r = (n, ((A.1, T, mwr A a (fk (q.2.2.2.1 : Int)) f, A.2.2.2) : aA)) → (∀ ρ' S' M', agr n ρ ρ' → n ≤ r.1 → gam ρ' r.2 L S' M' → gI M' → fr md M0 M' → P (pc + 3) L S' 119 M') → P (pc + 3) L S0 119 (st M a q.2.2.2.1 (ev ρ f)) := by
          intro f b _ ht hb hg r hr kk
          subst hr
          have hin := inG_ok g.2.2.2.1 g.2.2.2.2 hg
          refine kk ρ S0 _ (fun _ _ => rfl) (Nat.le_refl _) ⟨g.1, e2, ?_, g.2.2.2.1, g.2.2.2.2⟩ (gI_st hG (fun b' hb' _ => ?_) (fun e he h1 h2 => (rfno_int o2 ht he h1 h2).elim)) (fr_st hf h4)
          · have := mwr_ok (c := a) (ix := fk (q.2.2.2.1 : Int)) (v := f) (x := ev ρ f) g.2.2.1 g.2.2.2.1 (by omega) ev_k0 rfl
            rw [toN_k] at this
            exact this
          · have : b' = b := gB_bd (ρ := ρ) hb ev_k0 (by rw [toN_k]; exact hb')
            rw [this]
            exact hin
        refine ⟨rfl, q, f1, f2, f3, Or.inl hnf, ?_⟩
        split at he
        · next f ht =>
          have ey : y = vi (ev ρ f) := ey
          split at he
          · next b hb =>
            obtain ⟨hg, he2⟩ := cond_t he
            cases he2
            exact ⟨a, y, ev ρ f, S0, rfl, o3, by rw [fty_0 ht]; exact ey, hint f b ey (by rw [ht]; decide) hb hg _ rfl k⟩
          · cases he
        · next f ht =>
          have ey : y = vi (ev ρ f) := ey
          split at he
          · next b hb =>
            obtain ⟨hg, he2⟩ := cond_t he
            obtain ⟨hg, hg2⟩ := and_t hg
            cases he2
            have h01 : 0 ≤ ev ρ f ∧ ev ρ f ≤ 1 := inG_ok g.2.2.2.1 g.2.2.2.2 hg2
            exact ⟨a, y, ev ρ f, S0, rfl, o3, by rw [fty_1 ht]; exact ⟨ey, by omega⟩, hint f b ey (by rw [ht]; decide) hb hg _ rfl k⟩
          · cases he
        · next u ht =>
          obtain ⟨z, ey⟩ := vm_J ey
          split at he
          · next hb =>
            cases he
            refine ⟨a, y, z, S0, rfl, o3, by rw [fty_2 ht]; exact ey, ?_⟩
            refine k ρ S0 _ (fun _ _ => rfl) (Nat.le_refl _) ⟨g.1, e2, ?_, g.2.2.2.1, g.2.2.2.2⟩ (gI_st hG (fun b' hb' hl => absurd hl (gB_no hb hb')) (fun e he h1 h2 => (rfno_int o2 (by rw [ht]; decide) he h1 h2).elim)) (fr_st hf h4)
            have := mwx_ok (c := a) (ix := fk (q.2.2.2.1 : Int)) (x := z) g.2.2.1 g.2.2.2.1 ev_k0
            rw [toN_k] at this
            exact this
          · cases he
        · next x ht =>
          have ey : y = vr x := ey
          obtain ⟨hc2, he2⟩ := cond_t he
          cases he2
          refine ⟨a, y, (x : Int), S0, rfl, o3, by rw [ey]; exact (fty_3 ht 0).2 x, ?_⟩
          refine k ρ S0 _ (fun _ _ => rfl) (Nat.le_refl _) ⟨g.1, e2, ?_, g.2.2.2.1, g.2.2.2.2⟩ (gI_st hG (fun b' hb' hl => ?_) (fun e he h1 h2 => rf_mem hc2 he h1 h2)) (fr_st hf h4)
          · have := mwr_ok (c := a) (ix := fk (q.2.2.2.1 : Int)) (v := fk (x : Int)) (x := (x : Int)) g.2.2.1 g.2.2.2.1 (by omega) ev_k0 (by rw [ev_fk])
            rw [toN_k] at this
            exact this
          · have hne : rf a q.2.2.2.1 ≠ [] := fun z => by rw [z] at hc2; simp at hc2
            obtain ⟨e', p1, p2, p3, -⟩ := rfG_ok hne
            exact absurd hl (rfB_ok p1 (by rw [p2, p3]; exact hb'))
        · cases he
    · cases h
  case getstatic ix =>
    simp only [mx1] at h
    split at h
    · cases h
    · next q hq =>
      obtain ⟨hc, he⟩ := cond_t h
      cases he
      have h1 := beq_t hc
      subst h1
      have m1 := List.mem_of_find?_eq_some hq
      have m0 := List.find?_some hq
      obtain ⟨m2, m3⟩ := and_t m0
      exact ⟨rfl, q, m1, beq_t m2, beq_t m3, k1 _ (psh_ok g g.2.1 rfl)⟩
  case iaload =>
    simp only [mx1] at h
    split at h
    · next f a T hk =>
      obtain ⟨hc, he⟩ := cond_t h
      obtain ⟨h1, h2⟩ := and_t hc
      have h1 := beq_t h1
      subst h1
      have hs := g.2.1
      rw [hk] at hs
      obtain ⟨S1, e1, e0⟩ := sm_I hs
      obtain ⟨S0, e3, e2⟩ := sm_R e0
      subst e1; subst e3
      obtain ⟨l, l1, l2, l3⟩ := ixA_ok g.2.2.2.1 g.2.2.2.2 h2
      have al := alA_ok g.2.2.1 l1
      refine ⟨rfl, _, a, S0, rfl, l2, by rw [al.2 rfl]; exact l3, k1 _ (rd_ok hG g e2 (fun v hv => mem2 hk hv) (alA_lt l1) he l2 (fun ha => ?_) (fun q => nc_S q (by rw [hk]; exact List.mem_cons_self)))⟩
      obtain ⟨-, m, q1, q2⟩ := al.1 ha
      rw [sh_sz q1]
      exact toN_lt l2 (by omega)
    · cases h
  case laload =>
    simp only [mx1] at h
    split at h
    · next f a T hk =>
      obtain ⟨hc, he⟩ := cond_t h
      obtain ⟨hc, h2⟩ := and_t hc
      obtain ⟨h1, h3⟩ := and_t hc
      have h1 := beq_t h1
      subst h1
      have ha : a < 119 := Nat.blt_eq ▸ h3
      have hs := g.2.1
      rw [hk] at hs
      obtain ⟨S1, e1, e0⟩ := sm_I hs
      obtain ⟨S0, e3, e2⟩ := sm_R e0
      subst e1; subst e3
      obtain ⟨l, l1, l2, l3⟩ := ixA_ok g.2.2.2.1 g.2.2.2.2 h2
      have al := (alA_ok g.2.2.1 l1).1 ha
      cases he
      exact ⟨rfl, _, a, S0, rfl, l2, by rw [al.1]; exact l3, k1 _ (psh_ok g e2 ⟨_, rfl⟩)⟩
    · cases h
  case baload =>
    simp only [mx1] at h
    split at h
    · next f a T hk =>
      obtain ⟨hc, he⟩ := cond_t h
      obtain ⟨hc, h2⟩ := and_t hc
      obtain ⟨h1, h3⟩ := and_t hc
      have h1 := beq_t h1
      subst h1
      have ha : a < 119 := Nat.blt_eq ▸ h3
      have hs := g.2.1
      rw [hk] at hs
      obtain ⟨S1, e1, e0⟩ := sm_I hs
      obtain ⟨S0, e3, e2⟩ := sm_R e0
      subst e1; subst e3
      rcases (Bool.or_eq_true _ _).mp h2 with w | w
      · obtain ⟨l, l1, l2, l3⟩ := ixA_ok g.2.2.2.1 g.2.2.2.2 w
        obtain ⟨al, m, q1, q2⟩ := (alA_ok g.2.2.1 l1).1 ha
        exact ⟨rfl, _, a, S0, rfl, l2, Or.inl (by rw [al]; exact l3), k1 _ (rd_ok hG g e2 (fun v hv => mem2 hk hv) (by omega) he l2 (fun _ => by rw [sh_sz q1]; exact toN_lt l2 (by omega)) (fun q => nc_S q (by rw [hk]; exact List.mem_cons_self)))⟩
      · obtain ⟨l, l1, l2, l3⟩ := ixA_ok g.2.2.2.1 g.2.2.2.2 w
        obtain ⟨al, m, q1, q2⟩ := (alA_ok g.2.2.1 l1).1 ha
        exact ⟨rfl, _, a, S0, rfl, l2, Or.inr (by rw [al]; exact l3), k1 _ (rd_ok hG g e2 (fun v hv => mem2 hk hv) (by omega) he l2 (fun _ => by rw [sh_sz q1]; exact toN_lt l2 (by omega)) (fun q => nc_S q (by rw [hk]; exact List.mem_cons_self)))⟩
    · cases h
  case iastore =>
    simp only [mx1] at h
    split at h
    · next v f a T hk =>
      obtain ⟨hc, he⟩ := cond_t h
      obtain ⟨hc, h4⟩ := and_t hc
      obtain ⟨hc, h2⟩ := and_t hc
      obtain ⟨h1, h3⟩ := and_t hc
      have h1 := beq_t h1
      subst h1
      have ha : a < 119 := Nat.blt_eq ▸ h3
      have hs := g.2.1
      rw [hk] at hs
      obtain ⟨S2, e5, e4⟩ := sm_I hs
      obtain ⟨S1, e1, e0⟩ := sm_I e4
      obtain ⟨S0, e3, e2⟩ := sm_R e0
      subst e5; subst e1; subst e3
      obtain ⟨l, l1, l2, l3⟩ := ixA_ok g.2.2.2.1 g.2.2.2.2 h2
      obtain ⟨al, m, q1, q2⟩ := (alA_ok g.2.2.1 l1).1 ha
      split at he
      · next b hb =>
        obtain ⟨hg, he2⟩ := cond_t he
        cases he2
        have hin := inG_ok g.2.2.2.1 g.2.2.2.2 hg
        refine ⟨rfl, _, _, a, S0, rfl, l2, by rw [al]; exact l3, ?_⟩
        exact k ρ S0 _ (fun _ _ => rfl) (Nat.le_refl _) ⟨g.1, e2, mwr_ok g.2.2.1 g.2.2.2.1 (by omega) l2 rfl, g.2.2.2.1, g.2.2.2.2⟩ (gI_st hG (fun b' hb' _ => by rw [gB_bd (ρ := ρ) hb l2 hb']; exact hin) (fun e he h1 _ => (rfno_arr q1 he h1).elim)) (fr_st hf (inA_M g.2.2.2.1 g.2.2.2.2 h4))
      · cases he
    · cases h
  case lastore =>
    simp only [mx1] at h
    split at h
    · next u f a T hk =>
      obtain ⟨hc, he⟩ := cond_t h
      obtain ⟨hc, h4⟩ := and_t hc
      obtain ⟨hc, h2⟩ := and_t hc
      obtain ⟨h1, h3⟩ := and_t hc
      have h1 := beq_t h1
      subst h1
      have ha : a < 119 := Nat.blt_eq ▸ h3
      have hs := g.2.1
      rw [hk] at hs
      obtain ⟨z, S2, e5, e4⟩ := sm_J hs
      obtain ⟨S1, e1, e0⟩ := sm_I e4
      obtain ⟨S0, e3, e2⟩ := sm_R e0
      subst e5; subst e1; subst e3
      obtain ⟨l, l1, l2, l3⟩ := ixA_ok g.2.2.2.1 g.2.2.2.2 h2
      obtain ⟨al, m, q1, q2⟩ := (alA_ok g.2.2.1 l1).1 ha
      split at he
      · next b hb =>
        obtain ⟨hg, he2⟩ := cond_t he
        cases he2
        have hg := ige_iff.mp hg
        refine ⟨rfl, z, _, a, S0, rfl, l2, by rw [al]; exact l3, ?_⟩
        refine k ρ S0 _ (fun _ _ => rfl) (Nat.le_refl _) ⟨g.1, e2, mwx_ok g.2.2.1 g.2.2.2.1 l2, g.2.2.2.1, g.2.2.2.2⟩ (gI_st hG (fun b' hb' hl => ?_) (fun e he h1 _ => (rfno_arr q1 he h1).elim)) (fr_st hf (inA_M g.2.2.2.1 g.2.2.2.2 h4))
        rw [hb] at hb'
        have e9 : b' = b := by
          rw [show ([b] : List (Int × Int)).length = 1 from rfl, Nat.mod_one] at hb'
          simpa using hb'.symm
        rw [e9] at hl
        omega
      · cases he
    · cases h
  case bastore =>
    simp only [mx1] at h
    split at h
    · next v f a T hk =>
      obtain ⟨hc, he⟩ := cond_t h
      obtain ⟨hc, h4⟩ := and_t hc
      obtain ⟨h1, h3⟩ := and_t hc
      have h1 := beq_t h1
      subst h1
      have ha : a < 119 := Nat.blt_eq ▸ h3
      have hs := g.2.1
      rw [hk] at hs
      obtain ⟨S2, e5, e4⟩ := sm_I hs
      obtain ⟨S1, e1, e0⟩ := sm_I e4
      obtain ⟨S0, e3, e2⟩ := sm_R e0
      subst e5; subst e1; subst e3
      split at he
      · next b hb =>
        cases h2 : ixA A f (alA A a 2) with
        | true =>
          rw [h2] at he
          obtain ⟨l, l1, l2, l3⟩ := ixA_ok g.2.2.2.1 g.2.2.2.2 h2
          obtain ⟨al, m, q1, q2⟩ := (alA_ok g.2.2.1 l1).1 ha
          obtain ⟨hg, he2⟩ := cond_t he
          cases he2
          obtain ⟨hg1, hg2⟩ := and_t hg
          have hg1 := ige_iff.mp hg1
          have hg2 := ige_iff.mp hg2
          have k8 := w8_b (ev ρ v)
          refine ⟨rfl, _, _, a, S0, rfl, l2, Or.inl ⟨by rw [al]; exact l3, ?_⟩⟩
          exact k ρ S0 _ (fun _ _ => rfl) (Nat.le_refl _) ⟨g.1, e2, mwx_ok g.2.2.1 g.2.2.2.1 l2, g.2.2.2.1, g.2.2.2.2⟩ (gI_st hG (fun b' hb' _ => by rw [gB_bd (ρ := ρ) hb l2 hb']; exact ⟨by omega, by omega⟩) (fun e he h1 _ => (rfno_arr q1 he h1).elim)) (fr_st hf (inA_M g.2.2.2.1 g.2.2.2.2 h4))
        | false =>
          rw [h2] at he
          obtain ⟨hg, he2⟩ := cond_t he
          cases he2
          obtain ⟨hg, hg3⟩ := and_t hg
          obtain ⟨hg1, hg2⟩ := and_t hg
          obtain ⟨l, l1, l2, l3⟩ := ixA_ok g.2.2.2.1 g.2.2.2.2 hg1
          obtain ⟨al, m, q1, q2⟩ := (alA_ok g.2.2.1 l1).1 ha
          have hin := inG_ok g.2.2.2.1 g.2.2.2.2 hg2
          have h01 : 0 ≤ ev ρ v ∧ ev ρ v ≤ 1 := inG_ok g.2.2.2.1 g.2.2.2.2 hg3
          refine ⟨rfl, _, _, a, S0, rfl, l2, Or.inr ⟨by rw [al]; exact l3, by omega, ?_⟩⟩
          exact k ρ S0 _ (fun _ _ => rfl) (Nat.le_refl _) ⟨g.1, e2, mwr_ok g.2.2.1 g.2.2.2.1 (by omega) l2 rfl, g.2.2.2.1, g.2.2.2.2⟩ (gI_st hG (fun b' hb' _ => by rw [gB_bd (ρ := ρ) hb l2 hb']; exact hin) (fun e he h1 _ => (rfno_arr q1 he h1).elim)) (fr_st hf (inA_M g.2.2.2.1 g.2.2.2.2 h4))
      · cases he
    · cases h
  case arraylength =>
    simp only [mx1] at h
    split at h
    · next a T hk =>
      obtain ⟨hc, he⟩ := cond_t h
      have h1 := beq_t hc
      subst h1
      have hs := g.2.1
      rw [hk] at hs
      obtain ⟨S0, e1, e2⟩ := sm_R hs
      subst e1
      cases hl : Nat.blt a 119 with
      | true =>
        rw [hl] at he
        have hl : a < 119 := Nat.blt_eq ▸ hl
        have he : (match SH a with
          | .inr q => some (n, psA A (aI (fk q.2) :: T))
          | .inl _ => none) = some r := he
        cases hs : SH a with
        | inl q => rw [hs] at he; cases he
        | inr q =>
          rw [hs] at he
          cases he
          have e9 : aln M 119 a q.1 = q.2 := by
            unfold aln
            rw [if_neg (by omega), if_neg (by omega)]
            unfold alw
            rw [if_pos hl, hs]
            show (if q.1 = q.1 then (q.2 : Int) else -1) = _
            rw [if_pos rfl]
          refine ⟨rfl, a, S0, q.1, rfl, by rw [e9]; omega, ?_⟩
          rw [e9]
          exact k1 _ (psh_ok g e2 (by show vi _ = vi (ev ρ (fk _)); rw [ev_fk]))
      | false =>
        rw [hl] at he
        obtain ⟨h3, h4⟩ := cond_t he
        have e8 := beq_t h3
        split at h4
        · next l hm =>
          cases h4
          have e9 := mget_ok (by decide) g.2.2.1 hm
          rw [ev_fk] at e9
          have e7 : aln M 119 a 0 = ev ρ l := by
            unfold aln
            rw [if_pos ⟨e8, rfl⟩]
            exact e9.2
          have hb : 0 ≤ M 1003 0 := (hG.1 1003 0 (0, 3584) (fun q => absurd q (by decide)) (by decide +kernel) (by decide)).1
          refine ⟨rfl, a, S0, 0, rfl, by rw [e7, ← e9.2]; exact hb, ?_⟩
          rw [e7]
          exact k1 _ (psh_ok g e2 rfl)
        · cases h4
    · cases h
  all_goals (cases h)
theorem mx1_st {O : pO} {j : Nat} {Q : pQ} {P : pP} {pc : Nat} {ρ : Nat → Int} {n m : Nat} {A B : aA} {L : pL} {M M0 : pM} {md : mdL} {len : Nat} {v f : lf} {a : Nat} {T : List av} {S0 : List pv} (g : gam ρ A L (vi (ev ρ v) :: vi (ev ρ f) :: vr (a + 1) :: S0) M) (hG : gI M) (hf : fr md M0 M) (hk : A.2.1 = .inl v :: .inl f :: .inr (.inr (a + 1)) :: T) (h : mx1 md j .iastore len n A = some (m, B)) (k : ∀ M', M' = st M a (ev ρ f).toNat (ev ρ v) ∧ m = n → B.2.1 = T → gam ρ B L S0 M' → gI M' → fr md M0 M' → P (pc + 1) L S0 119 M') : sx O j (nz j) Q P pc L (vi (ev ρ v) :: vi (ev ρ f) :: vr (a + 1) :: S0) 119 M .iastore len := by
  simp only [mx1] at h
  rw [hk] at h
  dsimp only at h
  obtain ⟨hc, he⟩ := cond_t h
  obtain ⟨hc, h4⟩ := and_t hc
  obtain ⟨hc, h2⟩ := and_t hc
  obtain ⟨h1, h3⟩ := and_t hc
  have h1 := beq_t h1
  subst h1
  have ha : a < 119 := Nat.blt_eq ▸ h3
  obtain ⟨l, l1, l2, l3⟩ := ixA_ok g.2.2.2.1 g.2.2.2.2 h2
  obtain ⟨al, mm, q1, q2⟩ := (alA_ok g.2.2.1 l1).1 ha
  have hs := g.2.1
  rw [hk] at hs
  have hT : sm ρ T S0 := hs.2.2.2
  split at he
  · next b hb =>
    obtain ⟨hg, he2⟩ := cond_t he
    cases he2
    have hin := inG_ok g.2.2.2.1 g.2.2.2.2 hg
    refine ⟨rfl, _, _, a, S0, rfl, l2, by rw [al]; exact l3, ?_⟩
    exact k _ ⟨rfl, rfl⟩ rfl ⟨g.1, hT, mwr_ok g.2.2.1 g.2.2.2.1 (by omega) l2 rfl, g.2.2.2.1, g.2.2.2.2⟩ (gI_st hG (fun b' hb' _ => by rw [gB_bd (ρ := ρ) hb l2 hb']; exact hin) (fun e he h1 _ => (rfno_arr q1 he h1).elim)) (fr_st hf (inA_M g.2.2.2.1 g.2.2.2.2 h4))
  · cases he
theorem mx1_sb {O : pO} {j : Nat} {Q : pQ} {P : pP} {pc : Nat} {ρ : Nat → Int} {n m : Nat} {A B : aA} {L : pL} {M M0 : pM} {md : mdL} {len : Nat} {v f : lf} {a : Nat} {T : List av} {S0 : List pv} (g : gam ρ A L (vi (ev ρ v) :: vi (ev ρ f) :: vr (a + 1) :: S0) M) (hG : gI M) (hf : fr md M0 M) (hk : A.2.1 = .inl v :: .inl f :: .inr (.inr (a + 1)) :: T) (h8 : inG A v (-128, 127) = true) (h : mx1 md j .bastore len n A = some (m, B)) (k : ∀ M', M' = st M a (ev ρ f).toNat (ev ρ v) ∧ m = n → B.2.1 = T → gam ρ B L S0 M' → gI M' → fr md M0 M' → P (pc + 1) L S0 119 M') : sx O j (nz j) Q P pc L (vi (ev ρ v) :: vi (ev ρ f) :: vr (a + 1) :: S0) 119 M .bastore len := by
  simp only [mx1] at h
  rw [hk] at h
  dsimp only at h
  obtain ⟨hc, he⟩ := cond_t h
  obtain ⟨hc, h4⟩ := and_t hc
  obtain ⟨h1, h3⟩ := and_t hc
  have h1 := beq_t h1
  subst h1
  have ha : a < 119 := Nat.blt_eq ▸ h3
  have k8 : -128 ≤ ev ρ v ∧ ev ρ v ≤ 127 := inG_ok g.2.2.2.1 g.2.2.2.2 h8
  have hs := g.2.1
  rw [hk] at hs
  have hT : sm ρ T S0 := hs.2.2.2
  split at he
  · next b hb =>
    cases h2 : ixA A f (alA A a 2) with
    | true =>
      rw [h2] at he
      obtain ⟨l, l1, l2, l3⟩ := ixA_ok g.2.2.2.1 g.2.2.2.2 h2
      obtain ⟨al, mm, q1, q2⟩ := (alA_ok g.2.2.1 l1).1 ha
      obtain ⟨hg, he2⟩ := cond_t he
      cases he2
      obtain ⟨hg1, hg2⟩ := and_t hg
      have hg1 := ige_iff.mp hg1
      have hg2 := ige_iff.mp hg2
      refine ⟨rfl, _, _, a, S0, rfl, l2, Or.inl ⟨by rw [al]; exact l3, ?_⟩⟩
      rw [w8_id k8]
      exact k _ ⟨rfl, rfl⟩ rfl ⟨g.1, hT, mwx_ok g.2.2.1 g.2.2.2.1 l2, g.2.2.2.1, g.2.2.2.2⟩ (gI_st hG (fun b' hb' _ => by rw [gB_bd (ρ := ρ) hb l2 hb']; exact ⟨by omega, by omega⟩) (fun e he h1 _ => (rfno_arr q1 he h1).elim)) (fr_st hf (inA_M g.2.2.2.1 g.2.2.2.2 h4))
    | false =>
      rw [h2] at he
      obtain ⟨hg, he2⟩ := cond_t he
      cases he2
      obtain ⟨hg, hg3⟩ := and_t hg
      obtain ⟨hg1, hg2⟩ := and_t hg
      obtain ⟨l, l1, l2, l3⟩ := ixA_ok g.2.2.2.1 g.2.2.2.2 hg1
      obtain ⟨al, mm, q1, q2⟩ := (alA_ok g.2.2.1 l1).1 ha
      have hin := inG_ok g.2.2.2.1 g.2.2.2.2 hg2
      have h01 : 0 ≤ ev ρ v ∧ ev ρ v ≤ 1 := inG_ok g.2.2.2.1 g.2.2.2.2 hg3
      refine ⟨rfl, _, _, a, S0, rfl, l2, Or.inr ⟨by rw [al]; exact l3, by omega, ?_⟩⟩
      exact k _ ⟨rfl, rfl⟩ rfl ⟨g.1, hT, mwr_ok g.2.2.1 g.2.2.2.1 (by omega) l2 rfl, g.2.2.2.1, g.2.2.2.2⟩ (gI_st hG (fun b' hb' _ => by rw [gB_bd (ρ := ρ) hb l2 hb']; exact hin) (fun e he h1 _ => (rfno_arr q1 he h1).elim)) (fr_st hf (inA_M g.2.2.2.1 g.2.2.2.2 h4))
  · cases he
theorem mx1_sl {O : pO} {j : Nat} {Q : pQ} {P : pP} {pc : Nat} {ρ : Nat → Int} {n m : Nat} {A B : aA} {L : pL} {M M0 : pM} {md : mdL} {len : Nat} {v f : lf} {a : Nat} {T : List av} {S0 : List pv} (g : gam ρ A L (vl (ev ρ v) :: vi (ev ρ f) :: vr (a + 1) :: S0) M) (hG : gI M) (hf : fr md M0 M) (hk : A.2.1 = .inr (.inl (some v)) :: .inl f :: .inr (.inr (a + 1)) :: T) (h : mx1 md j .lastore len n A = some (m, B)) (k : ∀ M', M' = st M a (ev ρ f).toNat (ev ρ v) ∧ m = n → B.2.1 = T → gam ρ B L S0 M' → gI M' → fr md M0 M' → P (pc + 1) L S0 119 M') : sx O j (nz j) Q P pc L (vl (ev ρ v) :: vi (ev ρ f) :: vr (a + 1) :: S0) 119 M .lastore len := by
  simp only [mx1] at h
  rw [hk] at h
  dsimp only at h
  obtain ⟨hc, he⟩ := cond_t h
  obtain ⟨hc, h4⟩ := and_t hc
  obtain ⟨hc, h2⟩ := and_t hc
  obtain ⟨h1, h3⟩ := and_t hc
  have h1 := beq_t h1
  subst h1
  have ha : a < 119 := Nat.blt_eq ▸ h3
  obtain ⟨l, l1, l2, l3⟩ := ixA_ok g.2.2.2.1 g.2.2.2.2 h2
  obtain ⟨al, mm, q1, q2⟩ := (alA_ok g.2.2.1 l1).1 ha
  have hs := g.2.1
  rw [hk] at hs
  have hT : sm ρ T S0 := hs.2.2.2
  split at he
  · next b hb =>
    obtain ⟨hg, he2⟩ := cond_t he
    cases he2
    have hg := ige_iff.mp hg
    refine ⟨rfl, _, _, a, S0, rfl, l2, by rw [al]; exact l3, ?_⟩
    refine k _ ⟨rfl, rfl⟩ rfl ⟨g.1, hT, mwx_ok g.2.2.1 g.2.2.2.1 l2, g.2.2.2.1, g.2.2.2.2⟩ (gI_st hG (fun b' hb' hl => ?_) (fun e he h1 _ => (rfno_arr q1 he h1).elim)) (fr_st hf (inA_M g.2.2.2.1 g.2.2.2.2 h4))
    rw [hb] at hb'
    have e9 : b' = b := by
      rw [show ([b] : List (Int × Int)).length = 1 from rfl, Nat.mod_one] at hb'
      simpa using hb'.symm
    rw [e9] at hl
    omega
  · cases he
