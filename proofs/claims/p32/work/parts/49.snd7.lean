/-! ===== calls, cuts, returns ===== -/
def rtm (ρ : Nat → Int) (S : List av) (ret : Option pv) : Prop := match S with
  | [] => ret = none
  | [v] => ∃ x, ret = some x ∧ vm ρ v x
  | _ => False
def Qp (c : ctr) (ρ : Nat → Int) (M0 : pM) : pQ := fun ret M' => gI M' ∧ fr (ctm c) M0 M' ∧ ∃ e ∈ ctQ c, ∃ ρ', agr (ctp c) ρ ρ' ∧ rtm ρ' e.2.2.1 ret ∧ okM ρ' e.2.2.2.1 M' ∧ okB ρ' e.2.2.2.2.1 ∧ okF ρ' e.2.2.2.2.2
/-- the contract holds, whatever depth is left from its own on -/
def Hold (c : ctr) : Prop := ∀ r, ctd c ≤ r → ∀ (ρ : Nat → Int) (As : List pv) (M : pM), sm ρ (cta c) As → okM ρ (ctP c).2.2.1 M → okB ρ (ctP c).2.2.2.1 → okF ρ (ctP c).2.2.2.2 → gI M → OJ r (ctj c) As 119 M (Qp c ρ M)
theorem eqF_ok {ρ : Nat → Int} {A : aA} (hB : okB ρ A.2.2.2.1) (hF : okF ρ A.2.2.2.2) {f g : lf} (h : eqF A f g = true) : ev ρ f = ev ρ g := by
  unfold eqF at h
  rcases (Bool.or_eq_true _ _).mp h with q | q
  · rw [feq_ok q]
  · obtain ⟨h1, h2⟩ := and_t q
    have k1 := en_ok hB hF h1
    have k2 := en_ok hB hF h2
    rw [ev_fsb] at k1 k2
    omega
theorem eqV_ok {ρ : Nat → Int} {A : aA} (hB : okB ρ A.2.2.2.1) (hF : okF ρ A.2.2.2.2) {p : Nat} {σ : List lf} {v t : av} (h : eqV p σ A v t = true) {x : pv} (hx : vm ρ v x) : vm (rs ρ p σ) t x := by
  cases t with
  | inl g =>
    cases v with
    | inl f =>
      have h : eqF A f (sbF p σ g) = true := h
      have := eqF_ok hB hF h
      rw [ev_sbF] at this
      show x = vi (ev (rs ρ p σ) g)
      rw [← this]
      exact hx
    | inr w => cases h
  | inr t => cases t with
    | inl u => cases u with
      | none =>
        cases v with
        | inl f => cases h
        | inr w => cases w with
          | inl u' => exact vm_J hx
          | inr k => cases h
      | some gg =>
        cases v with
        | inl f => cases h
        | inr w => cases w with
          | inl u' => cases u' with
            | none => cases h
            | some f =>
              have h : eqF A f (sbF p σ gg) = true := h
              have := eqF_ok hB hF h
              rw [ev_sbF] at this
              show x = vl (ev (rs ρ p σ) gg)
              rw [← this]
              exact hx
          | inr k => cases h
    | inr k =>
      cases v with
      | inl f => cases h
      | inr w => cases w with
        | inl u' => cases h
        | inr m =>
          have e : m = k := beq_t h
          show x = vr k
          rw [← e]
          exact hx
theorem eqS_ok {ρ : Nat → Int} {A : aA} (hB : okB ρ A.2.2.2.1) (hF : okF ρ A.2.2.2.2) {p : Nat} {σ : List lf} : ∀ {T S : List av} {l : List pv}, eqS p σ A S T = true → sm ρ S l → sm (rs ρ p σ) T l
  | [], [], [], _, _ => trivial
  | [], [], _ :: _, _, q => q.elim
  | [], _ :: _, _, h, _ => by cases h
  | _ :: _, [], _, h, _ => by cases h
  | _ :: _, _ :: _, [], _, q => q.elim
  | t :: r, v :: q, x :: l, h, g => by
    obtain ⟨h1, h2⟩ := and_t h
    exact ⟨eqV_ok hB hF h1 g.1, eqS_ok hB hF h2 g.2⟩
theorem eqL_ok {ρ : Nat → Int} {A : aA} (hB : okB ρ A.2.2.2.1) (hF : okF ρ A.2.2.2.2) {p : Nat} {σ : List lf} : ∀ {T S : List (Option av)} {l : pL}, eqL p σ A S T = true → lm ρ S l → lm (rs ρ p σ) T l
  | [], [], [], _, _ => trivial
  | [], [], _ :: _, _, q => q.elim
  | [], _ :: _, _, h, _ => by cases h
  | none :: _, [], _, h, _ => by cases h
  | some _ :: _, [], _, h, _ => by cases h
  | none :: _, _ :: _, [], _, q => q.elim
  | some _ :: _, none :: _, _, h, _ => by cases h
  | some _ :: _, some _ :: _, [], _, q => q.elim
  | none :: r, o :: q, x :: l, h, g => ⟨trivial, eqL_ok hB hF (T := r) (S := q) h g.2⟩
  | some t :: r, some v :: q, x :: l, h, g => by
    obtain ⟨h1, h2⟩ := and_t h
    obtain ⟨y, e1, e2⟩ := g.1
    exact ⟨⟨y, e1, eqV_ok hB hF h1 e2⟩, eqL_ok hB hF h2 g.2⟩
theorem enT_ok {ρ : Nat → Int} {A T : aA} {M : pM} (hm : okM ρ A.2.2.1 M) (hB : okB ρ A.2.2.2.1) (hF : okF ρ A.2.2.2.2) {p : Nat} {σ : List lf} (h : enT p σ A T = true) : okM (rs ρ p σ) T.2.2.1 M ∧ okB (rs ρ p σ) T.2.2.2.1 ∧ okF (rs ρ p σ) T.2.2.2.2 := by
  unfold enT at h
  obtain ⟨h1, h3⟩ := and_t h
  obtain ⟨h1, h2⟩ := and_t h1
  refine ⟨fun e he => ?_, fun e he => ?_, fun f hf => ?_⟩
  · have q := List.all_eq_true.mp h1 e he
    cases hv : mget A.2.2.1 e.1 (sbF p σ e.2.1) with
    | none => rw [hv] at q; cases q
    | some v =>
      rw [hv] at q
      have k := hm _ (mget_e hv)
      have k2 := eqF_ok hB hF q
      have k : ok1 e.1 (ev ρ (sbF p σ e.2.1)) (ev ρ v) M := k
      rw [ev_sbF] at k k2
      rw [k2] at k
      exact k
  · have q := List.all_eq_true.mp h2 e he
    have k := inG_ok hB hF q
    rw [ev_sbF, ev_fs] at k
    exact k
  · have q := List.all_eq_true.mp h3 f hf
    have k := en_ok hB hF q
    rw [ev_sbF] at k
    exact k
theorem agr_rs {ρ : Nat → Int} {p : Nat} {σ : List lf} : agr p ρ (rs ρ p σ) := fun s h => if_pos h
theorem rFs_len : ∀ {m z : Nat}, (rFs m z).1.length = m
  | 0, _ => rfl
  | m + 1, z => by
    show ((rF z).1 :: (rFs m (rF z).2).1).length = m + 1
    rw [List.length_cons, rFs_len]
section ACTS2
variable {O : pO} {j : Nat} {Q : pQ} {md : mdL} {M0 : pM} {ρ0 : Nat → Int} {N : Nat}
/-- a cut may be taken for granted where the rank is below that of the segment's begin -/
def CS (O : pO) (c : ctr) (Q : pQ) (M0 : pM) (ρ0 : Nat → Int) (cu : List cut) (r0 : Option lf) : Prop := ∀ u ∈ cu, ∀ (ρ : Nat → Int) (L : pL) (S : List pv) (M : pM), agr (ctp c) ρ0 ρ → lm ρ u.2.2.1.1 L → sm ρ u.2.2.1.2.1 S → okM ρ u.2.2.1.2.2.1 M → okB ρ u.2.2.1.2.2.2.1 → okF ρ u.2.2.1.2.2.2.2 → 0 ≤ ev ρ u.2.2.2 → (∀ f, r0 = some f → ev ρ u.2.2.2 < ev ρ0 f) → gI M → fr (ctm c) M0 M → J O (ctj c) (nz (ctj c)) Q u.1 L S 119 M
theorem cutA_ok {c : ctr} {cu : List cut} {r0 : Option lf} (hp : ctp c ≤ N) (hr : ∀ f, r0 = some f → ncF N f = true) (hC : CS O c Q M0 ρ0 cu r0) {n : Nat} {A : aA} {pc z z' : Nat} (h : cutA c cu r0 A pc z = some z') : SM O (ctj c) Q (ctm c) M0 ρ0 N n A pc := by
  intro hn ρ L S M ha g hG hf
  unfold cutA at h
  split at h
  · cases h
  · next u hu =>
    split at h
    next σ y hs =>
    obtain ⟨h1, -⟩ := cond_t h
    obtain ⟨h1, h7⟩ := and_t h1
    obtain ⟨h1, h6⟩ := and_t h1
    obtain ⟨h1, h5⟩ := and_t h1
    obtain ⟨h1, h4⟩ := and_t h1
    obtain ⟨h1, h3⟩ := and_t h1
    have e := beq_t h1
    subst e
    have hm : u ∈ cu := List.mem_of_getElem? hu
    have q5 := enT_ok g.2.2.1 g.2.2.2.1 g.2.2.2.2 h5
    have q6 := en_ok g.2.2.2.1 g.2.2.2.2 h6
    rw [ev_sbF] at q6
    refine hC u hm (rs ρ (ctp c) σ) L S M (fun s hs => ?_) (eqL_ok g.2.2.2.1 g.2.2.2.2 h3 g.1) (eqS_ok g.2.2.2.1 g.2.2.2.2 h4 g.2.1) q5.1 q5.2.1 q5.2.2 q6 (fun f hf => ?_) hG hf
    · rw [agr_rs s hs]; exact ha s (by omega)
    · rw [hf] at h7
      have h7 : en A (fak (fsb f (sbF (ctp c) σ u.2.2.2)) (-1)) = true := h7
      have q7 := en_ok g.2.2.2.1 g.2.2.2.2 h7
      rw [ev_fak, ev_fsb, ev_sbF, ev_agr ha (hr f hf)] at q7
      omega
theorem retA_ok {c : ctr} (hp : ctp c ≤ N) {n : Nat} {A : aA} {pc z z' : Nat} {i : Instr} {len : Nat} (hd : decode (mB (ctj c)) pc = .ok (i, len)) (hQ : ∀ ret M, Qp c ρ0 M0 ret M → Q ret M) (h : retA c A i len z = some z') : SM O (ctj c) Q (ctm c) M0 ρ0 N n A pc := by
  intro hn ρ L S M ha g hG hf
  refine J_sx hd ?_
  unfold retA at h
  split at h
  · cases h
  · next e he =>
    split at h
    next σ y hs =>
    obtain ⟨h1, -⟩ := cond_t h
    obtain ⟨h1, h5⟩ := and_t h1
    obtain ⟨h1, h4⟩ := and_t h1
    obtain ⟨h1, h3⟩ := and_t h1
    obtain ⟨h1, h2⟩ := and_t h1
    have e1 := beq_t h1
    have e2 : 119 = nz (ctj c) + mC (ctj c) := by have := Nat.le_of_ble_eq_true h2; unfold nz; omega
    subst e1
    have hm : e ∈ ctQ c := List.mem_of_getElem? he
    have q4 := enT_ok g.2.2.1 g.2.2.2.1 g.2.2.2.2 h4
    have q3 := eqS_ok g.2.2.2.1 g.2.2.2.2 h3 g.2.1
    have hag : agr (ctp c) ρ0 (rs ρ (ctp c) σ) := fun s hs => by rw [agr_rs s hs]; exact ha s (by omega)
    have fin : ∀ ret, rtm (rs ρ (ctp c) σ) e.2.2.1 ret → Q ret M := fun ret hr => hQ ret M ⟨hG, hf, e, hm, rs ρ (ctp c) σ, hag, hr, q4.1, q4.2.1, q4.2.2⟩
    have one : ∀ x, S = [x] → rtm (rs ρ (ctp c) σ) e.2.2.1 (some x) := by
      intro x hx
      rw [hx] at q3
      cases ht : e.2.2.1 with
      | nil => rw [ht] at q3; exact q3.elim
      | cons t r =>
        rw [ht] at q3
        cases r with
        | nil => exact ⟨x, rfl, q3.1⟩
        | cons _ _ => exact q3.2.elim
    split at h5
    · split at h5
      · next f hr hS =>
        have hs := g.2.1
        rw [hS] at hs
        obtain ⟨l, k1, k2⟩ := sm_I hs
        have k3 : l = [] := List.eq_nil_of_length_eq_zero (sm_len k2).symm
        subst k3
        exact ⟨rfl, e2, _, k1, by rw [hr]; trivial, fin _ (one _ k1)⟩
      · next f hr hS =>
        have hs := g.2.1
        rw [hS] at hs
        obtain ⟨l, k1, k2⟩ := sm_I hs
        have k3 : l = [] := List.eq_nil_of_length_eq_zero (sm_len k2).symm
        subst k3
        have h01 : 0 ≤ ev ρ f ∧ ev ρ f ≤ 1 := inG_ok g.2.2.2.1 g.2.2.2.2 h5
        exact ⟨rfl, e2, _, k1, by rw [hr]; show _ = 0 ∨ _ = 1; omega, fin _ (one _ k1)⟩
      · next f hr hS =>
        have hs := g.2.1
        rw [hS] at hs
        obtain ⟨l, k1, k2⟩ := sm_I hs
        have k3 : l = [] := List.eq_nil_of_length_eq_zero (sm_len k2).symm
        subst k3
        exact ⟨rfl, e2, _, k1, by rw [hr]; exact inG_ok g.2.2.2.1 g.2.2.2.2 h5, fin _ (one _ k1)⟩
      · next f hr hS =>
        have hs := g.2.1
        rw [hS] at hs
        obtain ⟨l, k1, k2⟩ := sm_I hs
        have k3 : l = [] := List.eq_nil_of_length_eq_zero (sm_len k2).symm
        subst k3
        exact ⟨rfl, e2, _, k1, by rw [hr]; exact inG_ok g.2.2.2.1 g.2.2.2.2 h5, fin _ (one _ k1)⟩
      · cases h5
    · split at h5
      · next u hr hS =>
        have hs := g.2.1
        rw [hS] at hs
        obtain ⟨w, l, k1, k2⟩ := sm_J hs
        have k3 : l = [] := List.eq_nil_of_length_eq_zero (sm_len k2).symm
        subst k3
        exact ⟨rfl, e2, hr, w, k1, fin _ (one _ k1)⟩
      · cases h5
    · split at h5
      · next hr hS =>
        have hs := g.2.1
        rw [hS] at hs
        have k3 : S = [] := List.eq_nil_of_length_eq_zero (sm_len hs).symm
        subst k3
        refine ⟨rfl, e2, hr, rfl, fin _ ?_⟩
        cases ht : e.2.2.1 with
        | nil => rfl
        | cons t r => rw [ht] at q3; exact q3.elim
      · cases h5
    · cases h5
theorem dsj_ok {a b : mdL} (h : dsj a b = true) {c k : Nat} (h1 : inM a c k = true) (h2 : inM b c k = true) : False := by
  unfold inM at h1 h2
  obtain ⟨x, x1, x2⟩ := List.any_eq_true.mp h1
  obtain ⟨y, y1, y2⟩ := List.any_eq_true.mp h2
  obtain ⟨x2, x5⟩ := and_t x2
  obtain ⟨x3, x4⟩ := and_t x2
  obtain ⟨y2, y5⟩ := and_t y2
  obtain ⟨y3, y4⟩ := and_t y2
  have x4 := Nat.le_of_ble_eq_true x4
  have x5 := Nat.le_of_ble_eq_true x5
  have y4 := Nat.le_of_ble_eq_true y4
  have y5 := Nat.le_of_ble_eq_true y5
  have := List.all_eq_true.mp (List.all_eq_true.mp h x x1) y y1
  rcases (Bool.or_eq_true _ _).mp this with w | w
  · rcases (Bool.or_eq_true _ _).mp w with w | w
    · rw [beq_t x3, beq_t y3, Nat.beq_refl] at w; cases w
    · have : x.2.2 < y.2.1 := Nat.blt_eq ▸ w
      omega
  · have : y.2.2 < x.2.1 := Nat.blt_eq ▸ w
    omega
theorem fsN_at : ∀ {m n i : Nat}, i < m → (fsN m n).getD i (0, []) = fs (n + i)
  | 0, _, _, h => absurd h (Nat.not_lt_zero _)
  | m + 1, n, 0, _ => rfl
  | m + 1, n, i + 1, h => by
    show (fsN m (n + 1)).getD i (0, []) = fs (n + (i + 1))
    rw [fsN_at (by omega)]
    congr 1
    omega
theorem ev_avS {ρ : Nat → Int} {p : Nat} {σ : List lf} {v : av} {x : pv} : vm ρ (avS p σ v) x ↔ vm (rs ρ p σ) v x := by
  cases v with
  | inl f => show (x = vi (ev ρ (sbF p σ f))) ↔ (x = vi (ev (rs ρ p σ) f)); rw [ev_sbF]
  | inr w => cases w with
    | inl u => cases u with
      | none => exact Iff.rfl
      | some f => show (x = vl (ev ρ (sbF p σ f))) ↔ (x = vl (ev (rs ρ p σ) f)); rw [ev_sbF]
    | inr k => exact Iff.rfl
theorem pst_ok {ρ : Nat → Int} {σ : List lf} {n : Nat} {A : aA} {T : List av} {cc : ctr} {e : Nat × aA} {L : pL} {S S0 : List pv} {M M' : pM} (g : gam ρ A L S M) (hT : sm ρ T S0) (hs : ∀ v ∈ T, v ∈ A.2.1) (hA : nc n A = true) (hσ : σ.all (ncF n) = true) (hl : σ.length = ctp cc) (hE : okE (ctp cc) e = true) (hfr : fr (ctm cc) M M') {ρ' : Nat → Int} (ha : agr (ctp cc) (rs ρ 0 σ) ρ') (hm : okM ρ' e.2.2.2.1 M') (hB : okB ρ' e.2.2.2.2.1) (hF : okF ρ' e.2.2.2.2.2) {R : List pv} (hR : sm ρ' e.2.2.1 R) : ∃ ρ2, agr n ρ ρ2 ∧ gam ρ2 (pstA σ n A T cc e) L (R ++ S0) M' := by
  obtain ⟨hE1, hE2⟩ := and_t hE
  obtain ⟨n1, n2, n3, n4, n5⟩ := nc_and hE1
  let ρ2 : Nat → Int := fun s => if s < n then ρ s else ρ' (s - n + ctp cc)
  have a2 : agr n ρ ρ2 := fun s h => if_pos h
  have hτ : ∀ s, s < ctp cc + e.1 → rs ρ2 0 (σ ++ fsN e.1 n) s = ρ' s := by
    intro s h
    show ev ρ2 ((σ ++ fsN e.1 n).getD (s - 0) (0, [])) = ρ' s
    rw [Nat.sub_zero]
    by_cases h1 : s < ctp cc
    · have h2 : s < σ.length := by omega
      have e1 : (σ ++ fsN e.1 n).getD s (0, []) = σ.getD s (0, []) := by
        rw [List.getD_eq_getElem?_getD, List.getD_eq_getElem?_getD, List.getElem?_append_left h2]
      have hmem : σ.getD s (0, []) ∈ σ := by
        rw [List.getD_eq_getElem?_getD, List.getElem?_eq_getElem h2]
        exact List.getElem_mem h2
      rw [e1, ev_agr a2 (List.all_eq_true.mp hσ _ hmem), ha s h1]
      show _ = ev ρ (σ.getD (s - 0) (0, []))
      rw [Nat.sub_zero]
    · have e1 : (σ ++ fsN e.1 n).getD s (0, []) = (fsN e.1 n).getD (s - σ.length) (0, []) := by
        rw [List.getD_eq_getElem?_getD, List.getD_eq_getElem?_getD, List.getElem?_append_right (by omega)]
      rw [e1, fsN_at (by omega), ev_fs]
      show (if n + (s - σ.length) < n then _ else ρ' (n + (s - σ.length) - n + ctp cc)) = ρ' s
      rw [if_neg (by omega)]
      congr 1
      omega
  have hag : agr (ctp cc + e.1) ρ' (rs ρ2 0 (σ ++ fsN e.1 n)) := fun s h => hτ s h
  have g2 := gam_agr a2 hA g
  refine ⟨ρ2, a2, ?_⟩
  unfold pstA
  refine gam_adL ⟨g2.1, ?_, ?_, ?_, g2.2.2.2.2⟩ ?_
  · show sm ρ2 (e.2.2.1.map (avS 0 (σ ++ fsN e.1 n)) ++ T) (R ++ S0)
    have hT2 : sm ρ2 T S0 := sm_agr a2 (all_sub hs (nc_and hA).2.1) hT
    have : ∀ {a : List av} {r : List pv}, a.all (ncV (ctp cc + e.1)) = true → sm ρ' a r → sm ρ2 (a.map (avS 0 (σ ++ fsN e.1 n)) ++ T) (r ++ S0) := by
      intro a
      induction a with
      | nil =>
        intro r _ hr
        cases r with
        | nil => exact hT2
        | cons _ _ => exact hr.elim
      | cons v a ih =>
        intro r hv hr
        cases r with
        | nil => exact hr.elim
        | cons x r =>
          rw [List.all_cons] at hv
          obtain ⟨v1, v2⟩ := and_t hv
          exact ⟨ev_avS.mpr (vm_agr hag v1 hr.1), ih v2 hr.2⟩
    exact this n2 hR
  · intro q hq
    show ok1 q.1 (ev ρ2 q.2.1) (ev ρ2 q.2.2) M'
    rcases List.mem_append.mp hq with w | w
    · obtain ⟨x, hx, rfl⟩ := List.mem_map.mp w
      show ok1 x.1 (ev ρ2 (sbF 0 _ x.2.1)) (ev ρ2 (sbF 0 _ x.2.2)) M'
      rw [ev_sbF, ev_sbF, ev_agr hag (n3 x hx).1, ev_agr hag (n3 x hx).2]
      exact hm x hx
    · obtain ⟨w1, w2⟩ := List.mem_filter.mp w
      have k := g2.2.2.1 q w1
      unfold kpM at w2
      by_cases h5 : 5000 ≤ q.1
      · rw [ok1_hi h5] at k ⊢
        rw [Nat.ble_eq_true_of_le h5] at w2
        generalize q.1 - 5000 = pp at w2 k ⊢
        refine hp_dep (fun c' k' hk => hfr c' k' ?_) k
        cases hi : inM (ctm cc) c' k' with
        | false => rfl
        | true =>
          exfalso
          cases hd : hdp pp with
          | none =>
            rw [hd] at w2
            cases hc : ctm cc with
            | nil => rw [hc] at hi; cases hi
            | cons _ _ => rw [hc] at w2; cases w2
          | some dm =>
            rw [hd] at w2 hk
            exact dsj_ok w2 hk hi
      · rw [ok1_lo (by omega)] at k ⊢
        rw [show Nat.ble 5000 q.1 = false from by cases hz : Nat.ble 5000 q.1 with | false => rfl | true => exact absurd (Nat.le_of_ble_eq_true hz) h5] at w2
        refine ⟨k.1, ?_⟩
        rw [← k.2]
        exact hfr _ _ (ouW_ok g2.2.2.2.1 w2 k.1)
  · intro b hb
    rcases List.mem_append.mp hb with w | w
    · obtain ⟨x, hx, rfl⟩ := List.mem_map.mp w
      have k := List.all_eq_true.mp hE2 x hx
      obtain ⟨k1, k2⟩ := and_t k
      have k1 : ctp cc ≤ x.1 := Nat.le_of_ble_eq_true k1
      have k2 : x.1 < ctp cc + e.1 := Nat.blt_eq ▸ k2
      show x.2.1 ≤ ρ2 (x.1 - ctp cc + n) ∧ ρ2 (x.1 - ctp cc + n) ≤ x.2.2
      have e1 : ρ2 (x.1 - ctp cc + n) = ρ' x.1 := by
        show (if x.1 - ctp cc + n < n then _ else ρ' (x.1 - ctp cc + n - n + ctp cc)) = _
        rw [if_neg (by omega)]
        congr 1
        omega
      rw [e1]
      exact hB x hx
    · exact g2.2.2.2.1 b w
  · intro f hf
    obtain ⟨x, hx, rfl⟩ := List.mem_map.mp hf
    rw [ev_sbF, ev_agr hag (n5 x hx)]
    exact hF x hx
end ACTS2
