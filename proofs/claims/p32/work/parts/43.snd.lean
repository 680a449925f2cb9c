/-! ===== the checker is sound: forms, bounds, facts ===== -/
theorem ige_iff {z : Int} : ige z = true ↔ 0 ≤ z := by
  cases z with
  | ofNat n => exact ⟨fun _ => Int.natCast_nonneg n, fun _ => rfl⟩
  | negSucc n => exact ⟨fun h => (by cases h), fun h => by omega⟩
theorem ieq_iff {a b : Int} : ieq a b = true ↔ a = b := by
  cases a with
  | ofNat x =>
    cases b with
    | ofNat y => exact ⟨fun h => by rw [Nat.eq_of_beq_eq_true h], fun h => by cases h; exact Nat.beq_refl x⟩
    | negSucc y => exact ⟨fun h => (by cases h), fun h => (by cases h)⟩
  | negSucc x =>
    cases b with
    | ofNat y => exact ⟨fun h => (by cases h), fun h => (by cases h)⟩
    | negSucc y => exact ⟨fun h => by rw [Nat.eq_of_beq_eq_true h], fun h => by cases h; exact Nat.beq_refl x⟩
def evT (ρ : Nat → Int) (l : List (Nat × Int)) : Int := match l with
  | [] => 0
  | t :: r => t.2 * ρ t.1 + evT ρ r
def ev (ρ : Nat → Int) (f : lf) : Int := f.1 + evT ρ f.2
theorem evT_inT {ρ : Nat → Int} {s : Nat} {c : Int} : ∀ {l : List (Nat × Int)}, evT ρ (inT s c l) = c * ρ s + evT ρ l
  | [] => rfl
  | t :: r => by
    unfold inT
    cases h1 : Nat.blt s t.1 with
    | true => rfl
    | false =>
      cases h2 : Nat.beq s t.1 with
      | true =>
        have e := Nat.eq_of_beq_eq_true h2
        cases h3 : ieq (c + t.2) 0 with
        | true =>
          have e2 := ieq_iff.mp h3
          show evT ρ r = c * ρ s + (t.2 * ρ t.1 + evT ρ r)
          have : t.2 = -c := by omega
          rw [this, ← e, Int.neg_mul]
          omega
        | false =>
          show (c + t.2) * ρ s + evT ρ r = c * ρ s + (t.2 * ρ t.1 + evT ρ r)
          rw [← e, Int.add_mul]
          omega
      | false =>
        show t.2 * ρ t.1 + evT ρ (inT s c r) = c * ρ s + (t.2 * ρ t.1 + evT ρ r)
        rw [evT_inT (l := r)]
        omega
theorem evT_adT {ρ : Nat → Int} : ∀ {a b : List (Nat × Int)}, evT ρ (adT a b) = evT ρ a + evT ρ b
  | [], b => by show evT ρ b = 0 + evT ρ b; omega
  | t :: r, b => by
    show evT ρ (adT r (inT t.1 t.2 b)) = t.2 * ρ t.1 + evT ρ r + evT ρ b
    rw [evT_adT (a := r), evT_inT]
    omega
theorem evT_map {ρ : Nat → Int} {k : Int} : ∀ {l : List (Nat × Int)}, evT ρ (l.map (fun t => (t.1, k * t.2))) = k * evT ρ l
  | [] => by show (0 : Int) = k * 0; omega
  | t :: r => by
    show k * t.2 * ρ t.1 + evT ρ (r.map (fun t => (t.1, k * t.2))) = k * (t.2 * ρ t.1 + evT ρ r)
    rw [evT_map (l := r), Int.mul_add, Int.mul_assoc]
theorem ev_fk {ρ : Nat → Int} {k : Int} : ev ρ (fk k) = k := by show k + 0 = k; omega
theorem ev_fs {ρ : Nat → Int} {s : Nat} : ev ρ (fs s) = ρ s := by show 0 + (1 * ρ s + 0) = ρ s; omega
theorem ev_fad {ρ : Nat → Int} {f g : lf} : ev ρ (fad f g) = ev ρ f + ev ρ g := by
  show f.1 + g.1 + evT ρ (adT f.2 g.2) = f.1 + evT ρ f.2 + (g.1 + evT ρ g.2)
  rw [evT_adT]
  omega
theorem ev_fsc {ρ : Nat → Int} {k : Int} {f : lf} : ev ρ (fsc k f) = k * ev ρ f := by
  unfold fsc
  cases h : ieq k 0 with
  | true => rw [ieq_iff.mp h]; show (0 : Int) + 0 = 0 * ev ρ f; omega
  | false =>
    show k * f.1 + evT ρ (f.2.map (fun t => (t.1, k * t.2))) = k * (f.1 + evT ρ f.2)
    rw [evT_map, Int.mul_add]
theorem ev_neg {ρ : Nat → Int} {f : lf} : ev ρ (fsc (-1) f) = - ev ρ f := by rw [ev_fsc]; omega
theorem ev_fsb {ρ : Nat → Int} {f g : lf} : ev ρ (fsb f g) = ev ρ f - ev ρ g := by unfold fsb; rw [ev_fad, ev_neg]; omega
theorem ev_fak {ρ : Nat → Int} {f : lf} {k : Int} : ev ρ (fak f k) = ev ρ f + k := by show f.1 + k + evT ρ f.2 = f.1 + evT ρ f.2 + k; omega
theorem teq_ok : ∀ {a b : List (Nat × Int)}, teq a b = true → a = b
  | [], [], _ => rfl
  | [], _ :: _, h => by cases h
  | _ :: _, [], h => by cases h
  | t :: r, u :: q, h => by
    have h' : (Nat.beq t.1 u.1 && ieq t.2 u.2 && teq r q) = true := h
    rw [Bool.and_eq_true, Bool.and_eq_true] at h'
    have e1 := Nat.eq_of_beq_eq_true h'.1.1
    have e2 := ieq_iff.mp h'.1.2
    rw [teq_ok h'.2, show t = u from Prod.ext e1 e2]
theorem feq_ok {f g : lf} (h : feq f g = true) : f = g := by
  unfold feq at h
  rw [Bool.and_eq_true] at h
  exact Prod.ext (ieq_iff.mp h.1) (teq_ok h.2)
def rs (ρ : Nat → Int) (p : Nat) (σ : List lf) (s : Nat) : Int := if s < p then ρ s else ev ρ (σ.getD (s - p) (0, []))
theorem ev_sbT {ρ : Nat → Int} {p : Nat} {σ : List lf} : ∀ {l : List (Nat × Int)} {acc : lf}, ev ρ (sbT p σ l acc) = ev ρ acc + evT (rs ρ p σ) l
  | [], acc => by show ev ρ acc = ev ρ acc + 0; omega
  | t :: r, acc => by
    unfold sbT
    rw [ev_sbT (l := r)]
    show _ = ev ρ acc + (t.2 * rs ρ p σ t.1 + evT (rs ρ p σ) r)
    cases h : Nat.blt t.1 p with
    | true =>
      have e : rs ρ p σ t.1 = ρ t.1 := if_pos (Nat.blt_eq ▸ h)
      show acc.1 + evT ρ (inT t.1 t.2 acc.2) + _ = acc.1 + evT ρ acc.2 + _
      rw [evT_inT, e]
      omega
    | false =>
      have e : rs ρ p σ t.1 = ev ρ (σ.getD (t.1 - p) (0, [])) := if_neg (fun q => by rw [show Nat.blt t.1 p = true from Nat.blt_eq ▸ q] at h; cases h)
      show ev ρ (fad (fsc t.2 (σ.getD (t.1 - p) (0, []))) acc) + _ = _
      rw [ev_fad, ev_fsc, e]
      omega
theorem ev_sbF {ρ : Nat → Int} {p : Nat} {σ : List lf} {f : lf} : ev ρ (sbF p σ f) = ev (rs ρ p σ) f := by
  unfold sbF
  rw [ev_sbT]
  show f.1 + 0 + _ = f.1 + _
  omega
def okB (ρ : Nat → Int) (B : bd) : Prop := ∀ e ∈ B, e.2.1 ≤ ρ e.1 ∧ ρ e.1 ≤ e.2.2
def okF (ρ : Nat → Int) (F : List lf) : Prop := ∀ f ∈ F, 0 ≤ ev ρ f
theorem bl_ok {ρ : Nat → Int} : ∀ {B : bd} {s : Nat} {b : Int × Int}, okB ρ B → bl B s = some b → b.1 ≤ ρ s ∧ ρ s ≤ b.2
  | [], _, _, _, h => by cases h
  | e :: r, s, b, hB, h => by
    unfold bl at h
    cases h1 : Nat.beq e.1 s with
    | true =>
      rw [h1] at h
      have : e.2 = b := by cases h; rfl
      rw [← this, ← Nat.eq_of_beq_eq_true h1]
      exact hB e List.mem_cons_self
    | false =>
      rw [h1] at h
      exact bl_ok (fun q hq => hB q (List.mem_cons_of_mem _ hq)) h
theorem mul_lo {c x a b : Int} (h1 : a ≤ x) (h2 : x ≤ b) : cond (ige c) (c * a) (c * b) ≤ c * x := by
  cases h : ige c with
  | true => exact Int.mul_le_mul_of_nonneg_left h1 (ige_iff.mp h)
  | false =>
    have : ¬ 0 ≤ c := fun q => by rw [ige_iff.mpr q] at h; cases h
    exact Int.mul_le_mul_of_nonpos_left (by omega) h2
theorem mul_hi {c x a b : Int} (h1 : a ≤ x) (h2 : x ≤ b) : c * x ≤ cond (ige c) (c * b) (c * a) := by
  cases h : ige c with
  | true => exact Int.mul_le_mul_of_nonneg_left h2 (ige_iff.mp h)
  | false =>
    have : ¬ 0 ≤ c := fun q => by rw [ige_iff.mpr q] at h; cases h
    exact Int.mul_le_mul_of_nonpos_left (by omega) h1
theorem loT_ok {ρ : Nat → Int} {B : bd} (hB : okB ρ B) : ∀ {l : List (Nat × Int)} {acc z : Int}, loT B l acc = some z → z ≤ acc + evT ρ l
  | [], acc, z, h => by cases h; show acc ≤ acc + 0; omega
  | t :: r, acc, z, h => by
    unfold loT at h
    cases h1 : bl B t.1 with
    | none => rw [h1] at h; cases h
    | some b =>
      rw [h1] at h
      have h2 := loT_ok hB (l := r) h
      have h3 := bl_ok hB h1
      have h4 := mul_lo (c := t.2) h3.1 h3.2
      show z ≤ acc + (t.2 * ρ t.1 + evT ρ r)
      omega
theorem hiT_ok {ρ : Nat → Int} {B : bd} (hB : okB ρ B) : ∀ {l : List (Nat × Int)} {acc z : Int}, hiT B l acc = some z → acc + evT ρ l ≤ z
  | [], acc, z, h => by cases h; show acc + 0 ≤ acc; omega
  | t :: r, acc, z, h => by
    unfold hiT at h
    cases h1 : bl B t.1 with
    | none => rw [h1] at h; cases h
    | some b =>
      rw [h1] at h
      have h2 := hiT_ok hB (l := r) h
      have h3 := bl_ok hB h1
      have h4 := mul_hi (c := t.2) h3.1 h3.2
      show acc + (t.2 * ρ t.1 + evT ρ r) ≤ z
      omega
theorem hiT_at {ρ : Nat → Int} {B : bd} (hB : okB ρ B) : ∀ {l : List (Nat × Int)} {acc z : Int}, hiT B l acc = some z → ∀ t ∈ l, ∀ b, bl B t.1 = some b → acc + evT ρ l ≤ z - cond (ige t.2) (t.2 * b.2) (t.2 * b.1) + t.2 * ρ t.1
  | [], _, _, _ => fun t ht => by cases ht
  | u :: r, acc, z, h => by
    intro t ht b hb
    unfold hiT at h
    cases h1 : bl B u.1 with
    | none => rw [h1] at h; cases h
    | some b' =>
      rw [h1] at h
      have h3 := bl_ok hB h1
      have h4 := mul_hi (c := u.2) h3.1 h3.2
      show acc + (u.2 * ρ u.1 + evT ρ r) ≤ _
      rcases List.mem_cons.mp ht with e | e
      · subst e
        rw [h1] at hb
        cases hb
        have h2 := hiT_ok hB (l := r) h
        have h5 : acc + cond (ige t.2) (t.2 * b.2) (t.2 * b.1) + evT ρ r ≤ z := h2
        omega
      · have h2 := hiT_at hB (l := r) h t e b hb
        have h5 : acc + cond (ige u.2) (u.2 * b'.2) (u.2 * b'.1) + evT ρ r ≤ z - cond (ige t.2) (t.2 * b.2) (t.2 * b.1) + t.2 * ρ t.1 := h2
        omega
theorem iv_ok {ρ : Nat → Int} {B : bd} (hB : okB ρ B) {f : lf} (h : iv B f = true) : 0 ≤ ev ρ f := by
  unfold iv at h
  cases h1 : loT B f.2 f.1 with
  | none => rw [h1] at h; cases h
  | some z =>
    rw [h1] at h
    have h2 := loT_ok hB h1
    have h3 := ige_iff.mp h
    show 0 ≤ f.1 + evT ρ f.2
    omega
theorem ivF_ok {ρ : Nat → Int} {B : bd} (hB : okB ρ B) {f : lf} : ∀ {F : List lf}, okF ρ F → ivF B f F = true → 0 ≤ ev ρ f
  | [], _, h => by cases h
  | g :: r, hF, h => by
    unfold ivF at h
    rw [Bool.or_eq_true] at h
    rcases h with h | h
    · have h1 := iv_ok hB h
      have h2 := hF g List.mem_cons_self
      rw [ev_fsb] at h1
      omega
    · exact ivF_ok hB (fun q hq => hF q (List.mem_cons_of_mem _ hq)) h
theorem en_ok {ρ : Nat → Int} {A : aA} (hB : okB ρ A.2.2.2.1) (hF : okF ρ A.2.2.2.2) {f : lf} (h : en A f = true) : 0 ≤ ev ρ f := by
  unfold en at h
  rw [Bool.or_eq_true] at h
  rcases h with h | h
  · exact iv_ok hB h
  · exact ivF_ok hB hF h
theorem okB_cons {ρ : Nat → Int} {B : bd} {s : Nat} {a b : Int} (h : okB ρ B) (h1 : a ≤ ρ s) (h2 : ρ s ≤ b) : okB ρ ((s, a, b) :: B) := by
  intro e he
  rcases List.mem_cons.mp he with q | q
  · subst q; exact ⟨h1, h2⟩
  · exact h e q
theorem pr1_ok {ρ : Nat → Int} {U : Int} {t : Nat × Int} {b : Int × Int} {acc : bd} (hacc : okB ρ acc) (hb : b.1 ≤ ρ t.1 ∧ ρ t.1 ≤ b.2) (h : 0 ≤ U - cond (ige t.2) (t.2 * b.2) (t.2 * b.1) + t.2 * ρ t.1) : okB ρ (pr1 U t b acc) := by
  obtain ⟨s, c⟩ := t
  cases c with
  | ofNat m =>
    cases m with
    | zero => exact hacc
    | succ m =>
      have hp : (0 : Int) < Int.ofNat (m + 1) := by show (0 : Int) < ((m + 1 : Nat) : Int); omega
      have h' : 0 ≤ U - Int.ofNat (m + 1) * b.2 + Int.ofNat (m + 1) * ρ s := h
      have k1 : -ρ s ≤ (U - Int.ofNat (m + 1) * b.2) / Int.ofNat (m + 1) := by
        refine (Int.le_ediv_iff_mul_le hp).mpr ?_
        rw [Int.neg_mul, Int.mul_comm]
        omega
      unfold pr1
      show okB ρ (cond (ige _) _ acc)
      cases ige (-((U - Int.ofNat (m + 1) * b.2) / Int.ofNat (m + 1)) - b.1 - 1) with
      | true => exact okB_cons hacc (by show _ ≤ ρ s; omega) hb.2
      | false => exact hacc
  | negSucc m =>
    have hp : (0 : Int) < Int.ofNat (m + 1) := by show (0 : Int) < ((m + 1 : Nat) : Int); omega
    have e : Int.negSucc m = -Int.ofNat (m + 1) := rfl
    have h' : 0 ≤ U - Int.negSucc m * b.1 + Int.negSucc m * ρ s := h
    rw [e, Int.neg_mul, Int.neg_mul] at h'
    have k1 : ρ s ≤ (U + Int.ofNat (m + 1) * b.1) / Int.ofNat (m + 1) := by
      refine (Int.le_ediv_iff_mul_le hp).mpr ?_
      rw [Int.mul_comm]
      omega
    unfold pr1
    show okB ρ (cond (ige _) _ acc)
    cases ige (b.2 - (U + Int.ofNat (m + 1) * b.1) / Int.ofNat (m + 1) - 1) with
    | true => exact okB_cons hacc hb.1 k1
    | false => exact hacc
theorem prp_ok {ρ : Nat → Int} {B : bd} (hB : okB ρ B) {U : Int} : ∀ {l : List (Nat × Int)} {acc : bd}, okB ρ acc → (∀ t ∈ l, ∀ b, bl B t.1 = some b → 0 ≤ U - cond (ige t.2) (t.2 * b.2) (t.2 * b.1) + t.2 * ρ t.1) → okB ρ (prp B U l acc)
  | [], acc, h, _ => h
  | t :: r, acc, h, hl => by
    unfold prp
    refine prp_ok hB (l := r) ?_ (fun u hu => hl u (List.mem_cons_of_mem _ hu))
    cases h1 : bl B t.1 with
    | none => exact h
    | some b => exact pr1_ok h (bl_ok hB h1) (hl t List.mem_cons_self b h1)
theorem adf_ok {ρ : Nat → Int} {A : aA} (hB : okB ρ A.2.2.2.1) (hF : okF ρ A.2.2.2.2) {g : lf} (hg : 0 ≤ ev ρ g) : okB ρ (adf A g).2.2.2.1 ∧ okF ρ (adf A g).2.2.2.2 := by
  refine ⟨?_, ?_⟩
  · show okB ρ (match hiT A.2.2.2.1 g.2 g.1 with
      | none => A.2.2.2.1
      | some U => prp A.2.2.2.1 U g.2 A.2.2.2.1)
    cases h1 : hiT A.2.2.2.1 g.2 g.1 with
    | none => exact hB
    | some U =>
      refine prp_ok hB hB (fun t ht b hb => ?_)
      have := hiT_at hB h1 t ht b hb
      have hg' : 0 ≤ g.1 + evT ρ g.2 := hg
      omega
  · have hc : okF ρ (g :: A.2.2.2.2) := fun f hf => by
      rcases List.mem_cons.mp hf with e | e
      · rw [e]; exact hg
      · exact hF f e
    show okF ρ (match g.2 with
      | [_] => A.2.2.2.2
      | _ => g :: A.2.2.2.2)
    split
    · exact hF
    · exact hc
/-! ===== what a state says ===== -/
def vm (ρ : Nat → Int) (v : av) (x : pv) : Prop := match v with
  | .inl f => x = vi (ev ρ f)
  | .inr (.inl none) => ∃ z, x = vl z
  | .inr (.inl (some f)) => x = vl (ev ρ f)
  | .inr (.inr k) => x = vr k
def sm (ρ : Nat → Int) : List av → List pv → Prop
  | [], [] => True
  | v :: a, x :: l => vm ρ v x ∧ sm ρ a l
  | _, _ => False
def om (ρ : Nat → Int) (o : Option av) (x : Option pv) : Prop := match o with
  | none => True
  | some v => ∃ y, x = some y ∧ vm ρ v y
def lm (ρ : Nat → Int) : List (Option av) → pL → Prop
  | [], [] => True
  | o :: a, x :: l => om ρ o x ∧ lm ρ a l
  | _, _ => False
def ok1 (c : Nat) (x y : Int) (M : pM) : Prop := if 5000 ≤ c then HP (c - 5000) x y M else 0 ≤ x ∧ M c x.toNat = y
theorem ok1_hi {c : Nat} {x y : Int} {M : pM} (h : 5000 ≤ c) : ok1 c x y M = HP (c - 5000) x y M := if_pos h
theorem ok1_lo {c : Nat} {x y : Int} {M : pM} (h : c < 5000) : ok1 c x y M = (0 ≤ x ∧ M c x.toNat = y) := if_neg (by omega)
def okM (ρ : Nat → Int) (m : mf) (M : pM) : Prop := ∀ e ∈ m, ok1 e.1 (ev ρ e.2.1) (ev ρ e.2.2) M
def gam (ρ : Nat → Int) (A : aA) (L : pL) (S : List pv) (M : pM) : Prop := lm ρ A.1 L ∧ sm ρ A.2.1 S ∧ okM ρ A.2.2.1 M ∧ okB ρ A.2.2.2.1 ∧ okF ρ A.2.2.2.2
def agr (n : Nat) (ρ ρ' : Nat → Int) : Prop := ∀ s, s < n → ρ' s = ρ s
def upq (ρ : Nat → Int) (n : Nat) (x : Int) (s : Nat) : Int := if s = n then x else ρ s
theorem agr_upq {n : Nat} {ρ : Nat → Int} {x : Int} : agr n ρ (upq ρ n x) := fun s h => if_neg (by omega)
theorem upq_at {n : Nat} {ρ : Nat → Int} {x : Int} : upq ρ n x n = x := if_pos rfl
theorem agr_tr {n m : Nat} {a b c : Nat → Int} (h1 : agr n a b) (h2 : agr m b c) (h : n ≤ m) : agr n a c := fun s hs => by rw [h2 s (by omega), h1 s hs]
theorem evT_agr {n : Nat} {ρ ρ' : Nat → Int} (h : agr n ρ ρ') : ∀ {l : List (Nat × Int)}, l.all (fun t => Nat.blt t.1 n) = true → evT ρ' l = evT ρ l
  | [], _ => rfl
  | t :: r, hl => by
    rw [List.all_cons, Bool.and_eq_true] at hl
    show t.2 * ρ' t.1 + evT ρ' r = t.2 * ρ t.1 + evT ρ r
    rw [evT_agr h hl.2, h t.1 (Nat.blt_eq ▸ hl.1)]
theorem ev_agr {n : Nat} {ρ ρ' : Nat → Int} (h : agr n ρ ρ') {f : lf} (hf : ncF n f = true) : ev ρ' f = ev ρ f := by
  show f.1 + evT ρ' f.2 = f.1 + evT ρ f.2
  rw [evT_agr h hf]
theorem vm_agr {n : Nat} {ρ ρ' : Nat → Int} (h : agr n ρ ρ') {v : av} (hv : ncV n v = true) {x : pv} (hx : vm ρ v x) : vm ρ' v x := by
  cases v with
  | inl f => show x = vi (ev ρ' f); rw [ev_agr h hv]; exact hx
  | inr v => cases v with
    | inl u => cases u with
      | none => exact hx
      | some f => show x = vl (ev ρ' f); rw [ev_agr h hv]; exact hx
    | inr k => exact hx
theorem sm_agr {n : Nat} {ρ ρ' : Nat → Int} (h : agr n ρ ρ') : ∀ {a : List av} {l : List pv}, a.all (ncV n) = true → sm ρ a l → sm ρ' a l
  | [], [], _, _ => trivial
  | [], _ :: _, _, q => q.elim
  | _ :: _, [], _, q => q.elim
  | v :: a, x :: l, ha, q => by
    rw [List.all_cons, Bool.and_eq_true] at ha
    exact ⟨vm_agr h ha.1 q.1, sm_agr h ha.2 q.2⟩
theorem om_agr {n : Nat} {ρ ρ' : Nat → Int} (h : agr n ρ ρ') {o : Option av} (ho : ncO n o = true) {x : Option pv} (hx : om ρ o x) : om ρ' o x := by
  cases o with
  | none => trivial
  | some v => obtain ⟨y, h1, h2⟩ := hx; exact ⟨y, h1, vm_agr h ho h2⟩
theorem lm_agr {n : Nat} {ρ ρ' : Nat → Int} (h : agr n ρ ρ') : ∀ {a : List (Option av)} {l : pL}, a.all (ncO n) = true → lm ρ a l → lm ρ' a l
  | [], [], _, _ => trivial
  | [], _ :: _, _, q => q.elim
  | _ :: _, [], _, q => q.elim
  | v :: a, x :: l, ha, q => by
    rw [List.all_cons, Bool.and_eq_true] at ha
    exact ⟨om_agr h ha.1 q.1, lm_agr h ha.2 q.2⟩
theorem nc_and {n : Nat} {A : aA} (h : nc n A = true) : A.1.all (ncO n) = true ∧ A.2.1.all (ncV n) = true ∧ (∀ e ∈ A.2.2.1, ncF n e.2.1 = true ∧ ncF n e.2.2 = true) ∧ (∀ e ∈ A.2.2.2.1, e.1 < n) ∧ ∀ f ∈ A.2.2.2.2, ncF n f = true := by
  unfold nc at h
  rw [Bool.and_eq_true, Bool.and_eq_true, Bool.and_eq_true, Bool.and_eq_true] at h
  obtain ⟨⟨⟨⟨h1, h2⟩, h3⟩, h4⟩, h5⟩ := h
  refine ⟨h1, h2, fun e he => ?_, fun e he => ?_, fun f hf => List.all_eq_true.mp h5 f hf⟩
  · have := List.all_eq_true.mp h3 e he
    rw [Bool.and_eq_true] at this
    exact this
  · have := List.all_eq_true.mp h4 e he
    exact Nat.blt_eq ▸ this
theorem gam_agr {n : Nat} {ρ ρ' : Nat → Int} (h : agr n ρ ρ') {A : aA} (hA : nc n A = true) {L : pL} {S : List pv} {M : pM} (g : gam ρ A L S M) : gam ρ' A L S M := by
  obtain ⟨h1, h2, h3, h4, h5⟩ := nc_and hA
  obtain ⟨g1, g2, g3, g4, g5⟩ := g
  refine ⟨lm_agr h h1 g1, sm_agr h h2 g2, fun e he => ?_, fun e he => ?_, fun f hf => ?_⟩
  · rw [ev_agr h (h3 e he).1, ev_agr h (h3 e he).2]; exact g3 e he
  · rw [h e.1 (h4 e he)]; exact g4 e he
  · rw [ev_agr h (h5 f hf)]; exact g5 f hf
theorem sm_len {ρ : Nat → Int} : ∀ {a : List av} {l : List pv}, sm ρ a l → a.length = l.length
  | [], [], _ => rfl
  | [], _ :: _, q => q.elim
  | _ :: _, [], q => q.elim
  | _ :: a, _ :: l, q => by rw [List.length_cons, List.length_cons, sm_len q.2]
theorem lm_len {ρ : Nat → Int} : ∀ {a : List (Option av)} {l : pL}, lm ρ a l → a.length = l.length
  | [], [], _ => rfl
  | [], _ :: _, q => q.elim
  | _ :: _, [], q => q.elim
  | _ :: a, _ :: l, q => by rw [List.length_cons, List.length_cons, lm_len q.2]
theorem lm_at {ρ : Nat → Int} : ∀ {a : List (Option av)} {l : pL} {k : Nat} {v : av}, lm ρ a l → a[k]? = some (some v) → ∃ y, l[k]? = some (some y) ∧ vm ρ v y
  | [], [], k, v, _, h => by simp at h
  | [], _ :: _, _, _, q, _ => q.elim
  | _ :: _, [], _, _, q, _ => q.elim
  | o :: a, x :: l, 0, v, q, h => by
    have e : o = some v := by simpa using h
    subst e
    obtain ⟨y, h1, h2⟩ := q.1
    exact ⟨y, by rw [h1]; rfl, h2⟩
  | o :: a, x :: l, k + 1, v, q, h => by
    have h' : a[k]? = some (some v) := by simpa using h
    obtain ⟨y, h1, h2⟩ := lm_at q.2 h'
    exact ⟨y, by simpa using h1, h2⟩
theorem lm_set {ρ : Nat → Int} : ∀ {a : List (Option av)} {l : pL} {k : Nat} {o : Option av} {x : Option pv}, lm ρ a l → om ρ o x → lm ρ (a.set k o) (l.set k x)
  | [], [], _, _, _, _, _ => trivial
  | [], _ :: _, _, _, _, q, _ => q.elim
  | _ :: _, [], _, _, _, q, _ => q.elim
  | _ :: _, _ :: _, 0, _, _, q, h => ⟨h, q.2⟩
  | _ :: _, _ :: _, _ + 1, _, _, q, h => ⟨q.1, lm_set q.2 h⟩
