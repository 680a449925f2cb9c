section GL
variable {ty E : Nat → Nat}
theorem gLd_r {s : gS} : gLd ty E s s := fun n _ h => ⟨n, h⟩
theorem gLd_t {s s' s'' : gS} (h : gLd ty E s s') (h' : gLd ty E s' s'') : gLd ty E s s'' := fun n r hn => by
  obtain ⟨m, hm⟩ := h' n r hn
  exact h m r hm
theorem gLd_s {s s' : gS} (h : gst ty E s = .inl s') : gLd ty E s s' := fun n r hn => ⟨n + 1, by
  show (match gst ty E s with
    | .inl s' => grn ty E n s'
    | .inr r => some r) = some r
  rw [h]
  exact hn⟩
theorem gEr_s {s : gS} {e : Nat} (h : gst ty E s = .inr (.error e)) : gEr ty E s e := ⟨1, by
  show (match gst ty E s with
    | .inl s' => grn ty E 0 s'
    | .inr r => some r) = _
  rw [h]⟩
theorem gEr_l {s s' : gS} {e : Nat} (h : gLd ty E s s') (h' : gEr ty E s' e) : gEr ty E s e := by
  obtain ⟨m, hm⟩ := h'
  exact h m _ hm
/-- what stands on the pile S goes off before any sign of rank at most k -/
def gcl (k : Nat) (S : List (Nat × Nat)) (w : Nat) (c : List Nat) (S' : List (Nat × Nat)) (d : Nat) (c' : List Nat) : Prop := ∀ r, r ≤ k → gpop r S' d c' = gpop r S w c
theorem gcl_m {k j : Nat} {S S' : List (Nat × Nat)} {w d : Nat} {c c' : List Nat} (h : gcl k S w c S' d c') (hj : j ≤ k) : gcl j S w c S' d c' := fun r hr => h r (Nat.le_trans hr hj)
theorem gcl_p {k a p : Nat} {S S' : List (Nat × Nat)} {w d : Nat} {c c' : List Nat} (h : gcl k ((a, p) :: S) w c S' d c') (ha : a ≤ 6) (hk : k ≤ a) : gcl k S (if a = 3 then w - 1 else w) (p :: c) S' d c' := fun r hr => by
  rw [h r hr]
  exact if_pos ⟨ha, Nat.le_trans hr hk⟩
/-- a pile whose top stands under rank r -/
def gtp (r : Nat) (S : List (Nat × Nat)) : Prop := ∃ t S2, S = t :: S2 ∧ (t.1 < r ∨ 7 ≤ t.1)
theorem gtp_pop {r : Nat} {S : List (Nat × Nat)} {d : Nat} {c : List Nat} (h : gtp r S) : gpop r S d c = (S, d, c) := by
  obtain ⟨t, S2, rfl, h⟩ := h
  exact if_neg (by omega)
theorem gtp_m {r q : Nat} {S : List (Nat × Nat)} (h : gtp r S) (hq : r ≤ q) : gtp q S := by
  obtain ⟨t, S2, e, h⟩ := h
  exact ⟨t, S2, e, by omega⟩
theorem gtp_c {S : List (Nat × Nat)} (h : gtp 4 S) : gcm S = false := by
  obtain ⟨t, S2, rfl, h⟩ := h
  unfold gcm
  rw [if_neg (by omega)]
  exact decide_eq_false (by omega)
theorem gst_b {S : List (Nat × Nat)} {p u d : Nat} {c : List Nat} {k : Nat} {S0 : List (Nat × Nat)} {w : Nat} {c0 : List Nat} (hk : ty p = k) (h1 : k = 1 ∨ k = 2 ∨ k = 4 ∨ k = 5 ∨ k = 6) (h4 : k = 4 → gcm S = false) (hp : gpop k S d c = (S0, w, c0)) : gst ty E (false, S, p, u, d, c) = .inl (true, (k, p) :: S0, E p, u, w, c0) := by
  have hr : grk (ty p) = k := by unfold grk; rw [hk, if_pos h1]
  show (if ty p = 4 ∧ gcm S = true then _ else if grk (ty p) = 0 then _ else _) = _
  rw [if_neg (fun q => by
    have := h4 (by omega)
    rw [this] at q
    exact absurd q.2 (by decide)), hr, if_neg (by omega), hp]
def gok (ty E : Nat → Nat) (k : Nat) (st : gS) (S : List (Nat × Nat)) (w p u : Nat) (c : List Nat) : Prop := ∃ S' d c2, gLd ty E st (false, S', p, u, d, c2) ∧ gcl k S w c S' d c2 ∧ gcm S' = gcm S
def gow (ty E : Nat → Nat) (k : Nat) (st : gS) (S : List (Nat × Nat)) (w p u : Nat) (c : List Nat) : Prop := (ty p = 4 ∧ gEr ty E st p) ∨ (ty p ≠ 4 ∧ ∃ S' d c2, gLd ty E st (false, S', p, u, d, c2) ∧ gcl k S w c S' d c2)
/-- unit -/
def gA5 (ty E : Nat → Nat) (f : Nat) : Prop := ∀ w p u c r, gG ty E f 5 w p u c = some r → ∀ t S, (ty p = 3 → 3 < t.1 ∧ t.1 < 7) → match r with
  | .error e => gEr ty E (true, t :: S, p, u, w, c) e
  | .ok (p', u', c') => gLd ty E (true, t :: S, p, u, w, c) (false, t :: S, p', u', w, c')
def gA9 (ty E : Nat → Nat) (f : Nat) : Prop := ∀ w p u c r, gG ty E f 9 w p u c = some r → ∀ S S1 d1 c1, gtp 6 S → gcl 6 S w c S1 d1 c1 → gcm S1 = gcm S → match r with
  | .error e => gEr ty E (false, S1, p, u, d1, c1) e
  | .ok (p', u', c') => ty p' ≠ 6 ∧ gok ty E 5 (false, S1, p, u, d1, c1) S w p' u' c'
def gA4 (ty E : Nat → Nat) (f : Nat) : Prop := ∀ w p u c r, gG ty E f 4 w p u c = some r → ∀ t S, gtp 6 (t :: S) → (ty p = 3 → 3 < t.1 ∧ t.1 < 7) → match r with
  | .error e => gEr ty E (true, t :: S, p, u, w, c) e
  | .ok (p', u', c') => ty p' ≠ 6 ∧ gok ty E 5 (true, t :: S, p, u, w, c) (t :: S) w p' u' c'
def gA8 (ty E : Nat → Nat) (f : Nat) : Prop := ∀ w p u c r, gG ty E f 8 w p u c = some r → ty p ≠ 6 → ∀ S S1 d1 c1, gtp 5 S → gcl 5 S w c S1 d1 c1 → gcm S1 = gcm S → match r with
  | .error e => gEr ty E (false, S1, p, u, d1, c1) e
  | .ok (p', u', c') => (ty p' ≠ 6 ∧ ty p' ≠ 5) ∧ gok ty E 4 (false, S1, p, u, d1, c1) S w p' u' c'
def gA3 (ty E : Nat → Nat) (f : Nat) : Prop := ∀ w p u c r, gG ty E f 3 w p u c = some r → ∀ t S, gtp 5 (t :: S) → (ty p = 3 → 3 < t.1 ∧ t.1 < 7) → match r with
  | .error e => gEr ty E (true, t :: S, p, u, w, c) e
  | .ok (p', u', c') => (ty p' ≠ 6 ∧ ty p' ≠ 5) ∧ gok ty E 4 (true, t :: S, p, u, w, c) (t :: S) w p' u' c'
def gA2 (ty E : Nat → Nat) (f : Nat) : Prop := ∀ w p u c r, gG ty E f 2 w p u c = some r → ∀ t S, gtp 4 (t :: S) → match r with
  | .error e => gEr ty E (true, t :: S, p, u, w, c) e
  | .ok (p', u', c') => (ty p' ≠ 6 ∧ ty p' ≠ 5) ∧ gow ty E 3 (true, t :: S, p, u, w, c) (t :: S) w p' u' c'
def gA7 (ty E : Nat → Nat) (f : Nat) : Prop := ∀ w p u c r, gG ty E f 7 w p u c = some r → (ty p ≠ 6 ∧ ty p ≠ 5) → ty p ≠ 4 → ∀ S S1 d1 c1, gtp 2 S → gcl 2 S w c S1 d1 c1 → match r with
  | .error e => gEr ty E (false, S1, p, u, d1, c1) e
  | .ok (p', u', c') => (ty p' ≠ 6 ∧ ty p' ≠ 5 ∧ ty p' ≠ 2) ∧ gow ty E 1 (false, S1, p, u, d1, c1) S w p' u' c'
def gA1 (ty E : Nat → Nat) (f : Nat) : Prop := ∀ w p u c r, gG ty E f 1 w p u c = some r → ∀ t S, gtp 2 (t :: S) → match r with
  | .error e => gEr ty E (true, t :: S, p, u, w, c) e
  | .ok (p', u', c') => (ty p' ≠ 6 ∧ ty p' ≠ 5 ∧ ty p' ≠ 2) ∧ gow ty E 1 (true, t :: S, p, u, w, c) (t :: S) w p' u' c'
def gA6 (ty E : Nat → Nat) (f : Nat) : Prop := ∀ w p u c r, gG ty E f 6 w p u c = some r → (ty p ≠ 6 ∧ ty p ≠ 5 ∧ ty p ≠ 2) → ty p ≠ 4 → ∀ S S1 d1 c1, gtp 1 S → gcl 1 S w c S1 d1 c1 → match r with
  | .error e => gEr ty E (false, S1, p, u, d1, c1) e
  | .ok (p', u', c') => (ty p' ≠ 6 ∧ ty p' ≠ 5 ∧ ty p' ≠ 2 ∧ ty p' ≠ 1) ∧ gow ty E 0 (false, S1, p, u, d1, c1) S w p' u' c'
def gA0 (ty E : Nat → Nat) (f : Nat) : Prop := ∀ w p u c r, gG ty E f 0 w p u c = some r → ∀ t S, gtp 1 (t :: S) → match r with
  | .error e => gEr ty E (true, t :: S, p, u, w, c) e
  | .ok (p', u', c') => (ty p' ≠ 6 ∧ ty p' ≠ 5 ∧ ty p' ≠ 2 ∧ ty p' ≠ 1) ∧ gow ty E 0 (true, t :: S, p, u, w, c) (t :: S) w p' u' c'
theorem gb_e {x : gXr} {f : Nat → Nat → List Nat → gXr} {r : Except Nat gR} (h : gb x f = some r) : (∃ e, x = some (.error e) ∧ r = .error e) ∨ ∃ p u c, x = some (.ok (p, u, c)) ∧ f p u c = some r := by
  match x, h with
  | none, h => cases h
  | some (.error e), h => cases h; exact Or.inl ⟨e, rfl, rfl⟩
  | some (.ok (p, u, c)), h => exact Or.inr ⟨p, u, c, rfl, h⟩
theorem gS5 {f : Nat} (h0 : gA0 ty E f) : gA5 ty E (f + 1) := by
  intro w p u c r h t S ht
  have h : (if 60 ≤ u then some (.error p) else if ty p = 7 then (if 6 < w then some (.error p) else gb (gG ty E f 0 (w + 1) (E p) (u + 1) c) (fun p1 u1 c1 => if ty p1 = 8 then some (.ok (E p1, u1, c1)) else some (.error p1))) else if ty p = 9 then some (.ok (E p, u + 1, p :: c)) else some (.error p)) = some r := h
  have hn : ¬ (ty p = 3 ∧ (t.1 ≤ 3 ∨ 7 ≤ t.1)) := fun q => by have := ht q.1; omega
  have hs : gst ty E (true, t :: S, p, u, w, c) = (if 60 ≤ u then .inr (.error p) else if ty p = 7 then (if 6 < w then .inr (.error p) else .inl (true, (7, p) :: t :: S, E p, u + 1, w + 1, c)) else if ty p = 9 then .inl (false, t :: S, E p, u + 1, w, p :: c) else .inr (.error p)) := by
    show (if ty p = 3 ∧ (t.1 ≤ 3 ∨ 7 ≤ t.1) then _ else _) = _
    rw [if_neg hn]
  by_cases h1 : 60 ≤ u
  · rw [if_pos h1] at h hs
    cases h
    exact gEr_s hs
  rw [if_neg h1] at h hs
  by_cases h2 : ty p = 7
  · rw [if_pos h2] at h hs
    by_cases h3 : 6 < w
    · rw [if_pos h3] at h hs
      cases h
      exact gEr_s hs
    rw [if_neg h3] at h hs
    rcases gb_e h with ⟨e, x1, rfl⟩ | ⟨p1, u1, c1, x1, x2⟩
    · exact gEr_l (gLd_s hs) (h0 _ _ _ _ _ x1 (7, p) (t :: S) ⟨_, _, rfl, Or.inr (Nat.le_refl 7)⟩)
    · obtain ⟨⟨n1, n2, n3, n4⟩, q⟩ := h0 _ _ _ _ _ x1 (7, p) (t :: S) ⟨_, _, rfl, Or.inr (Nat.le_refl 7)⟩
      rcases q with ⟨q1, q2⟩ | ⟨q1, S', d, c2, q2, q3⟩
      · rw [if_neg (by omega)] at x2
        cases x2
        exact gEr_l (gLd_s hs) q2
      · have hk : grk (ty p1) = 0 := if_neg (by omega)
        have hpp : gpop 0 S' d c2 = ((7, p) :: t :: S, w + 1, c1) := by
          rw [q3 0 (Nat.le_refl 0)]
          exact if_neg (by omega)
        have hs1 : gst ty E (false, S', p1, u1, d, c2) = (if ty p1 = 8 then .inl (false, t :: S, E p1, u1, w + 1 - 1, c1) else .inr (.error p1)) := by
          show (if ty p1 = 4 ∧ gcm S' = true then _ else if grk (ty p1) = 0 then _ else _) = _
          rw [if_neg (fun z => q1 z.1), if_pos hk, hpp]
          rfl
        by_cases h8 : ty p1 = 8
        · rw [if_pos h8] at x2 hs1
          cases x2
          exact gLd_t (gLd_s hs) (gLd_t q2 (gLd_s hs1))
        · rw [if_neg h8] at x2 hs1
          cases x2
          exact gEr_l (gLd_s hs) (gEr_l q2 (gEr_s hs1))
  rw [if_neg h2] at h hs
  by_cases h9 : ty p = 9
  · rw [if_pos h9] at h hs
    cases h
    exact gLd_s hs
  · rw [if_neg h9] at h hs
    cases h
    exact gEr_s hs
theorem gS9 {f : Nat} (h5 : gA5 ty E f) (h9 : gA9 ty E f) : gA9 ty E (f + 1) := by
  intro w p u c r h S S1 d1 c1 hS hc hg
  have h : (if ty p = 6 then gb (gG ty E f 5 w (E p) u c) (fun p1 u1 c1 => gG ty E f 9 w p1 u1 (p :: c1)) else some (.ok (p, u, c))) = some r := h
  by_cases h1 : ty p = 6
  · rw [if_pos h1] at h
    have hs := gst_b (E := E) (u := u) h1 (by omega) (fun q => absurd q (by decide)) ((hc 6 (Nat.le_refl 6)).trans (gtp_pop hS))
    rcases gb_e h with ⟨e, x1, rfl⟩ | ⟨p1, u1, c2, x1, x2⟩
    · exact gEr_l (gLd_s hs) (h5 _ _ _ _ _ x1 (6, p) S (fun _ => ⟨by simp, by simp⟩))
    · have a := h5 _ _ _ _ _ x1 (6, p) S (fun _ => ⟨by simp, by simp⟩)
      have b := h9 _ _ _ _ _ x2 S ((6, p) :: S) w c2 hS (fun r hr => if_pos ⟨by simp, hr⟩) (if_pos (Or.inr rfl))
      have l := gLd_t (gLd_s hs) a
      match r, b with
      | .error e, b => exact gEr_l l b
      | .ok (p', u', c'), b =>
        obtain ⟨b1, S', d, c3, b2, b3, b4⟩ := b
        exact ⟨b1, S', d, c3, gLd_t l b2, b3, b4⟩
  · rw [if_neg h1] at h
    cases h
    exact ⟨h1, S1, d1, c1, gLd_r, gcl_m hc (by decide), hg⟩
theorem gS4 {f : Nat} (h5 : gA5 ty E f) (h9 : gA9 ty E f) : gA4 ty E (f + 1) := by
  intro w p u c r h t S hS ht
  rcases gb_e (show gb (gG ty E f 5 w p u c) (fun p u c => gG ty E f 9 w p u c) = some r from h) with ⟨e, x1, rfl⟩ | ⟨p1, u1, c1, x1, x2⟩
  · exact h5 _ _ _ _ _ x1 t S ht
  · have a := h5 _ _ _ _ _ x1 t S ht
    have b := h9 _ _ _ _ _ x2 (t :: S) (t :: S) w c1 hS (fun _ _ => rfl) rfl
    match r, b with
    | .error e, b => exact gEr_l a b
    | .ok (p', u', c'), b =>
      obtain ⟨b1, S', d, c3, b2, b3, b4⟩ := b
      exact ⟨b1, S', d, c3, gLd_t a b2, b3, b4⟩
theorem gS8 {f : Nat} (h4 : gA4 ty E f) (h8 : gA8 ty E f) : gA8 ty E (f + 1) := by
  intro w p u c r h hp S S1 d1 c1 hS hc hg
  have h : (if ty p = 5 then gb (gG ty E f 4 w (E p) u c) (fun p1 u1 c1 => gG ty E f 8 w p1 u1 (p :: c1)) else some (.ok (p, u, c))) = some r := h
  by_cases h1 : ty p = 5
  · rw [if_pos h1] at h
    have hs := gst_b (E := E) (u := u) h1 (by omega) (fun q => absurd q (by decide)) ((hc 5 (Nat.le_refl 5)).trans (gtp_pop hS))
    have ht : gtp 6 ((5, p) :: S) := ⟨_, _, rfl, Or.inl (by simp)⟩
    rcases gb_e h with ⟨e, x1, rfl⟩ | ⟨p1, u1, c2, x1, x2⟩
    · exact gEr_l (gLd_s hs) (h4 _ _ _ _ _ x1 (5, p) S ht (fun _ => ⟨by simp, by simp⟩))
    · obtain ⟨a1, S2, d2, c3, a2, a3, a4⟩ := h4 _ _ _ _ _ x1 (5, p) S ht (fun _ => ⟨by simp, by simp⟩)
      have b := h8 _ _ _ _ _ x2 a1 S S2 d2 c3 hS (gcl_p a3 (by decide) (by decide)) (a4.trans (if_pos (Or.inl rfl)))
      have l := gLd_t (gLd_s hs) a2
      match r, b with
      | .error e, b => exact gEr_l l b
      | .ok (p', u', c'), b =>
        obtain ⟨b1, S', d, c3, b2, b3, b4⟩ := b
        exact ⟨b1, S', d, c3, gLd_t l b2, b3, b4⟩
  · rw [if_neg h1] at h
    cases h
    exact ⟨⟨hp, h1⟩, S1, d1, c1, gLd_r, gcl_m hc (by decide), hg⟩
theorem gS3 {f : Nat} (h4 : gA4 ty E f) (h8 : gA8 ty E f) : gA3 ty E (f + 1) := by
  intro w p u c r h t S hS ht
  have hS6 := gtp_m hS (show 5 ≤ 6 by decide)
  rcases gb_e (show gb (gG ty E f 4 w p u c) (fun p u c => gG ty E f 8 w p u c) = some r from h) with ⟨e, x1, rfl⟩ | ⟨p1, u1, c1, x1, x2⟩
  · exact h4 _ _ _ _ _ x1 t S hS6 ht
  · obtain ⟨a1, S2, d2, c3, a2, a3, a4⟩ := h4 _ _ _ _ _ x1 t S hS6 ht
    have b := h8 _ _ _ _ _ x2 a1 (t :: S) S2 d2 c3 hS a3 a4
    match r, b with
    | .error e, b => exact gEr_l a2 b
    | .ok (p', u', c'), b =>
      obtain ⟨b1, S', d, c3, b2, b3, b4⟩ := b
      exact ⟨b1, S', d, c3, gLd_t a2 b2, b3, b4⟩
theorem gS2 {f : Nat} (h2 : gA2 ty E f) (h3 : gA3 ty E f) : gA2 ty E (f + 1) := by
  intro w p u c r h t S hS
  have h : (if ty p = 3 then (if 6 < w then some (.error p) else gb (gG ty E f 2 (w + 1) (E p) u c) (fun p1 u1 c1 => some (.ok (p1, u1, p :: c1)))) else gb (gG ty E f 3 w p u c) (fun p1 u1 c1 => if ty p1 = 4 then gb (gG ty E f 3 w (E p1) u1 c1) (fun p2 u2 c2 => some (.ok (p2, u2, p1 :: c2))) else some (.ok (p1, u1, c1)))) = some r := h
  have hS' := hS
  obtain ⟨t', S', e', ht⟩ := hS'
  have e1 : t = t' := (List.cons.inj e').1
  subst e1
  by_cases h1 : ty p = 3
  · rw [if_pos h1] at h
    have hs : gst ty E (true, t :: S, p, u, w, c) = (if 6 < w then .inr (.error p) else .inl (true, (3, p) :: t :: S, E p, u, w + 1, c)) := by
      show (if ty p = 3 ∧ (t.1 ≤ 3 ∨ 7 ≤ t.1) then _ else _) = _
      rw [if_pos ⟨h1, by omega⟩]
    by_cases h6 : 6 < w
    · rw [if_pos h6] at h hs
      cases h
      exact gEr_s hs
    rw [if_neg h6] at h hs
    have hT : gtp 4 ((3, p) :: t :: S) := ⟨_, _, rfl, Or.inl (by simp)⟩
    rcases gb_e h with ⟨e, x1, rfl⟩ | ⟨p1, u1, c1, x1, x2⟩
    · exact gEr_l (gLd_s hs) (h2 _ _ _ _ _ x1 (3, p) (t :: S) hT)
    · cases x2
      obtain ⟨a1, a⟩ := h2 _ _ _ _ _ x1 (3, p) (t :: S) hT
      refine ⟨a1, ?_⟩
      rcases a with ⟨a2, a3⟩ | ⟨a2, S2, d2, c3, a3, a4⟩
      · exact Or.inl ⟨a2, gEr_l (gLd_s hs) a3⟩
      · exact Or.inr ⟨a2, S2, d2, c3, gLd_t (gLd_s hs) a3, gcl_p a4 (by decide) (by decide)⟩
  · rw [if_neg h1] at h
    have hS5 := gtp_m hS (show 4 ≤ 5 by decide)
    rcases gb_e h with ⟨e, x1, rfl⟩ | ⟨p1, u1, c1, x1, x2⟩
    · exact h3 _ _ _ _ _ x1 t S hS5 (fun q => absurd q h1)
    · obtain ⟨a1, S2, d2, c3, a2, a3, a4⟩ := h3 _ _ _ _ _ x1 t S hS5 (fun q => absurd q h1)
      by_cases h4 : ty p1 = 4
      · rw [if_pos h4] at x2
        have hs := gst_b (E := E) (u := u1) h4 (by omega) (fun _ => a4.trans (gtp_c hS)) ((a3 4 (Nat.le_refl 4)).trans (gtp_pop hS))
        have hT : gtp 5 ((4, p1) :: t :: S) := ⟨_, _, rfl, Or.inl (by simp)⟩
        have l := gLd_t a2 (gLd_s hs)
        rcases gb_e x2 with ⟨e, y1, rfl⟩ | ⟨p2, u2, c4, y1, y2⟩
        · exact gEr_l l (h3 _ _ _ _ _ y1 (4, p1) (t :: S) hT (fun _ => ⟨by simp, by simp⟩))
        · cases y2
          obtain ⟨b1, S3, d3, c5, b2, b3, b4⟩ := h3 _ _ _ _ _ y1 (4, p1) (t :: S) hT (fun _ => ⟨by simp, by simp⟩)
          refine ⟨b1, ?_⟩
          by_cases h5 : ty p2 = 4
          · refine Or.inl ⟨h5, gEr_l (gLd_t l b2) (gEr_s ?_)⟩
            show (if ty p2 = 4 ∧ gcm S3 = true then _ else _) = _
            rw [if_pos ⟨h5, b4.trans rfl⟩]
          · exact Or.inr ⟨h5, S3, d3, c5, gLd_t l b2, gcl_m (gcl_p b3 (by decide) (by decide)) (by decide)⟩
      · rw [if_neg h4] at x2
        cases x2
        exact ⟨a1, Or.inr ⟨h4, S2, d2, c3, a2, gcl_m a3 (by decide)⟩⟩
theorem gS7 {f : Nat} (h2 : gA2 ty E f) (h7 : gA7 ty E f) (h70 : ∀ w p u c r, gG ty E f 7 w p u c = some r → ty p ≠ 2 → r = .ok (p, u, c)) : gA7 ty E (f + 1) := by
  intro w p u c r h hp hp4 S S1 d1 c1 hS hc
  have h : (if ty p = 2 then gb (gG ty E f 2 w (E p) u c) (fun p1 u1 c1 => gG ty E f 7 w p1 u1 (p :: c1)) else some (.ok (p, u, c))) = some r := h
  by_cases h1 : ty p = 2
  · rw [if_pos h1] at h
    have hs := gst_b (E := E) (u := u) h1 (by omega) (fun q => absurd q (by decide)) ((hc 2 (Nat.le_refl 2)).trans (gtp_pop hS))
    have ht : gtp 4 ((2, p) :: S) := ⟨_, _, rfl, Or.inl (by simp)⟩
    rcases gb_e h with ⟨e, x1, rfl⟩ | ⟨p1, u1, c2, x1, x2⟩
    · exact gEr_l (gLd_s hs) (h2 _ _ _ _ _ x1 (2, p) S ht)
    · obtain ⟨a1, a⟩ := h2 _ _ _ _ _ x1 (2, p) S ht
      rcases a with ⟨a2, a3⟩ | ⟨a2, S2, d2, c3, a3, a4⟩
      · have e := h70 _ _ _ _ _ x2 (by omega)
        subst e
        exact ⟨⟨a1.1, a1.2, by omega⟩, Or.inl ⟨a2, gEr_l (gLd_s hs) a3⟩⟩
      · have b := h7 _ _ _ _ _ x2 a1 a2 S S2 d2 c3 hS
        have l := gLd_t (gLd_s hs) a3
        have b := b (gcl_p (gcl_m a4 (by decide)) (by decide) (by decide))
        match r, b with
        | .error e, b => exact gEr_l l b
        | .ok (p', u', c'), b =>
          obtain ⟨b1, b⟩ := b
          refine ⟨b1, ?_⟩
          rcases b with ⟨b2, b3⟩ | ⟨b2, S3, d3, c4, b3, b4⟩
          · exact Or.inl ⟨b2, gEr_l l b3⟩
          · exact Or.inr ⟨b2, S3, d3, c4, gLd_t l b3, b4⟩
  · rw [if_neg h1] at h
    cases h
    exact ⟨⟨hp.1, hp.2, h1⟩, Or.inr ⟨hp4, S1, d1, c1, gLd_r, gcl_m hc (by decide)⟩⟩
theorem g7o {f w p u : Nat} {c : List Nat} {r : Except Nat gR} (h : gG ty E f 7 w p u c = some r) (hp : ty p ≠ 2) : r = .ok (p, u, c) := by
  cases f with
  | zero => cases h
  | succ f =>
    have h : (if ty p = 2 then gb (gG ty E f 2 w (E p) u c) (fun p1 u1 c1 => gG ty E f 7 w p1 u1 (p :: c1)) else some (.ok (p, u, c))) = some r := h
    rw [if_neg hp] at h
    cases h
    rfl
theorem g6o {f w p u : Nat} {c : List Nat} {r : Except Nat gR} (h : gG ty E f 6 w p u c = some r) (hp : ty p ≠ 1) : r = .ok (p, u, c) := by
  cases f with
  | zero => cases h
  | succ f =>
    have h : (if ty p = 1 then gb (gG ty E f 1 w (E p) u c) (fun p1 u1 c1 => gG ty E f 6 w p1 u1 (p :: c1)) else some (.ok (p, u, c))) = some r := h
    rw [if_neg hp] at h
    cases h
    rfl
theorem gS1 {f : Nat} (h2 : gA2 ty E f) (h7 : gA7 ty E f) : gA1 ty E (f + 1) := by
  intro w p u c r h t S hS
  have hS4 := gtp_m hS (show 2 ≤ 4 by decide)
  rcases gb_e (show gb (gG ty E f 2 w p u c) (fun p u c => gG ty E f 7 w p u c) = some r from h) with ⟨e, x1, rfl⟩ | ⟨p1, u1, c1, x1, x2⟩
  · exact h2 _ _ _ _ _ x1 t S hS4
  · obtain ⟨a1, a⟩ := h2 _ _ _ _ _ x1 t S hS4
    rcases a with ⟨a2, a3⟩ | ⟨a2, S2, d2, c3, a3, a4⟩
    · have e := g7o x2 (by omega)
      subst e
      exact ⟨⟨a1.1, a1.2, by omega⟩, Or.inl ⟨a2, a3⟩⟩
    · have b := h7 _ _ _ _ _ x2 a1 a2 (t :: S) S2 d2 c3 hS (gcl_m a4 (by decide))
      match r, b with
      | .error e, b => exact gEr_l a3 b
      | .ok (p', u', c'), b =>
        obtain ⟨b1, b⟩ := b
        refine ⟨b1, ?_⟩
        rcases b with ⟨b2, b3⟩ | ⟨b2, S3, d3, c4, b3, b4⟩
        · exact Or.inl ⟨b2, gEr_l a3 b3⟩
        · exact Or.inr ⟨b2, S3, d3, c4, gLd_t a3 b3, b4⟩
theorem gS6 {f : Nat} (h1 : gA1 ty E f) (h6 : gA6 ty E f) : gA6 ty E (f + 1) := by
  intro w p u c r h hp hp4 S S1 d1 c1 hS hc
  have h : (if ty p = 1 then gb (gG ty E f 1 w (E p) u c) (fun p1 u1 c1 => gG ty E f 6 w p1 u1 (p :: c1)) else some (.ok (p, u, c))) = some r := h
  by_cases e1 : ty p = 1
  · rw [if_pos e1] at h
    have hs := gst_b (E := E) (u := u) e1 (by omega) (fun q => absurd q (by decide)) ((hc 1 (Nat.le_refl 1)).trans (gtp_pop hS))
    have ht : gtp 2 ((1, p) :: S) := ⟨_, _, rfl, Or.inl (by simp)⟩
    rcases gb_e h with ⟨e, x1, rfl⟩ | ⟨p1, u1, c2, x1, x2⟩
    · exact gEr_l (gLd_s hs) (h1 _ _ _ _ _ x1 (1, p) S ht)
    · obtain ⟨a1, a⟩ := h1 _ _ _ _ _ x1 (1, p) S ht
      rcases a with ⟨a2, a3⟩ | ⟨a2, S2, d2, c3, a3, a4⟩
      · have e := g6o x2 (by omega)
        subst e
        exact ⟨⟨a1.1, a1.2.1, a1.2.2, by omega⟩, Or.inl ⟨a2, gEr_l (gLd_s hs) a3⟩⟩
      · have b := h6 _ _ _ _ _ x2 a1 a2 S S2 d2 c3 hS (gcl_p a4 (by decide) (by decide))
        have l := gLd_t (gLd_s hs) a3
        match r, b with
        | .error e, b => exact gEr_l l b
        | .ok (p', u', c'), b =>
          obtain ⟨b1, b⟩ := b
          refine ⟨b1, ?_⟩
          rcases b with ⟨b2, b3⟩ | ⟨b2, S3, d3, c4, b3, b4⟩
          · exact Or.inl ⟨b2, gEr_l l b3⟩
          · exact Or.inr ⟨b2, S3, d3, c4, gLd_t l b3, b4⟩
  · rw [if_neg e1] at h
    cases h
    exact ⟨⟨hp.1, hp.2.1, hp.2.2, e1⟩, Or.inr ⟨hp4, S1, d1, c1, gLd_r, gcl_m hc (by decide)⟩⟩
theorem gS0 {f : Nat} (h1 : gA1 ty E f) (h6 : gA6 ty E f) : gA0 ty E (f + 1) := by
  intro w p u c r h t S hS
  have hS2 := gtp_m hS (show 1 ≤ 2 by decide)
  rcases gb_e (show gb (gG ty E f 1 w p u c) (fun p u c => gG ty E f 6 w p u c) = some r from h) with ⟨e, x1, rfl⟩ | ⟨p1, u1, c1, x1, x2⟩
  · exact h1 _ _ _ _ _ x1 t S hS2
  · obtain ⟨a1, a⟩ := h1 _ _ _ _ _ x1 t S hS2
    rcases a with ⟨a2, a3⟩ | ⟨a2, S2, d2, c3, a3, a4⟩
    · have e := g6o x2 (by omega)
      subst e
      exact ⟨⟨a1.1, a1.2.1, a1.2.2, by omega⟩, Or.inl ⟨a2, a3⟩⟩
    · have b := h6 _ _ _ _ _ x2 a1 a2 (t :: S) S2 d2 c3 hS a4
      match r, b with
      | .error e, b => exact gEr_l a3 b
      | .ok (p', u', c'), b =>
        obtain ⟨b1, b⟩ := b
        refine ⟨b1, ?_⟩
        rcases b with ⟨b2, b3⟩ | ⟨b2, S3, d3, c4, b3, b4⟩
        · exact Or.inl ⟨b2, gEr_l a3 b3⟩
        · exact Or.inr ⟨b2, S3, d3, c4, gLd_t a3 b3, b4⟩
theorem gsim : ∀ f : Nat, gA0 ty E f ∧ gA1 ty E f ∧ gA2 ty E f ∧ gA3 ty E f ∧ gA4 ty E f ∧ gA5 ty E f ∧ gA6 ty E f ∧ gA7 ty E f ∧ gA8 ty E f ∧ gA9 ty E f
  | 0 => by
    have z : ∀ l w p u c r, gG ty E 0 l w p u c = some r → False := fun l w p u c r h => by
      have h : (none : gXr) = some r := h
      cases h
    refine ⟨?_, ?_, ?_, ?_, ?_, ?_, ?_, ?_, ?_, ?_⟩ <;> (intro w p u c r h; exact (z _ _ _ _ _ _ h).elim)
  | f + 1 => by
    obtain ⟨h0, h1, h2, h3, h4, h5, h6, h7, h8, h9⟩ := gsim f
    exact ⟨gS0 h1 h6, gS1 h2 h7, gS2 h2 h3, gS3 h4 h8, gS4 h5 h9, gS5 h0, gS6 h1 h6, gS7 h2 h7 (fun _ _ _ _ _ h hp => g7o h hp), gS8 h4 h8, gS9 h5 h9⟩
/-- the whole law: from the pile that holds its own frame alone -/
theorem glaw {f p u : Nat} {r : Except Nat gR} (h : gG ty E f 0 0 p u [] = some r) : match r with
  | .error e => gEr ty E (true, [(8, 0)], p, u, 0, []) e
  | .ok (p', u', c') => gEr ty E (true, [(8, 0)], p, u, 0, []) p' ∧ ty p' = 4 ∨ ∃ m, grn ty E m (true, [(8, 0)], p, u, 0, []) = some (.ok (p', u', c')) := by
  have a := (gsim (ty := ty) (E := E) f).1 _ _ _ _ _ h (8, 0) [] ⟨_, _, rfl, Or.inr (by decide)⟩
  match r, a with
  | .error e, a => exact a
  | .ok (p', u', c'), a =>
    obtain ⟨⟨n1, n2, n3, n4⟩, a⟩ := a
    rcases a with ⟨a1, a2⟩ | ⟨a1, S', d, c2, a2, a3⟩
    · exact Or.inl ⟨a2, a1⟩
    · refine Or.inr (a2 1 _ ?_)
      have hk : grk (ty p') = 0 := if_neg (by omega)
      have hpp : gpop 0 S' d c2 = ([(8, 0)], 0, c') := by
        rw [a3 0 (Nat.le_refl 0)]
        exact if_neg (by decide)
      have hs : gst ty E (false, S', p', u', d, c2) = .inr (.ok (p', u', c')) := by
        show (if ty p' = 4 ∧ gcm S' = true then _ else if grk (ty p') = 0 then _ else _) = _
        rw [if_neg (fun z => a1 z.1), if_pos hk, hpp]
        rfl
      show (match gst ty E (false, S', p', u', d, c2) with
        | .inl s' => grn ty E 0 s'
        | .inr r => some r) = _
      rw [hs]
end GL
/-! ===== the law's sayings: what the reader's steps come to ===== -/
section GM
variable {ty E : Nat → Nat} {f w p u : Nat} {c : List Nat}
theorem gG0 : gG ty E (f + 1) 0 w p u c = gb (gG ty E f 1 w p u c) (fun p u c => gG ty E f 6 w p u c) := rfl
theorem gG1 : gG ty E (f + 1) 1 w p u c = gb (gG ty E f 2 w p u c) (fun p u c => gG ty E f 7 w p u c) := rfl
theorem gG2 : gG ty E (f + 1) 2 w p u c = if ty p = 3 then (if 6 < w then some (.error p) else gb (gG ty E f 2 (w + 1) (E p) u c) (fun p1 u1 c1 => some (.ok (p1, u1, p :: c1)))) else gb (gG ty E f 3 w p u c) (fun p1 u1 c1 => if ty p1 = 4 then gb (gG ty E f 3 w (E p1) u1 c1) (fun p2 u2 c2 => some (.ok (p2, u2, p1 :: c2))) else some (.ok (p1, u1, c1))) := rfl
theorem gG3 : gG ty E (f + 1) 3 w p u c = gb (gG ty E f 4 w p u c) (fun p u c => gG ty E f 8 w p u c) := rfl
theorem gG4 : gG ty E (f + 1) 4 w p u c = gb (gG ty E f 5 w p u c) (fun p u c => gG ty E f 9 w p u c) := rfl
theorem gG5 : gG ty E (f + 1) 5 w p u c = if 60 ≤ u then some (.error p) else if ty p = 7 then (if 6 < w then some (.error p) else gb (gG ty E f 0 (w + 1) (E p) (u + 1) c) (fun p1 u1 c1 => if ty p1 = 8 then some (.ok (E p1, u1, c1)) else some (.error p1))) else if ty p = 9 then some (.ok (E p, u + 1, p :: c)) else some (.error p) := rfl
theorem gG6 : gG ty E (f + 1) 6 w p u c = if ty p = 1 then gb (gG ty E f 1 w (E p) u c) (fun p1 u1 c1 => gG ty E f 6 w p1 u1 (p :: c1)) else some (.ok (p, u, c)) := rfl
theorem gG7 : gG ty E (f + 1) 7 w p u c = if ty p = 2 then gb (gG ty E f 2 w (E p) u c) (fun p1 u1 c1 => gG ty E f 7 w p1 u1 (p :: c1)) else some (.ok (p, u, c)) := rfl
theorem gG8 : gG ty E (f + 1) 8 w p u c = if ty p = 5 then gb (gG ty E f 4 w (E p) u c) (fun p1 u1 c1 => gG ty E f 8 w p1 u1 (p :: c1)) else some (.ok (p, u, c)) := rfl
theorem gG9 : gG ty E (f + 1) 9 w p u c = if ty p = 6 then gb (gG ty E f 5 w (E p) u c) (fun p1 u1 c1 => gG ty E f 9 w p1 u1 (p :: c1)) else some (.ok (p, u, c)) := rfl
theorem gG_o {l : Nat} : gG ty E (f + 1) (l + 10) w p u c = none := rfl
theorem gG_z {l : Nat} : gG ty E 0 l w p u c = none := rfl
theorem gb_m {x x' : gXr} {k k' : Nat → Nat → List Nat → gXr} {r : Except Nat gR} (h : gb x k = some r) (hx : ∀ r, x = some r → x' = some r) (hk : ∀ p u c r, k p u c = some r → k' p u c = some r) : gb x' k' = some r := by
  rcases gb_e h with ⟨e, x1, rfl⟩ | ⟨p, u, c, x1, x2⟩
  · rw [hx _ x1]; rfl
  · rw [hx _ x1]; exact hk _ _ _ _ x2
theorem gG_m {ty E : Nat → Nat} : ∀ (f l w p u : Nat) (c : List Nat) (r : Except Nat gR), gG ty E f l w p u c = some r → gG ty E (f + 1) l w p u c = some r
  | 0, _, _, _, _, _, _, h => by rw [gG_z] at h; cases h
  | f + 1, 0, w, p, u, c, r, h => by rw [gG0] at h ⊢; exact gb_m h (fun _ => gG_m f _ _ _ _ _ _) (fun _ _ _ _ => gG_m f _ _ _ _ _ _)
  | f + 1, 1, w, p, u, c, r, h => by rw [gG1] at h ⊢; exact gb_m h (fun _ => gG_m f _ _ _ _ _ _) (fun _ _ _ _ => gG_m f _ _ _ _ _ _)
  | f + 1, 2, w, p, u, c, r, h => by
    rw [gG2] at h ⊢
    by_cases h1 : ty p = 3
    · rw [if_pos h1] at h ⊢
      by_cases h2 : 6 < w
      · rw [if_pos h2] at h ⊢; exact h
      · rw [if_neg h2] at h ⊢; exact gb_m h (fun _ => gG_m f _ _ _ _ _ _) (fun _ _ _ _ h => h)
    · rw [if_neg h1] at h ⊢
      refine gb_m h (fun _ => gG_m f _ _ _ _ _ _) (fun p1 u1 c1 r h => ?_)
      by_cases h4 : ty p1 = 4
      · rw [if_pos h4] at h ⊢; exact gb_m h (fun _ => gG_m f _ _ _ _ _ _) (fun _ _ _ _ h => h)
      · rw [if_neg h4] at h ⊢; exact h
  | f + 1, 3, w, p, u, c, r, h => by rw [gG3] at h ⊢; exact gb_m h (fun _ => gG_m f _ _ _ _ _ _) (fun _ _ _ _ => gG_m f _ _ _ _ _ _)
  | f + 1, 4, w, p, u, c, r, h => by rw [gG4] at h ⊢; exact gb_m h (fun _ => gG_m f _ _ _ _ _ _) (fun _ _ _ _ => gG_m f _ _ _ _ _ _)
  | f + 1, 5, w, p, u, c, r, h => by
    rw [gG5] at h ⊢
    by_cases h1 : 60 ≤ u
    · rw [if_pos h1] at h ⊢; exact h
    rw [if_neg h1] at h ⊢
    by_cases h2 : ty p = 7
    · rw [if_pos h2] at h ⊢
      by_cases h3 : 6 < w
      · rw [if_pos h3] at h ⊢; exact h
      · rw [if_neg h3] at h ⊢; exact gb_m h (fun _ => gG_m f _ _ _ _ _ _) (fun _ _ _ _ h => h)
    · rw [if_neg h2] at h ⊢; exact h
  | f + 1, 6, w, p, u, c, r, h => by
    rw [gG6] at h ⊢
    by_cases h1 : ty p = 1
    · rw [if_pos h1] at h ⊢; exact gb_m h (fun _ => gG_m f _ _ _ _ _ _) (fun _ _ _ _ => gG_m f _ _ _ _ _ _)
    · rw [if_neg h1] at h ⊢; exact h
  | f + 1, 7, w, p, u, c, r, h => by
    rw [gG7] at h ⊢
    by_cases h1 : ty p = 2
    · rw [if_pos h1] at h ⊢; exact gb_m h (fun _ => gG_m f _ _ _ _ _ _) (fun _ _ _ _ => gG_m f _ _ _ _ _ _)
    · rw [if_neg h1] at h ⊢; exact h
  | f + 1, 8, w, p, u, c, r, h => by
    rw [gG8] at h ⊢
    by_cases h1 : ty p = 5
    · rw [if_pos h1] at h ⊢; exact gb_m h (fun _ => gG_m f _ _ _ _ _ _) (fun _ _ _ _ => gG_m f _ _ _ _ _ _)
    · rw [if_neg h1] at h ⊢; exact h
  | f + 1, 9, w, p, u, c, r, h => by
    rw [gG9] at h ⊢
    by_cases h1 : ty p = 6
    · rw [if_pos h1] at h ⊢; exact gb_m h (fun _ => gG_m f _ _ _ _ _ _) (fun _ _ _ _ => gG_m f _ _ _ _ _ _)
    · rw [if_neg h1] at h ⊢; exact h
  | f + 1, l + 10, w, p, u, c, r, h => by rw [gG_o] at h; cases h
theorem gG_le {ty E : Nat → Nat} {f g l w p u : Nat} {c : List Nat} {r : Except Nat gR} (hfg : f ≤ g) (h : gG ty E f l w p u c = some r) : gG ty E g l w p u c = some r := by
  obtain ⟨k, rfl⟩ := Nat.exists_eq_add_of_le hfg
  clear hfg
  induction k with
  | zero => exact h
  | succ k ih => exact gG_m _ _ _ _ _ _ _ ih
end GM
section GN
variable {T : pM} {l w p u q v : Nat} {y : Int}
theorem gV_e (h : gVp T l w p u y) (hy : y ≤ 1900) : ∃ e f : Nat, e ≤ 1900 ∧ y = (e : Int) ∧ ∀ c, gG (ltt T) (tE T) f l w p u c = some (.error e) := by
  rcases h with h | ⟨q, v, f, h1, h2, h3, _⟩
  · exact h
  · unfold lkv at h3; omega
theorem gV_o (h : gVp T l w p u (lkv q v)) (hv : v ≤ 60) : ∃ f : Nat, ∀ c, ∃ c', gG (ltt T) (tE T) f l w p u c = some (.ok (q, v, c')) := by
  rcases h with ⟨e, f, h1, h2, _⟩ | ⟨q', v', f, h1, h2, h3, h4⟩
  · unfold lkv at h2; omega
  · have e1 : q' = q := by unfold lkv at h3; omega
    have e2 : v' = v := by unfold lkv at h3; omega
    subst e1; subst e2
    exact ⟨f, h4⟩
theorem gV_E (hp : p ≤ 1900) {e f : Nat} (he : e ≤ 1900) (h : ∀ c, gG (ltt T) (tE T) f l w p u c = some (.error e)) : gVp T l w p u e := Or.inl ⟨e, f, he, rfl, h⟩
/-- one reading, then another behind it -/
theorem gV_b {s lp p1 u1 : Nat} {g : List Nat → List Nat} (hd : ∀ f c, gG (ltt T) (tE T) (f + 1) l w p u c = gb (gG (ltt T) (tE T) f s w p1 u1 c) (fun p2 u2 c2 => gG (ltt T) (tE T) f lp w p2 u2 (g c2))) (hv : v ≤ 60) (h1 : gVp T s w p1 u1 (lkv q v)) (h2 : gVp T lp w q v y) : gVp T l w p u y := by
  obtain ⟨f1, h1⟩ := gV_o h1 hv
  rcases h2 with ⟨e, f2, a1, a2, a3⟩ | ⟨q2, v2, f2, a1, a2, a3, a4⟩
  · refine Or.inl ⟨e, max f1 f2 + 1, a1, a2, fun c => ?_⟩
    obtain ⟨c', h1⟩ := h1 c
    rw [hd, gG_le (Nat.le_max_left _ _) h1]
    exact gG_le (Nat.le_max_right _ _) (a3 _)
  · refine Or.inr ⟨q2, v2, max f1 f2 + 1, a1, a2, a3, fun c => ?_⟩
    obtain ⟨c', h1⟩ := h1 c
    obtain ⟨c2, a4⟩ := a4 (g c')
    refine ⟨c2, ?_⟩
    rw [hd, gG_le (Nat.le_max_left _ _) h1]
    exact gG_le (Nat.le_max_right _ _) a4
theorem gV_x {s w1 p1 u1 : Nat} {k : Nat → Nat → Nat → List Nat → gXr} (hd : ∀ f c, gG (ltt T) (tE T) (f + 1) l w p u c = gb (gG (ltt T) (tE T) f s w1 p1 u1 c) (k f)) (hy : y ≤ 1900) (h1 : gVp T s w1 p1 u1 y) : gVp T l w p u y := by
  obtain ⟨e, f, a1, a2, a3⟩ := gV_e h1 hy
  exact Or.inl ⟨e, f + 1, a1, a2, fun c => by rw [hd, a3]; rfl⟩
theorem gV_1 (hq : q ≤ 1900) (hv : v ≤ 60) (h : ∀ c, ∃ c', gG (ltt T) (tE T) 1 l w p u c = some (.ok (q, v, c'))) : gVp T l w p u (lkv q v) := Or.inr ⟨q, v, 1, hq, hv, rfl, h⟩
/-- one reading, then an answer -/
theorem gV_r {s w1 p1 u1 q2 v2 : Nat} {k : Nat → Nat → List Nat → gXr} (hd : ∀ f c, gG (ltt T) (tE T) (f + 1) l w p u c = gb (gG (ltt T) (tE T) f s w1 p1 u1 c) k) (hv : v ≤ 60) (hq2 : q2 ≤ 1900) (hv2 : v2 ≤ 60) (h1 : gVp T s w1 p1 u1 (lkv q v)) (hk : ∀ c, ∃ c', k q v c = some (.ok (q2, v2, c'))) : gVp T l w p u (lkv q2 v2) := by
  obtain ⟨f1, h1⟩ := gV_o h1 hv
  refine Or.inr ⟨q2, v2, f1 + 1, hq2, hv2, rfl, fun c => ?_⟩
  obtain ⟨c1, h1⟩ := h1 c
  obtain ⟨c2, hk⟩ := hk c1
  exact ⟨c2, by rw [hd, h1]; exact hk⟩
theorem gV_s {s w1 p1 u1 e : Nat} {k : Nat → Nat → List Nat → gXr} (hd : ∀ f c, gG (ltt T) (tE T) (f + 1) l w p u c = gb (gG (ltt T) (tE T) f s w1 p1 u1 c) k) (hv : v ≤ 60) (he : e ≤ 1900) (h1 : gVp T s w1 p1 u1 (lkv q v)) (hk : ∀ c, k q v c = some (.error e)) : gVp T l w p u e := by
  obtain ⟨f1, h1⟩ := gV_o h1 hv
  refine Or.inl ⟨e, f1 + 1, he, rfl, fun c => ?_⟩
  obtain ⟨c1, h1⟩ := h1 c
  rw [hd, h1]; exact hk c1
-- a unit
theorem gu_f (hp : p ≤ 1900) (hu : 60 ≤ u) : gVp T 5 w p u p := Or.inl ⟨p, 1, hp, rfl, fun c => by rw [gG5, if_pos hu]⟩
theorem gu_b (hp : p ≤ 1900) (hu : u ≤ 59) (h7 : ltt T p = 7) (hw : 7 ≤ w) : gVp T 5 w p u p := Or.inl ⟨p, 1, hp, rfl, fun c => by rw [gG5, if_neg (by omega), if_pos h7, if_pos (by omega)]⟩
theorem gu_e (hp : p ≤ 1900) (hu : u ≤ 59) (h7 : ltt T p ≠ 7) (h9 : ltt T p ≠ 9) : gVp T 5 w p u p := Or.inl ⟨p, 1, hp, rfl, fun c => by rw [gG5, if_neg (by omega), if_neg h7, if_neg h9]⟩
theorem gu_a (hE : tE T p ≤ 1900) (hu : u ≤ 59) (h9 : ltt T p = 9) : gVp T 5 w p u (lkv (tE T p) (u + 1)) := gV_1 hE (by omega) (fun c => ⟨p :: c, by rw [gG5, if_neg (by omega), if_neg (by omega), if_pos h9]⟩)
theorem gu_d (hu : u ≤ 59) (h7 : ltt T p = 7) (hw : w ≤ 6) (f : Nat) (c : List Nat) : gG (ltt T) (tE T) (f + 1) 5 w p u c = gb (gG (ltt T) (tE T) f 0 (w + 1) (tE T p) (u + 1) c) (fun p1 u1 c1 => if ltt T p1 = 8 then some (.ok (tE T p1, u1, c1)) else some (.error p1)) := by rw [gG5, if_neg (by omega), if_pos h7, if_neg (by omega)]
theorem gu_o (hu : u ≤ 59) (h7 : ltt T p = 7) (hw : w ≤ 6) (hv : v ≤ 60) (h : gVp T 0 (w + 1) (tE T p) (u + 1) (lkv q v)) (h8 : ltt T q = 8) (hE : tE T q ≤ 1900) : gVp T 5 w p u (lkv (tE T q) v) := gV_r (gu_d hu h7 hw) hv hE hv h (fun c => ⟨c, if_pos h8⟩)
theorem gu_x (hu : u ≤ 59) (h7 : ltt T p = 7) (hw : w ≤ 6) (hy : y ≤ 1900) (h : gVp T 0 (w + 1) (tE T p) (u + 1) y) : gVp T 5 w p u y := gV_x (gu_d hu h7 hw) hy h
theorem gu_y (hu : u ≤ 59) (h7 : ltt T p = 7) (hw : w ≤ 6) (hv : v ≤ 60) (hq : q ≤ 1900) (h : gVp T 0 (w + 1) (tE T p) (u + 1) (lkv q v)) (h8 : ltt T q ≠ 8) : gVp T 5 w p u q := gV_s (gu_d hu h7 hw) hv hq h (fun c => if_neg h8)
theorem gs_t0 (hv : v ≤ 60) (h : gVp T 1 w p u (lkv q v)) : gPp T 0 w p u q v := by
  unfold gPp
  rw [if_neg (by decide)]
  exact fun y hy => gV_b (g := fun c => c) (fun f c => gG0) hv h hy
theorem gs_e0 (hy : y ≤ 1900) (h : gVp T 1 w p u y) : gVp T 0 w p u y := gV_x (k := fun f p u c => gG (ltt T) (tE T) f 6 w p u c) (fun f c => gG0) hy h
theorem gp_0 (h : gPp T 0 w p u q v) : ∀ y, gVp T 6 w q v y → gVp T 0 w p u y := by
  unfold gPp at h
  rw [if_neg (by decide)] at h
  exact h
theorem gs_n0 {q2 v2 : Nat} (hv2 : v2 ≤ 60) (hp : gPp T 0 w p u q v) (hk : ltt T q = 1) (h : gVp T 1 w (tE T q) v (lkv q2 v2)) : gPp T 0 w p u q2 v2 := by
  have hp := gp_0 hp
  unfold gPp
  rw [if_neg (by decide)]
  exact fun y hy => hp y (gV_b (g := fun c => q :: c) (fun f c => by rw [gG6, if_pos hk]; rfl) hv2 h hy)
theorem gs_x0 (hy : y ≤ 1900) (hp : gPp T 0 w p u q v) (hk : ltt T q = 1) (h : gVp T 1 w (tE T q) v y) : gVp T 0 w p u y := gp_0 hp y (gV_x (k := fun f p1 u1 c1 => gG (ltt T) (tE T) f 6 w p1 u1 (q :: c1)) (fun f c => by rw [gG6, if_pos hk]) hy h)
theorem gs_z0 (hq : q ≤ 1900) (hv : v ≤ 60) (hp : gPp T 0 w p u q v) (hk : ltt T q ≠ 1) : gVp T 0 w p u (lkv q v) := gp_0 hp _ (gV_1 hq hv (fun c => ⟨c, by rw [gG6, if_neg hk]⟩))
theorem gs_t1 (hv : v ≤ 60) (h : gVp T 2 w p u (lkv q v)) : gPp T 1 w p u q v := by
  unfold gPp
  rw [if_neg (by decide)]
  exact fun y hy => gV_b (g := fun c => c) (fun f c => gG1) hv h hy
theorem gs_e1 (hy : y ≤ 1900) (h : gVp T 2 w p u y) : gVp T 1 w p u y := gV_x (k := fun f p u c => gG (ltt T) (tE T) f 7 w p u c) (fun f c => gG1) hy h
theorem gp_1 (h : gPp T 1 w p u q v) : ∀ y, gVp T 7 w q v y → gVp T 1 w p u y := by
  unfold gPp at h
  rw [if_neg (by decide)] at h
  exact h
theorem gs_n1 {q2 v2 : Nat} (hv2 : v2 ≤ 60) (hp : gPp T 1 w p u q v) (hk : ltt T q = 2) (h : gVp T 2 w (tE T q) v (lkv q2 v2)) : gPp T 1 w p u q2 v2 := by
  have hp := gp_1 hp
  unfold gPp
  rw [if_neg (by decide)]
  exact fun y hy => hp y (gV_b (g := fun c => q :: c) (fun f c => by rw [gG7, if_pos hk]; rfl) hv2 h hy)
theorem gs_x1 (hy : y ≤ 1900) (hp : gPp T 1 w p u q v) (hk : ltt T q = 2) (h : gVp T 2 w (tE T q) v y) : gVp T 1 w p u y := gp_1 hp y (gV_x (k := fun f p1 u1 c1 => gG (ltt T) (tE T) f 7 w p1 u1 (q :: c1)) (fun f c => by rw [gG7, if_pos hk]) hy h)
theorem gs_z1 (hq : q ≤ 1900) (hv : v ≤ 60) (hp : gPp T 1 w p u q v) (hk : ltt T q ≠ 2) : gVp T 1 w p u (lkv q v) := gp_1 hp _ (gV_1 hq hv (fun c => ⟨c, by rw [gG7, if_neg hk]⟩))
theorem gs_t3 (hv : v ≤ 60) (h : gVp T 4 w p u (lkv q v)) : gPp T 3 w p u q v := by
  unfold gPp
  rw [if_neg (by decide)]
  exact fun y hy => gV_b (g := fun c => c) (fun f c => gG3) hv h hy
theorem gs_e3 (hy : y ≤ 1900) (h : gVp T 4 w p u y) : gVp T 3 w p u y := gV_x (k := fun f p u c => gG (ltt T) (tE T) f 8 w p u c) (fun f c => gG3) hy h
theorem gp_3 (h : gPp T 3 w p u q v) : ∀ y, gVp T 8 w q v y → gVp T 3 w p u y := by
  unfold gPp at h
  rw [if_neg (by decide)] at h
  exact h
theorem gs_n3 {q2 v2 : Nat} (hv2 : v2 ≤ 60) (hp : gPp T 3 w p u q v) (hk : ltt T q = 5) (h : gVp T 4 w (tE T q) v (lkv q2 v2)) : gPp T 3 w p u q2 v2 := by
  have hp := gp_3 hp
  unfold gPp
  rw [if_neg (by decide)]
  exact fun y hy => hp y (gV_b (g := fun c => q :: c) (fun f c => by rw [gG8, if_pos hk]; rfl) hv2 h hy)
theorem gs_x3 (hy : y ≤ 1900) (hp : gPp T 3 w p u q v) (hk : ltt T q = 5) (h : gVp T 4 w (tE T q) v y) : gVp T 3 w p u y := gp_3 hp y (gV_x (k := fun f p1 u1 c1 => gG (ltt T) (tE T) f 8 w p1 u1 (q :: c1)) (fun f c => by rw [gG8, if_pos hk]) hy h)
theorem gs_z3 (hq : q ≤ 1900) (hv : v ≤ 60) (hp : gPp T 3 w p u q v) (hk : ltt T q ≠ 5) : gVp T 3 w p u (lkv q v) := gp_3 hp _ (gV_1 hq hv (fun c => ⟨c, by rw [gG8, if_neg hk]⟩))
theorem gs_t4 (hv : v ≤ 60) (h : gVp T 5 w p u (lkv q v)) : gPp T 4 w p u q v := by
  unfold gPp
  rw [if_neg (by decide)]
  exact fun y hy => gV_b (g := fun c => c) (fun f c => gG4) hv h hy
theorem gs_e4 (hy : y ≤ 1900) (h : gVp T 5 w p u y) : gVp T 4 w p u y := gV_x (k := fun f p u c => gG (ltt T) (tE T) f 9 w p u c) (fun f c => gG4) hy h
theorem gp_4 (h : gPp T 4 w p u q v) : ∀ y, gVp T 9 w q v y → gVp T 4 w p u y := by
  unfold gPp at h
  rw [if_neg (by decide)] at h
  exact h
theorem gs_n4 {q2 v2 : Nat} (hv2 : v2 ≤ 60) (hp : gPp T 4 w p u q v) (hk : ltt T q = 6) (h : gVp T 5 w (tE T q) v (lkv q2 v2)) : gPp T 4 w p u q2 v2 := by
  have hp := gp_4 hp
  unfold gPp
  rw [if_neg (by decide)]
  exact fun y hy => hp y (gV_b (g := fun c => q :: c) (fun f c => by rw [gG9, if_pos hk]; rfl) hv2 h hy)
theorem gs_x4 (hy : y ≤ 1900) (hp : gPp T 4 w p u q v) (hk : ltt T q = 6) (h : gVp T 5 w (tE T q) v y) : gVp T 4 w p u y := gp_4 hp y (gV_x (k := fun f p1 u1 c1 => gG (ltt T) (tE T) f 9 w p1 u1 (q :: c1)) (fun f c => by rw [gG9, if_pos hk]) hy h)
theorem gs_z4 (hq : q ≤ 1900) (hv : v ≤ 60) (hp : gPp T 4 w p u q v) (hk : ltt T q ≠ 6) : gVp T 4 w p u (lkv q v) := gp_4 hp _ (gV_1 hq hv (fun c => ⟨c, by rw [gG9, if_neg hk]⟩))
-- one
theorem go_f (hp : p ≤ 1900) (h3 : ltt T p = 3) (hw : 7 ≤ w) : gVp T 2 w p u p := Or.inl ⟨p, 1, hp, rfl, fun c => by rw [gG2, if_pos h3, if_pos (by omega)]⟩
theorem go_d (h3 : ltt T p = 3) (hw : w ≤ 6) (f : Nat) (c : List Nat) : gG (ltt T) (tE T) (f + 1) 2 w p u c = gb (gG (ltt T) (tE T) f 2 (w + 1) (tE T p) u c) (fun p1 u1 c1 => some (.ok (p1, u1, p :: c1))) := by rw [gG2, if_pos h3, if_neg (by omega)]
theorem go_n (h3 : ltt T p = 3) (hw : w ≤ 6) (hq : q ≤ 1900) (hv : v ≤ 60) (h : gVp T 2 (w + 1) (tE T p) u (lkv q v)) : gVp T 2 w p u (lkv q v) := gV_r (go_d h3 hw) hv hq hv h (fun c => ⟨p :: c, rfl⟩)
theorem go_e (h3 : ltt T p = 3) (hw : w ≤ 6) (hy : y ≤ 1900) (h : gVp T 2 (w + 1) (tE T p) u y) : gVp T 2 w p u y := gV_x (k := fun _ p1 u1 c1 => some (.ok (p1, u1, p :: c1))) (go_d h3 hw) hy h
theorem go_D (h3 : ltt T p ≠ 3) (f : Nat) (c : List Nat) : gG (ltt T) (tE T) (f + 1) 2 w p u c = gb (gG (ltt T) (tE T) f 3 w p u c) (fun p1 u1 c1 => if ltt T p1 = 4 then gb (gG (ltt T) (tE T) f 3 w (tE T p1) u1 c1) (fun p2 u2 c2 => some (.ok (p2, u2, p1 :: c2))) else some (.ok (p1, u1, c1))) := by rw [gG2, if_neg h3]
theorem go_s (h3 : ltt T p ≠ 3) (hy : y ≤ 1900) (h : gVp T 3 w p u y) : gVp T 2 w p u y := gV_x (k := fun f p1 u1 c1 => if ltt T p1 = 4 then gb (gG (ltt T) (tE T) f 3 w (tE T p1) u1 c1) (fun p2 u2 c2 => some (.ok (p2, u2, p1 :: c2))) else some (.ok (p1, u1, c1))) (go_D h3) hy h
theorem go_p (h3 : ltt T p ≠ 3) (h : gVp T 3 w p u (lkv q v)) : gPp T 2 w p u q v := by
  unfold gPp
  rw [if_pos rfl]
  exact ⟨h3, h⟩
theorem gp_2 (h : gPp T 2 w p u q v) : ltt T p ≠ 3 ∧ gVp T 3 w p u (lkv q v) := by
  unfold gPp at h
  rw [if_pos rfl] at h
  exact h
theorem go_o (hq : q ≤ 1900) (hv : v ≤ 60) (h : gPp T 2 w p u q v) (h4 : ltt T q ≠ 4) : gVp T 2 w p u (lkv q v) := by
  obtain ⟨h3, h⟩ := gp_2 h
  obtain ⟨f, h⟩ := gV_o h hv
  refine Or.inr ⟨q, v, f + 1, hq, hv, rfl, fun c => ?_⟩
  obtain ⟨c1, h⟩ := h c
  exact ⟨c1, by rw [go_D h3, h]; exact if_neg h4⟩
theorem go_c {q2 v2 : Nat} (hv : v ≤ 60) (hq2 : q2 ≤ 1900) (hv2 : v2 ≤ 60) (h : gPp T 2 w p u q v) (h4 : ltt T q = 4) (h' : gVp T 3 w (tE T q) v (lkv q2 v2)) : gVp T 2 w p u (lkv q2 v2) := by
  obtain ⟨h3, h⟩ := gp_2 h
  obtain ⟨f, h⟩ := gV_o h hv
  obtain ⟨f', h'⟩ := gV_o h' hv2
  refine Or.inr ⟨q2, v2, max f f' + 1, hq2, hv2, rfl, fun c => ?_⟩
  obtain ⟨c1, h⟩ := h c
  obtain ⟨c2, h'⟩ := h' c1
  refine ⟨q :: c2, ?_⟩
  rw [go_D h3, gG_le (Nat.le_max_left _ _) h]
  refine (if_pos h4).trans ?_
  rw [gG_le (Nat.le_max_right _ _) h']
  rfl
theorem go_x (hv : v ≤ 60) (hy : y ≤ 1900) (h : gPp T 2 w p u q v) (h4 : ltt T q = 4) (h' : gVp T 3 w (tE T q) v y) : gVp T 2 w p u y := by
  obtain ⟨h3, h⟩ := gp_2 h
  obtain ⟨f, h⟩ := gV_o h hv
  obtain ⟨e, f', a1, a2, a3⟩ := gV_e h' hy
  refine Or.inl ⟨e, max f f' + 1, a1, a2, fun c => ?_⟩
  obtain ⟨c1, h⟩ := h c
  rw [go_D h3, gG_le (Nat.le_max_left _ _) h]
  refine (if_pos h4).trans ?_
  rw [gG_le (Nat.le_max_right _ _) (a3 c1)]
  rfl
-- by numbers
theorem lix_i {l w p u l' w' p' u' : Nat} (h : lix l w p u = lix l' w' p' u') (hw : w ≤ 7) (hp : p ≤ 1900) (hu : u ≤ 60) (hw' : w' ≤ 7) (hp' : p' ≤ 1900) (hu' : u' ≤ 60) : l = l' ∧ w = w' ∧ p = p' ∧ u = u' := by
  unfold lix at h
  exact ⟨by omega, by omega, by omega, by omega⟩
theorem gv_g {x : Int} (h : GVp T x y) (l w p u : Nat) (hx : x = lix l w p u) (hw : w ≤ 7) (hp : p ≤ 1900) (hu : u ≤ 60) : gVp T l w p u y := by
  obtain ⟨l', w', p', u', h1, h2, h3, h4, h5, h6⟩ := h
  obtain ⟨e1, e2, e3, e4⟩ := lix_i (hx.symm.trans h5) hw hp hu h2 h3 h4
  subst e1; subst e2; subst e3; subst e4
  exact h6
theorem gv_p {x : Int} (l w p u : Nat) (hx : x = lix l w p u) (hl : l ≤ 5) (hw : w ≤ 7) (hp : p ≤ 1900) (hu : u ≤ 60) (h : gVp T l w p u y) : GVp T x y := ⟨l, w, p, u, hl, hw, hp, hu, hx, h⟩
theorem px_g {x : Int} (h : PXp T x y) (l w p u q v : Nat) (hx : x = lix l w p u) (hy : y = 64 * (q : Int) + v) (hw : w ≤ 7) (hp : p ≤ 1900) (hu : u ≤ 60) (hv : v ≤ 60) : gPp T l w p u q v := by
  obtain ⟨l', w', p', u', q', v', h1, h2, h3, h4, h5, h6, h7, h8, h9⟩ := h
  obtain ⟨e1, e2, e3, e4⟩ := lix_i (hx.symm.trans h7) hw hp hu h2 h3 h4
  have e5 : q' = q := by omega
  have e6 : v' = v := by omega
  subst e1; subst e2; subst e3; subst e4; subst e5; subst e6
  exact h9
theorem px_p {x : Int} (l w p u q v : Nat) (hx : x = lix l w p u) (hy : y = 64 * (q : Int) + v) (hl : l ≤ 4) (hw : w ≤ 7) (hp : p ≤ 1900) (hu : u ≤ 60) (hq : q ≤ 1900) (hv : v ≤ 60) (h : gPp T l w p u q v) : PXp T x y := ⟨l, w, p, u, q, v, hl, hw, hp, hu, hq, hv, hx, hy, h⟩
end GN
theorem gv_y {T : pM} {l w p u : Nat} {y y' : Int} (h : gVp T l w p u y) (e : y' = y) : gVp T l w p u y' := e ▸ h
/-! ===== the machine by the rows it keeps ===== -/
theorem grn_s {ty E : Nat → Nat} {n : Nat} {s : gS} : grn ty E (n + 1) s = (match gst ty E s with
    | .inl s' => grn ty E n s'
    | .inr r => some r) := rfl
theorem grn_u {ty E : Nat → Nat} : ∀ {n m : Nat} {s : gS} {r r' : Except Nat gR}, grn ty E n s = some r → grn ty E m s = some r' → r = r'
  | 0, _, _, _, _, h, _ => by cases h
  | _ + 1, 0, _, _, _, _, h => by cases h
  | n + 1, m + 1, s, r, r', h, h' => by
    rw [grn_s] at h h'
    cases hg : gst ty E s with
    | inl s' =>
      rw [hg] at h h'
      exact grn_u (n := n) (m := m) h h'
    | inr q =>
      rw [hg] at h h'
      exact (Option.some.inj h).symm.trans (Option.some.inj h')
theorem prow_s {M : pM} {n w : Nat} (hn : 1 ≤ n) (h : M 111 (n - 1) = (w : Int)) : prow M n = w :: prow M (n - 1) := by
  obtain ⟨k, rfl⟩ : ∃ k, n = k + 1 := ⟨n - 1, by omega⟩
  show (M 111 k).toNat :: prow M k = w :: prow M k
  have h : M 111 k = (w : Int) := h
  rw [h]
  rfl
theorem prow_1 {M : pM} {n : Nat} (hn : 1 ≤ n) : prow M n = (M 111 (n - 1)).toNat :: prow M (n - 1) := by
  obtain ⟨k, rfl⟩ : ∃ k, n = k + 1 := ⟨n - 1, by omega⟩
  rfl
theorem gck_n {M : pM} {k w : Nat} (h : M 111 k = (w : Int)) (hw : 5 ≤ w ∧ w ≤ 6) : gck (prow M (k + 1)) = gck (prow M k) := by
  show (if (M 111 k).toNat = 5 ∨ (M 111 k).toNat = 6 then gck (prow M k) else decide ((M 111 k).toNat = 4)) = _
  rw [h, if_pos (by omega)]
theorem gck_e {M : pM} {k w : Nat} (h : M 111 k = (w : Int)) (hw : w ≤ 4 ∨ 7 ≤ w) : gck (prow M (k + 1)) = decide (w = 4) := by
  show (if (M 111 k).toNat = 5 ∨ (M 111 k).toNat = 6 then gck (prow M k) else decide ((M 111 k).toNat = 4)) = _
  rw [h, if_neg (by omega), Int.toNat_natCast]
theorem wid_16 {N : pM} {s e : Nat} (h : wid N s e = 16) : e - s = 3 := by
  unfold wid at h
  split at h
  · next hm =>
    have hl := (by decide : ∀ l ∈ kws, kws.idxOf l = 16 → l.length = 3) _ hm (by omega)
    unfold bts at hl
    rw [List.length_map, List.length_range] at hl
    exact hl
  · omega
theorem gcm_k : ∀ S : List (Nat × Nat), gcm S = gck (S.map Prod.fst)
  | [] => rfl
  | t :: S => by
    show (if t.1 = 5 ∨ t.1 = 6 then gcm S else decide (t.1 = 4)) = (if t.1 = 5 ∨ t.1 = 6 then gck (S.map Prod.fst) else decide (t.1 = 4))
    rw [gcm_k S]
theorem map_c {S : List (Nat × Nat)} {k : Nat} {K : List Nat} (h : S.map Prod.fst = k :: K) : ∃ (t : Nat × Nat) (S' : List (Nat × Nat)), S = t :: S' ∧ t.1 = k ∧ S'.map Prod.fst = K := by
  cases S with
  | nil => cases h
  | cons t S' => exact ⟨t, S', rfl, (List.cons.inj h).1, (List.cons.inj h).2⟩
section RM
variable {T : pM} {K : List Nat} {w r k p u d : Nat}
theorem rsm_0 : RSm T K 0 p u d = (∃ S c, S.map Prod.fst = K ∧ gLd (ltt T) (tE T) (gs0 T) (false, S, p, u, d, c)) := if_pos rfl
theorem rsm_1 : RSm T K 1 p u d = (∃ S c, S.map Prod.fst = K ∧ gLd (ltt T) (tE T) (gs0 T) (true, S, p, u, d, c)) := (if_neg (by decide)).trans (if_pos rfl)
theorem rsm_2 (hr : r ≤ 6) : RSm T K (2 + r) p u d = (∃ S0 d0 c0 S c, S.map Prod.fst = K ∧ gLd (ltt T) (tE T) (gs0 T) (false, S0, p, u, d0, c0) ∧ gpop r S0 d0 c0 = gpop r S d c ∧ grk (ltt T p) = r ∧ (ltt T p = 4 → gcm S0 = false)) := by
  unfold RSm
  rw [if_neg (by omega), if_neg (by omega), if_pos (by omega), Nat.add_sub_cancel_left]
theorem rsm_9 : RSm T K (9 + k) p u d = (∃ S c, S.map Prod.fst = K ∧ gLd (ltt T) (tE T) (gs0 T) (true, (k, p) :: S, tE T p, u, d, c)) := by
  unfold RSm
  rw [if_neg (by omega), if_neg (by omega), if_neg (by omega), Nat.add_sub_cancel_left]
theorem gst_1 {ty E : Nat → Nat} {t : Nat × Nat} {S : List (Nat × Nat)} {c : List Nat} : gst ty E (true, t :: S, p, u, d, c) = (if ty p = 3 ∧ (t.1 ≤ 3 ∨ 7 ≤ t.1) then (if 6 < d then .inr (.error p) else .inl (true, (3, p) :: t :: S, E p, u, d + 1, c))
    else if 60 ≤ u then .inr (.error p)
    else if ty p = 7 then (if 6 < d then .inr (.error p) else .inl (true, (7, p) :: t :: S, E p, u + 1, d + 1, c))
    else if ty p = 9 then .inl (false, t :: S, E p, u + 1, d, p :: c) else .inr (.error p)) := rfl
theorem gst_0 {ty E : Nat → Nat} {S : List (Nat × Nat)} {c : List Nat} : gst ty E (false, S, p, u, d, c) = (if ty p = 4 ∧ gcm S = true then .inr (.error p)
    else if grk (ty p) = 0 then (match gpop 0 S d c with
      | ([], _, _) => .inr (.error p)
      | (t :: S2, d', c') => if t.1 = 7 then (if ty p = 8 then .inl (false, S2, E p, u, d' - 1, c') else .inr (.error p)) else .inr (.ok (p, u, c')))
    else (match gpop (grk (ty p)) S d c with
      | (S', d', c') => .inl (true, (grk (ty p), p) :: S', E p, u, d', c'))) := rfl
theorem rm_1 (h : RSm T (w :: K) 1 p u d) : ∃ (t : Nat × Nat) (S : List (Nat × Nat)) (c : List Nat), t.1 = w ∧ S.map Prod.fst = K ∧ gLd (ltt T) (tE T) (gs0 T) (true, t :: S, p, u, d, c) := by
  rw [rsm_1] at h
  obtain ⟨S, c, h1, h2⟩ := h
  obtain ⟨t, S', rfl, h3, h4⟩ := map_c h1
  exact ⟨t, S', c, h3, h4, h2⟩
theorem rm_un (h : RSm T (w :: K) 1 p u d) (hk : ltt T p = 3) (hw : w ≤ 3 ∨ 7 ≤ w) (hd : d ≤ 6) : RSm T (w :: K) (9 + 3) p u (d + 1) := by
  obtain ⟨t, S, c, h1, h2, h3⟩ := rm_1 h
  rw [rsm_9]
  refine ⟨t :: S, c, by rw [List.map_cons, h1, h2], gLd_t h3 (gLd_s ?_)⟩
  rw [gst_1, if_pos ⟨hk, by omega⟩, if_neg (by omega)]
theorem rm_ud (h : RSm T (w :: K) 1 p u d) (hk : ltt T p = 3) (hw : w ≤ 3 ∨ 7 ≤ w) (hd : 7 ≤ d) : gEr (ltt T) (tE T) (gs0 T) p := by
  obtain ⟨t, S, c, h1, h2, h3⟩ := rm_1 h
  refine gEr_l h3 (gEr_s ?_)
  rw [gst_1, if_pos ⟨hk, by omega⟩, if_pos (by omega)]
theorem rm_ub (h : RSm T (w :: K) 1 p u d) (hk : ltt T p = 7) (hu : u ≤ 59) (hd : d ≤ 6) : RSm T (w :: K) (9 + 7) p (u + 1) (d + 1) := by
  obtain ⟨t, S, c, h1, h2, h3⟩ := rm_1 h
  rw [rsm_9]
  refine ⟨t :: S, c, by rw [List.map_cons, h1, h2], gLd_t h3 (gLd_s ?_)⟩
  rw [gst_1, if_neg (by omega), if_neg (by omega), if_pos hk, if_neg (by omega)]
theorem rm_uc (h : RSm T (w :: K) 1 p u d) (hk : ltt T p = 7) (hd : 7 ≤ d) : gEr (ltt T) (tE T) (gs0 T) p := by
  obtain ⟨t, S, c, h1, h2, h3⟩ := rm_1 h
  refine gEr_l h3 (gEr_s ?_)
  rw [gst_1, if_neg (by omega)]
  by_cases hu : 60 ≤ u
  · rw [if_pos hu]
  · rw [if_neg hu, if_pos hk, if_pos (by omega)]
theorem rm_ua (h : RSm T (w :: K) 1 p u d) (hk : ltt T p = 9) (hu : u ≤ 59) : RSm T (w :: K) 0 (tE T p) (u + 1) d := by
  obtain ⟨t, S, c, h1, h2, h3⟩ := rm_1 h
  rw [rsm_0]
  refine ⟨t :: S, p :: c, by rw [List.map_cons, h1, h2], gLd_t h3 (gLd_s ?_)⟩
  rw [gst_1, if_neg (by omega), if_neg (by omega), if_neg (by omega), if_pos hk]
theorem rm_ue (h : RSm T (w :: K) 1 p u d) (h3 : ltt T p ≠ 3) (h7 : ltt T p ≠ 7) (h9 : ltt T p ≠ 9) : gEr (ltt T) (tE T) (gs0 T) p := by
  obtain ⟨t, S, c, q1, q2, q3⟩ := rm_1 h
  refine gEr_l q3 (gEr_s ?_)
  rw [gst_1, if_neg (by omega)]
  by_cases hu : 60 ≤ u
  · rw [if_pos hu]
  · rw [if_neg hu, if_neg h7, if_neg h9]
theorem rm_uf (h : RSm T (w :: K) 1 p u d) (h3 : ltt T p ≠ 3 ∨ (4 ≤ w ∧ w ≤ 6)) (hu : 60 ≤ u) : gEr (ltt T) (tE T) (gs0 T) p := by
  obtain ⟨t, S, c, q1, q2, q3⟩ := rm_1 h
  refine gEr_l q3 (gEr_s ?_)
  rw [gst_1, if_neg (by omega), if_pos hu]
theorem rm_um (h : RSm T (w :: K) 1 p u d) (h3 : ltt T p = 3) (hw : 4 ≤ w ∧ w ≤ 6) : gEr (ltt T) (tE T) (gs0 T) p := by
  by_cases hu : 60 ≤ u
  · exact rm_uf h (Or.inr hw) hu
  · obtain ⟨t, S, c, q1, q2, q3⟩ := rm_1 h
    refine gEr_l q3 (gEr_s ?_)
    rw [gst_1, if_neg (by omega), if_neg hu, if_neg (by omega), if_neg (by omega)]
theorem rm_lay (h : RSm T K (9 + k) p u d) : RSm T (k :: K) 1 (tE T p) u d := by
  rw [rsm_9] at h
  obtain ⟨S, c, h1, h2⟩ := h
  rw [rsm_1]
  exact ⟨(k, p) :: S, c, by rw [List.map_cons, h1], h2⟩
theorem rm_2 (h : RSm T K 0 p u d) (hr : r ≤ 6) (hk : grk (ltt T p) = r) (h4 : ltt T p = 4 → gck K = false) : RSm T K (2 + r) p u d := by
  rw [rsm_0] at h
  obtain ⟨S, c, h1, h2⟩ := h
  rw [rsm_2 hr]
  exact ⟨S, d, c, S, c, h1, h2, rfl, hk, fun q => by rw [gcm_k, h1]; exact h4 q⟩
theorem rm_be (h : RSm T K 0 p u d) (h4 : ltt T p = 4) (hc : gck K = true) : gEr (ltt T) (tE T) (gs0 T) p := by
  rw [rsm_0] at h
  obtain ⟨S, c, h1, h2⟩ := h
  refine gEr_l h2 (gEr_s ?_)
  rw [gst_0, if_pos ⟨h4, by rw [gcm_k, h1]; exact hc⟩]
theorem rm_pop {d' : Nat} (h : RSm T (w :: K) (2 + r) p u d) (hr : r ≤ 6) (hw : w ≤ 6) (hrw : r ≤ w) (hd : d' = if w = 3 then d - 1 else d) : RSm T K (2 + r) p u d' := by
  rw [rsm_2 hr] at h ⊢
  obtain ⟨S0, d0, c0, S, c, h1, h2, h3, h4, h5⟩ := h
  obtain ⟨t, S', rfl, h6, h7⟩ := map_c h1
  refine ⟨S0, d0, c0, S', t.2 :: c, h7, h2, h3.trans ?_, h4, h5⟩
  show (if t.1 ≤ 6 ∧ r ≤ t.1 then gpop r S' (if t.1 = 3 then d - 1 else d) (t.2 :: c) else (t :: S', d, c)) = _
  rw [if_pos ⟨by omega, by omega⟩, hd, h6]
theorem rm_x (h : RSm T (w :: K) (2 + r) p u d) (hr : r ≤ 6) (hw : w < r ∨ 7 ≤ w) (h1 : 1 ≤ r) : RSm T (w :: K) (9 + r) p u d := by
  rw [rsm_2 hr] at h
  obtain ⟨S0, d0, c0, S, c, q1, q2, q3, q4, q5⟩ := h
  obtain ⟨t, S', rfl, q6, q7⟩ := map_c q1
  have hp : gpop r (t :: S') d c = (t :: S', d, c) := if_neg (by omega)
  rw [rsm_9]
  refine ⟨t :: S', c, q1, gLd_t q2 (gLd_s ?_)⟩
  rw [gst_0, if_neg (fun z => by rw [q5 z.1] at z; exact absurd z.2 (by decide)), q4, if_neg (by omega), q3, hp]
theorem rm_7 (h : RSm T (w :: K) (2 + 0) p u d) (hw : 7 ≤ w) : ∃ (S0 : List (Nat × Nat)) (d0 : Nat) (c0 : List Nat) (t : Nat × Nat) (S : List (Nat × Nat)) (c : List Nat), t.1 = w ∧ S.map Prod.fst = K ∧ gLd (ltt T) (tE T) (gs0 T) (false, S0, p, u, d0, c0) ∧ gst (ltt T) (tE T) (false, S0, p, u, d0, c0) = (if t.1 = 7 then (if ltt T p = 8 then .inl (false, S, tE T p, u, d - 1, c) else .inr (.error p)) else .inr (.ok (p, u, c))) := by
  rw [rsm_2 (by decide)] at h
  obtain ⟨S0, d0, c0, S, c, q1, q2, q3, q4, q5⟩ := h
  obtain ⟨t, S', rfl, q6, q7⟩ := map_c q1
  have hp : gpop 0 (t :: S') d c = (t :: S', d, c) := if_neg (by omega)
  refine ⟨S0, d0, c0, t, S', c, q6, q7, q2, ?_⟩
  rw [gst_0, if_neg (fun z => by rw [q5 z.1] at z; exact absurd z.2 (by decide)), if_pos q4, q3, hp]
theorem rm_k (h : RSm T (7 :: K) (2 + 0) p u d) (h8 : ltt T p = 8) : RSm T K 0 (tE T p) u (d - 1) := by
  obtain ⟨S0, d0, c0, t, S, c, h1, h2, h3, h4⟩ := rm_7 h (by decide)
  rw [rsm_0]
  exact ⟨S, c, h2, gLd_t h3 (gLd_s (by rw [h4, if_pos h1, if_pos h8]))⟩
theorem rm_l (h : RSm T (7 :: K) (2 + 0) p u d) (h8 : ltt T p ≠ 8) : gEr (ltt T) (tE T) (gs0 T) p := by
  obtain ⟨S0, d0, c0, t, S, c, h1, h2, h3, h4⟩ := rm_7 h (by decide)
  exact gEr_l h3 (gEr_s (by rw [h4, if_pos h1, if_neg h8]))
theorem rm_d (h : RSm T (8 :: K) (2 + 0) p u d) : ∃ c m, grn (ltt T) (tE T) m (gs0 T) = some (.ok (p, u, c)) := by
  obtain ⟨S0, d0, c0, t, S, c, h1, h2, h3, h4⟩ := rm_7 h (by decide)
  have e : grn (ltt T) (tE T) 1 (false, S0, p, u, d0, c0) = some (.ok (p, u, c)) := by
    rw [grn_s, h4, if_neg (by omega)]
  obtain ⟨m, hm⟩ := h3 1 _ e
  exact ⟨c, m, hm⟩
end RM
/-! by numbers -/
theorem rs_g {T M : pM} {x y : Int} (h : WSp T M x y) (m p u d l : Nat) (hx : x = rix m p u) (hy : y = 128 * (d : Int) + l) (hp : p ≤ 1900) (hu : u ≤ 60) (hl : l ≤ 80) : tK T 0 = 262157 ∧ 1 ≤ l ∧ RSm T (prow M l) m p u d := by
  obtain ⟨m', p', u', d', l', h1, h2, h3, h4, h5, h6, h7, h8, h9, h10⟩ := h
  unfold rix at hx h7
  have e1 : m' = m := by omega
  have e2 : p' = p := by omega
  have e3 : u' = u := by omega
  have e4 : d' = d := by omega
  have e5 : l' = l := by omega
  subst e1; subst e2; subst e3; subst e4; subst e5
  exact ⟨h9, h6, h10⟩
theorem rs_p {T M : pM} {x y : Int} (m p u d l : Nat) (hx : x = rix m p u) (hy : y = 128 * (d : Int) + l) (hm : m ≤ 16) (hp : p ≤ 1900) (hu : u ≤ 60) (hd : d ≤ 7) (hl : l ≤ 80) (h1 : 1 ≤ l) (h0 : tK T 0 = 262157) {K : List Nat} (hK : prow M l = K) (h : RSm T K m p u d) : WSp T M x y := ⟨m, p, u, d, l, hm, hp, hu, hd, hl, h1, hx, hy, h0, hK ▸ h⟩
theorem rp_g {T M : pM} {x y : Int} (h : WPp T M x y) (k p u d l : Nat) (hx : x = rix (9 + k) p u) (hy : y = 16 * (128 * (d : Int) + l) + k) (hk : k ≤ 8) (hp : p ≤ 1900) (hu : u ≤ 60) (hl : l ≤ 80) : tK T 0 = 262157 ∧ l ≤ 79 ∧ d ≤ 7 ∧ RSm T (prow M (l + 1)) 1 (tE T p) u d := by
  obtain ⟨d', l', w, h1, h2, h3, h4, h5, h6⟩ := h
  have e1 : d' = d := by omega
  have e2 : l' = l := by omega
  have e3 : w = k := by omega
  subst e1; subst e2; subst e3
  obtain ⟨a, b, c⟩ := rs_g h6 (9 + w) p u d' l' hx rfl hp hu (by omega)
  refine ⟨a, h2, h1, ?_⟩
  rw [prow_s (w := w) (by omega) (show M 111 (l' + 1 - 1) = _ from h5)]
  exact rm_lay c
theorem rp_w {T M : pM} {x : Int} {d l w : Nat} {v : Int} (h : WSp T M x (128 * (d : Int) + l)) (hd : d ≤ 7) (hl : l ≤ 79) (hw : w ≤ 15) (hv : v = (w : Int)) : WPp T (st M 111 l v) x (16 * (128 * (d : Int) + l) + w) := by
  refine ⟨d, l, w, hd, hl, hw, rfl, ?_, ?_⟩
  · unfold st
    rw [if_pos ⟨rfl, rfl⟩]
    exact hv
  · obtain ⟨m', p', u', d', l', h1, h2, h3, h4, h5, h6, h7, h8, h9, h10⟩ := h
    have e5 : l' = l := by omega
    subst e5
    refine ⟨m', p', u', d', l', h1, h2, h3, h4, h5, h6, h7, h8, h9, ?_⟩
    rw [prow_c (M := M) (fun i hi => by unfold st; rw [if_neg (by omega)])]
    exact h10
theorem ic_g {M : pM} {x y : Int} (h : ICp M x y) (l k : Nat) (hx : x = l) (hy : y = k) : k < l ∧ gck (prow M l) = gck (prow M (k + 1)) := by
  obtain ⟨l', k', h1, h2, h3, h4, h5⟩ := h
  have e1 : l' = l := by omega
  have e2 : k' = k := by omega
  subst e1; subst e2
  exact ⟨h2, h5⟩
theorem ir_g {M : pM} {x y : Int} (h : IRp M x y) (l : Nat) (hx : x = l) : (y = 1 → gck (prow M l) = true) ∧ (y = 0 → gck (prow M l) = false) := by
  obtain ⟨l', h1, h2, h3⟩ := h
  have e1 : l' = l := by omega
  subst e1
  rcases h3 with h3 | h3
  · exact ⟨fun _ => h3.2, fun q => by omega⟩
  · exact ⟨fun q => by omega, fun _ => h3.2⟩
/-! the two readers come to the same -/
section LQ
variable {T : pM} {y y' : Int}
theorem ltt_4 {q : Nat} (h : ltt T q = 4) : tK T q ≠ 524347 := by
  intro e
  unfold ltt at h
  rw [e] at h
  exact absurd h (by decide)
theorem lf_rf (h : LFp T y) : wRF T y := by
  rcases h with h | ⟨k0, hy, h⟩ | ⟨q, v, ⟨hq, hv, k0, h⟩, hh⟩
  · exact Or.inl h
  · obtain ⟨e, f, h1, h2, h3⟩ := gV_e h hy
    exact Or.inr (Or.inl ⟨k0, e, h2, glaw (h3 [])⟩)
  · obtain ⟨f, h3⟩ := gV_o h hv
    obtain ⟨c', h3⟩ := h3 []
    rcases (show gEr (ltt T) (tE T) (gs0 T) q ∧ ltt T q = 4 ∨ ∃ m, grn (ltt T) (tE T) m (gs0 T) = some (.ok (q, v, c')) from glaw h3) with ⟨a1, a2⟩ | ⟨m, hm⟩
    · rcases hh with ⟨b1, b2⟩ | ⟨b1, _⟩
      · exact Or.inr (Or.inl ⟨k0, q, b2, a1⟩)
      · exact absurd b1 (ltt_4 a2)
    · exact Or.inr (Or.inr ⟨q, ⟨hq, k0, v, c', m, hm⟩, hh⟩)
theorem lr_rg (h : LRp T) : wRG T := by
  obtain ⟨q, v, ⟨hq, hv, k0, h⟩, h1, h2⟩ := h
  obtain ⟨f, h3⟩ := gV_o h hv
  obtain ⟨c', h3⟩ := h3 []
  rcases (show gEr (ltt T) (tE T) (gs0 T) q ∧ ltt T q = 4 ∨ ∃ m, grn (ltt T) (tE T) m (gs0 T) = some (.ok (q, v, c')) from glaw h3) with ⟨a1, a2⟩ | ⟨m, hm⟩
  · exact absurd h1 (ltt_4 a2)
  · exact ⟨q, ⟨hq, k0, v, c', m, hm⟩, h1, h2⟩
theorem re_u {p q : Nat} (h : wRE T p) (h' : wRE T q) : p = q := by
  obtain ⟨_, _, u, c, m, h⟩ := h
  obtain ⟨_, _, u', c', m', h'⟩ := h'
  exact (Prod.mk.inj (Except.ok.inj (grn_u h h'))).1
theorem re_e {p e : Nat} (h : wRE T p) (h' : gEr (ltt T) (tE T) (gs0 T) e) : False := by
  obtain ⟨_, _, u, c, m, h⟩ := h
  obtain ⟨m', h'⟩ := h'
  have e := grn_u h h'
  cases e
theorem ge_u {p e : Nat} (h : gEr (ltt T) (tE T) (gs0 T) p) (h' : gEr (ltt T) (tE T) (gs0 T) e) : p = e := by
  obtain ⟨m, h⟩ := h
  obtain ⟨m', h'⟩ := h'
  exact Except.error.inj (grn_u h h')
theorem rf_u (h : wRF T y) (h' : wRF T y') : y = y' := by
  rcases h with ⟨h1, h2⟩ | ⟨h1, e, h2, h3⟩ | ⟨p, h2, h3⟩
  · rcases h' with ⟨a1, a2⟩ | ⟨a1, _⟩ | ⟨q, a2, _⟩
    · rw [h2, a2]
    · exact absurd a1 h1
    · exact absurd a2.2.1 h1
  · rcases h' with ⟨a1, _⟩ | ⟨_, f, a2, a3⟩ | ⟨q, a2, _⟩
    · exact absurd h1 a1
    · rw [h2, a2, ge_u h3 a3]
    · exact (re_e a2 h3).elim
  · rcases h' with ⟨a1, _⟩ | ⟨_, f, _, a3⟩ | ⟨q, a2, a3⟩
    · exact absurd h2.2.1 a1
    · exact (re_e h2 a3).elim
    · have e := re_u h2 a2
      subst e
      rcases h3 with ⟨b1, b2⟩ | ⟨b1, b2, b3⟩
      · rcases a3 with ⟨c1, c2⟩ | ⟨c1, _, _⟩
        · rw [b2, c2]
        · exact absurd c1 b1
      · rcases a3 with ⟨c1, _⟩ | ⟨_, _, c3⟩
        · exact absurd b1 c1
        · rw [b3, c3]
theorem rf_g (h : wRF T y) (h' : wRG T) : False := by
  obtain ⟨q, a1, a2, a3⟩ := h'
  rcases h with ⟨h1, _⟩ | ⟨_, e, _, h3⟩ | ⟨p, h2, h3⟩
  · exact h1 a1.2.1
  · exact re_e a1 h3
  · have e := re_u h2 a1
    subst e
    rcases h3 with ⟨b1, _⟩ | ⟨_, b2, _⟩
    · exact b1 a2
    · exact b2 a3
end LQ
