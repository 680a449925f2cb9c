/-! ===== the machine goes one way: what a run comes to is one answer and one memory ===== -/
def dtO (O : pO) : Prop := ∀ (i : Nat) (a : List pv) (n : Nat) (M : pM) (Q : pQ), O i a n M Q → ∃ r M', Q r M' ∧ ∀ Q' : pQ, Q' r M' → O i a n M Q'
theorem mo_det {O : pO} (hO : dtO O) {i : Nat} {a : List pv} {n : Nat} {M : pM} {K : pQ} (h : mo O i a n M K) : ∃ r M', K r M' ∧ ∀ Q' : pQ, Q' r M' → mo O i a n M Q' := by
  obtain ⟨Q0, h1, h2⟩ := h
  obtain ⟨r, M', h3, h4⟩ := hO _ _ _ _ _ h1
  exact ⟨r, M', h2 r M' h3, fun Q' hq => ⟨fun r' M'' => r' = r ∧ M'' = M', h4 _ ⟨rfl, rfl⟩, fun r' M'' e => by rw [e.1, e.2]; exact hq⟩⟩
set_option maxHeartbeats 4000000 in
theorem J_det {O : pO} (hO : dtO O) {j n0 : Nat} {Q : pQ} {pc : Nat} {L : pL} {S : List pv} {n : Nat} {M : pM} (h : J O j n0 Q pc L S n M) : ∃ r M', Q r M' ∧ ∀ Q' : pQ, Q' r M' → J O j n0 Q' pc L S n M := by
  refine h (fun pc L S n M => ∃ r M', Q r M' ∧ ∀ Q' : pQ, Q' r M' → J O j n0 Q' pc L S n M) ?_
  intro pc L S n M hs
  obtain ⟨i, len, hd, hs⟩ := hs
  rcases hs with hs | hs
  · cases i
    case istore k => obtain ⟨L', S', h1, r, M', h2, h3⟩ := hs; exact ⟨r, M', h2, fun Q' hq => J_sx hd ⟨L', S', h1, h3 Q' hq⟩⟩
    case istore_n k => obtain ⟨L', S', h1, r, M', h2, h3⟩ := hs; exact ⟨r, M', h2, fun Q' hq => J_sx hd ⟨L', S', h1, h3 Q' hq⟩⟩
    case astore k => obtain ⟨L', S', h1, r, M', h2, h3⟩ := hs; exact ⟨r, M', h2, fun Q' hq => J_sx hd ⟨L', S', h1, h3 Q' hq⟩⟩
    case astore_n k => obtain ⟨L', S', h1, r, M', h2, h3⟩ := hs; exact ⟨r, M', h2, fun Q' hq => J_sx hd ⟨L', S', h1, h3 Q' hq⟩⟩
    case lstore k => obtain ⟨L', S', h1, r, M', h2, h3⟩ := hs; exact ⟨r, M', h2, fun Q' hq => J_sx hd ⟨L', S', h1, h3 Q' hq⟩⟩
    case lstore_n k => obtain ⟨L', S', h1, r, M', h2, h3⟩ := hs; exact ⟨r, M', h2, fun Q' hq => J_sx hd ⟨L', S', h1, h3 Q' hq⟩⟩
    case iinc k c => obtain ⟨L', S', h1, r, M', h2, h3⟩ := hs; exact ⟨r, M', h2, fun Q' hq => J_sx hd ⟨L', S', h1, h3 Q' hq⟩⟩
    case ifCond c off =>
      obtain ⟨h0, x, S', t, h1, h2, h3, h4⟩ := hs
      by_cases hc : cnd c x 0
      · obtain ⟨r, M', g1, g2⟩ := h3 hc
        exact ⟨r, M', g1, fun Q' hq => J_sx hd ⟨h0, x, S', t, h1, h2, fun _ => g2 Q' hq, fun hn => absurd hc hn⟩⟩
      · obtain ⟨r, M', g1, g2⟩ := h4 hc
        exact ⟨r, M', g1, fun Q' hq => J_sx hd ⟨h0, x, S', t, h1, h2, fun hn => absurd hn hc, fun _ => g2 Q' hq⟩⟩
    case if_icmp c off =>
      obtain ⟨h0, x, y, S', t, h1, h2, h3, h4⟩ := hs
      by_cases hc : cnd c x y
      · obtain ⟨r, M', g1, g2⟩ := h3 hc
        exact ⟨r, M', g1, fun Q' hq => J_sx hd ⟨h0, x, y, S', t, h1, h2, fun _ => g2 Q' hq, fun hn => absurd hc hn⟩⟩
      · obtain ⟨r, M', g1, g2⟩ := h4 hc
        exact ⟨r, M', g1, fun Q' hq => J_sx hd ⟨h0, x, y, S', t, h1, h2, fun hn => absurd hn hc, fun _ => g2 Q' hq⟩⟩
    case goto off => obtain ⟨h0, t, h1, r, M', h2, h3⟩ := hs; exact ⟨r, M', h2, fun Q' hq => J_sx hd ⟨h0, t, h1, h3 Q' hq⟩⟩
    case tableswitch d lo hi offs =>
      obtain ⟨x, S', h1, h2, ⟨t, h3⟩, h4⟩ := hs
      by_cases hx : x < lo ∨ hi < x
      · obtain ⟨r, M', g1, g2⟩ := h2 t hx h3
        refine ⟨r, M', g1, fun Q' hq => J_sx hd ⟨x, S', h1, fun tgt _ e => ?_, ⟨t, h3⟩, fun k e1 e2 => by omega⟩⟩
        have : tgt = t := by omega
        rw [this]
        exact g2 Q' hq
      · obtain ⟨off, e1, t2, e2, r, M', g1, g2⟩ := h4 (x - lo).toNat (by omega) (by omega)
        refine ⟨r, M', g1, fun Q' hq => J_sx hd ⟨x, S', h1, fun tgt hh _ => absurd hh hx, ⟨t, h3⟩, fun k f1 f2 => ?_⟩⟩
        have : k = (x - lo).toNat := by omega
        subst this
        exact ⟨off, e1, t2, e2, g2 Q' hq⟩
    case lookupswitch d ps => obtain ⟨h0, x, S', h1, t, h2, r, M', g1, g2⟩ := hs; exact ⟨r, M', g1, fun Q' hq => J_sx hd ⟨h0, x, S', h1, t, h2, g2 Q' hq⟩⟩
    case getfield ix => obtain ⟨h0, q, hq, e1, e2, a, S', e3, e4, r, M', g1, g2⟩ := hs; exact ⟨r, M', g1, fun Q' hq' => J_sx hd ⟨h0, q, hq, e1, e2, a, S', e3, e4, g2 Q' hq'⟩⟩
    case putfield ix => obtain ⟨h0, q, hq, e1, e2, e0, a, v, x, S', e3, e4, e6, r, M', g1, g2⟩ := hs; exact ⟨r, M', g1, fun Q' hq' => J_sx hd ⟨h0, q, hq, e1, e2, e0, a, v, x, S', e3, e4, e6, g2 Q' hq'⟩⟩
    case getstatic ix => obtain ⟨h0, q, hq, e1, e2, r, M', g1, g2⟩ := hs; exact ⟨r, M', g1, fun Q' hq' => J_sx hd ⟨h0, q, hq, e1, e2, g2 Q' hq'⟩⟩
    case iaload => obtain ⟨h0, x, a, S', e1, e2, e3, r, M', g1, g2⟩ := hs; exact ⟨r, M', g1, fun Q' hq' => J_sx hd ⟨h0, x, a, S', e1, e2, e3, g2 Q' hq'⟩⟩
    case laload => obtain ⟨h0, x, a, S', e1, e2, e3, r, M', g1, g2⟩ := hs; exact ⟨r, M', g1, fun Q' hq' => J_sx hd ⟨h0, x, a, S', e1, e2, e3, g2 Q' hq'⟩⟩
    case baload => obtain ⟨h0, x, a, S', e1, e2, e3, r, M', g1, g2⟩ := hs; exact ⟨r, M', g1, fun Q' hq' => J_sx hd ⟨h0, x, a, S', e1, e2, e3, g2 Q' hq'⟩⟩
    case iastore => obtain ⟨h0, v, x, a, S', e1, e2, e3, r, M', g1, g2⟩ := hs; exact ⟨r, M', g1, fun Q' hq' => J_sx hd ⟨h0, v, x, a, S', e1, e2, e3, g2 Q' hq'⟩⟩
    case lastore => obtain ⟨h0, v, x, a, S', e1, e2, e3, r, M', g1, g2⟩ := hs; exact ⟨r, M', g1, fun Q' hq' => J_sx hd ⟨h0, v, x, a, S', e1, e2, e3, g2 Q' hq'⟩⟩
    case bastore =>
      obtain ⟨h0, v, x, a, S', e1, e2, e3⟩ := hs
      rcases e3 with ⟨e3, r, M', g1, g2⟩ | ⟨e3, e4, r, M', g1, g2⟩
      · exact ⟨r, M', g1, fun Q' hq' => J_sx hd ⟨h0, v, x, a, S', e1, e2, Or.inl ⟨e3, g2 Q' hq'⟩⟩⟩
      · exact ⟨r, M', g1, fun Q' hq' => J_sx hd ⟨h0, v, x, a, S', e1, e2, Or.inr ⟨e3, e4, g2 Q' hq'⟩⟩⟩
    case arraylength => obtain ⟨h0, a, S', t, e1, e2, r, M', g1, g2⟩ := hs; exact ⟨r, M', g1, fun Q' hq' => J_sx hd ⟨h0, a, S', t, e1, e2, g2 Q' hq'⟩⟩
    case newarray t => obtain ⟨h0, x, S', e1, e2, e3, e4, e6, e7, e8, r, M', g1, g2⟩ := hs; exact ⟨r, M', g1, fun Q' hq' => J_sx hd ⟨h0, x, S', e1, e2, e3, e4, e6, e7, e8, g2 Q' hq'⟩⟩
    case new ix => obtain ⟨h0, q, hq, e1, e2, e3, e4, e6, r, M', g1, g2⟩ := hs; exact ⟨r, M', g1, fun Q' hq' => J_sx hd ⟨h0, q, hq, e1, e2, e3, e4, e6, g2 Q' hq'⟩⟩
    case invokevirtual ix =>
      obtain ⟨h0, q, hq, e1, e2, e3, As, b, S', e4, e5, e6, e7, e8, e9⟩ := hs
      obtain ⟨r1, M1, ⟨S'', p1, r, M', g1, g2⟩, ex⟩ := mo_det hO e9
      exact ⟨r, M', g1, fun Q' hq' => J_sx hd ⟨h0, q, hq, e1, e2, e3, As, b, S', e4, e5, e6, e7, e8, ex _ ⟨S'', p1, g2 Q' hq'⟩⟩⟩
    case invokestatic ix =>
      obtain ⟨h0, hh⟩ := hs
      rcases hh with ⟨q, hq, e1, e2, e3, hh⟩ | ⟨g0, q, hq, e1, e2, a, b, x, y, k, S', f1, f2, f3, f4, f5, f6, f7, r, M', g1, g2⟩
      · rcases hh with ⟨m, As, S', e4, e5, e7, e8, e9⟩ | ⟨m, a, b, S', e4, e5, r, M', g1, g2⟩ | ⟨m, a, b, S', e4, e5, r, M', g1, g2⟩ | ⟨m, a, S', e4, e5, r, M', g1, g2⟩
        · obtain ⟨r1, M1, ⟨S'', p1, r, M', g1, g2⟩, ex⟩ := mo_det hO e9
          exact ⟨r, M', g1, fun Q' hq' => J_sx hd ⟨h0, Or.inl ⟨q, hq, e1, e2, e3, Or.inl ⟨m, As, S', e4, e5, e7, e8, ex _ ⟨S'', p1, g2 Q' hq'⟩⟩⟩⟩⟩
        · exact ⟨r, M', g1, fun Q' hq' => J_sx hd ⟨h0, Or.inl ⟨q, hq, e1, e2, e3, Or.inr (Or.inl ⟨m, a, b, S', e4, e5, g2 Q' hq'⟩)⟩⟩⟩
        · exact ⟨r, M', g1, fun Q' hq' => J_sx hd ⟨h0, Or.inl ⟨q, hq, e1, e2, e3, Or.inr (Or.inr (Or.inl ⟨m, a, b, S', e4, e5, g2 Q' hq'⟩))⟩⟩⟩
        · exact ⟨r, M', g1, fun Q' hq' => J_sx hd ⟨h0, Or.inl ⟨q, hq, e1, e2, e3, Or.inr (Or.inr (Or.inr ⟨m, a, S', e4, e5, g2 Q' hq'⟩))⟩⟩⟩
      · exact ⟨r, M', g1, fun Q' hq' => J_sx hd ⟨h0, Or.inr ⟨g0, q, hq, e1, e2, a, b, x, y, k, S', f1, f2, f3, f4, f5, f6, f7, g2 Q' hq'⟩⟩⟩
    case invokespecial ix =>
      obtain ⟨h0, hh⟩ := hs
      rcases hh with ⟨q, hq, e1, e2, b, S', e3, e4, r, M', g1, g2⟩ | ⟨q, hq, e1, e2, e3, As, b, S', e4, e5, e6, e7, e8, e9, e10⟩
      · exact ⟨r, M', g1, fun Q' hq' => J_sx hd ⟨h0, Or.inl ⟨q, hq, e1, e2, b, S', e3, e4, g2 Q' hq'⟩⟩⟩
      · obtain ⟨r1, M1, ⟨p1, r, M', g1, g2⟩, ex⟩ := mo_det hO e10
        exact ⟨r, M', g1, fun Q' hq' => J_sx hd ⟨h0, Or.inr ⟨q, hq, e1, e2, e3, As, b, S', e4, e5, e6, e7, e8, e9, ex _ ⟨p1, g2 Q' hq'⟩⟩⟩⟩
    case ireturn => obtain ⟨h0, h1, x, h2, h3, h4⟩ := hs; exact ⟨_, _, h4, fun Q' hq' => J_sx hd ⟨h0, h1, x, h2, h3, hq'⟩⟩
    case lreturn => obtain ⟨h0, h1, h3, x, h2, h4⟩ := hs; exact ⟨_, _, h4, fun Q' hq' => J_sx hd ⟨h0, h1, h3, x, h2, hq'⟩⟩
    case return_ => obtain ⟨h0, h1, h3, h2, h4⟩ := hs; exact ⟨_, _, h4, fun Q' hq' => J_sx hd ⟨h0, h1, h3, h2, hq'⟩⟩
    all_goals (obtain ⟨S', h1, r, M', h2, h3⟩ := hs; exact ⟨r, M', h2, fun Q' hq => J_sx hd ⟨S', h1, h3 Q' hq⟩⟩)
  · cases i
    case ldc ix => obtain ⟨h0, q, hq, e1, e2, r, M', g1, g2⟩ := hs; exact ⟨r, M', g1, fun Q' hq' => J_sy hd ⟨h0, q, hq, e1, e2, g2 Q' hq'⟩⟩
    case getfield ix => obtain ⟨h0, q, hq, e1, e2, i, S', e3, e4, r, M', g1, g2⟩ := hs; exact ⟨r, M', g1, fun Q' hq' => J_sy hd ⟨h0, q, hq, e1, e2, i, S', e3, e4, g2 Q' hq'⟩⟩
    case getstatic ix => obtain ⟨h0, q, hq, e1, e2, r, M', g1, g2⟩ := hs; exact ⟨r, M', g1, fun Q' hq' => J_sy hd ⟨h0, q, hq, e1, e2, g2 Q' hq'⟩⟩
    case baload => obtain ⟨h0, x, i, S', e1, e2, e3, e4, r, M', g1, g2⟩ := hs; exact ⟨r, M', g1, fun Q' hq' => J_sy hd ⟨h0, x, i, S', e1, e2, e3, e4, g2 Q' hq'⟩⟩
    case arraylength => obtain ⟨h0, i, S', e1, e2, r, M', g1, g2⟩ := hs; exact ⟨r, M', g1, fun Q' hq' => J_sy hd ⟨h0, i, S', e1, e2, g2 Q' hq'⟩⟩
    case invokevirtual ix =>
      obtain ⟨h0, q, hq, e1, e2, e3, As, i, S', e4, e5, e6, e7, e8, e9, e10⟩ := hs
      obtain ⟨r1, M1, ⟨S'', p1, r, M', g1, g2⟩, ex⟩ := mo_det hO e10
      exact ⟨r, M', g1, fun Q' hq' => J_sy hd ⟨h0, q, hq, e1, e2, e3, As, i, S', e4, e5, e6, e7, e8, e9, ex _ ⟨S'', p1, g2 Q' hq'⟩⟩⟩
    all_goals exact hs.elim
theorem OJ_det : ∀ r, dtO (OJ r)
  | 0 => fun _ _ _ _ _ h => h.elim
  | r + 1 => fun i a n M Q h => by
    obtain ⟨h1, h2, h3⟩ := h
    obtain ⟨x, M', g1, g2⟩ := J_det (OJ_det r) h3
    exact ⟨x, M', g1, fun Q' hq => ⟨h1, h2, g2 Q' hq⟩⟩
theorem mo_O {O O' : pO} (h : ∀ i a n M Q, O i a n M Q → O' i a n M Q) {i : Nat} {a : List pv} {n : Nat} {M : pM} {K : pQ} (hm : mo O i a n M K) : mo O' i a n M K := by
  obtain ⟨Q0, h1, h2⟩ := hm
  exact ⟨Q0, h _ _ _ _ _ h1, h2⟩
set_option maxHeartbeats 4000000 in
theorem J_O {O O' : pO} (h : ∀ i a n M Q, O i a n M Q → O' i a n M Q) {j n0 : Nat} {Q : pQ} {pc : Nat} {L : pL} {S : List pv} {n : Nat} {M : pM} (hJ : J O j n0 Q pc L S n M) : J O' j n0 Q pc L S n M := by
  refine hJ (J O' j n0 Q) (fun pc L S n M hs => ?_)
  obtain ⟨i, len, hd, hs⟩ := hs
  rcases hs with hs | hs
  · refine J_sx hd ?_
    cases i
    case invokevirtual ix =>
      obtain ⟨h0, q, hq, e1, e2, e3, As, b, S', e4, e5, e6, e7, e8, e9⟩ := hs
      exact ⟨h0, q, hq, e1, e2, e3, As, b, S', e4, e5, e6, e7, e8, mo_O h e9⟩
    case invokestatic ix =>
      obtain ⟨h0, hh⟩ := hs
      rcases hh with ⟨q, hq, e1, e2, e3, hh⟩ | hh
      · rcases hh with ⟨m, As, S', e4, e5, e7, e8, e9⟩ | hh
        · exact ⟨h0, Or.inl ⟨q, hq, e1, e2, e3, Or.inl ⟨m, As, S', e4, e5, e7, e8, mo_O h e9⟩⟩⟩
        · exact ⟨h0, Or.inl ⟨q, hq, e1, e2, e3, Or.inr hh⟩⟩
      · exact ⟨h0, Or.inr hh⟩
    case invokespecial ix =>
      obtain ⟨h0, hh⟩ := hs
      rcases hh with hh | ⟨q, hq, e1, e2, e3, As, b, S', e4, e5, e6, e7, e8, e9, e10⟩
      · exact ⟨h0, Or.inl hh⟩
      · exact ⟨h0, Or.inr ⟨q, hq, e1, e2, e3, As, b, S', e4, e5, e6, e7, e8, e9, mo_O h e10⟩⟩
    all_goals exact hs
  · refine J_sy hd ?_
    cases i
    case invokevirtual ix =>
      obtain ⟨h0, q, hq, e1, e2, e3, As, i, S', e4, e5, e6, e7, e8, e9, e10⟩ := hs
      exact ⟨h0, q, hq, e1, e2, e3, As, i, S', e4, e5, e6, e7, e8, e9, mo_O h e10⟩
    all_goals exact hs
theorem OJ_up : ∀ r i a n M Q, OJ r i a n M Q → OJ (r + 1) i a n M Q
  | 0, _, _, _, _, _, h => h.elim
  | r + 1, i, a, n, M, Q, h => ⟨h.1, h.2.1, J_O (OJ_up r) h.2.2⟩
theorem OJ_le {r r' : Nat} (h : r ≤ r') {i : Nat} {a : List pv} {n : Nat} {M : pM} {Q : pQ} (hJ : OJ r i a n M Q) : OJ r' i a n M Q := by
  obtain ⟨k, rfl⟩ := Nat.exists_eq_add_of_le h
  induction k with
  | zero => exact hJ
  | succ k ih => exact OJ_up _ _ _ _ _ _ (ih (by omega))
