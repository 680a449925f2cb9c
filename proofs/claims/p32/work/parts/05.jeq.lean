theorem mo_mono {O : pO} {i : Nat} {a : List pv} {n : Nat} {M : pM} {Q Q' : pQ} (h : ∀ r M', Q r M' → Q' r M') (hm : mo O i a n M Q) : mo O i a n M Q' := by
  obtain ⟨Q0, h1, h2⟩ := hm
  exact ⟨Q0, h1, fun r M' h3 => h r M' (h2 r M' h3)⟩
set_option maxHeartbeats 4000000 in
theorem sx_mono {O : pO} {j n0 : Nat} {Q : pQ} {P P' : pP} (h : ∀ pc L S n M, P pc L S n M → P' pc L S n M) {pc : Nat} {L : pL} {S : List pv} {n : Nat} {M : pM} {i : Instr} {len : Nat} (hs : sx O j n0 Q P pc L S n M i len) : sx O j n0 Q P' pc L S n M i len := by
  cases i
  case istore k => obtain ⟨L', S', h1, h2⟩ := hs; exact ⟨L', S', h1, h _ _ _ _ _ h2⟩
  case istore_n k => obtain ⟨L', S', h1, h2⟩ := hs; exact ⟨L', S', h1, h _ _ _ _ _ h2⟩
  case astore k => obtain ⟨L', S', h1, h2⟩ := hs; exact ⟨L', S', h1, h _ _ _ _ _ h2⟩
  case astore_n k => obtain ⟨L', S', h1, h2⟩ := hs; exact ⟨L', S', h1, h _ _ _ _ _ h2⟩
  case lstore k => obtain ⟨L', S', h1, h2⟩ := hs; exact ⟨L', S', h1, h _ _ _ _ _ h2⟩
  case lstore_n k => obtain ⟨L', S', h1, h2⟩ := hs; exact ⟨L', S', h1, h _ _ _ _ _ h2⟩
  case iinc k c => obtain ⟨L', S', h1, h2⟩ := hs; exact ⟨L', S', h1, h _ _ _ _ _ h2⟩
  case ifCond c off => obtain ⟨h0, x, S', t, h1, h2, h3, h4⟩ := hs; exact ⟨h0, x, S', t, h1, h2, fun q => h _ _ _ _ _ (h3 q), fun q => h _ _ _ _ _ (h4 q)⟩
  case if_icmp c off => obtain ⟨h0, x, y, S', t, h1, h2, h3, h4⟩ := hs; exact ⟨h0, x, y, S', t, h1, h2, fun q => h _ _ _ _ _ (h3 q), fun q => h _ _ _ _ _ (h4 q)⟩
  case goto off => obtain ⟨h0, t, h1, h2⟩ := hs; exact ⟨h0, t, h1, h _ _ _ _ _ h2⟩
  case tableswitch d lo hi offs =>
    obtain ⟨x, S', h1, h2, h3, h4⟩ := hs
    refine ⟨x, S', h1, fun t q1 q2 => h _ _ _ _ _ (h2 t q1 q2), h3, fun k q1 q2 => ?_⟩
    obtain ⟨off, e1, t, e2, e3⟩ := h4 k q1 q2
    exact ⟨off, e1, t, e2, h _ _ _ _ _ e3⟩
  case lookupswitch d ps => obtain ⟨h0, x, S', h1, t, h2, h3⟩ := hs; exact ⟨h0, x, S', h1, t, h2, h _ _ _ _ _ h3⟩
  case getfield ix => obtain ⟨h0, q, hq, e1, e2, a, S', e3, e4, e5⟩ := hs; exact ⟨h0, q, hq, e1, e2, a, S', e3, e4, h _ _ _ _ _ e5⟩
  case putfield ix => obtain ⟨h0, q, hq, e1, e2, e0, a, v, x, S', e3, e4, e6, e5⟩ := hs; exact ⟨h0, q, hq, e1, e2, e0, a, v, x, S', e3, e4, e6, h _ _ _ _ _ e5⟩
  case getstatic ix => obtain ⟨h0, q, hq, e1, e2, e5⟩ := hs; exact ⟨h0, q, hq, e1, e2, h _ _ _ _ _ e5⟩
  case iaload => obtain ⟨h0, x, a, S', e1, e2, e3, e5⟩ := hs; exact ⟨h0, x, a, S', e1, e2, e3, h _ _ _ _ _ e5⟩
  case laload => obtain ⟨h0, x, a, S', e1, e2, e3, e5⟩ := hs; exact ⟨h0, x, a, S', e1, e2, e3, h _ _ _ _ _ e5⟩
  case baload => obtain ⟨h0, x, a, S', e1, e2, e3, e5⟩ := hs; exact ⟨h0, x, a, S', e1, e2, e3, h _ _ _ _ _ e5⟩
  case iastore => obtain ⟨h0, v, x, a, S', e1, e2, e3, e5⟩ := hs; exact ⟨h0, v, x, a, S', e1, e2, e3, h _ _ _ _ _ e5⟩
  case lastore => obtain ⟨h0, v, x, a, S', e1, e2, e3, e5⟩ := hs; exact ⟨h0, v, x, a, S', e1, e2, e3, h _ _ _ _ _ e5⟩
  case bastore =>
    obtain ⟨h0, v, x, a, S', e1, e2, e3⟩ := hs
    refine ⟨h0, v, x, a, S', e1, e2, ?_⟩
    rcases e3 with ⟨e3, e5⟩ | ⟨e3, e4, e5⟩
    · exact Or.inl ⟨e3, h _ _ _ _ _ e5⟩
    · exact Or.inr ⟨e3, e4, h _ _ _ _ _ e5⟩
  case arraylength => obtain ⟨h0, a, S', t, e1, e2, e5⟩ := hs; exact ⟨h0, a, S', t, e1, e2, h _ _ _ _ _ e5⟩
  case newarray t => obtain ⟨h0, x, S', e1, e2, e3, e4, e6, e7, e8, e5⟩ := hs; exact ⟨h0, x, S', e1, e2, e3, e4, e6, e7, e8, h _ _ _ _ _ e5⟩
  case new ix => obtain ⟨h0, q, hq, e1, e2, e3, e4, e6, e5⟩ := hs; exact ⟨h0, q, hq, e1, e2, e3, e4, e6, h _ _ _ _ _ e5⟩
  case invokevirtual ix =>
    obtain ⟨h0, q, hq, e1, e2, e3, As, b, S', e4, e5, e6, e7, e8, e9⟩ := hs
    refine ⟨h0, q, hq, e1, e2, e3, As, b, S', e4, e5, e6, e7, e8, mo_mono (fun r M' hh => ?_) e9⟩
    obtain ⟨S'', g1, g2⟩ := hh
    exact ⟨S'', g1, h _ _ _ _ _ g2⟩
  case invokestatic ix =>
    obtain ⟨h0, hh⟩ := hs
    refine ⟨h0, ?_⟩
    rcases hh with ⟨q, hq, e1, e2, e3, hh⟩ | ⟨g0, q, hq, e1, e2, a, b, x, y, k, S', f1, f2, f3, f4, f5, f6, f7, f8⟩
    · refine Or.inl ⟨q, hq, e1, e2, e3, ?_⟩
      rcases hh with ⟨m, As, S', e4, e5, e7, e8, e9⟩ | ⟨m, a, b, S', e4, e5, e9⟩ | ⟨m, a, b, S', e4, e5, e9⟩ | ⟨m, a, S', e4, e5, e9⟩
      · refine Or.inl ⟨m, As, S', e4, e5, e7, e8, mo_mono (fun r M' hh => ?_) e9⟩
        obtain ⟨S'', g1, g2⟩ := hh
        exact ⟨S'', g1, h _ _ _ _ _ g2⟩
      · exact Or.inr (Or.inl ⟨m, a, b, S', e4, e5, h _ _ _ _ _ e9⟩)
      · exact Or.inr (Or.inr (Or.inl ⟨m, a, b, S', e4, e5, h _ _ _ _ _ e9⟩))
      · exact Or.inr (Or.inr (Or.inr ⟨m, a, S', e4, e5, h _ _ _ _ _ e9⟩))
    · exact Or.inr ⟨g0, q, hq, e1, e2, a, b, x, y, k, S', f1, f2, f3, f4, f5, f6, f7, h _ _ _ _ _ f8⟩
  case invokespecial ix =>
    obtain ⟨h0, hh⟩ := hs
    refine ⟨h0, ?_⟩
    rcases hh with ⟨q, hq, e1, e2, b, S', e3, e4, e5⟩ | ⟨q, hq, e1, e2, e3, As, b, S', e4, e5, e6, e7, e8, e9, e10⟩
    · exact Or.inl ⟨q, hq, e1, e2, b, S', e3, e4, h _ _ _ _ _ e5⟩
    · exact Or.inr ⟨q, hq, e1, e2, e3, As, b, S', e4, e5, e6, e7, e8, e9, mo_mono (fun r M' hh => ⟨hh.1, h _ _ _ _ _ hh.2⟩) e10⟩
  case ireturn => exact hs
  case lreturn => exact hs
  case return_ => exact hs
  all_goals (obtain ⟨S', h1, h2⟩ := hs; exact ⟨S', h1, h _ _ _ _ _ h2⟩)
theorem sy_mono {O : pO} {j : Nat} {P P' : pP} (h : ∀ pc L S n M, P pc L S n M → P' pc L S n M) {pc : Nat} {L : pL} {S : List pv} {n : Nat} {M : pM} {i : Instr} {len : Nat} (hs : sy O j P pc L S n M i len) : sy O j P' pc L S n M i len := by
  cases i
  case ldc ix => obtain ⟨h0, q, hq, e1, e2, e3⟩ := hs; exact ⟨h0, q, hq, e1, e2, h _ _ _ _ _ e3⟩
  case getfield ix => obtain ⟨h0, q, hq, e1, e2, i, S', e3, e4, e5⟩ := hs; exact ⟨h0, q, hq, e1, e2, i, S', e3, e4, h _ _ _ _ _ e5⟩
  case getstatic ix => obtain ⟨h0, q, hq, e1, e2, e3⟩ := hs; exact ⟨h0, q, hq, e1, e2, h _ _ _ _ _ e3⟩
  case baload => obtain ⟨h0, x, i, S', e1, e2, e3, e4, e5⟩ := hs; exact ⟨h0, x, i, S', e1, e2, e3, e4, h _ _ _ _ _ e5⟩
  case arraylength => obtain ⟨h0, i, S', e1, e2, e5⟩ := hs; exact ⟨h0, i, S', e1, e2, h _ _ _ _ _ e5⟩
  case invokevirtual ix =>
    obtain ⟨h0, q, hq, e1, e2, e3, As, i, S', e4, e5, e6, e7, e8, e9, e10⟩ := hs
    refine ⟨h0, q, hq, e1, e2, e3, As, i, S', e4, e5, e6, e7, e8, e9, mo_mono (fun r M' hh => ?_) e10⟩
    obtain ⟨S'', g1, g2⟩ := hh
    exact ⟨S'', g1, h _ _ _ _ _ g2⟩
  all_goals exact hs
theorem stp_mono {O : pO} {j n0 : Nat} {Q : pQ} {P P' : pP} (h : ∀ pc L S n M, P pc L S n M → P' pc L S n M) {pc : Nat} {L : pL} {S : List pv} {n : Nat} {M : pM} (hs : stp O j n0 Q P pc L S n M) : stp O j n0 Q P' pc L S n M := by
  obtain ⟨i, len, h1, h2⟩ := hs
  exact ⟨i, len, h1, h2.elim (fun q => Or.inl (sx_mono h q)) (fun q => Or.inr (sy_mono h q))⟩
theorem J_in {O : pO} {j n0 : Nat} {Q : pQ} {pc : Nat} {L : pL} {S : List pv} {n : Nat} {M : pM} (hs : stp O j n0 Q (J O j n0 Q) pc L S n M) : J O j n0 Q pc L S n M :=
  fun P hP => hP _ _ _ _ _ (stp_mono (fun _ _ _ _ _ hj => hj P hP) hs)
theorem J_eq {O : pO} {j n0 : Nat} {Q : pQ} {pc : Nat} {L : pL} {S : List pv} {n : Nat} {M : pM} : J O j n0 Q pc L S n M = stp O j n0 Q (J O j n0 Q) pc L S n M :=
  propext ⟨fun h => h _ (fun _ _ _ _ _ hs => stp_mono (fun _ _ _ _ _ hh => J_in hh) hs), J_in⟩
theorem J_of {O : pO} {j n0 : Nat} {Q : pQ} {pc : Nat} {L : pL} {S : List pv} {n : Nat} {M : pM} {i : Instr} {len : Nat} (hd : decode (mB j) pc = .ok (i, len)) (hy : ¬ sy O j (J O j n0 Q) pc L S n M i len) : J O j n0 Q pc L S n M = sx O j n0 Q (J O j n0 Q) pc L S n M i len := by
  rw [J_eq]
  refine propext ⟨fun h => ?_, fun h => ⟨i, len, hd, Or.inl h⟩⟩
  obtain ⟨i', len', h1, h2⟩ := h
  rw [hd] at h1
  cases h1
  exact h2.resolve_right hy
theorem J_sx {O : pO} {j n0 : Nat} {Q : pQ} {pc : Nat} {L : pL} {S : List pv} {n : Nat} {M : pM} {i : Instr} {len : Nat} (hd : decode (mB j) pc = .ok (i, len)) (h : sx O j n0 Q (J O j n0 Q) pc L S n M i len) : J O j n0 Q pc L S n M := J_in ⟨i, len, hd, Or.inl h⟩
theorem J_sy {O : pO} {j n0 : Nat} {Q : pQ} {pc : Nat} {L : pL} {S : List pv} {n : Nat} {M : pM} {i : Instr} {len : Nat} (hd : decode (mB j) pc = .ok (i, len)) (h : sy O j (J O j n0 Q) pc L S n M i len) : J O j n0 Q pc L S n M := J_in ⟨i, len, hd, Or.inr h⟩
theorem J_mono {O : pO} {j n0 : Nat} {Q Q' : pQ} (hQ : ∀ r M, Q r M → Q' r M) {pc : Nat} {L : pL} {S : List pv} {n : Nat} {M : pM} (h : J O j n0 Q pc L S n M) : J O j n0 Q' pc L S n M := by
  refine h (J O j n0 Q') (fun pc L S n M hs => J_in ?_)
  obtain ⟨i, len, h1, h2⟩ := hs
  refine ⟨i, len, h1, ?_⟩
  cases i
  case ireturn =>
    refine h2.elim (fun h2 => Or.inl ?_) (fun h2 => h2.elim)
    obtain ⟨e1, e2, x, e3, e4, e5⟩ := h2; exact ⟨e1, e2, x, e3, e4, hQ _ _ e5⟩
  case lreturn =>
    refine h2.elim (fun h2 => Or.inl ?_) (fun h2 => h2.elim)
    obtain ⟨e1, e2, e3, x, e4, e5⟩ := h2; exact ⟨e1, e2, e3, x, e4, hQ _ _ e5⟩
  case return_ =>
    refine h2.elim (fun h2 => Or.inl ?_) (fun h2 => h2.elim)
    obtain ⟨e1, e2, e3, e4, e5⟩ := h2; exact ⟨e1, e2, e3, e4, hQ _ _ e5⟩
  all_goals exact h2
