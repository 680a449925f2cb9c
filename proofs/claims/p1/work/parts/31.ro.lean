/-! ===== cells from 1000 on are never written ===== -/
def RO (M M' : pM) : Prop := ∀ c, 1000 ≤ c → M' c = M c
def roq (M : pM) (Q : pQ) : pQ := fun r M' => RO M M' ∧ Q r M'
def ROs (O : pO) : Prop := ∀ i a n M Q, n + mC i ≤ 1000 → O i a n M Q → O i a n M (roq M Q)
theorem RO.st {M0 M : pM} (h : RO M0 M) {a k : Nat} {x : Int} (ha : a < 1000) : RO M0 (st M a k x) := fun c hc => by rw [st_row (by omega)]; exact h c hc
theorem RO.zr {M0 M : pM} (h : RO M0 M) {a : Nat} (ha : a < 1000) : RO M0 (zr M a) := fun c hc => by rw [zr_row (by omega)]; exact h c hc
theorem RO.tr {M0 M M' : pM} (h : RO M0 M) (h' : RO M M') : RO M0 M' := fun c hc => (h' c hc).trans (h c hc)
theorem mo_ro {O : pO} (hO : ROs O) {i : Nat} {a : List pv} {n : Nat} {M : pM} {Q : pQ} (hn : n + mC i ≤ 1000) (h : mo O i a n M Q) : mo O i a n M (roq M Q) := by
  obtain ⟨Q0, h1, h2⟩ := h
  exact ⟨roq M Q0, hO _ _ _ _ _ hn h1, fun r M' q => ⟨q.1, h2 r M' q.2⟩⟩
theorem ob_lt {n a c : Nat} (h : ob n a = c) (hc : c ≠ 99) : a < n := by
  unfold ob at h
  split at h
  · assumption
  · exact absurd h.symm hc
theorem alw_lt {n a t : Nat} {x : Int} (h0 : 0 ≤ x) (h : x < alw n a t) : a < n := (alw_of (by omega : 0 ≤ alw n a t)).choose_spec.1
theorem fld_99 : ∀ q ∈ fldL, q.2.2.1 ≠ 99 := by decide +kernel
set_option maxHeartbeats 4000000 in
theorem sx_ro {O : pO} (hO : ROs O) {j n0 : Nat} {Q : pQ} {P : pP} {M0 : pM} (hb : n0 + mC j ≤ 1000) {pc : Nat} {L : pL} {S : List pv} {n : Nat} {M : pM} (hn : n ≤ n0 + mC j) (hr : RO M0 M) {i : Instr} {len : Nat} (hs : sx O j n0 Q P pc L S n M i len) : sx O j n0 (roq M0 Q) (fun pc L S n M => n ≤ n0 + mC j ∧ RO M0 M ∧ P pc L S n M) pc L S n M i len := by
  cases i
  case istore k => obtain ⟨L', S', h1, h2⟩ := hs; exact ⟨L', S', h1, hn, hr, h2⟩
  case istore_n k => obtain ⟨L', S', h1, h2⟩ := hs; exact ⟨L', S', h1, hn, hr, h2⟩
  case astore k => obtain ⟨L', S', h1, h2⟩ := hs; exact ⟨L', S', h1, hn, hr, h2⟩
  case astore_n k => obtain ⟨L', S', h1, h2⟩ := hs; exact ⟨L', S', h1, hn, hr, h2⟩
  case lstore k => obtain ⟨L', S', h1, h2⟩ := hs; exact ⟨L', S', h1, hn, hr, h2⟩
  case lstore_n k => obtain ⟨L', S', h1, h2⟩ := hs; exact ⟨L', S', h1, hn, hr, h2⟩
  case iinc k c => obtain ⟨L', S', h1, h2⟩ := hs; exact ⟨L', S', h1, hn, hr, h2⟩
  case ifCond c off => obtain ⟨h0, x, S', t, h1, h2, h3, h4⟩ := hs; exact ⟨h0, x, S', t, h1, h2, fun q => ⟨hn, hr, h3 q⟩, fun q => ⟨hn, hr, h4 q⟩⟩
  case if_icmp c off => obtain ⟨h0, x, y, S', t, h1, h2, h3, h4⟩ := hs; exact ⟨h0, x, y, S', t, h1, h2, fun q => ⟨hn, hr, h3 q⟩, fun q => ⟨hn, hr, h4 q⟩⟩
  case goto off => obtain ⟨h0, t, h1, h2⟩ := hs; exact ⟨h0, t, h1, hn, hr, h2⟩
  case tableswitch d lo hi offs =>
    obtain ⟨x, S', h1, h2, h3, h4⟩ := hs
    refine ⟨x, S', h1, fun t q1 q2 => ⟨hn, hr, h2 t q1 q2⟩, h3, fun k q1 q2 => ?_⟩
    obtain ⟨off, e1, t, e2, e3⟩ := h4 k q1 q2
    exact ⟨off, e1, t, e2, hn, hr, e3⟩
  case lookupswitch d ps => obtain ⟨h0, x, S', h1, t, h2, h3⟩ := hs; exact ⟨h0, x, S', h1, t, h2, hn, hr, h3⟩
  case getfield ix => obtain ⟨h0, q, hq, e1, e2, a, S', e3, e4, e5⟩ := hs; exact ⟨h0, q, hq, e1, e2, a, S', e3, e4, hn, hr, e5⟩
  case putfield ix => obtain ⟨h0, q, hq, e1, e2, e0, a, v, x, S', e3, e4, e6, e5⟩ := hs; exact ⟨h0, q, hq, e1, e2, e0, a, v, x, S', e3, e4, e6, hn, hr.st (by have := ob_lt e4 (fld_99 q hq); omega), e5⟩
  case getstatic ix => obtain ⟨h0, q, hq, e1, e2, e5⟩ := hs; exact ⟨h0, q, hq, e1, e2, hn, hr, e5⟩
  case iaload => obtain ⟨h0, x, a, S', e1, e2, e3, e5⟩ := hs; exact ⟨h0, x, a, S', e1, e2, e3, hn, hr, e5⟩
  case laload => obtain ⟨h0, x, a, S', e1, e2, e3, e5⟩ := hs; exact ⟨h0, x, a, S', e1, e2, e3, hn, hr, e5⟩
  case baload => obtain ⟨h0, x, a, S', e1, e2, e3, e5⟩ := hs; exact ⟨h0, x, a, S', e1, e2, e3, hn, hr, e5⟩
  case iastore => obtain ⟨h0, v, x, a, S', e1, e2, e3, e5⟩ := hs; exact ⟨h0, v, x, a, S', e1, e2, e3, hn, hr.st (by have := alw_lt e2 e3; omega), e5⟩
  case lastore => obtain ⟨h0, v, x, a, S', e1, e2, e3, e5⟩ := hs; exact ⟨h0, v, x, a, S', e1, e2, e3, hn, hr.st (by have := alw_lt e2 e3; omega), e5⟩
  case bastore =>
    obtain ⟨h0, v, x, a, S', e1, e2, e3⟩ := hs
    refine ⟨h0, v, x, a, S', e1, e2, ?_⟩
    rcases e3 with ⟨e3, e5⟩ | ⟨e3, e4, e5⟩
    · exact Or.inl ⟨e3, hn, hr.st (by have := alw_lt e2 e3; omega), e5⟩
    · exact Or.inr ⟨e3, e4, hn, hr.st (by have := alw_lt e2 e3; omega), e5⟩
  case arraylength => obtain ⟨h0, a, S', t, e1, e2, e5⟩ := hs; exact ⟨h0, a, S', t, e1, e2, hn, hr, e5⟩
  case newarray t => obtain ⟨h0, x, S', e1, e2, e3, e4, e6, e7, e8, e5⟩ := hs; exact ⟨h0, x, S', e1, e2, e3, e4, e6, e7, e8, e3, hr.zr (by omega), e5⟩
  case new ix => obtain ⟨h0, q, hq, e1, e2, e3, e4, e6, e5⟩ := hs; exact ⟨h0, q, hq, e1, e2, e3, e4, e6, e4, hr.zr (by omega), e5⟩
  case invokevirtual ix =>
    obtain ⟨h0, q, hq, e1, e2, e3, As, b, S', e4, e5, e6, e7, e8, e9⟩ := hs
    refine ⟨h0, q, hq, e1, e2, e3, As, b, S', e4, e5, e6, e7, e8, mo_mono (fun r M' hh => ?_) (mo_ro hO (by omega) e9)⟩
    obtain ⟨g0, S'', g1, g2⟩ := hh
    exact ⟨S'', g1, hn, hr.tr g0, g2⟩
  case invokestatic ix =>
    obtain ⟨h0, hh⟩ := hs
    refine ⟨h0, ?_⟩
    rcases hh with ⟨q, hq, e1, e2, e3, hh⟩ | ⟨g0, q, hq, e1, e2, a, b, x, y, k, S', f1, f2, f3, f4, f5, f6, f7, f8⟩
    · refine Or.inl ⟨q, hq, e1, e2, e3, ?_⟩
      rcases hh with ⟨m, As, S', e4, e5, e7, e8, e9⟩ | ⟨m, a, b, S', e4, e5, e9⟩ | ⟨m, a, b, S', e4, e5, e9⟩ | ⟨m, a, S', e4, e5, e9⟩
      · refine Or.inl ⟨m, As, S', e4, e5, e7, e8, mo_mono (fun r M' hh => ?_) (mo_ro hO (by omega) e9)⟩
        obtain ⟨g0, S'', g1, g2⟩ := hh
        exact ⟨S'', g1, hn, hr.tr g0, g2⟩
      · exact Or.inr (Or.inl ⟨m, a, b, S', e4, e5, hn, hr, e9⟩)
      · exact Or.inr (Or.inr (Or.inl ⟨m, a, b, S', e4, e5, hn, hr, e9⟩))
      · exact Or.inr (Or.inr (Or.inr ⟨m, a, S', e4, e5, hn, hr, e9⟩))
    · refine Or.inr ⟨g0, q, hq, e1, e2, a, b, x, y, k, S', f1, f2, f3, f4, f5, f6, f7, hn, ?_, f8⟩
      have hbn : b < n := (alw_of (by omega : 0 ≤ alw n b 0)).choose_spec.1
      intro c hc
      rw [← hr c hc]
      funext i
      unfold cpy
      rw [if_neg (by omega)]
  case invokespecial ix =>
    obtain ⟨h0, hh⟩ := hs
    refine ⟨h0, ?_⟩
    rcases hh with ⟨q, hq, e1, e2, b, S', e3, e4, e5⟩ | ⟨q, hq, e1, e2, e3, As, b, S', e4, e5, e6, e7, e8, e9, e10⟩
    · exact Or.inl ⟨q, hq, e1, e2, b, S', e3, e4, hn, hr, e5⟩
    · exact Or.inr ⟨q, hq, e1, e2, e3, As, b, S', e4, e5, e6, e7, e8, e9, mo_mono (fun r M' hh => ⟨hh.2.1, e8, hr.tr hh.1, hh.2.2⟩) (mo_ro hO (by omega) e10)⟩
  case ireturn => obtain ⟨e1, e2, x, e3, e4, e5⟩ := hs; exact ⟨e1, e2, x, e3, e4, hr, e5⟩
  case lreturn => obtain ⟨e1, e2, e3, x, e4, e5⟩ := hs; exact ⟨e1, e2, e3, x, e4, hr, e5⟩
  case return_ => obtain ⟨e1, e2, e3, e4, e5⟩ := hs; exact ⟨e1, e2, e3, e4, hr, e5⟩
  all_goals (obtain ⟨S', h1, h2⟩ := hs; exact ⟨S', h1, hn, hr, h2⟩)
theorem J_ro {O : pO} (hO : ROs O) {j n0 : Nat} {Q : pQ} {M0 : pM} (hb : n0 + mC j ≤ 1000) {pc : Nat} {L : pL} {S : List pv} {n : Nat} {M : pM} (h : J O j n0 Q pc L S n M) : n ≤ n0 + mC j → RO M0 M → J O j n0 (roq M0 Q) pc L S n M := by
  refine h (fun pc L S n M => n ≤ n0 + mC j → RO M0 M → J O j n0 (roq M0 Q) pc L S n M) (fun pc L S n M hs hn hr => J_in ?_)
  obtain ⟨i, len, h1, h2⟩ := hs
  exact ⟨i, len, h1, sx_mono (fun _ _ _ _ _ q => q.2.2 q.1 q.2.1) (sx_ro hO hb hn hr h2)⟩
theorem OJ_ro : ∀ r, ROs (OJ r)
  | 0 => fun _ _ _ _ _ _ h => h.elim
  | r + 1 => fun _ _ _ _ _ hn h => ⟨h.1, h.2.1, J_ro (OJ_ro r) hn h.2.2 (by omega) (fun _ _ => rfl)⟩
/-- in a call's end one may take for granted that cells from 1000 on are as they were -/
theorem J_rw {r j n : Nat} {Q : pQ} {L : pL} {M : pM} (hb : n + mC j ≤ 1000) (h : J (OJ r) j n (fun x M' => RO M M' → Q x M') 0 L [] n M) : J (OJ r) j n Q 0 L [] n M :=
  J_mono (fun _ _ q => q.2 q.1) (J_ro (OJ_ro r) hb h (by omega) (fun _ _ => rfl))
