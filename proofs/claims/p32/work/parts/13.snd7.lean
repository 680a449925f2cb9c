theorem acp_in0 : chk (fun q : Nat × Nat × Nat => .methodLink (RN q.1) q.2.1 arraycopyName) (fun q => q.2.2) lw_tbl acpL = true := by decide +kernel
theorem acp_w : Cond.native arraycopyName ∈ lw_tbl ∧ Cond.static arraycopyName ∈ lw_tbl ∧ Cond.initialized "java/lang/System" ∈ lw_tbl := ⟨chk_ok (w := fun _ : Unit => .native arraycopyName) (ps := fun _ => 1479) (es := [()]) (by decide +kernel) () List.mem_cons_self, chk_ok (w := fun _ : Unit => .static arraycopyName) (ps := fun _ => 1478) (es := [()]) (by decide +kernel) () List.mem_cons_self, chk_ok (w := fun _ : Unit => .initialized "java/lang/System") (ps := fun _ => 210) (es := [()]) (by decide +kernel) () List.mem_cons_self⟩
theorem acp_n : nativeFrameWords "java/lang/System" "arraycopy" 5 ≤ 40 := by decide +kernel
set_option maxHeartbeats 4000000 in
theorem snd_acp {E : pE} {j n0 r : Nat} {Me : pM} {p : Program} {l : Launch} {e : Env} {R : Room} {s : State} {m : MethodId} {args : Array Value} {below : List Frame} {meth : Method} {c : Code} {Qw : State → Prop} (F : Fx E j n0 r Me p R s m args meth c)
    {pc : Nat} {L : pL} {S : List pv} {n : Nat} {M : pM} {S' : List pv} {ix a b : Nat} {x y k : Int} {q : Nat × Nat × Nat} (hq : q ∈ acpL) (e1 : q.1 = mO j) (e2 : q.2.1 = ix) (hd : decode (mB j) pc = .ok (.invokestatic ix, 3)) (hk : stk S' ≤ 8) (h0 : 0 ≤ x) (h1 : 0 ≤ y) (h2 : 0 ≤ k) (h3 : x + k ≤ alw n a 0) (h4 : y + k ≤ alw n b 0) (kk : Sm E j n0 Me p l e R s m args below meth c Qw (pc + 3) L S' n (cpy M a b x.toNat y.toNat k.toNat)) : Sm E j n0 Me p l e R s m args below meth c Qw pc L (vi k :: vi y :: vr (b + 1) :: vi x :: vr (a + 1) :: S') n M := by
  intro hn1 hn2 hL hS hM hro hLl H locs ls hl hw hSS
  obtain ⟨hx, hb, hml, hown, hts, hK, hRO, hini, hRm, hRf, hsz, had, hr, hNC⟩ := F
  have hk0 : r32 k := wfS_h hS
  have hy0 : r32 y := wfS_h (wfS_t hS)
  have hx0 : r32 x := wfS_h (wfS_t (wfS_t (wfS_t hS)))
  have hS' := wfS_t (wfS_t (wfS_t (wfS_t (wfS_t hS))))
  obtain ⟨la, han, hsha, hla⟩ := alw_of (n := n) (a := a) (t := 0) (by omega)
  obtain ⟨lb, hbn, hshb, hlb⟩ := alw_of (n := n) (a := b) (t := 0) (by omega)
  have hM' : wfM (cpy M a b x.toNat y.toNat k.toNat) := by
    intro c i
    unfold cpy
    split
    · rename_i hh
      have h5 : slT c i = .int := by unfold slT; rw [hh.1, hshb]; rfl
      rw [h5]
      exact wf_arr hM hsha (by omega)
    · exact hM c i
  have hro' : ∀ c, 1000 ≤ c → cpy M a b x.toNat y.toNat k.toNat c = Me c := fun c hc => by
    have := ncell_lt hn2 hNC hbn
    rw [← hro c hc]
    funext i
    unfold cpy
    rw [if_neg (by omega)]
  have hset : (wsO E n M).set b (E.2.2.2 + b, .inl (E.2.1 0, lb, .inl (va_cpy (fun i => Int32.ofInt (M a i)) (fun i => Int32.ofInt (M b i)) x.toNat y.toNat k.toNat))) = wsO E n (cpy M a b x.toNat y.toNat k.toNat) := by
    refine wsO_set hbn (fun c hc => ?_) ?_
    · funext i; unfold cpy; rw [if_neg (by omega)]
    · rw [hshb]
      show _ = Sum.inl (E.2.1 0, lb, Sum.inl _)
      congr 4
      funext i
      unfold va_cpy cpy
      by_cases h : y.toNat ≤ i ∧ i < y.toNat + k.toNat
      · rw [if_pos h, if_pos ⟨rfl, h⟩]
      · rw [if_neg h, if_neg (fun q => h q.2)]
  have hst : (vi k :: vi y :: vr (b + 1) :: vi x :: vr (a + 1) :: S').map (cv E.2.2.1) = .int (Int32.ofInt k) :: .int (Int32.ofInt y) :: .ref (E.2.2.2 + b) :: .int (Int32.ofInt x) :: .ref (E.2.2.2 + a) :: S'.map (cv E.2.2.1) := by
    show _ :: _ :: Value.ref (E.2.2.1 b) :: _ :: Value.ref (E.2.2.1 a) :: _ = _
    rw [had a (ncell_lt hn2 hNC han), had b (ncell_lt hn2 hNC hbn)]
    rfl
  rw [hst]
  subst e2
  have nz : ∀ z : Int, r32 z → 0 ≤ z → ¬ Int32.ofInt z < 0 := fun z hz h q => by rw [show (0 : Int32) = Int32.ofInt 0 from rfl, i32_lt hz r32_0] at q; omega
  have hw5 := acp_n
  refine va_copyi hx hb (by rw [hml]; exact (hl.1.trans hLl).symm) hown (by rw [← e1]; exact hts _ (chk_ok acp_in0 q hq) rfl) (hts _ acp_w.1 rfl) (hts _ acp_w.2.1 rfl) (hts _ acp_w.2.2 rfl) hK.1 hw (wsO_D E n M) hSS a b 0 0 (ar_at han hsha (by omega)) (ar_at hbn hshb (by omega)) rfl rfl rfl (nz x hx0 h0) (nz y hy0 h1) (nz k hk0 h2) (by rw [i32_cl hx0 h0, i32_cl hk0 h2]; omega) (by rw [i32_cl hy0 h1, i32_cl hk0 h2]; omega) (fun i hi => rfl) (by omega) (by rw [stk_cv]; omega) hd (fun H1 locs1 g1 g2 g3 => ?_)
  rw [i32_cl hx0 h0, i32_cl hy0 h1, i32_cl hk0 h2, hset] at g1
  exact kk hn1 hn2 hL hS' hM' hro' hLl H1 locs1 ls hl g1 g3
theorem mO_lt : ∀ q ∈ calL, q.2.2.1 = 0 → mO q.2.2.2.1 < 13 ∨ 13 < mO q.2.2.2.1 := by decide +kernel
theorem ob_le {n a c : Nat} (h : ob n a = c) (hc : c ≠ 99) (hn : n ≤ NCELL) : c < 13 := by
  have hN : NCELL = 119 := rfl
  have h1 : ∀ a, a < 119 → (match SH a with
    | .inl x => decide (x < 13)
    | .inr _ => true) = true := by decide +kernel
  unfold ob at h
  split at h
  · rename_i hl
    have h2 := h1 a (by omega)
    cases hs : SH a with
    | inl x => rw [hs] at h h2; have h : x = c := h; have := of_decide_eq_true h2; omega
    | inr x => rw [hs] at h; exact absurd h.symm hc
  · exact absurd h.symm hc
theorem mO_99 : ∀ i, i < 325 → mO i ≠ 99 := by decide +kernel
set_option maxHeartbeats 8000000 in
theorem stp_snd {E : pE} {j n0 r : Nat} {Me : pM} {p : Program} {l : Launch} {e : Env} {R : Room} {s : State} {m : MethodId} {args : Array Value} {below : List Frame} {meth : Method} {c : Code} {Qw : State → Prop} (F : Fx E j n0 r Me p R s m args meth c) {r' : Nat} {O : pO} {Q : pQ} (hO : OS l r' O) (hrr : r' + 1 ≤ r)
    (hRi : ∀ (pc : Nat) (x : Int) (M' : pM) (H : Heap) (locs : List Loc) (ls : Array Slot), decode (mB j) pc = .ok (.ireturn, 1) → rok (mR j) x → r32 x → Q (some (vi x)) M' → wfM M' → (∀ a, 1000 ≤ a → M' a = Me a) → va_P E.1 vwCl (wsO E (n0 + mC j) M') H → va_S (AE E) s.heap H locs → W p l e R s m args below meth c H locs (n0 + mC j - n0) (slL (n0 + mC j) - slL n0) Qw (F0 m pc ls [.int (Int32.ofInt x)]))
    (hRl : ∀ (pc : Nat) (x : Int) (M' : pM) (H : Heap) (locs : List Loc) (ls : Array Slot), decode (mB j) pc = .ok (.lreturn, 1) → mR j = some .long → r64 x → Q (some (vl x)) M' → wfM M' → (∀ a, 1000 ≤ a → M' a = Me a) → va_P E.1 vwCl (wsO E (n0 + mC j) M') H → va_S (AE E) s.heap H locs → W p l e R s m args below meth c H locs (n0 + mC j - n0) (slL (n0 + mC j) - slL n0) Qw (F0 m pc ls [.long (Int64.ofInt x)]))
    (hRv : ∀ (pc : Nat) (M' : pM) (H : Heap) (locs : List Loc) (ls : Array Slot), decode (mB j) pc = .ok (.return_, 1) → mR j = none → Q none M' → wfM M' → (∀ a, 1000 ≤ a → M' a = Me a) → va_P E.1 vwCl (wsO E (n0 + mC j) M') H → va_S (AE E) s.heap H locs → W p l e R s m args below meth c H locs (n0 + mC j - n0) (slL (n0 + mC j) - slL n0) Qw (F0 m pc ls []))
    (pc : Nat) (L : pL) (S : List pv) (n : Nat) (M : pM) (hs : stp O j n0 Q (Sm E j n0 Me p l e R s m args below meth c Qw) pc L S n M) : Sm E j n0 Me p l e R s m args below meth c Qw pc L S n M := by
  obtain ⟨i, len, hd, hs⟩ := hs
  by_cases hnn : n ≤ NCELL
  case neg => exact fun h1 h2 => absurd (Nat.le_trans h2 F.2.2.2.2.2.2.2.2.2.2.2.2.2) hnn
  rcases hs with hs | hs
  case inr => exact sy_snd F hO hrr hd hs
  cases i
  case istore k => obtain ⟨L', S', h1, h2⟩ := hs; exact snd_sto F hd h1 h2
  case istore_n k => obtain ⟨L', S', h1, h2⟩ := hs; exact snd_sto F hd h1 h2
  case astore k => obtain ⟨L', S', h1, h2⟩ := hs; exact snd_sto F hd h1 h2
  case astore_n k => obtain ⟨L', S', h1, h2⟩ := hs; exact snd_sto F hd h1 h2
  case lstore k => obtain ⟨L', S', h1, h2⟩ := hs; exact snd_sto F hd h1 h2
  case lstore_n k => obtain ⟨L', S', h1, h2⟩ := hs; exact snd_sto F hd h1 h2
  case iinc k c => obtain ⟨L', S', h1, h2⟩ := hs; exact snd_sto F hd h1 h2
  case ifCond c off => obtain ⟨rfl, x, S', t, rfl, h2, h3, h4⟩ := hs; exact snd_if (S := []) F hd h2 h3 h4
  case if_icmp c off => obtain ⟨rfl, x, y, S', t, rfl, h2, h3, h4⟩ := hs; exact snd_icmp (S := []) F hd h2 h3 h4
  case goto off => obtain ⟨rfl, t, h1, h2⟩ := hs; exact snd_goto F hd h1 h2
  case tableswitch d lo hi offs => obtain ⟨x, S', rfl, h2, h3, h4⟩ := hs; exact snd_tab (S := []) F hd h2 h3 h4
  case lookupswitch d ps => obtain ⟨h0, x, S', rfl, t, h2, h3⟩ := hs; exact snd_look (S := []) F hd h0 h2 h3
  case getfield ix => obtain ⟨rfl, q, hq, e1, e2, a, S', rfl, e4, e5⟩ := hs; exact snd_get (S := []) F hq e1 e2 hd e4 e5
  case putfield ix => obtain ⟨rfl, q, hq, e1, e2, e0, a, v, x, S', rfl, e4, e6, e5⟩ := hs; exact snd_put (S := []) F hq e1 e2 hd e0 (fld_dc q hq) e4 e6 e5
  case getstatic ix => obtain ⟨rfl, q, hq, e1, e2, e5⟩ := hs; exact snd_gs F hq e1 e2 hd e5
  case iaload => obtain ⟨rfl, x, a, S', rfl, e2, e3, e5⟩ := hs; exact snd_iald (S := []) F hd e2 e3 e5
  case laload => obtain ⟨rfl, x, a, S', rfl, e2, e3, e5⟩ := hs; exact snd_lald (S := []) F hd e2 e3 e5
  case baload => obtain ⟨rfl, x, a, S', rfl, e2, e3, e5⟩ := hs; exact snd_bald (S := []) F hd e2 e3 e5
  case iastore => obtain ⟨rfl, v, x, a, S', rfl, e2, e3, e5⟩ := hs; exact snd_iast (S := []) F hd e2 e3 e5
  case lastore => obtain ⟨rfl, v, x, a, S', rfl, e2, e3, e5⟩ := hs; exact snd_last (S := []) F hd e2 e3 e5
  case bastore =>
    obtain ⟨rfl, v, x, a, S', rfl, e2, e3⟩ := hs
    rcases e3 with ⟨e3, e5⟩ | ⟨e3, e4, e5⟩
    · exact snd_bast (S := []) F hd e2 e3 e5
    · exact snd_zast (S := []) F hd e2 e3 e4 e5
  case arraylength => obtain ⟨rfl, a, S', t, rfl, e2, e5⟩ := hs; exact snd_alen (S := []) F hd e2 e5
  case newarray t =>
    obtain ⟨rfl, x, S', rfl, e2, e3, e4, e6, e7, e8, e5⟩ := hs
    rcases e6 with rfl | rfl | rfl | rfl
    · exact snd_new_int (S := []) F hd e3 e4 e7 e8 e5
    · exact snd_new_long (S := []) F hd e3 e4 e7 e8 e5
    · exact snd_new_byte (S := []) F hd e3 e4 e7 e8 e5
    · exact snd_new_boolean (S := []) F hd e3 e4 e7 e8 e5
  case new ix => obtain ⟨rfl, q, hq, e1, e2, e3, e4, e6, e5⟩ := hs; exact snd_new F hq e1 e2 hd e4 e6 e5
  case invokevirtual ix =>
    obtain ⟨rfl, q, hq, e1, e2, e3, As, b, S', rfl, e5, e6, e7, e8, e9⟩ := hs
    exact snd_callV (S := []) F hO hrr hq e1 e2 e3 hd e5 e6 (ob_le e6 (mO_99 _ (cal_rg q hq).1) hnn) e7 e8 e9
  case invokestatic ix =>
    obtain ⟨rfl, hh⟩ := hs
    rcases hh with ⟨q, hq, e1, e2, e3, hh⟩ | ⟨g0, q, hq, e1, e2, a, b, x, y, k, S', rfl, f2, f3, f4, f5, f6, f7, f8⟩
    · rcases hh with ⟨m, As, S', rfl, e5, e7, e8, e9⟩ | ⟨m, a, b, S', rfl, e5, e9⟩ | ⟨m, a, b, S', rfl, e5, e9⟩ | ⟨m, a, S', rfl, e5, e9⟩
      · exact snd_callS (S := []) F hO hrr hq e1 e2 e3 hd e5 e7 e8 e9
      · exact snd_max (S := []) F hq e1 e2 m (mth_ne q hq (by omega)) hd e5 e9
      · exact snd_min (S := []) F hq e1 e2 m (mth_ne q hq (by omega)) hd e5 e9
      · exact snd_abs (S := []) F hq e1 e2 m (mth_ne q hq (by omega)) hd e5 e9
    · exact snd_acp (S := []) F hq e1 e2 hd f2 f3 f4 f5 f6 f7 f8
  case invokespecial ix =>
    obtain ⟨rfl, hh⟩ := hs
    rcases hh with ⟨q, hq, e1, e2, b, S', rfl, e4, e5⟩ | ⟨q, hq, e1, e2, e3, As, b, S', rfl, e5, e6, e7, e8, e9, e10⟩
    · exact snd_obj (S := []) F hq e1 e2 hd e4 e5
    · exact snd_callI (S := []) F hO hrr hq e1 e2 e3 hd e5 e7 e8 e9 e10
  case ireturn =>
    obtain ⟨rfl, rfl, x, rfl, e4, e5⟩ := hs
    intro hn1 hn2 hL hS hM hro hLl H locs ls hl hw hSS
    exact hRi pc x M H locs ls hd e4 (wfS_h hS) e5 hM hro hw hSS
  case lreturn =>
    obtain ⟨rfl, rfl, e3, x, rfl, e5⟩ := hs
    intro hn1 hn2 hL hS hM hro hLl H locs ls hl hw hSS
    exact hRl pc x M H locs ls hd e3 (wfS_h hS) e5 hM hro hw hSS
  case return_ =>
    obtain ⟨rfl, rfl, e3, rfl, e5⟩ := hs
    intro hn1 hn2 hL hS hM hro hLl H locs ls hl hw hSS
    exact hRv pc M H locs ls hd e3 e5 hM hro hw hSS
  all_goals (obtain ⟨S', h1, h2⟩ := hs; exact snd_pur F hd h1 h2)
def en0 (v : pv) : pL := if catv v = 2 then [some v, none] else [some v]
/-- the locals at a method's entry -/
def ent (i : Nat) (a : List pv) : pL := a.flatMap en0 ++ List.replicate (mX i - (a.flatMap en0).length) none
theorem en_at (ad : Nat → Nat) : ∀ (a : List pv), (a.flatMap en0).length = (lg_sl (a.map (cv ad))).length ∧ ∀ (k : Nat) (v : pv), (a.flatMap en0)[k]? = some (some v) → (lg_sl (a.map (cv ad)))[k]? = some (Slot.val (cv ad v)) := by
  intro a
  induction a with
  | nil => exact ⟨rfl, fun k v h => by simp at h⟩
  | cons u a ih =>
    have e1 : (u :: a).flatMap en0 = en0 u ++ a.flatMap en0 := List.flatMap_cons
    have e2 : lg_sl ((u :: a).map (cv ad)) = (if (cv ad u).category = 2 then [.val (cv ad u), .second] else [.val (cv ad u)]) ++ lg_sl (a.map (cv ad)) := by unfold lg_sl; rw [List.map_cons, List.flatMap_cons]
    rw [e1, e2, cat_cv]
    unfold en0
    by_cases hc : catv u = 2
    · rw [if_pos hc, if_pos hc]
      refine ⟨by simp only [List.length_append, List.length_cons, List.length_nil]; have := ih.1; unfold en0 at this; omega, fun k v h => ?_⟩
      match k, h with
      | 0, h => simp at h; subst h; rfl
      | 1, h => simp at h
      | k + 2, h => simp at h ⊢; exact ih.2 k v h
    · rw [if_neg hc, if_neg hc]
      refine ⟨by simp only [List.length_append, List.length_cons, List.length_nil]; have := ih.1; unfold en0 at this; omega, fun k v h => ?_⟩
      match k, h with
      | 0, h => simp at h; subst h; rfl
      | k + 1, h => simp at h ⊢; exact ih.2 k v h
theorem ent_lr {ad : Nat → Nat} {i : Nat} {a : List pv} (h : (a.flatMap en0).length ≤ mX i) : lr ad ((lg_sl (a.map (cv ad)) ++ List.replicate (mX i - (lg_sl (a.map (cv ad))).length) Slot.unset).toArray) (ent i a) ∧ (ent i a).length = mX i := by
  obtain ⟨h1, h2⟩ := en_at ad a
  have hv := lv_entry (a.map (cv ad)) (n := mX i) (by omega)
  have hlen : (ent i a).length = mX i := by unfold ent; rw [List.length_append, List.length_replicate]; omega
  refine ⟨⟨by rw [hv.1, hlen], hv.2.1, fun k v hk => ?_⟩, hlen⟩
  unfold ent at hk
  by_cases hl : k < (a.flatMap en0).length
  · rw [List.getElem?_append_left hl] at hk
    rw [List.getElem?_toArray, List.getElem?_append_left (by omega)]
    exact h2 k v hk
  · rw [List.getElem?_append_right (by omega)] at hk
    have := List.mem_of_getElem? hk
    rw [List.mem_replicate] at this
    cases this.2
theorem ent_wf {i : Nat} {a : List pv} (h : wfS a) : wfL (ent i a) := by
  intro v hv
  unfold ent at hv
  rcases List.mem_append.mp hv with h1 | h1
  · obtain ⟨u, hu, h2⟩ := List.mem_flatMap.mp h1
    unfold en0 at h2
    split at h2 <;> simp at h2 <;> subst h2 <;> exact h _ hu
  · rw [List.mem_replicate] at h1
    cases h1.2
theorem mpl_ok : ∀ i, i < 325 → mth i = 0 → plainName (mY i).cls = true := by decide +kernel
set_option maxHeartbeats 8000000 in
/-- one room more: what the pure machine proves of the methods, the machine does -/
theorem OS_next {l : Launch} {r : Nat} {O O' : pO} (hO : OS l r O) (h : ∀ (i : Nat) (a : List pv) (n : Nat) (M : pM) (Q : pQ), i < 325 → wfS a → wfM M → O' i a n M Q → mth i = 0 ∧ (a.flatMap en0).length ≤ mX i ∧ J O i n Q 0 (ent i a) [] n M) : OS l (r + 1) O' := by
  intro i a n M Q hi hO' hwa hwM hn E had
  obtain ⟨hm, hal, hJ⟩ := h i a n M Q hi hwa hwM hO'
  refine Met.ofW (cc := mB i) (maxL := mX i) (ret := mR i) (mpl_ok i hi hm) rfl ?_
  intro p e s m args below meth c s₁ B hml hv
  obtain ⟨rfl, hsz, hP, hK, hRO⟩ := hv
  have hx := B.exec
  have hb := B.bytes
  have hr := B.returns
  have hlocks := B.notSynchronized
  have hts := atoms_spec (ws := wsM i) B.pre
  have hown : s.vm.findClass (mY i).cls = some m.cls := findClass_of_methodNamed B.named
  rw [mow_ok i hi] at hown
  have hnm : meth.name = (mY i).name := (name_of_methodNamed B.named B.method).1
  have F : Fx E i n (r + 1) M p (headSpec (wsM i) (rmM i n (r + 1))).room s m ((a.map (cv E.2.2.1)).toArray) meth c :=
    ⟨hx, hb, hml, hown, fun w hw hg => hts w (List.mem_cons_of_mem _ (TWD_in hw hg)), hK, hRO, fun hz => by rw [hnm, hz], ⟨Nat.le_refl _, Nat.le_refl _⟩, ⟨Nat.le_refl _, Nat.le_refl _⟩, hsz, had, by omega, hn⟩
  rw [lg_entry_eq]
  obtain ⟨hlr, hlen⟩ := ent_lr (ad := E.2.2.1) hal
  have hJW := hJ (Sm E i n M p l e (headSpec (wsM i) (rmM i n (r + 1))).room s m ((a.map (cv E.2.2.1)).toArray) below meth c (MQ below (QcM E i n M Q) ((a.map (cv E.2.2.1)).toArray) s (mC i) (slL (n + mC i) - slL n) (AE E))) (stp_snd F hO (Nat.le_refl _) ?_ ?_ ?_)
  · have := hJW (Nat.le_refl _) (by omega) (ent_wf hwa) (fun v hv => by cases hv) hwM (fun _ _ => rfl) hlen s.heap [] _ hlr hP va_S.rf
    simp only [Nat.sub_self] at this
    exact this
  · intro pc x M' H locs ls hd hrk hrx hq hwf hro hw hSS
    rw [Nat.add_sub_cancel_left]
    cases hR : mR i with
    | none => rw [hR] at hrk; exact hrk.elim
    | some ty =>
      rw [hR] at hr
      cases ty
      case int =>
        have hQ : QcM E i n M Q = va_Qi (fun (x : Int32) (u : Int × pM) => x = Int32.ofInt u.1 ∧ r32 u.1 ∧ Q (some (vi u.1)) u.2 ∧ wfM u.2 ∧ ∀ a, 1000 ≤ a → u.2 a = M a) (fun u t => va_P E.1 vwCl (wsO E (n + mC i) u.2) t.heap) (AE E) := by unfold QcM; rw [hR]
        rw [hQ]
        exact W.iret hx hb hr (fun t ht hW => ⟨⟨_, (x, M'), rfl, ⟨rfl, hrx, hq, hwf, hro⟩, by show va_P _ _ _ t.heap; rw [ht]; exact hw⟩, hSS.F ht⟩) hSS.2.2 hd
      case boolean =>
        have hQ : QcM E i n M Q = va_Qi (fun (x : Int32) (u : Int × pM) => x = Int32.ofInt u.1 ∧ r32 u.1 ∧ Q (some (vi u.1)) u.2 ∧ wfM u.2 ∧ ∀ a, 1000 ≤ a → u.2 a = M a) (fun u t => va_P E.1 vwCl (wsO E (n + mC i) u.2) t.heap) (AE E) := by unfold QcM; rw [hR]
        rw [hQ]
        rw [hR] at hrk
        exact W.zret hx hb hr (by rcases hrk with rfl | rfl <;> rfl) (fun t ht hW => ⟨⟨_, (x, M'), rfl, ⟨rfl, hrx, hq, hwf, hro⟩, by show va_P _ _ _ t.heap; rw [ht]; exact hw⟩, hSS.F ht⟩) hSS.2.2 hd
      case char =>
        have hQ : QcM E i n M Q = va_Qi (fun (x : Int32) (u : Int × pM) => x = Int32.ofInt u.1 ∧ r32 u.1 ∧ Q (some (vi u.1)) u.2 ∧ wfM u.2 ∧ ∀ a, 1000 ≤ a → u.2 a = M a) (fun u t => va_P E.1 vwCl (wsO E (n + mC i) u.2) t.heap) (AE E) := by unfold QcM; rw [hR]
        rw [hQ]
        rw [hR] at hrk
        exact W.zret hx hb hr (nar_c hrk) (fun t ht hW => ⟨⟨_, (x, M'), rfl, ⟨rfl, hrx, hq, hwf, hro⟩, by show va_P _ _ _ t.heap; rw [ht]; exact hw⟩, hSS.F ht⟩) hSS.2.2 hd
      case byte =>
        have hQ : QcM E i n M Q = va_Qi (fun (x : Int32) (u : Int × pM) => x = Int32.ofInt u.1 ∧ r32 u.1 ∧ Q (some (vi u.1)) u.2 ∧ wfM u.2 ∧ ∀ a, 1000 ≤ a → u.2 a = M a) (fun u t => va_P E.1 vwCl (wsO E (n + mC i) u.2) t.heap) (AE E) := by unfold QcM; rw [hR]
        rw [hQ]
        rw [hR] at hrk
        exact W.zret hx hb hr (nar_b hrk) (fun t ht hW => ⟨⟨_, (x, M'), rfl, ⟨rfl, hrx, hq, hwf, hro⟩, by show va_P _ _ _ t.heap; rw [ht]; exact hw⟩, hSS.F ht⟩) hSS.2.2 hd
      all_goals (rw [hR] at hrk; exact hrk.elim)
  · intro pc x M' H locs ls hd hrk hrx hq hwf hro hw hSS
    rw [Nat.add_sub_cancel_left]
    rw [hrk] at hr
    have hQ : QcM E i n M Q = va_Ql (fun (x : Int64) (u : Int × pM) => x = Int64.ofInt u.1 ∧ r64 u.1 ∧ Q (some (vl u.1)) u.2 ∧ wfM u.2 ∧ ∀ a, 1000 ≤ a → u.2 a = M a) (fun u t => va_P E.1 vwCl (wsO E (n + mC i) u.2) t.heap) (AE E) := by unfold QcM; rw [hrk]
    rw [hQ]
    exact W.lret hx hb hr (fun t ht hW => ⟨⟨_, (x, M'), rfl, ⟨rfl, hrx, hq, hwf, hro⟩, by show va_P _ _ _ t.heap; rw [ht]; exact hw⟩, hSS.F ht⟩) hSS.2.2 hd
  · intro pc M' H locs ls hd hrk hq hwf hro hw hSS
    rw [Nat.add_sub_cancel_left]
    rw [hrk] at hr
    have hQ : QcM E i n M Q = va_Qv (fun M' : pM => Q none M' ∧ wfM M' ∧ ∀ a, 1000 ≤ a → M' a = M a) (fun M' t => va_P E.1 vwCl (wsO E (n + mC i) M') t.heap) (AE E) := by unfold QcM; rw [hrk]
    rw [hQ]
    exact W.vret hx hb hr (fun t ht hW => ⟨⟨M', rfl, ⟨hq, hwf, hro⟩, by show va_P _ _ _ t.heap; rw [ht]; exact hw⟩, hSS.F ht⟩) hSS.2.2 hd
/-- nothing is taken for granted: no room is needed -/
theorem OS_none (l : Launch) (r : Nat) : OS l r (fun _ _ _ _ _ => False) := fun _ _ _ _ _ _ h => h.elim
