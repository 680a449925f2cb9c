theorem sh_t : ∀ a, a < 119 → (match SH a with
  | .inl _ => true
  | .inr q => decide (q.1 < 4 ∧ q.2 < 1000000)) = true := by decide +kernel
theorem sh_t4 {a n t len : Nat} (hn : n ≤ NCELL) (h : a < n) (hs : SH a = .inr (t, len)) : t < 4 ∧ len < 1000000 := by
  have h1 := sh_t a (by have : NCELL = 119 := rfl; omega)
  rw [hs] at h1
  exact of_decide_eq_true h1
theorem tys_at {E : pE} {t : Nat} (h : t < 4) : ∃ ty, (tysE E)[t]? = some (E.2.1 t, ty) := by
  rcases t with _ | _ | _ | _ | t
  · exact ⟨_, rfl⟩
  · exact ⟨_, rfl⟩
  · exact ⟨_, rfl⟩
  · exact ⟨_, rfl⟩
  · omega
theorem aln_cs {M : pM} {n a : Nat} (hn : n ≤ NCELL) (h : 0 ≤ aln M n a 0) : (a < n ∧ aln M n a 0 = alw n a 0) ∨ (1000 ≤ a ∧ a ≤ 1002 ∧ aln M n a 0 = aln M 0 a 0) := by
  have hN : NCELL = 119 := rfl
  unfold aln at h ⊢
  by_cases h1 : a = 1002
  · right; subst h1; simp
  · by_cases h2 : a = 1000 ∨ a = 1001
    · right; rcases h2 with rfl | rfl <;> simp
    · left
      simp [h1, h2] at h ⊢
      obtain ⟨len, h3, -⟩ := alw_of h
      exact h3
theorem ar_at {E : pE} {n a t len : Nat} {M : pM} (han : a < n) (hsh : SH a = .inr (t, len)) (ht : t ≠ 1) : (wsO E n M)[a]? = some (E.2.2.2 + a, .inl (E.2.1 t, len, .inl (fun i => Int32.ofInt (M a i)))) := by
  rw [wsO_at han, hsh]
  show some (E.2.2.2 + a, Sum.inl (E.2.1 t, len, if t = 1 then _ else _)) = _
  rw [if_neg ht]
theorem ar_at1 {E : pE} {n a len : Nat} {M : pM} (han : a < n) (hsh : SH a = .inr (1, len)) : (wsO E n M)[a]? = some (E.2.2.2 + a, .inl (E.2.1 1, len, .inr (.inl (fun i => Int64.ofInt (M a i))))) := by
  rw [wsO_at han, hsh]
  rfl
theorem ar_set {E : pE} {n a t len k : Nat} {M : pM} {v : Int} {w : Int32} (han : a < n) (hsh : SH a = .inr (t, len)) (ht : t ≠ 1) (hw : w = Int32.ofInt v) : (wsO E n M).set a (E.2.2.2 + a, .inl (E.2.1 t, len, .inl (upd (fun i => Int32.ofInt (M a i)) k w))) = wsO E n (st M a k v) := by
  refine wsO_set han (fun b hb => st_row hb) ?_
  rw [hsh]
  show _ = Sum.inl (E.2.1 t, len, if t = 1 then _ else _)
  rw [if_neg ht]
  congr 3
  congr 1
  funext i
  by_cases hi : i = k
  · subst hi; rw [st_at, pk_us, hw]
  · rw [st_ne hi, pk_un hi]
theorem ar_set1 {E : pE} {n a len k : Nat} {M : pM} {v : Int} {w : Int64} (han : a < n) (hsh : SH a = .inr (1, len)) (hw : w = Int64.ofInt v) : (wsO E n M).set a (E.2.2.2 + a, .inl (E.2.1 1, len, .inr (.inl (vp_updL (fun i => Int64.ofInt (M a i)) k w)))) = wsO E n (st M a k v) := by
  refine wsO_set han (fun b hb => st_row hb) ?_
  rw [hsh]
  show _ = Sum.inl (E.2.1 1, len, Sum.inr (Sum.inl _))
  congr 4
  congr 1
  funext i
  by_cases hi : i = k
  · subst hi; rw [st_at, pk_uLs, hw]
  · rw [st_ne hi, pk_uLn hi]
theorem wf_arr {M : pM} {a t len i : Nat} (hM : wfM M) (hsh : SH a = .inr (t, len)) (ht : t ≠ 1) : r32 (M a i) := by
  have h := hM a i
  unfold slT at h
  rw [hsh] at h
  simp only [if_neg ht] at h
  exact h
theorem wf_ro {M : pM} {a i : Nat} (hM : wfM M) (ha : 1000 ≤ a) : r32 (M a i) := by
  have h := hM a i
  have hs : SH a = .inl 99 := by
    unfold SH
    rw [List.getD_eq_getElem?_getD, List.getElem?_eq_none (by have : SHL.length = 119 := rfl; omega)]
    rfl
  unfold slT at h
  rw [hs] at h
  exact h
set_option maxHeartbeats 4000000 in
theorem snd_iald {E : pE} {j n0 r : Nat} {Me : pM} {p : Program} {l : Launch} {e : Env} {R : Room} {s : State} {m : MethodId} {args : Array Value} {below : List Frame} {meth : Method} {c : Code} {Qw : State → Prop} (F : Fx E j n0 r Me p R s m args meth c)
    {pc : Nat} {L : pL} {S : List pv} {n : Nat} {M : pM} {S' : List pv} {a : Nat} {x : Int} (hd : decode (mB j) pc = .ok (.iaload, 1)) (h0 : 0 ≤ x) (h1 : x < aln M n a 0) (k : Sm E j n0 Me p l e R s m args below meth c Qw (pc + 1) L (vi (M a x.toNat) :: S') n M) : Sm E j n0 Me p l e R s m args below meth c Qw pc L (vi x :: vr (a + 1) :: S') n M := by
  intro hn1 hn2 hL hS hM hro hLl H locs ls hl hw hSS
  obtain ⟨hx, hb, hml, hown, hts, hK, hRO, hini, hRm, hRf, hsz, had, hr, hNC⟩ := F
  have hx0 : r32 x := wfS_h hS
  have hS' := wfS_t (wfS_t hS)
  have hn : n ≤ NCELL := by omega
  rcases aln_cs hn (by omega : 0 ≤ aln M n a 0) with ⟨han, hal⟩ | ⟨ha1, ha2, hal⟩
  · obtain ⟨len, -, hsh, hle⟩ := alw_of (n := n) (a := a) (t := 0) (by omega)
    have K := k hn1 hn2 hL (wfS_c (wf_arr hM hsh (by omega)) hS') hM hro hLl H locs ls hl hw hSS
    have hst : (vi x :: vr (a + 1) :: S').map (cv E.2.2.1) = .int (Int32.ofInt x) :: .ref (E.2.2.2 + a) :: S'.map (cv E.2.2.1) := by show _ :: Value.ref (E.2.2.1 a) :: _ = _; rw [had a (ncell_lt hn2 hNC han)]; rfl
    rw [hst]
    refine va_iald hx hb hK.1 hw a 0 (ar_at han hsh (by omega)) rfl (vin hx0 h0 (by omega)) hd ?_
    rw [i32_cl hx0 h0]
    exact K
  · have hX := hRO.1 a ha1 ha2
    have K := k hn1 hn2 hL (wfS_c (wf_ro hM ha1) hS') hM hro hLl H locs ls hl hw hSS
    have hal' : aln M n a 0 = aln Me 0 a 0 := by rw [hal]; unfold aln; rw [hro 1003 (by omega)]
    refine va_ti hx hb hX hSS (vin hx0 h0 (by omega)) (v := .int (Int32.ofInt (M a x.toNat))) ?_ hd K
    show Value.int (Int32.ofInt (Me a (Int32.ofInt x).toNatClampNeg)) = _
    rw [i32_cl hx0 h0, ← hro a ha1]
set_option maxHeartbeats 4000000 in
theorem snd_lald {E : pE} {j n0 r : Nat} {Me : pM} {p : Program} {l : Launch} {e : Env} {R : Room} {s : State} {m : MethodId} {args : Array Value} {below : List Frame} {meth : Method} {c : Code} {Qw : State → Prop} (F : Fx E j n0 r Me p R s m args meth c)
    {pc : Nat} {L : pL} {S : List pv} {n : Nat} {M : pM} {S' : List pv} {a : Nat} {x : Int} (hd : decode (mB j) pc = .ok (.laload, 1)) (h0 : 0 ≤ x) (h1 : x < alw n a 1) (k : Sm E j n0 Me p l e R s m args below meth c Qw (pc + 1) L (vl (M a x.toNat) :: S') n M) : Sm E j n0 Me p l e R s m args below meth c Qw pc L (vi x :: vr (a + 1) :: S') n M := by
  intro hn1 hn2 hL hS hM hro hLl H locs ls hl hw hSS
  obtain ⟨hx, hb, hml, hown, hts, hK, hRO, hini, hRm, hRf, hsz, had, hr, hNC⟩ := F
  have hx0 : r32 x := wfS_h hS
  have hS' := wfS_t (wfS_t hS)
  obtain ⟨len, han, hsh, hle⟩ := alw_of (n := n) (a := a) (t := 1) (by omega)
  have hwf : r64 (M a x.toNat) := by have h := hM a x.toNat; unfold slT at h; rw [hsh] at h; exact h
  have K := k hn1 hn2 hL (wfS_c hwf hS') hM hro hLl H locs ls hl hw hSS
  have hst : (vi x :: vr (a + 1) :: S').map (cv E.2.2.1) = .int (Int32.ofInt x) :: .ref (E.2.2.2 + a) :: S'.map (cv E.2.2.1) := by show _ :: Value.ref (E.2.2.1 a) :: _ = _; rw [had a (ncell_lt hn2 hNC han)]; rfl
  rw [hst]
  refine va_lald hx hb hK.1 hw a 1 (ar_at1 han hsh) rfl (vin hx0 h0 (by omega)) hd ?_
  rw [i32_cl hx0 h0]
  exact K
set_option maxHeartbeats 4000000 in
theorem snd_bald {E : pE} {j n0 r : Nat} {Me : pM} {p : Program} {l : Launch} {e : Env} {R : Room} {s : State} {m : MethodId} {args : Array Value} {below : List Frame} {meth : Method} {c : Code} {Qw : State → Prop} (F : Fx E j n0 r Me p R s m args meth c)
    {pc : Nat} {L : pL} {S : List pv} {n : Nat} {M : pM} {S' : List pv} {a : Nat} {x : Int} (hd : decode (mB j) pc = .ok (.baload, 1)) (h0 : 0 ≤ x) (h1 : x < alw n a 2 ∨ x < alw n a 3) (k : Sm E j n0 Me p l e R s m args below meth c Qw (pc + 1) L (vi (M a x.toNat) :: S') n M) : Sm E j n0 Me p l e R s m args below meth c Qw pc L (vi x :: vr (a + 1) :: S') n M := by
  intro hn1 hn2 hL hS hM hro hLl H locs ls hl hw hSS
  obtain ⟨hx, hb, hml, hown, hts, hK, hRO, hini, hRm, hRf, hsz, had, hr, hNC⟩ := F
  have hx0 : r32 x := wfS_h hS
  have hS' := wfS_t (wfS_t hS)
  rcases h1 with h1 | h1
  · obtain ⟨len, han, hsh, hle⟩ := alw_of (n := n) (a := a) (t := 2) (by omega)
    have K := k hn1 hn2 hL (wfS_c (wf_arr hM hsh (by omega)) hS') hM hro hLl H locs ls hl hw hSS
    have hst : (vi x :: vr (a + 1) :: S').map (cv E.2.2.1) = .int (Int32.ofInt x) :: .ref (E.2.2.2 + a) :: S'.map (cv E.2.2.1) := by show _ :: Value.ref (E.2.2.1 a) :: _ = _; rw [had a (ncell_lt hn2 hNC han)]; rfl
    rw [hst]
    refine va_bald hx hb hK.1 hw a 2 (ar_at han hsh (by omega)) rfl (vin hx0 h0 (by omega)) hd ?_
    rw [i32_cl hx0 h0]
    exact K
  · obtain ⟨len, han, hsh, hle⟩ := alw_of (n := n) (a := a) (t := 3) (by omega)
    have K := k hn1 hn2 hL (wfS_c (wf_arr hM hsh (by omega)) hS') hM hro hLl H locs ls hl hw hSS
    have hst : (vi x :: vr (a + 1) :: S').map (cv E.2.2.1) = .int (Int32.ofInt x) :: .ref (E.2.2.2 + a) :: S'.map (cv E.2.2.1) := by show _ :: Value.ref (E.2.2.1 a) :: _ = _; rw [had a (ncell_lt hn2 hNC han)]; rfl
    rw [hst]
    refine va_zald hx hb hK.1 hw a 3 (ar_at han hsh (by omega)) rfl (vin hx0 h0 (by omega)) hd ?_
    rw [i32_cl hx0 h0]
    exact K
set_option maxHeartbeats 4000000 in
theorem snd_iast {E : pE} {j n0 r : Nat} {Me : pM} {p : Program} {l : Launch} {e : Env} {R : Room} {s : State} {m : MethodId} {args : Array Value} {below : List Frame} {meth : Method} {c : Code} {Qw : State → Prop} (F : Fx E j n0 r Me p R s m args meth c)
    {pc : Nat} {L : pL} {S : List pv} {n : Nat} {M : pM} {S' : List pv} {a : Nat} {x v : Int} (hd : decode (mB j) pc = .ok (.iastore, 1)) (h0 : 0 ≤ x) (h1 : x < alw n a 0) (k : Sm E j n0 Me p l e R s m args below meth c Qw (pc + 1) L S' n (st M a x.toNat v)) : Sm E j n0 Me p l e R s m args below meth c Qw pc L (vi v :: vi x :: vr (a + 1) :: S') n M := by
  intro hn1 hn2 hL hS hM hro hLl H locs ls hl hw hSS
  obtain ⟨hx, hb, hml, hown, hts, hK, hRO, hini, hRm, hRf, hsz, had, hr, hNC⟩ := F
  have hv0 := wfS_h hS
  have hx0 : r32 x := wfS_h (wfS_t hS)
  have hS' := wfS_t (wfS_t (wfS_t hS))
  obtain ⟨len, han, hsh, hle⟩ := alw_of (n := n) (a := a) (t := 0) (by omega)
  have hM' : wfM (st M a x.toNat v) := st_wf hM (by unfold slT; rw [hsh]; exact hv0)
  have hro' : ∀ b, 1000 ≤ b → st M a x.toNat v b = Me b := fun b hb => by rw [st_row (by have := ncell_lt hn2 hNC han; omega)]; exact hro b hb
  have hst : (vi v :: vi x :: vr (a + 1) :: S').map (cv E.2.2.1) = cv E.2.2.1 (vi v) :: .int (Int32.ofInt x) :: .ref (E.2.2.2 + a) :: S'.map (cv E.2.2.1) := by show _ :: _ :: Value.ref (E.2.2.1 a) :: _ = _; rw [had a (ncell_lt hn2 hNC han)]; rfl
  rw [hst]
  refine va_iast hx hb hK.1 hw (wsO_D E n M) hSS a 0 (ar_at han hsh (by omega)) rfl (vin hx0 h0 (by omega)) hd (fun H1 locs1 h2 h3 h4 => ?_)
  rw [i32_cl hx0 h0, ar_set han hsh (by omega) rfl] at h2
  exact k hn1 hn2 hL hS' hM' hro' hLl H1 locs1 ls hl h2 h4
set_option maxHeartbeats 4000000 in
theorem snd_last {E : pE} {j n0 r : Nat} {Me : pM} {p : Program} {l : Launch} {e : Env} {R : Room} {s : State} {m : MethodId} {args : Array Value} {below : List Frame} {meth : Method} {c : Code} {Qw : State → Prop} (F : Fx E j n0 r Me p R s m args meth c)
    {pc : Nat} {L : pL} {S : List pv} {n : Nat} {M : pM} {S' : List pv} {a : Nat} {x v : Int} (hd : decode (mB j) pc = .ok (.lastore, 1)) (h0 : 0 ≤ x) (h1 : x < alw n a 1) (k : Sm E j n0 Me p l e R s m args below meth c Qw (pc + 1) L S' n (st M a x.toNat v)) : Sm E j n0 Me p l e R s m args below meth c Qw pc L (vl v :: vi x :: vr (a + 1) :: S') n M := by
  intro hn1 hn2 hL hS hM hro hLl H locs ls hl hw hSS
  obtain ⟨hx, hb, hml, hown, hts, hK, hRO, hini, hRm, hRf, hsz, had, hr, hNC⟩ := F
  have hv0 := wfS_h hS
  have hx0 : r32 x := wfS_h (wfS_t hS)
  have hS' := wfS_t (wfS_t (wfS_t hS))
  obtain ⟨len, han, hsh, hle⟩ := alw_of (n := n) (a := a) (t := 1) (by omega)
  have hM' : wfM (st M a x.toNat v) := st_wf hM (by unfold slT; rw [hsh]; exact hv0)
  have hro' : ∀ b, 1000 ≤ b → st M a x.toNat v b = Me b := fun b hb => by rw [st_row (by have := ncell_lt hn2 hNC han; omega)]; exact hro b hb
  have hst : (vl v :: vi x :: vr (a + 1) :: S').map (cv E.2.2.1) = cv E.2.2.1 (vl v) :: .int (Int32.ofInt x) :: .ref (E.2.2.2 + a) :: S'.map (cv E.2.2.1) := by show _ :: _ :: Value.ref (E.2.2.1 a) :: _ = _; rw [had a (ncell_lt hn2 hNC han)]; rfl
  rw [hst]
  refine va_last hx hb hK.1 hw (wsO_D E n M) hSS a 1 (ar_at1 han hsh) rfl (vin hx0 h0 (by omega)) hd (fun H1 locs1 h2 h3 h4 => ?_)
  rw [i32_cl hx0 h0, ar_set1 han hsh rfl] at h2
  exact k hn1 hn2 hL hS' hM' hro' hLl H1 locs1 ls hl h2 h4
set_option maxHeartbeats 4000000 in
theorem snd_bast {E : pE} {j n0 r : Nat} {Me : pM} {p : Program} {l : Launch} {e : Env} {R : Room} {s : State} {m : MethodId} {args : Array Value} {below : List Frame} {meth : Method} {c : Code} {Qw : State → Prop} (F : Fx E j n0 r Me p R s m args meth c)
    {pc : Nat} {L : pL} {S : List pv} {n : Nat} {M : pM} {S' : List pv} {a : Nat} {x v : Int} (hd : decode (mB j) pc = .ok (.bastore, 1)) (h0 : 0 ≤ x) (h1 : x < alw n a 2) (k : Sm E j n0 Me p l e R s m args below meth c Qw (pc + 1) L S' n (st M a x.toNat (w8 v))) : Sm E j n0 Me p l e R s m args below meth c Qw pc L (vi v :: vi x :: vr (a + 1) :: S') n M := by
  intro hn1 hn2 hL hS hM hro hLl H locs ls hl hw hSS
  obtain ⟨hx, hb, hml, hown, hts, hK, hRO, hini, hRm, hRf, hsz, had, hr, hNC⟩ := F
  have hv0 := wfS_h hS
  have hx0 : r32 x := wfS_h (wfS_t hS)
  have hS' := wfS_t (wfS_t (wfS_t hS))
  obtain ⟨len, han, hsh, hle⟩ := alw_of (n := n) (a := a) (t := 2) (by omega)
  have hM' : wfM (st M a x.toNat (w8 v)) := st_wf hM (by unfold slT; rw [hsh]; exact w8_r _)
  have hro' : ∀ b, 1000 ≤ b → st M a x.toNat (w8 v) b = Me b := fun b hb => by rw [st_row (by have := ncell_lt hn2 hNC han; omega)]; exact hro b hb
  have hst : (vi v :: vi x :: vr (a + 1) :: S').map (cv E.2.2.1) = cv E.2.2.1 (vi v) :: .int (Int32.ofInt x) :: .ref (E.2.2.2 + a) :: S'.map (cv E.2.2.1) := by show _ :: _ :: Value.ref (E.2.2.1 a) :: _ = _; rw [had a (ncell_lt hn2 hNC han)]; rfl
  rw [hst]
  refine va_bast hx hb hK.1 hw (wsO_D E n M) hSS a 2 (ar_at han hsh (by omega)) rfl (vin hx0 h0 (by omega)) hd (fun H1 locs1 h2 h3 h4 => ?_)
  rw [i32_cl hx0 h0, ar_set (v := w8 v) han hsh (by omega) (by rw [vp_nar_byte, i32_8])] at h2
  exact k hn1 hn2 hL hS' hM' hro' hLl H1 locs1 ls hl h2 h4
set_option maxHeartbeats 4000000 in
theorem snd_zast {E : pE} {j n0 r : Nat} {Me : pM} {p : Program} {l : Launch} {e : Env} {R : Room} {s : State} {m : MethodId} {args : Array Value} {below : List Frame} {meth : Method} {c : Code} {Qw : State → Prop} (F : Fx E j n0 r Me p R s m args meth c)
    {pc : Nat} {L : pL} {S : List pv} {n : Nat} {M : pM} {S' : List pv} {a : Nat} {x v : Int} (hd : decode (mB j) pc = .ok (.bastore, 1)) (h0 : 0 ≤ x) (h1 : x < alw n a 3) (hz : v = 0 ∨ v = 1) (k : Sm E j n0 Me p l e R s m args below meth c Qw (pc + 1) L S' n (st M a x.toNat v)) : Sm E j n0 Me p l e R s m args below meth c Qw pc L (vi v :: vi x :: vr (a + 1) :: S') n M := by
  intro hn1 hn2 hL hS hM hro hLl H locs ls hl hw hSS
  obtain ⟨hx, hb, hml, hown, hts, hK, hRO, hini, hRm, hRf, hsz, had, hr, hNC⟩ := F
  have hv0 := wfS_h hS
  have hx0 : r32 x := wfS_h (wfS_t hS)
  have hS' := wfS_t (wfS_t (wfS_t hS))
  obtain ⟨len, han, hsh, hle⟩ := alw_of (n := n) (a := a) (t := 3) (by omega)
  have hM' : wfM (st M a x.toNat v) := st_wf hM (by unfold slT; rw [hsh]; exact hv0)
  have hro' : ∀ b, 1000 ≤ b → st M a x.toNat v b = Me b := fun b hb => by rw [st_row (by have := ncell_lt hn2 hNC han; omega)]; exact hro b hb
  have hst : (vi v :: vi x :: vr (a + 1) :: S').map (cv E.2.2.1) = cv E.2.2.1 (vi v) :: .int (Int32.ofInt x) :: .ref (E.2.2.2 + a) :: S'.map (cv E.2.2.1) := by show _ :: _ :: Value.ref (E.2.2.1 a) :: _ = _; rw [had a (ncell_lt hn2 hNC han)]; rfl
  rw [hst]
  refine va_zast hx hb hK.1 hw (wsO_D E n M) hSS a 3 (ar_at han hsh (by omega)) rfl (vin hx0 h0 (by omega)) hd (fun H1 locs1 h2 h3 h4 => ?_)
  rw [i32_cl hx0 h0, ar_set (v := v) han hsh (by omega) (by rcases hz with rfl | rfl <;> rfl)] at h2
  exact k hn1 hn2 hL hS' hM' hro' hLl H1 locs1 ls hl h2 h4
set_option maxHeartbeats 4000000 in
theorem snd_alen {E : pE} {j n0 r : Nat} {Me : pM} {p : Program} {l : Launch} {e : Env} {R : Room} {s : State} {m : MethodId} {args : Array Value} {below : List Frame} {meth : Method} {c : Code} {Qw : State → Prop} (F : Fx E j n0 r Me p R s m args meth c)
    {pc : Nat} {L : pL} {S : List pv} {n : Nat} {M : pM} {S' : List pv} {a t : Nat} (hd : decode (mB j) pc = .ok (.arraylength, 1)) (h0 : 0 ≤ aln M n a t) (k : Sm E j n0 Me p l e R s m args below meth c Qw (pc + 1) L (vi (aln M n a t) :: S') n M) : Sm E j n0 Me p l e R s m args below meth c Qw pc L (vr (a + 1) :: S') n M := by
  intro hn1 hn2 hL hS hM hro hLl H locs ls hl hw hSS
  obtain ⟨hx, hb, hml, hown, hts, hK, hRO, hini, hRm, hRf, hsz, had, hr, hNC⟩ := F
  have hS' := wfS_t hS
  have hn : n ≤ NCELL := by omega
  have hN : NCELL = 119 := rfl
  by_cases hz : 1000 ≤ a ∧ a ≤ 1002 ∧ t = 0
  · obtain ⟨ha1, ha2, rfl⟩ := hz
    rcases aln_cs hn h0 with ⟨han, hal⟩ | ⟨-, -, hal⟩
    · omega
    have hX := hRO.1 a ha1 ha2
    have hal' : aln M n a 0 = aln Me 0 a 0 := by rw [hal]; unfold aln; rw [hro 1003 (by omega)]
    have hr3 : r32 (aln M n a 0) := by
      rw [hal]
      unfold aln
      rcases (by omega : a = 1002 ∨ a = 1000 ∨ a = 1001) with rfl | rfl | rfl
      · simp only [and_self, if_true]; exact wf_ro hM (by omega)
      · simp [r32]
      · simp [r32]
    have K := k hn1 hn2 hL (wfS_c hr3 hS') hM hro hLl H locs ls hl hw hSS
    refine va_tlen hx hb hX hSS (v := Int32.ofInt (aln M n a 0)) ?_ hd K
    rw [hal']
    show Int32.ofInt ((aln Me 0 a 0).toNat : Int) = _
    rw [Int.toNat_of_nonneg (by omega)]
  · have hal : aln M n a t = alw n a t := by
      unfold aln
      rw [if_neg (by omega), if_neg (by omega)]
    obtain ⟨len, han, hsh, hle⟩ := alw_of (n := n) (a := a) (t := t) (by omega)
    obtain ⟨ht4, hl6⟩ := sh_t4 hn han hsh
    obtain ⟨ty, hty⟩ := tys_at (E := E) ht4
    rw [hal, hle] at k
    have K := k hn1 hn2 hL (wfS_c (show r32 (len : Int) by unfold r32; omega) hS') hM hro hLl H locs ls hl hw hSS
    have hst : (vr (a + 1) :: S').map (cv E.2.2.1) = .ref (E.2.2.2 + a) :: S'.map (cv E.2.2.1) := by show Value.ref (E.2.2.1 a) :: _ = _; rw [had a (ncell_lt hn2 hNC han)]
    rw [hst]
    exact va_alen hx hb hK.1 hw a t (x := (len, if t = 1 then .inr (.inl (fun i => Int64.ofInt (M a i))) else .inl (fun i => Int32.ofInt (M a i)))) (by rw [wsO_at han, hsh]; rfl) hty (v := Int32.ofInt (len : Int)) rfl hd K
