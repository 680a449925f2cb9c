/-! ===== the two texts ===== -/
def sfN (k : Nat) : String := if k = 0 then "value" else "coder"
def sfD (k : Nat) : String := if k = 0 then "[B" else "B"
def gbC (k : Nat) : String := if k = 0 then "java/lang/String" else "jdk/internal/util/Preconditions"
def gbN (k : Nat) : String := if k = 0 then "COMPACT_STRINGS" else "SIOOBE_FORMATTER"
def gbD (k : Nat) : String := if k = 0 then "Z" else "Ljava/util/function/BiFunction;"
theorem str_rg : ∀ q ∈ strL, q.2.2.1 < 2 ∧ RN q.1 = "SoarHouse$Tokens" ∧ q.2.1 = six q.2.2.1 := by decide +kernel
theorem sf_in0 : chk (fun q : Nat × Nat × Nat × Nat => .fieldLink (RN q.1) q.2.1 "java/lang/String" (sfN q.2.2.1) (sfD q.2.2.1)) (fun q => q.2.2.2) lw_tbl sfL = true := by decide +kernel
theorem sf_rg : ∀ q ∈ sfL, q.2.2.1 < 2 := by decide +kernel
theorem gb_in0 : chk (fun q : Nat × Nat × Nat × Nat => .fieldLink (RN q.1) q.2.1 (gbC q.2.2.1) (gbN q.2.2.1) (gbD q.2.2.1)) (fun q => q.2.2.2) lw_tbl gbL = true := by decide +kernel
theorem gb_rg : ∀ q ∈ gbL, q.2.2.1 < 2 := by decide +kernel
theorem cv_s {ad : Nat → Nat} {i : Nat} : cv ad (vr (1005 + 2 * i)) = .ref (ad (1004 + 2 * i)) := by rw [show 1005 + 2 * i = 1004 + 2 * i + 1 by omega]; rfl
theorem cv_t {ad : Nat → Nat} {i : Nat} : cv ad (vr (1006 + 2 * i)) = .ref (ad (1005 + 2 * i)) := by rw [show 1006 + 2 * i = 1005 + 2 * i + 1 by omega]; rfl
theorem cv_0 {ad : Nat → Nat} : cv ad (vi 0) = .int 0 := rfl
theorem cv_1 {ad : Nat → Nat} : cv ad (vi 1) = .int 1 := rfl
theorem cv_c {ad : Nat → Nat} {v : pv} {S : List pv} : (v :: S).map (cv ad) = cv ad v :: S.map (cv ad) := rfl
theorem snd_ldcS {E : pE} {j n0 r : Nat} {Me : pM} {p : Program} {l : Launch} {e : Env} {R : Room} {s : State} {m : MethodId} {args : Array Value} {below : List Frame} {meth : Method} {c : Code} {Qw : State → Prop} (F : Fx E j n0 r Me p R s m args meth c)
    {pc : Nat} {L : pL} {S : List pv} {n : Nat} {M : pM} {ix : Nat} {q : Nat × Nat × Nat × Nat} (hq : q ∈ strL) (e1 : q.1 = mO j) (e2 : q.2.1 = ix) (hd : decode (mB j) pc = .ok (.ldc ix, 2)) (k : Sm E j n0 Me p l e R s m args below meth c Qw (pc + 2) L (vr (1005 + 2 * q.2.2.1) :: S) n M) : Sm E j n0 Me p l e R s m args below meth c Qw pc L S n M := by
  intro hn1 hn2 hL hS hM hro hLl H locs ls hl hw hSS
  obtain ⟨hx, hb, hml, hown, hts, hK, hRO, hini, hRm, hRf, hsz, had, hr, hNC⟩ := F
  obtain ⟨h1, h2, h3⟩ := str_rg q hq
  have K := k hn1 hn2 hL (wfS_c (show 1005 + 2 * q.2.2.1 ≤ 5000 by omega) hS) hM hro hLl H locs ls hl hw hSS
  rw [cv_c, cv_s] at K
  have hZ := hK.2.2 q.2.2.1 h1
  rw [← h3, e2] at hZ
  exact va_ldcS hx hb (by rw [← h2, e1]; exact hown) hZ hd K
theorem snd_gfS {E : pE} {j n0 r : Nat} {Me : pM} {p : Program} {l : Launch} {e : Env} {R : Room} {s : State} {m : MethodId} {args : Array Value} {below : List Frame} {meth : Method} {c : Code} {Qw : State → Prop} (F : Fx E j n0 r Me p R s m args meth c)
    {pc : Nat} {L : pL} {S : List pv} {n : Nat} {M : pM} {S' : List pv} {ix i : Nat} {q : Nat × Nat × Nat × Nat} (hq : q ∈ sfL) (e1 : q.1 = mO j) (e2 : q.2.1 = ix) (hi : i < 2) (hd : decode (mB j) pc = .ok (.getfield ix, 3)) (k : Sm E j n0 Me p l e R s m args below meth c Qw (pc + 3) L ((if q.2.2.1 = 0 then vr (1006 + 2 * i) else vi 0) :: S') n M) : Sm E j n0 Me p l e R s m args below meth c Qw pc L (vr (1005 + 2 * i) :: S') n M := by
  intro hn1 hn2 hL hS hM hro hLl H locs ls hl hw hSS
  obtain ⟨hx, hb, hml, hown, hts, hK, hRO, hini, hRm, hRf, hsz, had, hr, hNC⟩ := F
  have h1 := sf_rg q hq
  have hwq := chk_ok sf_in0 q hq
  have hS' := wfS_t hS
  have hso := hRO.2.2.2.1 i hi
  rw [cv_c, cv_s]
  subst e2
  by_cases h0 : q.2.2.1 = 0
  · rw [if_pos h0] at k
    have K := k hn1 hn2 hL (wfS_c (show 1006 + 2 * i ≤ 5000 by omega) hS') hM hro hLl H locs ls hl hw hSS
    rw [cv_c, cv_t] at K
    have hlk : (Cond.fieldLink (RN (mO j)) q.2.1 "java/lang/String" "value" "[B").before args s = true := by
      have := hts _ hwq rfl
      rw [e1, h0] at this
      exact this
    exact vk_getf hx hb hso.2.2.1 hSS hown hlk (fun _ h => h) hd K
  · rw [if_neg h0] at k
    have K := k hn1 hn2 hL (wfS_c r32_0 hS') hM hro hLl H locs ls hl hw hSS
    rw [cv_c, cv_0] at K
    have h0' : q.2.2.1 = 1 := by omega
    have hlk : (Cond.fieldLink (RN (mO j)) q.2.1 "java/lang/String" "coder" "B").before args s = true := by
      have := hts _ hwq rfl
      rw [e1, h0'] at this
      exact this
    exact vk_getf hx hb hso.2.1 hSS hown hlk (fun _ h => h) hd K
theorem snd_gbS {E : pE} {j n0 r : Nat} {Me : pM} {p : Program} {l : Launch} {e : Env} {R : Room} {s : State} {m : MethodId} {args : Array Value} {below : List Frame} {meth : Method} {c : Code} {Qw : State → Prop} (F : Fx E j n0 r Me p R s m args meth c)
    {pc : Nat} {L : pL} {S : List pv} {n : Nat} {M : pM} {ix : Nat} {q : Nat × Nat × Nat × Nat} (hq : q ∈ gbL) (e1 : q.1 = mO j) (e2 : q.2.1 = ix) (hd : decode (mB j) pc = .ok (.getstatic ix, 3)) (k : Sm E j n0 Me p l e R s m args below meth c Qw (pc + 3) L ((if q.2.2.1 = 0 then vi 1 else vr (M 1009 0).toNat) :: S) n M) : Sm E j n0 Me p l e R s m args below meth c Qw pc L S n M := by
  intro hn1 hn2 hL hS hM hro hLl H locs ls hl hw hSS
  obtain ⟨hx, hb, hml, hown, hts, hK, hRO, hini, hRm, hRf, hsz, had, hr, hNC⟩ := F
  have h1 := gb_rg q hq
  have hwq := chk_ok gb_in0 q hq
  subst e2
  by_cases h0 : q.2.2.1 = 0
  · rw [if_pos h0] at k
    have K := k hn1 hn2 hL (wfS_c (show r32 1 by unfold r32; omega) hS) hM hro hLl H locs ls hl hw hSS
    rw [cv_c, cv_1] at K
    have hlk : (Cond.fieldLink (RN (mO j)) q.2.1 "java/lang/String" "COMPACT_STRINGS" "Z").before args s = true := by
      have := hts _ hwq rfl
      rw [e1, h0] at this
      exact this
    exact va_gets hx hb hRO.2.2.2.2.1 hSS hown hlk (fun _ h => h) hd K
  · rw [if_neg h0] at k
    have h9 := hRO.2.2.2.2.2.2
    rw [← hro 1009 (by omega)] at h9
    have K := k hn1 hn2 hL (wfS_c (show (M 1009 0).toNat ≤ 5000 by omega) hS) hM hro hLl H locs ls hl hw hSS
    rw [cv_c] at K
    have h0' : q.2.2.1 = 1 := by omega
    have hlk : (Cond.fieldLink (RN (mO j)) q.2.1 "jdk/internal/util/Preconditions" "SIOOBE_FORMATTER" "Ljava/util/function/BiFunction;").before args s = true := by
      have := hts _ hwq rfl
      rw [e1, h0'] at this
      exact this
    have hz := hRO.2.2.2.2.2.1
    rw [← hro 1009 (by omega)] at hz
    exact va_gets hx hb hz hSS hown hlk (fun _ h => h) hd K
theorem snd_baS {E : pE} {j n0 r : Nat} {Me : pM} {p : Program} {l : Launch} {e : Env} {R : Room} {s : State} {m : MethodId} {args : Array Value} {below : List Frame} {meth : Method} {c : Code} {Qw : State → Prop} (F : Fx E j n0 r Me p R s m args meth c)
    {pc : Nat} {L : pL} {S : List pv} {n : Nat} {M : pM} {S' : List pv} {i : Nat} {x : Int} (hi : i < 2) (h0 : 0 ≤ x) (h1 : x < (slen i : Nat)) (hd : decode (mB j) pc = .ok (.baload, 1)) (k : Sm E j n0 Me p l e R s m args below meth c Qw (pc + 1) L (vi (M (1005 + 2 * i) x.toNat) :: S') n M) : Sm E j n0 Me p l e R s m args below meth c Qw pc L (vi x :: vr (1006 + 2 * i) :: S') n M := by
  intro hn1 hn2 hL hS hM hro hLl H locs ls hl hw hSS
  obtain ⟨hx, hb, hml, hown, hts, hK, hRO, hini, hRm, hRf, hsz, had, hr, hNC⟩ := F
  have hx0 : r32 x := wfS_h hS
  have hS' := wfS_t (wfS_t hS)
  have hX := (hRO.2.2.2.1 i hi).2.2.2
  have K := k hn1 hn2 hL (wfS_c (wf_ro hM (by omega)) hS') hM hro hLl H locs ls hl hw hSS
  rw [cv_c, cv_c, cv_t]
  refine va_tb hx hb hX hSS (vin hx0 h0 h1) (v := .int (Int32.ofInt (M (1005 + 2 * i) x.toNat))) ?_ hd K
  show Value.int (Int32.ofInt (Me (1005 + 2 * i) (Int32.ofInt x).toNatClampNeg)) = _
  rw [i32_cl hx0 h0, ← hro (1005 + 2 * i) (by omega)]
theorem slen_le (i : Nat) : slen i ≤ 126 := by unfold slen; split <;> omega
theorem snd_alS {E : pE} {j n0 r : Nat} {Me : pM} {p : Program} {l : Launch} {e : Env} {R : Room} {s : State} {m : MethodId} {args : Array Value} {below : List Frame} {meth : Method} {c : Code} {Qw : State → Prop} (F : Fx E j n0 r Me p R s m args meth c)
    {pc : Nat} {L : pL} {S : List pv} {n : Nat} {M : pM} {S' : List pv} {i : Nat} (hi : i < 2) (hd : decode (mB j) pc = .ok (.arraylength, 1)) (k : Sm E j n0 Me p l e R s m args below meth c Qw (pc + 1) L (vi (slen i : Nat) :: S') n M) : Sm E j n0 Me p l e R s m args below meth c Qw pc L (vr (1006 + 2 * i) :: S') n M := by
  intro hn1 hn2 hL hS hM hro hLl H locs ls hl hw hSS
  obtain ⟨hx, hb, hml, hown, hts, hK, hRO, hini, hRm, hRf, hsz, had, hr, hNC⟩ := F
  have hS' := wfS_t hS
  have hX := (hRO.2.2.2.1 i hi).2.2.2
  have hsl := slen_le i
  have K := k hn1 hn2 hL (wfS_c (show r32 ((slen i : Nat) : Int) by unfold r32; omega) hS') hM hro hLl H locs ls hl hw hSS
  rw [cv_c, cv_t]
  exact va_tlen hx hb hX hSS (v := Int32.ofInt (slen i : Nat)) rfl hd K
set_option maxHeartbeats 4000000 in
theorem snd_callVS {E : pE} {j n0 r : Nat} {Me : pM} {p : Program} {l : Launch} {e : Env} {R : Room} {s : State} {m : MethodId} {args : Array Value} {below : List Frame} {meth : Method} {c : Code} {Qw : State → Prop} (F : Fx E j n0 r Me p R s m args meth c)
    {pc : Nat} {L : pL} {S : List pv} {n : Nat} {M : pM} {S' As : List pv} {ix b r' i0 : Nat} {O : pO} {q : Nat × Nat × Nat × Nat × Nat × Nat} (hO : OS l r' O) (hrr : r' + 1 ≤ r) (hq : q ∈ calL) (e1 : q.1 = mO j) (e2 : q.2.1 = ix) (e3 : q.2.2.1 = 0) (hd : decode (mB j) pc = .ok (.invokevirtual ix, 3)) (hA : As.length = mA q.2.2.2.1) (hi0 : i0 < 2) (hb0 : b = 1004 + 2 * i0) (hox : mO q.2.2.2.1 = 14) (hk : stk S' ≤ 8) (hmc : mC q.2.2.2.1 = 0)
    (hmo : mo O q.2.2.2.1 (vr (b + 1) :: As) n M (fun r M' => ∃ S'', psh (mR q.2.2.2.1) r S' S'' ∧ Sm E j n0 Me p l e R s m args below meth c Qw (pc + 3) L S'' n M')) : Sm E j n0 Me p l e R s m args below meth c Qw pc L (As.reverse ++ vr (b + 1) :: S') n M := by
  intro hn1 hn2 hL hS hM hro hLl H locs ls hl hw hSS
  obtain ⟨hx, hb, hml, hown, hts, hK, hRO, hini, hRm, hRf, hsz, had, hr, hNC⟩ := F
  refine W_sz hsz hn1 hw hSS (fun hHs => ?_)
  obtain ⟨hi, -, hst1, hst2⟩ := cal_rg q hq
  have hwq := chk_ok cal_in0 q hq
  obtain ⟨Q0, h1, h2⟩ := hmo
  have hmst := chk_ok mst_in0 q.2.2.2.1 (List.mem_range.mpr hi)
  have hmin := chk_ok min_in0 q.2.2.2.1 (List.mem_range.mpr hi)
  have hmco := mco_in q.2.2.2.1 hi
  have hmx := mX_le _ hi
  have hT := TWD_ok hts
  have hm1 := slL_mono hn1
  have hN : NCELL = 119 := rfl
  subst e2
  have hS' : wfS S' := fun v hv => hS v (List.mem_append_right _ (List.mem_cons_of_mem _ hv))
  have hAs : wfS (vr (b + 1) :: As) := wfS_c (hS _ (List.mem_append_right _ List.mem_cons_self)) (fun v hv => hS v (List.mem_append_left _ (List.mem_reverse.mpr hv)))
  have hM0 := hO q.2.2.2.1 (vr (b + 1) :: As) n M Q0 hi h1 hAs hM (by omega) E had
  have hnst : isSt q.2.2.2.1 = false := by cases hz : isSt q.2.2.2.1 with
    | false => rfl
    | true => have := hst1.mpr hz; omega
  have hnin : (mY q.2.2.2.1).name ≠ "<init>" := fun hz => by have := hst2.mpr hz; omega
  have hinst : Cond.instanceMethod (mY q.2.2.2.1) ∈ lw_tbl := by simpa [hnst] using hmst
  have hsel : Cond.selects (mY q.2.2.2.1).cls (mY q.2.2.2.1) (mY q.2.2.2.1) ∈ lw_tbl := chk_ok mse_in0 q.2.2.2.1 (List.mem_filter.mpr ⟨List.mem_range.mpr hi, by simp [hnst, hnin]⟩)
  have hcls := mow_ok _ hi
  have hpre : PreV s H (mY q.2.2.2.1).cls (E.2.2.1 b) (PcM E (vr (b + 1) :: As) n M) (As.map (cv E.2.2.1)) :=
    ⟨PcM_blind, by
      obtain ⟨cell, q1, q2, q3, -⟩ := ((hRO.2.2.2.1 i0 hi0).1).kept hSS.2.1
      rw [hcls, hox, hb0]
      exact ⟨cell, q1, q2, q3⟩, fun U hU hW => PcM_at hU hW hHs hw hK hRO hro hSS⟩
  have hstack : (As.reverse ++ vr (b + 1) :: S').map (cv E.2.2.1) = (As.map (cv E.2.2.1)).reverse ++ .ref (E.2.2.1 b) :: S'.map (cv E.2.2.1) := by rw [List.map_append, List.map_reverse]; rfl
  have hroom := lv_room (m := m) (pc := pc) (ls := ls) (rest := (As.reverse ++ vr (b + 1) :: S').map (cv E.2.2.1)) (st := S'.map (cv E.2.2.1)) (by rw [stk_cv]; exact hk)
  have hfit : n - n0 + mC q.2.2.2.1 ≤ R.cells ∧ slL n - slL n0 + (slL (n + mC q.2.2.2.1) - slL n) ≤ R.slots := by rw [hmc]; have := slL_mono hn2; simp only [Nat.add_zero]; omega
  have hrun : va_Run p l e R s m args below meth c H locs (n - n0) (slL n - slL n0) (mC q.2.2.2.1) (slL (n + mC q.2.2.2.1) - slL n) (F0 m pc ls ((As.reverse ++ vr (b + 1) :: S').map (cv E.2.2.1))) (S'.map (cv E.2.2.1)) (QcM E q.2.2.2.1 n M Q0 (Value.ref (E.2.2.1 b) :: As.map (cv E.2.2.1)).toArray) (AE E) := by
    by_cases hne : q.2.2.2.2.2 = 1
    · have hwq : Cond.methodLinkNest (RN q.1) q.2.1 (mY q.2.2.2.1) "SoarHouse" ∈ lw_tbl := by have h := hwq; unfold calW at h; rw [if_pos hne] at h; exact h
      exact va_runVN (Ts := TWD) ⟨hx, hb, hml, hown, hT⟩ hM0 ⟨va_cnB (mA q.2.2.2.1) hT (wsM_good hi) rfl rfl rfl (by rw [← e1]; exact hK.2.1 _ hwq rfl) (hts _ hmin rfl) (mnm_ok _ hi) ⟨by show r' + 1 ≤ _; omega, by show 8 + (mX _ + 11) + 60 * r' ≤ _; omega⟩, hts _ hinst rfl, hts _ hsel rfl⟩ hpre rfl (by rw [List.length_map]; exact hA) (hl.1.trans hLl) hstack hroom hd hfit
    · have hwq : Cond.methodLink (RN q.1) q.2.1 (mY q.2.2.2.1) ∈ lw_tbl := by have h := hwq; unfold calW at h; rw [if_neg hne] at h; exact h
      exact va_runV (Ts := TWD) ⟨hx, hb, hml, hown, hT⟩ hM0 ⟨callB_of (mA q.2.2.2.1) hT (wsM_good hi) rfl rfl rfl (hts _ hmin rfl) (by rw [← e1]; exact hts _ hwq rfl) (mnm_ok _ hi) ⟨by show r' + 1 ≤ _; omega, by show 8 + (mX _ + 11) + 60 * r' ≤ _; omega⟩, hts _ hinst rfl, hts _ hsel rfl⟩ hpre rfl (by rw [List.length_map]; exact hA) (hl.1.trans hLl) hstack hroom hd hfit
  refine call_go hrun hSS hS' (fun rr M' hq0 hM' hro' => ?_)
  obtain ⟨S'', g1, g2⟩ := h2 rr M' hq0
  refine ⟨S'', g1, fun hwS H1 locs1 hP1 hS1 => ?_⟩
  have K := g2 hn1 hn2 hL hwS hM' (fun a ha => (hro' a ha).trans (hro a ha)) hLl H1 locs1 ls hl (by rw [hmc] at hP1; exact hP1) hS1
  rw [hmc]
  simp only [Nat.add_zero, Nat.sub_self]
  exact K
theorem nar_b {x : Int} (h : -128 ≤ x ∧ x ≤ 127) : narrow .byte (.int (Int32.ofInt x)) = .int (Int32.ofInt x) := by
  show Value.int ((Int32.ofInt x).toInt8.toInt32) = _
  rw [← i32_8, show w8 x = x by unfold w8; omega]
theorem nar_c {x : Int} (h : 0 ≤ x ∧ x ≤ 65535) : narrow .char (.int (Int32.ofInt x)) = .int (Int32.ofInt x) := by
  have e : (Int32.ofInt x).toUInt32.toUInt16.toUInt32 = (Int32.ofInt x).toUInt32 := by
    apply UInt32.toNat_inj.mp
    have h1 : (Int32.ofInt x).toUInt32.toNat = x.toNat := by
      show (BitVec.ofInt 32 x).toNat = _
      rw [BitVec.toNat_ofInt]
      show (x % ((2 ^ 32 : Nat) : Int)).toNat = _
      rw [show ((2 ^ 32 : Nat) : Int) = 4294967296 from rfl]
      omega
    rw [UInt16.toNat_toUInt32, UInt32.toNat_toUInt16, h1]
    omega
  show Value.int ((Int32.ofInt x).toUInt32.toUInt16.toUInt32.toInt32) = _
  rw [e]
  rfl
set_option maxHeartbeats 4000000 in
theorem sy_snd {E : pE} {j n0 r : Nat} {Me : pM} {p : Program} {l : Launch} {e : Env} {R : Room} {s : State} {m : MethodId} {args : Array Value} {below : List Frame} {meth : Method} {c : Code} {Qw : State → Prop} (F : Fx E j n0 r Me p R s m args meth c) {r' : Nat} {O : pO} (hO : OS l r' O) (hrr : r' + 1 ≤ r) {pc : Nat} {L : pL} {S : List pv} {n : Nat} {M : pM} {i : Instr} {len : Nat} (hd : decode (mB j) pc = .ok (i, len)) (hs : sy O j (Sm E j n0 Me p l e R s m args below meth c Qw) pc L S n M i len) : Sm E j n0 Me p l e R s m args below meth c Qw pc L S n M := by
  cases i
  case ldc ix => obtain ⟨rfl, q, hq, e1, e2, e3⟩ := hs; exact snd_ldcS F hq e1 e2 hd e3
  case getfield ix => obtain ⟨rfl, q, hq, e1, e2, i, S', e3, rfl, e5⟩ := hs; exact snd_gfS (S := []) F hq e1 e2 e3 hd e5
  case getstatic ix => obtain ⟨rfl, q, hq, e1, e2, e3⟩ := hs; exact snd_gbS F hq e1 e2 hd e3
  case baload => obtain ⟨rfl, x, i, S', e1, rfl, e3, e4, e5⟩ := hs; exact snd_baS (S := []) F e1 e3 e4 hd e5
  case arraylength => obtain ⟨rfl, i, S', e1, rfl, e5⟩ := hs; exact snd_alS (S := []) F e1 hd e5
  case invokevirtual ix =>
    obtain ⟨rfl, q, hq, e1, e2, e3, As, i, S', e4, rfl, e6, e7, e8, e9, e10⟩ := hs
    have := snd_callVS (S := []) (b := 1004 + 2 * i) F hO hrr hq e1 e2 e3 hd e6 e4 rfl e7 e8 e9 (by rw [show 1004 + 2 * i + 1 = 1005 + 2 * i by omega]; exact e10)
    rw [show 1004 + 2 * i + 1 = 1005 + 2 * i by omega] at this
    exact this
  all_goals exact hs.elim
