/-! ===== calls ===== -/
def TWD : List Cond := lw_tbl.filter goodWord
def wsM (i : Nat) : List Cond := .code (mY i) (mB i) (mX i) (mR i) :: TWD
def rmM (i n r : Nat) : Room := { frames := r, cells := mC i, slots := slL (n + mC i) - slL n, locals := 60 * r }
def PcM (E : pE) (a : List pv) (n : Nat) (M : pM) : Array Value → State → Prop := va_Pc (a.map (cv E.2.2.1)) (fun U => U.heap.size = E.2.2.2 + n ∧ va_P E.1 vwCl (wsO E n M) U.heap ∧ KU E U ∧ ROk E M U U.heap)
def QcM (E : pE) (i n : Nat) (M : pM) (Q : pQ) : Array Value → State → Outcome → State → Prop := match mR i with
  | none => va_Qv (fun M' : pM => Q none M' ∧ wfM M' ∧ ∀ a, 1000 ≤ a → M' a = M a) (fun M' t => va_P E.1 vwCl (wsO E (n + mC i) M') t.heap) (AE E)
  | some .long => va_Ql (fun (x : Int64) (u : Int × pM) => x = Int64.ofInt u.1 ∧ r64 u.1 ∧ Q (some (vl u.1)) u.2 ∧ wfM u.2 ∧ ∀ a, 1000 ≤ a → u.2 a = M a) (fun u t => va_P E.1 vwCl (wsO E (n + mC i) u.2) t.heap) (AE E)
  | _ => va_Qi (fun (x : Int32) (u : Int × pM) => x = Int32.ofInt u.1 ∧ r32 u.1 ∧ Q (some (vi u.1)) u.2 ∧ wfM u.2 ∧ ∀ a, 1000 ≤ a → u.2 a = M a) (fun u t => va_P E.1 vwCl (wsO E (n + mC i) u.2) t.heap) (AE E)
/-- what the pure machine takes for granted of the methods that are called, the machine does, in a room of r frames -/
def OS (l : Launch) (r : Nat) (O : pO) : Prop := ∀ (i : Nat) (a : List pv) (n : Nat) (M : pM) (Q : pQ), i < 325 → O i a n M Q → wfS a → wfM M → n + mC i ≤ NCELL → ∀ E : pE, (∀ k, k < 1000 → E.2.2.1 k = E.2.2.2 + k) →
  Met l (mY i) (wsM i) (rmM i n r) (PcM E a n M) (QcM E i n M Q) (mC i) (slL (n + mC i) - slL n) (AE E)
theorem mX_le : ∀ i, i < 325 → mX i ≤ 41 := by decide +kernel
theorem mth_ne : ∀ q ∈ calL, mth q.2.2.2.1 ≠ 0 → ¬ q.2.2.2.2.2 = 1 := by decide +kernel
theorem TWD_ok {args : Array Value} {s : State} (hts : ∀ w ∈ lw_tbl, goodWord w = true → w.before args s = true) : ∀ w ∈ TWD, w.before args s = true := fun w hw => hts w (List.mem_filter.mp hw).1 (List.mem_filter.mp hw).2
theorem TWD_in {w : Cond} (h : w ∈ lw_tbl) (hg : goodWord w = true) : w ∈ TWD := List.mem_filter.mpr ⟨h, hg⟩
theorem wsM_good {i : Nat} (hi : i < 325) : GoodIn TWD (wsM i) := by
  intro w hw
  rcases List.mem_cons.mp hw with rfl | h
  · exact ⟨TWD_in (mco_in i hi) rfl, good_of_word rfl⟩
  · exact ⟨h, good_of_word (List.mem_filter.mp h).2⟩
theorem PcM_blind {E : pE} {a : List pv} {n : Nat} {M : pM} : FrameBlind (PcM E a n M) := by
  intro v U g mk h
  obtain ⟨h1, h2, h3, h4, h5⟩ := h
  exact ⟨h1, h2, h3, KU.same (s := U) (U := U.calling g mk v) rfl h4, ROk.moved (u := U) (U := U.calling g mk v) (Vm.Alike.refl U.vm) h5⟩
theorem PcM_at {E : pE} {a : List pv} {n : Nat} {M Me : pM} {s U : State} {H : Heap} {locs : List Loc} (hU : U.heap = H) (hW : s.WarmedH U.vm) (hsz : H.size = E.2.2.2 + n) (hw : va_P E.1 vwCl (wsO E n M) H) (hK : KU E s) (hRO : ROk E Me s s.heap) (hro : ∀ b, 1000 ≤ b → M b = Me b) (hSS : va_S (AE E) s.heap H locs) : PcM E a n M (a.map (cv E.2.2.1)).toArray U := by
  subst hU
  exact ⟨rfl, hsz, hw, KU.warm hW hK, ((hRO.kept (fun q h1 h2 => hSS.2.1 q h1 h2)).congr hro).moved hW.alike⟩
theorem W_sz {E : pE} {n0 n sl : Nat} {M : pM} {p : Program} {l : Launch} {e : Env} {R : Room} {s : State} {m : MethodId} {args : Array Value} {below : List Frame} {meth : Method} {c : Code} {Qw : State → Prop} {H : Heap} {locs : List Loc} {g : JFrame} (hsz : s.heap.size = E.2.2.2 + n0) (hn : n0 ≤ n) (hw : va_P E.1 vwCl (wsO E n M) H) (hSS : va_S (AE E) s.heap H locs)
    (k : H.size = E.2.2.2 + n → W p l e R s m args below meth c H locs (n - n0) sl Qw g) : W p l e R s m args below meth c H locs (n - n0) sl Qw g := by
  intro T hT X
  have h1 := X.heapSize
  rw [hT] at h1
  have h2 : E.2.2.2 + n ≤ H.size := by
    rcases Nat.lt_or_ge n0 n with h | h
    · have h3 : E.2.2.2 + (n - 1) < H.size := (hw (n - 1) (E.2.2.2 + (n - 1), _) (wsO_at (by omega))).lt
      omega
    · have := hSS.1
      omega
  exact k (by omega) T hT X
set_option maxHeartbeats 4000000 in
/-- behind a call -/
theorem call_go {E : pE} {n i mc ms cells slots pc : Nat} {M : pM} {Q0 : pQ} {S' : List pv} {a : Array Value} {st0 : List Value} {p : Program} {l : Launch} {e : Env} {R : Room} {s : State} {m : MethodId} {args : Array Value} {below : List Frame} {meth : Method} {c : Code} {Qw : State → Prop} {H : Heap} {locs : List Loc} {ls : Array Slot}
    (hrun : va_Run p l e R s m args below meth c H locs cells slots mc ms (F0 m pc ls st0) (S'.map (cv E.2.2.1)) (QcM E i n M Q0 a) (AE E)) (hSS : va_S (AE E) s.heap H locs) (hS' : wfS S')
    (k : ∀ r M', Q0 r M' → wfM M' → (∀ b, 1000 ≤ b → M' b = M b) → ∃ S'', psh (mR i) r S' S'' ∧ (wfS S'' → ∀ (H1 : Heap) (locs1 : List Loc), va_P E.1 vwCl (wsO E (n + mC i) M') H1 → va_S (AE E) s.heap H1 locs1 → W p l e R s m args below meth c H1 locs1 (cells + mc) (slots + ms) Qw (F0 m (pc + 3) ls (S''.map (cv E.2.2.1))))) : W p l e R s m args below meth c H locs cells slots Qw (F0 m pc ls st0) := by
  cases hm : mR i with
  | none =>
    have hQ : QcM E i n M Q0 = va_Qv (fun M' : pM => Q0 none M' ∧ wfM M' ∧ ∀ a, 1000 ≤ a → M' a = M a) (fun M' t => va_P E.1 vwCl (wsO E (n + mC i) M') t.heap) (AE E) := by unfold QcM; rw [hm]
    rw [hQ] at hrun
    refine va_callv hrun hSS (fun q _ h => h) (fun q h => h) (fun M' t H1 locs1 ht hvm hp hB hz1 hk1 hS1 => ?_)
    obtain ⟨h1, h2, h3⟩ := hp
    obtain ⟨S'', g1, g2⟩ := k none M' h1 h2 h3
    rw [hm] at g1
    obtain ⟨-, rfl⟩ := g1
    exact g2 hS' H1 locs1 (by rw [← ht]; exact hB) hS1
  | some ty =>
    cases ty
    case long =>
      have hQ : QcM E i n M Q0 = va_Ql (fun (x : Int64) (u : Int × pM) => x = Int64.ofInt u.1 ∧ r64 u.1 ∧ Q0 (some (vl u.1)) u.2 ∧ wfM u.2 ∧ ∀ a, 1000 ≤ a → u.2 a = M a) (fun u t => va_P E.1 vwCl (wsO E (n + mC i) u.2) t.heap) (AE E) := by unfold QcM; rw [hm]
      rw [hQ] at hrun
      refine va_calll hrun hSS (fun q _ h => h) (fun q h => h) (fun x u t H1 locs1 ht hvm hp hB hz1 hk1 hS1 => ?_)
      obtain ⟨rfl, h0, h1, h2, h3⟩ := hp
      obtain ⟨S'', g1, g2⟩ := k _ u.2 h1 h2 h3
      rw [hm] at g1
      obtain ⟨y, g3, rfl⟩ := g1
      cases g3
      exact g2 (wfS_c h0 hS') H1 locs1 (by rw [← ht]; exact hB) hS1
    all_goals
      have hQ : QcM E i n M Q0 = va_Qi (fun (x : Int32) (u : Int × pM) => x = Int32.ofInt u.1 ∧ r32 u.1 ∧ Q0 (some (vi u.1)) u.2 ∧ wfM u.2 ∧ ∀ a, 1000 ≤ a → u.2 a = M a) (fun u t => va_P E.1 vwCl (wsO E (n + mC i) u.2) t.heap) (AE E) := by unfold QcM; rw [hm]
      rw [hQ] at hrun
      refine va_calli hrun hSS (fun q _ h => h) (fun q h => h) (fun x u t H1 locs1 ht hvm hp hB hz1 hk1 hS1 => ?_)
      obtain ⟨rfl, h0, h1, h2, h3⟩ := hp
      obtain ⟨S'', g1, g2⟩ := k _ u.2 h1 h2 h3
      rw [hm] at g1
      first
        | exact g1.elim
        | (obtain ⟨y, g3, rfl⟩ := g1
           cases g3
           exact g2 (wfS_c h0 hS') H1 locs1 (by rw [← ht]; exact hB) hS1)
set_option maxHeartbeats 4000000 in
theorem snd_callV {E : pE} {j n0 r : Nat} {Me : pM} {p : Program} {l : Launch} {e : Env} {R : Room} {s : State} {m : MethodId} {args : Array Value} {below : List Frame} {meth : Method} {c : Code} {Qw : State → Prop} (F : Fx E j n0 r Me p R s m args meth c)
    {pc : Nat} {L : pL} {S : List pv} {n : Nat} {M : pM} {S' As : List pv} {ix b r' : Nat} {O : pO} {q : Nat × Nat × Nat × Nat × Nat × Nat} (hO : OS l r' O) (hrr : r' + 1 ≤ r) (hq : q ∈ calL) (e1 : q.1 = mO j) (e2 : q.2.1 = ix) (e3 : q.2.2.1 = 0) (hd : decode (mB j) pc = .ok (.invokevirtual ix, 3)) (hA : As.length = mA q.2.2.2.1) (hob : ob n b = mO q.2.2.2.1) (hox : mO q.2.2.2.1 < 13) (hk : stk S' ≤ 8) (hmc : mC q.2.2.2.1 = 0)
    (hmo : mo O q.2.2.2.1 (vr (b + 1) :: As) n M (fun r M' => ∃ S'', psh (mR q.2.2.2.1) r S' S'' ∧ Sm E j n0 Me p l e R s m args below meth c Qw (pc + 3) L S'' n M')) : Sm E j n0 Me p l e R s m args below meth c Qw pc L (As.reverse ++ vr (b + 1) :: S') n M := by
  intro hn1 hn2 hL hS hM hro hLl H locs ls hl hw hSS
  obtain ⟨hx, hb, hml, hown, hts, hK, hRO, hini, hRm, hRf, hsz, had, hr, hNC⟩ := F
  refine W_sz hsz hn1 hw hSS (fun hHs => ?_)
  obtain ⟨hi, -, hst1, hst2⟩ := cal_rg q hq
  have hwq := chk_ok cal_in0 q hq
  obtain ⟨Q0, h1, h2⟩ := hmo
  have hmst := chk_ok mst_in0 q.2.2.2.1 (List.mem_range.mpr hi)
  have hmin := chk_ok min_in0 q.2.2.2.1 (List.mem_range.mpr hi)
  have hmco := mco_in q.2.2.2.1 hi
  have hmx := mX_le _ hi
  have hT := TWD_ok hts
  have hm1 := slL_mono hn1
  have hN : NCELL = 119 := rfl
  subst e2
  have hS' : wfS S' := fun v hv => hS v (List.mem_append_right _ (List.mem_cons_of_mem _ hv))
  have hAs : wfS (vr (b + 1) :: As) := wfS_c (hS _ (List.mem_append_right _ List.mem_cons_self)) (fun v hv => hS v (List.mem_append_left _ (List.mem_reverse.mpr hv)))
  obtain ⟨hbn, hsh⟩ := ob_of hox hob
  have hM0 := hO q.2.2.2.1 (vr (b + 1) :: As) n M Q0 hi h1 hAs hM (by omega) E had
  have hat : (wsO E n M)[b]? = some (E.2.2.2 + b, .inr (mO q.2.2.2.1, fsO E (mO q.2.2.2.1) (M b))) := by rw [wsO_at hbn, hsh]; rfl
  have hadb := had b (ncell_lt hn2 hNC hbn)
  have hnst : isSt q.2.2.2.1 = false := by cases hz : isSt q.2.2.2.1 with
    | false => rfl
    | true => have := hst1.mpr hz; omega
  have hnin : (mY q.2.2.2.1).name ≠ "<init>" := fun hz => by have := hst2.mpr hz; omega
  have hinst : Cond.instanceMethod (mY q.2.2.2.1) ∈ lw_tbl := by simpa [hnst] using hmst
  have hsel : Cond.selects (mY q.2.2.2.1).cls (mY q.2.2.2.1) (mY q.2.2.2.1) ∈ lw_tbl := chk_ok mse_in0 q.2.2.2.1 (List.mem_filter.mpr ⟨List.mem_range.mpr hi, by simp [hnst, hnin]⟩)
  have hcls := mow_ok _ hi
  have hpre : PreV s H (mY q.2.2.2.1).cls (E.2.2.1 b) (PcM E (vr (b + 1) :: As) n M) (As.map (cv E.2.2.1)) :=
    ⟨PcM_blind, by rw [hcls, hadb]; exact va_recv hK.1 hw (cl_ok _ hox) hat, fun U hU hW => PcM_at hU hW hHs hw hK hRO hro hSS⟩
  have hstack : (As.reverse ++ vr (b + 1) :: S').map (cv E.2.2.1) = (As.map (cv E.2.2.1)).reverse ++ .ref (E.2.2.1 b) :: S'.map (cv E.2.2.1) := by rw [List.map_append, List.map_reverse]; rfl
  have hroom := lv_room (m := m) (pc := pc) (ls := ls) (rest := (As.reverse ++ vr (b + 1) :: S').map (cv E.2.2.1)) (st := S'.map (cv E.2.2.1)) (by rw [stk_cv]; exact hk)
  have hfit : n - n0 + mC q.2.2.2.1 ≤ R.cells ∧ slL n - slL n0 + (slL (n + mC q.2.2.2.1) - slL n) ≤ R.slots := by rw [hmc]; have := slL_mono hn2; simp only [Nat.add_zero]; omega
  have hrun : va_Run p l e R s m args below meth c H locs (n - n0) (slL n - slL n0) (mC q.2.2.2.1) (slL (n + mC q.2.2.2.1) - slL n) (F0 m pc ls ((As.reverse ++ vr (b + 1) :: S').map (cv E.2.2.1))) (S'.map (cv E.2.2.1)) (QcM E q.2.2.2.1 n M Q0 (Value.ref (E.2.2.1 b) :: As.map (cv E.2.2.1)).toArray) (AE E) := by
    by_cases hne : q.2.2.2.2.2 = 1
    · have hwq : Cond.methodLinkNest (RN q.1) q.2.1 (mY q.2.2.2.1) "SoarHouse" ∈ lw_tbl := by have h := hwq; unfold calW at h; rw [if_pos hne] at h; exact h
      exact va_runVN (Ts := TWD) ⟨hx, hb, hml, hown, hT⟩ hM0 ⟨va_cnB (mA q.2.2.2.1) hT (wsM_good hi) rfl rfl rfl (by rw [← e1]; exact hK.2.1 _ hwq rfl) (hts _ hmin rfl) (mnm_ok _ hi) ⟨by show r' + 1 ≤ _; omega, by show 8 + (mX _ + 11) + 60 * r' ≤ _; omega⟩, hts _ hinst rfl, hts _ hsel rfl⟩ hpre rfl (by rw [List.length_map]; exact hA) (hl.1.trans hLl) hstack hroom hd hfit
    · have hwq : Cond.methodLink (RN q.1) q.2.1 (mY q.2.2.2.1) ∈ lw_tbl := by have h := hwq; unfold calW at h; rw [if_neg hne] at h; exact h
      exact va_runV (Ts := TWD) ⟨hx, hb, hml, hown, hT⟩ hM0 ⟨callB_of (mA q.2.2.2.1) hT (wsM_good hi) rfl rfl rfl (hts _ hmin rfl) (by rw [← e1]; exact hts _ hwq rfl) (mnm_ok _ hi) ⟨by show r' + 1 ≤ _; omega, by show 8 + (mX _ + 11) + 60 * r' ≤ _; omega⟩, hts _ hinst rfl, hts _ hsel rfl⟩ hpre rfl (by rw [List.length_map]; exact hA) (hl.1.trans hLl) hstack hroom hd hfit
  refine call_go hrun hSS hS' (fun rr M' hq0 hM' hro' => ?_)
  obtain ⟨S'', g1, g2⟩ := h2 rr M' hq0
  refine ⟨S'', g1, fun hwS H1 locs1 hP1 hS1 => ?_⟩
  have K := g2 hn1 hn2 hL hwS hM' (fun a ha => (hro' a ha).trans (hro a ha)) hLl H1 locs1 ls hl (by rw [hmc] at hP1; exact hP1) hS1
  rw [hmc]
  simp only [Nat.add_zero, Nat.sub_self]
  exact K
set_option maxHeartbeats 4000000 in
theorem snd_callS {E : pE} {j n0 r : Nat} {Me : pM} {p : Program} {l : Launch} {e : Env} {R : Room} {s : State} {m : MethodId} {args : Array Value} {below : List Frame} {meth : Method} {c : Code} {Qw : State → Prop} (F : Fx E j n0 r Me p R s m args meth c)
    {pc : Nat} {L : pL} {S : List pv} {n : Nat} {M : pM} {S' As : List pv} {ix r' : Nat} {O : pO} {q : Nat × Nat × Nat × Nat × Nat × Nat} (hO : OS l r' O) (hrr : r' + 1 ≤ r) (hq : q ∈ calL) (e1 : q.1 = mO j) (e2 : q.2.1 = ix) (e3 : q.2.2.1 = 1) (hd : decode (mB j) pc = .ok (.invokestatic ix, 3)) (hA : As.length = mA q.2.2.2.1) (hk : stk S' ≤ 8) (hmc : mC q.2.2.2.1 = 0)
    (hmo : mo O q.2.2.2.1 As n M (fun r M' => ∃ S'', psh (mR q.2.2.2.1) r S' S'' ∧ Sm E j n0 Me p l e R s m args below meth c Qw (pc + 3) L S'' n M')) : Sm E j n0 Me p l e R s m args below meth c Qw pc L (As.reverse ++ S') n M := by
  intro hn1 hn2 hL hS hM hro hLl H locs ls hl hw hSS
  obtain ⟨hx, hb, hml, hown, hts, hK, hRO, hini, hRm, hRf, hsz, had, hr, hNC⟩ := F
  refine W_sz hsz hn1 hw hSS (fun hHs => ?_)
  obtain ⟨hi, -, hst1, hst2⟩ := cal_rg q hq
  have hwq := chk_ok cal_in0 q hq
  obtain ⟨Q0, h1, h2⟩ := hmo
  have hmst := chk_ok mst_in0 q.2.2.2.1 (List.mem_range.mpr hi)
  have hmin := chk_ok min_in0 q.2.2.2.1 (List.mem_range.mpr hi)
  have hmco := mco_in q.2.2.2.1 hi
  have hmx := mX_le _ hi
  have hT := TWD_ok hts
  have hm1 := slL_mono hn1
  have hN : NCELL = 119 := rfl
  subst e2
  have hS' : wfS S' := fun v hv => hS v (List.mem_append_right _ hv)
  have hAs : wfS As := fun v hv => hS v (List.mem_append_left _ (List.mem_reverse.mpr hv))
  have hM0 := hO q.2.2.2.1 As n M Q0 hi h1 hAs hM (by omega) E had
  have hnst : isSt q.2.2.2.1 = true := hst1.mp e3
  have hstat : Cond.static (mY q.2.2.2.1) ∈ lw_tbl := by simpa [hnst] using hmst
  have hpre : PreS s H (PcM E As n M) (As.map (cv E.2.2.1)) := ⟨PcM_blind, fun U hU hW => PcM_at hU hW hHs hw hK hRO hro hSS⟩
  have hstack : (As.reverse ++ S').map (cv E.2.2.1) = (As.map (cv E.2.2.1)).reverse ++ S'.map (cv E.2.2.1) := by rw [List.map_append, List.map_reverse]
  have hroom := lv_room (m := m) (pc := pc) (ls := ls) (rest := (As.reverse ++ S').map (cv E.2.2.1)) (st := S'.map (cv E.2.2.1)) (by rw [stk_cv]; exact hk)
  have hfit : n - n0 + mC q.2.2.2.1 ≤ R.cells ∧ slL n - slL n0 + (slL (n + mC q.2.2.2.1) - slL n) ≤ R.slots := by rw [hmc]; have := slL_mono hn2; simp only [Nat.add_zero]; omega
  have hrun : va_Run p l e R s m args below meth c H locs (n - n0) (slL n - slL n0) (mC q.2.2.2.1) (slL (n + mC q.2.2.2.1) - slL n) (F0 m pc ls ((As.reverse ++ S').map (cv E.2.2.1))) (S'.map (cv E.2.2.1)) (QcM E q.2.2.2.1 n M Q0 (As.map (cv E.2.2.1)).toArray) (AE E) := by
    by_cases hne : q.2.2.2.2.2 = 1
    · have hwq : Cond.methodLinkNest (RN q.1) q.2.1 (mY q.2.2.2.1) "SoarHouse" ∈ lw_tbl := by have h := hwq; unfold calW at h; rw [if_pos hne] at h; exact h
      exact va_runSN (Ts := TWD) ⟨hx, hb, hml, hown, hT⟩ hM0 ⟨va_cnB (mA q.2.2.2.1) hT (wsM_good hi) rfl rfl rfl (by rw [← e1]; exact hK.2.1 _ hwq rfl) (hts _ hmin rfl) (mnm_ok _ hi) ⟨by show r' + 1 ≤ _; omega, by show 8 + (mX _ + 11) + 60 * r' ≤ _; omega⟩, hts _ hstat rfl, trivial⟩ hpre rfl (by rw [List.length_map]; exact hA) (hl.1.trans hLl) hstack hroom hd hfit
    · have hwq : Cond.methodLink (RN q.1) q.2.1 (mY q.2.2.2.1) ∈ lw_tbl := by have h := hwq; unfold calW at h; rw [if_neg hne] at h; exact h
      exact va_runS (Ts := TWD) ⟨hx, hb, hml, hown, hT⟩ hM0 ⟨callB_of (mA q.2.2.2.1) hT (wsM_good hi) rfl rfl rfl (hts _ hmin rfl) (by rw [← e1]; exact hts _ hwq rfl) (mnm_ok _ hi) ⟨by show r' + 1 ≤ _; omega, by show 8 + (mX _ + 11) + 60 * r' ≤ _; omega⟩, hts _ hstat rfl⟩ hpre rfl (by rw [List.length_map]; exact hA) (hl.1.trans hLl) hstack hroom hd hfit
  refine call_go hrun hSS hS' (fun rr M' hq0 hM' hro' => ?_)
  obtain ⟨S'', g1, g2⟩ := h2 rr M' hq0
  refine ⟨S'', g1, fun hwS H1 locs1 hP1 hS1 => ?_⟩
  have K := g2 hn1 hn2 hL hwS hM' (fun a ha => (hro' a ha).trans (hro a ha)) hLl H1 locs1 ls hl (by rw [hmc] at hP1; exact hP1) hS1
  rw [hmc]
  simp only [Nat.add_zero, Nat.sub_self]
  exact K
set_option maxHeartbeats 4000000 in
theorem snd_callI {E : pE} {j n0 r : Nat} {Me : pM} {p : Program} {l : Launch} {e : Env} {R : Room} {s : State} {m : MethodId} {args : Array Value} {below : List Frame} {meth : Method} {c : Code} {Qw : State → Prop} (F : Fx E j n0 r Me p R s m args meth c)
    {pc : Nat} {L : pL} {S : List pv} {n : Nat} {M : pM} {S' As : List pv} {ix b r' : Nat} {O : pO} {q : Nat × Nat × Nat × Nat × Nat × Nat} (hO : OS l r' O) (hrr : r' + 1 ≤ r) (hq : q ∈ calL) (e1 : q.1 = mO j) (e2 : q.2.1 = ix) (e3 : q.2.2.1 = 2) (hd : decode (mB j) pc = .ok (.invokespecial ix, 3)) (hA : As.length = mA q.2.2.2.1) (hk : stk S' ≤ 8) (hmc : n + mC q.2.2.2.1 ≤ n0 + mC j) (hmr : mR q.2.2.2.1 = none)
    (hmo : mo O q.2.2.2.1 (vr (b + 1) :: As) n M (fun r M' => r = none ∧ Sm E j n0 Me p l e R s m args below meth c Qw (pc + 3) L S' (n + mC q.2.2.2.1) M')) : Sm E j n0 Me p l e R s m args below meth c Qw pc L (As.reverse ++ vr (b + 1) :: S') n M := by
  intro hn1 hn2 hL hS hM hro hLl H locs ls hl hw hSS
  obtain ⟨hx, hb, hml, hown, hts, hK, hRO, hini, hRm, hRf, hsz, had, hr, hNC⟩ := F
  refine W_sz hsz hn1 hw hSS (fun hHs => ?_)
  obtain ⟨hi, -, hst1, hst2⟩ := cal_rg q hq
  have hwq := chk_ok cal_in0 q hq
  obtain ⟨Q0, h1, h2⟩ := hmo
  have hmst := chk_ok mst_in0 q.2.2.2.1 (List.mem_range.mpr hi)
  have hmin := chk_ok min_in0 q.2.2.2.1 (List.mem_range.mpr hi)
  have hmco := mco_in q.2.2.2.1 hi
  have hmx := mX_le _ hi
  have hT := TWD_ok hts
  have hm1 := slL_mono hn1
  have hN : NCELL = 119 := rfl
  subst e2
  have hS' : wfS S' := fun v hv => hS v (List.mem_append_right _ (List.mem_cons_of_mem _ hv))
  have hAs : wfS (vr (b + 1) :: As) := wfS_c (hS _ (List.mem_append_right _ List.mem_cons_self)) (fun v hv => hS v (List.mem_append_left _ (List.mem_reverse.mpr hv)))
  have hM0 := hO q.2.2.2.1 (vr (b + 1) :: As) n M Q0 hi h1 hAs hM (by omega) E had
  have hnin : (mY q.2.2.2.1).name = "<init>" := hst2.mp e3
  have hnst : isSt q.2.2.2.1 = false := by cases hz : isSt q.2.2.2.1 with
    | false => rfl
    | true => have := hst1.mpr hz; omega
  have hinst : Cond.instanceMethod (mY q.2.2.2.1) ∈ lw_tbl := by simpa [hnst] using hmst
  have hpre : PreS s H (PcM E (vr (b + 1) :: As) n M) (.ref (E.2.2.1 b) :: As.map (cv E.2.2.1)) := ⟨PcM_blind, fun U hU hW => PcM_at (a := vr (b + 1) :: As) hU hW hHs hw hK hRO hro hSS⟩
  have hstack : (As.reverse ++ vr (b + 1) :: S').map (cv E.2.2.1) = (As.map (cv E.2.2.1)).reverse ++ .ref (E.2.2.1 b) :: S'.map (cv E.2.2.1) := by rw [List.map_append, List.map_reverse]; rfl
  have hroom := lv_room (m := m) (pc := pc) (ls := ls) (rest := (As.reverse ++ vr (b + 1) :: S').map (cv E.2.2.1)) (st := S'.map (cv E.2.2.1)) (by rw [stk_cv]; exact hk)
  have hm3 := slL_mono hmc
  have hm4 : slL n ≤ slL (n + mC q.2.2.2.1) := slL_mono (by omega)
  have hfit : n - n0 + mC q.2.2.2.1 ≤ R.cells ∧ slL n - slL n0 + (slL (n + mC q.2.2.2.1) - slL n) ≤ R.slots := by omega
  rw [hmr] at hmco
  have hwe : wsM q.2.2.2.1 = Cond.code (mY q.2.2.2.1) (mB q.2.2.2.1) (mX q.2.2.2.1) none :: TWD := by unfold wsM; rw [hmr]
  have hrun : va_Run p l e R s m args below meth c H locs (n - n0) (slL n - slL n0) (mC q.2.2.2.1) (slL (n + mC q.2.2.2.1) - slL n) (F0 m pc ls ((As.reverse ++ vr (b + 1) :: S').map (cv E.2.2.1))) (S'.map (cv E.2.2.1)) (QcM E q.2.2.2.1 n M Q0 (Value.ref (E.2.2.1 b) :: As.map (cv E.2.2.1)).toArray) (AE E) := by
    by_cases hne : q.2.2.2.2.2 = 1
    · have hwq : Cond.methodLinkNest (RN q.1) q.2.1 (mY q.2.2.2.1) "SoarHouse" ∈ lw_tbl := by have h := hwq; unfold calW at h; rw [if_pos hne] at h; exact h
      exact va_runIN (Ts := TWD) ⟨hx, hb, hml, hown, hT⟩ hM0 ⟨va_cnB (mA q.2.2.2.1) hT (wsM_good hi) hwe rfl rfl (by rw [← e1]; exact hK.2.1 _ hwq rfl) (hts _ hmin rfl) (mnm_ok _ hi) ⟨by show r' + 1 ≤ _; omega, by show 8 + (mX _ + 11) + 60 * r' ≤ _; omega⟩, hnin, hts _ hinst rfl⟩ hpre rfl (by rw [List.length_map]; exact hA) (hl.1.trans hLl) hstack hroom hd hfit
    · have hwq : Cond.methodLink (RN q.1) q.2.1 (mY q.2.2.2.1) ∈ lw_tbl := by have h := hwq; unfold calW at h; rw [if_neg hne] at h; exact h
      exact va_runI (Ts := TWD) ⟨hx, hb, hml, hown, hT⟩ hM0 ⟨callB_of (mA q.2.2.2.1) hT (wsM_good hi) hwe rfl rfl (hts _ hmin rfl) (by rw [← e1]; exact hts _ hwq rfl) (mnm_ok _ hi) ⟨by show r' + 1 ≤ _; omega, by show 8 + (mX _ + 11) + 60 * r' ≤ _; omega⟩, hnin, hts _ hinst rfl⟩ hpre rfl (by rw [List.length_map]; exact hA) (hl.1.trans hLl) hstack hroom hd hfit
  refine call_go hrun hSS hS' (fun rr M' hq0 hM' hro' => ?_)
  obtain ⟨rfl, g2⟩ := h2 rr M' hq0
  refine ⟨S', by rw [hmr]; exact ⟨rfl, rfl⟩, fun hwS H1 locs1 hP1 hS1 => ?_⟩
  have K := g2 (by omega) (by omega) hL hwS hM' (fun a ha => (hro' a ha).trans (hro a ha)) hLl H1 locs1 ls hl hP1 hS1
  rw [show n + mC q.2.2.2.1 - n0 = n - n0 + mC q.2.2.2.1 by omega, show slL (n + mC q.2.2.2.1) - slL n0 = slL n - slL n0 + (slL (n + mC q.2.2.2.1) - slL n) by omega] at K
  exact K
