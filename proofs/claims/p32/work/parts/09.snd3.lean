theorem ncell_lt {n0 mc n : Nat} (h1 : n ≤ n0 + mc) (h2 : n0 + mc ≤ NCELL) {a : Nat} (h : a < n) : a < 1000 := by
  have : NCELL = 119 := rfl
  omega
theorem lays_ok {args : Array Value} {s : State} (hts : ∀ w ∈ lw_tbl, goodWord w = true → w.before args s = true) {c : Nat} (hc : c < 13) : ∀ w ∈ u_ws (RN c) (cT c) (cN c), w.before args s = true := by
  intro w hw
  obtain ⟨k, hk, rfl⟩ := List.mem_map.mp hw
  have hk := List.mem_range.mp hk
  refine hts _ (chk_ok lay_in0 (c, k) (List.mem_flatMap.mpr ⟨c, List.mem_range.mpr hc, List.mem_map.mpr ⟨k, List.mem_range.mpr hk, rfl⟩⟩)) ?_
  show goodWord (u_lay (RN c) (cT c) k) = true
  unfold u_lay
  split <;> rfl
theorem utg_fit {ad : Nat → Nat} {ty : FieldType} {v : pv} {x : Int} (h : utg ty v x) : narrow ty (cv ad v) = cv ad v ∧ fits ty (cv ad v) = true := by
  cases ty <;> simp only [utg] at h
  case boolean => obtain ⟨rfl, rfl | rfl⟩ := h <;> exact ⟨rfl, rfl⟩
  case int => subst h; exact ⟨rfl, rfl⟩
  case long => subst h; exact ⟨rfl, rfl⟩
  case object => obtain ⟨k, rfl, rfl⟩ := h; cases k <;> exact ⟨rfl, rfl⟩
  case array => obtain ⟨k, rfl, rfl⟩ := h; cases k <;> exact ⟨rfl, rfl⟩
set_option maxHeartbeats 4000000 in
theorem snd_get {E : pE} {j n0 r : Nat} {Me : pM} {p : Program} {l : Launch} {e : Env} {R : Room} {s : State} {m : MethodId} {args : Array Value} {below : List Frame} {meth : Method} {c : Code} {Qw : State → Prop} (F : Fx E j n0 r Me p R s m args meth c)
    {pc : Nat} {L : pL} {S : List pv} {n : Nat} {M : pM} {S' : List pv} {ix a : Nat} {q : Nat × Nat × Nat × Nat × Nat × Nat} (hq : q ∈ fldL) (e1 : q.1 = mO j) (e2 : q.2.1 = ix) (hd : decode (mB j) pc = .ok (.getfield ix, 3)) (ha : ob n a = q.2.2.1) (k : Sm E j n0 Me p l e R s m args below meth c Qw (pc + 3) L (tgv (tyA q.2.2.1 q.2.2.2.1) (M a q.2.2.2.1) :: S') n M) : Sm E j n0 Me p l e R s m args below meth c Qw pc L (vr (a + 1) :: S') n M := by
  intro hn1 hn2 hL hS hM hro hLl H locs ls hl hw hSS
  obtain ⟨hx, hb, hml, hown, hts, hK, hRO, hini, hRm, hRf, hsz, had, hr, hNC⟩ := F
  obtain ⟨hk, hc⟩ := fld_rg q hq
  obtain ⟨han, hsh⟩ := ob_of hc ha
  have hwq := chk_ok fld_in0 q hq
  have hwf : wfv (tgv (tyA q.2.2.1 q.2.2.2.1) (M a q.2.2.2.1)) := tgv_wf (by have := hM a q.2.2.2.1; unfold slT at this; rw [hsh] at this; simp only [if_neg (show ¬ q.2.2.1 = 99 by omega)] at this; exact this)
  have K := k hn1 hn2 hL (wfS_c hwf (wfS_t hS)) hM hro hLl H locs ls hl hw hSS
  have hat : (wsO E n M)[a]? = some (E.2.2.2 + a, .inr (q.2.2.1, fsO E q.2.2.1 (M a))) := by rw [wsO_at han, hsh]; rfl
  have hst : (vr (a + 1) :: S').map (cv E.2.2.1) = .ref (E.2.2.2 + a) :: S'.map (cv E.2.2.1) := by show Value.ref (E.2.2.1 a) :: _ = _; rw [had a (ncell_lt hn2 hNC han)]
  rw [hst]
  subst e2
  by_cases hne : q.2.2.2.2.2 = 1
  · have hwq : Cond.fieldLinkNest (RN q.1) q.2.1 (cT q.2.2.1 q.2.2.2.1).1 (cT q.2.2.1 q.2.2.2.1).2.1 (cT q.2.2.1 q.2.2.2.1).2.2.1 "SoarHouse" ∈ lw_tbl := by have h := hwq; unfold fldW at h; rw [if_pos hne] at h; exact h
    exact va_getN hx hb (lays_ok hts hc) (fun w h => h) hown hK.1 hw a hat (cl_ok _ hc) q.2.2.2.1 hk (by rw [← e1]; exact va_Nw.use rfl (hK.2.1 _ hwq rfl)) (fun _ h => h) (fsO_get hk) hd K
  · have hwq : Cond.fieldLink (RN q.1) q.2.1 (cT q.2.2.1 q.2.2.2.1).1 (cT q.2.2.1 q.2.2.2.1).2.1 (cT q.2.2.1 q.2.2.2.1).2.2.1 ∈ lw_tbl := by have h := hwq; unfold fldW at h; rw [if_neg hne] at h; exact h
    exact va_get hx hb (lays_ok hts hc) (fun w h => h) hown hK.1 hw a hat (cl_ok _ hc) q.2.2.2.1 hk (by rw [← e1]; exact hts _ hwq rfl) (fun _ h => h) (fsO_get hk) hd K
set_option maxHeartbeats 4000000 in
theorem snd_put {E : pE} {j n0 r : Nat} {Me : pM} {p : Program} {l : Launch} {e : Env} {R : Room} {s : State} {m : MethodId} {args : Array Value} {below : List Frame} {meth : Method} {c : Code} {Qw : State → Prop} (F : Fx E j n0 r Me p R s m args meth c)
    {pc : Nat} {L : pL} {S : List pv} {n : Nat} {M : pM} {S' : List pv} {ix a : Nat} {v : pv} {x : Int} {q : Nat × Nat × Nat × Nat × Nat × Nat} (hq : q ∈ fldL) (e1 : q.1 = mO j) (e2 : q.2.1 = ix) (hd : decode (mB j) pc = .ok (.putfield ix, 3)) (hfin : (cT q.2.2.1 q.2.2.2.1).2.2.2 = false ∨ ((mY j).name = "<init>" ∧ q.2.2.1 = mO j ∧ q.2.2.2.2.2 = 0)) (hdc : (cT q.2.2.1 q.2.2.2.1).1 = RN q.2.2.1) (ha : ob n a = q.2.2.1) (hu : utg (tyA q.2.2.1 q.2.2.2.1) v x) (k : Sm E j n0 Me p l e R s m args below meth c Qw (pc + 3) L S' n (st M a q.2.2.2.1 x)) : Sm E j n0 Me p l e R s m args below meth c Qw pc L (v :: vr (a + 1) :: S') n M := by
  intro hn1 hn2 hL hS hM hro hLl H locs ls hl hw hSS
  obtain ⟨hx, hb, hml, hown, hts, hK, hRO, hini, hRm, hRf, hsz, had, hr, hNC⟩ := F
  obtain ⟨hk, hc⟩ := fld_rg q hq
  obtain ⟨han, hsh⟩ := ob_of hc ha
  have hwq := chk_ok fld_in0 q hq
  have hvw : wfv v := wfS_h hS
  have hrt : rTy (slT a q.2.2.2.1) x := by unfold slT; rw [hsh]; simp only [if_neg (show ¬ q.2.2.1 = 99 by omega)]; exact utg_wf hu hvw
  have hM' : wfM (st M a q.2.2.2.1 x) := st_wf hM hrt
  have hro' : ∀ b, 1000 ≤ b → st M a q.2.2.2.1 x b = Me b := fun b hb => by rw [st_row (by have := ncell_lt hn2 hNC han; omega)]; exact hro b hb
  have hat : (wsO E n M)[a]? = some (E.2.2.2 + a, .inr (q.2.2.1, fsO E q.2.2.1 (M a))) := by rw [wsO_at han, hsh]; rfl
  have hst : (v :: vr (a + 1) :: S').map (cv E.2.2.1) = cv E.2.2.1 v :: .ref (E.2.2.2 + a) :: S'.map (cv E.2.2.1) := by show _ :: Value.ref (E.2.2.1 a) :: _ = _; rw [had a (ncell_lt hn2 hNC han)]
  have hnew : (wsO E n M).set a (E.2.2.2 + a, .inr (q.2.2.1, (fsO E q.2.2.1 (M a)).set q.2.2.2.1 (cv E.2.2.1 v))) = wsO E n (st M a q.2.2.2.1 x) := by
    refine wsO_set han (fun b hb => st_row hb) ?_
    rw [hsh]
    show _ = Sum.inr (q.2.2.1, fsO E q.2.2.1 (st M a q.2.2.2.1 x a))
    rw [fsO_set (f' := st M a q.2.2.2.1 x a) hk (fun b hb => st_ne hb) (by rw [st_at, utg_tgv hu])]
  have K : ∀ (H1 : Heap) (locs1 : List Loc), va_P E.1 vwCl ((wsO E n M).set a (E.2.2.2 + a, .inr (q.2.2.1, (fsO E q.2.2.1 (M a)).set q.2.2.2.1 (cv E.2.2.1 v)))) H1 → va_D (AE E) ((wsO E n M).set a (E.2.2.2 + a, .inr (q.2.2.1, (fsO E q.2.2.1 (M a)).set q.2.2.2.1 (cv E.2.2.1 v)))) → va_S (AE E) s.heap H1 locs1 → W p l e R s m args below meth c H1 locs1 (n - n0) (slL n - slL n0) Qw (F0 m (pc + 3) ls (S'.map (cv E.2.2.1))) := by
    intro H1 locs1 h1 _ h3
    rw [hnew] at h1
    exact k hn1 hn2 hL (wfS_t (wfS_t hS)) hM' hro' hLl H1 locs1 ls hl h1 h3
  rw [hst]
  subst e2
  obtain ⟨hf1, hf2⟩ := utg_fit (ad := E.2.2.1) hu
  by_cases hne : q.2.2.2.2.2 = 1
  · have hwq : Cond.fieldLinkNest (RN q.1) q.2.1 (cT q.2.2.1 q.2.2.2.1).1 (cT q.2.2.1 q.2.2.2.1).2.1 (cT q.2.2.1 q.2.2.2.1).2.2.1 "SoarHouse" ∈ lw_tbl := by have h := hwq; unfold fldW at h; rw [if_pos hne] at h; exact h
    have hfin : (cT q.2.2.1 q.2.2.2.1).2.2.2 = false := hfin.elim id (fun h => by omega)
    exact va_putN hx hb (lays_ok hts hc) (fun w h => h) (tyA q.2.2.1) (ty_ok _ hc) (nm_ok _ hc) hown hK.1 hw (wsO_D E n M) hSS a hat (cl_ok _ hc) q.2.2.2.1 hk (by rw [← e1]; exact va_Nw.use rfl (hK.2.1 _ hwq rfl)) (fun _ h => h) hfin (ty_ok _ hc _ hk) hf1 hf2 (by rw [fsO_len]; exact hk) hd K
  · have hwq : Cond.fieldLink (RN q.1) q.2.1 (cT q.2.2.1 q.2.2.2.1).1 (cT q.2.2.1 q.2.2.2.1).2.1 (cT q.2.2.1 q.2.2.2.1).2.2.1 ∈ lw_tbl := by have h := hwq; unfold fldW at h; rw [if_neg hne] at h; exact h
    by_cases hfb : (cT q.2.2.1 q.2.2.2.1).2.2.2 = false
    · exact va_put hx hb (lays_ok hts hc) (fun w h => h) (tyA q.2.2.1) (ty_ok _ hc) (nm_ok _ hc) hown hK.1 hw (wsO_D E n M) hSS a hat (cl_ok _ hc) q.2.2.2.1 hk (by rw [← e1]; exact hts _ hwq rfl) (fun _ h => h) hfb (ty_ok _ hc _ hk) hf1 hf2 (by rw [fsO_len]; exact hk) hd K
    · obtain ⟨hi1, hi2, -⟩ := hfin.resolve_left hfb
      exact va_putF hx hb (lays_ok hts hc) (fun w h => h) (tyA q.2.2.1) (ty_ok _ hc) (nm_ok _ hc) hown hK.1 hw (wsO_D E n M) hSS a hat (cl_ok _ hc) q.2.2.2.1 hk (by rw [← e1]; exact hts _ hwq rfl) (fun _ h => h) (by cases hz : (cT q.2.2.1 q.2.2.2.1).2.2.2 with | true => rfl | false => exact absurd hz hfb) (hini hi1) (by rw [hdc, hi2]) (ty_ok _ hc _ hk) hf1 hf2 (by rw [fsO_len]; exact hk) hd K
def gsW (q : Nat × Nat × Nat × Nat) : Cond := if q.1 = 11 then .fieldLink (RN q.1) q.2.1 "SoarHouse" (dxn q.2.2.1) "[I" else .fieldLinkNest (RN q.1) q.2.1 "SoarHouse" (dxn q.2.2.1) "[I" "SoarHouse"
theorem gs_in0 : chk gsW (fun q => q.2.2.2) lw_tbl gsL = true := by decide +kernel
theorem gs_rg : ∀ q ∈ gsL, q.2.2.1 < 2 := by decide +kernel
theorem fld_dc : ∀ q ∈ fldL, (cT q.2.2.1 q.2.2.2.1).1 = RN q.2.2.1 := by decide +kernel
theorem snd_gs {E : pE} {j n0 r : Nat} {Me : pM} {p : Program} {l : Launch} {e : Env} {R : Room} {s : State} {m : MethodId} {args : Array Value} {below : List Frame} {meth : Method} {c : Code} {Qw : State → Prop} (F : Fx E j n0 r Me p R s m args meth c)
    {pc : Nat} {L : pL} {S : List pv} {n : Nat} {M : pM} {ix : Nat} {q : Nat × Nat × Nat × Nat} (hq : q ∈ gsL) (e1 : q.1 = mO j) (e2 : q.2.1 = ix) (hd : decode (mB j) pc = .ok (.getstatic ix, 3)) (k : Sm E j n0 Me p l e R s m args below meth c Qw (pc + 3) L (vr (1001 + q.2.2.1) :: S) n M) : Sm E j n0 Me p l e R s m args below meth c Qw pc L S n M := by
  intro hn1 hn2 hL hS hM hro hLl H locs ls hl hw hSS
  obtain ⟨hx, hb, hml, hown, hts, hK, hRO, hini, hRm, hRf, hsz, had, hr, hNC⟩ := F
  have hk := gs_rg q hq
  have hwq := chk_ok gs_in0 q hq
  have K := k hn1 hn2 hL (wfS_c (show 1001 + q.2.2.1 ≤ 5000 by omega) hS) hM hro hLl H locs ls hl hw hSS
  have hz := hRO.2.2.1 q.2.2.1 hk
  have hst : (vr (1001 + q.2.2.1) :: S).map (cv E.2.2.1) = .ref (E.2.2.1 (1000 + q.2.2.1)) :: S.map (cv E.2.2.1) := by rw [show 1001 + q.2.2.1 = 1000 + q.2.2.1 + 1 by omega]; rfl
  rw [hst] at K
  subst e2
  by_cases h11 : q.1 = 11
  · have hwq : Cond.fieldLink (RN q.1) q.2.1 "SoarHouse" (dxn q.2.2.1) "[I" ∈ lw_tbl := by have h := hwq; unfold gsW at h; rw [if_pos h11] at h; exact h
    exact va_gets hx hb hz hSS hown (by rw [← e1]; exact hts _ hwq rfl) (fun _ h => h) hd K
  · have hwq : Cond.fieldLinkNest (RN q.1) q.2.1 "SoarHouse" (dxn q.2.2.1) "[I" "SoarHouse" ∈ lw_tbl := by have h := hwq; unfold gsW at h; rw [if_neg h11] at h; exact h
    exact va_getsN hx hb hz hSS hown (by rw [← e1]; exact va_Nw.use rfl (hK.2.1 _ hwq rfl)) (fun _ h => h) hd K
