theorem slL_mono {a b : Nat} (h : a ≤ b) : slL a ≤ slL b := by
  induction h with
  | refl => exact Nat.le_refl _
  | step _ ih => exact Nat.le_trans ih (by show _ ≤ slL _ + _; omega)
theorem q_new {E : pE} {n q : Nat} {M : pM} {x : va_E} (hD : va_D (AE E) (wsO E n M ++ [(q, x)])) (hq : q < E.2.2.2 + n + 1) : q = E.2.2.2 + n := by
  have hlen : (wsO E n M).length = n := by simp [wsO]
  have hn : (wsO E n M ++ [(q, x)])[n]? = some (q, x) := by rw [List.getElem?_append_right (by omega), hlen]; simp
  have h1 : E.2.2.2 ≤ q := hD.2 n _ hn
  rcases Nat.lt_or_ge q (E.2.2.2 + n) with h | h
  · have hk : (wsO E n M ++ [(q, x)])[q - E.2.2.2]? = some (E.2.2.2 + (q - E.2.2.2), ceO E (SH (q - E.2.2.2)) (M (q - E.2.2.2))) := by
      rw [List.getElem?_append_left (by omega), wsO_at (by omega)]
    have := hD.1 _ _ _ _ hk hn (by show E.2.2.2 + (q - E.2.2.2) = q; omega)
    omega
  · omega
theorem stk_cv (ad : Nat → Nat) (S : List pv) : ((S.map (cv ad)).map fun v => v.category).sum = stk S := by
  unfold stk
  rw [List.map_map]
  congr 1
  apply List.map_congr_left
  intro v _
  exact cat_cv ad v
def okT (ty : FieldType) : Bool := match ty with
  | .int => true
  | .long => true
  | .boolean => true
  | .object _ => true
  | .array _ => true
  | _ => false
theorem ty_kind : ∀ c, c < 13 → ∀ k, k < cN c → okT (tyA c k) = true := by decide +kernel
theorem new_sz : ∀ c, c < 13 → szS (.inl c) = cN c := fun _ _ => rfl
set_option maxHeartbeats 4000000 in
theorem snd_new_int {E : pE} {j n0 r : Nat} {Me : pM} {p : Program} {l : Launch} {e : Env} {R : Room} {s : State} {m : MethodId} {args : Array Value} {below : List Frame} {meth : Method} {c : Code} {Qw : State → Prop} (F : Fx E j n0 r Me p R s m args meth c)
    {pc : Nat} {L : pL} {S : List pv} {n : Nat} {M : pM} {S' : List pv} {x : Int} (hd : decode (mB j) pc = .ok (.newarray .int, 2)) (hlt : n + 1 ≤ n0 + mC j) (hsh : SH n = .inr (0, x.toNat)) (h0 : 0 ≤ x) (h1 : x ≤ 1000000) (k : Sm E j n0 Me p l e R s m args below meth c Qw (pc + 2) L (vr (n + 1) :: S') (n + 1) (zr M n)) : Sm E j n0 Me p l e R s m args below meth c Qw pc L (vi x :: S') n M := by
  intro hn1 hn2 hL hS hM hro hLl H locs ls hl hw hSS
  obtain ⟨hx, hb, hml, hown, hts, hK, hRO, hini, hRm, hRf, hsz, had, hr, hNC⟩ := F
  have hx0 : r32 x := wfS_h hS
  have hN : NCELL = 119 := rfl
  have hsl : slL (n + 1) = slL n + x.toNat := by show slL n + szS (SH n) = _; rw [hsh]; rfl
  have hm1 := slL_mono hn1
  have hm2 := slL_mono hlt
  have hz : ∀ i, zr M n n i = 0 := fun i => by simp [zr]
  refine va_newa (atype := .int) (ty := .int) (N' := x.toNat) (a0 := (x.toNat, .inl (fun i => Int32.ofInt (zr M n n i)))) hx hb (hts _ (chk_ok ac_in0 (0, .int) (by simp)) rfl) rfl hK.1 hw (wsO_D E n M) hSS (fun q hq => by show E.2.2.2 ≤ q; omega) (fun cA => by rw [vp_cell_i]; simp only [hz]; rfl) (fun q => by rw [show (0 : Int32) = Int32.ofInt 0 from rfl, i32_lt hx0 r32_0] at q; omega) (i32_cl hx0 h0) (by show x.toNat * 4 ≤ _; omega) (by omega) (by omega) hd (fun q cA H1 hK1 hP1 hD1 hS1 => ?_)
  have hcA : cA = E.2.1 0 := Option.some.inj ((hK1.2 4 _ rfl).2.symm.trans (hK.1.2 0 _ rfl).2)
  subst hcA
  intro T hT X
  have hlen : (wsO E n M).length = n := by simp [wsO]
  have hqs : q < H1.size := (hP1 n (q, _) (by rw [List.getElem?_append_right (by omega), hlen]; simp; rfl)).lt
  have hhs := X.heapSize
  rw [hT] at hhs
  have hq : q = E.2.2.2 + n := q_new hD1 (by omega)
  subst hq
  rw [wsO_succ (M' := zr M n) (fun a ha => zr_row (by omega)) (by rw [hsh]; rfl)] at hP1
  have K := k (by omega) (by omega) hL (wfS_c (show n + 1 ≤ 5000 by omega) (wfS_t hS)) (zr_wf hM) (fun a ha => by rw [zr_row (by omega)]; exact hro a ha) hLl H1 locs ls hl hP1 hS1
  rw [show n + 1 - n0 = n - n0 + 1 by omega, hsl, show slL n + x.toNat - slL n0 = slL n - slL n0 + x.toNat by omega] at K
  have hst : (vr (n + 1) :: S').map (cv E.2.2.1) = .ref (E.2.2.2 + n) :: S'.map (cv E.2.2.1) := by show Value.ref (E.2.2.1 n) :: _ = _; rw [had n (by omega)]
  rw [hst] at K
  exact K T hT X
set_option maxHeartbeats 4000000 in
theorem snd_new_long {E : pE} {j n0 r : Nat} {Me : pM} {p : Program} {l : Launch} {e : Env} {R : Room} {s : State} {m : MethodId} {args : Array Value} {below : List Frame} {meth : Method} {c : Code} {Qw : State → Prop} (F : Fx E j n0 r Me p R s m args meth c)
    {pc : Nat} {L : pL} {S : List pv} {n : Nat} {M : pM} {S' : List pv} {x : Int} (hd : decode (mB j) pc = .ok (.newarray .long, 2)) (hlt : n + 1 ≤ n0 + mC j) (hsh : SH n = .inr (1, x.toNat)) (h0 : 0 ≤ x) (h1 : x ≤ 1000000) (k : Sm E j n0 Me p l e R s m args below meth c Qw (pc + 2) L (vr (n + 1) :: S') (n + 1) (zr M n)) : Sm E j n0 Me p l e R s m args below meth c Qw pc L (vi x :: S') n M := by
  intro hn1 hn2 hL hS hM hro hLl H locs ls hl hw hSS
  obtain ⟨hx, hb, hml, hown, hts, hK, hRO, hini, hRm, hRf, hsz, had, hr, hNC⟩ := F
  have hx0 : r32 x := wfS_h hS
  have hN : NCELL = 119 := rfl
  have hsl : slL (n + 1) = slL n + x.toNat := by show slL n + szS (SH n) = _; rw [hsh]; rfl
  have hm1 := slL_mono hn1
  have hm2 := slL_mono hlt
  have hz : ∀ i, zr M n n i = 0 := fun i => by simp [zr]
  refine va_newa (atype := .long) (ty := .long) (N' := x.toNat) (a0 := (x.toNat, .inr (.inl (fun i => Int64.ofInt (zr M n n i))))) hx hb (hts _ (chk_ok ac_in0 (1, .long) (by simp)) rfl) rfl hK.1 hw (wsO_D E n M) hSS (fun q hq => by show E.2.2.2 ≤ q; omega) (fun cA => by rw [vp_cell_l]; simp only [hz]; rfl) (fun q => by rw [show (0 : Int32) = Int32.ofInt 0 from rfl, i32_lt hx0 r32_0] at q; omega) (i32_cl hx0 h0) (by show x.toNat * 8 ≤ _; omega) (by omega) (by omega) hd (fun q cA H1 hK1 hP1 hD1 hS1 => ?_)
  have hcA : cA = E.2.1 1 := Option.some.inj ((hK1.2 4 _ rfl).2.symm.trans (hK.1.2 1 _ rfl).2)
  subst hcA
  intro T hT X
  have hlen : (wsO E n M).length = n := by simp [wsO]
  have hqs : q < H1.size := (hP1 n (q, _) (by rw [List.getElem?_append_right (by omega), hlen]; simp; rfl)).lt
  have hhs := X.heapSize
  rw [hT] at hhs
  have hq : q = E.2.2.2 + n := q_new hD1 (by omega)
  subst hq
  rw [wsO_succ (M' := zr M n) (fun a ha => zr_row (by omega)) (by rw [hsh]; rfl)] at hP1
  have K := k (by omega) (by omega) hL (wfS_c (show n + 1 ≤ 5000 by omega) (wfS_t hS)) (zr_wf hM) (fun a ha => by rw [zr_row (by omega)]; exact hro a ha) hLl H1 locs ls hl hP1 hS1
  rw [show n + 1 - n0 = n - n0 + 1 by omega, hsl, show slL n + x.toNat - slL n0 = slL n - slL n0 + x.toNat by omega] at K
  have hst : (vr (n + 1) :: S').map (cv E.2.2.1) = .ref (E.2.2.2 + n) :: S'.map (cv E.2.2.1) := by show Value.ref (E.2.2.1 n) :: _ = _; rw [had n (by omega)]
  rw [hst] at K
  exact K T hT X
set_option maxHeartbeats 4000000 in
theorem snd_new_byte {E : pE} {j n0 r : Nat} {Me : pM} {p : Program} {l : Launch} {e : Env} {R : Room} {s : State} {m : MethodId} {args : Array Value} {below : List Frame} {meth : Method} {c : Code} {Qw : State → Prop} (F : Fx E j n0 r Me p R s m args meth c)
    {pc : Nat} {L : pL} {S : List pv} {n : Nat} {M : pM} {S' : List pv} {x : Int} (hd : decode (mB j) pc = .ok (.newarray .byte, 2)) (hlt : n + 1 ≤ n0 + mC j) (hsh : SH n = .inr (2, x.toNat)) (h0 : 0 ≤ x) (h1 : x ≤ 1000000) (k : Sm E j n0 Me p l e R s m args below meth c Qw (pc + 2) L (vr (n + 1) :: S') (n + 1) (zr M n)) : Sm E j n0 Me p l e R s m args below meth c Qw pc L (vi x :: S') n M := by
  intro hn1 hn2 hL hS hM hro hLl H locs ls hl hw hSS
  obtain ⟨hx, hb, hml, hown, hts, hK, hRO, hini, hRm, hRf, hsz, had, hr, hNC⟩ := F
  have hx0 : r32 x := wfS_h hS
  have hN : NCELL = 119 := rfl
  have hsl : slL (n + 1) = slL n + x.toNat := by show slL n + szS (SH n) = _; rw [hsh]; rfl
  have hm1 := slL_mono hn1
  have hm2 := slL_mono hlt
  have hz : ∀ i, zr M n n i = 0 := fun i => by simp [zr]
  refine va_newa (atype := .byte) (ty := .byte) (N' := x.toNat) (a0 := (x.toNat, .inl (fun i => Int32.ofInt (zr M n n i)))) hx hb (hts _ (chk_ok ac_in0 (2, .byte) (by simp)) rfl) rfl hK.1 hw (wsO_D E n M) hSS (fun q hq => by show E.2.2.2 ≤ q; omega) (fun cA => by rw [vp_cell_i]; simp only [hz]; rfl) (fun q => by rw [show (0 : Int32) = Int32.ofInt 0 from rfl, i32_lt hx0 r32_0] at q; omega) (i32_cl hx0 h0) (by show x.toNat * 1 ≤ _; omega) (by omega) (by omega) hd (fun q cA H1 hK1 hP1 hD1 hS1 => ?_)
  have hcA : cA = E.2.1 2 := Option.some.inj ((hK1.2 4 _ rfl).2.symm.trans (hK.1.2 2 _ rfl).2)
  subst hcA
  intro T hT X
  have hlen : (wsO E n M).length = n := by simp [wsO]
  have hqs : q < H1.size := (hP1 n (q, _) (by rw [List.getElem?_append_right (by omega), hlen]; simp; rfl)).lt
  have hhs := X.heapSize
  rw [hT] at hhs
  have hq : q = E.2.2.2 + n := q_new hD1 (by omega)
  subst hq
  rw [wsO_succ (M' := zr M n) (fun a ha => zr_row (by omega)) (by rw [hsh]; rfl)] at hP1
  have K := k (by omega) (by omega) hL (wfS_c (show n + 1 ≤ 5000 by omega) (wfS_t hS)) (zr_wf hM) (fun a ha => by rw [zr_row (by omega)]; exact hro a ha) hLl H1 locs ls hl hP1 hS1
  rw [show n + 1 - n0 = n - n0 + 1 by omega, hsl, show slL n + x.toNat - slL n0 = slL n - slL n0 + x.toNat by omega] at K
  have hst : (vr (n + 1) :: S').map (cv E.2.2.1) = .ref (E.2.2.2 + n) :: S'.map (cv E.2.2.1) := by show Value.ref (E.2.2.1 n) :: _ = _; rw [had n (by omega)]
  rw [hst] at K
  exact K T hT X
set_option maxHeartbeats 4000000 in
theorem snd_new_boolean {E : pE} {j n0 r : Nat} {Me : pM} {p : Program} {l : Launch} {e : Env} {R : Room} {s : State} {m : MethodId} {args : Array Value} {below : List Frame} {meth : Method} {c : Code} {Qw : State → Prop} (F : Fx E j n0 r Me p R s m args meth c)
    {pc : Nat} {L : pL} {S : List pv} {n : Nat} {M : pM} {S' : List pv} {x : Int} (hd : decode (mB j) pc = .ok (.newarray .boolean, 2)) (hlt : n + 1 ≤ n0 + mC j) (hsh : SH n = .inr (3, x.toNat)) (h0 : 0 ≤ x) (h1 : x ≤ 1000000) (k : Sm E j n0 Me p l e R s m args below meth c Qw (pc + 2) L (vr (n + 1) :: S') (n + 1) (zr M n)) : Sm E j n0 Me p l e R s m args below meth c Qw pc L (vi x :: S') n M := by
  intro hn1 hn2 hL hS hM hro hLl H locs ls hl hw hSS
  obtain ⟨hx, hb, hml, hown, hts, hK, hRO, hini, hRm, hRf, hsz, had, hr, hNC⟩ := F
  have hx0 : r32 x := wfS_h hS
  have hN : NCELL = 119 := rfl
  have hsl : slL (n + 1) = slL n + x.toNat := by show slL n + szS (SH n) = _; rw [hsh]; rfl
  have hm1 := slL_mono hn1
  have hm2 := slL_mono hlt
  have hz : ∀ i, zr M n n i = 0 := fun i => by simp [zr]
  refine va_newa (atype := .boolean) (ty := .boolean) (N' := x.toNat) (a0 := (x.toNat, .inl (fun i => Int32.ofInt (zr M n n i)))) hx hb (hts _ (chk_ok ac_in0 (3, .boolean) (by simp)) rfl) rfl hK.1 hw (wsO_D E n M) hSS (fun q hq => by show E.2.2.2 ≤ q; omega) (fun cA => by rw [vp_cell_i]; simp only [hz]; rfl) (fun q => by rw [show (0 : Int32) = Int32.ofInt 0 from rfl, i32_lt hx0 r32_0] at q; omega) (i32_cl hx0 h0) (by show x.toNat * 1 ≤ _; omega) (by omega) (by omega) hd (fun q cA H1 hK1 hP1 hD1 hS1 => ?_)
  have hcA : cA = E.2.1 3 := Option.some.inj ((hK1.2 4 _ rfl).2.symm.trans (hK.1.2 3 _ rfl).2)
  subst hcA
  intro T hT X
  have hlen : (wsO E n M).length = n := by simp [wsO]
  have hqs : q < H1.size := (hP1 n (q, _) (by rw [List.getElem?_append_right (by omega), hlen]; simp; rfl)).lt
  have hhs := X.heapSize
  rw [hT] at hhs
  have hq : q = E.2.2.2 + n := q_new hD1 (by omega)
  subst hq
  rw [wsO_succ (M' := zr M n) (fun a ha => zr_row (by omega)) (by rw [hsh]; rfl)] at hP1
  have K := k (by omega) (by omega) hL (wfS_c (show n + 1 ≤ 5000 by omega) (wfS_t hS)) (zr_wf hM) (fun a ha => by rw [zr_row (by omega)]; exact hro a ha) hLl H1 locs ls hl hP1 hS1
  rw [show n + 1 - n0 = n - n0 + 1 by omega, hsl, show slL n + x.toNat - slL n0 = slL n - slL n0 + x.toNat by omega] at K
  have hst : (vr (n + 1) :: S').map (cv E.2.2.1) = .ref (E.2.2.2 + n) :: S'.map (cv E.2.2.1) := by show Value.ref (E.2.2.1 n) :: _ = _; rw [had n (by omega)]
  rw [hst] at K
  exact K T hT X
set_option maxHeartbeats 4000000 in
theorem snd_new {E : pE} {j n0 r : Nat} {Me : pM} {p : Program} {l : Launch} {e : Env} {R : Room} {s : State} {m : MethodId} {args : Array Value} {below : List Frame} {meth : Method} {c : Code} {Qw : State → Prop} (F : Fx E j n0 r Me p R s m args meth c)
    {pc : Nat} {L : pL} {S : List pv} {n : Nat} {M : pM} {ix : Nat} {q : Nat × Nat × Nat × Nat × Nat × Nat × Nat} (hq : q ∈ newL) (e1 : q.1 = mO j) (e2 : q.2.1 = ix) (hd : decode (mB j) pc = .ok (.new ix, 3)) (hlt : n + 1 ≤ n0 + mC j) (hsh : SH n = .inl q.2.2.1) (k : Sm E j n0 Me p l e R s m args below meth c Qw (pc + 3) L (vr (n + 1) :: S) (n + 1) (zr M n)) : Sm E j n0 Me p l e R s m args below meth c Qw pc L S n M := by
  intro hn1 hn2 hL hS hM hro hLl H locs ls hl hw hSS
  obtain ⟨hx, hb, hml, hown, hts, hK, hRO, hini, hRm, hRf, hsz, had, hr, hNC⟩ := F
  have hN : NCELL = 119 := rfl
  have hc := new_rg q hq
  have hsl : slL (n + 1) = slL n + cN q.2.2.1 := by show slL n + szS (SH n) = _; rw [hsh]; rfl
  have hm1 := slL_mono hn1
  have hm2 := slL_mono hlt
  have hz : ∀ i, zr M n n i = 0 := fun i => by simp [zr]
  subst e2
  refine va_new (ci := q.2.2.1) (fs := fsO E q.2.2.1 (zr M n n)) hx hb (lays_ok hts hc) (fun w h => h) (tyA q.2.2.1) (ty_ok _ hc) hown (by rw [← e1]; exact hts _ (chk_ok new_in1 q hq) rfl) (hts _ (chk_ok new_in2 q hq) rfl) (hts _ (chk_ok new_in3 q hq) rfl) hK.1 hw (wsO_D E n M) hSS (fun q hq => by show E.2.2.2 ≤ q; omega) (cl_ok _ hc) (fun i hi => ?_) (by omega) (by omega) hd (fun a H1 hP1 hD1 hS1 => ?_)
  · have h1 := ty_kind _ hc i hi
    show _ = (fsO E q.2.2.1 (zr M n n)).getD i .null
    rw [List.getD_eq_getElem?_getD, fsO_get hi, hz]
    cases hty : tyA q.2.2.1 i <;> rw [hty] at h1 <;> first | rfl | cases h1
  intro T hT X
  have hlen : (wsO E n M).length = n := by simp [wsO]
  have hqs : a < H1.size := (hP1 n (a, _) (by rw [List.getElem?_append_right (by omega), hlen]; simp; rfl)).lt
  have hhs := X.heapSize
  rw [hT] at hhs
  have hq : a = E.2.2.2 + n := q_new hD1 (by omega)
  subst hq
  rw [wsO_succ (M' := zr M n) (fun a ha => zr_row (by omega)) (by rw [hsh]; rfl)] at hP1
  have K := k (by omega) (by omega) hL (wfS_c (show n + 1 ≤ 5000 by omega) hS) (zr_wf hM) (fun a ha => by rw [zr_row (by omega)]; exact hro a ha) hLl H1 locs ls hl hP1 hS1
  rw [show n + 1 - n0 = n - n0 + 1 by omega, hsl, show slL n + cN q.2.2.1 - slL n0 = slL n - slL n0 + cN q.2.2.1 by omega] at K
  have hst : (vr (n + 1) :: S).map (cv E.2.2.1) = .ref (E.2.2.2 + n) :: S.map (cv E.2.2.1) := by show Value.ref (E.2.2.1 n) :: _ = _; rw [had n (by omega)]
  rw [hst] at K
  exact K T hT X
set_option maxHeartbeats 4000000 in
theorem snd_obj {E : pE} {j n0 r : Nat} {Me : pM} {p : Program} {l : Launch} {e : Env} {R : Room} {s : State} {m : MethodId} {args : Array Value} {below : List Frame} {meth : Method} {c : Code} {Qw : State → Prop} (F : Fx E j n0 r Me p R s m args meth c)
    {pc : Nat} {L : pL} {S : List pv} {n : Nat} {M : pM} {S' : List pv} {ix b : Nat} {q : Nat × Nat × Nat} (hq : q ∈ obiL) (e1 : q.1 = mO j) (e2 : q.2.1 = ix) (hd : decode (mB j) pc = .ok (.invokespecial ix, 3)) (hk : stk S' ≤ 8) (k : Sm E j n0 Me p l e R s m args below meth c Qw (pc + 3) L S' n M) : Sm E j n0 Me p l e R s m args below meth c Qw pc L (vr (b + 1) :: S') n M := by
  intro hn1 hn2 hL hS hM hro hLl H locs ls hl hw hSS
  obtain ⟨hx, hb, hml, hown, hts, hK, hRO, hini, hRm, hRf, hsz, had, hr, hNC⟩ := F
  have K := k hn1 hn2 hL (wfS_t hS) hM hro hLl H locs ls hl hw hSS
  subst e2
  have hroom := lv_room (m := m) (pc := pc) (ls := ls) (rest := (vr (b + 1) :: S').map (cv E.2.2.1)) (st := S'.map (cv E.2.2.1)) (by rw [stk_cv]; exact hk)
  exact W.objInit hx hb hown (by rw [← e1]; exact hts _ (chk_ok obi_in0 q hq) rfl) (hts _ obj_in.1 rfl) (hts _ obj_in.2 rfl) rfl (by rw [hml]; exact hl.1.trans hLl) (a := E.2.2.1 b) (rest := S'.map (cv E.2.2.1)) rfl hd (by omega) (by omega) K
theorem mth_max : ∀ i, i < 325 → mth i = 1 → i = 298 := by decide +kernel
theorem mth_max_y : mY 298 = Lib.Math.max.name ∧ mB 298 = Lib.Math.max.code ∧ mX 298 = 2 ∧ mR 298 = some .int := ⟨by decide +kernel, by decide +kernel, by decide +kernel, by decide +kernel⟩
set_option maxHeartbeats 4000000 in
theorem snd_max {E : pE} {j n0 r : Nat} {Me : pM} {p : Program} {l : Launch} {e : Env} {R : Room} {s : State} {m : MethodId} {args : Array Value} {below : List Frame} {meth : Method} {c : Code} {Qw : State → Prop} (F : Fx E j n0 r Me p R s m args meth c)
    {pc : Nat} {L : pL} {S : List pv} {n : Nat} {M : pM} {S' : List pv} {ix : Nat} {a b : Int} {q : Nat × Nat × Nat × Nat × Nat × Nat} (hq : q ∈ calL) (e1 : q.1 = mO j) (e2 : q.2.1 = ix) (hmt : mth q.2.2.2.1 = 1) (hne : ¬ q.2.2.2.2.2 = 1) (hd : decode (mB j) pc = .ok (.invokestatic ix, 3)) (hk : stk S' ≤ 8) (k : Sm E j n0 Me p l e R s m args below meth c Qw (pc + 3) L (vi (if a < b then b else a) :: S') n M) : Sm E j n0 Me p l e R s m args below meth c Qw pc L (vi b :: vi a :: S') n M := by
  intro hn1 hn2 hL hS hM hro hLl H locs ls hl hw hSS
  obtain ⟨hx, hb, hml, hown, hts, hK, hRO, hini, hRm, hRf, hsz, had, hr, hNC⟩ := F
  obtain ⟨hi, -⟩ := cal_rg q hq
  have hm1 := slL_mono hn1
  have hm2 := slL_mono hn2
  have hid := mth_max _ hi hmt
  have hwq : Cond.methodLink (RN q.1) q.2.1 (mY q.2.2.2.1) ∈ lw_tbl := by have h := chk_ok cal_in0 q hq; unfold calW at h; rw [if_neg hne] at h; exact h
  have hst := chk_ok mst_in0 q.2.2.2.1 (List.mem_range.mpr hi)
  have hin := chk_ok min_in0 q.2.2.2.1 (List.mem_range.mpr hi)
  have hco := mco_in q.2.2.2.1 hi
  rw [hid] at hwq hst hin hco
  obtain ⟨y1, y2, y3, y4⟩ := mth_max_y
  simp only [y1, y2, y3, y4] at hwq hst hin hco
  have hst : Cond.static Lib.Math.max.name ∈ lw_tbl := by simpa [show isSt 298 = true by decide +kernel] using hst
  subst e2
  have hbw : r32 b := wfS_h hS
  have ha : r32 a := wfS_h (wfS_t hS)
  have hS' := wfS_t (wfS_t hS)
  have hc1 := i32_lt ha hbw
  have K := k hn1 hn2 hL (wfS_c (show r32 _ by split <;> assumption) hS') hM hro hLl H locs ls hl hw hSS
  refine va_mmax hx hb (by rw [hml]; exact (hl.1.trans hLl).symm) hown (by rw [← e1]; exact hts _ hwq rfl) (hts _ hst rfl) (hts _ hin rfl) (hts _ hco rfl) (by omega) (by rw [stk_cv]; omega) (by omega) (by omega) hd ?_
  have e : (if Int32.ofInt a < Int32.ofInt b then Int32.ofInt b else Int32.ofInt a) = Int32.ofInt (if a < b then b else a) := by
    by_cases h : a < b
    · rw [if_pos (hc1.mpr h), if_pos h]
    · rw [if_neg (fun q => h (hc1.mp q)), if_neg h]
  rw [e]
  exact K
theorem mth_min : ∀ i, i < 325 → mth i = 2 → i = 299 := by decide +kernel
theorem mth_min_y : mY 299 = Lib.Math.min.name ∧ mB 299 = Lib.Math.min.code ∧ mX 299 = 2 ∧ mR 299 = some .int := ⟨by decide +kernel, by decide +kernel, by decide +kernel, by decide +kernel⟩
set_option maxHeartbeats 4000000 in
theorem snd_min {E : pE} {j n0 r : Nat} {Me : pM} {p : Program} {l : Launch} {e : Env} {R : Room} {s : State} {m : MethodId} {args : Array Value} {below : List Frame} {meth : Method} {c : Code} {Qw : State → Prop} (F : Fx E j n0 r Me p R s m args meth c)
    {pc : Nat} {L : pL} {S : List pv} {n : Nat} {M : pM} {S' : List pv} {ix : Nat} {a b : Int} {q : Nat × Nat × Nat × Nat × Nat × Nat} (hq : q ∈ calL) (e1 : q.1 = mO j) (e2 : q.2.1 = ix) (hmt : mth q.2.2.2.1 = 2) (hne : ¬ q.2.2.2.2.2 = 1) (hd : decode (mB j) pc = .ok (.invokestatic ix, 3)) (hk : stk S' ≤ 8) (k : Sm E j n0 Me p l e R s m args below meth c Qw (pc + 3) L (vi (if b < a then b else a) :: S') n M) : Sm E j n0 Me p l e R s m args below meth c Qw pc L (vi b :: vi a :: S') n M := by
  intro hn1 hn2 hL hS hM hro hLl H locs ls hl hw hSS
  obtain ⟨hx, hb, hml, hown, hts, hK, hRO, hini, hRm, hRf, hsz, had, hr, hNC⟩ := F
  obtain ⟨hi, -⟩ := cal_rg q hq
  have hm1 := slL_mono hn1
  have hm2 := slL_mono hn2
  have hid := mth_min _ hi hmt
  have hwq : Cond.methodLink (RN q.1) q.2.1 (mY q.2.2.2.1) ∈ lw_tbl := by have h := chk_ok cal_in0 q hq; unfold calW at h; rw [if_neg hne] at h; exact h
  have hst := chk_ok mst_in0 q.2.2.2.1 (List.mem_range.mpr hi)
  have hin := chk_ok min_in0 q.2.2.2.1 (List.mem_range.mpr hi)
  have hco := mco_in q.2.2.2.1 hi
  rw [hid] at hwq hst hin hco
  obtain ⟨y1, y2, y3, y4⟩ := mth_min_y
  simp only [y1, y2, y3, y4] at hwq hst hin hco
  have hst : Cond.static Lib.Math.min.name ∈ lw_tbl := by simpa [show isSt 299 = true by decide +kernel] using hst
  subst e2
  have hbw : r32 b := wfS_h hS
  have ha : r32 a := wfS_h (wfS_t hS)
  have hS' := wfS_t (wfS_t hS)
  have hc1 := i32_lt hbw ha
  have K := k hn1 hn2 hL (wfS_c (show r32 _ by split <;> assumption) hS') hM hro hLl H locs ls hl hw hSS
  refine va_mmin hx hb (by rw [hml]; exact (hl.1.trans hLl).symm) hown (by rw [← e1]; exact hts _ hwq rfl) (hts _ hst rfl) (hts _ hin rfl) (hts _ hco rfl) (by omega) (by rw [stk_cv]; omega) (by omega) (by omega) hd ?_
  have e : (if Int32.ofInt b < Int32.ofInt a then Int32.ofInt b else Int32.ofInt a) = Int32.ofInt (if b < a then b else a) := by
    by_cases h : b < a
    · rw [if_pos (hc1.mpr h), if_pos h]
    · rw [if_neg (fun q => h (hc1.mp q)), if_neg h]
  rw [e]
  exact K
theorem mth_abs : ∀ i, i < 325 → mth i = 3 → i = 297 := by decide +kernel
theorem mth_abs_y : mY 297 = Lib.Math.abs.name ∧ mB 297 = Lib.Math.abs.code ∧ mX 297 = 1 ∧ mR 297 = some .int := ⟨by decide +kernel, by decide +kernel, by decide +kernel, by decide +kernel⟩
set_option maxHeartbeats 4000000 in
theorem snd_abs {E : pE} {j n0 r : Nat} {Me : pM} {p : Program} {l : Launch} {e : Env} {R : Room} {s : State} {m : MethodId} {args : Array Value} {below : List Frame} {meth : Method} {c : Code} {Qw : State → Prop} (F : Fx E j n0 r Me p R s m args meth c)
    {pc : Nat} {L : pL} {S : List pv} {n : Nat} {M : pM} {S' : List pv} {ix : Nat} {a : Int} {q : Nat × Nat × Nat × Nat × Nat × Nat} (hq : q ∈ calL) (e1 : q.1 = mO j) (e2 : q.2.1 = ix) (hmt : mth q.2.2.2.1 = 3) (hne : ¬ q.2.2.2.2.2 = 1) (hd : decode (mB j) pc = .ok (.invokestatic ix, 3)) (hk : stk S' ≤ 8) (k : Sm E j n0 Me p l e R s m args below meth c Qw (pc + 3) L (vi (if 0 ≤ a then a else w32 (0 - a)) :: S') n M) : Sm E j n0 Me p l e R s m args below meth c Qw pc L (vi a :: S') n M := by
  intro hn1 hn2 hL hS hM hro hLl H locs ls hl hw hSS
  obtain ⟨hx, hb, hml, hown, hts, hK, hRO, hini, hRm, hRf, hsz, had, hr, hNC⟩ := F
  obtain ⟨hi, -⟩ := cal_rg q hq
  have hm1 := slL_mono hn1
  have hm2 := slL_mono hn2
  have hid := mth_abs _ hi hmt
  have hwq : Cond.methodLink (RN q.1) q.2.1 (mY q.2.2.2.1) ∈ lw_tbl := by have h := chk_ok cal_in0 q hq; unfold calW at h; rw [if_neg hne] at h; exact h
  have hst := chk_ok mst_in0 q.2.2.2.1 (List.mem_range.mpr hi)
  have hin := chk_ok min_in0 q.2.2.2.1 (List.mem_range.mpr hi)
  have hco := mco_in q.2.2.2.1 hi
  rw [hid] at hwq hst hin hco
  obtain ⟨y1, y2, y3, y4⟩ := mth_abs_y
  simp only [y1, y2, y3, y4] at hwq hst hin hco
  have hst : Cond.static Lib.Math.abs.name ∈ lw_tbl := by simpa [show isSt 297 = true by decide +kernel] using hst
  subst e2
  have ha : r32 a := wfS_h hS
  have hS' := wfS_t hS
  have hc1 : (0 : Int32) ≤ Int32.ofInt a ↔ 0 ≤ a := i32_le r32_0 ha
  have K := k hn1 hn2 hL (wfS_c (show r32 _ by split; exact ha; exact w32_r _) hS') hM hro hLl H locs ls hl hw hSS
  refine va_mabs hx hb (by rw [hml]; exact (hl.1.trans hLl).symm) hown (by rw [← e1]; exact hts _ hwq rfl) (hts _ hst rfl) (hts _ hin rfl) (hts _ hco rfl) (by omega) (by rw [stk_cv]; omega) (by omega) (by omega) hd ?_
  have e : (if (0 : Int32) ≤ Int32.ofInt a then Int32.ofInt a else 0 - Int32.ofInt a) = Int32.ofInt (if 0 ≤ a then a else w32 (0 - a)) := by
    by_cases h : 0 ≤ a
    · rw [if_pos (hc1.mpr h), if_pos h]
    · rw [if_neg (fun q => h (hc1.mp q)), if_neg h, i32_sub]; rfl
  rw [e]
  exact K
