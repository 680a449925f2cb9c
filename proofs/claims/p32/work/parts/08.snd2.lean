def aso (ad : Nat → Nat) (L : pL) : List (Nat × Value) := (List.range L.length).filterMap (fun k => match L[k]? with
  | some (some v) => some (k, cv ad v)
  | _ => none)
theorem aso_in {ad : Nat → Nat} {L : pL} {k : Nat} {v : pv} (h : L[k]? = some (some v)) : (k, cv ad v) ∈ aso ad L := by
  refine List.mem_filterMap.mpr ⟨k, List.mem_range.mpr (List.getElem?_eq_some_iff.mp h).1, ?_⟩
  rw [h]
theorem aso_has {ad : Nat → Nat} {ls : Array Slot} {L : pL} (h : lr ad ls L) : lv_has ls L.length (aso ad L) := by
  refine ⟨h.1, h.2.1, fun q hq => ?_⟩
  obtain ⟨k, hk, he⟩ := List.mem_filterMap.mp hq
  split at he
  · rename_i v hv
    cases he
    exact h.2.2 k v hv
  · cases he
theorem kil_len (L : pL) (k : Nat) : (kil L k).length = L.length := by cases k <;> simp [kil]
theorem kil_at {L : pL} {i k : Nat} {u : pv} (h : (kil L i)[k]? = some (some u)) : L[k]? = some (some u) ∧ (k + 1 = i → catv u = 1) := by
  cases i with
  | zero => exact ⟨h, fun q => by omega⟩
  | succ m =>
    have h : (L.set m (clr (L.getD m none)))[k]? = some (some u) := h
    by_cases hk : k = m
    · subst hk
      by_cases hl : k < L.length
      · rw [List.getElem?_set_self hl] at h
        have h := Option.some.inj h
        rw [List.getD_eq_getElem?_getD] at h
        rw [List.getElem?_eq_getElem hl] at h ⊢
        simp only [Option.getD_some] at h
        generalize L[k] = o at h ⊢
        rcases o with _ | x | x | x <;> simp [clr] at h
        · subst h; exact ⟨rfl, fun _ => rfl⟩
        · subst h; exact ⟨rfl, fun _ => rfl⟩
      · rw [List.getElem?_eq_none (by simp; omega)] at h
        cases h
    · rw [List.getElem?_set_ne (Ne.symm hk)] at h
      exact ⟨h, fun q => by omega⟩
theorem lr_st1 {ad : Nat → Nat} {ls : Array Slot} {L : pL} {i : Nat} {v : pv} (h : lv_has ls L.length ((i, cv ad v) :: (aso ad L).filter (fun q => !(q.1 == i) && !(q.1 + 1 == i && q.2.category == 2)))) (hi : i < L.length) : lr ad ls ((kil L i).set i (some v)) := by
  refine ⟨by rw [List.length_set, kil_len]; exact h.1, h.2.1, fun k u hk => ?_⟩
  by_cases he : k = i
  · subst he
    rw [List.getElem?_set_self (by rw [kil_len]; exact hi)] at hk
    cases hk
    exact h.2.2 (k, cv ad v) List.mem_cons_self
  · rw [List.getElem?_set_ne (Ne.symm he)] at hk
    obtain ⟨h1, h2⟩ := kil_at hk
    refine h.2.2 (k, cv ad u) (List.mem_cons_of_mem _ (List.mem_filter.mpr ⟨aso_in h1, ?_⟩))
    rw [cat_cv]
    by_cases hz : k + 1 = i
    · simp [he, h2 hz]
    · simp [he, hz]
theorem lr_st2 {ad : Nat → Nat} {ls : Array Slot} {L : pL} {i : Nat} {v : pv} (h : lv_has ls L.length ((i, cv ad v) :: (aso ad L).filter (fun q => !(q.1 == i) && (!(q.1 == i + 1) && !(q.1 + 1 == i && q.2.category == 2))))) (hi : i + 1 < L.length) : lr ad ls (((kil L i).set i (some v)).set (i + 1) none) := by
  refine ⟨by rw [List.length_set, List.length_set, kil_len]; exact h.1, h.2.1, fun k u hk => ?_⟩
  by_cases hf : k = i + 1
  · subst hf
    rw [List.getElem?_set_self (by rw [List.length_set, kil_len]; exact hi)] at hk
    cases hk
  · rw [List.getElem?_set_ne (Ne.symm hf)] at hk
    by_cases he : k = i
    · subst he
      rw [List.getElem?_set_self (by rw [kil_len]; omega)] at hk
      cases hk
      exact h.2.2 (k, cv ad v) List.mem_cons_self
    · rw [List.getElem?_set_ne (Ne.symm he)] at hk
      obtain ⟨h1, h2⟩ := kil_at hk
      refine h.2.2 (k, cv ad u) (List.mem_cons_of_mem _ (List.mem_filter.mpr ⟨aso_in h1, ?_⟩))
      rw [cat_cv]
      by_cases hz : k + 1 = i
      · simp [he, hf, h2 hz]
      · simp [he, hf, hz]
theorem wfL_s {L : pL} {i : Nat} {o : Option pv} (h : wfL L) (hv : ∀ v, o = some v → wfv v) : wfL (L.set i o) := by
  intro u hu
  rcases List.mem_or_eq_of_mem_set hu with h1 | h1
  · exact h u h1
  · exact hv u h1.symm
theorem wfL_k {L : pL} {i : Nat} (h : wfL L) : wfL (kil L i) := by
  intro u hu
  obtain ⟨k, hk⟩ := List.getElem?_of_mem hu
  exact h u (List.mem_of_getElem? (kil_at hk).1)
set_option maxHeartbeats 4000000 in
theorem snd_sto {E : pE} {j n0 r : Nat} {Me : pM} {p : Program} {l : Launch} {e : Env} {R : Room} {s : State} {m : MethodId} {args : Array Value} {below : List Frame} {meth : Method} {c : Code} {Qw : State → Prop} (F : Fx E j n0 r Me p R s m args meth c)
    {pc : Nat} {L : pL} {S : List pv} {n : Nat} {M : pM} {L' : pL} {S' : List pv} {i : Instr} {len : Nat} (hd : decode (mB j) pc = .ok (i, len)) (hp : sto i len L L' S S') (hP : Sm E j n0 Me p l e R s m args below meth c Qw (pc + len) L' S' n M) : Sm E j n0 Me p l e R s m args below meth c Qw pc L S n M := by
  intro hn1 hn2 hL hS hM hro hLl H locs ls hl hw hSS
  obtain ⟨hx, hb, hml, hown, hts, hK, hRO, hini, hRm, hRf, hsz, had, hr, hNC⟩ := F
  have K : ∀ ls', wfL L' → wfS S' → L'.length = mX j → lr E.2.2.1 ls' L' → W p l e R s m args below meth c H locs (n - n0) (slL n - slL n0) Qw (F0 m (pc + len) ls' (S'.map (cv E.2.2.1))) := fun ls' hL' hS' hl0 hl' => hP hn1 hn2 hL' hS' hM hro hl0 H locs ls' hl' hw hSS
  have hA := aso_has hl
  cases i
  case istore k =>
    obtain ⟨rfl, x, rfl, hk, rfl⟩ := hp
    refine lv_istore hx hb hd hA hk rfl (fun ls' hl' => K ls' (wfL_s (wfL_k hL) (fun v q => by cases q; exact wfS_h hS)) (wfS_t hS) (by rw [List.length_set, kil_len]; exact hLl) (lr_st1 hl' hk))
  case istore_n k =>
    obtain ⟨rfl, x, rfl, hk, rfl⟩ := hp
    refine lv_istore_n hx hb hd rfl hA hk rfl (fun ls' hl' => K ls' (wfL_s (wfL_k hL) (fun v q => by cases q; exact wfS_h hS)) (wfS_t hS) (by rw [List.length_set, kil_len]; exact hLl) (lr_st1 hl' hk))
  case astore k =>
    obtain ⟨rfl, x, rfl, hk, rfl⟩ := hp
    cases x with
    | zero => exact lv_astoreN hx hb hd hA hk rfl (fun ls' hl' => K ls' (wfL_s (wfL_k hL) (fun v q => by cases q; exact wfS_h hS)) (wfS_t hS) (by rw [List.length_set, kil_len]; exact hLl) (lr_st1 (v := vr 0) hl' hk))
    | succ x => exact lv_astore hx hb hd hA hk rfl (fun ls' hl' => K ls' (wfL_s (wfL_k hL) (fun v q => by cases q; exact wfS_h hS)) (wfS_t hS) (by rw [List.length_set, kil_len]; exact hLl) (lr_st1 (v := vr (x + 1)) hl' hk))
  case astore_n k =>
    obtain ⟨rfl, x, rfl, hk, rfl⟩ := hp
    cases x with
    | zero => exact lv_astore_nN hx hb hd rfl hA hk rfl (fun ls' hl' => K ls' (wfL_s (wfL_k hL) (fun v q => by cases q; exact wfS_h hS)) (wfS_t hS) (by rw [List.length_set, kil_len]; exact hLl) (lr_st1 (v := vr 0) hl' hk))
    | succ x => exact lv_astore_n hx hb hd rfl hA hk rfl (fun ls' hl' => K ls' (wfL_s (wfL_k hL) (fun v q => by cases q; exact wfS_h hS)) (wfS_t hS) (by rw [List.length_set, kil_len]; exact hLl) (lr_st1 (v := vr (x + 1)) hl' hk))
  case lstore k =>
    obtain ⟨rfl, x, rfl, hk, rfl⟩ := hp
    refine lv_lstore hx hb hd hA hk rfl (fun ls' hl' => K ls' (wfL_s (wfL_s (wfL_k hL) (fun v q => by cases q; exact wfS_h hS)) (fun v q => by cases q)) (wfS_t hS) (by rw [List.length_set, List.length_set, kil_len]; exact hLl) (lr_st2 hl' hk))
  case lstore_n k =>
    obtain ⟨rfl, x, rfl, hk, rfl⟩ := hp
    refine lv_lstore_n hx hb hd rfl hA hk rfl (fun ls' hl' => K ls' (wfL_s (wfL_s (wfL_k hL) (fun v q => by cases q; exact wfS_h hS)) (fun v q => by cases q)) (wfS_t hS) (by rw [List.length_set, List.length_set, kil_len]; exact hLl) (lr_st2 hl' hk))
  case iinc k cc =>
    obtain ⟨rfl, hc, x, hk, rfl, rfl⟩ := hp
    obtain ⟨q, hq⟩ := List.getElem?_of_mem (aso_in (ad := E.2.2.1) hk)
    have hkl : k < L.length := (List.getElem?_eq_some_iff.mp hk).1
    refine lv_iinc (v := Int32.ofInt (w32 (x + cc))) hx hb hd hA hq (i32_add x cc).symm hkl rfl (fun ls' hl' => K ls' (wfL_s (wfL_k hL) (fun v q => by cases q; exact w32_r _)) hS (by rw [List.length_set, kil_len]; exact hLl) (lr_st1 (v := vi (w32 (x + cc))) hl' hkl))
  all_goals exact hp.elim
set_option maxHeartbeats 4000000 in
theorem snd_if {E : pE} {j n0 r : Nat} {Me : pM} {p : Program} {l : Launch} {e : Env} {R : Room} {s : State} {m : MethodId} {args : Array Value} {below : List Frame} {meth : Method} {c : Code} {Qw : State → Prop} (F : Fx E j n0 r Me p R s m args meth c)
    {pc : Nat} {L : pL} {S : List pv} {n : Nat} {M : pM} {S' : List pv} {cc : jC} {off x : Int} {tgt : Nat} (hd : decode (mB j) pc = .ok (.ifCond cc off, 3)) (ht : (pc : Int) + off = (tgt : Nat)) (kt : cnd cc x 0 → Sm E j n0 Me p l e R s m args below meth c Qw tgt L S' n M) (kf : ¬ cnd cc x 0 → Sm E j n0 Me p l e R s m args below meth c Qw (pc + 3) L S' n M) : Sm E j n0 Me p l e R s m args below meth c Qw pc L (vi x :: S') n M := by
  intro hn1 hn2 hL hS hM hro hLl H locs ls hl hw hSS
  obtain ⟨hx, hb, hml, hown, hts, hK, hRO, hini, hRm, hRf, hsz, had, hr, hNC⟩ := F
  have hx0 : r32 x := wfS_h hS
  have Kt : cnd cc x 0 → W p l e R s m args below meth c H locs (n - n0) (slL n - slL n0) Qw (F0 m tgt ls (S'.map (cv E.2.2.1))) := fun h => kt h hn1 hn2 hL (wfS_t hS) hM hro hLl H locs ls hl hw hSS
  have Kf : ¬ cnd cc x 0 → W p l e R s m args below meth c H locs (n - n0) (slL n - slL n0) Qw (F0 m (pc + 3) ls (S'.map (cv E.2.2.1))) := fun h => kf h hn1 hn2 hL (wfS_t hS) hM hro hLl H locs ls hl hw hSS
  have e1 := i32_eq hx0 r32_0
  have e2 := i32_lt hx0 r32_0
  have e3 := i32_le r32_0 hx0
  have e4 := i32_lt r32_0 hx0
  have e5 := i32_le hx0 r32_0
  cases cc
  case eq => exact lv_if_eq hx hb hd ht (fun h => Kt (e1.mp h)) (fun h => Kf (fun q => h (e1.mpr q)))
  case ne => exact lv_if_ne hx hb hd ht (fun h => Kt ((not_congr e1).mp h)) (fun h => Kf (fun q => q (e1.mp h)))
  case lt => exact lv_if_lt hx hb hd ht (fun h => Kt (e2.mp h)) (fun h => Kf (fun q => h (e2.mpr q)))
  case ge => exact lv_if_ge hx hb hd ht (fun h => Kt (e3.mp h)) (fun h => Kf (fun q => h (e3.mpr q)))
  case gt => exact lv_if_gt hx hb hd ht (fun h => Kt (e4.mp h)) (fun h => Kf (fun q => h (e4.mpr q)))
  case le => exact lv_if_le hx hb hd ht (fun h => Kt (e5.mp h)) (fun h => Kf (fun q => h (e5.mpr q)))
set_option maxHeartbeats 4000000 in
theorem snd_icmp {E : pE} {j n0 r : Nat} {Me : pM} {p : Program} {l : Launch} {e : Env} {R : Room} {s : State} {m : MethodId} {args : Array Value} {below : List Frame} {meth : Method} {c : Code} {Qw : State → Prop} (F : Fx E j n0 r Me p R s m args meth c)
    {pc : Nat} {L : pL} {S : List pv} {n : Nat} {M : pM} {S' : List pv} {cc : jC} {off x y : Int} {tgt : Nat} (hd : decode (mB j) pc = .ok (.if_icmp cc off, 3)) (ht : (pc : Int) + off = (tgt : Nat)) (kt : cnd cc x y → Sm E j n0 Me p l e R s m args below meth c Qw tgt L S' n M) (kf : ¬ cnd cc x y → Sm E j n0 Me p l e R s m args below meth c Qw (pc + 3) L S' n M) : Sm E j n0 Me p l e R s m args below meth c Qw pc L (vi y :: vi x :: S') n M := by
  intro hn1 hn2 hL hS hM hro hLl H locs ls hl hw hSS
  obtain ⟨hx, hb, hml, hown, hts, hK, hRO, hini, hRm, hRf, hsz, had, hr, hNC⟩ := F
  have hy0 : r32 y := wfS_h hS
  have hx0 : r32 x := wfS_h (wfS_t hS)
  have hS' := wfS_t (wfS_t hS)
  have Kt : cnd cc x y → W p l e R s m args below meth c H locs (n - n0) (slL n - slL n0) Qw (F0 m tgt ls (S'.map (cv E.2.2.1))) := fun h => kt h hn1 hn2 hL hS' hM hro hLl H locs ls hl hw hSS
  have Kf : ¬ cnd cc x y → W p l e R s m args below meth c H locs (n - n0) (slL n - slL n0) Qw (F0 m (pc + 3) ls (S'.map (cv E.2.2.1))) := fun h => kf h hn1 hn2 hL hS' hM hro hLl H locs ls hl hw hSS
  have e1 := i32_eq hx0 hy0
  have e2 := i32_lt hx0 hy0
  have e3 := i32_le hy0 hx0
  have e4 := i32_lt hy0 hx0
  have e5 := i32_le hx0 hy0
  cases cc
  case eq => exact lv_icmp_eq hx hb hd ht (fun h => Kt (e1.mp h)) (fun h => Kf (fun q => h (e1.mpr q)))
  case ne => exact lv_icmp_ne hx hb hd ht (fun h => Kt ((not_congr e1).mp h)) (fun h => Kf (fun q => q (e1.mp h)))
  case lt => exact lv_icmp_lt hx hb hd ht (fun h => Kt (e2.mp h)) (fun h => Kf (fun q => h (e2.mpr q)))
  case ge => exact lv_icmp_ge hx hb hd ht (fun h => Kt (e3.mp h)) (fun h => Kf (fun q => h (e3.mpr q)))
  case gt => exact lv_icmp_gt hx hb hd ht (fun h => Kt (e4.mp h)) (fun h => Kf (fun q => h (e4.mpr q)))
  case le => exact lv_icmp_le hx hb hd ht (fun h => Kt (e5.mp h)) (fun h => Kf (fun q => h (e5.mpr q)))
theorem snd_goto {E : pE} {j n0 r : Nat} {Me : pM} {p : Program} {l : Launch} {e : Env} {R : Room} {s : State} {m : MethodId} {args : Array Value} {below : List Frame} {meth : Method} {c : Code} {Qw : State → Prop} (F : Fx E j n0 r Me p R s m args meth c)
    {pc : Nat} {L : pL} {S : List pv} {n : Nat} {M : pM} {off : Int} {tgt : Nat} (hd : decode (mB j) pc = .ok (.goto off, 3)) (ht : (pc : Int) + off = (tgt : Nat)) (k : Sm E j n0 Me p l e R s m args below meth c Qw tgt L S n M) : Sm E j n0 Me p l e R s m args below meth c Qw pc L S n M := by
  intro hn1 hn2 hL hS hM hro hLl H locs ls hl hw hSS
  obtain ⟨hx, hb, hml, hown, hts, hK, hRO, hini, hRm, hRf, hsz, had, hr, hNC⟩ := F
  exact lv_goto hx hb hd ht (k hn1 hn2 hL hS hM hro hLl H locs ls hl hw hSS)
theorem snd_tab {E : pE} {j n0 r : Nat} {Me : pM} {p : Program} {l : Launch} {e : Env} {R : Room} {s : State} {m : MethodId} {args : Array Value} {below : List Frame} {meth : Method} {c : Code} {Qw : State → Prop} (F : Fx E j n0 r Me p R s m args meth c)
    {pc : Nat} {L : pL} {S : List pv} {n : Nat} {M : pM} {S' : List pv} {len : Nat} {d lo hi x : Int} {offs : Array Int} (hd : decode (mB j) pc = .ok (.tableswitch d lo hi offs, len)) (k0 : ∀ tgt : Nat, (x < lo ∨ hi < x) → (pc : Int) + d = tgt → Sm E j n0 Me p l e R s m args below meth c Qw tgt L S' n M) (k1 : ∃ t : Nat, (pc : Int) + d = t)
    (k2 : ∀ k : Nat, x = lo + k → x ≤ hi → ∃ off, offs[k]? = some off ∧ ∃ tgt : Nat, (pc : Int) + off = tgt ∧ Sm E j n0 Me p l e R s m args below meth c Qw tgt L S' n M) : Sm E j n0 Me p l e R s m args below meth c Qw pc L (vi x :: S') n M := by
  intro hn1 hn2 hL hS hM hro hLl H locs ls hl hw hSS
  obtain ⟨hx, hb, hml, hown, hts, hK, hRO, hini, hRm, hRf, hsz, had, hr, hNC⟩ := F
  have hx0 : r32 x := wfS_h hS
  have hS' := wfS_t hS
  have e := i32_t hx0
  by_cases h : x < lo ∨ hi < x
  · obtain ⟨t, ht⟩ := k1
    exact lv_tableOut hx hb hd (by rw [e]; exact h) ht (k0 t h ht hn1 hn2 hL hS' hM hro hLl H locs ls hl hw hSS)
  · obtain ⟨off, h1, t, ht, hk⟩ := k2 (x - lo).toNat (by omega) (by omega)
    exact lv_tableIn (off := off) hx hb hd (by rw [e]; omega) (by rw [e]; omega) (by rw [e]; exact h1) ht (hk hn1 hn2 hL hS' hM hro hLl H locs ls hl hw hSS)
theorem snd_look {E : pE} {j n0 r : Nat} {Me : pM} {p : Program} {l : Launch} {e : Env} {R : Room} {s : State} {m : MethodId} {args : Array Value} {below : List Frame} {meth : Method} {c : Code} {Qw : State → Prop} (F : Fx E j n0 r Me p R s m args meth c)
    {pc : Nat} {L : pL} {S : List pv} {n : Nat} {M : pM} {S' : List pv} {len : Nat} {d x : Int} {ps : Array (Int × Int)} {tgt : Nat} (hd : decode (mB j) pc = .ok (.lookupswitch d ps, len)) (hp : (ps.toList.zip (ps.toList.drop 1)).all (fun (a, next) => a.1 < next.1) = true) (ht : (pc : Int) + Op.lookupswitch.offset ps.toList d x = tgt) (k : Sm E j n0 Me p l e R s m args below meth c Qw tgt L S' n M) : Sm E j n0 Me p l e R s m args below meth c Qw pc L (vi x :: S') n M := by
  intro hn1 hn2 hL hS hM hro hLl H locs ls hl hw hSS
  obtain ⟨hx, hb, hml, hown, hts, hK, hRO, hini, hRm, hRf, hsz, had, hr, hNC⟩ := F
  have hx0 : r32 x := wfS_h hS
  exact lv_lookup hx hb hd hp (by rw [i32_t hx0]) ht (k hn1 hn2 hL (wfS_t hS) hM hro hLl H locs ls hl hw hSS)
