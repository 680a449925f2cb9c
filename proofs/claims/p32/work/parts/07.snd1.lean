/-! ===== what the pure machine says, the machine does ===== -/
def AE (E : pE) : Nat → Prop := fun q => E.2.2.2 ≤ q
def tysE (E : pE) : List (ClassId × FieldType) := [(E.2.1 0, .int), (E.2.1 1, .long), (E.2.1 2, .byte), (E.2.1 3, .boolean)]
def isNe (w : Cond) : Bool := match w with
  | .fieldLinkNest _ _ _ _ _ _ => true
  | .methodLinkNest _ _ _ _ => true
  | _ => false
def stx (i : Nat) : String := if i = 0 then "row lift wind top wall above from to field road glider sink handicap score and or not done legs time best first walls rounded " else ";()<>=+-*/"
def six (i : Nat) : Nat := if i = 0 then 68 else 60
def KU (E : pE) (U : State) : Prop := va_K E.1 vwCl (tysE E) U ∧ (∀ w ∈ lw_tbl, isNe w = true → va_Nw w U) ∧ ∀ i, i < 2 → vk_R "SoarHouse$Tokens" (six i) (stx i) (E.2.2.1 (1004 + 2 * i)) U
theorem KU.warm {E : pE} {s U : State} (hW : s.WarmedH U.vm) (h : KU E s) : KU E U := by
  refine ⟨va_K.moved hW.alike h.1, fun w hw hn => ?_, fun i hi => vk_R.warm hW (h.2.2 i hi)⟩
  have h2 := h.2.1 w hw hn
  cases w <;> first | exact va_Nw.warmF hW h2 | exact va_Nw.warmM hW h2 | cases hn
theorem KU.same {E : pE} {s U : State} (hv : s.vm = U.vm) (h : KU E s) : KU E U := by
  refine ⟨va_K.moved (by rw [hv]; exact Vm.Alike.refl U.vm) h.1, fun w hw hn => ?_, fun i hi => vk_R.same hv.symm (h.2.2 i hi)⟩
  have h2 := h.2.1 w hw hn
  cases w <;> first | exact va_Nw.same rfl hv h2 | cases hn
def dxn (k : Nat) : String := if k = 0 then "DX" else "DY"
def SOk (E : pE) (M : pM) (U : State) (H : Heap) : Prop :=
  (∀ i, i < 2 → va_O "java/lang/String" (E.2.2.1 (1004 + 2 * i)) (AE E) U H ∧ va_OF "java/lang/String" "coder" "B" (.int 0) (E.2.2.1 (1004 + 2 * i)) (AE E) U H ∧ va_OF "java/lang/String" "value" "[B" (.ref (E.2.2.1 (1005 + 2 * i))) (E.2.2.1 (1004 + 2 * i)) (AE E) U H ∧ va_T .byte (E.2.2.1 (1005 + 2 * i)) (slen i) (fun k => .int (Int32.ofInt (M (1005 + 2 * i) k))) (AE E) U H) ∧
  va_Z "java/lang/String" "COMPACT_STRINGS" "Z" (.int 1) (AE E) U H ∧ va_Z "jdk/internal/util/Preconditions" "SIOOBE_FORMATTER" "Ljava/util/function/BiFunction;" (cv E.2.2.1 (vr (M 1009 0).toNat)) (AE E) U H ∧ (M 1009 0 = 0 ∨ M 1009 0 = 1009)
theorem SOk.moved {E : pE} {M : pM} {u U : State} {H : Heap} (hv : u.vm.Alike U.vm) (h : SOk E M u H) : SOk E M U H :=
  ⟨fun i hi => ⟨(h.1 i hi).1.moved hv, (h.1 i hi).2.1.moved hv, (h.1 i hi).2.2.1.moved hv, (h.1 i hi).2.2.2.moved hv⟩, h.2.1.moved hv, h.2.2.1.moved hv, h.2.2.2⟩
theorem SOk.kept {E : pE} {M : pM} {U : State} {H H1 : Heap} (h : SOk E M U H) (hq : ∀ a : Nat, a < H.size → ¬ AE E a → H1[a]? = H[a]?) : SOk E M U H1 :=
  ⟨fun i hi => ⟨(h.1 i hi).1.kept hq, (h.1 i hi).2.1.kept hq, (h.1 i hi).2.2.1.kept hq, (h.1 i hi).2.2.2.kept hq⟩, h.2.1.kept hq, h.2.2.1.kept hq, h.2.2.2⟩
theorem SOk.congr {E : pE} {M M' : pM} {U : State} {H : Heap} (h : SOk E M U H) (hm : ∀ a, 1000 ≤ a → M' a = M a) : SOk E M' U H := by
  refine ⟨fun i hi => ?_, h.2.1, by rw [hm 1009 (by omega)]; exact h.2.2.1, by rw [hm 1009 (by omega)]; exact h.2.2.2⟩
  rw [hm (1005 + 2 * i) (by omega)]
  exact h.1 i hi
def ROk (E : pE) (M : pM) (U : State) (H : Heap) : Prop :=
  (∀ a, 1000 ≤ a → a ≤ 1002 → va_T .int (E.2.2.1 a) (aln M 0 a 0).toNat (fun i => .int (Int32.ofInt (M a i))) (AE E) U H) ∧ 0 ≤ aln M 0 1002 0 ∧
  (∀ k, k < 2 → va_Z "SoarHouse" (dxn k) "[I" (.ref (E.2.2.1 (1000 + k))) (AE E) U H) ∧ SOk E M U H
theorem ROk.moved {E : pE} {M : pM} {u U : State} {H : Heap} (hv : u.vm.Alike U.vm) (h : ROk E M u H) : ROk E M U H :=
  ⟨fun a h1 h2 => (h.1 a h1 h2).moved hv, h.2.1, fun k hk => (h.2.2.1 k hk).moved hv, h.2.2.2.moved hv⟩
theorem ROk.kept {E : pE} {M : pM} {U : State} {H H1 : Heap} (h : ROk E M U H) (hq : ∀ a : Nat, a < H.size → ¬ AE E a → H1[a]? = H[a]?) : ROk E M U H1 :=
  ⟨fun a h1 h2 => (h.1 a h1 h2).kept hq, h.2.1, fun k hk => (h.2.2.1 k hk).kept hq, h.2.2.2.kept hq⟩
theorem aln_ro {M M' : pM} (h : ∀ a, 1000 ≤ a → M' a = M a) (n a : Nat) : aln M' n a 0 = aln M n a 0 := by unfold aln; rw [h 1003 (by omega)]
theorem ROk.congr {E : pE} {M M' : pM} {U : State} {H : Heap} (h : ROk E M U H) (hm : ∀ a, 1000 ≤ a → M' a = M a) : ROk E M' U H := by
  refine ⟨fun a h1 h2 => ?_, by rw [aln_ro hm]; exact h.2.1, h.2.2.1, h.2.2.2.congr hm⟩
  rw [aln_ro hm, hm a h1]
  exact h.1 a h1 h2
def lr (ad : Nat → Nat) (ls : Array Slot) (L : pL) : Prop := ls.size = L.length ∧ lv_wf ls ∧ ∀ (k : Nat) (v : pv), L[k]? = some (some v) → ls[k]? = some (Slot.val (cv ad v))
def Fx (E : pE) (j n0 r : Nat) (Me : pM) (p : Program) (R : Room) (s : State) (m : MethodId) (args : Array Value) (meth : Method) (c : Code) : Prop :=
  p.tables.exec = Jvm.exec ∧ c.code = mB j ∧ c.maxLocals = mX j ∧ s.vm.findClass (RN (mO j)) = some m.cls ∧ (∀ w ∈ lw_tbl, goodWord w = true → w.before args s = true) ∧ KU E s ∧ ROk E Me s s.heap ∧ ((mY j).name = "<init>" → meth.name = "<init>") ∧
  (mC j ≤ R.cells ∧ slL (n0 + mC j) - slL n0 ≤ R.slots) ∧ (r ≤ R.frames ∧ 60 * r ≤ R.locals) ∧ s.heap.size = E.2.2.2 + n0 ∧ (∀ k, k < 1000 → E.2.2.1 k = E.2.2.2 + k) ∧ 1 ≤ r ∧ n0 + mC j ≤ NCELL
def Sm (E : pE) (j n0 : Nat) (Me : pM) (p : Program) (l : Launch) (e : Env) (R : Room) (s : State) (m : MethodId) (args : Array Value) (below : List Frame) (meth : Method) (c : Code) (Qw : State → Prop) : pP := fun pc L S n M =>
  n0 ≤ n → n ≤ n0 + mC j → wfL L → wfS S → wfM M → (∀ a, 1000 ≤ a → M a = Me a) → L.length = mX j → ∀ (H : Heap) (locs : List Loc) (ls : Array Slot), lr E.2.2.1 ls L → va_P E.1 vwCl (wsO E n M) H → va_S (AE E) s.heap H locs →
    W p l e R s m args below meth c H locs (n - n0) (slL n - slL n0) Qw (F0 m pc ls (S.map (cv E.2.2.1)))
theorem wfS_c {v : pv} {S : List pv} (h : wfv v) (hS : wfS S) : wfS (v :: S) := fun u hu => (List.mem_cons.mp hu).elim (fun q => q ▸ h) (hS u)
theorem wfS_h {v : pv} {S : List pv} (h : wfS (v :: S)) : wfv v := h v List.mem_cons_self
theorem wfS_t {v : pv} {S : List pv} (h : wfS (v :: S)) : wfS S := fun u hu => h u (List.mem_cons_of_mem _ hu)
theorem wfL_at {L : pL} {k : Nat} {v : pv} (h : wfL L) (hk : L[k]? = some (some v)) : wfv v := h v (List.mem_of_getElem? hk)
theorem cat_cv (ad : Nat → Nat) (v : pv) : (cv ad v).category = catv v := by rcases v with x | x | k <;> first | rfl | (cases k <;> rfl)
theorem cv_w32 {ad : Nat → Nat} (x : Int32) : cv ad (vi x.toInt) = .int x := by show Value.int (Int32.ofInt x.toInt) = _; rw [Int32.ofInt_toInt]
theorem cv_w64 {ad : Nat → Nat} (x : Int64) : cv ad (vl x.toInt) = .long x := by show Value.long (Int64.ofInt x.toInt) = _; rw [Int64.ofInt_toInt]
set_option maxHeartbeats 4000000 in
theorem snd_pur {E : pE} {j n0 r : Nat} {Me : pM} {p : Program} {l : Launch} {e : Env} {R : Room} {s : State} {m : MethodId} {args : Array Value} {below : List Frame} {meth : Method} {c : Code} {Qw : State → Prop} (F : Fx E j n0 r Me p R s m args meth c)
    {pc : Nat} {L : pL} {S S' : List pv} {n : Nat} {M : pM} {i : Instr} {len : Nat} (hd : decode (mB j) pc = .ok (i, len)) (hp : pur j i len L S S') (hP : Sm E j n0 Me p l e R s m args below meth c Qw (pc + len) L S' n M) : Sm E j n0 Me p l e R s m args below meth c Qw pc L S n M := by
  intro hn1 hn2 hL hS hM hro hLl H locs ls hl hw hSS
  obtain ⟨hx, hb, hml, hown, hts, hK, hRO, hini, hRm, hRf, hsz, had, hr, hNC⟩ := F
  have K : wfS S' → W p l e R s m args below meth c H locs (n - n0) (slL n - slL n0) Qw (F0 m (pc + len) ls (S'.map (cv E.2.2.1))) := fun hw' => hP hn1 hn2 hL hw' hM hro hLl H locs ls hl hw hSS
  cases i
  case iconst v => obtain ⟨rfl, hv, rfl⟩ := hp; exact lv_iconst hx hb hd rfl (K (wfS_c hv hS))
  case bipush v =>
    obtain ⟨rfl, hv, rfl⟩ := hp
    refine lv_bipush (v := Int32.ofInt v) hx hb hd ?_ (K (wfS_c (show r32 v by unfold r32; omega) hS))
    apply Int32.toInt_inj.mp
    rw [Int8.toInt_toInt32, Int8.toInt_ofInt_of_le (by omega) (by omega), i32_t (by unfold r32; omega)]
  case sipush v =>
    obtain ⟨rfl, hv, rfl⟩ := hp
    refine lv_sipush (v := Int32.ofInt v) hx hb hd ?_ (K (wfS_c (show r32 v by unfold r32; omega) hS))
    apply Int32.toInt_inj.mp
    rw [Int16.toInt_toInt32, Int16.toInt_ofInt_of_le (by omega) (by omega), i32_t (by unfold r32; omega)]
  case lconst v =>
    obtain ⟨rfl, rfl⟩ := hp
    refine lv_lconst (v := Int64.ofInt (v : Nat)) hx hb hd ?_ (K (wfS_c (show r64 _ by unfold r64; have := v.isLt; omega) hS))
    rfl
  case ldc ix =>
    obtain ⟨rfl, q, hq, e1, rfl, rfl⟩ := hp
    exact lv_ldc hx hb hown (by rw [← e1]; exact hts _ (chk_ok cn_in0 q hq) rfl) hd (K (wfS_c (cn_rg q hq) hS))
  case ldc_w ix =>
    obtain ⟨rfl, q, hq, e1, rfl, rfl⟩ := hp
    exact lv_ldcw hx hb hown (by rw [← e1]; exact hts _ (chk_ok cn_in0 q hq) rfl) hd (K (wfS_c (cn_rg q hq) hS))
  case ldc2_w ix =>
    obtain ⟨rfl, q, hq, e1, rfl, rfl⟩ := hp
    exact lv_ldc2 hx hb hown (by rw [← e1]; exact hts _ (chk_ok cln_in0 q hq) rfl) hd (K (wfS_c (cln_rg q hq) hS))
  case iload k => obtain ⟨rfl, x, h1, rfl⟩ := hp; exact lv_iload hx hb hd (hl.2.2 _ _ h1) (K (wfS_c (wfL_at hL h1) hS))
  case iload_n k => obtain ⟨rfl, x, h1, rfl⟩ := hp; exact lv_iload_n hx hb hd rfl (hl.2.2 _ _ h1) (K (wfS_c (wfL_at hL h1) hS))
  case lload k => obtain ⟨rfl, x, h1, rfl⟩ := hp; exact lv_lload hx hb hd (hl.2.2 _ _ h1) (K (wfS_c (wfL_at hL h1) hS))
  case lload_n k => obtain ⟨rfl, x, h1, rfl⟩ := hp; exact lv_lload_n hx hb hd rfl (hl.2.2 _ _ h1) (K (wfS_c (wfL_at hL h1) hS))
  case aload k =>
    obtain ⟨rfl, x, h1, rfl⟩ := hp
    cases x with
    | zero => exact lv_aloadN hx hb hd (hl.2.2 _ _ h1) (K (wfS_c (wfL_at hL h1) hS))
    | succ x => exact lv_aload hx hb hd (hl.2.2 _ _ h1) (K (wfS_c (wfL_at hL h1) hS))
  case aload_n k =>
    obtain ⟨rfl, x, h1, rfl⟩ := hp
    cases x with
    | zero => exact lv_aload_nN hx hb hd rfl (hl.2.2 _ _ h1) (K (wfS_c (wfL_at hL h1) hS))
    | succ x => exact lv_aload_n hx hb hd rfl (hl.2.2 _ _ h1) (K (wfS_c (wfL_at hL h1) hS))
  case dup => obtain ⟨rfl, v, S0, rfl, hc, rfl⟩ := hp; exact lv_dup hx hb hd (by rw [cat_cv]; exact hc) (K (wfS_c (wfS_h hS) hS))
  case pop => obtain ⟨rfl, v, S0, rfl, hc, rfl⟩ := hp; exact lv_pop hx hb hd (by rw [cat_cv]; exact hc) (K (wfS_t hS))
  case dup2 => obtain ⟨rfl, v, u, S0, rfl, hc, hc2, rfl⟩ := hp; exact lv_dup2_11 hx hb hd (by rw [cat_cv]; exact hc) (by rw [cat_cv]; exact hc2) (K (wfS_c (wfS_h hS) (wfS_c (wfS_h (wfS_t hS)) hS)))
  case ineg =>
    obtain ⟨rfl, a, S0, rfl, rfl⟩ := hp
    have K := K (wfS_c (w32_r _) (wfS_t hS))
    refine lv_ineg hx hb hd ?_
    rw [← i32_neg]
    exact K
  case i2l =>
    obtain ⟨rfl, a, S0, rfl, rfl⟩ := hp
    have ha : r32 a := wfS_h hS
    exact lv_i2l hx hb hd (i32_i64 ha).symm (K (wfS_c (show r64 a by unfold r32 at ha; unfold r64; omega) (wfS_t hS)))
  case i2b => obtain ⟨rfl, a, S0, rfl, rfl⟩ := hp; exact lv_i2b hx hb hd (i32_8 a).symm (K (wfS_c (w8_r _) (wfS_t hS)))
  case l2i =>
    obtain ⟨rfl, a, S0, rfl, rfl⟩ := hp
    have K := K (wfS_c (i32_r _) (wfS_t hS))
    rw [List.map_cons, cv_w32] at K
    exact lv_l2i hx hb hd rfl K
  case i2c =>
    obtain ⟨rfl, a, S0, rfl, rfl⟩ := hp
    have K := K (wfS_c (i32_r _) (wfS_t hS))
    rw [List.map_cons, cv_w32] at K
    exact lv_i2c hx hb hd rfl K
  case idiv =>
    obtain ⟨rfl, a, b, S0, rfl, hne, rfl⟩ := hp
    have hb' : r32 b := wfS_h hS
    have ha : r32 a := wfS_h (wfS_t hS)
    have K := K (wfS_c (w32_r _) (wfS_t (wfS_t hS)))
    refine lv_idiv hx hb hd (fun q => hne ((i32_eq hb' r32_0).mp q)) ?_
    rw [← i32_div ha hb']
    exact K
  case irem =>
    obtain ⟨rfl, a, b, S0, rfl, hne, rfl⟩ := hp
    have hb' : r32 b := wfS_h hS
    have ha : r32 a := wfS_h (wfS_t hS)
    have K := K (wfS_c (tmod_r ha hb' hne) (wfS_t (wfS_t hS)))
    refine lv_irem hx hb hd (fun q => hne ((i32_eq hb' r32_0).mp q)) ?_
    rw [← i32_rem ha hb']
    exact K
  case lcmp =>
    obtain ⟨rfl, a, b, S0, rfl, rfl⟩ := hp
    have hb' : r64 b := wfS_h hS
    have ha : r64 a := wfS_h (wfS_t hS)
    have K := K (wfS_c (show r32 _ by unfold r32; split <;> (try split) <;> omega) (wfS_t (wfS_t hS)))
    refine W.lcmp hx hb hd ?_
    have h1 : lg_cmp (Int64.ofInt a) (Int64.ofInt b) = Int32.ofInt (if b < a then 1 else if a = b then 0 else -1) := by
      have e1 : Int64.ofInt b < Int64.ofInt a ↔ b < a := by rw [Int64.lt_iff_toInt_lt, i64_t ha, i64_t hb']
      have e2 : Int64.ofInt a = Int64.ofInt b ↔ a = b := by rw [← Int64.toInt_inj, i64_t ha, i64_t hb']
      unfold lg_cmp
      simp only [e1, e2]
      split <;> (try split) <;> rfl
    rw [h1]
    exact K
  case lshl =>
    obtain ⟨rfl, a, b, S0, rfl, rfl⟩ := hp
    have K := K (wfS_c (i64_r _) (wfS_t (wfS_t hS)))
    rw [List.map_cons, cv_w64] at K
    exact lv_lshl hx hb hd rfl K
  case lshr =>
    obtain ⟨rfl, a, b, S0, rfl, rfl⟩ := hp
    have K := K (wfS_c (i64_r _) (wfS_t (wfS_t hS)))
    rw [List.map_cons, cv_w64] at K
    exact lv_lshr hx hb hd rfl K
  case lushr =>
    obtain ⟨rfl, a, b, S0, rfl, rfl⟩ := hp
    have K := K (wfS_c (i64_r _) (wfS_t (wfS_t hS)))
    rw [List.map_cons, cv_w64] at K
    exact lv_lushr hx hb hd rfl K
  case iadd =>
    obtain ⟨rfl, hp⟩ := hp
    rcases hp with ⟨f, a, b, S0, hf, rfl, rfl⟩ | ⟨f, a, b, S0, hf, rfl, rfl⟩
    · have hf := Option.some.inj hf
      subst hf
      have K := K (wfS_c (w32_r _) (wfS_t (wfS_t hS)))
      refine lv_iadd hx hb hd ?_
      rw [← i32_add]
      exact K
    · cases hf
  case isub =>
    obtain ⟨rfl, hp⟩ := hp
    rcases hp with ⟨f, a, b, S0, hf, rfl, rfl⟩ | ⟨f, a, b, S0, hf, rfl, rfl⟩
    · have hf := Option.some.inj hf
      subst hf
      have K := K (wfS_c (w32_r _) (wfS_t (wfS_t hS)))
      refine lv_isub hx hb hd ?_
      rw [← i32_sub]
      exact K
    · cases hf
  case imul =>
    obtain ⟨rfl, hp⟩ := hp
    rcases hp with ⟨f, a, b, S0, hf, rfl, rfl⟩ | ⟨f, a, b, S0, hf, rfl, rfl⟩
    · have hf := Option.some.inj hf
      subst hf
      have K := K (wfS_c (w32_r _) (wfS_t (wfS_t hS)))
      refine lv_imul hx hb hd ?_
      rw [← i32_mul]
      exact K
    · cases hf
  case iand =>
    obtain ⟨rfl, hp⟩ := hp
    rcases hp with ⟨f, a, b, S0, hf, rfl, rfl⟩ | ⟨f, a, b, S0, hf, rfl, rfl⟩
    · have hf := Option.some.inj hf
      subst hf
      have K := K (wfS_c (i32_r _) (wfS_t (wfS_t hS)))
      rw [List.map_cons, cv_w32] at K
      exact lv_iand hx hb hd K
    · cases hf
  case ior =>
    obtain ⟨rfl, hp⟩ := hp
    rcases hp with ⟨f, a, b, S0, hf, rfl, rfl⟩ | ⟨f, a, b, S0, hf, rfl, rfl⟩
    · have hf := Option.some.inj hf
      subst hf
      have K := K (wfS_c (i32_r _) (wfS_t (wfS_t hS)))
      rw [List.map_cons, cv_w32] at K
      exact lv_ior hx hb hd K
    · cases hf
  case ixor =>
    obtain ⟨rfl, hp⟩ := hp
    rcases hp with ⟨f, a, b, S0, hf, rfl, rfl⟩ | ⟨f, a, b, S0, hf, rfl, rfl⟩
    · have hf := Option.some.inj hf
      subst hf
      have K := K (wfS_c (i32_r _) (wfS_t (wfS_t hS)))
      rw [List.map_cons, cv_w32] at K
      exact lv_ixor hx hb hd K
    · cases hf
  case ishl =>
    obtain ⟨rfl, hp⟩ := hp
    rcases hp with ⟨f, a, b, S0, hf, rfl, rfl⟩ | ⟨f, a, b, S0, hf, rfl, rfl⟩
    · have hf := Option.some.inj hf
      subst hf
      have K := K (wfS_c (i32_r _) (wfS_t (wfS_t hS)))
      rw [List.map_cons, cv_w32] at K
      exact lv_ishl hx hb hd K
    · cases hf
  case ishr =>
    obtain ⟨rfl, hp⟩ := hp
    rcases hp with ⟨f, a, b, S0, hf, rfl, rfl⟩ | ⟨f, a, b, S0, hf, rfl, rfl⟩
    · have hf := Option.some.inj hf
      subst hf
      have K := K (wfS_c (i32_r _) (wfS_t (wfS_t hS)))
      rw [List.map_cons, cv_w32] at K
      exact lv_ishr hx hb hd K
    · cases hf
  case iushr =>
    obtain ⟨rfl, hp⟩ := hp
    rcases hp with ⟨f, a, b, S0, hf, rfl, rfl⟩ | ⟨f, a, b, S0, hf, rfl, rfl⟩
    · have hf := Option.some.inj hf
      subst hf
      have K := K (wfS_c (i32_r _) (wfS_t (wfS_t hS)))
      rw [List.map_cons, cv_w32] at K
      exact lv_iushr hx hb hd rfl K
    · cases hf
  case ladd =>
    obtain ⟨rfl, hp⟩ := hp
    rcases hp with ⟨f, a, b, S0, hf, rfl, rfl⟩ | ⟨f, a, b, S0, hf, rfl, rfl⟩
    · cases hf
    · have hf := Option.some.inj hf
      subst hf
      have K := K (wfS_c (i64_r _) (wfS_t (wfS_t hS)))
      rw [List.map_cons, cv_w64] at K
      exact lv_ladd hx hb hd K
  case lsub =>
    obtain ⟨rfl, hp⟩ := hp
    rcases hp with ⟨f, a, b, S0, hf, rfl, rfl⟩ | ⟨f, a, b, S0, hf, rfl, rfl⟩
    · cases hf
    · have hf := Option.some.inj hf
      subst hf
      have K := K (wfS_c (i64_r _) (wfS_t (wfS_t hS)))
      rw [List.map_cons, cv_w64] at K
      exact lv_lsub hx hb hd K
  case lmul =>
    obtain ⟨rfl, hp⟩ := hp
    rcases hp with ⟨f, a, b, S0, hf, rfl, rfl⟩ | ⟨f, a, b, S0, hf, rfl, rfl⟩
    · cases hf
    · have hf := Option.some.inj hf
      subst hf
      have K := K (wfS_c (i64_r _) (wfS_t (wfS_t hS)))
      rw [List.map_cons, cv_w64] at K
      exact lv_lmul hx hb hd K
  case land =>
    obtain ⟨rfl, hp⟩ := hp
    rcases hp with ⟨f, a, b, S0, hf, rfl, rfl⟩ | ⟨f, a, b, S0, hf, rfl, rfl⟩
    · cases hf
    · have hf := Option.some.inj hf
      subst hf
      have K := K (wfS_c (i64_r _) (wfS_t (wfS_t hS)))
      rw [List.map_cons, cv_w64] at K
      exact lv_land hx hb hd K
  case lor =>
    obtain ⟨rfl, hp⟩ := hp
    rcases hp with ⟨f, a, b, S0, hf, rfl, rfl⟩ | ⟨f, a, b, S0, hf, rfl, rfl⟩
    · cases hf
    · have hf := Option.some.inj hf
      subst hf
      have K := K (wfS_c (i64_r _) (wfS_t (wfS_t hS)))
      rw [List.map_cons, cv_w64] at K
      exact lv_lor hx hb hd K
  case lxor =>
    obtain ⟨rfl, hp⟩ := hp
    rcases hp with ⟨f, a, b, S0, hf, rfl, rfl⟩ | ⟨f, a, b, S0, hf, rfl, rfl⟩
    · cases hf
    · have hf := Option.some.inj hf
      subst hf
      have K := K (wfS_c (i64_r _) (wfS_t (wfS_t hS)))
      rw [List.map_cons, cv_w64] at K
      exact lv_lxor hx hb hd K
  all_goals (obtain ⟨-, ⟨f, a, b, S0, hf, -⟩ | ⟨f, a, b, S0, hf, -⟩⟩ := hp <;> cases hf)
