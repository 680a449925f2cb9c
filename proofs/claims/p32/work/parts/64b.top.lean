/-! THE CLAIM OUT OF ONE WALK OF THE LAW'S BODY. Your part is whole_start (and what it stands on); all else here is the same for every law, but numbers. -/
def R_law : String := "SoarHouseLaw"
def lw_P (b : Addr) (xs : List Int32) (args : Array Value) (s : State) : Prop := args = #[.ref b] ∧ s.IntsAt b xs ∧ xs.length ≤ 3584 ∧ (Jvm.Cond.and given_1 narrow_1).before args s = true
def lw_Q (_ : Array Value) (s : State) (o : Outcome) (t : State) : Prop := o = .returned (some (.int 1)) ∧ Framed s o t [] 600000 7302249
def lw_Z (below : List Frame) (a : Array Value) (s : State) : State → Prop := fun t => ∃ o, t.status = .running ∧ Ended t below o ∧ lw_Q a s o t
/-- the law's own end, with 1 on the stack, nothing written that was there before, its room as the claim has it -/
theorem lw_ret {p : Program} {l : Launch} {e : Env} {s : State} {m : MethodId} {below : List Frame} {meth : Method} {c : Code} {b : Nat} (hx : p.tables.exec = Jvm.exec) (hb : c.code = code) (hr : meth.sig.returnType = ret) (hlocks : meth.locks = false) {pc : Nat} {H : Heap} {ls : Array Slot} (hdg : decode code pc = .ok (.ireturn, 1)) : W p l e room_1 s m #[Value.ref b] below meth c H [] 600000 7302249 (lw_Z below #[Value.ref b] s) (F0 m pc ls [.int 1]) := by
  intro T hT X
  obtain ⟨fs, hret, hrun, hended, hW, hframe⟩ := X.leave (v := some (.int 1)) (hlocks := hlocks) (fun h => by rw [hr] at h; cases h)
  have hmeth' : T.vm.method? m = some meth := X.method'
  refine ⟨T.setFrames fs, ?_, .returned (some (.int 1)), hrun, hended, rfl, ⟨_, rfl⟩, hW, hframe⟩
  jvm_step X.here [X.here.top, hx, hb, hdg, hmeth', hr, ret, narrow_b1]
  (try refine ⟨rfl, ?_⟩); (try refine ⟨rfl, ?_⟩)
  first | (intro acts; rw [hret _ acts rfl rfl rfl]) | rw [hret _ _ rfl rfl rfl]
  exact Steps.refl _
/-- what holds at the law's entry: the machine, the code, the tables' words (any of lw_tbl by 'hts w (by decide +kernel)'), the script of L ints xs at the cell b, what the Statement gives of the start (any of its parts by flat_of_before) -/
def lw_At (p : Program) (s : State) (m : MethodId) (meth : Method) (c : Code) (b L : Nat) (xs : Nat → Int32) : Prop :=
  p.tables.exec = Jvm.exec ∧ c.code = code ∧ meth.sig.returnType = ret ∧ c.maxLocals = 4 ∧ s.vm.findClass R_law = some m.cls ∧ (∀ w ∈ lw_tbl, w.before #[Value.ref b] s = true) ∧ va_X b L xs s s.heap ∧ b < s.heap.size ∧ meth.locks = false ∧ (Jvm.Cond.and given_1 narrow_1).before #[Value.ref b] s = true
def dxv (k j : Nat) : Int := (if k = 0 then ([0, 1, 1, 1, 0, -1, -1, -1] : List Int) else [-1, -1, 0, 1, 1, 1, 0, -1]).getD j 0
def byt : List (List Int32) := [[114, 111, 119, 32, 108, 105, 102, 116, 32, 119, 105, 110, 100, 32, 116, 111, 112, 32, 119, 97, 108, 108, 32, 97, 98, 111, 118, 101, 32, 102, 114, 111, 109, 32, 116, 111, 32, 102, 105, 101, 108, 100, 32, 114, 111, 97, 100, 32, 103, 108, 105, 100, 101, 114, 32, 115, 105, 110, 107, 32, 104, 97, 110, 100, 105, 99, 97, 112, 32, 115, 99, 111, 114, 101, 32, 97, 110, 100, 32, 111, 114, 32, 110, 111, 116, 32, 100, 111, 110, 101, 32, 108, 101, 103, 115, 32, 116, 105, 109, 101, 32, 98, 101, 115, 116, 32, 102, 105, 114, 115, 116, 32, 119, 97, 108, 108, 115, 32, 114, 111, 117, 110, 100, 101, 100, 32], [59, 40, 41, 60, 62, 61, 43, 45, 42, 47]]
def sbv (i k : Nat) : Int32 := (byt.getD i []).getD k 0
/-- the memory at the law's entry -/
def laM (L : Nat) (xs : Nat → Int32) (z : Int) : pM := fun a i => if a = 1000 then dxv 0 i else if a = 1001 then dxv 1 i else if a = 1002 then (xs i).toInt else if a = 1003 then (if i = 0 then (L : Int) else 0) else if a = 1005 then (sbv 0 i).toInt else if a = 1007 then (sbv 1 i).toInt else if a = 1009 then (if i = 0 then z else 0) else 0
theorem dxv_b (k j : Nat) : -1 ≤ dxv k j ∧ dxv k j ≤ 1 := by
  unfold dxv
  split <;> (rcases j with _ | _ | _ | _ | _ | _ | _ | _ | j <;> simp)
theorem getD_b {P : Int32 → Bool} (h0 : P 0 = true) : ∀ {l : List Int32} (_ : l.all P = true) (k : Nat), P (l.getD k 0) = true
  | [], _, _ => h0
  | v :: l, h, 0 => (and_t h).1
  | v :: l, h, k + 1 => getD_b h0 (l := l) (and_t h).2 k
theorem sbv_b (i k : Nat) : 0 ≤ (sbv i k).toInt ∧ (sbv i k).toInt ≤ 127 := by
  have h : ∀ l ∈ byt, l.all (fun v => decide (0 ≤ v.toInt) && decide (v.toInt ≤ 127)) = true := by decide +kernel
  have hl : (byt.getD i []).all (fun v => decide (0 ≤ v.toInt) && decide (v.toInt ≤ 127)) = true := by
    rcases i with _ | _ | i
    · exact h _ List.mem_cons_self
    · exact h _ (List.mem_cons_of_mem _ List.mem_cons_self)
    · rfl
  have := getD_b (P := fun v => decide (0 ≤ v.toInt) && decide (v.toInt ≤ 127)) (by decide +kernel) hl k
  obtain ⟨h1, h2⟩ := and_t this
  exact ⟨of_decide_eq_true h1, of_decide_eq_true h2⟩
theorem laM_wf {L : Nat} (hL : L ≤ 100000) (xs : Nat → Int32) {z : Int} (hz : z = 0 ∨ z = 1009) : wfM (laM L xs z) := by
  intro k i
  have d0 := dxv_b 0 i
  have d1 := dxv_b 1 i
  have b0 := sbv_b 0 i
  have b1 := sbv_b 1 i
  unfold laM
  by_cases hk : 1000 ≤ k
  · have hs : slT k i = .int := by
      unfold slT
      have hs : SH k = .inl 99 := by
        unfold SH
        rw [List.getD_eq_getElem?_getD, List.getElem?_eq_none (by have : SHL.length = 119 := rfl; omega)]
        rfl
      rw [hs]
      rfl
    rw [hs]
    show r32 _
    have hi := i32_r (xs i)
    unfold r32 at hi ⊢
    repeat' split
    all_goals omega
  · rw [if_neg (by omega), if_neg (by omega), if_neg (by omega), if_neg (by omega), if_neg (by omega), if_neg (by omega), if_neg (by omega)]
    exact rTy_0 _
theorem laM_9 {L : Nat} (hL : L ≤ 3584) (xs : Nat → Int32) (z : Int) : ∀ (c k : Nat) (b : Int × Int), 119 ≤ c → (gl c)[k % (gl c).length]? = some b → b.1 ≤ b.2 → b.1 ≤ laM L xs z c k ∧ laM L xs z c k ≤ b.2 := by
  intro c k b hc hb hle
  have hgl : gl c = gX.getD (c - 1000) [] := by
    unfold gl
    rw [show Nat.blt c 119 = false from by cases h : Nat.blt c 119 with | false => rfl | true => exact absurd (show c < 119 from Nat.blt_eq ▸ h) (by omega)]
    exact Bool.cond_false
  rw [hgl] at hb
  by_cases h1 : c ≤ 1000
  · rw [show c - 1000 = 0 by omega] at hb
    have hb : ([((-1 : Int), (1 : Int))] : List (Int × Int))[k % 1]? = some b := hb
    rw [Nat.mod_one] at hb
    cases hb
    unfold laM
    have := dxv_b 0 k
    split
    · exact this
    · rw [if_neg (by omega), if_neg (by omega), if_neg (by omega), if_neg (by omega), if_neg (by omega), if_neg (by omega)]
      decide
  · by_cases h2 : c ≤ 1007
    · rcases (show c = 1001 ∨ c = 1002 ∨ c = 1003 ∨ c = 1004 ∨ c = 1005 ∨ c = 1006 ∨ c = 1007 by omega) with rfl | rfl | rfl | rfl | rfl | rfl | rfl
      · have hb : ([((-1 : Int), (1 : Int))] : List (Int × Int))[k % 1]? = some b := hb
        rw [Nat.mod_one] at hb
        cases hb
        exact dxv_b 1 k
      · have hb : ([((-2147483648 : Int), (2147483647 : Int))] : List (Int × Int))[k % 1]? = some b := hb
        rw [Nat.mod_one] at hb
        cases hb
        have hi := i32_r (xs k)
        unfold r32 at hi
        exact ⟨hi.1, hi.2⟩
      · have hb : ([((0 : Int), (3584 : Int))] : List (Int × Int))[k % 1]? = some b := hb
        rw [Nat.mod_one] at hb
        cases hb
        show (0 : Int) ≤ (if k = 0 then (L : Int) else 0) ∧ (if k = 0 then (L : Int) else 0) ≤ 3584
        split <;> omega
      · cases hb
      · have hb : ([((0 : Int), (127 : Int))] : List (Int × Int))[k % 1]? = some b := hb
        rw [Nat.mod_one] at hb
        cases hb
        exact sbv_b 0 k
      · cases hb
      · have hb : ([((0 : Int), (127 : Int))] : List (Int × Int))[k % 1]? = some b := hb
        rw [Nat.mod_one] at hb
        cases hb
        exact sbv_b 1 k
    · have hn : gX.getD (c - 1000) [] = [] := by
        rw [List.getD_eq_getElem?_getD, List.getElem?_eq_none (by have : gX.length = 8 := rfl; omega)]
        rfl
      rw [hn] at hb
      cases hb
theorem lays_in {c : Nat} (hc : c < 13) : ∀ w ∈ u_ws (RN c) (cT c) (cN c), w ∈ lw_tbl := by
  intro w hw
  obtain ⟨k, hk, rfl⟩ := List.mem_map.mp hw
  have hk := List.mem_range.mp hk
  exact chk_ok lay_in0 (c, k) (List.mem_flatMap.mpr ⟨c, List.mem_range.mpr hc, List.mem_map.mpr ⟨k, List.mem_range.mpr hk, rfl⟩⟩)
theorem inst_in {c : Nat} (hc : c < 13) : Cond.instantiable (RN c) (cN c) ∈ lw_tbl := by
  have h : ∀ c, c < 13 → ∃ q ∈ newL, q.2.2.1 = c := by decide +kernel
  obtain ⟨q, hq, rfl⟩ := h c hc
  exact chk_ok new_in2 q hq
theorem isNe_on {w : Cond} (h : isNe w = true) : w.onTables = true := by cases w <;> first | rfl | cases h
theorem vw_len {c : Nat} {q : vw_C} (h : vwCl[c]? = some q) : c < 13 := (List.getElem?_eq_some_iff.mp h).1
theorem laM_T {L : Nat} {xs : Nat → Int32} {z : Int} : HP 40 0 0 (laM L xs z) := Eq.mpr hp_40 ⟨fun i hi => (by decide +kernel : ∀ i, i < 126 → (sbv 0 i).toInt = wds.getD i 0) i hi, fun i hi => (by decide +kernel : ∀ i, i < 10 → (sbv 1 i).toInt = sgs.getD i 0) i hi⟩
set_option maxHeartbeats 4000000 in
theorem whole_start {p : Program} {e : Env} {s : State} {m : MethodId} {below : List Frame} {meth : Method} {c : Code} (l : Launch) {b L : Nat} {xs : Nat → Int32} (hL : L ≤ 3584) (C0 : lw_At p s m meth c b L xs) : W p l e room_1 s m #[Value.ref b] below meth c s.heap [] 0 0 (lw_Z below #[Value.ref b] s) (entryFrame m ([Value.ref b] : List Value).toArray 4) := by
  obtain ⟨hx, hb, hr, hml, hown, hts, hX, hbl, hlocks, hgv⟩ := id C0
  have hfl := flat_of_before _ hgv
  have hA : ∀ a : Nat, a < s.heap.size → ¬ (fun q : Nat => s.heap.size ≤ q) a := fun a h => Nat.not_le.mpr h
  have hk : ∀ c : Nat, ∃ p : ClassId × (Nat → Nat), c < 13 → u_Kn s (RN c) (cT c) (cN c) p.1 p.2 := by
    intro c
    by_cases hc : c < 13
    · obtain ⟨cC, iS, h⟩ := u_known (ws := lw_tbl) hts (C := RN c) (T := cT c) (N := cN c) (n := cN c) (lays_in hc) (hts _ (inst_in hc))
      exact ⟨(cC, iS), fun _ => h⟩
    · exact ⟨(0, fun _ => 0), fun h => absurd h hc⟩
  obtain ⟨f, hf⟩ := Classical.axiomOfChoice hk
  have ha1 : ∀ ty : FieldType, Cond.arrayClass ty ∈ lw_tbl → (∀ (cA : ClassId), s.vm.findClass ("[" ++ ty.toString) = some cA → va_RA s cA ty) → ∃ cA : ClassId, ArrOfT s cA ty ∧ va_RA s cA ty := by
    intro ty hw hra
    obtain ⟨cA, kA, comp, h1, h2, h3⟩ := Cond.arrayClass_spec (hts _ hw)
    exact ⟨cA, fun n z => ⟨fun k h => (by cases h), kA, h2, comp, h3⟩, hra cA h1⟩
  obtain ⟨c0, hc0⟩ := ha1 .int (chk_ok ac_in0 (0, .int) (by simp)) (fun _ h => h)
  obtain ⟨c1, hc1⟩ := ha1 .long (chk_ok ac_in0 (1, .long) (by simp)) (fun _ h => h)
  obtain ⟨c2, hc2⟩ := ha1 .byte (chk_ok ac_in0 (2, .byte) (by simp)) (fun _ h => h)
  obtain ⟨c3, hc3⟩ := ha1 .boolean (chk_ok ac_in0 (3, .boolean) (by simp)) (fun _ h => h)
  have hdx : ∀ k, k < 2 → ∃ t : Nat, (Term.static "SoarHouse" (dxn k) "[I").eval #[Value.ref b] s none [] s = some (.ref t) ∧ va_T .int t 8 (fun j => .int (Int32.ofInt (dxv k j))) (fun q : Nat => s.heap.size ≤ q) s s.heap := by
    intro k hk2
    rcases (by omega : k = 0 ∨ k = 1) with rfl | rfl
    · refine va_Tof (args := #[Value.ref b]) (by decide) (hfl (.arrayOf (.static "SoarHouse" "DX" "[I") .int) (by decide +kernel)) (va_eqt (hfl (.eq (.length (.static "SoarHouse" "DX" "[I")) (.int 8)) (by decide +kernel))) (fun j hj => ?_) hA
      match j, hj with
      | 0, _ => exact va_eqt (hfl (.eq (.elem (.static "SoarHouse" "DX" "[I") (.int 0)) (.int 0)) (by decide +kernel))
      | 1, _ => exact va_eqt (hfl (.eq (.elem (.static "SoarHouse" "DX" "[I") (.int 1)) (.int 1)) (by decide +kernel))
      | 2, _ => exact va_eqt (hfl (.eq (.elem (.static "SoarHouse" "DX" "[I") (.int 2)) (.int 1)) (by decide +kernel))
      | 3, _ => exact va_eqt (hfl (.eq (.elem (.static "SoarHouse" "DX" "[I") (.int 3)) (.int 1)) (by decide +kernel))
      | 4, _ => exact va_eqt (hfl (.eq (.elem (.static "SoarHouse" "DX" "[I") (.int 4)) (.int 0)) (by decide +kernel))
      | 5, _ => exact va_eqt (hfl (.eq (.elem (.static "SoarHouse" "DX" "[I") (.int 5)) (.int (-1))) (by decide +kernel))
      | 6, _ => exact va_eqt (hfl (.eq (.elem (.static "SoarHouse" "DX" "[I") (.int 6)) (.int (-1))) (by decide +kernel))
      | 7, _ => exact va_eqt (hfl (.eq (.elem (.static "SoarHouse" "DX" "[I") (.int 7)) (.int (-1))) (by decide +kernel))
      | j + 8, hj => exact absurd hj (by omega)
    · refine va_Tof (args := #[Value.ref b]) (by decide) (hfl (.arrayOf (.static "SoarHouse" "DY" "[I") .int) (by decide +kernel)) (va_eqt (hfl (.eq (.length (.static "SoarHouse" "DY" "[I")) (.int 8)) (by decide +kernel))) (fun j hj => ?_) hA
      match j, hj with
      | 0, _ => exact va_eqt (hfl (.eq (.elem (.static "SoarHouse" "DY" "[I") (.int 0)) (.int (-1))) (by decide +kernel))
      | 1, _ => exact va_eqt (hfl (.eq (.elem (.static "SoarHouse" "DY" "[I") (.int 1)) (.int (-1))) (by decide +kernel))
      | 2, _ => exact va_eqt (hfl (.eq (.elem (.static "SoarHouse" "DY" "[I") (.int 2)) (.int 0)) (by decide +kernel))
      | 3, _ => exact va_eqt (hfl (.eq (.elem (.static "SoarHouse" "DY" "[I") (.int 3)) (.int 1)) (by decide +kernel))
      | 4, _ => exact va_eqt (hfl (.eq (.elem (.static "SoarHouse" "DY" "[I") (.int 4)) (.int 1)) (by decide +kernel))
      | 5, _ => exact va_eqt (hfl (.eq (.elem (.static "SoarHouse" "DY" "[I") (.int 5)) (.int 1)) (by decide +kernel))
      | 6, _ => exact va_eqt (hfl (.eq (.elem (.static "SoarHouse" "DY" "[I") (.int 6)) (.int 0)) (by decide +kernel))
      | 7, _ => exact va_eqt (hfl (.eq (.elem (.static "SoarHouse" "DY" "[I") (.int 7)) (.int (-1))) (by decide +kernel))
      | j + 8, hj => exact absurd hj (by omega)
  obtain ⟨tx, hx1, hx2⟩ := hdx 0 (by omega)
  obtain ⟨ty, hy1, hy2⟩ := hdx 1 (by omega)
  have hsel : ∀ j : Fin 126, Cond.eq (.elem (.field (.string "SoarHouse$Tokens" 68) "java/lang/String" "value" "[B") (.int (Int32.ofNat j.val))) (.int (sbv 0 j.val)) ∈ flatC (Jvm.Cond.and given_1 narrow_1) := by decide +kernel
  have hsel2 : ∀ j : Fin 10, Cond.eq (.elem (.field (.string "SoarHouse$Tokens" 60) "java/lang/String" "value" "[B") (.int (Int32.ofNat j.val))) (.int (sbv 1 j.val)) ∈ flatC (Jvm.Cond.and given_1 narrow_1) := by decide +kernel
  have h01 : ∀ {P : Nat → Prop}, P 0 → P 1 → ∀ i, i < 2 → P i := fun {P} p0 p1 i hi => by
    rcases (by omega : i = 0 ∨ i = 1) with rfl | rfl
    · exact p0
    · exact p1
  obtain ⟨aK, aV, hSt, hKe⟩ := vk_Sof (args := #[Value.ref b]) (s := s) (N := 2) (tm := fun i => .string "SoarHouse$Tokens" (six i)) (len := [126, 10]) (byt := byt) (A := fun q : Nat => s.heap.size ≤ q)
    (h01 (by decide) (by decide))
    (h01 (hfl (.exactly (.string "SoarHouse$Tokens" 68) "java/lang/String") (by decide +kernel)) (hfl (.exactly (.string "SoarHouse$Tokens" 60) "java/lang/String") (by decide +kernel)))
    (h01 (hfl (.eq (.field (.string "SoarHouse$Tokens" 68) "java/lang/String" "coder" "B") (.int 0)) (by decide +kernel)) (hfl (.eq (.field (.string "SoarHouse$Tokens" 60) "java/lang/String" "coder" "B") (.int 0)) (by decide +kernel)))
    (h01 (hfl (.arrayOf (.field (.string "SoarHouse$Tokens" 68) "java/lang/String" "value" "[B") .byte) (by decide +kernel)) (hfl (.arrayOf (.field (.string "SoarHouse$Tokens" 60) "java/lang/String" "value" "[B") .byte) (by decide +kernel)))
    (h01 (hfl (.eq (.length (.field (.string "SoarHouse$Tokens" 68) "java/lang/String" "value" "[B")) (.int 126)) (by decide +kernel)) (hfl (.eq (.length (.field (.string "SoarHouse$Tokens" 60) "java/lang/String" "value" "[B")) (.int 10)) (by decide +kernel)))
    (h01 (fun j hj => hfl _ (hsel ⟨j, hj⟩)) (fun j hj => hfl _ (hsel2 ⟨j, hj⟩)))
    (fun i j hi hj hij => by
      rcases (by omega : (i = 0 ∧ j = 1) ∨ (i = 1 ∧ j = 0)) with ⟨rfl, rfl⟩ | ⟨rfl, rfl⟩
      · exact Or.inl (hfl (.not (.eq (.string "SoarHouse$Tokens" 68) (.string "SoarHouse$Tokens" 60))) (by decide +kernel))
      · exact Or.inr (hfl (.not (.eq (.string "SoarHouse$Tokens" 68) (.string "SoarHouse$Tokens" 60))) (by decide +kernel)))
    hA
  have hCS := va_Zof (args := #[Value.ref b]) (A := fun q : Nat => s.heap.size ≤ q) (hts (.laysStatic "java/lang/String" "COMPACT_STRINGS" "Z") (chk_ok (w := fun _ : Unit => .laysStatic "java/lang/String" "COMPACT_STRINGS" "Z") (ps := fun _ => 728) (es := [()]) (by decide +kernel) () List.mem_cons_self)) (hts (.initialized "java/lang/String") (chk_ok (w := fun _ : Unit => .initialized "java/lang/String") (ps := fun _ => 203) (es := [()]) (by decide +kernel) () List.mem_cons_self)) (va_eqt (hfl (.eq (.static "java/lang/String" "COMPACT_STRINGS" "Z") (.int 1)) (by decide +kernel))) hA
  have hSI := va_Zqof (args := #[Value.ref b]) (A := fun q : Nat => s.heap.size ≤ q) (hts (.laysStatic "jdk/internal/util/Preconditions" "SIOOBE_FORMATTER" "Ljava/util/function/BiFunction;") (chk_ok (w := fun _ : Unit => .laysStatic "jdk/internal/util/Preconditions" "SIOOBE_FORMATTER" "Ljava/util/function/BiFunction;") (ps := fun _ => 744) (es := [()]) (by decide +kernel) () List.mem_cons_self)) (hts (.initialized "jdk/internal/util/Preconditions") (chk_ok (w := fun _ : Unit => .initialized "jdk/internal/util/Preconditions") (ps := fun _ => 205) (es := [()]) (by decide +kernel) () List.mem_cons_self)) (hfl (.isRef (.static "jdk/internal/util/Preconditions" "SIOOBE_FORMATTER" "Ljava/util/function/BiFunction;")) (by decide +kernel)) hA
  obtain ⟨z, tz, hz, hSI⟩ : ∃ (z : Int) (tz : Nat), (z = 0 ∨ z = 1009) ∧ va_Z "jdk/internal/util/Preconditions" "SIOOBE_FORMATTER" "Ljava/util/function/BiFunction;" (if z = 0 then Value.null else Value.ref tz) (fun q : Nat => s.heap.size ≤ q) s s.heap := by
    rcases hSI with h | ⟨t, h⟩
    · exact ⟨0, 0, Or.inl rfl, h⟩
    · exact ⟨1009, t, Or.inr rfl, h⟩
  obtain ⟨ad, had0, had1, had2, had3, had4, had5, had6, had7, had8⟩ : ∃ ad : Nat → Nat, (∀ k, k < 1000 → ad k = s.heap.size + k) ∧ ad 1000 = tx ∧ ad 1001 = ty ∧ ad 1002 = b ∧ ad 1004 = aK 0 ∧ ad 1005 = aV 0 ∧ ad 1006 = aK 1 ∧ ad 1007 = aV 1 ∧ ad 1008 = tz := ⟨fun k => if k < 1000 then s.heap.size + k else if k = 1000 then tx else if k = 1001 then ty else if k = 1002 then b else if k = 1004 then aK 0 else if k = 1005 then aV 0 else if k = 1006 then aK 1 else if k = 1007 then aV 1 else tz, fun k hk => if_pos hk, rfl, rfl, rfl, rfl, rfl, rfl, rfl, rfl⟩
  have hstr : ∀ i, i < 2 → (Cond.stringRef "SoarHouse$Tokens" (six i) (stx i)).before #[Value.ref b] s = true := h01 (hts _ (chk_ok (w := fun _ : Unit => .stringRef "SoarHouse$Tokens" 68 "row lift wind top wall above from to field road glider sink handicap score and or not done legs time best first walls rounded ") (ps := fun _ => 718) (es := [()]) (by decide +kernel) () List.mem_cons_self)) (hts _ (chk_ok (w := fun _ : Unit => .stringRef "SoarHouse$Tokens" 60 ";()<>=+-*/") (ps := fun _ => 771) (es := [()]) (by decide +kernel) () List.mem_cons_self))
  obtain ⟨ca, e0, e1, e2, e3⟩ : ∃ ca : Nat → ClassId, ca 0 = c0 ∧ ca 1 = c1 ∧ ca 2 = c2 ∧ ca 3 = c3 := ⟨fun t => if t = 0 then c0 else if t = 1 then c1 else if t = 2 then c2 else c3, rfl, rfl, rfl, rfl⟩
  subst e0 e1 e2 e3
  have hKU : KU (((fun c => (f c).1), fun c => (f c).2), ca, ad, s.heap.size) s := by
    refine ⟨⟨fun c q hq => ?_, fun k q hq => ?_⟩, fun w hw hn => va_Nw.of (isNe_on hn) (hts w hw), fun i hi => vk_R.of (A := #[Value.ref b]) (hstr i hi) ?_⟩
    · have hc := vw_len hq
      rw [cl_ok c hc] at hq
      cases hq
      exact hf c hc
    · match k, hq with
      | 0, hq => cases hq; exact hc0
      | 1, hq => cases hq; exact hc1
      | 2, hq => cases hq; exact hc2
      | 3, hq => cases hq; exact hc3
      | k + 4, hq => simp [tysE] at hq
    · rcases (by omega : i = 0 ∨ i = 1) with rfl | rfl
      · show _ = some (Value.ref (ad 1004))
        rw [had4]
        exact hKe 0 (by omega)
      · show _ = some (Value.ref (ad 1006))
        rw [had6]
        exact hKe 1 (by omega)
  have hln : aln (laM L xs z) 0 1002 0 = (L : Int) := by unfold aln laM; rfl
  have hRO : ROk (((fun c => (f c).1), fun c => (f c).2), ca, ad, s.heap.size) (laM L xs z) s s.heap := by
    refine ⟨fun a g1 g2 => ?_, by rw [hln]; omega, fun k hk2 => ?_, fun i hi => ?_, hCS, ?_, ?_⟩
    · rcases (by omega : a = 1000 ∨ a = 1001 ∨ a = 1002) with rfl | rfl | rfl
      · show va_T .int (ad 1000) _ _ _ s s.heap
        rw [had1]
        exact hx2
      · show va_T .int (ad 1001) _ _ _ s s.heap
        rw [had2]
        exact hy2
      · show va_T .int (ad 1002) _ _ _ s s.heap
        rw [had3, hln]
        obtain ⟨scr, h1, h2, h3, h4, h5⟩ := hX
        refine ⟨scr, h1, h2, h3, by rw [h4, Int.toNat_natCast]; exact Nat.le_refl _, by rw [h4, Int.toNat_natCast], fun j hj => ?_, hA b hbl⟩
        rw [Int.toNat_natCast] at hj
        rw [h5 j hj]
        show _ = some (Value.int (Int32.ofInt (xs j).toInt))
        rw [Int32.ofInt_toInt]
    · rcases (by omega : k = 0 ∨ k = 1) with rfl | rfl
      · show va_Z "SoarHouse" "DX" "[I" (.ref (ad 1000)) _ s s.heap
        rw [had1]
        exact va_Zref (args := #[Value.ref b]) (hts (.laysStatic "SoarHouse" "DX" "[I") (chk_ok (w := fun _ : Unit => .laysStatic "SoarHouse" "DX" "[I") (ps := fun _ => 414) (es := [()]) (by decide +kernel) () List.mem_cons_self)) (hts (.initialized "SoarHouse") (chk_ok (w := fun _ : Unit => .initialized "SoarHouse") (ps := fun _ => 188) (es := [()]) (by decide +kernel) () List.mem_cons_self)) hx1 hA
      · show va_Z "SoarHouse" "DY" "[I" (.ref (ad 1001)) _ s s.heap
        rw [had2]
        exact va_Zref (args := #[Value.ref b]) (hts (.laysStatic "SoarHouse" "DY" "[I") (chk_ok (w := fun _ : Unit => .laysStatic "SoarHouse" "DY" "[I") (ps := fun _ => 416) (es := [()]) (by decide +kernel) () List.mem_cons_self)) (hts (.initialized "SoarHouse") (chk_ok (w := fun _ : Unit => .initialized "SoarHouse") (ps := fun _ => 188) (es := [()]) (by decide +kernel) () List.mem_cons_self)) hy1 hA
    · rcases (by omega : i = 0 ∨ i = 1) with rfl | rfl
      · obtain ⟨g1, g2, g3, g4⟩ := hSt.1 0 (by omega)
        show va_O "java/lang/String" (ad 1004) _ s s.heap ∧ va_OF "java/lang/String" "coder" "B" (.int 0) (ad 1004) _ s s.heap ∧ va_OF "java/lang/String" "value" "[B" (.ref (ad 1005)) (ad 1004) _ s s.heap ∧ va_T .byte (ad 1005) 126 (fun k => .int (Int32.ofInt (sbv 0 k).toInt)) _ s s.heap
        rw [had4, had5]
        refine ⟨g1, g2, g3, ?_⟩
        rw [show (fun k => Value.int (Int32.ofInt (sbv 0 k).toInt)) = (fun k => Value.int (sbv 0 k)) from funext (fun k => by rw [Int32.ofInt_toInt])]
        exact g4
      · obtain ⟨g1, g2, g3, g4⟩ := hSt.1 1 (by omega)
        show va_O "java/lang/String" (ad 1006) _ s s.heap ∧ va_OF "java/lang/String" "coder" "B" (.int 0) (ad 1006) _ s s.heap ∧ va_OF "java/lang/String" "value" "[B" (.ref (ad 1007)) (ad 1006) _ s s.heap ∧ va_T .byte (ad 1007) 10 (fun k => .int (Int32.ofInt (sbv 1 k).toInt)) _ s s.heap
        rw [had6, had7]
        refine ⟨g1, g2, g3, ?_⟩
        rw [show (fun k => Value.int (Int32.ofInt (sbv 1 k).toInt)) = (fun k => Value.int (sbv 1 k)) from funext (fun k => by rw [Int32.ofInt_toInt])]
        exact g4
    · have e : cv ad (vr ((laM L xs z) 1009 0).toNat) = (if z = 0 then Value.null else Value.ref tz) := by
        rcases hz with rfl | rfl
        · rfl
        · show Value.ref (ad 1008) = _
          rw [had8]
          rfl
      show va_Z "jdk/internal/util/Preconditions" "SIOOBE_FORMATTER" "Ljava/util/function/BiFunction;" (cv ad (vr ((laM L xs z) 1009 0).toNat)) _ s s.heap
      rw [e]
      exact hSI
    · exact hz
  have hslot : slL (0 + mC 325) - slL 0 ≤ room_1.slots := by decide +kernel
  have F : Fx (((fun c => (f c).1), fun c => (f c).2), ca, ad, s.heap.size) 325 0 61 (laM L xs z) p room_1 s m #[Value.ref b] meth c :=
    ⟨hx, hb, hml, hown, fun w hw _ => hts w hw, hKU, hRO, fun h => absurd h (by decide +kernel), ⟨by decide +kernel, hslot⟩, ⟨by decide +kernel, by decide +kernel⟩, rfl, had0, by omega, by decide +kernel⟩
  have hJ := la_go (laM L xs z) (laM_9 hL xs z) laM_T
  have hS := hJ (Sm (((fun c => (f c).1), fun c => (f c).2), ca, ad, s.heap.size) 325 0 (laM L xs z) p l e room_1 s m #[Value.ref b] below meth c (lw_Z below #[Value.ref b] s)) (stp_snd F (OJ_ok l 60) (Nat.le_refl _) ?_ ?_ ?_)
  · have hlr := (ent_lr (ad := ad) (i := 325) (a := [vr 1003]) (by decide +kernel)).1
    rw [lg_entry_eq]
    have e5 : ([vr 1003] : List pv).map (cv ad) = [Value.ref b] := by show [Value.ref (ad 1002)] = _; rw [had3]
    rw [e5] at hlr
    exact hS (Nat.le_refl _) (Nat.zero_le _) (fun v hv => by simp at hv; subst hv; show 1003 ≤ 5000; omega) (fun v hv => by cases hv) (laM_wf (by omega) xs hz) (fun _ _ => rfl) rfl s.heap [] _ hlr (fun k q h => by simp [wsO] at h) va_S.rf
  · intro pc x M' H locs ls hd _ _ hq _ _ hw hSS
    have hq : x = 1 := by cases hq; rfl
    subst hq
    refine va_forget (fun q hq => hSS.2.2 q hq) ?_
    refine W.widen (k := 600000) (n := 7302249) (by decide +kernel) (by decide +kernel) ?_
    exact lw_ret hx hb hr hlocks hd
  · intro pc x M' H locs ls hd hm
    exact absurd hm (by decide +kernel)
  · intro pc M' H locs ls hd hm
    exact absurd hm (by decide +kernel)
set_option maxHeartbeats 4000000 in
theorem lw_walk (l : Launch) (b : Addr) (xs : List Int32) : MetFree l x (headSpec (Jvm.Cond.code x code maxLocals ret :: tables_1) room_1) (lw_P b xs) (fun _ _ _ _ _ => True) lw_Q := by
  refine MetFree.of_bodyS (code := code) (maxLocals := maxLocals) (ret := ret) (by decide) ?_ ?_
  · intro args s m h hn
    obtain ⟨meth, c, h1, h2, h3, h4, h5, h6, -, -⟩ := Cond.code_spec hn (atoms_spec (ws := Jvm.Cond.code x code maxLocals ret :: tables_1) h _ List.mem_cons_self)
    exact ⟨meth, c, h1, h2, h3, h4, h5, h6⟩
  · intro p e s m args below meth c s₁ B hml0 hP _
    obtain ⟨rfl, hx, hbd, hgv⟩ := hP
    obtain ⟨scr, harrAt, hlist, hof, hsmall⟩ := hx
    obtain ⟨hcb, hkn, -, -⟩ := State.arrayAt?_spec harrAt
    have hown : s.vm.findClass R_law = some m.cls := findClass_of_methodNamed B.named
    have hts0 : ∀ c ∈ (Jvm.Cond.code x code maxLocals ret :: tables_1), c.before #[Value.ref b] s = true := atoms_spec (ws := Jvm.Cond.code x code maxLocals ret :: tables_1) B.pre
    have hts : ∀ w ∈ lw_tbl, w.before #[Value.ref b] s = true := k2_hts_sels lw_privs (fun w hw => hts0 w (List.mem_cons_of_mem _ hw)) lw_privs_ok
    have hml : c.maxLocals = 4 := B.maxLocals_eq (hts0 _ List.mem_cons_self)
    have X₀ : Stand p l e room_1 s m #[Value.ref b] below meth c s₁ [] 0 0 := Stand.of_body B
    have hh0 : s₁.heap = s.heap := by rw [B.state]; rfl
    have hsz : scr.slots.size = xs.length := by rw [← Array.length_toList, hlist, List.length_map]
    have hval : ∀ j : Nat, j < xs.length → scr.slots[j]? = some (.int (xs.getD j 0)) := fun j hj => by
      rw [← Array.getElem?_toList, hlist]
      simp [hj]
    have hbl : b < s.heap.size := (Array.getElem?_eq_some_iff.mp hcb).1
    have hX : va_X b xs.length (fun j => xs.getD j 0) s s.heap := ⟨scr, hcb, hof, hkn, hsz, hval⟩
    have K : W p l e room_1 s m #[Value.ref b] below meth c s₁.heap [] 0 0 (lw_Z below #[Value.ref b] s) (entryFrame m ([Value.ref b] : List Value).toArray 4) := by
      rw [hh0]
      exact whole_start l hbd ⟨B.exec, B.bytes, B.returns, hml, hown, hts, hX, hbl, B.notSynchronized, hgv⟩
    obtain ⟨t, a1, o, b1, b2, b3⟩ := K s₁ rfl X₀
    exact ⟨t, o, a1, b1, b2, b3⟩
theorem lw_pre_spec {args : Array Value} {s : State} (h : (Jvm.Cond.and given_1 narrow_1).before args s = true) (hr : rest_1_c.before args s = true) : ∃ (b : Addr) (xs : List Int32), lw_P b xs args s := by
  have hs := flat_of_before _ h
  have hq := flat_of_before _ hr
  have hc : (Cond.count 1).before args s = true := hs _ (by decide +kernel)
  have harr : (Cond.arrayOf (.arg 0) .int).before args s = true := hs _ (by decide +kernel)
  have hle : (Cond.le (.length (.arg 0)) (.int 3584)).before args s = true := hs _ (by decide +kernel)
  have hlen : (Cond.isInt (.length (.arg 0))).before args s = true := hq _ (by decide +kernel)
  have hall : (Cond.all (.arg 0) (.isInt (.elem (.arg 0) (.index 0)))).before args s = true := hq _ (by decide +kernel)
  obtain ⟨b, xs, hb, hx⟩ := State.ints_of_pre rfl harr hlen hall
  have hsm : xs.length < 2 ^ 31 := hx.choose_spec.2.2.2
  have hev : (Term.length (.arg 0)).eval args s none [] s = some (.int xs.length.toInt32) := hx.length_eval hb
  have hv := Cond.le_ints hev (show (Term.int 3584).eval args s none [] s = some (.int 3584) from rfl)
  have hd : xs.length.toInt32 ≤ 3584 := by
    simpa [Cond.before, Cond.holds, hv] using hle
  have hN : xs.length ≤ 3584 := (Int32.ofNat_le_ofNat hsm (by decide)).mp (show Int32.ofNat xs.length ≤ Int32.ofNat 3584 from hd)
  exact ⟨b, xs, Cond.one_arg hc (show args[0]? = some (.ref b) from hb), hx, hN, h⟩
theorem lw_comes (l : Launch) : Comes l x (Jvm.Cond.code x code maxLocals ret :: tables_1) room_1 (fun tb e args s => Calls_1 tb e args s ∧ rest_1 tb e args s ∧ Pre_1 tb e args s)
    (fun _ _ args s o t => lw_Q args s o t) := by
  intro p e ha hc hk s m args below hf hfit hheap happ hpre
  obtain ⟨b, xs, hP⟩ := lw_pre_spec hpre.2.2 hpre.2.1
  obtain ⟨k, o, h1, h2, h3, hQ⟩ := lw_walk l b xs p e ha hc hk s m args below hf ((Spec.applies_iff_loose hf).mp happ).1 hP trivial
  exact ⟨k, o, h1, h2, h3, hQ⟩
theorem lw_frame {s t : State} {o : Outcome} {args : Array Value} (h : Framed s o t [] 600000 7302249) :
    Framed s o t (fieldLocs frame_1_writes args s ++ arrayLocs frame_1_arrays args s ++ staticLocs frame_1_statics s) 600000 7302249 := h
theorem lw_limb (L : Cond) (hL : ∀ (args : Array Value) (s t : State), L.after args s (.returned (some (.int 1))) t = true) :
    ArmFor flags0 classFile x code maxLocals ret World_1 tables_1 room_1 Calls_1 rest_1 Pre_1
      (fun tb e a s o t => postC L tb e a s o t ∧ Framed s o t (fieldLocs frame_1_writes a s ++ arrayLocs frame_1_arrays a s ++ staticLocs frame_1_statics s) 600000 7302249) := by
  intro l _ _ _ p e ha hc hk s m args below hf hfit hheap happ hpre
  obtain ⟨k, o, h1, h2, h3, rfl, hF⟩ := lw_comes l p e ha hc hk s m args below hf hfit hheap happ hpre
  exact ⟨k, _, h1, h2, h3, hL args s _, lw_frame hF⟩
theorem i_vc : Claimed_1_1 ∧ Claimed_1_2 := ⟨lw_limb limb_1_1 (fun args s t => by simp [limb_1_1, Cond.after, Cond.holds, Cond.value]), lw_limb limb_1_2 (fun args s t => Cond.after_iff.mpr (by
  first | (rw [show limb_1_2 = Cond.eq .result (.int 1) from rfl, Cond.eq_ints (x := 1) (y := 1) rfl rfl]; simp; done) | (simp [limb_1_2, Cond.value, Term.eval]; done)))⟩
