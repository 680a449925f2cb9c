/-! ===== the tables' words stand where the tables say ===== -/
def cT (ci : Nat) : u_T := (vwCl.getD ci ("", TX0, 0)).2.1
def cN (ci : Nat) : Nat := (vwCl.getD ci ("", TX0, 0)).2.2
def fldW (q : Nat × Nat × Nat × Nat × Nat × Nat) : Cond :=
  if q.2.2.2.2.2 = 1 then .fieldLinkNest (RN q.1) q.2.1 (cT q.2.2.1 q.2.2.2.1).1 (cT q.2.2.1 q.2.2.2.1).2.1 (cT q.2.2.1 q.2.2.2.1).2.2.1 "SoarHouse"
  else .fieldLink (RN q.1) q.2.1 (cT q.2.2.1 q.2.2.2.1).1 (cT q.2.2.1 q.2.2.2.1).2.1 (cT q.2.2.1 q.2.2.2.1).2.2.1
def calW (q : Nat × Nat × Nat × Nat × Nat × Nat) : Cond :=
  if q.2.2.2.2.2 = 1 then .methodLinkNest (RN q.1) q.2.1 (mY q.2.2.2.1) "SoarHouse" else .methodLink (RN q.1) q.2.1 (mY q.2.2.2.1)
def mp (j : Nat) : Nat × Nat × Nat × Nat := mpL.getD j (0, 0, 0, 0)
def isSt (j : Nat) : Bool := stL.contains j
def chF {α : Type} : Nat → List α → List (List α)
  | 0, l => [l]
  | k + 1, l => l.take 64 :: chF k (l.drop 64)
theorem chF_f {α : Type} : ∀ (k : Nat) (l : List α), (chF k l).flatten = l
  | 0, l => by
    unfold chF
    rw [List.flatten_cons, List.flatten_nil, List.append_nil]
  | k + 1, l => by
    unfold chF
    rw [List.flatten_cons, chF_f k, List.take_append_drop]
def chk {α : Type} (w : α → Cond) (ps : α → Nat) (tb : List Cond) (es : List α) : Bool := es.all (fun q => match ((chF 80 tb).getD (ps q / 64) []).drop (ps q % 64) with
  | [] => false
  | c :: _ => decide (c = w q))
theorem chk_ok {α : Type} {w : α → Cond} {ps : α → Nat} {tb : List Cond} {es : List α} (h : chk w ps tb es = true) : ∀ q ∈ es, w q ∈ tb := by
  intro q hq
  have h1 := List.all_eq_true.mp h q hq
  cases hd : ((chF 80 tb).getD (ps q / 64) []).drop (ps q % 64) with
  | nil => rw [hd] at h1; cases h1
  | cons c cs =>
    rw [hd] at h1
    have h2 : c = w q := of_decide_eq_true h1
    have h3 : c ∈ (chF 80 tb).getD (ps q / 64) [] := List.mem_of_mem_drop (i := ps q % 64) (by rw [hd]; exact List.mem_cons_self)
    have h4 := getD_mm h3
    rw [chF_f] at h4
    rw [← h2]
    exact h4
theorem fld_in0 : chk fldW (fun q => q.2.2.2.2.1) lw_tbl fldL = true := by decide +kernel
theorem cal_in0 : chk calW (fun q => q.2.2.2.2.1) lw_tbl calL = true := by decide +kernel
theorem fld_rg : ∀ q ∈ fldL, q.2.2.2.1 < cN q.2.2.1 ∧ q.2.2.1 < 13 := by decide +kernel
theorem cal_rg : ∀ q ∈ calL, q.2.2.2.1 < 325 ∧ q.2.2.1 < 3 ∧ (q.2.2.1 = 1 ↔ isSt q.2.2.2.1 = true) ∧ (q.2.2.1 = 2 ↔ (mY q.2.2.2.1).name = "<init>") := by decide +kernel
theorem mst_in0 : chk (fun j => if isSt j then .static (mY j) else .instanceMethod (mY j)) (fun j => (mp j).2.1) lw_tbl (List.range 325) = true := by decide +kernel
theorem mse_in0 : chk (fun j => .selects (mY j).cls (mY j) (mY j)) (fun j => (mp j).2.2.1) lw_tbl ((List.range 325).filter (fun j => !isSt j && !decide ((mY j).name = "<init>"))) = true := by decide +kernel
theorem min_in0 : chk (fun j => .initialized (mY j).cls) (fun j => (mp j).2.2.2) lw_tbl (List.range 325) = true := by decide +kernel
theorem mnm_ok : ∀ j, j < 325 → (mY j).cls ≠ "java/lang/invoke/MethodHandle" ∧ (mY j).cls ≠ "java/lang/invoke/VarHandle" ∧ (parseMethodDescriptor (mY j).desc).map (fun d => d.parameters.length) = some (mA j) := by decide +kernel
theorem mow_ok : ∀ j, j < 325 → (mY j).cls = RN (mO j) := by decide +kernel
theorem obi_in0 : chk (fun q : Nat × Nat × Nat => .methodLink (RN q.1) q.2.1 Lib.objectInit) (fun q => q.2.2) lw_tbl obiL = true := by decide +kernel
theorem cn_in0 : chk (fun q : Nat × Nat × Int × Nat => .constant (RN q.1) q.2.1 (Int32.ofInt q.2.2.1)) (fun q => q.2.2.2) lw_tbl cnL = true := by decide +kernel
theorem cn_rg : ∀ q ∈ cnL, -2147483648 ≤ q.2.2.1 ∧ q.2.2.1 ≤ 2147483647 := by decide +kernel
theorem cln_in0 : chk (fun q : Nat × Nat × Int × Nat => .constantLong (RN q.1) q.2.1 (Int64.ofInt q.2.2.1)) (fun q => q.2.2.2) lw_tbl clnL = true := by decide +kernel
theorem cln_rg : ∀ q ∈ clnL, -9223372036854775808 ≤ q.2.2.1 ∧ q.2.2.1 ≤ 9223372036854775807 := by decide +kernel
theorem new_in1 : chk (fun q : Nat × Nat × Nat × Nat × Nat × Nat × Nat => .classLink (RN q.1) q.2.1 (RN q.2.2.1)) (fun q => q.2.2.2.2.1) lw_tbl newL = true := by decide +kernel
theorem new_in2 : chk (fun q : Nat × Nat × Nat × Nat × Nat × Nat × Nat => .instantiable (RN q.2.2.1) (cN q.2.2.1)) (fun q => q.2.2.2.2.2.1) lw_tbl newL = true := by decide +kernel
theorem new_in3 : chk (fun q : Nat × Nat × Nat × Nat × Nat × Nat × Nat => .initialized (RN q.2.2.1)) (fun q => q.2.2.2.2.2.2) lw_tbl newL = true := by decide +kernel
theorem new_rg : ∀ q ∈ newL, q.2.2.1 < 13 := by decide +kernel
def ckL : List (Nat × Nat) := (List.range 13).flatMap (fun c => (List.range (cN c)).map (fun k => (c, k)))
theorem lay_in0 : chk (fun q : Nat × Nat => u_lay (RN q.1) (cT q.1) q.2) (fun q => (lyL.getD q.1 []).getD q.2 0) lw_tbl ckL = true := by decide +kernel
theorem ac_in0 : chk (fun q : Nat × FieldType => .arrayClass q.2) (fun q => acL.getD q.1 0) lw_tbl [(0, .int), (1, .long), (2, .byte), (3, .boolean)] = true := by decide +kernel
theorem obj_in : Cond.instanceMethod Lib.objectInit ∈ lw_tbl ∧ Cond.code Lib.objectInit ⟨#[0xb1]⟩ 1 none ∈ lw_tbl := ⟨chk_ok (w := fun _ : Unit => .instanceMethod Lib.objectInit) (ps := fun _ => 217) (es := [()]) (by decide +kernel) () List.mem_cons_self, chk_ok (w := fun _ : Unit => .code Lib.objectInit ⟨#[0xb1]⟩ 1 none) (ps := fun _ => 218) (es := [()]) (by decide +kernel) () List.mem_cons_self⟩
theorem cl_ok : ∀ c, c < 13 → vwCl[c]? = some (RN c, cT c, cN c) := by
  intro c hc
  rcases c with _ | _ | _ | _ | _ | _ | _ | _ | _ | _ | _ | _ | _ | c <;> first | rfl | omega
theorem ty_ok : ∀ c, c < 13 → ∀ k, k < cN c → parseFieldDescriptor (cT c k).2.2.1 = some (tyA c k) := by
  intro c hc
  rcases c with _ | _ | _ | _ | _ | _ | _ | _ | _ | _ | _ | _ | _ | c
  · exact tyX0_ok
  · exact tyX1_ok
  · exact tyX2_ok
  · exact tyX3_ok
  · exact tyX4_ok
  · exact tyX5_ok
  · exact tyX6_ok
  · exact tyX7_ok
  · exact tyX8_ok
  · exact tyX9_ok
  · exact tyX10_ok
  · exact tyX11_ok
  · exact tyX12_ok
  · omega
theorem nm_ok : ∀ c, c < 13 → ∀ a, a < cN c → ∀ b, b < cN c → a ≠ b → (cT c a).2.1 ≠ (cT c b).2.1 := by
  intro c hc
  rcases c with _ | _ | _ | _ | _ | _ | _ | _ | _ | _ | _ | _ | _ | c
  · exact nmX0
  · exact nmX1
  · exact nmX2
  · exact nmX3
  · exact nmX4
  · exact nmX5
  · exact nmX6
  · exact nmX7
  · exact nmX8
  · exact nmX9
  · exact nmX10
  · exact nmX11
  · exact nmX12
  · omega
