/-- getstatic: own class, index, 0 DX 1 DY, place of the word -/
def gsL : List (Nat × Nat × Nat × Nat) := [(11, 341, 0, 413), (11, 344, 1, 415), (4, 83, 0, 1070), (4, 86, 1, 1071)]
/-- System.arraycopy: own class, index, place of the word -/
def acpL : List (Nat × Nat × Nat) := [(10, 57, 1477)]
/-- ldc of a text: own class, index, which text, place of the word -/
def strL : List (Nat × Nat × Nat × Nat) := [(7, 68, 0, 718), (7, 60, 1, 771)]
/-- fields of a text: own class, index, 0 value 1 coder, place of the word -/
def sfL : List (Nat × Nat × Nat × Nat) := [(14, 9, 0, 2282), (14, 15, 1, 2283)]
/-- statics of the JDK: own class, index, 0 COMPACT_STRINGS 1 SIOOBE_FORMATTER, place of the word -/
def gbL : List (Nat × Nat × Nat × Nat) := [(14, 38, 0, 727), (14, 1053, 1, 743)]
def slen (i : Nat) : Nat := if i = 0 then 126 else 10
/-! ===== the pure machine: numbers as Int, cells by their numbers, a step as a predicate's way back ===== -/
abbrev pv : Type := Int ⊕ (Int ⊕ Nat)
abbrev pL : Type := List (Option pv)
abbrev pM : Type := Nat → Nat → Int
abbrev pQ : Type := Option pv → pM → Prop
abbrev pO : Type := Nat → List pv → Nat → pM → pQ → Prop
abbrev pP : Type := Nat → pL → List pv → Nat → pM → Prop
abbrev vi (x : Int) : pv := Sum.inl x
abbrev vl (x : Int) : pv := Sum.inr (Sum.inl x)
abbrev vr (k : Nat) : pv := Sum.inr (Sum.inr k)
def r32 (z : Int) : Prop := -2147483648 ≤ z ∧ z ≤ 2147483647
def r64 (z : Int) : Prop := -9223372036854775808 ≤ z ∧ z ≤ 9223372036854775807
def w32 (z : Int) : Int := (z + 2147483648) % 4294967296 - 2147483648
def w64 (z : Int) : Int := (z + 9223372036854775808) % 18446744073709551616 - 9223372036854775808
def w8 (z : Int) : Int := (z + 128) % 256 - 128
def st (M : pM) (k i : Nat) (v : Int) : pM := fun a b => if a = k ∧ b = i then v else M a b
def zr (M : pM) (k : Nat) : pM := fun a b => if a = k then 0 else M a b
def cpy (M : pM) (a b x y k : Nat) : pM := fun c i => if c = b ∧ y ≤ i ∧ i < y + k then M a (x + (i - y)) else M c i
def ob (n a : Nat) : Nat := if a < n then (match SH a with
  | .inl c => c
  | .inr _ => 99) else 99
def alw (n a t : Nat) : Int := if a < n then (match SH a with
  | .inr q => if q.1 = t then (q.2 : Int) else -1
  | .inl _ => -1) else -1
def aln (M : pM) (n a t : Nat) : Int := if a = 1002 ∧ t = 0 then M 1003 0 else if (a = 1000 ∨ a = 1001) ∧ t = 0 then 8 else alw n a t
def tgv (ty : FieldType) (x : Int) : pv := match ty with
  | .long => vl x
  | .object _ => vr x.toNat
  | .array _ => vr x.toNat
  | _ => vi x
/-- a field of a type takes a value as a number -/
def utg (ty : FieldType) (v : pv) (x : Int) : Prop := match ty with
  | .long => v = vl x
  | .object _ => ∃ k, v = vr k ∧ x = (k : Int)
  | .array _ => ∃ k, v = vr k ∧ x = (k : Int)
  | .boolean => v = vi x ∧ (x = 0 ∨ x = 1)
  | .int => v = vi x
  | _ => False
abbrev jC : Type := Jvm.ClassFile.Cond
def cnd (c : jC) (x y : Int) : Prop := match c with
  | .eq => x = y
  | .ne => ¬ x = y
  | .lt => x < y
  | .ge => y ≤ x
  | .gt => y < x
  | .le => x ≤ y
def mo (O : pO) (i : Nat) (a : List pv) (n : Nat) (M : pM) (Q : pQ) : Prop := ∃ Q0, O i a n M Q0 ∧ ∀ r M', Q0 r M' → Q r M'
def catv (v : pv) : Nat := match v with
  | .inr (.inl _) => 2
  | _ => 1
def stk (S : List pv) : Nat := (S.map catv).sum
def clr (o : Option pv) : Option pv := match o with
  | some (.inr (.inl _)) => none
  | x => x
/-- a long whose second half is written over is gone -/
def kil (L : pL) (k : Nat) : pL := match k with
  | 0 => L
  | m + 1 => L.set m (clr (L.getD m none))
def psh (rt : Option FieldType) (r : Option pv) (S S' : List pv) : Prop := match rt with
  | none => r = none ∧ S' = S
  | some .long => ∃ x, r = some (vl x) ∧ S' = vl x :: S
  | some .int => ∃ x, r = some (vi x) ∧ S' = vi x :: S
  | some .boolean => ∃ x, r = some (vi x) ∧ S' = vi x :: S
  | some .char => ∃ x, r = some (vi x) ∧ S' = vi x :: S
  | some .byte => ∃ x, r = some (vi x) ∧ S' = vi x :: S
  | _ => False
def rok (rt : Option FieldType) (x : Int) : Prop := match rt with
  | some .int => True
  | some .boolean => x = 0 ∨ x = 1
  | some .char => 0 ≤ x ∧ x ≤ 65535
  | some .byte => -128 ≤ x ∧ x ≤ 127
  | _ => False
def mth (i : Nat) : Nat := if (mY i).cls = "java/lang/Math" then (if (mY i).name = "max" then 1 else if (mY i).name = "min" then 2 else if (mY i).name = "abs" then 3 else 4) else 0
def iop (i : Instr) : Option (Int → Int → Int) := match i with
  | .iadd => some (fun a b => w32 (a + b))
  | .isub => some (fun a b => w32 (a - b))
  | .imul => some (fun a b => w32 (a * b))
  | .iand => some (fun a b => (Int32.ofInt a &&& Int32.ofInt b).toInt)
  | .ior => some (fun a b => (Int32.ofInt a ||| Int32.ofInt b).toInt)
  | .ixor => some (fun a b => (Int32.ofInt a ^^^ Int32.ofInt b).toInt)
  | .ishl => some (fun a b => (Int32.ofInt a <<< (Int32.ofInt b &&& 31)).toInt)
  | .ishr => some (fun a b => (Int32.ofInt a >>> (Int32.ofInt b &&& 31)).toInt)
  | .iushr => some (fun a b => ((Int32.ofInt a).toUInt32 >>> ((Int32.ofInt b).toUInt32 &&& Int32.toUInt32 31)).toInt32.toInt)
  | _ => none
def lop (i : Instr) : Option (Int → Int → Int) := match i with
  | .ladd => some (fun a b => (Int64.ofInt a + Int64.ofInt b).toInt)
  | .lsub => some (fun a b => (Int64.ofInt a - Int64.ofInt b).toInt)
  | .lmul => some (fun a b => (Int64.ofInt a * Int64.ofInt b).toInt)
  | .land => some (fun a b => (Int64.ofInt a &&& Int64.ofInt b).toInt)
  | .lor => some (fun a b => (Int64.ofInt a ||| Int64.ofInt b).toInt)
  | .lxor => some (fun a b => (Int64.ofInt a ^^^ Int64.ofInt b).toInt)
  | _ => none
/-- the stack behind an instruction that touches nothing else -/
def pur (j : Nat) (i : Instr) (len : Nat) (L : pL) (S S' : List pv) : Prop := match i with
  | .iconst v => len = 1 ∧ r32 v ∧ S' = vi v :: S
  | .bipush v => len = 2 ∧ (-128 ≤ v ∧ v ≤ 127) ∧ S' = vi v :: S
  | .sipush v => len = 3 ∧ (-32768 ≤ v ∧ v ≤ 32767) ∧ S' = vi v :: S
  | .lconst v => len = 1 ∧ S' = vl (v : Nat) :: S
  | .ldc ix => len = 2 ∧ ∃ q ∈ cnL, q.1 = mO j ∧ q.2.1 = ix ∧ S' = vi q.2.2.1 :: S
  | .ldc_w ix => len = 3 ∧ ∃ q ∈ cnL, q.1 = mO j ∧ q.2.1 = ix ∧ S' = vi q.2.2.1 :: S
  | .ldc2_w ix => len = 3 ∧ ∃ q ∈ clnL, q.1 = mO j ∧ q.2.1 = ix ∧ S' = vl q.2.2.1 :: S
  | .iload k => len = 2 ∧ ∃ x, L[k]? = some (some (vi x)) ∧ S' = vi x :: S
  | .iload_n k => len = 1 ∧ ∃ x, L[(k : Nat)]? = some (some (vi x)) ∧ S' = vi x :: S
  | .lload k => len = 2 ∧ ∃ x, L[k]? = some (some (vl x)) ∧ S' = vl x :: S
  | .lload_n k => len = 1 ∧ ∃ x, L[(k : Nat)]? = some (some (vl x)) ∧ S' = vl x :: S
  | .aload k => len = 2 ∧ ∃ x, L[k]? = some (some (vr x)) ∧ S' = vr x :: S
  | .aload_n k => len = 1 ∧ ∃ x, L[(k : Nat)]? = some (some (vr x)) ∧ S' = vr x :: S
  | .dup => len = 1 ∧ ∃ v S0, S = v :: S0 ∧ catv v = 1 ∧ S' = v :: v :: S0
  | .pop => len = 1 ∧ ∃ v S0, S = v :: S0 ∧ catv v = 1 ∧ S' = S0
  | .dup2 => len = 1 ∧ ∃ v u S0, S = v :: u :: S0 ∧ catv v = 1 ∧ catv u = 1 ∧ S' = v :: u :: v :: u :: S0
  | .ineg => len = 1 ∧ ∃ a S0, S = vi a :: S0 ∧ S' = vi (w32 (-a)) :: S0
  | .i2l => len = 1 ∧ ∃ a S0, S = vi a :: S0 ∧ S' = vl a :: S0
  | .l2i => len = 1 ∧ ∃ a S0, S = vl a :: S0 ∧ S' = vi (Int64.ofInt a).toInt32.toInt :: S0
  | .i2b => len = 1 ∧ ∃ a S0, S = vi a :: S0 ∧ S' = vi (w8 a) :: S0
  | .i2c => len = 1 ∧ ∃ a S0, S = vi a :: S0 ∧ S' = vi ((Int32.ofInt a).toUInt32 % 65536).toInt32.toInt :: S0
  | .idiv => len = 1 ∧ ∃ a b S0, S = vi b :: vi a :: S0 ∧ ¬ b = 0 ∧ S' = vi (w32 (a.tdiv b)) :: S0
  | .irem => len = 1 ∧ ∃ a b S0, S = vi b :: vi a :: S0 ∧ ¬ b = 0 ∧ S' = vi (a.tmod b) :: S0
  | .lcmp => len = 1 ∧ ∃ a b S0, S = vl b :: vl a :: S0 ∧ S' = vi (if b < a then 1 else if a = b then 0 else -1) :: S0
  | .lshl => len = 1 ∧ ∃ a b S0, S = vi b :: vl a :: S0 ∧ S' = vl (Int64.ofInt a <<< ((Int32.ofInt b).toInt64 &&& 63)).toInt :: S0
  | .lshr => len = 1 ∧ ∃ a b S0, S = vi b :: vl a :: S0 ∧ S' = vl (Int64.ofInt a >>> ((Int32.ofInt b).toInt64 &&& 63)).toInt :: S0
  | .lushr => len = 1 ∧ ∃ a b S0, S = vi b :: vl a :: S0 ∧ S' = vl ((Int64.ofInt a).toUInt64 >>> ((Int32.ofInt b).toInt64.toUInt64 &&& Int64.toUInt64 63)).toInt64.toInt :: S0
  | _ => len = 1 ∧ ((∃ f a b S0, iop i = some f ∧ S = vi b :: vi a :: S0 ∧ S' = vi (f a b) :: S0) ∨ ∃ f a b S0, lop i = some f ∧ S = vl b :: vl a :: S0 ∧ S' = vl (f a b) :: S0)
/-- the locals and the stack behind a store -/
def sto (i : Instr) (len : Nat) (L L' : pL) (S S' : List pv) : Prop := match i with
  | .istore k => len = 2 ∧ ∃ x, S = vi x :: S' ∧ k < L.length ∧ L' = (kil L k).set k (some (vi x))
  | .istore_n k => len = 1 ∧ ∃ x, S = vi x :: S' ∧ (k : Nat) < L.length ∧ L' = (kil L k).set k (some (vi x))
  | .astore k => len = 2 ∧ ∃ x, S = vr x :: S' ∧ k < L.length ∧ L' = (kil L k).set k (some (vr x))
  | .astore_n k => len = 1 ∧ ∃ x, S = vr x :: S' ∧ (k : Nat) < L.length ∧ L' = (kil L k).set k (some (vr x))
  | .lstore k => len = 2 ∧ ∃ x, S = vl x :: S' ∧ k + 1 < L.length ∧ L' = ((kil L k).set k (some (vl x))).set (k + 1) none
  | .lstore_n k => len = 1 ∧ ∃ x, S = vl x :: S' ∧ (k : Nat) + 1 < L.length ∧ L' = ((kil L k).set k (some (vl x))).set (k + 1) none
  | .iinc k c => len = 3 ∧ r32 c ∧ ∃ x, L[k]? = some (some (vi x)) ∧ S' = S ∧ L' = (kil L k).set k (some (vi (w32 (x + c))))
  | _ => False
def atg (t : ArrayType) : Nat := match t with
  | .long => 1
  | .byte => 2
  | .boolean => 3
  | _ => 0
def sx (O : pO) (j n0 : Nat) (Q : pQ) (P : pP) (pc : Nat) (L : pL) (S : List pv) (n : Nat) (M : pM) (i : Instr) (len : Nat) : Prop := match i with
  | .istore _ => ∃ L' S', sto i len L L' S S' ∧ P (pc + len) L' S' n M
  | .istore_n _ => ∃ L' S', sto i len L L' S S' ∧ P (pc + len) L' S' n M
  | .astore _ => ∃ L' S', sto i len L L' S S' ∧ P (pc + len) L' S' n M
  | .astore_n _ => ∃ L' S', sto i len L L' S S' ∧ P (pc + len) L' S' n M
  | .lstore _ => ∃ L' S', sto i len L L' S S' ∧ P (pc + len) L' S' n M
  | .lstore_n _ => ∃ L' S', sto i len L L' S S' ∧ P (pc + len) L' S' n M
  | .iinc _ _ => ∃ L' S', sto i len L L' S S' ∧ P (pc + len) L' S' n M
  | .ifCond c off => len = 3 ∧ ∃ x S' tgt, S = vi x :: S' ∧ (pc : Int) + off = (tgt : Nat) ∧ (cnd c x 0 → P tgt L S' n M) ∧ (¬ cnd c x 0 → P (pc + 3) L S' n M)
  | .if_icmp c off => len = 3 ∧ ∃ x y S' tgt, S = vi y :: vi x :: S' ∧ (pc : Int) + off = (tgt : Nat) ∧ (cnd c x y → P tgt L S' n M) ∧ (¬ cnd c x y → P (pc + 3) L S' n M)
  | .goto off => len = 3 ∧ ∃ tgt : Nat, (pc : Int) + off = (tgt : Nat) ∧ P tgt L S n M
  | .tableswitch d lo hi offs => ∃ x S', S = vi x :: S' ∧ (∀ tgt : Nat, (x < lo ∨ hi < x) → (pc : Int) + d = tgt → P tgt L S' n M) ∧ (∃ t : Nat, (pc : Int) + d = t) ∧
      ∀ k : Nat, x = lo + k → x ≤ hi → ∃ off, offs[k]? = some off ∧ ∃ tgt : Nat, (pc : Int) + off = tgt ∧ P tgt L S' n M
  | .lookupswitch d ps => (ps.toList.zip (ps.toList.drop 1)).all (fun (a, next) => a.1 < next.1) = true ∧ ∃ x S', S = vi x :: S' ∧ ∃ tgt : Nat, (pc : Int) + Op.lookupswitch.offset ps.toList d x = tgt ∧ P tgt L S' n M
  | .getfield ix => len = 3 ∧ ∃ q ∈ fldL, q.1 = mO j ∧ q.2.1 = ix ∧ ∃ a S', S = vr (a + 1) :: S' ∧ ob n a = q.2.2.1 ∧ P (pc + 3) L (tgv (tyA q.2.2.1 q.2.2.2.1) (M a q.2.2.2.1) :: S') n M
  | .putfield ix => len = 3 ∧ ∃ q ∈ fldL, q.1 = mO j ∧ q.2.1 = ix ∧ ((cT q.2.2.1 q.2.2.2.1).2.2.2 = false ∨ ((mY j).name = "<init>" ∧ q.2.2.1 = mO j ∧ q.2.2.2.2.2 = 0)) ∧ ∃ a v x S', S = v :: vr (a + 1) :: S' ∧ ob n a = q.2.2.1 ∧ utg (tyA q.2.2.1 q.2.2.2.1) v x ∧ P (pc + 3) L S' n (st M a q.2.2.2.1 x)
  | .getstatic ix => len = 3 ∧ ∃ q ∈ gsL, q.1 = mO j ∧ q.2.1 = ix ∧ P (pc + 3) L (vr (1001 + q.2.2.1) :: S) n M
  | .iaload => len = 1 ∧ ∃ x a S', S = vi x :: vr (a + 1) :: S' ∧ 0 ≤ x ∧ x < aln M n a 0 ∧ P (pc + 1) L (vi (M a x.toNat) :: S') n M
  | .laload => len = 1 ∧ ∃ x a S', S = vi x :: vr (a + 1) :: S' ∧ 0 ≤ x ∧ x < alw n a 1 ∧ P (pc + 1) L (vl (M a x.toNat) :: S') n M
  | .baload => len = 1 ∧ ∃ x a S', S = vi x :: vr (a + 1) :: S' ∧ 0 ≤ x ∧ (x < alw n a 2 ∨ x < alw n a 3) ∧ P (pc + 1) L (vi (M a x.toNat) :: S') n M
  | .iastore => len = 1 ∧ ∃ v x a S', S = vi v :: vi x :: vr (a + 1) :: S' ∧ 0 ≤ x ∧ x < alw n a 0 ∧ P (pc + 1) L S' n (st M a x.toNat v)
  | .lastore => len = 1 ∧ ∃ v x a S', S = vl v :: vi x :: vr (a + 1) :: S' ∧ 0 ≤ x ∧ x < alw n a 1 ∧ P (pc + 1) L S' n (st M a x.toNat v)
  | .bastore => len = 1 ∧ ∃ v x a S', S = vi v :: vi x :: vr (a + 1) :: S' ∧ 0 ≤ x ∧ ((x < alw n a 2 ∧ P (pc + 1) L S' n (st M a x.toNat (w8 v))) ∨ (x < alw n a 3 ∧ (v = 0 ∨ v = 1) ∧ P (pc + 1) L S' n (st M a x.toNat v)))
  | .arraylength => len = 1 ∧ ∃ a S' t, S = vr (a + 1) :: S' ∧ 0 ≤ aln M n a t ∧ P (pc + 1) L (vi (aln M n a t) :: S') n M
  | .newarray t => len = 2 ∧ ∃ x S', S = vi x :: S' ∧ n < NCELL ∧ n + 1 ≤ n0 + mC j ∧ SH n = .inr (atg t, x.toNat) ∧ (t = .int ∨ t = .long ∨ t = .byte ∨ t = .boolean) ∧ 0 ≤ x ∧ x ≤ 1000000 ∧ P (pc + 2) L (vr (n + 1) :: S') (n + 1) (zr M n)
  | .new ix => len = 3 ∧ ∃ q ∈ newL, q.1 = mO j ∧ q.2.1 = ix ∧ n < NCELL ∧ n + 1 ≤ n0 + mC j ∧ SH n = .inl q.2.2.1 ∧ P (pc + 3) L (vr (n + 1) :: S) (n + 1) (zr M n)
  | .invokevirtual ix => len = 3 ∧ ∃ q ∈ calL, q.1 = mO j ∧ q.2.1 = ix ∧ q.2.2.1 = 0 ∧ ∃ As b S', S = As.reverse ++ vr (b + 1) :: S' ∧ As.length = mA q.2.2.2.1 ∧ ob n b = mO q.2.2.2.1 ∧ stk S' ≤ 8 ∧ mC q.2.2.2.1 = 0 ∧ mo O q.2.2.2.1 (vr (b + 1) :: As) n M (fun r M' => ∃ S'', psh (mR q.2.2.2.1) r S' S'' ∧ P (pc + 3) L S'' n M')
  | .invokestatic ix => len = 3 ∧ ((∃ q ∈ calL, q.1 = mO j ∧ q.2.1 = ix ∧ q.2.2.1 = 1 ∧
      ((mth q.2.2.2.1 = 0 ∧ ∃ As S', S = As.reverse ++ S' ∧ As.length = mA q.2.2.2.1 ∧ stk S' ≤ 8 ∧ mC q.2.2.2.1 = 0 ∧ mo O q.2.2.2.1 As n M (fun r M' => ∃ S'', psh (mR q.2.2.2.1) r S' S'' ∧ P (pc + 3) L S'' n M')) ∨
       (mth q.2.2.2.1 = 1 ∧ ∃ a b S', S = vi b :: vi a :: S' ∧ stk S' ≤ 8 ∧ P (pc + 3) L (vi (if a < b then b else a) :: S') n M) ∨
       (mth q.2.2.2.1 = 2 ∧ ∃ a b S', S = vi b :: vi a :: S' ∧ stk S' ≤ 8 ∧ P (pc + 3) L (vi (if b < a then b else a) :: S') n M) ∨
       (mth q.2.2.2.1 = 3 ∧ ∃ a S', S = vi a :: S' ∧ stk S' ≤ 8 ∧ P (pc + 3) L (vi (if 0 ≤ a then a else w32 (0 - a)) :: S') n M))) ∨
      ((∀ q ∈ calL, ¬ (q.1 = mO j ∧ q.2.1 = ix)) ∧ ∃ q ∈ acpL, q.1 = mO j ∧ q.2.1 = ix ∧ ∃ a b x y k S', S = vi k :: vi y :: vr (b + 1) :: vi x :: vr (a + 1) :: S' ∧ stk S' ≤ 8 ∧ 0 ≤ x ∧ 0 ≤ y ∧ 0 ≤ k ∧ x + k ≤ alw n a 0 ∧ y + k ≤ alw n b 0 ∧ P (pc + 3) L S' n (cpy M a b x.toNat y.toNat k.toNat)))
  | .invokespecial ix => len = 3 ∧ ((∃ q ∈ obiL, q.1 = mO j ∧ q.2.1 = ix ∧ ∃ b S', S = vr (b + 1) :: S' ∧ stk S' ≤ 8 ∧ P (pc + 3) L S' n M) ∨
      ∃ q ∈ calL, q.1 = mO j ∧ q.2.1 = ix ∧ q.2.2.1 = 2 ∧ ∃ As b S', S = As.reverse ++ vr (b + 1) :: S' ∧ As.length = mA q.2.2.2.1 ∧ ob n b = mO q.2.2.2.1 ∧ stk S' ≤ 8 ∧ n + mC q.2.2.2.1 ≤ n0 + mC j ∧ mR q.2.2.2.1 = none ∧ mo O q.2.2.2.1 (vr (b + 1) :: As) n M (fun r M' => r = none ∧ P (pc + 3) L S' (n + mC q.2.2.2.1) M'))
  | .ireturn => len = 1 ∧ n = n0 + mC j ∧ ∃ x, S = [vi x] ∧ rok (mR j) x ∧ Q (some (vi x)) M
  | .lreturn => len = 1 ∧ n = n0 + mC j ∧ mR j = some .long ∧ ∃ x, S = [vl x] ∧ Q (some (vl x)) M
  | .return_ => len = 1 ∧ n = n0 + mC j ∧ mR j = none ∧ S = [] ∧ Q none M
  | _ => ∃ S', pur j i len L S S' ∧ P (pc + len) L S' n M
/-- instructions on the two texts: cells 1004, 1006 are the texts, 1005, 1007 their bytes -/
def sy (O : pO) (j : Nat) (P : pP) (pc : Nat) (L : pL) (S : List pv) (n : Nat) (M : pM) (i : Instr) (len : Nat) : Prop := match i with
  | .ldc ix => len = 2 ∧ ∃ q ∈ strL, q.1 = mO j ∧ q.2.1 = ix ∧ P (pc + 2) L (vr (1005 + 2 * q.2.2.1) :: S) n M
  | .getfield ix => len = 3 ∧ ∃ q ∈ sfL, q.1 = mO j ∧ q.2.1 = ix ∧ ∃ i S', i < 2 ∧ S = vr (1005 + 2 * i) :: S' ∧ P (pc + 3) L ((if q.2.2.1 = 0 then vr (1006 + 2 * i) else vi 0) :: S') n M
  | .getstatic ix => len = 3 ∧ ∃ q ∈ gbL, q.1 = mO j ∧ q.2.1 = ix ∧ P (pc + 3) L ((if q.2.2.1 = 0 then vi 1 else vr (M 1009 0).toNat) :: S) n M
  | .baload => len = 1 ∧ ∃ x i S', i < 2 ∧ S = vi x :: vr (1006 + 2 * i) :: S' ∧ 0 ≤ x ∧ x < (slen i : Nat) ∧ P (pc + 1) L (vi (M (1005 + 2 * i) x.toNat) :: S') n M
  | .arraylength => len = 1 ∧ ∃ i S', i < 2 ∧ S = vr (1006 + 2 * i) :: S' ∧ P (pc + 1) L (vi (slen i : Nat) :: S') n M
  | .invokevirtual ix => len = 3 ∧ ∃ q ∈ calL, q.1 = mO j ∧ q.2.1 = ix ∧ q.2.2.1 = 0 ∧ ∃ As i S', i < 2 ∧ S = As.reverse ++ vr (1005 + 2 * i) :: S' ∧ As.length = mA q.2.2.2.1 ∧ mO q.2.2.2.1 = 14 ∧ stk S' ≤ 8 ∧ mC q.2.2.2.1 = 0 ∧ mo O q.2.2.2.1 (vr (1005 + 2 * i) :: As) n M (fun r M' => ∃ S'', psh (mR q.2.2.2.1) r S' S'' ∧ P (pc + 3) L S'' n M')
  | _ => False
def stp (O : pO) (j n0 : Nat) (Q : pQ) (P : pP) : pP := fun pc L S n M => ∃ i len, decode (mB j) pc = .ok (i, len) ∧ (sx O j n0 Q P pc L S n M i len ∨ sy O j P pc L S n M i len)
/-- the least predicate that is closed under the steps: from here the method comes to an end that Q takes -/
def J (O : pO) (j n0 : Nat) (Q : pQ) (pc : Nat) (L : pL) (S : List pv) (n : Nat) (M : pM) : Prop :=
  ∀ P : pP, (∀ pc L S n M, stp O j n0 Q P pc L S n M → P pc L S n M) → P pc L S n M
