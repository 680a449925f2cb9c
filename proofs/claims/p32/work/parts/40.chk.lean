/-! ===== bounds of the slots ===== -/
def gT : List (List (Int × Int)) := [[(1, 0), (0, 1900), (1, 0), (1, 0), (1, 0), (1, 0), (1, 0), ((-2147483648), 2147483647), ((-1), 1900), (1, 0), (1, 0), (1, 0), (1, 0), (1, 0), (1, 0), (1, 0)],
  [(0, 255)],
  [(1, 0), (0, 1900), (0, 1900), (0, 4), (0, 1900), ((-2147483648), 2147483647), (0, 1900), ((-2147483648), 2147483647), ((-1), 1900)],
  [(1, 0), ((-2147483648), 2147483647), (1, 0), ((-2147483648), 2147483647), (1, 0), (1, 0), (1, 0), (0, 12), (1, 0), (1, 0), (0, 20), (1, 0), (1, 0), (0, 4), ((-2147483648), 2147483647)],
  [(0, 7)],
  [(0, 20)],
  [((-1), 15)],
  [((-1), 40)],
  [(0, 63)],
  [(0, 63), (0, 63), (0, 99)],
  [(1, 0)],
  [(0, 200)],
  [(1, 0), ((-2147483648), 2147483647), (1, 0), ((-2147483648), 2147483647), (1, 0), (1, 0), (1, 0), (0, 12), (1, 0), (1, 0), (0, 20), (1, 0), (1, 0), (0, 4), ((-2147483648), 2147483647)],
  [(0, 7)],
  [(0, 20)],
  [((-1), 15)],
  [((-1), 40)],
  [(0, 63)],
  [(0, 63), (0, 63), (0, 99)],
  [(1, 0)],
  [(0, 200)],
  [(1, 0), (1, 0)],
  [(1, 0), (1, 0), (0, 512), (1, 0), (0, 512), (0, 60), (1, 0)],
  [((-2147483648), 2147483647)],
  [((-2147483648), 2147483647)],
  [((-2147483648), 2147483647)],
  [(1, 0), (0, 4), (0, 3)],
  [(0, 63)],
  [(1, 0), (1, 0), (1, 0), (1, 0), (1, 0), (0, 36), ((-1), 36), (1, 0), (1, 0), (0, 40), (0, 5), (0, 1), (0, 3), (0, 63), (0, 36), (0, 40), (0, 40)],
  [(1, 0)],
  [((-1), 63)],
  [((-2147483648), 2147483647)],
  [(0, 24)],
  [(1, 0), (0, 4), (0, 3)],
  [(0, 63)],
  [(1, 9), (1, 4), (1, 9), (0, 44), (1, 0), (1, 0), (1, 0), (1, 0), (0, 30)],
  [(0, 44)],
  [((-1), 35)],
  [((-1), 44)],
  [((-1), 3)],
  [(1, 0), (0, 8), (1, 0), (1, 0), (1, 0), (1, 0), (1, 0), (1, 0), (0, 200), (0, 100000)],
  [(0, 3)],
  [(0, 7)],
  [(0, 35)],
  [(0, 63)],
  [(0, 40)],
  [(0, 100000)],
  [((-1), 100000)],
  [(1, 0), (1, 0), (1, 0), (1, 0), (0, 36), (0, 4), (0, 35)],
  [((-1), 199)],
  [(0, 35)],
  [(0, 63)],
  [(0, 40)],
  [(1, 0)],
  [((-2147483648), 2147483647)],
  [(1, 0), (0, 9), (1, 0), (1, 0), (1, 0), (1, 0), ((-2147483648), 2147483647)],
  [(0, 63)],
  [(0, 1000000)],
  [((-2147483648), 2147483647)],
  [(0, 2)],
  [(0, 2)],
  [(1, 0), (1, 0), (0, 1900), (0, 1900), (0, 5), ((-2147483648), 2147483647), (0, 1900), (0, 1901), (0, 5), (0, 9999), (1, 0), (1, 0), (1, 0), (1, 0), (1, 0), (1, 0), (1, 0), (1, 0), (1, 0), (1, 0), (1, 0), (1, 0), (1, 0), (1, 0), (1, 0), (1, 0), (1, 0), (1, 0), (1, 0), (1, 0), (1, 0), (1, 0), (1, 0), (1, 0), (0, 1), (0, 1), ((-2147483648), 2147483647), ((-2147483648), 2147483647), ((-2147483648), 2147483647), (1, 0), (0, 3), (0, 1), (1, 0), ((-1), 3), ((-1), 40), (1, 0), (0, 36), (1, 0), (1, 0), (1, 0), (1, 0), (1, 0), (0, 30), (1, 9), (1, 4), (1, 9), (1, 0), (1, 0), (1, 0), (1, 0), (1, 0), (1, 0), (1, 0), (1, 0), (0, 8), (0, 200), (0, 100000), (0, 3), (1, 0), (1, 0), (1, 0), (1, 0), (0, 36), (1, 0), (1, 0), (1, 0), (1, 0), (1, 0), (1, 0), (1, 0), (0, 1), (0, 1), (0, 60), ((-2147483648), 2147483647), (0, 80), (0, 1), ((-2147483648), 2147483647), ((-2147483648), 2147483647), ((-2147483648), 2147483647), ((-2147483648), 2147483647), ((-2147483648), 2147483647), ((-2147483648), 2147483647), ((-2147483648), 2147483647), ((-2147483648), 2147483647), (1, 0), (1, 0), (1, 0), (1, 0), (1, 0), (0, 9)],
  [((-128), 127)],
  [((-128), 127)],
  [((-2147483648), 2147483647)],
  [(0, 12)],
  [((-2147483648), 2147483647)],
  [(0, 20)],
  [(0, 4)],
  [(0, 7)],
  [(0, 20)],
  [((-1), 3)],
  [(0, 3)],
  [((-1), 40)],
  [(0, 63)],
  [(0, 40)],
  [(0, 36)],
  [(0, 37)],
  [(0, 63)],
  [(0, 63)],
  [(0, 99)],
  [(0, 30)],
  [(0, 200)],
  [(1, 0)],
  [(0, 1)],
  [(0, 1)],
  [(0, 1)],
  [(0, 63)],
  [(0, 1000)],
  [((-2147483648), 2147483647)],
  [(0, 1)],
  [(0, 35)],
  [((-1), 35)],
  [(0, 3)],
  [(0, 1)],
  [((-2147483648), 2147483647)],
  [(0, 3)],
  [(0, 7)],
  [(0, 35)],
  [(0, 63)],
  [(0, 40)],
  [(0, 100000)],
  [((-1), 100000)],
  [(0, 35)],
  [(0, 63)],
  [(0, 40)],
  [((-1), 199)],
  [(0, 35)],
  [((-2147483648), 2147483647)],
  [((-2147483648), 2147483647)],
  [(0, 300)],
  [(0, 8)],
  [((-2147483648), 2147483647)],
  [((-2147483648), 2147483647)],
  [(0, 100000)],
  [(0, 63)],
  [(0, 2)],
  [(0, 2)],
  [((-2147483648), 2147483647)]]
def gX : List (List (Int × Int)) := [[((-1), 1)], [((-1), 1)], [((-2147483648), 2147483647)], [(0, 3584)], [], [(0, 127)], [], [(0, 127)]]
def rfT : List (Nat × Nat × List Nat) := [(0, 0, [2]), (0, 2, [3]), (0, 3, [4, 13]), (0, 4, [4, 13]), (0, 5, [22]), (0, 6, [23]), (0, 9, [27]), (0, 10, [29]), (0, 11, [36]), (0, 12, [41]), (0, 13, [49]), (0, 14, [54]), (0, 15, [56]), (2, 0, [2]), (3, 0, [5]), (3, 2, [6]), (3, 4, [7]), (3, 5, [8]), (3, 6, [9]), (3, 9, [10]), (3, 11, [11]), (3, 12, [12]), (12, 0, [14]), (12, 2, [15]), (12, 4, [16]), (12, 5, [17]), (12, 6, [18]), (12, 9, [19]), (12, 11, [20]), (12, 12, [21]), (21, 0, [3]), (21, 1, [4, 13]), (22, 0, [3]), (22, 1, [24, 25]), (22, 3, [24, 25]), (22, 6, [26]), (26, 0, [28]), (28, 0, [30]), (28, 1, [31]), (28, 2, [32]), (28, 3, [33]), (28, 4, [34]), (28, 7, [4, 13]), (28, 8, [27, 34]), (33, 0, [35]), (35, 4, [37]), (35, 5, [38]), (35, 6, [39]), (35, 7, [40]), (40, 0, [42]), (40, 2, [43]), (40, 3, [44]), (40, 4, [45]), (40, 5, [46]), (40, 6, [47]), (40, 7, [48]), (48, 0, [50]), (48, 1, [51]), (48, 2, [52]), (48, 3, [53]), (53, 0, [55]), (55, 0, [57]), (55, 2, [58]), (55, 3, [59]), (55, 4, [60]), (55, 5, [61]), (61, 0, [63]), (61, 1, [64]), (61, 11, [65]), (61, 12, [66]), (61, 13, [67]), (61, 14, [68]), (61, 15, [69]), (61, 16, [70]), (61, 17, [71]), (61, 18, [72]), (61, 19, [73]), (61, 20, [74]), (61, 21, [75]), (61, 22, [76]), (61, 23, [77]), (61, 24, [78]), (61, 25, [79]), (61, 26, [80]), (61, 27, [81]), (61, 28, [82]), (61, 29, [83]), (61, 30, [84]), (61, 31, [85]), (61, 32, [86]), (61, 33, [87]), (61, 39, [88]), (61, 42, [89]), (61, 45, [90]), (61, 47, [91]), (61, 48, [92]), (61, 49, [93]), (61, 50, [94]), (61, 51, [95]), (61, 56, [96]), (61, 57, [97]), (61, 58, [98]), (61, 59, [99]), (61, 60, [100]), (61, 61, [101]), (61, 62, [102]), (61, 63, [103]), (61, 68, [104]), (61, 69, [105]), (61, 70, [106]), (61, 71, [107]), (61, 73, [108]), (61, 74, [109]), (61, 75, [110]), (61, 76, [111]), (61, 77, [112]), (61, 78, [113]), (61, 79, [114]), (61, 94, [115]), (61, 95, [116]), (61, 96, [117]), (61, 97, [118]), (61, 98, [119])]
/-! ===== the checker: linear forms, bounds, facts; one abstract step; a run of a method along a stream of hints ===== -/
abbrev lf : Type := Int × List (Nat × Int)
abbrev av : Type := lf ⊕ (Option lf ⊕ Nat)
abbrev bd : Type := List (Nat × Int × Int)
abbrev mf : Type := List (Nat × lf × lf)
/-- locals, stack, cells known, bounds of symbols, forms that are at least 0 -/
abbrev aA : Type := List (Option av) × List av × mf × bd × List lf
abbrev aI (f : lf) : av := Sum.inl f
abbrev aJ : av := Sum.inr (Sum.inl none)
/-- a long whose value is kept -/
abbrev aK (f : lf) : av := Sum.inr (Sum.inl (some f))
abbrev aR (k : Nat) : av := Sum.inr (Sum.inr k)
def ige (z : Int) : Bool := match z with
  | .ofNat _ => true
  | .negSucc _ => false
def ieq (a b : Int) : Bool := match a with
  | .ofNat x => (match b with
    | .ofNat y => Nat.beq x y
    | .negSucc _ => false)
  | .negSucc x => (match b with
    | .ofNat _ => false
    | .negSucc y => Nat.beq x y)
def inT (s : Nat) (c : Int) (l : List (Nat × Int)) : List (Nat × Int) := match l with
  | [] => [(s, c)]
  | t :: r => cond (Nat.blt s t.1) ((s, c) :: t :: r) (cond (Nat.beq s t.1) (cond (ieq (c + t.2) 0) r ((s, c + t.2) :: r)) (t :: inT s c r))
def adT (a b : List (Nat × Int)) : List (Nat × Int) := match a with
  | [] => b
  | t :: r => adT r (inT t.1 t.2 b)
def fk (k : Int) : lf := (k, [])
def fs (s : Nat) : lf := (0, [(s, 1)])
def fad (f g : lf) : lf := (f.1 + g.1, adT f.2 g.2)
def fsc (k : Int) (f : lf) : lf := cond (ieq k 0) (0, []) (k * f.1, f.2.map (fun t => (t.1, k * t.2)))
def fsb (f g : lf) : lf := fad (fsc (-1) g) f
def fak (f : lf) (k : Int) : lf := (f.1 + k, f.2)
def teq (a b : List (Nat × Int)) : Bool := match a with
  | [] => (match b with
    | [] => true
    | _ :: _ => false)
  | t :: r => (match b with
    | [] => false
    | u :: q => Nat.beq t.1 u.1 && ieq t.2 u.2 && teq r q)
def feq (f g : lf) : Bool := ieq f.1 g.1 && teq f.2 g.2
def sbT (p : Nat) (σ : List lf) (l : List (Nat × Int)) (acc : lf) : lf := match l with
  | [] => acc
  | t :: r => sbT p σ r (cond (Nat.blt t.1 p) (acc.1, inT t.1 t.2 acc.2) (fad (fsc t.2 (σ.getD (t.1 - p) (0, []))) acc))
def sbF (p : Nat) (σ : List lf) (f : lf) : lf := sbT p σ f.2 (f.1, [])
def bl (B : bd) (s : Nat) : Option (Int × Int) := match B with
  | [] => none
  | e :: r => cond (Nat.beq e.1 s) (some e.2) (bl r s)
/-- the least that terms can come to -/
def loT (B : bd) (l : List (Nat × Int)) (acc : Int) : Option Int := match l with
  | [] => some acc
  | t :: r => (match bl B t.1 with
    | none => none
    | some b => loT B r (acc + cond (ige t.2) (t.2 * b.1) (t.2 * b.2)))
def hiT (B : bd) (l : List (Nat × Int)) (acc : Int) : Option Int := match l with
  | [] => some acc
  | t :: r => (match bl B t.1 with
    | none => none
    | some b => hiT B r (acc + cond (ige t.2) (t.2 * b.2) (t.2 * b.1)))
def iv (B : bd) (f : lf) : Bool := match loT B f.2 f.1 with
  | none => false
  | some z => ige z
def ivF (B : bd) (f : lf) (F : List lf) : Bool := match F with
  | [] => false
  | g :: r => iv B (fsb f g) || ivF B f r
def en (A : aA) (f : lf) : Bool := iv A.2.2.2.1 f || ivF A.2.2.2.1 f A.2.2.2.2
/-- what a form that is at least 0, at most U, says of its symbols -/
def pr1 (U : Int) (t : Nat × Int) (b : Int × Int) (acc : bd) : bd := match t.2 with
  | .ofNat 0 => acc
  | .ofNat (c + 1) => cond (ige (-((U - Int.ofNat (c + 1) * b.2) / Int.ofNat (c + 1)) - b.1 - 1)) ((t.1, -((U - Int.ofNat (c + 1) * b.2) / Int.ofNat (c + 1)), b.2) :: acc) acc
  | .negSucc c => cond (ige (b.2 - (U + Int.ofNat (c + 1) * b.1) / Int.ofNat (c + 1) - 1)) ((t.1, b.1, (U + Int.ofNat (c + 1) * b.1) / Int.ofNat (c + 1)) :: acc) acc
def prp (B : bd) (U : Int) (l : List (Nat × Int)) (acc : bd) : bd := match l with
  | [] => acc
  | t :: r => prp B U r (match bl B t.1 with
    | none => acc
    | some b => pr1 U t b acc)
def adf (A : aA) (g : lf) : aA :=
  (A.1, A.2.1, A.2.2.1, (match hiT A.2.2.2.1 g.2 g.1 with
    | none => A.2.2.2.1
    | some U => prp A.2.2.2.1 U g.2 A.2.2.2.1), match g.2 with
    | [_] => A.2.2.2.2
    | _ => g :: A.2.2.2.2)
def adL (A : aA) (l : List lf) : aA := match l with
  | [] => A
  | g :: r => adL (adf A g) r
def ncF (n : Nat) (f : lf) : Bool := f.2.all (fun t => Nat.blt t.1 n)
def ncV (n : Nat) (v : av) : Bool := match v with
  | .inl f => ncF n f
  | .inr (.inl (some f)) => ncF n f
  | .inr _ => true
def ncO (n : Nat) (o : Option av) : Bool := match o with
  | none => true
  | some v => ncV n v
def nc (n : Nat) (A : aA) : Bool := A.1.all (ncO n) && A.2.1.all (ncV n) && A.2.2.1.all (fun e => ncF n e.2.1 && ncF n e.2.2) && A.2.2.2.1.all (fun e => Nat.blt e.1 n) && A.2.2.2.2.all (ncF n)
def mget (m : mf) (c : Nat) (ix : lf) : Option lf := match m with
  | [] => none
  | e :: r => cond (Nat.beq e.1 c && feq e.2.1 ix) (some e.2.2) (mget r c ix)
/-- bounds of a cell's slots: what every reachable state keeps -/
def gl (c : Nat) : List (Int × Int) := cond (Nat.blt c 119) (gT.getD c []) (gX.getD (c - 1000) [])
def gB (c : Nat) (ix : lf) : Option (Int × Int) := let l := gl c
  cond (ix.2.all (fun t => ieq (t.2 % Int.ofNat l.length) 0)) (match l[(ix.1 % Int.ofNat l.length).toNat]? with
    | none => none
    | some b => cond (ige (b.2 - b.1)) (some b) none) none
def rfG (l : List (Nat × Nat × List Nat)) (c k : Nat) : List Nat := match l with
  | [] => []
  | e :: r => cond (Nat.beq e.1 c && Nat.beq e.2.1 k) e.2.2 (rfG r c k)
def rf (c k : Nat) : List Nat := rfG rfT c k
/-- a new symbol n with bounds b on the stack -/
def pfr (n : Nat) (A : aA) (S : List av) (b : Int × Int) : Option (Nat × aA) := cond (nc n A) (some (n + 1, (A.1, aI (fs n) :: S, A.2.2.1, (n, b.1, b.2) :: A.2.2.2.1, A.2.2.2.2))) none
/-- the slot of a cell: the form known, else a new symbol -/
def rd (n : Nat) (A : aA) (S : List av) (c : Nat) (ix : lf) : Option (Nat × aA) := match mget A.2.2.1 c ix with
  | some v => some (n, (A.1, aI v :: S, A.2.2))
  | none => (match gB c ix with
    | none => none
    | some b => cond (nc n A) (some (n + 1, (A.1, aI (fs n) :: S, (c, ix, fs n) :: A.2.2.1, (n, b.1, b.2) :: A.2.2.2.1, A.2.2.2.2))) none)
def r3 : Int × Int := (-2147483648, 2147483647)
/-- a form if it stays within 32 bits, else a new symbol -/
def pw (n : Nat) (A : aA) (S : List av) (f : lf) : Option (Nat × aA) := cond (en A (fak f 2147483648) && en A (fak (fsc (-1) f) 2147483647)) (some (n, (A.1, aI f :: S, A.2.2))) (pfr n A S r3)
def dif (B : bd) (f g : lf) : Bool := let h := fsb f g; iv B (fak h (-1)) || iv B (fak (fsc (-1) h) (-1))
/-- what may be written: cell, first slot, last slot -/
abbrev mdL : Type := List (Nat × Nat × Nat)
def inM (m : mdL) (c k : Nat) : Bool := m.any (fun e => Nat.beq e.1 c && Nat.ble e.2.1 k && Nat.ble k e.2.2)
def inA (m : mdL) (A : aA) (c : Nat) (f : lf) : Bool := m.any (fun e => Nat.beq e.1 c && en A (fak f (-(Int.ofNat e.2.1))) && en A (fak (fsc (-1) f) (Int.ofNat e.2.2)))
def inW (m : mdL) (c len : Nat) : Bool := m.any (fun e => Nat.beq e.1 c && Nat.beq e.2.1 0 && Nat.ble len (e.2.2 + 1))
def inD (o : Option mdL) (c k : Nat) : Bool := match o with
  | none => true
  | some m => inM m c k
/-- the slot ix of cell c lies outside m -/
def ouW (B : bd) (m : mdL) (c : Nat) (ix : lf) : Bool := m.all (fun q => !(Nat.beq q.1 c) || iv B (fak ix (-(Int.ofNat q.2.2) - 1)) || iv B (fak (fsc (-1) ix) (Int.ofNat q.2.1 - 1)))
def dsj (a b : mdL) : Bool := a.all (fun x => b.all (fun y => !(Nat.beq x.1 y.1) || Nat.blt x.2.2 y.2.1 || Nat.blt y.2.2 x.2.1))
/-- entries from 5000 on are sayings of the memory, hdp tells of which slots -/
def kpW (B : bd) (c : Nat) (ix : lf) (e : Nat × lf × lf) : Bool := cond (Nat.ble 5000 e.1) (match hdp (e.1 - 5000) with
    | none => false
    | some m => ouW B m c ix) (!(Nat.beq e.1 c) || dif B e.2.1 ix)
/-- the cells known behind a write -/
def mwx (A : aA) (c : Nat) (ix : lf) : mf := A.2.2.1.filter (kpW A.2.2.2.1 c ix)
def mwr (A : aA) (c : Nat) (ix v : lf) : mf := (c, ix, v) :: mwx A c ix
/-- what is known outlives a call that may write m -/
def kpM (B : bd) (m : mdL) (e : Nat × lf × lf) : Bool := cond (Nat.ble 5000 e.1) (match hdp (e.1 - 5000) with
    | none => (match m with
      | [] => true
      | _ :: _ => false)
    | some d => dsj d m) (ouW B m e.1 e.2.1)
def kiA (L : List (Option av)) (k : Nat) : List (Option av) := match k with
  | 0 => L
  | m + 1 => (match L.getD m none with
    | some (.inl _) => L
    | some (.inr (.inr _)) => L
    | _ => L.set m none)
def catA (v : av) : Nat := match v with
  | .inr (.inl _) => 2
  | _ => 1
def stkA (S : List av) : Nat := (S.map catA).sum
def fty (t : FieldType) : Nat := match t with
  | .int => 0
  | .boolean => 1
  | .long => 2
  | .object _ => 3
  | .array _ => 3
  | _ => 4
def inG (A : aA) (f : lf) (b : Int × Int) : Bool := en A (fak f (-b.1)) && en A (fak (fsc (-1) f) b.2)
def fdf (l : List (Nat × Nat × Nat × Nat × Nat × Nat)) (o ix : Nat) : Option (Nat × Nat × Nat × Nat × Nat × Nat) := l.find? (fun q => Nat.beq q.1 o && Nat.beq q.2.1 ix)
def isK (f : lf) : Bool := match f.2 with
  | [] => true
  | _ :: _ => false
def psA (A : aA) (S : List av) : aA := (A.1, S, A.2.2)
def kcf (l : List (Nat × Nat × Int × Nat)) (o ix : Nat) : Option (Nat × Nat × Int × Nat) := l.find? (fun q => Nat.beq q.1 o && Nat.beq q.2.1 ix)
def inK (v lo hi : Int) : Bool := ige (v - lo) && ige (hi - v)
/-- division by what is not 0 -/
def dvA (n : Nat) (A : aA) (S : List av) (a b : lf) : Option (Nat × aA) :=
  cond (isK b && ige (b.1 - 1)) (cond (en A a) (match hiT A.2.2.2.1 a.2 a.1 with
    | none => none
    | some u => cond (ige (2147483647 - u / b.1)) (pfr n A S (0, u / b.1)) none) (pfr n A S r3)) (cond (en A (fak b (-1)) && en A a) (match hiT A.2.2.2.1 a.2 a.1 with
    | none => none
    | some u => cond (ige (2147483647 - u)) (pfr n A S (0, u)) none) (cond (en A (fak b (-1)) || en A (fak (fsc (-1) b) (-1))) (pfr n A S r3) none))
def rmA (n : Nat) (A : aA) (S : List av) (a b : lf) : Option (Nat × aA) :=
  cond (isK b && ige (b.1 - 1)) (cond (en A a) (pfr n A S (0, b.1 - 1)) (pfr n A S (1 - b.1, b.1 - 1))) (cond (en A (fak b (-1)) && en A a) (match hiT A.2.2.2.1 b.2 b.1 with
    | none => none
    | some u => (match pfr n A S (0, u - 1) with
      | none => none
      | some r => cond (ncF n b) (some (r.1, adf r.2 (fak (fsb b (fs n)) (-1)))) none)) none)
def anB (n : Nat) (A : aA) (S : List av) (a b : lf) : Option (Nat × aA) :=
  cond (isK b && inK b.1 0 2147483647) (pfr n A S (0, b.1)) (cond (isK a && inK a.1 0 2147483647) (pfr n A S (0, a.1)) (pfr n A S r3))
def anA (n : Nat) (A : aA) (S : List av) (a b : lf) : Option (Nat × aA) :=
  cond (isK b && ieq b.1 255 && inG A a (0, 255)) (some (n, psA A (aI a :: S))) (cond (isK b && ieq b.1 255 && inG A a (-256, -1)) (some (n, psA A (aI (fak a 256) :: S))) (anB n A S a b))
def mlA (n : Nat) (A : aA) (S : List av) (a b : lf) : Option (Nat × aA) :=
  cond (isK b) (pw n A S (fsc b.1 a)) (cond (isK a) (pw n A S (fsc a.1 b)) (pfr n A S r3))
/-- instructions that touch the stack alone -/
def px (j : Nat) (i : Instr) (len n : Nat) (A : aA) : Option (Nat × aA) := match i with
  | .iconst v => cond (Nat.beq len 1 && inK v (-2147483648) 2147483647) (some (n, psA A (aI (fk v) :: A.2.1))) none
  | .bipush v => cond (Nat.beq len 2 && inK v (-128) 127) (some (n, psA A (aI (fk v) :: A.2.1))) none
  | .sipush v => cond (Nat.beq len 3 && inK v (-32768) 32767) (some (n, psA A (aI (fk v) :: A.2.1))) none
  | .lconst _ => cond (Nat.beq len 1) (some (n, psA A (aJ :: A.2.1))) none
  | .ldc ix => (match kcf cnL (mO j) ix with
    | none => none
    | some q => cond (Nat.beq len 2) (some (n, psA A (aI (fk q.2.2.1) :: A.2.1))) none)
  | .ldc_w ix => (match kcf cnL (mO j) ix with
    | none => none
    | some q => cond (Nat.beq len 3) (some (n, psA A (aI (fk q.2.2.1) :: A.2.1))) none)
  | .ldc2_w ix => (match kcf clnL (mO j) ix with
    | none => none
    | some _ => cond (Nat.beq len 3) (some (n, psA A (aJ :: A.2.1))) none)
  | .iload k => (match A.1[k]? with
    | some (some (.inl f)) => cond (Nat.beq len 2) (some (n, psA A (aI f :: A.2.1))) none
    | _ => none)
  | .iload_n k => (match A.1[(k : Nat)]? with
    | some (some (.inl f)) => cond (Nat.beq len 1) (some (n, psA A (aI f :: A.2.1))) none
    | _ => none)
  | .lload k => (match A.1[k]? with
    | some (some (.inr (.inl _))) => cond (Nat.beq len 2) (some (n, psA A (aJ :: A.2.1))) none
    | _ => none)
  | .lload_n k => (match A.1[(k : Nat)]? with
    | some (some (.inr (.inl _))) => cond (Nat.beq len 1) (some (n, psA A (aJ :: A.2.1))) none
    | _ => none)
  | .aload k => (match A.1[k]? with
    | some (some (.inr (.inr x))) => cond (Nat.beq len 2) (some (n, psA A (aR x :: A.2.1))) none
    | _ => none)
  | .aload_n k => (match A.1[(k : Nat)]? with
    | some (some (.inr (.inr x))) => cond (Nat.beq len 1) (some (n, psA A (aR x :: A.2.1))) none
    | _ => none)
  | .dup => (match A.2.1 with
    | v :: S => cond (Nat.beq len 1 && Nat.beq (catA v) 1) (some (n, psA A (v :: v :: S))) none
    | _ => none)
  | .pop => (match A.2.1 with
    | v :: S => cond (Nat.beq len 1 && Nat.beq (catA v) 1) (some (n, psA A S)) none
    | _ => none)
  | .dup2 => (match A.2.1 with
    | v :: u :: S => cond (Nat.beq len 1 && Nat.beq (catA v) 1 && Nat.beq (catA u) 1) (some (n, psA A (v :: u :: v :: u :: S))) none
    | _ => none)
  | .ineg => (match A.2.1 with
    | .inl a :: S => cond (Nat.beq len 1) (pw n A S (fsc (-1) a)) none
    | _ => none)
  | .i2l => (match A.2.1 with
    | .inl _ :: S => cond (Nat.beq len 1) (some (n, psA A (aJ :: S))) none
    | _ => none)
  | .l2i => (match A.2.1 with
    | .inr (.inl _) :: S => cond (Nat.beq len 1) (pfr n A S r3) none
    | _ => none)
  | .i2b => (match A.2.1 with
    | .inl a :: S => cond (Nat.beq len 1) (cond (inG A a (-128, 127)) (some (n, psA A (aI a :: S))) (pfr n A S (-128, 127))) none
    | _ => none)
  | .i2c => (match A.2.1 with
    | .inl _ :: S => cond (Nat.beq len 1) (pfr n A S (0, 65535)) none
    | _ => none)
  | .idiv => (match A.2.1 with
    | .inl b :: .inl a :: S => cond (Nat.beq len 1) (dvA n A S a b) none
    | _ => none)
  | .irem => (match A.2.1 with
    | .inl b :: .inl a :: S => cond (Nat.beq len 1) (rmA n A S a b) none
    | _ => none)
  | .lcmp => (match A.2.1 with
    | .inr (.inl _) :: .inr (.inl _) :: S => cond (Nat.beq len 1) (pfr n A S (-1, 1)) none
    | _ => none)
  | .lshl => (match A.2.1 with
    | .inl _ :: .inr (.inl _) :: S => cond (Nat.beq len 1) (some (n, psA A (aJ :: S))) none
    | _ => none)
  | .lshr => (match A.2.1 with
    | .inl _ :: .inr (.inl _) :: S => cond (Nat.beq len 1) (some (n, psA A (aJ :: S))) none
    | _ => none)
  | .lushr => (match A.2.1 with
    | .inl _ :: .inr (.inl _) :: S => cond (Nat.beq len 1) (some (n, psA A (aJ :: S))) none
    | _ => none)
  | .iadd => (match A.2.1 with
    | .inl b :: .inl a :: S => cond (Nat.beq len 1) (pw n A S (fad a b)) none
    | _ => none)
  | .isub => (match A.2.1 with
    | .inl b :: .inl a :: S => cond (Nat.beq len 1) (pw n A S (fsb a b)) none
    | _ => none)
  | .imul => (match A.2.1 with
    | .inl b :: .inl a :: S => cond (Nat.beq len 1) (mlA n A S a b) none
    | _ => none)
  | .iand => (match A.2.1 with
    | .inl b :: .inl a :: S => cond (Nat.beq len 1) (anA n A S a b) none
    | _ => none)
  | .ior => (match A.2.1 with
    | .inl _ :: .inl _ :: S => cond (Nat.beq len 1) (pfr n A S r3) none
    | _ => none)
  | .ixor => (match A.2.1 with
    | .inl _ :: .inl _ :: S => cond (Nat.beq len 1) (pfr n A S r3) none
    | _ => none)
  | .ishl => (match A.2.1 with
    | .inl _ :: .inl _ :: S => cond (Nat.beq len 1) (pfr n A S r3) none
    | _ => none)
  | .ishr => (match A.2.1 with
    | .inl b :: .inl a :: S => cond (Nat.beq len 1) (cond (isK b && ieq b.1 0 && inG A a r3) (some (n, psA A (aI a :: S))) (pfr n A S r3)) none
    | _ => none)
  | .iushr => (match A.2.1 with
    | .inl _ :: .inl _ :: S => cond (Nat.beq len 1) (pfr n A S r3) none
    | _ => none)
  | .ladd => (match A.2.1 with
    | .inr (.inl _) :: .inr (.inl _) :: S => cond (Nat.beq len 1) (some (n, psA A (aJ :: S))) none
    | _ => none)
  | .lsub => (match A.2.1 with
    | .inr (.inl _) :: .inr (.inl _) :: S => cond (Nat.beq len 1) (some (n, psA A (aJ :: S))) none
    | _ => none)
  | .lmul => (match A.2.1 with
    | .inr (.inl _) :: .inr (.inl _) :: S => cond (Nat.beq len 1) (some (n, psA A (aJ :: S))) none
    | _ => none)
  | .land => (match A.2.1 with
    | .inr (.inl _) :: .inr (.inl _) :: S => cond (Nat.beq len 1) (some (n, psA A (aJ :: S))) none
    | _ => none)
  | .lor => (match A.2.1 with
    | .inr (.inl _) :: .inr (.inl _) :: S => cond (Nat.beq len 1) (some (n, psA A (aJ :: S))) none
    | _ => none)
  | .lxor => (match A.2.1 with
    | .inr (.inl _) :: .inr (.inl _) :: S => cond (Nat.beq len 1) (some (n, psA A (aJ :: S))) none
    | _ => none)
  | _ => none
/-- stores into locals -/
def sto1 (n : Nat) (A : aA) (k : Nat) (v : av) (S : List av) : Option (Nat × aA) := cond (Nat.blt k A.1.length) (some (n, ((kiA A.1 k).set k (some v), S, A.2.2))) none
def sto2 (n : Nat) (A : aA) (k : Nat) (S : List av) : Option (Nat × aA) := cond (Nat.blt (k + 1) A.1.length) (some (n, (((kiA A.1 k).set k (some aJ)).set (k + 1) none, S, A.2.2))) none
def sx1 (i : Instr) (len n : Nat) (A : aA) : Option (Nat × aA) := match i with
  | .istore k => (match A.2.1 with
    | .inl f :: S => cond (Nat.beq len 2) (sto1 n A k (aI f) S) none
    | _ => none)
  | .istore_n k => (match A.2.1 with
    | .inl f :: S => cond (Nat.beq len 1) (sto1 n A k (aI f) S) none
    | _ => none)
  | .astore k => (match A.2.1 with
    | .inr (.inr x) :: S => cond (Nat.beq len 2) (sto1 n A k (aR x) S) none
    | _ => none)
  | .astore_n k => (match A.2.1 with
    | .inr (.inr x) :: S => cond (Nat.beq len 1) (sto1 n A k (aR x) S) none
    | _ => none)
  | .lstore k => (match A.2.1 with
    | .inr (.inl _) :: S => cond (Nat.beq len 2) (sto2 n A k S) none
    | _ => none)
  | .lstore_n k => (match A.2.1 with
    | .inr (.inl _) :: S => cond (Nat.beq len 1) (sto2 n A k S) none
    | _ => none)
  | .iinc k c => (match A.1[k]? with
    | some (some (.inl f)) => cond (Nat.beq len 3 && inK c (-2147483648) 2147483647) (match pw n A A.2.1 (fak f c) with
      | some (m, B) => (match B.2.1 with
        | v :: S => sto1 m B k v S
        | _ => none)
      | none => none) none
    | _ => none)
  | _ => none
/-- the length of a row of cells of a kind -/
def alA (A : aA) (a t : Nat) : Option lf := cond (Nat.blt a 119) (match SH a with
    | .inr q => cond (Nat.beq q.1 t) (some (fk q.2)) none
    | .inl _ => none) (cond ((Nat.beq a 1000 || Nat.beq a 1001) && Nat.beq t 0) (some (fk 8)) (cond (Nat.beq a 1002 && Nat.beq t 0) (mget A.2.2.1 1003 (fk 0)) none))
def ixA (A : aA) (f : lf) (l : Option lf) : Bool := match l with
  | none => false
  | some l => en A f && en A (fak (fsb l f) (-1))
def obA (a c : Nat) : Bool := cond (Nat.blt a 119) (match SH a with
    | .inl q => Nat.beq q c
    | .inr _ => false) false
/-- reads and writes of cells -/
def mx1 (md : mdL) (j : Nat) (i : Instr) (len n : Nat) (A : aA) : Option (Nat × aA) := match i with
  | .getfield ix => (match A.2.1 with
    | .inr (.inr (a + 1)) :: S => (match fdf fldL (mO j) ix with
      | none => none
      | some q => cond (Nat.beq len 3 && obA a q.2.2.1) (match fty (tyA q.2.2.1 q.2.2.2.1) with
        | 0 => rd n A S a (fk q.2.2.2.1)
        | 1 => rd n A S a (fk q.2.2.2.1)
        | 2 => some (n, psA A (aJ :: S))
        | 3 => (match mget A.2.2.1 a (fk q.2.2.2.1) with
          | some v => cond (isK v && ige v.1) (some (n, psA A (aR v.1.toNat :: S))) none
          | none => (match rf a q.2.2.2.1 with
            | [x] => some (n, psA A (aR x :: S))
            | _ => none))
        | _ => none) none)
    | _ => none)
  | .putfield ix => (match A.2.1 with
    | v :: .inr (.inr (a + 1)) :: S => (match fdf fldL (mO j) ix with
      | none => none
      | some q => cond (Nat.beq len 3 && obA a q.2.2.1 && !(cT q.2.2.1 q.2.2.2.1).2.2.2 && inM md a q.2.2.2.1) (match fty (tyA q.2.2.1 q.2.2.2.1), v with
        | 0, .inl f => (match gB a (fk q.2.2.2.1) with
          | some b => cond (inG A f b) (some (n, (A.1, S, mwr A a (fk q.2.2.2.1) f, A.2.2.2))) none
          | none => none)
        | 1, .inl f => (match gB a (fk q.2.2.2.1) with
          | some b => cond (inG A f b && inG A f (0, 1)) (some (n, (A.1, S, mwr A a (fk q.2.2.2.1) f, A.2.2.2))) none
          | none => none)
        | 2, .inr (.inl _) => (match gB a (fk q.2.2.2.1) with
          | none => some (n, (A.1, S, mwx A a (fk q.2.2.2.1), A.2.2.2))
          | some _ => none)
        | 3, .inr (.inr x) => cond ((rf a q.2.2.2.1).contains x) (some (n, (A.1, S, mwr A a (fk q.2.2.2.1) (fk x), A.2.2.2))) none
        | _, _ => none) none)
    | _ => none)
  | .getstatic ix => (match gsL.find? (fun q => Nat.beq q.1 (mO j) && Nat.beq q.2.1 ix) with
    | none => none
    | some q => cond (Nat.beq len 3) (some (n, psA A (aR (1001 + q.2.2.1) :: A.2.1))) none)
  | .iaload => (match A.2.1 with
    | .inl f :: .inr (.inr (a + 1)) :: S => cond (Nat.beq len 1 && ixA A f (alA A a 0)) (rd n A S a f) none
    | _ => none)
  | .laload => (match A.2.1 with
    | .inl f :: .inr (.inr (a + 1)) :: S => cond (Nat.beq len 1 && Nat.blt a 119 && ixA A f (alA A a 1)) (some (n, psA A (aJ :: S))) none
    | _ => none)
  | .baload => (match A.2.1 with
    | .inl f :: .inr (.inr (a + 1)) :: S => cond (Nat.beq len 1 && Nat.blt a 119 && (ixA A f (alA A a 2) || ixA A f (alA A a 3))) (rd n A S a f) none
    | _ => none)
  | .iastore => (match A.2.1 with
    | .inl v :: .inl f :: .inr (.inr (a + 1)) :: S => cond (Nat.beq len 1 && Nat.blt a 119 && ixA A f (alA A a 0) && inA md A a f) (match gB a f with
      | some b => cond (inG A v b) (some (n, (A.1, S, mwr A a f v, A.2.2.2))) none
      | none => none) none
    | _ => none)
  | .lastore => (match A.2.1 with
    | .inr (.inl _) :: .inl f :: .inr (.inr (a + 1)) :: S => cond (Nat.beq len 1 && Nat.blt a 119 && ixA A f (alA A a 1) && inA md A a f) (match gl a with
      | [b] => cond (ige (b.1 - b.2 - 1)) (some (n, (A.1, S, mwx A a f, A.2.2.2))) none
      | _ => none) none
    | _ => none)
  | .bastore => (match A.2.1 with
    | .inl v :: .inl f :: .inr (.inr (a + 1)) :: S => cond (Nat.beq len 1 && Nat.blt a 119 && inA md A a f) (match gB a f with
      | some b => cond (ixA A f (alA A a 2)) (cond (ige (-128 - b.1) && ige (b.2 - 127)) (some (n, (A.1, S, mwx A a f, A.2.2.2))) none) (cond (ixA A f (alA A a 3) && inG A v b && inG A v (0, 1)) (some (n, (A.1, S, mwr A a f v, A.2.2.2))) none)
      | none => none) none
    | _ => none)
  | .arraylength => (match A.2.1 with
    | .inr (.inr (a + 1)) :: S => cond (Nat.beq len 1) (cond (Nat.blt a 119) (match SH a with
      | .inr q => some (n, psA A (aI (fk q.2) :: S))
      | .inl _ => none) (cond (Nat.beq a 1002) (match mget A.2.2.1 1003 (fk 0) with
        | some l => some (n, psA A (aI l :: S))
        | none => none) none)) none
    | _ => none)
  | _ => none
/-- steps on the two texts -/
def zx (j : Nat) (i : Instr) (len n : Nat) (A : aA) : Option (Nat × aA) := match i with
  | .ldc ix => (match strL.find? (fun q => Nat.beq q.1 (mO j) && Nat.beq q.2.1 ix) with
    | none => none
    | some q => cond (Nat.beq len 2) (some (n, psA A (aR (1005 + 2 * q.2.2.1) :: A.2.1))) none)
  | .getfield ix => (match A.2.1 with
    | .inr (.inr k) :: S => (match sfL.find? (fun q => Nat.beq q.1 (mO j) && Nat.beq q.2.1 ix) with
      | none => none
      | some q => cond (Nat.beq len 3 && (Nat.beq k 1005 || Nat.beq k 1007)) (some (n, psA A (cond (Nat.beq q.2.2.1 0) (aR (k + 1)) (aI (fk 0)) :: S))) none)
    | _ => none)
  | .getstatic ix => (match gbL.find? (fun q => Nat.beq q.1 (mO j) && Nat.beq q.2.1 ix) with
    | none => none
    | some q => cond (Nat.beq len 3 && Nat.beq q.2.2.1 0) (some (n, psA A (aI (fk 1) :: A.2.1))) none)
  | .baload => (match A.2.1 with
    | .inl f :: .inr (.inr k) :: S => cond (Nat.beq len 1 && (Nat.beq k 1006 || Nat.beq k 1008) && ixA A f (some (fk (cond (Nat.beq k 1006) 126 10)))) (rd n A S (k - 1) f) none
    | _ => none)
  | .arraylength => (match A.2.1 with
    | .inr (.inr k) :: S => cond (Nat.beq len 1 && (Nat.beq k 1006 || Nat.beq k 1008)) (some (n, psA A (aI (fk (cond (Nat.beq k 1006) 126 10)) :: S))) none
    | _ => none)
  | _ => none
/-- one instruction with one way on -/
def ex (md : mdL) (j pc : Nat) (i : Instr) (len n : Nat) (A : aA) : Option (Nat × Nat × aA) := match i with
  | .goto off => cond (Nat.beq len 3) (match (pc : Int) + off with
    | .ofNat t => some (t, n, A)
    | .negSucc _ => none) none
  | _ => (match px j i len n A with
    | some r => some (pc + len, r)
    | none => (match sx1 i len n A with
      | some r => some (pc + len, r)
      | none => (match mx1 md j i len n A with
        | some r => some (pc + len, r)
        | none => (match zx j i len n A with
          | some r => some (pc + len, r)
          | none => none))))
/-! ===== hints: one number, read from its low end ===== -/
def hB : Nat := 20282409603651670423947251286016
def zg (t : Nat) : Int := cond (Nat.beq (t % 2) 0) (Int.ofNat (t / 2)) (Int.negSucc (t / 2))
def rTs : Nat → Nat → List (Nat × Int) × Nat
  | 0, z => ([], z)
  | m + 1, z => match rTs m (z / hB / hB) with
    | (l, y) => ((z % hB, zg (z / hB % hB)) :: l, y)
def rF (z : Nat) : lf × Nat := match rTs (z / hB % hB) (z / hB / hB) with
  | (l, y) => ((zg (z % hB), l), y)
def rFs : Nat → Nat → List lf × Nat
  | 0, z => ([], z)
  | m + 1, z => match rF z with
    | (f, y) => (match rFs m y with
      | (l, x) => (f :: l, x))
def rCs : Nat → Nat → List (Nat × Nat) × Nat
  | 0, z => ([], z)
  | m + 1, z => match rCs m (z / hB / hB) with
    | (l, y) => ((z % hB, z / hB % hB) :: l, y)
/-- method, depth, symbols, arguments, what is taken for granted, what may be written, the ends -/
abbrev ctr : Type := Nat × Nat × Nat × List av × aA × mdL × List (Nat × aA)
/-- place, symbols of its own, what holds there, rank -/
abbrev cut : Type := Nat × Nat × aA × lf
def ctj (c : ctr) : Nat := c.1
def ctd (c : ctr) : Nat := c.2.1
def ctp (c : ctr) : Nat := c.2.2.1
def cta (c : ctr) : List av := c.2.2.2.1
def ctP (c : ctr) : aA := c.2.2.2.2.1
def ctm (c : ctr) : mdL := c.2.2.2.2.2.1
def ctQ (c : ctr) : List (Nat × aA) := c.2.2.2.2.2.2
def eqF (A : aA) (f g : lf) : Bool := feq f g || (en A (fsb f g) && en A (fsb g f))
def eqV (p : Nat) (σ : List lf) (A : aA) (v t : av) : Bool := match t with
  | .inl g => (match v with
    | .inl f => eqF A f (sbF p σ g)
    | .inr _ => false)
  | .inr (.inl none) => (match v with
    | .inr (.inl _) => true
    | _ => false)
  | .inr (.inl (some g)) => (match v with
    | .inr (.inl (some f)) => eqF A f (sbF p σ g)
    | _ => false)
  | .inr (.inr k) => (match v with
    | .inr (.inr m) => Nat.beq m k
    | _ => false)
def eqS (p : Nat) (σ : List lf) (A : aA) (S T : List av) : Bool := match T with
  | [] => (match S with
    | [] => true
    | _ :: _ => false)
  | t :: r => (match S with
    | [] => false
    | v :: q => eqV p σ A v t && eqS p σ A q r)
def eqL (p : Nat) (σ : List lf) (A : aA) (S T : List (Option av)) : Bool := match T with
  | [] => (match S with
    | [] => true
    | _ :: _ => false)
  | none :: r => (match S with
    | [] => false
    | _ :: q => eqL p σ A q r)
  | some t :: r => (match S with
    | some v :: q => eqV p σ A v t && eqL p σ A q r
    | _ => false)
/-- cells, bounds and facts of T hold in A -/
def enM (p : Nat) (σ : List lf) (A : aA) (m : mf) : Bool := m.all (fun e => match mget A.2.2.1 e.1 (sbF p σ e.2.1) with
    | none => false
    | some v => eqF A v (sbF p σ e.2.2))
def enB (p : Nat) (σ : List lf) (A : aA) (B : bd) : Bool := B.all (fun e => inG A (sbF p σ (fs e.1)) e.2)
def enF (p : Nat) (σ : List lf) (A : aA) (F : List lf) : Bool := F.all (fun f => en A (sbF p σ f))
def enT (p : Nat) (σ : List lf) (A T : aA) : Bool := enM p σ A T.2.2.1 && enB p σ A T.2.2.2.1 && enF p σ A T.2.2.2.2
def cng (c : jC) : jC := match c with
  | .eq => .ne
  | .ne => .eq
  | .lt => .ge
  | .ge => .lt
  | .gt => .le
  | .le => .gt
/-- what a condition says; m: what is known of two that differ -/
def adc (A : aA) (c : jC) (x y : lf) (m : Nat) : Option aA := match c with
  | .eq => some (adf (adf A (fsb x y)) (fsb y x))
  | .ne => (match m with
    | 0 => some A
    | 1 => cond (en A (fsb x y)) (some (adf A (fak (fsb x y) (-1)))) none
    | _ => cond (en A (fsb y x)) (some (adf A (fak (fsb y x) (-1)))) none)
  | .lt => some (adf A (fak (fsb y x) (-1)))
  | .ge => some (adf A (fsb x y))
  | .gt => some (adf A (fak (fsb x y) (-1)))
  | .le => some (adf A (fsb y x))
abbrev kK : Type := Nat → aA → Nat → Nat → Option Nat
def br2 (K : kK) (n : Nat) (A : aA) (pc : Nat) (c : jC) (off : Int) (x y : lf) (z : Nat) : Option Nat := match (pc : Int) + off with
  | .negSucc _ => none
  | .ofNat t => (match adc A c x y (z % hB) with
    | none => none
    | some A1 => (match adc A (cng c) x y (z / hB % hB) with
      | none => none
      | some A2 => (match K n A1 t (z / hB / hB) with
        | none => none
        | some z1 => K n A2 (pc + 3) z1)))
def brA (K : kK) (n : Nat) (A : aA) (pc : Nat) (i : Instr) (len z : Nat) : Option Nat := match i with
  | .ifCond c off => (match A.2.1 with
    | .inl x :: S => cond (Nat.beq len 3) (br2 K n (psA A S) pc c off x (fk 0) z) none
    | _ => none)
  | .if_icmp c off => (match A.2.1 with
    | .inl y :: .inl x :: S => cond (Nat.beq len 3) (br2 K n (psA A S) pc c off x y z) none
    | _ => none)
  | _ => none
def swT (K : kK) (n : Nat) (A : aA) (pc : Nat) (x : lf) : List Int → Int → Nat → Option Nat
  | [], _, z => some z
  | off :: r, v, z => (match (pc : Int) + off with
    | .negSucc _ => none
    | .ofNat t => (match K n (adf (adf A (fak x (-v))) (fak (fsc (-1) x) v)) t z with
      | none => none
      | some y => swT K n A pc x r (v + 1) y))
def swL (K : kK) (n : Nat) (A : aA) (pc : Nat) (x : lf) : List (Int × Int) → Nat → Option Nat
  | [], z => some z
  | e :: r, z => (match (pc : Int) + e.2 with
    | .negSucc _ => none
    | .ofNat t => (match K n (adf (adf A (fak x (-e.1))) (fak (fsc (-1) x) e.1)) t z with
      | none => none
      | some y => swL K n A pc x r y))
def swA (K : kK) (n : Nat) (A : aA) (pc : Nat) (i : Instr) (z : Nat) : Option Nat := match A.2.1 with
  | .inl x :: S => (match i with
    | .tableswitch d lo hi offs => (match (pc : Int) + d with
      | .negSucc _ => none
      | .ofNat t => cond (ieq (lo + Int.ofNat offs.toList.length - 1) hi) (match swT K n (psA A S) pc x offs.toList lo z with
        | none => none
        | some y => (match K n (adf (psA A S) (fak (fsc (-1) x) (lo - 1))) t y with
          | none => none
          | some w => K n (adf (psA A S) (fak x (-hi - 1))) t w)) none)
    | .lookupswitch d ps => (match (pc : Int) + d with
      | .negSucc _ => none
      | .ofNat t => cond ((ps.toList.zip (ps.toList.drop 1)).all (fun (a, next) => a.1 < next.1)) (match swL K n (psA A S) pc x ps.toList z with
        | none => none
        | some y => cond (ps.toList.any (fun e => inG (psA A S) x (e.1, e.1))) (some y) (K n (psA A S) t y)) none)
    | _ => none)
  | _ => none
def avS (p : Nat) (σ : List lf) (v : av) : av := match v with
  | .inl f => .inl (sbF p σ f)
  | .inr (.inl (some f)) => .inr (.inl (some (sbF p σ f)))
  | .inr x => .inr x
def fsN : Nat → Nat → List lf
  | 0, _ => []
  | m + 1, n => fs n :: fsN m (n + 1)
def bdS (q n : Nat) (B : bd) : bd := B.map (fun e => (e.1 - q + n, e.2))
/-- behind a call: an end of the contract -/
def pstA (σ : List lf) (n : Nat) (A : aA) (S : List av) (cc : ctr) (e : Nat × aA) : aA :=
  let τ := σ ++ fsN e.1 n
  adL (A.1, e.2.2.1.map (avS 0 τ) ++ S, (e.2.2.2.1.map (fun g => (g.1, sbF 0 τ g.2.1, sbF 0 τ g.2.2))) ++ A.2.2.1.filter (kpM A.2.2.2.1 (ctm cc)), bdS (ctp cc) n e.2.2.2.2.1 ++ A.2.2.2.1, A.2.2.2.2) (e.2.2.2.2.2.map (sbF 0 τ))
def okE (p : Nat) (e : Nat × aA) : Bool := nc (p + e.1) e.2 && e.2.2.2.2.1.all (fun b => Nat.ble p b.1 && Nat.blt b.1 (p + e.1))
def okCT (CT : List ctr) : Bool := CT.all (fun cc => (ctQ cc).all (okE (ctp cc)))
def ret1 (r : Option FieldType) (S : List av) : Bool := match r, S with
  | none, [] => true
  | some .long, [.inr (.inl _)] => true
  | some .int, [.inl _] => true
  | some .boolean, [.inl _] => true
  | some .char, [.inl _] => true
  | some .byte, [.inl _] => true
  | _, _ => false
def pstL (K : kK) (σ : List lf) (n : Nat) (A : aA) (S : List av) (cc : ctr) (pc : Nat) : List (Nat × aA) → Nat → Option Nat
  | [], z => some z
  | e :: r, z => (match K (n + e.1) (pstA σ n A S cc e) pc z with
      | none => none
      | some y => pstL K σ n A S cc pc r y)
def cal2 (K : kK) (n : Nat) (A : aA) (S As : List av) (pc d i : Nat) (md : mdL) (cc : ctr) (σ : List lf) (z : Nat) : Option Nat :=
  cond (nc n A && σ.all (ncF n) && Nat.beq (ctj cc) i && Nat.blt (ctd cc) d && eqS 0 σ A As (cta cc) && enT 0 σ A (ctP cc) && Nat.ble (stkA S) 8 && Nat.beq (mC i) 0 && (ctQ cc).all (fun e => ret1 (mR i) e.2.2.1) && (ctm cc).all (fun e => md.any (fun q => Nat.beq q.1 e.1 && Nat.ble q.2.1 e.2.1 && Nat.ble e.2.2 q.2.2))) (pstL K σ n A S cc (pc + 3) (ctQ cc) z) none
def calA (CT : List ctr) (c : ctr) (K : kK) (j n : Nat) (A : aA) (pc : Nat) (i : Instr) (len z : Nat) : Option Nat := match CT[z % hB]? with
  | none => none
  | some cc => (match rFs (ctp cc) (z / hB) with
    | (σ, y) => (match i with
      | .invokevirtual ix => (match fdf calL (mO j) ix with
        | none => none
        | some q => (match A.2.1.drop (mA q.2.2.2.1) with
          | .inr (.inr (b + 1)) :: S => cond (Nat.beq len 3 && Nat.beq q.2.2.1 0 && (obA b (mO q.2.2.2.1) || ((Nat.beq b 1004 || Nat.beq b 1006) && Nat.beq (mO q.2.2.2.1) 14)) && Nat.ble (mA q.2.2.2.1) A.2.1.length) (cal2 K n A S (aR (b + 1) :: (A.2.1.take (mA q.2.2.2.1)).reverse) pc (ctd c) q.2.2.2.1 (ctm c) cc σ y) none
          | _ => none))
      | .invokestatic ix => (match fdf calL (mO j) ix with
        | none => none
        | some q => cond (Nat.beq len 3 && Nat.beq q.2.2.1 1 && Nat.beq (mth q.2.2.2.1) 0 && Nat.ble (mA q.2.2.2.1) A.2.1.length) (cal2 K n A (A.2.1.drop (mA q.2.2.2.1)) (A.2.1.take (mA q.2.2.2.1)).reverse pc (ctd c) q.2.2.2.1 (ctm c) cc σ y) none)
      | _ => none))
def cutA (c : ctr) (cu : List cut) (r0 : Option lf) (A : aA) (pc z : Nat) : Option Nat := match cu[z % hB]? with
  | none => none
  | some u => (match rFs u.2.1 (z / hB) with
    | (σ, y) => cond (Nat.beq u.1 pc && eqL (ctp c) σ A A.1 u.2.2.1.1 && eqS (ctp c) σ A A.2.1 u.2.2.1.2.1 && enT (ctp c) σ A u.2.2.1 && en A (sbF (ctp c) σ u.2.2.2) && (match r0 with
      | none => true
      | some f => en A (fak (fsb f (sbF (ctp c) σ u.2.2.2)) (-1)))) (some y) none)
def retA (c : ctr) (A : aA) (i : Instr) (len z : Nat) : Option Nat := match (ctQ c)[z % hB]? with
  | none => none
  | some e => (match rFs e.1 (z / hB) with
    | (σ, y) => cond (Nat.beq len 1 && Nat.ble (mC (ctj c)) 119 && eqS (ctp c) σ A A.2.1 e.2.2.1 && enT (ctp c) σ A e.2 && (match i with
      | .ireturn => (match mR (ctj c), A.2.1 with
        | some .int, [.inl _] => true
        | some .boolean, [.inl f] => inG A f (0, 1)
        | some .char, [.inl f] => inG A f (0, 65535)
        | some .byte, [.inl f] => inG A f (-128, 127)
        | _, _ => false)
      | .lreturn => (match mR (ctj c), A.2.1 with
        | some .long, [.inr (.inl _)] => true
        | _, _ => false)
      | .return_ => (match mR (ctj c), A.2.1 with
        | none, [] => true
        | _, _ => false)
      | _ => false)) (some y) none)
def dedA (A : aA) (z : Nat) : Option Nat := cond (match z % hB with
  | 0 => ivF A.2.2.2.1 (fk (-1)) A.2.2.2.2
  | s + 1 => (match bl A.2.2.2.1 s with
    | none => false
    | some b => ige (b.1 - b.2 - 1))) (some (z / hB)) none
def lmS (F : List lf) : List (Nat × Nat) → lf → lf
  | [], f => f
  | e :: r, f => lmS F r (fsb f (fsc (Int.ofNat e.2) (F.getD e.1 (0, []))))
def lmA (K : kK) (n : Nat) (A : aA) (pc z : Nat) : Option Nat := match rF z with
  | (f, y) => (match rCs (y / hB % hB) (y / hB / hB) with
    | (l, x) => cond (ncF n f && l.all (fun e => Nat.blt e.1 A.2.2.2.2.length) && iv A.2.2.2.1 (lmS A.2.2.2.2 l (fak (fsc (Int.ofNat (y % hB + 1)) f) (Int.ofNat (y % hB))))) (K n (adf A f) pc x) none)
def spA (K : kK) (n : Nat) (A : aA) (pc z : Nat) : Option Nat := match rF z with
  | (f, y) => cond (ncF n f) (match K n (adf A f) pc y with
    | none => none
    | some x => K n (adf A (fak (fsc (-1) f) (-1))) pc x) none
def rfL (K : kK) (n : Nat) (A : aA) (S : List av) (a k pc : Nat) : List Nat → Nat → Option Nat
  | [], z => some z
  | x :: r, z => (match K n (A.1, aR x :: S, (a, fk k, fk x) :: A.2.2.1, A.2.2.2) pc z with
    | none => none
    | some y => rfL K n A S a k pc r y)
def rfA (K : kK) (j n : Nat) (A : aA) (pc : Nat) (i : Instr) (len z : Nat) : Option Nat := match i with
  | .getfield ix => (match A.2.1 with
    | .inr (.inr (a + 1)) :: S => (match fdf fldL (mO j) ix with
      | none => none
      | some q => cond (Nat.beq len 3 && obA a q.2.2.1 && Nat.beq (fty (tyA q.2.2.1 q.2.2.2.1)) 3 && !(Nat.beq (rf a q.2.2.2.1).length 0)) (rfL K n A S a q.2.2.2.1 (pc + 3) (rf a q.2.2.2.1) z) none)
    | _ => none)
  | _ => none
/-- the slots that a cell has -/
def szA (c : Nat) : Nat := cond (Nat.blt c 119) (szS (SH c)) (cond (Nat.beq c 1003) 1 0)
def ldA (K : kK) (n : Nat) (A : aA) (pc z : Nat) : Option Nat := cond (Nat.blt (z / hB % hB) (szA (z % hB))) (match rd n A [] (z % hB) (fk (Int.ofNat (z / hB % hB))) with
  | none => none
  | some (m, B) => K m (B.1, A.2.1, B.2.2) pc (z / hB / hB)) none
def mmA (K : kK) (j n : Nat) (A : aA) (pc : Nat) (i : Instr) (len z : Nat) : Option Nat := match i with
  | .invokestatic ix => (match fdf calL (mO j) ix with
    | none => none
    | some q => cond (Nat.beq len 3 && Nat.beq q.2.2.1 1) (match mth q.2.2.2.1, A.2.1 with
      | 1, .inl b :: .inl a :: S => cond (Nat.ble (stkA S) 8) (match K n (adf (psA A (aI b :: S)) (fak (fsb b a) (-1))) (pc + 3) z with
        | none => none
        | some y => K n (adf (psA A (aI a :: S)) (fsb a b)) (pc + 3) y) none
      | 2, .inl b :: .inl a :: S => cond (Nat.ble (stkA S) 8) (match K n (adf (psA A (aI b :: S)) (fak (fsb a b) (-1))) (pc + 3) z with
        | none => none
        | some y => K n (adf (psA A (aI a :: S)) (fsb b a)) (pc + 3) y) none
      | 3, .inl a :: S => cond (Nat.ble (stkA S) 8) (match K n (adf (psA A (aI a :: S)) a) (pc + 3) z with
        | none => none
        | some y => (match pw n (adf (psA A S) (fak (fsc (-1) a) (-1))) S (fsc (-1) a) with
          | none => none
          | some (m, B) => K m B (pc + 3) y)) none
      | _, _ => none) none)
  | _ => none
def acm (a b : Nat) (x y k : lf) (l : mf) : mf := if a = 59 ∧ b = 60 ∧ x = (0, []) ∧ y = (0, []) then (5341, k, (0, [])) :: l else l
def acA (md : mdL) (K : kK) (j n : Nat) (A : aA) (pc : Nat) (i : Instr) (len z : Nat) : Option Nat := match i with
  | .invokestatic ix => cond (Nat.beq len 3 && calL.all (fun q => !(Nat.beq q.1 (mO j) && Nat.beq q.2.1 ix)) && acpL.any (fun q => Nat.beq q.1 (mO j) && Nat.beq q.2.1 ix)) (match A.2.1 with
    | .inl k :: .inl y :: .inr (.inr (b + 1)) :: .inl x :: .inr (.inr (a + 1)) :: S => (match alA A a 0, alA A b 0, gl a, gl b with
      | some la, some lb, [ba], [bb] => cond (Nat.blt a 119 && Nat.blt b 119 && inW md b (szS (SH b)) && Nat.ble (stkA S) 8 && en A x && en A y && en A k && en A (fsb (fsb la x) k) && en A (fsb (fsb lb y) k) && ige (ba.1 - bb.1) && ige (bb.2 - ba.2) && ige (ba.2 - ba.1)) (K n (A.1, S, acm a b x y k (A.2.2.1.filter (fun e => cond (Nat.ble 5000 e.1) (match hdp (e.1 - 5000) with
        | none => false
        | some d => d.all (fun q => !(Nat.beq q.1 b))) (!(Nat.beq e.1 b)))), A.2.2.2) (pc + 3) z) none
      | _, _, _, _ => none)
    | _ => none) none
  | _ => none
/-- a division whose parts are kept: a = d q + r -/
def dxA (K : kK) (n : Nat) (A : aA) (pc : Nat) (i : Instr) (len z : Nat) : Option Nat := match A.2.1 with
  | .inl b :: .inl a :: S => cond (Nat.beq len 1 && isK b && ige (b.1 - 1) && en A a && en A (fak (fsc (-1) a) 2147483647) && nc n A) (match i with
    | .idiv => K (n + 2) (adL (A.1, aI (fs n) :: S, A.2.2.1, (n, 0, 2147483647) :: (n + 1, 0, b.1 - 1) :: A.2.2.2.1, A.2.2.2.2) [fsb a (fad (fsc b.1 (fs n)) (fs (n + 1))), fsb (fad (fsc b.1 (fs n)) (fs (n + 1))) a]) (pc + 1) z
    | .irem => K (n + 2) (adL (A.1, aI (fs (n + 1)) :: S, A.2.2.1, (n, 0, 2147483647) :: (n + 1, 0, b.1 - 1) :: A.2.2.2.1, A.2.2.2.2) [fsb a (fad (fsc b.1 (fs n)) (fs (n + 1))), fsb (fad (fsc b.1 (fs n)) (fs (n + 1))) a]) (pc + 1) z
    | _ => none) none
  | _ => none
/-- a rule: what it wants is known, what it says is added; it has no code -/
def ruA (RT : List ctr) (K : kK) (n : Nat) (A : aA) (pc z : Nat) : Option Nat := match RT[z % hB]? with
  | none => none
  | some cc => (match rFs (ctp cc) (z / hB) with
    | (σ, y) => cond (nc n A && σ.all (ncF n) && enT 0 σ A (ctP cc) && (ctQ cc).all (fun e => (match e.2.2.1 with
      | [] => true
      | _ :: _ => false)) && (match ctm cc with
      | [] => true
      | _ :: _ => false)) (match cta cc with
      | [] => pstL K σ n A A.2.1 cc pc (ctQ cc) y
      | _ :: _ => none) none)
/-- a rule of a write: cell, slot and value are the rule's -/
def wuB (K : kK) (σ : List lf) (S : List av) (cc : ctr) (pc y : Nat) (r : Option (Nat × aA)) : Option Nat := match r with
  | some (m, B) => cond (nc m B && σ.all (ncF m)) (pstL K σ m B S cc (pc + 1) (ctQ cc) y) none
  | none => none
def wuA (RT : List ctr) (md : mdL) (K : kK) (j n : Nat) (A : aA) (pc : Nat) (i : Instr) (len z : Nat) : Option Nat := match RT[z % hB]? with
  | none => none
  | some cc => (match rFs (ctp cc) (z / hB) with
    | (σ, y) => cond (nc n A && σ.all (ncF n) && enT 0 σ A (ctP cc) && (ctQ cc).all (fun e => (match e.2.2.1 with
      | [] => true
      | _ :: _ => false)) && (match ctm cc with
      | [] => true
      | _ :: _ => false)) (match cta cc, A.2.1 with
        | [.inl gi, .inl gv], .inl v :: .inl f :: .inr (.inr (a + 1)) :: S => cond (Nat.beq a (ctj cc) && eqF A f (sbF 0 σ gi) && eqF A v (sbF 0 σ gv)) (match i with
          | .iastore => wuB K σ S cc pc y (mx1 md j .iastore len n A)
          | .bastore => cond (inG A v (-128, 127)) (wuB K σ S cc pc y (mx1 md j .bastore len n A)) none
          | _ => none) none
        | [.inl gi, .inl gv], .inr (.inl (some v)) :: .inl f :: .inr (.inr (a + 1)) :: S => cond (Nat.beq a (ctj cc) && eqF A f (sbF 0 σ gi) && eqF A v (sbF 0 σ gv)) (match i with
          | .lastore => wuB K σ S cc pc y (mx1 md j .lastore len n A)
          | _ => none) none
        | _, _ => none) none)
/-- results that are named: an entry says of which numbers they are -/
def op2n (i : Instr) : Option Nat := match i with
  | .iand => some 0
  | .ior => some 1
  | .ixor => some 2
  | .ishl => some 3
  | .ishr => some 4
  | .iushr => some 5
  | _ => none
def op1n (i : Instr) : Option Nat := match i with
  | .i2b => some 0
  | .i2c => some 1
  | _ => none
def lo2n (i : Instr) : Option Nat := match i with
  | .land => some 0
  | .lor => some 1
  | .lxor => some 2
  | .ladd => some 3
  | .lsub => some 4
  | .lmul => some 5
  | _ => none
def lo1n (i : Instr) : Option Nat := match i with
  | .lshl => some 0
  | .lshr => some 1
  | .lushr => some 2
  | _ => none
def r6 : Int × Int := (-9223372036854775808, 9223372036854775807)
def opA (K : kK) (n : Nat) (A : aA) (pc : Nat) (i : Instr) (len z : Nat) : Option Nat := cond (nc n A && Nat.beq len 1) (match op2n i with
  | some q => (match A.2.1 with
    | .inl b :: .inl a :: S => cond (inG A b r3 && ncF n (fad (fsc 4294967296 a) b)) (K (n + 1) (A.1, aI (fs n) :: S, (5100 + q, fad (fsc 4294967296 a) b, fs n) :: A.2.2.1, (n, r3.1, r3.2) :: A.2.2.2.1, A.2.2.2.2) (pc + 1) z) none
    | _ => none)
  | none => (match op1n i with
    | some q => (match A.2.1 with
      | .inl a :: S => K (n + 1) (A.1, aI (fs n) :: S, (5120 + q, a, fs n) :: A.2.2.1, (n, r3.1, r3.2) :: A.2.2.2.1, A.2.2.2.2) (pc + 1) z
      | _ => none)
    | none => none)) none
/-- one instruction with longs, their values kept -/
def lgR (K : kK) (n : Nat) (A : aA) (S : List av) (c : Nat) (ix : lf) (pc z : Nat) : Option Nat := match mget A.2.2.1 c ix with
  | some v => K n (psA A (aK v :: S)) pc z
  | none => cond (nc n A && ncF n ix) (K (n + 1) (A.1, aK (fs n) :: S, (c, ix, fs n) :: A.2.2.1, A.2.2.2) pc z) none
def lgW (A : aA) (c : Nat) (ix : lf) (u : Option lf) : mf := match u with
  | some f => mwr A c ix f
  | none => mwx A c ix
def lgA (md : mdL) (K : kK) (j n : Nat) (A : aA) (pc : Nat) (i : Instr) (len z : Nat) : Option Nat := match i with
  | .lconst v => cond (Nat.beq len 1) (K n (psA A (aK (fk (Int.ofNat (v : Nat))) :: A.2.1)) (pc + 1) z) none
  | .ldc2_w ix => (match kcf clnL (mO j) ix with
    | none => none
    | some q => cond (Nat.beq len 3) (K n (psA A (aK (fk q.2.2.1) :: A.2.1)) (pc + 3) z) none)
  | .i2l => (match A.2.1 with
    | .inl a :: S => cond (Nat.beq len 1) (K n (psA A (aK a :: S)) (pc + 1) z) none
    | _ => none)
  | .lload k => (match A.1[k]? with
    | some (some (.inr (.inl u))) => cond (Nat.beq len 2) (K n (psA A (.inr (.inl u) :: A.2.1)) (pc + 2) z) none
    | _ => none)
  | .lload_n k => (match A.1[(k : Nat)]? with
    | some (some (.inr (.inl u))) => cond (Nat.beq len 1) (K n (psA A (.inr (.inl u) :: A.2.1)) (pc + 1) z) none
    | _ => none)
  | .lstore k => (match A.2.1 with
    | .inr (.inl u) :: S => cond (Nat.beq len 2 && Nat.blt (k + 1) A.1.length) (K n (((kiA A.1 k).set k (some (.inr (.inl u)))).set (k + 1) none, S, A.2.2) (pc + 2) z) none
    | _ => none)
  | .lstore_n k => (match A.2.1 with
    | .inr (.inl u) :: S => cond (Nat.beq len 1 && Nat.blt ((k : Nat) + 1) A.1.length) (K n (((kiA A.1 (k : Nat)).set (k : Nat) (some (.inr (.inl u)))).set ((k : Nat) + 1) none, S, A.2.2) (pc + 1) z) none
    | _ => none)
  | .getfield ix => (match A.2.1 with
    | .inr (.inr (a + 1)) :: S => (match fdf fldL (mO j) ix with
      | none => none
      | some q => cond (Nat.beq len 3 && obA a q.2.2.1 && Nat.beq (fty (tyA q.2.2.1 q.2.2.2.1)) 2) (lgR K n A S a (fk q.2.2.2.1) (pc + 3) z) none)
    | _ => none)
  | .laload => (match A.2.1 with
    | .inl f :: .inr (.inr (a + 1)) :: S => cond (Nat.beq len 1 && Nat.blt a 119 && ixA A f (alA A a 1)) (lgR K n A S a f (pc + 1) z) none
    | _ => none)
  | .putfield ix => (match A.2.1 with
    | .inr (.inl u) :: .inr (.inr (a + 1)) :: S => (match fdf fldL (mO j) ix with
      | none => none
      | some q => cond (Nat.beq len 3 && obA a q.2.2.1 && !(cT q.2.2.1 q.2.2.2.1).2.2.2 && inM md a q.2.2.2.1 && Nat.beq (fty (tyA q.2.2.1 q.2.2.2.1)) 2) (match gB a (fk q.2.2.2.1) with
        | none => K n (A.1, S, lgW A a (fk q.2.2.2.1) u, A.2.2.2) (pc + 3) z
        | some _ => none) none)
    | _ => none)
  | .lastore => (match A.2.1 with
    | .inr (.inl u) :: .inl f :: .inr (.inr (a + 1)) :: S => cond (Nat.beq len 1 && Nat.blt a 119 && ixA A f (alA A a 1) && inA md A a f) (match gl a with
      | [b] => cond (ige (b.1 - b.2 - 1)) (K n (A.1, S, lgW A a f u, A.2.2.2) (pc + 1) z) none
      | _ => none) none
    | _ => none)
  | .lcmp => (match A.2.1 with
    | .inr (.inl (some b)) :: .inr (.inl (some x)) :: S => cond (Nat.beq len 1) (match K n (adf (psA A (aI (fk (-1)) :: S)) (fak (fsb b x) (-1))) (pc + 1) z with
      | none => none
      | some y => (match K n (adf (adf (psA A (aI (fk 0) :: S)) (fsb x b)) (fsb b x)) (pc + 1) y with
        | none => none
        | some w => K n (adf (psA A (aI (fk 1) :: S)) (fak (fsb x b) (-1))) (pc + 1) w)) none
    | _ => none)
  | _ => cond (nc n A && Nat.beq len 1) (match lo2n i with
    | some q => (match A.2.1 with
      | .inr (.inl (some b)) :: .inr (.inl (some x)) :: S => cond (inG A b r6 && ncF n (fad (fsc 18446744073709551616 x) b)) (K (n + 1) (A.1, aK (fs n) :: S, (5110 + q, fad (fsc 18446744073709551616 x) b, fs n) :: A.2.2.1, (n, r6.1, r6.2) :: A.2.2.2.1, A.2.2.2.2) (pc + 1) z) none
      | _ => none)
    | none => (match lo1n i with
      | some q => (match A.2.1 with
        | .inl b :: .inr (.inl (some x)) :: S => cond (inG A b r3 && ncF n (fad (fsc 4294967296 x) b)) (K (n + 1) (A.1, aK (fs n) :: S, (5116 + q, fad (fsc 4294967296 x) b, fs n) :: A.2.2.1, (n, r6.1, r6.2) :: A.2.2.2.1, A.2.2.2.2) (pc + 1) z) none
        | _ => none)
      | none => none)) none
def actA (CT RT : List ctr) (c : ctr) (cu : List cut) (r0 : Option lf) (K : kK) (n : Nat) (A : aA) (pc : Nat) (i : Instr) (len z : Nat) : Option Nat := match z % hB with
  | 0 => brA K n A pc i len (z / hB)
  | 1 => swA K n A pc i (z / hB)
  | 2 => calA CT c K (ctj c) n A pc i len (z / hB)
  | 3 => cutA c cu r0 A pc (z / hB)
  | 4 => retA c A i len (z / hB)
  | 5 => dedA A (z / hB)
  | 6 => lmA K n A pc (z / hB)
  | 7 => spA K n A pc (z / hB)
  | 8 => rfA K (ctj c) n A pc i len (z / hB)
  | 9 => ldA K n A pc (z / hB)
  | 10 => mmA K (ctj c) n A pc i len (z / hB)
  | 11 => acA (ctm c) K (ctj c) n A pc i len (z / hB)
  | 12 => dxA K n A pc i len (z / hB)
  | 13 => ruA RT K n A pc (z / hB)
  | 14 => wuA RT (ctm c) K (ctj c) n A pc i len (z / hB)
  | 15 => opA K n A pc i len (z / hB)
  | 17 => lgA (ctm c) K (ctj c) n A pc i len (z / hB)
  | _ => none
def go (CT RT : List ctr) (c : ctr) (cu : List cut) (r0 : Option lf) : Nat → Nat → Nat → aA → Nat → Nat → Option Nat
  | 0, _, _, _, _, _ => none
  | fuel + 1, k, n, A, pc, z => match dcd (ctj c) pc with
    | some (i, len) => (match k with
      | k' + 1 => (match ex (ctm c) (ctj c) pc i len n A with
        | none => none
        | some (pc', n', A') => go CT RT c cu r0 fuel k' n' A' pc' z)
      | 0 => actA CT RT c cu r0 (fun n A pc z => go CT RT c cu r0 fuel (z % hB) n A pc (z / hB)) n A pc i len z)
    | none => none
def enA (a : List av) : List (Option av) := a.flatMap (fun v => cond (Nat.beq (catA v) 2) [some v, none] [some v])
def rpN : Nat → List (Option av)
  | 0 => []
  | k + 1 => none :: rpN k
/-- a method keeps its contract: its begin, and each of its cuts -/
def ckB (CT RT : List ctr) (c : ctr) (cu : List cut) (z : Nat) : Bool :=
  let L := enA (cta c)
  cond (Nat.blt 0 (ctd c) && Nat.beq (mth (ctj c)) 0 && Nat.beq (mC (ctj c)) 0 && Nat.ble L.length (mX (ctj c)) && (cta c).all (ncV (ctp c)) && nc (ctp c) (ctP c)) (match go CT RT c cu none 100000 (z % hB) (ctp c) (L ++ rpN (mX (ctj c) - L.length), [], (ctP c).2.2) 0 (z / hB) with
  | some _ => true
  | none => false) false
def ckC (CT RT : List ctr) (c : ctr) (cu : List cut) (u : cut) (z : Nat) : Bool := cond (nc (ctp c + u.2.1) u.2.2.1 && ncF (ctp c + u.2.1) u.2.2.2) (match go CT RT c cu (some u.2.2.2) 100000 (z % hB) (ctp c + u.2.1) (u.2.2.1.1, u.2.2.1.2.1, u.2.2.1.2.2.1, u.2.2.1.2.2.2.1 ++ (ctP c).2.2.2.1, u.2.2.1.2.2.2.2 ++ (ctP c).2.2.2.2) u.1 (z / hB) with
  | some _ => true
  | none => false) false
