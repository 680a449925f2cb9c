/-! ===== sayings of the memory: which slots they are of ===== -/
def hdp (p : Nat) : Option (List (Nat × Nat × Nat)) := match p with
  | 0 => none
  | 1 => none
  | _ => some []
