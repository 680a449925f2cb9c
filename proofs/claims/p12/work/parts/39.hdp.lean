/-! ===== sayings of the memory: which slots they are of ===== -/
def hdp (p : Nat) : Option (List (Nat × Nat × Nat)) := match p with
  | 0 => none
  | 1 => none
  | 2 => some [(108, 0, 299)]
  | 3 => some [(108, 300, 599)]
  | 4 => some [(111, 0, 79), (112, 0, 79)]
  | 5 => some [(61, 8, 8), (61, 10, 10)]
  | 6 => some [(61, 10, 10)]
  | 7 => some [(61, 80, 80), (61, 85, 85), (108, 0, 599), (110, 0, 1)]
  | _ => some []
