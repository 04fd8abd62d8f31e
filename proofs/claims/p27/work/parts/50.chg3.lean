/-! ===== (from the parts of whole) ===== -/
theorem two_if {α : Type} {s : Nat} (hs : s < 2) (A : Nat → Option α) : (if I (s : Int) = (0 : Int32) then A 0 else if I (s : Int) = (1 : Int32) then A 1 else none) = A s := by
  match s, hs with
  | 0, _ => rfl
  | 1, _ => rfl
