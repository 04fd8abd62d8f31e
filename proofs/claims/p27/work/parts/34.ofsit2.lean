/-! ===== (from the parts of whole) ===== -/
def upO (g : Nat → Int) (b : Nat) : Nat := sm (fun i => b1 (unpz g (seatOf g) (6 * i + b))) 16
def haO (g : Nat → Int) (b : Nat) : Int32 := hmO (seatOf g) b 16
