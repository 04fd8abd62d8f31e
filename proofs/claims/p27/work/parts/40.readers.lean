/-! ===== (from the parts of whole) ===== -/
def rdq (g : Nat → Int) (k : Nat) : Bool := st g k && rd g k
def rdm (g : Nat → Int) (t : Int) : Nat := sm (fun k => b1 (rdq g k && ovr g t k)) 96
