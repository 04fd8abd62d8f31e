/-! ===== (from the parts of whole) ===== -/
def nd (g : Nat → Int) (h : Nat) : Nat := if g (66 + 3 * h) = 1 then rw_ g h * cw_ g h else 0
def dP (g z : Nat → Int) (k h d : Nat) : Bool := fre g z ((16 * h + d : Nat) : Int) k && (decide (g 0 = 0) || aloneB g z h d (k % 6))
def hQ (g z : Nat → Int) (k h : Nat) : Bool := decide (ff (dP g z k h) (nd g h) < nd g h)
def deskS (g z : Nat → Int) (k : Nat) : Int := if ff (hQ g z k) 4 < 4 then ((16 * ff (hQ g z k) 4 + ff (dP g z k (ff (hQ g z k) 4)) (nd g (ff (hQ g z k) 4)) : Nat) : Int) else -6
def nr (g : Nat → Int) : Nat := (g 1).toNat
def rP (g z : Nat → Int) (k r : Nat) : Bool := fre g z ((64 + r : Nat) : Int) k
def roomS (g z : Nat → Int) (k : Nat) : Int := if ff (rP g z k) (nr g) < nr g then ((64 + ff (rP g z k) (nr g) : Nat) : Int) else -6
theorem nd_le {g : Nat → Int} (hB : Bd g) {h : Nat} (hh : h < 4) : nd g h ≤ 16 := by
  have hm := rc_mul hB hh
  unfold nd
  split <;> omega
