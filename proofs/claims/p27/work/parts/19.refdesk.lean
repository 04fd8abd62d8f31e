/-! ===== (from the parts of whole) ===== -/
def hasB (z : Nat → Int) (q : Int) (p : Nat) : Bool := anyB (fun j => z (6 * j + p) == q) 16
def rw_ (g : Nat → Int) (h : Nat) : Nat := (g (64 + 3 * h)).toNat
def cw_ (g : Nat → Int) (h : Nat) : Nat := (g (65 + 3 * h)).toNat
theorem rc_bd {g : Nat → Int} (hB : Bd g) {h : Nat} (hh : h < 4) : (1 ≤ rw_ g h ∧ rw_ g h ≤ 4) ∧ (1 ≤ cw_ g h ∧ cw_ g h ≤ 4) ∧ g (64 + 3 * h) = (rw_ g h : Int) ∧ g (65 + 3 * h) = (cw_ g h : Int) := by
  have h1 := hB.2.2.2.2.2.2 h hh
  unfold rw_ cw_
  omega
theorem rc_mul {g : Nat → Int} (hB : Bd g) {h : Nat} (hh : h < 4) : 1 ≤ rw_ g h * cw_ g h ∧ rw_ g h * cw_ g h ≤ 16 := by
  have h1 := rc_bd hB hh
  refine ⟨Nat.mul_le_mul h1.1.1 h1.2.1.1, ?_⟩
  have h2 := Nat.mul_le_mul h1.1.2 h1.2.1.2
  omega
def aloneB (g z : Nat → Int) (h d p : Nat) : Bool :=
  !(decide (0 < d % cw_ g h) && hasB z (((16 * h + d : Nat) : Int) - 1) p) && (!(decide (d % cw_ g h + 1 < cw_ g h) && hasB z (((16 * h + d : Nat) : Int) + 1) p) && (!(decide (cw_ g h ≤ d) && hasB z (((16 * h + d : Nat) : Int) - (cw_ g h : Int)) p) && !(decide (d + cw_ g h < cw_ g h * rw_ g h) && hasB z (((16 * h + d : Nat) : Int) + (cw_ g h : Int)) p)))
theorem kmod {a b : Nat} (ha : a < 1000000) (hb : 0 < b) (hb2 : b < 1000000) : I (a : Int) - I (a : Int) / I (b : Int) * I (b : Int) = I ((a % b : Nat) : Int) := by
  rw [I_div (by omega) (by omega) (by omega) (by omega), I_mul, I_sub]
  congr 1
  have h1 := Int.emod_def (a : Int) (b : Int)
  rw [Int.natCast_emod]
  rw [h1, Int.mul_comm]
