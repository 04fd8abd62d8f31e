/-! ===== (from the parts of whole) ===== -/
theorem ite_le {α : Type} {a b : Int} (ha : rng a) (hb : rng b) {x y : α} : (if I a ≤ I b then x else y) = (if a ≤ b then x else y) := by
  have h := I_le ha hb
  by_cases c : a ≤ b
  · rw [if_pos c, if_pos (h.mpr c)]
  · rw [if_neg c, if_neg (fun z => c (h.mp z))]
theorem ite_lt {α : Type} {a b : Int} (ha : rng a) (hb : rng b) {x y : α} : (if I a < I b then x else y) = (if a < b then x else y) := by
  have h := I_lt ha hb
  by_cases c : a < b
  · rw [if_pos c, if_pos (h.mpr c)]
  · rw [if_neg c, if_neg (fun z => c (h.mp z))]
theorem ite_eq {α : Type} {a b : Int} (ha : rng a) (hb : rng b) {x y : α} : (if I a = I b then x else y) = (if a = b then x else y) := by
  have h := I_inj ha hb
  by_cases c : a = b
  · rw [if_pos c, if_pos (h.mpr c)]
  · rw [if_neg c, if_neg (fun z => c (h.mp z))]
theorem ite_B1 {α : Type} {b : Bool} {x y : α} : (if I (B1 b) = 0 then x else y) = (if b = true then y else x) := by cases b <;> rfl
theorem ite_B1' {α : Type} {b : Bool} {x y : α} : (if I (B1 b) = 1 then x else y) = (if b = true then x else y) := by cases b <;> rfl
def st (g : Nat → Int) (k : Nat) : Bool := decide (((k / 6 : Nat) : Int) < g 3) && bt (g (16 + 3 * (k / 6))) (k % 6)
def bk (g : Nat → Int) (k : Nat) : Int := bg g (k % 6)
def ek (g : Nat → Int) (k : Nat) : Int := en g (k / 6) (k % 6)
def rd (g : Nat → Int) (k : Nat) : Bool := g (18 + 3 * (k / 6)) == 1
theorem c6 : (6 : Int32) = I ((6 : Nat) : Int) := rfl
theorem k6d {k : Nat} (h : k < 1000000) : I (k : Int) / (6 : Int32) = I ((k / 6 : Nat) : Int) := by
  rw [c6, I_div (by omega) (by omega) (by omega) (by omega)]
  rfl
theorem k6m {k : Nat} (h : k < 1000000) : I (k : Int) - I (k : Int) / (6 : Int32) * (6 : Int32) = I ((k % 6 : Nat) : Int) := by
  rw [k6d h, c6, I_mul, I_sub]
  congr 1
  omega
theorem nat_add (a b : Nat) : I (a : Int) + I (b : Int) = I ((a + b : Nat) : Int) := by rw [I_add]; congr 1
theorem nat_mul (a b : Nat) : I (a : Int) * I (b : Int) = I ((a * b : Nat) : Int) := by rw [I_mul]; congr 1
theorem pap_bd {g : Nat → Int} (hB : Bd g) {i : Nat} (hi : i < 16) : 0 ≤ g (16 + 3 * i) ∧ g (16 + 3 * i) ≤ 63 := (hB.2.2.2.2.2.1 i hi).1
def clashB (g : Nat → Int) (a b : Nat) : Bool := decide (bk g b < ek g a) && decide (bk g a < ek g b)
theorem bk_bd {g : Nat → Int} (hB : Bd g) {k : Nat} (hk : k < 96) : 0 ≤ bk g k ∧ bk g k ≤ 570 := bg_bd hB (by omega)
theorem ek_bd {g : Nat → Int} (hB : Bd g) {k : Nat} (hk : k < 96) : bk g k + 30 ≤ ek g k ∧ ek g k ≤ 931 := en_bd hB (by omega) (by omega)
