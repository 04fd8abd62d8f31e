/-! ===== (from the parts of whole) ===== -/
theorem p_in {a b c : Int} (ha : rng a) (hb : rng b) (hc : rng c) : f_X4_isWithin (I a) (I b) (I c) = some (I (B1 (decide (b ≤ a) && decide (a ≤ c)))) := by
  unfold f_X4_isWithin
  rw [ite_lt ha hb, ite_lt hc ha]
  by_cases h1 : a < b
  · rw [if_pos h1, decide_eq_false (by omega), Bool.false_and]; rfl
  · rw [if_neg h1, decide_eq_true (show b ≤ a by omega), Bool.true_and]
    by_cases h2 : c < a
    · rw [if_pos h2, decide_eq_false (by omega)]; rfl
    · rw [if_neg h2, decide_eq_true (by omega)]; rfl
def hst (z : Nat → Int) (k : Nat) (x : Int32) : Int32 := if decide (0 ≤ z k) && decide (z k ≤ 63) then x ||| ((1 : Int32) <<< (I (z k / 16) &&& 31)) else x
def hmO (z : Nat → Int) (b : Nat) : Nat → Int32
  | 0 => 0
  | n + 1 => hst z (6 * n + b) (hmO z b n)
def unpz (g z : Nat → Int) (k : Nat) : Bool := st g k && decide (z k = -6)
