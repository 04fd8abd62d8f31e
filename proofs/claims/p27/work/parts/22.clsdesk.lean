/-! ===== (from the parts of whole) ===== -/
theorem p_isEarlyEnough {v vS : JV} {g : Nat → Int} (hS : RS vS g) (hB : Bd g) {x : Int} (hx : -1000 ≤ x ∧ x ≤ 1000) {p : Nat} (hp : p < 6) : f_X3_isEarlyEnough v vS (I x) (I (p : Int)) = some (I (B1 (decide (x ≤ bg g p - g 2)))) := by
  have h1 := bg_bd hB hp
  have h2 := hB.2.2.1
  unfold f_X3_isEarlyEnough
  rw [p_beginOf hS hp]
  simp only [Option.bind_some]
  rw [hS.1 2 (by omega), I_sub, ite_lt (rng_of (by omega) (by omega)) (rng_of (by omega) (by omega))]
  by_cases c : bg g p - g 2 < x
  · rw [if_pos c, decide_eq_false (by omega)]; rfl
  · rw [if_neg c, decide_eq_true (by omega)]; rfl
/-- the papers that were at a desk -/
def PM (f : Nat → Int32) (z : Nat → Int) : Prop := ∀ q : Nat, q < 64 → ∃ m : Nat, m < 64 ∧ f q = I (m : Int) ∧ ∀ p : Nat, p < 6 → bt (m : Int) p = hasB z (q : Int) p
theorem p_cont {f : Nat → Int32} {z : Nat → Int} (hf : PM f z) {q p : Nat} (hq : q < 64) (hp : p < 6) : f_X4_contains (f q) (I (p : Int)) = some (I (B1 (hasB z (q : Int) p))) := by
  obtain ⟨m, h1, h2, h3⟩ := hf q hq
  rw [h2, p_contains (by omega) (by omega) hp, h3 p hp]
theorem dmod {c r x : Nat} (hx : x < c) : (c * r + x) % c = x ∧ (c * r + x) / c = r := by
  refine ⟨?_, ?_⟩
  · rw [Nat.mul_add_mod]; exact Nat.mod_eq_of_lt hx
  · rw [Nat.mul_add_div (by omega), Nat.div_eq_of_lt hx]; omega
theorem p_isBeside {v vS : JV} {g z : Nat → Int} (hS : RS vS g) (hB : Bd g) (hf : PM (v 7) z) {h r x p : Nat} (hh : h < 4) (hr : r < rw_ g h) (hx : x < cw_ g h) (hp : p < 6) : f_X3_isBeside v vS (I (h : Int)) (I (r : Int)) (I (x : Int)) (I (p : Int)) = some (I (B1 (!aloneB g z h (cw_ g h * r + x) p))) := by
  have hc := rc_bd hB hh
  obtain ⟨d1, d2⟩ := dmod (c := cw_ g h) (r := r) hx
  have hrc : cw_ g h * r + cw_ g h ≤ cw_ g h * rw_ g h := by
    have := Nat.mul_le_mul_left (cw_ g h) (show r + 1 ≤ rw_ g h by omega)
    rw [Nat.mul_succ] at this
    exact this
  have hm2 : cw_ g h * rw_ g h ≤ 16 := by rw [Nat.mul_comm]; exact (rc_mul hB hh).2
  have n1 : (1 : Int32) = I 1 := rfl
  have nn1 : (1 : Int32) = I ((1 : Nat) : Int) := rfl
  have n0 : (0 : Int32) = I 0 := rfl
  have e16 : (16 : Int32) = I ((16 : Nat) : Int) := rfl
  generalize hd : cw_ g h * r + x = d at d1 d2 ⊢
  have c1 : (0 < d % cw_ g h) = (0 < x) := by rw [d1]
  have row0 : (r = 0) = (d < cw_ g h) := by
    apply propext
    constructor
    · intro e; subst e; omega
    · intro e
      by_cases c : r = 0
      · exact c
      · have := Nat.mul_le_mul_left (cw_ g h) (show 1 ≤ r by omega)
        omega
  have rowl : (r + 1 = rw_ g h) = (cw_ g h * rw_ g h ≤ d + cw_ g h) := by
    apply propext
    constructor
    · intro e
      rw [← e, Nat.mul_succ]; omega
    · intro e
      by_cases c : r + 1 = rw_ g h
      · exact c
      · have := Nat.mul_le_mul_left (cw_ g h) (show r + 1 + 1 ≤ rw_ g h by omega)
        rw [Nat.mul_succ, Nat.mul_succ] at this
        omega
  have L4 : f_X3_isBeside_K92 v vS (I (h : Int)) (I (r : Int)) (I (p : Int)) (I (cw_ g h : Int)) (I ((16 * h + d : Nat) : Int)) = some (I (B1 (decide (d + cw_ g h < cw_ g h * rw_ g h) && hasB z (((16 * h + d : Nat) : Int) + (cw_ g h : Int)) p))) := by
    unfold f_X3_isBeside_K92
    rw [gd_t (inb_k hh (by omega)), I_k (by omega), (hS.2.2.2.1 h hh).1, hc.2.2.1, n1, I_sub, ite_le (rng_of (by omega) (by omega)) (rng_of (by omega) (by omega))]
    by_cases c : (rw_ g h : Int) - 1 ≤ (r : Int)
    · rw [if_pos c, decide_eq_false (show ¬ d + cw_ g h < cw_ g h * rw_ g h by have := rowl.mp (by omega); omega)]; rfl
    · have hlt : ¬ cw_ g h * rw_ g h ≤ d + cw_ g h := fun e => by have := rowl.mpr e; omega
      rw [if_neg c, nat_add, gd_t (inb_k (by omega) (by omega)), I_k (by omega), p_cont hf (by omega) hp, decide_eq_true (show d + cw_ g h < cw_ g h * rw_ g h by omega)]
      simp only [Option.bind_some]
      rw [ite_B1, show ((16 * h + d + cw_ g h : Nat) : Int) = ((16 * h + d : Nat) : Int) + (cw_ g h : Int) by omega]
      cases hasB z (((16 * h + d : Nat) : Int) + (cw_ g h : Int)) p <;> rfl
  have L3 : f_X3_isBeside_K70 v vS (I (h : Int)) (I (r : Int)) (I (p : Int)) (I (cw_ g h : Int)) (I ((16 * h + d : Nat) : Int)) = some (I (B1 ((decide (cw_ g h ≤ d) && hasB z (((16 * h + d : Nat) : Int) - (cw_ g h : Int)) p) || (decide (d + cw_ g h < cw_ g h * rw_ g h) && hasB z (((16 * h + d : Nat) : Int) + (cw_ g h : Int)) p)))) := by
    unfold f_X3_isBeside_K70
    rw [L4]
    show (if I (r : Int) ≤ I 0 then _ else _) = _
    rw [ite_le (rng_of (by omega) (by omega)) (rng_of (by omega) (by omega))]
    by_cases c : (r : Int) ≤ 0
    · rw [if_pos c, decide_eq_false (show ¬ cw_ g h ≤ d by have := row0.mp (by omega); omega), Bool.false_and, Bool.false_or]
    · have hlt : ¬ d < cw_ g h := fun e => by have := row0.mpr e; omega
      rw [if_neg c, I_sub, show ((16 * h + d : Nat) : Int) - (cw_ g h : Int) = ((16 * h + d - cw_ g h : Nat) : Int) by omega, gd_t (inb_k (by omega) (by omega)), I_k (by omega), p_cont hf (by omega) hp, decide_eq_true (show cw_ g h ≤ d by omega)]
      simp only [Option.bind_some]
      rw [ite_B1]
      cases hasB z ((16 * h + d - cw_ g h : Nat) : Int) p <;> rfl
  have L2 : f_X3_isBeside_K45 v vS (I (h : Int)) (I (r : Int)) (I (x : Int)) (I (p : Int)) (I (cw_ g h : Int)) (I ((16 * h + d : Nat) : Int)) = some (I (B1 ((decide (d % cw_ g h + 1 < cw_ g h) && hasB z (((16 * h + d : Nat) : Int) + 1) p) || ((decide (cw_ g h ≤ d) && hasB z (((16 * h + d : Nat) : Int) - (cw_ g h : Int)) p) || (decide (d + cw_ g h < cw_ g h * rw_ g h) && hasB z (((16 * h + d : Nat) : Int) + (cw_ g h : Int)) p))))) := by
    unfold f_X3_isBeside_K45
    rw [L3]
    show (if I (cw_ g h : Int) - I 1 ≤ I (x : Int) then _ else _) = _
    rw [I_sub, ite_le (rng_of (by omega) (by omega)) (rng_of (by omega) (by omega)), d1]
    by_cases c : (cw_ g h : Int) - 1 ≤ (x : Int)
    · rw [if_pos c, decide_eq_false (show ¬ x + 1 < cw_ g h by omega), Bool.false_and, Bool.false_or]
    · rw [if_neg c, one_add, gd_t (inb_k (by omega) (by omega)), I_k (by omega), p_cont hf (by omega) hp, decide_eq_true (show x + 1 < cw_ g h by omega)]
      simp only [Option.bind_some]
      rw [ite_B1, show ((16 * h + d + 1 : Nat) : Int) = ((16 * h + d : Nat) : Int) + 1 by omega]
      cases hasB z (((16 * h + d : Nat) : Int) + 1) p <;> rfl
  unfold f_X3_isBeside
  rw [gd_t (inb_k hh (by omega)), I_k (by omega), (hS.2.2.2.1 h hh).2, hc.2.2.2, e16, nat_mul, nat_mul, nat_add, nat_add, show 16 * h + cw_ g h * r + x = 16 * h + d by omega, L2]
  show (if I (x : Int) ≤ I 0 then _ else _) = _
  rw [ite_le (rng_of (by omega) (by omega)) (rng_of (by omega) (by omega))]
  have dm : ∀ A B C : Bool, (A || (B || C)) = !(!A && (!B && !C)) := by decide
  unfold aloneB
  by_cases c : (x : Int) ≤ 0
  · rw [if_pos c, decide_eq_false (show ¬ 0 < d % cw_ g h by omega)]
    rw [Bool.false_and, Bool.not_false, Bool.true_and, dm]
  · rw [if_neg c, n1, I_sub, show ((16 * h + d : Nat) : Int) - 1 = ((16 * h + d - 1 : Nat) : Int) by omega, gd_t (inb_k (by omega) (by omega)), I_k (by omega), p_cont hf (by omega) hp, decide_eq_true (show 0 < d % cw_ g h by omega)]
    simp only [Option.bind_some]
    rw [ite_B1]
    cases hasB z ((16 * h + d - 1 : Nat) : Int) p
    · rw [if_neg Bool.false_ne_true, Bool.and_false, Bool.not_false, Bool.true_and, dm]
    · rfl
