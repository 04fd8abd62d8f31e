/-! ===== the sittings of a paper, reference ===== -/
theorem m_in {a b c : Int} (ha : rng a) (hb : rng b) (hc : rng c) : f_X5_in (I a) (I b) (I c) = some (I (B1 (decide (b ≤ a) && decide (a ≤ c)))) := by
  unfold f_X5_in
  rw [ite_lt ha hb, ite_lt hc ha]
  by_cases h1 : a < b
  · rw [if_pos h1, decide_eq_false (by omega), Bool.false_and]; rfl
  · rw [if_neg h1, decide_eq_true (show b ≤ a by omega), Bool.true_and]
    by_cases h2 : c < a
    · rw [if_pos h2, decide_eq_false (by omega)]; rfl
    · rw [if_neg h2, decide_eq_true (by omega)]; rfl
def hst (z : Nat → Int) (k : Nat) (x : Int32) : Int32 := if decide (0 ≤ z k) && decide (z k ≤ 63) then x ||| ((1 : Int32) <<< (I (z k / 16) &&& 31)) else x
def hmO (z : Nat → Int) (b : Nat) : Nat → Int32
  | 0 => 0
  | n + 1 => hst z (6 * n + b) (hmO z b n)
def unpz (g z : Nat → Int) (k : Nat) : Bool := st g k && decide (z k = -6)
theorem os106 {v : JV} {z : Nat → Int} (hz : RZ v z) (hb : Zb z) {k : Nat} (hk : k < 96) (r : JV → Int32 → Int32 → Int32 → Int32 → Int32 → Option (Int32 × JV)) (x2 x3 x4 x6 y1 y0 : Int32) :
    f_X5_ofSittings_K106 r v x2 x3 x4 x6 (I (k : Int)) y1 y0 = r v x3 x4 (y0 + y1) (hst z k x6) (I ((k + 6 : Nat) : Int)) := by
  have hzk := hb k
  unfold f_X5_ofSittings_K106 hst
  rw [gd_t (inb_k hk (by omega)), I_k (by omega), hz k hk, show (0 : Int32) = I 0 from rfl, show (63 : Int32) = I 63 from rfl, m_in (rng_of (by omega) (by omega)) (rng_of (by omega) (by omega)) (rng_of (by omega) (by omega))]
  simp only [Option.bind_some]
  rw [show (I 0 : Int32) = (0 : Int32) from rfl, ite_B1, or_0, show (6 : Int32) = I ((6 : Nat) : Int) from rfl, nat_add]
  by_cases c : (decide (0 ≤ z k) && decide (z k ≤ 63)) = true
  · rw [if_pos c, if_pos c]
    have c2 := (Bool.and_eq_true _ _).mp c
    have c3 := of_decide_eq_true c2.1
    rw [show (16 : Int32) = I 16 from rfl, I_div c3 (by omega) (by omega) (by omega), gd_t (inb_k hk (by omega))]
  · rw [if_neg c, if_neg c]
theorem os_step {v : JV} {g z : Nat → Int} (hM : RM (v 0) g) (hB : Bd g) (hz : RZ v z) (hb : Zb z) {k : Nat} (hk : k < 96) (r : JV → Int32 → Int32 → Int32 → Int32 → Int32 → Option (Int32 × JV)) (x2 x3 x6 : Int32) {e : Int} (he : -6 ≤ e ∧ e ≤ 931) (u : Nat) :
    f_X5_ofSittings_b19 x2 r v x3 (I e) (I (u : Int)) x6 (I (k : Int)) = r v (if st g k then x3 ||| ((1 : Int32) <<< (I ((k / 6 : Nat) : Int) &&& 31)) else x3) (I (if st g k && decide (e < ek g k) then ek g k else e)) (I ((u + b1 (unpz g z k) : Nat) : Int)) (hst z k x6) (I ((k + 6 : Nat) : Int)) := by
  have hzk := hb k
  have h2 := ek_bd hB hk
  have h3 := bk_bd hB hk
  have hu0 : I (u : Int) + (0 : Int32) = I ((u + 0 : Nat) : Int) := by rw [show (0 : Int32) = I ((0 : Nat) : Int) from rfl, nat_add]
  unfold f_X5_ofSittings_b19 f_X5_ofSittings_K51 f_X5_ofSittings_K78 f_X5_ofSittings_K80 f_X5_ofSittings_K105
  rw [show (96 : Int32) = I ((96 : Nat) : Int) from rfl, k_le (by omega) (by omega), if_neg (by omega), m_isSitting hM hB hk]
  simp only [Option.bind_some]
  rw [m_ends hM hB hk, k6d (by omega)]
  simp only [Option.bind_some]
  simp only [ite_B1]
  by_cases c : st g k = true
  · simp only [c, if_true, Bool.true_and]
    rw [ite_le (rng_of (by omega) (by omega)) (rng_of (by omega) (by omega))]
    have hkk : (I (k : Int)).toNatClampNeg = k := I_k (by omega)
    have hin : inb (I (k : Int)) 96 = true := inb_k hk (by omega)
    simp only [gd_t hin, hkk, hz k hk, os106 hz hb hk]
    rw [show (-6 : Int32) = I (-6) from rfl]
    simp only [I_inj (rng_of (show -1000000 ≤ z k by omega) (by omega)) (rng_of (show (-1000000 : Int) ≤ -6 by omega) (by omega))]
    rw [hu0, one_add]
    have hun : unpz g z k = decide (z k = -6) := by unfold unpz; rw [c, Bool.true_and]
    rw [hun]
    by_cases d : z k = -6
    · rw [if_pos d, if_pos d, decide_eq_true d]
      by_cases f : ek g k ≤ e
      · rw [if_pos f, decide_eq_false (by omega)]; rfl
      · rw [if_neg f, decide_eq_true (by omega)]; rfl
    · rw [if_neg d, if_neg d, decide_eq_false d]
      by_cases f : ek g k ≤ e
      · rw [if_pos f, decide_eq_false (by omega)]; rfl
      · rw [if_neg f, decide_eq_true (by omega)]; rfl
  · have c' := (Bool.not_eq_true _).mp c
    have hun : unpz g z k = false := by unfold unpz; rw [c', Bool.false_and]
    simp only [c', Bool.false_eq_true, if_false, Bool.false_and]
    rw [os106 hz hb hk, hu0, hun, or_0]
    rfl
