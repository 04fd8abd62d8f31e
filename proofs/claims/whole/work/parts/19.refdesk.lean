/-! ===== the reference's desks and rooms ===== -/
def hasB (z : Nat → Int) (q : Int) (p : Nat) : Bool := anyB (fun j => z (6 * j + p) == q) 16
theorem m_has {v : JV} {z : Nat → Int} (hZ : RZ v z) (hz : Zb z) {q : Int} {p : Nat} (hq : -1000 ≤ q ∧ q ≤ 1000) (hp : p < 6) : f_X5_has v (I q) (I (p : Int)) = some (I (B1 (hasB z q p))) := by
  unfold f_X5_has f_X5_has_L5
  refine lp_run _ (fun j => (I (B1 (anyB (fun j => z (6 * j + p) == q) j)), I ((p + 6 * j : Nat) : Int))) 16 _ (fun rec j hj => ?_) (fun rec => ?_) FU (by have := FU_ge; omega)
  · show f_X5_has_b5 v (I q) (fun x y => rec (x, y)) (I (B1 (anyB (fun j => z (6 * j + p) == q) j))) (I ((p + 6 * j : Nat) : Int)) = rec (I (B1 (anyB (fun j => z (6 * j + p) == q) j || (z (6 * j + p) == q))), I ((p + 6 * (j + 1) : Nat) : Int))
    rw [show p + 6 * j = 6 * j + p by omega, show p + 6 * (j + 1) = 6 * (j + 1) + p by omega]
    have hzj := hz (6 * j + p)
    unfold f_X5_has_b5
    rw [show (96 : Int32) = I ((96 : Nat) : Int) from rfl, k_le (by omega) (by omega), if_neg (by omega), ite_B1, gd_t (inb_k (by omega) (by omega)), I_k (by omega), hZ _ (by omega), ite_eq (rng_of (by omega) (by omega)) (rng_of (by omega) (by omega)), c6, nat_add, show 6 * j + p + 6 = 6 * (j + 1) + p by omega]
    by_cases c : z (6 * j + p) = q
    · rw [if_pos c, show (z (6 * j + p) == q) = true by simpa using c, Bool.or_true]
      cases anyB (fun j => z (6 * j + p) == q) j <;> rfl
    · rw [if_neg c, show (z (6 * j + p) == q) = false by simpa using c, Bool.or_false]
      cases anyB (fun j => z (6 * j + p) == q) j <;> rfl
  · show f_X5_has_b5 v (I q) (fun x y => rec (x, y)) (I (B1 (anyB (fun j => z (6 * j + p) == q) 16))) (I ((p + 6 * 16 : Nat) : Int)) = _
    unfold f_X5_has_b5
    rw [show (96 : Int32) = I ((96 : Nat) : Int) from rfl, k_le (by omega) (by omega), if_pos (by omega), gd_t (B1_isb _)]
    rfl
def rw_ (g : Nat → Int) (h : Nat) : Nat := (g (64 + 3 * h)).toNat
def cw_ (g : Nat → Int) (h : Nat) : Nat := (g (65 + 3 * h)).toNat
theorem rc_bd {g : Nat → Int} (hB : Bd g) {h : Nat} (hh : h < 4) : (1 ≤ rw_ g h ∧ rw_ g h ≤ 4) ∧ (1 ≤ cw_ g h ∧ cw_ g h ≤ 4) ∧ g (64 + 3 * h) = (rw_ g h : Int) ∧ g (65 + 3 * h) = (cw_ g h : Int) := by
  have h1 := hB.2.2.2.2.2.2 h hh
  unfold rw_ cw_
  omega
theorem rc_mul {g : Nat → Int} (hB : Bd g) {h : Nat} (hh : h < 4) : 1 ≤ rw_ g h * cw_ g h ∧ rw_ g h * cw_ g h ≤ 16 := by
  have h1 := rc_bd hB hh
  refine ⟨Nat.mul_le_mul h1.1.1 h1.2.1.1, ?_⟩
  have h2 := Nat.mul_le_mul h1.1.2 h1.2.1.2
  omega
def aloneB (g z : Nat → Int) (h d p : Nat) : Bool :=
  !(decide (0 < d % cw_ g h) && hasB z (((16 * h + d : Nat) : Int) - 1) p) && (!(decide (d % cw_ g h + 1 < cw_ g h) && hasB z (((16 * h + d : Nat) : Int) + 1) p) && (!(decide (cw_ g h ≤ d) && hasB z (((16 * h + d : Nat) : Int) - (cw_ g h : Int)) p) && !(decide (d + cw_ g h < cw_ g h * rw_ g h) && hasB z (((16 * h + d : Nat) : Int) + (cw_ g h : Int)) p)))
theorem m_K146 {v : JV} (a b c d : Bool) : f_X5_isAlone_K146 v (I (B1 a)) (I (B1 b)) (I (B1 c)) (I (B1 d)) = some (I (B1 (!a && (!b && (!c && !d))))) := by
  unfold f_X5_isAlone_K146
  cases a <;> cases b <;> cases c <;> cases d <;> rfl
theorem kmod {a b : Nat} (ha : a < 1000000) (hb : 0 < b) (hb2 : b < 1000000) : I (a : Int) - I (a : Int) / I (b : Int) * I (b : Int) = I ((a % b : Nat) : Int) := by
  rw [I_div (by omega) (by omega) (by omega) (by omega), I_mul, I_sub]
  congr 1
  have h1 := Int.emod_def (a : Int) (b : Int)
  rw [Int.natCast_emod]
  rw [h1, Int.mul_comm]
theorem m_isAlone {v : JV} {g z : Nat → Int} (hM : RM (v 0) g) (hB : Bd g) (hZ : RZ v z) (hz : Zb z) {h d p : Nat} (hh : h < 4) (hd : d < 16) (hp : p < 6) : f_X5_isAlone v (I (h : Int)) (I (d : Int)) (I (p : Int)) = some (I (B1 (aloneB g z h d p))) := by
  have hc := rc_bd hB hh
  have hm := rc_mul hB hh
  have t1 : (1 : Int32) = I (B1 true) := rfl
  have t0 : (0 : Int32) = I (B1 false) := rfl
  have n1 : (1 : Int32) = I ((1 : Nat) : Int) := rfl
  have L4 : ∀ a b c : Bool, f_X5_isAlone_K117 v (I (d : Int)) (I (p : Int)) (I (cw_ g h : Int)) (I ((cw_ g h * rw_ g h : Nat) : Int)) (I ((16 * h + d : Nat) : Int)) (I (B1 a)) (I (B1 b)) (I (B1 c)) = some (I (B1 (!a && (!b && (!c && !(decide (d + cw_ g h < cw_ g h * rw_ g h) && hasB z (((16 * h + d : Nat) : Int) + (cw_ g h : Int)) p)))))) := by
    intro a b c
    have hm2 : cw_ g h * rw_ g h ≤ 16 := by rw [Nat.mul_comm]; exact hm.2
    unfold f_X5_isAlone_K117 f_X5_isAlone_K145
    rw [nat_add, k_le (by omega) (by omega), I_add, m_has hZ hz (by omega) hp]
    simp only [Option.bind_some]
    rw [ite_B1, t0, t1, m_K146, m_K146]
    by_cases c1 : cw_ g h * rw_ g h ≤ d + cw_ g h
    · rw [if_pos c1, decide_eq_false (show ¬ d + cw_ g h < cw_ g h * rw_ g h by omega)]; rfl
    · rw [if_neg c1, decide_eq_true (show d + cw_ g h < cw_ g h * rw_ g h by omega)]
      cases hasB z (((16 * h + d : Nat) : Int) + (cw_ g h : Int)) p <;> rfl
  have L3 : ∀ a b : Bool, f_X5_isAlone_K91 v (I (d : Int)) (I (p : Int)) (I (cw_ g h : Int)) (I ((cw_ g h * rw_ g h : Nat) : Int)) (I ((16 * h + d : Nat) : Int)) (I (B1 a)) (I (B1 b)) = some (I (B1 (!a && (!b && (!(decide (cw_ g h ≤ d) && hasB z (((16 * h + d : Nat) : Int) - (cw_ g h : Int)) p) && !(decide (d + cw_ g h < cw_ g h * rw_ g h) && hasB z (((16 * h + d : Nat) : Int) + (cw_ g h : Int)) p)))))) := by
    intro a b
    unfold f_X5_isAlone_K91 f_X5_isAlone_K116
    rw [ite_lt (rng_of (by omega) (by omega)) (rng_of (by omega) (by omega)), I_sub, m_has hZ hz (by omega) hp]
    simp only [Option.bind_some]
    rw [ite_B1, t0, t1, L4, L4]
    by_cases c1 : (d : Int) < (cw_ g h : Int)
    · rw [if_pos c1, decide_eq_false (show ¬ cw_ g h ≤ d by omega)]; rfl
    · rw [if_neg c1, decide_eq_true (show cw_ g h ≤ d by omega)]
      cases hasB z (((16 * h + d : Nat) : Int) - (cw_ g h : Int)) p <;> rfl
  have L2 : ∀ a : Bool, f_X5_isAlone_K61 v (I (d : Int)) (I (p : Int)) (I (cw_ g h : Int)) (I ((cw_ g h * rw_ g h : Nat) : Int)) (I ((16 * h + d : Nat) : Int)) (I (B1 a)) = some (I (B1 (!a && (!(decide (d % cw_ g h + 1 < cw_ g h) && hasB z (((16 * h + d : Nat) : Int) + 1) p) && (!(decide (cw_ g h ≤ d) && hasB z (((16 * h + d : Nat) : Int) - (cw_ g h : Int)) p) && !(decide (d + cw_ g h < cw_ g h * rw_ g h) && hasB z (((16 * h + d : Nat) : Int) + (cw_ g h : Int)) p)))))) := by
    intro a
    have hmod : d % cw_ g h < cw_ g h := Nat.mod_lt _ (by omega)
    unfold f_X5_isAlone_K61 f_X5_isAlone_K90
    rw [gd_t (show nz (I (cw_ g h : Int)) = true by
      unfold nz
      rw [decide_eq_true_eq, t0]
      show ¬ I _ = I 0
      rw [I_inj (rng_of (by omega) (by omega)) (rng_of (by omega) (by omega))]
      omega), kmod (by omega) (by omega) (by omega)]
    show (if I (cw_ g h : Int) - I 1 ≤ I ((d % cw_ g h : Nat) : Int) then _ else (f_X5_has v (I ((16 * h + d : Nat) : Int) + I 1) (I (p : Int))).bind _) = _
    rw [I_sub, I_add, ite_le (rng_of (by omega) (by omega)) (rng_of (by omega) (by omega)), m_has hZ hz (by omega) hp]
    simp only [Option.bind_some]
    rw [ite_B1, t0, t1, L3, L3]
    by_cases c1 : (cw_ g h : Int) - 1 ≤ ((d % cw_ g h : Nat) : Int)
    · rw [if_pos c1, decide_eq_false (show ¬ d % cw_ g h + 1 < cw_ g h by omega)]; rfl
    · rw [if_neg c1, decide_eq_true (show d % cw_ g h + 1 < cw_ g h by omega)]
      cases hasB z (((16 * h + d : Nat) : Int) + 1) p <;> rfl
  have hmod : d % cw_ g h < cw_ g h := Nat.mod_lt _ (by omega)
  unfold f_X5_isAlone f_X5_isAlone_K60
  rw [p_h]
  simp only [Option.bind_some]
  rw [n1, show I ((64 + 3 * h : Nat) : Int) + (0 : Int32) = I ((64 + 3 * h : Nat) : Int) from by rw [show (0 : Int32) = I ((0 : Nat) : Int) from rfl, nat_add]; rfl, nat_add, gd_t (inb_k (by omega) (by omega)), gd_t (inb_k (by omega) (by omega)), I_k (by omega), I_k (by omega), hM _ (by omega), hM _ (by omega), show 64 + 3 * h + 1 = 65 + 3 * h by omega, hc.2.2.1, hc.2.2.2, gd_t (show nz (I (cw_ g h : Int)) = true by
      unfold nz
      rw [decide_eq_true_eq, t0]
      show ¬ I _ = I 0
      rw [I_inj (rng_of (by omega) (by omega)) (rng_of (by omega) (by omega))]
      omega), kmod (by omega) (by omega) (by omega), show (16 : Int32) = I ((16 : Nat) : Int) from rfl, nat_mul, nat_mul, nat_add]
  show (if I ((d % cw_ g h : Nat) : Int) ≤ I 0 then _ else (f_X5_has v (I ((16 * h + d : Nat) : Int) - I 1) (I (p : Int))).bind _) = _
  rw [I_sub, ite_le (rng_of (by omega) (by omega)) (rng_of (by omega) (by omega)), m_has hZ hz (by omega) hp]
  simp only [Option.bind_some]
  rw [ite_B1, t0, ← n1, t1, L2, L2]
  unfold aloneB
  by_cases c1 : ((d % cw_ g h : Nat) : Int) ≤ 0
  · rw [if_pos c1, decide_eq_false (show ¬ 0 < d % cw_ g h by omega)]; rfl
  · rw [if_neg c1, decide_eq_true (show 0 < d % cw_ g h by omega)]
    cases hasB z (((16 * h + d : Nat) : Int) - 1) p <;> rfl
