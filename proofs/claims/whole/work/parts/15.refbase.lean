/-! ===== the reference's small methods, over g ===== -/
theorem ite_le {α : Type} {a b : Int} (ha : rng a) (hb : rng b) {x y : α} : (if I a ≤ I b then x else y) = (if a ≤ b then x else y) := by
  have h := I_le ha hb
  by_cases c : a ≤ b
  · rw [if_pos c, if_pos (h.mpr c)]
  · rw [if_neg c, if_neg (fun z => c (h.mp z))]
theorem ite_lt {α : Type} {a b : Int} (ha : rng a) (hb : rng b) {x y : α} : (if I a < I b then x else y) = (if a < b then x else y) := by
  have h := I_lt ha hb
  by_cases c : a < b
  · rw [if_pos c, if_pos (h.mpr c)]
  · rw [if_neg c, if_neg (fun z => c (h.mp z))]
theorem ite_eq {α : Type} {a b : Int} (ha : rng a) (hb : rng b) {x y : α} : (if I a = I b then x else y) = (if a = b then x else y) := by
  have h := I_inj ha hb
  by_cases c : a = b
  · rw [if_pos c, if_pos (h.mpr c)]
  · rw [if_neg c, if_neg (fun z => c (h.mp z))]
theorem ite_B1 {α : Type} {b : Bool} {x y : α} : (if I (B1 b) = 0 then x else y) = (if b = true then y else x) := by cases b <;> rfl
theorem ite_B1' {α : Type} {b : Bool} {x y : α} : (if I (B1 b) = 1 then x else y) = (if b = true then x else y) := by cases b <;> rfl
def st (g : Nat → Int) (k : Nat) : Bool := decide (((k / 6 : Nat) : Int) < g 3) && bt (g (16 + 3 * (k / 6))) (k % 6)
def bk (g : Nat → Int) (k : Nat) : Int := bg g (k % 6)
def ek (g : Nat → Int) (k : Nat) : Int := en g (k / 6) (k % 6)
def rd (g : Nat → Int) (k : Nat) : Bool := g (18 + 3 * (k / 6)) == 1
theorem c6 : (6 : Int32) = I ((6 : Nat) : Int) := rfl
theorem k6d {k : Nat} (h : k < 1000000) : I (k : Int) / (6 : Int32) = I ((k / 6 : Nat) : Int) := by
  rw [c6, I_div (by omega) (by omega) (by omega) (by omega)]
  rfl
theorem k6m {k : Nat} (h : k < 1000000) : I (k : Int) - I (k : Int) / (6 : Int32) * (6 : Int32) = I ((k % 6 : Nat) : Int) := by
  rw [k6d h, c6, I_mul, I_sub]
  congr 1
  omega
theorem p_p (i : Nat) : f_X5_p (I (i : Int)) = some (I ((16 + 3 * i : Nat) : Int)) := by
  show some (I 16 + I 3 * _) = _
  rw [I_mul, I_add]
  congr 2
theorem p_h (i : Nat) : f_X5_h (I (i : Int)) = some (I ((64 + 3 * i : Nat) : Int)) := by
  show some (I 64 + I 3 * _) = _
  rw [I_mul, I_add]
  congr 2
theorem nat_add (a b : Nat) : I (a : Int) + I (b : Int) = I ((a + b : Nat) : Int) := by rw [I_add]; congr 1
theorem nat_mul (a b : Nat) : I (a : Int) * I (b : Int) = I ((a * b : Nat) : Int) := by rw [I_mul]; congr 1
theorem pap_bd {g : Nat → Int} (hB : Bd g) {i : Nat} (hi : i < 16) : 0 ≤ g (16 + 3 * i) ∧ g (16 + 3 * i) ≤ 63 := (hB.2.2.2.2.2.1 i hi).1
theorem m_isSitting {v : JV} {g : Nat → Int} (hM : RM (v 0) g) (hB : Bd g) {k : Nat} (hk : k < 96) : f_X5_isSitting v (I (k : Int)) = some (I (B1 (st g k))) := by
  have h3 := hB.2.2.2.1
  have hp := pap_bd hB (i := k / 6) (by omega)
  unfold f_X5_isSitting
  rw [k6m (by omega), k6d (by omega), hM 3 (by omega), ite_le (rng_of (by omega) (by omega)) (rng_of (by omega) (by omega)), p_p]
  unfold st
  by_cases hc : g 3 ≤ ((k / 6 : Nat) : Int)
  · rw [if_pos hc, decide_eq_false (by omega)]
    rfl
  · rw [if_neg hc, decide_eq_true (by omega)]
    simp only [Option.bind_some, Bool.true_and]
    rw [show (0 : Int32) = I ((0 : Nat) : Int) from rfl, nat_add, Nat.add_zero, gd_t (inb_k (by omega) (by omega)), I_k (by omega), hM _ (by omega), bit_I hp.1 hp.2 (by omega)]
    cases bt (g (16 + 3 * (k / 6))) (k % 6) <;> rfl
theorem m_begins {v : JV} {g : Nat → Int} (hM : RM (v 0) g) {k : Nat} (hk : k < 96) : f_X5_begins v (I (k : Int)) = some (I (bk g k)) := by
  unfold f_X5_begins
  rw [k6m (by omega), show (4 : Int32) = I ((4 : Nat) : Int) from rfl, show (2 : Int32) = I ((2 : Nat) : Int) from rfl, nat_mul, nat_add, gd_t (inb_k (by omega) (by omega)), I_k (by omega), hM _ (by omega)]
  show some (I 30 * _) = _
  rw [I_mul]
  rfl
theorem m_minutes {v : JV} {g : Nat → Int} (hM : RM (v 0) g) (hB : Bd g) {k : Nat} (hk : k < 96) : f_X5_minutes v (I (k : Int)) = some (I (mn g (k / 6) (k % 6))) := by
  have hm := mn_bd hB (i := k / 6) (p := k % 6) (by omega) (by omega)
  unfold f_X5_minutes
  rw [k6m (by omega), k6d (by omega), p_p, show (4 : Int32) = I ((4 : Nat) : Int) from rfl, show (2 : Int32) = I ((2 : Nat) : Int) from rfl, show (1 : Int32) = I ((1 : Nat) : Int) from rfl, nat_mul, nat_add, nat_add, gd_t (inb_k (by omega) (by omega)), I_k (by omega), hM _ (by omega)]
  simp only [Option.bind_some]
  rw [nat_add, gd_t (inb_k (by omega) (by omega)), I_k (by omega), hM _ (by omega)]
  show some ((_ * (I 100 + _) + I 99) / I 100) = _
  rw [show 4 + 2 * (k % 6) + 1 = 5 + 2 * (k % 6) by omega, show 16 + 3 * (k / 6) + 1 = 17 + 3 * (k / 6) by omega, I_add, I_mul, I_add, I_div (by omega) (by omega) (by omega) (by omega)]
  rfl
theorem m_ends {v : JV} {g : Nat → Int} (hM : RM (v 0) g) (hB : Bd g) {k : Nat} (hk : k < 96) : f_X5_ends v (I (k : Int)) = some (I (ek g k)) := by
  unfold f_X5_ends
  rw [m_begins hM hk, m_minutes hM hB hk]
  show some (_ + _) = _
  rw [I_add]
  rfl
theorem m_needsReader {v : JV} {g : Nat → Int} (hM : RM (v 0) g) (hB : Bd g) {k : Nat} (hk : k < 96) : f_X5_needsReader v (I (k : Int)) = some (I (B1 (rd g k))) := by
  have hp := (hB.2.2.2.2.2.1 (k / 6) (by omega)).2.2
  unfold f_X5_needsReader
  rw [k6d (by omega), p_p]
  simp only [Option.bind_some]
  rw [show (2 : Int32) = I ((2 : Nat) : Int) from rfl, nat_add, gd_t (inb_k (by omega) (by omega)), I_k (by omega), hM _ (by omega), show 16 + 3 * (k / 6) + 2 = 18 + 3 * (k / 6) by omega, show (1 : Int32) = I 1 from rfl, ite_eq (rng_of (by omega) (by omega)) (rng_of (by omega) (by omega))]
  unfold rd
  by_cases hc : g (18 + 3 * (k / 6)) = 1
  · rw [if_pos hc, hc]; rfl
  · rw [if_neg hc, show (g (18 + 3 * (k / 6)) == 1) = false by simpa using hc]; rfl
def clashB (g : Nat → Int) (a b : Nat) : Bool := decide (bk g b < ek g a) && decide (bk g a < ek g b)
theorem bk_bd {g : Nat → Int} (hB : Bd g) {k : Nat} (hk : k < 96) : 0 ≤ bk g k ∧ bk g k ≤ 570 := bg_bd hB (by omega)
theorem ek_bd {g : Nat → Int} (hB : Bd g) {k : Nat} (hk : k < 96) : bk g k + 30 ≤ ek g k ∧ ek g k ≤ 931 := en_bd hB (by omega) (by omega)
theorem m_clash {v : JV} {g : Nat → Int} (hM : RM (v 0) g) (hB : Bd g) {a b : Nat} (ha : a < 96) (hb : b < 96) : f_X5_clash v (I (a : Int)) (I (b : Int)) = some (I (B1 (clashB g a b))) := by
  have h1 := bk_bd hB ha
  have h2 := bk_bd hB hb
  have h3 := ek_bd hB ha
  have h4 := ek_bd hB hb
  unfold f_X5_clash clashB
  rw [m_ends hM hB ha, m_begins hM hb, m_ends hM hB hb, m_begins hM ha]
  simp only [Option.bind_some]
  rw [ite_le (rng_of (by omega) (by omega)) (rng_of (by omega) (by omega)), ite_le (rng_of (by omega) (by omega)) (rng_of (by omega) (by omega))]
  by_cases c1 : ek g a ≤ bk g b
  · rw [if_pos c1, decide_eq_false (by omega)]; rfl
  · rw [if_neg c1, decide_eq_true (by omega)]
    by_cases c2 : ek g b ≤ bk g a
    · rw [if_pos c2, decide_eq_false (by omega)]; rfl
    · rw [if_neg c2, decide_eq_true (by omega)]; rfl
