/-! ===== (from the parts of whole) ===== -/
def I (z : Int) : Int32 := Int32.ofInt z
def rng (a : Int) : Prop := -2147483648 ≤ a ∧ a < 2147483648
theorem I_toInt {a : Int} (h : rng a) : (I a).toInt = a := by
  unfold I
  rw [Int32.toInt_ofInt, show Int32.size = 4294967296 from rfl]
  unfold rng at h
  rw [Int.bmod_def]
  split <;> omega
theorem I_inj {a b : Int} (ha : rng a) (hb : rng b) : (I a = I b) = (a = b) := by
  apply propext
  constructor
  · intro h
    rw [← I_toInt ha, ← I_toInt hb, h]
  · intro h; rw [h]
theorem I_add (a b : Int) : I a + I b = I (a + b) := by unfold I; exact (Int32.ofInt_add a b).symm
theorem I_sub (a b : Int) : I a - I b = I (a - b) := by unfold I; exact (Int32.ofInt_sub a b).symm
theorem I_mul (a b : Int) : I a * I b = I (a * b) := by unfold I; exact (Int32.ofInt_mul a b).symm
theorem I_lt {a b : Int} (ha : rng a) (hb : rng b) : (I a < I b) = (a < b) := by
  apply propext
  rw [Int32.lt_iff_toInt_lt, I_toInt ha, I_toInt hb]
theorem I_le {a b : Int} (ha : rng a) (hb : rng b) : (I a ≤ I b) = (a ≤ b) := by
  apply propext
  rw [Int32.le_iff_toInt_le, I_toInt ha, I_toInt hb]
theorem I_self (x : Int32) : I x.toInt = x := by
  unfold I
  exact Int32.ofInt_toInt x
theorem rng_self (x : Int32) : rng x.toInt := by
  have h1 := Int32.le_toInt x
  have h2 := Int32.toInt_lt x
  unfold rng
  omega
theorem I_nat {a : Int} (h : rng a) : (I a).toNatClampNeg = a.toNat := by
  show (I a).toInt.toNat = a.toNat
  rw [I_toInt h]
theorem I_0 : (0 : Int32) = I 0 := rfl
theorem inb_I {a : Int} {n : Nat} (h : rng a) : inb (I a) n = (decide (0 ≤ a) && decide (a.toNat < n)) := by
  unfold inb
  rw [I_nat h, I_0]
  simp only [I_le (show rng 0 by unfold rng; omega) h]
theorem inb_t {a : Int} {n : Nat} (h0 : 0 ≤ a) (h1 : a < n) (hn : n < 2147483648) : inb (I a) n = true := by
  rw [inb_I (by unfold rng; omega)]
  simp only [Bool.and_eq_true, decide_eq_true_eq]
  omega
theorem gd_in {α : Type} {a : Int} {n : Nat} {x : Option α} (h0 : 0 ≤ a) (h1 : a < n) (hn : n < 2147483648) : gd (inb (I a) n) x = x := gd_t (inb_t h0 h1 hn)
theorem I_div {a b : Int} (ha : 0 ≤ a) (ha2 : a < 2147483648) (hb : 0 < b) (hb2 : b < 2147483648) : I a / I b = I (a / b) := by
  apply Int32.toInt_inj.mp
  rw [Int32.toInt_div, I_toInt (by unfold rng; omega), I_toInt (by unfold rng; omega)]
  have h1 : a.tdiv b = a / b := Int.tdiv_eq_ediv_of_nonneg ha
  have h2 : 0 ≤ a / b := Int.ediv_nonneg ha (by omega)
  have h3 : a / b ≤ a := Int.ediv_le_self b ha
  rw [h1, I_toInt (by unfold rng; omega), Int.bmod_def]
  split <;> omega
theorem lp_run {A S : Type} (F : (A → Option S) → A → Option S) (s : Nat → A) (N : Nat) (res : Option S) (hs : ∀ (rec : A → Option S) (i : Nat), i < N → F rec (s i) = rec (s (i + 1))) (he : ∀ rec : A → Option S, F rec (s N) = res) : ∀ (n : Nat), N < n → lp F n (s 0) = res := by
  have key : ∀ (d i n : Nat), i + d = N → d < n → lp F n (s i) = res := by
    intro d
    induction d with
    | zero =>
      intro i n hi hn
      have hi : i = N := by omega
      subst hi
      match n, hn with
      | n + 1, _ => exact he (lp F n)
    | succ d ih =>
      intro i n hi hn
      match n, hn with
      | n + 1, hn =>
        show F (lp F n) (s i) = res
        rw [hs (lp F n) i (by omega)]
        exact ih (i + 1) n (by omega) (by omega)
  intro n hn
  exact key N 0 n (by omega) hn
