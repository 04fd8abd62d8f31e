/-! ===== (from the parts of whole) ===== -/
def cl (g : Nat → Int) (i a b : Nat) : Bool := decide (bg g b < en g i a) && decide (bg g a < en g i b)
def bts (g : Nat → Int) (i p : Nat) : Bool := bt (g (16 + 3 * i)) p
def pcw (g : Nat → Int) (i p b : Nat) : Bool := !(b == p) && (bts g i b && cl g i p b)
def msk (P : Nat → Bool) : Nat → Nat
  | 0 => 0
  | b + 1 => msk P b + if P b then 2 ^ b else 0
theorem msk_lt (P : Nat → Bool) : ∀ b : Nat, msk P b < 2 ^ b
  | 0 => by show (0 : Nat) < 1; omega
  | b + 1 => by
    have h := msk_lt P b
    show msk P b + (if P b then 2 ^ b else 0) < 2 ^ (b + 1)
    rw [Nat.pow_succ]
    split <;> omega
theorem or_raw : ∀ m : Fin 64, ∀ b : Fin 6, m.val < 2 ^ b.val → (I (m.val : Int) ||| ((1 : Int32) <<< (I (b.val : Int) &&& 31))) = I ((m.val + 2 ^ b.val : Nat) : Int) := by decide +kernel
theorem or_I {m b : Nat} (hb : b < 6) (hm : m < 2 ^ b) : (I (m : Int) ||| ((1 : Int32) <<< (I (b : Int) &&& 31))) = I ((m + 2 ^ b : Nat) : Int) := by
  have h : 2 ^ b ≤ 2 ^ 5 := Nat.pow_le_pow_right (by omega) (by omega)
  exact or_raw ⟨m, by omega⟩ ⟨b, hb⟩ hm
theorem one_add (b : Nat) : I (b : Int) + (1 : Int32) = I ((b + 1 : Nat) : Int) := by
  rw [show (1 : Int32) = I ((1 : Nat) : Int) from rfl, nat_add]
theorem k_inj {a b : Nat} (ha : a < 1000000) (hb : b < 1000000) {α : Type} {x y : α} : (if I (a : Int) = I (b : Int) then x else y) = (if a = b then x else y) := by
  rw [ite_eq (rng_of (by omega) (by omega)) (rng_of (by omega) (by omega))]
  by_cases c : a = b
  · rw [if_pos c, if_pos (by omega)]
  · rw [if_neg c, if_neg (by omega)]
theorem k_le {a b : Nat} (ha : a < 1000000) (hb : b < 1000000) {α : Type} {x y : α} : (if I (a : Int) ≤ I (b : Int) then x else y) = (if a ≤ b then x else y) := by
  rw [ite_le (rng_of (by omega) (by omega)) (rng_of (by omega) (by omega))]
  by_cases c : a ≤ b
  · rw [if_pos c, if_pos (by omega)]
  · rw [if_neg c, if_neg (by omega)]
theorem p_cw_step {v : JV} {g : Nat → Int} (hS : RS v g) (hB : Bd g) {i p b : Nat} (hi : i < 16) (hp : p < 6) (hb : b < 6) (r : Int32 → Int32 → Option Int32) (x : Int32) :
    f_X2_clashingPapers_b5 v (I (i : Int)) (I (p : Int)) r x (I (b : Int)) = r (if pcw g i p b then x ||| ((1 : Int32) <<< (I (b : Int) &&& 31)) else x) (I ((b + 1 : Nat) : Int)) := by
  have e1 := en_bd hB hi hp
  have e2 := en_bd hB hi hb
  have e3 := bg_bd hB hp
  have e4 := bg_bd hB hb
  unfold f_X2_clashingPapers_b5
  rw [p_sits hS hB hi hb, p_endOf hS hB hi hp, p_beginOf hS hb, p_endOf hS hB hi hb, p_beginOf hS hp]
  simp only [Option.bind_some, ite_B1, one_add]
  rw [c6, k_le (by omega) (by omega), if_neg (by omega), k_inj (by omega) (by omega), ite_le (rng_of (by omega) (by omega)) (rng_of (by omega) (by omega)), ite_le (rng_of (by omega) (by omega)) (rng_of (by omega) (by omega))]
  unfold pcw cl bts
  by_cases c1 : b = p
  · rw [if_pos c1]
    simp [c1]
  · rw [if_neg c1]
    have h1 : (b == p) = false := by simpa using c1
    rw [h1]
    by_cases c2 : bt (g (16 + 3 * i)) b = true
    · rw [if_pos c2, c2]
      by_cases c3 : en g i p ≤ bg g b
      · rw [if_pos c3, decide_eq_false (show ¬ bg g b < en g i p by omega)]; rfl
      · rw [if_neg c3, decide_eq_true (show bg g b < en g i p by omega)]
        by_cases c4 : en g i b ≤ bg g p
        · rw [if_pos c4, decide_eq_false (show ¬ bg g p < en g i b by omega)]; rfl
        · rw [if_neg c4, decide_eq_true (show bg g p < en g i b by omega)]; rfl
    · rw [if_neg c2, show bt (g (16 + 3 * i)) b = false by simpa using c2]; rfl
theorem p_clashingPapers {v : JV} {g : Nat → Int} (hS : RS v g) (hB : Bd g) {i p : Nat} (hi : i < 16) (hp : p < 6) : f_X2_clashingPapers v (I (i : Int)) (I (p : Int)) = some (I ((msk (pcw g i p) 6 : Nat) : Int)) := by
  unfold f_X2_clashingPapers f_X2_clashingPapers_L5
  refine lp_run _ (fun b => (I ((msk (pcw g i p) b : Nat) : Int), I (b : Int))) 6 _ (fun rec b hb => ?_) (fun rec => ?_) FU (by have := FU_ge; omega)
  · show f_X2_clashingPapers_b5 v (I (i : Int)) (I (p : Int)) (fun x y => rec (x, y)) (I ((msk (pcw g i p) b : Nat) : Int)) (I (b : Int)) = _
    rw [p_cw_step hS hB hi hp hb]
    show rec (_, _) = rec (_, _)
    congr 2
    rw [show msk (pcw g i p) (b + 1) = msk (pcw g i p) b + (if pcw g i p b then 2 ^ b else 0) from rfl]
    by_cases c : pcw g i p b = true
    · rw [if_pos c, if_pos c, or_I hb (msk_lt _ b)]
    · rw [if_neg c, if_neg c, Nat.add_zero]
  · rfl
theorem st_ip {g : Nat → Int} {i b : Nat} (hb : b < 6) : st g (6 * i + b) = (decide ((i : Int) < g 3) && bts g i b) := by
  unfold st bts
  rw [show (6 * i + b) / 6 = i by omega, show (6 * i + b) % 6 = b by omega]
theorem clashB_ip {g : Nat → Int} {i a b : Nat} (ha : a < 6) (hb : b < 6) : clashB g (6 * i + a) (6 * i + b) = cl g i a b := by
  unfold clashB cl bk ek
  rw [show (6 * i + b) / 6 = i by omega, show (6 * i + b) % 6 = b by omega, show (6 * i + a) / 6 = i by omega, show (6 * i + a) % 6 = a by omega]
theorem or_0 (x : Int32) : x ||| (0 : Int32) = x := Int32.or_zero
