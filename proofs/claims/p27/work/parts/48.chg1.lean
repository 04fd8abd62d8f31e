/-! ===== (from the parts of whole) ===== -/
theorem I_ex (x : Int32) : ∃ a : Int, rng a ∧ x = I a := ⟨x.toInt, rng_self x, (I_self x).symm⟩
theorem I_nex {a : Int} (h : 0 ≤ a) : ∃ k : Nat, a = (k : Int) := ⟨a.toNat, (Int.toNat_of_nonneg h).symm⟩
def wi (b c a : Int) : Bool := decide (b ≤ a) && decide (a ≤ c)
theorem wi_iff {b c a : Int} : wi b c a = true ↔ b ≤ a ∧ a ≤ c := by unfold wi; rw [Bool.and_eq_true, decide_eq_true_eq, decide_eq_true_eq]
theorem p_wi {a : Int} (ha : rng a) (b c : Int) (hb : rng b) (hc : rng c) : f_X4_isWithin (I a) (I b) (I c) = some (I (B1 (wi b c a))) := p_in ha hb hc
theorem r0 (b : Int) (h1 : -1000000 ≤ b := by omega) (h2 : b ≤ 1000000 := by omega) : rng b := rng_of h1 h2
theorem p_isPaper {a : Int} (ha : rng a) : f_X4_isPaper (I a) = some (I (B1 (wi 0 5 a))) := by
  unfold f_X4_isPaper
  rw [show f_X4_isWithin (I a) (0 : Int32) (5 : Int32) = _ from p_wi ha 0 5 (r0 0) (r0 5)]
  simp only [Option.bind_some]
  rw [gd_t (B1_isb _)]
theorem p_isStart {a : Int} (ha : rng a) : f_X4_isStart (I a) = some (I (B1 (wi 0 19 a))) := by
  unfold f_X4_isStart
  rw [show f_X4_isWithin (I a) (0 : Int32) (19 : Int32) = _ from p_wi ha 0 19 (r0 0) (r0 19)]
  simp only [Option.bind_some]
  rw [gd_t (B1_isb _)]
theorem p_isHall {a : Int} (ha : rng a) : f_X4_isHall (I a) = some (I (B1 (wi 0 3 a))) := by
  unfold f_X4_isHall
  rw [show f_X4_isWithin (I a) (0 : Int32) (3 : Int32) = _ from p_wi ha 0 3 (r0 0) (r0 3)]
  simp only [Option.bind_some]
  rw [gd_t (B1_isb _)]
theorem p_isSlot {a : Int} (ha : rng a) : f_X4_isSlot (I a) = some (I (B1 (wi 0 1 a))) := by
  unfold f_X4_isSlot
  rw [show f_X4_isWithin (I a) (0 : Int32) (1 : Int32) = _ from p_wi ha 0 1 (r0 0) (r0 1)]
  simp only [Option.bind_some]
  rw [gd_t (B1_isb _)]
theorem I_eqn {a : Int} (ha : rng a) (b : Int) (hb : rng b) (h : a ≠ b) : ¬ I a = I b := by rw [I_inj ha hb]; exact h
theorem hsv_hi {k : Nat} (hk : k < 3) : hsv k = I (hiB k) := by
  match k, hk with
  | 0, _ => rfl
  | 1, _ => rfl
  | 2, _ => rfl
theorem hi3 {k : Nat} (hk : k < 3) : 0 ≤ hiB k ∧ hiB k ≤ 60 ∧ loB k = 0 := by
  match k, hk with
  | 0, _ => exact ⟨by decide, by decide, by decide⟩
  | 1, _ => exact ⟨by decide, by decide, by decide⟩
  | 2, _ => exact ⟨by decide, by decide, by decide⟩
theorem nat_add' (a b : Nat) : I (a : Int) + I (b : Int) = I ((a + b : Nat) : Int) := nat_add a b
theorem ix4 (p : Nat) : (4 : Int32) + (2 : Int32) * I (p : Int) = I ((4 + 2 * p : Nat) : Int) := by
  rw [show (4 : Int32) = I ((4 : Nat) : Int) from rfl, show (2 : Int32) = I ((2 : Nat) : Int) from rfl, nat_mul, nat_add]
theorem ix5 (p : Nat) : I ((4 + 2 * p : Nat) : Int) + (1 : Int32) = I ((5 + 2 * p : Nat) : Int) := by
  rw [one_add, show 4 + 2 * p + 1 = 5 + 2 * p by omega]
theorem ix64 (b : Nat) : I ((64 + 3 * b : Nat) : Int) + (0 : Int32) = I ((64 + 3 * b : Nat) : Int) := by
  rw [show (0 : Int32) = I ((0 : Nat) : Int) from rfl, nat_add]; rfl
theorem ix65 (b : Nat) : I ((64 + 3 * b : Nat) : Int) + (1 : Int32) = I ((65 + 3 * b : Nat) : Int) := by
  rw [one_add, show 64 + 3 * b + 1 = 65 + 3 * b by omega]
theorem ix66 (b : Nat) : I ((64 + 3 * b : Nat) : Int) + (2 : Int32) = I ((66 + 3 * b : Nat) : Int) := by
  rw [show (2 : Int32) = I ((2 : Nat) : Int) from rfl, nat_add, show 64 + 3 * b + 2 = 66 + 3 * b by omega]
theorem xor_raw : ∀ a b c d : Fin 2, ∀ h : Fin 4, (I ((a.val : Int) + 2 * (b.val : Int) + 4 * (c.val : Int) + 8 * (d.val : Int)) ^^^ ((1 : Int32) <<< (I (h.val : Int) &&& 31))) = I ((if h.val = 0 then 1 - (a.val : Int) else (a.val : Int)) + 2 * (if h.val = 1 then 1 - (b.val : Int) else (b.val : Int)) + 4 * (if h.val = 2 then 1 - (c.val : Int) else (c.val : Int)) + 8 * (if h.val = 3 then 1 - (d.val : Int) else (d.val : Int))) := by decide +kernel
theorem xor_opn {g : Nat → Int} (hB : Bd g) {p : Nat} (hp : p < 4) : (I (opn g) ^^^ ((1 : Int32) <<< (I (p : Int) &&& 31))) = I (opn (gu g (66 + 3 * p) (1 - g (66 + 3 * p)))) := by
  have b0 : 0 ≤ g 66 ∧ g 66 ≤ 1 := (hB.2.2.2.2.2.2 0 (by omega)).2.2
  have b1 : 0 ≤ g 69 ∧ g 69 ≤ 1 := (hB.2.2.2.2.2.2 1 (by omega)).2.2
  have b2 : 0 ≤ g 72 ∧ g 72 ≤ 1 := (hB.2.2.2.2.2.2 2 (by omega)).2.2
  have b3 : 0 ≤ g 75 ∧ g 75 ≤ 1 := (hB.2.2.2.2.2.2 3 (by omega)).2.2
  have h := xor_raw ⟨(g 66).toNat, by omega⟩ ⟨(g 69).toNat, by omega⟩ ⟨(g 72).toNat, by omega⟩ ⟨(g 75).toNat, by omega⟩ ⟨p, hp⟩
  dsimp only at h
  rw [Int.toNat_of_nonneg b0.1, Int.toNat_of_nonneg b1.1, Int.toNat_of_nonneg b2.1, Int.toNat_of_nonneg b3.1] at h
  refine h.trans ?_
  congr 1
  match p, hp with
  | 0, _ => rfl
  | 1, _ => rfl
  | 2, _ => rfl
  | 3, _ => rfl
theorem B1_eq (a b : Bool) {α : Type} {x y : α} : (if I (B1 a) = I (B1 b) then x else y) = (if a = b then x else y) := by cases a <;> cases b <;> rfl
