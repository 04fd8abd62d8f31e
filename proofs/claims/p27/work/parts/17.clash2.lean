/-! ===== (from the parts of whole) ===== -/
def sm (f : Nat → Nat) : Nat → Nat
  | 0 => 0
  | n + 1 => sm f n + f n
def b1 (b : Bool) : Nat := if b then 1 else 0
theorem b1_le (b : Bool) : b1 b ≤ 1 := by cases b <;> decide
theorem sm_le {f : Nat → Nat} {c : Nat} (h : ∀ k : Nat, f k ≤ c) : ∀ n : Nat, sm f n ≤ c * n
  | 0 => Nat.zero_le _
  | n + 1 => by
    have h1 := sm_le h n
    have h2 := h n
    show sm f n + f n ≤ c * (n + 1)
    rw [Nat.mul_succ]
    omega
def pc6 (m : Nat) : Nat := m % 2 + m / 2 % 2 + m / 4 % 2 + m / 8 % 2 + m / 16 % 2 + m / 32 % 2
theorem bc_raw : ∀ m : Fin 64, f_J6_bitCount_0f7a4 (I (m.val : Int)) = some (I ((pc6 m.val : Nat) : Int)) := by decide +kernel
theorem pc6_msk (P : Nat → Bool) : pc6 (msk P 6) = sm (fun b => b1 (P b)) 6 := by
  have h : ∀ b0 b1' b2 b3 b4 b5 : Bool, pc6 (0 + (if b0 then 2 ^ 0 else 0) + (if b1' then 2 ^ 1 else 0) + (if b2 then 2 ^ 2 else 0) + (if b3 then 2 ^ 3 else 0) + (if b4 then 2 ^ 4 else 0) + (if b5 then 2 ^ 5 else 0)) = 0 + b1 b0 + b1 b1' + b1 b2 + b1 b3 + b1 b4 + b1 b5 := by decide
  exact h (P 0) (P 1) (P 2) (P 3) (P 4) (P 5)
theorem p_bitCount (P : Nat → Bool) : f_J6_bitCount_0f7a4 (I ((msk P 6 : Nat) : Int)) = some (I ((sm (fun b => b1 (P b)) 6 : Nat) : Int)) := by
  rw [← pc6_msk]
  exact bc_raw ⟨msk P 6, msk_lt P 6⟩
/-- clashing pairs of a pupil -/
def cp (g : Nat → Int) (i : Nat) : Nat := sm (fun n => b1 (decide (n / 6 < n % 6) && (bts g i (n / 6) && (bts g i (n % 6) && cl g i (n / 6) (n % 6))))) 36
def cT (g : Nat → Int) (i : Nat) : Nat → Nat := sm (fun a => if bts g i a then sm (fun b => b1 (pcw g i a b)) 6 else 0)
theorem cl_sym (g : Nat → Int) (i a b : Nat) : cl g i a b = cl g i b a := by unfold cl; exact Bool.and_comm _ _
theorem cT_cp (g : Nat → Int) (i : Nat) : cT g i 6 = 2 * cp g i := by
  have hs := cl_sym g i
  have key : ∀ (t : Nat → Bool) (c : Nat → Nat → Bool), (∀ a b, c a b = c b a) →
      sm (fun a => if t a then sm (fun b => b1 (!(b == a) && (t b && c a b))) 6 else 0) 6 = 2 * sm (fun n => b1 (decide (n / 6 < n % 6) && (t (n / 6) && (t (n % 6) && c (n / 6) (n % 6))))) 36 := by
    intro t c hc
    have e : ∀ a b : Nat, (if t a then b1 (t b && c a b) else 0) = b1 (t a && (t b && c a b)) := fun a b => by cases t a <;> rfl
    have sy : ∀ a b : Nat, b1 (t a && (t b && c a b)) = b1 (t b && (t a && c b a)) := fun a b => by rw [hc a b]; cases t a <;> cases t b <;> rfl
    have e6 : ∀ a : Nat, a < 6 → (if t a then sm (fun b => b1 (!(b == a) && (t b && c a b))) 6 else 0) = sm (fun b => if b = a then 0 else b1 (t a && (t b && c a b))) 6 := by
      intro a _
      cases ht : t a
      · simp only [sm, b1, Bool.false_and]; simp
      · simp only [Bool.true_and]
        simp only [if_true]
        congr 1
        funext b
        by_cases hb : b = a
        · subst hb; simp [b1]
        · rw [if_neg hb, show (b == a) = false by simpa using hb]; rfl
    show ((((((0 + _) + _) + _) + _) + _) + _) = _
    dsimp only
    rw [e6 0 (by omega), e6 1 (by omega), e6 2 (by omega), e6 3 (by omega), e6 4 (by omega), e6 5 (by omega)]
    have q := fun a b => sy a b
    simp only [sm]
    simp
    rw [q 1 0, q 2 0, q 3 0, q 4 0, q 5 0, q 2 1, q 3 1, q 4 1, q 5 1, q 3 2, q 4 2, q 5 2, q 4 3, q 5 3, q 5 4]
    have z : b1 false = 0 := rfl
    simp only [z]
    omega
  exact key (bts g i) (cl g i) hs
theorem cp_le (g : Nat → Int) (i : Nat) : cp g i ≤ 36 := by
  have h := sm_le (c := 1) (f := fun n => b1 (decide (n / 6 < n % 6) && (bts g i (n / 6) && (bts g i (n % 6) && cl g i (n / 6) (n % 6))))) (fun k => b1_le _) 36
  unfold cp
  omega
theorem cT_le (g : Nat → Int) (i a : Nat) : cT g i a ≤ 6 * a := by
  refine sm_le (fun k => ?_) a
  split
  · have h := sm_le (c := 1) (f := fun b => b1 (pcw g i k b)) (fun k => b1_le _) 6
    omega
  · omega
theorem p_clashesOf {v : JV} {g : Nat → Int} (hS : RS v g) (hB : Bd g) {i : Nat} (hi : i < 16) : f_X2_clashesOf v (I (i : Int)) = some (I ((cp g i : Nat) : Int)) := by
  unfold f_X2_clashesOf f_X2_clashesOf_L4
  refine lp_run _ (fun a => (I ((cT g i a : Nat) : Int), I (a : Int))) 6 _ (fun rec a ha => ?_) (fun rec => ?_) FU (by have := FU_ge; omega)
  · show f_X2_clashesOf_b4 v (I (i : Int)) (fun x y => rec (x, y)) (I ((cT g i a : Nat) : Int)) (I (a : Int)) = _
    unfold f_X2_clashesOf_b4
    rw [p_sits hS hB hi ha, p_clashingPapers hS hB hi ha]
    simp only [Option.bind_some, ite_B1, one_add, p_bitCount]
    rw [c6, k_le (by omega) (by omega), if_neg (by omega), nat_add]
    show _ = rec (I ((cT g i a + (if bts g i a then sm (fun b => b1 (pcw g i a b)) 6 else 0) : Nat) : Int), _)
    unfold bts
    by_cases c : bt (g (16 + 3 * i)) a = true
    · rw [if_pos c, if_pos c]
    · rw [if_neg c, if_neg c]; rfl
  · show f_X2_clashesOf_b4 v (I (i : Int)) (fun x y => rec (x, y)) (I ((cT g i 6 : Nat) : Int)) (I ((6 : Nat) : Int)) = _
    unfold f_X2_clashesOf_b4
    have h1 := cp_le g i
    rw [c6, k_le (by omega) (by omega), if_pos (by omega), cT_cp, show (2 : Int32) = I 2 from rfl, I_div (by omega) (by omega) (by omega) (by omega)]
    congr 2
    omega
/-- clashing pairs of the first pupils -/
def cps (g : Nat → Int) : Nat → Nat := sm (cp g)
theorem cps_le (g : Nat → Int) (n : Nat) : cps g n ≤ 36 * n := sm_le (cp_le g) n
def np (g : Nat → Int) : Nat := (g 3).toNat
theorem np_le {g : Nat → Int} (hB : Bd g) : np g ≤ 16 ∧ ((np g : Nat) : Int) = g 3 := by
  have h := hB.2.2.2.1
  unfold np
  omega
theorem p_clashes {v : JV} {g : Nat → Int} (hS : RS v g) (hB : Bd g) : f_X2_clashes v = some (I ((cps g (np g) : Nat) : Int)) := by
  have hn := np_le hB
  unfold f_X2_clashes f_X2_clashes_L4
  refine lp_run _ (fun a => (I ((cps g a : Nat) : Int), I (a : Int))) (np g) _ (fun rec a ha => ?_) (fun rec => ?_) FU (by have := FU_ge; omega)
  · show f_X2_clashes_b4 v (fun x y => rec (x, y)) (I ((cps g a : Nat) : Int)) (I (a : Int)) = _
    unfold f_X2_clashes_b4
    rw [p_clashesOf hS hB (by omega), hS.2.2.2.2.1, ← hn.2]
    simp only [Option.bind_some, one_add]
    rw [k_le (by omega) (by omega), if_neg (by omega), nat_add]
    rfl
  · show f_X2_clashes_b4 v (fun x y => rec (x, y)) (I ((cps g (np g) : Nat) : Int)) (I ((np g : Nat) : Int)) = _
    unfold f_X2_clashes_b4
    rw [hS.2.2.2.2.1, ← hn.2, k_le (by omega) (by omega), if_pos (by omega)]
