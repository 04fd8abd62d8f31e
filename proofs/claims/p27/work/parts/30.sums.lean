/-! ===== (from the parts of whole) ===== -/
theorem sm_cut {f : Nat → Nat} {n : Nat} : ∀ d : Nat, (∀ i : Nat, n ≤ i → i < n + d → f i = 0) → sm f (n + d) = sm f n
  | 0, _ => rfl
  | d + 1, h => by
    show sm f (n + d) + f (n + d) = sm f n
    rw [h (n + d) (by omega) (by omega), sm_cut d (fun i a b => h i a (by omega))]
    omega
theorem sm_six (f : Nat → Nat) : ∀ n : Nat, sm f (6 * n) = sm (fun i => sm (fun b => f (6 * i + b)) 6) n
  | 0 => rfl
  | n + 1 => by
    have h := sm_six f n
    show sm f (6 * n + 6) = sm (fun i => sm (fun b => f (6 * i + b)) 6) n + sm (fun b => f (6 * n + b)) 6
    rw [← h]
    show sm f (6 * n) + f (6 * n) + f (6 * n + 1) + f (6 * n + 2) + f (6 * n + 3) + f (6 * n + 4) + f (6 * n + 5) = sm f (6 * n) + (0 + f (6 * n) + f (6 * n + 1) + f (6 * n + 2) + f (6 * n + 3) + f (6 * n + 4) + f (6 * n + 5))
    omega
theorem pc_raw : ∀ m : Fin 64, pc6 m.val = sm (fun b => b1 (bt (m.val : Int) b)) 6 := by decide +kernel
theorem p_bc {x : Int} (h0 : 0 ≤ x) (h1 : x ≤ 63) : f_J6_bitCount_0f7a4 (I x) = some (I ((sm (fun b => b1 (bt x b)) 6 : Nat) : Int)) := by
  have h := bc_raw ⟨x.toNat, by omega⟩
  have h2 := pc_raw ⟨x.toNat, by omega⟩
  simp only [Int.toNat_of_nonneg h0] at h h2
  rw [h, h2]
def nsit (g : Nat → Int) : Nat := sm (fun k => b1 (st g k)) 96
theorem nsit_np {g : Nat → Int} (hB : Bd g) : nsit g = sm (fun i => sm (fun b => b1 (bts g i b)) 6) (np g) := by
  have hn := np_le hB
  unfold nsit
  rw [show (96 : Nat) = 6 * 16 from rfl, sm_six]
  have h := sm_cut (f := fun i => sm (fun b => b1 (st g (6 * i + b))) 6) (n := np g) (16 - np g) (fun i h1 h2 => by
    have := sm_bd (c := 0) (n := 6) (f := fun b => b1 (st g (6 * i + b))) (fun b hb => by
      rw [st_ip hb, decide_eq_false (by omega)]
      exact Nat.le_refl _)
    omega)
  rw [show np g + (16 - np g) = 16 by omega] at h
  rw [h]
  refine sm_congr (fun i hi => sm_congr (fun b hb => ?_))
  rw [st_ip hb, decide_eq_true (by omega), Bool.true_and]
theorem p_sittings {v : JV} {g : Nat → Int} (hS : RS v g) (hB : Bd g) : f_X2_sittings v = some (I (nsit g : Int)) := by
  have hn := np_le hB
  unfold f_X2_sittings f_X2_sittings_L4
  rw [nsit_np hB]
  refine lp_run _ (fun i => (I ((sm (fun i => sm (fun b => b1 (bts g i b)) 6) i : Nat) : Int), I (i : Int))) (np g) _ (fun rec i hi => ?_) (fun rec => ?_) FU (by have := FU_ge; omega)
  · have hp := pap_bd hB (i := i) (by omega)
    show f_X2_sittings_b4 v (fun x y => rec (x, y)) (I ((sm (fun i => sm (fun b => b1 (bts g i b)) 6) i : Nat) : Int)) (I (i : Int)) = _
    unfold f_X2_sittings_b4
    rw [hS.2.2.2.2.1, ← hn.2, k_le (by omega) (by omega), if_neg (by omega), gd_t (inb_k (by omega) (by omega)), I_k (by omega), (hS.2.2.1 i (by omega)).1, p_bc hp.1 hp.2]
    simp only [Option.bind_some, one_add, nat_add]
    rfl
  · show f_X2_sittings_b4 v (fun x y => rec (x, y)) (I ((sm (fun i => sm (fun b => b1 (bts g i b)) 6) (np g) : Nat) : Int)) (I (np g : Int)) = _
    unfold f_X2_sittings_b4
    rw [hS.2.2.2.2.1, ← hn.2, k_le (by omega) (by omega), if_pos (by omega)]
def si (f : Nat → Int) : Nat → Int
  | 0 => 0
  | n + 1 => si f n + f n
def mnS (g : Nat → Int) (i : Nat) : Int := si (fun b => if bts g i b then mn g i b else 0) 6
theorem p_minutesOf {v : JV} {g : Nat → Int} (hS : RS v g) (hB : Bd g) {i : Nat} (hi : i < 16) : f_X2_minutesOf v (I (i : Int)) = some (I (mnS g i)) := by
  unfold f_X2_minutesOf f_X2_minutesOf_L4 mnS
  refine lp_run _ (fun b => (I (si (fun b => if bts g i b then mn g i b else 0) b), I (b : Int))) 6 _ (fun rec b hb => ?_) (fun rec => ?_) FU (by have := FU_ge; omega)
  · show f_X2_minutesOf_b4 v (I (i : Int)) (fun x y => rec (x, y)) (I (si (fun b => if bts g i b then mn g i b else 0) b)) (I (b : Int)) = rec (I (si (fun b => if bts g i b then mn g i b else 0) b + (if bts g i b then mn g i b else 0)), I ((b + 1 : Nat) : Int))
    unfold f_X2_minutesOf_b4
    rw [c6, k_le (by omega) (by omega), if_neg (by omega), p_sits hS hB hi hb, p_lengthOf hS hB hi hb]
    simp only [Option.bind_some, one_add]
    rw [ite_B1, I_add]
    unfold bts
    by_cases c : bt (g (16 + 3 * i)) b = true
    · rw [if_pos c, if_pos c]
    · rw [if_neg c, if_neg c, Int.add_zero]
  · rfl
/-- the greatest, from z0 on -/
def li (P : Nat → Bool) (f : Nat → Int) (z0 : Int) : Nat → Int
  | 0 => z0
  | n + 1 => if P n && decide (li P f z0 n < f n) then f n else li P f z0 n
theorem li_spec (P : Nat → Bool) (f : Nat → Int) (z0 : Int) : ∀ n : Nat, z0 ≤ li P f z0 n ∧ (∀ i : Nat, i < n → P i = true → f i ≤ li P f z0 n) ∧ (li P f z0 n = z0 ∨ ∃ i : Nat, i < n ∧ P i = true ∧ li P f z0 n = f i)
  | 0 => ⟨Int.le_refl _, fun i h => by omega, Or.inl rfl⟩
  | n + 1 => by
    obtain ⟨h1, h2, h3⟩ := li_spec P f z0 n
    show z0 ≤ (if P n && decide (li P f z0 n < f n) then f n else li P f z0 n) ∧ _ ∧ _
    by_cases c : (P n && decide (li P f z0 n < f n)) = true
    · have e : li P f z0 (n + 1) = f n := by show (if _ then _ else _) = _; rw [if_pos c]
      rw [if_pos c, e]
      rw [Bool.and_eq_true, decide_eq_true_eq] at c
      refine ⟨by omega, fun i hi hP => ?_, Or.inr ⟨n, by omega, c.1, rfl⟩⟩
      by_cases ci : i = n
      · rw [ci]; omega
      · have := h2 i (by omega) hP; omega
    · have e : li P f z0 (n + 1) = li P f z0 n := by show (if _ then _ else _) = _; rw [if_neg c]
      rw [if_neg c, e]
      refine ⟨h1, fun i hi hP => ?_, ?_⟩
      · by_cases ci : i = n
        · subst ci
          rw [hP, Bool.true_and, decide_eq_true_eq] at c
          omega
        · exact h2 i (by omega) hP
      · rcases h3 with h3 | ⟨i, a, b, c⟩
        · exact Or.inl h3
        · exact Or.inr ⟨i, by omega, b, c⟩
theorem li_cut {P : Nat → Bool} {f : Nat → Int} {z0 : Int} {n : Nat} : ∀ d : Nat, (∀ i : Nat, n ≤ i → i < n + d → P i = false) → li P f z0 (n + d) = li P f z0 n
  | 0, _ => rfl
  | d + 1, h => by
    show (if P (n + d) && _ then _ else li P f z0 (n + d)) = _
    rw [h (n + d) (by omega) (by omega), Bool.false_and, if_neg Bool.false_ne_true]
    exact li_cut d (fun i a b => h i a (by omega))
theorem li_congr {P P' : Nat → Bool} {f f' : Nat → Int} {z0 : Int} : ∀ {n : Nat}, (∀ i : Nat, i < n → P i = P' i ∧ f i = f' i) → li P f z0 n = li P' f' z0 n
  | 0, _ => rfl
  | n + 1, h => by
    show (if P n && decide (li P f z0 n < f n) then f n else li P f z0 n) = (if P' n && decide (li P' f' z0 n < f' n) then f' n else li P' f' z0 n)
    rw [li_congr (fun i hi => h i (by omega)), (h n (by omega)).1, (h n (by omega)).2]
theorem mx_I {a b : Int} (ha : rng a) (hb : rng b) : mx (I a) (I b) = I (if a < b then b else a) := by
  unfold mx
  rw [ite_lt ha hb]
  split <;> rfl
