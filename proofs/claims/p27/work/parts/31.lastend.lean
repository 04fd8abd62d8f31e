/-! ===== (from the parts of whole) ===== -/
theorem li_bd {P : Nat → Bool} {f : Nat → Int} {z0 a c : Int} {n : Nat} (h0 : a ≤ z0 ∧ z0 ≤ c) (h : ∀ i : Nat, i < n → P i = true → f i ≤ c) : a ≤ li P f z0 n ∧ li P f z0 n ≤ c := by
  obtain ⟨h1, h2, h3⟩ := li_spec P f z0 n
  refine ⟨by omega, ?_⟩
  rcases h3 with h3 | ⟨i, hi, hP, e⟩
  · rw [h3]; exact h0.2
  · rw [e]; exact h i hi hP
def lePa (g : Nat → Int) (b : Nat) : Int := li (fun i => bts g i b) (fun i => en g i b) (-6) (np g)
theorem lePa_bd {g : Nat → Int} (hB : Bd g) {b : Nat} (hb : b < 6) : -6 ≤ lePa g b ∧ lePa g b ≤ 931 := by
  have hn := np_le hB
  exact li_bd ⟨by omega, by omega⟩ (fun i hi _ => (en_bd hB (i := i) (by omega) hb).2)
theorem p_lastEndOf {v : JV} {g : Nat → Int} (hS : RS v g) (hB : Bd g) {b : Nat} (hb : b < 6) : f_X2_lastEndOf v (I (b : Int)) = some (I (lePa g b)) := by
  have hn := np_le hB
  unfold f_X2_lastEndOf f_X2_lastEndOf_L5 lePa
  refine lp_run _ (fun i => (I (li (fun i => bts g i b) (fun i => en g i b) (-6) i), I (i : Int))) (np g) _ (fun rec i hi => ?_) (fun rec => ?_) FU (by have := FU_ge; omega)
  · show f_X2_lastEndOf_b5 v (I (b : Int)) (fun x y => rec (x, y)) (I (li (fun i => bts g i b) (fun i => en g i b) (-6) i)) (I (i : Int)) = rec (I (if bts g i b && decide (li (fun i => bts g i b) (fun i => en g i b) (-6) i < en g i b) then en g i b else li (fun i => bts g i b) (fun i => en g i b) (-6) i), I ((i + 1 : Nat) : Int))
    have h1 := li_bd (P := fun i => bts g i b) (f := fun i => en g i b) (z0 := -6) (a := -6) (c := 931) (n := i) ⟨by omega, by omega⟩ (fun j hj _ => (en_bd hB (i := j) (by omega) hb).2)
    have h2 := en_bd hB (i := i) (by omega) hb
    have h3 := bg_bd hB hb
    unfold f_X2_lastEndOf_b5
    rw [hS.2.2.2.2.1, ← hn.2, k_le (by omega) (by omega), if_neg (by omega), p_sits hS hB (by omega) hb, p_endOf hS hB (by omega) hb]
    simp only [Option.bind_some, one_add]
    rw [ite_B1, mx_I ⟨by omega, by omega⟩ ⟨by omega, by omega⟩]
    unfold bts
    by_cases c : bt (g (16 + 3 * i)) b = true
    · rw [if_pos c]
      simp only [c, Bool.true_and, decide_eq_true_eq]
    · rw [if_neg c]
      simp only [Bool.not_eq_true _ ▸ c, Bool.false_and, Bool.false_eq_true, if_false]
  · show f_X2_lastEndOf_b5 v (I (b : Int)) (fun x y => rec (x, y)) (I (li (fun i => bts g i b) (fun i => en g i b) (-6) (np g))) (I (np g : Int)) = _
    unfold f_X2_lastEndOf_b5
    rw [hS.2.2.2.2.1, ← hn.2, k_le (by omega) (by omega), if_pos (by omega)]
def lastE (g : Nat → Int) : Int := li (st g) (ek g) 0 96
theorem lastE_pa {g : Nat → Int} (hB : Bd g) : li (fun _ => true) (lePa g) 0 6 = lastE g := by
  have hn := np_le hB
  unfold lastE
  obtain ⟨a1, a2, a3⟩ := li_spec (fun _ => true) (lePa g) 0 6
  obtain ⟨b1, b2, b3⟩ := li_spec (st g) (ek g) 0 96
  have hle : ∀ z : Int, (∀ k : Nat, k < 96 → st g k = true → ek g k ≤ z) → 0 ≤ z → ∀ b : Nat, b < 6 → lePa g b ≤ z := by
    intro z hz h0 b hb
    rcases (li_spec (fun i => bts g i b) (fun i => en g i b) (-6) (np g)).2.2 with e | ⟨i, hi, hP, e⟩
    · show li _ _ _ _ ≤ z
      rw [e]; omega
    · have := hz (6 * i + b) (by omega) (by rw [st_ip hb, decide_eq_true (by omega), Bool.true_and]; exact hP)
      unfold ek at this
      rw [show (6 * i + b) / 6 = i by omega, show (6 * i + b) % 6 = b by omega] at this
      show li _ _ _ _ ≤ z
      rw [e]; exact this
  refine Int.le_antisymm ?_ ?_
  · rcases a3 with e | ⟨b, hb, _, e⟩
    · rw [e]; exact b1
    · rw [e]; exact hle _ b2 b1 b hb
  · rcases b3 with e | ⟨k, hk, hP, e⟩
    · rw [e]; exact a1
    · rw [e]
      have hb : k % 6 < 6 := by omega
      have h := a2 (k % 6) hb rfl
      have hk6 : 6 * (k / 6) + k % 6 = k := by omega
      have hs := st_ip (g := g) (i := k / 6) hb
      rw [hk6, hP] at hs
      have hs2 := (Bool.and_eq_true _ _).mp hs.symm
      have h4 := (li_spec (fun i => bts g i (k % 6)) (fun i => en g i (k % 6)) (-6) (np g)).2.1 (k / 6) (by have := of_decide_eq_true hs2.1; omega) hs2.2
      exact Int.le_trans h4 h
theorem p_lastEnd {v : JV} {g : Nat → Int} (hS : RS v g) (hB : Bd g) : f_X2_lastEnd v = some (I (lastE g)) := by
  unfold f_X2_lastEnd f_X2_lastEnd_L4
  rw [← lastE_pa hB]
  refine lp_run _ (fun b => (I (li (fun _ => true) (lePa g) 0 b), I (b : Int))) 6 _ (fun rec b hb => ?_) (fun rec => ?_) FU (by have := FU_ge; omega)
  · show f_X2_lastEnd_b4 v (fun x y => rec (x, y)) (I (li (fun _ => true) (lePa g) 0 b)) (I (b : Int)) = rec (I (if true && decide (li (fun _ => true) (lePa g) 0 b < lePa g b) then lePa g b else li (fun _ => true) (lePa g) 0 b), I ((b + 1 : Nat) : Int))
    have h1 := li_bd (P := fun _ => true) (f := lePa g) (z0 := 0) (a := 0) (c := 931) (n := b) ⟨by omega, by omega⟩ (fun j hj _ => (lePa_bd hB (by omega)).2)
    have h2 := lePa_bd hB hb
    unfold f_X2_lastEnd_b4
    rw [c6, k_le (by omega) (by omega), if_neg (by omega), p_lastEndOf hS hB hb]
    simp only [Option.bind_some, one_add, Bool.true_and, decide_eq_true_eq]
    rw [mx_I ⟨by omega, by omega⟩ ⟨by omega, by omega⟩]
  · rfl
