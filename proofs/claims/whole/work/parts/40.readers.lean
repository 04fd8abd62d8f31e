/-! ===== readers at a minute, reference ===== -/
def rdq (g : Nat → Int) (k : Nat) : Bool := st g k && rd g k
def rdm (g : Nat → Int) (t : Int) : Nat := sm (fun k => b1 (rdq g k && ovr g t k)) 96
theorem ar_step {v : JV} {g : Nat → Int} (hM : RM (v 0) g) (hB : Bd g) {k : Nat} (hk : k < 96) {t : Int} (ht : rng t) (r : Int32 → Int32 → Option Int32) (u : Nat) :
    f_X5_atMinute_b5 v (4 : Int32) (I t) r (I (u : Int)) (I (k : Int)) = r (I ((u + b1 (rdq g k && ovr g t k) : Nat) : Int)) (I ((k + 1 : Nat) : Int)) := by
  have h2 := ek_bd hB hk
  have h3 := bk_bd hB hk
  have hu0 : I (u : Int) + (0 : Int32) = I ((u + 0 : Nat) : Int) := by rw [show (0 : Int32) = I ((0 : Nat) : Int) from rfl, nat_add]
  unfold f_X5_atMinute_b5 f_X5_atMinute_K49 f_X5_atMinute_K50
  rw [show (96 : Int32) = I ((96 : Nat) : Int) from rfl, k_le (by omega) (by omega), if_neg (by omega), if_pos (show (4 : Int32) ≤ 4 by decide), m_isSitting hM hB hk]
  simp only [Option.bind_some]
  rw [ite_B1, m_needsReader hM hB hk]
  simp only [Option.bind_some]
  rw [ite_B1, m_begins hM hk, m_ends hM hB hk]
  simp only [Option.bind_some, one_add]
  rw [ite_lt ht (rng_of (by omega) (by omega)), ite_le (rng_of (by omega) (by omega)) ht, hu0]
  rw [if_neg (show ¬ (1 : Int32) = 0 by decide)]
  simp only [if_true]
  unfold ovr rdq
  by_cases d : st g k = true
  · rw [if_pos d, d, Bool.true_and]
    by_cases e : rd g k = true
    · rw [if_pos e, e, Bool.true_and]
      by_cases c : t < bk g k
      · rw [if_pos c, decide_eq_false (by omega), Bool.false_and]; rfl
      · rw [if_neg c, decide_eq_true (show bk g k ≤ t by omega), Bool.true_and]
        by_cases f : ek g k ≤ t
        · rw [if_pos f, decide_eq_false (by omega)]; rfl
        · rw [if_neg f, decide_eq_true (by omega)]; rfl
    · rw [if_neg e, (Bool.not_eq_true _).mp e, Bool.false_and]
      rfl
  · rw [if_neg d, (Bool.not_eq_true _).mp d, Bool.false_and, Bool.false_and]
    rfl
theorem m_atMinute4 {v : JV} {g : Nat → Int} (hM : RM (v 0) g) (hB : Bd g) {t : Int} (ht : rng t) : f_X5_atMinute v (4 : Int32) (I t) = some (I ((rdm g t : Nat) : Int)) := by
  unfold f_X5_atMinute f_X5_atMinute_L5 rdm
  refine lp_run _ (fun k => (I ((sm (fun k => b1 (rdq g k && ovr g t k)) k : Nat) : Int), I (k : Int))) 96 _ (fun rec k hk => ?_) (fun rec => ?_) FU (by have := FU_ge; omega)
  · exact ar_step hM hB hk ht (fun x y => rec (x, y)) _
  · rfl
