/-! ===== (from the parts of whole) ===== -/
def ovr (g : Nat → Int) (t : Int) (k : Nat) : Bool := decide (bk g k ≤ t) && decide (t < ek g k)
theorem p_isSatAt {v : JV} {g : Nat → Int} (hS : RS v g) (hB : Bd g) {k : Nat} (hk : k < 96) {t : Int} (ht : rng t) : f_X2_isSatAt v (I ((k / 6 : Nat) : Int)) (I ((k % 6 : Nat) : Int)) (I t) = some (I (B1 (ovr g t k))) := by
  have h2 := ek_bd hB hk
  have h3 := bk_bd hB hk
  have e1 : f_X2_beginOf v (I ((k % 6 : Nat) : Int)) = some (I (bk g k)) := p_beginOf hS (by omega)
  have e2 : f_X2_endOf v (I ((k / 6 : Nat) : Int)) (I ((k % 6 : Nat) : Int)) = some (I (ek g k)) := p_endOf hS hB (by omega) (by omega)
  unfold f_X2_isSatAt ovr
  rw [e1, e2]
  simp only [Option.bind_some]
  rw [ite_lt ht (rng_of (by omega) (by omega)), ite_le (rng_of (by omega) (by omega)) ht]
  by_cases c : t < bk g k
  · rw [if_pos c, decide_eq_false (by omega), Bool.false_and]; rfl
  · rw [if_neg c, decide_eq_true (show bk g k ≤ t by omega), Bool.true_and]
    by_cases d : ek g k ≤ t
    · rw [if_pos d, decide_eq_false (by omega)]; rfl
    · rw [if_neg d, decide_eq_true (by omega)]; rfl
theorem p_isNow {v vS : JV} {g : Nat → Int} (hS : RS vS g) (hB : Bd g) {k : Nat} (hk : k < 96) {t : Int} (ht : rng t) : f_X3_isNow v vS (I (k : Int)) (I t) = some (I (B1 (ovr g t k))) := by
  unfold f_X3_isNow
  rw [k6m (by omega), k6d (by omega), p_isSatAt hS hB hk ht]
  simp only [Option.bind_some]
  cases ovr g t k <;> rfl
def tkn (g z : Nat → Int) (h : Nat) (t : Int) : Nat := sm (fun k => b1 (inH z h k && ovr g t k)) 96
theorem p_takenIn {v vS : JV} {g z : Nat → Int} {c cr : Nat} (hS : RS vS g) (hB : Bd g) (hT : TS v g z c cr) (hb : Zb z) {h : Nat} (hh : h < 4) {t : Int} (ht : rng t) : f_X3_takenIn v vS (I (h : Int)) (I t) = some (I ((tkn g z h t : Nat) : Int)) := by
  unfold f_X3_takenIn f_X3_takenIn_L5 tkn
  refine lp_run _ (fun k => (I ((sm (fun k => b1 (inH z h k && ovr g t k)) k : Nat) : Int), I (k : Int))) 96 _ (fun rec k hk => ?_) (fun rec => ?_) FU (by have := FU_ge; omega)
  · show f_X3_takenIn_b5 v vS (I (h : Int)) (I t) (fun x y => rec (x, y)) (I ((sm (fun k => b1 (inH z h k && ovr g t k)) k : Nat) : Int)) (I (k : Int)) = rec (I ((sm (fun k => b1 (inH z h k && ovr g t k)) k + b1 (inH z h k && ovr g t k) : Nat) : Int), I ((k + 1 : Nat) : Int))
    have hzk := hb k
    have hr : rng (hallOf (z k)) := by unfold hallOf; split <;> exact rng_of (by omega) (by omega)
    unfold f_X3_takenIn_b5
    rw [show (96 : Int32) = I ((96 : Nat) : Int) from rfl, k_le (by omega) (by omega), if_neg (by omega), gd_t (inb_k hk (by omega)), I_k (by omega), (hT.1 k hk).1, ite_eq hr (rng_of (by omega) (by omega)), p_isNow hS hB hk ht]
    simp only [Option.bind_some, one_add]
    rw [ite_B1]
    by_cases d : inH z h k = true
    · rw [if_pos ((hallOf_eq hb hh).mpr d), d, Bool.true_and]
      cases ovr g t k <;> rfl
    · rw [if_neg (fun e => d ((hallOf_eq hb hh).mp e)), (Bool.not_eq_true _).mp d]
      rfl
  · rfl
