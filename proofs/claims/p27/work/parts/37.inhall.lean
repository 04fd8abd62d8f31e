/-! ===== (from the parts of whole) ===== -/
def inH (z : Nat → Int) (h k : Nat) : Bool := decide (16 * (h : Int) ≤ z k) && decide (z k ≤ 16 * (h : Int) + 15)
theorem hallOf_eq {z : Nat → Int} (hb : Zb z) {h k : Nat} (hh : h < 4) : (hallOf (z k) = (h : Int)) ↔ inH z h k = true := by
  have hzk := hb k
  unfold inH hallOf
  rw [Bool.and_eq_true, decide_eq_true_eq, decide_eq_true_eq]
  split <;> omega
theorem p_seatedIn {v : JV} {g z : Nat → Int} {c cr : Nat} (hT : TS v g z c cr) (hb : Zb z) {h : Nat} (hh : h < 4) : f_X3_seatedIn v (I (h : Int)) = some (I ((sm (fun k => b1 (inH z h k)) 96 : Nat) : Int)) := by
  unfold f_X3_seatedIn f_X3_seatedIn_L4
  refine lp_run _ (fun k => (I ((sm (fun k => b1 (inH z h k)) k : Nat) : Int), I (k : Int))) 96 _ (fun rec k hk => ?_) (fun rec => ?_) FU (by have := FU_ge; omega)
  · show f_X3_seatedIn_b4 v (I (h : Int)) (fun x y => rec (x, y)) (I ((sm (fun k => b1 (inH z h k)) k : Nat) : Int)) (I (k : Int)) = rec (I ((sm (fun k => b1 (inH z h k)) k + b1 (inH z h k) : Nat) : Int), I ((k + 1 : Nat) : Int))
    have hzk := hb k
    have hr : rng (hallOf (z k)) := by unfold hallOf; split <;> exact rng_of (by omega) (by omega)
    unfold f_X3_seatedIn_b4
    rw [show (96 : Int32) = I ((96 : Nat) : Int) from rfl, k_le (by omega) (by omega), if_neg (by omega), gd_t (inb_k hk (by omega)), I_k (by omega), (hT.1 k hk).1, ite_eq hr (rng_of (by omega) (by omega)), one_add, one_add]
    by_cases d : inH z h k = true
    · rw [if_pos ((hallOf_eq hb hh).mpr d), d]
      rfl
    · rw [if_neg (fun e => d ((hallOf_eq hb hh).mp e)), (Bool.not_eq_true _).mp d]
      rfl
  · rfl
