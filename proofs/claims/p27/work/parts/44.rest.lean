/-! ===== (from the parts of whole) ===== -/
theorem p_desksOf {v : JV} {g : Nat → Int} (hS : RS v g) (hB : Bd g) {h : Nat} (hh : h < 4) : f_X2_desksOf v (I (h : Int)) = some (I ((rw_ g h * cw_ g h : Nat) : Int)) := by
  have hc := rc_bd hB hh
  unfold f_X2_desksOf
  rw [gd_t (inb_k hh (by omega)), gd_t (inb_k hh (by omega)), I_k (by omega), (hS.2.2.2.1 h hh).1, (hS.2.2.2.1 h hh).2, hc.2.2.1, hc.2.2.2, nat_mul]
def odk (g : Nat → Int) : Nat := sm (nd g) 4
theorem odk_le {g : Nat → Int} (hB : Bd g) : odk g ≤ 64 := by
  have := sm_bd (c := 16) (n := 4) (f := nd g) (fun h hh => nd_le hB hh)
  unfold odk
  omega
theorem p_openDesks {v : JV} {g : Nat → Int} (hS : RS v g) (hB : Bd g) : f_X2_openDesks v = some (I ((odk g : Nat) : Int)) := by
  unfold f_X2_openDesks f_X2_openDesks_L4 odk
  refine lp_run _ (fun h => (I ((sm (nd g) h : Nat) : Int), I (h : Int))) 4 _ (fun rec h hh => ?_) (fun rec => ?_) FU (by have := FU_ge; omega)
  · show f_X2_openDesks_b4 v (fun x y => rec (x, y)) (I ((sm (nd g) h : Nat) : Int)) (I (h : Int)) = rec (I ((sm (nd g) h + nd g h : Nat) : Int), I ((h + 1 : Nat) : Int))
    unfold f_X2_openDesks_b4
    rw [show (4 : Int32) = I ((4 : Nat) : Int) from rfl, k_le (by omega) (by omega), if_neg (by omega), p_isOpen hS hB hh, p_desksOf hS hB hh]
    simp only [Option.bind_some, one_add]
    rw [ite_B1]
    unfold nd
    by_cases c : g (66 + 3 * h) = 1
    · rw [decide_eq_true c, if_pos rfl, if_pos c, nat_add]
    · rw [decide_eq_false c, if_neg Bool.false_ne_true, if_neg c]; rfl
  · rfl
theorem opn_raw : ∀ a b c d : Bool, om (fun h => if h = 0 then a else if h = 1 then b else if h = 2 then c else d) 4 = I (B1 a + 2 * B1 b + 4 * B1 c + 8 * B1 d) := by decide +kernel
def opB (g : Nat → Int) (h : Nat) : Bool := decide (g (66 + 3 * h) = 1)
theorem opB_g {g : Nat → Int} (hB : Bd g) {h : Nat} (hh : h < 4) : B1 (opB g h) = g (66 + 3 * h) := by
  have h1 := (hB.2.2.2.2.2.2 h hh).2.2
  unfold opB B1
  by_cases c : g (66 + 3 * h) = 1
  · rw [decide_eq_true c, if_pos rfl, c]
  · rw [decide_eq_false c, if_neg Bool.false_ne_true]; omega
theorem om_opn {g : Nat → Int} (hB : Bd g) : om (opB g) 4 = I (opn g) := by
  have h := opn_raw (opB g 0) (opB g 1) (opB g 2) (opB g 3)
  rw [opB_g hB (h := 0) (by omega), opB_g hB (h := 1) (by omega), opB_g hB (h := 2) (by omega), opB_g hB (h := 3) (by omega)] at h
  rw [← show I (g (66 + 3 * 0) + 2 * g (66 + 3 * 1) + 4 * g (66 + 3 * 2) + 8 * g (66 + 3 * 3)) = I (opn g) from rfl, ← h]
  refine om_congr (fun i hi => ?_)
  match i, hi with
  | 0, _ => rfl
  | 1, _ => rfl
  | 2, _ => rfl
  | 3, _ => rfl
