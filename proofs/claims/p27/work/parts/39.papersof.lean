/-! ===== (from the parts of whole) ===== -/
theorem p_unplacedPapersOf {v vS : JV} {g z : Nat → Int} {c cr : Nat} (hS : RS vS g) (hB : Bd g) (hT : TS v g z c cr) (hz : Zb z) (hg : Gap g z) {i : Nat} (hi : i < 16) (hin : (i : Int) < g 3) : f_X3_unplacedPapersOf v vS (I (i : Int)) = some (om (fun b => unpz g z (6 * i + b)) 6) := by
  unfold f_X3_unplacedPapersOf f_X3_unplacedPapersOf_L4
  refine lp_run _ (fun b => (om (fun b => unpz g z (6 * i + b)) b, I (b : Int))) 6 _ (fun rec b hb => ?_) (fun rec => ?_) FU (by have := FU_ge; omega)
  · show f_X3_unplacedPapersOf_b4 v vS (I (i : Int)) (fun x y => rec (x, y)) (om (fun b => unpz g z (6 * i + b)) b) (I (b : Int)) = rec ((if unpz g z (6 * i + b) then om (fun b => unpz g z (6 * i + b)) b ||| ((1 : Int32) <<< (I (b : Int) &&& 31)) else om (fun b => unpz g z (6 * i + b)) b), I ((b + 1 : Nat) : Int))
    unfold f_X3_unplacedPapersOf_b4
    rw [c6, k_le (by omega) (by omega), if_neg (by omega), p_isUnplaced hS hB hT hz hg hi hin hb]
    simp only [Option.bind_some, one_add]
    rw [ite_B1]
    cases unpz g z (6 * i + b) <;> rfl
  · rfl
