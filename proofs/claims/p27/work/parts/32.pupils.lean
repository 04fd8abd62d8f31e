/-! ===== (from the parts of whole) ===== -/
/-- the places b < n with P b, as bits -/
def om (P : Nat → Bool) : Nat → Int32
  | 0 => 0
  | n + 1 => if P n then om P n ||| ((1 : Int32) <<< (I (n : Int) &&& 31)) else om P n
theorem om_cut {P : Nat → Bool} {n : Nat} : ∀ d : Nat, (∀ i : Nat, n ≤ i → i < n + d → P i = false) → om P (n + d) = om P n
  | 0, _ => rfl
  | d + 1, h => by
    show (if P (n + d) then _ else om P (n + d)) = _
    rw [h (n + d) (by omega) (by omega), if_neg Bool.false_ne_true]
    exact om_cut d (fun i a b => h i a (by omega))
theorem om_congr {P P' : Nat → Bool} : ∀ {n : Nat}, (∀ i : Nat, i < n → P i = P' i) → om P n = om P' n
  | 0, _ => rfl
  | n + 1, h => by
    show (if P n then om P n ||| _ else om P n) = (if P' n then om P' n ||| _ else om P' n)
    rw [om_congr (fun i hi => h i (by omega)), h n (by omega)]
def pupO (g : Nat → Int) (b : Nat) : Int32 := om (fun i => bts g i b) (np g)
/-- the same over all sixteen rows, as the sittings 6 * i + b -/
theorem pupO_st {g : Nat → Int} (hB : Bd g) {b : Nat} (hb : b < 6) : om (fun i => st g (6 * i + b)) 16 = pupO g b := by
  have hn := np_le hB
  unfold pupO
  have h := om_cut (P := fun i => st g (6 * i + b)) (n := np g) (16 - np g) (fun i h1 h2 => by
    rw [st_ip hb, decide_eq_false (by omega), Bool.false_and])
  rw [show np g + (16 - np g) = 16 by omega] at h
  rw [h]
  exact om_congr (fun i hi => by rw [st_ip hb, decide_eq_true (by omega), Bool.true_and])
theorem p_pupilsOf {v : JV} {g : Nat → Int} (hS : RS v g) (hB : Bd g) {b : Nat} (hb : b < 6) : f_X2_pupilsOf v (I (b : Int)) = some (pupO g b) := by
  have hn := np_le hB
  unfold f_X2_pupilsOf f_X2_pupilsOf_L4 pupO
  refine lp_run _ (fun i => (om (fun i => bts g i b) i, I (i : Int))) (np g) _ (fun rec i hi => ?_) (fun rec => ?_) FU (by have := FU_ge; omega)
  · show f_X2_pupilsOf_b4 v (I (b : Int)) (fun x y => rec (x, y)) (om (fun i => bts g i b) i) (I (i : Int)) = rec ((if bts g i b then om (fun i => bts g i b) i ||| ((1 : Int32) <<< (I (i : Int) &&& 31)) else om (fun i => bts g i b) i), I ((i + 1 : Nat) : Int))
    unfold f_X2_pupilsOf_b4
    rw [hS.2.2.2.2.1, ← hn.2, k_le (by omega) (by omega), if_neg (by omega), p_sits hS hB (by omega) hb]
    simp only [Option.bind_some, one_add]
    rw [ite_B1]
    unfold bts
    by_cases c : bt (g (16 + 3 * i)) b = true
    · rw [if_pos c, if_pos c]
    · rw [if_neg c, if_neg c]
  · show f_X2_pupilsOf_b4 v (I (b : Int)) (fun x y => rec (x, y)) (om (fun i => bts g i b) (np g)) (I (np g : Int)) = _
    unfold f_X2_pupilsOf_b4
    rw [hS.2.2.2.2.1, ← hn.2, k_le (by omega) (by omega), if_pos (by omega)]
/-- the last end of a paper, over all sixteen rows -/
theorem lePa_st {g : Nat → Int} (hB : Bd g) {b : Nat} (hb : b < 6) : li (fun i => st g (6 * i + b)) (fun i => ek g (6 * i + b)) (-6) 16 = lePa g b := by
  have hn := np_le hB
  unfold lePa
  have h := li_cut (P := fun i => st g (6 * i + b)) (f := fun i => ek g (6 * i + b)) (z0 := -6) (n := np g) (16 - np g) (fun i h1 h2 => by
    show st g (6 * i + b) = false
    rw [st_ip hb, decide_eq_false (by omega), Bool.false_and])
  rw [show np g + (16 - np g) = 16 by omega] at h
  rw [h]
  refine li_congr (fun i hi => ⟨?_, ?_⟩)
  · show st g (6 * i + b) = bts g i b
    rw [st_ip hb, decide_eq_true (by omega), Bool.true_and]
  · show en g ((6 * i + b) / 6) ((6 * i + b) % 6) = en g i b
    rw [show (6 * i + b) / 6 = i by omega, show (6 * i + b) % 6 = b by omega]
