/-! ===== the sittings of a paper, reference: the loop ===== -/
theorem os_loop {v : JV} {g z : Nat → Int} (hM : RM (v 0) g) (hB : Bd g) (hz : RZ v z) (hb : Zb z) {b : Nat} (hb6 : b < 6) (x2 : Int32) :
    f_X5_ofSittings_L19 x2 FU v 0 (-6) 0 0 (I (b : Int)) = some (if x2 = 2 then om (fun i => st g (6 * i + b)) 16 else if x2 = 3 then I (li (fun i => st g (6 * i + b)) (fun i => ek g (6 * i + b)) (-6) 16) else if x2 = 4 then I ((sm (fun i => b1 (unpz g z (6 * i + b))) 16 : Nat) : Int) else hmO z b 16, v) := by
  unfold f_X5_ofSittings_L19
  refine lp_run _ (fun i => (v, om (fun i => st g (6 * i + b)) i, I (li (fun i => st g (6 * i + b)) (fun i => ek g (6 * i + b)) (-6) i), I ((sm (fun i => b1 (unpz g z (6 * i + b))) i : Nat) : Int), hmO z b i, I ((b + 6 * i : Nat) : Int))) 16 _ (fun rec i hi => ?_) (fun rec => ?_) FU (by have := FU_ge; omega)
  · show f_X5_ofSittings_b19 x2 (fun vM_19 x3_19 x4_19 x5_19 x6_19 x7_19 => rec (vM_19, x3_19, x4_19, x5_19, x6_19, x7_19)) v (om (fun i => st g (6 * i + b)) i) (I (li (fun i => st g (6 * i + b)) (fun i => ek g (6 * i + b)) (-6) i)) (I ((sm (fun i => b1 (unpz g z (6 * i + b))) i : Nat) : Int)) (hmO z b i) (I ((b + 6 * i : Nat) : Int)) = _
    have e1 : b + 6 * i = 6 * i + b := by omega
    have h1 := li_bd (P := fun i => st g (6 * i + b)) (f := fun i => ek g (6 * i + b)) (z0 := -6) (a := -6) (c := 931) (n := i) ⟨by omega, by omega⟩ (fun j hj _ => (ek_bd hB (by omega)).2)
    rw [e1, os_step hM hB hz hb (by omega) _ x2 _ _ h1]
    show rec (v, _, _, _, _, _) = rec (v, (if st g (6 * i + b) then _ else _), I (if st g (6 * i + b) && decide (_ < ek g (6 * i + b)) then ek g (6 * i + b) else _), I ((sm (fun i => b1 (unpz g z (6 * i + b))) i + b1 (unpz g z (6 * i + b)) : Nat) : Int), hst z (6 * i + b) (hmO z b i), I ((b + 6 * (i + 1) : Nat) : Int))
    rw [show (6 * i + b) / 6 = i by omega, show b + 6 * (i + 1) = 6 * i + b + 6 by omega]
  · show f_X5_ofSittings_b19 x2 (fun vM_19 x3_19 x4_19 x5_19 x6_19 x7_19 => rec (vM_19, x3_19, x4_19, x5_19, x6_19, x7_19)) v _ _ _ _ (I ((b + 6 * 16 : Nat) : Int)) = _
    unfold f_X5_ofSittings_b19
    rw [show (96 : Int32) = I ((96 : Nat) : Int) from rfl, k_le (by omega) (by omega), if_pos (by omega)]
    repeat' split
    all_goals rfl
def upO (g : Nat → Int) (b : Nat) : Nat := sm (fun i => b1 (unpz g (seatOf g) (6 * i + b))) 16
def haO (g : Nat → Int) (b : Nat) : Int32 := hmO (seatOf g) b 16
theorem m_ofSittings {v : JV} {g : Nat → Int} (hM : RM (v 0) g) (hB : Bd g) (h9 : v 9 0 = 0 ∨ (v 9 0 = 1 ∧ RZ v (seatOf g))) {b : Nat} (hb6 : b < 6) (x2 : Int32) :
    ∃ v' : JV, f_X5_ofSittings v (I (b : Int)) x2 = some (if x2 = 2 then pupO g b else if x2 = 3 then I (lePa g b) else if x2 = 4 then I ((upO g b : Nat) : Int) else haO g b, v') ∧ RZ v' (seatOf g) ∧ v' 9 0 = 1 ∧ ∀ a : Nat, a ≠ 6 → a ≠ 9 → v' a = v a := by
  obtain ⟨v', h1, h2, h3, h4⟩ := m_seats hM hB h9
  refine ⟨v', ?_, h2, h3, h4⟩
  unfold f_X5_ofSittings
  rw [h1]
  simp only [Option.bind_some]
  have hM' : RM (v' 0) g := by rw [h4 0 (by omega) (by omega)]; exact hM
  rw [os_loop hM' hB h2 (zN_bd hB 1920) hb6 x2, pupO_st hB hb6, lePa_st hB hb6]
  rfl
