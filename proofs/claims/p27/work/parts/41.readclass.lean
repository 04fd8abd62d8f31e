/-! ===== (from the parts of whole) ===== -/
def rdI (g : Nat → Int) (t : Int) (i : Nat) : Nat := sm (fun b => b1 (rdq g (6 * i + b) && ovr g t (6 * i + b))) 6
theorem rdm_np {g : Nat → Int} (hB : Bd g) (t : Int) : rdm g t = sm (rdI g t) (np g) := by
  have hn := np_le hB
  unfold rdm
  rw [show (96 : Nat) = 6 * 16 from rfl, sm_six]
  have h := sm_cut (f := rdI g t) (n := np g) (16 - np g) (fun i h1 h2 => by
    have := sm_bd (c := 0) (n := 6) (f := fun b => b1 (rdq g (6 * i + b) && ovr g t (6 * i + b))) (fun b hb => by
      unfold rdq
      rw [st_ip hb, decide_eq_false (by omega)]
      exact Nat.le_refl _)
    unfold rdI
    omega)
  rw [show np g + (16 - np g) = 16 by omega] at h
  exact h
theorem rdm_le (g : Nat → Int) (t : Int) : rdm g t ≤ 96 := by
  have := sm_le (c := 1) (f := fun k => b1 (rdq g k && ovr g t k)) (fun k => b1_le _) 96
  unfold rdm
  omega
theorem tkn_le (g z : Nat → Int) (h : Nat) (t : Int) : tkn g z h t ≤ 96 := by
  have := sm_le (c := 1) (f := fun k => b1 (inH z h k && ovr g t k)) (fun k => b1_le _) 96
  unfold tkn
  omega
theorem p_ra_in {v : JV} {g : Nat → Int} (hS : RS v g) (hB : Bd g) {i : Nat} (hi : i < 16) (hin : (i : Int) < g 3) {t : Int} (ht : rng t) (r4 : Int32 → Int32 → Option Int32) (u : Nat) :
    f_X2_readersAt_L15 v r4 (I t) (I (i : Int)) FU (I (u : Int)) (0 : Int32) = r4 (I ((u + rdI g t i : Nat) : Int)) (I ((i + 1 : Nat) : Int)) := by
  have hp := (hB.2.2.2.2.2.1 i hi).2.2
  have h5 := (hS.2.2.1 i hi).2.2
  by_cases c : g (18 + 3 * i) = 0
  · have e : rdI g t i = 0 := by
      have := sm_bd (c := 0) (n := 6) (f := fun b => b1 (rdq g (6 * i + b) && ovr g t (6 * i + b))) (fun b hb => by
        unfold rdq rd
        rw [show (6 * i + b) / 6 = i by omega, c, show ((0 : Int) == 1) = false from rfl, Bool.and_false]
        exact Nat.le_refl _)
      unfold rdI
      omega
    rw [e]
    unfold f_X2_readersAt_L15
    refine lp_run _ (fun _ => (I (u : Int), (0 : Int32))) 0 _ (fun rec b hb => absurd hb (by omega)) (fun rec => ?_) FU (by have := FU_ge; omega)
    show f_X2_readersAt_b15 v r4 (I t) (I (i : Int)) (fun x y => rec (x, y)) (I (u : Int)) (0 : Int32) = _
    unfold f_X2_readersAt_b15
    rw [if_neg (show ¬ (6 : Int32) ≤ 0 by decide), gd_t (inb_k hi (by omega)), I_k (by omega), h5, c, one_add]
    rfl
  · have c1 : g (18 + 3 * i) = 1 := by omega
    unfold f_X2_readersAt_L15 rdI
    refine lp_run _ (fun b => (I ((u + sm (fun b => b1 (rdq g (6 * i + b) && ovr g t (6 * i + b))) b : Nat) : Int), I (b : Int))) 6 _ (fun rec b hb => ?_) (fun rec => ?_) FU (by have := FU_ge; omega)
    · show f_X2_readersAt_b15 v r4 (I t) (I (i : Int)) (fun x y => rec (x, y)) (I ((u + sm (fun b => b1 (rdq g (6 * i + b) && ovr g t (6 * i + b))) b : Nat) : Int)) (I (b : Int)) = rec (I ((u + (sm (fun b => b1 (rdq g (6 * i + b) && ovr g t (6 * i + b))) b + b1 (rdq g (6 * i + b) && ovr g t (6 * i + b))) : Nat) : Int), I ((b + 1 : Nat) : Int))
      have hsat := p_isSatAt hS hB (k := 6 * i + b) (by omega) ht
      rw [show (6 * i + b) / 6 = i by omega, show (6 * i + b) % 6 = b by omega] at hsat
      have hr : rdq g (6 * i + b) = bt (g (16 + 3 * i)) b := by
        unfold rdq rd
        rw [st_ip hb, decide_eq_true hin, show (6 * i + b) / 6 = i by omega, c1]
        unfold bts
        simp
      unfold f_X2_readersAt_b15
      rw [c6, k_le (by omega) (by omega), if_neg (by omega), gd_t (inb_k hi (by omega)), I_k (by omega), h5, c1, if_neg (show ¬ I 1 = 0 by decide), p_sits hS hB hi hb, hsat]
      simp only [Option.bind_some, one_add]
      rw [ite_B1, ite_B1, hr]
      cases bt (g (16 + 3 * i)) b <;> cases ovr g t (6 * i + b) <;> rfl
    · show f_X2_readersAt_b15 v r4 (I t) (I (i : Int)) (fun x y => rec (x, y)) (I ((u + sm (fun b => b1 (rdq g (6 * i + b) && ovr g t (6 * i + b))) 6 : Nat) : Int)) (I ((6 : Nat) : Int)) = _
      unfold f_X2_readersAt_b15
      rw [c6, k_le (by omega) (by omega), if_pos (by omega), one_add]
theorem p_readersAt {v : JV} {g : Nat → Int} (hS : RS v g) (hB : Bd g) {t : Int} (ht : rng t) : f_X2_readersAt v (I t) = some (I ((rdm g t : Nat) : Int)) := by
  have hn := np_le hB
  rw [rdm_np hB]
  unfold f_X2_readersAt f_X2_readersAt_L4
  refine lp_run _ (fun i => (I ((sm (rdI g t) i : Nat) : Int), I (i : Int))) (np g) _ (fun rec i hi => ?_) (fun rec => ?_) FU (by have := FU_ge; omega)
  · show f_X2_readersAt_b4 v (I t) (fun x y => rec (x, y)) (I ((sm (rdI g t) i : Nat) : Int)) (I (i : Int)) = rec (I ((sm (rdI g t) i + rdI g t i : Nat) : Int), I ((i + 1 : Nat) : Int))
    unfold f_X2_readersAt_b4
    rw [hS.2.2.2.2.1, ← hn.2, k_le (by omega) (by omega), if_neg (by omega), p_ra_in hS hB (by omega) (by omega) ht]
  · show f_X2_readersAt_b4 v (I t) (fun x y => rec (x, y)) (I ((sm (rdI g t) (np g) : Nat) : Int)) (I (np g : Int)) = _
    unfold f_X2_readersAt_b4
    rw [hS.2.2.2.2.1, ← hn.2, k_le (by omega) (by omega), if_pos (by omega)]
