/-! ===== halls: open ones, desks; what is left of the reference's queries ===== -/
theorem p_desksOf {v : JV} {g : Nat → Int} (hS : RS v g) (hB : Bd g) {h : Nat} (hh : h < 4) : f_X2_desksOf v (I (h : Int)) = some (I ((rw_ g h * cw_ g h : Nat) : Int)) := by
  have hc := rc_bd hB hh
  unfold f_X2_desksOf
  rw [gd_t (inb_k hh (by omega)), gd_t (inb_k hh (by omega)), I_k (by omega), (hS.2.2.2.1 h hh).1, (hS.2.2.2.1 h hh).2, hc.2.2.1, hc.2.2.2, nat_mul]
def odk (g : Nat → Int) : Nat := sm (nd g) 4
theorem odk_le {g : Nat → Int} (hB : Bd g) : odk g ≤ 64 := by
  have := sm_bd (c := 16) (n := 4) (f := nd g) (fun h hh => nd_le hB hh)
  unfold odk
  omega
theorem p_openDesks {v : JV} {g : Nat → Int} (hS : RS v g) (hB : Bd g) : f_X2_openDesks v = some (I ((odk g : Nat) : Int)) := by
  unfold f_X2_openDesks f_X2_openDesks_L4 odk
  refine lp_run _ (fun h => (I ((sm (nd g) h : Nat) : Int), I (h : Int))) 4 _ (fun rec h hh => ?_) (fun rec => ?_) FU (by have := FU_ge; omega)
  · show f_X2_openDesks_b4 v (fun x y => rec (x, y)) (I ((sm (nd g) h : Nat) : Int)) (I (h : Int)) = rec (I ((sm (nd g) h + nd g h : Nat) : Int), I ((h + 1 : Nat) : Int))
    unfold f_X2_openDesks_b4
    rw [show (4 : Int32) = I ((4 : Nat) : Int) from rfl, k_le (by omega) (by omega), if_neg (by omega), p_isOpen hS hB hh, p_desksOf hS hB hh]
    simp only [Option.bind_some, one_add]
    rw [ite_B1]
    unfold nd
    by_cases c : g (66 + 3 * h) = 1
    · rw [decide_eq_true c, if_pos rfl, if_pos c, nat_add]
    · rw [decide_eq_false c, if_neg Bool.false_ne_true, if_neg c]; rfl
  · rfl
theorem opn_raw : ∀ a b c d : Bool, om (fun h => if h = 0 then a else if h = 1 then b else if h = 2 then c else d) 4 = I (B1 a + 2 * B1 b + 4 * B1 c + 8 * B1 d) := by decide +kernel
def opB (g : Nat → Int) (h : Nat) : Bool := decide (g (66 + 3 * h) = 1)
theorem opB_g {g : Nat → Int} (hB : Bd g) {h : Nat} (hh : h < 4) : B1 (opB g h) = g (66 + 3 * h) := by
  have h1 := (hB.2.2.2.2.2.2 h hh).2.2
  unfold opB B1
  by_cases c : g (66 + 3 * h) = 1
  · rw [decide_eq_true c, if_pos rfl, c]
  · rw [decide_eq_false c, if_neg Bool.false_ne_true]; omega
theorem om_opn {g : Nat → Int} (hB : Bd g) : om (opB g) 4 = I (opn g) := by
  have h := opn_raw (opB g 0) (opB g 1) (opB g 2) (opB g 3)
  rw [opB_g hB (h := 0) (by omega), opB_g hB (h := 1) (by omega), opB_g hB (h := 2) (by omega), opB_g hB (h := 3) (by omega)] at h
  rw [← show I (g (66 + 3 * 0) + 2 * g (66 + 3 * 1) + 4 * g (66 + 3 * 2) + 8 * g (66 + 3 * 3)) = I (opn g) from rfl, ← h]
  refine om_congr (fun i hi => ?_)
  match i, hi with
  | 0, _ => rfl
  | 1, _ => rfl
  | 2, _ => rfl
  | 3, _ => rfl
theorem m_openHalls {v : JV} {g : Nat → Int} (hM : RM (v 0) g) (hB : Bd g) : f_X5_openHalls v = some (I (opn g)) := by
  rw [← om_opn hB]
  unfold f_X5_openHalls f_X5_openHalls_L4
  refine lp_run _ (fun h => (om (opB g) h, I (h : Int))) 4 _ (fun rec h hh => ?_) (fun rec => ?_) FU (by have := FU_ge; omega)
  · show f_X5_openHalls_b4 v (fun x y => rec (x, y)) (om (opB g) h) (I (h : Int)) = rec ((if opB g h then om (opB g) h ||| ((1 : Int32) <<< (I (h : Int) &&& 31)) else om (opB g) h), I ((h + 1 : Nat) : Int))
    have ho := (hB.2.2.2.2.2.2 h hh).2.2
    unfold f_X5_openHalls_b4
    rw [show (4 : Int32) = I ((4 : Nat) : Int) from rfl, k_le (by omega) (by omega), if_neg (by omega), p_h, one_add]
    simp only [Option.bind_some]
    rw [show (2 : Int32) = I ((2 : Nat) : Int) from rfl, nat_add, gd_t (inb_k (by omega) (by omega)), I_k (by omega), hM _ (by omega), show 64 + 3 * h + 2 = 66 + 3 * h by omega, or_0]
    unfold opB
    by_cases c : g (66 + 3 * h) = 1
    · rw [decide_eq_true c, c, if_pos rfl, if_pos (show I 1 = (1 : Int32) from rfl)]
    · have c0 : g (66 + 3 * h) = 0 := by omega
      rw [decide_eq_false c, c0, if_neg Bool.false_ne_true, if_neg (show ¬ I 0 = (1 : Int32) by decide)]
  · rfl
theorem m_desksOf {v : JV} {g : Nat → Int} (hM : RM (v 0) g) (hB : Bd g) {x : Int32} {P : Nat → Bool} (hx : ∀ h : Nat, h < 4 → ((x >>> (I (h : Int) &&& 31)) &&& 1) = I (B1 (P h))) : f_X5_desksOf v x = some (I ((sm (fun h => if P h then rw_ g h * cw_ g h else 0) 4 : Nat) : Int)) := by
  unfold f_X5_desksOf f_X5_desksOf_L4
  refine lp_run _ (fun h => (I ((sm (fun h => if P h then rw_ g h * cw_ g h else 0) h : Nat) : Int), I (h : Int))) 4 _ (fun rec h hh => ?_) (fun rec => ?_) FU (by have := FU_ge; omega)
  · show f_X5_desksOf_b4 v x (fun x y => rec (x, y)) (I ((sm (fun h => if P h then rw_ g h * cw_ g h else 0) h : Nat) : Int)) (I (h : Int)) = rec (I ((sm (fun h => if P h then rw_ g h * cw_ g h else 0) h + (if P h then rw_ g h * cw_ g h else 0) : Nat) : Int), I ((h + 1 : Nat) : Int))
    unfold f_X5_desksOf_b4 f_X5_desksOf_K26
    rw [show (4 : Int32) = I ((4 : Nat) : Int) from rfl, k_le (by omega) (by omega), if_neg (by omega), hx h hh, one_add, show (0 : Int32) = I (B1 false) from rfl, m_desksAt hM hB hh false, show (1 : Int32) = I (B1 true) from rfl, m_desksAt hM hB hh true]
    simp only [Option.bind_some]
    rw [nat_add, nat_add]
    cases P h <;> rfl
  · rfl
theorem m_desksOpen {v : JV} {g : Nat → Int} (hM : RM (v 0) g) (hB : Bd g) : f_X5_desksOf v (I (opn g)) = some (I ((odk g : Nat) : Int)) := by
  rw [m_desksOf hM hB (P := opB g) (fun h hh => open_bit hB hh)]
  congr 3
  unfold odk
  refine sm_congr (fun h hh => ?_)
  unfold opB nd
  by_cases c : g (66 + 3 * h) = 1
  · rw [decide_eq_true c, if_pos rfl, if_pos c]
  · rw [decide_eq_false c, if_neg Bool.false_ne_true, if_neg c]
theorem m_unseated {v : JV} {g : Nat → Int} (hM : RM (v 0) g) (hB : Bd g) (h9 : v 9 0 = 0 ∨ (v 9 0 = 1 ∧ RZ v (seatOf g))) {i : Nat} (hi : i < 16) : ∃ v' : JV, f_X5_unseated v (I (i : Int)) = some (om (fun b => unpz g (seatOf g) (6 * i + b)) 6, v') ∧ RZ v' (seatOf g) ∧ v' 9 0 = 1 ∧ ∀ a : Nat, a ≠ 6 → a ≠ 9 → v' a = v a := by
  obtain ⟨w, h1, h2, h3, h4⟩ := m_seats hM hB h9
  have hMw : RM (w 0) g := fun k hk => by rw [h4 0 (by omega) (by omega)]; exact hM k hk
  have hz : Zb (seatOf g) := zN_bd hB 1920
  refine ⟨w, ?_, h2, h3, h4⟩
  unfold f_X5_unseated f_X5_unseated_L8
  rw [h1]
  simp only [Option.bind_some]
  refine lp_run _ (fun b => (w, om (fun b => unpz g (seatOf g) (6 * i + b)) b, I (b : Int))) 6 _ (fun rec b hb => ?_) (fun rec => ?_) FU (by have := FU_ge; omega)
  · show f_X5_unseated_b8 (I (i : Int)) (fun x y z => rec (x, y, z)) w (om (fun b => unpz g (seatOf g) (6 * i + b)) b) (I (b : Int)) = rec (w, (if unpz g (seatOf g) (6 * i + b) then om (fun b => unpz g (seatOf g) (6 * i + b)) b ||| ((1 : Int32) <<< (I (b : Int) &&& 31)) else om (fun b => unpz g (seatOf g) (6 * i + b)) b), I ((b + 1 : Nat) : Int))
    have hzk := hz (6 * i + b)
    unfold f_X5_unseated_b8
    rw [show (-6 : Int32) = I (-6) from rfl, c6, k_le (by omega) (by omega), if_neg (by omega), nat_mul, nat_add, m_isSitting hMw hB (by omega), one_add, gd_t (inb_k (by omega) (by omega)), I_k (by omega), h2 _ (by omega), ite_eq (rng_of (by omega) (by omega)) (rng_of (by omega) (by omega)), or_0]
    simp only [Option.bind_some]
    rw [ite_B1]
    unfold unpz
    cases st g (6 * i + b)
    · rfl
    · by_cases c : seatOf g (6 * i + b) = -6
      · rw [if_pos c, decide_eq_true c]; rfl
      · rw [if_neg c, decide_eq_false c]; rfl
  · rfl
theorem m_seatedIn {v : JV} {g : Nat → Int} (hM : RM (v 0) g) (hB : Bd g) (h9 : v 9 0 = 0 ∨ (v 9 0 = 1 ∧ RZ v (seatOf g))) {h : Nat} (hh : h < 4) : ∃ v' : JV, f_X5_seatedIn v (I (h : Int)) = some (I ((sm (fun k => b1 (inH (seatOf g) h k)) 96 : Nat) : Int), v') ∧ RZ v' (seatOf g) ∧ v' 9 0 = 1 ∧ ∀ a : Nat, a ≠ 6 → a ≠ 9 → v' a = v a := by
  obtain ⟨w, h1, h2, h3, h4⟩ := m_seats hM hB h9
  have hz : Zb (seatOf g) := zN_bd hB 1920
  refine ⟨w, ?_, h2, h3, h4⟩
  unfold f_X5_seatedIn f_X5_seatedIn_L8
  rw [h1]
  simp only [Option.bind_some]
  refine lp_run _ (fun k => (w, I ((sm (fun k => b1 (inH (seatOf g) h k)) k : Nat) : Int), I (k : Int))) 96 _ (fun rec k hk => ?_) (fun rec => ?_) FU (by have := FU_ge; omega)
  · show f_X5_seatedIn_b8 (I (h : Int)) (fun x y z => rec (x, y, z)) w (I ((sm (fun k => b1 (inH (seatOf g) h k)) k : Nat) : Int)) (I (k : Int)) = rec (w, I ((sm (fun k => b1 (inH (seatOf g) h k)) k + b1 (inH (seatOf g) h k) : Nat) : Int), I ((k + 1 : Nat) : Int))
    unfold f_X5_seatedIn_b8
    rw [show (96 : Int32) = I ((96 : Nat) : Int) from rfl, k_le (by omega) (by omega), if_neg (by omega), m_isIn h2 hz hh hk, one_add, one_add, show I ((sm (fun k => b1 (inH (seatOf g) h k)) k : Nat) : Int) + (0 : Int32) = I ((sm (fun k => b1 (inH (seatOf g) h k)) k : Nat) : Int) from by rw [show (0 : Int32) = I ((0 : Nat) : Int) from rfl, nat_add]; rfl]
    simp only [Option.bind_some]
    rw [ite_B1]
    cases inH (seatOf g) h k <;> rfl
  · rfl
