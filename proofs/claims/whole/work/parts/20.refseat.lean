/-! ===== the reference's places ===== -/
def nd (g : Nat → Int) (h : Nat) : Nat := if g (66 + 3 * h) = 1 then rw_ g h * cw_ g h else 0
def dP (g z : Nat → Int) (k h d : Nat) : Bool := fre g z ((16 * h + d : Nat) : Int) k && (decide (g 0 = 0) || aloneB g z h d (k % 6))
def hQ (g z : Nat → Int) (k h : Nat) : Bool := decide (ff (dP g z k h) (nd g h) < nd g h)
def deskS (g z : Nat → Int) (k : Nat) : Int := if ff (hQ g z k) 4 < 4 then ((16 * ff (hQ g z k) 4 + ff (dP g z k (ff (hQ g z k) 4)) (nd g (ff (hQ g z k) 4)) : Nat) : Int) else -6
def nr (g : Nat → Int) : Nat := (g 1).toNat
def rP (g z : Nat → Int) (k r : Nat) : Bool := fre g z ((64 + r : Nat) : Int) k
def roomS (g z : Nat → Int) (k : Nat) : Int := if ff (rP g z k) (nr g) < nr g then ((64 + ff (rP g z k) (nr g) : Nat) : Int) else -6
theorem nd_le {g : Nat → Int} (hB : Bd g) {h : Nat} (hh : h < 4) : nd g h ≤ 16 := by
  have hm := rc_mul hB hh
  unfold nd
  split <;> omega
theorem m_roomFor {v : JV} {g z : Nat → Int} (hM : RM (v 0) g) (hB : Bd g) (hZ : RZ v z) (hz : Zb z) {k : Nat} (hk : k < 96) : f_X5_roomFor v (I (k : Int)) = some (I (roomS g z k)) := by
  have h1 := hB.2.1
  have hr : g 1 = ((nr g : Nat) : Int) := by unfold nr; omega
  have hl : nr g ≤ 6 := by omega
  unfold f_X5_roomFor f_X5_roomFor_L2
  have K : ∀ r : Nat, r ≤ 6 → f_X5_roomFor_K30 v (I (r : Int)) = (if r < nr g then some (I ((64 + r : Nat) : Int)) else some (I (-6))) := by
    intro r hr6
    unfold f_X5_roomFor_K30
    rw [hM 1 (by omega), hr, k_le (by omega) (by omega), show (64 : Int32) = I ((64 : Nat) : Int) from rfl, nat_add]
    by_cases c : r < nr g
    · rw [if_pos c, if_neg (by omega)]
    · rw [if_neg c, if_pos (by omega)]; rfl
  refine (lp_ff _ (fun r => I (r : Int)) (rP g z k) (nr g) (fun r => if r < nr g then some (I ((64 + r : Nat) : Int)) else some (I (-6))) (fun rec r hr1 hP => ?_) (fun rec r hr1 hP => ?_) (fun rec => ?_) FU (by have := FU_ge; omega)).trans ?_
  · show f_X5_roomFor_b2 v (I (k : Int)) (fun x => rec x) (I (r : Int)) = _
    unfold f_X5_roomFor_b2
    rw [hM 1 (by omega), hr, k_le (by omega) (by omega), if_neg (by omega), show (64 : Int32) = I ((64 : Nat) : Int) from rfl, nat_add, m_isFree hM hB hZ hz (by omega) hk]
    simp only [Option.bind_some]
    rw [ite_B1, show fre g z ((64 + r : Nat) : Int) k = false from hP, one_add]
    rfl
  · show f_X5_roomFor_b2 v (I (k : Int)) (fun x => rec x) (I (r : Int)) = _
    unfold f_X5_roomFor_b2
    rw [hM 1 (by omega), hr, k_le (by omega) (by omega), if_neg (by omega), show (64 : Int32) = I ((64 : Nat) : Int) from rfl, nat_add, m_isFree hM hB hZ hz (by omega) hk]
    simp only [Option.bind_some]
    rw [ite_B1, show fre g z ((64 + r : Nat) : Int) k = true from hP, if_pos rfl, K r (by omega)]
  · show f_X5_roomFor_b2 v (I (k : Int)) (fun x => rec x) (I (nr g : Int)) = _
    unfold f_X5_roomFor_b2
    rw [hM 1 (by omega), hr, k_le (by omega) (by omega), if_pos (by omega), K _ (by omega)]
  · unfold roomS
    by_cases c : ff (rP g z k) (nr g) < nr g
    · rw [if_pos c, if_pos c]
    · rw [if_neg c, if_neg c]
theorem m_desks {v : JV} {g : Nat → Int} (hM : RM (v 0) g) (hB : Bd g) {h : Nat} (hh : h < 4) : f_X5_desks v (I (h : Int)) = some (I ((rw_ g h * cw_ g h : Nat) : Int)) := by
  have hc := rc_bd hB hh
  unfold f_X5_desks
  rw [p_h]
  simp only [Option.bind_some]
  rw [show I ((64 + 3 * h : Nat) : Int) + (0 : Int32) = I ((64 + 3 * h : Nat) : Int) from by rw [show (0 : Int32) = I ((0 : Nat) : Int) from rfl, nat_add]; rfl, one_add, gd_t (inb_k (by omega) (by omega)), gd_t (inb_k (by omega) (by omega)), I_k (by omega), I_k (by omega), hM _ (by omega), hM _ (by omega), show 64 + 3 * h + 1 = 65 + 3 * h by omega, hc.2.2.1, hc.2.2.2, nat_mul]
theorem m_desksAt {v : JV} {g : Nat → Int} (hM : RM (v 0) g) (hB : Bd g) {h : Nat} (hh : h < 4) (b : Bool) : f_X5_desksAt v (I (h : Int)) (I (B1 b)) = some (I ((if b then rw_ g h * cw_ g h else 0 : Nat) : Int)) := by
  unfold f_X5_desksAt
  rw [ite_B1, m_desks hM hB hh]
  cases b <;> rfl
theorem m_deskFor {v : JV} {g z : Nat → Int} (hM : RM (v 0) g) (hB : Bd g) (hZ : RZ v z) (hz : Zb z) {k : Nat} (hk : k < 96) : f_X5_deskFor v (I (k : Int)) = some (I (deskS g z k)) := by
  have h0 := hB.1
  have In : ∀ (r2 : Int32 → Option Int32) (h : Nat), h < 4 → f_X5_deskFor_b2 v (I (k : Int)) r2 (I (h : Int)) = (if ff (dP g z k h) (nd g h) < nd g h then some (I ((16 * h + ff (dP g z k h) (nd g h) : Nat) : Int)) else r2 (I ((h + 1 : Nat) : Int))) := by
    intro r2 h hh
    have hc := rc_bd hB hh
    have hn := nd_le hB hh
    have ho := (hB.2.2.2.2.2.2 h hh).2.2
    have Lp : f_X5_deskFor_L36 v r2 (I (k : Int)) (I (h : Int)) (I (nd g h : Int)) FU (0 : Int32) = (if ff (dP g z k h) (nd g h) < nd g h then some (I ((16 * h + ff (dP g z k h) (nd g h) : Nat) : Int)) else r2 (I ((h + 1 : Nat) : Int))) := by
      unfold f_X5_deskFor_L36
      refine lp_ff _ (fun d => I (d : Int)) (dP g z k h) (nd g h) (fun d => if d < nd g h then some (I ((16 * h + d : Nat) : Int)) else r2 (I ((h + 1 : Nat) : Int))) (fun rec d hd hP => ?_) (fun rec d hd hP => ?_) (fun rec => ?_) FU (by have := FU_ge; omega)
      · show f_X5_deskFor_b36 v r2 (I (k : Int)) (I (h : Int)) (I (nd g h : Int)) (fun x => rec x) (I (d : Int)) = _
        unfold f_X5_deskFor_b36
        rw [k_le (by omega) (by omega), if_neg (by omega), show (16 : Int32) = I ((16 : Nat) : Int) from rfl, nat_mul, nat_add, m_isFree hM hB hZ hz (by omega) hk, k6m (by omega), m_isAlone hM hB hZ hz hh (by omega) (by omega), hM 0 (by omega)]
        simp only [Option.bind_some]
        rw [ite_B1, ite_B1, show (if I (g 0) = 0 then some (I ((16 * h + d : Nat) : Int)) else if aloneB g z h d (k % 6) = true then some (I ((16 * h + d : Nat) : Int)) else (fun x => rec x) (I (d : Int) + 1)) = _ from ite_eq (a := g 0) (b := 0) (rng_of (by omega) (by omega)) (rng_of (by omega) (by omega)), one_add]
        unfold dP at hP
        by_cases c1 : fre g z ((16 * h + d : Nat) : Int) k = true
        · rw [if_pos c1]
          rw [c1, Bool.true_and, Bool.or_eq_false_iff, decide_eq_false_iff_not] at hP
          rw [if_neg hP.1, hP.2]
          rfl
        · rw [if_neg c1]
      · show f_X5_deskFor_b36 v r2 (I (k : Int)) (I (h : Int)) (I (nd g h : Int)) (fun x => rec x) (I (d : Int)) = _
        unfold f_X5_deskFor_b36
        rw [k_le (by omega) (by omega), if_neg (by omega), show (16 : Int32) = I ((16 : Nat) : Int) from rfl, nat_mul, nat_add, m_isFree hM hB hZ hz (by omega) hk, k6m (by omega), m_isAlone hM hB hZ hz hh (by omega) (by omega), hM 0 (by omega)]
        simp only [Option.bind_some]
        rw [ite_B1, ite_B1, show (if I (g 0) = 0 then some (I ((16 * h + d : Nat) : Int)) else if aloneB g z h d (k % 6) = true then some (I ((16 * h + d : Nat) : Int)) else (fun x => rec x) (I (d : Int) + 1)) = _ from ite_eq (a := g 0) (b := 0) (rng_of (by omega) (by omega)) (rng_of (by omega) (by omega))]
        unfold dP at hP
        rw [Bool.and_eq_true, Bool.or_eq_true, decide_eq_true_eq] at hP
        rw [if_pos hP.1, if_pos hd]
        rcases hP.2 with c | c
        · rw [if_pos c]
        · rw [c]
          by_cases c2 : g 0 = 0
          · rw [if_pos c2]
          · rw [if_neg c2]; rfl
      · show f_X5_deskFor_b36 v r2 (I (k : Int)) (I (h : Int)) (I (nd g h : Int)) (fun x => rec x) (I (nd g h : Int)) = _
        unfold f_X5_deskFor_b36
        rw [k_le (by omega) (by omega), if_pos (by omega), one_add, if_neg (by omega)]
    unfold f_X5_deskFor_b2 f_X5_deskFor_K29
    rw [show (4 : Int32) = I ((4 : Nat) : Int) from rfl, k_le (by omega) (by omega), if_neg (by omega), p_h]
    simp only [Option.bind_some]
    rw [show (2 : Int32) = I ((2 : Nat) : Int) from rfl, nat_add, gd_t (inb_k (by omega) (by omega)), I_k (by omega), hM _ (by omega), show 64 + 3 * h + 2 = 66 + 3 * h by omega, show (1 : Int32) = I (B1 true) from rfl, show (0 : Int32) = I (B1 false) from rfl, m_desksAt hM hB hh true, m_desksAt hM hB hh false]
    simp only [Option.bind_some]
    rw [show I (B1 true) = I 1 from rfl, ite_eq (rng_of (by omega) (by omega)) (rng_of (by omega) (by omega)), ← Lp]
    unfold nd
    by_cases c : g (66 + 3 * h) = 1
    · rw [if_pos c, if_pos c]; rfl
    · rw [if_neg c, if_neg c]; rfl
  unfold f_X5_deskFor f_X5_deskFor_L2
  refine (lp_ff _ (fun h => I (h : Int)) (hQ g z k) 4 (fun h => if h < 4 then some (I ((16 * h + ff (dP g z k h) (nd g h) : Nat) : Int)) else some (I (-6))) (fun rec h hh hP => ?_) (fun rec h hh hP => ?_) (fun rec => ?_) FU (by have := FU_ge; omega)).trans ?_
  · show f_X5_deskFor_b2 v (I (k : Int)) (fun x => rec x) (I (h : Int)) = _
    rw [In _ h hh]
    unfold hQ at hP
    rw [decide_eq_false_iff_not] at hP
    rw [if_neg hP]
  · show f_X5_deskFor_b2 v (I (k : Int)) (fun x => rec x) (I (h : Int)) = _
    rw [In _ h hh]
    unfold hQ at hP
    rw [decide_eq_true_eq] at hP
    rw [if_pos hP, if_pos hh]
  · rfl
  · unfold deskS
    by_cases c : ff (hQ g z k) 4 < 4
    · rw [if_pos c, if_pos c]
    · rw [if_neg c, if_neg c]
