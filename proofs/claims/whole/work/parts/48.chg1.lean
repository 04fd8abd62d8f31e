/-! ===== changes: set, paper, hall, open ===== -/
theorem chg2 {vT vS vP : JV} {hV : Nat → JV} {hZ : JV} {sV : Nat → JV} {vU vM vS' w : JV} (hA : Nat → Nat → Nat) {g g' : Nat → Int} (h : RI vT vS vP hV hZ sV vU vM) (hg : RG vT vS vM g) (hS' : RS vS' g') (hB' : Bd g') (w1 : RM (w 1) g) (wf : ∀ a : Nat, a ≠ 0 → a ≠ 1 → a ≠ 6 → a ≠ 9 → w a = vM a) (hM' : RM (w 0) g') (hsd : Sd w g') :
    ∃ (R : (Nat → Nat → Nat) × (Nat → JV) × JV) (vT' v' : JV), f_X0_remember vS hA hV hZ = some R ∧ f_X3_seatAll vT vS' = some vT' ∧ (∀ x : Int32, f_X5_recorded w x = some (x, v')) ∧ RI vT' vS' vP R.2.1 R.2.2 sV vU v' ∧ TN vT' g' 1920 := by
  obtain ⟨-, hH, hL, hP⟩ := h
  obtain ⟨hB, hS, hT, hM, hs⟩ := hg
  obtain ⟨R, vT', v', r1, r2, r3, r4, r5, r6⟩ := chg (vT := vT) (hA := hA) hS hB hS' hB' hH w1 (wf 3 (by omega) (by omega) (by omega) (by omega)) (wf 11 (by omega) (by omega) (by omega) (by omega)) hM' hsd
  refine ⟨R, vT', v', r1, r2, r3, ⟨⟨g', r4⟩, r5, hL.fr ?_ ?_, hP.fr ?_ ?_⟩, r4.2.2.1⟩
  · rw [r6 4 (by omega) (by omega), wf 4 (by omega) (by omega) (by omega) (by omega)]
  · rw [r6 5 (by omega) (by omega), wf 5 (by omega) (by omega) (by omega) (by omega)]
  · rw [r6 8 (by omega) (by omega), wf 8 (by omega) (by omega) (by omega) (by omega)]
  · rw [r6 10 (by omega) (by omega), wf 10 (by omega) (by omega) (by omega) (by omega)]
theorem I_ex (x : Int32) : ∃ a : Int, rng a ∧ x = I a := ⟨x.toInt, rng_self x, (I_self x).symm⟩
theorem I_nex {a : Int} (h : 0 ≤ a) : ∃ k : Nat, a = (k : Int) := ⟨a.toNat, (Int.toNat_of_nonneg h).symm⟩
def wi (b c a : Int) : Bool := decide (b ≤ a) && decide (a ≤ c)
theorem wi_iff {b c a : Int} : wi b c a = true ↔ b ≤ a ∧ a ≤ c := by unfold wi; rw [Bool.and_eq_true, decide_eq_true_eq, decide_eq_true_eq]
theorem p_wi {a : Int} (ha : rng a) (b c : Int) (hb : rng b) (hc : rng c) : f_X4_isWithin (I a) (I b) (I c) = some (I (B1 (wi b c a))) := m_in ha hb hc
theorem m_wi {a : Int} (ha : rng a) (b c : Int) (hb : rng b) (hc : rng c) : f_X5_in (I a) (I b) (I c) = some (I (B1 (wi b c a))) := m_in ha hb hc
theorem r0 (b : Int) (h1 : -1000000 ≤ b := by omega) (h2 : b ≤ 1000000 := by omega) : rng b := rng_of h1 h2
theorem p_isPaper {a : Int} (ha : rng a) : f_X4_isPaper (I a) = some (I (B1 (wi 0 5 a))) := by
  unfold f_X4_isPaper
  rw [show f_X4_isWithin (I a) (0 : Int32) (5 : Int32) = _ from p_wi ha 0 5 (r0 0) (r0 5)]
  simp only [Option.bind_some]
  rw [gd_t (B1_isb _)]
theorem p_isStart {a : Int} (ha : rng a) : f_X4_isStart (I a) = some (I (B1 (wi 0 19 a))) := by
  unfold f_X4_isStart
  rw [show f_X4_isWithin (I a) (0 : Int32) (19 : Int32) = _ from p_wi ha 0 19 (r0 0) (r0 19)]
  simp only [Option.bind_some]
  rw [gd_t (B1_isb _)]
theorem p_isHall {a : Int} (ha : rng a) : f_X4_isHall (I a) = some (I (B1 (wi 0 3 a))) := by
  unfold f_X4_isHall
  rw [show f_X4_isWithin (I a) (0 : Int32) (3 : Int32) = _ from p_wi ha 0 3 (r0 0) (r0 3)]
  simp only [Option.bind_some]
  rw [gd_t (B1_isb _)]
theorem p_isSlot {a : Int} (ha : rng a) : f_X4_isSlot (I a) = some (I (B1 (wi 0 1 a))) := by
  unfold f_X4_isSlot
  rw [show f_X4_isWithin (I a) (0 : Int32) (1 : Int32) = _ from p_wi ha 0 1 (r0 0) (r0 1)]
  simp only [Option.bind_some]
  rw [gd_t (B1_isb _)]
theorem m_isPaper {a : Int} (ha : rng a) : f_X5_isPaper (I a) = some (I (B1 (wi 0 5 a))) := by
  unfold f_X5_isPaper
  rw [show f_X5_in (I a) (0 : Int32) (5 : Int32) = _ from m_wi ha 0 5 (r0 0) (r0 5)]
  simp only [Option.bind_some]
  rw [gd_t (B1_isb _)]
theorem m_isHall {a : Int} (ha : rng a) : f_X5_isHall (I a) = some (I (B1 (wi 0 3 a))) := by
  unfold f_X5_isHall
  rw [show f_X5_in (I a) (0 : Int32) (3 : Int32) = _ from m_wi ha 0 3 (r0 0) (r0 3)]
  simp only [Option.bind_some]
  rw [gd_t (B1_isb _)]
theorem I_eqn {a : Int} (ha : rng a) (b : Int) (hb : rng b) (h : a ≠ b) : ¬ I a = I b := by rw [I_inj ha hb]; exact h
theorem hsv_hi {k : Nat} (hk : k < 3) : hsv k = I (hiB k) := by
  match k, hk with
  | 0, _ => rfl
  | 1, _ => rfl
  | 2, _ => rfl
theorem hi3 {k : Nat} (hk : k < 3) : 0 ≤ hiB k ∧ hiB k ≤ 60 ∧ loB k = 0 := by
  match k, hk with
  | 0, _ => exact ⟨by decide, by decide, by decide⟩
  | 1, _ => exact ⟨by decide, by decide, by decide⟩
  | 2, _ => exact ⟨by decide, by decide, by decide⟩
theorem m_set {vM : JV} {k : Nat} (hk : k < 3) {b : Int} (hb : rng b) : f_X5_set vM (I (k : Int)) (I b) = f_X5_set_K48 vM (I (k : Int)) (I b) (I (B1 (wi 0 (hiB k) b))) := by
  unfold f_X5_set
  match k, hk with
  | 0, _ =>
    rw [if_pos (show I ((0 : Nat) : Int) = (0 : Int32) from rfl), show f_X5_in (I b) (0 : Int32) (1 : Int32) = _ from m_wi hb 0 1 (r0 0) (r0 1)]
    rfl
  | 1, _ =>
    rw [if_neg (show ¬ I ((1 : Nat) : Int) = (0 : Int32) by decide), if_pos (show I ((1 : Nat) : Int) = (1 : Int32) from rfl), show f_X5_in (I b) (0 : Int32) (6 : Int32) = _ from m_wi hb 0 6 (r0 0) (r0 6)]
    rfl
  | 2, _ =>
    rw [if_neg (show ¬ I ((2 : Nat) : Int) = (0 : Int32) by decide), if_neg (show ¬ I ((2 : Nat) : Int) = (1 : Int32) by decide), if_pos (show I ((2 : Nat) : Int) = (2 : Int32) from rfl), show f_X5_in (I b) (0 : Int32) (60 : Int32) = _ from m_wi hb 0 60 (r0 0) (r0 60)]
    rw [show hiB 2 = 60 from rfl]
    cases wi 0 60 b <;> rfl
theorem m_set_no {vM : JV} {a : Int} (ha : rng a) (h : ¬ (0 ≤ a ∧ a ≤ 2)) (x : Int32) : f_X5_set vM (I a) x = some ((-2 : Int32), vM) := by
  unfold f_X5_set f_X5_set_K47 f_X5_set_K48
  rw [if_neg (show ¬ I a = (0 : Int32) from I_eqn ha 0 (r0 0) (by omega)), if_neg (show ¬ I a = (1 : Int32) from I_eqn ha 1 (r0 1) (by omega)), if_neg (show ¬ I a = (2 : Int32) from I_eqn ha 2 (r0 2) (by omega)), if_pos rfl]
theorem e_set {vT vS vP : JV} {hV : Nat → JV} {hZ : JV} {sV : Nat → JV} {vU vM : JV} (hA : Nat → Nat → Nat) (h : RI vT vS vP hV hZ sV vU vM) (x1 x2 : Int32) :
    ∃ (Rz : Int32 × JV × JV × (Nat → Nat → Nat) × (Nat → JV) × JV) (m : Int32 × JV), f_X4_set vT vS hA hV hZ x1 x2 = some Rz ∧ f_X5_set vM x1 x2 = some m ∧ m.1 = Rz.1 ∧ RI Rz.2.1 Rz.2.2.1 vP Rz.2.2.2.2.1 Rz.2.2.2.2.2 sV vU m.2 := by
  obtain ⟨a, ha, rfl⟩ := I_ex x1
  obtain ⟨b, hb, rfl⟩ := I_ex x2
  obtain ⟨⟨g, hg⟩, -⟩ := id h
  have q1 : f_X4_isWithin (I a) (0 : Int32) (2 : Int32) = _ := p_wi ha 0 2 (r0 0) (r0 2)
  by_cases c1 : wi 0 2 a = true
  · obtain ⟨k, rfl⟩ := I_nex (wi_iff.mp c1).1
    have hk : k < 3 := by have := wi_iff.mp c1; omega
    have hh := hi3 hk
    have q2 : f_X4_isWithin (I b) (0 : Int32) (I (hiB k)) = _ := p_wi hb 0 (hiB k) (r0 0) (r0 _)
    by_cases c2 : wi 0 (hiB k) b = true
    · obtain ⟨w, w1, w2, w3, w4, w5⟩ := hold_ex hg.2.2.2.1
      have cb := wi_iff.mp c2
      obtain ⟨R, vT', v', r1, r2, r3, r4, r5⟩ := chg2 hA h hg (vS' := up2 vS 0 k (I b)) (w := up2 w 0 k (I b)) (RS_set hg.2.1 hk b) (Bd_gu hg.1 k (by omega) cb.2) (by rw [up2_ne _ _ _ (show (1 : Nat) ≠ 0 by omega)]; exact w3) (fun a a0 a1 _ a9 => by rw [up2_ne _ _ _ a0]; exact w5 a a1 a9) (RM_gu (by rw [w2]; exact hg.2.2.2.1) k b) (Or.inl (by rw [up2_v (show (9 : Nat) ≠ 0 by omega)]; exact w4))
      refine ⟨(vS 0 k, vT', up2 vS 0 k (I b), R.1, R.2.1, R.2.2), (w 0 k, v'), ?_, ?_, ?_, r4⟩
      · unfold f_X4_set
        rw [q1]
        simp only [Option.bind_some]
        rw [ite_B1, if_pos c1, I_k (by omega), hsv_hi hk, q2]
        simp only [Option.bind_some, gd_t (inb_k hk (show 3 < 1000000 by omega))]
        rw [ite_B1, if_pos c2, r1]
        simp only [Option.bind_some]
        rw [r2]
        rfl
      · rw [m_set hk hb]
        unfold f_X5_set_K48
        rw [ite_B1, if_pos c2, w1]
        simp only [Option.bind_some, gd_t (inb_k (show k < 76 by omega) (show 76 < 1000000 by omega))]
        rw [I_k (by omega), r3]
        rfl
      · show w 0 k = vS 0 k
        rw [w2, hg.2.2.2.1 k (by omega), hg.2.1.1 k hk]
    · refine ⟨((-2 : Int32), vT, vS, hA, hV, hZ), ((-2 : Int32), vM), ?_, ?_, rfl, h⟩
      · unfold f_X4_set
        rw [q1]
        simp only [Option.bind_some]
        rw [ite_B1, if_pos c1, I_k (by omega), hsv_hi hk, q2]
        simp only [Option.bind_some, gd_t (inb_k hk (show 3 < 1000000 by omega))]
        rw [ite_B1, if_neg c2]
      · rw [m_set hk hb]
        unfold f_X5_set_K48
        rw [ite_B1, if_neg c2]
  · refine ⟨((-2 : Int32), vT, vS, hA, hV, hZ), ((-2 : Int32), vM), ?_, m_set_no ha (fun z => c1 (wi_iff.mpr z)) _, rfl, h⟩
    unfold f_X4_set
    rw [q1]
    simp only [Option.bind_some]
    rw [ite_B1, if_neg c1]
theorem nat_add' (a b : Nat) : I (a : Int) + I (b : Int) = I ((a + b : Nat) : Int) := nat_add a b
theorem ix4 (p : Nat) : (4 : Int32) + (2 : Int32) * I (p : Int) = I ((4 + 2 * p : Nat) : Int) := by
  rw [show (4 : Int32) = I ((4 : Nat) : Int) from rfl, show (2 : Int32) = I ((2 : Nat) : Int) from rfl, nat_mul, nat_add]
theorem ix5 (p : Nat) : I ((4 + 2 * p : Nat) : Int) + (1 : Int32) = I ((5 + 2 * p : Nat) : Int) := by
  rw [one_add, show 4 + 2 * p + 1 = 5 + 2 * p by omega]
theorem e_paper {vT vS vP : JV} {hV : Nat → JV} {hZ : JV} {sV : Nat → JV} {vU vM : JV} (hA : Nat → Nat → Nat) (h : RI vT vS vP hV hZ sV vU vM) (x1 x2 x3 : Int32) :
    ∃ (Rz : Int32 × JV × JV × (Nat → Nat → Nat) × (Nat → JV) × JV) (m : Int32 × JV), f_X4_paper vT vS hA hV hZ x1 x2 x3 = some Rz ∧ f_X5_paper vM x1 x2 x3 = some m ∧ m.1 = Rz.1 ∧ RI Rz.2.1 Rz.2.2.1 vP Rz.2.2.2.2.1 Rz.2.2.2.2.2 sV vU m.2 := by
  obtain ⟨a, ha, rfl⟩ := I_ex x1
  obtain ⟨b, hb, rfl⟩ := I_ex x2
  obtain ⟨c, hc, rfl⟩ := I_ex x3
  obtain ⟨⟨g, hg⟩, -⟩ := id h
  have q3 : f_X4_isWithin (I c) (30 : Int32) (180 : Int32) = _ := p_wi hc 30 180 (r0 30) (r0 180)
  have q4 : f_X5_in (I b) (0 : Int32) (19 : Int32) = _ := m_wi hb 0 19 (r0 0) (r0 19)
  have q5 : f_X5_in (I c) (30 : Int32) (180 : Int32) = _ := m_wi hc 30 180 (r0 30) (r0 180)
  unfold f_X4_paper f_X5_paper
  rw [p_isPaper ha, m_isPaper ha]
  simp only [Option.bind_some]
  rw [ite_B1, ite_B1]
  by_cases c1 : wi 0 5 a = true
  · rw [if_pos c1, if_pos c1, p_isStart hb, q4]
    simp only [Option.bind_some]
    rw [ite_B1, ite_B1]
    by_cases c2 : wi 0 19 b = true
    · rw [if_pos c2, if_pos c2, q3, q5]
      simp only [Option.bind_some]
      rw [ite_B1, ite_B1]
      by_cases c3 : wi 30 180 c = true
      · rw [if_pos c3, if_pos c3]
        obtain ⟨p, rfl⟩ := I_nex (wi_iff.mp c1).1
        have hp : p < 6 := by have := wi_iff.mp c1; omega
        have cb := wi_iff.mp c2
        have cc := wi_iff.mp c3
        obtain ⟨w, w1, w2, w3, w4, w5⟩ := hold_ex hg.2.2.2.1
        obtain ⟨R, vT', v', r1, r2, r3, r4, r5⟩ := chg2 hA h hg (vS' := up2 (up2 vS 1 p (I b)) 2 p (I c)) (w := up2 (up2 w 0 (4 + 2 * p) (I b)) 0 (5 + 2 * p) (I c)) (RS_min (RS_start hg.2.1 hp b) hp c) (Bd_gu (Bd_gu hg.1 (4 + 2 * p) (by unfold loB; (repeat' split) <;> omega) (by unfold hiB; (repeat' split) <;> omega)) (5 + 2 * p) (by unfold loB; (repeat' split) <;> omega) (by unfold hiB; (repeat' split) <;> omega)) (by rw [up2_ne _ _ _ (show (1 : Nat) ≠ 0 by omega), up2_ne _ _ _ (show (1 : Nat) ≠ 0 by omega)]; exact w3) (fun a a0 a1 _ a9 => by rw [up2_ne _ _ _ a0, up2_ne _ _ _ a0]; exact w5 a a1 a9) (RM_gu (RM_gu (by rw [w2]; exact hg.2.2.2.1) _ b) _ c) (Or.inl (by rw [up2_v (show (9 : Nat) ≠ 0 by omega), up2_v (show (9 : Nat) ≠ 0 by omega)]; exact w4))
        refine ⟨(vS 1 p, vT', up2 (up2 vS 1 p (I b)) 2 p (I c), R.1, R.2.1, R.2.2), (w 0 (4 + 2 * p), v'), ?_, ?_, ?_, r4⟩
        · simp only [gd_t (inb_k hp (show 6 < 1000000 by omega))]
          rw [r1]
          simp only [Option.bind_some]
          rw [I_k (by omega), r2]
          rfl
        · rw [w1, ix4, ix5]
          simp only [Option.bind_some, gd_t (inb_k (show 4 + 2 * p < 76 by omega) (show 76 < 1000000 by omega)), gd_t (inb_k (show 5 + 2 * p < 76 by omega) (show 76 < 1000000 by omega))]
          rw [I_k (by omega), I_k (by omega), r3]
          rfl
        · show w 0 (4 + 2 * p) = vS 1 p
          rw [w2, hg.2.2.2.1 _ (by omega), (hg.2.1.2.1 p hp).1]
      · rw [if_neg c3, if_neg c3]
        exact ⟨_, _, rfl, rfl, rfl, h⟩
    · rw [if_neg c2, if_neg c2]
      exact ⟨_, _, rfl, rfl, rfl, h⟩
  · rw [if_neg c1, if_neg c1]
    exact ⟨_, _, rfl, rfl, rfl, h⟩
theorem ix64 (b : Nat) : I ((64 + 3 * b : Nat) : Int) + (0 : Int32) = I ((64 + 3 * b : Nat) : Int) := by
  rw [show (0 : Int32) = I ((0 : Nat) : Int) from rfl, nat_add]; rfl
theorem ix65 (b : Nat) : I ((64 + 3 * b : Nat) : Int) + (1 : Int32) = I ((65 + 3 * b : Nat) : Int) := by
  rw [one_add, show 64 + 3 * b + 1 = 65 + 3 * b by omega]
theorem ix66 (b : Nat) : I ((64 + 3 * b : Nat) : Int) + (2 : Int32) = I ((66 + 3 * b : Nat) : Int) := by
  rw [show (2 : Int32) = I ((2 : Nat) : Int) from rfl, nat_add, show 64 + 3 * b + 2 = 66 + 3 * b by omega]
theorem e_hall {vT vS vP : JV} {hV : Nat → JV} {hZ : JV} {sV : Nat → JV} {vU vM : JV} (hA : Nat → Nat → Nat) (h : RI vT vS vP hV hZ sV vU vM) (x1 x2 x3 : Int32) :
    ∃ (Rz : Int32 × JV × JV × (Nat → Nat → Nat) × (Nat → JV) × JV) (m : Int32 × JV), f_X4_hall vT vS hA hV hZ x1 x2 x3 = some Rz ∧ f_X5_hall vM x1 x2 x3 = some m ∧ m.1 = Rz.1 ∧ RI Rz.2.1 Rz.2.2.1 vP Rz.2.2.2.2.1 Rz.2.2.2.2.2 sV vU m.2 := by
  obtain ⟨a, ha, rfl⟩ := I_ex x1
  obtain ⟨b, hb, rfl⟩ := I_ex x2
  obtain ⟨c, hc, rfl⟩ := I_ex x3
  obtain ⟨⟨g, hg⟩, -⟩ := id h
  have q2 : f_X4_isWithin (I b) (1 : Int32) (4 : Int32) = _ := p_wi hb 1 4 (r0 1) (r0 4)
  have q3 : f_X4_isWithin (I c) (1 : Int32) (4 : Int32) = _ := p_wi hc 1 4 (r0 1) (r0 4)
  have q4 : f_X5_in (I b) (1 : Int32) (4 : Int32) = _ := m_wi hb 1 4 (r0 1) (r0 4)
  have q5 : f_X5_in (I c) (1 : Int32) (4 : Int32) = _ := m_wi hc 1 4 (r0 1) (r0 4)
  unfold f_X4_hall f_X5_hall
  rw [p_isHall ha, m_isHall ha]
  simp only [Option.bind_some]
  rw [ite_B1, ite_B1]
  by_cases c1 : wi 0 3 a = true
  · rw [if_pos c1, if_pos c1, q2, q4]
    simp only [Option.bind_some]
    rw [ite_B1, ite_B1]
    by_cases c2 : wi 1 4 b = true
    · rw [if_pos c2, if_pos c2, q3, q5]
      simp only [Option.bind_some]
      rw [ite_B1, ite_B1]
      by_cases c3 : wi 1 4 c = true
      · rw [if_pos c3, if_pos c3]
        obtain ⟨p, rfl⟩ := I_nex (wi_iff.mp c1).1
        have hp : p < 4 := by have := wi_iff.mp c1; omega
        have cb := wi_iff.mp c2
        have cc := wi_iff.mp c3
        obtain ⟨w, w1, w2, w3, w4, w5⟩ := hold_ex hg.2.2.2.1
        have hMw : RM (w 0) g := by rw [w2]; exact hg.2.2.2.1
        obtain ⟨R, vT', v', r1, r2, r3, r4, r5⟩ := chg2 hA h hg (vS' := up2 (up2 vS 6 p (I b)) 7 p (I c)) (w := up2 (up2 w 0 (64 + 3 * p) (I b)) 0 (65 + 3 * p) (I c)) (RS_hal hg.2.1 hp b c) (Bd_gu (Bd_gu hg.1 (64 + 3 * p) (by unfold loB; (repeat' split) <;> omega) (by unfold hiB; (repeat' split) <;> omega)) (65 + 3 * p) (by unfold loB; (repeat' split) <;> omega) (by unfold hiB; (repeat' split) <;> omega)) (by rw [up2_ne _ _ _ (show (1 : Nat) ≠ 0 by omega), up2_ne _ _ _ (show (1 : Nat) ≠ 0 by omega)]; exact w3) (fun a a0 a1 _ a9 => by rw [up2_ne _ _ _ a0, up2_ne _ _ _ a0]; exact w5 a a1 a9) (RM_gu (RM_gu hMw _ b) _ c) (Or.inl (by rw [up2_v (show (9 : Nat) ≠ 0 by omega), up2_v (show (9 : Nat) ≠ 0 by omega)]; exact w4))
        refine ⟨(I ((rw_ g p * cw_ g p : Nat) : Int), vT', up2 (up2 vS 6 p (I b)) 7 p (I c), R.1, R.2.1, R.2.2), (I ((rw_ g p * cw_ g p : Nat) : Int), v'), ?_, ?_, rfl, r4⟩
        · simp only [gd_t (inb_k hp (show 4 < 1000000 by omega))]
          rw [p_desksOf hg.2.1 hg.1 hp, r1]
          simp only [Option.bind_some]
          rw [I_k (by omega), r2]
          rfl
        · rw [w1]
          simp only [Option.bind_some]
          rw [m_desks hMw hg.1 hp, p_h]
          simp only [Option.bind_some]
          rw [ix64, ix65]
          simp only [gd_t (inb_k (show 64 + 3 * p < 76 by omega) (show 76 < 1000000 by omega)), gd_t (inb_k (show 65 + 3 * p < 76 by omega) (show 76 < 1000000 by omega))]
          rw [I_k (by omega), I_k (by omega), r3]
          rfl
      · rw [if_neg c3, if_neg c3]
        exact ⟨_, _, rfl, rfl, rfl, h⟩
    · rw [if_neg c2, if_neg c2]
      exact ⟨_, _, rfl, rfl, rfl, h⟩
  · rw [if_neg c1, if_neg c1]
    exact ⟨_, _, rfl, rfl, rfl, h⟩
theorem xor_raw : ∀ a b c d : Fin 2, ∀ h : Fin 4, (I ((a.val : Int) + 2 * (b.val : Int) + 4 * (c.val : Int) + 8 * (d.val : Int)) ^^^ ((1 : Int32) <<< (I (h.val : Int) &&& 31))) = I ((if h.val = 0 then 1 - (a.val : Int) else (a.val : Int)) + 2 * (if h.val = 1 then 1 - (b.val : Int) else (b.val : Int)) + 4 * (if h.val = 2 then 1 - (c.val : Int) else (c.val : Int)) + 8 * (if h.val = 3 then 1 - (d.val : Int) else (d.val : Int))) := by decide +kernel
theorem xor_opn {g : Nat → Int} (hB : Bd g) {p : Nat} (hp : p < 4) : (I (opn g) ^^^ ((1 : Int32) <<< (I (p : Int) &&& 31))) = I (opn (gu g (66 + 3 * p) (1 - g (66 + 3 * p)))) := by
  have b0 : 0 ≤ g 66 ∧ g 66 ≤ 1 := (hB.2.2.2.2.2.2 0 (by omega)).2.2
  have b1 : 0 ≤ g 69 ∧ g 69 ≤ 1 := (hB.2.2.2.2.2.2 1 (by omega)).2.2
  have b2 : 0 ≤ g 72 ∧ g 72 ≤ 1 := (hB.2.2.2.2.2.2 2 (by omega)).2.2
  have b3 : 0 ≤ g 75 ∧ g 75 ≤ 1 := (hB.2.2.2.2.2.2 3 (by omega)).2.2
  have h := xor_raw ⟨(g 66).toNat, by omega⟩ ⟨(g 69).toNat, by omega⟩ ⟨(g 72).toNat, by omega⟩ ⟨(g 75).toNat, by omega⟩ ⟨p, hp⟩
  dsimp only at h
  rw [Int.toNat_of_nonneg b0.1, Int.toNat_of_nonneg b1.1, Int.toNat_of_nonneg b2.1, Int.toNat_of_nonneg b3.1] at h
  refine h.trans ?_
  congr 1
  match p, hp with
  | 0, _ => rfl
  | 1, _ => rfl
  | 2, _ => rfl
  | 3, _ => rfl
theorem B1_eq (a b : Bool) {α : Type} {x y : α} : (if I (B1 a) = I (B1 b) then x else y) = (if a = b then x else y) := by cases a <;> cases b <;> rfl
theorem e_open {vT vS vP : JV} {hV : Nat → JV} {hZ : JV} {sV : Nat → JV} {vU vM : JV} (hA : Nat → Nat → Nat) (h : RI vT vS vP hV hZ sV vU vM) (x1 : Int32) (o : Bool) :
    ∃ (Rz : Int32 × JV × JV × (Nat → Nat → Nat) × (Nat → JV) × JV) (m : Int32 × JV), f_X4_open vT vS hA hV hZ x1 (I (B1 o)) = some Rz ∧ f_X5_open vM x1 (I (B1 o)) = some m ∧ m.1 = Rz.1 ∧ RI Rz.2.1 Rz.2.2.1 vP Rz.2.2.2.2.1 Rz.2.2.2.2.2 sV vU m.2 := by
  obtain ⟨a, ha, rfl⟩ := I_ex x1
  obtain ⟨⟨g, hg⟩, -⟩ := id h
  unfold f_X4_open f_X5_open
  rw [p_isHall ha, m_isHall ha]
  simp only [Option.bind_some]
  rw [ite_B1, ite_B1]
  by_cases c1 : wi 0 3 a = true
  · rw [if_pos c1, if_pos c1]
    obtain ⟨p, rfl⟩ := I_nex (wi_iff.mp c1).1
    have hp : p < 4 := by have := wi_iff.mp c1; omega
    have ho := (hg.1.2.2.2.2.2.2 p hp).2.2
    have hgo : g (66 + 3 * p) = B1 (opB g p) := (opB_g hg.1 hp).symm
    rw [p_isOpen hg.2.1 hg.1 hp, p_h]
    simp only [Option.bind_some]
    rw [ix66]
    simp only [gd_t (inb_k (show 66 + 3 * p < 76 by omega) (show 76 < 1000000 by omega))]
    rw [I_k (by omega), hg.2.2.2.1 _ (by omega), hgo, ite_B1']
    have e1 : (if opB g p = true then f_X5_open_K29 vM (I (p : Int)) (I (B1 o)) 1 else f_X5_open_K29 vM (I (p : Int)) (I (B1 o)) 0) = f_X5_open_K29 vM (I (p : Int)) (I (B1 o)) (I (B1 (opB g p))) := by cases opB g p <;> rfl
    have e2 : decide (B1 (opB g p) = 1) = opB g p := by cases opB g p <;> rfl
    rw [e1, e2]
    unfold f_X5_open_K29
    rw [B1_eq, B1_eq]
    by_cases c2 : opB g p = o
    · rw [if_pos c2, if_pos c2]
      exact ⟨_, _, rfl, rfl, rfl, h⟩
    · rw [if_neg c2, if_neg c2]
      obtain ⟨w, w1, w2, w3, w4, w5⟩ := hold_ex hg.2.2.2.1
      have hMw : RM (w 0) g := by rw [w2]; exact hg.2.2.2.1
      have hx : 1 - g (66 + 3 * p) = B1 o := by rw [hgo]; cases hq : opB g p <;> cases o <;> simp [hq] at c2 <;> rfl
      have hB' : Bd (gu g (66 + 3 * p) (B1 o)) := Bd_gu hg.1 _ (by unfold loB; rw [← hx]; (repeat' split) <;> omega) (by unfold hiB; rw [← hx]; (repeat' split) <;> omega)
      have hM1 : RM (up2 w 0 (66 + 3 * p) (I (B1 o)) 0) (gu g (66 + 3 * p) (B1 o)) := RM_gu hMw _ _
      obtain ⟨u, u1, u2, u3, u4⟩ := m_without hM1 hB' (Or.inl (by rw [up2_v (show (9 : Nat) ≠ 0 by omega)]; exact w4)) false
      have hS' : RS (up2 vS 9 0 (I (opn (gu g (66 + 3 * p) (B1 o))))) (gu g (66 + 3 * p) (B1 o)) := RS_opn hg.2.1 (fun k hk => gu_ne g _ (by omega))
      obtain ⟨R, vT', v', r1, r2, r3, r4, r5⟩ := chg2 hA h hg (vS' := up2 vS 9 0 (I (opn (gu g (66 + 3 * p) (B1 o))))) (w := u) hS' hB' (by rw [u4 1 (by omega) (by omega), up2_ne _ _ _ (show (1 : Nat) ≠ 0 by omega)]; exact w3) (fun a a0 a1 a6 a9 => by rw [u4 a a6 a9, up2_ne _ _ _ a0]; exact w5 a a1 a9) (by rw [u4 0 (by omega) (by omega)]; exact hM1) (Or.inr ⟨u3, u2⟩)
      refine ⟨(vT' 4 0, vT', up2 vS 9 0 (I (opn (gu g (66 + 3 * p) (B1 o)))), R.1, R.2.1, R.2.2), (vT' 4 0, v'), ?_, ?_, rfl, r4⟩
      · rw [r1]
        simp only [Option.bind_some]
        rw [hg.2.1.2.2.2.2.2, xor_opn hg.1 hp, hx, r2]
        rfl
      · rw [w1]
        simp only [Option.bind_some]
        rw [p_h]
        simp only [Option.bind_some]
        rw [ix66]
        have e3 : (if I (B1 o) = 0 then f_X5_open_K59 w 0 (I ((66 + 3 * p : Nat) : Int)) else f_X5_open_K59 w 1 (I ((66 + 3 * p : Nat) : Int))) = f_X5_open_K59 w (I (B1 o)) (I ((66 + 3 * p : Nat) : Int)) := by cases o <;> rfl
        rw [e3]
        unfold f_X5_open_K59
        rw [gd_t (inb_k (show 66 + 3 * p < 76 by omega) (show 76 < 1000000 by omega)), I_k (by omega), show (0 : Int32) = I (B1 false) from rfl, u1]
        simp only [Option.bind_some]
        rw [r3, (TN_wo hB' r5).1]
        rfl
  · rw [if_neg c1, if_neg c1]
    exact ⟨_, _, rfl, rfl, rfl, h⟩
