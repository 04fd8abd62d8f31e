/-! ===== queries: hallOf, count, at ===== -/
theorem e_hallOf {vT vS vP : JV} {hV : Nat → JV} {hZ : JV} {sV : Nat → JV} {vU vM : JV} (h : RI vT vS vP hV hZ sV vU vM) (x1 x2 : Int32) :
    ∃ (r : Int32) (m : Int32 × JV), f_X4_hallOf vT vS x1 x2 = some r ∧ f_X5_hallOf vM x1 x2 = some m ∧ m.1 = r ∧ RI vT vS vP hV hZ sV vU m.2 := by
  obtain ⟨d, hd, rfl⟩ := I_ex x1
  obtain ⟨⟨g, hg⟩, -⟩ := id h
  have hT : TS vT g (seatOf g) (unN g 1920) (urN g 1920) := hg.2.2.1
  unfold f_X4_hallOf f_X5_hallOf
  rw [p_isHall hd, m_isHall hd]
  simp only [Option.bind_some]
  rw [ite_B1, ite_B1]
  by_cases c0 : wi 0 3 d = true
  · rw [if_pos c0, if_pos c0]
    have cd := wi_iff.mp c0
    obtain ⟨a, rfl⟩ := I_nex cd.1
    have hh : a < 4 := by omega
    have hb := hg.2.1.2.2.2.1 a hh
    have K : ∀ t : Nat, t < 3 → f_X5_hallOf_K44 vM (I (a : Int)) (I (t : Int)) = some (I (g (64 + 3 * a + t)), vM) := by
      intro t ht
      unfold f_X5_hallOf_K44
      rw [p_h]
      simp only [Option.bind_some]
      rw [nat_add, gd_t (inb_k (by omega) (by omega)), I_k (by omega), hg.2.2.2.1 _ (by omega)]
    simp only [gd_t (inb_k hh (show 4 < 1000000 by omega))]
    rw [I_k (by omega)]
    by_cases e0 : x2 = 0
    · rw [if_pos e0, if_pos e0, e0]
      exact ⟨_, _, rfl, K 0 (by omega), hb.1.symm, h⟩
    rw [if_neg e0, if_neg e0]
    by_cases e1 : x2 = 1
    · rw [if_pos e1, if_pos e1, e1]
      refine ⟨_, _, rfl, K 1 (by omega), ?_, h⟩
      rw [hb.2, show 65 + 3 * a = 64 + 3 * a + 1 by omega]
    rw [if_neg e1, if_neg e1]
    by_cases e2 : x2 = 2
    · rw [if_pos e2, if_pos e2, e2, p_isOpen hg.2.1 hg.1 hh]
      refine ⟨I (B1 (opB g a)), _, ?_, K 2 (by omega), ?_, h⟩
      · show (if I (B1 (opB g a)) = 0 then some (0 : Int32) else some (1 : Int32)) = _
        cases opB g a <;> rfl
      · show I (g (64 + 3 * a + 2)) = _
        rw [opB_g hg.1 hh, show 66 + 3 * a = 64 + 3 * a + 2 by omega]
    rw [if_neg e2, if_neg e2]
    by_cases e3 : x2 = 3
    · rw [if_pos e3, if_pos e3, p_seatedIn hT (zN_bd hg.1 1920) hh]
      obtain ⟨w, w1, w2, w3, w4⟩ := m_seatedIn hg.2.2.2.1 hg.1 hg.2.2.2.2 hh
      rw [w1]
      exact ⟨_, _, rfl, rfl, rfl, h.sd hg w2 w3 w4⟩
    rw [if_neg e3, if_neg e3]
    by_cases e4 : x2 = 4
    · rw [if_pos e4, if_pos e4, p_mostTakenIn hg.2.1 hg.1 hT (zN_bd hg.1 1920) (zN_gap g 1920) hh]
      obtain ⟨w, w1, w2, w3, w4⟩ := m_mostIn hg.2.2.2.1 hg.1 hg.2.2.2.2 hh
      rw [w1]
      exact ⟨_, _, rfl, rfl, rfl, h.sd hg w2 w3 w4⟩
    rw [if_neg e4, if_neg e4]
    exact ⟨_, _, rfl, rfl, rfl, h⟩
  · rw [if_neg c0, if_neg c0]
    exact ⟨_, _, rfl, rfl, rfl, h⟩
theorem e_count {vT vS vP : JV} {hV : Nat → JV} {hZ : JV} {sV : Nat → JV} {vU vM : JV} (hA : Nat → Nat → Nat) (h : RI vT vS vP hV hZ sV vU vM) (x1 : Int32) :
    ∃ (r : Int32) (m : Int32 × JV), f_X4_count vT vS vP hA hV hZ x1 = some r ∧ f_X5_count vM x1 = some m ∧ m.1 = r ∧ RI vT vS vP hV hZ sV vU m.2 := by
  obtain ⟨⟨g, hg⟩, ⟨hs, n, hc, hm, hb⟩, hL, ⟨L, cc, hP⟩⟩ := id h
  have hT : TS vT g (seatOf g) (unN g 1920) (urN g 1920) := hg.2.2.1
  unfold f_X4_count f_X5_count
  by_cases e0 : x1 = 0
  · rw [if_pos e0, if_pos e0, e0, show (0 : Int32) = I ((0 : Nat) : Int) from rfl, gd_t (inb_k (by omega) (by omega)), gd_t (inb_k (by omega) (by omega)), I_k (by omega), hg.2.2.2.1 0 (by omega), hg.2.1.1 0 (by omega)]
    exact ⟨_, _, rfl, rfl, rfl, h⟩
  rw [if_neg e0, if_neg e0]
  by_cases e1 : x1 = 1
  · rw [if_pos e1, if_pos e1, e1, show (1 : Int32) = I ((1 : Nat) : Int) from rfl, gd_t (inb_k (by omega) (by omega)), gd_t (inb_k (by omega) (by omega)), I_k (by omega), hg.2.2.2.1 1 (by omega), hg.2.1.1 1 (by omega)]
    exact ⟨_, _, rfl, rfl, rfl, h⟩
  rw [if_neg e1, if_neg e1]
  by_cases e2 : x1 = 2
  · rw [if_pos e2, if_pos e2, e2, show (2 : Int32) = I ((2 : Nat) : Int) from rfl, gd_t (inb_k (by omega) (by omega)), gd_t (inb_k (by omega) (by omega)), I_k (by omega), hg.2.2.2.1 2 (by omega), hg.2.1.1 2 (by omega)]
    exact ⟨_, _, rfl, rfl, rfl, h⟩
  rw [if_neg e2, if_neg e2]
  by_cases e3 : x1 = 3
  · rw [if_pos e3, if_pos e3, e3, show (3 : Int32) = I ((3 : Nat) : Int) from rfl, gd_t (inb_k (by omega) (by omega)), I_k (by omega), hg.2.2.2.1 3 (by omega), hg.2.1.2.2.2.2.1]
    exact ⟨_, _, rfl, rfl, rfl, h⟩
  rw [if_neg e3, if_neg e3]
  by_cases e4 : x1 = 4
  · rw [if_pos e4, if_pos e4, p_sittings hg.2.1 hg.1, m_sittings hg.2.2.2.1 hg.1]
    exact ⟨_, _, rfl, rfl, rfl, h⟩
  rw [if_neg e4, if_neg e4]
  by_cases e5 : x1 = 5
  · rw [if_pos e5, if_pos e5, (TN_wo hg.1 hg.2.2.1).1]
    obtain ⟨w, w1, w2, w3, w4⟩ := m_without hg.2.2.2.1 hg.1 hg.2.2.2.2 false
    rw [show (0 : Int32) = I (B1 false) from rfl, w1]
    exact ⟨_, _, rfl, rfl, rfl, h.sd hg w2 w3 w4⟩
  rw [if_neg e5, if_neg e5]
  by_cases e6 : x1 = 6
  · rw [if_pos e6, if_pos e6, p_clashes hg.2.1 hg.1, m_clashes hg.2.2.2.1 hg.1]
    exact ⟨_, _, rfl, rfl, rfl, h⟩
  rw [if_neg e6, if_neg e6]
  by_cases e7 : x1 = 7
  · rw [if_pos e7, if_pos e7, hg.2.1.2.2.2.2.2, m_openHalls hg.2.2.2.1 hg.1]
    exact ⟨_, _, rfl, rfl, rfl, h⟩
  rw [if_neg e7, if_neg e7]
  by_cases e8 : x1 = 8
  · rw [if_pos e8, if_pos e8, p_openDesks hg.2.1 hg.1, m_openHalls hg.2.2.2.1 hg.1]
    simp only [Option.bind_some]
    rw [m_desksOpen hg.2.2.2.1 hg.1]
    exact ⟨_, _, rfl, rfl, rfl, h⟩
  rw [if_neg e8, if_neg e8]
  by_cases e9 : x1 = 9
  · rw [if_pos e9, if_pos e9, p_mostReaders hg.2.1 hg.1]
    obtain ⟨w, w1, w2, w3, w4⟩ := m_mostReaders hg.2.2.2.1 hg.1 hg.2.2.2.2
    rw [w1]
    exact ⟨_, _, rfl, rfl, rfl, h.sd hg w2 w3 w4⟩
  rw [if_neg e9, if_neg e9]
  by_cases e10 : x1 = 10
  · rw [if_pos e10, if_pos e10, p_lastEnd hg.2.1 hg.1, m_lastEnd hg.2.2.2.1 hg.1]
    exact ⟨_, _, rfl, rfl, rfl, h⟩
  rw [if_neg e10, if_neg e10]
  by_cases e11 : x1 = 11
  · rw [if_pos e11, if_pos e11, hP.2.1, hP.2.2.1]
    exact ⟨_, _, rfl, rfl, rfl, h⟩
  rw [if_neg e11, if_neg e11]
  by_cases e12 : x1 = 12
  · rw [if_pos e12, if_pos e12, hc.1, hm.1]
    exact ⟨_, _, rfl, rfl, rfl, h⟩
  rw [if_neg e12, if_neg e12]
  exact ⟨_, _, rfl, rfl, rfl, h⟩
theorem e_at {vT vS vP : JV} {hV : Nat → JV} {hZ : JV} {sV : Nat → JV} {vU vM : JV} (h : RI vT vS vP hV hZ sV vU vM) (x1 x2 x3 : Int32) :
    ∃ (r : Int32) (m : Int32 × JV), f_X4_at vT vS x1 x2 x3 = some r ∧ f_X5_at vM x1 x2 x3 = some m ∧ m.1 = r ∧ RI vT vS vP hV hZ sV vU m.2 := by
  obtain ⟨a, ha, rfl⟩ := I_ex x1
  obtain ⟨b, hb, rfl⟩ := I_ex x2
  obtain ⟨t, ht, rfl⟩ := I_ex x3
  obtain ⟨⟨g, hg⟩, -⟩ := id h
  have hT : TS vT g (seatOf g) (unN g 1920) (urN g 1920) := hg.2.2.1
  unfold f_X4_at f_X5_at
  rw [p_isHall ha, m_isHall ha]
  simp only [Option.bind_some]
  rw [ite_B1, ite_B1]
  by_cases c0 : wi 0 3 a = true
  · rw [if_pos c0, if_pos c0]
    have ca := wi_iff.mp c0
    obtain ⟨k, rfl⟩ := I_nex ca.1
    have hk : k < 4 := by omega
    have hrc := rc_mul hg.1 hk
    rw [p_desksOf hg.2.1 hg.1 hk, m_desks hg.2.2.2.1 hg.1 hk]
    simp only [Option.bind_some]
    have e1 : I ((rw_ g k * cw_ g k : Nat) : Int) - (1 : Int32) = I (((rw_ g k * cw_ g k : Nat) : Int) - 1) := by rw [show (1 : Int32) = I 1 from rfl, I_sub]
    generalize rw_ g k * cw_ g k = q at hrc e1 ⊢
    rw [e1, show f_X4_isWithin (I b) (0 : Int32) (I ((q : Nat) - 1 : Int)) = _ from p_wi hb 0 ((q : Int) - 1) (r0 0) (r0 _), show f_X5_in (I b) (0 : Int32) (I ((q : Nat) - 1 : Int)) = _ from m_wi hb 0 ((q : Int) - 1) (r0 0) (r0 _)]
    simp only [Option.bind_some]
    rw [ite_B1, ite_B1]
    by_cases c1 : wi 0 ((q : Int) - 1) b = true
    · rw [if_pos c1, if_pos c1]
      have cb := wi_iff.mp c1
      obtain ⟨d, rfl⟩ := I_nex cb.1
      have hd : d < 16 := by omega
      rw [show (0 : Int32) = I 0 from rfl, ite_le (r0 0) ht, ite_le (r0 0) ht]
      by_cases c2 : 0 ≤ t
      · rw [if_pos c2, if_pos c2, p_sittingAt hg.2.1 hg.1 hT (zN_bd hg.1 1920) hk hd ht]
        obtain ⟨w, w1, w2, w3, w4⟩ := m_seats hg.2.2.2.1 hg.1 hg.2.2.2.2
        have hMw : RM (w 0) g := by rw [w4 0 (by omega) (by omega)]; exact hg.2.2.2.1
        rw [w1]
        simp only [Option.bind_some]
        rw [show f_X5_at_L42 (I (k : Int)) (I (d : Int)) (I t) FU w (-6 : Int32) (I 0) = _ from at_loop hMw hg.1 w2 (zN_bd hg.1 1920) hk hd ht, at_ref hg.1 (by omega)]
        exact ⟨_, _, rfl, rfl, rfl, h.sd hg w2 w3 w4⟩
      · rw [if_neg c2, if_neg c2]
        exact ⟨_, _, rfl, rfl, rfl, h⟩
    · rw [if_neg c1, if_neg c1]
      exact ⟨_, _, rfl, rfl, rfl, h⟩
  · rw [if_neg c0, if_neg c0]
    exact ⟨_, _, rfl, rfl, rfl, h⟩
