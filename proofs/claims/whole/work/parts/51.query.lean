/-! ===== queries ===== -/
theorem e_pupilOf {vT vS vP : JV} {hV : Nat → JV} {hZ : JV} {sV : Nat → JV} {vU vM : JV} (h : RI vT vS vP hV hZ sV vU vM) (x1 x2 : Int32) :
    ∃ (r : Int32) (m : Int32 × JV), f_X4_pupilOf vT vS x1 x2 = some r ∧ f_X5_pupilOf vM x1 x2 = some m ∧ m.1 = r ∧ RI vT vS vP hV hZ sV vU m.2 := by
  obtain ⟨d, hd, rfl⟩ := I_ex x1
  obtain ⟨⟨g, hg⟩, -⟩ := id h
  have hn := np_le hg.1
  have hT : TS vT g (seatOf g) (unN g 1920) (urN g 1920) := hg.2.2.1
  unfold f_X4_pupilOf f_X5_pupilOf
  rw [p_isPupil hg.2.1 hg.1 hd, m_isPupil hg.2.2.2.1 hg.1 hd]
  simp only [Option.bind_some]
  rw [ite_B1, ite_B1]
  by_cases c0 : wi 0 (g 3 - 1) d = true
  · rw [if_pos c0, if_pos c0]
    have cd := wi_iff.mp c0
    obtain ⟨i, rfl⟩ := I_nex cd.1
    have hi : i < np g := by omega
    have hi6 : i < 16 := by omega
    have hb := hg.2.1.2.2.1 i hi6
    have K : ∀ t : Nat, t < 3 → f_X5_pupilOf_K48 vM (I (i : Int)) (I (t : Int)) = some (I (g (16 + 3 * i + t)), vM) := by
      intro t ht
      unfold f_X5_pupilOf_K48
      rw [p_p]
      simp only [Option.bind_some]
      rw [nat_add, gd_t (inb_k (by omega) (by omega)), I_k (by omega), hg.2.2.2.1 _ (by omega)]
    simp only [gd_t (inb_k hi6 (show 16 < 1000000 by omega))]
    rw [I_k (by omega)]
    by_cases e0 : x2 = 0
    · rw [if_pos e0, if_pos e0, e0]
      exact ⟨_, _, rfl, K 0 (by omega), hb.1.symm, h⟩
    rw [if_neg e0, if_neg e0]
    by_cases e1 : x2 = 1
    · rw [if_pos e1, if_pos e1, e1]
      refine ⟨_, _, rfl, K 1 (by omega), ?_, h⟩
      rw [hb.2.1, show 17 + 3 * i = 16 + 3 * i + 1 by omega]
    rw [if_neg e1, if_neg e1]
    by_cases e2 : x2 = 2
    · rw [if_pos e2, if_pos e2, e2]
      have hr := (hg.1.2.2.2.2.2.1 i hi6).2.2
      refine ⟨I (g (18 + 3 * i)), _, ?_, K 2 (by omega), ?_, h⟩
      · rw [hb.2.2]
        by_cases c : g (18 + 3 * i) = 0
        · rw [c]; rfl
        · rw [show g (18 + 3 * i) = 1 by omega]; rfl
      · show I (g (16 + 3 * i + 2)) = I (g (18 + 3 * i))
        rw [show 18 + 3 * i = 16 + 3 * i + 2 by omega]
    rw [if_neg e2, if_neg e2]
    by_cases e3 : x2 = 3
    · rw [if_pos e3, if_pos e3, p_clashesOf hg.2.1 hg.1 hi6, m_clashesOf hg.2.2.2.1 hg.1 hi]
      exact ⟨_, _, rfl, rfl, rfl, h⟩
    rw [if_neg e3, if_neg e3]
    by_cases e4 : x2 = 4
    · rw [if_pos e4, if_pos e4, p_unplacedPapersOf hg.2.1 hg.1 hT (zN_bd hg.1 1920) (zN_gap g 1920) hi6 (by omega)]
      obtain ⟨w, w1, w2, w3, w4⟩ := m_unseated hg.2.2.2.1 hg.1 hg.2.2.2.2 hi6
      rw [w1]
      exact ⟨_, _, rfl, rfl, rfl, h.sd hg w2 w3 w4⟩
    rw [if_neg e4, if_neg e4]
    by_cases e5 : x2 = 5
    · rw [if_pos e5, if_pos e5, p_minutesOf hg.2.1 hg.1 hi6, m_allMinutes hg.2.2.2.1 hg.1 hi]
      exact ⟨_, _, rfl, rfl, rfl, h⟩
    rw [if_neg e5, if_neg e5]
    exact ⟨_, _, rfl, rfl, rfl, h⟩
  · rw [if_neg c0, if_neg c0]
    exact ⟨_, _, rfl, rfl, rfl, h⟩
theorem e_paperOf {vT vS vP : JV} {hV : Nat → JV} {hZ : JV} {sV : Nat → JV} {vU vM : JV} (h : RI vT vS vP hV hZ sV vU vM) (x1 x2 : Int32) :
    ∃ (r : Int32) (m : Int32 × JV), f_X4_paperOf vT vS x1 x2 = some r ∧ f_X5_paperOf vM x1 x2 = some m ∧ m.1 = r ∧ RI vT vS vP hV hZ sV vU m.2 := by
  obtain ⟨d, hd, rfl⟩ := I_ex x1
  obtain ⟨e, he, rfl⟩ := I_ex x2
  obtain ⟨⟨g, hg⟩, -⟩ := id h
  have hT : TS vT g (seatOf g) (unN g 1920) (urN g 1920) := hg.2.2.1
  unfold f_X4_paperOf f_X5_paperOf
  rw [p_isPaper hd, m_isPaper hd]
  simp only [Option.bind_some]
  rw [ite_B1, ite_B1]
  by_cases c0 : wi 0 5 d = true
  · rw [if_pos c0, if_pos c0]
    have cd := wi_iff.mp c0
    obtain ⟨p, rfl⟩ := I_nex cd.1
    have hp : p < 6 := by omega
    rw [show f_X5_in (I e) (0 : Int32) (1 : Int32) = _ from m_wi he 0 1 (r0 0) (r0 1), show f_X5_in (I e) (2 : Int32) (5 : Int32) = _ from m_wi he 2 5 (r0 2) (r0 5)]
    simp only [Option.bind_some, gd_t (inb_k hp (show 6 < 1000000 by omega))]
    rw [ite_B1, ite_B1, I_k (show p < 1000000 by omega), ix4]
    have hb := hg.2.1.2.1 p hp
    by_cases c1 : wi 0 1 e = true
    · rw [if_pos c1]
      have ce := wi_iff.mp c1
      obtain ⟨t, rfl⟩ := I_nex ce.1
      rw [nat_add, gd_t (inb_k (by omega) (by omega)), I_k (by omega), hg.2.2.2.1 _ (by omega)]
      rcases (show t = 0 ∨ t = 1 by omega) with rfl | rfl
      · rw [if_pos (show I ((0 : Nat) : Int) = (0 : Int32) from rfl)]
        exact ⟨_, _, rfl, rfl, hb.1.symm, h⟩
      · rw [if_neg (show ¬ I ((1 : Nat) : Int) = (0 : Int32) by decide), if_pos (show I ((1 : Nat) : Int) = (1 : Int32) from rfl)]
        refine ⟨_, _, rfl, rfl, ?_, h⟩
        rw [hb.2, show 5 + 2 * p = 4 + 2 * p + 1 by omega]
    · rw [if_neg c1]
      have ne : ¬ (0 ≤ e ∧ e ≤ 1) := fun z => c1 (wi_iff.mpr z)
      rw [if_neg (show ¬ I e = (0 : Int32) from I_eqn he 0 (r0 0) (by omega)), if_neg (show ¬ I e = (1 : Int32) from I_eqn he 1 (r0 1) (by omega))]
      by_cases c2 : wi 2 5 e = true
      · rw [if_pos c2]
        have ce := wi_iff.mp c2
        obtain ⟨w, w1, w2, w3, w4⟩ := m_ofSittings hg.2.2.2.1 hg.1 hg.2.2.2.2 hp (I e)
        rw [w1, p_pupilsOf hg.2.1 hg.1 hp, p_lastEndOf hg.2.1 hg.1 hp, p_unplacedOf hg.2.1 hg.1 hT (zN_bd hg.1 1920) (zN_gap g 1920) hp, p_hallsOf hg.2.1 hg.1 hT (zN_bd hg.1 1920) (zN_gap g 1920) hp]
        refine ⟨_, _, ?_, rfl, rfl, h.sd hg w2 w3 w4⟩
        obtain ⟨t, rfl⟩ := I_nex (show 0 ≤ e by omega)
        rcases (show t = 2 ∨ t = 3 ∨ t = 4 ∨ t = 5 by omega) with rfl | rfl | rfl | rfl <;> rfl
      · rw [if_neg c2]
        have ne2 : ¬ (2 ≤ e ∧ e ≤ 5) := fun z => c2 (wi_iff.mpr z)
        rw [if_neg (show ¬ I e = (2 : Int32) from I_eqn he 2 (r0 2) (by omega)), if_neg (show ¬ I e = (3 : Int32) from I_eqn he 3 (r0 3) (by omega)), if_neg (show ¬ I e = (4 : Int32) from I_eqn he 4 (r0 4) (by omega)), if_neg (show ¬ I e = (5 : Int32) from I_eqn he 5 (r0 5) (by omega))]
        exact ⟨_, _, rfl, rfl, rfl, h⟩
  · rw [if_neg c0, if_neg c0]
    exact ⟨_, _, rfl, rfl, rfl, h⟩
theorem e_sitting {vT vS vP : JV} {hV : Nat → JV} {hZ : JV} {sV : Nat → JV} {vU vM : JV} (h : RI vT vS vP hV hZ sV vU vM) (x1 x2 x3 : Int32) :
    ∃ (r : Int32) (m : Int32 × JV), f_X4_sitting vT vS x1 x2 x3 = some r ∧ f_X5_sitting vM x1 x2 x3 = some m ∧ m.1 = r ∧ RI vT vS vP hV hZ sV vU m.2 := by
  obtain ⟨d, hd, rfl⟩ := I_ex x1
  obtain ⟨e, he, rfl⟩ := I_ex x2
  obtain ⟨f, hf, rfl⟩ := I_ex x3
  obtain ⟨⟨g, hg⟩, -⟩ := id h
  have hn := np_le hg.1
  have hT : TS vT g (seatOf g) (unN g 1920) (urN g 1920) := hg.2.2.1
  unfold f_X4_sitting f_X5_sitting
  rw [p_isPupil hg.2.1 hg.1 hd, m_isPupil hg.2.2.2.1 hg.1 hd]
  simp only [Option.bind_some]
  rw [ite_B1, ite_B1]
  by_cases c0 : wi 0 (g 3 - 1) d = true
  · rw [if_pos c0, if_pos c0, p_isPaper he, m_isPaper he]
    simp only [Option.bind_some]
    rw [ite_B1, ite_B1]
    by_cases c1 : wi 0 5 e = true
    · rw [if_pos c1, if_pos c1, show f_X4_isWithin (I f) (0 : Int32) (5 : Int32) = _ from p_wi hf 0 5 (r0 0) (r0 5), show f_X5_in (I f) (0 : Int32) (5 : Int32) = _ from m_wi hf 0 5 (r0 0) (r0 5)]
      simp only [Option.bind_some]
      rw [ite_B1, ite_B1]
      by_cases c2 : wi 0 5 f = true
      · rw [if_pos c2, if_pos c2]
        have cd := wi_iff.mp c0
        obtain ⟨i, rfl⟩ := I_nex cd.1
        have hi : i < np g := by omega
        have hi6 : i < 16 := by omega
        have ce := wi_iff.mp c1
        obtain ⟨p, rfl⟩ := I_nex ce.1
        have hp : p < 6 := by omega
        have cf := wi_iff.mp c2
        obtain ⟨t, rfl⟩ := I_nex cf.1
        have ht : t < 6 := by omega
        have hk : 6 * i + p < 96 := by omega
        rw [p_sits hg.2.1 hg.1 hi6 hp, show (6 : Int32) * I (i : Int) + I (p : Int) = I ((6 * i + p : Nat) : Int) from by rw [c6, nat_mul, nat_add], m_isSitting hg.2.2.2.1 hg.1 hk, st_ip hp, decide_eq_true (show (i : Int) < g 3 by omega), Bool.true_and]
        simp only [Option.bind_some]
        rw [ite_B1, show (if I (B1 (bts g i p)) = 0 then some ((-5 : Int32), vM) else _) = _ from ite_B1]
        unfold bts
        by_cases c3 : bt (g (16 + 3 * i)) p = true
        · rw [if_pos c3, if_pos c3, p_sittingNumber]
          obtain ⟨w, w1, w2, w3, w4⟩ := m_seats hg.2.2.2.1 hg.1 hg.2.2.2.2
          have hMw : RM (w 0) g := by rw [w4 0 (by omega) (by omega)]; exact hg.2.2.2.1
          have hz := zN_bd hg.1 1920 (6 * i + p)
          have hz' : -6 ≤ seatOf g (6 * i + p) ∧ seatOf g (6 * i + p) ≤ 69 := hz
          have hgap : seatOf g (6 * i + p) = -6 ∨ 0 ≤ seatOf g (6 * i + p) := by
            rcases zN_gap g 1920 (6 * i + p) with q | q
            · exact Or.inl q
            · exact Or.inr q.1
          have hTk := hT.1 (6 * i + p) hk
          rw [w1]
          simp only [Option.bind_some, gd_t (inb_k hk (show 96 < 1000000 by omega))]
          rw [I_k (by omega), w2 _ hk, show f_X5_in (I (seatOf g (6 * i + p))) (0 : Int32) (63 : Int32) = _ from m_wi (r0 _) 0 63 (r0 0) (r0 63)]
          simp only [Option.bind_some]
          rw [hTk.1, hTk.2.1, hTk.2.2, p_beginOf hg.2.1 hp, p_endOf hg.2.1 hg.1 hi6 hp, p_clashingPapers hg.2.1 hg.1 hi6 hp, m_begins hMw hk, m_ends hMw hg.1 hk, m_clashesWith hMw hg.1 hi6 (by omega) hp, ite_B1, ite_B1, show (64 : Int32) = I 64 from rfl, ite_lt (r0 _) (r0 64), show (16 : Int32) = I 16 from rfl]
          simp only [Option.bind_some]
          have fin := h.sd hg w2 w3 w4
          generalize seatOf g (6 * i + p) = z at hz' hgap ⊢
          unfold hallOf deskOf roomOf
          rcases (show t = 0 ∨ t = 1 ∨ t = 2 ∨ t = 3 ∨ t = 4 ∨ t = 5 by omega) with rfl | rfl | rfl | rfl | rfl | rfl
          · refine ⟨_, _, rfl, rfl, ?_, fin⟩
            show I (bk g (6 * i + p)) = I (bg g p)
            unfold bk
            rw [show (6 * i + p) % 6 = p by omega]
          · refine ⟨_, _, rfl, rfl, ?_, fin⟩
            show I (ek g (6 * i + p)) = I (en g i p)
            unfold ek
            rw [show (6 * i + p) % 6 = p by omega, show (6 * i + p) / 6 = i by omega]
          · refine ⟨_, (I (if 0 ≤ z ∧ z < 64 then z / 16 else -6), w), rfl, ?_, rfl, fin⟩
            show (if wi 0 63 z = true then some (I z / I 16, w) else some ((-6 : Int32), w)) = _
            by_cases q : 0 ≤ z ∧ z < 64
            · rw [if_pos (wi_iff.mpr ⟨q.1, by omega⟩), if_pos q, I_div q.1 (by omega) (by omega) (by omega)]
            · rw [if_neg (fun y => q (by have := wi_iff.mp y; omega)), if_neg q]
              rfl
          · refine ⟨_, (I (if 0 ≤ z ∧ z < 64 then z % 16 else -6), w), rfl, ?_, rfl, fin⟩
            show (if wi 0 63 z = true then some (I z - I z / I 16 * I 16, w) else some ((-6 : Int32), w)) = _
            by_cases q : 0 ≤ z ∧ z < 64
            · rw [if_pos (wi_iff.mpr ⟨q.1, by omega⟩), if_pos q, I_div q.1 (by omega) (by omega) (by omega), I_mul, I_sub]
              congr 3
              omega
            · rw [if_neg (fun y => q (by have := wi_iff.mp y; omega)), if_neg q]
              rfl
          · refine ⟨_, (I (if 64 ≤ z then z - 64 else -6), w), rfl, ?_, rfl, fin⟩
            show (if z < 64 then some ((-6 : Int32), w) else some (I z - I 64, w)) = _
            by_cases q : 64 ≤ z
            · rw [if_neg (by omega), if_pos q, I_sub]
            · rw [if_pos (by omega), if_neg q]
              rfl
          · exact ⟨_, _, rfl, rfl, rfl, fin⟩
        · rw [if_neg c3, if_neg c3]
          exact ⟨_, _, rfl, rfl, rfl, h⟩
      · rw [if_neg c2, if_neg c2]
        exact ⟨_, _, rfl, rfl, rfl, h⟩
    · rw [if_neg c1, if_neg c1]
      exact ⟨_, _, rfl, rfl, rfl, h⟩
  · rw [if_neg c0, if_neg c0]
    exact ⟨_, _, rfl, rfl, rfl, h⟩
