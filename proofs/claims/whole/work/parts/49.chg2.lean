/-! ===== changes: pupil, change, leave ===== -/
def gp (g : Nat → Int) (i : Nat) (x y z : Int) : Nat → Int := gu (gu (gu g (16 + 3 * i) x) (17 + 3 * i) y) (18 + 3 * i) z
theorem Bd_gp {g : Nat → Int} (hB : Bd g) {i : Nat} (hi : i < 16) {x y z : Int} (hx : 0 ≤ x ∧ x ≤ 63) (hy : 0 ≤ y ∧ y ≤ 100) (hz : 0 ≤ z ∧ z ≤ 1) : Bd (gp g i x y z) := by
  unfold gp
  refine Bd_gu (Bd_gu (Bd_gu hB _ ?_ ?_) _ ?_ ?_) _ ?_ ?_
  · unfold loB; (repeat' split) <;> omega
  · unfold hiB; (repeat' split) <;> omega
  · unfold loB; (repeat' split) <;> omega
  · unfold hiB; (repeat' split) <;> omega
  · unfold loB; (repeat' split) <;> omega
  · unfold hiB; (repeat' split) <;> omega
theorem B1_bd (b : Bool) : 0 ≤ B1 b ∧ B1 b ≤ 1 := by cases b <;> decide
theorem p_writePupil (v : JV) {i : Nat} (hi : i < 16) (x y : Int32) {z : Int32} (hz : isb z = true) : f_X2_writePupil v (I (i : Int)) x y z = some (up2 (up2 (up2 v 3 i x) 4 i y) 5 i z) := by
  unfold f_X2_writePupil
  simp only [gd_t (inb_k hi (show 16 < 1000000 by omega))]
  rw [gd_t hz, I_k (by omega)]
theorem m_puts (v : JV) {i : Nat} (hi : i < 16) (x y z : Int32) : f_X5_puts v (I (i : Int)) x y z = some (up2 (up2 (up2 v 0 (16 + 3 * i) x) 0 (17 + 3 * i) y) 0 (18 + 3 * i) z) := by
  unfold f_X5_puts
  rw [p_p]
  simp only [Option.bind_some]
  rw [show (0 : Int32) = I ((0 : Nat) : Int) from rfl, show (1 : Int32) = I ((1 : Nat) : Int) from rfl, show (2 : Int32) = I ((2 : Nat) : Int) from rfl, nat_add, nat_add, nat_add, gd_t (inb_k (by omega) (by omega)), gd_t (inb_k (by omega) (by omega)), gd_t (inb_k (by omega) (by omega)), I_k (by omega), I_k (by omega), I_k (by omega)]
  rw [show 16 + 3 * i + 0 = 16 + 3 * i by omega, show 16 + 3 * i + 1 = 17 + 3 * i by omega, show 16 + 3 * i + 2 = 18 + 3 * i by omega]
theorem RM_gp {v : JV} {g : Nat → Int} (h : RM (v 0) g) (i : Nat) (x y z : Int) : RM (up2 (up2 (up2 v 0 (16 + 3 * i) (I x)) 0 (17 + 3 * i) (I y)) 0 (18 + 3 * i) (I z) 0) (gp g i x y z) := RM_gu (RM_gu (RM_gu h _ x) _ y) _ z
theorem p_isPupilData {a b : Int} (ha : rng a) (hb : rng b) : f_X4_isPupilData (I a) (I b) = some (I (B1 (wi 1 63 a && wi 0 100 b))) := by
  unfold f_X4_isPupilData
  rw [show f_X4_isWithin (I a) (1 : Int32) (63 : Int32) = _ from p_wi ha 1 63 (r0 1) (r0 63), show f_X4_isWithin (I b) (0 : Int32) (100 : Int32) = _ from p_wi hb 0 100 (r0 0) (r0 100)]
  simp only [Option.bind_some]
  rw [ite_B1, ite_B1]
  cases wi 1 63 a <;> cases wi 0 100 b <;> rfl
theorem m1_np {g : Nat → Int} (hB : Bd g) : I (g 3) - (1 : Int32) = I (g 3 - 1) := by rw [show (1 : Int32) = I 1 from rfl, I_sub]
theorem p_isPupil {v : JV} {g : Nat → Int} (hS : RS v g) (hB : Bd g) {a : Int} (ha : rng a) : f_X4_isPupil v (I a) = some (I (B1 (wi 0 (g 3 - 1) a))) := by
  have h3 := hB.2.2.2.1
  unfold f_X4_isPupil
  rw [hS.2.2.2.2.1, m1_np hB, show f_X4_isWithin (I a) (0 : Int32) (I (g 3 - 1)) = _ from p_wi ha 0 (g 3 - 1) (r0 0) (r0 _)]
  simp only [Option.bind_some]
  rw [gd_t (B1_isb _)]
theorem m_isPupil {v : JV} {g : Nat → Int} (hM : RM (v 0) g) (hB : Bd g) {a : Int} (ha : rng a) : f_X5_isPupil v (I a) = some (I (B1 (wi 0 (g 3 - 1) a))) := by
  have h3 := hB.2.2.2.1
  unfold f_X5_isPupil
  rw [hM 3 (by omega), m1_np hB, show f_X5_in (I a) (0 : Int32) (I (g 3 - 1)) = _ from m_wi ha 0 (g 3 - 1) (r0 0) (r0 _)]
  simp only [Option.bind_some]
  rw [gd_t (B1_isb _)]
theorem gp_3 (g : Nat → Int) (i : Nat) (x y z : Int) : gp g i x y z 3 = g 3 := by
  unfold gp
  rw [gu_ne _ z (by omega), gu_ne _ y (by omega), gu_ne _ x (by omega)]
theorem e_pupil {vT vS vP : JV} {hV : Nat → JV} {hZ : JV} {sV : Nat → JV} {vU vM : JV} (hA : Nat → Nat → Nat) (h : RI vT vS vP hV hZ sV vU vM) (x1 x2 : Int32) (o : Bool) :
    ∃ (Rz : Int32 × JV × JV × (Nat → Nat → Nat) × (Nat → JV) × JV) (m : Int32 × JV), f_X4_pupil vT vS hA hV hZ x1 x2 (I (B1 o)) = some Rz ∧ f_X5_pupil vM x1 x2 (I (B1 o)) = some m ∧ m.1 = Rz.1 ∧ RI Rz.2.1 Rz.2.2.1 vP Rz.2.2.2.2.1 Rz.2.2.2.2.2 sV vU m.2 := by
  obtain ⟨a, ha, rfl⟩ := I_ex x1
  obtain ⟨b, hb, rfl⟩ := I_ex x2
  obtain ⟨⟨g, hg⟩, -⟩ := id h
  have hn := np_le hg.1
  unfold f_X4_pupil f_X5_pupil
  rw [p_isPupilData ha hb, show f_X5_in (I a) (1 : Int32) (63 : Int32) = _ from m_wi ha 1 63 (r0 1) (r0 63), show f_X5_in (I b) (0 : Int32) (100 : Int32) = _ from m_wi hb 0 100 (r0 0) (r0 100)]
  simp only [Option.bind_some]
  rw [ite_B1, ite_B1, ite_B1]
  by_cases c1 : wi 1 63 a = true
  · by_cases c2 : wi 0 100 b = true
    · rw [c1, c2, if_pos rfl, if_pos rfl, show (true && true) = true from rfl, if_pos rfl, hg.2.1.2.2.2.2.1, hg.2.2.2.1 3 (by omega), ← hn.2]
      rw [show (16 : Int32) = I ((16 : Nat) : Int) from rfl, k_inj (by omega) (by omega), ite_lt (rng_of (by omega) (by omega)) (rng_of (by omega) (by omega))]
      by_cases c3 : np g = 16
      · rw [if_pos c3, if_neg (by omega)]
        exact ⟨_, _, rfl, rfl, rfl, h⟩
      · rw [if_neg c3, if_pos (by omega)]
        have hi : np g < 16 := by omega
        have ca := wi_iff.mp c1
        have cb := wi_iff.mp c2
        obtain ⟨w, w1, w2, w3, w4, w5⟩ := hold_ex hg.2.2.2.1
        have hMw : RM (w 0) g := by rw [w2]; exact hg.2.2.2.1
        have hB1 : Bd (gp g (np g) a b (B1 o)) := Bd_gp hg.1 hi ⟨by omega, ca.2⟩ cb (B1_bd o)
        have hB' : Bd (gu (gp g (np g) a b (B1 o)) 3 ((np g + 1 : Nat) : Int)) := Bd_gu hB1 3 (by show (0 : Int) ≤ _; omega) (by show _ ≤ (16 : Int); omega)
        obtain ⟨R, vT', v', r1, r2, r3, r4, r5⟩ := chg2 hA h hg (RS_num (RS_pup hg.2.1 hi a b (B1 o)) ((np g + 1 : Nat) : Int)) hB' (w := up2 (up2 (up2 (up2 w 0 (16 + 3 * np g) (I a)) 0 (17 + 3 * np g) (I b)) 0 (18 + 3 * np g) (I (B1 o))) 0 3 (I ((np g + 1 : Nat) : Int))) (by rw [up2_ne _ _ _ (show (1 : Nat) ≠ 0 by omega), up2_ne _ _ _ (show (1 : Nat) ≠ 0 by omega), up2_ne _ _ _ (show (1 : Nat) ≠ 0 by omega), up2_ne _ _ _ (show (1 : Nat) ≠ 0 by omega)]; exact w3) (fun a a0 a1 _ a9 => by rw [up2_ne _ _ _ a0, up2_ne _ _ _ a0, up2_ne _ _ _ a0, up2_ne _ _ _ a0]; exact w5 a a1 a9) (RM_gu (RM_gp hMw _ a b (B1 o)) 3 _) (Or.inl (by rw [up2_v (show (9 : Nat) ≠ 0 by omega), up2_v (show (9 : Nat) ≠ 0 by omega), up2_v (show (9 : Nat) ≠ 0 by omega), up2_v (show (9 : Nat) ≠ 0 by omega)]; exact w4))
        refine ⟨(I ((np g : Nat) : Int), vT', up2 (up2 (up2 (up2 vS 3 (np g) (I a)) 4 (np g) (I b)) 5 (np g) (I (B1 o))) 8 0 (I ((np g + 1 : Nat) : Int)), R.1, R.2.1, R.2.2), (I ((np g : Nat) : Int), v'), ?_, ?_, rfl, r4⟩
        · rw [r1]
          simp only [Option.bind_some]
          unfold f_X2_addPupil
          rw [hg.2.1.2.2.2.2.1, ← hn.2, show (16 : Int32) = I ((16 : Nat) : Int) from rfl, k_le (by omega) (by omega), if_neg (by omega), p_writePupil vS hi _ _ (B1_isb o)]
          simp only [Option.bind_some]
          rw [up2_v (show (8 : Nat) ≠ 5 by omega), up2_v (show (8 : Nat) ≠ 4 by omega), up2_v (show (8 : Nat) ≠ 3 by omega), hg.2.1.2.2.2.2.1, ← hn.2, one_add, r2]
          rfl
        · rw [w1]
          simp only [Option.bind_some]
          have e3 : (if I (B1 o) = 0 then f_X5_pupil_K63 w (w 0 3) 0 (I b) (I a) (w 0 3) else f_X5_pupil_K63 w (w 0 3) 1 (I b) (I a) (w 0 3)) = f_X5_pupil_K63 w (w 0 3) (I (B1 o)) (I b) (I a) (w 0 3) := by cases o <;> rfl
          rw [e3]
          unfold f_X5_pupil_K63
          rw [hMw 3 (by omega), ← hn.2, m_puts w hi]
          simp only [Option.bind_some]
          rw [up2_if, if_neg (by omega), up2_if, if_neg (by omega), up2_if, if_neg (by omega), hMw 3 (by omega), ← hn.2, one_add, r3]
          rfl
    · rw [c1, (Bool.not_eq_true _).mp c2, Bool.true_and, if_pos rfl, if_neg Bool.false_ne_true, if_neg Bool.false_ne_true]
      exact ⟨_, _, rfl, rfl, rfl, h⟩
  · rw [(Bool.not_eq_true _).mp c1, Bool.false_and, if_neg Bool.false_ne_true, if_neg Bool.false_ne_true]
    exact ⟨_, _, rfl, rfl, rfl, h⟩
theorem e_change {vT vS vP : JV} {hV : Nat → JV} {hZ : JV} {sV : Nat → JV} {vU vM : JV} (hA : Nat → Nat → Nat) (h : RI vT vS vP hV hZ sV vU vM) (x0 x1 x2 : Int32) (o : Bool) :
    ∃ (Rz : Int32 × JV × JV × (Nat → Nat → Nat) × (Nat → JV) × JV) (m : Int32 × JV), f_X4_change vT vS hA hV hZ x0 x1 x2 (I (B1 o)) = some Rz ∧ f_X5_change vM x0 x1 x2 (I (B1 o)) = some m ∧ m.1 = Rz.1 ∧ RI Rz.2.1 Rz.2.2.1 vP Rz.2.2.2.2.1 Rz.2.2.2.2.2 sV vU m.2 := by
  obtain ⟨d, hd, rfl⟩ := I_ex x0
  obtain ⟨a, ha, rfl⟩ := I_ex x1
  obtain ⟨b, hb, rfl⟩ := I_ex x2
  obtain ⟨⟨g, hg⟩, -⟩ := id h
  have hn := np_le hg.1
  unfold f_X4_change f_X5_change
  rw [p_isPupil hg.2.1 hg.1 hd, m_isPupil hg.2.2.2.1 hg.1 hd]
  simp only [Option.bind_some]
  rw [ite_B1, ite_B1]
  by_cases c0 : wi 0 (g 3 - 1) d = true
  · rw [if_pos c0, if_pos c0, p_isPupilData ha hb, show f_X5_in (I a) (1 : Int32) (63 : Int32) = _ from m_wi ha 1 63 (r0 1) (r0 63), show f_X5_in (I b) (0 : Int32) (100 : Int32) = _ from m_wi hb 0 100 (r0 0) (r0 100)]
    simp only [Option.bind_some]
    rw [ite_B1, ite_B1, ite_B1]
    by_cases c1 : wi 1 63 a = true
    · by_cases c2 : wi 0 100 b = true
      · rw [c1, c2, if_pos rfl, if_pos rfl, show (true && true) = true from rfl, if_pos rfl]
        have cd := wi_iff.mp c0
        obtain ⟨i, rfl⟩ := I_nex cd.1
        have hi : i < np g := by omega
        have hi6 : i < 16 := by omega
        have ca := wi_iff.mp c1
        have cb := wi_iff.mp c2
        obtain ⟨w, w1, w2, w3, w4, w5⟩ := hold_ex hg.2.2.2.1
        have hMw : RM (w 0) g := by rw [w2]; exact hg.2.2.2.1
        have hB1 : Bd (gp g i a b (B1 o)) := Bd_gp hg.1 hi6 ⟨by omega, ca.2⟩ cb (B1_bd o)
        have hS1 : RS (up2 (up2 (up2 vS 3 i (I a)) 4 i (I b)) 5 i (I (B1 o))) (gp g i a b (B1 o)) := RS_pup hg.2.1 hi6 a b (B1 o)
        have hM1 := RM_gp hMw i a b (B1 o)
        have hnp : i < np (gp g i a b (B1 o)) := by unfold np; rw [gp_3]; exact hi
        obtain ⟨R, vT', v', r1, r2, r3, r4, r5⟩ := chg2 hA h hg hS1 hB1 (w := up2 (up2 (up2 w 0 (16 + 3 * i) (I a)) 0 (17 + 3 * i) (I b)) 0 (18 + 3 * i) (I (B1 o))) (by rw [up2_ne _ _ _ (show (1 : Nat) ≠ 0 by omega), up2_ne _ _ _ (show (1 : Nat) ≠ 0 by omega), up2_ne _ _ _ (show (1 : Nat) ≠ 0 by omega)]; exact w3) (fun a a0 a1 _ a9 => by rw [up2_ne _ _ _ a0, up2_ne _ _ _ a0, up2_ne _ _ _ a0]; exact w5 a a1 a9) hM1 (Or.inl (by rw [up2_v (show (9 : Nat) ≠ 0 by omega), up2_v (show (9 : Nat) ≠ 0 by omega), up2_v (show (9 : Nat) ≠ 0 by omega)]; exact w4))
        refine ⟨(I ((cp (gp g i a b (B1 o)) i : Nat) : Int), vT', up2 (up2 (up2 vS 3 i (I a)) 4 i (I b)) 5 i (I (B1 o)), R.1, R.2.1, R.2.2), (I ((cp (gp g i a b (B1 o)) i : Nat) : Int), v'), ?_, ?_, rfl, r4⟩
        · rw [r1]
          simp only [Option.bind_some]
          rw [p_writePupil vS hi6 _ _ (B1_isb o)]
          simp only [Option.bind_some]
          rw [r2]
          simp only [Option.bind_some]
          rw [p_clashesOf hS1 hB1 hi6]
          rfl
        · rw [w1]
          simp only [Option.bind_some]
          have e3 : (if I (B1 o) = 0 then f_X5_change_K51 w (I (i : Int)) 0 (I b) (I a) (I (i : Int)) else f_X5_change_K51 w (I (i : Int)) 1 (I b) (I a) (I (i : Int))) = f_X5_change_K51 w (I (i : Int)) (I (B1 o)) (I b) (I a) (I (i : Int)) := by cases o <;> rfl
          rw [e3]
          unfold f_X5_change_K51
          rw [m_puts w hi6]
          simp only [Option.bind_some]
          rw [m_clashesOf hM1 hB1 hnp]
          simp only [Option.bind_some]
          rw [r3]
          rfl
      · rw [c1, (Bool.not_eq_true _).mp c2, Bool.true_and, if_pos rfl, if_neg Bool.false_ne_true, if_neg Bool.false_ne_true]
        exact ⟨_, _, rfl, rfl, rfl, h⟩
    · rw [(Bool.not_eq_true _).mp c1, Bool.false_and, if_neg Bool.false_ne_true, if_neg Bool.false_ne_true]
      exact ⟨_, _, rfl, rfl, rfl, h⟩
  · rw [if_neg c0, if_neg c0]
    exact ⟨_, _, rfl, rfl, rfl, h⟩
/-! a pupil leaves: those behind it move up -/
def gl (g : Nat → Int) (lo hi : Nat) : Nat → Int := fun k => if lo ≤ k ∧ k < hi then g (k + 3) else g k
theorem gl_self (g : Nat → Int) (lo : Nat) : gl g lo lo = g := by
  funext k
  unfold gl
  rw [if_neg (by omega)]
theorem gl_out (g : Nat → Int) {lo hi k : Nat} (h : ¬ (lo ≤ k ∧ k < hi)) : gl g lo hi k = g k := if_neg h
theorem Bd_gl {g : Nat → Int} (hB : Bd g) {lo hi : Nat} (hlo : 16 ≤ lo) (hhi : hi ≤ 61) : Bd (gl g lo hi) := by
  refine Bd_of (fun k hk => ?_)
  unfold gl
  by_cases c : lo ≤ k ∧ k < hi
  · rw [if_pos c]
    have h := Bd_to hB (k := k + 3) (by omega)
    have e1 : loB (k + 3) = loB k := by unfold loB; (repeat' split) <;> omega
    have e2 : hiB (k + 3) = hiB k := by unfold hiB; (repeat' split) <;> omega
    rw [e1, e2] at h
    exact h
  · rw [if_neg c]
    exact Bd_to hB hk
theorem gl_gp {g : Nat → Int} {lo j : Nat} (h : lo ≤ 16 + 3 * j) : gp (gl g lo (16 + 3 * j)) j (g (16 + 3 * (j + 1))) (g (17 + 3 * (j + 1))) (g (18 + 3 * (j + 1))) = gl g lo (16 + 3 * (j + 1)) := by
  funext k
  unfold gp gu gl
  by_cases c2 : k = 18 + 3 * j
  · rw [if_pos c2, if_pos (by omega), c2]
    congr 1
  rw [if_neg c2]
  by_cases c1 : k = 17 + 3 * j
  · rw [if_pos c1, if_pos (by omega), c1]
    congr 1
  rw [if_neg c1]
  by_cases c0 : k = 16 + 3 * j
  · rw [if_pos c0, if_pos (by omega), c0]
    congr 1
  rw [if_neg c0]
  by_cases d : lo ≤ k ∧ k < 16 + 3 * j
  · rw [if_pos d, if_pos (by omega)]
  · rw [if_neg d, if_neg (by omega)]
theorem p_removePupil {v : JV} {g : Nat → Int} (hS : RS v g) (hB : Bd g) {i : Nat} (hi : i < np g) : ∃ v' : JV, f_X2_removePupil v (I (i : Int)) = some v' ∧ RS v' (gu (gl g (16 + 3 * i) (16 + 3 * (np g - 1))) 3 ((np g - 1 : Nat) : Int)) := by
  have hn := np_le hB
  have e8 : ∀ (u : JV) (j : Nat), RS u (gl g (16 + 3 * i) j) → u 8 0 - (1 : Int32) = I ((np g - 1 : Nat) : Int) := by
    intro u j hu
    rw [hu.2.2.2.2.1, gl_out g (by omega), show (1 : Int32) = I 1 from rfl, I_sub, ← hn.2]
    congr 1
    omega
  unfold f_X2_removePupil f_X2_removePupil_L2
  refine Exists.elim (lp_inv (P := Unit) (fun _ (rec : JV × Int32 → Option (JV)) a => f_X2_removePupil_b2 (fun x y => rec (x, y)) a.1 a.2) (fun d a => a.2 = I ((i + d : Nat) : Int) ∧ RS a.1 (gl g (16 + 3 * i) (16 + 3 * (i + d)))) (np g - 1 - i) (fun _ a => some (up2 a.1 8 0 (I ((np g - 1 : Nat) : Int)))) (fun d a hd ha => ?_) (fun a _ rec ha => ?_) FU (by have := FU_ge; omega) (v, I (i : Int)) ⟨rfl, by rw [Nat.add_zero, gl_self]; exact hS⟩) (fun a1 h1 => ?_)
  · obtain ⟨u, x⟩ := a
    obtain ⟨hx, hu⟩ := ha
    dsimp only at hx hu
    subst hx
    have hj : i + d + 1 < 16 := by omega
    have hr := (hB.2.2.2.2.2.1 (i + d + 1) hj).2.2
    have q := hu.2.2.1 (i + d + 1) hj
    rw [gl_out g (by omega), gl_out g (by omega), gl_out g (by omega)] at q
    refine ⟨(up2 (up2 (up2 u 3 (i + d) (I (g (16 + 3 * (i + d + 1))))) 4 (i + d) (I (g (17 + 3 * (i + d + 1))))) 5 (i + d) (I (g (18 + 3 * (i + d + 1)))), I ((i + d + 1 : Nat) : Int)), ⟨rfl, ?_⟩, fun _ rec => ?_⟩
    · have := RS_pup hu (show i + d < 16 by omega) (g (16 + 3 * (i + d + 1))) (g (17 + 3 * (i + d + 1))) (g (18 + 3 * (i + d + 1)))
      have e := gl_gp (g := g) (lo := 16 + 3 * i) (j := i + d) (by omega)
      unfold gp at e
      rw [e] at this
      exact this
    · show f_X2_removePupil_b2 (fun x y => rec (x, y)) u (I ((i + d : Nat) : Int)) = _
      unfold f_X2_removePupil_b2
      rw [e8 u _ hu, k_le (by omega) (by omega), if_neg (by omega), one_add]
      simp only [gd_t (inb_k hj (show 16 < 1000000 by omega))]
      rw [I_k (by omega), q.1, q.2.1, q.2.2, p_writePupil u (show i + d < 16 by omega) _ _ (isb_01 hr.1 hr.2)]
      rfl
  · obtain ⟨u, x⟩ := a
    obtain ⟨hx, hu⟩ := ha
    dsimp only at hx hu ⊢
    subst hx
    unfold f_X2_removePupil_b2
    rw [e8 u _ hu, k_le (by omega) (by omega), if_pos (by omega)]
  · obtain ⟨⟨-, h2⟩, h3⟩ := h1
    refine ⟨_, h3 (), ?_⟩
    rw [show i + (np g - 1 - i) = np g - 1 by omega] at h2
    exact RS_num h2 _
def vgl (v : JV) (lo : Nat) : Nat → JV
  | 0 => v
  | d + 1 => up2 (vgl v lo d) 0 (lo + d) (vgl v lo d 0 (lo + d + 3))
theorem vgl_ne (v : JV) (lo : Nat) {a : Nat} (h : a ≠ 0) : ∀ d : Nat, vgl v lo d a = v a
  | 0 => rfl
  | d + 1 => by
    show up2 (vgl v lo d) 0 (lo + d) _ a = _
    rw [up2_ne _ _ _ h]
    exact vgl_ne v lo h d
theorem vgl_RM {v : JV} {g : Nat → Int} (hM : RM (v 0) g) (lo : Nat) : ∀ d : Nat, lo + d < 74 → RM (vgl v lo d 0) (gl g lo (lo + d))
  | 0, _ => by rw [Nat.add_zero, gl_self]; exact hM
  | d + 1, h => by
    have ih := vgl_RM hM lo d (by omega)
    intro j hj
    show up2 (vgl v lo d) 0 (lo + d) (vgl v lo d 0 (lo + d + 3)) 0 j = _
    rw [up2_if]
    by_cases c : j = lo + d
    · rw [if_pos c, ih (lo + d + 3) (by omega), gl_out g (by omega), c]
      unfold gl
      rw [if_pos (by omega)]
    · rw [if_neg c, ih j hj]
      unfold gl
      by_cases e : lo ≤ j ∧ j < lo + d
      · rw [if_pos e, if_pos (by omega)]
      · rw [if_neg e, if_neg (by omega)]
theorem e_leave {vT vS vP : JV} {hV : Nat → JV} {hZ : JV} {sV : Nat → JV} {vU vM : JV} (hA : Nat → Nat → Nat) (h : RI vT vS vP hV hZ sV vU vM) (x1 : Int32) :
    ∃ (Rz : Int32 × JV × JV × (Nat → Nat → Nat) × (Nat → JV) × JV) (m : Int32 × JV), f_X4_leave vT vS hA hV hZ x1 = some Rz ∧ f_X5_leave vM x1 = some m ∧ m.1 = Rz.1 ∧ RI Rz.2.1 Rz.2.2.1 vP Rz.2.2.2.2.1 Rz.2.2.2.2.2 sV vU m.2 := by
  obtain ⟨d, hd, rfl⟩ := I_ex x1
  obtain ⟨⟨g, hg⟩, -⟩ := id h
  have hn := np_le hg.1
  unfold f_X4_leave f_X5_leave
  rw [p_isPupil hg.2.1 hg.1 hd, m_isPupil hg.2.2.2.1 hg.1 hd]
  simp only [Option.bind_some]
  rw [ite_B1, ite_B1]
  by_cases c0 : wi 0 (g 3 - 1) d = true
  · rw [if_pos c0, if_pos c0]
    have cd := wi_iff.mp c0
    obtain ⟨i, rfl⟩ := I_nex cd.1
    have hi : i < np g := by omega
    have hi6 : i < 16 := by omega
    obtain ⟨w, w1, w2, w3, w4, w5⟩ := hold_ex hg.2.2.2.1
    have hMw : RM (w 0) g := by rw [w2]; exact hg.2.2.2.1
    obtain ⟨vS', s1, s2⟩ := p_removePupil hg.2.1 hg.1 hi
    have hB1 : Bd (gl g (16 + 3 * i) (16 + 3 * (np g - 1))) := Bd_gl hg.1 (by omega) (by omega)
    have hB' : Bd (gu (gl g (16 + 3 * i) (16 + 3 * (np g - 1))) 3 ((np g - 1 : Nat) : Int)) := Bd_gu hB1 3 (by show (0 : Int) ≤ _; omega) (by show _ ≤ (16 : Int); omega)
    have eN : 16 + 3 * i + 3 * (np g - 1 - i) = 16 + 3 * (np g - 1) := by omega
    have hMe := vgl_RM hMw (16 + 3 * i) (3 * (np g - 1 - i)) (by omega)
    rw [eN] at hMe
    obtain ⟨R, vT', v', r1, r2, r3, r4, r5⟩ := chg2 hA h hg s2 hB' (w := up2 (vgl w (16 + 3 * i) (3 * (np g - 1 - i))) 0 3 (I ((np g - 1 : Nat) : Int))) (by rw [up2_ne _ _ _ (show (1 : Nat) ≠ 0 by omega), vgl_ne w _ (by omega)]; exact w3) (fun a a0 a1 _ a9 => by rw [up2_ne _ _ _ a0, vgl_ne w _ a0]; exact w5 a a1 a9) (RM_gu hMe 3 _) (Or.inl (by rw [up2_v (show (9 : Nat) ≠ 0 by omega), vgl_ne w _ (by omega)]; exact w4))
    refine ⟨(vS 3 i, vT', vS', R.1, R.2.1, R.2.2), (w 0 (16 + 3 * i), v'), ?_, ?_, ?_, r4⟩
    · rw [gd_t (inb_k hi6 (by omega)), r1]
      simp only [Option.bind_some]
      rw [s1]
      simp only [Option.bind_some]
      rw [r2, I_k (by omega)]
      rfl
    · rw [w1]
      simp only [Option.bind_some]
      rw [p_p]
      simp only [Option.bind_some]
      rw [show (0 : Int32) = I ((0 : Nat) : Int) from rfl, nat_add, Nat.add_zero, gd_t (inb_k (by omega) (by omega)), I_k (by omega)]
      unfold f_X5_leave_L31
      have e3 : ∀ t : Nat, t ≤ 3 * (np g - 1 - i) → vgl w (16 + 3 * i) t 0 3 - (1 : Int32) = I ((np g - 1 : Nat) : Int) := by
        intro t ht
        rw [vgl_RM hMw (16 + 3 * i) t (by omega) 3 (by omega), gl_out g (by omega), show (1 : Int32) = I 1 from rfl, I_sub, ← hn.2]
        congr 1
        omega
      refine lp_run _ (fun t => (vgl w (16 + 3 * i) t, I ((16 + 3 * i + t : Nat) : Int))) (3 * (np g - 1 - i)) _ (fun rec t ht => ?_) (fun rec => ?_) FU (by have := FU_ge; omega)
      · show f_X5_leave_b31 (w 0 (16 + 3 * i)) (fun x y => rec (x, y)) (vgl w (16 + 3 * i) t) (I ((16 + 3 * i + t : Nat) : Int)) = rec (up2 (vgl w (16 + 3 * i) t) 0 (16 + 3 * i + t) (vgl w (16 + 3 * i) t 0 (16 + 3 * i + t + 3)), I ((16 + 3 * i + t + 1 : Nat) : Int))
        unfold f_X5_leave_b31
        rw [e3 t (by omega), p_p]
        simp only [Option.bind_some]
        rw [k_le (by omega) (by omega), if_neg (by omega), show (3 : Int32) = I ((3 : Nat) : Int) from rfl, nat_add, gd_t (inb_k (by omega) (by omega)), gd_t (inb_k (by omega) (by omega)), I_k (by omega), I_k (by omega), one_add]
      · show f_X5_leave_b31 (w 0 (16 + 3 * i)) (fun x y => rec (x, y)) (vgl w (16 + 3 * i) (3 * (np g - 1 - i))) (I ((16 + 3 * i + 3 * (np g - 1 - i) : Nat) : Int)) = _
        unfold f_X5_leave_b31
        rw [e3 _ (by omega), p_p]
        simp only [Option.bind_some]
        rw [k_le (by omega) (by omega), if_pos (by omega), r3]
        rfl
    · show w 0 (16 + 3 * i) = vS 3 i
      rw [hMw _ (by omega), (hg.2.1.2.2.1 i hi6).1]
  · rw [if_neg c0, if_neg c0]
    exact ⟨_, _, rfl, rfl, rfl, h⟩
