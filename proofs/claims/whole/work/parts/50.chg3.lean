/-! ===== undo, save, restore ===== -/
theorem m_undoL {u : JV} {m : Nat} (hm : m < 6) (u11 : u 11 0 = I (m : Int)) : ∃ w : JV, f_X5_undo_L27 FU u (0 : Int32) = some (I (m : Int), w) ∧ (∀ k : Nat, k < 76 → w 0 k = u 3 (76 * m + k)) ∧ ∀ a : Nat, a ≠ 0 → w a = u a := by
  refine ⟨vcp u 0 0 (fun k => u 3 (76 * m + k)) 76, ?_, fun k hk => ?_, fun a ha => vcp_ne u ha 76⟩
  · unfold f_X5_undo_L27
    refine lp_run _ (fun i => (vcp u 0 0 (fun k => u 3 (76 * m + k)) i, I (i : Int))) 76 _ (fun rec i hi => ?_) (fun rec => ?_) FU (by have := FU_ge; omega)
    · show f_X5_undo_b27 (fun x y => rec (x, y)) (vcp u 0 0 (fun k => u 3 (76 * m + k)) i) (I (i : Int)) = rec (up2 (vcp u 0 0 (fun k => u 3 (76 * m + k)) i) 0 (0 + i) (u 3 (76 * m + i)), I ((i + 1 : Nat) : Int))
      unfold f_X5_undo_b27
      rw [vcp_ne _ (show (11 : Nat) ≠ 0 by omega), vcp_ne _ (show (3 : Nat) ≠ 0 by omega), u11, show (76 : Int32) = I ((76 : Nat) : Int) from rfl, k_le (by omega) (by omega), if_neg (by omega), nat_mul, nat_add, gd_t (inb_k (by omega) (by omega)), gd_t (inb_k (by omega) (by omega)), I_k (by omega), I_k (by omega), one_add, Nat.zero_add]
    · show f_X5_undo_b27 (fun x y => rec (x, y)) (vcp u 0 0 (fun k => u 3 (76 * m + k)) 76) (I ((76 : Nat) : Int)) = _
      unfold f_X5_undo_b27
      rw [show (76 : Int32) = I ((76 : Nat) : Int) from rfl, k_le (by omega) (by omega), if_pos (by omega), vcp_ne _ (show (11 : Nat) ≠ 0 by omega), u11]
  · have e := vcp_in u (b := 0) (m := 0) (f := fun k => u 3 (76 * m + k)) 76 k hk
    rw [Nat.zero_add] at e
    exact e
theorem e_undo {vT vS vP : JV} {hV : Nat → JV} {hZ : JV} {sV : Nat → JV} {vU vM : JV} (hA : Nat → Nat → Nat) (h : RI vT vS vP hV hZ sV vU vM) :
    ∃ (Rz : Int32 × JV × JV × JV) (m : Int32 × JV), f_X4_undo vT vS hA hV hZ = some Rz ∧ f_X5_undo vM = some m ∧ m.1 = Rz.1 ∧ RI Rz.2.1 Rz.2.2.1 vP hV Rz.2.2.2 sV vU m.2 := by
  obtain ⟨⟨g, hg⟩, ⟨hs, n, hc, hm, hb⟩, hL, hP⟩ := id h
  have hn6 := hc.2.1
  unfold f_X4_undo f_X5_undo
  rw [hc.1, hm.1]
  by_cases c : n = 0
  · subst c
    rw [if_pos (show I ((0 : Nat) : Int) = (0 : Int32) from rfl), if_pos (show I ((0 : Nat) : Int) = (0 : Int32) from rfl)]
    exact ⟨_, _, rfl, rfl, rfl, h⟩
  · have c0 : ¬ I (n : Int) = (0 : Int32) := I_eqn (r0 _) 0 (r0 0) (by omega)
    rw [if_neg c0, if_neg c0]
    obtain ⟨m, rfl⟩ : ∃ m : Nat, n = m + 1 := ⟨n - 1, by omega⟩
    obtain ⟨Q, q1, q2, q3⟩ := p_takeBack (vS := vS) (hA := hA) hb hc
    have hB' : Bd (hs m) := hb m (by omega)
    obtain ⟨vT', t1, t2⟩ := p_seatAll (v := vT) q2 hB'
    have em : I ((m + 1 : Nat) : Int) - (1 : Int32) = I (m : Int) := by
      rw [show (1 : Int32) = I 1 from rfl, I_sub]; congr 1; omega
    rw [em]
    generalize hu : up2 (up2 vM 9 0 (0 : Int32)) 11 0 (I (m : Int)) = u
    have u9 : u 9 0 = 0 := by rw [← hu, up2_v (show (9 : Nat) ≠ 11 by omega), up2_if, if_pos rfl]
    have u11 : u 11 0 = I (m : Int) := by rw [← hu, up2_if, if_pos rfl]
    have ua : ∀ a : Nat, a ≠ 9 → a ≠ 11 → u a = vM a := fun a a9 a11 => by rw [← hu, up2_ne _ _ _ a11, up2_ne _ _ _ a9]
    obtain ⟨w, w1, w2, w3⟩ := m_undoL (by omega) u11
    have hf : ∀ a : Nat, a ≠ 0 → a ≠ 9 → a ≠ 11 → w a = vM a := fun a a0 a9 a11 => by rw [w3 a a0, ua a a9 a11]
    have hMw : RM (w 0) (hs m) := fun k hk => by rw [w2 k hk, ua 3 (by omega) (by omega)]; exact hm.2 m (by omega) k hk
    refine ⟨(Q.2 1 0, vT', Q.1, Q.2), (I (m : Int), w), ?_, w1, q3.1.symm, ⟨hs m, hB', q2, t2, hMw, Or.inl ?_⟩, ⟨hs, m, q3, ⟨?_, fun j hj k hk => ?_⟩, fun j hj => hb j (by omega)⟩, hL.fr (hf 4 (by omega) (by omega) (by omega)) (hf 5 (by omega) (by omega) (by omega)), hP.fr (hf 8 (by omega) (by omega) (by omega)) (hf 10 (by omega) (by omega) (by omega))⟩
    · rw [q1]
      simp only [Option.bind_some]
      rw [t1]
      rfl
    · show w 9 0 = 0
      rw [w3 9 (by omega)]
      exact u9
    · show w 11 0 = I (m : Int)
      rw [w3 11 (by omega)]
      exact u11
    · show w 3 (76 * j + k) = _
      rw [hf 3 (by omega) (by omega) (by omega)]
      exact hm.2 j (by omega) k hk
theorem m_saveL {v : JV} {s : Nat} (hs : s < 2) : ∃ u : JV, f_X5_save_L14 (I (s : Int)) FU v (0 : Int32) = some (v 0 3, u) ∧ (∀ k : Nat, k < 76 → u 4 (76 * s + k) = v 0 k) ∧ (∀ j : Nat, ¬ (76 * s ≤ j ∧ j < 76 * s + 76) → u 4 j = v 4 j) ∧ (∀ j : Nat, u 5 j = if j = s then 1 else v 5 j) ∧ ∀ a : Nat, a ≠ 4 → a ≠ 5 → u a = v a := by
  refine ⟨up2 (vcp v 4 (76 * s) (v 0) 76) 5 s (1 : Int32), ?_, fun k hk => ?_, fun j hj => ?_, fun j => ?_, fun a a4 a5 => by rw [up2_ne _ _ _ a5, vcp_ne v a4]⟩
  · unfold f_X5_save_L14
    refine lp_run _ (fun i => (vcp v 4 (76 * s) (v 0) i, I (i : Int))) 76 _ (fun rec i hi => ?_) (fun rec => ?_) FU (by have := FU_ge; omega)
    · show f_X5_save_b14 (I (s : Int)) (fun x y => rec (x, y)) (vcp v 4 (76 * s) (v 0) i) (I (i : Int)) = rec (up2 (vcp v 4 (76 * s) (v 0) i) 4 (76 * s + i) (v 0 i), I ((i + 1 : Nat) : Int))
      unfold f_X5_save_b14
      rw [vcp_ne _ (show (0 : Nat) ≠ 4 by omega), show (76 : Int32) = I ((76 : Nat) : Int) from rfl, k_le (by omega) (by omega), if_neg (by omega), nat_mul, nat_add, gd_t (inb_k (by omega) (by omega)), gd_t (inb_k (by omega) (by omega)), I_k (by omega), I_k (by omega), one_add]
    · show f_X5_save_b14 (I (s : Int)) (fun x y => rec (x, y)) (vcp v 4 (76 * s) (v 0) 76) (I ((76 : Nat) : Int)) = _
      unfold f_X5_save_b14
      rw [show (76 : Int32) = I ((76 : Nat) : Int) from rfl, k_le (by omega) (by omega), if_pos (by omega), vcp_ne _ (show (0 : Nat) ≠ 4 by omega), gd_t (inb_k hs (by omega)), I_k (by omega)]
  · rw [up2_v (show (4 : Nat) ≠ 5 by omega), vcp_in v 76 k hk]
  · rw [up2_v (show (4 : Nat) ≠ 5 by omega), vcp_out v 76 (fun k' hk' => by omega)]
  · rw [up2_if, vcp_ne v (show (5 : Nat) ≠ 4 by omega)]
theorem two_if {α : Type} {s : Nat} (hs : s < 2) (A : Nat → Option α) : (if I (s : Int) = (0 : Int32) then A 0 else if I (s : Int) = (1 : Int32) then A 1 else none) = A s := by
  match s, hs with
  | 0, _ => rfl
  | 1, _ => rfl
theorem e_save {vT vS vP : JV} {hV : Nat → JV} {hZ : JV} {sV : Nat → JV} {vU vM : JV} (h : RI vT vS vP hV hZ sV vU vM) (x1 : Int32) :
    ∃ (Rz : Int32 × (Nat → JV) × JV) (m : Int32 × JV), f_X4_save vS sV vU x1 = some Rz ∧ f_X5_save vM x1 = some m ∧ m.1 = Rz.1 ∧ RI vT vS vP hV hZ Rz.2.1 Rz.2.2 m.2 := by
  obtain ⟨a, ha, rfl⟩ := I_ex x1
  obtain ⟨⟨g, hg⟩, hH, hL, hP⟩ := id h
  unfold f_X4_save f_X5_save
  rw [p_isSlot ha, show f_X5_in (I a) (0 : Int32) (1 : Int32) = _ from m_wi ha 0 1 (r0 0) (r0 1)]
  simp only [Option.bind_some]
  rw [ite_B1, ite_B1]
  by_cases c1 : wi 0 1 a = true
  · rw [if_pos c1, if_pos c1]
    have ca := wi_iff.mp c1
    obtain ⟨s, rfl⟩ := I_nex ca.1
    have hs : s < 2 := by omega
    obtain ⟨q, e1, e2⟩ := p_copyFrom (v := sV s) hg.2.1 hg.1
    obtain ⟨u, u1, u2, u3, u4, u5⟩ := m_saveL (v := vM) hs
    refine ⟨(vS 8 0, up1 sV s q, up2 vU 0 s (1 : Int32)), (vM 0 3, u), ?_, u1, ?_, ⟨g, hg.1, hg.2.1, hg.2.2.1, ?_, ?_⟩, hH.fr (u5 3 (by omega) (by omega)) (u5 11 (by omega) (by omega)), fun j hj => ?_, hP.fr (u5 8 (by omega) (by omega)) (u5 10 (by omega) (by omega))⟩
    · simp only [gd_t (inb_k hs (show 2 < 1000000 by omega))]
      rw [I_k (by omega)]
      refine (two_if hs (fun j => (f_X2_copyFrom (sV j) vS).bind (fun q5 => some ((vS 8 0), (up1 sV j q5), (up2 vU 0 s (1 : Int32)))))).trans ?_
      rw [e1]
      rfl
    · show vM 0 3 = vS 8 0
      rw [hg.2.1.2.2.2.2.1, hg.2.2.2.1 3 (by omega)]
    · show RM (u 0) g
      rw [u5 0 (by omega) (by omega)]
      exact hg.2.2.2.1
    · have h5 := hg.2.2.2.2
      show Sd u g
      unfold Sd RZ at h5 ⊢
      rw [u5 9 (by omega) (by omega), u5 6 (by omega) (by omega)]
      exact h5
    · show SLj (up1 sV s q) (up2 vU 0 s (1 : Int32)) u j
      unfold SLj
      rw [up2_if, u4 j, up1_if]
      by_cases cj : j = s
      · rw [if_pos cj, if_pos cj, if_pos cj]
        refine Or.inr ⟨rfl, rfl, g, hg.1, e2, fun k hk => ?_⟩
        rw [cj, u2 k hk]
        exact hg.2.2.2.1 k hk
      · rw [if_neg cj, if_neg cj, if_neg cj]
        have hj := hL j hj
        unfold SLj at hj
        rcases hj with hj | ⟨h1, h2, gg, h3, h4, h5⟩
        · exact Or.inl hj
        · refine Or.inr ⟨h1, h2, gg, h3, h4, fun k hk => ?_⟩
          rw [u3 _ (by omega)]
          exact h5 k hk
  · rw [if_neg c1, if_neg c1]
    exact ⟨_, _, rfl, rfl, rfl, h⟩
theorem m_restL {w : JV} {s : Nat} (hs : s < 2) : ∃ q : JV, (∀ k : Nat, k < 76 → q 0 k = w 4 (76 * s + k)) ∧ (∀ a : Nat, a ≠ 0 → q a = w a) ∧ f_X5_restore_L30 (I (s : Int)) FU w (0 : Int32) = (f_X5_recorded q (q 0 3)).bind (fun q7 => some ((q7.1), (q7.2))) := by
  refine ⟨vcp w 0 0 (fun k => w 4 (76 * s + k)) 76, fun k hk => ?_, fun a ha => vcp_ne w ha 76, ?_⟩
  · have e := vcp_in w (b := 0) (m := 0) (f := fun k => w 4 (76 * s + k)) 76 k hk
    rw [Nat.zero_add] at e
    exact e
  · unfold f_X5_restore_L30
    refine lp_run _ (fun i => (vcp w 0 0 (fun k => w 4 (76 * s + k)) i, I (i : Int))) 76 _ (fun rec i hi => ?_) (fun rec => ?_) FU (by have := FU_ge; omega)
    · show f_X5_restore_b30 (I (s : Int)) (fun x y => rec (x, y)) (vcp w 0 0 (fun k => w 4 (76 * s + k)) i) (I (i : Int)) = rec (up2 (vcp w 0 0 (fun k => w 4 (76 * s + k)) i) 0 (0 + i) (w 4 (76 * s + i)), I ((i + 1 : Nat) : Int))
      unfold f_X5_restore_b30
      rw [vcp_ne _ (show (4 : Nat) ≠ 0 by omega), show (76 : Int32) = I ((76 : Nat) : Int) from rfl, k_le (by omega) (by omega), if_neg (by omega), nat_mul, nat_add, gd_t (inb_k (by omega) (by omega)), gd_t (inb_k (by omega) (by omega)), I_k (by omega), I_k (by omega), one_add, Nat.zero_add]
    · show f_X5_restore_b30 (I (s : Int)) (fun x y => rec (x, y)) (vcp w 0 0 (fun k => w 4 (76 * s + k)) 76) (I ((76 : Nat) : Int)) = _
      unfold f_X5_restore_b30
      rw [show (76 : Int32) = I ((76 : Nat) : Int) from rfl, k_le (by omega) (by omega), if_pos (by omega)]
theorem e_restore {vT vS vP : JV} {hV : Nat → JV} {hZ : JV} {sV : Nat → JV} {vU vM : JV} (hA : Nat → Nat → Nat) (h : RI vT vS vP hV hZ sV vU vM) (x1 : Int32) :
    ∃ (Rz : Int32 × JV × JV × (Nat → Nat → Nat) × (Nat → JV) × JV) (m : Int32 × JV), f_X4_restore vT vS hA hV hZ sV vU x1 = some Rz ∧ f_X5_restore vM x1 = some m ∧ m.1 = Rz.1 ∧ RI Rz.2.1 Rz.2.2.1 vP Rz.2.2.2.2.1 Rz.2.2.2.2.2 sV vU m.2 := by
  obtain ⟨a, ha, rfl⟩ := I_ex x1
  obtain ⟨⟨g, hg⟩, hH, hL, hP⟩ := id h
  unfold f_X4_restore f_X5_restore
  rw [p_isSlot ha, show f_X5_in (I a) (0 : Int32) (1 : Int32) = _ from m_wi ha 0 1 (r0 0) (r0 1)]
  simp only [Option.bind_some]
  rw [ite_B1, ite_B1]
  by_cases c1 : wi 0 1 a = true
  · rw [if_pos c1, if_pos c1]
    have ca := wi_iff.mp c1
    obtain ⟨s, rfl⟩ := I_nex ca.1
    have hs : s < 2 := by omega
    simp only [gd_t (inb_k hs (show 2 < 1000000 by omega))]
    rw [I_k (by omega)]
    have hj := hL s hs
    unfold SLj at hj
    rcases hj with ⟨h1, h2⟩ | ⟨h1, h2, g', hB', hS', hM'⟩
    · rw [h1, h2, if_pos rfl, if_pos rfl]
      exact ⟨_, _, rfl, rfl, rfl, h⟩
    · rw [h1, h2, if_neg (show ¬ (1 : Int32) = 0 by decide), if_neg (show ¬ (1 : Int32) = 0 by decide)]
      obtain ⟨w, w1, w2, w3, w4, w5⟩ := hold_ex hg.2.2.2.1
      obtain ⟨q, e1, e2⟩ := p_copyFrom (v := vS) hS' hB'
      obtain ⟨u, u1, u2, u3⟩ := m_restL (w := w) hs
      have hMc : RM (u 0) g' := by
        intro k hk
        rw [u1 k hk, w5 4 (by omega) (by omega)]
        exact hM' k hk
      obtain ⟨R, vT', v', r1, r2, r3, r4, r5⟩ := chg2 hA h hg e2 hB' (w := u) (by rw [u2 1 (by omega)]; exact w3) (fun a a0 a1 _ a9 => by rw [u2 a a0]; exact w5 a a1 a9) hMc (Or.inl (by rw [u2 9 (by omega)]; exact w4))
      refine ⟨(q 8 0, vT', q, R.1, R.2.1, R.2.2), (q 8 0, v'), ?_, ?_, rfl, r4⟩
      · rw [r1]
        simp only [Option.bind_some]
        refine (two_if hs (fun s => (f_X2_copyFrom vS (sV s)).bind (fun q8 => (f_X3_seatAll vT q8).bind (fun q9 => some ((q8 8 0), q9, q8, (R.1), (R.2.1), (R.2.2)))))).trans ?_
        rw [e1]
        simp only [Option.bind_some]
        rw [r2]
        rfl
      · rw [w1]
        simp only [Option.bind_some]
        rw [u3, r3, hMc 3 (by omega), ← e2.2.2.2.2.1]
        rfl
  · rw [if_neg c1, if_neg c1]
    exact ⟨_, _, rfl, rfl, rfl, h⟩
