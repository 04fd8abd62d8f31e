/-! ===== the law, whole ===== -/
/-- the first school -/
def g00 : Nat → Int := fun k => if k = 0 then 1 else if k = 1 then 1 else if k = 2 then 10 else if k < 4 then 0 else if k < 16 then (if k % 2 = 0 then 0 else 60) else if k < 64 then 0 else if k = 66 then 1 else if 76 ≤ k then 0 else if (k - 64) % 3 = 2 then 0 else 2
theorem RS_00 : RS vi_X2 g00 := by
  refine ⟨?_, ?_, ?_, ?_, ?_, ?_⟩
  · decide +kernel
  · decide +kernel
  · decide +kernel
  · decide +kernel
  · decide +kernel
  · decide +kernel
theorem Bd_00 : Bd g00 := by
  refine Bd_of ?_
  decide +kernel
theorem Z76_00 : Z76 g00 := by
  intro k hk
  unfold g00
  rw [if_neg (by omega), if_neg (by omega), if_neg (by omega), if_neg (by omega), if_neg (by omega), if_neg (by omega), if_neg (by omega), if_pos (by omega)]
theorem CI_00 : ∃ vT0 : JV, f_X3_seatAll vi_X3 vi_X2 = some vT0 ∧ CI g00 0 vT0 vi_X2 (fun _ => vi_X2) (fun _ _ => 0) := by
  obtain ⟨vT0, t1, t2⟩ := p_seatAll (v := vi_X3) RS_00 Bd_00
  exact ⟨vT0, t1, Bd_00, RS_00, t2, fun _ => g00, ⟨rfl, by omega, fun j hj => absurd hj (by omega)⟩, fun j hj => absurd hj (by omega)⟩
/-! no pupils: nothing is lost -/
theorem st_no {g : Nat → Int} (h3 : g 3 = 0) (k : Nat) : st g k = false := by
  unfold st
  rw [h3, decide_eq_false (by omega), Bool.false_and]
theorem wo_no {g : Nat → Int} (h3 : g 3 = 0) (R : Nat → Bool) : wo g R = 0 := by
  unfold wo
  have e : sm (fun k => b1 (st g k && (R k && (seatOf g k == -6)))) 96 = sm (fun _ => 0) 96 := sm_congr (fun k hk => by
    rw [st_no h3, Bool.false_and]
    rfl)
  rw [e, sm_zero]
theorem last_no {g : Nat → Int} (h3 : g 3 = 0) : lastE g = 0 := by
  obtain ⟨-, -, l3⟩ := li_spec (st g) (ek g) 0 96
  unfold lastE
  rcases l3 with e | ⟨k, hk, hs, e⟩
  · exact e
  · rw [st_no h3] at hs
    cases hs
theorem np_no {g : Nat → Int} (h3 : g 3 = 0) : np g = 0 := by
  unfold np
  rw [h3]
  rfl
theorem bsf_no {c u : Nat → Nat} (hc : c 0 = 0) (hu : u 0 = 0) : ∀ n : Nat, bsf c u (n + 1) = (0, 0, 0)
  | 0 => by
    show (if c 0 < 1000 ∨ (c 0 = 1000 ∧ u 0 < 1000) then (0, c 0, u 0) else (0, 1000, 1000)) = _
    rw [hc, hu, if_pos (Or.inl (by omega))]
  | n + 1 => by
    have e : bsf c u (n + 2) = if c (n + 1) < (bsf c u (n + 1)).2.1 ∨ (c (n + 1) = (bsf c u (n + 1)).2.1 ∧ u (n + 1) < (bsf c u (n + 1)).2.2) then (n + 1, c (n + 1), u (n + 1)) else bsf c u (n + 1) := rfl
    rw [e, bsf_no hc hu n, if_neg (by
      show ¬ (c (n + 1) < 0 ∨ (c (n + 1) = 0 ∧ u (n + 1) < 0))
      omega)]
theorem odk_0 (g : Nat → Int) : odk (gO g 0) = 0 := by
  unfold odk
  have e : sm (nd (gO g 0)) 4 = sm (fun _ => 0) 4 := sm_congr (fun h hh => by
    unfold nd
    rw [gO_at]
    have : bt ((0 : Nat) : Int) h = false := by
      unfold bt
      simp
    rw [this]
    rfl)
  rw [e, sm_zero]
theorem bsf_nN {c u : Nat → Nat} (hc : c 0 = 0) (hu : u 0 = 0) : ∀ N : Nat, 1 ≤ N → bsf c u N = (0, 0, 0)
  | 0, h => absurd h (by omega)
  | N + 1, _ => bsf_no hc hu N
/-! the script's cells -/
theorem l_cell {L : Nat} {xs : Nat → Int32} (hL : L ≤ 260) {d : Nat} (hd : d < 36) : ∃ z : Int, nn0 z ∧ f_L_cell L xs (I (d : Int)) = some (I z) := by
  have am : ∀ x : Int32, ∃ z : Int, nn0 z ∧ x &&& (2147483647 : Int32) = I z := by
    intro x
    obtain ⟨j, j1, j2⟩ := pk_andE x (m := (2147483647 : Int32)) 31 (by decide)
    refine ⟨(j : Int), ⟨by omega, by omega⟩, ?_⟩
    rw [j2]
    exact Int32.ofInt_eq_ofNat.symm
  have eL : Int32.ofNat L = I ((L : Nat) : Int) := Int32.ofInt_eq_ofNat.symm
  unfold f_L_cell
  rw [eL, k_le (by omega) (by omega)]
  by_cases c : L ≤ d
  · rw [if_pos c]
    obtain ⟨z, z1, z2⟩ := am ((15485959 : Int32) * I (d : Int) + (8183 : Int32))
    exact ⟨z, z1, by rw [z2]⟩
  · rw [if_neg c, gd_t (inb_k (by omega) (by omega))]
    obtain ⟨z, z1, z2⟩ := am (xs (Int32.toNatClampNeg (I (d : Int))))
    exact ⟨z, z1, by rw [z2]⟩
abbrev R10 : Type := Int32 × JV × JV × JV × JV × (Nat → Nat → Nat) × (Nat → JV) × JV × (Nat → JV) × JV
abbrev R11 : Type := JV × JV × JV × JV × (Nat → Nat → Nat) × (Nat → JV) × JV × (Nat → JV) × JV × Int32 × Int32
/-- behind the acts -/
theorem l_K93 {g : Nat → Int} {n : Nat} {vT vS : JV} {hV : Nat → JV} {hZ : JV} (h : CI g n vT vS hV hZ) (hz : Z76 g) (L : Nat) (xs : Nat → Int32) (vP vT2 vS2 : JV) (hA : Nat → Nat → Nat) (sV : Nat → JV) (vU : JV) : ∃ Rz : R10, f_L_law_K93 L xs vP vT vS vT2 vS2 hA hV hZ sV vU (1 : Int32) = some Rz ∧ Rz.1 = (1 : Int32) := by
  have hn := np_le h.1
  obtain ⟨S, s1, s2, s3, s4⟩ := q_save sV vU h
  obtain ⟨A, g', n', a1, a2, a3, a4⟩ := l_areBest (vP := vP) (hA := hA) h hz vT2 vS2
  obtain ⟨Q, q1, q2, q3⟩ := q_restore A.2.2.2.2.2.1 a3 h.1 s3 s4
  have hps : ∃ m : Nat, psn n' = m + 1 := by
    unfold psn
    by_cases c : n' = 6
    · rw [if_pos c]
      exact ⟨5, rfl⟩
    · rw [if_neg c]
      exact ⟨n', rfl⟩
  obtain ⟨m, hm⟩ := hps
  rw [hm] at q3
  obtain ⟨U, g2, u1, u2, u3⟩ := q_undo Q.2.2.2.1 q3
  have hm6 : m + 1 ≤ 6 := by
    obtain ⟨-, -, -, hs, hc, -⟩ := q3
    exact hc.2.1
  unfold f_L_law_K93
  rw [q_c3 h, q_c5 h]
  simp only [Option.bind_some]
  rw [if_neg (by decide), l_areSeated h]
  simp only [Option.bind_some]
  rw [if_neg (by decide), l_areSums h]
  simp only [Option.bind_some]
  rw [if_neg (by decide), s1]
  simp only [Option.bind_some]
  rw [s2, ← hn.2, if_pos rfl, a1]
  simp only [Option.bind_some]
  rw [a2, if_neg (by decide), l_areSums a3]
  simp only [Option.bind_some]
  rw [if_neg (by decide), q1]
  simp only [Option.bind_some]
  rw [q2, ← hn.2, if_pos rfl, q_c5 q3]
  simp only [Option.bind_some]
  unfold f_L_law_K171
  have c0 : ¬ I ((m : Nat) : Int) < (0 : Int32) := by
    rw [show (0 : Int32) = I 0 from rfl, I_lt (r0 _) (r0 _)]
    omega
  rw [if_pos trivial, if_neg (by decide), u1]
  simp only [Option.bind_some]
  rw [u2, if_neg c0, l_areSeated u3]
  simp only [Option.bind_some]
  rw [if_neg (by decide)]
  exact ⟨_, rfl, rfl⟩
/-- the law's loop -/
theorem l_L67 {g : Nat → Int} {n : Nat} {vT vS : JV} {hV : Nat → JV} {hZ : JV} (h : CI g n vT vS hV hZ) (hz : Z76 g) {L : Nat} (hL : L ≤ 260) (xs : Nat → Int32) (vP vT2 vS2 : JV) (hA : Nat → Nat → Nat) (sV : Nat → JV) (vU : JV) : ∃ Rz : R10, f_L_law_L67 L xs vP FU vT vS vT2 vS2 hA hV hZ sV vU (1 : Int32) (0 : Int32) = some Rz ∧ Rz.1 = (1 : Int32) := by
  unfold f_L_law_L67
  refine Exists.elim (lp_inv (P := Unit) (fun _ (rec : R11 → Option R10) a => f_L_law_b67 L xs vP (fun vT_67 vS_67 vT2_67 vS2_67 hA_67 hV_67 hZ_67 sV_67 vU_67 x2_67 x3_67 => rec (vT_67, vS_67, vT2_67, vS2_67, hA_67, hV_67, hZ_67, sV_67, vU_67, x2_67, x3_67)) a.1 a.2.1 a.2.2.1 a.2.2.2.1 a.2.2.2.2.1 a.2.2.2.2.2.1 a.2.2.2.2.2.2.1 a.2.2.2.2.2.2.2.1 a.2.2.2.2.2.2.2.2.1 a.2.2.2.2.2.2.2.2.2.1 a.2.2.2.2.2.2.2.2.2.2) (fun d a => (∃ (g' : Nat → Int) (m : Nat), CI g' m a.1 a.2.1 a.2.2.2.2.2.1 a.2.2.2.2.2.2.1 ∧ Z76 g') ∧ a.2.2.2.2.2.2.2.2.2.1 = (1 : Int32) ∧ a.2.2.2.2.2.2.2.2.2.2 = I (d : Int)) 36 (fun _ a => f_L_law_K93 L xs vP a.1 a.2.1 a.2.2.1 a.2.2.2.1 a.2.2.2.2.1 a.2.2.2.2.2.1 a.2.2.2.2.2.2.1 a.2.2.2.2.2.2.2.1 a.2.2.2.2.2.2.2.2.1 (1 : Int32)) (fun d a hd ha => ?_) (fun a _ rec ha => ?_) FU (by have := FU_ge; omega) (vT, vS, vT2, vS2, hA, hV, hZ, sV, vU, (1 : Int32), (0 : Int32)) ⟨⟨g, n, h, hz⟩, rfl, rfl⟩) (fun a1 h1 => ?_)
  · obtain ⟨wT, wS, wT2, wS2, wA, wV, wZ, wsV, wU, x2, x3⟩ := a
    obtain ⟨⟨g', m, hw, hwz⟩, h2, h3⟩ := ha
    dsimp only at hw h2 h3
    subst h2 h3
    obtain ⟨z, z1, z2⟩ := l_cell (xs := xs) hL hd
    obtain ⟨A, gA, nA, a1, a2, a3, a4⟩ := l_acts (vP := vP) (hA := wA) hw hwz wT2 wS2 z1
    refine ⟨(A.2.1, A.2.2.1, A.2.2.2.1, A.2.2.2.2.1, A.2.2.2.2.2.1, A.2.2.2.2.2.2.1, A.2.2.2.2.2.2.2, wsV, wU, (1 : Int32), I ((d + 1 : Nat) : Int)), ⟨⟨gA, nA, a3, a4⟩, rfl, rfl⟩, fun _ rec => ?_⟩
    show f_L_law_b67 L xs vP (fun vT_67 vS_67 vT2_67 vS2_67 hA_67 hV_67 hZ_67 sV_67 vU_67 x2_67 x3_67 => rec (vT_67, vS_67, vT2_67, vS2_67, hA_67, hV_67, hZ_67, sV_67, vU_67, x2_67, x3_67)) wT wS wT2 wS2 wA wV wZ wsV wU (1 : Int32) (I (d : Int)) = _
    unfold f_L_law_b67
    rw [show (36 : Int32) = I ((36 : Nat) : Int) from rfl, k_le (by omega) (by omega), if_neg (by omega), if_neg (by decide), z2]
    simp only [Option.bind_some]
    rw [a1]
    simp only [Option.bind_some]
    rw [a2, one_add]
  · obtain ⟨wT, wS, wT2, wS2, wA, wV, wZ, wsV, wU, x2, x3⟩ := a
    obtain ⟨⟨g', m, hw, hwz⟩, h2, h3⟩ := ha
    dsimp only at hw h2 h3 ⊢
    subst h2 h3
    unfold f_L_law_b67
    rw [show (36 : Int32) = I ((36 : Nat) : Int) from rfl, k_le (by omega) (by omega), if_pos (by omega)]
  · obtain ⟨⟨⟨g', m, hw, hwz⟩, -, -⟩, h2⟩ := h1
    have h3 := h2 ()
    rw [h3]
    exact l_K93 hw hwz L xs vP _ _ _ _ _
theorem l_law {L : Nat} (hL : L ≤ 260) (xs : Nat → Int32) {vT : JV} (h : CI g00 0 vT vi_X2 (fun _ => vi_X2) (fun _ _ => 0)) (vP vT2 vS2 : JV) (hA : Nat → Nat → Nat) (sV : Nat → JV) : ∃ Rz : R10, f_L_law L xs vT vi_X2 vT2 vS2 vP hA (fun _ => vi_X2) (fun _ _ => 0) sV (fun _ _ => 0) = some Rz ∧ Rz.1 = (1 : Int32) := by
  have h3 : ∀ (k : Nat) (x : Int), k ≠ 3 → gu g00 k x 3 = 0 := fun k x hk => by
    rw [gu_ne g00 x (fun e => hk e.symm)]
    rfl
  obtain ⟨A, a1, a2⟩ := q_leastRooms h vT2 vS2
  obtain ⟨B, b1_, b2⟩ := q_bestHalls h A.2.1 A.2.2 (a := 0) (by omega)
  obtain ⟨D, d1, d2⟩ := q_bestStart h B.2.1 B.2.2 (p := 0) (by omega)
  have ea : frP (lrP g00) 7 = 0 := by
    have e0 : lrP g00 0 = true := by
      unfold lrP
      rw [wo_no (h3 1 _ (by omega))]
      rfl
    rw [frP_ff, ff_of (i := 0) (by omega) e0 (fun j hj => absurd hj (by omega)), if_pos (by omega)]
    rfl
  have eb : (bsf (bhU g00) (bhD g00) 16).1 = 0 := by
    have u0 : bhU g00 0 = 0 := by
      unfold bhU
      exact wo_no (by rw [gO_ne _ _ (by omega)]; rfl) _
    have v0 : bhD g00 0 = 0 := odk_0 g00
    rw [bsf_nN u0 v0 16 (by omega)]
  have ed : (bsf (bcC g00 0) (bcU g00 0) 20).1 = 0 := by
    have u0 : bcC g00 0 0 = 0 := by
      unfold bcC
      rw [np_no (h3 _ _ (by omega))]
      rfl
    have v0 : bcU g00 0 0 = 0 := by
      unfold bcU
      exact wo_no (h3 _ _ (by omega)) _
    rw [bsf_nN u0 v0 20 (by omega)]
  rw [ea] at a2
  rw [if_pos rfl, eb] at b2
  rw [ed] at d2
  unfold f_L_law
  rw [q_undoN hA h]
  simp only [Option.bind_some]
  rw [if_pos (by decide), q_restoreN hA rfl]
  simp only [Option.bind_some]
  rw [if_pos (by decide), q_c10 h, last_no rfl]
  simp only [Option.bind_some]
  rw [if_pos (by decide), a1]
  simp only [Option.bind_some]
  rw [a2, if_pos (by decide), show f_X4_bestHalls vi_X2 A.2.1 A.2.2 (0 : Int32) = _ from b1_]
  simp only [Option.bind_some]
  rw [b2, if_pos (by decide), show f_X4_bestStart vi_X2 B.2.1 B.2.2 (0 : Int32) = _ from d1]
  simp only [Option.bind_some]
  rw [d2, if_pos (by decide)]
  exact l_L67 h Z76_00 hL xs vP _ _ hA sV _
