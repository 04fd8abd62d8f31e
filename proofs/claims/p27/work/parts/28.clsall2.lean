/-! ===== (from the parts of whole) ===== -/
theorem up2_if {v : JV} {k i : Nat} {x : Int32} {j : Nat} : up2 v k i x k j = if j = i then x else v k j := up2_at v k i x j
theorem p_clear (v : JV) (g : Nat → Int) : ∃ v' : JV, f_X3_clear v = some v' ∧ TN v' g 0 := by
  unfold f_X3_clear f_X3_clear_L2
  refine Exists.elim (lp_inv (P := Unit) (fun _ (rec : JV × Int32 → Option (JV)) a => f_X3_clear_b2 (fun vT_2 x1_2 => rec (vT_2, x1_2)) a.1 a.2) (fun i a => a.2 = I (i : Int) ∧ ∀ k : Nat, k < i → a.1 1 k = I (-6) ∧ a.1 2 k = I (-6) ∧ a.1 3 k = I (-6)) 96 (fun _ a => f_X3_clear_L40 FU a.1 (0 : Int32)) (fun i a hi ha => ?_) (fun a _ rec ha => ?_) FU (by have := FU_ge; omega) (v, (0 : Int32)) ⟨rfl, fun k hk => by omega⟩) (fun a1 h12 => ?_)
  · obtain ⟨w, x⟩ := a
    obtain ⟨hx, hw⟩ := ha
    dsimp only at hx hw
    subst hx
    refine ⟨(up2 (up2 (up2 w 1 i (I (-6))) 2 i (I (-6))) 3 i (I (-6)), I ((i + 1 : Nat) : Int)), ⟨rfl, fun k hk => ?_⟩, fun _ rec => ?_⟩
    · dsimp only
      rw [up2_v (show (1 : Nat) ≠ 3 by omega), up2_v (show (1 : Nat) ≠ 2 by omega), up2_v (show (2 : Nat) ≠ 3 by omega), up2_if, up2_if, up2_if]
      by_cases c : k = i
      · rw [if_pos c, if_pos c, if_pos c]; exact ⟨rfl, rfl, rfl⟩
      · rw [if_neg c, if_neg c, if_neg c, up2_v (show (2 : Nat) ≠ 1 by omega), up2_v (show (3 : Nat) ≠ 2 by omega), up2_v (show (3 : Nat) ≠ 1 by omega)]
        exact hw k (by omega)
    · show f_X3_clear_b2 (fun vT_2 x1_2 => rec (vT_2, x1_2)) w (I (i : Int)) = _
      unfold f_X3_clear_b2
      rw [show (96 : Int32) = I ((96 : Nat) : Int) from rfl, k_le (by omega) (by omega), if_neg (by omega), gd_t (inb_k hi (by omega)), gd_t (inb_k hi (by omega)), gd_t (inb_k hi (by omega)), I_k (by omega), one_add]
      rfl
  · obtain ⟨w, x⟩ := a
    obtain ⟨hx, hw⟩ := ha
    dsimp only at hx hw ⊢
    subst hx
    unfold f_X3_clear_b2
    rw [show (96 : Int32) = I ((96 : Nat) : Int) from rfl, k_le (by omega) (by omega), if_pos (by omega)]
  obtain ⟨⟨hx1, H1⟩, h2⟩ := h12
  unfold f_X3_clear_L40 at h2
  refine Exists.elim (lp_inv (P := Unit) (fun _ (rec : JV × Int32 → Option (JV)) a => f_X3_clear_b40 (fun vT_2 x1_2 => rec (vT_2, x1_2)) a.1 a.2) (fun i a => a.2 = I (i : Int) ∧ (∀ k : Nat, k < 96 → a.1 1 k = I (-6) ∧ a.1 2 k = I (-6) ∧ a.1 3 k = I (-6)) ∧ ∀ k : Nat, k < i → a.1 6 k = I (-1000) ∧ a.1 7 k = I 0) 64 (fun _ a => f_X3_clear_L70 FU a.1 (0 : Int32)) (fun i a hi ha => ?_) (fun a _ rec ha => ?_) FU (by have := FU_ge; omega) (a1.1, (0 : Int32)) ⟨rfl, H1, fun k hk => by omega⟩) (fun a2 h34 => ?_)
  · obtain ⟨w, x⟩ := a
    obtain ⟨hx, hw0, hw⟩ := ha
    dsimp only at hx hw hw0
    subst hx
    refine ⟨(up2 (up2 w 6 i (I (-1000))) 7 i (I 0), I ((i + 1 : Nat) : Int)), ⟨rfl, fun k hk => ?_, fun k hk => ?_⟩, fun _ rec => ?_⟩
    · dsimp only
      rw [up2_v (show (1 : Nat) ≠ 7 by omega), up2_v (show (1 : Nat) ≠ 6 by omega), up2_v (show (2 : Nat) ≠ 7 by omega), up2_v (show (2 : Nat) ≠ 6 by omega), up2_v (show (3 : Nat) ≠ 7 by omega), up2_v (show (3 : Nat) ≠ 6 by omega)]
      exact hw0 k hk
    · dsimp only
      rw [up2_v (show (6 : Nat) ≠ 7 by omega), up2_if, up2_if]
      by_cases c : k = i
      · rw [if_pos c, if_pos c]; exact ⟨rfl, rfl⟩
      · rw [if_neg c, if_neg c, up2_v (show (7 : Nat) ≠ 6 by omega)]
        exact hw k (by omega)
    · show f_X3_clear_b40 (fun vT_2 x1_2 => rec (vT_2, x1_2)) w (I (i : Int)) = _
      unfold f_X3_clear_b40
      rw [show (64 : Int32) = I ((64 : Nat) : Int) from rfl, k_le (by omega) (by omega), if_neg (by omega), gd_t (inb_k hi (by omega)), gd_t (inb_k hi (by omega)), I_k (by omega), one_add]
      rfl
  · obtain ⟨w, x⟩ := a
    obtain ⟨hx, hw⟩ := ha
    dsimp only at hx hw ⊢
    subst hx
    unfold f_X3_clear_b40
    rw [show (64 : Int32) = I ((64 : Nat) : Int) from rfl, k_le (by omega) (by omega), if_pos (by omega)]
  obtain ⟨⟨hx2, H2, H3⟩, h4⟩ := h34
  unfold f_X3_clear_L70 at h4
  refine Exists.elim (lp_inv (P := Unit) (fun _ (rec : JV × Int32 → Option (JV)) a => f_X3_clear_b70 (fun vT_2 x1_2 => rec (vT_2, x1_2)) a.1 a.2) (fun i a => a.2 = I (i : Int) ∧ (∀ k : Nat, k < 96 → a.1 1 k = I (-6) ∧ a.1 2 k = I (-6) ∧ a.1 3 k = I (-6)) ∧ (∀ k : Nat, k < 64 → a.1 6 k = I (-1000) ∧ a.1 7 k = I 0) ∧ ∀ k : Nat, k < i → a.1 8 k = I (-1000)) 6 (fun _ a => some (up2 (up2 a.1 4 0 (0 : Int32)) 5 0 (0 : Int32))) (fun i a hi ha => ?_) (fun a _ rec ha => ?_) FU (by have := FU_ge; omega) (a2.1, (0 : Int32)) ⟨rfl, H2, H3, fun k hk => by omega⟩) (fun a3 h56 => ?_)
  · obtain ⟨w, x⟩ := a
    obtain ⟨hx, hw0, hw1, hw⟩ := ha
    dsimp only at hx hw hw0 hw1
    subst hx
    refine ⟨(up2 w 8 i (I (-1000)), I ((i + 1 : Nat) : Int)), ⟨rfl, fun k hk => ?_, fun k hk => ?_, fun k hk => ?_⟩, fun _ rec => ?_⟩
    · dsimp only
      rw [up2_v (show (1 : Nat) ≠ 8 by omega), up2_v (show (2 : Nat) ≠ 8 by omega), up2_v (show (3 : Nat) ≠ 8 by omega)]
      exact hw0 k hk
    · dsimp only
      rw [up2_v (show (6 : Nat) ≠ 8 by omega), up2_v (show (7 : Nat) ≠ 8 by omega)]
      exact hw1 k hk
    · dsimp only
      rw [up2_if]
      by_cases c : k = i
      · rw [if_pos c]
      · rw [if_neg c]
        exact hw k (by omega)
    · show f_X3_clear_b70 (fun vT_2 x1_2 => rec (vT_2, x1_2)) w (I (i : Int)) = _
      unfold f_X3_clear_b70
      rw [c6, k_le (by omega) (by omega), if_neg (by omega), gd_t (inb_k hi (by omega)), I_k (by omega), one_add]
      rfl
  · obtain ⟨w, x⟩ := a
    obtain ⟨hx, hw⟩ := ha
    dsimp only at hx hw ⊢
    subst hx
    unfold f_X3_clear_b70
    rw [c6, k_le (by omega) (by omega), if_pos (by omega)]
  obtain ⟨⟨hx3, H4, H5, H6⟩, h6⟩ := h56
  refine ⟨up2 (up2 a3.1 4 0 (0 : Int32)) 5 0 (0 : Int32), ((h2 ()).trans (h4 ())).trans (h6 ()), ?_⟩
  have nh : ∀ (q : Int) (p : Nat), 0 ≤ q → hasB (zN g 0) q p = false := by
    intro q p hq
    cases h : hasB (zN g 0) q p
    · rfl
    · unfold hasB at h
      rw [anyB_iff] at h
      obtain ⟨j, -, h⟩ := h
      have : (-6 : Int) = q := by simpa [zN] using h
      omega
  refine ⟨fun k hk => ?_, fun q hq => ?_, fun q hq => ?_, fun r hr => ?_, ?_, ?_⟩
  · rw [up2_v (show (1 : Nat) ≠ 5 by omega), up2_v (show (2 : Nat) ≠ 5 by omega), up2_v (show (3 : Nat) ≠ 5 by omega), up2_v (show (1 : Nat) ≠ 4 by omega), up2_v (show (2 : Nat) ≠ 4 by omega), up2_v (show (3 : Nat) ≠ 4 by omega)]
    exact H4 k hk
  · refine ⟨-1000, ?_, Or.inl ⟨rfl, fun o ho => ?_⟩⟩
    · rw [up2_v (show (6 : Nat) ≠ 5 by omega), up2_v (show (6 : Nat) ≠ 4 by omega)]
      exact (H5 q hq).1
    · show (-6 : Int) ≠ _
      omega
  · refine ⟨0, by omega, ?_, fun p hp => ?_⟩
    · rw [up2_v (show (7 : Nat) ≠ 5 by omega), up2_v (show (7 : Nat) ≠ 4 by omega)]
      exact (H5 q hq).2
    · rw [nh _ _ (by omega)]
      unfold bt
      simp
  · refine ⟨-1000, ?_, Or.inl ⟨rfl, fun o ho => ?_⟩⟩
    · rw [up2_v (show (8 : Nat) ≠ 5 by omega), up2_v (show (8 : Nat) ≠ 4 by omega)]
      exact H6 r hr
    · show (-6 : Int) ≠ _
      omega
  · rw [up2_v (show (4 : Nat) ≠ 5 by omega), up2_if, if_pos rfl]; rfl
  · rw [up2_if, if_pos rfl]; rfl
theorem p_seatAll {v vS : JV} {g : Nat → Int} (hS : RS vS g) (hB : Bd g) : ∃ v' : JV, f_X3_seatAll v vS = some v' ∧ TN v' g 1920 := by
  obtain ⟨v0, hc, hT⟩ := p_clear v g
  unfold f_X3_seatAll f_X3_seatAll_L6
  rw [hc]
  simp only [Option.bind_some]
  refine Exists.elim (lp_inv (P := Unit) (fun _ (rec : JV × Int32 → Option (JV)) a => f_X3_seatAll_b6 vS (fun vT_6 x1_6 => rec (vT_6, x1_6)) a.1 a.2) (fun t a => a.2 = I (t : Int) ∧ TN a.1 g (t * 96)) 20 (fun _ a => some a.1) (fun t a ht ha => ?_) (fun a _ rec ha => ?_) FU (by have := FU_ge; omega) (v0, (0 : Int32)) ⟨rfl, hT⟩) (fun a1 h12 => ?_)
  · obtain ⟨w, x⟩ := a
    obtain ⟨hx, hw⟩ := ha
    dsimp only at hx hw
    subst hx
    refine Exists.elim (lp_inv (P := JV → Int32 → Option JV) (fun r6 (rec : JV × Int32 → Option (JV)) a => f_X3_seatAll_b14 vS r6 (I (t : Int)) (fun vT_14 x2_14 => rec (vT_14, x2_14)) a.1 a.2) (fun p a => a.2 = I (p : Int) ∧ TN a.1 g (t * 96 + p * 16)) 6 (fun r6 a => r6 a.1 (I ((t + 1 : Nat) : Int))) (fun p a hp ha => ?_) (fun a r6 rec ha => ?_) FU (by have := FU_ge; omega) (w, (0 : Int32)) ⟨rfl, hw⟩) (fun a2 h34 => ?_)
    · obtain ⟨w2, x⟩ := a
      obtain ⟨hx, hw2⟩ := ha
      dsimp only at hx hw2
      subst hx
      have hs := (hB.2.2.2.2.1 p hp).1
      have ev : ∀ (r6 : JV → Int32 → Option JV) (rec : JV × Int32 → Option (JV)), f_X3_seatAll_b14 vS r6 (I (t : Int)) (fun vT_14 x2_14 => rec (vT_14, x2_14)) w2 (I (p : Int)) = (if g (4 + 2 * p) = (t : Int) then (f_X3_seatPupils w2 vS (I (p : Int))).bind (fun q6 => rec (q6, I ((p + 1 : Nat) : Int))) else rec (w2, I ((p + 1 : Nat) : Int))) := by
        intro r6 rec
        unfold f_X3_seatAll_b14
        rw [c6, k_le (by omega) (by omega), if_neg (by omega), gd_t (inb_k hp (by omega)), I_k (by omega), (hS.2.1 p hp).1, ite_eq (rng_of (by omega) (by omega)) (rng_of (by omega) (by omega)), one_add]
      by_cases c : g (4 + 2 * p) = (t : Int)
      · obtain ⟨w3, h5, h6⟩ := p_seatPupils hS hB hp c hw2
        refine ⟨(w3, I ((p + 1 : Nat) : Int)), ⟨rfl, h6⟩, fun r6 rec => (ev r6 rec).trans ?_⟩
        rw [if_pos c, h5]
        rfl
      · refine ⟨(w2, I ((p + 1 : Nat) : Int)), ⟨rfl, ?_⟩, fun r6 rec => (ev r6 rec).trans (by rw [if_neg c])⟩
        have h3 := zN_skip (g := g) (a := t * 96 + p * 16) 16 (fun m ha hb => by
          have hk := kn_ix (t := t) hp (show m - (t * 96 + p * 16) < 16 by omega)
          rw [show t * 96 + p * 16 + (m - (t * 96 + p * 16)) = m by omega] at hk
          unfold due
          rw [hk.1, show (6 * (m - (t * 96 + p * 16)) + p) % 6 = p by omega, hk.2, decide_eq_false c, Bool.false_and])
        rw [show t * 96 + p * 16 + 16 = t * 96 + (p + 1) * 16 by omega] at h3
        unfold TN
        dsimp only
        rw [h3.1, h3.2.1, h3.2.2]
        exact hw2
    · obtain ⟨w2, x⟩ := a
      obtain ⟨hx, hw2⟩ := ha
      dsimp only at hx hw2 ⊢
      subst hx
      unfold f_X3_seatAll_b14
      rw [c6, k_le (by omega) (by omega), if_pos (by omega), one_add]
    · obtain ⟨⟨hx2, h3⟩, h4⟩ := h34
      refine ⟨(a2.1, I ((t + 1 : Nat) : Int)), ⟨rfl, ?_⟩, fun _ rec => ?_⟩
      · dsimp only
        rw [show (t + 1) * 96 = t * 96 + 6 * 16 by omega]
        exact h3
      · show f_X3_seatAll_b6 vS (fun vT_6 x1_6 => rec (vT_6, x1_6)) w (I (t : Int)) = _
        unfold f_X3_seatAll_b6 f_X3_seatAll_L14
        rw [show (20 : Int32) = I ((20 : Nat) : Int) from rfl, k_le (by omega) (by omega), if_neg (by omega)]
        exact h4 (fun vT_6 x1_6 => rec (vT_6, x1_6))
  · obtain ⟨w, x⟩ := a
    obtain ⟨hx, hw⟩ := ha
    dsimp only at hx hw ⊢
    subst hx
    unfold f_X3_seatAll_b6
    rw [show (20 : Int32) = I ((20 : Nat) : Int) from rfl, k_le (by omega) (by omega), if_pos (by omega)]
  · obtain ⟨⟨hx1, h3⟩, h4⟩ := h12
    exact ⟨a1.1, h4 (), h3⟩
