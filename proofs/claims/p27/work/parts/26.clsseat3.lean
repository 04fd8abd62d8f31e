/-! ===== (from the parts of whole) ===== -/
theorem p_seatAtDesk {v vS : JV} {g z : Nat → Int} {c cr k : Nat} (hS : RS vS g) (hB : Bd g) (hT : TS v g z c cr) (hk : k < 96) (hz : z k = -6) (hp : ∀ o : Nat, o < 96 → z o ≠ -6 → bk g o ≤ bk g k) :
    ∃ v' : JV, f_X3_seatAtDesk v vS (I ((k / 6 : Nat) : Int)) (I ((k % 6 : Nat) : Int)) = some v' ∧ TS v' g (zset z k (deskS g z k)) (c + m6 (deskS g z k)) cr := by
  obtain ⟨t1, t2, t3, t4, t5, t6⟩ := hT
  have e16 : (16 : Int32) = I ((16 : Nat) : Int) := rfl
  have St : ∀ (r2 : JV → Int32 → Option JV) (h : Nat), h < 4 → f_X3_seatAtDesk_b2 vS (I ((k / 6 : Nat) : Int)) (I ((k % 6 : Nat) : Int)) r2 v (I (h : Int)) = (if hQ g z k h then some (up2 (up2 (up2 (up2 v 1 k (I (h : Int))) 2 k (I (ff (dP g z k h) (nd g h) : Int))) 6 (16 * h + ff (dP g z k h) (nd g h)) (I (ek g k))) 7 (16 * h + ff (dP g z k h) (nd g h)) (v 7 (16 * h + ff (dP g z k h) (nd g h)) ||| ((1 : Int32) <<< (I ((k % 6 : Nat) : Int) &&& 31)))) else r2 v (I ((h + 1 : Nat) : Int))) := by
    intro r2 h hh
    have hn := nd_le hB hh
    have hfd := p_firstDesk hS hB t3 t2 hk hh hp
    have K : ∀ d : Nat, d < 16 → f_X3_seatAtDesk_K29 vS r2 v (I ((k / 6 : Nat) : Int)) (I ((k % 6 : Nat) : Int)) (I (h : Int)) (I (d : Int)) = some (up2 (up2 (up2 (up2 v 1 k (I (h : Int))) 2 k (I (d : Int))) 6 (16 * h + d) (I (ek g k))) 7 (16 * h + d) (v 7 (16 * h + d) ||| ((1 : Int32) <<< (I ((k % 6 : Nat) : Int) &&& 31)))) := by
      intro d hd
      unfold f_X3_seatAtDesk_K29
      rw [show (-6 : Int32) = I (-6) from rfl, ite_eq (rng_of (by omega) (by omega)) (rng_of (by omega) (by omega)), if_neg (by omega), p_sittingNumber, p_endOf hS hB (by omega) (by omega)]
      simp only [Option.bind_some]
      rw [show 6 * (k / 6) + k % 6 = k by omega, gd_t (inb_k hk (by omega)), gd_t (inb_k hk (by omega)), e16, nat_mul, nat_add, gd_t (inb_k (by omega) (by omega)), gd_t (inb_k (by omega) (by omega)), gd_t (inb_k (by omega) (by omega)), I_k (by omega), I_k (by omega)]
      rfl
    have K6 : f_X3_seatAtDesk_K29 vS r2 v (I ((k / 6 : Nat) : Int)) (I ((k % 6 : Nat) : Int)) (I (h : Int)) (I (-6)) = r2 v (I ((h + 1 : Nat) : Int)) := by
      unfold f_X3_seatAtDesk_K29
      rw [if_pos (show I (-6) = (-6 : Int32) from rfl), one_add]
    unfold f_X3_seatAtDesk_b2
    rw [show (4 : Int32) = I ((4 : Nat) : Int) from rfl, k_le (by omega) (by omega), if_neg (by omega), p_isOpen hS hB hh, hfd]
    simp only [Option.bind_some]
    rw [ite_B1, show (-6 : Int32) = I (-6) from rfl, K6]
    by_cases ho : g (66 + 3 * h) = 1
    · have hnd : nd g h = rw_ g h * cw_ g h := by unfold nd; rw [if_pos ho]
      rw [decide_eq_true ho, if_pos rfl, ← hnd]
      unfold hQ
      by_cases cf : ff (dP g z k h) (nd g h) < nd g h
      · rw [if_pos cf, K _ (by omega), decide_eq_true cf]; rfl
      · rw [if_neg cf, K6, decide_eq_false cf]; rfl
    · have hnd : nd g h = 0 := by unfold nd; rw [if_neg ho]
      unfold hQ
      rw [decide_eq_false ho, decide_eq_false (show ¬ ff (dP g z k h) (nd g h) < nd g h by omega)]
      rfl
  unfold f_X3_seatAtDesk f_X3_seatAtDesk_L2
  refine ⟨if ff (hQ g z k) 4 < 4 then (fun (h : Nat) => up2 (up2 (up2 (up2 v 1 k (I (h : Int))) 2 k (I (ff (dP g z k h) (nd g h) : Int))) 6 (16 * h + ff (dP g z k h) (nd g h)) (I (ek g k))) 7 (16 * h + ff (dP g z k h) (nd g h)) (v 7 (16 * h + ff (dP g z k h) (nd g h)) ||| ((1 : Int32) <<< (I ((k % 6 : Nat) : Int) &&& 31)))) (ff (hQ g z k) 4) else up2 v 4 0 (v 4 0 + 1), (lp_ff _ (fun h => (v, I (h : Int))) (hQ g z k) 4 (fun (h : Nat) => some (if h < 4 then (fun (h : Nat) => up2 (up2 (up2 (up2 v 1 k (I (h : Int))) 2 k (I (ff (dP g z k h) (nd g h) : Int))) 6 (16 * h + ff (dP g z k h) (nd g h)) (I (ek g k))) 7 (16 * h + ff (dP g z k h) (nd g h)) (v 7 (16 * h + ff (dP g z k h) (nd g h)) ||| ((1 : Int32) <<< (I ((k % 6 : Nat) : Int) &&& 31)))) h else up2 v 4 0 (v 4 0 + 1))) (fun rec h hh hP => ?_) (fun rec h hh hP => ?_) (fun rec => ?_) FU (by have := FU_ge; omega)), ?_⟩
  · exact (St (fun x y => rec (x, y)) h hh).trans (by rw [hP]; rfl)
  · exact (St (fun x y => rec (x, y)) h hh).trans (by rw [hP, if_pos rfl, if_pos hh])
  · rfl
  · unfold deskS
    by_cases cf : ff (hQ g z k) 4 < 4
    · rw [if_pos cf, if_pos cf]
      have hh := of_decide_eq_true (ff_hi _ _ cf)
      have hn := nd_le hB cf
      dsimp only
      generalize ff (hQ g z k) 4 = h at cf hh hn ⊢
      have hP := ff_hi _ _ hh
      generalize ff (dP g z k h) (nd g h) = d at hh hP ⊢
      have hfr : fre g z ((16 * h + d : Nat) : Int) k = true := by
        unfold dP at hP
        rw [Bool.and_eq_true] at hP
        exact hP.1
      rw [show m6 ((16 * h + d : Nat) : Int) = 0 by unfold m6; rw [if_neg (by omega)]]
      refine ⟨fun o ho => ?_, fun q hq => ?_, fun q hq => ?_, fun r' hr' => ?_, ?_, ?_⟩
      · rw [up2_v (show (1 : Nat) ≠ 7 by omega), up2_v (show (1 : Nat) ≠ 6 by omega), up2_v (show (1 : Nat) ≠ 2 by omega), up2_v (show (2 : Nat) ≠ 7 by omega), up2_v (show (2 : Nat) ≠ 6 by omega), up2_v (show (3 : Nat) ≠ 7 by omega), up2_v (show (3 : Nat) ≠ 6 by omega), up2_v (show (3 : Nat) ≠ 2 by omega), up2_v (show (3 : Nat) ≠ 1 by omega), up2_at, up2_at]
        by_cases co : o = k
        · subst co
          rw [zset_at, if_pos rfl, if_pos rfl, (t1 o ho).2.2, hz]
          unfold hallOf deskOf roomOf
          rw [if_pos (show 0 ≤ ((16 * h + d : Nat) : Int) ∧ ((16 * h + d : Nat) : Int) < 64 by omega), if_pos (show 0 ≤ ((16 * h + d : Nat) : Int) ∧ ((16 * h + d : Nat) : Int) < 64 by omega), if_neg (show ¬ (64 : Int) ≤ -6 by omega), if_neg (show ¬ (64 : Int) ≤ ((16 * h + d : Nat) : Int) by omega)]
          refine ⟨?_, ?_, rfl⟩
          · congr 1; omega
          · congr 1; omega
        · rw [zset_ne co, if_neg co, if_neg co]
          exact t1 o ho
      · rw [up2_v (by omega), up2_at]
        by_cases ce : q = 16 * h + d
        · subst ce
          exact ⟨_, if_pos rfl, last_self hB hk hfr (fun o ho hzo => hp o ho (by rw [hzo]; omega))⟩
        · obtain ⟨x, x1, x2⟩ := t2 q hq
          exact ⟨x, by rw [if_neg ce, up2_v (by omega), up2_v (by omega)]; exact x1, last_other hz (by omega) (by omega) x2⟩
      · obtain ⟨m, m1, m2, m3⟩ := t3 q hq
        rw [up2_at]
        by_cases ce : q = 16 * h + d
        · rw [if_pos ce, ← ce, m2]
          obtain ⟨r1, r2, r3⟩ := or_raw2 ⟨m, m1⟩ ⟨k % 6, by omega⟩
          refine ⟨_, r2, r1, fun p hp' => ?_⟩
          have r4 := r3 ⟨p, hp'⟩
          dsimp only at r4
          rw [r4, m3 p hp', hasB_set hk hp' (by omega) hz, decide_eq_true (rfl : (q : Int) = (q : Int)), Bool.true_and]
        · refine ⟨m, m1, by rw [if_neg ce, up2_v (by omega), up2_v (by omega), up2_v (by omega)]; exact m2, fun p hp' => ?_⟩
          rw [hasB_set hk hp' (by omega) hz, decide_eq_false (show ¬ ((16 * h + d : Nat) : Int) = (q : Int) by omega), Bool.false_and, Bool.or_false]
          exact m3 p hp'
      · obtain ⟨x, x1, x2⟩ := t4 r' hr'
        exact ⟨x, by rw [up2_v (by omega), up2_v (by omega), up2_v (by omega), up2_v (by omega)]; exact x1, last_other hz (by omega) (by omega) x2⟩
      · rw [up2_v (by omega), up2_v (by omega), up2_v (by omega), up2_v (by omega)]; exact t5
      · rw [up2_v (by omega), up2_v (by omega), up2_v (by omega), up2_v (by omega)]; exact t6
    · rw [if_neg cf, if_neg cf, zset_m6 hz, show m6 (-6) = 1 from rfl]
      refine ⟨fun o ho => ?_, fun q hq => ?_, ?_, fun r' hr' => ?_, ?_, ?_⟩
      · rw [up2_v (by omega), up2_v (by omega), up2_v (by omega)]
        exact t1 o ho
      · rw [up2_v (by omega)]
        exact t2 q hq
      · rw [up2_ne _ _ _ (show (7 : Nat) ≠ 4 by omega)]
        exact t3
      · rw [up2_v (by omega)]
        exact t4 r' hr'
      · rw [up2_at, if_pos rfl, t5, one_add]
      · rw [up2_v (by omega)]; exact t6
