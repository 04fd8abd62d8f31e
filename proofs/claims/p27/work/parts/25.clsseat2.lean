/-! ===== (from the parts of whole) ===== -/
def m6 (x : Int) : Nat := if x = -6 then 1 else 0
theorem Last.m6 {g z : Nat → Int} {k : Nat} (hz : z k = -6) : zset z k (-6) = z := zset_m6 hz
theorem up2_v {v : JV} {k i : Nat} {x : Int32} {a j : Nat} (h : a ≠ k) : up2 v k i x a j = v a j := by rw [up2_ne _ _ _ h]
theorem p_seatInRoom {v vS : JV} {g z : Nat → Int} {c cr k : Nat} (hS : RS vS g) (hB : Bd g) (hT : TS v g z c cr) (hk : k < 96) (hz : z k = -6) (hp : ∀ o : Nat, o < 96 → z o ≠ -6 → bk g o ≤ bk g k) :
    ∃ v' : JV, f_X3_seatInRoom v vS (I ((k / 6 : Nat) : Int)) (I ((k % 6 : Nat) : Int)) = some v' ∧ TS v' g (zset z k (roomS g z k)) (c + m6 (roomS g z k)) (cr + m6 (roomS g z k)) := by
  have h1 := hB.2.1
  have hr : g 1 = ((nr g : Nat) : Int) := by unfold nr; omega
  have hl : nr g ≤ 6 := by omega
  obtain ⟨t1, t2, t3, t4, t5, t6⟩ := hT
  have St : ∀ (r2 : JV → Int32 → Option JV) (r : Nat), r < nr g → f_X3_seatInRoom_b2 vS (I ((k / 6 : Nat) : Int)) (I ((k % 6 : Nat) : Int)) r2 v (I (r : Int)) = (if rP g z k r then some (up2 (up2 v 3 k (I (r : Int))) 8 r (I (ek g k))) else r2 v (I ((r + 1 : Nat) : Int))) := by
    intro r2 r hr1
    obtain ⟨x, hx1, hx2⟩ := t4 r (by omega)
    have hfr := last_fre hB hk hx2 (fun o ho hzo => hp o ho (by rw [hzo]; omega))
    unfold f_X3_seatInRoom_b2
    rw [hS.1 1 (by omega), hr, k_le (by omega) (by omega), if_neg (by omega), c6, k_le (by omega) (by omega), if_neg (by omega), gd_t (inb_k (by omega) (by omega)), I_k (by omega), hx1, p_isEarlyEnough hS hB (hx2.bd hB) (by omega), p_sittingNumber, p_endOf hS hB (by omega) (by omega)]
    simp only [Option.bind_some]
    rw [ite_B1, one_add, show 6 * (k / 6) + k % 6 = k by omega, gd_t (inb_k hk (by omega)), gd_t (inb_k (by omega) (by omega)), I_k (by omega)]
    unfold rP
    rw [hfr]
    rfl
  have Z6 : ∀ a : Nat, up2 (up2 v 4 0 (v 4 0 + 1)) 5 0 (v 5 0 + 1) a = (if a = 5 then upd (v 5) 0 (v 5 0 + 1) else if a = 4 then upd (v 4) 0 (v 4 0 + 1) else v a) := by
    intro a
    by_cases c5 : a = 5
    · subst c5; rfl
    · rw [up2_ne _ _ _ c5, if_neg c5]
      by_cases c4 : a = 4
      · subst c4; rfl
      · rw [up2_ne _ _ _ c4, if_neg c4]
  unfold f_X3_seatInRoom f_X3_seatInRoom_L2
  refine ⟨if ff (rP g z k) (nr g) < nr g then up2 (up2 v 3 k (I (ff (rP g z k) (nr g) : Int))) 8 (ff (rP g z k) (nr g)) (I (ek g k)) else up2 (up2 v 4 0 (v 4 0 + 1)) 5 0 (v 5 0 + 1), (lp_ff _ (fun r => (v, I (r : Int))) (rP g z k) (nr g) (fun r => some (if r < nr g then up2 (up2 v 3 k (I (r : Int))) 8 r (I (ek g k)) else up2 (up2 v 4 0 (v 4 0 + 1)) 5 0 (v 5 0 + 1))) (fun rec r hr1 hP => ?_) (fun rec r hr1 hP => ?_) (fun rec => ?_) FU (by have := FU_ge; omega)), ?_⟩
  · exact (St (fun x y => rec (x, y)) r hr1).trans (by rw [hP]; rfl)
  · exact (St (fun x y => rec (x, y)) r hr1).trans (by rw [hP, if_pos rfl, if_pos hr1])
  · show f_X3_seatInRoom_b2 vS (I ((k / 6 : Nat) : Int)) (I ((k % 6 : Nat) : Int)) (fun x y => rec (x, y)) v (I (nr g : Int)) = _
    unfold f_X3_seatInRoom_b2
    rw [hS.1 1 (by omega), hr, k_le (by omega) (by omega), if_pos (by omega), if_neg (by omega)]
  · unfold roomS
    by_cases cf : ff (rP g z k) (nr g) < nr g
    · rw [if_pos cf, if_pos cf]
      have hP : fre g z ((64 + ff (rP g z k) (nr g) : Nat) : Int) k = true := ff_hi _ _ cf
      generalize ff (rP g z k) (nr g) = r at cf hP ⊢
      rw [show m6 ((64 + r : Nat) : Int) = 0 by unfold m6; rw [if_neg (by omega)]]
      refine ⟨fun o ho => ?_, fun q hq => ?_, fun q hq => ?_, fun r' hr' => ?_, ?_, ?_⟩
      · rw [up2_v (by omega), up2_v (by omega), up2_v (by omega), up2_v (by omega), up2_v (show (3 : Nat) ≠ 8 by omega), up2_at]
        by_cases co : o = k
        · subst co
          rw [zset_at, if_pos rfl, (t1 o ho).1, (t1 o ho).2.1, hz]
          unfold hallOf deskOf roomOf
          rw [if_neg (show ¬ (0 ≤ (-6 : Int) ∧ (-6 : Int) < 64) by omega), if_neg (show ¬ (0 ≤ ((64 + r : Nat) : Int) ∧ ((64 + r : Nat) : Int) < 64) by omega), if_pos (show (64 : Int) ≤ ((64 + r : Nat) : Int) by omega), if_neg (show ¬ (0 ≤ (-6 : Int) ∧ (-6 : Int) < 64) by omega), if_neg (show ¬ (0 ≤ ((64 + r : Nat) : Int) ∧ ((64 + r : Nat) : Int) < 64) by omega)]
          refine ⟨rfl, rfl, ?_⟩
          congr 1
          omega
        · rw [zset_ne co, if_neg co]
          exact t1 o ho
      · obtain ⟨x, x1, x2⟩ := t2 q hq
        exact ⟨x, by rw [up2_v (by omega), up2_v (by omega)]; exact x1, last_other hz (by omega) (by omega) x2⟩
      · obtain ⟨m, m1, m2, m3⟩ := t3 q hq
        refine ⟨m, m1, by rw [up2_v (by omega), up2_v (by omega)]; exact m2, fun p hp' => ?_⟩
        rw [hasB_set hk hp' (by omega) hz, decide_eq_false (show ¬ ((64 + r : Nat) : Int) = (q : Int) by omega), Bool.false_and, Bool.or_false]
        exact m3 p hp'
      · rw [up2_at]
        by_cases ce : r' = r
        · subst ce
          exact ⟨_, if_pos rfl, last_self hB hk hP (fun o ho hzo => hp o ho (by rw [hzo]; omega))⟩
        · obtain ⟨x, x1, x2⟩ := t4 r' hr'
          exact ⟨x, by rw [if_neg ce, up2_v (by omega)]; exact x1, last_other hz (by omega) (by omega) x2⟩
      · rw [up2_v (by omega), up2_v (by omega)]; exact t5
      · rw [up2_v (by omega), up2_v (by omega)]; exact t6
    · rw [if_neg cf, if_neg cf, zset_m6 hz, show m6 (-6) = 1 from rfl]
      refine ⟨fun o ho => ?_, fun q hq => ?_, ?_, fun r' hr' => ?_, ?_, ?_⟩
      · rw [Z6, Z6, Z6]
        exact t1 o ho
      · rw [Z6]
        exact t2 q hq
      · rw [Z6]
        exact t3
      · rw [Z6]
        exact t4 r' hr'
      · rw [Z6]
        show upd (v 4) 0 (v 4 0 + 1) 0 = _
        rw [t5, one_add]
        simp [upd]
      · rw [Z6]
        show upd (v 5) 0 (v 5 0 + 1) 0 = _
        rw [t6, one_add]
        simp [upd]
