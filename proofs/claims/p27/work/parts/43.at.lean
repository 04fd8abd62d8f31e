/-! ===== (from the parts of whole) ===== -/
theorem plc_free {g z : Nat → Int} {k : Nat} (h : plc g z k ≠ -6) : fre g z (plc g z k) k = true := by
  unfold plc at h ⊢
  by_cases c : rd g k = true
  · rw [if_pos c] at h ⊢
    unfold roomS at h ⊢
    by_cases d : ff (rP g z k) (nr g) < nr g
    · rw [if_pos d]
      exact ff_hi _ _ d
    · rw [if_neg d] at h; exact absurd rfl h
  · rw [if_neg c] at h ⊢
    unfold deskS at h ⊢
    by_cases d : ff (hQ g z k) 4 < 4
    · rw [if_pos d]
      have h2 : ff (dP g z k (ff (hQ g z k) 4)) (nd g (ff (hQ g z k) 4)) < nd g (ff (hQ g z k) 4) := of_decide_eq_true (ff_hi _ _ d)
      exact ((Bool.and_eq_true _ _).mp (ff_hi _ _ h2)).1
    · rw [if_neg d] at h; exact absurd rfl h
theorem apart_sym (g : Nat → Int) (o k : Nat) : apart g o k = apart g k o := by unfold apart; exact Bool.or_comm _ _
theorem zN_apart {g : Nat → Int} : ∀ (n o k : Nat), o ≠ k → zN g n o ≠ -6 → zN g n o = zN g n k → apart g o k = true
  | 0, o, k, _, h, _ => absurd rfl h
  | n + 1, o, k, hne, h, he => by
    by_cases hd : due g n = true
    · have e : zN g (n + 1) = zset (zN g n) (kn n) (plc g (zN g n) (kn n)) := by show (if due g n then _ else _) = _; rw [if_pos hd]
      rw [e] at h he
      have key : ∀ x : Nat, x ≠ kn n → plc g (zN g n) (kn n) ≠ -6 → zN g n x = plc g (zN g n) (kn n) → apart g x (kn n) = true := by
        intro x hx hp hz
        have hf := allB_iff.mp (plc_free hp) x (by
          obtain ⟨m, _, _, h3⟩ := zN_from n x (by rw [hz]; exact hp)
          rw [← h3]
          exact (kn_bd m).1)
        unfold okO at hf
        rw [hz, show (plc g (zN g n) (kn n) == plc g (zN g n) (kn n)) = true from by simp] at hf
        simpa using hf
      by_cases c1 : o = kn n
      · have c2 : k ≠ kn n := fun c => hne (by rw [c1, c])
        rw [c1, zset_at] at h
        rw [c1, zset_at, zset_ne c2] at he
        rw [c1, apart_sym]
        exact key k c2 h he.symm
      · rw [zset_ne c1] at h he
        by_cases c2 : k = kn n
        · rw [c2, zset_at] at he
          rw [c2]
          exact key o c1 (by rw [← he]; exact h) he
        · rw [zset_ne c2] at he
          exact zN_apart n o k hne h he
    · have e : zN g (n + 1) = zN g n := by show (if due g n then _ else _) = _; rw [if_neg hd]
      rw [e] at h he
      exact zN_apart n o k hne h he
def atB (g z : Nat → Int) (q : Int) (t : Int) (k : Nat) : Bool := decide (z k = q) && ovr g t k
theorem atB_one {g : Nat → Int} (hB : Bd g) {q t : Int} (hq : 0 ≤ q) {o k : Nat} (h1 : atB g (seatOf g) q t o = true) (h2 : atB g (seatOf g) q t k = true) : o = k := by
  by_cases c : o = k
  · exact c
  · exfalso
    unfold atB at h1 h2
    rw [Bool.and_eq_true, decide_eq_true_eq] at h1 h2
    have ha := zN_apart 1920 o k c (by show seatOf g o ≠ -6; omega) (by show seatOf g o = seatOf g k; omega)
    have o1 := (Bool.and_eq_true _ _).mp h1.2
    have o2 := (Bool.and_eq_true _ _).mp h2.2
    have a1 := of_decide_eq_true o1.1
    have a2 := of_decide_eq_true o1.2
    have a3 := of_decide_eq_true o2.1
    have a4 := of_decide_eq_true o2.2
    have hg := hB.2.2.1
    unfold apart at ha
    rw [Bool.or_eq_true, decide_eq_true_eq, decide_eq_true_eq] at ha
    omega
def atR (g z : Nat → Int) (q t : Int) : Int := if ff (atB g z q t) 96 < 96 then ((ff (atB g z q t) 96 : Nat) : Int) else -6
theorem desk_eq {x q : Int} (h : 0 ≤ x ∧ x < 64) {a d : Nat} (hd : d < 16) (hq : q = 16 * (a : Int) + (d : Int)) : (hallOf x = (a : Int) ∧ deskOf x = (d : Int)) ↔ x = q := by
  unfold hallOf deskOf
  rw [if_pos h, if_pos h]
  omega
theorem p_sittingAt {v vS : JV} {g z : Nat → Int} {c cr : Nat} (hS : RS vS g) (hB : Bd g) (hT : TS v g z c cr) (hz : Zb z) {a d : Nat} (ha : a < 4) (hd : d < 16) {t : Int} (ht : rng t) : f_X3_sittingAt v vS (I (a : Int)) (I (d : Int)) (I t) = some (I (atR g z (16 * (a : Int) + (d : Int)) t)) := by
  unfold f_X3_sittingAt f_X3_sittingAt_L3
  refine (lp_ff _ (fun k => I (k : Int)) (atB g z (16 * (a : Int) + (d : Int)) t) 96 (fun k => some (I (if k < 96 then (k : Int) else -6))) (fun rec k hk hP => ?_) (fun rec k hk hP => ?_) (fun rec => ?_) FU (by have := FU_ge; omega)).trans ?_
  · show f_X3_sittingAt_b3 v vS (I (a : Int)) (I (d : Int)) (I t) (fun x => rec x) (I (k : Int)) = _
    have hzk := hz k
    have hT1 := hT.1 k hk
    have hr1 : rng (hallOf (z k)) := by unfold hallOf; split <;> exact rng_of (by omega) (by omega)
    have hr2 : rng (deskOf (z k)) := by unfold deskOf; split <;> exact rng_of (by omega) (by omega)
    unfold f_X3_sittingAt_b3
    rw [show (96 : Int32) = I ((96 : Nat) : Int) from rfl, k_le (by omega) (by omega), if_neg (by omega), gd_t (inb_k hk (by omega)), I_k (by omega), gd_t (inb_k hk (by omega)), hT1.1, hT1.2.1, ite_eq hr1 (rng_of (by omega) (by omega)), ite_eq hr2 (rng_of (by omega) (by omega)), p_isNow hS hB hk ht]
    simp only [Option.bind_some, one_add]
    rw [ite_B1]
    by_cases e1 : hallOf (z k) = (a : Int)
    · rw [if_pos e1]
      by_cases e2 : deskOf (z k) = (d : Int)
      · rw [if_pos e2]
        have e3 : z k = 16 * (a : Int) + (d : Int) := (desk_eq (by
          by_cases c : 0 ≤ z k ∧ z k < 64
          · exact c
          · unfold hallOf at e1; rw [if_neg c] at e1; omega) hd rfl).mp ⟨e1, e2⟩
        unfold atB at hP
        rw [decide_eq_true e3, Bool.true_and] at hP
        rw [hP]
        rfl
      · rw [if_neg e2]
    · rw [if_neg e1]
  · show f_X3_sittingAt_b3 v vS (I (a : Int)) (I (d : Int)) (I t) (fun x => rec x) (I (k : Int)) = _
    have hzk := hz k
    have hT1 := hT.1 k hk
    unfold atB at hP
    rw [Bool.and_eq_true, decide_eq_true_eq] at hP
    have e := (desk_eq (x := z k) (by omega) hd rfl).mpr hP.1
    unfold f_X3_sittingAt_b3
    rw [show (96 : Int32) = I ((96 : Nat) : Int) from rfl, k_le (by omega) (by omega), if_neg (by omega), gd_t (inb_k hk (by omega)), I_k (by omega), gd_t (inb_k hk (by omega)), hT1.1, hT1.2.1, e.1, e.2, if_pos rfl, if_pos rfl, p_isNow hS hB hk ht]
    simp only [Option.bind_some]
    rw [hP.2, if_neg (show ¬ I (B1 true) = 0 by decide), if_pos hk]
  · rfl
  · rfl
def lastT (P : Nat → Bool) : Nat → Int
  | 0 => -6
  | n + 1 => if P n then (n : Int) else lastT P n
theorem lastT_bd (P : Nat → Bool) : ∀ n : Nat, -6 ≤ lastT P n ∧ lastT P n ≤ n
  | 0 => by show -6 ≤ (-6 : Int) ∧ (-6 : Int) ≤ ((0 : Nat) : Int); omega
  | n + 1 => by
    have h := lastT_bd P n
    show -6 ≤ (if P n then (n : Int) else lastT P n) ∧ (if P n then (n : Int) else lastT P n) ≤ ((n + 1 : Nat) : Int)
    split <;> omega
theorem lastT_no {P : Nat → Bool} : ∀ {n : Nat}, (∀ k : Nat, k < n → P k = false) → lastT P n = -6
  | 0, _ => rfl
  | n + 1, h => by
    show (if P n then _ else lastT P n) = _
    rw [h n (by omega), if_neg Bool.false_ne_true]
    exact lastT_no (fun k hk => h k (by omega))
theorem lastT_one {P : Nat → Bool} {j : Nat} : ∀ {n : Nat}, j < n → P j = true → (∀ k : Nat, k < n → P k = true → k = j) → lastT P n = (j : Int)
  | 0, h, _, _ => by omega
  | n + 1, h, hj, hu => by
    show (if P n then (n : Int) else lastT P n) = _
    by_cases c : P n = true
    · rw [if_pos c, hu n (by omega) c]
    · rw [if_neg c]
      have : j ≠ n := fun e => c (by rw [← e]; exact hj)
      exact lastT_one (by omega) hj (fun k hk => hu k (by omega))
theorem lastT_ff {P : Nat → Bool} {n : Nat} (hu : ∀ o k : Nat, P o = true → P k = true → o = k) : lastT P n = if ff P n < n then ((ff P n : Nat) : Int) else -6 := by
  by_cases c : ff P n < n
  · rw [if_pos c]
    have h := ff_hi P n c
    exact lastT_one c h (fun k hk hP => hu _ _ hP h)
  · rw [if_neg c]
    have h := ff_le P n
    exact lastT_no (fun k hk => ff_lo P n k (by omega))
theorem at_ref {g : Nat → Int} (hB : Bd g) {q t : Int} (hq : 0 ≤ q) : lastT (atB g (seatOf g) q t) 96 = atR g (seatOf g) q t := lastT_ff (fun o k h1 h2 => atB_one hB hq h1 h2)
