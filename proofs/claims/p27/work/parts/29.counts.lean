/-! ===== (from the parts of whole) ===== -/
theorem sm_congr {f f' : Nat → Nat} : ∀ {n : Nat}, (∀ k : Nat, k < n → f k = f' k) → sm f n = sm f' n
  | 0, _ => rfl
  | n + 1, h => by
    show sm f n + f n = sm f' n + f' n
    rw [sm_congr (fun k hk => h k (by omega)), h n (by omega)]
theorem sm_upd {f f' : Nat → Nat} {k0 : Nat} : ∀ {n : Nat}, k0 < n → (∀ k : Nat, k < n → k ≠ k0 → f k = f' k) → sm f' n + f k0 = sm f n + f' k0
  | 0, h, _ => by omega
  | n + 1, h, hk => by
    show sm f' n + f' n + f k0 = sm f n + f n + f' k0
    by_cases c : k0 = n
    · subst c
      have := sm_congr (f := f) (f' := f') (n := k0) (fun k a => hk k (by omega) (by omega))
      omega
    · have h1 := sm_upd (n := n) (by omega) (fun k a b => hk k (by omega) b)
      have h2 := hk n (by omega) (by omega)
      omega
theorem sm_bd {f : Nat → Nat} {c : Nat} : ∀ {n : Nat}, (∀ k : Nat, k < n → f k ≤ c) → sm f n ≤ c * n
  | 0, _ => Nat.zero_le _
  | n + 1, h => by
    have h1 := sm_bd (n := n) (fun k hk => h k (by omega))
    have h2 := h n (by omega)
    show sm f n + f n ≤ c * (n + 1)
    rw [Nat.mul_succ]
    omega
def ord (g : Nat → Int) (k : Nat) : Nat := (g (4 + 2 * (k % 6))).toNat * 96 + k % 6 * 16 + k / 6
def dn (g : Nat → Int) (n k : Nat) : Bool := st g k && decide (ord g k < n)
theorem ord_kn {g : Nat → Int} (hB : Bd g) {k n : Nat} (hk : k < 96) (hs : st g k = true) (h : ord g k = n) : kn n = k ∧ due g n = true := by
  have h1 := (hB.2.2.2.2.1 (k % 6) (by omega)).1
  unfold ord at h
  have e0 := kn_ix (t := (g (4 + 2 * (k % 6))).toNat) (show k % 6 < 6 by omega) (show k / 6 < 16 by omega)
  rw [h] at e0
  have e1 : kn n = k := by omega
  refine ⟨e1, ?_⟩
  unfold due
  rw [e1, hs, decide_eq_true (by omega)]
  rfl
theorem due_ord {g : Nat → Int} {n : Nat} (h : due g n = true) : ord g (kn n) = n ∧ st g (kn n) = true := by
  have h1 := due_start h
  have h2 := kn_bd n
  refine ⟨?_, ?_⟩
  · unfold ord
    rw [h1, nn, h2.2.1, h2.2.2]
    omega
  · unfold due at h
    rw [Bool.and_eq_true] at h
    exact h.2
def cN (g : Nat → Int) (R : Nat → Bool) (n : Nat) : Nat := sm (fun k => b1 (dn g n k && (R k && (zN g n k == -6)))) 96
theorem cN_step {g : Nat → Int} (hB : Bd g) (R : Nat → Bool) (n : Nat) : cN g R (n + 1) = cN g R n + (if due g n && R (kn n) then m6 (plc g (zN g n) (kn n)) else 0) := by
  by_cases hd : due g n = true
  · obtain ⟨o1, o2⟩ := due_ord hd
    have hz1 : zN g (n + 1) = zset (zN g n) (kn n) (plc g (zN g n) (kn n)) := by show (if due g n then _ else _) = _; rw [if_pos hd]
    have h := sm_upd (f := fun k => b1 (dn g n k && (R k && (zN g n k == -6)))) (f' := fun k => b1 (dn g (n + 1) k && (R k && (zN g (n + 1) k == -6)))) (kn_bd n).1 (fun k hk hne => by
      rw [hz1, zset_ne hne]
      have : dn g (n + 1) k = dn g n k := by
        unfold dn
        cases hs : st g k
        · rfl
        · by_cases c : ord g k = n
          · exact absurd (ord_kn hB hk hs c).1.symm hne
          · by_cases c2 : ord g k < n
            · rw [decide_eq_true c2, decide_eq_true (by omega)]
            · rw [decide_eq_false c2, decide_eq_false (by omega)]
      rw [this])
    have hk0 : dn g n (kn n) = false := by
      unfold dn
      rw [decide_eq_false (by omega), Bool.and_false]
    have hk1 : dn g (n + 1) (kn n) = true := by
      unfold dn
      rw [decide_eq_true (by omega), o2]; rfl
    rw [hk0, hk1, hz1, zset_at] at h
    rw [hd, Bool.true_and]
    unfold cN
    rw [hz1]
    have e : b1 (true && (R (kn n) && (plc g (zN g n) (kn n) == -6))) = (if R (kn n) = true then m6 (plc g (zN g n) (kn n)) else 0) := by
      unfold m6
      by_cases c : plc g (zN g n) (kn n) = -6
      · rw [if_pos c, c]; cases R (kn n) <;> rfl
      · rw [if_neg c, show (plc g (zN g n) (kn n) == -6) = false by simpa using c]; cases R (kn n) <;> rfl
    rw [e] at h
    simpa [b1] using h
  · have hd : due g n = false := by simpa using hd
    have hz1 : zN g (n + 1) = zN g n := by show (if due g n then _ else _) = _; rw [hd]; rfl
    have e : ∀ k : Nat, k < 96 → b1 (dn g (n + 1) k && (R k && (zN g (n + 1) k == -6))) = b1 (dn g n k && (R k && (zN g n k == -6))) := by
      intro k hk
      rw [hz1]
      have : dn g (n + 1) k = dn g n k := by
        unfold dn
        cases hs : st g k
        · rfl
        · by_cases c : ord g k = n
          · rw [(ord_kn hB hk hs c).2] at hd; cases hd
          · by_cases c2 : ord g k < n
            · rw [decide_eq_true c2, decide_eq_true (by omega)]
            · rw [decide_eq_false c2, decide_eq_false (by omega)]
      rw [this]
    rw [hd, Bool.false_and, if_neg Bool.false_ne_true]
    unfold cN
    have q := sm_congr (f := fun k => b1 (dn g (n + 1) k && (R k && (zN g (n + 1) k == -6)))) (f' := fun k => b1 (dn g n k && (R k && (zN g n k == -6)))) (n := 96) e
    rw [q, Nat.add_zero]
theorem cN_0 (g : Nat → Int) (R : Nat → Bool) : cN g R 0 = 0 := by
  have h := sm_bd (c := 0) (n := 96) (f := fun k => b1 (dn g 0 k && (R k && (zN g 0 k == -6)))) (fun k _ => by
    unfold dn
    rw [decide_eq_false (by omega), Bool.and_false]
    exact Nat.le_refl _)
  unfold cN
  omega
theorem unN_cN {g : Nat → Int} (hB : Bd g) : ∀ n : Nat, unN g n = cN g (fun _ => true) n
  | 0 => (cN_0 g _).symm
  | n + 1 => by
    rw [cN_step hB, ← unN_cN hB n]
    show unN g n + _ = _
    cases due g n <;> rfl
theorem urN_cN {g : Nat → Int} (hB : Bd g) : ∀ n : Nat, urN g n = cN g (rd g) n
  | 0 => (cN_0 g _).symm
  | n + 1 => by
    rw [cN_step hB, ← urN_cN hB n]
    rfl
/-- sittings without a place: all (R true), those with a reader -/
def wo (g : Nat → Int) (R : Nat → Bool) : Nat := sm (fun k => b1 (st g k && (R k && (seatOf g k == -6)))) 96
theorem cN_all {g : Nat → Int} (R : Nat → Bool) {n : Nat} (hn : ∀ k : Nat, k < 96 → ord g k < n) : cN g R n = sm (fun k => b1 (st g k && (R k && (zN g n k == -6)))) 96 := by
  have e : ∀ k : Nat, k < 96 → b1 (dn g n k && (R k && (zN g n k == -6))) = b1 (st g k && (R k && (zN g n k == -6))) := by
    intro k hk
    unfold dn
    rw [decide_eq_true (hn k hk), Bool.and_true]
  exact sm_congr (f := fun k => b1 (dn g n k && (R k && (zN g n k == -6)))) (f' := fun k => b1 (st g k && (R k && (zN g n k == -6)))) (n := 96) e
theorem cN_wo {g : Nat → Int} (hB : Bd g) (R : Nat → Bool) : cN g R 1920 = wo g R := cN_all R (fun k hk => by
  have h1 := (hB.2.2.2.2.1 (k % 6) (by omega)).1
  unfold ord
  omega)
theorem wo_le (g : Nat → Int) (R : Nat → Bool) : wo g R ≤ 96 := by
  have := sm_le (c := 1) (f := fun k => b1 (st g k && (R k && (seatOf g k == -6)))) (fun k => b1_le _) 96
  unfold wo
  omega
theorem TN_wo {v : JV} {g : Nat → Int} (hB : Bd g) (h : TN v g 1920) : v 4 0 = I (wo g (fun _ => true) : Int) ∧ v 5 0 = I (wo g (rd g) : Int) := by
  obtain ⟨-, -, -, -, h5, h6⟩ := h
  rw [h5, h6, unN_cN hB, urN_cN hB, cN_wo hB, cN_wo hB]
  exact ⟨rfl, rfl⟩
