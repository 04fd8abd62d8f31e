/-! ===== (from the parts of whole) ===== -/
theorem plc_gap {g z : Nat → Int} {k : Nat} : plc g z k = -6 ∨ 0 ≤ plc g z k := by
  unfold plc roomS deskS
  split <;> split <;> omega
theorem zN_gap (g : Nat → Int) : ∀ n k : Nat, zN g n k = -6 ∨ (0 ≤ zN g n k ∧ st g k = true)
  | 0, _ => Or.inl rfl
  | n + 1, k => by
    have e : zN g (n + 1) = if due g n then zset (zN g n) (kn n) (plc g (zN g n) (kn n)) else zN g n := rfl
    rw [e]
    by_cases d : due g n = true
    · rw [if_pos d]
      by_cases c : k = kn n
      · rw [c, zset_at]
        have hs : st g (kn n) = true := ((Bool.and_eq_true _ _).mp d).2
        rcases plc_gap (g := g) (z := zN g n) (k := kn n) with h | h
        · exact Or.inl h
        · exact Or.inr ⟨h, hs⟩
      · rw [zset_ne c]
        exact zN_gap g n k
    · rw [if_neg d]
      exact zN_gap g n k
def Gap (g z : Nat → Int) : Prop := ∀ k : Nat, z k = -6 ∨ (0 ≤ z k ∧ st g k = true)
theorem p_isUnplaced {v vS : JV} {g z : Nat → Int} {c cr : Nat} (hS : RS vS g) (hB : Bd g) (hT : TS v g z c cr) (hz : Zb z) (hg : Gap g z) {i p : Nat} (hi : i < 16) (hin : (i : Int) < g 3) (hp : p < 6) : f_X3_isUnplaced v vS (I (i : Int)) (I (p : Int)) = some (I (B1 (unpz g z (6 * i + p)))) := by
  have hk : 6 * i + p < 96 := by omega
  have h1 := hT.1 (6 * i + p) hk
  have hzk := hz (6 * i + p)
  have hs : st g (6 * i + p) = bt (g (16 + 3 * i)) p := by rw [st_ip hp, decide_eq_true hin, Bool.true_and]; rfl
  unfold f_X3_isUnplaced
  rw [p_sittingNumber, p_sits hS hB hi hp]
  simp only [Option.bind_some]
  rw [ite_B1, ← hs]
  unfold unpz
  by_cases d : st g (6 * i + p) = true
  · rw [if_pos d, d, Bool.true_and, gd_t (inb_k hk (by omega)), I_k (by omega), h1.1, h1.2.2, show (-6 : Int32) = I (-6) from rfl]
    rcases hg (6 * i + p) with e | ⟨e, _⟩
    · rw [e, gd_t (inb_k hk (by omega))]; rfl
    · rw [decide_eq_false (by omega)]
      by_cases f : z (6 * i + p) < 64
      · have : hallOf (z (6 * i + p)) = z (6 * i + p) / 16 := by unfold hallOf; rw [if_pos ⟨e, f⟩]
        rw [this, ite_eq (rng_of (by omega) (by omega)) (rng_of (by omega) (by omega)), if_neg (by omega)]
        rfl
      · have : roomOf (z (6 * i + p)) = z (6 * i + p) - 64 := by unfold roomOf; rw [if_pos (by omega)]
        rw [this, gd_t (inb_k hk (by omega)), ite_eq (a := z (6 * i + p) - 64) (rng_of (by omega) (by omega)) (rng_of (by omega) (by omega)), if_neg (show ¬(z (6 * i + p) - 64 = -6) by omega)]
        split <;> rfl
  · rw [if_neg d, (Bool.not_eq_true _).mp d, Bool.false_and]
    rfl
theorem p_unplacedOf {v vS : JV} {g z : Nat → Int} {c cr : Nat} (hS : RS vS g) (hB : Bd g) (hT : TS v g z c cr) (hz : Zb z) (hg : Gap g z) {b : Nat} (hb : b < 6) : f_X3_unplacedOf v vS (I (b : Int)) = some (I ((sm (fun i => b1 (unpz g z (6 * i + b))) 16 : Nat) : Int)) := by
  have hn := np_le hB
  have hc := sm_cut (f := fun i => b1 (unpz g z (6 * i + b))) (n := np g) (16 - np g) (fun i h1 h2 => by
    show b1 (unpz g z (6 * i + b)) = 0
    unfold unpz
    rw [st_ip hb, decide_eq_false (by omega), Bool.false_and, Bool.false_and]
    rfl)
  rw [show np g + (16 - np g) = 16 by omega] at hc
  rw [hc]
  unfold f_X3_unplacedOf f_X3_unplacedOf_L4
  refine lp_run _ (fun i => (I ((sm (fun i => b1 (unpz g z (6 * i + b))) i : Nat) : Int), I (i : Int))) (np g) _ (fun rec i hi => ?_) (fun rec => ?_) FU (by have := FU_ge; omega)
  · show f_X3_unplacedOf_b4 v vS (I (b : Int)) (fun x y => rec (x, y)) (I ((sm (fun i => b1 (unpz g z (6 * i + b))) i : Nat) : Int)) (I (i : Int)) = rec (I ((sm (fun i => b1 (unpz g z (6 * i + b))) i + b1 (unpz g z (6 * i + b)) : Nat) : Int), I ((i + 1 : Nat) : Int))
    unfold f_X3_unplacedOf_b4
    rw [hS.2.2.2.2.1, ← hn.2, k_le (by omega) (by omega), if_neg (by omega), p_isUnplaced hS hB hT hz hg (by omega) (by omega) hb]
    simp only [Option.bind_some, one_add]
    rw [ite_B1]
    cases unpz g z (6 * i + b) <;> rfl
  · show f_X3_unplacedOf_b4 v vS (I (b : Int)) (fun x y => rec (x, y)) (I ((sm (fun i => b1 (unpz g z (6 * i + b))) (np g) : Nat) : Int)) (I (np g : Int)) = _
    unfold f_X3_unplacedOf_b4
    rw [hS.2.2.2.2.1, ← hn.2, k_le (by omega) (by omega), if_pos (by omega)]
