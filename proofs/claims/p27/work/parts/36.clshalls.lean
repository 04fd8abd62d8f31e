/-! ===== (from the parts of whole) ===== -/
theorem hmO_cut {z : Nat → Int} {b n : Nat} : ∀ d : Nat, (∀ i : Nat, n ≤ i → i < n + d → z (6 * i + b) = -6) → hmO z b (n + d) = hmO z b n
  | 0, _ => rfl
  | d + 1, h => by
    show hst z (6 * (n + d) + b) (hmO z b (n + d)) = hmO z b n
    unfold hst
    rw [h (n + d) (by omega) (by omega)]
    exact hmO_cut d (fun i a b => h i a (by omega))
theorem gap_out {g z : Nat → Int} (hg : Gap g z) {k : Nat} (h : st g k = false) : z k = -6 := by
  rcases hg k with e | ⟨_, e⟩
  · exact e
  · rw [h] at e; exact absurd e Bool.false_ne_true
theorem p_hallsOf {v vS : JV} {g z : Nat → Int} {c cr : Nat} (hS : RS vS g) (hB : Bd g) (hT : TS v g z c cr) (hz : Zb z) (hg : Gap g z) {b : Nat} (hb : b < 6) : f_X3_hallsOf v vS (I (b : Int)) = some (hmO z b 16) := by
  have hn := np_le hB
  have hc := hmO_cut (z := z) (b := b) (n := np g) (16 - np g) (fun i h1 h2 => gap_out hg (by
    rw [st_ip hb, decide_eq_false (by omega), Bool.false_and]))
  rw [show np g + (16 - np g) = 16 by omega] at hc
  rw [hc]
  unfold f_X3_hallsOf f_X3_hallsOf_L4
  refine lp_run _ (fun i => (hmO z b i, I (i : Int))) (np g) _ (fun rec i hi => ?_) (fun rec => ?_) FU (by have := FU_ge; omega)
  · show f_X3_hallsOf_b4 v vS (I (b : Int)) (fun x y => rec (x, y)) (hmO z b i) (I (i : Int)) = rec (hst z (6 * i + b) (hmO z b i), I ((i + 1 : Nat) : Int))
    have hk : 6 * i + b < 96 := by omega
    have h1 := hT.1 (6 * i + b) hk
    have hzk := hz (6 * i + b)
    unfold f_X3_hallsOf_b4
    rw [hS.2.2.2.2.1, ← hn.2, k_le (by omega) (by omega), if_neg (by omega), p_sittingNumber]
    simp only [Option.bind_some, one_add]
    rw [gd_t (inb_k hk (by omega)), I_k (by omega), h1.1, show (-6 : Int32) = I (-6) from rfl]
    unfold hst
    by_cases f : 0 ≤ z (6 * i + b) ∧ z (6 * i + b) < 64
    · have e : hallOf (z (6 * i + b)) = z (6 * i + b) / 16 := by unfold hallOf; rw [if_pos f]
      rw [e, ite_eq (rng_of (by omega) (by omega)) (rng_of (by omega) (by omega)), if_neg (by omega), decide_eq_true f.1, decide_eq_true (show z (6 * i + b) ≤ 63 by omega)]
      rfl
    · have e : hallOf (z (6 * i + b)) = -6 := by unfold hallOf; rw [if_neg f]
      rw [e, if_pos rfl]
      have e2 : (decide (0 ≤ z (6 * i + b)) && decide (z (6 * i + b) ≤ 63)) = false := by
        by_cases h0 : 0 ≤ z (6 * i + b)
        · rw [decide_eq_false (show ¬ z (6 * i + b) ≤ 63 by omega), Bool.and_false]
        · rw [decide_eq_false h0, Bool.false_and]
      rw [e2]
      rfl
  · show f_X3_hallsOf_b4 v vS (I (b : Int)) (fun x y => rec (x, y)) (hmO z b (np g)) (I (np g : Int)) = _
    unfold f_X3_hallsOf_b4
    rw [hS.2.2.2.2.1, ← hn.2, k_le (by omega) (by omega), if_pos (by omega)]
