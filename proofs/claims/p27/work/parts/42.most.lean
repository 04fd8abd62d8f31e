/-! ===== (from the parts of whole) ===== -/
theorem sm_mono {f f' : Nat → Nat} : ∀ {n : Nat}, (∀ k : Nat, k < n → f k ≤ f' k) → sm f n ≤ sm f' n
  | 0, _ => Nat.le_refl _
  | n + 1, h => by
    have h1 := sm_mono (n := n) (fun k hk => h k (by omega))
    have h2 := h n (by omega)
    show sm f n + f n ≤ sm f' n + f' n
    omega
theorem sm_pos {f : Nat → Nat} : ∀ {n : Nat}, 0 < sm f n → ∃ k : Nat, k < n ∧ 0 < f k
  | 0, h => absurd h (by show ¬ 0 < 0; omega)
  | n + 1, h => by
    have h0 : 0 < sm f n + f n := h
    by_cases c : 0 < f n
    · exact ⟨n, by omega, c⟩
    · obtain ⟨k, h1, h2⟩ := sm_pos (f := f) (n := n) (by omega)
      exact ⟨k, by omega, h2⟩
def cnt (g : Nat → Int) (Q : Nat → Bool) (t : Int) : Nat := sm (fun k => b1 (Q k && ovr g t k)) 96
theorem cnt_top {g : Nat → Int} (hB : Bd g) (Q : Nat → Bool) (t : Int) (h : 0 < cnt g Q t) : ∃ k : Nat, k < 96 ∧ Q k = true ∧ cnt g Q t ≤ cnt g Q (bk g k) := by
  obtain ⟨k0, h1, h2⟩ := sm_pos h
  obtain ⟨l1, l2, l3⟩ := li_spec (fun k => Q k && ovr g t k) (bk g) (-1) 96
  have hP0 : (Q k0 && ovr g t k0) = true := by
    cases hq : (Q k0 && ovr g t k0)
    · skip
      rw [hq] at h2
      exact absurd h2 (by show ¬ 0 < 0; omega)
    · rfl
  have hk0 := l2 k0 h1 hP0
  have hb0 := bk_bd hB h1
  rcases l3 with e | ⟨i, hi, hP, e⟩
  · omega
  · have hP' := (Bool.and_eq_true _ _).mp hP
    refine ⟨i, hi, hP'.1, sm_mono (fun k hk => ?_)⟩
    show b1 (Q k && ovr g t k) ≤ b1 (Q k && ovr g (bk g i) k)
    by_cases c : (Q k && ovr g t k) = true
    · have hm := l2 k hk c
      rw [e] at hm
      have c' := (Bool.and_eq_true _ _).mp c
      have o1 := (Bool.and_eq_true _ _).mp c'.2
      have o2 := (Bool.and_eq_true _ _).mp hP'.2
      have a1 := of_decide_eq_true o1.2
      have a2 := of_decide_eq_true o2.1
      have : (Q k && ovr g (bk g i) k) = true := by
        rw [c'.1, Bool.true_and]
        unfold ovr
        rw [decide_eq_true hm, decide_eq_true (show bk g i < ek g k by omega)]
        rfl
      rw [c, this]
      exact Nat.le_refl _
    · rw [(Bool.not_eq_true _).mp c]
      exact Nat.zero_le _
def mostS (g : Nat → Int) (C : Int → Nat) : Int := li (st g) (fun k => ((C (bk g k) : Nat) : Int)) 0 96
def mostP (g : Nat → Int) (C : Int → Nat) : Int := li (fun _ => true) (fun b => ((C (bg g b) : Nat) : Int)) 0 6
theorem most_eq {g : Nat → Int} (hB : Bd g) (Q : Nat → Bool) (hQ : ∀ k : Nat, Q k = true → st g k = true) : mostP g (cnt g Q) = mostS g (cnt g Q) := by
  obtain ⟨a1, a2, a3⟩ := li_spec (fun _ => true) (fun b => ((cnt g Q (bg g b) : Nat) : Int)) 0 6
  obtain ⟨b1, b2, b3⟩ := li_spec (st g) (fun k => ((cnt g Q (bk g k) : Nat) : Int)) 0 96
  unfold mostP mostS
  refine Int.le_antisymm ?_ ?_
  · rcases a3 with e | ⟨b, hb, _, e⟩
    · rw [e]; exact b1
    · rw [e]
      by_cases c : 0 < cnt g Q (bg g b)
      · obtain ⟨k, hk, hq, hle⟩ := cnt_top hB Q _ c
        have := b2 k hk (hQ k hq)
        omega
      · omega
  · rcases b3 with e | ⟨k, hk, hP, e⟩
    · rw [e]; exact a1
    · rw [e]
      have := a2 (k % 6) (by omega) rfl
      exact this
theorem inH_st {g z : Nat → Int} (hg : Gap g z) {h k : Nat} (hi : inH z h k = true) : st g k = true := by
  unfold inH at hi
  rw [Bool.and_eq_true, decide_eq_true_eq, decide_eq_true_eq] at hi
  rcases hg k with e | ⟨_, e⟩
  · omega
  · exact e
theorem mostP_loop {A : Type} {g : Nat → Int} (C : Int → Nat) (hb : ∀ t : Int, C t ≤ 96) (b : Nat) : (0 ≤ li (fun _ => true) (fun b => ((C (bg g b) : Nat) : Int)) 0 b ∧ li (fun _ => true) (fun b => ((C (bg g b) : Nat) : Int)) 0 b ≤ 96) ∧ mx (I (li (fun _ => true) (fun b => ((C (bg g b) : Nat) : Int)) 0 b)) (I ((C (bg g b) : Nat) : Int)) = I (li (fun _ => true) (fun b => ((C (bg g b) : Nat) : Int)) 0 (b + 1)) := by
  have h1 := li_bd (P := fun _ => true) (f := fun b => ((C (bg g b) : Nat) : Int)) (z0 := 0) (a := 0) (c := 96) (n := b) ⟨by omega, by omega⟩ (fun j hj _ => by have := hb (bg g j); omega)
  have h2 := hb (bg g b)
  refine ⟨h1, ?_⟩
  rw [mx_I (rng_of (by omega) (by omega)) (rng_of (by omega) (by omega))]
  show _ = I (if true && decide (li (fun _ => true) (fun b => ((C (bg g b) : Nat) : Int)) 0 b < ((C (bg g b) : Nat) : Int)) then ((C (bg g b) : Nat) : Int) else li (fun _ => true) (fun b => ((C (bg g b) : Nat) : Int)) 0 b)
  simp only [Bool.true_and, decide_eq_true_eq]
theorem p_mostReaders {v : JV} {g : Nat → Int} (hS : RS v g) (hB : Bd g) : f_X2_mostReaders v = some (I (mostS g (rdm g))) := by
  have he := most_eq hB (rdq g) (fun k h => ((Bool.and_eq_true _ _).mp h).1)
  have he2 : mostP g (rdm g) = mostS g (rdm g) := he
  rw [← he2]
  unfold f_X2_mostReaders f_X2_mostReaders_L4 mostP
  refine lp_run _ (fun b => (I (li (fun _ => true) (fun b => ((rdm g (bg g b) : Nat) : Int)) 0 b), I (b : Int))) 6 _ (fun rec b hb => ?_) (fun rec => ?_) FU (by have := FU_ge; omega)
  · show f_X2_mostReaders_b4 v (fun x y => rec (x, y)) (I (li (fun _ => true) (fun b => ((rdm g (bg g b) : Nat) : Int)) 0 b)) (I (b : Int)) = _
    have h3 := bg_bd hB hb
    unfold f_X2_mostReaders_b4
    rw [c6, k_le (by omega) (by omega), if_neg (by omega), p_beginOf hS hb]
    simp only [Option.bind_some]
    rw [p_readersAt hS hB (rng_of (by omega) (by omega))]
    simp only [Option.bind_some, one_add]
    rw [(mostP_loop (A := Nat) (g := g) (rdm g) (fun t => rdm_le _ _) b).2]
  · rfl
theorem p_mostTakenIn {v vS : JV} {g z : Nat → Int} {c cr : Nat} (hS : RS vS g) (hB : Bd g) (hT : TS v g z c cr) (hz : Zb z) (hg : Gap g z) {h : Nat} (hh : h < 4) : f_X3_mostTakenIn v vS (I (h : Int)) = some (I (mostS g (tkn g z h))) := by
  have he := most_eq hB (inH z h) (fun k hk => inH_st hg hk)
  have he2 : mostP g (tkn g z h) = mostS g (tkn g z h) := he
  rw [← he2]
  unfold f_X3_mostTakenIn f_X3_mostTakenIn_L4 mostP
  refine lp_run _ (fun b => (I (li (fun _ => true) (fun b => ((tkn g z h (bg g b) : Nat) : Int)) 0 b), I (b : Int))) 6 _ (fun rec b hb => ?_) (fun rec => ?_) FU (by have := FU_ge; omega)
  · show f_X3_mostTakenIn_b4 v vS (I (h : Int)) (fun x y => rec (x, y)) (I (li (fun _ => true) (fun b => ((tkn g z h (bg g b) : Nat) : Int)) 0 b)) (I (b : Int)) = _
    have h3 := bg_bd hB hb
    unfold f_X3_mostTakenIn_b4
    rw [c6, k_le (by omega) (by omega), if_neg (by omega), p_beginOf hS hb]
    simp only [Option.bind_some]
    rw [p_takenIn hS hB hT hz hh (rng_of (by omega) (by omega))]
    simp only [Option.bind_some, one_add]
    rw [(mostP_loop (A := Nat) (g := g) (tkn g z h) (fun t => tkn_le _ _ _ _) b).2]
  · rfl
