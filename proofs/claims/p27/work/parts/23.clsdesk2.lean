/-! ===== (from the parts of whole) ===== -/
def rowQ (P : Nat → Bool) (c r : Nat) : Bool := decide (ff (fun x => P (c * r + x)) c < c)
theorem ff_flat {P : Nat → Bool} {c r : Nat} (hc : 0 < c) : ff P (r * c) = (if ff (rowQ P c) r < r then c * ff (rowQ P c) r + ff (fun x => P (c * ff (rowQ P c) r + x)) c else r * c) := by
  have lo : ∀ i : Nat, i < ff (rowQ P c) r → ∀ x : Nat, x < c → P (c * i + x) = false := by
    intro i hi x hx
    have h1 := of_decide_eq_false (ff_lo (rowQ P c) r i hi)
    exact ff_lo (fun x => P (c * i + x)) c x (by omega)
  have split : ∀ j : Nat, j = c * (j / c) + j % c := fun j => (Nat.div_add_mod j c).symm
  by_cases h : ff (rowQ P c) r < r
  · rw [if_pos h]
    have h1 := of_decide_eq_true (ff_hi (rowQ P c) r h)
    generalize hR : ff (rowQ P c) r = R at h h1 lo ⊢
    generalize hX : ff (fun x => P (c * R + x)) c = X at h1 ⊢
    have h2 : P (c * R + X) = true := by
      have := ff_hi (fun x => P (c * R + x)) c (by rw [hX]; exact h1)
      rw [hX] at this
      exact this
    refine ff_of ?_ h2 (fun j hj => ?_)
    · have := Nat.mul_le_mul_left c (show R + 1 ≤ r by omega)
      rw [Nat.mul_succ] at this
      rw [Nat.mul_comm r c]
      omega
    · have hm : j % c < c := Nat.mod_lt _ hc
      have hs := split j
      by_cases e : j / c = R
      · rw [hs, e]
        rw [hs, e] at hj
        exact ff_lo (fun x => P (c * R + x)) c (j % c) (by omega)
      · have : j / c < R := by
          by_cases e2 : R < j / c
          · have := Nat.mul_le_mul_left c (show R + 1 ≤ j / c by omega)
            rw [Nat.mul_succ] at this
            omega
          · omega
        rw [hs]
        exact lo _ this _ hm
  · rw [if_neg h]
    refine ff_none (fun j hj => ?_)
    have hm : j % c < c := Nat.mod_lt _ hc
    have hs := split j
    have hl := ff_le (rowQ P c) r
    have : j / c < r := (Nat.div_lt_iff_lt_mul hc).mpr hj
    rw [hs]
    exact lo _ (by omega) _ hm
def Last (g z : Nat → Int) (q x : Int) : Prop := (x = -1000 ∧ ∀ o : Nat, o < 96 → z o ≠ q) ∨ ((∃ o : Nat, o < 96 ∧ z o = q ∧ x = ek g o) ∧ ∀ o : Nat, o < 96 → z o = q → ek g o ≤ x)
theorem Last.bd {g z : Nat → Int} (hB : Bd g) {q x : Int} (h : Last g z q x) : -1000 ≤ x ∧ x ≤ 1000 := by
  rcases h with ⟨h, -⟩ | ⟨⟨o, h1, -, h2⟩, -⟩
  · omega
  · have := ek_bd hB h1
    have := bk_bd hB h1
    omega
theorem last_fre {g z : Nat → Int} (hB : Bd g) {q x : Int} {k : Nat} (hk : k < 96) (h : Last g z q x) (hp : ∀ o : Nat, o < 96 → z o = q → bk g o ≤ bk g k) : fre g z q k = decide (x ≤ bk g k - g 2) := by
  have k1 := bk_bd hB hk
  have k2 := ek_bd hB hk
  have hg := hB.2.2.1
  have key : fre g z q k = true ↔ x ≤ bk g k - g 2 := by
    unfold fre
    rw [allB_iff]
    constructor
    · intro ha
      rcases h with ⟨h, -⟩ | ⟨⟨o, h1, h2, h3⟩, -⟩
      · omega
      · have h4 := ha o h1
        have h5 := hp o h1 h2
        unfold okO apart at h4
        rw [show (z o == q) = true by simpa using h2] at h4
        simp only [Bool.not_true, Bool.false_or, Bool.or_eq_true, decide_eq_true_eq] at h4
        omega
    · intro hx o ho
      unfold okO apart
      by_cases c : z o = q
      · rw [show (z o == q) = true by simpa using c]
        simp only [Bool.not_true, Bool.false_or, Bool.or_eq_true, decide_eq_true_eq]
        rcases h with ⟨-, h⟩ | ⟨-, h⟩
        · exact absurd c (h o ho)
        · have := h o ho c
          omega
      · rw [show (z o == q) = false by simpa using c]
        rfl
  by_cases c : x ≤ bk g k - g 2
  · rw [decide_eq_true c]; exact key.mpr c
  · rw [decide_eq_false c]
    cases hf : fre g z q k
    · rfl
    · exact absurd (key.mp hf) c
theorem p_firstDesk {v vS : JV} {g z : Nat → Int} (hS : RS vS g) (hB : Bd g) (hf : PM (v 7) z) (hE : ∀ q : Nat, q < 64 → ∃ x : Int, v 6 q = I x ∧ Last g z (q : Int) x) {k h : Nat} (hk : k < 96) (hh : h < 4) (hp : ∀ o : Nat, o < 96 → z o ≠ -6 → bk g o ≤ bk g k) :
    f_X3_firstDesk v vS (I (h : Int)) (I ((k % 6 : Nat) : Int)) = some (I (if ff (dP g z k h) (rw_ g h * cw_ g h) < rw_ g h * cw_ g h then ((ff (dP g z k h) (rw_ g h * cw_ g h) : Nat) : Int) else -6)) := by
  have hc := rc_bd hB hh
  have hm2 := rc_mul hB hh
  have h0 := hB.1
  have e16 : (16 : Int32) = I ((16 : Nat) : Int) := rfl
  have St : ∀ (r2 r18 : Int32 → Option Int32) (r x : Nat), r < rw_ g h → x < cw_ g h → f_X3_firstDesk_b18 v vS r2 (I (h : Int)) (I ((k % 6 : Nat) : Int)) (I (r : Int)) r18 (I (x : Int)) = (if dP g z k h (cw_ g h * r + x) then some (I ((cw_ g h * r + x : Nat) : Int)) else r18 (I ((x + 1 : Nat) : Int))) := by
    intro r2 r18 r x hr hx
    have hrc : cw_ g h * r + cw_ g h ≤ cw_ g h * rw_ g h := by
      have := Nat.mul_le_mul_left (cw_ g h) (show r + 1 ≤ rw_ g h by omega)
      rw [Nat.mul_succ] at this
      exact this
    rw [Nat.mul_comm] at hm2
    obtain ⟨y, hy1, hy2⟩ := hE (16 * h + (cw_ g h * r + x)) (by omega)
    have hyb := hy2.bd hB
    have hfr := last_fre hB hk hy2 (fun o ho hz => hp o ho (by rw [hz]; omega))
    unfold f_X3_firstDesk_b18
    rw [gd_t (inb_k hh (by omega)), gd_t (inb_k hh (by omega)), I_k (by omega), (hS.2.2.2.1 h hh).2, hc.2.2.2, k_le (by omega) (by omega), if_neg (by omega), e16, nat_mul, nat_mul, nat_add, nat_add, gd_t (inb_k (by omega) (by omega)), I_k (by omega), hy1, p_isEarlyEnough hS hB hyb (by omega), p_isBeside hS hB hf hh hr hx (by omega), hS.1 0 (by omega)]
    simp only [Option.bind_some]
    rw [ite_B1, ite_B1, one_add, show (if I (g 0) = 0 then some (I ((cw_ g h * r + x : Nat) : Int)) else if (!aloneB g z h (cw_ g h * r + x) (k % 6)) = true then r18 (I ((x + 1 : Nat) : Int)) else some (I ((cw_ g h * r + x : Nat) : Int))) = _ from ite_eq (a := g 0) (b := 0) (rng_of (by omega) (by omega)) (rng_of (by omega) (by omega))]
    unfold dP
    rw [hfr]
    show (if decide (y ≤ bk g k - g 2) = true then _ else _) = _
    cases decide (y ≤ bk g k - g 2)
    · rfl
    · by_cases c : g 0 = 0
      · rw [if_pos rfl, if_pos c, decide_eq_true c]; rfl
      · rw [if_pos rfl, if_neg c, decide_eq_false c]
        cases aloneB g z h (cw_ g h * r + x) (k % 6) <;> rfl
  unfold f_X3_firstDesk f_X3_firstDesk_L2
  refine (lp_ff _ (fun r => I (r : Int)) (rowQ (dP g z k h) (cw_ g h)) (rw_ g h) (fun r => if r < rw_ g h then some (I ((cw_ g h * r + ff (fun x => dP g z k h (cw_ g h * r + x)) (cw_ g h) : Nat) : Int)) else some (I (-6))) (fun rec r hr hP => ?_) (fun rec r hr hP => ?_) (fun rec => ?_) FU (by have := FU_ge; omega)).trans ?_
  all_goals first
    | skip
  · show f_X3_firstDesk_b2 v vS (I (h : Int)) (I ((k % 6 : Nat) : Int)) (fun x => rec x) (I (r : Int)) = _
    have hP := of_decide_eq_false hP
    unfold f_X3_firstDesk_b2 f_X3_firstDesk_L18
    rw [gd_t (inb_k hh (by omega)), I_k (by omega), (hS.2.2.2.1 h hh).1, hc.2.2.1, k_le (by omega) (by omega), if_neg (by omega)]
    refine (lp_ff _ (fun x => I (x : Int)) (fun x => dP g z k h (cw_ g h * r + x)) (cw_ g h) (fun x => if x < cw_ g h then some (I ((cw_ g h * r + x : Nat) : Int)) else rec (I ((r + 1 : Nat) : Int))) (fun rec2 x hx hPx => ?_) (fun rec2 x hx hPx => ?_) (fun rec2 => ?_) FU (by have := FU_ge; omega)).trans ?_
    · exact (St _ (fun y => rec2 y) r x hr hx).trans (by rw [hPx]; rfl)
    · exact (St _ (fun y => rec2 y) r x hr hx).trans (by rw [hPx, if_pos rfl, if_pos hx])
    · show f_X3_firstDesk_b18 v vS (fun x => rec x) (I (h : Int)) (I ((k % 6 : Nat) : Int)) (I (r : Int)) (fun x => rec2 x) (I (cw_ g h : Int)) = _
      unfold f_X3_firstDesk_b18
      rw [gd_t (inb_k hh (by omega)), I_k (by omega), (hS.2.2.2.1 h hh).2, hc.2.2.2, k_le (by omega) (by omega), if_pos (by omega), if_neg (by omega), one_add]
    · rw [if_neg hP]
  · show f_X3_firstDesk_b2 v vS (I (h : Int)) (I ((k % 6 : Nat) : Int)) (fun x => rec x) (I (r : Int)) = _
    have hP := of_decide_eq_true hP
    unfold f_X3_firstDesk_b2 f_X3_firstDesk_L18
    rw [gd_t (inb_k hh (by omega)), I_k (by omega), (hS.2.2.2.1 h hh).1, hc.2.2.1, k_le (by omega) (by omega), if_neg (by omega)]
    refine (lp_ff _ (fun x => I (x : Int)) (fun x => dP g z k h (cw_ g h * r + x)) (cw_ g h) (fun x => if x < cw_ g h then some (I ((cw_ g h * r + x : Nat) : Int)) else rec (I ((r + 1 : Nat) : Int))) (fun rec2 x hx hPx => ?_) (fun rec2 x hx hPx => ?_) (fun rec2 => ?_) FU (by have := FU_ge; omega)).trans ?_
    · exact (St _ (fun y => rec2 y) r x hr hx).trans (by rw [hPx]; rfl)
    · exact (St _ (fun y => rec2 y) r x hr hx).trans (by rw [hPx, if_pos rfl, if_pos hx])
    · show f_X3_firstDesk_b18 v vS (fun x => rec x) (I (h : Int)) (I ((k % 6 : Nat) : Int)) (I (r : Int)) (fun x => rec2 x) (I (cw_ g h : Int)) = _
      unfold f_X3_firstDesk_b18
      rw [gd_t (inb_k hh (by omega)), I_k (by omega), (hS.2.2.2.1 h hh).2, hc.2.2.2, k_le (by omega) (by omega), if_pos (by omega), if_neg (by omega), one_add]
    · rw [if_pos hP, if_pos hr]
  · show f_X3_firstDesk_b2 v vS (I (h : Int)) (I ((k % 6 : Nat) : Int)) (fun x => rec x) (I (rw_ g h : Int)) = _
    unfold f_X3_firstDesk_b2
    rw [gd_t (inb_k hh (by omega)), I_k (by omega), (hS.2.2.2.1 h hh).1, hc.2.2.1, k_le (by omega) (by omega), if_pos (by omega), if_neg (by omega)]
    rfl
  · have hfl := ff_flat (P := dP g z k h) (c := cw_ g h) (r := rw_ g h) (by omega)
    by_cases c : ff (rowQ (dP g z k h) (cw_ g h)) (rw_ g h) < rw_ g h
    · rw [if_pos c]
      rw [if_pos c] at hfl
      have hlt := of_decide_eq_true (ff_hi _ _ c)
      have hb : ff (dP g z k h) (rw_ g h * cw_ g h) < rw_ g h * cw_ g h := by
        rw [hfl]
        have := Nat.mul_le_mul_left (cw_ g h) (show ff (rowQ (dP g z k h) (cw_ g h)) (rw_ g h) + 1 ≤ rw_ g h by omega)
        rw [Nat.mul_succ] at this
        rw [Nat.mul_comm (rw_ g h)]
        omega
      rw [if_pos hb, hfl]
    · rw [if_neg c]
      rw [if_neg c] at hfl
      rw [if_neg (by omega)]
