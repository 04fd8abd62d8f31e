/-! ===== (from the parts of whole) ===== -/
theorem gu_gu (g : Nat → Int) (k : Nat) (x y : Int) : gu (gu g k x) k y = gu g k y := by
  funext j
  unfold gu
  by_cases c : j = k
  · rw [if_pos c, if_pos c]
  · rw [if_neg c, if_neg c, if_neg c]
theorem gu_same (g : Nat → Int) (k : Nat) : gu g k (g k) = g := by
  funext j
  unfold gu
  by_cases c : j = k
  · rw [if_pos c, c]
  · rw [if_neg c]
/-- what another start brings: clashes, sittings without a place, the last end -/
def ifA (g : Nat → Int) (t : Nat) : Int := if t = 0 then (cps g (np g) : Int) else if t = 1 then (wo g (fun _ => true) : Int) else lastE g
theorem Bd_st {g : Nat → Int} (hB : Bd g) {p : Nat} (hp : p < 6) {b : Int} (hb : 0 ≤ b ∧ b ≤ 19) : Bd (gu g (4 + 2 * p) b) := Bd_gu hB _ (by unfold loB; (repeat' split) <;> omega) (by unfold hiB; (repeat' split) <;> omega)
/-! the best of n tries by two counts -/
def bsf (c u : Nat → Nat) : Nat → Nat × Nat × Nat
  | 0 => (0, 1000, 1000)
  | n + 1 => if c n < (bsf c u n).2.1 ∨ (c n = (bsf c u n).2.1 ∧ u n < (bsf c u n).2.2) then (n, c n, u n) else bsf c u n
def bsl (c u : Nat → Nat) (n : Nat) : Nat := if n = 0 then 1000000 else 1000 * (bsf c u n).2.1 + (bsf c u n).2.2
theorem bsf_bd {c u : Nat → Nat} {C U : Nat} (hc : ∀ n : Nat, c n ≤ C) (hu : ∀ n : Nat, u n ≤ U) (hC : C < 1000) : ∀ n : Nat, (bsf c u (n + 1)).1 ≤ n ∧ (bsf c u (n + 1)).2.1 ≤ C ∧ (bsf c u (n + 1)).2.2 ≤ U
  | 0 => by
    have e : bsf c u 1 = (0, c 0, u 0) := by
      show (if c 0 < 1000 ∨ (c 0 = 1000 ∧ u 0 < 1000) then (0, c 0, u 0) else (0, 1000, 1000)) = _
      rw [if_pos (Or.inl (by have := hc 0; omega))]
    rw [e]
    exact ⟨Nat.le_refl _, hc 0, hu 0⟩
  | n + 1 => by
    have ih := bsf_bd hc hu hC n
    have e : bsf c u (n + 2) = if c (n + 1) < (bsf c u (n + 1)).2.1 ∨ (c (n + 1) = (bsf c u (n + 1)).2.1 ∧ u (n + 1) < (bsf c u (n + 1)).2.2) then (n + 1, c (n + 1), u (n + 1)) else bsf c u (n + 1) := rfl
    rw [e]
    split
    · exact ⟨Nat.le_refl _, hc _, hu _⟩
    · exact ⟨by omega, ih.2.1, ih.2.2⟩
theorem bsf_all {c u : Nat → Nat} {C U : Nat} (hc : ∀ n : Nat, c n ≤ C) (hu : ∀ n : Nat, u n ≤ U) (hC : C < 1000) (hU : U < 1000) (n : Nat) : (bsf c u n).1 ≤ n ∧ (bsf c u n).2.1 ≤ 1000 ∧ (bsf c u n).2.2 ≤ 1000 ∧ bsl c u n ≤ 1000000 := by
  match n with
  | 0 => exact ⟨Nat.le_refl _, Nat.le_refl _, Nat.le_refl _, Nat.le_refl _⟩
  | n + 1 =>
    have h := bsf_bd hc hu hC n
    unfold bsl
    rw [if_neg (by omega)]
    omega
theorem bsl_step {c u : Nat → Nat} {C U : Nat} (hc : ∀ n : Nat, c n ≤ C) (hu : ∀ n : Nat, u n ≤ U) (hC : C < 1000) (hU : U < 1000) (n : Nat) : (1000 * c n + u n < bsl c u n ↔ (c n < (bsf c u n).2.1 ∨ (c n = (bsf c u n).2.1 ∧ u n < (bsf c u n).2.2))) ∧ bsl c u (n + 1) = (if 1000 * c n + u n < bsl c u n then 1000 * c n + u n else bsl c u n) ∧ (bsf c u (n + 1)).1 = (if 1000 * c n + u n < bsl c u n then n else (bsf c u n).1) := by
  have h1 : 1000 * c n + u n < bsl c u n ↔ (c n < (bsf c u n).2.1 ∨ (c n = (bsf c u n).2.1 ∧ u n < (bsf c u n).2.2)) := by
    have q1 := hc n
    have q2 := hu n
    match n with
    | 0 =>
      show 1000 * c 0 + u 0 < 1000000 ↔ (c 0 < 1000 ∨ (c 0 = 1000 ∧ u 0 < 1000))
      omega
    | n + 1 =>
      have h := bsf_bd hc hu hC n
      unfold bsl
      rw [if_neg (by omega)]
      omega
  have e : bsf c u (n + 1) = if c n < (bsf c u n).2.1 ∨ (c n = (bsf c u n).2.1 ∧ u n < (bsf c u n).2.2) then (n, c n, u n) else bsf c u n := rfl
  refine ⟨h1, ?_, ?_⟩
  · by_cases d : 1000 * c n + u n < bsl c u n
    · rw [if_pos d]
      rw [if_pos (h1.mp d)] at e
      unfold bsl
      rw [if_neg (by omega), e]
    · rw [if_neg d]
      rw [if_neg (fun z => d (h1.mpr z))] at e
      have hn : n ≠ 0 := by
        intro z
        subst z
        apply d
        show 1000 * c 0 + u 0 < 1000000
        have q1 := hc 0
        have q2 := hu 0
        omega
      unfold bsl
      rw [if_neg (by omega), if_neg hn, e]
  · by_cases d : 1000 * c n + u n < bsl c u n
    · rw [if_pos d, e, if_pos (h1.mp d)]
    · rw [if_neg d, e, if_neg (fun z => d (h1.mpr z))]
def bcC (g : Nat → Int) (p n : Nat) : Nat := cps (gu g (4 + 2 * p) (n : Int)) (np (gu g (4 + 2 * p) (n : Int)))
def bcU (g : Nat → Int) (p n : Nat) : Nat := wo (gu g (4 + 2 * p) (n : Int)) (fun _ => true)
theorem np_gu {g : Nat → Int} {k : Nat} {x : Int} (h : k ≠ 3) : np (gu g k x) = np g := by
  unfold np
  rw [gu_ne g x (fun z => h z.symm)]
theorem bcC_le {g : Nat → Int} (hB : Bd g) (p n : Nat) : bcC g p n ≤ 576 := by
  have hn := np_le hB
  have h := cps_le (gu g (4 + 2 * p) (n : Int)) (np g)
  unfold bcC
  rw [np_gu (by omega)]
  omega
theorem bcU_le (g : Nat → Int) (p n : Nat) : bcU g p n ≤ 96 := wo_le _ _
theorem p_bestStart {vS vT2 vS2 : JV} {g : Nat → Int} (hS : RS vS2 g) (hB : Bd g) {p : Nat} (hp : p < 6) : ∃ vT3 vS3 : JV, f_X4_bestStart_L34 vS (I (p : Int)) FU vT2 vS2 (0 : Int32) (1000 : Int32) (1000 : Int32) (0 : Int32) = some (I ((bsf (bcC g p) (bcU g p) 20).1 : Int), vT3, vS3) := by
  have hc := bcC_le hB p
  have hu := bcU_le g p
  unfold f_X4_bestStart_L34
  refine Exists.elim (lp_inv (P := Unit) (fun _ (rec : JV × JV × Int32 × Int32 × Int32 × Int32 → Option (Int32 × JV × JV)) a => f_X4_bestStart_b34 vS (I (p : Int)) (fun vT2_34 vS2_34 x2_34 x3_34 x4_34 x5_34 => rec (vT2_34, vS2_34, x2_34, x3_34, x4_34, x5_34)) a.1 a.2.1 a.2.2.1 a.2.2.2.1 a.2.2.2.2.1 a.2.2.2.2.2) (fun n a => a.2.2 = (I ((bsf (bcC g p) (bcU g p) n).1 : Int), I ((bsf (bcC g p) (bcU g p) n).2.1 : Int), I ((bsf (bcC g p) (bcU g p) n).2.2 : Int), I (n : Int)) ∧ ∃ y : Int, RS a.2.1 (gu g (4 + 2 * p) y)) 20 (fun _ a => some (a.2.2.1, a.1, a.2.1)) (fun n a hn ha => ?_) (fun a _ rec ha => ?_) FU (by have := FU_ge; omega) (vT2, vS2, (0 : Int32), (1000 : Int32), (1000 : Int32), (0 : Int32)) ⟨rfl, g (4 + 2 * p), by rw [gu_same]; exact hS⟩) (fun a' h12 => ?_)
  · obtain ⟨u, s, x⟩ := a
    obtain ⟨hx, y, h1⟩ := ha
    dsimp only at hx h1
    subst hx
    have hS1 := RS_start h1 hp (n : Int)
    rw [gu_gu] at hS1
    have hB1 := Bd_st hB hp (b := (n : Int)) (by omega)
    obtain ⟨vT', t1, t2⟩ := p_seatAll (v := u) hS1 hB1
    have st := bsl_step hc hu (by omega) (by omega) n
    have al := bsf_all hc hu (by omega) (by omega) n
    have q1 := hc n
    have q2 := hu n
    have e : bsf (bcC g p) (bcU g p) (n + 1) = if bcC g p n < (bsf (bcC g p) (bcU g p) n).2.1 ∨ (bcC g p n = (bsf (bcC g p) (bcU g p) n).2.1 ∧ bcU g p n < (bsf (bcC g p) (bcU g p) n).2.2) then (n, bcC g p n, bcU g p n) else bsf (bcC g p) (bcU g p) n := rfl
    have ev : ∀ rec : JV × JV × Int32 × Int32 × Int32 × Int32 → Option (Int32 × JV × JV), f_X4_bestStart_b34 vS (I (p : Int)) (fun vT2_34 vS2_34 x2_34 x3_34 x4_34 x5_34 => rec (vT2_34, vS2_34, x2_34, x3_34, x4_34, x5_34)) u s (I ((bsf (bcC g p) (bcU g p) n).1 : Int)) (I ((bsf (bcC g p) (bcU g p) n).2.1 : Int)) (I ((bsf (bcC g p) (bcU g p) n).2.2 : Int)) (I (n : Int)) = rec ((if bcC g p n ≤ (bsf (bcC g p) (bcU g p) n).2.1 then vT' else u), up2 s 1 p (I (n : Int)), I ((bsf (bcC g p) (bcU g p) (n + 1)).1 : Int), I ((bsf (bcC g p) (bcU g p) (n + 1)).2.1 : Int), I ((bsf (bcC g p) (bcU g p) (n + 1)).2.2 : Int), I ((n + 1 : Nat) : Int)) := by
      intro rec
      unfold f_X4_bestStart_b34
      rw [show (20 : Int32) = I ((20 : Nat) : Int) from rfl, k_le (by omega) (by omega), if_neg (by omega), gd_t (inb_k hp (by omega)), I_k (show p < 1000000 by omega), p_clashes hS1 hB1, t1]
      simp only [Option.bind_some]
      rw [(TN_wo hB1 t2).1, one_add]
      rw [show cps (gu g (4 + 2 * p) (n : Int)) (np (gu g (4 + 2 * p) (n : Int))) = bcC g p n from rfl, show wo (gu g (4 + 2 * p) (n : Int)) (fun _ => true) = bcU g p n from rfl, e]
      generalize bsf (bcC g p) (bcU g p) n = B at al ⊢
      generalize bcC g p n = c at q1 ⊢
      generalize bcU g p n = d at q2 ⊢
      rw [k_le (by omega) (by omega), ite_lt (r0 _) (r0 _), k_le (by omega) (by omega)]
      by_cases f1 : c ≤ B.2.1
      · rw [if_pos f1, if_pos f1]
        by_cases f2 : c < B.2.1
        · rw [if_pos (by omega), if_pos (Or.inl f2)]
        · rw [if_neg (by omega)]
          by_cases f3 : d < B.2.2
          · rw [if_neg (by omega), if_pos (Or.inr ⟨by omega, f3⟩)]
          · rw [if_pos (by omega), if_neg (by omega)]
      · rw [if_neg f1, if_neg f1, if_neg (by omega)]
    exact ⟨_, ⟨rfl, (n : Int), hS1⟩, fun _ rec => ev rec⟩
  · obtain ⟨u, s, x⟩ := a
    obtain ⟨hx, -⟩ := ha
    dsimp only at hx ⊢
    subst hx
    unfold f_X4_bestStart_b34
    rw [show (20 : Int32) = I ((20 : Nat) : Int) from rfl, k_le (by omega) (by omega), if_pos (by omega)]
  · obtain ⟨⟨h1, -⟩, h5⟩ := h12
    refine ⟨a'.1, a'.2.1, ?_⟩
    have := h5 ()
    rw [h1] at this
    exact this
