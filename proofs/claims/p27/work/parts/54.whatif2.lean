/-! ===== (from the parts of whole) ===== -/
theorem bsf_bd2 {c u : Nat → Nat} {C U : Nat} (hc : ∀ n : Nat, c n ≤ C) (hu : ∀ n : Nat, u n ≤ U) (hC : C < 1000) (n m : Nat) (h : n = m + 1) : (bsf c u n).1 ≤ m ∧ (bsf c u n).2.1 ≤ C ∧ (bsf c u n).2.2 ≤ U := by
  subst h
  exact bsf_bd hc hu hC m
def gO (g : Nat → Int) (s : Nat) : Nat → Int := fun k => if k < 66 ∨ (k - 66) % 3 ≠ 0 then g k else B1 (bt (s : Int) ((k - 66) / 3))
theorem gO_ne (g : Nat → Int) (s : Nat) {k : Nat} (h : k < 66 ∨ (k - 66) % 3 ≠ 0) : gO g s k = g k := if_pos h
theorem gO_at (g : Nat → Int) (s h : Nat) : gO g s (66 + 3 * h) = B1 (bt (s : Int) h) := by
  unfold gO
  rw [if_neg (by omega), show (66 + 3 * h - 66) / 3 = h by omega]
theorem Bd_gO {g : Nat → Int} (hB : Bd g) (s : Nat) : Bd (gO g s) := by
  refine Bd_of (fun k hk => ?_)
  by_cases c : k < 66 ∨ (k - 66) % 3 ≠ 0
  · rw [gO_ne g s c]
    exact Bd_to hB hk
  · obtain ⟨h, rfl⟩ : ∃ h : Nat, k = 66 + 3 * h := ⟨(k - 66) / 3, by omega⟩
    rw [gO_at]
    have := B1_bd (bt (s : Int) h)
    constructor
    · unfold loB; (repeat' split) <;> omega
    · unfold hiB; (repeat' split) <;> omega
theorem opn_gO_raw : ∀ s : Fin 16, B1 (bt (s.val : Int) 0) + 2 * B1 (bt (s.val : Int) 1) + 4 * B1 (bt (s.val : Int) 2) + 8 * B1 (bt (s.val : Int) 3) = (s.val : Int) := by decide +kernel
theorem opn_gO (g : Nat → Int) {s : Nat} (hs : s < 16) : opn (gO g s) = (s : Int) := by
  have h := opn_gO_raw ⟨s, hs⟩
  unfold opn
  rw [show gO g s 66 = _ from gO_at g s 0, show gO g s 69 = _ from gO_at g s 1, show gO g s 72 = _ from gO_at g s 2, show gO g s 75 = _ from gO_at g s 3]
  exact h
theorem odk_gO (g : Nat → Int) (s : Nat) : odk (gO g s) = sm (fun h => if bt (s : Int) h then rw_ (gO g s) h * cw_ (gO g s) h else 0) 4 := by
  unfold odk
  refine sm_congr (fun h _ => ?_)
  unfold nd
  rw [gO_at]
  cases bt (s : Int) h
  · rw [if_neg (by decide), if_neg (by decide)]
  · rw [if_pos (by decide), if_pos rfl]
def bhU (g : Nat → Int) (n : Nat) : Nat := wo (gO g n) (fun _ => true)
def bhD (g : Nat → Int) (n : Nat) : Nat := odk (gO g n)
theorem bhU_le (g : Nat → Int) (n : Nat) : bhU g n ≤ 96 := wo_le _ _
theorem bhD_le {g : Nat → Int} (hB : Bd g) (n : Nat) : bhD g n ≤ 64 := odk_le (Bd_gO hB n)
def QH (g : Nat → Int) (s : Nat) (v : JV) (h : Nat) : Prop := (∀ k : Nat, k < 76 → (k < 66 ∨ (k - 66) % 3 ≠ 0) → v 0 k = I (g k)) ∧ ∀ j : Nat, j < h → v 0 (66 + 3 * j) = I (B1 (bt (s : Int) j))
theorem p_bestHalls {vS vT2 vS2 : JV} {g : Nat → Int} (hS : RS vS2 g) (hB : Bd g) {x1 : Int} (hx1 : 0 ≤ x1 ∧ x1 ≤ 1) : ∃ vT3 vS3 : JV, f_X4_bestHalls_L37 vS (I x1) FU vT2 vS2 (0 : Int32) (1000 : Int32) (1000 : Int32) (0 : Int32) = some (I (if x1 = 0 then ((bsf (bhU g) (bhD g) 16).1 : Int) else ((bsf (bhU g) (bhD g) 16).2.1 : Int)), vT3, vS3) := by
  have hc := bhU_le g
  have hu := bhD_le hB
  unfold f_X4_bestHalls_L37
  refine Exists.elim (lp_inv (P := Unit) (fun _ (rec : JV × JV × Int32 × Int32 × Int32 × Int32 → Option (Int32 × JV × JV)) a => f_X4_bestHalls_b37 vS (I x1) (fun vT2_34 vS2_34 x2_34 x3_34 x4_34 x5_34 => rec (vT2_34, vS2_34, x2_34, x3_34, x4_34, x5_34)) a.1 a.2.1 a.2.2.1 a.2.2.2.1 a.2.2.2.2.1 a.2.2.2.2.2) (fun n a => a.2.2 = (I ((bsf (bhU g) (bhD g) n).1 : Int), I ((bsf (bhU g) (bhD g) n).2.1 : Int), I ((bsf (bhU g) (bhD g) n).2.2 : Int), I (n : Int)) ∧ ∃ g1 : Nat → Int, RS a.2.1 g1 ∧ ∀ k : Nat, (k < 66 ∨ (k - 66) % 3 ≠ 0) → g1 k = g k) 16 (fun _ a => some (if x1 = 0 then a.2.2.1 else a.2.2.2.1, a.1, a.2.1)) (fun n a hn ha => ?_) (fun a _ rec ha => ?_) FU (by have := FU_ge; omega) (vT2, vS2, (0 : Int32), (1000 : Int32), (1000 : Int32), (0 : Int32)) ⟨rfl, g, hS, fun _ _ => rfl⟩) (fun a' h12 => ?_)
  · obtain ⟨u, s, x⟩ := a
    obtain ⟨hx, g1, h1, h2⟩ := ha
    dsimp only at hx h1
    subst hx
    have hB1 := Bd_gO hB n
    have hS1 : RS (up2 s 9 0 (I (n : Int))) (gO g n) := by
      have := RS_opn h1 (g' := gO g n) (fun k hk => by rw [gO_ne g n hk, h2 k hk])
      rw [opn_gO g hn] at this
      exact this
    obtain ⟨vT', t1, t2⟩ := p_seatAll (v := u) hS1 hB1
    have st := bsl_step hc hu (by omega) (by omega) n
    have al := bsf_all hc hu (by omega) (by omega) n
    have q1 := hc n
    have q2 := hu n
    have e : bsf (bhU g) (bhD g) (n + 1) = if bhU g n < (bsf (bhU g) (bhD g) n).2.1 ∨ (bhU g n = (bsf (bhU g) (bhD g) n).2.1 ∧ bhD g n < (bsf (bhU g) (bhD g) n).2.2) then (n, bhU g n, bhD g n) else bsf (bhU g) (bhD g) n := rfl
    have ev : ∀ rec : JV × JV × Int32 × Int32 × Int32 × Int32 → Option (Int32 × JV × JV), f_X4_bestHalls_b37 vS (I x1) (fun vT2_34 vS2_34 x2_34 x3_34 x4_34 x5_34 => rec (vT2_34, vS2_34, x2_34, x3_34, x4_34, x5_34)) u s (I ((bsf (bhU g) (bhD g) n).1 : Int)) (I ((bsf (bhU g) (bhD g) n).2.1 : Int)) (I ((bsf (bhU g) (bhD g) n).2.2 : Int)) (I (n : Int)) = rec (vT', up2 s 9 0 (I (n : Int)), I ((bsf (bhU g) (bhD g) (n + 1)).1 : Int), I ((bsf (bhU g) (bhD g) (n + 1)).2.1 : Int), I ((bsf (bhU g) (bhD g) (n + 1)).2.2 : Int), I ((n + 1 : Nat) : Int)) := by
      intro rec
      unfold f_X4_bestHalls_b37
      rw [show (16 : Int32) = I ((16 : Nat) : Int) from rfl, k_le (by omega) (by omega), if_neg (by omega), t1]
      simp only [Option.bind_some]
      rw [p_openDesks hS1 hB1]
      simp only [Option.bind_some]
      rw [(TN_wo hB1 t2).1, one_add]
      rw [show wo (gO g n) (fun _ => true) = bhU g n from rfl, show odk (gO g n) = bhD g n from rfl, e]
      generalize bsf (bhU g) (bhD g) n = B at al ⊢
      generalize bhU g n = c at q1 ⊢
      generalize bhD g n = d at q2 ⊢
      rw [ite_lt (r0 _) (r0 _), k_inj (by omega) (by omega), k_le (by omega) (by omega)]
      by_cases f2 : c < B.2.1
      · rw [if_pos (by omega), if_pos (Or.inl f2)]
      · rw [if_neg (by omega)]
        by_cases f1 : c = B.2.1
        · rw [if_pos f1]
          by_cases f3 : d < B.2.2
          · rw [if_neg (by omega), if_pos (Or.inr ⟨f1, f3⟩)]
          · rw [if_pos (by omega), if_neg (by omega)]
        · rw [if_neg f1, if_neg (by omega)]
    exact ⟨_, ⟨rfl, gO g n, hS1, fun k hk => gO_ne g n hk⟩, fun _ rec => ev rec⟩
  · obtain ⟨u, s, x⟩ := a
    obtain ⟨hx, -⟩ := ha
    dsimp only at hx ⊢
    subst hx
    unfold f_X4_bestHalls_b37
    rw [show (16 : Int32) = I ((16 : Nat) : Int) from rfl, k_le (by omega) (by omega), if_pos (by omega), show (0 : Int32) = I 0 from rfl, ite_eq (r0 x1) (r0 0)]
    by_cases d : x1 = 0
    · rw [if_pos d, if_pos d]
    · rw [if_neg d, if_neg d]
  · obtain ⟨⟨h1, -⟩, h5⟩ := h12
    refine ⟨a'.1, a'.2.1, ?_⟩
    have := h5 ()
    rw [h1] at this
    refine this.trans ?_
    by_cases d : x1 = 0
    · rw [if_pos d, if_pos d]
    · rw [if_neg d, if_neg d]
/-! the least rooms -/
def frP (P : Nat → Bool) : Nat → Int
  | 0 => -6
  | i + 1 => if P (6 - i) then ((6 - i : Nat) : Int) else frP P i
theorem frP_ff (P : Nat → Bool) : frP P 7 = if ff P 7 < 7 then ((ff P 7 : Nat) : Int) else -6 := by
  have hl := ff_le P 7
  by_cases c : ff P 7 < 7
  · rw [if_pos c]
    have key : ∀ i : Nat, i ≤ 7 → 7 - ff P 7 ≤ i → frP P i = ((ff P 7 : Nat) : Int) := by
      intro i
      induction i with
      | zero => intro _ h; omega
      | succ i ih =>
        intro h1 h2
        show (if P (6 - i) then ((6 - i : Nat) : Int) else frP P i) = _
        by_cases d : 6 - i = ff P 7
        · rw [d, if_pos (ff_hi P 7 c)]
        · rw [ff_lo P 7 (6 - i) (by omega), if_neg Bool.false_ne_true]
          exact ih (by omega) (by omega)
    exact key 7 (by omega) (by omega)
  · rw [if_neg c]
    have key : ∀ i : Nat, i ≤ 7 → frP P i = -6 := by
      intro i
      induction i with
      | zero => intro _; rfl
      | succ i ih =>
        intro h1
        show (if P (6 - i) then ((6 - i : Nat) : Int) else frP P i) = _
        rw [ff_lo P 7 (6 - i) (by omega), if_neg Bool.false_ne_true]
        exact ih (by omega)
    exact key 7 (by omega)
def lrP (g : Nat → Int) (n : Nat) : Bool := decide (wo (gu g 1 (n : Int)) (rd (gu g 1 (n : Int))) = 0)
theorem Bd_rm {g : Nat → Int} (hB : Bd g) {n : Nat} (hn : n ≤ 6) : Bd (gu g 1 (n : Int)) := Bd_gu hB 1 (by show (0 : Int) ≤ _; omega) (by show _ ≤ (6 : Int); omega)
theorem frP_bd (P : Nat → Bool) : ∀ i : Nat, -6 ≤ frP P i ∧ frP P i ≤ 6
  | 0 => by show -6 ≤ (-6 : Int) ∧ (-6 : Int) ≤ 6; omega
  | i + 1 => by
    have h := frP_bd P i
    show -6 ≤ (if P (6 - i) then ((6 - i : Nat) : Int) else frP P i) ∧ (if P (6 - i) then ((6 - i : Nat) : Int) else frP P i) ≤ 6
    split <;> omega
theorem p_lr {vS u s : JV} {g : Nat → Int} {y : Int} (hS : RS s (gu g 1 y)) (hB : Bd g) {n : Nat} (hn : n ≤ 6) : ∃ vT' : JV, RS (up2 s 0 1 (I (n : Int))) (gu g 1 (n : Int)) ∧ ∀ rec : JV → JV → Int32 → Option (Int32 × JV × JV), f_X4_leastRooms_b13 vS rec u s (I (n : Int)) = (if lrP g n = true then some (I (n : Int), vT', up2 s 0 1 (I (n : Int))) else rec vT' (up2 s 0 1 (I (n : Int))) (I ((n + 1 : Nat) : Int))) := by
  have hB1 := Bd_rm hB hn
  have hS1 : RS (up2 s 0 1 (I (n : Int))) (gu g 1 (n : Int)) := by
    have := RS_set hS (i := 1) (by omega) (n : Int)
    rw [gu_gu] at this
    exact this
  obtain ⟨vT', t1, t2⟩ := p_seatAll (v := u) hS1 hB1
  have hw := wo_le (gu g 1 (n : Int)) (rd (gu g 1 (n : Int)))
  refine ⟨vT', hS1, fun rec => ?_⟩
  unfold f_X4_leastRooms_b13
  rw [show (6 : Int32) = I 6 from rfl, ite_lt (r0 6) (r0 _), if_neg (by omega), t1]
  simp only [Option.bind_some]
  rw [(TN_wo hB1 t2).2, show (0 : Int32) = I ((0 : Nat) : Int) from rfl, k_inj (by omega) (by omega), one_add]
  unfold lrP
  by_cases d : wo (gu g 1 (n : Int)) (rd (gu g 1 (n : Int))) = 0
  · rw [decide_eq_true d, if_pos rfl, if_pos d]
  · rw [decide_eq_false d, if_neg Bool.false_ne_true, if_neg d]
theorem p_leastRooms {vS vT2 vS2 : JV} {g : Nat → Int} (hS : RS vS2 g) (hB : Bd g) : ∃ vT3 vS3 : JV, f_X4_leastRooms_L13 vS FU vT2 vS2 (0 : Int32) = some (I (frP (lrP g) 7), vT3, vS3) := by
  have hl := ff_le (lrP g) 7
  rw [frP_ff]
  unfold f_X4_leastRooms_L13
  refine Exists.elim (lp_inv (P := Unit) (fun _ (rec : JV × JV × Int32 → Option (Int32 × JV × JV)) a => f_X4_leastRooms_b13 vS (fun vT2_13 vS2_13 x1_13 => rec (vT2_13, vS2_13, x1_13)) a.1 a.2.1 a.2.2) (fun n a => a.2.2 = I (n : Int) ∧ ∃ y : Int, RS a.2.1 (gu g 1 y)) (ff (lrP g) 7) (fun _ a => f_X4_leastRooms_b13 vS (fun _ _ _ => none) a.1 a.2.1 a.2.2) (fun n a hn ha => ?_) (fun a _ rec ha => ?_) FU (by have := FU_ge; omega) (vT2, vS2, (0 : Int32)) ⟨rfl, g 1, by rw [gu_same]; exact hS⟩) (fun a1 h12 => ?_)
  · obtain ⟨u, s, x⟩ := a
    obtain ⟨hx, y, h1⟩ := ha
    dsimp only at hx h1
    subst hx
    obtain ⟨vT', s1, s2⟩ := p_lr (vS := vS) (u := u) h1 hB (n := n) (by omega)
    refine ⟨(vT', up2 s 0 1 (I (n : Int)), I ((n + 1 : Nat) : Int)), ⟨rfl, (n : Int), s1⟩, fun _ rec => ?_⟩
    refine (s2 (fun a b c => rec (a, b, c))).trans ?_
    rw [ff_lo (lrP g) 7 n hn, if_neg Bool.false_ne_true]
  · obtain ⟨u, s, x⟩ := a
    obtain ⟨hx, y, h1⟩ := ha
    dsimp only at hx h1 ⊢
    subst hx
    by_cases c : ff (lrP g) 7 < 7
    · obtain ⟨vT', s1, s2⟩ := p_lr (vS := vS) (u := u) h1 hB (n := ff (lrP g) 7) (by omega)
      rw [s2, s2, ff_hi (lrP g) 7 c, if_pos rfl, if_pos rfl]
    · rw [show ff (lrP g) 7 = 7 by omega]
      rfl
  · obtain ⟨⟨h1, y, h2⟩, h5⟩ := h12
    have h6 := h5 ()
    rw [h1] at h6
    by_cases c : ff (lrP g) 7 < 7
    · obtain ⟨vT', s1, s2⟩ := p_lr (vS := vS) (u := a1.1) h2 hB (n := ff (lrP g) 7) (by omega)
      rw [s2, ff_hi (lrP g) 7 c, if_pos rfl] at h6
      rw [if_pos c]
      exact ⟨_, _, h6⟩
    · rw [if_neg c]
      rw [show ff (lrP g) 7 = 7 by omega] at h6
      exact ⟨_, _, h6⟩
