/-! ===== what if: bestHalls, leastRooms ===== -/
theorem bsf_bd2 {c u : Nat → Nat} {C U : Nat} (hc : ∀ n : Nat, c n ≤ C) (hu : ∀ n : Nat, u n ≤ U) (hC : C < 1000) (n m : Nat) (h : n = m + 1) : (bsf c u n).1 ≤ m ∧ (bsf c u n).2.1 ≤ C ∧ (bsf c u n).2.2 ≤ U := by
  subst h
  exact bsf_bd hc hu hC m
def gO (g : Nat → Int) (s : Nat) : Nat → Int := fun k => if k < 66 ∨ (k - 66) % 3 ≠ 0 then g k else B1 (bt (s : Int) ((k - 66) / 3))
theorem gO_ne (g : Nat → Int) (s : Nat) {k : Nat} (h : k < 66 ∨ (k - 66) % 3 ≠ 0) : gO g s k = g k := if_pos h
theorem gO_at (g : Nat → Int) (s h : Nat) : gO g s (66 + 3 * h) = B1 (bt (s : Int) h) := by
  unfold gO
  rw [if_neg (by omega), show (66 + 3 * h - 66) / 3 = h by omega]
theorem Bd_gO {g : Nat → Int} (hB : Bd g) (s : Nat) : Bd (gO g s) := by
  refine Bd_of (fun k hk => ?_)
  by_cases c : k < 66 ∨ (k - 66) % 3 ≠ 0
  · rw [gO_ne g s c]
    exact Bd_to hB hk
  · obtain ⟨h, rfl⟩ : ∃ h : Nat, k = 66 + 3 * h := ⟨(k - 66) / 3, by omega⟩
    rw [gO_at]
    have := B1_bd (bt (s : Int) h)
    constructor
    · unfold loB; (repeat' split) <;> omega
    · unfold hiB; (repeat' split) <;> omega
theorem opn_gO_raw : ∀ s : Fin 16, B1 (bt (s.val : Int) 0) + 2 * B1 (bt (s.val : Int) 1) + 4 * B1 (bt (s.val : Int) 2) + 8 * B1 (bt (s.val : Int) 3) = (s.val : Int) := by decide +kernel
theorem opn_gO (g : Nat → Int) {s : Nat} (hs : s < 16) : opn (gO g s) = (s : Int) := by
  have h := opn_gO_raw ⟨s, hs⟩
  unfold opn
  rw [show gO g s 66 = _ from gO_at g s 0, show gO g s 69 = _ from gO_at g s 1, show gO g s 72 = _ from gO_at g s 2, show gO g s 75 = _ from gO_at g s 3]
  exact h
theorem odk_gO (g : Nat → Int) (s : Nat) : odk (gO g s) = sm (fun h => if bt (s : Int) h then rw_ (gO g s) h * cw_ (gO g s) h else 0) 4 := by
  unfold odk
  refine sm_congr (fun h _ => ?_)
  unfold nd
  rw [gO_at]
  cases bt (s : Int) h
  · rw [if_neg (by decide), if_neg (by decide)]
  · rw [if_pos (by decide), if_pos rfl]
def bhU (g : Nat → Int) (n : Nat) : Nat := wo (gO g n) (fun _ => true)
def bhD (g : Nat → Int) (n : Nat) : Nat := odk (gO g n)
theorem bhU_le (g : Nat → Int) (n : Nat) : bhU g n ≤ 96 := wo_le _ _
theorem bhD_le {g : Nat → Int} (hB : Bd g) (n : Nat) : bhD g n ≤ 64 := odk_le (Bd_gO hB n)
def QH (g : Nat → Int) (s : Nat) (v : JV) (h : Nat) : Prop := (∀ k : Nat, k < 76 → (k < 66 ∨ (k - 66) % 3 ≠ 0) → v 0 k = I (g k)) ∧ ∀ j : Nat, j < h → v 0 (66 + 3 * j) = I (B1 (bt (s : Int) j))
theorem QH_RM {g : Nat → Int} {s : Nat} {v : JV} (h : QH g s v 4) : RM (v 0) (gO g s) := by
  intro k hk
  by_cases c : k < 66 ∨ (k - 66) % 3 ≠ 0
  · rw [gO_ne g s c]
    exact h.1 k hk c
  · obtain ⟨j, rfl⟩ : ∃ j : Nat, k = 66 + 3 * j := ⟨(k - 66) / 3, by omega⟩
    rw [gO_at]
    exact h.2 j (by omega)
theorem m_bhIn {u : JV} {g : Nat → Int} (hB : Bd g) {s : Nat} (hs : s < 16) (hu : ∀ k : Nat, k < 76 → (k < 66 ∨ (k - 66) % 3 ≠ 0) → u 0 k = I (g k)) {x1 x2 x3 : Int32} :
    ∃ w : JV, (∀ r : JV → Int32 → Int32 → Int32 → Option (Int32 × JV), f_X5_bestHalls_L34 r x1 x2 x3 (I (s : Int)) FU u (0 : Int32) = (if x3 ≤ I ((1000 * bhU g s + bhD g s : Nat) : Int) then f_X5_bestHalls_K100 r w x1 x3 (I (s : Int)) (I ((1000 * bhU g s + bhD g s : Nat) : Int)) x2 else f_X5_bestHalls_K100 r w x1 x3 (I (s : Int)) (I ((1000 * bhU g s + bhD g s : Nat) : Int)) (I (s : Int)))) ∧ RM (w 0) (gO g s) ∧ ∀ a : Nat, a ≠ 0 → a ≠ 6 → a ≠ 9 → w a = u a := by
  unfold f_X5_bestHalls_L34
  refine Exists.elim (lp_inv (P := JV → Int32 → Int32 → Int32 → Option (Int32 × JV)) (fun r (rec : JV × Int32 → Option (Int32 × JV)) a => f_X5_bestHalls_b34 r x1 x2 x3 (I (s : Int)) (fun vM_34 x5_34 => rec (vM_34, x5_34)) a.1 a.2) (fun h a => a.2 = I (h : Int) ∧ QH g s a.1 h ∧ ∀ b : Nat, b ≠ 0 → a.1 b = u b) 4 (fun r a => f_X5_bestHalls_b34 r x1 x2 x3 (I (s : Int)) (fun _ _ => none) a.1 a.2) (fun h a hh ha => ?_) (fun a r rec ha => ?_) FU (by have := FU_ge; omega) (u, (0 : Int32)) ⟨rfl, ⟨hu, fun j hj => absurd hj (by omega)⟩, fun _ _ => rfl⟩) (fun a1 h12 => ?_)
  · obtain ⟨v, x⟩ := a
    obtain ⟨hx, hq, hf⟩ := ha
    dsimp only at hx hq hf
    subst hx
    refine ⟨(up2 v 0 (66 + 3 * h) (I (B1 (bt (s : Int) h))), I ((h + 1 : Nat) : Int)), ⟨rfl, ⟨fun k hk hc => ?_, fun j hj => ?_⟩, fun b hb => ?_⟩, fun r rec => ?_⟩
    · show up2 v 0 (66 + 3 * h) (I (B1 (bt (s : Int) h))) 0 k = _
      rw [up2_if, if_neg (by omega)]
      exact hq.1 k hk hc
    · show up2 v 0 (66 + 3 * h) (I (B1 (bt (s : Int) h))) 0 (66 + 3 * j) = _
      rw [up2_if]
      by_cases c : j = h
      · rw [c, if_pos rfl]
      · rw [if_neg (by omega)]; exact hq.2 j (by omega)
    · show up2 v 0 (66 + 3 * h) (I (B1 (bt (s : Int) h))) b = _
      rw [up2_ne _ _ _ hb]
      exact hf b hb
    · show f_X5_bestHalls_b34 r x1 x2 x3 (I (s : Int)) (fun vM_34 x5_34 => rec (vM_34, x5_34)) v (I (h : Int)) = _
      unfold f_X5_bestHalls_b34
      rw [show (4 : Int32) = I ((4 : Nat) : Int) from rfl, k_le (by omega) (by omega), if_neg (by omega), p_h]
      simp only [Option.bind_some]
      rw [ix66, gd_t (inb_k (by omega) (by omega)), I_k (by omega), bit_I (by omega) (by omega) (by omega), one_add]
  · obtain ⟨v, x⟩ := a
    obtain ⟨hx, -⟩ := ha
    dsimp only at hx ⊢
    subst hx
    unfold f_X5_bestHalls_b34
    rw [show (4 : Int32) = I ((4 : Nat) : Int) from rfl, k_le (by omega) (by omega), if_pos (by omega), k_le (by omega) (by omega), if_pos (by omega)]
  · obtain ⟨⟨h1, h2, h3⟩, h4⟩ := h12
    have hB1 := Bd_gO hB s
    have hM1 : RM (up2 a1.1 9 0 (0 : Int32) 0) (gO g s) := by
      rw [up2_ne _ _ _ (show (0 : Nat) ≠ 9 by omega)]
      exact QH_RM h2
    obtain ⟨w, w1, w2, w3, w4⟩ := m_without hM1 hB1 (Or.inl (by rw [up2_if, if_pos rfl])) false
    have hMw : RM (w 0) (gO g s) := by rw [w4 0 (by omega) (by omega)]; exact hM1
    refine ⟨w, fun r => (h4 r).trans ?_, hMw, fun a a0 a6 a9 => by rw [w4 a a6 a9, up2_ne _ _ _ a9]; exact h3 a a0⟩
    rw [h1]
    unfold f_X5_bestHalls_b34
    rw [show (4 : Int32) = I ((4 : Nat) : Int) from rfl, k_le (by omega) (by omega), if_pos (by omega), show f_X5_without (up2 a1.1 9 0 (0 : Int32)) (0 : Int32) = _ from w1]
    simp only [Option.bind_some]
    rw [m_desksOf hMw hB1 (x := I (s : Int)) (P := bt (s : Int)) (fun h hh => bit_I (by omega) (by omega) (by omega)), ← odk_gO]
    simp only [Option.bind_some]
    rw [show wo (gO g s) (fun k => !false || rd (gO g s) k) = bhU g s from rfl, show odk (gO g s) = bhD g s from rfl, show (1000 : Int32) = I ((1000 : Nat) : Int) from rfl, nat_mul, nat_add]
theorem m_bestHalls {v : JV} {g : Nat → Int} (hM : RM (v 0) g) (hB : Bd g) {x1 : Int} (hx1 : 0 ≤ x1 ∧ x1 ≤ 1) : ∃ w : JV, f_X5_bestHalls v (I x1) = some (I (if x1 = 0 then ((bsf (bhU g) (bhD g) 16).1 : Int) else ((bsf (bhU g) (bhD g) 16).2.1 : Int)), w) ∧ RM (w 0) g ∧ w 9 0 = 0 ∧ ∀ a : Nat, a ≠ 0 → a ≠ 2 → a ≠ 6 → a ≠ 9 → w a = v a := by
  have hc := bhU_le g
  have hu := bhD_le hB
  unfold f_X5_bestHalls
  rw [show f_X5_in (I x1) (0 : Int32) (1 : Int32) = _ from m_wi (r0 _) 0 1 (r0 0) (r0 1)]
  simp only [Option.bind_some]
  rw [ite_B1, if_pos (wi_iff.mpr hx1), m_keepTrial]
  simp only [Option.bind_some]
  have k0 : ∀ k : Nat, k < 76 → vcp v 2 0 (v 0) 76 0 k = I (g k) := fun k hk => by rw [vcp_ne v (show (0 : Nat) ≠ 2 by omega)]; exact hM k hk
  have k2 : ∀ k : Nat, k < 76 → vcp v 2 0 (v 0) 76 2 k = I (g k) := fun k hk => by
    have e := vcp_in v (b := 2) (m := 0) (f := v 0) 76 k hk
    rw [Nat.zero_add] at e
    rw [e]; exact hM k hk
  have kf : ∀ a : Nat, a ≠ 2 → vcp v 2 0 (v 0) 76 a = v a := fun a ha => vcp_ne v ha 76
  generalize vcp v 2 0 (v 0) 76 = t at k0 k2 kf ⊢
  unfold f_X5_bestHalls_L24
  refine Exists.elim (lp_inv (P := Unit) (fun _ (rec : JV × Int32 × Int32 × Int32 → Option (Int32 × JV)) a => f_X5_bestHalls_b24 (I x1) (fun vM_24 x2_24 x3_24 x4_24 => rec (vM_24, x2_24, x3_24, x4_24)) a.1 a.2.1 a.2.2.1 a.2.2.2) (fun n a => a.2 = (I ((bsf (bhU g) (bhD g) n).1 : Int), I (bsl (bhU g) (bhD g) n : Int), I (n : Int)) ∧ (∀ k : Nat, k < 76 → (k < 66 ∨ (k - 66) % 3 ≠ 0) → a.1 0 k = I (g k)) ∧ ∀ b : Nat, b ≠ 0 → b ≠ 6 → b ≠ 9 → a.1 b = t b) 16 (fun _ a => f_X5_bestHalls_b24 (I x1) (fun _ _ _ _ => none) a.1 a.2.1 a.2.2.1 a.2.2.2) (fun n a hn ha => ?_) (fun a _ rec ha => ?_) FU (by have := FU_ge; omega) (t, (0 : Int32), (1000000 : Int32), (0 : Int32)) ⟨rfl, fun k hk _ => k0 k hk, fun _ _ _ _ => rfl⟩) (fun a1 h12 => ?_)
  · obtain ⟨u, x⟩ := a
    obtain ⟨hx, h1, h3⟩ := ha
    dsimp only at hx h1 h3
    subst hx
    obtain ⟨w, w1, w2, w3⟩ := m_bhIn hB hn h1 (x1 := I x1) (x2 := I ((bsf (bhU g) (bhD g) n).1 : Int)) (x3 := I (bsl (bhU g) (bhD g) n : Int))
    have st := bsl_step hc hu (by omega) (by omega) n
    have al := bsf_all hc hu (by omega) (by omega) n
    have q1 := hc n
    have q2 := hu n
    refine ⟨(w, I ((bsf (bhU g) (bhD g) (n + 1)).1 : Int), I (bsl (bhU g) (bhD g) (n + 1) : Int), I ((n + 1 : Nat) : Int)), ⟨rfl, fun k hk hc => ?_, fun b b0 b6 b9 => ?_⟩, fun _ rec => ?_⟩
    · show w 0 k = _
      rw [w2 k hk, gO_ne g n hc]
    · show w b = _
      rw [w3 b b0 b6 b9]
      exact h3 b b0 b6 b9
    · show f_X5_bestHalls_b24 (I x1) (fun vM_24 x2_24 x3_24 x4_24 => rec (vM_24, x2_24, x3_24, x4_24)) u (I ((bsf (bhU g) (bhD g) n).1 : Int)) (I (bsl (bhU g) (bhD g) n : Int)) (I (n : Int)) = _
      unfold f_X5_bestHalls_b24
      rw [show (16 : Int32) = I ((16 : Nat) : Int) from rfl, k_le (by omega) (by omega), if_neg (by omega), w1]
      unfold f_X5_bestHalls_K100
      rw [one_add, ite_le (rng_of (by omega) (by omega)) (rng_of (by omega) (by omega)), ite_le (rng_of (by omega) (by omega)) (rng_of (by omega) (by omega)), ite_le (rng_of (by omega) (by omega)) (rng_of (by omega) (by omega)), st.2.1, st.2.2]
      by_cases d : 1000 * bhU g n + bhD g n < bsl (bhU g) (bhD g) n
      · rw [if_pos d, if_pos d, if_neg (by omega), if_neg (by omega)]
      · rw [if_neg d, if_neg d, if_pos (by omega), if_pos (by omega)]
  · obtain ⟨u, x⟩ := a
    obtain ⟨hx, -⟩ := ha
    dsimp only at hx ⊢
    subst hx
    unfold f_X5_bestHalls_b24
    rw [show (16 : Int32) = I ((16 : Nat) : Int) from rfl, k_le (by omega) (by omega), if_pos (by omega), k_le (by omega) (by omega), if_pos (by omega)]
  · obtain ⟨⟨h1, h2, h3⟩, h4⟩ := h12
    obtain ⟨u, x⟩ := a1
    dsimp only at h1 h2 h3 h4
    subst h1
    have b16 : (bsf (bhU g) (bhD g) 16).1 ≤ 15 ∧ (bsf (bhU g) (bhD g) 16).2.1 ≤ 96 ∧ (bsf (bhU g) (bhD g) 16).2.2 ≤ 64 := bsf_bd2 hc hu (by omega) 16 15 rfl
    have ebl : bsl (bhU g) (bhD g) 16 = 1000 * (bsf (bhU g) (bhD g) 16).2.1 + (bsf (bhU g) (bhD g) 16).2.2 := by unfold bsl; rw [if_neg (by omega)]
    have hMr : RM (vcp u 0 0 (u 2) 76 0) g := fun k hk => by
      have e := vcp_in u (b := 0) (m := 0) (f := u 2) 76 k hk
      rw [Nat.zero_add] at e
      rw [e, h3 2 (by omega) (by omega) (by omega)]
      exact k2 k hk
    have hfr : ∀ a : Nat, a ≠ 0 → vcp u 0 0 (u 2) 76 a = u a := fun a ha => vcp_ne u ha 76
    have hpb := m_putBack u
    generalize vcp u 0 0 (u 2) 76 = y at hMr hfr hpb
    refine ⟨up2 y 9 0 (0 : Int32), (h4 ()).trans ?_, ?_, ?_, fun a a0 a2 a6 a9 => ?_⟩
    · unfold f_X5_bestHalls_b24
      rw [show (16 : Int32) = I ((16 : Nat) : Int) from rfl, k_le (by omega) (by omega), if_pos (by omega), hpb]
      simp only [Option.bind_some]
      rw [show (if I x1 = (0 : Int32) then some (I ((bsf (bhU g) (bhD g) 16).1 : Int), up2 y 9 0 (0 : Int32)) else some (I (bsl (bhU g) (bhD g) 16 : Int) / (1000 : Int32), up2 y 9 0 (0 : Int32))) = _ from ite_eq (b := 0) (r0 x1) (r0 0), show (1000 : Int32) = I 1000 from rfl, I_div (by omega) (by omega) (by omega) (by omega)]
      by_cases d : x1 = 0
      · rw [if_pos d, if_pos d]
      · rw [if_neg d, if_neg d, show ((bsl (bhU g) (bhD g) 16 : Nat) : Int) / 1000 = ((bsf (bhU g) (bhD g) 16).2.1 : Int) by omega]
    · rw [up2_ne _ _ _ (show (0 : Nat) ≠ 9 by omega)]
      exact hMr
    · rw [up2_if, if_pos rfl]
    · rw [up2_ne _ _ _ a9, hfr a a0, h3 a a0 a6 a9, kf a a2]
theorem p_bestHalls {vS vT2 vS2 : JV} {g : Nat → Int} (hS : RS vS2 g) (hB : Bd g) {x1 : Int} (hx1 : 0 ≤ x1 ∧ x1 ≤ 1) : ∃ vT3 vS3 : JV, f_X4_bestHalls_L37 vS (I x1) FU vT2 vS2 (0 : Int32) (1000 : Int32) (1000 : Int32) (0 : Int32) = some (I (if x1 = 0 then ((bsf (bhU g) (bhD g) 16).1 : Int) else ((bsf (bhU g) (bhD g) 16).2.1 : Int)), vT3, vS3) := by
  have hc := bhU_le g
  have hu := bhD_le hB
  unfold f_X4_bestHalls_L37
  refine Exists.elim (lp_inv (P := Unit) (fun _ (rec : JV × JV × Int32 × Int32 × Int32 × Int32 → Option (Int32 × JV × JV)) a => f_X4_bestHalls_b37 vS (I x1) (fun vT2_34 vS2_34 x2_34 x3_34 x4_34 x5_34 => rec (vT2_34, vS2_34, x2_34, x3_34, x4_34, x5_34)) a.1 a.2.1 a.2.2.1 a.2.2.2.1 a.2.2.2.2.1 a.2.2.2.2.2) (fun n a => a.2.2 = (I ((bsf (bhU g) (bhD g) n).1 : Int), I ((bsf (bhU g) (bhD g) n).2.1 : Int), I ((bsf (bhU g) (bhD g) n).2.2 : Int), I (n : Int)) ∧ ∃ g1 : Nat → Int, RS a.2.1 g1 ∧ ∀ k : Nat, (k < 66 ∨ (k - 66) % 3 ≠ 0) → g1 k = g k) 16 (fun _ a => some (if x1 = 0 then a.2.2.1 else a.2.2.2.1, a.1, a.2.1)) (fun n a hn ha => ?_) (fun a _ rec ha => ?_) FU (by have := FU_ge; omega) (vT2, vS2, (0 : Int32), (1000 : Int32), (1000 : Int32), (0 : Int32)) ⟨rfl, g, hS, fun _ _ => rfl⟩) (fun a' h12 => ?_)
  · obtain ⟨u, s, x⟩ := a
    obtain ⟨hx, g1, h1, h2⟩ := ha
    dsimp only at hx h1
    subst hx
    have hB1 := Bd_gO hB n
    have hS1 : RS (up2 s 9 0 (I (n : Int))) (gO g n) := by
      have := RS_opn h1 (g' := gO g n) (fun k hk => by rw [gO_ne g n hk, h2 k hk])
      rw [opn_gO g hn] at this
      exact this
    obtain ⟨vT', t1, t2⟩ := p_seatAll (v := u) hS1 hB1
    have st := bsl_step hc hu (by omega) (by omega) n
    have al := bsf_all hc hu (by omega) (by omega) n
    have q1 := hc n
    have q2 := hu n
    have e : bsf (bhU g) (bhD g) (n + 1) = if bhU g n < (bsf (bhU g) (bhD g) n).2.1 ∨ (bhU g n = (bsf (bhU g) (bhD g) n).2.1 ∧ bhD g n < (bsf (bhU g) (bhD g) n).2.2) then (n, bhU g n, bhD g n) else bsf (bhU g) (bhD g) n := rfl
    have ev : ∀ rec : JV × JV × Int32 × Int32 × Int32 × Int32 → Option (Int32 × JV × JV), f_X4_bestHalls_b37 vS (I x1) (fun vT2_34 vS2_34 x2_34 x3_34 x4_34 x5_34 => rec (vT2_34, vS2_34, x2_34, x3_34, x4_34, x5_34)) u s (I ((bsf (bhU g) (bhD g) n).1 : Int)) (I ((bsf (bhU g) (bhD g) n).2.1 : Int)) (I ((bsf (bhU g) (bhD g) n).2.2 : Int)) (I (n : Int)) = rec (vT', up2 s 9 0 (I (n : Int)), I ((bsf (bhU g) (bhD g) (n + 1)).1 : Int), I ((bsf (bhU g) (bhD g) (n + 1)).2.1 : Int), I ((bsf (bhU g) (bhD g) (n + 1)).2.2 : Int), I ((n + 1 : Nat) : Int)) := by
      intro rec
      unfold f_X4_bestHalls_b37
      rw [show (16 : Int32) = I ((16 : Nat) : Int) from rfl, k_le (by omega) (by omega), if_neg (by omega), t1]
      simp only [Option.bind_some]
      rw [p_openDesks hS1 hB1]
      simp only [Option.bind_some]
      rw [(TN_wo hB1 t2).1, one_add]
      rw [show wo (gO g n) (fun _ => true) = bhU g n from rfl, show odk (gO g n) = bhD g n from rfl, e]
      generalize bsf (bhU g) (bhD g) n = B at al ⊢
      generalize bhU g n = c at q1 ⊢
      generalize bhD g n = d at q2 ⊢
      rw [ite_lt (r0 _) (r0 _), k_inj (by omega) (by omega), k_le (by omega) (by omega)]
      by_cases f2 : c < B.2.1
      · rw [if_pos (by omega), if_pos (Or.inl f2)]
      · rw [if_neg (by omega)]
        by_cases f1 : c = B.2.1
        · rw [if_pos f1]
          by_cases f3 : d < B.2.2
          · rw [if_neg (by omega), if_pos (Or.inr ⟨f1, f3⟩)]
          · rw [if_pos (by omega), if_neg (by omega)]
        · rw [if_neg f1, if_neg (by omega)]
    exact ⟨_, ⟨rfl, gO g n, hS1, fun k hk => gO_ne g n hk⟩, fun _ rec => ev rec⟩
  · obtain ⟨u, s, x⟩ := a
    obtain ⟨hx, -⟩ := ha
    dsimp only at hx ⊢
    subst hx
    unfold f_X4_bestHalls_b37
    rw [show (16 : Int32) = I ((16 : Nat) : Int) from rfl, k_le (by omega) (by omega), if_pos (by omega), show (0 : Int32) = I 0 from rfl, ite_eq (r0 x1) (r0 0)]
    by_cases d : x1 = 0
    · rw [if_pos d, if_pos d]
    · rw [if_neg d, if_neg d]
  · obtain ⟨⟨h1, -⟩, h5⟩ := h12
    refine ⟨a'.1, a'.2.1, ?_⟩
    have := h5 ()
    rw [h1] at this
    refine this.trans ?_
    by_cases d : x1 = 0
    · rw [if_pos d, if_pos d]
    · rw [if_neg d, if_neg d]
theorem e_bestHalls {vT vS vP : JV} {hV : Nat → JV} {hZ : JV} {sV : Nat → JV} {vU vM : JV} (vT2 vS2 : JV) (h : RI vT vS vP hV hZ sV vU vM) (x1 : Int32) :
    ∃ (Rz : Int32 × JV × JV) (m : Int32 × JV), f_X4_bestHalls vS vT2 vS2 x1 = some Rz ∧ f_X5_bestHalls vM x1 = some m ∧ m.1 = Rz.1 ∧ RI vT vS vP hV hZ sV vU m.2 := by
  obtain ⟨a, ha, rfl⟩ := I_ex x1
  obtain ⟨⟨g, hg⟩, -⟩ := id h
  have q1 : f_X4_isWithin (I a) (0 : Int32) (1 : Int32) = _ := p_wi ha 0 1 (r0 0) (r0 1)
  by_cases c1 : wi 0 1 a = true
  · have ca := wi_iff.mp c1
    obtain ⟨q, e1, e2⟩ := p_copyFrom (v := vS2) hg.2.1 hg.1
    obtain ⟨vT3, vS3, t1⟩ := p_bestHalls (vS := vS) (vT2 := vT2) e2 hg.1 ca
    obtain ⟨w, w1, w2, w3, w4⟩ := m_bestHalls hg.2.2.2.1 hg.1 ca
    refine ⟨(I (if a = 0 then ((bsf (bhU g) (bhD g) 16).1 : Int) else ((bsf (bhU g) (bhD g) 16).2.1 : Int)), vT3, vS3), _, ?_, w1, rfl, h.tr hg w2 w3 w4⟩
    unfold f_X4_bestHalls
    rw [q1]
    simp only [Option.bind_some]
    rw [ite_B1, if_pos c1, e1]
    exact t1
  · unfold f_X4_bestHalls f_X5_bestHalls
    rw [q1, show f_X5_in (I a) (0 : Int32) (1 : Int32) = _ from m_wi ha 0 1 (r0 0) (r0 1)]
    simp only [Option.bind_some]
    rw [(Bool.not_eq_true _).mp c1]
    exact ⟨_, _, rfl, rfl, rfl, h⟩
/-! the least rooms -/
def frP (P : Nat → Bool) : Nat → Int
  | 0 => -6
  | i + 1 => if P (6 - i) then ((6 - i : Nat) : Int) else frP P i
theorem frP_ff (P : Nat → Bool) : frP P 7 = if ff P 7 < 7 then ((ff P 7 : Nat) : Int) else -6 := by
  have hl := ff_le P 7
  by_cases c : ff P 7 < 7
  · rw [if_pos c]
    have key : ∀ i : Nat, i ≤ 7 → 7 - ff P 7 ≤ i → frP P i = ((ff P 7 : Nat) : Int) := by
      intro i
      induction i with
      | zero => intro _ h; omega
      | succ i ih =>
        intro h1 h2
        show (if P (6 - i) then ((6 - i : Nat) : Int) else frP P i) = _
        by_cases d : 6 - i = ff P 7
        · rw [d, if_pos (ff_hi P 7 c)]
        · rw [ff_lo P 7 (6 - i) (by omega), if_neg Bool.false_ne_true]
          exact ih (by omega) (by omega)
    exact key 7 (by omega) (by omega)
  · rw [if_neg c]
    have key : ∀ i : Nat, i ≤ 7 → frP P i = -6 := by
      intro i
      induction i with
      | zero => intro _; rfl
      | succ i ih =>
        intro h1
        show (if P (6 - i) then ((6 - i : Nat) : Int) else frP P i) = _
        rw [ff_lo P 7 (6 - i) (by omega), if_neg Bool.false_ne_true]
        exact ih (by omega)
    exact key 7 (by omega)
def lrP (g : Nat → Int) (n : Nat) : Bool := decide (wo (gu g 1 (n : Int)) (rd (gu g 1 (n : Int))) = 0)
theorem Bd_rm {g : Nat → Int} (hB : Bd g) {n : Nat} (hn : n ≤ 6) : Bd (gu g 1 (n : Int)) := Bd_gu hB 1 (by show (0 : Int) ≤ _; omega) (by show _ ≤ (6 : Int); omega)
theorem frP_bd (P : Nat → Bool) : ∀ i : Nat, -6 ≤ frP P i ∧ frP P i ≤ 6
  | 0 => by show -6 ≤ (-6 : Int) ∧ (-6 : Int) ≤ 6; omega
  | i + 1 => by
    have h := frP_bd P i
    show -6 ≤ (if P (6 - i) then ((6 - i : Nat) : Int) else frP P i) ∧ (if P (6 - i) then ((6 - i : Nat) : Int) else frP P i) ≤ 6
    split <;> omega
theorem m_leastRooms {v : JV} {g : Nat → Int} (hM : RM (v 0) g) (hB : Bd g) : ∃ w : JV, f_X5_leastRooms v = some (I (frP (lrP g) 7), w) ∧ RM (w 0) g ∧ w 9 0 = 0 ∧ ∀ a : Nat, a ≠ 0 → a ≠ 6 → a ≠ 9 → w a = v a := by
  unfold f_X5_leastRooms f_X5_leastRooms_L13
  refine Exists.elim (lp_inv (P := Unit) (fun _ (rec : JV × Int32 × Int32 → Option (Int32 × JV)) a => f_X5_leastRooms_b13 (v 0 1) (fun vM_13 x2_13 x3_13 => rec (vM_13, x2_13, x3_13)) a.1 a.2.1 a.2.2) (fun i a => a.2 = (I (frP (lrP g) i), I (6 - (i : Int))) ∧ (∃ y : Int, RM (a.1 0) (gu g 1 y)) ∧ ∀ b : Nat, b ≠ 0 → b ≠ 6 → b ≠ 9 → a.1 b = v b) 7 (fun _ a => some (a.2.1, up2 (up2 a.1 0 1 (v 0 1)) 9 0 (0 : Int32))) (fun i a hi ha => ?_) (fun a _ rec ha => ?_) FU (by have := FU_ge; omega) (v, (-6 : Int32), (6 : Int32)) ⟨rfl, ⟨g 1, by rw [gu_same]; exact hM⟩, fun _ _ _ _ => rfl⟩) (fun a1 h12 => ?_)
  · obtain ⟨u, x⟩ := a
    obtain ⟨hx, ⟨y, h1⟩, h3⟩ := ha
    dsimp only at hx h1 h3
    subst hx
    have e6 : (6 : Int) - (i : Int) = ((6 - i : Nat) : Int) := by omega
    have hB1 := Bd_rm hB (n := 6 - i) (by omega)
    have hM1 : RM (up2 (up2 u 0 1 (I ((6 - i : Nat) : Int))) 9 0 (0 : Int32) 0) (gu g 1 ((6 - i : Nat) : Int)) := by
      rw [up2_ne _ _ _ (show (0 : Nat) ≠ 9 by omega)]
      have := RM_gu h1 1 ((6 - i : Nat) : Int)
      rw [gu_gu] at this
      exact this
    obtain ⟨w, w1, w2, w3, w4⟩ := m_without hM1 hB1 (Or.inl (by rw [up2_if, if_pos rfl])) true
    have hw := wo_le (gu g 1 ((6 - i : Nat) : Int)) (rd (gu g 1 ((6 - i : Nat) : Int)))
    rw [show (fun k => !true || rd (gu g 1 ((6 - i : Nat) : Int)) k) = rd (gu g 1 ((6 - i : Nat) : Int)) from rfl] at w1
    refine ⟨(w, I (frP (lrP g) (i + 1)), I (6 - ((i + 1 : Nat) : Int))), ⟨rfl, ⟨((6 - i : Nat) : Int), by show RM (w 0) _; rw [w4 0 (by omega) (by omega)]; exact hM1⟩, fun b b0 b6 b9 => ?_⟩, fun _ rec => ?_⟩
    · show w b = v b
      rw [w4 b b6 b9, up2_ne _ _ _ b9, up2_ne _ _ _ b0]
      exact h3 b b0 b6 b9
    · show f_X5_leastRooms_b13 (v 0 1) (fun vM_13 x2_13 x3_13 => rec (vM_13, x2_13, x3_13)) u (I (frP (lrP g) i)) (I (6 - (i : Int))) = _
      have em : I (((6 - i : Nat) : Int)) + (-1 : Int32) = I (6 - ((i + 1 : Nat) : Int)) := by
        rw [show (-1 : Int32) = I (-1) from rfl, I_add]
        congr 1
        omega
      rw [e6]
      unfold f_X5_leastRooms_b13
      rw [show (if I ((6 - i : Nat) : Int) < (0 : Int32) then some (I (frP (lrP g) i), up2 (up2 u 0 1 (v 0 1)) 9 0 (0 : Int32)) else _) = _ from ite_lt (b := 0) (r0 _) (r0 0), if_neg (by omega), show f_X5_without (up2 (up2 u 0 1 (I ((6 - i : Nat) : Int))) 9 0 (0 : Int32)) (1 : Int32) = _ from w1]
      simp only [Option.bind_some]
      rw [em]
      have ei : ∀ x y : Option (Int32 × JV), (if I ((wo (gu g 1 ((6 - i : Nat) : Int)) (rd (gu g 1 ((6 - i : Nat) : Int))) : Nat) : Int) = (0 : Int32) then x else y) = (if lrP g (6 - i) = true then x else y) := by
        intro x y
        rw [show (0 : Int32) = I ((0 : Nat) : Int) from rfl, k_inj (by omega) (by omega)]
        unfold lrP
        by_cases d : wo (gu g 1 ((6 - i : Nat) : Int)) (rd (gu g 1 ((6 - i : Nat) : Int))) = 0
        · rw [decide_eq_true d, if_pos rfl, if_pos d]
        · rw [decide_eq_false d, if_neg Bool.false_ne_true, if_neg d]
      rw [ei]
      show _ = rec (w, I (if lrP g (6 - i) then ((6 - i : Nat) : Int) else frP (lrP g) i), _)
      cases lrP g (6 - i) <;> rfl
  · obtain ⟨u, x⟩ := a
    obtain ⟨hx, -⟩ := ha
    dsimp only at hx ⊢
    subst hx
    rfl
  · obtain ⟨⟨h1, ⟨y, h2⟩, h3⟩, h5⟩ := h12
    refine ⟨up2 (up2 a1.1 0 1 (v 0 1)) 9 0 (0 : Int32), ?_, ?_, ?_, fun a a0 a6 a9 => ?_⟩
    · have := h5 ()
      rw [h1] at this
      exact this
    · rw [up2_ne _ _ _ (show (0 : Nat) ≠ 9 by omega), hM 1 (by omega)]
      exact RM_back h2
    · rw [up2_if, if_pos rfl]
    · rw [up2_ne _ _ _ a9, up2_ne _ _ _ a0]
      exact h3 a a0 a6 a9
theorem p_lr {vS u s : JV} {g : Nat → Int} {y : Int} (hS : RS s (gu g 1 y)) (hB : Bd g) {n : Nat} (hn : n ≤ 6) : ∃ vT' : JV, RS (up2 s 0 1 (I (n : Int))) (gu g 1 (n : Int)) ∧ ∀ rec : JV → JV → Int32 → Option (Int32 × JV × JV), f_X4_leastRooms_b13 vS rec u s (I (n : Int)) = (if lrP g n = true then some (I (n : Int), vT', up2 s 0 1 (I (n : Int))) else rec vT' (up2 s 0 1 (I (n : Int))) (I ((n + 1 : Nat) : Int))) := by
  have hB1 := Bd_rm hB hn
  have hS1 : RS (up2 s 0 1 (I (n : Int))) (gu g 1 (n : Int)) := by
    have := RS_set hS (i := 1) (by omega) (n : Int)
    rw [gu_gu] at this
    exact this
  obtain ⟨vT', t1, t2⟩ := p_seatAll (v := u) hS1 hB1
  have hw := wo_le (gu g 1 (n : Int)) (rd (gu g 1 (n : Int)))
  refine ⟨vT', hS1, fun rec => ?_⟩
  unfold f_X4_leastRooms_b13
  rw [show (6 : Int32) = I 6 from rfl, ite_lt (r0 6) (r0 _), if_neg (by omega), t1]
  simp only [Option.bind_some]
  rw [(TN_wo hB1 t2).2, show (0 : Int32) = I ((0 : Nat) : Int) from rfl, k_inj (by omega) (by omega), one_add]
  unfold lrP
  by_cases d : wo (gu g 1 (n : Int)) (rd (gu g 1 (n : Int))) = 0
  · rw [decide_eq_true d, if_pos rfl, if_pos d]
  · rw [decide_eq_false d, if_neg Bool.false_ne_true, if_neg d]
theorem p_leastRooms {vS vT2 vS2 : JV} {g : Nat → Int} (hS : RS vS2 g) (hB : Bd g) : ∃ vT3 vS3 : JV, f_X4_leastRooms_L13 vS FU vT2 vS2 (0 : Int32) = some (I (frP (lrP g) 7), vT3, vS3) := by
  have hl := ff_le (lrP g) 7
  rw [frP_ff]
  unfold f_X4_leastRooms_L13
  refine Exists.elim (lp_inv (P := Unit) (fun _ (rec : JV × JV × Int32 → Option (Int32 × JV × JV)) a => f_X4_leastRooms_b13 vS (fun vT2_13 vS2_13 x1_13 => rec (vT2_13, vS2_13, x1_13)) a.1 a.2.1 a.2.2) (fun n a => a.2.2 = I (n : Int) ∧ ∃ y : Int, RS a.2.1 (gu g 1 y)) (ff (lrP g) 7) (fun _ a => f_X4_leastRooms_b13 vS (fun _ _ _ => none) a.1 a.2.1 a.2.2) (fun n a hn ha => ?_) (fun a _ rec ha => ?_) FU (by have := FU_ge; omega) (vT2, vS2, (0 : Int32)) ⟨rfl, g 1, by rw [gu_same]; exact hS⟩) (fun a1 h12 => ?_)
  · obtain ⟨u, s, x⟩ := a
    obtain ⟨hx, y, h1⟩ := ha
    dsimp only at hx h1
    subst hx
    obtain ⟨vT', s1, s2⟩ := p_lr (vS := vS) (u := u) h1 hB (n := n) (by omega)
    refine ⟨(vT', up2 s 0 1 (I (n : Int)), I ((n + 1 : Nat) : Int)), ⟨rfl, (n : Int), s1⟩, fun _ rec => ?_⟩
    refine (s2 (fun a b c => rec (a, b, c))).trans ?_
    rw [ff_lo (lrP g) 7 n hn, if_neg Bool.false_ne_true]
  · obtain ⟨u, s, x⟩ := a
    obtain ⟨hx, y, h1⟩ := ha
    dsimp only at hx h1 ⊢
    subst hx
    by_cases c : ff (lrP g) 7 < 7
    · obtain ⟨vT', s1, s2⟩ := p_lr (vS := vS) (u := u) h1 hB (n := ff (lrP g) 7) (by omega)
      rw [s2, s2, ff_hi (lrP g) 7 c, if_pos rfl, if_pos rfl]
    · rw [show ff (lrP g) 7 = 7 by omega]
      rfl
  · obtain ⟨⟨h1, y, h2⟩, h5⟩ := h12
    have h6 := h5 ()
    rw [h1] at h6
    by_cases c : ff (lrP g) 7 < 7
    · obtain ⟨vT', s1, s2⟩ := p_lr (vS := vS) (u := a1.1) h2 hB (n := ff (lrP g) 7) (by omega)
      rw [s2, ff_hi (lrP g) 7 c, if_pos rfl] at h6
      rw [if_pos c]
      exact ⟨_, _, h6⟩
    · rw [if_neg c]
      rw [show ff (lrP g) 7 = 7 by omega] at h6
      exact ⟨_, _, h6⟩
theorem e_leastRooms {vT vS vP : JV} {hV : Nat → JV} {hZ : JV} {sV : Nat → JV} {vU vM : JV} (vT2 vS2 : JV) (h : RI vT vS vP hV hZ sV vU vM) :
    ∃ (Rz : Int32 × JV × JV) (m : Int32 × JV), f_X4_leastRooms vS vT2 vS2 = some Rz ∧ f_X5_leastRooms vM = some m ∧ m.1 = Rz.1 ∧ RI vT vS vP hV hZ sV vU m.2 := by
  obtain ⟨⟨g, hg⟩, -⟩ := id h
  obtain ⟨q, e1, e2⟩ := p_copyFrom (v := vS2) hg.2.1 hg.1
  obtain ⟨vT3, vS3, t1⟩ := p_leastRooms (vS := vS) (vT2 := vT2) e2 hg.1
  obtain ⟨w, w1, w2, w3, w4⟩ := m_leastRooms hg.2.2.2.1 hg.1
  refine ⟨(I (frP (lrP g) 7), vT3, vS3), _, ?_, w1, rfl, h.tr hg w2 w3 (fun a a0 _ a6 a9 => w4 a a0 a6 a9)⟩
  unfold f_X4_leastRooms
  rw [e1]
  exact t1
