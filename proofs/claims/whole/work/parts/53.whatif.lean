/-! ===== what if: ifStart, bestStart ===== -/
theorem gu_gu (g : Nat → Int) (k : Nat) (x y : Int) : gu (gu g k x) k y = gu g k y := by
  funext j
  unfold gu
  by_cases c : j = k
  · rw [if_pos c, if_pos c]
  · rw [if_neg c, if_neg c, if_neg c]
theorem gu_same (g : Nat → Int) (k : Nat) : gu g k (g k) = g := by
  funext j
  unfold gu
  by_cases c : j = k
  · rw [if_pos c, c]
  · rw [if_neg c]
theorem RM_back {v : JV} {g : Nat → Int} {k : Nat} {x : Int} (h : RM (v 0) (gu g k x)) : RM (up2 v 0 k (I (g k)) 0) g := by
  have q := RM_gu h k (g k)
  rw [gu_gu, gu_same] at q
  exact q
theorem RI.tr {vT vS vP : JV} {hV : Nat → JV} {hZ : JV} {sV : Nat → JV} {vU v w : JV} {g : Nat → Int} (h : RI vT vS vP hV hZ sV vU v) (hg : RG vT vS v g) (hM : RM (w 0) g) (h9 : w 9 0 = 0) (hf : ∀ a : Nat, a ≠ 0 → a ≠ 2 → a ≠ 6 → a ≠ 9 → w a = v a) : RI vT vS vP hV hZ sV vU w := by
  obtain ⟨-, hh, hl, hp⟩ := h
  obtain ⟨g1, g2, g3, g4, -⟩ := hg
  exact ⟨⟨g, g1, g2, g3, hM, Or.inl h9⟩, hh.fr (hf 3 (by omega) (by omega) (by omega) (by omega)) (hf 11 (by omega) (by omega) (by omega) (by omega)), hl.fr (hf 4 (by omega) (by omega) (by omega) (by omega)) (hf 5 (by omega) (by omega) (by omega) (by omega)), hp.fr (hf 8 (by omega) (by omega) (by omega) (by omega)) (hf 10 (by omega) (by omega) (by omega) (by omega))⟩
/-- what another start brings: clashes, sittings without a place, the last end -/
def ifA (g : Nat → Int) (t : Nat) : Int := if t = 0 then (cps g (np g) : Int) else if t = 1 then (wo g (fun _ => true) : Int) else lastE g
theorem Bd_st {g : Nat → Int} (hB : Bd g) {p : Nat} (hp : p < 6) {b : Int} (hb : 0 ≤ b ∧ b ≤ 19) : Bd (gu g (4 + 2 * p) b) := Bd_gu hB _ (by unfold loB; (repeat' split) <;> omega) (by unfold hiB; (repeat' split) <;> omega)
theorem m_ifStart {v : JV} {g : Nat → Int} (hM : RM (v 0) g) (hB : Bd g) {p : Nat} (hp : p < 6) {b : Int} (hb : 0 ≤ b ∧ b ≤ 19) {t : Nat} (ht : t < 3) : ∃ w : JV, f_X5_ifStart v (I (p : Int)) (I b) (I (t : Int)) = some (I (ifA (gu g (4 + 2 * p) b) t), w) ∧ RM (w 0) g ∧ w 9 0 = 0 ∧ ∀ a : Nat, a ≠ 0 → a ≠ 6 → a ≠ 9 → w a = v a := by
  have hB1 := Bd_st hB hp hb
  have hM1 : RM (up2 (up2 v 0 (4 + 2 * p) (I b)) 9 0 (0 : Int32) 0) (gu g (4 + 2 * p) b) := by
    rw [up2_ne _ _ _ (show (0 : Nat) ≠ 9 by omega)]
    exact RM_gu hM _ b
  have h19 : up2 (up2 v 0 (4 + 2 * p) (I b)) 9 0 (0 : Int32) 9 0 = 0 := by rw [up2_if, if_pos rfl]
  have h1f : ∀ a : Nat, a ≠ 0 → a ≠ 6 → a ≠ 9 → up2 (up2 v 0 (4 + 2 * p) (I b)) 9 0 (0 : Int32) a = v a := fun a a0 _ a9 => by rw [up2_ne _ _ _ a9, up2_ne _ _ _ a0]
  have e0 : v 0 (4 + 2 * p) = I (g (4 + 2 * p)) := hM _ (by omega)
  have K : ∀ (u : JV) (y : Int32), RM (u 0) (gu g (4 + 2 * p) b) → (∀ a : Nat, a ≠ 0 → a ≠ 6 → a ≠ 9 → u a = v a) → ∃ w : JV, f_X5_ifStart_K87 u (I (p : Int)) (v 0 (4 + 2 * p)) y = some (y, w) ∧ RM (w 0) g ∧ w 9 0 = 0 ∧ ∀ a : Nat, a ≠ 0 → a ≠ 6 → a ≠ 9 → w a = v a := by
    intro u y hu hf
    refine ⟨up2 (up2 u 0 (4 + 2 * p) (I (g (4 + 2 * p)))) 9 0 (0 : Int32), ?_, ?_, ?_, fun a a0 a6 a9 => ?_⟩
    · unfold f_X5_ifStart_K87
      rw [ix4, gd_t (inb_k (by omega) (by omega)), I_k (by omega), e0]
    · rw [up2_ne _ _ _ (show (0 : Nat) ≠ 9 by omega)]
      exact RM_back hu
    · rw [up2_if, if_pos rfl]
    · rw [up2_ne _ _ _ a9, up2_ne _ _ _ a0]
      exact hf a a0 a6 a9
  have hbr : rng b := r0 b
  unfold f_X5_ifStart
  rw [m_isPaper (r0 _), show f_X5_in (I b) (0 : Int32) (19 : Int32) = _ from m_wi hbr 0 19 (r0 0) (r0 19), show f_X5_in (I (t : Int)) (0 : Int32) (2 : Int32) = _ from m_wi (r0 _) 0 2 (r0 0) (r0 2)]
  simp only [Option.bind_some]
  rw [ite_B1, if_pos (wi_iff.mpr ⟨by omega, by omega⟩), ite_B1, if_pos (wi_iff.mpr hb), ite_B1, if_pos (wi_iff.mpr ⟨by omega, by omega⟩), ix4]
  simp only [gd_t (inb_k (show 4 + 2 * p < 76 by omega) (show 76 < 1000000 by omega))]
  rw [I_k (show 4 + 2 * p < 1000000 by omega)]
  generalize up2 (up2 v 0 (4 + 2 * p) (I b)) 9 0 (0 : Int32) = u at hM1 h19 h1f ⊢
  rcases (show t = 0 ∨ t = 1 ∨ t = 2 by omega) with rfl | rfl | rfl
  · rw [if_pos (show I ((0 : Nat) : Int) = (0 : Int32) from rfl), m_clashes hM1 hB1]
    exact K u _ hM1 h1f
  · rw [if_neg (show ¬ I ((1 : Nat) : Int) = (0 : Int32) by decide), if_pos (show I ((1 : Nat) : Int) = (1 : Int32) from rfl)]
    obtain ⟨w, w1, w2, w3, w4⟩ := m_without hM1 hB1 (Or.inl h19) false
    rw [show (0 : Int32) = I (B1 false) from rfl, w1]
    exact K w _ (by rw [w4 0 (by omega) (by omega)]; exact hM1) (fun a a0 a6 a9 => by rw [w4 a a6 a9]; exact h1f a a0 a6 a9)
  · rw [if_neg (show ¬ I ((2 : Nat) : Int) = (0 : Int32) by decide), if_neg (show ¬ I ((2 : Nat) : Int) = (1 : Int32) by decide), m_lastEnd hM1 hB1]
    exact K u _ hM1 h1f
theorem e_ifStart {vT vS vP : JV} {hV : Nat → JV} {hZ : JV} {sV : Nat → JV} {vU vM : JV} (vT2 vS2 : JV) (h : RI vT vS vP hV hZ sV vU vM) (x1 x2 x3 : Int32) :
    ∃ (Rz : Int32 × JV × JV) (m : Int32 × JV), f_X4_ifStart vS vT2 vS2 x1 x2 x3 = some Rz ∧ f_X5_ifStart vM x1 x2 x3 = some m ∧ m.1 = Rz.1 ∧ RI vT vS vP hV hZ sV vU m.2 := by
  obtain ⟨a, ha, rfl⟩ := I_ex x1
  obtain ⟨b, hb, rfl⟩ := I_ex x2
  obtain ⟨c, hc, rfl⟩ := I_ex x3
  obtain ⟨⟨g, hg⟩, -⟩ := id h
  by_cases c1 : wi 0 5 a = true
  · by_cases c2 : wi 0 19 b = true
    · by_cases c3 : wi 0 2 c = true
      · have ca := wi_iff.mp c1
        obtain ⟨p, rfl⟩ := I_nex ca.1
        have hp : p < 6 := by omega
        have cb := wi_iff.mp c2
        have cc := wi_iff.mp c3
        obtain ⟨t, rfl⟩ := I_nex cc.1
        obtain ⟨w, w1, w2, w3, w4⟩ := m_ifStart hg.2.2.2.1 hg.1 hp cb (t := t) (by omega)
        have hB1 := Bd_st hg.1 hp cb
        obtain ⟨q, q1, q2⟩ := p_copyFrom (v := vS2) hg.2.1 hg.1
        have hS1 := RS_start q2 hp b
        obtain ⟨vT', t1, t2⟩ := p_seatAll (v := vT2) hS1 hB1
        have key : ∃ vT3 : JV, f_X4_ifStart vS vT2 vS2 (I (p : Int)) (I b) (I (t : Int)) = some (I (ifA (gu g (4 + 2 * p) b) t), vT3, up2 q 1 p (I b)) := by
          unfold f_X4_ifStart
          rw [p_isPaper ha, p_isStart hb, show f_X4_isWithin (I (t : Int)) (0 : Int32) (2 : Int32) = _ from p_wi hc 0 2 (r0 0) (r0 2)]
          simp only [Option.bind_some]
          rw [ite_B1, if_pos c1, ite_B1, if_pos c2, ite_B1, if_pos c3, q1]
          simp only [Option.bind_some]
          rw [gd_t (inb_k hp (by omega)), I_k (show p < 1000000 by omega), p_clashes hS1 hB1, t1, p_lastEnd hS1 hB1]
          simp only [Option.bind_some]
          rw [(TN_wo hB1 t2).1]
          rcases (show t = 0 ∨ t = 1 ∨ t = 2 by omega) with rfl | rfl | rfl
          · exact ⟨vT2, rfl⟩
          · exact ⟨vT', rfl⟩
          · exact ⟨vT2, rfl⟩
        obtain ⟨vT3, k1⟩ := key
        exact ⟨_, _, k1, w1, rfl, h.tr hg w2 w3 (fun a a0 _ a6 a9 => w4 a a0 a6 a9)⟩
      · unfold f_X4_ifStart f_X5_ifStart
        rw [p_isPaper ha, p_isStart hb, show f_X4_isWithin (I c) (0 : Int32) (2 : Int32) = _ from p_wi hc 0 2 (r0 0) (r0 2), m_isPaper ha, show f_X5_in (I b) (0 : Int32) (19 : Int32) = _ from m_wi hb 0 19 (r0 0) (r0 19), show f_X5_in (I c) (0 : Int32) (2 : Int32) = _ from m_wi hc 0 2 (r0 0) (r0 2)]
        simp only [Option.bind_some]
        rw [c1, c2, (Bool.not_eq_true _).mp c3]
        exact ⟨_, _, rfl, rfl, rfl, h⟩
    · unfold f_X4_ifStart f_X5_ifStart
      rw [p_isPaper ha, p_isStart hb, m_isPaper ha, show f_X5_in (I b) (0 : Int32) (19 : Int32) = _ from m_wi hb 0 19 (r0 0) (r0 19)]
      simp only [Option.bind_some]
      rw [c1, (Bool.not_eq_true _).mp c2]
      exact ⟨_, _, rfl, rfl, rfl, h⟩
  · unfold f_X4_ifStart f_X5_ifStart
    rw [p_isPaper ha, m_isPaper ha]
    simp only [Option.bind_some]
    rw [(Bool.not_eq_true _).mp c1]
    exact ⟨_, _, rfl, rfl, rfl, h⟩
/-! the best of n tries by two counts -/
def bsf (c u : Nat → Nat) : Nat → Nat × Nat × Nat
  | 0 => (0, 1000, 1000)
  | n + 1 => if c n < (bsf c u n).2.1 ∨ (c n = (bsf c u n).2.1 ∧ u n < (bsf c u n).2.2) then (n, c n, u n) else bsf c u n
def bsl (c u : Nat → Nat) (n : Nat) : Nat := if n = 0 then 1000000 else 1000 * (bsf c u n).2.1 + (bsf c u n).2.2
theorem bsf_bd {c u : Nat → Nat} {C U : Nat} (hc : ∀ n : Nat, c n ≤ C) (hu : ∀ n : Nat, u n ≤ U) (hC : C < 1000) : ∀ n : Nat, (bsf c u (n + 1)).1 ≤ n ∧ (bsf c u (n + 1)).2.1 ≤ C ∧ (bsf c u (n + 1)).2.2 ≤ U
  | 0 => by
    have e : bsf c u 1 = (0, c 0, u 0) := by
      show (if c 0 < 1000 ∨ (c 0 = 1000 ∧ u 0 < 1000) then (0, c 0, u 0) else (0, 1000, 1000)) = _
      rw [if_pos (Or.inl (by have := hc 0; omega))]
    rw [e]
    exact ⟨Nat.le_refl _, hc 0, hu 0⟩
  | n + 1 => by
    have ih := bsf_bd hc hu hC n
    have e : bsf c u (n + 2) = if c (n + 1) < (bsf c u (n + 1)).2.1 ∨ (c (n + 1) = (bsf c u (n + 1)).2.1 ∧ u (n + 1) < (bsf c u (n + 1)).2.2) then (n + 1, c (n + 1), u (n + 1)) else bsf c u (n + 1) := rfl
    rw [e]
    split
    · exact ⟨Nat.le_refl _, hc _, hu _⟩
    · exact ⟨by omega, ih.2.1, ih.2.2⟩
theorem bsf_all {c u : Nat → Nat} {C U : Nat} (hc : ∀ n : Nat, c n ≤ C) (hu : ∀ n : Nat, u n ≤ U) (hC : C < 1000) (hU : U < 1000) (n : Nat) : (bsf c u n).1 ≤ n ∧ (bsf c u n).2.1 ≤ 1000 ∧ (bsf c u n).2.2 ≤ 1000 ∧ bsl c u n ≤ 1000000 := by
  match n with
  | 0 => exact ⟨Nat.le_refl _, Nat.le_refl _, Nat.le_refl _, Nat.le_refl _⟩
  | n + 1 =>
    have h := bsf_bd hc hu hC n
    unfold bsl
    rw [if_neg (by omega)]
    omega
theorem bsl_step {c u : Nat → Nat} {C U : Nat} (hc : ∀ n : Nat, c n ≤ C) (hu : ∀ n : Nat, u n ≤ U) (hC : C < 1000) (hU : U < 1000) (n : Nat) : (1000 * c n + u n < bsl c u n ↔ (c n < (bsf c u n).2.1 ∨ (c n = (bsf c u n).2.1 ∧ u n < (bsf c u n).2.2))) ∧ bsl c u (n + 1) = (if 1000 * c n + u n < bsl c u n then 1000 * c n + u n else bsl c u n) ∧ (bsf c u (n + 1)).1 = (if 1000 * c n + u n < bsl c u n then n else (bsf c u n).1) := by
  have h1 : 1000 * c n + u n < bsl c u n ↔ (c n < (bsf c u n).2.1 ∨ (c n = (bsf c u n).2.1 ∧ u n < (bsf c u n).2.2)) := by
    have q1 := hc n
    have q2 := hu n
    match n with
    | 0 =>
      show 1000 * c 0 + u 0 < 1000000 ↔ (c 0 < 1000 ∨ (c 0 = 1000 ∧ u 0 < 1000))
      omega
    | n + 1 =>
      have h := bsf_bd hc hu hC n
      unfold bsl
      rw [if_neg (by omega)]
      omega
  have e : bsf c u (n + 1) = if c n < (bsf c u n).2.1 ∨ (c n = (bsf c u n).2.1 ∧ u n < (bsf c u n).2.2) then (n, c n, u n) else bsf c u n := rfl
  refine ⟨h1, ?_, ?_⟩
  · by_cases d : 1000 * c n + u n < bsl c u n
    · rw [if_pos d]
      rw [if_pos (h1.mp d)] at e
      unfold bsl
      rw [if_neg (by omega), e]
    · rw [if_neg d]
      rw [if_neg (fun z => d (h1.mpr z))] at e
      have hn : n ≠ 0 := by
        intro z
        subst z
        apply d
        show 1000 * c 0 + u 0 < 1000000
        have q1 := hc 0
        have q2 := hu 0
        omega
      unfold bsl
      rw [if_neg (by omega), if_neg hn, e]
  · by_cases d : 1000 * c n + u n < bsl c u n
    · rw [if_pos d, e, if_pos (h1.mp d)]
    · rw [if_neg d, e, if_neg (fun z => d (h1.mpr z))]
def bcC (g : Nat → Int) (p n : Nat) : Nat := cps (gu g (4 + 2 * p) (n : Int)) (np (gu g (4 + 2 * p) (n : Int)))
def bcU (g : Nat → Int) (p n : Nat) : Nat := wo (gu g (4 + 2 * p) (n : Int)) (fun _ => true)
theorem np_gu {g : Nat → Int} {k : Nat} {x : Int} (h : k ≠ 3) : np (gu g k x) = np g := by
  unfold np
  rw [gu_ne g x (fun z => h z.symm)]
theorem bcC_le {g : Nat → Int} (hB : Bd g) (p n : Nat) : bcC g p n ≤ 576 := by
  have hn := np_le hB
  have h := cps_le (gu g (4 + 2 * p) (n : Int)) (np g)
  unfold bcC
  rw [np_gu (by omega)]
  omega
theorem bcU_le (g : Nat → Int) (p n : Nat) : bcU g p n ≤ 96 := wo_le _ _
theorem m_bestStart {v : JV} {g : Nat → Int} (hM : RM (v 0) g) (h9 : True) (hB : Bd g) {p : Nat} (hp : p < 6) : ∃ w : JV, f_X5_bestStart_L17 (I (p : Int)) FU v (0 : Int32) (1000000 : Int32) (0 : Int32) = some (I ((bsf (bcC g p) (bcU g p) 20).1 : Int), w) ∧ RM (w 0) g ∧ w 9 0 = 0 ∧ ∀ a : Nat, a ≠ 0 → a ≠ 6 → a ≠ 9 → w a = v a := by
  have hc := bcC_le hB p
  have hu := bcU_le g p
  unfold f_X5_bestStart_L17
  refine Exists.elim (lp_inv (P := Unit) (fun _ (rec : JV × Int32 × Int32 × Int32 → Option (Int32 × JV)) a => f_X5_bestStart_b17 (I (p : Int)) (fun vM_17 x2_17 x3_17 x4_17 => rec (vM_17, x2_17, x3_17, x4_17)) a.1 a.2.1 a.2.2.1 a.2.2.2) (fun n a => a.2 = (I ((bsf (bcC g p) (bcU g p) n).1 : Int), I (bsl (bcC g p) (bcU g p) n : Int), I (n : Int)) ∧ RM (a.1 0) g ∧ (0 < n → a.1 9 0 = 0) ∧ ∀ a' : Nat, a' ≠ 0 → a' ≠ 6 → a' ≠ 9 → a.1 a' = v a') 20 (fun _ a => some (a.2.1, a.1)) (fun n a hn ha => ?_) (fun a _ rec ha => ?_) FU (by have := FU_ge; omega) (v, (0 : Int32), (1000000 : Int32), (0 : Int32)) ⟨rfl, hM, fun h => absurd h (by omega), fun _ _ _ _ => rfl⟩) (fun a' h12 => ?_)
  · obtain ⟨u, x⟩ := a
    obtain ⟨hx, h1, -, h3⟩ := ha
    dsimp only at hx h1 h3
    subst hx
    obtain ⟨w, w1, w2, w3, w4⟩ := m_ifStart h1 hB hp (b := (n : Int)) (by omega) (t := 0) (by omega)
    obtain ⟨w', w1', w2', w3', w4'⟩ := m_ifStart w2 hB hp (b := (n : Int)) (by omega) (t := 1) (by omega)
    have st := bsl_step hc hu (by omega) (by omega) n
    have al := bsf_all hc hu (by omega) (by omega) n
    have q1 := hc n
    have q2 := hu n
    refine ⟨(w', I ((bsf (bcC g p) (bcU g p) (n + 1)).1 : Int), I (bsl (bcC g p) (bcU g p) (n + 1) : Int), I ((n + 1 : Nat) : Int)), ⟨rfl, w2', fun _ => w3', fun a' a0 a6 a9 => by show w' a' = v a'; rw [w4' a' a0 a6 a9, w4 a' a0 a6 a9]; exact h3 a' a0 a6 a9⟩, fun _ rec => ?_⟩
    show f_X5_bestStart_b17 (I (p : Int)) (fun vM_17 x2_17 x3_17 x4_17 => rec (vM_17, x2_17, x3_17, x4_17)) u (I ((bsf (bcC g p) (bcU g p) n).1 : Int)) (I (bsl (bcC g p) (bcU g p) n : Int)) (I (n : Int)) = _
    unfold f_X5_bestStart_b17 f_X5_bestStart_K59
    rw [show (20 : Int32) = I ((20 : Nat) : Int) from rfl, k_le (by omega) (by omega), if_neg (by omega), show f_X5_ifStart u (I (p : Int)) (I (n : Int)) (0 : Int32) = _ from w1]
    simp only [Option.bind_some]
    rw [show f_X5_ifStart w (I (p : Int)) (I (n : Int)) (1 : Int32) = _ from w1']
    simp only [Option.bind_some]
    rw [show ifA (gu g (4 + 2 * p) (n : Int)) 0 = ((bcC g p n : Nat) : Int) from rfl, show ifA (gu g (4 + 2 * p) (n : Int)) 1 = ((bcU g p n : Nat) : Int) from rfl, show (1000 : Int32) = I ((1000 : Nat) : Int) from rfl, nat_mul, nat_add, one_add]
    rw [ite_le (rng_of (by omega) (by omega)) (rng_of (by omega) (by omega)), ite_le (rng_of (by omega) (by omega)) (rng_of (by omega) (by omega)), ite_le (rng_of (by omega) (by omega)) (rng_of (by omega) (by omega)), st.2.1, st.2.2]
    by_cases d : 1000 * bcC g p n + bcU g p n < bsl (bcC g p) (bcU g p) n
    · rw [if_pos d, if_pos d, if_neg (by omega), if_neg (by omega)]
    · rw [if_neg d, if_neg d, if_pos (by omega), if_pos (by omega)]
  · obtain ⟨u, x⟩ := a
    obtain ⟨hx, -⟩ := ha
    dsimp only at hx ⊢
    subst hx
    unfold f_X5_bestStart_b17
    rw [show (20 : Int32) = I ((20 : Nat) : Int) from rfl, k_le (by omega) (by omega), if_pos (by omega)]
  · obtain ⟨⟨h1, h2, h3, h4⟩, h5⟩ := h12
    refine ⟨a'.1, ?_, h2, h3 (by omega), h4⟩
    have := h5 ()
    rw [h1] at this
    exact this
theorem p_bestStart {vS vT2 vS2 : JV} {g : Nat → Int} (hS : RS vS2 g) (hB : Bd g) {p : Nat} (hp : p < 6) : ∃ vT3 vS3 : JV, f_X4_bestStart_L34 vS (I (p : Int)) FU vT2 vS2 (0 : Int32) (1000 : Int32) (1000 : Int32) (0 : Int32) = some (I ((bsf (bcC g p) (bcU g p) 20).1 : Int), vT3, vS3) := by
  have hc := bcC_le hB p
  have hu := bcU_le g p
  unfold f_X4_bestStart_L34
  refine Exists.elim (lp_inv (P := Unit) (fun _ (rec : JV × JV × Int32 × Int32 × Int32 × Int32 → Option (Int32 × JV × JV)) a => f_X4_bestStart_b34 vS (I (p : Int)) (fun vT2_34 vS2_34 x2_34 x3_34 x4_34 x5_34 => rec (vT2_34, vS2_34, x2_34, x3_34, x4_34, x5_34)) a.1 a.2.1 a.2.2.1 a.2.2.2.1 a.2.2.2.2.1 a.2.2.2.2.2) (fun n a => a.2.2 = (I ((bsf (bcC g p) (bcU g p) n).1 : Int), I ((bsf (bcC g p) (bcU g p) n).2.1 : Int), I ((bsf (bcC g p) (bcU g p) n).2.2 : Int), I (n : Int)) ∧ ∃ y : Int, RS a.2.1 (gu g (4 + 2 * p) y)) 20 (fun _ a => some (a.2.2.1, a.1, a.2.1)) (fun n a hn ha => ?_) (fun a _ rec ha => ?_) FU (by have := FU_ge; omega) (vT2, vS2, (0 : Int32), (1000 : Int32), (1000 : Int32), (0 : Int32)) ⟨rfl, g (4 + 2 * p), by rw [gu_same]; exact hS⟩) (fun a' h12 => ?_)
  · obtain ⟨u, s, x⟩ := a
    obtain ⟨hx, y, h1⟩ := ha
    dsimp only at hx h1
    subst hx
    have hS1 := RS_start h1 hp (n : Int)
    rw [gu_gu] at hS1
    have hB1 := Bd_st hB hp (b := (n : Int)) (by omega)
    obtain ⟨vT', t1, t2⟩ := p_seatAll (v := u) hS1 hB1
    have st := bsl_step hc hu (by omega) (by omega) n
    have al := bsf_all hc hu (by omega) (by omega) n
    have q1 := hc n
    have q2 := hu n
    have e : bsf (bcC g p) (bcU g p) (n + 1) = if bcC g p n < (bsf (bcC g p) (bcU g p) n).2.1 ∨ (bcC g p n = (bsf (bcC g p) (bcU g p) n).2.1 ∧ bcU g p n < (bsf (bcC g p) (bcU g p) n).2.2) then (n, bcC g p n, bcU g p n) else bsf (bcC g p) (bcU g p) n := rfl
    have ev : ∀ rec : JV × JV × Int32 × Int32 × Int32 × Int32 → Option (Int32 × JV × JV), f_X4_bestStart_b34 vS (I (p : Int)) (fun vT2_34 vS2_34 x2_34 x3_34 x4_34 x5_34 => rec (vT2_34, vS2_34, x2_34, x3_34, x4_34, x5_34)) u s (I ((bsf (bcC g p) (bcU g p) n).1 : Int)) (I ((bsf (bcC g p) (bcU g p) n).2.1 : Int)) (I ((bsf (bcC g p) (bcU g p) n).2.2 : Int)) (I (n : Int)) = rec ((if bcC g p n ≤ (bsf (bcC g p) (bcU g p) n).2.1 then vT' else u), up2 s 1 p (I (n : Int)), I ((bsf (bcC g p) (bcU g p) (n + 1)).1 : Int), I ((bsf (bcC g p) (bcU g p) (n + 1)).2.1 : Int), I ((bsf (bcC g p) (bcU g p) (n + 1)).2.2 : Int), I ((n + 1 : Nat) : Int)) := by
      intro rec
      unfold f_X4_bestStart_b34
      rw [show (20 : Int32) = I ((20 : Nat) : Int) from rfl, k_le (by omega) (by omega), if_neg (by omega), gd_t (inb_k hp (by omega)), I_k (show p < 1000000 by omega), p_clashes hS1 hB1, t1]
      simp only [Option.bind_some]
      rw [(TN_wo hB1 t2).1, one_add]
      rw [show cps (gu g (4 + 2 * p) (n : Int)) (np (gu g (4 + 2 * p) (n : Int))) = bcC g p n from rfl, show wo (gu g (4 + 2 * p) (n : Int)) (fun _ => true) = bcU g p n from rfl, e]
      generalize bsf (bcC g p) (bcU g p) n = B at al ⊢
      generalize bcC g p n = c at q1 ⊢
      generalize bcU g p n = d at q2 ⊢
      rw [k_le (by omega) (by omega), ite_lt (r0 _) (r0 _), k_le (by omega) (by omega)]
      by_cases f1 : c ≤ B.2.1
      · rw [if_pos f1, if_pos f1]
        by_cases f2 : c < B.2.1
        · rw [if_pos (by omega), if_pos (Or.inl f2)]
        · rw [if_neg (by omega)]
          by_cases f3 : d < B.2.2
          · rw [if_neg (by omega), if_pos (Or.inr ⟨by omega, f3⟩)]
          · rw [if_pos (by omega), if_neg (by omega)]
      · rw [if_neg f1, if_neg f1, if_neg (by omega)]
    exact ⟨_, ⟨rfl, (n : Int), hS1⟩, fun _ rec => ev rec⟩
  · obtain ⟨u, s, x⟩ := a
    obtain ⟨hx, -⟩ := ha
    dsimp only at hx ⊢
    subst hx
    unfold f_X4_bestStart_b34
    rw [show (20 : Int32) = I ((20 : Nat) : Int) from rfl, k_le (by omega) (by omega), if_pos (by omega)]
  · obtain ⟨⟨h1, -⟩, h5⟩ := h12
    refine ⟨a'.1, a'.2.1, ?_⟩
    have := h5 ()
    rw [h1] at this
    exact this
theorem e_bestStart {vT vS vP : JV} {hV : Nat → JV} {hZ : JV} {sV : Nat → JV} {vU vM : JV} (vT2 vS2 : JV) (h : RI vT vS vP hV hZ sV vU vM) (x1 : Int32) :
    ∃ (Rz : Int32 × JV × JV) (m : Int32 × JV), f_X4_bestStart vS vT2 vS2 x1 = some Rz ∧ f_X5_bestStart vM x1 = some m ∧ m.1 = Rz.1 ∧ RI vT vS vP hV hZ sV vU m.2 := by
  obtain ⟨a, ha, rfl⟩ := I_ex x1
  obtain ⟨⟨g, hg⟩, -⟩ := id h
  unfold f_X4_bestStart f_X5_bestStart
  rw [p_isPaper ha, m_isPaper ha]
  simp only [Option.bind_some]
  rw [ite_B1, ite_B1]
  by_cases c1 : wi 0 5 a = true
  · rw [if_pos c1, if_pos c1]
    have ca := wi_iff.mp c1
    obtain ⟨p, rfl⟩ := I_nex ca.1
    have hp : p < 6 := by omega
    obtain ⟨q, q1, q2⟩ := p_copyFrom (v := vS2) hg.2.1 hg.1
    obtain ⟨vT3, vS3, t1⟩ := p_bestStart (vS := vS) (vT2 := vT2) q2 hg.1 hp
    obtain ⟨w, w1, w2, w3, w4⟩ := m_bestStart hg.2.2.2.1 trivial hg.1 hp
    rw [q1]
    simp only [Option.bind_some]
    rw [t1, w1]
    exact ⟨_, _, rfl, rfl, rfl, h.tr hg w2 w3 (fun a a0 _ a6 a9 => w4 a a0 a6 a9)⟩
  · rw [if_neg c1, if_neg c1]
    exact ⟨_, _, rfl, rfl, rfl, h⟩
