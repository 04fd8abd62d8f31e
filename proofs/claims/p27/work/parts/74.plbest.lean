/-! ===== the law: the best halls, the least rooms ===== -/
section PLBEST
variable {g : Nat → Int} {n : Nat} {vT vS : JV} {hV : Nat → JV} {hZ : JV} {vP : JV} {hA : Nat → Nat → Nat}
/-- the halls before h are as the set s says -/
def gh (g : Nat → Int) (s h : Nat) : Nat → Int := fun k => if (k < 66 ∨ (k - 66) % 3 ≠ 0) ∨ h ≤ (k - 66) / 3 then g k else B1 (bt (s : Int) ((k - 66) / 3))
theorem gh_0 (g : Nat → Int) (s : Nat) : gh g s 0 = g := by
  funext k
  unfold gh
  rw [if_pos (Or.inr (Nat.zero_le _))]
theorem gh_s (g : Nat → Int) (s h : Nat) : gh g s (h + 1) = gu (gh g s h) (66 + 3 * h) (B1 (bt (s : Int) h)) := by
  funext k
  unfold gu
  by_cases c : k = 66 + 3 * h
  · rw [if_pos c]
    unfold gh
    rw [if_neg (by omega), show (k - 66) / 3 = h by omega]
  · rw [if_neg c]
    unfold gh
    by_cases d : (k < 66 ∨ (k - 66) % 3 ≠ 0) ∨ h ≤ (k - 66) / 3
    · rw [if_pos d, if_pos (by omega)]
    · rw [if_neg d, if_neg (by omega)]
theorem gh_at (g : Nat → Int) (s h : Nat) : gh g s h (66 + 3 * h) = g (66 + 3 * h) := by
  unfold gh
  rw [if_pos (by omega)]
theorem gh_4 (hz : Z76 g) {s : Nat} (hs : s < 16) : gh g s 4 = gO g s := by
  funext k
  unfold gh gO
  by_cases c : k < 66 ∨ (k - 66) % 3 ≠ 0
  · rw [if_pos (Or.inl c), if_pos c]
  · rw [if_neg c]
    by_cases d : 4 ≤ (k - 66) / 3
    · rw [if_pos (Or.inr d), hz k (by omega)]
      have e : bt (s : Int) ((k - 66) / 3) = false := by
        unfold bt
        have h16 : (16 : Int) ≤ 2 ^ ((k - 66) / 3) := by
          have : 2 ^ 4 ≤ 2 ^ ((k - 66) / 3) := Nat.pow_le_pow_right (by omega) d
          have e2 : ((2 ^ ((k - 66) / 3) : Nat) : Int) = (2 : Int) ^ ((k - 66) / 3) := by
            rw [Int.natCast_pow]
            rfl
          omega
        rw [Int.ediv_eq_zero_of_lt (by omega) (by omega)]
        rfl
      rw [e]
      rfl
    · rw [if_neg (by omega)]
theorem Z76_gO (hz : Z76 g) {s : Nat} (hs : s < 16) : Z76 (gO g s) := by
  rw [← gh_4 hz hs]
  intro k hk
  unfold gh
  rw [if_pos (by omega)]
  exact hz k hk
theorem gO_gO (g : Nat → Int) (s t : Nat) : gO (gO g s) t = gO g t := by
  funext k
  by_cases c : k < 66 ∨ (k - 66) % 3 ≠ 0
  · rw [gO_ne _ _ c, gO_ne _ _ c, gO_ne _ _ c]
  · unfold gO
    rw [if_neg c, if_neg c]
/-- the best of n tries: its counts, and none is better -/
theorem bsf_c {c u : Nat → Nat} (hc : ∀ n : Nat, c n ≤ 100) : ∀ n : Nat, (bsf c u (n + 1)).1 ≤ n ∧ (bsf c u (n + 1)).2.1 = c (bsf c u (n + 1)).1 ∧ ∀ k : Nat, k ≤ n → (bsf c u (n + 1)).2.1 ≤ c k
  | 0 => by
    have h0 := hc 0
    have e : bsf c u 1 = (0, c 0, u 0) := by
      show (if c 0 < 1000 ∨ (c 0 = 1000 ∧ u 0 < 1000) then (0, c 0, u 0) else (0, 1000, 1000)) = _
      rw [if_pos (Or.inl (by omega))]
    rw [e]
    refine ⟨Nat.le_refl _, rfl, fun k hk => ?_⟩
    rw [show k = 0 by omega]
    exact Nat.le_refl _
  | n + 1 => by
    obtain ⟨i1, i2, i3⟩ := bsf_c (c := c) (u := u) hc n
    have e : bsf c u (n + 2) = if c (n + 1) < (bsf c u (n + 1)).2.1 ∨ (c (n + 1) = (bsf c u (n + 1)).2.1 ∧ u (n + 1) < (bsf c u (n + 1)).2.2) then (n + 1, c (n + 1), u (n + 1)) else bsf c u (n + 1) := rfl
    rw [e]
    by_cases q : c (n + 1) < (bsf c u (n + 1)).2.1 ∨ (c (n + 1) = (bsf c u (n + 1)).2.1 ∧ u (n + 1) < (bsf c u (n + 1)).2.2)
    · rw [if_pos q]
      refine ⟨Nat.le_refl _, rfl, fun k hk => ?_⟩
      by_cases d : k = n + 1
      · rw [d]
        exact Nat.le_refl _
      · have := i3 k (by omega)
        show c (n + 1) ≤ c k
        omega
    · rw [if_neg q]
      refine ⟨by omega, i2, fun k hk => ?_⟩
      by_cases d : k = n + 1
      · rw [d]
        omega
      · exact i3 k (by omega)
theorem lr_same (hB : Bd g) {g1 : Nat → Int} (hB1 : Bd g1) (hag : ∀ k : Nat, k ≠ 1 → (k < 66 ∨ (k - 66) % 3 ≠ 0) → g1 k = g k) {t : Nat} (ht : t < 7) : lrP g1 t = lrP g t := by
  unfold lrP
  have h1 : Bd (gu g 1 (t : Int)) := Bd_rm hB (by omega)
  have h2 : Bd (gu g1 1 (t : Int)) := Bd_rm hB1 (by omega)
  rw [wo_rd_halls h1 h2 (fun k hk => by
    unfold gu
    by_cases c : k = 1
    · rw [if_pos c, if_pos c]
    · rw [if_neg c, if_neg c]
      exact hag k c hk)]
theorem fr_same {P P' : Nat → Bool} (h : ∀ t : Nat, t < 7 → P t = P' t) : frP P 7 = frP P' 7 := by
  rw [frP_ff, frP_ff, ff_congr h]
abbrev R9 : Type := JV × JV × JV × JV × (Nat → Nat → Nat) × (Nat → JV) × JV × Int32 × Int32
theorem bits4 : ∀ x y z w : Fin 2, (bt (((x.val + 2 * y.val + 4 * z.val + 8 * w.val : Nat) : Int)) 0 = decide (x.val = 1) ∧ bt (((x.val + 2 * y.val + 4 * z.val + 8 * w.val : Nat) : Int)) 1 = decide (y.val = 1) ∧ bt (((x.val + 2 * y.val + 4 * z.val + 8 * w.val : Nat) : Int)) 2 = decide (z.val = 1) ∧ bt (((x.val + 2 * y.val + 4 * z.val + 8 * w.val : Nat) : Int)) 3 = decide (w.val = 1)) := by decide +kernel
theorem bit_of {x : Int} (h : 0 ≤ x ∧ x ≤ 1) : B1 (decide (x.toNat = 1)) = x := by
  by_cases q : x = 1
  · rw [q]; rfl
  · rw [show x = 0 by omega]; rfl
/-- the halls that are open are one of the sets -/
theorem own_set (hB : Bd g) (hz : Z76 g) : ∃ s0 : Nat, s0 < 16 ∧ gO g s0 = g := by
  have h66 : 0 ≤ g 66 ∧ g 66 ≤ 1 := (hB.2.2.2.2.2.2 0 (by omega)).2.2
  have h69 : 0 ≤ g 69 ∧ g 69 ≤ 1 := (hB.2.2.2.2.2.2 1 (by omega)).2.2
  have h72 : 0 ≤ g 72 ∧ g 72 ≤ 1 := (hB.2.2.2.2.2.2 2 (by omega)).2.2
  have h75 : 0 ≤ g 75 ∧ g 75 ≤ 1 := (hB.2.2.2.2.2.2 3 (by omega)).2.2
  have hs : (g 66).toNat + 2 * (g 69).toNat + 4 * (g 72).toNat + 8 * (g 75).toNat < 16 := by omega
  refine ⟨(g 66).toNat + 2 * (g 69).toNat + 4 * (g 72).toNat + 8 * (g 75).toNat, hs, ?_⟩
  have hq := bits4 ⟨(g 66).toNat, by omega⟩ ⟨(g 69).toNat, by omega⟩ ⟨(g 72).toNat, by omega⟩ ⟨(g 75).toNat, by omega⟩
  dsimp only at hq
  rw [← gh_4 hz hs]
  funext k
  unfold gh
  by_cases c : (k < 66 ∨ (k - 66) % 3 ≠ 0) ∨ 4 ≤ (k - 66) / 3
  · rw [if_pos c]
  · rw [if_neg c]
    rcases (show k = 66 ∨ k = 69 ∨ k = 72 ∨ k = 75 by omega) with rfl | rfl | rfl | rfl
    · rw [show (66 - 66) / 3 = 0 from rfl, hq.1]
      exact bit_of h66
    · rw [show (69 - 66) / 3 = 1 from rfl, hq.2.1]
      exact bit_of h69
    · rw [show (72 - 66) / 3 = 2 from rfl, hq.2.2.1]
      exact bit_of h72
    · rw [show (75 - 66) / 3 = 3 from rfl, hq.2.2.2]
      exact bit_of h75
/-- the set s, what it loses, the least rooms -/
def BS (g : Nat → Int) (s w : Nat) (r : Int) : Prop := s < 16 ∧ (bsf (bhU g) (bhD g) 16).1 = s ∧ (bsf (bhU g) (bhD g) 16).2.1 = w ∧ wo (gO g s) (fun _ => true) = w ∧ w ≤ wo g (fun _ => true) ∧ r = frP (lrP g) 7 ∧ (r = -6 ∨ (0 ≤ r ∧ r ≤ 6))
theorem fr_bd (P : Nat → Bool) : frP P 7 = -6 ∨ (0 ≤ frP P 7 ∧ frP P 7 ≤ 6) := by
  rw [frP_ff]
  by_cases q : ff P 7 < 7
  · rw [if_pos q]
    right
    omega
  · rw [if_neg q]
    left
    rfl
theorem bhU_own {s0 : Nat} (h : gO g s0 = g) : bhU g s0 = wo g (fun _ => true) := by
  unfold bhU
  rw [h]
theorem bsf_y {c u : Nat → Nat} (hc : ∀ n : Nat, c n ≤ 100) : ∀ N : Nat, 1 ≤ N → (bsf c u N).1 < N ∧ (bsf c u N).2.1 = c (bsf c u N).1 ∧ ∀ k : Nat, k < N → (bsf c u N).2.1 ≤ c k
  | 0, h => absurd h (by omega)
  | N + 1, _ => by
    obtain ⟨e1, e2, e3⟩ := bsf_c (c := c) (u := u) hc N
    exact ⟨Nat.lt_succ_of_le e1, e2, fun k hk => e3 k (Nat.le_of_lt_succ hk)⟩
theorem bsf_z {c u : Nat → Nat} (hc : ∀ n : Nat, c n ≤ 100) (N : Nat) (hN : 1 ≤ N) {W s0 : Nat} (h0 : s0 < N) (hw : c s0 = W) : ∃ s w : Nat, s < N ∧ (bsf c u N).1 = s ∧ (bsf c u N).2.1 = w ∧ c s = w ∧ w ≤ W := by
  obtain ⟨e1, e2, e3⟩ := bsf_y (c := c) (u := u) hc N hN
  have h1 := e3 s0 h0
  rw [hw] at h1
  exact ⟨(bsf c u N).1, (bsf c u N).2.1, e1, rfl, rfl, e2.symm, h1⟩
theorem BS_ex (hB : Bd g) (hz : Z76 g) : ∃ (s w : Nat) (r : Int), BS g s w r := by
  obtain ⟨s0, hs0, hg0⟩ := own_set hB hz
  have hbu : ∀ m : Nat, bhU g m ≤ 100 := fun m => Nat.le_trans (bhU_le g m) (by omega)
  obtain ⟨s, w, k1, k2, k3, k4, k5⟩ := bsf_z (c := bhU g) (u := bhD g) hbu 16 (by omega) hs0 (bhU_own hg0)
  have k6 : wo (gO g s) (fun _ => true) = w := k4
  exact ⟨s, w, frP (lrP g) 7, And.intro k1 (And.intro k2 (And.intro k3 (And.intro k6 (And.intro k5 (And.intro rfl (fr_bd (lrP g)))))))⟩
theorem l_K118 (hB : Bd g) (hz : Z76 g) {s w : Nat} {r : Int} (bs : BS g s w r) {m : Nat} {wT wS : JV} {wV : Nat → JV} {wZ : JV} (wA : Nat → Nat → Nat) (wT2 wS2 : JV) (hw : CI (gO g s) m wT wS wV wZ) : AR (f_L_areBest_K118 vP wT wS wT2 wS2 wA wV wZ (I ((s : Nat) : Int)) (I ((w : Nat) : Int)) (I r) (1 : Int32)) := by
  obtain ⟨hs16, hss, -, hwo, -, hr, hr6⟩ := bs
  have hzO := Z76_gO hz hs16
  obtain ⟨B0, f1, f2⟩ := q_bestHalls hw wT2 wS2 (a := 0) (by omega)
  rw [if_pos rfl] at f2
  have u1 : bhU (gO g s) = bhU g := by
    funext t
    unfold bhU
    rw [gO_gO]
  have u2 : bhD (gO g s) = bhD g := by
    funext t
    unfold bhD
    rw [gO_gO]
  rw [u1, u2, hss] at f2
  unfold f_L_areBest_K118
  rw [if_neg (by decide), q_c7 hw]
  simp only [Option.bind_some]
  rw [opn_gO g hs16, if_pos rfl, q_c5 hw]
  simp only [Option.bind_some]
  rw [hwo, if_pos rfl, show f_X4_bestHalls wS wT2 wS2 (0 : Int32) = _ from f1]
  simp only [Option.bind_some]
  rw [f2, if_pos rfl, show (-6 : Int32) = I (-6) from rfl, ite_I (by omega) (by omega)]
  by_cases q : r = -6
  · rw [if_pos q]
    exact AR.mk rfl hw hzO
  · rw [if_neg q]
    have hr2 : 0 ≤ r ∧ r ≤ 6 := by omega
    obtain ⟨Q, q1, q2, q3⟩ := q_set wA hw (k := 1) (by omega) (b := r) (by show (0 : Int) ≤ _ ∧ _ ≤ (6 : Int); exact hr2)
    obtain ⟨E1, k1, k2⟩ := q_leastRooms q3 B0.2.1 B0.2.2
    have hfs : frP (lrP (gu (gO g s) 1 r)) 7 = r := by
      rw [fr_same (fun t ht => lr_same hB q3.1 (fun k hk1 hk2 => by rw [gu_ne _ _ hk1, gO_ne _ _ hk2]) ht)]
      exact hr.symm
    rw [hfs] at k2
    have hO1 := (hw.1).2.1
    rw [show f_X4_set wT wS wA wV wZ (1 : Int32) (I r) = _ from q1]
    simp only [Option.bind_some]
    have c0 : ¬ I (gO g s 1) < (0 : Int32) := by
      rw [show (0 : Int32) = I 0 from rfl, I_lt (r0 _) (r0 _)]
      omega
    rw [q2, if_neg c0, k1]
    simp only [Option.bind_some]
    rw [k2, if_pos rfl]
    exact AR.mk rfl q3 (Z76_gu hzO (by omega) _)
/-- one hall is opened, closed or left -/
theorem l_step (hB : Bd g) {s : Nat} (hs16 : s < 16) (x2 x3 : Int32) {d m : Nat} (hd : d < 4) {wT wS : JV} {wV : Nat → JV} {wZ : JV} (wA : Nat → Nat → Nat) (wT2 wS2 : JV) (hw : CI (gh g s d) m wT wS wV wZ) : ∃ a' : R9, ((∃ m : Nat, CI (gh g s (d + 1)) m a'.1 a'.2.1 a'.2.2.2.2.2.1 a'.2.2.2.2.2.2.1) ∧ a'.2.2.2.2.2.2.2.1 = (1 : Int32) ∧ a'.2.2.2.2.2.2.2.2 = I ((d + 1 : Nat) : Int)) ∧ ∀ rec : R9 → Option R8, f_L_areBest_b46 vP (I ((s : Nat) : Int)) x2 x3 (fun vT_46 vS_46 vT2_46 vS2_46 hA_46 hV_46 hZ_46 x4_46 x5_46 => rec (vT_46, vS_46, vT2_46, vS2_46, hA_46, hV_46, hZ_46, x4_46, x5_46)) wT wS wT2 wS2 wA wV wZ (1 : Int32) (I (d : Int)) = rec a' := by
  have hsb := bit_I (x := ((s : Nat) : Int)) (p := d) (by omega) (by omega) (by omega)
  have hgat := gh_at g s d
  have hop : opB (gh g s d) d = opB g d := by
    unfold opB
    rw [hgat]
  have key : ∀ (o : Bool), o = bt ((s : Nat) : Int) d → ∃ a' : R9, ((∃ m : Nat, CI (gh g s (d + 1)) m a'.1 a'.2.1 a'.2.2.2.2.2.1 a'.2.2.2.2.2.2.1) ∧ a'.2.2.2.2.2.2.2.1 = (1 : Int32) ∧ a'.2.2.2.2.2.2.2.2 = I ((d + 1 : Nat) : Int)) ∧ ∀ rec : R9 → Option R8, f_L_areBest_K91 vP (fun vT_46 vS_46 vT2_46 vS2_46 hA_46 hV_46 hZ_46 x4_46 x5_46 => rec (vT_46, vS_46, vT2_46, vS2_46, hA_46, hV_46, hZ_46, x4_46, x5_46)) wT wS wT2 wS2 wA wV wZ (I ((s : Nat) : Int)) x2 x3 (I (d : Int)) (I (B1 o)) (I (B1 o)) (I (B1 (opB g d))) = rec a' := by
    intro o ho
    by_cases c : opB g d = o
    · refine ⟨(wT, wS, wT2, wS2, wA, wV, wZ, (1 : Int32), I ((d + 1 : Nat) : Int)), ⟨⟨m, ?_⟩, rfl, rfl⟩, fun rec => ?_⟩
      · rw [gh_s, gu_eq (by rw [hgat, ← ho, ← c]; exact (opB_g hB hd).symm)]
        exact hw
      · unfold f_L_areBest_K91
        rw [B1_eq, if_pos c, one_add]
    · obtain ⟨Rz, r1, r2, r3⟩ := q_open wA hw hd (o := o) (by rw [hop]; exact c)
      refine ⟨(Rz.2.1, Rz.2.2.1, wT2, wS2, Rz.2.2.2.1, Rz.2.2.2.2.1, Rz.2.2.2.2.2, (1 : Int32), I ((d + 1 : Nat) : Int)), ⟨⟨psn m, ?_⟩, rfl, rfl⟩, fun rec => ?_⟩
      · rw [gh_s, ← ho]
        exact r3
      · have hwl2 := wo_le (gu (gh g s d) (66 + 3 * d) (B1 o)) (fun _ => true)
        have c0 : ¬ I ((wo (gu (gh g s d) (66 + 3 * d) (B1 o)) (fun _ => true) : Nat) : Int) < (0 : Int32) := by
          rw [show (0 : Int32) = I 0 from rfl, I_lt (r0 _) (r0 _)]
          omega
        unfold f_L_areBest_K91
        rw [B1_eq, if_neg c, r1]
        simp only [Option.bind_some]
        rw [r2, if_neg c0, one_add]
  obtain ⟨a', p1, p2⟩ := key (bt ((s : Nat) : Int) d) rfl
  refine ⟨a', p1, fun rec => ?_⟩
  rw [← p2 rec]
  unfold f_L_areBest_b46
  rw [show (4 : Int32) = I ((4 : Nat) : Int) from rfl, k_le (by omega) (by omega), if_neg (by omega), if_neg (by decide), hsb]
  unfold f_L_areBest_K72
  rw [q_ho2 hw hd, hop]
  simp only [Option.bind_some]
  cases bt ((s : Nat) : Int) d <;> rfl
theorem l_L46 (hB : Bd g) (hz : Z76 g) (h : CI g n vT vS hV hZ) {s w : Nat} {r : Int} (bs : BS g s w r) (vT2 vS2 : JV) : AR (f_L_areBest_L46 vP (I ((s : Nat) : Int)) (I ((w : Nat) : Int)) (I r) FU vT vS vT2 vS2 hA hV hZ (1 : Int32) (0 : Int32)) := by
  have hs16 := bs.1
  unfold f_L_areBest_L46
  refine Exists.elim (lp_inv (P := Unit) (fun _ (rec : R9 → Option R8) a => f_L_areBest_b46 vP (I ((s : Nat) : Int)) (I ((w : Nat) : Int)) (I r) (fun vT_46 vS_46 vT2_46 vS2_46 hA_46 hV_46 hZ_46 x4_46 x5_46 => rec (vT_46, vS_46, vT2_46, vS2_46, hA_46, hV_46, hZ_46, x4_46, x5_46)) a.1 a.2.1 a.2.2.1 a.2.2.2.1 a.2.2.2.2.1 a.2.2.2.2.2.1 a.2.2.2.2.2.2.1 a.2.2.2.2.2.2.2.1 a.2.2.2.2.2.2.2.2) (fun d a => (∃ m : Nat, CI (gh g s d) m a.1 a.2.1 a.2.2.2.2.2.1 a.2.2.2.2.2.2.1) ∧ a.2.2.2.2.2.2.2.1 = (1 : Int32) ∧ a.2.2.2.2.2.2.2.2 = I (d : Int)) 4 (fun _ a => f_L_areBest_K118 vP a.1 a.2.1 a.2.2.1 a.2.2.2.1 a.2.2.2.2.1 a.2.2.2.2.2.1 a.2.2.2.2.2.2.1 (I ((s : Nat) : Int)) (I ((w : Nat) : Int)) (I r) (1 : Int32)) (fun d a hd ha => ?_) (fun a _ rec ha => ?_) FU (by have := FU_ge; omega) (vT, vS, vT2, vS2, hA, hV, hZ, (1 : Int32), (0 : Int32)) ⟨⟨n, by rw [gh_0]; exact h⟩, rfl, rfl⟩) (fun a1 h1 => ?_)
  · obtain ⟨wT, wS, wT2, wS2, wA, wV, wZ, x4, x5⟩ := a
    obtain ⟨⟨m, hw⟩, h4, h5⟩ := ha
    dsimp only at hw h4 h5
    subst h4 h5
    obtain ⟨a', p1, p2⟩ := l_step (vP := vP) hB hs16 (I ((w : Nat) : Int)) (I r) hd wA wT2 wS2 hw
    exact ⟨a', p1, fun _ rec => p2 rec⟩
  · obtain ⟨wT, wS, wT2, wS2, wA, wV, wZ, x4, x5⟩ := a
    obtain ⟨⟨m, hw⟩, h4, h5⟩ := ha
    dsimp only at hw h4 h5 ⊢
    subst h4 h5
    unfold f_L_areBest_b46
    rw [show (4 : Int32) = I ((4 : Nat) : Int) from rfl, k_le (by omega) (by omega), if_pos (by omega)]
  · obtain ⟨⟨⟨m, hw⟩, -, -⟩, h2⟩ := h1
    rw [gh_4 hz hs16] at hw
    have h3 := h2 ()
    rw [h3]
    exact l_K118 hB hz bs _ _ _ hw
theorem l_areBest (h : CI g n vT vS hV hZ) (hz : Z76 g) (vT2 vS2 : JV) : AR (f_L_areBest vT vS vT2 vS2 vP hA hV hZ) := by
  obtain ⟨A0, a1, a2⟩ := q_bestHalls h vT2 vS2 (a := 0) (by omega)
  obtain ⟨A1, b1, b2⟩ := q_bestHalls h A0.2.1 A0.2.2 (a := 1) (by omega)
  obtain ⟨A2, d1, d2⟩ := q_leastRooms h A1.2.1 A1.2.2
  rw [if_pos rfl] at a2
  rw [if_neg (by omega)] at b2
  obtain ⟨s, w, r, bs⟩ := BS_ex h.1 hz
  have K46 := l_L46 (vP := vP) (hA := hA) h.1 hz h bs A2.2.1 A2.2.2
  obtain ⟨hs16, hss, hww, -, hwl, hr, -⟩ := bs
  rw [hss] at a2
  rw [hww] at b2
  rw [← hr] at d2
  clear hss hww
  have hwl2 := wo_le g (fun _ => true)
  have c1 : ¬ I ((wo g (fun _ => true) : Nat) : Int) < I ((w : Nat) : Int) := by
    rw [I_lt (r0 _) (r0 _)]
    omega
  have c2 : ¬ I ((s : Nat) : Int) < (0 : Int32) := by
    rw [show (0 : Int32) = I 0 from rfl, I_lt (r0 _) (r0 _)]
    omega
  have c3 : ¬ (16 : Int32) ≤ I ((s : Nat) : Int) := by
    rw [show (16 : Int32) = I 16 from rfl, I_le (r0 _) (r0 _)]
    omega
  unfold f_L_areBest
  rw [show f_X4_bestHalls vS vT2 vS2 (0 : Int32) = _ from a1]
  simp only [Option.bind_some]
  rw [show f_X4_bestHalls vS A0.2.1 A0.2.2 (1 : Int32) = _ from b1]
  simp only [Option.bind_some]
  rw [d1, q_c5 h]
  simp only [Option.bind_some]
  rw [a2, b2, d2, if_neg c1, if_neg c2, if_neg c3]
  exact K46
end PLBEST
