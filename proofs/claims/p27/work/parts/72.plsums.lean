/-! ===== the law: sums over pupils, papers and halls ===== -/
section PLSUMS
variable {g : Nat → Int} {n : Nat} {vT vS : JV} {hV : Nat → JV} {hZ : JV} {vP : JV} {hA : Nat → Nat → Nat}
/-- a pupil's sittings in rooms, before the paper b -/
def rdI2 (g : Nat → Int) (i b : Nat) : Nat := sm (fun b => b1 (rdr g (6 * i + b))) b
theorem sm_le1 {f : Nat → Nat} (h : ∀ k : Nat, f k ≤ 1) (n : Nat) : sm f n ≤ n := by
  have := sm_le h n
  omega
theorem kadd (a b : Nat) : I ((a : Nat) : Int) + I ((b : Nat) : Int) = I ((a + b : Nat) : Int) := nat_add a b
theorem mnS_bd {g : Nat → Int} (hB : Bd g) {i : Nat} (hi : i < 16) : ∀ b : Nat, b ≤ 6 → 0 ≤ si (fun b => if bts g i b then mn g i b else 0) b ∧ si (fun b => if bts g i b then mn g i b else 0) b ≤ 361 * (b : Int)
  | 0, _ => ⟨Int.le_refl _, Int.le_refl _⟩
  | b + 1, h => by
    have ih := mnS_bd hB hi b (by omega)
    have hm := mn_bd hB hi (p := b) (by omega)
    show 0 ≤ si (fun b => if bts g i b then mn g i b else 0) b + (if bts g i b then mn g i b else 0) ∧ si (fun b => if bts g i b then mn g i b else 0) b + (if bts g i b then mn g i b else 0) ≤ _
    split <;> omega
/-- a pupil's papers -/
theorem l_papers (h : CI g n vT vS hV hZ) {i : Nat} (hi : i < np g) (r27 : Int32 → Int32 → Int32 → Int32 → Int32 → Int32 → Option Int32) (x1 x2 x3 x4 x5 x6 x7 : Int32) {R : Nat} (hR : R ≤ 96) :
    f_L_areSums_L87 vT vS vP hA hV hZ r27 x1 x2 x3 x4 x5 x6 x7 (I (i : Int)) FU (I ((R : Nat) : Int)) (0 : Int32) (0 : Int32) (0 : Int32) = r27 x1 x2 x3 (I ((R + rdI2 g i 6 : Nat) : Int)) (1 : Int32) (I ((i + 1 : Nat) : Int)) := by
  have hB := h.1
  have hn := np_le hB
  have hi6 : i < 16 := by omega
  have hct := cT_le g i
  unfold f_L_areSums_L87
  refine lp_run _ (fun b => (I ((R + rdI2 g i b : Nat) : Int), I ((cT g i b : Nat) : Int), I (si (fun b => if bts g i b then mn g i b else 0) b), I (b : Int))) 6 _ (fun rec b hb => ?_) (fun rec => ?_) FU (by have := FU_ge; omega)
  · have hk : 6 * i + b < 96 := by omega
    have hmn := mn_bd hB hi6 hb
    have hc6 := hct b
    have hm64 := msk_lt (pcw g i b) 6
    have hms := mnS_bd hB hi6 b (by omega)
    have hrd := (hB.2.2.2.2.2.1 i hi6).2.2
    have hrI : rdI2 g i b ≤ b := sm_le1 (fun _ => b1_le _) b
    have hst : st g (6 * i + b) = bts g i b := by
      rw [st_ip hb, decide_eq_true (show (i : Int) < g 3 by omega), Bool.true_and]
    have s5 := q_sit h hi hb (t := 5) (by omega)
    have s1 := q_sit h hi hb (t := 1) (by omega)
    have s0 := q_sit h hi hb (t := 0) (by omega)
    have s4 := q_sit h hi hb (t := 4) (by omega)
    unfold sitA at s5 s1 s0 s4
    have e5 : (5 : Int32) = I ((5 : Nat) : Int) := rfl
    have eR : rdI2 g i (b + 1) = rdI2 g i b + b1 (rdr g (6 * i + b)) := rfl
    have eC : cT g i (b + 1) = cT g i b + (if bts g i b then sm (fun c => b1 (pcw g i b c)) 6 else 0) := rfl
    have eM : si (fun b => if bts g i b then mn g i b else 0) (b + 1) = si (fun b => if bts g i b then mn g i b else 0) b + (if bts g i b then mn g i b else 0) := rfl
    show f_L_areSums_b87 vT vS vP hA hV hZ r27 x1 x2 x3 x4 x5 x6 x7 (I (i : Int)) (fun a b c d => rec (a, b, c, d)) (I ((R + rdI2 g i b : Nat) : Int)) (I ((cT g i b : Nat) : Int)) (I (si (fun b => if bts g i b then mn g i b else 0) b)) (I (b : Int)) = rec (I ((R + rdI2 g i (b + 1) : Nat) : Int), I ((cT g i (b + 1) : Nat) : Int), I (si (fun b => if bts g i b then mn g i b else 0) (b + 1)), I ((b + 1 : Nat) : Int))
    rw [eR, eC, eM]
    have hrdr : rdr g (6 * i + b) = (bts g i b && (rd g (6 * i + b) && decide (0 ≤ roomOf (seatOf g (6 * i + b))))) := by
      unfold rdr
      rw [hst]
    rw [hrdr]
    unfold f_L_areSums_b87
    rw [show (6 : Int32) = I ((6 : Nat) : Int) from rfl, k_le (by omega) (by omega), if_neg (by omega), e5, s5]
    simp only [Option.bind_some]
    by_cases c : bts g i b = true
    · rw [if_pos c] at s5 s1 s0 s4
      simp only [c, if_true, Bool.true_and]
      rw [if_neg (show ¬ (5 : Nat) = 0 by omega), if_neg (show ¬ (5 : Nat) = 1 by omega), if_neg (show ¬ (5 : Nat) = 2 by omega), if_neg (show ¬ (5 : Nat) = 3 by omega), if_neg (show ¬ (5 : Nat) = 4 by omega)]
      rw [if_neg (show ¬ (1 : Nat) = 0 by omega), if_pos rfl] at s1
      rw [if_pos rfl] at s0
      rw [if_neg (show ¬ (4 : Nat) = 0 by omega), if_neg (show ¬ (4 : Nat) = 1 by omega), if_neg (show ¬ (4 : Nat) = 2 by omega), if_neg (show ¬ (4 : Nat) = 3 by omega), if_pos rfl] at s4
      -- what comes behind the bits
      have K121 : ∀ B : Nat, B ≤ 6 → f_L_areSums_K121 vT vS vP hA hV hZ r27 (fun a b c d => rec (a, b, c, d)) x1 x2 x3 x4 x5 x6 x7 (I ((R + rdI2 g i b : Nat) : Int)) (I (i : Int)) (I (si (fun b => if bts g i b then mn g i b else 0) b)) (I (b : Int)) (I ((msk (pcw g i b) 6 : Nat) : Int)) (I ((B : Nat) : Int)) (I ((cT g i b : Nat) : Int)) = rec (I ((R + (rdI2 g i b + b1 (rd g (6 * i + b) && decide (0 ≤ roomOf (seatOf g (6 * i + b))))) : Nat) : Int), I ((cT g i b + B : Nat) : Int), I (si (fun b => if bts g i b then mn g i b else 0) b + mn g i b), I ((b + 1 : Nat) : Int)) := by
        intro B hB6
        have hneg : ¬ I ((msk (pcw g i b) 6 : Nat) : Int) < (0 : Int32) := by
          rw [show (0 : Int32) = I 0 from rfl, I_lt (r0 _) (r0 _)]
          omega
        unfold f_L_areSums_K121 f_L_areSums_K154
        rw [if_neg hneg, show (1 : Int32) = I ((1 : Nat) : Int) from rfl, s1, show (0 : Int32) = I ((0 : Nat) : Int) from rfl, s0]
        simp only [Option.bind_some]
        rw [show (I ((0 : Nat) : Int)) = (0 : Int32) from rfl, if_neg hneg, show (2 : Int32) = I ((2 : Nat) : Int) from rfl]
        rw [show f_X4_pupilOf vT vS (I (i : Int)) (I ((2 : Nat) : Int)) = some (I (g (18 + 3 * i))) from q_po2 h hi]
        simp only [Option.bind_some]
        rw [I_sub, show en g i b - bg g b = mn g i b by unfold en; omega, show (4 : Int32) = I ((4 : Nat) : Int) from rfl, s4]
        simp only [Option.bind_some]
        have hz := seat_bd hB (6 * i + b)
        have hro : -6 ≤ roomOf (seatOf g (6 * i + b)) ∧ roomOf (seatOf g (6 * i + b)) ≤ 5 := by
          unfold roomOf
          split <;> omega
        have hrd2 : rd g (6 * i + b) = decide (g (18 + 3 * i) = 1) := by
          unfold rd
          rw [show (6 * i + b) / 6 = i by omega]
          by_cases q : g (18 + 3 * i) = 1
          · rw [q]; rfl
          · rw [decide_eq_false q]
            exact beq_eq_false_iff_ne.mpr q
        have T : ∀ z : Nat, rec (I ((R + rdI2 g i b : Nat) : Int) + I ((z : Nat) : Int), I ((cT g i b : Nat) : Int) + I ((B : Nat) : Int), I (si (fun b => if bts g i b then mn g i b else 0) b) + I (mn g i b), I (b : Int) + (1 : Int32)) = rec (I ((R + (rdI2 g i b + z) : Nat) : Int), I ((cT g i b + B : Nat) : Int), I (si (fun b => if bts g i b then mn g i b else 0) b + mn g i b), I ((b + 1 : Nat) : Int)) := by
          intro z
          rw [kadd, kadd, I_add, one_add, Nat.add_assoc]
        rw [hrd2, show (I ((1 : Nat) : Int)) = I 1 from rfl, ite_I (by omega) (by omega)]
        by_cases q : g (18 + 3 * i) = 1
        · rw [if_pos q, decide_eq_true q, Bool.true_and, show (0 : Int32) = I 0 from rfl, ite_lt (r0 _) (r0 _)]
          by_cases q2 : roomOf (seatOf g (6 * i + b)) < 0
          · rw [if_pos q2, decide_eq_false (by omega)]
            exact T 0
          · rw [if_neg q2, decide_eq_true (by omega)]
            exact T 1
        · rw [if_neg q, decide_eq_false q, Bool.false_and]
          exact T 0
      rw [show (0 : Int32) = I 0 from rfl, ite_le (r0 _) (r0 _)]
      by_cases z : ((msk (pcw g i b) 6 : Nat) : Int) ≤ 0
      · rw [if_pos z]
        have z0 : sm (fun c => b1 (pcw g i b c)) 6 = 0 := by
          rw [← pc6_msk, show msk (pcw g i b) 6 = 0 by omega]
          rfl
        rw [z0]
        exact K121 0 (by omega)
      · rw [if_neg z, l_bits_msk (pcw g i b)]
        simp only [Option.bind_some]
        exact K121 _ (sm_le1 (fun _ => b1_le _) 6)
    · rw [if_neg c] at s5
      have c' : bts g i b = false := (Bool.not_eq_true _).mp c
      simp only [c', Bool.false_and, Bool.false_eq_true, if_false]
      unfold f_L_areSums_K121 f_L_areSums_K154
      rw [if_pos (by decide), if_pos (by decide), if_pos (by decide)]
      have T : rec (I ((R + rdI2 g i b : Nat) : Int) + I ((0 : Nat) : Int), I ((cT g i b : Nat) : Int) + I ((0 : Nat) : Int), I (si (fun b => if bts g i b then mn g i b else 0) b) + I 0, I (b : Int) + (1 : Int32)) = rec (I ((R + (rdI2 g i b + 0) : Nat) : Int), I ((cT g i b + 0 : Nat) : Int), I (si (fun b => if bts g i b then mn g i b else 0) b + 0), I ((b + 1 : Nat) : Int)) := by
        rw [kadd, kadd, I_add, one_add, Nat.add_assoc]
      exact T
  · show f_L_areSums_b87 vT vS vP hA hV hZ r27 x1 x2 x3 x4 x5 x6 x7 (I (i : Int)) (fun a b c d => rec (a, b, c, d)) (I ((R + rdI2 g i 6 : Nat) : Int)) (I ((cT g i 6 : Nat) : Int)) (I (mnS g i)) (I ((6 : Nat) : Int)) = _
    unfold f_L_areSums_b87
    rw [show (6 : Int32) = I ((6 : Nat) : Int) from rfl, k_le (by omega) (by omega), if_pos (by omega), q_po3 h hi, q_po5 h hi]
    simp only [Option.bind_some]
    rw [cT_cp, show (2 : Int32) = I ((2 : Nat) : Int) from rfl, nat_mul, if_pos rfl, if_pos trivial, one_add]
theorem cps_s (g : Nat → Int) (i : Nat) : cps g (i + 1) = cps g i + cp g i := rfl
/-- the pupils -/
theorem l_pupils (h : CI g n vT vS hV hZ) : f_L_areSums vT vS vP hA hV hZ = f_L_areSums_L247 vT vS vP hA hV hZ (I ((nsit g : Nat) : Int)) (I ((wo g (fun _ => true) : Nat) : Int)) (I ((cps g (np g) : Nat) : Int)) (0 : Int32) (0 : Int32) (I ((sm (fun k => b1 (rdr g k)) 96 : Nat) : Int)) (1 : Int32) FU (0 : Int32) (0 : Int32) (0 : Int32) := by
  have hB := h.1
  have hn := np_le hB
  rw [nsit_np hB, ← without_np hB, ← readers_np hB]
  unfold f_L_areSums f_L_areSums_L27
  refine lp_run _ (fun i => (I ((sm (fun i => sm (fun b => b1 (bts g i b)) 6) i : Nat) : Int), I ((sm (fun i => sm (fun b => b1 (unpz g (seatOf g) (6 * i + b))) 6) i : Nat) : Int), I ((cps g i : Nat) : Int), I ((sm (fun i => sm (fun b => b1 (rdr g (6 * i + b))) 6) i : Nat) : Int), (1 : Int32), I (i : Int))) (np g) _ (fun rec i hi => ?_) (fun rec => ?_) FU (by have := FU_ge; omega)
  · show f_L_areSums_b27 vT vS vP hA hV hZ (0 : Int32) (0 : Int32) (0 : Int32) (0 : Int32) (fun a b c d e f => rec (a, b, c, d, e, f)) (I ((sm (fun i => sm (fun b => b1 (bts g i b)) 6) i : Nat) : Int)) (I ((sm (fun i => sm (fun b => b1 (unpz g (seatOf g) (6 * i + b))) 6) i : Nat) : Int)) (I ((cps g i : Nat) : Int)) (I ((sm (fun i => sm (fun b => b1 (rdr g (6 * i + b))) 6) i : Nat) : Int)) (1 : Int32) (I (i : Int)) = _
    have hpb := pap_bd hB (i := i) (by omega)
    unfold f_L_areSums_b27
    rw [q_c3 h]
    simp only [Option.bind_some]
    rw [k_le (by omega) (by omega), if_neg (by omega), if_neg (by decide), q_po0 h hi, q_po4 h hi, q_po3 h hi]
    simp only [Option.bind_some]
    rw [l_bits_I hpb.1 hpb.2, om_msk _ 6 (by omega), l_bits_msk]
    simp only [Option.bind_some]
    rw [kadd, kadd, kadd]
    refine (l_papers h hi (fun a b c d e f => rec (a, b, c, d, e, f)) _ _ _ _ _ _ _ (R := sm (fun i => sm (fun b => b1 (rdr g (6 * i + b))) 6) i) ?_).trans ?_
    · have := sm_bd (f := fun i => sm (fun b => b1 (rdr g (6 * i + b))) 6) (c := 6) (n := i) (fun k _ => sm_le1 (fun _ => b1_le _) 6)
      omega
    · rfl
  · show f_L_areSums_b27 vT vS vP hA hV hZ (0 : Int32) (0 : Int32) (0 : Int32) (0 : Int32) (fun a b c d e f => rec (a, b, c, d, e, f)) (I ((sm (fun i => sm (fun b => b1 (bts g i b)) 6) (np g) : Nat) : Int)) (I ((sm (fun i => sm (fun b => b1 (unpz g (seatOf g) (6 * i + b))) 6) (np g) : Nat) : Int)) (I ((cps g (np g) : Nat) : Int)) (I ((sm (fun i => sm (fun b => b1 (rdr g (6 * i + b))) 6) (np g) : Nat) : Int)) (1 : Int32) (I ((np g : Nat) : Int)) = _
    unfold f_L_areSums_b27
    rw [q_c3 h]
    simp only [Option.bind_some]
    rw [k_le (by omega) (by omega), if_pos (by omega)]
theorem upO_le (g : Nat → Int) (p : Nat) : upO g p ≤ 16 := sm_le1 (fun _ => b1_le _) 16
theorem li_s (P : Nat → Bool) (f : Nat → Int) (z0 : Int) (k : Nat) : li P f z0 (k + 1) = if P k && decide (li P f z0 k < f k) then f k else li P f z0 k := rfl
/-- the papers -/
theorem l_lasts (h : CI g n vT vS hV hZ) (x1 x2 x3 x6 x7 x8 x9 : Int32) : f_L_areSums_L247 vT vS vP hA hV hZ x1 x2 x3 x6 x7 x8 x9 FU (0 : Int32) (0 : Int32) (0 : Int32) = f_L_areSums_L301 vT vS vP hA hV hZ x1 x2 x3 (I (lastE g)) (I ((wo g (fun _ => true) : Nat) : Int)) x8 FU x6 x7 x9 (0 : Int32) := by
  have hB := h.1
  rw [← lastE_pa hB, ← lost_all (g := g)]
  unfold f_L_areSums_L247
  refine lp_run _ (fun p => (I (li (fun _ => true) (lePa g) 0 p), I ((sm (upO g) p : Nat) : Int), I (p : Int))) 6 _ (fun rec p hp => ?_) (fun rec => ?_) FU (by have := FU_ge; omega)
  · show f_L_areSums_b247 vT vS vP hA hV hZ x1 x2 x3 x6 x7 x8 x9 (fun a b c => rec (a, b, c)) (I (li (fun _ => true) (lePa g) 0 p)) (I ((sm (upO g) p : Nat) : Int)) (I (p : Int)) = rec (I (li (fun _ => true) (lePa g) 0 (p + 1)), I ((sm (upO g) p + upO g p : Nat) : Int), I ((p + 1 : Nat) : Int))
    have hle := lePa_bd hB hp
    have hli : 0 ≤ li (fun _ => true) (lePa g) 0 p ∧ li (fun _ => true) (lePa g) 0 p ≤ 931 := li_bd ⟨by omega, by omega⟩ (fun i hi _ => (lePa_bd hB (by omega)).2)
    unfold f_L_areSums_b247 f_L_areSums_K278
    rw [show (6 : Int32) = I ((6 : Nat) : Int) from rfl, k_le (by omega) (by omega), if_neg (by omega), q_pa3 h hp, q_pa4 h hp]
    simp only [Option.bind_some]
    rw [ite_le (r0 _) (r0 _), kadd, one_add, li_s, Bool.true_and]
    by_cases c : lePa g p ≤ li (fun _ => true) (lePa g) 0 p
    · rw [if_pos c, decide_eq_false (by omega), if_neg (by decide)]
    · rw [if_neg c, decide_eq_true (by omega), if_pos rfl]
  · show f_L_areSums_b247 vT vS vP hA hV hZ x1 x2 x3 x6 x7 x8 x9 (fun a b c => rec (a, b, c)) (I (li (fun _ => true) (lePa g) 0 6)) (I ((sm (upO g) 6 : Nat) : Int)) (I ((6 : Nat) : Int)) = _
    unfold f_L_areSums_b247
    rw [show (6 : Int32) = I ((6 : Nat) : Int) from rfl, k_le (by omega) (by omega), if_pos (by omega)]
/-- the halls -/
theorem l_halls (h : CI g n vT vS hV hZ) (x1 x2 x3 x4 x5 x8 : Int32) : f_L_areSums_L301 vT vS vP hA hV hZ x1 x2 x3 x4 x5 x8 FU (0 : Int32) (0 : Int32) (1 : Int32) (0 : Int32) = f_L_areSums_K430 vT vS vP hA hV hZ x1 x2 x3 x4 x5 (I ((sm (fun h => sm (fun k => b1 (inH (seatOf g) h k)) 96) 4 : Nat) : Int)) (I ((odk g : Nat) : Int)) x8 (1 : Int32) := by
  have hB := h.1
  unfold f_L_areSums_L301 odk
  refine lp_run _ (fun a => (I ((sm (fun h => sm (fun k => b1 (inH (seatOf g) h k)) 96) a : Nat) : Int), I ((sm (nd g) a : Nat) : Int), (1 : Int32), I (a : Int))) 4 _ (fun rec a ha => ?_) (fun rec => ?_) FU (by have := FU_ge; omega)
  · show f_L_areSums_b301 vT vS vP hA hV hZ x1 x2 x3 x4 x5 x8 (fun a b c d => rec (a, b, c, d)) (I ((sm (fun h => sm (fun k => b1 (inH (seatOf g) h k)) 96) a : Nat) : Int)) (I ((sm (nd g) a : Nat) : Int)) (1 : Int32) (I (a : Int)) = rec (I ((sm (fun h => sm (fun k => b1 (inH (seatOf g) h k)) 96) a + sm (fun k => b1 (inH (seatOf g) a k)) 96 : Nat) : Int), I ((sm (nd g) a + nd g a : Nat) : Int), (1 : Int32), I ((a + 1 : Nat) : Int))
    have hrc := rc_bd hB ha
    have hmul := rc_mul hB ha
    have hmo := mostS_bd hB ha
    have hnr := nd_rc (g := g) a
    have hn16 := nd_le hB ha
    have hz := most_zero hB ha
    have hse : sm (fun k => b1 (inH (seatOf g) a k)) 96 ≤ 96 := sm_le1 (fun _ => b1_le _) 96
    have K356 : ∀ y : Nat, y = nd g a → f_L_areSums_K356 vT vS vP hA hV hZ (fun a b c d => rec (a, b, c, d)) x1 x2 x3 x4 x5 (I ((sm (fun h => sm (fun k => b1 (inH (seatOf g) h k)) 96) a + sm (fun k => b1 (inH (seatOf g) a k)) 96 : Nat) : Int)) x8 (I (a : Int)) (I ((y : Nat) : Int)) (I ((sm (nd g) a : Nat) : Int)) = rec (I ((sm (fun h => sm (fun k => b1 (inH (seatOf g) h k)) 96) a + sm (fun k => b1 (inH (seatOf g) a k)) 96 : Nat) : Int), I ((sm (nd g) a + nd g a : Nat) : Int), (1 : Int32), I ((a + 1 : Nat) : Int)) := by
      intro y hy
      subst hy
      unfold f_L_areSums_K356
      rw [q_ho4 h ha, q_ho0 h ha, q_ho1 h ha, q_ho3 h ha]
      simp only [Option.bind_some]
      rw [hrc.2.2.1, hrc.2.2.2, nat_mul, ite_lt (r0 _) (r0 _), if_neg (by omega), kadd]
      have K399 : ∀ y0 : Bool, y0 = decide (sm (fun k => b1 (inH (seatOf g) a k)) 96 = 0) → f_L_areSums_K399 vT vS vP hA hV hZ (fun a b c d => rec (a, b, c, d)) x1 x2 x3 x4 x5 (I ((sm (fun h => sm (fun k => b1 (inH (seatOf g) h k)) 96) a + sm (fun k => b1 (inH (seatOf g) a k)) 96 : Nat) : Int)) (I ((sm (nd g) a + nd g a : Nat) : Int)) x8 (I (a : Int)) (I (B1 y0)) = rec (I ((sm (fun h => sm (fun k => b1 (inH (seatOf g) h k)) 96) a + sm (fun k => b1 (inH (seatOf g) a k)) 96 : Nat) : Int), I ((sm (nd g) a + nd g a : Nat) : Int), (1 : Int32), I ((a + 1 : Nat) : Int)) := by
        intro y0 hy0
        unfold f_L_areSums_K399 f_L_areSums_K414
        rw [q_ho4 h ha]
        simp only [Option.bind_some]
        rw [one_add, show (0 : Int32) = I 0 from rfl, ite_I (by omega) (by omega)]
        by_cases c : mostS g (tkn g (seatOf g) a) = 0
        · rw [if_pos c]
          rw [decide_eq_true (hz.mpr c)] at hy0
          rw [hy0, if_pos (by rfl)]
        · rw [if_neg c]
          rw [decide_eq_false (fun q => c (hz.mp q))] at hy0
          rw [hy0, if_pos (by rfl)]
      rw [show (0 : Int32) = I 0 from rfl, ite_I (by omega) (by omega)]
      by_cases c : ((sm (fun k => b1 (inH (seatOf g) a k)) 96 : Nat) : Int) = 0
      · rw [if_pos c]
        exact K399 true (decide_eq_true (by omega)).symm
      · rw [if_neg c]
        exact K399 false (decide_eq_false (by omega)).symm
    unfold f_L_areSums_b301
    rw [show (4 : Int32) = I ((4 : Nat) : Int) from rfl, k_le (by omega) (by omega), if_neg (by omega), if_neg (by decide), q_ho3 h ha, q_ho2 h ha, q_ho0 h ha, q_ho1 h ha]
    simp only [Option.bind_some]
    rw [kadd, show (1 : Int32) = I (B1 true) from rfl, B1_eq, hrc.2.2.1, hrc.2.2.2, nat_mul]
    by_cases c : opB g a = true
    · rw [if_pos c]
      refine K356 (rw_ g a * cw_ g a) ?_
      unfold nd
      rw [if_pos (of_decide_eq_true c)]
    · rw [if_neg c]
      refine K356 0 ?_
      unfold nd
      rw [if_neg (fun q => c (decide_eq_true q))]
  · show f_L_areSums_b301 vT vS vP hA hV hZ x1 x2 x3 x4 x5 x8 (fun a b c d => rec (a, b, c, d)) (I ((sm (fun h => sm (fun k => b1 (inH (seatOf g) h k)) 96) 4 : Nat) : Int)) (I ((sm (nd g) 4 : Nat) : Int)) (1 : Int32) (I ((4 : Nat) : Int)) = _
    unfold f_L_areSums_b301
    rw [show (4 : Int32) = I ((4 : Nat) : Int) from rfl, k_le (by omega) (by omega), if_pos (by omega)]
theorem l_areSums (h : CI g n vT vS hV hZ) : f_L_areSums vT vS vP hA hV hZ = some (1 : Int32) := by
  rw [l_pupils h, l_lasts h, l_halls h]
  unfold f_L_areSums_K430
  rw [q_c4 h, q_c5 h, q_c6 h, q_c10 h, q_c8 h]
  simp only [Option.bind_some]
  rw [if_neg (by decide), kadd, kadd, tot_all h.1]
  simp only [if_true]
end PLSUMS
