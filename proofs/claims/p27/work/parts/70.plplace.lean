/-! ===== the law: where a sitting is ===== -/
def plx (g : Nat → Int) (k : Nat) : Int := if st g k then (if 0 ≤ seatOf g k ∧ seatOf g k < 64 then 64 * (seatOf g k / 16) + seatOf g k % 16 else if 64 ≤ seatOf g k then 936 + seatOf g k else -6) else -7
theorem plx_bd {g : Nat → Int} (hB : Bd g) (k : Nat) : -7 ≤ plx g k ∧ plx g k ≤ 1005 := by
  have h := seat_bd hB k
  unfold plx
  (repeat' split) <;> omega
theorem ite_I {α : Type} {a b : Int} (ha : -1000000 ≤ a ∧ a ≤ 1000000) (hb : -1000000 ≤ b ∧ b ≤ 1000000) {x y : α} : (if I a = I b then x else y) = (if a = b then x else y) := ite_eq (rng_of ha.1 ha.2) (rng_of hb.1 hb.2)
section PLPLACE
variable {g : Nat → Int} {n : Nat} {vT vS : JV} {hV : Nat → JV} {hZ : JV}
theorem l_place (h : CI g n vT vS hV hZ) {k : Nat} (hi : k / 6 < np g) (hk : k < 96) : f_L_place vT vS (I (k : Int)) = some (I (plx g k)) := by
  have hn := np_le h.1
  have hz := seat_bd h.1 k
  have hs : ∀ t : Nat, t < 6 → f_X4_sitting vT vS (I ((k / 6 : Nat) : Int)) (I ((k % 6 : Nat) : Int)) (I (t : Int)) = some (I (sitA g (k / 6) (k % 6) t)) := fun t ht => q_sit h hi (by omega) ht
  have e6 : 6 * (k / 6) + k % 6 = k := by omega
  have hst : st g k = bts g (k / 6) (k % 6) := by
    have := st_ip (g := g) (i := k / 6) (b := k % 6) (by omega)
    rw [e6, decide_eq_true (show ((k / 6 : Nat) : Int) < g 3 by omega), Bool.true_and] at this
    exact this
  have hgap := seat_gap g k
  unfold f_L_place
  rw [k6m (by omega), k6d (by omega), show (2 : Int32) = I ((2 : Nat) : Int) from rfl, show (4 : Int32) = I ((4 : Nat) : Int) from rfl, hs 2 (by omega), hs 4 (by omega)]
  simp only [Option.bind_some]
  unfold f_L_place_K38
  rw [k6m (by omega), k6d (by omega), show (3 : Int32) = I ((3 : Nat) : Int) from rfl, hs 3 (by omega)]
  unfold sitA
  rw [e6, ← hst]
  unfold plx
  by_cases c : st g k = true
  · rw [if_pos c, if_pos c, if_pos c, if_pos c]
    generalize seatOf g k = z at hz hgap ⊢
    unfold hallOf deskOf roomOf
    by_cases c1 : 0 ≤ z ∧ z < 64
    · rw [if_neg (show ¬ (2 : Nat) = 0 by omega), if_neg (show ¬ (2 : Nat) = 1 by omega), if_pos rfl, if_pos c1, if_neg (show ¬ (3 : Nat) = 0 by omega), if_neg (show ¬ (3 : Nat) = 1 by omega), if_neg (show ¬ (3 : Nat) = 2 by omega), if_pos rfl, if_pos c1, if_pos c1]
      simp only [Option.bind_some]
      rw [show (-6 : Int32) = I (-6) from rfl, ite_I (by omega) (by omega), if_neg (by omega), show (-5 : Int32) = I (-5) from rfl, ite_I (by omega) (by omega), if_neg (by omega), show (0 : Int32) = I 0 from rfl, ite_lt (r0 _) (r0 _), if_neg (by omega), show (64 : Int32) = I 64 from rfl, I_mul, I_add, if_pos trivial]
    · rw [if_neg (show ¬ (2 : Nat) = 0 by omega), if_neg (show ¬ (2 : Nat) = 1 by omega), if_pos rfl, if_neg c1, if_neg (show ¬ (4 : Nat) = 0 by omega), if_neg (show ¬ (4 : Nat) = 1 by omega), if_neg (show ¬ (4 : Nat) = 2 by omega), if_neg (show ¬ (4 : Nat) = 3 by omega), if_pos rfl, if_neg c1]
      simp only [Option.bind_some]
      rw [show (-6 : Int32) = I (-6) from rfl, ite_I (by omega) (by omega), if_pos rfl, show (-5 : Int32) = I (-5) from rfl, ite_I (by omega) (by omega), if_neg (by omega), show (0 : Int32) = I 0 from rfl, ite_lt (r0 _) (r0 _), if_pos (by omega)]
      by_cases c2 : 64 ≤ z
      · rw [if_pos c2, if_pos c2, ite_lt (r0 _) (r0 _), if_neg (by omega), show (1000 : Int32) = I 1000 from rfl, I_add]
        congr 2
        omega
      · rw [if_neg c2, if_neg c2, ite_lt (r0 _) (r0 _), if_pos (by omega), if_neg c1]
  · rw [if_neg c, if_neg c, if_neg c, if_neg c]
    simp only [Option.bind_some]
    rw [show (-6 : Int32) = I (-6) from rfl, ite_I (by omega) (by omega), if_neg (by omega), show (-5 : Int32) = I (-5) from rfl, ite_I (by omega) (by omega), if_pos rfl]
    rfl
variable {vP : JV} {hA : Nat → Nat → Nat}
/-- a sitting is as the law asks -/
theorem l_isSitting (h : CI g n vT vS hV hZ) {k : Nat} (hi : k / 6 < np g) (hk : k < 96) (hs : st g k = true) : f_L_isSitting vT vS vP hA hV hZ (I (k : Int)) (I (plx g k)) = some (1 : Int32) := by
  have hn := np_le h.1
  have hB := h.1
  have hz := seat_bd h.1 k
  have e6 : 6 * (k / 6) + k % 6 = k := by omega
  have hst : st g k = bts g (k / 6) (k % 6) := by
    have := st_ip (g := g) (i := k / 6) (b := k % 6) (by omega)
    rw [e6, decide_eq_true (show ((k / 6 : Nat) : Int) < g 3 by omega), Bool.true_and] at this
    exact this
  have hbeg : f_X4_sitting vT vS (I ((k / 6 : Nat) : Int)) (I ((k % 6 : Nat) : Int)) (0 : Int32) = some (I (bk g k)) := by
    rw [show (0 : Int32) = I ((0 : Nat) : Int) from rfl, q_sit h hi (by omega) (by omega)]
    unfold sitA
    rw [← hst, if_pos hs, if_pos rfl]
    rfl
  have hpa : f_X4_paperOf vT vS (I ((k % 6 : Nat) : Int)) (0 : Int32) = some (I (g (4 + 2 * (k % 6)))) := q_pa0 h (by omega)
  have h30 : (30 : Int32) * I (g (4 + 2 * (k % 6))) = I (bk g k) := by
    rw [show (30 : Int32) = I 30 from rfl, I_mul]
    rfl
  have hrd := q_po2 h hi
  have hun := q_po4 h hi
  have hr01 := (h.1.2.2.2.2.2.1 (k / 6) (by omega)).2.2
  have hc1 : f_X4_count vT vS vP hA hV hZ (1 : Int32) = some (I (g 1)) := q_ct h (k := 1) (by omega)
  have hrm := h.1.2.1
  -- the last of the law's parts
  have K205 : ∀ b : Bool, b = decide (seatOf g k = -6) → f_L_isSitting_K205 vT vS vP hA hV hZ (I (k : Int)) (I (B1 b)) = some (1 : Int32) := by
    intro b hb
    unfold f_L_isSitting_K205
    rw [k6m (by omega), k6d (by omega), hun]
    simp only [Option.bind_some]
    have hm := msk_lt (fun b => unpz g (seatOf g) (6 * (k / 6) + b)) 6
    rw [om_msk _ 6 (by omega), bit_I (by omega) (by omega) (by omega), msk_bt _ (by omega), e6]
    unfold unpz f_L_isSitting_K230
    rw [hs, Bool.true_and, ← hb]
    cases b <;> rfl
  have K194 : f_L_isSitting_K194 vT vS vP hA hV hZ (I (k : Int)) (I (plx g k)) = some (1 : Int32) := by
    have hp := plx_bd hB k
    unfold f_L_isSitting_K194
    rw [show (-6 : Int32) = I (-6) from rfl, ite_I (by omega) (by omega)]
    by_cases c : seatOf g k = -6
    · have e : plx g k = -6 := by
        unfold plx
        rw [if_pos hs, c]
        rfl
      rw [if_pos e]
      exact K205 true (decide_eq_true c).symm
    · have e : plx g k ≠ -6 := by
        have hg := seat_gap g k
        unfold plx
        rw [if_pos hs]
        (repeat' split) <;> omega
      rw [if_neg e]
      exact K205 false (decide_eq_false c).symm
  have K174 : f_L_isSitting_K174 vT vS vP hA hV hZ (I (k : Int)) (I (plx g k)) = some (1 : Int32) := by
    have hp := plx_bd hB k
    unfold f_L_isSitting_K174
    rw [show (1000 : Int32) = I 1000 from rfl, ite_lt (r0 _) (r0 _)]
    by_cases c : plx g k < 1000
    · rw [if_pos c]
      exact K194
    · rw [if_neg c, hc1]
      simp only [Option.bind_some]
      rw [I_add, ite_le (r0 _) (r0 _), if_neg]
      · exact K194
      · have hne : seatOf g k ≠ -6 := by
          intro q
          apply c
          unfold plx
          rw [if_pos hs, q]
          decide
        obtain ⟨-, q⟩ := seat_where hB hne
        rcases q with ⟨-, r, hr, -, e⟩ | ⟨-, a, d, ha, -, hd6, e⟩
        · unfold nr at hr
          unfold plx
          rw [if_pos hs, e, if_neg (by omega), if_pos (by omega)]
          omega
        · exfalso
          apply c
          unfold plx
          rw [if_pos hs, e, if_pos (by omega)]
          omega
  have K114 : ∀ (d : Bool), (0 ≤ plx g k → d = !(rd g k)) → f_L_isSitting_K114 vT vS vP hA hV hZ (I (k : Int)) (I (plx g k)) (I (B1 d)) (1 : Int32) = some (1 : Int32) := by
    intro d hd
    have hp := plx_bd hB k
    unfold f_L_isSitting_K114
    rw [k6m (by omega), k6d (by omega), if_neg (by decide), hbeg, hpa]
    simp only [Option.bind_some]
    rw [h30, if_pos rfl, show (0 : Int32) = I 0 from rfl, ite_lt (r0 _) (r0 _)]
    by_cases c : plx g k < 0
    · rw [if_pos c]
      exact K174
    · rw [if_neg c, hrd]
      simp only [Option.bind_some]
      rw [ite_I (by omega) (by omega)]
      have hdd := hd (by omega)
      have er : rd g k = decide (g (18 + 3 * (k / 6)) = 1) := by
        unfold rd
        by_cases q : g (18 + 3 * (k / 6)) = 1
        · rw [q]; rfl
        · rw [decide_eq_false q]
          exact beq_eq_false_iff_ne.mpr q
      rw [hdd, er]
      unfold f_L_isSitting_K171
      by_cases q : g (18 + 3 * (k / 6)) = 0
      · rw [if_pos q, decide_eq_false (show ¬ g (18 + 3 * (k / 6)) = 1 by omega), if_pos (by rfl)]
        exact K174
      · rw [if_neg q, decide_eq_true (show g (18 + 3 * (k / 6)) = 1 by omega), if_pos (by rfl)]
        exact K174
  have hp := plx_bd hB k
  unfold f_L_isSitting
  rw [show (0 : Int32) = I 0 from rfl, ite_lt (r0 _) (r0 _), show (1000 : Int32) = I 1000 from rfl, ite_le (r0 _) (r0 _)]
  have far : (0 ≤ plx g k → false = !(rd g k)) → f_L_isSitting_K15 vT vS vP hA hV hZ (I (k : Int)) (I (plx g k)) = some (1 : Int32) := by
    intro hq
    unfold f_L_isSitting_K15 f_L_isSitting_K16 f_L_isSitting_K109
    rw [if_pos rfl]
    exact K114 false hq
  by_cases c : plx g k < 0
  · rw [if_pos c]
    exact far (fun z => absurd z (by omega))
  · rw [if_neg c]
    have hne : seatOf g k ≠ -6 := by
      intro q
      apply c
      unfold plx
      rw [if_pos hs, q]
      decide
    obtain ⟨-, q⟩ := seat_where hB hne
    rcases q with ⟨r1, r, hr, -, e⟩ | ⟨r1, a, d, ha, hd, hd6, e⟩
    · have ep : plx g k = 936 + ((64 + r : Nat) : Int) := by
        unfold plx
        rw [if_pos hs, e, if_neg (by omega), if_pos (by omega)]
      rw [if_pos (by omega)]
      exact far (fun _ => by rw [r1]; rfl)
    · have ep : plx g k = ((64 * a + d : Nat) : Int) := by
        unfold plx
        rw [if_pos hs, e, if_pos (by omega)]
        omega
      rw [if_neg (by omega)]
      have e64 : I (plx g k) / (64 : Int32) = I ((a : Nat) : Int) := by
        rw [show (64 : Int32) = I 64 from rfl, I_div (by omega) (by omega) (by omega) (by omega)]
        congr 1
        omega
      have m64 : I (plx g k) - I ((a : Nat) : Int) * (64 : Int32) = I ((d : Nat) : Int) := by
        rw [show (64 : Int32) = I 64 from rfl, I_mul, I_sub]
        congr 1
        omega
      have hopen : g (66 + 3 * a) = 1 := by
        unfold nd at hd
        by_cases z : g (66 + 3 * a) = 1
        · exact z
        · rw [if_neg z] at hd; omega
      have hnd : nd g a = rw_ g a * cw_ g a := by unfold nd; rw [if_pos hopen]
      have hrc := rc_bd hB ha
      have hmul := rc_mul hB ha
      have hin : inH (seatOf g) a k = true := by
        unfold inH
        rw [e, Bool.and_eq_true, decide_eq_true_eq, decide_eq_true_eq]
        omega
      have hat : f_X4_at vT vS (I (a : Int)) (I (d : Int)) (I (bk g k)) = some (I (k : Int)) := by
        have hbk := bk_bd hB hk
        rw [q_at h ha (by rw [← hnd]; exact hd) (by omega), show 16 * (a : Int) + (d : Int) = ((16 * a + d : Nat) : Int) by omega, at_self hB hk (by omega) e]
      unfold f_L_isSitting_K16 f_L_isSitting_K109
      rw [if_neg (by decide), e64, q_ho2 h ha]
      simp only [Option.bind_some]
      rw [show opB g a = true from decide_eq_true hopen, if_pos (by rfl), q_ho0 h ha, q_ho1 h ha]
      simp only [Option.bind_some]
      rw [m64, hrc.2.2.1, hrc.2.2.2, nat_mul, k_le (by omega) (by omega), if_neg (by omega), k6m (by omega), q_pa5 h (by omega)]
      simp only [Option.bind_some]
      rw [haO_bit hB hk ha hin, if_pos rfl, k6d (by omega), hbeg]
      simp only [Option.bind_some]
      rw [hat]
      simp only [Option.bind_some]
      rw [if_pos trivial]
      exact K114 true (fun _ => by rw [r1]; rfl)
end PLPLACE
