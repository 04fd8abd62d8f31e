/-! ===== the law: how all are seated ===== -/
section PLSEATED
variable {g : Nat → Int} {n : Nat} {vT vS : JV} {hV : Nat → JV} {hZ : JV} {vP : JV} {hA : Nat → Nat → Nat}
def PXs (g : Nat → Int) (vL vH : JV) (d : Nat) : Prop := ∀ j : Nat, j < d → (j < 48 → vL 0 j = I (plx g j)) ∧ (48 ≤ j → vH 0 (j - 48) = I (plx g j))
theorem l_at {vL vH : JV} (hP : PXs g vL vH 96) {k : Nat} (hk : k < 96) : f_L_at vL vH (I (k : Int)) = some (I (plx g k)) := by
  unfold f_L_at
  rw [show (48 : Int32) = I ((48 : Nat) : Int) from rfl, k_le (by omega) (by omega)]
  by_cases c : 48 ≤ k
  · rw [if_pos c, I_sub, show ((k : Int) - ((48 : Nat) : Int)) = ((k - 48 : Nat) : Int) by omega, gd_t (inb_k (by omega) (by omega)), I_k (by omega), (hP k hk).2 c]
  · rw [if_neg c, gd_t (inb_k (by omega) (by omega)), I_k (by omega), (hP k hk).1 (by omega)]
theorem plx_out {k : Nat} (hB : Bd g) (h : np g ≤ k / 6) : plx g k = -7 := by
  have hn := np_le hB
  unfold plx st
  rw [decide_eq_false (by omega), Bool.false_and, if_neg (by decide)]
theorem plx_no {k : Nat} (h : plx g k = -7) : st g k = false := by
  rw [← Bool.not_eq_true]
  intro c
  unfold plx at h
  rw [if_pos c] at h
  (repeat' split at h) <;> omega
theorem c48m {k : Nat} (h : k < 1000000) : I (k : Int) - I (k : Int) / (48 : Int32) * (48 : Int32) = I ((k % 48 : Nat) : Int) := by
  rw [show (48 : Int32) = I ((48 : Nat) : Int) from rfl]
  exact kmod h (by omega) (by omega)
theorem l_first (h : CI g n vT vS hV hZ) (x3 x4 : Int32) : ∃ vL vH : JV, PXs g vL vH 96 ∧ f_L_areSeated_L29 vT vS vP hA hV hZ x3 x4 FU (fun _ _ => (0 : Int32)) (fun _ _ => (0 : Int32)) (1 : Int32) (0 : Int32) = f_L_areSeated_L148 vT vS vP hA hV hZ x3 x4 FU vL vH (1 : Int32) (0 : Int32) := by
  have hn := np_le h.1
  unfold f_L_areSeated_L29
  refine Exists.elim (lp_inv (P := Unit) (fun _ (rec : JV × JV × Int32 × Int32 → Option (Int32 × JV × JV)) a => f_L_areSeated_b29 vT vS vP hA hV hZ x3 x4 (fun vL_29 vH_29 x5_29 x6_29 => rec (vL_29, vH_29, x5_29, x6_29)) a.1 a.2.1 a.2.2.1 a.2.2.2) (fun d a => PXs g a.1 a.2.1 d ∧ a.2.2.1 = (1 : Int32) ∧ a.2.2.2 = I (d : Int)) 96 (fun _ a => f_L_areSeated_L148 vT vS vP hA hV hZ x3 x4 FU a.1 a.2.1 (1 : Int32) (0 : Int32)) (fun d a hd ha => ?_) (fun a _ rec ha => ?_) FU (by have := FU_ge; omega) (fun _ _ => (0 : Int32), fun _ _ => (0 : Int32), (1 : Int32), (0 : Int32)) ⟨fun j hj => absurd hj (by omega), rfl, rfl⟩) (fun a1 h1 => ?_)
  · obtain ⟨vL, vH, x5, x6⟩ := a
    obtain ⟨hP, h5, h6⟩ := ha
    dsimp only at hP h5 h6
    subst h5 h6
    -- the two rows, with one place more
    have hstep : ∀ r : JV → JV → Int32 → Int32 → Option (Int32 × JV × JV), f_L_areSeated_K65 vT vS vP hA hV hZ r vL vH x3 x4 (I (d : Int)) (I (plx g d)) = r (up2 vL 0 (d % 48) (if d < 48 then I (plx g d) else vL 0 (d % 48))) (up2 vH 0 (d % 48) (if d < 48 then (-7 : Int32) else I (plx g d))) (1 : Int32) (I ((d + 1 : Nat) : Int)) := by
      intro r
      have hend : ∀ (u w : JV) (y : Int32), f_L_areSeated_K113 vT vS vP hA hV hZ r u w x3 x4 (I (d : Int)) (I (plx g d)) y (I ((d % 48 : Nat) : Int)) = r u (up2 w 0 (d % 48) y) (1 : Int32) (I ((d + 1 : Nat) : Int)) := by
        intro u w y
        have hp := plx_bd h.1 d
        unfold f_L_areSeated_K113
        rw [gd_t (inb_k (by omega) (by omega)), I_k (by omega), one_add, show (-7 : Int32) = I (-7) from rfl, ite_I (by omega) (by omega)]
        by_cases c : plx g d = -7
        · rw [if_pos c]
        · rw [if_neg c]
          have hs : st g d = true := by
            by_cases q : st g d = true
            · exact q
            · exfalso
              apply c
              unfold plx
              rw [if_neg q]
          have hi : d / 6 < np g := by
            have := (Bool.and_eq_true _ _).mp hs
            have := of_decide_eq_true this.1
            omega
          rw [l_isSitting h hi hd hs]
          simp only [Option.bind_some]
          rw [if_neg (by decide)]
      unfold f_L_areSeated_K65 f_L_areSeated_K92
      rw [c48m (by omega), I_k (by omega)]
      simp only [gd_t (inb_k (show d % 48 < 48 by omega) (show 48 < 1000000 by omega))]
      rw [show (48 : Int32) = I ((48 : Nat) : Int) from rfl]
      simp only [k_le (show 48 < 1000000 by omega) (show d < 1000000 by omega)]
      by_cases c : 48 ≤ d
      · rw [if_pos c, if_pos c, if_neg (by omega), if_neg (by omega)]
        exact hend _ _ _
      · rw [if_neg c, if_neg c, if_pos (by omega), if_pos (by omega)]
        exact hend _ _ _
    refine ⟨(up2 vL 0 (d % 48) (if d < 48 then I (plx g d) else vL 0 (d % 48)), up2 vH 0 (d % 48) (if d < 48 then (-7 : Int32) else I (plx g d)), (1 : Int32), I ((d + 1 : Nat) : Int)), ⟨fun j hj => ⟨fun hj2 => ?_, fun hj2 => ?_⟩, rfl, rfl⟩, fun _ rec => ?_⟩
    · show up2 vL 0 (d % 48) _ 0 j = _
      rw [up2_if]
      by_cases e : j = d % 48
      · rw [if_pos e]
        by_cases e2 : d < 48
        · rw [if_pos e2, show d = j by omega]
        · rw [if_neg e2, ← e]
          exact (hP j (by omega)).1 hj2
      · rw [if_neg e]
        exact (hP j (by omega)).1 hj2
    · show up2 vH 0 (d % 48) _ 0 (j - 48) = _
      rw [up2_if]
      by_cases e : j - 48 = d % 48
      · rw [if_pos e, if_neg (by omega), show d = j by omega]
      · rw [if_neg e]
        exact (hP j (by omega)).2 hj2
    · show f_L_areSeated_b29 vT vS vP hA hV hZ x3 x4 (fun vL_29 vH_29 x5_29 x6_29 => rec (vL_29, vH_29, x5_29, x6_29)) vL vH (1 : Int32) (I (d : Int)) = _
      unfold f_L_areSeated_b29
      rw [show (96 : Int32) = I ((96 : Nat) : Int) from rfl, k_le (by omega) (by omega), if_neg (by omega), if_neg (by decide), q_c3 h]
      simp only [Option.bind_some]
      rw [c6, nat_mul, k_le (by omega) (by omega)]
      by_cases c : 6 * np g ≤ d
      · rw [if_pos c]
        have e7 : (-7 : Int32) = I (plx g d) := by rw [plx_out h.1 (by omega)]; rfl
        exact (congrArg (f_L_areSeated_K65 vT vS vP hA hV hZ (fun vL_29 vH_29 x5_29 x6_29 => rec (vL_29, vH_29, x5_29, x6_29)) vL vH x3 x4 (I (d : Int))) e7).trans (hstep _)
      · rw [if_neg c, l_place h (by omega) hd]
        exact hstep _
  · obtain ⟨vL, vH, x5, x6⟩ := a
    obtain ⟨hP, h5, h6⟩ := ha
    dsimp only at hP h5 h6 ⊢
    subst h5 h6
    unfold f_L_areSeated_b29
    rw [show (96 : Int32) = I ((96 : Nat) : Int) from rfl, k_le (by omega) (by omega), if_pos (by omega)]
  · obtain ⟨⟨p1, -, -⟩, p2⟩ := h1
    exact ⟨a1.1, a1.2.1, p1, p2 ()⟩
/-- two sittings are as the law asks -/
theorem l_pair (h : CI g n vT vS hV hZ) {vL vH : JV} (hP : PXs g vL vH 96) {a b : Nat} (ha : a < 96) (hb : b < a) (hpl : 0 ≤ plx g a) {dk : Bool} (hdk : dk = decide (plx g a < 1000)) {cl : Nat} (hcl0 : 0 < cl) (hcl1 : cl ≤ 4) (hcl : dk = true → (cl : Int) = g (65 + 3 * (plx g a / 64).toNat)) (r148 r265 : JV → JV → Int32 → Int32 → Option (Int32 × JV × JV)) :
    f_L_areSeated_b265 vT vS vP hA hV hZ r148 (I (g 2)) (I (g 0)) (I (a : Int)) (I (plx g a)) (I (B1 dk)) (I (cl : Int)) (I (bk g a)) (I (ek g a)) r265 vL vH (1 : Int32) (I (b : Int)) = r265 vL vH (1 : Int32) (I ((b + 1 : Nat) : Int)) := by
  have hB := h.1
  have pa := plx_bd hB a
  have pb := plx_bd hB b
  have g0 := hB.1
  have g2 := hB.2.2.1
  have hbk := bk_bd hB ha
  have hek := ek_bd hB ha
  -- what a place is
  have hwh : ∀ k : Nat, 0 ≤ plx g k → st g k = true ∧ seatOf g k ≠ -6 ∧ ((plx g k < 1000 ∧ ∃ c d : Nat, c < 4 ∧ d < nd g c ∧ d < 16 ∧ seatOf g k = ((16 * c + d : Nat) : Int) ∧ plx g k = ((64 * c + d : Nat) : Int)) ∨ (1000 ≤ plx g k ∧ ∃ r : Nat, r < 6 ∧ seatOf g k = ((64 + r : Nat) : Int) ∧ plx g k = ((1000 + r : Nat) : Int))) := by
    intro k hk0
    have hs : st g k = true := by
      by_cases q : st g k = true
      · exact q
      · unfold plx at hk0
        rw [if_neg q] at hk0
        omega
    have hne : seatOf g k ≠ -6 := by
      intro q
      unfold plx at hk0
      rw [if_pos hs, q] at hk0
      revert hk0
      decide
    refine ⟨hs, hne, ?_⟩
    obtain ⟨-, q⟩ := seat_where hB hne
    rcases q with ⟨-, r, -, hr, e⟩ | ⟨-, c, d, hc, hd, hd6, e⟩
    · right
      have : plx g k = ((1000 + r : Nat) : Int) := by
        unfold plx
        rw [if_pos hs, e, if_neg (by omega), if_pos (by omega)]
        omega
      exact ⟨by omega, r, hr, e, this⟩
    · left
      have : plx g k = ((64 * c + d : Nat) : Int) := by
        unfold plx
        rw [if_pos hs, e, if_pos (by omega)]
        omega
      exact ⟨by omega, c, d, hc, hd, hd6, e, this⟩
  obtain ⟨sa, na, wa⟩ := hwh a hpl
  -- the end of a turn
  have K449 : ∀ y : Bool, (y = true → g 0 ≠ 0 → a % 6 = b % 6 → False) → f_L_areSeated_K449 vT vS vP hA hV hZ r148 r265 vL vH (I (g 2)) (I (g 0)) (I (a : Int)) (I (plx g a)) (I (B1 dk)) (I (cl : Int)) (I (bk g a)) (I (ek g a)) (I (b : Int)) (I (B1 y)) = r265 vL vH (1 : Int32) (I ((b + 1 : Nat) : Int)) := by
    intro y hy
    unfold f_L_areSeated_K449
    rw [one_add, ite_B1, show (0 : Int32) = I 0 from rfl, ite_I (by omega) (by omega), k6m (by omega), k6m (by omega), k_inj (by omega) (by omega)]
    cases y
    · rfl
    · rw [if_pos rfl]
      by_cases c : g 0 = 0
      · rw [if_pos c]
      · rw [if_neg c, if_neg (fun q => hy rfl c q)]
  have K396 : ∀ y : Bool, (y = true → g 0 ≠ 0 → a % 6 = b % 6 → False) → f_L_areSeated_K396 vT vS vP hA hV hZ r148 r265 vL vH (I (g 2)) (I (g 0)) (I (a : Int)) (I (plx g a)) (I (B1 dk)) (I (cl : Int)) (I (bk g a)) (I (ek g a)) (I (b : Int)) (I (plx g b)) (I (B1 y)) = r265 vL vH (1 : Int32) (I ((b + 1 : Nat) : Int)) := by
    intro y hy
    unfold f_L_areSeated_K396
    rw [ite_I (by omega) (by omega)]
    by_cases c : plx g b = plx g a
    · rw [if_pos c]
      obtain ⟨sb, nb, wb⟩ := hwh b (by omega)
      have hzz : seatOf g b = seatOf g a := by
        rcases wa with ⟨u1, u2, u3, u4, u5, u6, u7, u8⟩ | ⟨u1, u2, u3, u4, u5⟩ <;> rcases wb with ⟨v1, v2, v3, v4, v5, v6, v7, v8⟩ | ⟨v1, v2, v3, v4, v5⟩ <;> omega
      have hap := zN_apart (g := g) 1920 b a (by omega) nb hzz
      have hib : b / 6 < np g := by
        have := (Bool.and_eq_true _ _).mp sb
        have := of_decide_eq_true this.1
        have := np_le hB
        omega
      have hst : bts g (b / 6) (b % 6) = true := by
        have := st_ip (g := g) (i := b / 6) (b := b % 6) (by omega)
        rw [show 6 * (b / 6) + b % 6 = b by omega, sb] at this
        exact ((Bool.and_eq_true _ _).mp this.symm).2
      have hb96 : b < 96 := by omega
      have bbk := bk_bd hB hb96
      have bek := ek_bd hB hb96
      have e0 : f_X4_sitting vT vS (I ((b / 6 : Nat) : Int)) (I ((b % 6 : Nat) : Int)) (0 : Int32) = some (I (bk g b)) := by
        rw [show (0 : Int32) = I ((0 : Nat) : Int) from rfl, q_sit h hib (by omega) (by omega)]
        unfold sitA
        rw [if_pos hst, if_pos rfl]
        rfl
      have e1 : f_X4_sitting vT vS (I ((b / 6 : Nat) : Int)) (I ((b % 6 : Nat) : Int)) (1 : Int32) = some (I (ek g b)) := by
        rw [show (1 : Int32) = I ((1 : Nat) : Int) from rfl, q_sit h hib (by omega) (by omega)]
        unfold sitA
        rw [if_pos hst, if_neg (by omega), if_pos rfl]
        rfl
      rw [k6m (by omega), k6d (by omega), e0, e1]
      simp only [Option.bind_some]
      rw [I_add, I_add, ite_le (r0 _) (r0 _), ite_lt (r0 _) (r0 _)]
      unfold apart at hap
      rw [Bool.or_eq_true, decide_eq_true_eq, decide_eq_true_eq] at hap
      by_cases d : ek g a + g 2 ≤ bk g b
      · rw [if_pos d]
        exact K449 y hy
      · rw [if_neg d, if_neg (by omega)]
        exact K449 y hy
    · rw [if_neg c]
      exact K449 y hy
  have K395 : f_L_areSeated_K395 vT vS vP hA hV hZ r148 r265 vL vH (I (g 2)) (I (g 0)) (I (a : Int)) (I (plx g a)) (I (B1 dk)) (I (cl : Int)) (I (bk g a)) (I (ek g a)) (I (b : Int)) (I (plx g b)) = r265 vL vH (1 : Int32) (I ((b + 1 : Nat) : Int)) := K396 false (fun z => by cases z)
  have K326 : f_L_areSeated_K326 vT vS vP hA hV hZ r148 r265 vL vH (I (g 2)) (I (g 0)) (I (a : Int)) (I (plx g a)) (I (B1 dk)) (I (cl : Int)) (I (bk g a)) (I (ek g a)) (I (b : Int)) (I (plx g b)) = r265 vL vH (1 : Int32) (I ((b + 1 : Nat) : Int)) := by
    unfold f_L_areSeated_K326 f_L_areSeated_K327
    rw [if_pos rfl]
    exact K395
  unfold f_L_areSeated_b265
  rw [k_le (by omega) (by omega), if_neg (by omega), if_neg (by decide), show (0 : Int32) = I 0 from rfl, ite_lt (r0 _) (r0 _), if_neg (by omega), l_at hP (by omega)]
  simp only [Option.bind_some]
  rw [show I 0 = (0 : Int32) from rfl, ite_B1]
  by_cases hd : dk = true
  · rw [if_pos hd]
    have hlt : plx g a < 1000 := by
      rw [hd] at hdk
      exact of_decide_eq_true hdk.symm
    rw [show (0 : Int32) = I 0 from rfl, ite_lt (r0 _) (r0 _), show (1000 : Int32) = I 1000 from rfl, ite_le (r0 _) (r0 _)]
    by_cases c1 : plx g b < 0
    · rw [if_pos c1]; exact K326
    · rw [if_neg c1]
      by_cases c2 : 1000 ≤ plx g b
      · rw [if_pos c2]; exact K326
      · rw [if_neg c2]
        obtain ⟨sb, nb, wb⟩ := hwh b (by omega)
        rcases wa with ⟨u1, ca, da, u4, u5, u6, u7, u8⟩ | ⟨u1, -⟩
        · rcases wb with ⟨v1, cb, db, v4, v5, v6, v7, v8⟩ | ⟨v1, -⟩
          · have ea : I (plx g a) / (64 : Int32) = I ((ca : Nat) : Int) := by
              rw [show (64 : Int32) = I 64 from rfl, I_div (by omega) (by omega) (by omega) (by omega)]
              congr 1
              omega
            have eb : I (plx g b) / (64 : Int32) = I ((cb : Nat) : Int) := by
              rw [show (64 : Int32) = I 64 from rfl, I_div (by omega) (by omega) (by omega) (by omega)]
              congr 1
              omega
            rw [ea, eb, k_inj (by omega) (by omega)]
            by_cases c3 : cb = ca
            · rw [if_pos c3]
              subst c3
              have hcl2 : (cl : Int) = g (65 + 3 * cb) := by
                have := hcl hd
                rw [show (plx g a / 64).toNat = cb by omega] at this
                exact this
              have hrc := rc_bd hB u4
              have hcw : cl = cw_ g cb := by omega
              have ma : I (plx g a) - I ((cb : Nat) : Int) * (64 : Int32) = I ((da : Nat) : Int) := by
                rw [show (64 : Int32) = I 64 from rfl, I_mul, I_sub]
                congr 1
                omega
              have mb : I (plx g b) - I ((cb : Nat) : Int) * (64 : Int32) = I ((db : Nat) : Int) := by
                rw [show (64 : Int32) = I 64 from rfl, I_mul, I_sub]
                congr 1
                omega
              have hbes : Bes cl db da → g 0 ≠ 0 → a % 6 = b % 6 → False := by
                intro q1 q2 q3
                rw [hcw] at q1
                exact zN_beside hB q2 u4 v6 u6 q1 1920 b a (by omega) q3.symm v7 u7
              have K391 : Bes cl db da → f_L_areSeated_K391 vT vS vP hA hV hZ r148 r265 vL vH (I (g 2)) (I (g 0)) (I (a : Int)) (I (plx g a)) (I (B1 dk)) (I (cl : Int)) (I (bk g a)) (I (ek g a)) (I (b : Int)) (I (plx g b)) = r265 vL vH (1 : Int32) (I ((b + 1 : Nat) : Int)) := fun q => K396 true (fun _ => hbes q)
              have K371 : f_L_areSeated_K371 vT vS vP hA hV hZ r148 r265 vL vH (I (g 2)) (I (g 0)) (I (a : Int)) (I (plx g a)) (I (B1 dk)) (I (cl : Int)) (I (bk g a)) (I (ek g a)) (I (b : Int)) (I (plx g b)) = r265 vL vH (1 : Int32) (I ((b + 1 : Nat) : Int)) := by
                unfold f_L_areSeated_K371
                rw [I_sub, I_sub, ite_I (by omega) (by omega), ite_I (by omega) (by omega)]
                by_cases q : plx g b - plx g a = (cl : Int)
                · rw [if_pos q]
                  exact K391 (Or.inr (Or.inl (by omega)))
                · rw [if_neg q]
                  by_cases q2 : plx g a - plx g b = (cl : Int)
                  · rw [if_pos q2]
                    exact K391 (Or.inr (Or.inr (by omega)))
                  · rw [if_neg q2]
                    exact K395
              have hnz : nz (I (cl : Int)) = true := by
                unfold nz
                rw [decide_eq_true_eq, show (0 : Int32) = I 0 from rfl, I_inj (r0 _) (r0 _)]
                omega
              unfold f_L_areSeated_K327
              have ddb : ((db : Int) / (cl : Int)) = ((db / cl : Nat) : Int) := rfl
              have dda : ((da : Int) / (cl : Int)) = ((da / cl : Nat) : Int) := rfl
              have lb : db / cl ≤ db := Nat.div_le_self _ _
              have la : da / cl ≤ da := Nat.div_le_self _ _
              rw [if_neg (by decide), ea, eb, ma, mb, gd_t hnz, gd_t hnz, I_div (by omega) (by omega) (by omega) (by omega), I_div (by omega) (by omega) (by omega) (by omega), ddb, dda, k_inj (by omega) (by omega), I_sub, I_sub]
              by_cases q : db / cl = da / cl
              · have i1 : ∀ (x : Int) (u v : Option (Int32 × JV × JV)), -100000 ≤ x ∧ x ≤ 100000 → (if I x = (1 : Int32) then u else v) = (if x = 1 then u else v) := fun x u v hx => ite_I (b := 1) (by omega) (by omega)
                rw [if_pos q, i1 _ _ _ (by omega), i1 _ _ _ (by omega)]
                by_cases q1 : plx g b - plx g a = 1
                · rw [if_pos q1]
                  exact K391 (Or.inl ⟨q, Or.inl (by omega)⟩)
                · rw [if_neg q1]
                  by_cases q2 : plx g a - plx g b = 1
                  · rw [if_pos q2]
                    exact K391 (Or.inl ⟨q, Or.inr (by omega)⟩)
                  · rw [if_neg q2]
                    exact K371
              · rw [if_neg q]
                exact K371
            · rw [if_neg c3]
              exact K326
          · omega
        · omega
  · rw [if_neg hd]
    exact K326
theorem l_second (h : CI g n vT vS hV hZ) {vL vH : JV} (hP : PXs g vL vH 96) : f_L_areSeated_L148 vT vS vP hA hV hZ (I (g 2)) (I (g 0)) FU vL vH (1 : Int32) (0 : Int32) = some ((1 : Int32), vL, vH) := by
  have hB := h.1
  unfold f_L_areSeated_L148
  refine lp_run _ (fun d => (vL, vH, (1 : Int32), I (d : Int))) 96 _ (fun rec d hd => ?_) (fun rec => ?_) FU (by have := FU_ge; omega)
  · show f_L_areSeated_b148 vT vS vP hA hV hZ (I (g 2)) (I (g 0)) (fun x y z w => rec (x, y, z, w)) vL vH (1 : Int32) (I (d : Int)) = rec (vL, vH, (1 : Int32), I ((d + 1 : Nat) : Int))
    have pd := plx_bd hB d
    have hloopN : ∀ (x8 x9 x10 x11 : Int32), plx g d < 0 → f_L_areSeated_L265 vT vS vP hA hV hZ (fun x y z w => rec (x, y, z, w)) (I (g 2)) (I (g 0)) (I (d : Int)) (I (plx g d)) x8 x9 x10 x11 FU vL vH (1 : Int32) (0 : Int32) = rec (vL, vH, (1 : Int32), I ((d + 1 : Nat) : Int)) := by
      intro x8 x9 x10 x11 hneg
      unfold f_L_areSeated_L265
      refine lp_run _ (fun _ => (vL, vH, (1 : Int32), (0 : Int32))) 0 _ (fun rec i hi => absurd hi (by omega)) (fun rec2 => ?_) FU (by have := FU_ge; omega)
      show f_L_areSeated_b265 vT vS vP hA hV hZ (fun x y z w => rec (x, y, z, w)) (I (g 2)) (I (g 0)) (I (d : Int)) (I (plx g d)) x8 x9 x10 x11 (fun x y z w => rec2 (x, y, z, w)) vL vH (1 : Int32) (0 : Int32) = _
      unfold f_L_areSeated_b265
      rw [if_neg (show ¬ (1 : Int32) = 0 by decide), one_add]
      have cc : I (plx g d) < (0 : Int32) := by
        rw [show (0 : Int32) = I 0 from rfl, I_lt (r0 _) (r0 _)]
        exact hneg
      by_cases q : I (d : Int) ≤ (0 : Int32)
      · rw [if_pos q]
      · rw [if_neg q, if_pos cc]
    have hloop : ∀ (dk : Bool) (cl : Nat), 0 ≤ plx g d → dk = decide (plx g d < 1000) → 0 < cl → cl ≤ 4 → (dk = true → (cl : Int) = g (65 + 3 * (plx g d / 64).toNat)) → f_L_areSeated_L265 vT vS vP hA hV hZ (fun x y z w => rec (x, y, z, w)) (I (g 2)) (I (g 0)) (I (d : Int)) (I (plx g d)) (I (B1 dk)) (I (cl : Int)) (I (bk g d)) (I (ek g d)) FU vL vH (1 : Int32) (0 : Int32) = rec (vL, vH, (1 : Int32), I ((d + 1 : Nat) : Int)) := by
      intro dk cl h0 hdk hc0 hc1 hc
      unfold f_L_areSeated_L265
      refine lp_run _ (fun e => (vL, vH, (1 : Int32), I (e : Int))) d _ (fun rec2 e he => ?_) (fun rec2 => ?_) FU (by have := FU_ge; omega)
      · exact l_pair h hP hd he h0 hdk hc0 hc1 hc (fun x y z w => rec (x, y, z, w)) (fun x y z w => rec2 (x, y, z, w))
      · show f_L_areSeated_b265 vT vS vP hA hV hZ (fun x y z w => rec (x, y, z, w)) (I (g 2)) (I (g 0)) (I (d : Int)) (I (plx g d)) (I (B1 dk)) (I (cl : Int)) (I (bk g d)) (I (ek g d)) (fun x y z w => rec2 (x, y, z, w)) vL vH (1 : Int32) (I (d : Int)) = _
        unfold f_L_areSeated_b265
        rw [k_le (by omega) (by omega), if_pos (by omega), one_add]
    unfold f_L_areSeated_b148
    rw [show (96 : Int32) = I ((96 : Nat) : Int) from rfl, k_le (by omega) (by omega), if_neg (by omega), if_neg (by decide), l_at hP hd]
    simp only [Option.bind_some]
    rw [show (0 : Int32) = I 0 from rfl, ite_lt (r0 _) (r0 _), show (1000 : Int32) = I 1000 from rfl, ite_le (r0 _) (r0 _)]
    by_cases c : plx g d < 0
    · rw [if_pos c]
      unfold f_L_areSeated_K186 f_L_areSeated_K187 f_L_areSeated_K208 f_L_areSeated_K234
      rw [if_pos (by rfl), show (0 : Int32) = I 0 from rfl, ite_lt (r0 _) (r0 _), if_pos c, ite_lt (r0 _) (r0 _), if_pos c]
      exact hloopN _ _ _ _ c
    · rw [if_neg c]
      have hs : st g d = true := by
        by_cases q : st g d = true
        · exact q
        · exfalso
          apply c
          unfold plx
          rw [if_neg q]
          omega
      have hi : d / 6 < np g := by
        have := (Bool.and_eq_true _ _).mp hs
        have := of_decide_eq_true this.1
        have := np_le hB
        omega
      have hst : bts g (d / 6) (d % 6) = true := by
        have := st_ip (g := g) (i := d / 6) (b := d % 6) (by omega)
        rw [show 6 * (d / 6) + d % 6 = d by omega, hs] at this
        exact ((Bool.and_eq_true _ _).mp this.symm).2
      have e0 : f_X4_sitting vT vS (I ((d / 6 : Nat) : Int)) (I ((d % 6 : Nat) : Int)) (0 : Int32) = some (I (bk g d)) := by
        rw [show (0 : Int32) = I ((0 : Nat) : Int) from rfl, q_sit h hi (by omega) (by omega)]
        unfold sitA
        rw [if_pos hst, if_pos rfl]
        rfl
      have e1 : f_X4_sitting vT vS (I ((d / 6 : Nat) : Int)) (I ((d % 6 : Nat) : Int)) (1 : Int32) = some (I (ek g d)) := by
        rw [show (1 : Int32) = I ((1 : Nat) : Int) from rfl, q_sit h hi (by omega) (by omega)]
        unfold sitA
        rw [if_pos hst, if_neg (by omega), if_pos rfl]
        rfl
      have K208 : ∀ (dk : Bool) (cl : Nat), dk = decide (plx g d < 1000) → 0 < cl → cl ≤ 4 → (dk = true → (cl : Int) = g (65 + 3 * (plx g d / 64).toNat)) → f_L_areSeated_K208 vT vS vP hA hV hZ (fun x y z w => rec (x, y, z, w)) vL vH (I (g 2)) (I (g 0)) (1 : Int32) (I (d : Int)) (I (plx g d)) (I (B1 dk)) (I (cl : Int)) = rec (vL, vH, (1 : Int32), I ((d + 1 : Nat) : Int)) := by
        intro dk cl hdk hc0 hc1 hc
        unfold f_L_areSeated_K208 f_L_areSeated_K234
        rw [k6m (by omega), k6d (by omega), e0, e1]
        simp only [Option.bind_some]
        have cc : ¬ I (plx g d) < (0 : Int32) := by
          rw [show (0 : Int32) = I 0 from rfl, I_lt (r0 _) (r0 _)]
          exact c
        rw [if_neg cc, if_neg cc]
        exact hloop dk cl (by omega) hdk hc0 hc1 hc
      by_cases c2 : 1000 ≤ plx g d
      · rw [if_pos c2]
        unfold f_L_areSeated_K186 f_L_areSeated_K187
        rw [if_pos (by rfl)]
        exact K208 false 1 (decide_eq_false (by omega)).symm (by omega) (by omega) (fun z => by cases z)
      · rw [if_neg c2]
        have hh : (plx g d / 64).toNat < 4 := by
          have hz := seat_bd hB d
          have : plx g d < 256 := by
            unfold plx at c2 ⊢
            rw [if_pos hs] at c2 ⊢
            (repeat' split) <;> (repeat' split at c2) <;> omega
          omega
        have hrc := rc_bd hB hh
        unfold f_L_areSeated_K187
        rw [if_neg (by decide), show I (plx g d) / (64 : Int32) = I (((plx g d / 64).toNat : Nat) : Int) from by
          rw [show (64 : Int32) = I 64 from rfl, I_div (by omega) (by omega) (by omega) (by omega)]
          congr 1
          omega, q_ho1 h hh]
        simp only [Option.bind_some]
        rw [hrc.2.2.2]
        exact K208 true (cw_ g (plx g d / 64).toNat) (decide_eq_true (by omega)).symm hrc.2.1.1 hrc.2.1.2 (fun _ => hrc.2.2.2.symm)
  · show f_L_areSeated_b148 vT vS vP hA hV hZ (I (g 2)) (I (g 0)) (fun x y z w => rec (x, y, z, w)) vL vH (1 : Int32) (I ((96 : Nat) : Int)) = _
    unfold f_L_areSeated_b148
    rw [show (96 : Int32) = I ((96 : Nat) : Int) from rfl, k_le (by omega) (by omega), if_pos (by omega), gd_t (show isb (1 : Int32) = true from rfl)]
theorem l_areSeated (h : CI g n vT vS hV hZ) : f_L_areSeated vT vS vP hA hV hZ = some (1 : Int32) := by
  have e2 : f_X4_count vT vS vP hA hV hZ (2 : Int32) = some (I (g 2)) := q_ct h (k := 2) (by omega)
  have e0 : f_X4_count vT vS vP hA hV hZ (0 : Int32) = some (I (g 0)) := q_ct h (k := 0) (by omega)
  obtain ⟨vL, vH, h1, h2⟩ := l_first (vP := vP) (hA := hA) h (I (g 2)) (I (g 0))
  unfold f_L_areSeated f_L_areSeated_body
  rw [e2, e0]
  simp only [Option.bind_some]
  rw [h2, l_second h h1]
  rfl
end PLSEATED
