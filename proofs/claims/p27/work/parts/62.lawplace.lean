def T_L_place : List (Nat × ClassFile.Instr × Nat) := [(0, .aload_n 0, 1), (1, .iload_n 1, 1), (2, .bipush 6, 2), (4, .idiv, 1), (5, .iload_n 1, 1), (6, .bipush 6, 2), (8, .irem, 1), (9, .iconst 2, 1), (10, .invokevirtual 9, 3), (13, .istore_n 2, 1), (14, .iload_n 2, 1), (15, .bipush (-6), 2), (17, .if_icmp .ne 19, 3), (20, .aload_n 0, 1), (21, .iload_n 1, 1), (22, .bipush 6, 2), (24, .idiv, 1), (25, .iload_n 1, 1), (26, .bipush 6, 2), (28, .irem, 1), (29, .iconst 4, 1), (30, .invokevirtual 9, 3), (33, .goto 5, 3), (36, .bipush (-6), 2), (38, .istore_n 3, 1), (39, .iload_n 2, 1), (40, .bipush (-5), 2), (42, .if_icmp .ne 8, 3), (45, .bipush (-7), 2), (47, .goto 42, 3), (50, .iload_n 2, 1), (51, .ifCond .lt 24, 3), (54, .bipush 64, 2), (56, .iload_n 2, 1), (57, .imul, 1), (58, .aload_n 0, 1), (59, .iload_n 1, 1), (60, .bipush 6, 2), (62, .idiv, 1), (63, .iload_n 1, 1), (64, .bipush 6, 2), (66, .irem, 1), (67, .iconst 3, 1), (68, .invokevirtual 9, 3), (71, .iadd, 1), (72, .goto 17, 3), (75, .iload_n 3, 1), (76, .ifCond .lt 11, 3), (79, .sipush 1000, 3), (82, .iload_n 3, 1), (83, .iadd, 1), (84, .goto 5, 3), (87, .bipush (-6), 2), (89, .ireturn, 1)]
theorem D_L_place : ∀ q ∈ T_L_place, decode cL_place q.1 = .ok q.2 := by decide +kernel
theorem V_L_place : Vy yL_place cL_place 4 (some .int) 2 := ⟨k348, k368, by decide +kernel⟩
theorem t_L_place : Cond.static yL_place ∈ TB := k367
set_option maxRecDepth 100000 in
set_option maxHeartbeats 4000000 in
theorem c_L_place {l : Launch} {G : JG} (aX : Nat) (aT : Nat → Nat) (aS : Nat → Nat) (aT2 : Nat → Nat) (aS2 : Nat → Nat) (aP : Nat → Nat) (aH : Nat → Nat) (aB : Nat) (aU : Nat) (vT : JV) (vS : JV) (x1 : Int32) {Rz : Int32} (h : f_L_place vT vS x1 = some Rz) : JM l G yL_place cL_place 4 (some .int) 4 92 [.ref aX, .int x1] (wEx aX (aT 0) (aT2 0) (aS 0) (aS2 0) (aP 0) (aH 0) aB aU ++ (wSeat G aT (aS 0) (vT 1) (vT 2) (vT 3) (vT 4 0) (vT 5 0) (vT 6) (vT 7) (vT 8) ++ (wSch G aS (vS 0) (vS 1) (vS 2) (vS 3) (vS 4) (vS 5) (vS 6) (vS 7) (vS 8 0) (vS 9 0)))) (wEx aX (aT 0) (aT2 0) (aS 0) (aS2 0) (aP 0) (aH 0) aB aU ++ (wSeat G aT (aS 0) (vT 1) (vT 2) (vT 3) (vT 4 0) (vT 5 0) (vT 6) (vT 7) (vT 8) ++ (wSch G aS (vS 0) (vS 1) (vS 2) (vS 3) (vS 4) (vS 5) (vS 6) (vS 7) (vS 8 0) (vS 9 0)))) (some (.int Rz)) := by
  refine JM.of (own := RL) (tb := T_L_place) (by decide) (Nat.le_of_ble_eq_true rfl) D_L_place rfl (fun X C => ?_)
  refine J_sub (lv' := [(0, .ref aX), (1, .int x1)]) [0, 1] rfl ?_
  have B38 : ∀ (x1_38 : Int32) (x2_38 : Int32) (y0_38 : Int32), f_L_place_K38 vT vS x1_38 x2_38 y0_38 = some Rz → J l { frames := 4, cells := 0, slots := 0, locals := 92 } G 4 X (QM X G 0 0 (some (.int Rz)) (wEx aX (aT 0) (aT2 0) (aS 0) (aS2 0) (aP 0) (aH 0) aB aU ++ (wSeat G aT (aS 0) (vT 1) (vT 2) (vT 3) (vT 4 0) (vT 5 0) (vT 6) (vT 7) (vT 8) ++ (wSch G aS (vS 0) (vS 1) (vS 2) (vS 3) (vS 4) (vS 5) (vS 6) (vS 7) (vS 8 0) (vS 9 0))))) 0 0 38 [(0, .ref aX), (1, .int x1_38), (2, .int x2_38)] [.int y0_38] (wEx aX (aT 0) (aT2 0) (aS 0) (aS2 0) (aP 0) (aH 0) aB aU ++ (wSeat G aT (aS 0) (vT 1) (vT 2) (vT 3) (vT 4 0) (vT 5 0) (vT 6) (vT 7) (vT 8) ++ (wSch G aS (vS 0) (vS 1) (vS 2) (vS 3) (vS 4) (vS 5) (vS 6) (vS 7) (vS 8 0) (vS 9 0)))) := by
    intro x1_38 x2_38 y0_38 h
    unfold f_L_place_K38 at h
    refine J_istore_n (pc := 38) (lv' := [(3, .int y0_38), (0, .ref aX), (1, .int x1_38), (2, .int x2_38)]) C 24 rfl rfl (by decide) rfl ?_
    refine J_iload_n (pc := 39) C 25 rfl 3 rfl rfl ?_
    refine J_bipush (pc := 40) (v := (-5 : Int32)) C 26 rfl rfl ?_
    refine J_icmp_ne (pc := 42) (tgt := 50) C 27 rfl rfl (fun c3 => ?_) (fun c3 => ?_)
    · rw [if_neg c3] at h
      refine J_iload_n (pc := 50) C 30 rfl 3 rfl rfl ?_
      refine J_if_lt (pc := 51) (tgt := 75) C 31 rfl rfl (fun c4 => ?_) (fun c4 => ?_)
      · rw [if_pos c4] at h
        refine J_iload_n (pc := 75) C 46 rfl 0 rfl rfl ?_
        refine J_if_lt (pc := 76) (tgt := 87) C 47 rfl rfl (fun c5 => ?_) (fun c5 => ?_)
        · rw [if_pos c5] at h
          refine J_bipush (pc := 87) (v := (-6 : Int32)) C 52 rfl rfl ?_
          cases h
          exact J_iret (pc := 89) C 53 rfl
        · rw [if_neg c5] at h
          refine J_sipush (pc := 79) (v := (1000 : Int32)) C 48 rfl rfl ?_
          refine J_iload_n (pc := 82) C 49 rfl 0 rfl rfl ?_
          refine J_iadd (pc := 83) C 50 rfl  ?_
          refine J_goto (pc := 84) (tgt := 89) C 51 rfl rfl ?_
          cases h
          exact J_iret (pc := 89) C 53 rfl
      · rw [if_neg c4] at h
        refine J_bipush (pc := 54) (v := (64 : Int32)) C 32 rfl rfl ?_
        refine J_iload_n (pc := 56) C 33 rfl 3 rfl rfl ?_
        refine J_imul (pc := 57) C 34 rfl  ?_
        refine J_aload_n (pc := 58) C 35 rfl 1 rfl rfl ?_
        refine J_iload_n (pc := 59) C 36 rfl 2 rfl rfl ?_
        refine J_bipush (pc := 60) (v := (6 : Int32)) C 37 rfl rfl ?_
        refine J_idiv (pc := 62) C 38 rfl (by decide) ?_
        refine J_iload_n (pc := 63) C 39 rfl 2 rfl rfl ?_
        refine J_bipush (pc := 64) (v := (6 : Int32)) C 40 rfl rfl ?_
        refine J_irem (pc := 66) C 41 rfl (by decide) ?_
        refine J_iconst (pc := 67) (v := (3 : Int32)) C 42 rfl rfl ?_
        obtain ⟨q6, hq6, h⟩ := bnd h
        refine J_callV (pc := 68) (st2 := [.int ((64 : Int32) * x2_38)]) (st3 := [.int q6, .int ((64 : Int32) * x2_38)]) (ws2 := (wEx aX (aT 0) (aT2 0) (aS 0) (aS2 0) (aP 0) (aH 0) aB aU ++ (wSeat G aT (aS 0) (vT 1) (vT 2) (vT 3) (vT 4 0) (vT 5 0) (vT 6) (vT 7) (vT 8) ++ (wSch G aS (vS 0) (vS 1) (vS 2) (vS 3) (vS 4) (vS 5) (vS 6) (vS 7) (vS 8 0) (vS 9 0))))) C 43 rfl (c_X4_sitting aX aT aS aT2 aS2 aP aH aB aU vT vS (x1_38 / (6 : Int32)) (x1_38 - x1_38 / (6 : Int32) * (6 : Int32)) (3 : Int32) hq6) V_X4_sitting k345 i_X4_sitting s_X4_sitting rfl rfl ⟨Nat.le_of_ble_eq_true rfl, Nat.le_of_ble_eq_true rfl⟩ (Nat.le_of_ble_eq_true rfl) ⟨Nat.le_refl _, Nat.le_refl _⟩ 0 4 rfl rfl rfl (isC := [0, 1, 2, 3, 4, 5, 6, 7, 8, 9, 10, 11, 12, 13, 14, 15, 16]) (isR := []) (N := 17) ⟨rfl, by decide +kernel, rfl, by decide +kernel, rfl, trivial⟩ rfl ?_
        refine J_iadd (pc := 71) C 44 rfl  ?_
        refine J_goto (pc := 72) (tgt := 89) C 45 rfl rfl ?_
        cases h
        exact J_iret (pc := 89) C 53 rfl
    · rw [if_pos c3] at h
      refine J_bipush (pc := 45) (v := (-7 : Int32)) C 28 rfl rfl ?_
      refine J_goto (pc := 47) (tgt := 89) C 29 rfl rfl ?_
      cases h
      exact J_iret (pc := 89) C 53 rfl
  unfold f_L_place at h
  refine J_aload_n (pc := 0) C 0 rfl 0 rfl rfl ?_
  refine J_iload_n (pc := 1) C 1 rfl 1 rfl rfl ?_
  refine J_bipush (pc := 2) (v := (6 : Int32)) C 2 rfl rfl ?_
  refine J_idiv (pc := 4) C 3 rfl (by decide) ?_
  refine J_iload_n (pc := 5) C 4 rfl 1 rfl rfl ?_
  refine J_bipush (pc := 6) (v := (6 : Int32)) C 5 rfl rfl ?_
  refine J_irem (pc := 8) C 6 rfl (by decide) ?_
  refine J_iconst (pc := 9) (v := (2 : Int32)) C 7 rfl rfl ?_
  obtain ⟨q1, hq1, h⟩ := bnd h
  refine J_callV (pc := 10) (st2 := []) (st3 := [.int q1]) (ws2 := (wEx aX (aT 0) (aT2 0) (aS 0) (aS2 0) (aP 0) (aH 0) aB aU ++ (wSeat G aT (aS 0) (vT 1) (vT 2) (vT 3) (vT 4 0) (vT 5 0) (vT 6) (vT 7) (vT 8) ++ (wSch G aS (vS 0) (vS 1) (vS 2) (vS 3) (vS 4) (vS 5) (vS 6) (vS 7) (vS 8 0) (vS 9 0))))) C 8 rfl (c_X4_sitting aX aT aS aT2 aS2 aP aH aB aU vT vS (x1 / (6 : Int32)) (x1 - x1 / (6 : Int32) * (6 : Int32)) (2 : Int32) hq1) V_X4_sitting k345 i_X4_sitting s_X4_sitting rfl rfl ⟨Nat.le_of_ble_eq_true rfl, Nat.le_of_ble_eq_true rfl⟩ (Nat.le_of_ble_eq_true rfl) ⟨Nat.le_refl _, Nat.le_refl _⟩ 0 4 rfl rfl rfl (isC := [0, 1, 2, 3, 4, 5, 6, 7, 8, 9, 10, 11, 12, 13, 14, 15, 16]) (isR := []) (N := 17) ⟨rfl, by decide +kernel, rfl, by decide +kernel, rfl, trivial⟩ rfl ?_
  refine J_istore_n (pc := 13) (lv' := [(2, .int q1), (0, .ref aX), (1, .int x1)]) C 9 rfl rfl (by decide) rfl ?_
  refine J_iload_n (pc := 14) C 10 rfl 0 rfl rfl ?_
  refine J_bipush (pc := 15) (v := (-6 : Int32)) C 11 rfl rfl ?_
  refine J_icmp_ne (pc := 17) (tgt := 36) C 12 rfl rfl (fun c2 => ?_) (fun c2 => ?_)
  · rw [if_neg c2] at h
    refine J_bipush (pc := 36) (v := (-6 : Int32)) C 23 rfl rfl ?_
    exact J_sub [1, 2, 0] rfl (B38 x1 q1 (-6 : Int32) h)
  · rw [if_pos c2] at h
    refine J_aload_n (pc := 20) C 13 rfl 1 rfl rfl ?_
    refine J_iload_n (pc := 21) C 14 rfl 2 rfl rfl ?_
    refine J_bipush (pc := 22) (v := (6 : Int32)) C 15 rfl rfl ?_
    refine J_idiv (pc := 24) C 16 rfl (by decide) ?_
    refine J_iload_n (pc := 25) C 17 rfl 2 rfl rfl ?_
    refine J_bipush (pc := 26) (v := (6 : Int32)) C 18 rfl rfl ?_
    refine J_irem (pc := 28) C 19 rfl (by decide) ?_
    refine J_iconst (pc := 29) (v := (4 : Int32)) C 20 rfl rfl ?_
    obtain ⟨q7, hq7, h⟩ := bnd h
    refine J_callV (pc := 30) (st2 := []) (st3 := [.int q7]) (ws2 := (wEx aX (aT 0) (aT2 0) (aS 0) (aS2 0) (aP 0) (aH 0) aB aU ++ (wSeat G aT (aS 0) (vT 1) (vT 2) (vT 3) (vT 4 0) (vT 5 0) (vT 6) (vT 7) (vT 8) ++ (wSch G aS (vS 0) (vS 1) (vS 2) (vS 3) (vS 4) (vS 5) (vS 6) (vS 7) (vS 8 0) (vS 9 0))))) C 21 rfl (c_X4_sitting aX aT aS aT2 aS2 aP aH aB aU vT vS (x1 / (6 : Int32)) (x1 - x1 / (6 : Int32) * (6 : Int32)) (4 : Int32) hq7) V_X4_sitting k345 i_X4_sitting s_X4_sitting rfl rfl ⟨Nat.le_of_ble_eq_true rfl, Nat.le_of_ble_eq_true rfl⟩ (Nat.le_of_ble_eq_true rfl) ⟨Nat.le_refl _, Nat.le_refl _⟩ 0 4 rfl rfl rfl (isC := [0, 1, 2, 3, 4, 5, 6, 7, 8, 9, 10, 11, 12, 13, 14, 15, 16]) (isR := []) (N := 17) ⟨rfl, by decide +kernel, rfl, by decide +kernel, rfl, trivial⟩ rfl ?_
    refine J_goto (pc := 33) (tgt := 38) C 22 rfl rfl ?_
    exact J_sub [1, 2, 0] rfl (B38 x1 q1 q7 h)
