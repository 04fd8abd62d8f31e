def T_L_isSitting : List (Nat × ClassFile.Instr × Nat) := [(0, .iload_n 2, 1), (1, .ifCond .lt 14, 3), (4, .iload_n 2, 1), (5, .sipush 1000, 3), (8, .if_icmp .ge 7, 3), (11, .iconst 1, 1), (12, .goto 4, 3), (15, .iconst 0, 1), (16, .istore_n 3, 1), (17, .iload_n 3, 1), (18, .ifCond .eq 91, 3), (21, .aload_n 0, 1), (22, .iload_n 2, 1), (23, .bipush 64, 2), (25, .idiv, 1), (26, .iconst 2, 1), (27, .invokevirtual 15, 3), (30, .iconst 1, 1), (31, .if_icmp .ne 82, 3), (34, .iload_n 2, 1), (35, .bipush 64, 2), (37, .irem, 1), (38, .aload_n 0, 1), (39, .iload_n 2, 1), (40, .bipush 64, 2), (42, .idiv, 1), (43, .iconst 0, 1), (44, .invokevirtual 15, 3), (47, .aload_n 0, 1), (48, .iload_n 2, 1), (49, .bipush 64, 2), (51, .idiv, 1), (52, .iconst 1, 1), (53, .invokevirtual 15, 3), (56, .imul, 1), (57, .if_icmp .ge 56, 3), (60, .aload_n 0, 1), (61, .iload_n 1, 1), (62, .bipush 6, 2), (64, .irem, 1), (65, .iconst 5, 1), (66, .invokevirtual 19, 3), (69, .iload_n 2, 1), (70, .bipush 64, 2), (72, .idiv, 1), (73, .ishr, 1), (74, .iconst 1, 1), (75, .iand, 1), (76, .iconst 1, 1), (77, .if_icmp .ne 36, 3), (80, .aload_n 0, 1), (81, .iload_n 2, 1), (82, .bipush 64, 2), (84, .idiv, 1), (85, .iload_n 2, 1), (86, .bipush 64, 2), (88, .irem, 1), (89, .aload_n 0, 1), (90, .iload_n 1, 1), (91, .bipush 6, 2), (93, .idiv, 1), (94, .iload_n 1, 1), (95, .bipush 6, 2), (97, .irem, 1), (98, .iconst 0, 1), (99, .invokevirtual 9, 3), (102, .invokevirtual 22, 3), (105, .iload_n 1, 1), (106, .if_icmp .ne 7, 3), (109, .iconst 1, 1), (110, .goto 4, 3), (113, .iconst 0, 1), (114, .istore 4, 2), (116, .iload 4, 2), (118, .ifCond .eq 119, 3), (121, .aload_n 0, 1), (122, .iload_n 1, 1), (123, .bipush 6, 2), (125, .idiv, 1), (126, .iload_n 1, 1), (127, .bipush 6, 2), (129, .irem, 1), (130, .iconst 0, 1), (131, .invokevirtual 9, 3), (134, .bipush 30, 2), (136, .aload_n 0, 1), (137, .iload_n 1, 1), (138, .bipush 6, 2), (140, .irem, 1), (141, .iconst 0, 1), (142, .invokevirtual 19, 3), (145, .imul, 1), (146, .if_icmp .ne 91, 3), (149, .iload_n 2, 1), (150, .ifCond .lt 24, 3), (153, .iload_n 3, 1), (154, .aload_n 0, 1), (155, .iload_n 1, 1), (156, .bipush 6, 2), (158, .idiv, 1), (159, .iconst 2, 1), (160, .invokevirtual 25, 3), (163, .ifCond .ne 7, 3), (166, .iconst 1, 1), (167, .goto 4, 3), (170, .iconst 0, 1), (171, .if_icmp .ne 66, 3), (174, .iload_n 2, 1), (175, .sipush 1000, 3), (178, .if_icmp .lt 16, 3), (181, .iload_n 2, 1), (182, .sipush 1000, 3), (185, .aload_n 0, 1), (186, .iconst 1, 1), (187, .invokevirtual 28, 3), (190, .iadd, 1), (191, .if_icmp .ge 46, 3), (194, .iload_n 2, 1), (195, .bipush (-6), 2), (197, .if_icmp .ne 7, 3), (200, .iconst 1, 1), (201, .goto 4, 3), (204, .iconst 0, 1), (205, .aload_n 0, 1), (206, .iload_n 1, 1), (207, .bipush 6, 2), (209, .idiv, 1), (210, .iconst 4, 1), (211, .invokevirtual 25, 3), (214, .iload_n 1, 1), (215, .bipush 6, 2), (217, .irem, 1), (218, .ishr, 1), (219, .iconst 1, 1), (220, .iand, 1), (221, .iconst 1, 1), (222, .if_icmp .ne 7, 3), (225, .iconst 1, 1), (226, .goto 4, 3), (229, .iconst 0, 1), (230, .if_icmp .ne 7, 3), (233, .iconst 1, 1), (234, .goto 4, 3), (237, .iconst 0, 1), (238, .ireturn, 1)]
theorem D_L_isSitting : ∀ q ∈ T_L_isSitting, decode cL_isSitting q.1 = .ok q.2 := by decide +kernel
theorem V_L_isSitting : Vy yL_isSitting cL_isSitting 5 (some .boolean) 3 := ⟨k365, k368, by decide +kernel⟩
theorem t_L_isSitting : Cond.static yL_isSitting ∈ TB := k370
set_option maxRecDepth 100000 in
set_option maxHeartbeats 4000000 in
theorem c_L_isSitting {l : Launch} {G : JG} (aX : Nat) (aT : Nat → Nat) (aS : Nat → Nat) (aT2 : Nat → Nat) (aS2 : Nat → Nat) (aP : Nat → Nat) (aH : Nat → Nat) (aB : Nat) (aU : Nat) (vT : JV) (vS : JV) (vP : JV) (hA : Nat → Nat → Nat) (hV : Nat → JV) (hZ : JV) (x1 : Int32) (x2 : Int32) {Rz : Int32} (h : f_L_isSitting vT vS vP hA hV hZ x1 x2 = some Rz) : JM l G yL_isSitting cL_isSitting 5 (some .boolean) 7 158 [.ref aX, .int x1, .int x2] (wEx aX (aT 0) (aT2 0) (aS 0) (aS2 0) (aP 0) (aH 0) aB aU ++ (wSeat G aT (aS 0) (vT 1) (vT 2) (vT 3) (vT 4 0) (vT 5 0) (vT 6) (vT 7) (vT 8) ++ (wSch G aS (vS 0) (vS 1) (vS 2) (vS 3) (vS 4) (vS 5) (vS 6) (vS 7) (vS 8 0) (vS 9 0) ++ (wPad G aP (vP 0) (vP 1 0) (vP 2) (vP 3) (vP 4) (vP 5 0) (vP 6 0) (vP 7 0) (vP 8 0) (vP 9 0) ++ (wHis G aH hA hV (hZ 1 0)))))) (wEx aX (aT 0) (aT2 0) (aS 0) (aS2 0) (aP 0) (aH 0) aB aU ++ (wSeat G aT (aS 0) (vT 1) (vT 2) (vT 3) (vT 4 0) (vT 5 0) (vT 6) (vT 7) (vT 8) ++ (wSch G aS (vS 0) (vS 1) (vS 2) (vS 3) (vS 4) (vS 5) (vS 6) (vS 7) (vS 8 0) (vS 9 0) ++ (wPad G aP (vP 0) (vP 1 0) (vP 2) (vP 3) (vP 4) (vP 5 0) (vP 6 0) (vP 7 0) (vP 8 0) (vP 9 0) ++ (wHis G aH hA hV (hZ 1 0)))))) (some (.int Rz)) := by
  refine JM.of (own := RL) (tb := T_L_isSitting) (by decide) (Nat.le_of_ble_eq_true rfl) D_L_isSitting rfl (fun X C => ?_)
  refine J_sub (lv' := [(0, .ref aX), (1, .int x1), (2, .int x2)]) [0, 1, 2] rfl ?_
  have B230 : ∀ (y1_230 : Int32) (y0_230 : Int32), f_L_isSitting_K230 vT vS vP hA hV hZ y1_230 y0_230 = some Rz → J l { frames := 7, cells := 0, slots := 0, locals := 158 } G 5 X (QM X G 0 0 (some (.int Rz)) (wEx aX (aT 0) (aT2 0) (aS 0) (aS2 0) (aP 0) (aH 0) aB aU ++ (wSeat G aT (aS 0) (vT 1) (vT 2) (vT 3) (vT 4 0) (vT 5 0) (vT 6) (vT 7) (vT 8) ++ (wSch G aS (vS 0) (vS 1) (vS 2) (vS 3) (vS 4) (vS 5) (vS 6) (vS 7) (vS 8 0) (vS 9 0) ++ (wPad G aP (vP 0) (vP 1 0) (vP 2) (vP 3) (vP 4) (vP 5 0) (vP 6 0) (vP 7 0) (vP 8 0) (vP 9 0) ++ (wHis G aH hA hV (hZ 1 0))))))) 0 0 230 [] [.int y1_230, .int y0_230] (wEx aX (aT 0) (aT2 0) (aS 0) (aS2 0) (aP 0) (aH 0) aB aU ++ (wSeat G aT (aS 0) (vT 1) (vT 2) (vT 3) (vT 4 0) (vT 5 0) (vT 6) (vT 7) (vT 8) ++ (wSch G aS (vS 0) (vS 1) (vS 2) (vS 3) (vS 4) (vS 5) (vS 6) (vS 7) (vS 8 0) (vS 9 0) ++ (wPad G aP (vP 0) (vP 1 0) (vP 2) (vP 3) (vP 4) (vP 5 0) (vP 6 0) (vP 7 0) (vP 8 0) (vP 9 0) ++ (wHis G aH hA hV (hZ 1 0)))))) := by
    intro y1_230 y0_230 h
    unfold f_L_isSitting_K230 at h
    refine J_icmp_ne (pc := 230) (tgt := 237) C 140 rfl rfl (fun c12 => ?_) (fun c12 => ?_)
    · rw [if_neg c12] at h
      refine J_iconst (pc := 237) (v := (0 : Int32)) C 143 rfl rfl ?_
      cases h
      exact J_zret (pc := 238) C 144 rfl rfl
    · rw [if_pos c12] at h
      refine J_iconst (pc := 233) (v := (1 : Int32)) C 141 rfl rfl ?_
      refine J_goto (pc := 234) (tgt := 238) C 142 rfl rfl ?_
      cases h
      exact J_zret (pc := 238) C 144 rfl rfl
  have B205 : ∀ (x1_205 : Int32) (y0_205 : Int32), f_L_isSitting_K205 vT vS vP hA hV hZ x1_205 y0_205 = some Rz → J l { frames := 7, cells := 0, slots := 0, locals := 158 } G 5 X (QM X G 0 0 (some (.int Rz)) (wEx aX (aT 0) (aT2 0) (aS 0) (aS2 0) (aP 0) (aH 0) aB aU ++ (wSeat G aT (aS 0) (vT 1) (vT 2) (vT 3) (vT 4 0) (vT 5 0) (vT 6) (vT 7) (vT 8) ++ (wSch G aS (vS 0) (vS 1) (vS 2) (vS 3) (vS 4) (vS 5) (vS 6) (vS 7) (vS 8 0) (vS 9 0) ++ (wPad G aP (vP 0) (vP 1 0) (vP 2) (vP 3) (vP 4) (vP 5 0) (vP 6 0) (vP 7 0) (vP 8 0) (vP 9 0) ++ (wHis G aH hA hV (hZ 1 0))))))) 0 0 205 [(0, .ref aX), (1, .int x1_205)] [.int y0_205] (wEx aX (aT 0) (aT2 0) (aS 0) (aS2 0) (aP 0) (aH 0) aB aU ++ (wSeat G aT (aS 0) (vT 1) (vT 2) (vT 3) (vT 4 0) (vT 5 0) (vT 6) (vT 7) (vT 8) ++ (wSch G aS (vS 0) (vS 1) (vS 2) (vS 3) (vS 4) (vS 5) (vS 6) (vS 7) (vS 8 0) (vS 9 0) ++ (wPad G aP (vP 0) (vP 1 0) (vP 2) (vP 3) (vP 4) (vP 5 0) (vP 6 0) (vP 7 0) (vP 8 0) (vP 9 0) ++ (wHis G aH hA hV (hZ 1 0)))))) := by
    intro x1_205 y0_205 h
    unfold f_L_isSitting_K205 at h
    refine J_aload_n (pc := 205) C 123 rfl 0 rfl rfl ?_
    refine J_iload_n (pc := 206) C 124 rfl 1 rfl rfl ?_
    refine J_bipush (pc := 207) (v := (6 : Int32)) C 125 rfl rfl ?_
    refine J_idiv (pc := 209) C 126 rfl (by decide) ?_
    refine J_iconst (pc := 210) (v := (4 : Int32)) C 127 rfl rfl ?_
    obtain ⟨q10, hq10, h⟩ := bnd h
    refine J_callV (pc := 211) (st2 := [.int y0_205]) (st3 := [.int q10, .int y0_205]) (ws2 := (wEx aX (aT 0) (aT2 0) (aS 0) (aS2 0) (aP 0) (aH 0) aB aU ++ (wSeat G aT (aS 0) (vT 1) (vT 2) (vT 3) (vT 4 0) (vT 5 0) (vT 6) (vT 7) (vT 8) ++ (wSch G aS (vS 0) (vS 1) (vS 2) (vS 3) (vS 4) (vS 5) (vS 6) (vS 7) (vS 8 0) (vS 9 0) ++ (wPad G aP (vP 0) (vP 1 0) (vP 2) (vP 3) (vP 4) (vP 5 0) (vP 6 0) (vP 7 0) (vP 8 0) (vP 9 0) ++ (wHis G aH hA hV (hZ 1 0))))))) C 128 rfl (c_X4_pupilOf aX aT aS aT2 aS2 aP aH aB aU vT vS (x1_205 / (6 : Int32)) (4 : Int32) hq10) V_X4_pupilOf k359 i_X4_pupilOf s_X4_pupilOf rfl rfl ⟨Nat.le_of_ble_eq_true rfl, Nat.le_of_ble_eq_true rfl⟩ (Nat.le_of_ble_eq_true rfl) ⟨Nat.le_refl _, Nat.le_refl _⟩ 0 4 rfl rfl rfl (isC := [0, 1, 2, 3, 4, 5, 6, 7, 8, 9, 10, 11, 12, 13, 14, 15, 16]) (isR := [17, 18, 19, 20, 21, 22, 23, 24, 25, 26, 27, 28, 29, 30, 31, 32, 33, 34, 35, 36, 37, 38, 39, 40, 41, 42, 43, 44, 45, 46, 47, 48, 49, 50, 51, 52, 53, 54, 55, 56, 57, 58, 59, 60, 61, 62, 63, 64, 65, 66, 67, 68, 69, 70, 71, 72, 73, 74, 75, 76, 77]) (N := 78) ⟨rfl, by decide +kernel, rfl, by decide +kernel, rfl, ⟨⟨_, rfl, rfl⟩, ⟨⟨_, rfl, rfl⟩, ⟨⟨_, rfl, rfl⟩, ⟨⟨_, rfl, rfl⟩, ⟨⟨_, rfl, rfl⟩, ⟨⟨_, rfl, rfl⟩, ⟨⟨_, rfl, rfl⟩, ⟨⟨_, rfl, rfl⟩, ⟨⟨_, rfl, rfl⟩, ⟨⟨_, rfl, rfl⟩, ⟨⟨_, rfl, rfl⟩, ⟨⟨_, rfl, rfl⟩, ⟨⟨_, rfl, rfl⟩, ⟨⟨_, rfl, rfl⟩, ⟨⟨_, rfl, rfl⟩, ⟨⟨_, rfl, rfl⟩, ⟨⟨_, rfl, rfl⟩, ⟨⟨_, rfl, rfl⟩, ⟨⟨_, rfl, rfl⟩, ⟨⟨_, rfl, rfl⟩, ⟨⟨_, rfl, rfl⟩, ⟨⟨_, rfl, rfl⟩, ⟨⟨_, rfl, rfl⟩, ⟨⟨_, rfl, rfl⟩, ⟨⟨_, rfl, rfl⟩, ⟨⟨_, rfl, rfl⟩, ⟨⟨_, rfl, rfl⟩, ⟨⟨_, rfl, rfl⟩, ⟨⟨_, rfl, rfl⟩, ⟨⟨_, rfl, rfl⟩, ⟨⟨_, rfl, rfl⟩, ⟨⟨_, rfl, rfl⟩, ⟨⟨_, rfl, rfl⟩, ⟨⟨_, rfl, rfl⟩, ⟨⟨_, rfl, rfl⟩, ⟨⟨_, rfl, rfl⟩, ⟨⟨_, rfl, rfl⟩, ⟨⟨_, rfl, rfl⟩, ⟨⟨_, rfl, rfl⟩, ⟨⟨_, rfl, rfl⟩, ⟨⟨_, rfl, rfl⟩, ⟨⟨_, rfl, rfl⟩, ⟨⟨_, rfl, rfl⟩, ⟨⟨_, rfl, rfl⟩, ⟨⟨_, rfl, rfl⟩, ⟨⟨_, rfl, rfl⟩, ⟨⟨_, rfl, rfl⟩, ⟨⟨_, rfl, rfl⟩, ⟨⟨_, rfl, rfl⟩, ⟨⟨_, rfl, rfl⟩, ⟨⟨_, rfl, rfl⟩, ⟨⟨_, rfl, rfl⟩, ⟨⟨_, rfl, rfl⟩, ⟨⟨_, rfl, rfl⟩, ⟨⟨_, rfl, rfl⟩, ⟨⟨_, rfl, rfl⟩, ⟨⟨_, rfl, rfl⟩, ⟨⟨_, rfl, rfl⟩, ⟨⟨_, rfl, rfl⟩, ⟨⟨_, rfl, rfl⟩, ⟨⟨_, rfl, rfl⟩, trivial⟩⟩⟩⟩⟩⟩⟩⟩⟩⟩⟩⟩⟩⟩⟩⟩⟩⟩⟩⟩⟩⟩⟩⟩⟩⟩⟩⟩⟩⟩⟩⟩⟩⟩⟩⟩⟩⟩⟩⟩⟩⟩⟩⟩⟩⟩⟩⟩⟩⟩⟩⟩⟩⟩⟩⟩⟩⟩⟩⟩⟩⟩ rfl ?_
    refine J_iload_n (pc := 214) C 129 rfl 1 rfl rfl ?_
    refine J_bipush (pc := 215) (v := (6 : Int32)) C 130 rfl rfl ?_
    refine J_irem (pc := 217) C 131 rfl (by decide) ?_
    refine J_ishr (pc := 218) C 132 rfl  ?_
    refine J_iconst (pc := 219) (v := (1 : Int32)) C 133 rfl rfl ?_
    refine J_iand (pc := 220) C 134 rfl  ?_
    refine J_iconst (pc := 221) (v := (1 : Int32)) C 135 rfl rfl ?_
    refine J_icmp_ne (pc := 222) (tgt := 229) C 136 rfl rfl (fun c11 => ?_) (fun c11 => ?_)
    · rw [if_neg c11] at h
      refine J_iconst (pc := 229) (v := (0 : Int32)) C 139 rfl rfl ?_
      exact J_sub [] rfl (B230 (0 : Int32) y0_205 h)
    · rw [if_pos c11] at h
      refine J_iconst (pc := 225) (v := (1 : Int32)) C 137 rfl rfl ?_
      refine J_goto (pc := 226) (tgt := 230) C 138 rfl rfl ?_
      exact J_sub [] rfl (B230 (1 : Int32) y0_205 h)
  have B194 : ∀ (x1_194 : Int32) (x2_194 : Int32), f_L_isSitting_K194 vT vS vP hA hV hZ x1_194 x2_194 = some Rz → J l { frames := 7, cells := 0, slots := 0, locals := 158 } G 5 X (QM X G 0 0 (some (.int Rz)) (wEx aX (aT 0) (aT2 0) (aS 0) (aS2 0) (aP 0) (aH 0) aB aU ++ (wSeat G aT (aS 0) (vT 1) (vT 2) (vT 3) (vT 4 0) (vT 5 0) (vT 6) (vT 7) (vT 8) ++ (wSch G aS (vS 0) (vS 1) (vS 2) (vS 3) (vS 4) (vS 5) (vS 6) (vS 7) (vS 8 0) (vS 9 0) ++ (wPad G aP (vP 0) (vP 1 0) (vP 2) (vP 3) (vP 4) (vP 5 0) (vP 6 0) (vP 7 0) (vP 8 0) (vP 9 0) ++ (wHis G aH hA hV (hZ 1 0))))))) 0 0 194 [(0, .ref aX), (1, .int x1_194), (2, .int x2_194)] [] (wEx aX (aT 0) (aT2 0) (aS 0) (aS2 0) (aP 0) (aH 0) aB aU ++ (wSeat G aT (aS 0) (vT 1) (vT 2) (vT 3) (vT 4 0) (vT 5 0) (vT 6) (vT 7) (vT 8) ++ (wSch G aS (vS 0) (vS 1) (vS 2) (vS 3) (vS 4) (vS 5) (vS 6) (vS 7) (vS 8 0) (vS 9 0) ++ (wPad G aP (vP 0) (vP 1 0) (vP 2) (vP 3) (vP 4) (vP 5 0) (vP 6 0) (vP 7 0) (vP 8 0) (vP 9 0) ++ (wHis G aH hA hV (hZ 1 0)))))) := by
    intro x1_194 x2_194 h
    unfold f_L_isSitting_K194 at h
    refine J_iload_n (pc := 194) C 117 rfl 2 rfl rfl ?_
    refine J_bipush (pc := 195) (v := (-6 : Int32)) C 118 rfl rfl ?_
    refine J_icmp_ne (pc := 197) (tgt := 204) C 119 rfl rfl (fun c9 => ?_) (fun c9 => ?_)
    · rw [if_neg c9] at h
      refine J_iconst (pc := 204) (v := (0 : Int32)) C 122 rfl rfl ?_
      exact J_sub [0, 1] rfl (B205 x1_194 (0 : Int32) h)
    · rw [if_pos c9] at h
      refine J_iconst (pc := 200) (v := (1 : Int32)) C 120 rfl rfl ?_
      refine J_goto (pc := 201) (tgt := 205) C 121 rfl rfl ?_
      exact J_sub [0, 1] rfl (B205 x1_194 (1 : Int32) h)
  have B174 : ∀ (x1_174 : Int32) (x2_174 : Int32), f_L_isSitting_K174 vT vS vP hA hV hZ x1_174 x2_174 = some Rz → J l { frames := 7, cells := 0, slots := 0, locals := 158 } G 5 X (QM X G 0 0 (some (.int Rz)) (wEx aX (aT 0) (aT2 0) (aS 0) (aS2 0) (aP 0) (aH 0) aB aU ++ (wSeat G aT (aS 0) (vT 1) (vT 2) (vT 3) (vT 4 0) (vT 5 0) (vT 6) (vT 7) (vT 8) ++ (wSch G aS (vS 0) (vS 1) (vS 2) (vS 3) (vS 4) (vS 5) (vS 6) (vS 7) (vS 8 0) (vS 9 0) ++ (wPad G aP (vP 0) (vP 1 0) (vP 2) (vP 3) (vP 4) (vP 5 0) (vP 6 0) (vP 7 0) (vP 8 0) (vP 9 0) ++ (wHis G aH hA hV (hZ 1 0))))))) 0 0 174 [(0, .ref aX), (1, .int x1_174), (2, .int x2_174)] [] (wEx aX (aT 0) (aT2 0) (aS 0) (aS2 0) (aP 0) (aH 0) aB aU ++ (wSeat G aT (aS 0) (vT 1) (vT 2) (vT 3) (vT 4 0) (vT 5 0) (vT 6) (vT 7) (vT 8) ++ (wSch G aS (vS 0) (vS 1) (vS 2) (vS 3) (vS 4) (vS 5) (vS 6) (vS 7) (vS 8 0) (vS 9 0) ++ (wPad G aP (vP 0) (vP 1 0) (vP 2) (vP 3) (vP 4) (vP 5 0) (vP 6 0) (vP 7 0) (vP 8 0) (vP 9 0) ++ (wHis G aH hA hV (hZ 1 0)))))) := by
    intro x1_174 x2_174 h
    unfold f_L_isSitting_K174 at h
    refine J_iload_n (pc := 174) C 107 rfl 2 rfl rfl ?_
    refine J_sipush (pc := 175) (v := (1000 : Int32)) C 108 rfl rfl ?_
    refine J_icmp_lt (pc := 178) (tgt := 194) C 109 rfl rfl (fun c8 => ?_) (fun c8 => ?_)
    · rw [if_pos c8] at h
      exact J_sub [0, 1, 2] rfl (B194 x1_174 x2_174 h)
    · rw [if_neg c8] at h
      refine J_iload_n (pc := 181) C 110 rfl 2 rfl rfl ?_
      refine J_sipush (pc := 182) (v := (1000 : Int32)) C 111 rfl rfl ?_
      refine J_aload_n (pc := 185) C 112 rfl 0 rfl rfl ?_
      refine J_iconst (pc := 186) (v := (1 : Int32)) C 113 rfl rfl ?_
      obtain ⟨q13, hq13, h⟩ := bnd h
      refine J_callV (pc := 187) (st2 := [.int (1000 : Int32), .int x2_174]) (st3 := [.int q13, .int (1000 : Int32), .int x2_174]) (ws2 := (wEx aX (aT 0) (aT2 0) (aS 0) (aS2 0) (aP 0) (aH 0) aB aU ++ (wSeat G aT (aS 0) (vT 1) (vT 2) (vT 3) (vT 4 0) (vT 5 0) (vT 6) (vT 7) (vT 8) ++ (wSch G aS (vS 0) (vS 1) (vS 2) (vS 3) (vS 4) (vS 5) (vS 6) (vS 7) (vS 8 0) (vS 9 0) ++ (wPad G aP (vP 0) (vP 1 0) (vP 2) (vP 3) (vP 4) (vP 5 0) (vP 6 0) (vP 7 0) (vP 8 0) (vP 9 0) ++ (wHis G aH hA hV (hZ 1 0))))))) C 114 rfl (c_X4_count aX aT aS aT2 aS2 aP aH aB aU vT vS vP hA hV hZ (1 : Int32) hq13) V_X4_count k362 i_X4_count s_X4_count rfl rfl ⟨Nat.le_of_ble_eq_true rfl, Nat.le_of_ble_eq_true rfl⟩ (Nat.le_of_ble_eq_true rfl) ⟨Nat.le_refl _, Nat.le_refl _⟩ 0 4 rfl rfl rfl (isC := [0, 1, 2, 3, 4, 5, 6, 7, 8, 9, 10, 11, 12, 13, 14, 15, 16, 17, 18, 19, 20, 21, 22, 23, 24, 25, 26, 27, 28, 29, 30, 31, 32, 33, 34, 35, 36, 37, 38, 39, 40, 41, 42, 43, 44, 45, 46, 47, 48, 49, 50, 51, 52, 53, 54, 55, 56, 57, 58, 59, 60, 61, 62, 63, 64, 65, 66, 67, 68, 69, 70, 71, 72, 73, 74, 75, 76, 77]) (isR := []) (N := 78) ⟨rfl, by decide +kernel, rfl, by decide +kernel, rfl, trivial⟩ rfl ?_
      refine J_iadd (pc := 190) C 115 rfl  ?_
      refine J_icmp_ge (pc := 191) (tgt := 237) C 116 rfl rfl (fun c14 => ?_) (fun c14 => ?_)
      · rw [if_pos c14] at h
        refine J_iconst (pc := 237) (v := (0 : Int32)) C 143 rfl rfl ?_
        cases h
        exact J_zret (pc := 238) C 144 rfl rfl
      · rw [if_neg c14] at h
        exact J_sub [0, 1, 2] rfl (B194 x1_174 x2_174 h)
  have B171 : ∀ (x1_171 : Int32) (x2_171 : Int32) (y1_171 : Int32) (y0_171 : Int32), f_L_isSitting_K171 vT vS vP hA hV hZ x1_171 x2_171 y1_171 y0_171 = some Rz → J l { frames := 7, cells := 0, slots := 0, locals := 158 } G 5 X (QM X G 0 0 (some (.int Rz)) (wEx aX (aT 0) (aT2 0) (aS 0) (aS2 0) (aP 0) (aH 0) aB aU ++ (wSeat G aT (aS 0) (vT 1) (vT 2) (vT 3) (vT 4 0) (vT 5 0) (vT 6) (vT 7) (vT 8) ++ (wSch G aS (vS 0) (vS 1) (vS 2) (vS 3) (vS 4) (vS 5) (vS 6) (vS 7) (vS 8 0) (vS 9 0) ++ (wPad G aP (vP 0) (vP 1 0) (vP 2) (vP 3) (vP 4) (vP 5 0) (vP 6 0) (vP 7 0) (vP 8 0) (vP 9 0) ++ (wHis G aH hA hV (hZ 1 0))))))) 0 0 171 [(0, .ref aX), (1, .int x1_171), (2, .int x2_171)] [.int y1_171, .int y0_171] (wEx aX (aT 0) (aT2 0) (aS 0) (aS2 0) (aP 0) (aH 0) aB aU ++ (wSeat G aT (aS 0) (vT 1) (vT 2) (vT 3) (vT 4 0) (vT 5 0) (vT 6) (vT 7) (vT 8) ++ (wSch G aS (vS 0) (vS 1) (vS 2) (vS 3) (vS 4) (vS 5) (vS 6) (vS 7) (vS 8 0) (vS 9 0) ++ (wPad G aP (vP 0) (vP 1 0) (vP 2) (vP 3) (vP 4) (vP 5 0) (vP 6 0) (vP 7 0) (vP 8 0) (vP 9 0) ++ (wHis G aH hA hV (hZ 1 0)))))) := by
    intro x1_171 x2_171 y1_171 y0_171 h
    unfold f_L_isSitting_K171 at h
    refine J_icmp_ne (pc := 171) (tgt := 237) C 106 rfl rfl (fun c17 => ?_) (fun c17 => ?_)
    · rw [if_neg c17] at h
      refine J_iconst (pc := 237) (v := (0 : Int32)) C 143 rfl rfl ?_
      cases h
      exact J_zret (pc := 238) C 144 rfl rfl
    · rw [if_pos c17] at h
      exact J_sub [0, 1, 2] rfl (B174 x1_171 x2_171 h)
  have B114 : ∀ (x1_114 : Int32) (x2_114 : Int32) (x3_114 : Int32) (y0_114 : Int32), f_L_isSitting_K114 vT vS vP hA hV hZ x1_114 x2_114 x3_114 y0_114 = some Rz → J l { frames := 7, cells := 0, slots := 0, locals := 158 } G 5 X (QM X G 0 0 (some (.int Rz)) (wEx aX (aT 0) (aT2 0) (aS 0) (aS2 0) (aP 0) (aH 0) aB aU ++ (wSeat G aT (aS 0) (vT 1) (vT 2) (vT 3) (vT 4 0) (vT 5 0) (vT 6) (vT 7) (vT 8) ++ (wSch G aS (vS 0) (vS 1) (vS 2) (vS 3) (vS 4) (vS 5) (vS 6) (vS 7) (vS 8 0) (vS 9 0) ++ (wPad G aP (vP 0) (vP 1 0) (vP 2) (vP 3) (vP 4) (vP 5 0) (vP 6 0) (vP 7 0) (vP 8 0) (vP 9 0) ++ (wHis G aH hA hV (hZ 1 0))))))) 0 0 114 [(0, .ref aX), (1, .int x1_114), (2, .int x2_114), (3, .int x3_114)] [.int y0_114] (wEx aX (aT 0) (aT2 0) (aS 0) (aS2 0) (aP 0) (aH 0) aB aU ++ (wSeat G aT (aS 0) (vT 1) (vT 2) (vT 3) (vT 4 0) (vT 5 0) (vT 6) (vT 7) (vT 8) ++ (wSch G aS (vS 0) (vS 1) (vS 2) (vS 3) (vS 4) (vS 5) (vS 6) (vS 7) (vS 8 0) (vS 9 0) ++ (wPad G aP (vP 0) (vP 1 0) (vP 2) (vP 3) (vP 4) (vP 5 0) (vP 6 0) (vP 7 0) (vP 8 0) (vP 9 0) ++ (wHis G aH hA hV (hZ 1 0)))))) := by
    intro x1_114 x2_114 x3_114 y0_114 h
    unfold f_L_isSitting_K114 at h
    refine J_istore (pc := 114) (lv' := [(4, .int y0_114), (0, .ref aX), (1, .int x1_114), (2, .int x2_114), (3, .int x3_114)]) C 72 rfl (by decide) rfl ?_
    refine J_iload (pc := 116) C 73 rfl 0 rfl ?_
    refine J_if_eq (pc := 118) (tgt := 237) C 74 rfl rfl (fun c3 => ?_) (fun c3 => ?_)
    · rw [if_pos c3] at h
      refine J_iconst (pc := 237) (v := (0 : Int32)) C 143 rfl rfl ?_
      cases h
      exact J_zret (pc := 238) C 144 rfl rfl
    · rw [if_neg c3] at h
      refine J_aload_n (pc := 121) C 75 rfl 1 rfl rfl ?_
      refine J_iload_n (pc := 122) C 76 rfl 2 rfl rfl ?_
      refine J_bipush (pc := 123) (v := (6 : Int32)) C 77 rfl rfl ?_
      refine J_idiv (pc := 125) C 78 rfl (by decide) ?_
      refine J_iload_n (pc := 126) C 79 rfl 2 rfl rfl ?_
      refine J_bipush (pc := 127) (v := (6 : Int32)) C 80 rfl rfl ?_
      refine J_irem (pc := 129) C 81 rfl (by decide) ?_
      refine J_iconst (pc := 130) (v := (0 : Int32)) C 82 rfl rfl ?_
      obtain ⟨q4, hq4, h⟩ := bnd h
      refine J_callV (pc := 131) (st2 := []) (st3 := [.int q4]) (ws2 := (wEx aX (aT 0) (aT2 0) (aS 0) (aS2 0) (aP 0) (aH 0) aB aU ++ (wSeat G aT (aS 0) (vT 1) (vT 2) (vT 3) (vT 4 0) (vT 5 0) (vT 6) (vT 7) (vT 8) ++ (wSch G aS (vS 0) (vS 1) (vS 2) (vS 3) (vS 4) (vS 5) (vS 6) (vS 7) (vS 8 0) (vS 9 0) ++ (wPad G aP (vP 0) (vP 1 0) (vP 2) (vP 3) (vP 4) (vP 5 0) (vP 6 0) (vP 7 0) (vP 8 0) (vP 9 0) ++ (wHis G aH hA hV (hZ 1 0))))))) C 83 rfl (c_X4_sitting aX aT aS aT2 aS2 aP aH aB aU vT vS (x1_114 / (6 : Int32)) (x1_114 - x1_114 / (6 : Int32) * (6 : Int32)) (0 : Int32) hq4) V_X4_sitting k345 i_X4_sitting s_X4_sitting rfl rfl ⟨Nat.le_of_ble_eq_true rfl, Nat.le_of_ble_eq_true rfl⟩ (Nat.le_of_ble_eq_true rfl) ⟨Nat.le_refl _, Nat.le_refl _⟩ 0 4 rfl rfl rfl (isC := [0, 1, 2, 3, 4, 5, 6, 7, 8, 9, 10, 11, 12, 13, 14, 15, 16]) (isR := [17, 18, 19, 20, 21, 22, 23, 24, 25, 26, 27, 28, 29, 30, 31, 32, 33, 34, 35, 36, 37, 38, 39, 40, 41, 42, 43, 44, 45, 46, 47, 48, 49, 50, 51, 52, 53, 54, 55, 56, 57, 58, 59, 60, 61, 62, 63, 64, 65, 66, 67, 68, 69, 70, 71, 72, 73, 74, 75, 76, 77]) (N := 78) ⟨rfl, by decide +kernel, rfl, by decide +kernel, rfl, ⟨⟨_, rfl, rfl⟩, ⟨⟨_, rfl, rfl⟩, ⟨⟨_, rfl, rfl⟩, ⟨⟨_, rfl, rfl⟩, ⟨⟨_, rfl, rfl⟩, ⟨⟨_, rfl, rfl⟩, ⟨⟨_, rfl, rfl⟩, ⟨⟨_, rfl, rfl⟩, ⟨⟨_, rfl, rfl⟩, ⟨⟨_, rfl, rfl⟩, ⟨⟨_, rfl, rfl⟩, ⟨⟨_, rfl, rfl⟩, ⟨⟨_, rfl, rfl⟩, ⟨⟨_, rfl, rfl⟩, ⟨⟨_, rfl, rfl⟩, ⟨⟨_, rfl, rfl⟩, ⟨⟨_, rfl, rfl⟩, ⟨⟨_, rfl, rfl⟩, ⟨⟨_, rfl, rfl⟩, ⟨⟨_, rfl, rfl⟩, ⟨⟨_, rfl, rfl⟩, ⟨⟨_, rfl, rfl⟩, ⟨⟨_, rfl, rfl⟩, ⟨⟨_, rfl, rfl⟩, ⟨⟨_, rfl, rfl⟩, ⟨⟨_, rfl, rfl⟩, ⟨⟨_, rfl, rfl⟩, ⟨⟨_, rfl, rfl⟩, ⟨⟨_, rfl, rfl⟩, ⟨⟨_, rfl, rfl⟩, ⟨⟨_, rfl, rfl⟩, ⟨⟨_, rfl, rfl⟩, ⟨⟨_, rfl, rfl⟩, ⟨⟨_, rfl, rfl⟩, ⟨⟨_, rfl, rfl⟩, ⟨⟨_, rfl, rfl⟩, ⟨⟨_, rfl, rfl⟩, ⟨⟨_, rfl, rfl⟩, ⟨⟨_, rfl, rfl⟩, ⟨⟨_, rfl, rfl⟩, ⟨⟨_, rfl, rfl⟩, ⟨⟨_, rfl, rfl⟩, ⟨⟨_, rfl, rfl⟩, ⟨⟨_, rfl, rfl⟩, ⟨⟨_, rfl, rfl⟩, ⟨⟨_, rfl, rfl⟩, ⟨⟨_, rfl, rfl⟩, ⟨⟨_, rfl, rfl⟩, ⟨⟨_, rfl, rfl⟩, ⟨⟨_, rfl, rfl⟩, ⟨⟨_, rfl, rfl⟩, ⟨⟨_, rfl, rfl⟩, ⟨⟨_, rfl, rfl⟩, ⟨⟨_, rfl, rfl⟩, ⟨⟨_, rfl, rfl⟩, ⟨⟨_, rfl, rfl⟩, ⟨⟨_, rfl, rfl⟩, ⟨⟨_, rfl, rfl⟩, ⟨⟨_, rfl, rfl⟩, ⟨⟨_, rfl, rfl⟩, ⟨⟨_, rfl, rfl⟩, trivial⟩⟩⟩⟩⟩⟩⟩⟩⟩⟩⟩⟩⟩⟩⟩⟩⟩⟩⟩⟩⟩⟩⟩⟩⟩⟩⟩⟩⟩⟩⟩⟩⟩⟩⟩⟩⟩⟩⟩⟩⟩⟩⟩⟩⟩⟩⟩⟩⟩⟩⟩⟩⟩⟩⟩⟩⟩⟩⟩⟩⟩⟩ rfl ?_
      refine J_bipush (pc := 134) (v := (30 : Int32)) C 84 rfl rfl ?_
      refine J_aload_n (pc := 136) C 85 rfl 1 rfl rfl ?_
      refine J_iload_n (pc := 137) C 86 rfl 2 rfl rfl ?_
      refine J_bipush (pc := 138) (v := (6 : Int32)) C 87 rfl rfl ?_
      refine J_irem (pc := 140) C 88 rfl (by decide) ?_
      refine J_iconst (pc := 141) (v := (0 : Int32)) C 89 rfl rfl ?_
      obtain ⟨q5, hq5, h⟩ := bnd h
      refine J_callV (pc := 142) (st2 := [.int (30 : Int32), .int q4]) (st3 := [.int q5, .int (30 : Int32), .int q4]) (ws2 := (wEx aX (aT 0) (aT2 0) (aS 0) (aS2 0) (aP 0) (aH 0) aB aU ++ (wSeat G aT (aS 0) (vT 1) (vT 2) (vT 3) (vT 4 0) (vT 5 0) (vT 6) (vT 7) (vT 8) ++ (wSch G aS (vS 0) (vS 1) (vS 2) (vS 3) (vS 4) (vS 5) (vS 6) (vS 7) (vS 8 0) (vS 9 0) ++ (wPad G aP (vP 0) (vP 1 0) (vP 2) (vP 3) (vP 4) (vP 5 0) (vP 6 0) (vP 7 0) (vP 8 0) (vP 9 0) ++ (wHis G aH hA hV (hZ 1 0))))))) C 90 rfl (c_X4_paperOf aX aT aS aT2 aS2 aP aH aB aU vT vS (x1_114 - x1_114 / (6 : Int32) * (6 : Int32)) (0 : Int32) hq5) V_X4_paperOf k353 i_X4_paperOf s_X4_paperOf rfl rfl ⟨Nat.le_of_ble_eq_true rfl, Nat.le_of_ble_eq_true rfl⟩ (Nat.le_of_ble_eq_true rfl) ⟨Nat.le_refl _, Nat.le_refl _⟩ 0 4 rfl rfl rfl (isC := [0, 1, 2, 3, 4, 5, 6, 7, 8, 9, 10, 11, 12, 13, 14, 15, 16]) (isR := [17, 18, 19, 20, 21, 22, 23, 24, 25, 26, 27, 28, 29, 30, 31, 32, 33, 34, 35, 36, 37, 38, 39, 40, 41, 42, 43, 44, 45, 46, 47, 48, 49, 50, 51, 52, 53, 54, 55, 56, 57, 58, 59, 60, 61, 62, 63, 64, 65, 66, 67, 68, 69, 70, 71, 72, 73, 74, 75, 76, 77]) (N := 78) ⟨rfl, by decide +kernel, rfl, by decide +kernel, rfl, ⟨⟨_, rfl, rfl⟩, ⟨⟨_, rfl, rfl⟩, ⟨⟨_, rfl, rfl⟩, ⟨⟨_, rfl, rfl⟩, ⟨⟨_, rfl, rfl⟩, ⟨⟨_, rfl, rfl⟩, ⟨⟨_, rfl, rfl⟩, ⟨⟨_, rfl, rfl⟩, ⟨⟨_, rfl, rfl⟩, ⟨⟨_, rfl, rfl⟩, ⟨⟨_, rfl, rfl⟩, ⟨⟨_, rfl, rfl⟩, ⟨⟨_, rfl, rfl⟩, ⟨⟨_, rfl, rfl⟩, ⟨⟨_, rfl, rfl⟩, ⟨⟨_, rfl, rfl⟩, ⟨⟨_, rfl, rfl⟩, ⟨⟨_, rfl, rfl⟩, ⟨⟨_, rfl, rfl⟩, ⟨⟨_, rfl, rfl⟩, ⟨⟨_, rfl, rfl⟩, ⟨⟨_, rfl, rfl⟩, ⟨⟨_, rfl, rfl⟩, ⟨⟨_, rfl, rfl⟩, ⟨⟨_, rfl, rfl⟩, ⟨⟨_, rfl, rfl⟩, ⟨⟨_, rfl, rfl⟩, ⟨⟨_, rfl, rfl⟩, ⟨⟨_, rfl, rfl⟩, ⟨⟨_, rfl, rfl⟩, ⟨⟨_, rfl, rfl⟩, ⟨⟨_, rfl, rfl⟩, ⟨⟨_, rfl, rfl⟩, ⟨⟨_, rfl, rfl⟩, ⟨⟨_, rfl, rfl⟩, ⟨⟨_, rfl, rfl⟩, ⟨⟨_, rfl, rfl⟩, ⟨⟨_, rfl, rfl⟩, ⟨⟨_, rfl, rfl⟩, ⟨⟨_, rfl, rfl⟩, ⟨⟨_, rfl, rfl⟩, ⟨⟨_, rfl, rfl⟩, ⟨⟨_, rfl, rfl⟩, ⟨⟨_, rfl, rfl⟩, ⟨⟨_, rfl, rfl⟩, ⟨⟨_, rfl, rfl⟩, ⟨⟨_, rfl, rfl⟩, ⟨⟨_, rfl, rfl⟩, ⟨⟨_, rfl, rfl⟩, ⟨⟨_, rfl, rfl⟩, ⟨⟨_, rfl, rfl⟩, ⟨⟨_, rfl, rfl⟩, ⟨⟨_, rfl, rfl⟩, ⟨⟨_, rfl, rfl⟩, ⟨⟨_, rfl, rfl⟩, ⟨⟨_, rfl, rfl⟩, ⟨⟨_, rfl, rfl⟩, ⟨⟨_, rfl, rfl⟩, ⟨⟨_, rfl, rfl⟩, ⟨⟨_, rfl, rfl⟩, ⟨⟨_, rfl, rfl⟩, trivial⟩⟩⟩⟩⟩⟩⟩⟩⟩⟩⟩⟩⟩⟩⟩⟩⟩⟩⟩⟩⟩⟩⟩⟩⟩⟩⟩⟩⟩⟩⟩⟩⟩⟩⟩⟩⟩⟩⟩⟩⟩⟩⟩⟩⟩⟩⟩⟩⟩⟩⟩⟩⟩⟩⟩⟩⟩⟩⟩⟩⟩⟩ rfl ?_
      refine J_imul (pc := 145) C 91 rfl  ?_
      refine J_icmp_ne (pc := 146) (tgt := 237) C 92 rfl rfl (fun c6 => ?_) (fun c6 => ?_)
      · rw [if_neg c6] at h
        refine J_iconst (pc := 237) (v := (0 : Int32)) C 143 rfl rfl ?_
        cases h
        exact J_zret (pc := 238) C 144 rfl rfl
      · rw [if_pos c6] at h
        refine J_iload_n (pc := 149) C 93 rfl 3 rfl rfl ?_
        refine J_if_lt (pc := 150) (tgt := 174) C 94 rfl rfl (fun c7 => ?_) (fun c7 => ?_)
        · rw [if_pos c7] at h
          exact J_sub [1, 2, 3] rfl (B174 x1_114 x2_114 h)
        · rw [if_neg c7] at h
          refine J_iload_n (pc := 153) C 95 rfl 4 rfl rfl ?_
          refine J_aload_n (pc := 154) C 96 rfl 1 rfl rfl ?_
          refine J_iload_n (pc := 155) C 97 rfl 2 rfl rfl ?_
          refine J_bipush (pc := 156) (v := (6 : Int32)) C 98 rfl rfl ?_
          refine J_idiv (pc := 158) C 99 rfl (by decide) ?_
          refine J_iconst (pc := 159) (v := (2 : Int32)) C 100 rfl rfl ?_
          obtain ⟨q15, hq15, h⟩ := bnd h
          refine J_callV (pc := 160) (st2 := [.int x3_114]) (st3 := [.int q15, .int x3_114]) (ws2 := (wEx aX (aT 0) (aT2 0) (aS 0) (aS2 0) (aP 0) (aH 0) aB aU ++ (wSeat G aT (aS 0) (vT 1) (vT 2) (vT 3) (vT 4 0) (vT 5 0) (vT 6) (vT 7) (vT 8) ++ (wSch G aS (vS 0) (vS 1) (vS 2) (vS 3) (vS 4) (vS 5) (vS 6) (vS 7) (vS 8 0) (vS 9 0) ++ (wPad G aP (vP 0) (vP 1 0) (vP 2) (vP 3) (vP 4) (vP 5 0) (vP 6 0) (vP 7 0) (vP 8 0) (vP 9 0) ++ (wHis G aH hA hV (hZ 1 0))))))) C 101 rfl (c_X4_pupilOf aX aT aS aT2 aS2 aP aH aB aU vT vS (x1_114 / (6 : Int32)) (2 : Int32) hq15) V_X4_pupilOf k359 i_X4_pupilOf s_X4_pupilOf rfl rfl ⟨Nat.le_of_ble_eq_true rfl, Nat.le_of_ble_eq_true rfl⟩ (Nat.le_of_ble_eq_true rfl) ⟨Nat.le_refl _, Nat.le_refl _⟩ 0 4 rfl rfl rfl (isC := [0, 1, 2, 3, 4, 5, 6, 7, 8, 9, 10, 11, 12, 13, 14, 15, 16]) (isR := [17, 18, 19, 20, 21, 22, 23, 24, 25, 26, 27, 28, 29, 30, 31, 32, 33, 34, 35, 36, 37, 38, 39, 40, 41, 42, 43, 44, 45, 46, 47, 48, 49, 50, 51, 52, 53, 54, 55, 56, 57, 58, 59, 60, 61, 62, 63, 64, 65, 66, 67, 68, 69, 70, 71, 72, 73, 74, 75, 76, 77]) (N := 78) ⟨rfl, by decide +kernel, rfl, by decide +kernel, rfl, ⟨⟨_, rfl, rfl⟩, ⟨⟨_, rfl, rfl⟩, ⟨⟨_, rfl, rfl⟩, ⟨⟨_, rfl, rfl⟩, ⟨⟨_, rfl, rfl⟩, ⟨⟨_, rfl, rfl⟩, ⟨⟨_, rfl, rfl⟩, ⟨⟨_, rfl, rfl⟩, ⟨⟨_, rfl, rfl⟩, ⟨⟨_, rfl, rfl⟩, ⟨⟨_, rfl, rfl⟩, ⟨⟨_, rfl, rfl⟩, ⟨⟨_, rfl, rfl⟩, ⟨⟨_, rfl, rfl⟩, ⟨⟨_, rfl, rfl⟩, ⟨⟨_, rfl, rfl⟩, ⟨⟨_, rfl, rfl⟩, ⟨⟨_, rfl, rfl⟩, ⟨⟨_, rfl, rfl⟩, ⟨⟨_, rfl, rfl⟩, ⟨⟨_, rfl, rfl⟩, ⟨⟨_, rfl, rfl⟩, ⟨⟨_, rfl, rfl⟩, ⟨⟨_, rfl, rfl⟩, ⟨⟨_, rfl, rfl⟩, ⟨⟨_, rfl, rfl⟩, ⟨⟨_, rfl, rfl⟩, ⟨⟨_, rfl, rfl⟩, ⟨⟨_, rfl, rfl⟩, ⟨⟨_, rfl, rfl⟩, ⟨⟨_, rfl, rfl⟩, ⟨⟨_, rfl, rfl⟩, ⟨⟨_, rfl, rfl⟩, ⟨⟨_, rfl, rfl⟩, ⟨⟨_, rfl, rfl⟩, ⟨⟨_, rfl, rfl⟩, ⟨⟨_, rfl, rfl⟩, ⟨⟨_, rfl, rfl⟩, ⟨⟨_, rfl, rfl⟩, ⟨⟨_, rfl, rfl⟩, ⟨⟨_, rfl, rfl⟩, ⟨⟨_, rfl, rfl⟩, ⟨⟨_, rfl, rfl⟩, ⟨⟨_, rfl, rfl⟩, ⟨⟨_, rfl, rfl⟩, ⟨⟨_, rfl, rfl⟩, ⟨⟨_, rfl, rfl⟩, ⟨⟨_, rfl, rfl⟩, ⟨⟨_, rfl, rfl⟩, ⟨⟨_, rfl, rfl⟩, ⟨⟨_, rfl, rfl⟩, ⟨⟨_, rfl, rfl⟩, ⟨⟨_, rfl, rfl⟩, ⟨⟨_, rfl, rfl⟩, ⟨⟨_, rfl, rfl⟩, ⟨⟨_, rfl, rfl⟩, ⟨⟨_, rfl, rfl⟩, ⟨⟨_, rfl, rfl⟩, ⟨⟨_, rfl, rfl⟩, ⟨⟨_, rfl, rfl⟩, ⟨⟨_, rfl, rfl⟩, trivial⟩⟩⟩⟩⟩⟩⟩⟩⟩⟩⟩⟩⟩⟩⟩⟩⟩⟩⟩⟩⟩⟩⟩⟩⟩⟩⟩⟩⟩⟩⟩⟩⟩⟩⟩⟩⟩⟩⟩⟩⟩⟩⟩⟩⟩⟩⟩⟩⟩⟩⟩⟩⟩⟩⟩⟩⟩⟩⟩⟩⟩⟩ rfl ?_
          refine J_if_ne (pc := 163) (tgt := 170) C 102 rfl rfl (fun c16 => ?_) (fun c16 => ?_)
          · rw [if_neg c16] at h
            refine J_iconst (pc := 170) (v := (0 : Int32)) C 105 rfl rfl ?_
            exact J_sub [1, 2, 3] rfl (B171 x1_114 x2_114 (0 : Int32) x3_114 h)
          · rw [if_pos c16] at h
            refine J_iconst (pc := 166) (v := (1 : Int32)) C 103 rfl rfl ?_
            refine J_goto (pc := 167) (tgt := 171) C 104 rfl rfl ?_
            exact J_sub [1, 2, 3] rfl (B171 x1_114 x2_114 (1 : Int32) x3_114 h)
  have B109 : ∀ (x1_109 : Int32) (x2_109 : Int32) (x3_109 : Int32), f_L_isSitting_K109 vT vS vP hA hV hZ x1_109 x2_109 x3_109 = some Rz → J l { frames := 7, cells := 0, slots := 0, locals := 158 } G 5 X (QM X G 0 0 (some (.int Rz)) (wEx aX (aT 0) (aT2 0) (aS 0) (aS2 0) (aP 0) (aH 0) aB aU ++ (wSeat G aT (aS 0) (vT 1) (vT 2) (vT 3) (vT 4 0) (vT 5 0) (vT 6) (vT 7) (vT 8) ++ (wSch G aS (vS 0) (vS 1) (vS 2) (vS 3) (vS 4) (vS 5) (vS 6) (vS 7) (vS 8 0) (vS 9 0) ++ (wPad G aP (vP 0) (vP 1 0) (vP 2) (vP 3) (vP 4) (vP 5 0) (vP 6 0) (vP 7 0) (vP 8 0) (vP 9 0) ++ (wHis G aH hA hV (hZ 1 0))))))) 0 0 109 [(0, .ref aX), (1, .int x1_109), (2, .int x2_109), (3, .int x3_109)] [] (wEx aX (aT 0) (aT2 0) (aS 0) (aS2 0) (aP 0) (aH 0) aB aU ++ (wSeat G aT (aS 0) (vT 1) (vT 2) (vT 3) (vT 4 0) (vT 5 0) (vT 6) (vT 7) (vT 8) ++ (wSch G aS (vS 0) (vS 1) (vS 2) (vS 3) (vS 4) (vS 5) (vS 6) (vS 7) (vS 8 0) (vS 9 0) ++ (wPad G aP (vP 0) (vP 1 0) (vP 2) (vP 3) (vP 4) (vP 5 0) (vP 6 0) (vP 7 0) (vP 8 0) (vP 9 0) ++ (wHis G aH hA hV (hZ 1 0)))))) := by
    intro x1_109 x2_109 x3_109 h
    unfold f_L_isSitting_K109 at h
    refine J_iconst (pc := 109) (v := (1 : Int32)) C 69 rfl rfl ?_
    refine J_goto (pc := 110) (tgt := 114) C 70 rfl rfl ?_
    exact J_sub [0, 1, 2, 3] rfl (B114 x1_109 x2_109 x3_109 (1 : Int32) h)
  have B113 : ∀ (x1_113 : Int32) (x2_113 : Int32) (x3_113 : Int32), f_L_isSitting_K113 vT vS vP hA hV hZ x1_113 x2_113 x3_113 = some Rz → J l { frames := 7, cells := 0, slots := 0, locals := 158 } G 5 X (QM X G 0 0 (some (.int Rz)) (wEx aX (aT 0) (aT2 0) (aS 0) (aS2 0) (aP 0) (aH 0) aB aU ++ (wSeat G aT (aS 0) (vT 1) (vT 2) (vT 3) (vT 4 0) (vT 5 0) (vT 6) (vT 7) (vT 8) ++ (wSch G aS (vS 0) (vS 1) (vS 2) (vS 3) (vS 4) (vS 5) (vS 6) (vS 7) (vS 8 0) (vS 9 0) ++ (wPad G aP (vP 0) (vP 1 0) (vP 2) (vP 3) (vP 4) (vP 5 0) (vP 6 0) (vP 7 0) (vP 8 0) (vP 9 0) ++ (wHis G aH hA hV (hZ 1 0))))))) 0 0 113 [(0, .ref aX), (1, .int x1_113), (2, .int x2_113), (3, .int x3_113)] [] (wEx aX (aT 0) (aT2 0) (aS 0) (aS2 0) (aP 0) (aH 0) aB aU ++ (wSeat G aT (aS 0) (vT 1) (vT 2) (vT 3) (vT 4 0) (vT 5 0) (vT 6) (vT 7) (vT 8) ++ (wSch G aS (vS 0) (vS 1) (vS 2) (vS 3) (vS 4) (vS 5) (vS 6) (vS 7) (vS 8 0) (vS 9 0) ++ (wPad G aP (vP 0) (vP 1 0) (vP 2) (vP 3) (vP 4) (vP 5 0) (vP 6 0) (vP 7 0) (vP 8 0) (vP 9 0) ++ (wHis G aH hA hV (hZ 1 0)))))) := by
    intro x1_113 x2_113 x3_113 h
    unfold f_L_isSitting_K113 at h
    refine J_iconst (pc := 113) (v := (0 : Int32)) C 71 rfl rfl ?_
    exact J_sub [0, 1, 2, 3] rfl (B114 x1_113 x2_113 x3_113 (0 : Int32) h)
  have B16 : ∀ (x1_16 : Int32) (x2_16 : Int32) (y0_16 : Int32), f_L_isSitting_K16 vT vS vP hA hV hZ x1_16 x2_16 y0_16 = some Rz → J l { frames := 7, cells := 0, slots := 0, locals := 158 } G 5 X (QM X G 0 0 (some (.int Rz)) (wEx aX (aT 0) (aT2 0) (aS 0) (aS2 0) (aP 0) (aH 0) aB aU ++ (wSeat G aT (aS 0) (vT 1) (vT 2) (vT 3) (vT 4 0) (vT 5 0) (vT 6) (vT 7) (vT 8) ++ (wSch G aS (vS 0) (vS 1) (vS 2) (vS 3) (vS 4) (vS 5) (vS 6) (vS 7) (vS 8 0) (vS 9 0) ++ (wPad G aP (vP 0) (vP 1 0) (vP 2) (vP 3) (vP 4) (vP 5 0) (vP 6 0) (vP 7 0) (vP 8 0) (vP 9 0) ++ (wHis G aH hA hV (hZ 1 0))))))) 0 0 16 [(0, .ref aX), (1, .int x1_16), (2, .int x2_16)] [.int y0_16] (wEx aX (aT 0) (aT2 0) (aS 0) (aS2 0) (aP 0) (aH 0) aB aU ++ (wSeat G aT (aS 0) (vT 1) (vT 2) (vT 3) (vT 4 0) (vT 5 0) (vT 6) (vT 7) (vT 8) ++ (wSch G aS (vS 0) (vS 1) (vS 2) (vS 3) (vS 4) (vS 5) (vS 6) (vS 7) (vS 8 0) (vS 9 0) ++ (wPad G aP (vP 0) (vP 1 0) (vP 2) (vP 3) (vP 4) (vP 5 0) (vP 6 0) (vP 7 0) (vP 8 0) (vP 9 0) ++ (wHis G aH hA hV (hZ 1 0)))))) := by
    intro x1_16 x2_16 y0_16 h
    unfold f_L_isSitting_K16 at h
    refine J_istore_n (pc := 16) (lv' := [(3, .int y0_16), (0, .ref aX), (1, .int x1_16), (2, .int x2_16)]) C 8 rfl rfl (by decide) rfl ?_
    refine J_iload_n (pc := 17) C 9 rfl 0 rfl rfl ?_
    refine J_if_eq (pc := 18) (tgt := 109) C 10 rfl rfl (fun c2 => ?_) (fun c2 => ?_)
    · rw [if_pos c2] at h
      exact J_sub [1, 2, 3, 0] rfl (B109 x1_16 x2_16 y0_16 h)
    · rw [if_neg c2] at h
      refine J_aload_n (pc := 21) C 11 rfl 1 rfl rfl ?_
      refine J_iload_n (pc := 22) C 12 rfl 3 rfl rfl ?_
      refine J_bipush (pc := 23) (v := (64 : Int32)) C 13 rfl rfl ?_
      refine J_idiv (pc := 25) C 14 rfl (by decide) ?_
      refine J_iconst (pc := 26) (v := (2 : Int32)) C 15 rfl rfl ?_
      obtain ⟨q18, hq18, h⟩ := bnd h
      refine J_callV (pc := 27) (st2 := []) (st3 := [.int q18]) (ws2 := (wEx aX (aT 0) (aT2 0) (aS 0) (aS2 0) (aP 0) (aH 0) aB aU ++ (wSeat G aT (aS 0) (vT 1) (vT 2) (vT 3) (vT 4 0) (vT 5 0) (vT 6) (vT 7) (vT 8) ++ (wSch G aS (vS 0) (vS 1) (vS 2) (vS 3) (vS 4) (vS 5) (vS 6) (vS 7) (vS 8 0) (vS 9 0) ++ (wPad G aP (vP 0) (vP 1 0) (vP 2) (vP 3) (vP 4) (vP 5 0) (vP 6 0) (vP 7 0) (vP 8 0) (vP 9 0) ++ (wHis G aH hA hV (hZ 1 0))))))) C 16 rfl (c_X4_hallOf aX aT aS aT2 aS2 aP aH aB aU vT vS (x2_16 / (64 : Int32)) (2 : Int32) hq18) V_X4_hallOf k350 i_X4_hallOf s_X4_hallOf rfl rfl ⟨Nat.le_of_ble_eq_true rfl, Nat.le_of_ble_eq_true rfl⟩ (Nat.le_of_ble_eq_true rfl) ⟨Nat.le_refl _, Nat.le_refl _⟩ 0 4 rfl rfl rfl (isC := [0, 1, 2, 3, 4, 5, 6, 7, 8, 9, 10, 11, 12, 13, 14, 15, 16]) (isR := [17, 18, 19, 20, 21, 22, 23, 24, 25, 26, 27, 28, 29, 30, 31, 32, 33, 34, 35, 36, 37, 38, 39, 40, 41, 42, 43, 44, 45, 46, 47, 48, 49, 50, 51, 52, 53, 54, 55, 56, 57, 58, 59, 60, 61, 62, 63, 64, 65, 66, 67, 68, 69, 70, 71, 72, 73, 74, 75, 76, 77]) (N := 78) ⟨rfl, by decide +kernel, rfl, by decide +kernel, rfl, ⟨⟨_, rfl, rfl⟩, ⟨⟨_, rfl, rfl⟩, ⟨⟨_, rfl, rfl⟩, ⟨⟨_, rfl, rfl⟩, ⟨⟨_, rfl, rfl⟩, ⟨⟨_, rfl, rfl⟩, ⟨⟨_, rfl, rfl⟩, ⟨⟨_, rfl, rfl⟩, ⟨⟨_, rfl, rfl⟩, ⟨⟨_, rfl, rfl⟩, ⟨⟨_, rfl, rfl⟩, ⟨⟨_, rfl, rfl⟩, ⟨⟨_, rfl, rfl⟩, ⟨⟨_, rfl, rfl⟩, ⟨⟨_, rfl, rfl⟩, ⟨⟨_, rfl, rfl⟩, ⟨⟨_, rfl, rfl⟩, ⟨⟨_, rfl, rfl⟩, ⟨⟨_, rfl, rfl⟩, ⟨⟨_, rfl, rfl⟩, ⟨⟨_, rfl, rfl⟩, ⟨⟨_, rfl, rfl⟩, ⟨⟨_, rfl, rfl⟩, ⟨⟨_, rfl, rfl⟩, ⟨⟨_, rfl, rfl⟩, ⟨⟨_, rfl, rfl⟩, ⟨⟨_, rfl, rfl⟩, ⟨⟨_, rfl, rfl⟩, ⟨⟨_, rfl, rfl⟩, ⟨⟨_, rfl, rfl⟩, ⟨⟨_, rfl, rfl⟩, ⟨⟨_, rfl, rfl⟩, ⟨⟨_, rfl, rfl⟩, ⟨⟨_, rfl, rfl⟩, ⟨⟨_, rfl, rfl⟩, ⟨⟨_, rfl, rfl⟩, ⟨⟨_, rfl, rfl⟩, ⟨⟨_, rfl, rfl⟩, ⟨⟨_, rfl, rfl⟩, ⟨⟨_, rfl, rfl⟩, ⟨⟨_, rfl, rfl⟩, ⟨⟨_, rfl, rfl⟩, ⟨⟨_, rfl, rfl⟩, ⟨⟨_, rfl, rfl⟩, ⟨⟨_, rfl, rfl⟩, ⟨⟨_, rfl, rfl⟩, ⟨⟨_, rfl, rfl⟩, ⟨⟨_, rfl, rfl⟩, ⟨⟨_, rfl, rfl⟩, ⟨⟨_, rfl, rfl⟩, ⟨⟨_, rfl, rfl⟩, ⟨⟨_, rfl, rfl⟩, ⟨⟨_, rfl, rfl⟩, ⟨⟨_, rfl, rfl⟩, ⟨⟨_, rfl, rfl⟩, ⟨⟨_, rfl, rfl⟩, ⟨⟨_, rfl, rfl⟩, ⟨⟨_, rfl, rfl⟩, ⟨⟨_, rfl, rfl⟩, ⟨⟨_, rfl, rfl⟩, ⟨⟨_, rfl, rfl⟩, trivial⟩⟩⟩⟩⟩⟩⟩⟩⟩⟩⟩⟩⟩⟩⟩⟩⟩⟩⟩⟩⟩⟩⟩⟩⟩⟩⟩⟩⟩⟩⟩⟩⟩⟩⟩⟩⟩⟩⟩⟩⟩⟩⟩⟩⟩⟩⟩⟩⟩⟩⟩⟩⟩⟩⟩⟩⟩⟩⟩⟩⟩⟩ rfl ?_
      refine J_iconst (pc := 30) (v := (1 : Int32)) C 17 rfl rfl ?_
      refine J_icmp_ne (pc := 31) (tgt := 113) C 18 rfl rfl (fun c19 => ?_) (fun c19 => ?_)
      · rw [if_neg c19] at h
        exact J_sub [1, 2, 3, 0] rfl (B113 x1_16 x2_16 y0_16 h)
      · rw [if_pos c19] at h
        refine J_iload_n (pc := 34) C 19 rfl 3 rfl rfl ?_
        refine J_bipush (pc := 35) (v := (64 : Int32)) C 20 rfl rfl ?_
        refine J_irem (pc := 37) C 21 rfl (by decide) ?_
        refine J_aload_n (pc := 38) C 22 rfl 1 rfl rfl ?_
        refine J_iload_n (pc := 39) C 23 rfl 3 rfl rfl ?_
        refine J_bipush (pc := 40) (v := (64 : Int32)) C 24 rfl rfl ?_
        refine J_idiv (pc := 42) C 25 rfl (by decide) ?_
        refine J_iconst (pc := 43) (v := (0 : Int32)) C 26 rfl rfl ?_
        obtain ⟨q20, hq20, h⟩ := bnd h
        refine J_callV (pc := 44) (st2 := [.int (x2_16 - x2_16 / (64 : Int32) * (64 : Int32))]) (st3 := [.int q20, .int (x2_16 - x2_16 / (64 : Int32) * (64 : Int32))]) (ws2 := (wEx aX (aT 0) (aT2 0) (aS 0) (aS2 0) (aP 0) (aH 0) aB aU ++ (wSeat G aT (aS 0) (vT 1) (vT 2) (vT 3) (vT 4 0) (vT 5 0) (vT 6) (vT 7) (vT 8) ++ (wSch G aS (vS 0) (vS 1) (vS 2) (vS 3) (vS 4) (vS 5) (vS 6) (vS 7) (vS 8 0) (vS 9 0) ++ (wPad G aP (vP 0) (vP 1 0) (vP 2) (vP 3) (vP 4) (vP 5 0) (vP 6 0) (vP 7 0) (vP 8 0) (vP 9 0) ++ (wHis G aH hA hV (hZ 1 0))))))) C 27 rfl (c_X4_hallOf aX aT aS aT2 aS2 aP aH aB aU vT vS (x2_16 / (64 : Int32)) (0 : Int32) hq20) V_X4_hallOf k350 i_X4_hallOf s_X4_hallOf rfl rfl ⟨Nat.le_of_ble_eq_true rfl, Nat.le_of_ble_eq_true rfl⟩ (Nat.le_of_ble_eq_true rfl) ⟨Nat.le_refl _, Nat.le_refl _⟩ 0 4 rfl rfl rfl (isC := [0, 1, 2, 3, 4, 5, 6, 7, 8, 9, 10, 11, 12, 13, 14, 15, 16]) (isR := [17, 18, 19, 20, 21, 22, 23, 24, 25, 26, 27, 28, 29, 30, 31, 32, 33, 34, 35, 36, 37, 38, 39, 40, 41, 42, 43, 44, 45, 46, 47, 48, 49, 50, 51, 52, 53, 54, 55, 56, 57, 58, 59, 60, 61, 62, 63, 64, 65, 66, 67, 68, 69, 70, 71, 72, 73, 74, 75, 76, 77]) (N := 78) ⟨rfl, by decide +kernel, rfl, by decide +kernel, rfl, ⟨⟨_, rfl, rfl⟩, ⟨⟨_, rfl, rfl⟩, ⟨⟨_, rfl, rfl⟩, ⟨⟨_, rfl, rfl⟩, ⟨⟨_, rfl, rfl⟩, ⟨⟨_, rfl, rfl⟩, ⟨⟨_, rfl, rfl⟩, ⟨⟨_, rfl, rfl⟩, ⟨⟨_, rfl, rfl⟩, ⟨⟨_, rfl, rfl⟩, ⟨⟨_, rfl, rfl⟩, ⟨⟨_, rfl, rfl⟩, ⟨⟨_, rfl, rfl⟩, ⟨⟨_, rfl, rfl⟩, ⟨⟨_, rfl, rfl⟩, ⟨⟨_, rfl, rfl⟩, ⟨⟨_, rfl, rfl⟩, ⟨⟨_, rfl, rfl⟩, ⟨⟨_, rfl, rfl⟩, ⟨⟨_, rfl, rfl⟩, ⟨⟨_, rfl, rfl⟩, ⟨⟨_, rfl, rfl⟩, ⟨⟨_, rfl, rfl⟩, ⟨⟨_, rfl, rfl⟩, ⟨⟨_, rfl, rfl⟩, ⟨⟨_, rfl, rfl⟩, ⟨⟨_, rfl, rfl⟩, ⟨⟨_, rfl, rfl⟩, ⟨⟨_, rfl, rfl⟩, ⟨⟨_, rfl, rfl⟩, ⟨⟨_, rfl, rfl⟩, ⟨⟨_, rfl, rfl⟩, ⟨⟨_, rfl, rfl⟩, ⟨⟨_, rfl, rfl⟩, ⟨⟨_, rfl, rfl⟩, ⟨⟨_, rfl, rfl⟩, ⟨⟨_, rfl, rfl⟩, ⟨⟨_, rfl, rfl⟩, ⟨⟨_, rfl, rfl⟩, ⟨⟨_, rfl, rfl⟩, ⟨⟨_, rfl, rfl⟩, ⟨⟨_, rfl, rfl⟩, ⟨⟨_, rfl, rfl⟩, ⟨⟨_, rfl, rfl⟩, ⟨⟨_, rfl, rfl⟩, ⟨⟨_, rfl, rfl⟩, ⟨⟨_, rfl, rfl⟩, ⟨⟨_, rfl, rfl⟩, ⟨⟨_, rfl, rfl⟩, ⟨⟨_, rfl, rfl⟩, ⟨⟨_, rfl, rfl⟩, ⟨⟨_, rfl, rfl⟩, ⟨⟨_, rfl, rfl⟩, ⟨⟨_, rfl, rfl⟩, ⟨⟨_, rfl, rfl⟩, ⟨⟨_, rfl, rfl⟩, ⟨⟨_, rfl, rfl⟩, ⟨⟨_, rfl, rfl⟩, ⟨⟨_, rfl, rfl⟩, ⟨⟨_, rfl, rfl⟩, ⟨⟨_, rfl, rfl⟩, trivial⟩⟩⟩⟩⟩⟩⟩⟩⟩⟩⟩⟩⟩⟩⟩⟩⟩⟩⟩⟩⟩⟩⟩⟩⟩⟩⟩⟩⟩⟩⟩⟩⟩⟩⟩⟩⟩⟩⟩⟩⟩⟩⟩⟩⟩⟩⟩⟩⟩⟩⟩⟩⟩⟩⟩⟩⟩⟩⟩⟩⟩⟩ rfl ?_
        refine J_aload_n (pc := 47) C 28 rfl 1 rfl rfl ?_
        refine J_iload_n (pc := 48) C 29 rfl 3 rfl rfl ?_
        refine J_bipush (pc := 49) (v := (64 : Int32)) C 30 rfl rfl ?_
        refine J_idiv (pc := 51) C 31 rfl (by decide) ?_
        refine J_iconst (pc := 52) (v := (1 : Int32)) C 32 rfl rfl ?_
        obtain ⟨q21, hq21, h⟩ := bnd h
        refine J_callV (pc := 53) (st2 := [.int q20, .int (x2_16 - x2_16 / (64 : Int32) * (64 : Int32))]) (st3 := [.int q21, .int q20, .int (x2_16 - x2_16 / (64 : Int32) * (64 : Int32))]) (ws2 := (wEx aX (aT 0) (aT2 0) (aS 0) (aS2 0) (aP 0) (aH 0) aB aU ++ (wSeat G aT (aS 0) (vT 1) (vT 2) (vT 3) (vT 4 0) (vT 5 0) (vT 6) (vT 7) (vT 8) ++ (wSch G aS (vS 0) (vS 1) (vS 2) (vS 3) (vS 4) (vS 5) (vS 6) (vS 7) (vS 8 0) (vS 9 0) ++ (wPad G aP (vP 0) (vP 1 0) (vP 2) (vP 3) (vP 4) (vP 5 0) (vP 6 0) (vP 7 0) (vP 8 0) (vP 9 0) ++ (wHis G aH hA hV (hZ 1 0))))))) C 33 rfl (c_X4_hallOf aX aT aS aT2 aS2 aP aH aB aU vT vS (x2_16 / (64 : Int32)) (1 : Int32) hq21) V_X4_hallOf k350 i_X4_hallOf s_X4_hallOf rfl rfl ⟨Nat.le_of_ble_eq_true rfl, Nat.le_of_ble_eq_true rfl⟩ (Nat.le_of_ble_eq_true rfl) ⟨Nat.le_refl _, Nat.le_refl _⟩ 0 4 rfl rfl rfl (isC := [0, 1, 2, 3, 4, 5, 6, 7, 8, 9, 10, 11, 12, 13, 14, 15, 16]) (isR := [17, 18, 19, 20, 21, 22, 23, 24, 25, 26, 27, 28, 29, 30, 31, 32, 33, 34, 35, 36, 37, 38, 39, 40, 41, 42, 43, 44, 45, 46, 47, 48, 49, 50, 51, 52, 53, 54, 55, 56, 57, 58, 59, 60, 61, 62, 63, 64, 65, 66, 67, 68, 69, 70, 71, 72, 73, 74, 75, 76, 77]) (N := 78) ⟨rfl, by decide +kernel, rfl, by decide +kernel, rfl, ⟨⟨_, rfl, rfl⟩, ⟨⟨_, rfl, rfl⟩, ⟨⟨_, rfl, rfl⟩, ⟨⟨_, rfl, rfl⟩, ⟨⟨_, rfl, rfl⟩, ⟨⟨_, rfl, rfl⟩, ⟨⟨_, rfl, rfl⟩, ⟨⟨_, rfl, rfl⟩, ⟨⟨_, rfl, rfl⟩, ⟨⟨_, rfl, rfl⟩, ⟨⟨_, rfl, rfl⟩, ⟨⟨_, rfl, rfl⟩, ⟨⟨_, rfl, rfl⟩, ⟨⟨_, rfl, rfl⟩, ⟨⟨_, rfl, rfl⟩, ⟨⟨_, rfl, rfl⟩, ⟨⟨_, rfl, rfl⟩, ⟨⟨_, rfl, rfl⟩, ⟨⟨_, rfl, rfl⟩, ⟨⟨_, rfl, rfl⟩, ⟨⟨_, rfl, rfl⟩, ⟨⟨_, rfl, rfl⟩, ⟨⟨_, rfl, rfl⟩, ⟨⟨_, rfl, rfl⟩, ⟨⟨_, rfl, rfl⟩, ⟨⟨_, rfl, rfl⟩, ⟨⟨_, rfl, rfl⟩, ⟨⟨_, rfl, rfl⟩, ⟨⟨_, rfl, rfl⟩, ⟨⟨_, rfl, rfl⟩, ⟨⟨_, rfl, rfl⟩, ⟨⟨_, rfl, rfl⟩, ⟨⟨_, rfl, rfl⟩, ⟨⟨_, rfl, rfl⟩, ⟨⟨_, rfl, rfl⟩, ⟨⟨_, rfl, rfl⟩, ⟨⟨_, rfl, rfl⟩, ⟨⟨_, rfl, rfl⟩, ⟨⟨_, rfl, rfl⟩, ⟨⟨_, rfl, rfl⟩, ⟨⟨_, rfl, rfl⟩, ⟨⟨_, rfl, rfl⟩, ⟨⟨_, rfl, rfl⟩, ⟨⟨_, rfl, rfl⟩, ⟨⟨_, rfl, rfl⟩, ⟨⟨_, rfl, rfl⟩, ⟨⟨_, rfl, rfl⟩, ⟨⟨_, rfl, rfl⟩, ⟨⟨_, rfl, rfl⟩, ⟨⟨_, rfl, rfl⟩, ⟨⟨_, rfl, rfl⟩, ⟨⟨_, rfl, rfl⟩, ⟨⟨_, rfl, rfl⟩, ⟨⟨_, rfl, rfl⟩, ⟨⟨_, rfl, rfl⟩, ⟨⟨_, rfl, rfl⟩, ⟨⟨_, rfl, rfl⟩, ⟨⟨_, rfl, rfl⟩, ⟨⟨_, rfl, rfl⟩, ⟨⟨_, rfl, rfl⟩, ⟨⟨_, rfl, rfl⟩, trivial⟩⟩⟩⟩⟩⟩⟩⟩⟩⟩⟩⟩⟩⟩⟩⟩⟩⟩⟩⟩⟩⟩⟩⟩⟩⟩⟩⟩⟩⟩⟩⟩⟩⟩⟩⟩⟩⟩⟩⟩⟩⟩⟩⟩⟩⟩⟩⟩⟩⟩⟩⟩⟩⟩⟩⟩⟩⟩⟩⟩⟩⟩ rfl ?_
        refine J_imul (pc := 56) C 34 rfl  ?_
        refine J_icmp_ge (pc := 57) (tgt := 113) C 35 rfl rfl (fun c22 => ?_) (fun c22 => ?_)
        · rw [if_pos c22] at h
          exact J_sub [1, 2, 3, 0] rfl (B113 x1_16 x2_16 y0_16 h)
        · rw [if_neg c22] at h
          refine J_aload_n (pc := 60) C 36 rfl 1 rfl rfl ?_
          refine J_iload_n (pc := 61) C 37 rfl 2 rfl rfl ?_
          refine J_bipush (pc := 62) (v := (6 : Int32)) C 38 rfl rfl ?_
          refine J_irem (pc := 64) C 39 rfl (by decide) ?_
          refine J_iconst (pc := 65) (v := (5 : Int32)) C 40 rfl rfl ?_
          obtain ⟨q23, hq23, h⟩ := bnd h
          refine J_callV (pc := 66) (st2 := []) (st3 := [.int q23]) (ws2 := (wEx aX (aT 0) (aT2 0) (aS 0) (aS2 0) (aP 0) (aH 0) aB aU ++ (wSeat G aT (aS 0) (vT 1) (vT 2) (vT 3) (vT 4 0) (vT 5 0) (vT 6) (vT 7) (vT 8) ++ (wSch G aS (vS 0) (vS 1) (vS 2) (vS 3) (vS 4) (vS 5) (vS 6) (vS 7) (vS 8 0) (vS 9 0) ++ (wPad G aP (vP 0) (vP 1 0) (vP 2) (vP 3) (vP 4) (vP 5 0) (vP 6 0) (vP 7 0) (vP 8 0) (vP 9 0) ++ (wHis G aH hA hV (hZ 1 0))))))) C 41 rfl (c_X4_paperOf aX aT aS aT2 aS2 aP aH aB aU vT vS (x1_16 - x1_16 / (6 : Int32) * (6 : Int32)) (5 : Int32) hq23) V_X4_paperOf k353 i_X4_paperOf s_X4_paperOf rfl rfl ⟨Nat.le_of_ble_eq_true rfl, Nat.le_of_ble_eq_true rfl⟩ (Nat.le_of_ble_eq_true rfl) ⟨Nat.le_refl _, Nat.le_refl _⟩ 0 4 rfl rfl rfl (isC := [0, 1, 2, 3, 4, 5, 6, 7, 8, 9, 10, 11, 12, 13, 14, 15, 16]) (isR := [17, 18, 19, 20, 21, 22, 23, 24, 25, 26, 27, 28, 29, 30, 31, 32, 33, 34, 35, 36, 37, 38, 39, 40, 41, 42, 43, 44, 45, 46, 47, 48, 49, 50, 51, 52, 53, 54, 55, 56, 57, 58, 59, 60, 61, 62, 63, 64, 65, 66, 67, 68, 69, 70, 71, 72, 73, 74, 75, 76, 77]) (N := 78) ⟨rfl, by decide +kernel, rfl, by decide +kernel, rfl, ⟨⟨_, rfl, rfl⟩, ⟨⟨_, rfl, rfl⟩, ⟨⟨_, rfl, rfl⟩, ⟨⟨_, rfl, rfl⟩, ⟨⟨_, rfl, rfl⟩, ⟨⟨_, rfl, rfl⟩, ⟨⟨_, rfl, rfl⟩, ⟨⟨_, rfl, rfl⟩, ⟨⟨_, rfl, rfl⟩, ⟨⟨_, rfl, rfl⟩, ⟨⟨_, rfl, rfl⟩, ⟨⟨_, rfl, rfl⟩, ⟨⟨_, rfl, rfl⟩, ⟨⟨_, rfl, rfl⟩, ⟨⟨_, rfl, rfl⟩, ⟨⟨_, rfl, rfl⟩, ⟨⟨_, rfl, rfl⟩, ⟨⟨_, rfl, rfl⟩, ⟨⟨_, rfl, rfl⟩, ⟨⟨_, rfl, rfl⟩, ⟨⟨_, rfl, rfl⟩, ⟨⟨_, rfl, rfl⟩, ⟨⟨_, rfl, rfl⟩, ⟨⟨_, rfl, rfl⟩, ⟨⟨_, rfl, rfl⟩, ⟨⟨_, rfl, rfl⟩, ⟨⟨_, rfl, rfl⟩, ⟨⟨_, rfl, rfl⟩, ⟨⟨_, rfl, rfl⟩, ⟨⟨_, rfl, rfl⟩, ⟨⟨_, rfl, rfl⟩, ⟨⟨_, rfl, rfl⟩, ⟨⟨_, rfl, rfl⟩, ⟨⟨_, rfl, rfl⟩, ⟨⟨_, rfl, rfl⟩, ⟨⟨_, rfl, rfl⟩, ⟨⟨_, rfl, rfl⟩, ⟨⟨_, rfl, rfl⟩, ⟨⟨_, rfl, rfl⟩, ⟨⟨_, rfl, rfl⟩, ⟨⟨_, rfl, rfl⟩, ⟨⟨_, rfl, rfl⟩, ⟨⟨_, rfl, rfl⟩, ⟨⟨_, rfl, rfl⟩, ⟨⟨_, rfl, rfl⟩, ⟨⟨_, rfl, rfl⟩, ⟨⟨_, rfl, rfl⟩, ⟨⟨_, rfl, rfl⟩, ⟨⟨_, rfl, rfl⟩, ⟨⟨_, rfl, rfl⟩, ⟨⟨_, rfl, rfl⟩, ⟨⟨_, rfl, rfl⟩, ⟨⟨_, rfl, rfl⟩, ⟨⟨_, rfl, rfl⟩, ⟨⟨_, rfl, rfl⟩, ⟨⟨_, rfl, rfl⟩, ⟨⟨_, rfl, rfl⟩, ⟨⟨_, rfl, rfl⟩, ⟨⟨_, rfl, rfl⟩, ⟨⟨_, rfl, rfl⟩, ⟨⟨_, rfl, rfl⟩, trivial⟩⟩⟩⟩⟩⟩⟩⟩⟩⟩⟩⟩⟩⟩⟩⟩⟩⟩⟩⟩⟩⟩⟩⟩⟩⟩⟩⟩⟩⟩⟩⟩⟩⟩⟩⟩⟩⟩⟩⟩⟩⟩⟩⟩⟩⟩⟩⟩⟩⟩⟩⟩⟩⟩⟩⟩⟩⟩⟩⟩⟩⟩ rfl ?_
          refine J_iload_n (pc := 69) C 42 rfl 3 rfl rfl ?_
          refine J_bipush (pc := 70) (v := (64 : Int32)) C 43 rfl rfl ?_
          refine J_idiv (pc := 72) C 44 rfl (by decide) ?_
          refine J_ishr (pc := 73) C 45 rfl  ?_
          refine J_iconst (pc := 74) (v := (1 : Int32)) C 46 rfl rfl ?_
          refine J_iand (pc := 75) C 47 rfl  ?_
          refine J_iconst (pc := 76) (v := (1 : Int32)) C 48 rfl rfl ?_
          refine J_icmp_ne (pc := 77) (tgt := 113) C 49 rfl rfl (fun c24 => ?_) (fun c24 => ?_)
          · rw [if_neg c24] at h
            exact J_sub [1, 2, 3, 0] rfl (B113 x1_16 x2_16 y0_16 h)
          · rw [if_pos c24] at h
            refine J_aload_n (pc := 80) C 50 rfl 1 rfl rfl ?_
            refine J_iload_n (pc := 81) C 51 rfl 3 rfl rfl ?_
            refine J_bipush (pc := 82) (v := (64 : Int32)) C 52 rfl rfl ?_
            refine J_idiv (pc := 84) C 53 rfl (by decide) ?_
            refine J_iload_n (pc := 85) C 54 rfl 3 rfl rfl ?_
            refine J_bipush (pc := 86) (v := (64 : Int32)) C 55 rfl rfl ?_
            refine J_irem (pc := 88) C 56 rfl (by decide) ?_
            refine J_aload_n (pc := 89) C 57 rfl 1 rfl rfl ?_
            refine J_iload_n (pc := 90) C 58 rfl 2 rfl rfl ?_
            refine J_bipush (pc := 91) (v := (6 : Int32)) C 59 rfl rfl ?_
            refine J_idiv (pc := 93) C 60 rfl (by decide) ?_
            refine J_iload_n (pc := 94) C 61 rfl 2 rfl rfl ?_
            refine J_bipush (pc := 95) (v := (6 : Int32)) C 62 rfl rfl ?_
            refine J_irem (pc := 97) C 63 rfl (by decide) ?_
            refine J_iconst (pc := 98) (v := (0 : Int32)) C 64 rfl rfl ?_
            obtain ⟨q25, hq25, h⟩ := bnd h
            refine J_callV (pc := 99) (st2 := [.int (x2_16 - x2_16 / (64 : Int32) * (64 : Int32)), .int (x2_16 / (64 : Int32)), .ref aX]) (st3 := [.int q25, .int (x2_16 - x2_16 / (64 : Int32) * (64 : Int32)), .int (x2_16 / (64 : Int32)), .ref aX]) (ws2 := (wEx aX (aT 0) (aT2 0) (aS 0) (aS2 0) (aP 0) (aH 0) aB aU ++ (wSeat G aT (aS 0) (vT 1) (vT 2) (vT 3) (vT 4 0) (vT 5 0) (vT 6) (vT 7) (vT 8) ++ (wSch G aS (vS 0) (vS 1) (vS 2) (vS 3) (vS 4) (vS 5) (vS 6) (vS 7) (vS 8 0) (vS 9 0) ++ (wPad G aP (vP 0) (vP 1 0) (vP 2) (vP 3) (vP 4) (vP 5 0) (vP 6 0) (vP 7 0) (vP 8 0) (vP 9 0) ++ (wHis G aH hA hV (hZ 1 0))))))) C 65 rfl (c_X4_sitting aX aT aS aT2 aS2 aP aH aB aU vT vS (x1_16 / (6 : Int32)) (x1_16 - x1_16 / (6 : Int32) * (6 : Int32)) (0 : Int32) hq25) V_X4_sitting k345 i_X4_sitting s_X4_sitting rfl rfl ⟨Nat.le_of_ble_eq_true rfl, Nat.le_of_ble_eq_true rfl⟩ (Nat.le_of_ble_eq_true rfl) ⟨Nat.le_refl _, Nat.le_refl _⟩ 0 4 rfl rfl rfl (isC := [0, 1, 2, 3, 4, 5, 6, 7, 8, 9, 10, 11, 12, 13, 14, 15, 16]) (isR := [17, 18, 19, 20, 21, 22, 23, 24, 25, 26, 27, 28, 29, 30, 31, 32, 33, 34, 35, 36, 37, 38, 39, 40, 41, 42, 43, 44, 45, 46, 47, 48, 49, 50, 51, 52, 53, 54, 55, 56, 57, 58, 59, 60, 61, 62, 63, 64, 65, 66, 67, 68, 69, 70, 71, 72, 73, 74, 75, 76, 77]) (N := 78) ⟨rfl, by decide +kernel, rfl, by decide +kernel, rfl, ⟨⟨_, rfl, rfl⟩, ⟨⟨_, rfl, rfl⟩, ⟨⟨_, rfl, rfl⟩, ⟨⟨_, rfl, rfl⟩, ⟨⟨_, rfl, rfl⟩, ⟨⟨_, rfl, rfl⟩, ⟨⟨_, rfl, rfl⟩, ⟨⟨_, rfl, rfl⟩, ⟨⟨_, rfl, rfl⟩, ⟨⟨_, rfl, rfl⟩, ⟨⟨_, rfl, rfl⟩, ⟨⟨_, rfl, rfl⟩, ⟨⟨_, rfl, rfl⟩, ⟨⟨_, rfl, rfl⟩, ⟨⟨_, rfl, rfl⟩, ⟨⟨_, rfl, rfl⟩, ⟨⟨_, rfl, rfl⟩, ⟨⟨_, rfl, rfl⟩, ⟨⟨_, rfl, rfl⟩, ⟨⟨_, rfl, rfl⟩, ⟨⟨_, rfl, rfl⟩, ⟨⟨_, rfl, rfl⟩, ⟨⟨_, rfl, rfl⟩, ⟨⟨_, rfl, rfl⟩, ⟨⟨_, rfl, rfl⟩, ⟨⟨_, rfl, rfl⟩, ⟨⟨_, rfl, rfl⟩, ⟨⟨_, rfl, rfl⟩, ⟨⟨_, rfl, rfl⟩, ⟨⟨_, rfl, rfl⟩, ⟨⟨_, rfl, rfl⟩, ⟨⟨_, rfl, rfl⟩, ⟨⟨_, rfl, rfl⟩, ⟨⟨_, rfl, rfl⟩, ⟨⟨_, rfl, rfl⟩, ⟨⟨_, rfl, rfl⟩, ⟨⟨_, rfl, rfl⟩, ⟨⟨_, rfl, rfl⟩, ⟨⟨_, rfl, rfl⟩, ⟨⟨_, rfl, rfl⟩, ⟨⟨_, rfl, rfl⟩, ⟨⟨_, rfl, rfl⟩, ⟨⟨_, rfl, rfl⟩, ⟨⟨_, rfl, rfl⟩, ⟨⟨_, rfl, rfl⟩, ⟨⟨_, rfl, rfl⟩, ⟨⟨_, rfl, rfl⟩, ⟨⟨_, rfl, rfl⟩, ⟨⟨_, rfl, rfl⟩, ⟨⟨_, rfl, rfl⟩, ⟨⟨_, rfl, rfl⟩, ⟨⟨_, rfl, rfl⟩, ⟨⟨_, rfl, rfl⟩, ⟨⟨_, rfl, rfl⟩, ⟨⟨_, rfl, rfl⟩, ⟨⟨_, rfl, rfl⟩, ⟨⟨_, rfl, rfl⟩, ⟨⟨_, rfl, rfl⟩, ⟨⟨_, rfl, rfl⟩, ⟨⟨_, rfl, rfl⟩, ⟨⟨_, rfl, rfl⟩, trivial⟩⟩⟩⟩⟩⟩⟩⟩⟩⟩⟩⟩⟩⟩⟩⟩⟩⟩⟩⟩⟩⟩⟩⟩⟩⟩⟩⟩⟩⟩⟩⟩⟩⟩⟩⟩⟩⟩⟩⟩⟩⟩⟩⟩⟩⟩⟩⟩⟩⟩⟩⟩⟩⟩⟩⟩⟩⟩⟩⟩⟩⟩ rfl ?_
            obtain ⟨q26, hq26, h⟩ := bnd h
            refine J_callV (pc := 102) (st2 := []) (st3 := [.int q26]) (ws2 := (wEx aX (aT 0) (aT2 0) (aS 0) (aS2 0) (aP 0) (aH 0) aB aU ++ (wSeat G aT (aS 0) (vT 1) (vT 2) (vT 3) (vT 4 0) (vT 5 0) (vT 6) (vT 7) (vT 8) ++ (wSch G aS (vS 0) (vS 1) (vS 2) (vS 3) (vS 4) (vS 5) (vS 6) (vS 7) (vS 8 0) (vS 9 0) ++ (wPad G aP (vP 0) (vP 1 0) (vP 2) (vP 3) (vP 4) (vP 5 0) (vP 6 0) (vP 7 0) (vP 8 0) (vP 9 0) ++ (wHis G aH hA hV (hZ 1 0))))))) C 66 rfl (c_X4_at aX aT aS aT2 aS2 aP aH aB aU vT vS (x2_16 / (64 : Int32)) (x2_16 - x2_16 / (64 : Int32) * (64 : Int32)) q25 hq26) V_X4_at k356 i_X4_at s_X4_at rfl rfl ⟨Nat.le_of_ble_eq_true rfl, Nat.le_of_ble_eq_true rfl⟩ (Nat.le_of_ble_eq_true rfl) ⟨Nat.le_refl _, Nat.le_refl _⟩ 0 4 rfl rfl rfl (isC := [0, 1, 2, 3, 4, 5, 6, 7, 8, 9, 10, 11, 12, 13, 14, 15, 16]) (isR := [17, 18, 19, 20, 21, 22, 23, 24, 25, 26, 27, 28, 29, 30, 31, 32, 33, 34, 35, 36, 37, 38, 39, 40, 41, 42, 43, 44, 45, 46, 47, 48, 49, 50, 51, 52, 53, 54, 55, 56, 57, 58, 59, 60, 61, 62, 63, 64, 65, 66, 67, 68, 69, 70, 71, 72, 73, 74, 75, 76, 77]) (N := 78) ⟨rfl, by decide +kernel, rfl, by decide +kernel, rfl, ⟨⟨_, rfl, rfl⟩, ⟨⟨_, rfl, rfl⟩, ⟨⟨_, rfl, rfl⟩, ⟨⟨_, rfl, rfl⟩, ⟨⟨_, rfl, rfl⟩, ⟨⟨_, rfl, rfl⟩, ⟨⟨_, rfl, rfl⟩, ⟨⟨_, rfl, rfl⟩, ⟨⟨_, rfl, rfl⟩, ⟨⟨_, rfl, rfl⟩, ⟨⟨_, rfl, rfl⟩, ⟨⟨_, rfl, rfl⟩, ⟨⟨_, rfl, rfl⟩, ⟨⟨_, rfl, rfl⟩, ⟨⟨_, rfl, rfl⟩, ⟨⟨_, rfl, rfl⟩, ⟨⟨_, rfl, rfl⟩, ⟨⟨_, rfl, rfl⟩, ⟨⟨_, rfl, rfl⟩, ⟨⟨_, rfl, rfl⟩, ⟨⟨_, rfl, rfl⟩, ⟨⟨_, rfl, rfl⟩, ⟨⟨_, rfl, rfl⟩, ⟨⟨_, rfl, rfl⟩, ⟨⟨_, rfl, rfl⟩, ⟨⟨_, rfl, rfl⟩, ⟨⟨_, rfl, rfl⟩, ⟨⟨_, rfl, rfl⟩, ⟨⟨_, rfl, rfl⟩, ⟨⟨_, rfl, rfl⟩, ⟨⟨_, rfl, rfl⟩, ⟨⟨_, rfl, rfl⟩, ⟨⟨_, rfl, rfl⟩, ⟨⟨_, rfl, rfl⟩, ⟨⟨_, rfl, rfl⟩, ⟨⟨_, rfl, rfl⟩, ⟨⟨_, rfl, rfl⟩, ⟨⟨_, rfl, rfl⟩, ⟨⟨_, rfl, rfl⟩, ⟨⟨_, rfl, rfl⟩, ⟨⟨_, rfl, rfl⟩, ⟨⟨_, rfl, rfl⟩, ⟨⟨_, rfl, rfl⟩, ⟨⟨_, rfl, rfl⟩, ⟨⟨_, rfl, rfl⟩, ⟨⟨_, rfl, rfl⟩, ⟨⟨_, rfl, rfl⟩, ⟨⟨_, rfl, rfl⟩, ⟨⟨_, rfl, rfl⟩, ⟨⟨_, rfl, rfl⟩, ⟨⟨_, rfl, rfl⟩, ⟨⟨_, rfl, rfl⟩, ⟨⟨_, rfl, rfl⟩, ⟨⟨_, rfl, rfl⟩, ⟨⟨_, rfl, rfl⟩, ⟨⟨_, rfl, rfl⟩, ⟨⟨_, rfl, rfl⟩, ⟨⟨_, rfl, rfl⟩, ⟨⟨_, rfl, rfl⟩, ⟨⟨_, rfl, rfl⟩, ⟨⟨_, rfl, rfl⟩, trivial⟩⟩⟩⟩⟩⟩⟩⟩⟩⟩⟩⟩⟩⟩⟩⟩⟩⟩⟩⟩⟩⟩⟩⟩⟩⟩⟩⟩⟩⟩⟩⟩⟩⟩⟩⟩⟩⟩⟩⟩⟩⟩⟩⟩⟩⟩⟩⟩⟩⟩⟩⟩⟩⟩⟩⟩⟩⟩⟩⟩⟩⟩ rfl ?_
            refine J_iload_n (pc := 105) C 67 rfl 2 rfl rfl ?_
            refine J_icmp_ne (pc := 106) (tgt := 113) C 68 rfl rfl (fun c27 => ?_) (fun c27 => ?_)
            · rw [if_neg c27] at h
              exact J_sub [1, 2, 3, 0] rfl (B113 x1_16 x2_16 y0_16 h)
            · rw [if_pos c27] at h
              exact J_sub [1, 2, 3, 0] rfl (B109 x1_16 x2_16 y0_16 h)
  have B15 : ∀ (x1_15 : Int32) (x2_15 : Int32), f_L_isSitting_K15 vT vS vP hA hV hZ x1_15 x2_15 = some Rz → J l { frames := 7, cells := 0, slots := 0, locals := 158 } G 5 X (QM X G 0 0 (some (.int Rz)) (wEx aX (aT 0) (aT2 0) (aS 0) (aS2 0) (aP 0) (aH 0) aB aU ++ (wSeat G aT (aS 0) (vT 1) (vT 2) (vT 3) (vT 4 0) (vT 5 0) (vT 6) (vT 7) (vT 8) ++ (wSch G aS (vS 0) (vS 1) (vS 2) (vS 3) (vS 4) (vS 5) (vS 6) (vS 7) (vS 8 0) (vS 9 0) ++ (wPad G aP (vP 0) (vP 1 0) (vP 2) (vP 3) (vP 4) (vP 5 0) (vP 6 0) (vP 7 0) (vP 8 0) (vP 9 0) ++ (wHis G aH hA hV (hZ 1 0))))))) 0 0 15 [(0, .ref aX), (1, .int x1_15), (2, .int x2_15)] [] (wEx aX (aT 0) (aT2 0) (aS 0) (aS2 0) (aP 0) (aH 0) aB aU ++ (wSeat G aT (aS 0) (vT 1) (vT 2) (vT 3) (vT 4 0) (vT 5 0) (vT 6) (vT 7) (vT 8) ++ (wSch G aS (vS 0) (vS 1) (vS 2) (vS 3) (vS 4) (vS 5) (vS 6) (vS 7) (vS 8 0) (vS 9 0) ++ (wPad G aP (vP 0) (vP 1 0) (vP 2) (vP 3) (vP 4) (vP 5 0) (vP 6 0) (vP 7 0) (vP 8 0) (vP 9 0) ++ (wHis G aH hA hV (hZ 1 0)))))) := by
    intro x1_15 x2_15 h
    unfold f_L_isSitting_K15 at h
    refine J_iconst (pc := 15) (v := (0 : Int32)) C 7 rfl rfl ?_
    exact J_sub [0, 1, 2] rfl (B16 x1_15 x2_15 (0 : Int32) h)
  unfold f_L_isSitting at h
  refine J_iload_n (pc := 0) C 0 rfl 2 rfl rfl ?_
  refine J_if_lt (pc := 1) (tgt := 15) C 1 rfl rfl (fun c1 => ?_) (fun c1 => ?_)
  · rw [if_pos c1] at h
    exact J_sub [0, 1, 2] rfl (B15 x1 x2 h)
  · rw [if_neg c1] at h
    refine J_iload_n (pc := 4) C 2 rfl 2 rfl rfl ?_
    refine J_sipush (pc := 5) (v := (1000 : Int32)) C 3 rfl rfl ?_
    refine J_icmp_ge (pc := 8) (tgt := 15) C 4 rfl rfl (fun c28 => ?_) (fun c28 => ?_)
    · rw [if_pos c28] at h
      exact J_sub [0, 1, 2] rfl (B15 x1 x2 h)
    · rw [if_neg c28] at h
      refine J_iconst (pc := 11) (v := (1 : Int32)) C 5 rfl rfl ?_
      refine J_goto (pc := 12) (tgt := 16) C 6 rfl rfl ?_
      exact J_sub [0, 1, 2] rfl (B16 x1 x2 (1 : Int32) h)
