def T_L_areSeated : List (Nat × ClassFile.Instr × Nat) := [(0, .bipush 48, 2), (2, .newarray .int, 2), (4, .astore_n 1, 1), (5, .bipush 48, 2), (7, .newarray .int, 2), (9, .astore_n 2, 1), (10, .aload_n 0, 1), (11, .iconst 2, 1), (12, .invokevirtual 28, 3), (15, .istore_n 3, 1), (16, .aload_n 0, 1), (17, .iconst 0, 1), (18, .invokevirtual 28, 3), (21, .istore 4, 2), (23, .iconst 1, 1), (24, .istore 5, 2), (26, .iconst 0, 1), (27, .istore 6, 2), (29, .iload 6, 2), (31, .bipush 96, 2), (33, .if_icmp .ge 112, 3), (36, .iload 5, 2), (38, .ifCond .eq 107, 3), (41, .iload 6, 2), (43, .bipush 6, 2), (45, .aload_n 0, 1), (46, .iconst 3, 1), (47, .invokevirtual 28, 3), (50, .imul, 1), (51, .if_icmp .ge 12, 3), (54, .aload_n 0, 1), (55, .iload 6, 2), (57, .invokestatic 32, 3), (60, .goto 5, 3), (63, .bipush (-7), 2), (65, .istore 7, 2), (67, .aload_n 1, 1), (68, .iload 6, 2), (70, .bipush 48, 2), (72, .irem, 1), (73, .iload 6, 2), (75, .bipush 48, 2), (77, .if_icmp .ge 8, 3), (80, .iload 7, 2), (82, .goto 10, 3), (85, .aload_n 1, 1), (86, .iload 6, 2), (88, .bipush 48, 2), (90, .irem, 1), (91, .iaload, 1), (92, .iastore, 1), (93, .aload_n 2, 1), (94, .iload 6, 2), (96, .bipush 48, 2), (98, .irem, 1), (99, .iload 6, 2), (101, .bipush 48, 2), (103, .if_icmp .ge 8, 3), (106, .bipush (-7), 2), (108, .goto 5, 3), (111, .iload 7, 2), (113, .iastore, 1), (114, .iload 7, 2), (116, .bipush (-7), 2), (118, .if_icmp .eq 14, 3), (121, .aload_n 0, 1), (122, .iload 6, 2), (124, .iload 7, 2), (126, .invokestatic 38, 3), (129, .ifCond .eq 7, 3), (132, .iconst 1, 1), (133, .goto 4, 3), (136, .iconst 0, 1), (137, .istore 5, 2), (139, .iinc 6 1, 3), (142, .goto (-113), 3), (145, .iconst 0, 1), (146, .istore 6, 2), (148, .iload 6, 2), (150, .bipush 96, 2), (152, .if_icmp .ge 339, 3), (155, .iload 5, 2), (157, .ifCond .eq 334, 3), (160, .aload_n 1, 1), (161, .aload_n 2, 1), (162, .iload 6, 2), (164, .invokestatic 42, 3), (167, .istore 7, 2), (169, .iload 7, 2), (171, .ifCond .lt 15, 3), (174, .iload 7, 2), (176, .sipush 1000, 3), (179, .if_icmp .ge 7, 3), (182, .iconst 1, 1), (183, .goto 4, 3), (186, .iconst 0, 1), (187, .istore 8, 2), (189, .iload 8, 2), (191, .ifCond .eq 16, 3), (194, .aload_n 0, 1), (195, .iload 7, 2), (197, .bipush 64, 2), (199, .idiv, 1), (200, .iconst 1, 1), (201, .invokevirtual 15, 3), (204, .goto 4, 3), (207, .iconst 1, 1), (208, .istore 9, 2), (210, .iload 7, 2), (212, .ifCond .lt 21, 3), (215, .aload_n 0, 1), (216, .iload 6, 2), (218, .bipush 6, 2), (220, .idiv, 1), (221, .iload 6, 2), (223, .bipush 6, 2), (225, .irem, 1), (226, .iconst 0, 1), (227, .invokevirtual 9, 3), (230, .goto 4, 3), (233, .iconst 0, 1), (234, .istore 10, 2), (236, .iload 7, 2), (238, .ifCond .lt 21, 3), (241, .aload_n 0, 1), (242, .iload 6, 2), (244, .bipush 6, 2), (246, .idiv, 1), (247, .iload 6, 2), (249, .bipush 6, 2), (251, .irem, 1), (252, .iconst 1, 1), (253, .invokevirtual 9, 3), (256, .goto 4, 3), (259, .iconst 0, 1), (260, .istore 11, 2), (262, .iconst 0, 1), (263, .istore 12, 2), (265, .iload 12, 2), (267, .iload 6, 2), (269, .if_icmp .ge 216, 3), (272, .iload 5, 2), (274, .ifCond .eq 211, 3), (277, .iload 7, 2), (279, .ifCond .lt 206, 3), (282, .aload_n 1, 1), (283, .aload_n 2, 1), (284, .iload 12, 2), (286, .invokestatic 42, 3), (289, .istore 13, 2), (291, .iload 8, 2), (293, .ifCond .eq 33, 3), (296, .iload 13, 2), (298, .ifCond .lt 28, 3), (301, .iload 13, 2), (303, .sipush 1000, 3), (306, .if_icmp .ge 20, 3), (309, .iload 13, 2), (311, .bipush 64, 2), (313, .idiv, 1), (314, .iload 7, 2), (316, .bipush 64, 2), (318, .idiv, 1), (319, .if_icmp .ne 7, 3), (322, .iconst 1, 1), (323, .goto 4, 3), (326, .iconst 0, 1), (327, .istore 14, 2), (329, .iload 14, 2), (331, .ifCond .eq 64, 3), (334, .iload 13, 2), (336, .bipush 64, 2), (338, .irem, 1), (339, .iload 9, 2), (341, .idiv, 1), (342, .iload 7, 2), (344, .bipush 64, 2), (346, .irem, 1), (347, .iload 9, 2), (349, .idiv, 1), (350, .if_icmp .ne 21, 3), (353, .iload 13, 2), (355, .iload 7, 2), (357, .isub, 1), (358, .iconst 1, 1), (359, .if_icmp .eq 32, 3), (362, .iload 7, 2), (364, .iload 13, 2), (366, .isub, 1), (367, .iconst 1, 1), (368, .if_icmp .eq 23, 3), (371, .iload 13, 2), (373, .iload 7, 2), (375, .isub, 1), (376, .iload 9, 2), (378, .if_icmp .eq 13, 3), (381, .iload 7, 2), (383, .iload 13, 2), (385, .isub, 1), (386, .iload 9, 2), (388, .if_icmp .ne 7, 3), (391, .iconst 1, 1), (392, .goto 4, 3), (395, .iconst 0, 1), (396, .istore 15, 2), (398, .iload 13, 2), (400, .iload 7, 2), (402, .if_icmp .ne 47, 3), (405, .iload 11, 2), (407, .iload_n 3, 1), (408, .iadd, 1), (409, .aload_n 0, 1), (410, .iload 12, 2), (412, .bipush 6, 2), (414, .idiv, 1), (415, .iload 12, 2), (417, .bipush 6, 2), (419, .irem, 1), (420, .iconst 0, 1), (421, .invokevirtual 9, 3), (424, .if_icmp .le 25, 3), (427, .aload_n 0, 1), (428, .iload 12, 2), (430, .bipush 6, 2), (432, .idiv, 1), (433, .iload 12, 2), (435, .bipush 6, 2), (437, .irem, 1), (438, .iconst 1, 1), (439, .invokevirtual 9, 3), (442, .iload_n 3, 1), (443, .iadd, 1), (444, .iload 10, 2), (446, .if_icmp .gt 30, 3), (449, .iload 15, 2), (451, .ifCond .eq 21, 3), (454, .iload 4, 2), (456, .ifCond .eq 16, 3), (459, .iload 6, 2), (461, .bipush 6, 2), (463, .irem, 1), (464, .iload 12, 2), (466, .bipush 6, 2), (468, .irem, 1), (469, .if_icmp .eq 7, 3), (472, .iconst 1, 1), (473, .goto 4, 3), (476, .iconst 0, 1), (477, .istore 5, 2), (479, .iinc 12 1, 3), (482, .goto (-217), 3), (485, .iinc 6 1, 3), (488, .goto (-340), 3), (491, .iload 5, 2), (493, .ireturn, 1)]
theorem D_L_areSeated : ∀ q ∈ T_L_areSeated, decode cL_areSeated q.1 = .ok q.2 := by decide +kernel
theorem V_L_areSeated : Vy yL_areSeated cL_areSeated 16 (some .boolean) 1 := ⟨k373, k368, by decide +kernel⟩
theorem t_L_areSeated : Cond.static yL_areSeated ∈ TB := k427
set_option maxRecDepth 100000 in
set_option maxHeartbeats 4000000 in
theorem b_L_areSeated {l : Launch} {G : JG} {X : JX} (C : Cx G 16 X cL_areSeated RL (some .boolean) T_L_areSeated) (aX : Nat) (aT : Nat → Nat) (aS : Nat → Nat) (aT2 : Nat → Nat) (aS2 : Nat → Nat) (aP : Nat → Nat) (aH : Nat → Nat) (aB : Nat) (aU : Nat) (aL : Nat) (aH2 : Nat) (vT : JV) (vS : JV) (vP : JV) (hA : Nat → Nat → Nat) (hV : Nat → JV) (hZ : JV) (vL : JV) (vH : JV) {Rz : Int32 × JV × JV} (h : f_L_areSeated_body vT vS vP hA hV hZ vL vH = some Rz) : J l { frames := 8, cells := 2, slots := 96, locals := 182 } G 16 X (QM X G 2 96 (some (.int (Rz.1))) (wEx aX (aT 0) (aT2 0) (aS 0) (aS2 0) (aP 0) (aH 0) aB aU ++ (wSeat G aT (aS 0) (vT 1) (vT 2) (vT 3) (vT 4 0) (vT 5 0) (vT 6) (vT 7) (vT 8) ++ (wSch G aS (vS 0) (vS 1) (vS 2) (vS 3) (vS 4) (vS 5) (vS 6) (vS 7) (vS 8 0) (vS 9 0) ++ (wPad G aP (vP 0) (vP 1 0) (vP 2) (vP 3) (vP 4) (vP 5 0) (vP 6 0) (vP 7 0) (vP 8 0) (vP 9 0) ++ (wHis G aH hA hV (hZ 1 0))))))) 2 96 10 [(2, .ref aH2), (1, .ref aL), (0, .ref aX)] [] (wEx aX (aT 0) (aT2 0) (aS 0) (aS2 0) (aP 0) (aH 0) aB aU ++ (wSeat G aT (aS 0) (vT 1) (vT 2) (vT 3) (vT 4 0) (vT 5 0) (vT 6) (vT 7) (vT 8) ++ (wSch G aS (vS 0) (vS 1) (vS 2) (vS 3) (vS 4) (vS 5) (vS 6) (vS 7) (vS 8 0) (vS 9 0) ++ (wPad G aP (vP 0) (vP 1 0) (vP 2) (vP 3) (vP 4) (vP 5 0) (vP 6 0) (vP 7 0) (vP 8 0) (vP 9 0) ++ (wHis G aH hA hV (hZ 1 0) ++ (wArr G aL (vL 0) ++ (wArr G aH2 (vH 0)))))))) := by
  have B148 : ∀ (x3_148 : Int32) (x4_148 : Int32) (n148 : Nat) (vL_148 : JV) (vH_148 : JV) (x5_148 : Int32) (x6_148 : Int32), f_L_areSeated_L148 vT vS vP hA hV hZ x3_148 x4_148 n148 vL_148 vH_148 x5_148 x6_148 = some Rz → J l { frames := 8, cells := 2, slots := 96, locals := 182 } G 16 X (QM X G 2 96 (some (.int (Rz.1))) (wEx aX (aT 0) (aT2 0) (aS 0) (aS2 0) (aP 0) (aH 0) aB aU ++ (wSeat G aT (aS 0) (vT 1) (vT 2) (vT 3) (vT 4 0) (vT 5 0) (vT 6) (vT 7) (vT 8) ++ (wSch G aS (vS 0) (vS 1) (vS 2) (vS 3) (vS 4) (vS 5) (vS 6) (vS 7) (vS 8 0) (vS 9 0) ++ (wPad G aP (vP 0) (vP 1 0) (vP 2) (vP 3) (vP 4) (vP 5 0) (vP 6 0) (vP 7 0) (vP 8 0) (vP 9 0) ++ (wHis G aH hA hV (hZ 1 0))))))) 2 96 148 [(0, .ref aX), (1, .ref aL), (2, .ref aH2), (3, .int x3_148), (4, .int x4_148), (5, .int x5_148), (6, .int x6_148)] [] (wEx aX (aT 0) (aT2 0) (aS 0) (aS2 0) (aP 0) (aH 0) aB aU ++ (wSeat G aT (aS 0) (vT 1) (vT 2) (vT 3) (vT 4 0) (vT 5 0) (vT 6) (vT 7) (vT 8) ++ (wSch G aS (vS 0) (vS 1) (vS 2) (vS 3) (vS 4) (vS 5) (vS 6) (vS 7) (vS 8 0) (vS 9 0) ++ (wPad G aP (vP 0) (vP 1 0) (vP 2) (vP 3) (vP 4) (vP 5 0) (vP 6 0) (vP 7 0) (vP 8 0) (vP 9 0) ++ (wHis G aH hA hV (hZ 1 0) ++ (wArr G aL (vL_148 0) ++ (wArr G aH2 (vH_148 0)))))))) := by
    intro x3_148 x4_148 n148
    induction n148 with
    | zero =>
      intro vL_148 vH_148 x5_148 x6_148 h
      exact (no_none rfl h).elim
    | succ n148 ih148 =>
      have B265 : ∀ (x6_265 : Int32) (x7_265 : Int32) (x8_265 : Int32) (x9_265 : Int32) (x10_265 : Int32) (x11_265 : Int32) (n265 : Nat) (vL_265 : JV) (vH_265 : JV) (x5_265 : Int32) (x12_265 : Int32), f_L_areSeated_L265 vT vS vP hA hV hZ (fun vL_148 vH_148 x5_148 x6_148 => f_L_areSeated_L148 vT vS vP hA hV hZ x3_148 x4_148 n148 vL_148 vH_148 x5_148 x6_148) x3_148 x4_148 x6_265 x7_265 x8_265 x9_265 x10_265 x11_265 n265 vL_265 vH_265 x5_265 x12_265 = some Rz → J l { frames := 8, cells := 2, slots := 96, locals := 182 } G 16 X (QM X G 2 96 (some (.int (Rz.1))) (wEx aX (aT 0) (aT2 0) (aS 0) (aS2 0) (aP 0) (aH 0) aB aU ++ (wSeat G aT (aS 0) (vT 1) (vT 2) (vT 3) (vT 4 0) (vT 5 0) (vT 6) (vT 7) (vT 8) ++ (wSch G aS (vS 0) (vS 1) (vS 2) (vS 3) (vS 4) (vS 5) (vS 6) (vS 7) (vS 8 0) (vS 9 0) ++ (wPad G aP (vP 0) (vP 1 0) (vP 2) (vP 3) (vP 4) (vP 5 0) (vP 6 0) (vP 7 0) (vP 8 0) (vP 9 0) ++ (wHis G aH hA hV (hZ 1 0))))))) 2 96 265 [(0, .ref aX), (1, .ref aL), (2, .ref aH2), (3, .int x3_148), (4, .int x4_148), (5, .int x5_265), (6, .int x6_265), (7, .int x7_265), (8, .int x8_265), (9, .int x9_265), (10, .int x10_265), (11, .int x11_265), (12, .int x12_265)] [] (wEx aX (aT 0) (aT2 0) (aS 0) (aS2 0) (aP 0) (aH 0) aB aU ++ (wSeat G aT (aS 0) (vT 1) (vT 2) (vT 3) (vT 4 0) (vT 5 0) (vT 6) (vT 7) (vT 8) ++ (wSch G aS (vS 0) (vS 1) (vS 2) (vS 3) (vS 4) (vS 5) (vS 6) (vS 7) (vS 8 0) (vS 9 0) ++ (wPad G aP (vP 0) (vP 1 0) (vP 2) (vP 3) (vP 4) (vP 5 0) (vP 6 0) (vP 7 0) (vP 8 0) (vP 9 0) ++ (wHis G aH hA hV (hZ 1 0) ++ (wArr G aL (vL_265 0) ++ (wArr G aH2 (vH_265 0)))))))) := by
        intro x6_265 x7_265 x8_265 x9_265 x10_265 x11_265 n265
        induction n265 with
        | zero =>
          intro vL_265 vH_265 x5_265 x12_265 h
          exact (no_none rfl h).elim
        | succ n265 ih265 =>
          have B449 : ∀ (vL_449 : JV) (vH_449 : JV) (x12_449 : Int32) (x15_449 : Int32), f_L_areSeated_K449 vT vS vP hA hV hZ (fun vL_148 vH_148 x5_148 x6_148 => f_L_areSeated_L148 vT vS vP hA hV hZ x3_148 x4_148 n148 vL_148 vH_148 x5_148 x6_148) (fun vL_265 vH_265 x5_265 x12_265 => f_L_areSeated_L265 vT vS vP hA hV hZ (fun vL_148 vH_148 x5_148 x6_148 => f_L_areSeated_L148 vT vS vP hA hV hZ x3_148 x4_148 n148 vL_148 vH_148 x5_148 x6_148) x3_148 x4_148 x6_265 x7_265 x8_265 x9_265 x10_265 x11_265 n265 vL_265 vH_265 x5_265 x12_265) vL_449 vH_449 x3_148 x4_148 x6_265 x7_265 x8_265 x9_265 x10_265 x11_265 x12_449 x15_449 = some Rz → J l { frames := 8, cells := 2, slots := 96, locals := 182 } G 16 X (QM X G 2 96 (some (.int (Rz.1))) (wEx aX (aT 0) (aT2 0) (aS 0) (aS2 0) (aP 0) (aH 0) aB aU ++ (wSeat G aT (aS 0) (vT 1) (vT 2) (vT 3) (vT 4 0) (vT 5 0) (vT 6) (vT 7) (vT 8) ++ (wSch G aS (vS 0) (vS 1) (vS 2) (vS 3) (vS 4) (vS 5) (vS 6) (vS 7) (vS 8 0) (vS 9 0) ++ (wPad G aP (vP 0) (vP 1 0) (vP 2) (vP 3) (vP 4) (vP 5 0) (vP 6 0) (vP 7 0) (vP 8 0) (vP 9 0) ++ (wHis G aH hA hV (hZ 1 0))))))) 2 96 449 [(0, .ref aX), (1, .ref aL), (2, .ref aH2), (3, .int x3_148), (4, .int x4_148), (6, .int x6_265), (7, .int x7_265), (8, .int x8_265), (9, .int x9_265), (10, .int x10_265), (11, .int x11_265), (12, .int x12_449), (15, .int x15_449)] [] (wEx aX (aT 0) (aT2 0) (aS 0) (aS2 0) (aP 0) (aH 0) aB aU ++ (wSeat G aT (aS 0) (vT 1) (vT 2) (vT 3) (vT 4 0) (vT 5 0) (vT 6) (vT 7) (vT 8) ++ (wSch G aS (vS 0) (vS 1) (vS 2) (vS 3) (vS 4) (vS 5) (vS 6) (vS 7) (vS 8 0) (vS 9 0) ++ (wPad G aP (vP 0) (vP 1 0) (vP 2) (vP 3) (vP 4) (vP 5 0) (vP 6 0) (vP 7 0) (vP 8 0) (vP 9 0) ++ (wHis G aH hA hV (hZ 1 0) ++ (wArr G aL (vL_449 0) ++ (wArr G aH2 (vH_449 0)))))))) := by
            intro vL_449 vH_449 x12_449 x15_449 h
            unfold f_L_areSeated_K449 at h
            refine J_iload (pc := 449) C 234 rfl 12 rfl ?_
            refine J_if_eq (pc := 451) (tgt := 472) C 235 rfl rfl (fun c20 => ?_) (fun c20 => ?_)
            · rw [if_pos c20] at h
              refine J_iconst (pc := 472) (v := (1 : Int32)) C 245 rfl rfl ?_
              refine J_goto (pc := 473) (tgt := 477) C 246 rfl rfl ?_
              refine J_istore (pc := 477) (lv' := [(5, .int (1 : Int32)), (0, .ref aX), (1, .ref aL), (2, .ref aH2), (3, .int x3_148), (4, .int x4_148), (6, .int x6_265), (7, .int x7_265), (8, .int x8_265), (9, .int x9_265), (10, .int x10_265), (11, .int x11_265), (12, .int x12_449), (15, .int x15_449)]) C 248 rfl (by decide) rfl ?_
              refine J_iinc (pc := 479) (v := (x12_449 + (1 : Int32))) (lv' := [(12, .int (x12_449 + (1 : Int32))), (5, .int (1 : Int32)), (0, .ref aX), (1, .ref aL), (2, .ref aH2), (3, .int x3_148), (4, .int x4_148), (6, .int x6_265), (7, .int x7_265), (8, .int x8_265), (9, .int x9_265), (10, .int x10_265), (11, .int x11_265), (15, .int x15_449)]) C 249 rfl 12 rfl rfl (by decide) rfl ?_
              refine J_goto (pc := 482) (tgt := 265) C 250 rfl rfl ?_
              exact J_sub [2, 3, 4, 5, 6, 1, 7, 8, 9, 10, 11, 12, 0] rfl (ih265 vL_449 vH_449 (1 : Int32) (x12_449 + (1 : Int32)) h)
            · rw [if_neg c20] at h
              refine J_iload (pc := 454) C 236 rfl 4 rfl ?_
              refine J_if_eq (pc := 456) (tgt := 472) C 237 rfl rfl (fun c21 => ?_) (fun c21 => ?_)
              · rw [if_pos c21] at h
                refine J_iconst (pc := 472) (v := (1 : Int32)) C 245 rfl rfl ?_
                refine J_goto (pc := 473) (tgt := 477) C 246 rfl rfl ?_
                refine J_istore (pc := 477) (lv' := [(5, .int (1 : Int32)), (0, .ref aX), (1, .ref aL), (2, .ref aH2), (3, .int x3_148), (4, .int x4_148), (6, .int x6_265), (7, .int x7_265), (8, .int x8_265), (9, .int x9_265), (10, .int x10_265), (11, .int x11_265), (12, .int x12_449), (15, .int x15_449)]) C 248 rfl (by decide) rfl ?_
                refine J_iinc (pc := 479) (v := (x12_449 + (1 : Int32))) (lv' := [(12, .int (x12_449 + (1 : Int32))), (5, .int (1 : Int32)), (0, .ref aX), (1, .ref aL), (2, .ref aH2), (3, .int x3_148), (4, .int x4_148), (6, .int x6_265), (7, .int x7_265), (8, .int x8_265), (9, .int x9_265), (10, .int x10_265), (11, .int x11_265), (15, .int x15_449)]) C 249 rfl 12 rfl rfl (by decide) rfl ?_
                refine J_goto (pc := 482) (tgt := 265) C 250 rfl rfl ?_
                exact J_sub [2, 3, 4, 5, 6, 1, 7, 8, 9, 10, 11, 12, 0] rfl (ih265 vL_449 vH_449 (1 : Int32) (x12_449 + (1 : Int32)) h)
              · rw [if_neg c21] at h
                refine J_iload (pc := 459) C 238 rfl 5 rfl ?_
                refine J_bipush (pc := 461) (v := (6 : Int32)) C 239 rfl rfl ?_
                refine J_irem (pc := 463) C 240 rfl (by decide) ?_
                refine J_iload (pc := 464) C 241 rfl 11 rfl ?_
                refine J_bipush (pc := 466) (v := (6 : Int32)) C 242 rfl rfl ?_
                refine J_irem (pc := 468) C 243 rfl (by decide) ?_
                refine J_icmp_eq (pc := 469) (tgt := 476) C 244 rfl rfl (fun c22 => ?_) (fun c22 => ?_)
                · rw [if_pos c22] at h
                  refine J_iconst (pc := 476) (v := (0 : Int32)) C 247 rfl rfl ?_
                  refine J_istore (pc := 477) (lv' := [(5, .int (0 : Int32)), (0, .ref aX), (1, .ref aL), (2, .ref aH2), (3, .int x3_148), (4, .int x4_148), (6, .int x6_265), (7, .int x7_265), (8, .int x8_265), (9, .int x9_265), (10, .int x10_265), (11, .int x11_265), (12, .int x12_449), (15, .int x15_449)]) C 248 rfl (by decide) rfl ?_
                  refine J_iinc (pc := 479) (v := (x12_449 + (1 : Int32))) (lv' := [(12, .int (x12_449 + (1 : Int32))), (5, .int (0 : Int32)), (0, .ref aX), (1, .ref aL), (2, .ref aH2), (3, .int x3_148), (4, .int x4_148), (6, .int x6_265), (7, .int x7_265), (8, .int x8_265), (9, .int x9_265), (10, .int x10_265), (11, .int x11_265), (15, .int x15_449)]) C 249 rfl 12 rfl rfl (by decide) rfl ?_
                  refine J_goto (pc := 482) (tgt := 265) C 250 rfl rfl ?_
                  exact J_sub [2, 3, 4, 5, 6, 1, 7, 8, 9, 10, 11, 12, 0] rfl (ih265 vL_449 vH_449 (0 : Int32) (x12_449 + (1 : Int32)) h)
                · rw [if_neg c22] at h
                  refine J_iconst (pc := 472) (v := (1 : Int32)) C 245 rfl rfl ?_
                  refine J_goto (pc := 473) (tgt := 477) C 246 rfl rfl ?_
                  refine J_istore (pc := 477) (lv' := [(5, .int (1 : Int32)), (0, .ref aX), (1, .ref aL), (2, .ref aH2), (3, .int x3_148), (4, .int x4_148), (6, .int x6_265), (7, .int x7_265), (8, .int x8_265), (9, .int x9_265), (10, .int x10_265), (11, .int x11_265), (12, .int x12_449), (15, .int x15_449)]) C 248 rfl (by decide) rfl ?_
                  refine J_iinc (pc := 479) (v := (x12_449 + (1 : Int32))) (lv' := [(12, .int (x12_449 + (1 : Int32))), (5, .int (1 : Int32)), (0, .ref aX), (1, .ref aL), (2, .ref aH2), (3, .int x3_148), (4, .int x4_148), (6, .int x6_265), (7, .int x7_265), (8, .int x8_265), (9, .int x9_265), (10, .int x10_265), (11, .int x11_265), (15, .int x15_449)]) C 249 rfl 12 rfl rfl (by decide) rfl ?_
                  refine J_goto (pc := 482) (tgt := 265) C 250 rfl rfl ?_
                  exact J_sub [2, 3, 4, 5, 6, 1, 7, 8, 9, 10, 11, 12, 0] rfl (ih265 vL_449 vH_449 (1 : Int32) (x12_449 + (1 : Int32)) h)
          have B396 : ∀ (vL_396 : JV) (vH_396 : JV) (x12_396 : Int32) (x13_396 : Int32) (y0_396 : Int32), f_L_areSeated_K396 vT vS vP hA hV hZ (fun vL_148 vH_148 x5_148 x6_148 => f_L_areSeated_L148 vT vS vP hA hV hZ x3_148 x4_148 n148 vL_148 vH_148 x5_148 x6_148) (fun vL_265 vH_265 x5_265 x12_265 => f_L_areSeated_L265 vT vS vP hA hV hZ (fun vL_148 vH_148 x5_148 x6_148 => f_L_areSeated_L148 vT vS vP hA hV hZ x3_148 x4_148 n148 vL_148 vH_148 x5_148 x6_148) x3_148 x4_148 x6_265 x7_265 x8_265 x9_265 x10_265 x11_265 n265 vL_265 vH_265 x5_265 x12_265) vL_396 vH_396 x3_148 x4_148 x6_265 x7_265 x8_265 x9_265 x10_265 x11_265 x12_396 x13_396 y0_396 = some Rz → J l { frames := 8, cells := 2, slots := 96, locals := 182 } G 16 X (QM X G 2 96 (some (.int (Rz.1))) (wEx aX (aT 0) (aT2 0) (aS 0) (aS2 0) (aP 0) (aH 0) aB aU ++ (wSeat G aT (aS 0) (vT 1) (vT 2) (vT 3) (vT 4 0) (vT 5 0) (vT 6) (vT 7) (vT 8) ++ (wSch G aS (vS 0) (vS 1) (vS 2) (vS 3) (vS 4) (vS 5) (vS 6) (vS 7) (vS 8 0) (vS 9 0) ++ (wPad G aP (vP 0) (vP 1 0) (vP 2) (vP 3) (vP 4) (vP 5 0) (vP 6 0) (vP 7 0) (vP 8 0) (vP 9 0) ++ (wHis G aH hA hV (hZ 1 0))))))) 2 96 396 [(0, .ref aX), (1, .ref aL), (2, .ref aH2), (3, .int x3_148), (4, .int x4_148), (6, .int x6_265), (7, .int x7_265), (8, .int x8_265), (9, .int x9_265), (10, .int x10_265), (11, .int x11_265), (12, .int x12_396), (13, .int x13_396)] [.int y0_396] (wEx aX (aT 0) (aT2 0) (aS 0) (aS2 0) (aP 0) (aH 0) aB aU ++ (wSeat G aT (aS 0) (vT 1) (vT 2) (vT 3) (vT 4 0) (vT 5 0) (vT 6) (vT 7) (vT 8) ++ (wSch G aS (vS 0) (vS 1) (vS 2) (vS 3) (vS 4) (vS 5) (vS 6) (vS 7) (vS 8 0) (vS 9 0) ++ (wPad G aP (vP 0) (vP 1 0) (vP 2) (vP 3) (vP 4) (vP 5 0) (vP 6 0) (vP 7 0) (vP 8 0) (vP 9 0) ++ (wHis G aH hA hV (hZ 1 0) ++ (wArr G aL (vL_396 0) ++ (wArr G aH2 (vH_396 0)))))))) := by
            intro vL_396 vH_396 x12_396 x13_396 y0_396 h
            unfold f_L_areSeated_K396 at h
            refine J_istore (pc := 396) (lv' := [(15, .int y0_396), (0, .ref aX), (1, .ref aL), (2, .ref aH2), (3, .int x3_148), (4, .int x4_148), (6, .int x6_265), (7, .int x7_265), (8, .int x8_265), (9, .int x9_265), (10, .int x10_265), (11, .int x11_265), (12, .int x12_396), (13, .int x13_396)]) C 204 rfl (by decide) rfl ?_
            refine J_iload (pc := 398) C 205 rfl 13 rfl ?_
            refine J_iload (pc := 400) C 206 rfl 7 rfl ?_
            refine J_icmp_ne (pc := 402) (tgt := 449) C 207 rfl rfl (fun c19 => ?_) (fun c19 => ?_)
            · rw [if_neg c19] at h
              exact J_sub [1, 2, 3, 4, 5, 6, 7, 8, 9, 10, 11, 12, 0] rfl (B449 vL_396 vH_396 x12_396 y0_396 h)
            · rw [if_pos c19] at h
              refine J_iload (pc := 405) C 208 rfl 11 rfl ?_
              refine J_iload_n (pc := 407) C 209 rfl 4 rfl rfl ?_
              refine J_iadd (pc := 408) C 210 rfl  ?_
              refine J_aload_n (pc := 409) C 211 rfl 1 rfl rfl ?_
              refine J_iload (pc := 410) C 212 rfl 12 rfl ?_
              refine J_bipush (pc := 412) (v := (6 : Int32)) C 213 rfl rfl ?_
              refine J_idiv (pc := 414) C 214 rfl (by decide) ?_
              refine J_iload (pc := 415) C 215 rfl 12 rfl ?_
              refine J_bipush (pc := 417) (v := (6 : Int32)) C 216 rfl rfl ?_
              refine J_irem (pc := 419) C 217 rfl (by decide) ?_
              refine J_iconst (pc := 420) (v := (0 : Int32)) C 218 rfl rfl ?_
              obtain ⟨q23, hq23, h⟩ := bnd h
              refine J_callV (pc := 421) (st2 := [.int (x11_265 + x3_148)]) (st3 := [.int q23, .int (x11_265 + x3_148)]) (ws2 := (wEx aX (aT 0) (aT2 0) (aS 0) (aS2 0) (aP 0) (aH 0) aB aU ++ (wSeat G aT (aS 0) (vT 1) (vT 2) (vT 3) (vT 4 0) (vT 5 0) (vT 6) (vT 7) (vT 8) ++ (wSch G aS (vS 0) (vS 1) (vS 2) (vS 3) (vS 4) (vS 5) (vS 6) (vS 7) (vS 8 0) (vS 9 0) ++ (wPad G aP (vP 0) (vP 1 0) (vP 2) (vP 3) (vP 4) (vP 5 0) (vP 6 0) (vP 7 0) (vP 8 0) (vP 9 0) ++ (wHis G aH hA hV (hZ 1 0) ++ (wArr G aL (vL_396 0) ++ (wArr G aH2 (vH_396 0))))))))) C 219 rfl (c_X4_sitting aX aT aS aT2 aS2 aP aH aB aU vT vS (x12_396 / (6 : Int32)) (x12_396 - x12_396 / (6 : Int32) * (6 : Int32)) (0 : Int32) hq23) V_X4_sitting k345 i_X4_sitting s_X4_sitting rfl rfl ⟨Nat.le_of_ble_eq_true rfl, Nat.le_of_ble_eq_true rfl⟩ (Nat.le_of_ble_eq_true rfl) ⟨Nat.le_refl _, Nat.le_refl _⟩ 0 4 rfl rfl rfl (isC := [0, 1, 2, 3, 4, 5, 6, 7, 8, 9, 10, 11, 12, 13, 14, 15, 16]) (isR := [17, 18, 19, 20, 21, 22, 23, 24, 25, 26, 27, 28, 29, 30, 31, 32, 33, 34, 35, 36, 37, 38, 39, 40, 41, 42, 43, 44, 45, 46, 47, 48, 49, 50, 51, 52, 53, 54, 55, 56, 57, 58, 59, 60, 61, 62, 63, 64, 65, 66, 67, 68, 69, 70, 71, 72, 73, 74, 75, 76, 77, 78, 79]) (N := 80) ⟨rfl, by decide +kernel, rfl, by decide +kernel, rfl, ⟨⟨_, rfl, rfl⟩, ⟨⟨_, rfl, rfl⟩, ⟨⟨_, rfl, rfl⟩, ⟨⟨_, rfl, rfl⟩, ⟨⟨_, rfl, rfl⟩, ⟨⟨_, rfl, rfl⟩, ⟨⟨_, rfl, rfl⟩, ⟨⟨_, rfl, rfl⟩, ⟨⟨_, rfl, rfl⟩, ⟨⟨_, rfl, rfl⟩, ⟨⟨_, rfl, rfl⟩, ⟨⟨_, rfl, rfl⟩, ⟨⟨_, rfl, rfl⟩, ⟨⟨_, rfl, rfl⟩, ⟨⟨_, rfl, rfl⟩, ⟨⟨_, rfl, rfl⟩, ⟨⟨_, rfl, rfl⟩, ⟨⟨_, rfl, rfl⟩, ⟨⟨_, rfl, rfl⟩, ⟨⟨_, rfl, rfl⟩, ⟨⟨_, rfl, rfl⟩, ⟨⟨_, rfl, rfl⟩, ⟨⟨_, rfl, rfl⟩, ⟨⟨_, rfl, rfl⟩, ⟨⟨_, rfl, rfl⟩, ⟨⟨_, rfl, rfl⟩, ⟨⟨_, rfl, rfl⟩, ⟨⟨_, rfl, rfl⟩, ⟨⟨_, rfl, rfl⟩, ⟨⟨_, rfl, rfl⟩, ⟨⟨_, rfl, rfl⟩, ⟨⟨_, rfl, rfl⟩, ⟨⟨_, rfl, rfl⟩, ⟨⟨_, rfl, rfl⟩, ⟨⟨_, rfl, rfl⟩, ⟨⟨_, rfl, rfl⟩, ⟨⟨_, rfl, rfl⟩, ⟨⟨_, rfl, rfl⟩, ⟨⟨_, rfl, rfl⟩, ⟨⟨_, rfl, rfl⟩, ⟨⟨_, rfl, rfl⟩, ⟨⟨_, rfl, rfl⟩, ⟨⟨_, rfl, rfl⟩, ⟨⟨_, rfl, rfl⟩, ⟨⟨_, rfl, rfl⟩, ⟨⟨_, rfl, rfl⟩, ⟨⟨_, rfl, rfl⟩, ⟨⟨_, rfl, rfl⟩, ⟨⟨_, rfl, rfl⟩, ⟨⟨_, rfl, rfl⟩, ⟨⟨_, rfl, rfl⟩, ⟨⟨_, rfl, rfl⟩, ⟨⟨_, rfl, rfl⟩, ⟨⟨_, rfl, rfl⟩, ⟨⟨_, rfl, rfl⟩, ⟨⟨_, rfl, rfl⟩, ⟨⟨_, rfl, rfl⟩, ⟨⟨_, rfl, rfl⟩, ⟨⟨_, rfl, rfl⟩, ⟨⟨_, rfl, rfl⟩, ⟨⟨_, rfl, rfl⟩, ⟨⟨_, rfl, rfl⟩, ⟨⟨_, rfl, rfl⟩, trivial⟩⟩⟩⟩⟩⟩⟩⟩⟩⟩⟩⟩⟩⟩⟩⟩⟩⟩⟩⟩⟩⟩⟩⟩⟩⟩⟩⟩⟩⟩⟩⟩⟩⟩⟩⟩⟩⟩⟩⟩⟩⟩⟩⟩⟩⟩⟩⟩⟩⟩⟩⟩⟩⟩⟩⟩⟩⟩⟩⟩⟩⟩⟩⟩ rfl ?_
              refine J_icmp_le (pc := 424) (tgt := 449) C 220 rfl rfl (fun c24 => ?_) (fun c24 => ?_)
              · rw [if_pos c24] at h
                exact J_sub [1, 2, 3, 4, 5, 6, 7, 8, 9, 10, 11, 12, 0] rfl (B449 vL_396 vH_396 x12_396 y0_396 h)
              · rw [if_neg c24] at h
                refine J_aload_n (pc := 427) C 221 rfl 1 rfl rfl ?_
                refine J_iload (pc := 428) C 222 rfl 12 rfl ?_
                refine J_bipush (pc := 430) (v := (6 : Int32)) C 223 rfl rfl ?_
                refine J_idiv (pc := 432) C 224 rfl (by decide) ?_
                refine J_iload (pc := 433) C 225 rfl 12 rfl ?_
                refine J_bipush (pc := 435) (v := (6 : Int32)) C 226 rfl rfl ?_
                refine J_irem (pc := 437) C 227 rfl (by decide) ?_
                refine J_iconst (pc := 438) (v := (1 : Int32)) C 228 rfl rfl ?_
                obtain ⟨q25, hq25, h⟩ := bnd h
                refine J_callV (pc := 439) (st2 := []) (st3 := [.int q25]) (ws2 := (wEx aX (aT 0) (aT2 0) (aS 0) (aS2 0) (aP 0) (aH 0) aB aU ++ (wSeat G aT (aS 0) (vT 1) (vT 2) (vT 3) (vT 4 0) (vT 5 0) (vT 6) (vT 7) (vT 8) ++ (wSch G aS (vS 0) (vS 1) (vS 2) (vS 3) (vS 4) (vS 5) (vS 6) (vS 7) (vS 8 0) (vS 9 0) ++ (wPad G aP (vP 0) (vP 1 0) (vP 2) (vP 3) (vP 4) (vP 5 0) (vP 6 0) (vP 7 0) (vP 8 0) (vP 9 0) ++ (wHis G aH hA hV (hZ 1 0) ++ (wArr G aL (vL_396 0) ++ (wArr G aH2 (vH_396 0))))))))) C 229 rfl (c_X4_sitting aX aT aS aT2 aS2 aP aH aB aU vT vS (x12_396 / (6 : Int32)) (x12_396 - x12_396 / (6 : Int32) * (6 : Int32)) (1 : Int32) hq25) V_X4_sitting k345 i_X4_sitting s_X4_sitting rfl rfl ⟨Nat.le_of_ble_eq_true rfl, Nat.le_of_ble_eq_true rfl⟩ (Nat.le_of_ble_eq_true rfl) ⟨Nat.le_refl _, Nat.le_refl _⟩ 0 4 rfl rfl rfl (isC := [0, 1, 2, 3, 4, 5, 6, 7, 8, 9, 10, 11, 12, 13, 14, 15, 16]) (isR := [17, 18, 19, 20, 21, 22, 23, 24, 25, 26, 27, 28, 29, 30, 31, 32, 33, 34, 35, 36, 37, 38, 39, 40, 41, 42, 43, 44, 45, 46, 47, 48, 49, 50, 51, 52, 53, 54, 55, 56, 57, 58, 59, 60, 61, 62, 63, 64, 65, 66, 67, 68, 69, 70, 71, 72, 73, 74, 75, 76, 77, 78, 79]) (N := 80) ⟨rfl, by decide +kernel, rfl, by decide +kernel, rfl, ⟨⟨_, rfl, rfl⟩, ⟨⟨_, rfl, rfl⟩, ⟨⟨_, rfl, rfl⟩, ⟨⟨_, rfl, rfl⟩, ⟨⟨_, rfl, rfl⟩, ⟨⟨_, rfl, rfl⟩, ⟨⟨_, rfl, rfl⟩, ⟨⟨_, rfl, rfl⟩, ⟨⟨_, rfl, rfl⟩, ⟨⟨_, rfl, rfl⟩, ⟨⟨_, rfl, rfl⟩, ⟨⟨_, rfl, rfl⟩, ⟨⟨_, rfl, rfl⟩, ⟨⟨_, rfl, rfl⟩, ⟨⟨_, rfl, rfl⟩, ⟨⟨_, rfl, rfl⟩, ⟨⟨_, rfl, rfl⟩, ⟨⟨_, rfl, rfl⟩, ⟨⟨_, rfl, rfl⟩, ⟨⟨_, rfl, rfl⟩, ⟨⟨_, rfl, rfl⟩, ⟨⟨_, rfl, rfl⟩, ⟨⟨_, rfl, rfl⟩, ⟨⟨_, rfl, rfl⟩, ⟨⟨_, rfl, rfl⟩, ⟨⟨_, rfl, rfl⟩, ⟨⟨_, rfl, rfl⟩, ⟨⟨_, rfl, rfl⟩, ⟨⟨_, rfl, rfl⟩, ⟨⟨_, rfl, rfl⟩, ⟨⟨_, rfl, rfl⟩, ⟨⟨_, rfl, rfl⟩, ⟨⟨_, rfl, rfl⟩, ⟨⟨_, rfl, rfl⟩, ⟨⟨_, rfl, rfl⟩, ⟨⟨_, rfl, rfl⟩, ⟨⟨_, rfl, rfl⟩, ⟨⟨_, rfl, rfl⟩, ⟨⟨_, rfl, rfl⟩, ⟨⟨_, rfl, rfl⟩, ⟨⟨_, rfl, rfl⟩, ⟨⟨_, rfl, rfl⟩, ⟨⟨_, rfl, rfl⟩, ⟨⟨_, rfl, rfl⟩, ⟨⟨_, rfl, rfl⟩, ⟨⟨_, rfl, rfl⟩, ⟨⟨_, rfl, rfl⟩, ⟨⟨_, rfl, rfl⟩, ⟨⟨_, rfl, rfl⟩, ⟨⟨_, rfl, rfl⟩, ⟨⟨_, rfl, rfl⟩, ⟨⟨_, rfl, rfl⟩, ⟨⟨_, rfl, rfl⟩, ⟨⟨_, rfl, rfl⟩, ⟨⟨_, rfl, rfl⟩, ⟨⟨_, rfl, rfl⟩, ⟨⟨_, rfl, rfl⟩, ⟨⟨_, rfl, rfl⟩, ⟨⟨_, rfl, rfl⟩, ⟨⟨_, rfl, rfl⟩, ⟨⟨_, rfl, rfl⟩, ⟨⟨_, rfl, rfl⟩, ⟨⟨_, rfl, rfl⟩, trivial⟩⟩⟩⟩⟩⟩⟩⟩⟩⟩⟩⟩⟩⟩⟩⟩⟩⟩⟩⟩⟩⟩⟩⟩⟩⟩⟩⟩⟩⟩⟩⟩⟩⟩⟩⟩⟩⟩⟩⟩⟩⟩⟩⟩⟩⟩⟩⟩⟩⟩⟩⟩⟩⟩⟩⟩⟩⟩⟩⟩⟩⟩⟩⟩ rfl ?_
                refine J_iload_n (pc := 442) C 230 rfl 4 rfl rfl ?_
                refine J_iadd (pc := 443) C 231 rfl  ?_
                refine J_iload (pc := 444) C 232 rfl 10 rfl ?_
                refine J_icmp_gt (pc := 446) (tgt := 476) C 233 rfl rfl (fun c26 => ?_) (fun c26 => ?_)
                · rw [if_pos c26] at h
                  refine J_iconst (pc := 476) (v := (0 : Int32)) C 247 rfl rfl ?_
                  refine J_istore (pc := 477) (lv' := [(5, .int (0 : Int32)), (15, .int y0_396), (0, .ref aX), (1, .ref aL), (2, .ref aH2), (3, .int x3_148), (4, .int x4_148), (6, .int x6_265), (7, .int x7_265), (8, .int x8_265), (9, .int x9_265), (10, .int x10_265), (11, .int x11_265), (12, .int x12_396), (13, .int x13_396)]) C 248 rfl (by decide) rfl ?_
                  refine J_iinc (pc := 479) (v := (x12_396 + (1 : Int32))) (lv' := [(12, .int (x12_396 + (1 : Int32))), (5, .int (0 : Int32)), (15, .int y0_396), (0, .ref aX), (1, .ref aL), (2, .ref aH2), (3, .int x3_148), (4, .int x4_148), (6, .int x6_265), (7, .int x7_265), (8, .int x8_265), (9, .int x9_265), (10, .int x10_265), (11, .int x11_265), (13, .int x13_396)]) C 249 rfl 13 rfl rfl (by decide) rfl ?_
                  refine J_goto (pc := 482) (tgt := 265) C 250 rfl rfl ?_
                  exact J_sub [3, 4, 5, 6, 7, 1, 8, 9, 10, 11, 12, 13, 0] rfl (ih265 vL_396 vH_396 (0 : Int32) (x12_396 + (1 : Int32)) h)
                · rw [if_neg c26] at h
                  exact J_sub [1, 2, 3, 4, 5, 6, 7, 8, 9, 10, 11, 12, 0] rfl (B449 vL_396 vH_396 x12_396 y0_396 h)
          have B395 : ∀ (vL_395 : JV) (vH_395 : JV) (x12_395 : Int32) (x13_395 : Int32), f_L_areSeated_K395 vT vS vP hA hV hZ (fun vL_148 vH_148 x5_148 x6_148 => f_L_areSeated_L148 vT vS vP hA hV hZ x3_148 x4_148 n148 vL_148 vH_148 x5_148 x6_148) (fun vL_265 vH_265 x5_265 x12_265 => f_L_areSeated_L265 vT vS vP hA hV hZ (fun vL_148 vH_148 x5_148 x6_148 => f_L_areSeated_L148 vT vS vP hA hV hZ x3_148 x4_148 n148 vL_148 vH_148 x5_148 x6_148) x3_148 x4_148 x6_265 x7_265 x8_265 x9_265 x10_265 x11_265 n265 vL_265 vH_265 x5_265 x12_265) vL_395 vH_395 x3_148 x4_148 x6_265 x7_265 x8_265 x9_265 x10_265 x11_265 x12_395 x13_395 = some Rz → J l { frames := 8, cells := 2, slots := 96, locals := 182 } G 16 X (QM X G 2 96 (some (.int (Rz.1))) (wEx aX (aT 0) (aT2 0) (aS 0) (aS2 0) (aP 0) (aH 0) aB aU ++ (wSeat G aT (aS 0) (vT 1) (vT 2) (vT 3) (vT 4 0) (vT 5 0) (vT 6) (vT 7) (vT 8) ++ (wSch G aS (vS 0) (vS 1) (vS 2) (vS 3) (vS 4) (vS 5) (vS 6) (vS 7) (vS 8 0) (vS 9 0) ++ (wPad G aP (vP 0) (vP 1 0) (vP 2) (vP 3) (vP 4) (vP 5 0) (vP 6 0) (vP 7 0) (vP 8 0) (vP 9 0) ++ (wHis G aH hA hV (hZ 1 0))))))) 2 96 395 [(0, .ref aX), (1, .ref aL), (2, .ref aH2), (3, .int x3_148), (4, .int x4_148), (6, .int x6_265), (7, .int x7_265), (8, .int x8_265), (9, .int x9_265), (10, .int x10_265), (11, .int x11_265), (12, .int x12_395), (13, .int x13_395)] [] (wEx aX (aT 0) (aT2 0) (aS 0) (aS2 0) (aP 0) (aH 0) aB aU ++ (wSeat G aT (aS 0) (vT 1) (vT 2) (vT 3) (vT 4 0) (vT 5 0) (vT 6) (vT 7) (vT 8) ++ (wSch G aS (vS 0) (vS 1) (vS 2) (vS 3) (vS 4) (vS 5) (vS 6) (vS 7) (vS 8 0) (vS 9 0) ++ (wPad G aP (vP 0) (vP 1 0) (vP 2) (vP 3) (vP 4) (vP 5 0) (vP 6 0) (vP 7 0) (vP 8 0) (vP 9 0) ++ (wHis G aH hA hV (hZ 1 0) ++ (wArr G aL (vL_395 0) ++ (wArr G aH2 (vH_395 0)))))))) := by
            intro vL_395 vH_395 x12_395 x13_395 h
            unfold f_L_areSeated_K395 at h
            refine J_iconst (pc := 395) (v := (0 : Int32)) C 203 rfl rfl ?_
            exact J_sub [0, 1, 2, 3, 4, 5, 6, 7, 8, 9, 10, 11, 12] rfl (B396 vL_395 vH_395 x12_395 x13_395 (0 : Int32) h)
          have B391 : ∀ (vL_391 : JV) (vH_391 : JV) (x12_391 : Int32) (x13_391 : Int32), f_L_areSeated_K391 vT vS vP hA hV hZ (fun vL_148 vH_148 x5_148 x6_148 => f_L_areSeated_L148 vT vS vP hA hV hZ x3_148 x4_148 n148 vL_148 vH_148 x5_148 x6_148) (fun vL_265 vH_265 x5_265 x12_265 => f_L_areSeated_L265 vT vS vP hA hV hZ (fun vL_148 vH_148 x5_148 x6_148 => f_L_areSeated_L148 vT vS vP hA hV hZ x3_148 x4_148 n148 vL_148 vH_148 x5_148 x6_148) x3_148 x4_148 x6_265 x7_265 x8_265 x9_265 x10_265 x11_265 n265 vL_265 vH_265 x5_265 x12_265) vL_391 vH_391 x3_148 x4_148 x6_265 x7_265 x8_265 x9_265 x10_265 x11_265 x12_391 x13_391 = some Rz → J l { frames := 8, cells := 2, slots := 96, locals := 182 } G 16 X (QM X G 2 96 (some (.int (Rz.1))) (wEx aX (aT 0) (aT2 0) (aS 0) (aS2 0) (aP 0) (aH 0) aB aU ++ (wSeat G aT (aS 0) (vT 1) (vT 2) (vT 3) (vT 4 0) (vT 5 0) (vT 6) (vT 7) (vT 8) ++ (wSch G aS (vS 0) (vS 1) (vS 2) (vS 3) (vS 4) (vS 5) (vS 6) (vS 7) (vS 8 0) (vS 9 0) ++ (wPad G aP (vP 0) (vP 1 0) (vP 2) (vP 3) (vP 4) (vP 5 0) (vP 6 0) (vP 7 0) (vP 8 0) (vP 9 0) ++ (wHis G aH hA hV (hZ 1 0))))))) 2 96 391 [(0, .ref aX), (1, .ref aL), (2, .ref aH2), (3, .int x3_148), (4, .int x4_148), (6, .int x6_265), (7, .int x7_265), (8, .int x8_265), (9, .int x9_265), (10, .int x10_265), (11, .int x11_265), (12, .int x12_391), (13, .int x13_391)] [] (wEx aX (aT 0) (aT2 0) (aS 0) (aS2 0) (aP 0) (aH 0) aB aU ++ (wSeat G aT (aS 0) (vT 1) (vT 2) (vT 3) (vT 4 0) (vT 5 0) (vT 6) (vT 7) (vT 8) ++ (wSch G aS (vS 0) (vS 1) (vS 2) (vS 3) (vS 4) (vS 5) (vS 6) (vS 7) (vS 8 0) (vS 9 0) ++ (wPad G aP (vP 0) (vP 1 0) (vP 2) (vP 3) (vP 4) (vP 5 0) (vP 6 0) (vP 7 0) (vP 8 0) (vP 9 0) ++ (wHis G aH hA hV (hZ 1 0) ++ (wArr G aL (vL_391 0) ++ (wArr G aH2 (vH_391 0)))))))) := by
            intro vL_391 vH_391 x12_391 x13_391 h
            unfold f_L_areSeated_K391 at h
            refine J_iconst (pc := 391) (v := (1 : Int32)) C 201 rfl rfl ?_
            refine J_goto (pc := 392) (tgt := 396) C 202 rfl rfl ?_
            exact J_sub [0, 1, 2, 3, 4, 5, 6, 7, 8, 9, 10, 11, 12] rfl (B396 vL_391 vH_391 x12_391 x13_391 (1 : Int32) h)
          have B371 : ∀ (vL_371 : JV) (vH_371 : JV) (x12_371 : Int32) (x13_371 : Int32), f_L_areSeated_K371 vT vS vP hA hV hZ (fun vL_148 vH_148 x5_148 x6_148 => f_L_areSeated_L148 vT vS vP hA hV hZ x3_148 x4_148 n148 vL_148 vH_148 x5_148 x6_148) (fun vL_265 vH_265 x5_265 x12_265 => f_L_areSeated_L265 vT vS vP hA hV hZ (fun vL_148 vH_148 x5_148 x6_148 => f_L_areSeated_L148 vT vS vP hA hV hZ x3_148 x4_148 n148 vL_148 vH_148 x5_148 x6_148) x3_148 x4_148 x6_265 x7_265 x8_265 x9_265 x10_265 x11_265 n265 vL_265 vH_265 x5_265 x12_265) vL_371 vH_371 x3_148 x4_148 x6_265 x7_265 x8_265 x9_265 x10_265 x11_265 x12_371 x13_371 = some Rz → J l { frames := 8, cells := 2, slots := 96, locals := 182 } G 16 X (QM X G 2 96 (some (.int (Rz.1))) (wEx aX (aT 0) (aT2 0) (aS 0) (aS2 0) (aP 0) (aH 0) aB aU ++ (wSeat G aT (aS 0) (vT 1) (vT 2) (vT 3) (vT 4 0) (vT 5 0) (vT 6) (vT 7) (vT 8) ++ (wSch G aS (vS 0) (vS 1) (vS 2) (vS 3) (vS 4) (vS 5) (vS 6) (vS 7) (vS 8 0) (vS 9 0) ++ (wPad G aP (vP 0) (vP 1 0) (vP 2) (vP 3) (vP 4) (vP 5 0) (vP 6 0) (vP 7 0) (vP 8 0) (vP 9 0) ++ (wHis G aH hA hV (hZ 1 0))))))) 2 96 371 [(0, .ref aX), (1, .ref aL), (2, .ref aH2), (3, .int x3_148), (4, .int x4_148), (6, .int x6_265), (7, .int x7_265), (8, .int x8_265), (9, .int x9_265), (10, .int x10_265), (11, .int x11_265), (12, .int x12_371), (13, .int x13_371)] [] (wEx aX (aT 0) (aT2 0) (aS 0) (aS2 0) (aP 0) (aH 0) aB aU ++ (wSeat G aT (aS 0) (vT 1) (vT 2) (vT 3) (vT 4 0) (vT 5 0) (vT 6) (vT 7) (vT 8) ++ (wSch G aS (vS 0) (vS 1) (vS 2) (vS 3) (vS 4) (vS 5) (vS 6) (vS 7) (vS 8 0) (vS 9 0) ++ (wPad G aP (vP 0) (vP 1 0) (vP 2) (vP 3) (vP 4) (vP 5 0) (vP 6 0) (vP 7 0) (vP 8 0) (vP 9 0) ++ (wHis G aH hA hV (hZ 1 0) ++ (wArr G aL (vL_371 0) ++ (wArr G aH2 (vH_371 0)))))))) := by
            intro vL_371 vH_371 x12_371 x13_371 h
            unfold f_L_areSeated_K371 at h
            refine J_iload (pc := 371) C 191 rfl 12 rfl ?_
            refine J_iload (pc := 373) C 192 rfl 6 rfl ?_
            refine J_isub (pc := 375) C 193 rfl  ?_
            refine J_iload (pc := 376) C 194 rfl 8 rfl ?_
            refine J_icmp_eq (pc := 378) (tgt := 391) C 195 rfl rfl (fun c30 => ?_) (fun c30 => ?_)
            · rw [if_pos c30] at h
              exact J_sub [0, 1, 2, 3, 4, 5, 6, 7, 8, 9, 10, 11, 12] rfl (B391 vL_371 vH_371 x12_371 x13_371 h)
            · rw [if_neg c30] at h
              refine J_iload (pc := 381) C 196 rfl 6 rfl ?_
              refine J_iload (pc := 383) C 197 rfl 12 rfl ?_
              refine J_isub (pc := 385) C 198 rfl  ?_
              refine J_iload (pc := 386) C 199 rfl 8 rfl ?_
              refine J_icmp_ne (pc := 388) (tgt := 395) C 200 rfl rfl (fun c31 => ?_) (fun c31 => ?_)
              · rw [if_neg c31] at h
                exact J_sub [0, 1, 2, 3, 4, 5, 6, 7, 8, 9, 10, 11, 12] rfl (B395 vL_371 vH_371 x12_371 x13_371 h)
              · rw [if_pos c31] at h
                exact J_sub [0, 1, 2, 3, 4, 5, 6, 7, 8, 9, 10, 11, 12] rfl (B391 vL_371 vH_371 x12_371 x13_371 h)
          have B327 : ∀ (vL_327 : JV) (vH_327 : JV) (x12_327 : Int32) (x13_327 : Int32) (y0_327 : Int32), f_L_areSeated_K327 vT vS vP hA hV hZ (fun vL_148 vH_148 x5_148 x6_148 => f_L_areSeated_L148 vT vS vP hA hV hZ x3_148 x4_148 n148 vL_148 vH_148 x5_148 x6_148) (fun vL_265 vH_265 x5_265 x12_265 => f_L_areSeated_L265 vT vS vP hA hV hZ (fun vL_148 vH_148 x5_148 x6_148 => f_L_areSeated_L148 vT vS vP hA hV hZ x3_148 x4_148 n148 vL_148 vH_148 x5_148 x6_148) x3_148 x4_148 x6_265 x7_265 x8_265 x9_265 x10_265 x11_265 n265 vL_265 vH_265 x5_265 x12_265) vL_327 vH_327 x3_148 x4_148 x6_265 x7_265 x8_265 x9_265 x10_265 x11_265 x12_327 x13_327 y0_327 = some Rz → J l { frames := 8, cells := 2, slots := 96, locals := 182 } G 16 X (QM X G 2 96 (some (.int (Rz.1))) (wEx aX (aT 0) (aT2 0) (aS 0) (aS2 0) (aP 0) (aH 0) aB aU ++ (wSeat G aT (aS 0) (vT 1) (vT 2) (vT 3) (vT 4 0) (vT 5 0) (vT 6) (vT 7) (vT 8) ++ (wSch G aS (vS 0) (vS 1) (vS 2) (vS 3) (vS 4) (vS 5) (vS 6) (vS 7) (vS 8 0) (vS 9 0) ++ (wPad G aP (vP 0) (vP 1 0) (vP 2) (vP 3) (vP 4) (vP 5 0) (vP 6 0) (vP 7 0) (vP 8 0) (vP 9 0) ++ (wHis G aH hA hV (hZ 1 0))))))) 2 96 327 [(0, .ref aX), (1, .ref aL), (2, .ref aH2), (3, .int x3_148), (4, .int x4_148), (6, .int x6_265), (7, .int x7_265), (8, .int x8_265), (9, .int x9_265), (10, .int x10_265), (11, .int x11_265), (12, .int x12_327), (13, .int x13_327)] [.int y0_327] (wEx aX (aT 0) (aT2 0) (aS 0) (aS2 0) (aP 0) (aH 0) aB aU ++ (wSeat G aT (aS 0) (vT 1) (vT 2) (vT 3) (vT 4 0) (vT 5 0) (vT 6) (vT 7) (vT 8) ++ (wSch G aS (vS 0) (vS 1) (vS 2) (vS 3) (vS 4) (vS 5) (vS 6) (vS 7) (vS 8 0) (vS 9 0) ++ (wPad G aP (vP 0) (vP 1 0) (vP 2) (vP 3) (vP 4) (vP 5 0) (vP 6 0) (vP 7 0) (vP 8 0) (vP 9 0) ++ (wHis G aH hA hV (hZ 1 0) ++ (wArr G aL (vL_327 0) ++ (wArr G aH2 (vH_327 0)))))))) := by
            intro vL_327 vH_327 x12_327 x13_327 y0_327 h
            unfold f_L_areSeated_K327 at h
            refine J_istore (pc := 327) (lv' := [(14, .int y0_327), (0, .ref aX), (1, .ref aL), (2, .ref aH2), (3, .int x3_148), (4, .int x4_148), (6, .int x6_265), (7, .int x7_265), (8, .int x8_265), (9, .int x9_265), (10, .int x10_265), (11, .int x11_265), (12, .int x12_327), (13, .int x13_327)]) C 167 rfl (by decide) rfl ?_
            refine J_iload (pc := 329) C 168 rfl 0 rfl ?_
            refine J_if_eq (pc := 331) (tgt := 395) C 169 rfl rfl (fun c18 => ?_) (fun c18 => ?_)
            · rw [if_pos c18] at h
              exact J_sub [1, 2, 3, 4, 5, 6, 7, 8, 9, 10, 11, 12, 13] rfl (B395 vL_327 vH_327 x12_327 x13_327 h)
            · rw [if_neg c18] at h
              refine J_iload (pc := 334) C 170 rfl 13 rfl ?_
              refine J_bipush (pc := 336) (v := (64 : Int32)) C 171 rfl rfl ?_
              refine J_irem (pc := 338) C 172 rfl (by decide) ?_
              refine J_iload (pc := 339) C 173 rfl 9 rfl ?_
              obtain ⟨g27, h⟩ := gd_some h
              refine J_idiv (pc := 341) C 174 rfl g27 ?_
              refine J_iload (pc := 342) C 175 rfl 7 rfl ?_
              refine J_bipush (pc := 344) (v := (64 : Int32)) C 176 rfl rfl ?_
              refine J_irem (pc := 346) C 177 rfl (by decide) ?_
              refine J_iload (pc := 347) C 178 rfl 9 rfl ?_
              obtain ⟨g28, h⟩ := gd_some h
              refine J_idiv (pc := 349) C 179 rfl g28 ?_
              refine J_icmp_ne (pc := 350) (tgt := 371) C 180 rfl rfl (fun c29 => ?_) (fun c29 => ?_)
              · rw [if_neg c29] at h
                exact J_sub [1, 2, 3, 4, 5, 6, 7, 8, 9, 10, 11, 12, 13] rfl (B371 vL_327 vH_327 x12_327 x13_327 h)
              · rw [if_pos c29] at h
                refine J_iload (pc := 353) C 181 rfl 13 rfl ?_
                refine J_iload (pc := 355) C 182 rfl 7 rfl ?_
                refine J_isub (pc := 357) C 183 rfl  ?_
                refine J_iconst (pc := 358) (v := (1 : Int32)) C 184 rfl rfl ?_
                refine J_icmp_eq (pc := 359) (tgt := 391) C 185 rfl rfl (fun c32 => ?_) (fun c32 => ?_)
                · rw [if_pos c32] at h
                  exact J_sub [1, 2, 3, 4, 5, 6, 7, 8, 9, 10, 11, 12, 13] rfl (B391 vL_327 vH_327 x12_327 x13_327 h)
                · rw [if_neg c32] at h
                  refine J_iload (pc := 362) C 186 rfl 7 rfl ?_
                  refine J_iload (pc := 364) C 187 rfl 13 rfl ?_
                  refine J_isub (pc := 366) C 188 rfl  ?_
                  refine J_iconst (pc := 367) (v := (1 : Int32)) C 189 rfl rfl ?_
                  refine J_icmp_eq (pc := 368) (tgt := 391) C 190 rfl rfl (fun c33 => ?_) (fun c33 => ?_)
                  · rw [if_pos c33] at h
                    exact J_sub [1, 2, 3, 4, 5, 6, 7, 8, 9, 10, 11, 12, 13] rfl (B391 vL_327 vH_327 x12_327 x13_327 h)
                  · rw [if_neg c33] at h
                    exact J_sub [1, 2, 3, 4, 5, 6, 7, 8, 9, 10, 11, 12, 13] rfl (B371 vL_327 vH_327 x12_327 x13_327 h)
          have B326 : ∀ (vL_326 : JV) (vH_326 : JV) (x12_326 : Int32) (x13_326 : Int32), f_L_areSeated_K326 vT vS vP hA hV hZ (fun vL_148 vH_148 x5_148 x6_148 => f_L_areSeated_L148 vT vS vP hA hV hZ x3_148 x4_148 n148 vL_148 vH_148 x5_148 x6_148) (fun vL_265 vH_265 x5_265 x12_265 => f_L_areSeated_L265 vT vS vP hA hV hZ (fun vL_148 vH_148 x5_148 x6_148 => f_L_areSeated_L148 vT vS vP hA hV hZ x3_148 x4_148 n148 vL_148 vH_148 x5_148 x6_148) x3_148 x4_148 x6_265 x7_265 x8_265 x9_265 x10_265 x11_265 n265 vL_265 vH_265 x5_265 x12_265) vL_326 vH_326 x3_148 x4_148 x6_265 x7_265 x8_265 x9_265 x10_265 x11_265 x12_326 x13_326 = some Rz → J l { frames := 8, cells := 2, slots := 96, locals := 182 } G 16 X (QM X G 2 96 (some (.int (Rz.1))) (wEx aX (aT 0) (aT2 0) (aS 0) (aS2 0) (aP 0) (aH 0) aB aU ++ (wSeat G aT (aS 0) (vT 1) (vT 2) (vT 3) (vT 4 0) (vT 5 0) (vT 6) (vT 7) (vT 8) ++ (wSch G aS (vS 0) (vS 1) (vS 2) (vS 3) (vS 4) (vS 5) (vS 6) (vS 7) (vS 8 0) (vS 9 0) ++ (wPad G aP (vP 0) (vP 1 0) (vP 2) (vP 3) (vP 4) (vP 5 0) (vP 6 0) (vP 7 0) (vP 8 0) (vP 9 0) ++ (wHis G aH hA hV (hZ 1 0))))))) 2 96 326 [(0, .ref aX), (1, .ref aL), (2, .ref aH2), (3, .int x3_148), (4, .int x4_148), (6, .int x6_265), (7, .int x7_265), (8, .int x8_265), (9, .int x9_265), (10, .int x10_265), (11, .int x11_265), (12, .int x12_326), (13, .int x13_326)] [] (wEx aX (aT 0) (aT2 0) (aS 0) (aS2 0) (aP 0) (aH 0) aB aU ++ (wSeat G aT (aS 0) (vT 1) (vT 2) (vT 3) (vT 4 0) (vT 5 0) (vT 6) (vT 7) (vT 8) ++ (wSch G aS (vS 0) (vS 1) (vS 2) (vS 3) (vS 4) (vS 5) (vS 6) (vS 7) (vS 8 0) (vS 9 0) ++ (wPad G aP (vP 0) (vP 1 0) (vP 2) (vP 3) (vP 4) (vP 5 0) (vP 6 0) (vP 7 0) (vP 8 0) (vP 9 0) ++ (wHis G aH hA hV (hZ 1 0) ++ (wArr G aL (vL_326 0) ++ (wArr G aH2 (vH_326 0)))))))) := by
            intro vL_326 vH_326 x12_326 x13_326 h
            unfold f_L_areSeated_K326 at h
            refine J_iconst (pc := 326) (v := (0 : Int32)) C 166 rfl rfl ?_
            exact J_sub [0, 1, 2, 3, 4, 5, 6, 7, 8, 9, 10, 11, 12] rfl (B327 vL_326 vH_326 x12_326 x13_326 (0 : Int32) h)
          intro vL_265 vH_265 x5_265 x12_265 h
          replace h : f_L_areSeated_b265 vT vS vP hA hV hZ (fun vL_148 vH_148 x5_148 x6_148 => f_L_areSeated_L148 vT vS vP hA hV hZ x3_148 x4_148 n148 vL_148 vH_148 x5_148 x6_148) x3_148 x4_148 x6_265 x7_265 x8_265 x9_265 x10_265 x11_265 (fun vL_265 vH_265 x5_265 x12_265 => f_L_areSeated_L265 vT vS vP hA hV hZ (fun vL_148 vH_148 x5_148 x6_148 => f_L_areSeated_L148 vT vS vP hA hV hZ x3_148 x4_148 n148 vL_148 vH_148 x5_148 x6_148) x3_148 x4_148 x6_265 x7_265 x8_265 x9_265 x10_265 x11_265 n265 vL_265 vH_265 x5_265 x12_265) vL_265 vH_265 x5_265 x12_265 = some Rz := h
          unfold f_L_areSeated_b265 at h
          refine J_iload (pc := 265) C 138 rfl 12 rfl ?_
          refine J_iload (pc := 267) C 139 rfl 6 rfl ?_
          refine J_icmp_ge (pc := 269) (tgt := 485) C 140 rfl rfl (fun c13 => ?_) (fun c13 => ?_)
          · rw [if_pos c13] at h
            refine J_iinc (pc := 485) (v := (x6_265 + (1 : Int32))) (lv' := [(6, .int (x6_265 + (1 : Int32))), (0, .ref aX), (1, .ref aL), (2, .ref aH2), (3, .int x3_148), (4, .int x4_148), (5, .int x5_265), (7, .int x7_265), (8, .int x8_265), (9, .int x9_265), (10, .int x10_265), (11, .int x11_265), (12, .int x12_265)]) C 251 rfl 6 rfl rfl (by decide) rfl ?_
            refine J_goto (pc := 488) (tgt := 148) C 252 rfl rfl ?_
            exact J_sub [1, 2, 3, 4, 5, 6, 0] rfl (ih148 vL_265 vH_265 x5_265 (x6_265 + (1 : Int32)) h)
          · rw [if_neg c13] at h
            refine J_iload (pc := 272) C 141 rfl 5 rfl ?_
            refine J_if_eq (pc := 274) (tgt := 485) C 142 rfl rfl (fun c14 => ?_) (fun c14 => ?_)
            · rw [if_pos c14] at h
              refine J_iinc (pc := 485) (v := (x6_265 + (1 : Int32))) (lv' := [(6, .int (x6_265 + (1 : Int32))), (0, .ref aX), (1, .ref aL), (2, .ref aH2), (3, .int x3_148), (4, .int x4_148), (5, .int x5_265), (7, .int x7_265), (8, .int x8_265), (9, .int x9_265), (10, .int x10_265), (11, .int x11_265), (12, .int x12_265)]) C 251 rfl 6 rfl rfl (by decide) rfl ?_
              refine J_goto (pc := 488) (tgt := 148) C 252 rfl rfl ?_
              exact J_sub [1, 2, 3, 4, 5, 6, 0] rfl (ih148 vL_265 vH_265 x5_265 (x6_265 + (1 : Int32)) h)
            · rw [if_neg c14] at h
              refine J_iload (pc := 277) C 143 rfl 7 rfl ?_
              refine J_if_lt (pc := 279) (tgt := 485) C 144 rfl rfl (fun c15 => ?_) (fun c15 => ?_)
              · rw [if_pos c15] at h
                refine J_iinc (pc := 485) (v := (x6_265 + (1 : Int32))) (lv' := [(6, .int (x6_265 + (1 : Int32))), (0, .ref aX), (1, .ref aL), (2, .ref aH2), (3, .int x3_148), (4, .int x4_148), (5, .int x5_265), (7, .int x7_265), (8, .int x8_265), (9, .int x9_265), (10, .int x10_265), (11, .int x11_265), (12, .int x12_265)]) C 251 rfl 6 rfl rfl (by decide) rfl ?_
                refine J_goto (pc := 488) (tgt := 148) C 252 rfl rfl ?_
                exact J_sub [1, 2, 3, 4, 5, 6, 0] rfl (ih148 vL_265 vH_265 x5_265 (x6_265 + (1 : Int32)) h)
              · rw [if_neg c15] at h
                refine J_aload_n (pc := 282) C 145 rfl 1 rfl rfl ?_
                refine J_aload_n (pc := 283) C 146 rfl 2 rfl rfl ?_
                refine J_iload (pc := 284) C 147 rfl 12 rfl ?_
                obtain ⟨q16, hq16, h⟩ := bnd h
                refine J_callS (pc := 286) (st2 := []) (st3 := [.int q16]) (ws2 := (wEx aX (aT 0) (aT2 0) (aS 0) (aS2 0) (aP 0) (aH 0) aB aU ++ (wSeat G aT (aS 0) (vT 1) (vT 2) (vT 3) (vT 4 0) (vT 5 0) (vT 6) (vT 7) (vT 8) ++ (wSch G aS (vS 0) (vS 1) (vS 2) (vS 3) (vS 4) (vS 5) (vS 6) (vS 7) (vS 8 0) (vS 9 0) ++ (wPad G aP (vP 0) (vP 1 0) (vP 2) (vP 3) (vP 4) (vP 5 0) (vP 6 0) (vP 7 0) (vP 8 0) (vP 9 0) ++ (wHis G aH hA hV (hZ 1 0) ++ (wArr G aL (vL_265 0) ++ (wArr G aH2 (vH_265 0))))))))) C 148 rfl (c_L_at aL aH2 vL_265 vH_265 x12_265 hq16) V_L_at k371 t_L_at rfl rfl ⟨Nat.le_of_ble_eq_true rfl, Nat.le_of_ble_eq_true rfl⟩ (Nat.le_of_ble_eq_true rfl) ⟨Nat.le_refl _, Nat.le_refl _⟩ (isC := [78, 79]) (isR := [0, 1, 2, 3, 4, 5, 6, 7, 8, 9, 10, 11, 12, 13, 14, 15, 16, 17, 18, 19, 20, 21, 22, 23, 24, 25, 26, 27, 28, 29, 30, 31, 32, 33, 34, 35, 36, 37, 38, 39, 40, 41, 42, 43, 44, 45, 46, 47, 48, 49, 50, 51, 52, 53, 54, 55, 56, 57, 58, 59, 60, 61, 62, 63, 64, 65, 66, 67, 68, 69, 70, 71, 72, 73, 74, 75, 76, 77]) (N := 80) ⟨rfl, by decide +kernel, rfl, by decide +kernel, rfl, ⟨⟨_, rfl, rfl⟩, ⟨⟨_, rfl, rfl⟩, ⟨⟨_, rfl, rfl⟩, ⟨⟨_, rfl, rfl⟩, ⟨⟨_, rfl, rfl⟩, ⟨⟨_, rfl, rfl⟩, ⟨⟨_, rfl, rfl⟩, ⟨⟨_, rfl, rfl⟩, ⟨⟨_, rfl, rfl⟩, ⟨⟨_, rfl, rfl⟩, ⟨⟨_, rfl, rfl⟩, ⟨⟨_, rfl, rfl⟩, ⟨⟨_, rfl, rfl⟩, ⟨⟨_, rfl, rfl⟩, ⟨⟨_, rfl, rfl⟩, ⟨⟨_, rfl, rfl⟩, ⟨⟨_, rfl, rfl⟩, ⟨⟨_, rfl, rfl⟩, ⟨⟨_, rfl, rfl⟩, ⟨⟨_, rfl, rfl⟩, ⟨⟨_, rfl, rfl⟩, ⟨⟨_, rfl, rfl⟩, ⟨⟨_, rfl, rfl⟩, ⟨⟨_, rfl, rfl⟩, ⟨⟨_, rfl, rfl⟩, ⟨⟨_, rfl, rfl⟩, ⟨⟨_, rfl, rfl⟩, ⟨⟨_, rfl, rfl⟩, ⟨⟨_, rfl, rfl⟩, ⟨⟨_, rfl, rfl⟩, ⟨⟨_, rfl, rfl⟩, ⟨⟨_, rfl, rfl⟩, ⟨⟨_, rfl, rfl⟩, ⟨⟨_, rfl, rfl⟩, ⟨⟨_, rfl, rfl⟩, ⟨⟨_, rfl, rfl⟩, ⟨⟨_, rfl, rfl⟩, ⟨⟨_, rfl, rfl⟩, ⟨⟨_, rfl, rfl⟩, ⟨⟨_, rfl, rfl⟩, ⟨⟨_, rfl, rfl⟩, ⟨⟨_, rfl, rfl⟩, ⟨⟨_, rfl, rfl⟩, ⟨⟨_, rfl, rfl⟩, ⟨⟨_, rfl, rfl⟩, ⟨⟨_, rfl, rfl⟩, ⟨⟨_, rfl, rfl⟩, ⟨⟨_, rfl, rfl⟩, ⟨⟨_, rfl, rfl⟩, ⟨⟨_, rfl, rfl⟩, ⟨⟨_, rfl, rfl⟩, ⟨⟨_, rfl, rfl⟩, ⟨⟨_, rfl, rfl⟩, ⟨⟨_, rfl, rfl⟩, ⟨⟨_, rfl, rfl⟩, ⟨⟨_, rfl, rfl⟩, ⟨⟨_, rfl, rfl⟩, ⟨⟨_, rfl, rfl⟩, ⟨⟨_, rfl, rfl⟩, ⟨⟨_, rfl, rfl⟩, ⟨⟨_, rfl, rfl⟩, ⟨⟨_, rfl, rfl⟩, ⟨⟨_, rfl, rfl⟩, ⟨⟨_, rfl, rfl⟩, ⟨⟨_, rfl, rfl⟩, ⟨⟨_, rfl, rfl⟩, ⟨⟨_, rfl, rfl⟩, ⟨⟨_, rfl, rfl⟩, ⟨⟨_, rfl, rfl⟩, ⟨⟨_, rfl, rfl⟩, ⟨⟨_, rfl, rfl⟩, ⟨⟨_, rfl, rfl⟩, ⟨⟨_, rfl, rfl⟩, ⟨⟨_, rfl, rfl⟩, ⟨⟨_, rfl, rfl⟩, ⟨⟨_, rfl, rfl⟩, ⟨⟨_, rfl, rfl⟩, ⟨⟨_, rfl, rfl⟩, trivial⟩⟩⟩⟩⟩⟩⟩⟩⟩⟩⟩⟩⟩⟩⟩⟩⟩⟩⟩⟩⟩⟩⟩⟩⟩⟩⟩⟩⟩⟩⟩⟩⟩⟩⟩⟩⟩⟩⟩⟩⟩⟩⟩⟩⟩⟩⟩⟩⟩⟩⟩⟩⟩⟩⟩⟩⟩⟩⟩⟩⟩⟩⟩⟩⟩⟩⟩⟩⟩⟩⟩⟩⟩⟩⟩⟩⟩⟩⟩ rfl ?_
                refine J_istore (pc := 289) (lv' := [(13, .int q16), (0, .ref aX), (1, .ref aL), (2, .ref aH2), (3, .int x3_148), (4, .int x4_148), (5, .int x5_265), (6, .int x6_265), (7, .int x7_265), (8, .int x8_265), (9, .int x9_265), (10, .int x10_265), (11, .int x11_265), (12, .int x12_265)]) C 149 rfl (by decide) rfl ?_
                refine J_iload (pc := 291) C 150 rfl 9 rfl ?_
                refine J_if_eq (pc := 293) (tgt := 326) C 151 rfl rfl (fun c17 => ?_) (fun c17 => ?_)
                · rw [if_pos c17] at h
                  exact J_sub [1, 2, 3, 4, 5, 7, 8, 9, 10, 11, 12, 13, 0] rfl (B326 vL_265 vH_265 x12_265 q16 h)
                · rw [if_neg c17] at h
                  refine J_iload (pc := 296) C 152 rfl 0 rfl ?_
                  refine J_if_lt (pc := 298) (tgt := 326) C 153 rfl rfl (fun c34 => ?_) (fun c34 => ?_)
                  · rw [if_pos c34] at h
                    exact J_sub [1, 2, 3, 4, 5, 7, 8, 9, 10, 11, 12, 13, 0] rfl (B326 vL_265 vH_265 x12_265 q16 h)
                  · rw [if_neg c34] at h
                    refine J_iload (pc := 301) C 154 rfl 0 rfl ?_
                    refine J_sipush (pc := 303) (v := (1000 : Int32)) C 155 rfl rfl ?_
                    refine J_icmp_ge (pc := 306) (tgt := 326) C 156 rfl rfl (fun c35 => ?_) (fun c35 => ?_)
                    · rw [if_pos c35] at h
                      exact J_sub [1, 2, 3, 4, 5, 7, 8, 9, 10, 11, 12, 13, 0] rfl (B326 vL_265 vH_265 x12_265 q16 h)
                    · rw [if_neg c35] at h
                      refine J_iload (pc := 309) C 157 rfl 0 rfl ?_
                      refine J_bipush (pc := 311) (v := (64 : Int32)) C 158 rfl rfl ?_
                      refine J_idiv (pc := 313) C 159 rfl (by decide) ?_
                      refine J_iload (pc := 314) C 160 rfl 8 rfl ?_
                      refine J_bipush (pc := 316) (v := (64 : Int32)) C 161 rfl rfl ?_
                      refine J_idiv (pc := 318) C 162 rfl (by decide) ?_
                      refine J_icmp_ne (pc := 319) (tgt := 326) C 163 rfl rfl (fun c36 => ?_) (fun c36 => ?_)
                      · rw [if_neg c36] at h
                        exact J_sub [1, 2, 3, 4, 5, 7, 8, 9, 10, 11, 12, 13, 0] rfl (B326 vL_265 vH_265 x12_265 q16 h)
                      · rw [if_pos c36] at h
                        refine J_iconst (pc := 322) (v := (1 : Int32)) C 164 rfl rfl ?_
                        refine J_goto (pc := 323) (tgt := 327) C 165 rfl rfl ?_
                        exact J_sub [1, 2, 3, 4, 5, 7, 8, 9, 10, 11, 12, 13, 0] rfl (B327 vL_265 vH_265 x12_265 q16 (1 : Int32) h)
      have B234 : ∀ (vL_234 : JV) (vH_234 : JV) (x5_234 : Int32) (x6_234 : Int32) (x7_234 : Int32) (x8_234 : Int32) (x9_234 : Int32) (y0_234 : Int32), f_L_areSeated_K234 vT vS vP hA hV hZ (fun vL_148 vH_148 x5_148 x6_148 => f_L_areSeated_L148 vT vS vP hA hV hZ x3_148 x4_148 n148 vL_148 vH_148 x5_148 x6_148) vL_234 vH_234 x3_148 x4_148 x5_234 x6_234 x7_234 x8_234 x9_234 y0_234 = some Rz → J l { frames := 8, cells := 2, slots := 96, locals := 182 } G 16 X (QM X G 2 96 (some (.int (Rz.1))) (wEx aX (aT 0) (aT2 0) (aS 0) (aS2 0) (aP 0) (aH 0) aB aU ++ (wSeat G aT (aS 0) (vT 1) (vT 2) (vT 3) (vT 4 0) (vT 5 0) (vT 6) (vT 7) (vT 8) ++ (wSch G aS (vS 0) (vS 1) (vS 2) (vS 3) (vS 4) (vS 5) (vS 6) (vS 7) (vS 8 0) (vS 9 0) ++ (wPad G aP (vP 0) (vP 1 0) (vP 2) (vP 3) (vP 4) (vP 5 0) (vP 6 0) (vP 7 0) (vP 8 0) (vP 9 0) ++ (wHis G aH hA hV (hZ 1 0))))))) 2 96 234 [(0, .ref aX), (1, .ref aL), (2, .ref aH2), (3, .int x3_148), (4, .int x4_148), (5, .int x5_234), (6, .int x6_234), (7, .int x7_234), (8, .int x8_234), (9, .int x9_234)] [.int y0_234] (wEx aX (aT 0) (aT2 0) (aS 0) (aS2 0) (aP 0) (aH 0) aB aU ++ (wSeat G aT (aS 0) (vT 1) (vT 2) (vT 3) (vT 4 0) (vT 5 0) (vT 6) (vT 7) (vT 8) ++ (wSch G aS (vS 0) (vS 1) (vS 2) (vS 3) (vS 4) (vS 5) (vS 6) (vS 7) (vS 8 0) (vS 9 0) ++ (wPad G aP (vP 0) (vP 1 0) (vP 2) (vP 3) (vP 4) (vP 5 0) (vP 6 0) (vP 7 0) (vP 8 0) (vP 9 0) ++ (wHis G aH hA hV (hZ 1 0) ++ (wArr G aL (vL_234 0) ++ (wArr G aH2 (vH_234 0)))))))) := by
        intro vL_234 vH_234 x5_234 x6_234 x7_234 x8_234 x9_234 y0_234 h
        unfold f_L_areSeated_K234 at h
        refine J_istore (pc := 234) (lv' := [(10, .int y0_234), (0, .ref aX), (1, .ref aL), (2, .ref aH2), (3, .int x3_148), (4, .int x4_148), (5, .int x5_234), (6, .int x6_234), (7, .int x7_234), (8, .int x8_234), (9, .int x9_234)]) C 121 rfl (by decide) rfl ?_
        refine J_iload (pc := 236) C 122 rfl 8 rfl ?_
        refine J_if_lt (pc := 238) (tgt := 259) C 123 rfl rfl (fun c12 => ?_) (fun c12 => ?_)
        · rw [if_pos c12] at h
          refine J_iconst (pc := 259) (v := (0 : Int32)) C 134 rfl rfl ?_
          refine J_istore (pc := 260) (lv' := [(11, .int (0 : Int32)), (10, .int y0_234), (0, .ref aX), (1, .ref aL), (2, .ref aH2), (3, .int x3_148), (4, .int x4_148), (5, .int x5_234), (6, .int x6_234), (7, .int x7_234), (8, .int x8_234), (9, .int x9_234)]) C 135 rfl (by decide) rfl ?_
          refine J_iconst (pc := 262) (v := (0 : Int32)) C 136 rfl rfl ?_
          refine J_istore (pc := 263) (lv' := [(12, .int (0 : Int32)), (11, .int (0 : Int32)), (10, .int y0_234), (0, .ref aX), (1, .ref aL), (2, .ref aH2), (3, .int x3_148), (4, .int x4_148), (5, .int x5_234), (6, .int x6_234), (7, .int x7_234), (8, .int x8_234), (9, .int x9_234)]) C 137 rfl (by decide) rfl ?_
          exact J_sub [3, 4, 5, 6, 7, 8, 9, 10, 11, 12, 2, 1, 0] rfl (B265 x6_234 x7_234 x8_234 x9_234 y0_234 (0 : Int32) FU vL_234 vH_234 x5_234 (0 : Int32) h)
        · rw [if_neg c12] at h
          refine J_aload_n (pc := 241) C 124 rfl 1 rfl rfl ?_
          refine J_iload (pc := 242) C 125 rfl 7 rfl ?_
          refine J_bipush (pc := 244) (v := (6 : Int32)) C 126 rfl rfl ?_
          refine J_idiv (pc := 246) C 127 rfl (by decide) ?_
          refine J_iload (pc := 247) C 128 rfl 7 rfl ?_
          refine J_bipush (pc := 249) (v := (6 : Int32)) C 129 rfl rfl ?_
          refine J_irem (pc := 251) C 130 rfl (by decide) ?_
          refine J_iconst (pc := 252) (v := (1 : Int32)) C 131 rfl rfl ?_
          obtain ⟨q37, hq37, h⟩ := bnd h
          refine J_callV (pc := 253) (st2 := []) (st3 := [.int q37]) (ws2 := (wEx aX (aT 0) (aT2 0) (aS 0) (aS2 0) (aP 0) (aH 0) aB aU ++ (wSeat G aT (aS 0) (vT 1) (vT 2) (vT 3) (vT 4 0) (vT 5 0) (vT 6) (vT 7) (vT 8) ++ (wSch G aS (vS 0) (vS 1) (vS 2) (vS 3) (vS 4) (vS 5) (vS 6) (vS 7) (vS 8 0) (vS 9 0) ++ (wPad G aP (vP 0) (vP 1 0) (vP 2) (vP 3) (vP 4) (vP 5 0) (vP 6 0) (vP 7 0) (vP 8 0) (vP 9 0) ++ (wHis G aH hA hV (hZ 1 0) ++ (wArr G aL (vL_234 0) ++ (wArr G aH2 (vH_234 0))))))))) C 132 rfl (c_X4_sitting aX aT aS aT2 aS2 aP aH aB aU vT vS (x6_234 / (6 : Int32)) (x6_234 - x6_234 / (6 : Int32) * (6 : Int32)) (1 : Int32) hq37) V_X4_sitting k345 i_X4_sitting s_X4_sitting rfl rfl ⟨Nat.le_of_ble_eq_true rfl, Nat.le_of_ble_eq_true rfl⟩ (Nat.le_of_ble_eq_true rfl) ⟨Nat.le_refl _, Nat.le_refl _⟩ 0 4 rfl rfl rfl (isC := [0, 1, 2, 3, 4, 5, 6, 7, 8, 9, 10, 11, 12, 13, 14, 15, 16]) (isR := [17, 18, 19, 20, 21, 22, 23, 24, 25, 26, 27, 28, 29, 30, 31, 32, 33, 34, 35, 36, 37, 38, 39, 40, 41, 42, 43, 44, 45, 46, 47, 48, 49, 50, 51, 52, 53, 54, 55, 56, 57, 58, 59, 60, 61, 62, 63, 64, 65, 66, 67, 68, 69, 70, 71, 72, 73, 74, 75, 76, 77, 78, 79]) (N := 80) ⟨rfl, by decide +kernel, rfl, by decide +kernel, rfl, ⟨⟨_, rfl, rfl⟩, ⟨⟨_, rfl, rfl⟩, ⟨⟨_, rfl, rfl⟩, ⟨⟨_, rfl, rfl⟩, ⟨⟨_, rfl, rfl⟩, ⟨⟨_, rfl, rfl⟩, ⟨⟨_, rfl, rfl⟩, ⟨⟨_, rfl, rfl⟩, ⟨⟨_, rfl, rfl⟩, ⟨⟨_, rfl, rfl⟩, ⟨⟨_, rfl, rfl⟩, ⟨⟨_, rfl, rfl⟩, ⟨⟨_, rfl, rfl⟩, ⟨⟨_, rfl, rfl⟩, ⟨⟨_, rfl, rfl⟩, ⟨⟨_, rfl, rfl⟩, ⟨⟨_, rfl, rfl⟩, ⟨⟨_, rfl, rfl⟩, ⟨⟨_, rfl, rfl⟩, ⟨⟨_, rfl, rfl⟩, ⟨⟨_, rfl, rfl⟩, ⟨⟨_, rfl, rfl⟩, ⟨⟨_, rfl, rfl⟩, ⟨⟨_, rfl, rfl⟩, ⟨⟨_, rfl, rfl⟩, ⟨⟨_, rfl, rfl⟩, ⟨⟨_, rfl, rfl⟩, ⟨⟨_, rfl, rfl⟩, ⟨⟨_, rfl, rfl⟩, ⟨⟨_, rfl, rfl⟩, ⟨⟨_, rfl, rfl⟩, ⟨⟨_, rfl, rfl⟩, ⟨⟨_, rfl, rfl⟩, ⟨⟨_, rfl, rfl⟩, ⟨⟨_, rfl, rfl⟩, ⟨⟨_, rfl, rfl⟩, ⟨⟨_, rfl, rfl⟩, ⟨⟨_, rfl, rfl⟩, ⟨⟨_, rfl, rfl⟩, ⟨⟨_, rfl, rfl⟩, ⟨⟨_, rfl, rfl⟩, ⟨⟨_, rfl, rfl⟩, ⟨⟨_, rfl, rfl⟩, ⟨⟨_, rfl, rfl⟩, ⟨⟨_, rfl, rfl⟩, ⟨⟨_, rfl, rfl⟩, ⟨⟨_, rfl, rfl⟩, ⟨⟨_, rfl, rfl⟩, ⟨⟨_, rfl, rfl⟩, ⟨⟨_, rfl, rfl⟩, ⟨⟨_, rfl, rfl⟩, ⟨⟨_, rfl, rfl⟩, ⟨⟨_, rfl, rfl⟩, ⟨⟨_, rfl, rfl⟩, ⟨⟨_, rfl, rfl⟩, ⟨⟨_, rfl, rfl⟩, ⟨⟨_, rfl, rfl⟩, ⟨⟨_, rfl, rfl⟩, ⟨⟨_, rfl, rfl⟩, ⟨⟨_, rfl, rfl⟩, ⟨⟨_, rfl, rfl⟩, ⟨⟨_, rfl, rfl⟩, ⟨⟨_, rfl, rfl⟩, trivial⟩⟩⟩⟩⟩⟩⟩⟩⟩⟩⟩⟩⟩⟩⟩⟩⟩⟩⟩⟩⟩⟩⟩⟩⟩⟩⟩⟩⟩⟩⟩⟩⟩⟩⟩⟩⟩⟩⟩⟩⟩⟩⟩⟩⟩⟩⟩⟩⟩⟩⟩⟩⟩⟩⟩⟩⟩⟩⟩⟩⟩⟩⟩⟩ rfl ?_
          refine J_goto (pc := 256) (tgt := 260) C 133 rfl rfl ?_
          refine J_istore (pc := 260) (lv' := [(11, .int q37), (10, .int y0_234), (0, .ref aX), (1, .ref aL), (2, .ref aH2), (3, .int x3_148), (4, .int x4_148), (5, .int x5_234), (6, .int x6_234), (7, .int x7_234), (8, .int x8_234), (9, .int x9_234)]) C 135 rfl (by decide) rfl ?_
          refine J_iconst (pc := 262) (v := (0 : Int32)) C 136 rfl rfl ?_
          refine J_istore (pc := 263) (lv' := [(12, .int (0 : Int32)), (11, .int q37), (10, .int y0_234), (0, .ref aX), (1, .ref aL), (2, .ref aH2), (3, .int x3_148), (4, .int x4_148), (5, .int x5_234), (6, .int x6_234), (7, .int x7_234), (8, .int x8_234), (9, .int x9_234)]) C 137 rfl (by decide) rfl ?_
          exact J_sub [3, 4, 5, 6, 7, 8, 9, 10, 11, 12, 2, 1, 0] rfl (B265 x6_234 x7_234 x8_234 x9_234 y0_234 q37 FU vL_234 vH_234 x5_234 (0 : Int32) h)
      have B208 : ∀ (vL_208 : JV) (vH_208 : JV) (x5_208 : Int32) (x6_208 : Int32) (x7_208 : Int32) (x8_208 : Int32) (y0_208 : Int32), f_L_areSeated_K208 vT vS vP hA hV hZ (fun vL_148 vH_148 x5_148 x6_148 => f_L_areSeated_L148 vT vS vP hA hV hZ x3_148 x4_148 n148 vL_148 vH_148 x5_148 x6_148) vL_208 vH_208 x3_148 x4_148 x5_208 x6_208 x7_208 x8_208 y0_208 = some Rz → J l { frames := 8, cells := 2, slots := 96, locals := 182 } G 16 X (QM X G 2 96 (some (.int (Rz.1))) (wEx aX (aT 0) (aT2 0) (aS 0) (aS2 0) (aP 0) (aH 0) aB aU ++ (wSeat G aT (aS 0) (vT 1) (vT 2) (vT 3) (vT 4 0) (vT 5 0) (vT 6) (vT 7) (vT 8) ++ (wSch G aS (vS 0) (vS 1) (vS 2) (vS 3) (vS 4) (vS 5) (vS 6) (vS 7) (vS 8 0) (vS 9 0) ++ (wPad G aP (vP 0) (vP 1 0) (vP 2) (vP 3) (vP 4) (vP 5 0) (vP 6 0) (vP 7 0) (vP 8 0) (vP 9 0) ++ (wHis G aH hA hV (hZ 1 0))))))) 2 96 208 [(0, .ref aX), (1, .ref aL), (2, .ref aH2), (3, .int x3_148), (4, .int x4_148), (5, .int x5_208), (6, .int x6_208), (7, .int x7_208), (8, .int x8_208)] [.int y0_208] (wEx aX (aT 0) (aT2 0) (aS 0) (aS2 0) (aP 0) (aH 0) aB aU ++ (wSeat G aT (aS 0) (vT 1) (vT 2) (vT 3) (vT 4 0) (vT 5 0) (vT 6) (vT 7) (vT 8) ++ (wSch G aS (vS 0) (vS 1) (vS 2) (vS 3) (vS 4) (vS 5) (vS 6) (vS 7) (vS 8 0) (vS 9 0) ++ (wPad G aP (vP 0) (vP 1 0) (vP 2) (vP 3) (vP 4) (vP 5 0) (vP 6 0) (vP 7 0) (vP 8 0) (vP 9 0) ++ (wHis G aH hA hV (hZ 1 0) ++ (wArr G aL (vL_208 0) ++ (wArr G aH2 (vH_208 0)))))))) := by
        intro vL_208 vH_208 x5_208 x6_208 x7_208 x8_208 y0_208 h
        unfold f_L_areSeated_K208 at h
        refine J_istore (pc := 208) (lv' := [(9, .int y0_208), (0, .ref aX), (1, .ref aL), (2, .ref aH2), (3, .int x3_148), (4, .int x4_148), (5, .int x5_208), (6, .int x6_208), (7, .int x7_208), (8, .int x8_208)]) C 107 rfl (by decide) rfl ?_
        refine J_iload (pc := 210) C 108 rfl 8 rfl ?_
        refine J_if_lt (pc := 212) (tgt := 233) C 109 rfl rfl (fun c11 => ?_) (fun c11 => ?_)
        · rw [if_pos c11] at h
          refine J_iconst (pc := 233) (v := (0 : Int32)) C 120 rfl rfl ?_
          exact J_sub [1, 2, 3, 4, 5, 6, 7, 8, 9, 0] rfl (B234 vL_208 vH_208 x5_208 x6_208 x7_208 x8_208 y0_208 (0 : Int32) h)
        · rw [if_neg c11] at h
          refine J_aload_n (pc := 215) C 110 rfl 1 rfl rfl ?_
          refine J_iload (pc := 216) C 111 rfl 7 rfl ?_
          refine J_bipush (pc := 218) (v := (6 : Int32)) C 112 rfl rfl ?_
          refine J_idiv (pc := 220) C 113 rfl (by decide) ?_
          refine J_iload (pc := 221) C 114 rfl 7 rfl ?_
          refine J_bipush (pc := 223) (v := (6 : Int32)) C 115 rfl rfl ?_
          refine J_irem (pc := 225) C 116 rfl (by decide) ?_
          refine J_iconst (pc := 226) (v := (0 : Int32)) C 117 rfl rfl ?_
          obtain ⟨q38, hq38, h⟩ := bnd h
          refine J_callV (pc := 227) (st2 := []) (st3 := [.int q38]) (ws2 := (wEx aX (aT 0) (aT2 0) (aS 0) (aS2 0) (aP 0) (aH 0) aB aU ++ (wSeat G aT (aS 0) (vT 1) (vT 2) (vT 3) (vT 4 0) (vT 5 0) (vT 6) (vT 7) (vT 8) ++ (wSch G aS (vS 0) (vS 1) (vS 2) (vS 3) (vS 4) (vS 5) (vS 6) (vS 7) (vS 8 0) (vS 9 0) ++ (wPad G aP (vP 0) (vP 1 0) (vP 2) (vP 3) (vP 4) (vP 5 0) (vP 6 0) (vP 7 0) (vP 8 0) (vP 9 0) ++ (wHis G aH hA hV (hZ 1 0) ++ (wArr G aL (vL_208 0) ++ (wArr G aH2 (vH_208 0))))))))) C 118 rfl (c_X4_sitting aX aT aS aT2 aS2 aP aH aB aU vT vS (x6_208 / (6 : Int32)) (x6_208 - x6_208 / (6 : Int32) * (6 : Int32)) (0 : Int32) hq38) V_X4_sitting k345 i_X4_sitting s_X4_sitting rfl rfl ⟨Nat.le_of_ble_eq_true rfl, Nat.le_of_ble_eq_true rfl⟩ (Nat.le_of_ble_eq_true rfl) ⟨Nat.le_refl _, Nat.le_refl _⟩ 0 4 rfl rfl rfl (isC := [0, 1, 2, 3, 4, 5, 6, 7, 8, 9, 10, 11, 12, 13, 14, 15, 16]) (isR := [17, 18, 19, 20, 21, 22, 23, 24, 25, 26, 27, 28, 29, 30, 31, 32, 33, 34, 35, 36, 37, 38, 39, 40, 41, 42, 43, 44, 45, 46, 47, 48, 49, 50, 51, 52, 53, 54, 55, 56, 57, 58, 59, 60, 61, 62, 63, 64, 65, 66, 67, 68, 69, 70, 71, 72, 73, 74, 75, 76, 77, 78, 79]) (N := 80) ⟨rfl, by decide +kernel, rfl, by decide +kernel, rfl, ⟨⟨_, rfl, rfl⟩, ⟨⟨_, rfl, rfl⟩, ⟨⟨_, rfl, rfl⟩, ⟨⟨_, rfl, rfl⟩, ⟨⟨_, rfl, rfl⟩, ⟨⟨_, rfl, rfl⟩, ⟨⟨_, rfl, rfl⟩, ⟨⟨_, rfl, rfl⟩, ⟨⟨_, rfl, rfl⟩, ⟨⟨_, rfl, rfl⟩, ⟨⟨_, rfl, rfl⟩, ⟨⟨_, rfl, rfl⟩, ⟨⟨_, rfl, rfl⟩, ⟨⟨_, rfl, rfl⟩, ⟨⟨_, rfl, rfl⟩, ⟨⟨_, rfl, rfl⟩, ⟨⟨_, rfl, rfl⟩, ⟨⟨_, rfl, rfl⟩, ⟨⟨_, rfl, rfl⟩, ⟨⟨_, rfl, rfl⟩, ⟨⟨_, rfl, rfl⟩, ⟨⟨_, rfl, rfl⟩, ⟨⟨_, rfl, rfl⟩, ⟨⟨_, rfl, rfl⟩, ⟨⟨_, rfl, rfl⟩, ⟨⟨_, rfl, rfl⟩, ⟨⟨_, rfl, rfl⟩, ⟨⟨_, rfl, rfl⟩, ⟨⟨_, rfl, rfl⟩, ⟨⟨_, rfl, rfl⟩, ⟨⟨_, rfl, rfl⟩, ⟨⟨_, rfl, rfl⟩, ⟨⟨_, rfl, rfl⟩, ⟨⟨_, rfl, rfl⟩, ⟨⟨_, rfl, rfl⟩, ⟨⟨_, rfl, rfl⟩, ⟨⟨_, rfl, rfl⟩, ⟨⟨_, rfl, rfl⟩, ⟨⟨_, rfl, rfl⟩, ⟨⟨_, rfl, rfl⟩, ⟨⟨_, rfl, rfl⟩, ⟨⟨_, rfl, rfl⟩, ⟨⟨_, rfl, rfl⟩, ⟨⟨_, rfl, rfl⟩, ⟨⟨_, rfl, rfl⟩, ⟨⟨_, rfl, rfl⟩, ⟨⟨_, rfl, rfl⟩, ⟨⟨_, rfl, rfl⟩, ⟨⟨_, rfl, rfl⟩, ⟨⟨_, rfl, rfl⟩, ⟨⟨_, rfl, rfl⟩, ⟨⟨_, rfl, rfl⟩, ⟨⟨_, rfl, rfl⟩, ⟨⟨_, rfl, rfl⟩, ⟨⟨_, rfl, rfl⟩, ⟨⟨_, rfl, rfl⟩, ⟨⟨_, rfl, rfl⟩, ⟨⟨_, rfl, rfl⟩, ⟨⟨_, rfl, rfl⟩, ⟨⟨_, rfl, rfl⟩, ⟨⟨_, rfl, rfl⟩, ⟨⟨_, rfl, rfl⟩, ⟨⟨_, rfl, rfl⟩, trivial⟩⟩⟩⟩⟩⟩⟩⟩⟩⟩⟩⟩⟩⟩⟩⟩⟩⟩⟩⟩⟩⟩⟩⟩⟩⟩⟩⟩⟩⟩⟩⟩⟩⟩⟩⟩⟩⟩⟩⟩⟩⟩⟩⟩⟩⟩⟩⟩⟩⟩⟩⟩⟩⟩⟩⟩⟩⟩⟩⟩⟩⟩⟩⟩ rfl ?_
          refine J_goto (pc := 230) (tgt := 234) C 119 rfl rfl ?_
          exact J_sub [1, 2, 3, 4, 5, 6, 7, 8, 9, 0] rfl (B234 vL_208 vH_208 x5_208 x6_208 x7_208 x8_208 y0_208 q38 h)
      have B187 : ∀ (vL_187 : JV) (vH_187 : JV) (x5_187 : Int32) (x6_187 : Int32) (x7_187 : Int32) (y0_187 : Int32), f_L_areSeated_K187 vT vS vP hA hV hZ (fun vL_148 vH_148 x5_148 x6_148 => f_L_areSeated_L148 vT vS vP hA hV hZ x3_148 x4_148 n148 vL_148 vH_148 x5_148 x6_148) vL_187 vH_187 x3_148 x4_148 x5_187 x6_187 x7_187 y0_187 = some Rz → J l { frames := 8, cells := 2, slots := 96, locals := 182 } G 16 X (QM X G 2 96 (some (.int (Rz.1))) (wEx aX (aT 0) (aT2 0) (aS 0) (aS2 0) (aP 0) (aH 0) aB aU ++ (wSeat G aT (aS 0) (vT 1) (vT 2) (vT 3) (vT 4 0) (vT 5 0) (vT 6) (vT 7) (vT 8) ++ (wSch G aS (vS 0) (vS 1) (vS 2) (vS 3) (vS 4) (vS 5) (vS 6) (vS 7) (vS 8 0) (vS 9 0) ++ (wPad G aP (vP 0) (vP 1 0) (vP 2) (vP 3) (vP 4) (vP 5 0) (vP 6 0) (vP 7 0) (vP 8 0) (vP 9 0) ++ (wHis G aH hA hV (hZ 1 0))))))) 2 96 187 [(0, .ref aX), (1, .ref aL), (2, .ref aH2), (3, .int x3_148), (4, .int x4_148), (5, .int x5_187), (6, .int x6_187), (7, .int x7_187)] [.int y0_187] (wEx aX (aT 0) (aT2 0) (aS 0) (aS2 0) (aP 0) (aH 0) aB aU ++ (wSeat G aT (aS 0) (vT 1) (vT 2) (vT 3) (vT 4 0) (vT 5 0) (vT 6) (vT 7) (vT 8) ++ (wSch G aS (vS 0) (vS 1) (vS 2) (vS 3) (vS 4) (vS 5) (vS 6) (vS 7) (vS 8 0) (vS 9 0) ++ (wPad G aP (vP 0) (vP 1 0) (vP 2) (vP 3) (vP 4) (vP 5 0) (vP 6 0) (vP 7 0) (vP 8 0) (vP 9 0) ++ (wHis G aH hA hV (hZ 1 0) ++ (wArr G aL (vL_187 0) ++ (wArr G aH2 (vH_187 0)))))))) := by
        intro vL_187 vH_187 x5_187 x6_187 x7_187 y0_187 h
        unfold f_L_areSeated_K187 at h
        refine J_istore (pc := 187) (lv' := [(8, .int y0_187), (0, .ref aX), (1, .ref aL), (2, .ref aH2), (3, .int x3_148), (4, .int x4_148), (5, .int x5_187), (6, .int x6_187), (7, .int x7_187)]) C 96 rfl (by decide) rfl ?_
        refine J_iload (pc := 189) C 97 rfl 0 rfl ?_
        refine J_if_eq (pc := 191) (tgt := 207) C 98 rfl rfl (fun c10 => ?_) (fun c10 => ?_)
        · rw [if_pos c10] at h
          refine J_iconst (pc := 207) (v := (1 : Int32)) C 106 rfl rfl ?_
          exact J_sub [1, 2, 3, 4, 5, 6, 7, 8, 0] rfl (B208 vL_187 vH_187 x5_187 x6_187 x7_187 y0_187 (1 : Int32) h)
        · rw [if_neg c10] at h
          refine J_aload_n (pc := 194) C 99 rfl 1 rfl rfl ?_
          refine J_iload (pc := 195) C 100 rfl 8 rfl ?_
          refine J_bipush (pc := 197) (v := (64 : Int32)) C 101 rfl rfl ?_
          refine J_idiv (pc := 199) C 102 rfl (by decide) ?_
          refine J_iconst (pc := 200) (v := (1 : Int32)) C 103 rfl rfl ?_
          obtain ⟨q39, hq39, h⟩ := bnd h
          refine J_callV (pc := 201) (st2 := []) (st3 := [.int q39]) (ws2 := (wEx aX (aT 0) (aT2 0) (aS 0) (aS2 0) (aP 0) (aH 0) aB aU ++ (wSeat G aT (aS 0) (vT 1) (vT 2) (vT 3) (vT 4 0) (vT 5 0) (vT 6) (vT 7) (vT 8) ++ (wSch G aS (vS 0) (vS 1) (vS 2) (vS 3) (vS 4) (vS 5) (vS 6) (vS 7) (vS 8 0) (vS 9 0) ++ (wPad G aP (vP 0) (vP 1 0) (vP 2) (vP 3) (vP 4) (vP 5 0) (vP 6 0) (vP 7 0) (vP 8 0) (vP 9 0) ++ (wHis G aH hA hV (hZ 1 0) ++ (wArr G aL (vL_187 0) ++ (wArr G aH2 (vH_187 0))))))))) C 104 rfl (c_X4_hallOf aX aT aS aT2 aS2 aP aH aB aU vT vS (x7_187 / (64 : Int32)) (1 : Int32) hq39) V_X4_hallOf k350 i_X4_hallOf s_X4_hallOf rfl rfl ⟨Nat.le_of_ble_eq_true rfl, Nat.le_of_ble_eq_true rfl⟩ (Nat.le_of_ble_eq_true rfl) ⟨Nat.le_refl _, Nat.le_refl _⟩ 0 4 rfl rfl rfl (isC := [0, 1, 2, 3, 4, 5, 6, 7, 8, 9, 10, 11, 12, 13, 14, 15, 16]) (isR := [17, 18, 19, 20, 21, 22, 23, 24, 25, 26, 27, 28, 29, 30, 31, 32, 33, 34, 35, 36, 37, 38, 39, 40, 41, 42, 43, 44, 45, 46, 47, 48, 49, 50, 51, 52, 53, 54, 55, 56, 57, 58, 59, 60, 61, 62, 63, 64, 65, 66, 67, 68, 69, 70, 71, 72, 73, 74, 75, 76, 77, 78, 79]) (N := 80) ⟨rfl, by decide +kernel, rfl, by decide +kernel, rfl, ⟨⟨_, rfl, rfl⟩, ⟨⟨_, rfl, rfl⟩, ⟨⟨_, rfl, rfl⟩, ⟨⟨_, rfl, rfl⟩, ⟨⟨_, rfl, rfl⟩, ⟨⟨_, rfl, rfl⟩, ⟨⟨_, rfl, rfl⟩, ⟨⟨_, rfl, rfl⟩, ⟨⟨_, rfl, rfl⟩, ⟨⟨_, rfl, rfl⟩, ⟨⟨_, rfl, rfl⟩, ⟨⟨_, rfl, rfl⟩, ⟨⟨_, rfl, rfl⟩, ⟨⟨_, rfl, rfl⟩, ⟨⟨_, rfl, rfl⟩, ⟨⟨_, rfl, rfl⟩, ⟨⟨_, rfl, rfl⟩, ⟨⟨_, rfl, rfl⟩, ⟨⟨_, rfl, rfl⟩, ⟨⟨_, rfl, rfl⟩, ⟨⟨_, rfl, rfl⟩, ⟨⟨_, rfl, rfl⟩, ⟨⟨_, rfl, rfl⟩, ⟨⟨_, rfl, rfl⟩, ⟨⟨_, rfl, rfl⟩, ⟨⟨_, rfl, rfl⟩, ⟨⟨_, rfl, rfl⟩, ⟨⟨_, rfl, rfl⟩, ⟨⟨_, rfl, rfl⟩, ⟨⟨_, rfl, rfl⟩, ⟨⟨_, rfl, rfl⟩, ⟨⟨_, rfl, rfl⟩, ⟨⟨_, rfl, rfl⟩, ⟨⟨_, rfl, rfl⟩, ⟨⟨_, rfl, rfl⟩, ⟨⟨_, rfl, rfl⟩, ⟨⟨_, rfl, rfl⟩, ⟨⟨_, rfl, rfl⟩, ⟨⟨_, rfl, rfl⟩, ⟨⟨_, rfl, rfl⟩, ⟨⟨_, rfl, rfl⟩, ⟨⟨_, rfl, rfl⟩, ⟨⟨_, rfl, rfl⟩, ⟨⟨_, rfl, rfl⟩, ⟨⟨_, rfl, rfl⟩, ⟨⟨_, rfl, rfl⟩, ⟨⟨_, rfl, rfl⟩, ⟨⟨_, rfl, rfl⟩, ⟨⟨_, rfl, rfl⟩, ⟨⟨_, rfl, rfl⟩, ⟨⟨_, rfl, rfl⟩, ⟨⟨_, rfl, rfl⟩, ⟨⟨_, rfl, rfl⟩, ⟨⟨_, rfl, rfl⟩, ⟨⟨_, rfl, rfl⟩, ⟨⟨_, rfl, rfl⟩, ⟨⟨_, rfl, rfl⟩, ⟨⟨_, rfl, rfl⟩, ⟨⟨_, rfl, rfl⟩, ⟨⟨_, rfl, rfl⟩, ⟨⟨_, rfl, rfl⟩, ⟨⟨_, rfl, rfl⟩, ⟨⟨_, rfl, rfl⟩, trivial⟩⟩⟩⟩⟩⟩⟩⟩⟩⟩⟩⟩⟩⟩⟩⟩⟩⟩⟩⟩⟩⟩⟩⟩⟩⟩⟩⟩⟩⟩⟩⟩⟩⟩⟩⟩⟩⟩⟩⟩⟩⟩⟩⟩⟩⟩⟩⟩⟩⟩⟩⟩⟩⟩⟩⟩⟩⟩⟩⟩⟩⟩⟩⟩ rfl ?_
          refine J_goto (pc := 204) (tgt := 208) C 105 rfl rfl ?_
          exact J_sub [1, 2, 3, 4, 5, 6, 7, 8, 0] rfl (B208 vL_187 vH_187 x5_187 x6_187 x7_187 y0_187 q39 h)
      have B186 : ∀ (vL_186 : JV) (vH_186 : JV) (x5_186 : Int32) (x6_186 : Int32) (x7_186 : Int32), f_L_areSeated_K186 vT vS vP hA hV hZ (fun vL_148 vH_148 x5_148 x6_148 => f_L_areSeated_L148 vT vS vP hA hV hZ x3_148 x4_148 n148 vL_148 vH_148 x5_148 x6_148) vL_186 vH_186 x3_148 x4_148 x5_186 x6_186 x7_186 = some Rz → J l { frames := 8, cells := 2, slots := 96, locals := 182 } G 16 X (QM X G 2 96 (some (.int (Rz.1))) (wEx aX (aT 0) (aT2 0) (aS 0) (aS2 0) (aP 0) (aH 0) aB aU ++ (wSeat G aT (aS 0) (vT 1) (vT 2) (vT 3) (vT 4 0) (vT 5 0) (vT 6) (vT 7) (vT 8) ++ (wSch G aS (vS 0) (vS 1) (vS 2) (vS 3) (vS 4) (vS 5) (vS 6) (vS 7) (vS 8 0) (vS 9 0) ++ (wPad G aP (vP 0) (vP 1 0) (vP 2) (vP 3) (vP 4) (vP 5 0) (vP 6 0) (vP 7 0) (vP 8 0) (vP 9 0) ++ (wHis G aH hA hV (hZ 1 0))))))) 2 96 186 [(0, .ref aX), (1, .ref aL), (2, .ref aH2), (3, .int x3_148), (4, .int x4_148), (5, .int x5_186), (6, .int x6_186), (7, .int x7_186)] [] (wEx aX (aT 0) (aT2 0) (aS 0) (aS2 0) (aP 0) (aH 0) aB aU ++ (wSeat G aT (aS 0) (vT 1) (vT 2) (vT 3) (vT 4 0) (vT 5 0) (vT 6) (vT 7) (vT 8) ++ (wSch G aS (vS 0) (vS 1) (vS 2) (vS 3) (vS 4) (vS 5) (vS 6) (vS 7) (vS 8 0) (vS 9 0) ++ (wPad G aP (vP 0) (vP 1 0) (vP 2) (vP 3) (vP 4) (vP 5 0) (vP 6 0) (vP 7 0) (vP 8 0) (vP 9 0) ++ (wHis G aH hA hV (hZ 1 0) ++ (wArr G aL (vL_186 0) ++ (wArr G aH2 (vH_186 0)))))))) := by
        intro vL_186 vH_186 x5_186 x6_186 x7_186 h
        unfold f_L_areSeated_K186 at h
        refine J_iconst (pc := 186) (v := (0 : Int32)) C 95 rfl rfl ?_
        exact J_sub [0, 1, 2, 3, 4, 5, 6, 7] rfl (B187 vL_186 vH_186 x5_186 x6_186 x7_186 (0 : Int32) h)
      intro vL_148 vH_148 x5_148 x6_148 h
      replace h : f_L_areSeated_b148 vT vS vP hA hV hZ x3_148 x4_148 (fun vL_148 vH_148 x5_148 x6_148 => f_L_areSeated_L148 vT vS vP hA hV hZ x3_148 x4_148 n148 vL_148 vH_148 x5_148 x6_148) vL_148 vH_148 x5_148 x6_148 = some Rz := h
      unfold f_L_areSeated_b148 at h
      refine J_iload (pc := 148) C 78 rfl 6 rfl ?_
      refine J_bipush (pc := 150) (v := (96 : Int32)) C 79 rfl rfl ?_
      refine J_icmp_ge (pc := 152) (tgt := 491) C 80 rfl rfl (fun c4 => ?_) (fun c4 => ?_)
      · rw [if_pos c4] at h
        refine J_iload (pc := 491) C 253 rfl 5 rfl ?_
        refine J_perm (ws' := (wEx aX (aT 0) (aT2 0) (aS 0) (aS2 0) (aP 0) (aH 0) aB aU ++ (wSeat G aT (aS 0) (vT 1) (vT 2) (vT 3) (vT 4 0) (vT 5 0) (vT 6) (vT 7) (vT 8) ++ (wSch G aS (vS 0) (vS 1) (vS 2) (vS 3) (vS 4) (vS 5) (vS 6) (vS 7) (vS 8 0) (vS 9 0) ++ (wPad G aP (vP 0) (vP 1 0) (vP 2) (vP 3) (vP 4) (vP 5 0) (vP 6 0) (vP 7 0) (vP 8 0) (vP 9 0) ++ (wHis G aH hA hV (hZ 1 0))))))) [0, 1, 2, 3, 4, 5, 6, 7, 8, 9, 10, 11, 12, 13, 14, 15, 16, 17, 18, 19, 20, 21, 22, 23, 24, 25, 26, 27, 28, 29, 30, 31, 32, 33, 34, 35, 36, 37, 38, 39, 40, 41, 42, 43, 44, 45, 46, 47, 48, 49, 50, 51, 52, 53, 54, 55, 56, 57, 58, 59, 60, 61, 62, 63, 64, 65, 66, 67, 68, 69, 70, 71, 72, 73, 74, 75, 76, 77] (by decide +kernel) rfl ?_
        obtain ⟨g5, h⟩ := gd_some h
        cases h
        exact J_zret (pc := 493) C 254 rfl g5
      · rw [if_neg c4] at h
        refine J_iload (pc := 155) C 81 rfl 5 rfl ?_
        refine J_if_eq (pc := 157) (tgt := 491) C 82 rfl rfl (fun c6 => ?_) (fun c6 => ?_)
        · rw [if_pos c6] at h
          refine J_iload (pc := 491) C 253 rfl 5 rfl ?_
          refine J_perm (ws' := (wEx aX (aT 0) (aT2 0) (aS 0) (aS2 0) (aP 0) (aH 0) aB aU ++ (wSeat G aT (aS 0) (vT 1) (vT 2) (vT 3) (vT 4 0) (vT 5 0) (vT 6) (vT 7) (vT 8) ++ (wSch G aS (vS 0) (vS 1) (vS 2) (vS 3) (vS 4) (vS 5) (vS 6) (vS 7) (vS 8 0) (vS 9 0) ++ (wPad G aP (vP 0) (vP 1 0) (vP 2) (vP 3) (vP 4) (vP 5 0) (vP 6 0) (vP 7 0) (vP 8 0) (vP 9 0) ++ (wHis G aH hA hV (hZ 1 0))))))) [0, 1, 2, 3, 4, 5, 6, 7, 8, 9, 10, 11, 12, 13, 14, 15, 16, 17, 18, 19, 20, 21, 22, 23, 24, 25, 26, 27, 28, 29, 30, 31, 32, 33, 34, 35, 36, 37, 38, 39, 40, 41, 42, 43, 44, 45, 46, 47, 48, 49, 50, 51, 52, 53, 54, 55, 56, 57, 58, 59, 60, 61, 62, 63, 64, 65, 66, 67, 68, 69, 70, 71, 72, 73, 74, 75, 76, 77] (by decide +kernel) rfl ?_
          obtain ⟨g7, h⟩ := gd_some h
          cases h
          exact J_zret (pc := 493) C 254 rfl g7
        · rw [if_neg c6] at h
          refine J_aload_n (pc := 160) C 83 rfl 1 rfl rfl ?_
          refine J_aload_n (pc := 161) C 84 rfl 2 rfl rfl ?_
          refine J_iload (pc := 162) C 85 rfl 6 rfl ?_
          obtain ⟨q8, hq8, h⟩ := bnd h
          refine J_callS (pc := 164) (st2 := []) (st3 := [.int q8]) (ws2 := (wEx aX (aT 0) (aT2 0) (aS 0) (aS2 0) (aP 0) (aH 0) aB aU ++ (wSeat G aT (aS 0) (vT 1) (vT 2) (vT 3) (vT 4 0) (vT 5 0) (vT 6) (vT 7) (vT 8) ++ (wSch G aS (vS 0) (vS 1) (vS 2) (vS 3) (vS 4) (vS 5) (vS 6) (vS 7) (vS 8 0) (vS 9 0) ++ (wPad G aP (vP 0) (vP 1 0) (vP 2) (vP 3) (vP 4) (vP 5 0) (vP 6 0) (vP 7 0) (vP 8 0) (vP 9 0) ++ (wHis G aH hA hV (hZ 1 0) ++ (wArr G aL (vL_148 0) ++ (wArr G aH2 (vH_148 0))))))))) C 86 rfl (c_L_at aL aH2 vL_148 vH_148 x6_148 hq8) V_L_at k371 t_L_at rfl rfl ⟨Nat.le_of_ble_eq_true rfl, Nat.le_of_ble_eq_true rfl⟩ (Nat.le_of_ble_eq_true rfl) ⟨Nat.le_refl _, Nat.le_refl _⟩ (isC := [78, 79]) (isR := [0, 1, 2, 3, 4, 5, 6, 7, 8, 9, 10, 11, 12, 13, 14, 15, 16, 17, 18, 19, 20, 21, 22, 23, 24, 25, 26, 27, 28, 29, 30, 31, 32, 33, 34, 35, 36, 37, 38, 39, 40, 41, 42, 43, 44, 45, 46, 47, 48, 49, 50, 51, 52, 53, 54, 55, 56, 57, 58, 59, 60, 61, 62, 63, 64, 65, 66, 67, 68, 69, 70, 71, 72, 73, 74, 75, 76, 77]) (N := 80) ⟨rfl, by decide +kernel, rfl, by decide +kernel, rfl, ⟨⟨_, rfl, rfl⟩, ⟨⟨_, rfl, rfl⟩, ⟨⟨_, rfl, rfl⟩, ⟨⟨_, rfl, rfl⟩, ⟨⟨_, rfl, rfl⟩, ⟨⟨_, rfl, rfl⟩, ⟨⟨_, rfl, rfl⟩, ⟨⟨_, rfl, rfl⟩, ⟨⟨_, rfl, rfl⟩, ⟨⟨_, rfl, rfl⟩, ⟨⟨_, rfl, rfl⟩, ⟨⟨_, rfl, rfl⟩, ⟨⟨_, rfl, rfl⟩, ⟨⟨_, rfl, rfl⟩, ⟨⟨_, rfl, rfl⟩, ⟨⟨_, rfl, rfl⟩, ⟨⟨_, rfl, rfl⟩, ⟨⟨_, rfl, rfl⟩, ⟨⟨_, rfl, rfl⟩, ⟨⟨_, rfl, rfl⟩, ⟨⟨_, rfl, rfl⟩, ⟨⟨_, rfl, rfl⟩, ⟨⟨_, rfl, rfl⟩, ⟨⟨_, rfl, rfl⟩, ⟨⟨_, rfl, rfl⟩, ⟨⟨_, rfl, rfl⟩, ⟨⟨_, rfl, rfl⟩, ⟨⟨_, rfl, rfl⟩, ⟨⟨_, rfl, rfl⟩, ⟨⟨_, rfl, rfl⟩, ⟨⟨_, rfl, rfl⟩, ⟨⟨_, rfl, rfl⟩, ⟨⟨_, rfl, rfl⟩, ⟨⟨_, rfl, rfl⟩, ⟨⟨_, rfl, rfl⟩, ⟨⟨_, rfl, rfl⟩, ⟨⟨_, rfl, rfl⟩, ⟨⟨_, rfl, rfl⟩, ⟨⟨_, rfl, rfl⟩, ⟨⟨_, rfl, rfl⟩, ⟨⟨_, rfl, rfl⟩, ⟨⟨_, rfl, rfl⟩, ⟨⟨_, rfl, rfl⟩, ⟨⟨_, rfl, rfl⟩, ⟨⟨_, rfl, rfl⟩, ⟨⟨_, rfl, rfl⟩, ⟨⟨_, rfl, rfl⟩, ⟨⟨_, rfl, rfl⟩, ⟨⟨_, rfl, rfl⟩, ⟨⟨_, rfl, rfl⟩, ⟨⟨_, rfl, rfl⟩, ⟨⟨_, rfl, rfl⟩, ⟨⟨_, rfl, rfl⟩, ⟨⟨_, rfl, rfl⟩, ⟨⟨_, rfl, rfl⟩, ⟨⟨_, rfl, rfl⟩, ⟨⟨_, rfl, rfl⟩, ⟨⟨_, rfl, rfl⟩, ⟨⟨_, rfl, rfl⟩, ⟨⟨_, rfl, rfl⟩, ⟨⟨_, rfl, rfl⟩, ⟨⟨_, rfl, rfl⟩, ⟨⟨_, rfl, rfl⟩, ⟨⟨_, rfl, rfl⟩, ⟨⟨_, rfl, rfl⟩, ⟨⟨_, rfl, rfl⟩, ⟨⟨_, rfl, rfl⟩, ⟨⟨_, rfl, rfl⟩, ⟨⟨_, rfl, rfl⟩, ⟨⟨_, rfl, rfl⟩, ⟨⟨_, rfl, rfl⟩, ⟨⟨_, rfl, rfl⟩, ⟨⟨_, rfl, rfl⟩, ⟨⟨_, rfl, rfl⟩, ⟨⟨_, rfl, rfl⟩, ⟨⟨_, rfl, rfl⟩, ⟨⟨_, rfl, rfl⟩, ⟨⟨_, rfl, rfl⟩, trivial⟩⟩⟩⟩⟩⟩⟩⟩⟩⟩⟩⟩⟩⟩⟩⟩⟩⟩⟩⟩⟩⟩⟩⟩⟩⟩⟩⟩⟩⟩⟩⟩⟩⟩⟩⟩⟩⟩⟩⟩⟩⟩⟩⟩⟩⟩⟩⟩⟩⟩⟩⟩⟩⟩⟩⟩⟩⟩⟩⟩⟩⟩⟩⟩⟩⟩⟩⟩⟩⟩⟩⟩⟩⟩⟩⟩⟩⟩⟩ rfl ?_
          refine J_istore (pc := 167) (lv' := [(7, .int q8), (0, .ref aX), (1, .ref aL), (2, .ref aH2), (3, .int x3_148), (4, .int x4_148), (5, .int x5_148), (6, .int x6_148)]) C 87 rfl (by decide) rfl ?_
          refine J_iload (pc := 169) C 88 rfl 0 rfl ?_
          refine J_if_lt (pc := 171) (tgt := 186) C 89 rfl rfl (fun c9 => ?_) (fun c9 => ?_)
          · rw [if_pos c9] at h
            exact J_sub [1, 2, 3, 4, 5, 6, 7, 0] rfl (B186 vL_148 vH_148 x5_148 x6_148 q8 h)
          · rw [if_neg c9] at h
            refine J_iload (pc := 174) C 90 rfl 0 rfl ?_
            refine J_sipush (pc := 176) (v := (1000 : Int32)) C 91 rfl rfl ?_
            refine J_icmp_ge (pc := 179) (tgt := 186) C 92 rfl rfl (fun c40 => ?_) (fun c40 => ?_)
            · rw [if_pos c40] at h
              exact J_sub [1, 2, 3, 4, 5, 6, 7, 0] rfl (B186 vL_148 vH_148 x5_148 x6_148 q8 h)
            · rw [if_neg c40] at h
              refine J_iconst (pc := 182) (v := (1 : Int32)) C 93 rfl rfl ?_
              refine J_goto (pc := 183) (tgt := 187) C 94 rfl rfl ?_
              exact J_sub [1, 2, 3, 4, 5, 6, 7, 0] rfl (B187 vL_148 vH_148 x5_148 x6_148 q8 (1 : Int32) h)
  have B29 : ∀ (x3_29 : Int32) (x4_29 : Int32) (n29 : Nat) (vL_29 : JV) (vH_29 : JV) (x5_29 : Int32) (x6_29 : Int32), f_L_areSeated_L29 vT vS vP hA hV hZ x3_29 x4_29 n29 vL_29 vH_29 x5_29 x6_29 = some Rz → J l { frames := 8, cells := 2, slots := 96, locals := 182 } G 16 X (QM X G 2 96 (some (.int (Rz.1))) (wEx aX (aT 0) (aT2 0) (aS 0) (aS2 0) (aP 0) (aH 0) aB aU ++ (wSeat G aT (aS 0) (vT 1) (vT 2) (vT 3) (vT 4 0) (vT 5 0) (vT 6) (vT 7) (vT 8) ++ (wSch G aS (vS 0) (vS 1) (vS 2) (vS 3) (vS 4) (vS 5) (vS 6) (vS 7) (vS 8 0) (vS 9 0) ++ (wPad G aP (vP 0) (vP 1 0) (vP 2) (vP 3) (vP 4) (vP 5 0) (vP 6 0) (vP 7 0) (vP 8 0) (vP 9 0) ++ (wHis G aH hA hV (hZ 1 0))))))) 2 96 29 [(0, .ref aX), (1, .ref aL), (2, .ref aH2), (3, .int x3_29), (4, .int x4_29), (5, .int x5_29), (6, .int x6_29)] [] (wEx aX (aT 0) (aT2 0) (aS 0) (aS2 0) (aP 0) (aH 0) aB aU ++ (wSeat G aT (aS 0) (vT 1) (vT 2) (vT 3) (vT 4 0) (vT 5 0) (vT 6) (vT 7) (vT 8) ++ (wSch G aS (vS 0) (vS 1) (vS 2) (vS 3) (vS 4) (vS 5) (vS 6) (vS 7) (vS 8 0) (vS 9 0) ++ (wPad G aP (vP 0) (vP 1 0) (vP 2) (vP 3) (vP 4) (vP 5 0) (vP 6 0) (vP 7 0) (vP 8 0) (vP 9 0) ++ (wHis G aH hA hV (hZ 1 0) ++ (wArr G aL (vL_29 0) ++ (wArr G aH2 (vH_29 0)))))))) := by
    intro x3_29 x4_29 n29
    induction n29 with
    | zero =>
      intro vL_29 vH_29 x5_29 x6_29 h
      exact (no_none rfl h).elim
    | succ n29 ih29 =>
      have B113 : ∀ (vL_113 : JV) (vH_113 : JV) (x6_113 : Int32) (x7_113 : Int32) (y2_113 : Int32) (y1_113 : Int32), f_L_areSeated_K113 vT vS vP hA hV hZ (fun vL_29 vH_29 x5_29 x6_29 => f_L_areSeated_L29 vT vS vP hA hV hZ x3_29 x4_29 n29 vL_29 vH_29 x5_29 x6_29) vL_113 vH_113 x3_29 x4_29 x6_113 x7_113 y2_113 y1_113 = some Rz → J l { frames := 8, cells := 2, slots := 96, locals := 182 } G 16 X (QM X G 2 96 (some (.int (Rz.1))) (wEx aX (aT 0) (aT2 0) (aS 0) (aS2 0) (aP 0) (aH 0) aB aU ++ (wSeat G aT (aS 0) (vT 1) (vT 2) (vT 3) (vT 4 0) (vT 5 0) (vT 6) (vT 7) (vT 8) ++ (wSch G aS (vS 0) (vS 1) (vS 2) (vS 3) (vS 4) (vS 5) (vS 6) (vS 7) (vS 8 0) (vS 9 0) ++ (wPad G aP (vP 0) (vP 1 0) (vP 2) (vP 3) (vP 4) (vP 5 0) (vP 6 0) (vP 7 0) (vP 8 0) (vP 9 0) ++ (wHis G aH hA hV (hZ 1 0))))))) 2 96 113 [(0, .ref aX), (1, .ref aL), (2, .ref aH2), (3, .int x3_29), (4, .int x4_29), (6, .int x6_113), (7, .int x7_113)] [.int y2_113, .int y1_113, .ref aH2] (wEx aX (aT 0) (aT2 0) (aS 0) (aS2 0) (aP 0) (aH 0) aB aU ++ (wSeat G aT (aS 0) (vT 1) (vT 2) (vT 3) (vT 4 0) (vT 5 0) (vT 6) (vT 7) (vT 8) ++ (wSch G aS (vS 0) (vS 1) (vS 2) (vS 3) (vS 4) (vS 5) (vS 6) (vS 7) (vS 8 0) (vS 9 0) ++ (wPad G aP (vP 0) (vP 1 0) (vP 2) (vP 3) (vP 4) (vP 5 0) (vP 6 0) (vP 7 0) (vP 8 0) (vP 9 0) ++ (wHis G aH hA hV (hZ 1 0) ++ (wArr G aL (vL_113 0) ++ (wArr G aH2 (vH_113 0)))))))) := by
        intro vL_113 vH_113 x6_113 x7_113 y2_113 y1_113 h
        unfold f_L_areSeated_K113 at h
        obtain ⟨g48, h⟩ := gd_some h
        refine J_iast (pc := 113) (f := (vH_113 0)) (m := (Int32.toNatClampNeg y1_113)) C 61 (fun mm vv => (wEx aX (aT 0) (aT2 0) (aS 0) (aS2 0) (aP 0) (aH 0) aB aU ++ (wSeat G aT (aS 0) (vT 1) (vT 2) (vT 3) (vT 4 0) (vT 5 0) (vT 6) (vT 7) (vT 8) ++ (wSch G aS (vS 0) (vS 1) (vS 2) (vS 3) (vS 4) (vS 5) (vS 6) (vS 7) (vS 8 0) (vS 9 0) ++ (wPad G aP (vP 0) (vP 1 0) (vP 2) (vP 3) (vP 4) (vP 5 0) (vP 6 0) (vP 7 0) (vP 8 0) (vP 9 0) ++ (wHis G aH hA hV (hZ 1 0) ++ (wArr G aL (vL_113 0) ++ (wArr G aH2 (upd (vH_113 0) mm vv))))))))) rfl 79 rfl g48 rfl (fun _ _ => rfl) ?_
        refine J_iload (pc := 114) C 62 rfl 6 rfl ?_
        refine J_bipush (pc := 116) (v := (-7 : Int32)) C 63 rfl rfl ?_
        refine J_icmp_eq (pc := 118) (tgt := 132) C 64 rfl rfl (fun c49 => ?_) (fun c49 => ?_)
        · rw [if_pos c49] at h
          refine J_iconst (pc := 132) (v := (1 : Int32)) C 70 rfl rfl ?_
          refine J_goto (pc := 133) (tgt := 137) C 71 rfl rfl ?_
          refine J_istore (pc := 137) (lv' := [(5, .int (1 : Int32)), (0, .ref aX), (1, .ref aL), (2, .ref aH2), (3, .int x3_29), (4, .int x4_29), (6, .int x6_113), (7, .int x7_113)]) C 73 rfl (by decide) rfl ?_
          refine J_iinc (pc := 139) (v := (x6_113 + (1 : Int32))) (lv' := [(6, .int (x6_113 + (1 : Int32))), (5, .int (1 : Int32)), (0, .ref aX), (1, .ref aL), (2, .ref aH2), (3, .int x3_29), (4, .int x4_29), (7, .int x7_113)]) C 74 rfl 6 rfl rfl (by decide) rfl ?_
          refine J_goto (pc := 142) (tgt := 29) C 75 rfl rfl ?_
          exact J_sub [2, 3, 4, 5, 6, 1, 0] rfl (ih29 vL_113 (up2 vH_113 0 (Int32.toNatClampNeg y1_113) y2_113) (1 : Int32) (x6_113 + (1 : Int32)) h)
        · rw [if_neg c49] at h
          refine J_aload_n (pc := 121) C 65 rfl 0 rfl rfl ?_
          refine J_iload (pc := 122) C 66 rfl 5 rfl ?_
          refine J_iload (pc := 124) C 67 rfl 6 rfl ?_
          obtain ⟨q50, hq50, h⟩ := bnd h
          refine J_callS (pc := 126) (st2 := []) (st3 := [.int q50]) (ws2 := (wEx aX (aT 0) (aT2 0) (aS 0) (aS2 0) (aP 0) (aH 0) aB aU ++ (wSeat G aT (aS 0) (vT 1) (vT 2) (vT 3) (vT 4 0) (vT 5 0) (vT 6) (vT 7) (vT 8) ++ (wSch G aS (vS 0) (vS 1) (vS 2) (vS 3) (vS 4) (vS 5) (vS 6) (vS 7) (vS 8 0) (vS 9 0) ++ (wPad G aP (vP 0) (vP 1 0) (vP 2) (vP 3) (vP 4) (vP 5 0) (vP 6 0) (vP 7 0) (vP 8 0) (vP 9 0) ++ (wHis G aH hA hV (hZ 1 0) ++ (wArr G aL (vL_113 0) ++ (wArr G aH2 (upd (vH_113 0) (Int32.toNatClampNeg y1_113) y2_113))))))))) C 68 rfl (c_L_isSitting aX aT aS aT2 aS2 aP aH aB aU vT vS vP hA hV hZ x6_113 x7_113 hq50) V_L_isSitting k369 t_L_isSitting rfl rfl ⟨Nat.le_of_ble_eq_true rfl, Nat.le_of_ble_eq_true rfl⟩ (Nat.le_of_ble_eq_true rfl) ⟨Nat.le_refl _, Nat.le_refl _⟩ (isC := [0, 1, 2, 3, 4, 5, 6, 7, 8, 9, 10, 11, 12, 13, 14, 15, 16, 17, 18, 19, 20, 21, 22, 23, 24, 25, 26, 27, 28, 29, 30, 31, 32, 33, 34, 35, 36, 37, 38, 39, 40, 41, 42, 43, 44, 45, 46, 47, 48, 49, 50, 51, 52, 53, 54, 55, 56, 57, 58, 59, 60, 61, 62, 63, 64, 65, 66, 67, 68, 69, 70, 71, 72, 73, 74, 75, 76, 77]) (isR := [78, 79]) (N := 80) ⟨rfl, by decide +kernel, rfl, by decide +kernel, rfl, ⟨⟨_, rfl, rfl⟩, ⟨⟨_, rfl, rfl⟩, trivial⟩⟩⟩ rfl ?_
          refine J_if_eq (pc := 129) (tgt := 136) C 69 rfl rfl (fun c51 => ?_) (fun c51 => ?_)
          · rw [if_pos c51] at h
            refine J_iconst (pc := 136) (v := (0 : Int32)) C 72 rfl rfl ?_
            refine J_istore (pc := 137) (lv' := [(5, .int (0 : Int32)), (0, .ref aX), (1, .ref aL), (2, .ref aH2), (3, .int x3_29), (4, .int x4_29), (6, .int x6_113), (7, .int x7_113)]) C 73 rfl (by decide) rfl ?_
            refine J_iinc (pc := 139) (v := (x6_113 + (1 : Int32))) (lv' := [(6, .int (x6_113 + (1 : Int32))), (5, .int (0 : Int32)), (0, .ref aX), (1, .ref aL), (2, .ref aH2), (3, .int x3_29), (4, .int x4_29), (7, .int x7_113)]) C 74 rfl 6 rfl rfl (by decide) rfl ?_
            refine J_goto (pc := 142) (tgt := 29) C 75 rfl rfl ?_
            exact J_sub [2, 3, 4, 5, 6, 1, 0] rfl (ih29 vL_113 (up2 vH_113 0 (Int32.toNatClampNeg y1_113) y2_113) (0 : Int32) (x6_113 + (1 : Int32)) h)
          · rw [if_neg c51] at h
            refine J_iconst (pc := 132) (v := (1 : Int32)) C 70 rfl rfl ?_
            refine J_goto (pc := 133) (tgt := 137) C 71 rfl rfl ?_
            refine J_istore (pc := 137) (lv' := [(5, .int (1 : Int32)), (0, .ref aX), (1, .ref aL), (2, .ref aH2), (3, .int x3_29), (4, .int x4_29), (6, .int x6_113), (7, .int x7_113)]) C 73 rfl (by decide) rfl ?_
            refine J_iinc (pc := 139) (v := (x6_113 + (1 : Int32))) (lv' := [(6, .int (x6_113 + (1 : Int32))), (5, .int (1 : Int32)), (0, .ref aX), (1, .ref aL), (2, .ref aH2), (3, .int x3_29), (4, .int x4_29), (7, .int x7_113)]) C 74 rfl 6 rfl rfl (by decide) rfl ?_
            refine J_goto (pc := 142) (tgt := 29) C 75 rfl rfl ?_
            exact J_sub [2, 3, 4, 5, 6, 1, 0] rfl (ih29 vL_113 (up2 vH_113 0 (Int32.toNatClampNeg y1_113) y2_113) (1 : Int32) (x6_113 + (1 : Int32)) h)
      have B92 : ∀ (vL_92 : JV) (vH_92 : JV) (x6_92 : Int32) (x7_92 : Int32) (y2_92 : Int32) (y1_92 : Int32), f_L_areSeated_K92 vT vS vP hA hV hZ (fun vL_29 vH_29 x5_29 x6_29 => f_L_areSeated_L29 vT vS vP hA hV hZ x3_29 x4_29 n29 vL_29 vH_29 x5_29 x6_29) vL_92 vH_92 x3_29 x4_29 x6_92 x7_92 y2_92 y1_92 = some Rz → J l { frames := 8, cells := 2, slots := 96, locals := 182 } G 16 X (QM X G 2 96 (some (.int (Rz.1))) (wEx aX (aT 0) (aT2 0) (aS 0) (aS2 0) (aP 0) (aH 0) aB aU ++ (wSeat G aT (aS 0) (vT 1) (vT 2) (vT 3) (vT 4 0) (vT 5 0) (vT 6) (vT 7) (vT 8) ++ (wSch G aS (vS 0) (vS 1) (vS 2) (vS 3) (vS 4) (vS 5) (vS 6) (vS 7) (vS 8 0) (vS 9 0) ++ (wPad G aP (vP 0) (vP 1 0) (vP 2) (vP 3) (vP 4) (vP 5 0) (vP 6 0) (vP 7 0) (vP 8 0) (vP 9 0) ++ (wHis G aH hA hV (hZ 1 0))))))) 2 96 92 [(0, .ref aX), (1, .ref aL), (2, .ref aH2), (3, .int x3_29), (4, .int x4_29), (6, .int x6_92), (7, .int x7_92)] [.int y2_92, .int y1_92, .ref aL] (wEx aX (aT 0) (aT2 0) (aS 0) (aS2 0) (aP 0) (aH 0) aB aU ++ (wSeat G aT (aS 0) (vT 1) (vT 2) (vT 3) (vT 4 0) (vT 5 0) (vT 6) (vT 7) (vT 8) ++ (wSch G aS (vS 0) (vS 1) (vS 2) (vS 3) (vS 4) (vS 5) (vS 6) (vS 7) (vS 8 0) (vS 9 0) ++ (wPad G aP (vP 0) (vP 1 0) (vP 2) (vP 3) (vP 4) (vP 5 0) (vP 6 0) (vP 7 0) (vP 8 0) (vP 9 0) ++ (wHis G aH hA hV (hZ 1 0) ++ (wArr G aL (vL_92 0) ++ (wArr G aH2 (vH_92 0)))))))) := by
        intro vL_92 vH_92 x6_92 x7_92 y2_92 y1_92 h
        unfold f_L_areSeated_K92 at h
        obtain ⟨g46, h⟩ := gd_some h
        refine J_iast (pc := 92) (f := (vL_92 0)) (m := (Int32.toNatClampNeg y1_92)) C 50 (fun mm vv => (wEx aX (aT 0) (aT2 0) (aS 0) (aS2 0) (aP 0) (aH 0) aB aU ++ (wSeat G aT (aS 0) (vT 1) (vT 2) (vT 3) (vT 4 0) (vT 5 0) (vT 6) (vT 7) (vT 8) ++ (wSch G aS (vS 0) (vS 1) (vS 2) (vS 3) (vS 4) (vS 5) (vS 6) (vS 7) (vS 8 0) (vS 9 0) ++ (wPad G aP (vP 0) (vP 1 0) (vP 2) (vP 3) (vP 4) (vP 5 0) (vP 6 0) (vP 7 0) (vP 8 0) (vP 9 0) ++ (wHis G aH hA hV (hZ 1 0) ++ (wArr G aL (upd (vL_92 0) mm vv) ++ (wArr G aH2 (vH_92 0))))))))) rfl 78 rfl g46 rfl (fun _ _ => rfl) ?_
        refine J_aload_n (pc := 93) C 51 rfl 2 rfl rfl ?_
        refine J_iload (pc := 94) C 52 rfl 5 rfl ?_
        refine J_bipush (pc := 96) (v := (48 : Int32)) C 53 rfl rfl ?_
        refine J_irem (pc := 98) C 54 rfl (by decide) ?_
        refine J_iload (pc := 99) C 55 rfl 5 rfl ?_
        refine J_bipush (pc := 101) (v := (48 : Int32)) C 56 rfl rfl ?_
        refine J_icmp_ge (pc := 103) (tgt := 111) C 57 rfl rfl (fun c47 => ?_) (fun c47 => ?_)
        · rw [if_pos c47] at h
          refine J_iload (pc := 111) C 60 rfl 6 rfl ?_
          exact J_sub [0, 1, 2, 3, 4, 5, 6] rfl (B113 (up2 vL_92 0 (Int32.toNatClampNeg y1_92) y2_92) vH_92 x6_92 x7_92 x7_92 (x6_92 - x6_92 / (48 : Int32) * (48 : Int32)) h)
        · rw [if_neg c47] at h
          refine J_bipush (pc := 106) (v := (-7 : Int32)) C 58 rfl rfl ?_
          refine J_goto (pc := 108) (tgt := 113) C 59 rfl rfl ?_
          exact J_sub [0, 1, 2, 3, 4, 5, 6] rfl (B113 (up2 vL_92 0 (Int32.toNatClampNeg y1_92) y2_92) vH_92 x6_92 x7_92 (-7 : Int32) (x6_92 - x6_92 / (48 : Int32) * (48 : Int32)) h)
      have B65 : ∀ (vL_65 : JV) (vH_65 : JV) (x6_65 : Int32) (y0_65 : Int32), f_L_areSeated_K65 vT vS vP hA hV hZ (fun vL_29 vH_29 x5_29 x6_29 => f_L_areSeated_L29 vT vS vP hA hV hZ x3_29 x4_29 n29 vL_29 vH_29 x5_29 x6_29) vL_65 vH_65 x3_29 x4_29 x6_65 y0_65 = some Rz → J l { frames := 8, cells := 2, slots := 96, locals := 182 } G 16 X (QM X G 2 96 (some (.int (Rz.1))) (wEx aX (aT 0) (aT2 0) (aS 0) (aS2 0) (aP 0) (aH 0) aB aU ++ (wSeat G aT (aS 0) (vT 1) (vT 2) (vT 3) (vT 4 0) (vT 5 0) (vT 6) (vT 7) (vT 8) ++ (wSch G aS (vS 0) (vS 1) (vS 2) (vS 3) (vS 4) (vS 5) (vS 6) (vS 7) (vS 8 0) (vS 9 0) ++ (wPad G aP (vP 0) (vP 1 0) (vP 2) (vP 3) (vP 4) (vP 5 0) (vP 6 0) (vP 7 0) (vP 8 0) (vP 9 0) ++ (wHis G aH hA hV (hZ 1 0))))))) 2 96 65 [(0, .ref aX), (1, .ref aL), (2, .ref aH2), (3, .int x3_29), (4, .int x4_29), (6, .int x6_65)] [.int y0_65] (wEx aX (aT 0) (aT2 0) (aS 0) (aS2 0) (aP 0) (aH 0) aB aU ++ (wSeat G aT (aS 0) (vT 1) (vT 2) (vT 3) (vT 4 0) (vT 5 0) (vT 6) (vT 7) (vT 8) ++ (wSch G aS (vS 0) (vS 1) (vS 2) (vS 3) (vS 4) (vS 5) (vS 6) (vS 7) (vS 8 0) (vS 9 0) ++ (wPad G aP (vP 0) (vP 1 0) (vP 2) (vP 3) (vP 4) (vP 5 0) (vP 6 0) (vP 7 0) (vP 8 0) (vP 9 0) ++ (wHis G aH hA hV (hZ 1 0) ++ (wArr G aL (vL_65 0) ++ (wArr G aH2 (vH_65 0)))))))) := by
        intro vL_65 vH_65 x6_65 y0_65 h
        unfold f_L_areSeated_K65 at h
        refine J_istore (pc := 65) (lv' := [(7, .int y0_65), (0, .ref aX), (1, .ref aL), (2, .ref aH2), (3, .int x3_29), (4, .int x4_29), (6, .int x6_65)]) C 35 rfl (by decide) rfl ?_
        refine J_aload_n (pc := 67) C 36 rfl 2 rfl rfl ?_
        refine J_iload (pc := 68) C 37 rfl 6 rfl ?_
        refine J_bipush (pc := 70) (v := (48 : Int32)) C 38 rfl rfl ?_
        refine J_irem (pc := 72) C 39 rfl (by decide) ?_
        refine J_iload (pc := 73) C 40 rfl 6 rfl ?_
        refine J_bipush (pc := 75) (v := (48 : Int32)) C 41 rfl rfl ?_
        refine J_icmp_ge (pc := 77) (tgt := 85) C 42 rfl rfl (fun c44 => ?_) (fun c44 => ?_)
        · rw [if_pos c44] at h
          refine J_aload_n (pc := 85) C 45 rfl 2 rfl rfl ?_
          refine J_iload (pc := 86) C 46 rfl 6 rfl ?_
          refine J_bipush (pc := 88) (v := (48 : Int32)) C 47 rfl rfl ?_
          refine J_irem (pc := 90) C 48 rfl (by decide) ?_
          obtain ⟨g45, h⟩ := gd_some h
          refine J_iald (pc := 91) (f := (vL_65 0)) (v := ((vL_65 0) (Int32.toNatClampNeg (x6_65 - x6_65 / (48 : Int32) * (48 : Int32))))) C 49 rfl 78 rfl g45 rfl ?_
          exact J_sub [1, 2, 3, 4, 5, 6, 0] rfl (B92 vL_65 vH_65 x6_65 y0_65 ((vL_65 0) (Int32.toNatClampNeg (x6_65 - x6_65 / (48 : Int32) * (48 : Int32)))) (x6_65 - x6_65 / (48 : Int32) * (48 : Int32)) h)
        · rw [if_neg c44] at h
          refine J_iload (pc := 80) C 43 rfl 0 rfl ?_
          refine J_goto (pc := 82) (tgt := 92) C 44 rfl rfl ?_
          exact J_sub [1, 2, 3, 4, 5, 6, 0] rfl (B92 vL_65 vH_65 x6_65 y0_65 y0_65 (x6_65 - x6_65 / (48 : Int32) * (48 : Int32)) h)
      intro vL_29 vH_29 x5_29 x6_29 h
      replace h : f_L_areSeated_b29 vT vS vP hA hV hZ x3_29 x4_29 (fun vL_29 vH_29 x5_29 x6_29 => f_L_areSeated_L29 vT vS vP hA hV hZ x3_29 x4_29 n29 vL_29 vH_29 x5_29 x6_29) vL_29 vH_29 x5_29 x6_29 = some Rz := h
      unfold f_L_areSeated_b29 at h
      refine J_iload (pc := 29) C 18 rfl 6 rfl ?_
      refine J_bipush (pc := 31) (v := (96 : Int32)) C 19 rfl rfl ?_
      refine J_icmp_ge (pc := 33) (tgt := 145) C 20 rfl rfl (fun c3 => ?_) (fun c3 => ?_)
      · rw [if_pos c3] at h
        refine J_iconst (pc := 145) (v := (0 : Int32)) C 76 rfl rfl ?_
        refine J_istore (pc := 146) (lv' := [(6, .int (0 : Int32)), (0, .ref aX), (1, .ref aL), (2, .ref aH2), (3, .int x3_29), (4, .int x4_29), (5, .int x5_29)]) C 77 rfl (by decide) rfl ?_
        exact J_sub [1, 2, 3, 4, 5, 6, 0] rfl (B148 x3_29 x4_29 FU vL_29 vH_29 x5_29 (0 : Int32) h)
      · rw [if_neg c3] at h
        refine J_iload (pc := 36) C 21 rfl 5 rfl ?_
        refine J_if_eq (pc := 38) (tgt := 145) C 22 rfl rfl (fun c41 => ?_) (fun c41 => ?_)
        · rw [if_pos c41] at h
          refine J_iconst (pc := 145) (v := (0 : Int32)) C 76 rfl rfl ?_
          refine J_istore (pc := 146) (lv' := [(6, .int (0 : Int32)), (0, .ref aX), (1, .ref aL), (2, .ref aH2), (3, .int x3_29), (4, .int x4_29), (5, .int x5_29)]) C 77 rfl (by decide) rfl ?_
          exact J_sub [1, 2, 3, 4, 5, 6, 0] rfl (B148 x3_29 x4_29 FU vL_29 vH_29 x5_29 (0 : Int32) h)
        · rw [if_neg c41] at h
          refine J_iload (pc := 41) C 23 rfl 6 rfl ?_
          refine J_bipush (pc := 43) (v := (6 : Int32)) C 24 rfl rfl ?_
          refine J_aload_n (pc := 45) C 25 rfl 0 rfl rfl ?_
          refine J_iconst (pc := 46) (v := (3 : Int32)) C 26 rfl rfl ?_
          obtain ⟨q42, hq42, h⟩ := bnd h
          refine J_callV (pc := 47) (st2 := [.int (6 : Int32), .int x6_29]) (st3 := [.int q42, .int (6 : Int32), .int x6_29]) (ws2 := (wEx aX (aT 0) (aT2 0) (aS 0) (aS2 0) (aP 0) (aH 0) aB aU ++ (wSeat G aT (aS 0) (vT 1) (vT 2) (vT 3) (vT 4 0) (vT 5 0) (vT 6) (vT 7) (vT 8) ++ (wSch G aS (vS 0) (vS 1) (vS 2) (vS 3) (vS 4) (vS 5) (vS 6) (vS 7) (vS 8 0) (vS 9 0) ++ (wPad G aP (vP 0) (vP 1 0) (vP 2) (vP 3) (vP 4) (vP 5 0) (vP 6 0) (vP 7 0) (vP 8 0) (vP 9 0) ++ (wHis G aH hA hV (hZ 1 0) ++ (wArr G aL (vL_29 0) ++ (wArr G aH2 (vH_29 0))))))))) C 27 rfl (c_X4_count aX aT aS aT2 aS2 aP aH aB aU vT vS vP hA hV hZ (3 : Int32) hq42) V_X4_count k362 i_X4_count s_X4_count rfl rfl ⟨Nat.le_of_ble_eq_true rfl, Nat.le_of_ble_eq_true rfl⟩ (Nat.le_of_ble_eq_true rfl) ⟨Nat.le_refl _, Nat.le_refl _⟩ 0 4 rfl rfl rfl (isC := [0, 1, 2, 3, 4, 5, 6, 7, 8, 9, 10, 11, 12, 13, 14, 15, 16, 17, 18, 19, 20, 21, 22, 23, 24, 25, 26, 27, 28, 29, 30, 31, 32, 33, 34, 35, 36, 37, 38, 39, 40, 41, 42, 43, 44, 45, 46, 47, 48, 49, 50, 51, 52, 53, 54, 55, 56, 57, 58, 59, 60, 61, 62, 63, 64, 65, 66, 67, 68, 69, 70, 71, 72, 73, 74, 75, 76, 77]) (isR := [78, 79]) (N := 80) ⟨rfl, by decide +kernel, rfl, by decide +kernel, rfl, ⟨⟨_, rfl, rfl⟩, ⟨⟨_, rfl, rfl⟩, trivial⟩⟩⟩ rfl ?_
          refine J_imul (pc := 50) C 28 rfl  ?_
          refine J_icmp_ge (pc := 51) (tgt := 63) C 29 rfl rfl (fun c43 => ?_) (fun c43 => ?_)
          · rw [if_pos c43] at h
            refine J_bipush (pc := 63) (v := (-7 : Int32)) C 34 rfl rfl ?_
            exact J_sub [0, 1, 2, 3, 4, 6] rfl (B65 vL_29 vH_29 x6_29 (-7 : Int32) h)
          · rw [if_neg c43] at h
            refine J_aload_n (pc := 54) C 30 rfl 0 rfl rfl ?_
            refine J_iload (pc := 55) C 31 rfl 6 rfl ?_
            obtain ⟨q52, hq52, h⟩ := bnd h
            refine J_callS (pc := 57) (st2 := []) (st3 := [.int q52]) (ws2 := (wEx aX (aT 0) (aT2 0) (aS 0) (aS2 0) (aP 0) (aH 0) aB aU ++ (wSeat G aT (aS 0) (vT 1) (vT 2) (vT 3) (vT 4 0) (vT 5 0) (vT 6) (vT 7) (vT 8) ++ (wSch G aS (vS 0) (vS 1) (vS 2) (vS 3) (vS 4) (vS 5) (vS 6) (vS 7) (vS 8 0) (vS 9 0) ++ (wPad G aP (vP 0) (vP 1 0) (vP 2) (vP 3) (vP 4) (vP 5 0) (vP 6 0) (vP 7 0) (vP 8 0) (vP 9 0) ++ (wHis G aH hA hV (hZ 1 0) ++ (wArr G aL (vL_29 0) ++ (wArr G aH2 (vH_29 0))))))))) C 32 rfl (c_L_place aX aT aS aT2 aS2 aP aH aB aU vT vS x6_29 hq52) V_L_place k366 t_L_place rfl rfl ⟨Nat.le_of_ble_eq_true rfl, Nat.le_of_ble_eq_true rfl⟩ (Nat.le_of_ble_eq_true rfl) ⟨Nat.le_refl _, Nat.le_refl _⟩ (isC := [0, 1, 2, 3, 4, 5, 6, 7, 8, 9, 10, 11, 12, 13, 14, 15, 16]) (isR := [17, 18, 19, 20, 21, 22, 23, 24, 25, 26, 27, 28, 29, 30, 31, 32, 33, 34, 35, 36, 37, 38, 39, 40, 41, 42, 43, 44, 45, 46, 47, 48, 49, 50, 51, 52, 53, 54, 55, 56, 57, 58, 59, 60, 61, 62, 63, 64, 65, 66, 67, 68, 69, 70, 71, 72, 73, 74, 75, 76, 77, 78, 79]) (N := 80) ⟨rfl, by decide +kernel, rfl, by decide +kernel, rfl, ⟨⟨_, rfl, rfl⟩, ⟨⟨_, rfl, rfl⟩, ⟨⟨_, rfl, rfl⟩, ⟨⟨_, rfl, rfl⟩, ⟨⟨_, rfl, rfl⟩, ⟨⟨_, rfl, rfl⟩, ⟨⟨_, rfl, rfl⟩, ⟨⟨_, rfl, rfl⟩, ⟨⟨_, rfl, rfl⟩, ⟨⟨_, rfl, rfl⟩, ⟨⟨_, rfl, rfl⟩, ⟨⟨_, rfl, rfl⟩, ⟨⟨_, rfl, rfl⟩, ⟨⟨_, rfl, rfl⟩, ⟨⟨_, rfl, rfl⟩, ⟨⟨_, rfl, rfl⟩, ⟨⟨_, rfl, rfl⟩, ⟨⟨_, rfl, rfl⟩, ⟨⟨_, rfl, rfl⟩, ⟨⟨_, rfl, rfl⟩, ⟨⟨_, rfl, rfl⟩, ⟨⟨_, rfl, rfl⟩, ⟨⟨_, rfl, rfl⟩, ⟨⟨_, rfl, rfl⟩, ⟨⟨_, rfl, rfl⟩, ⟨⟨_, rfl, rfl⟩, ⟨⟨_, rfl, rfl⟩, ⟨⟨_, rfl, rfl⟩, ⟨⟨_, rfl, rfl⟩, ⟨⟨_, rfl, rfl⟩, ⟨⟨_, rfl, rfl⟩, ⟨⟨_, rfl, rfl⟩, ⟨⟨_, rfl, rfl⟩, ⟨⟨_, rfl, rfl⟩, ⟨⟨_, rfl, rfl⟩, ⟨⟨_, rfl, rfl⟩, ⟨⟨_, rfl, rfl⟩, ⟨⟨_, rfl, rfl⟩, ⟨⟨_, rfl, rfl⟩, ⟨⟨_, rfl, rfl⟩, ⟨⟨_, rfl, rfl⟩, ⟨⟨_, rfl, rfl⟩, ⟨⟨_, rfl, rfl⟩, ⟨⟨_, rfl, rfl⟩, ⟨⟨_, rfl, rfl⟩, ⟨⟨_, rfl, rfl⟩, ⟨⟨_, rfl, rfl⟩, ⟨⟨_, rfl, rfl⟩, ⟨⟨_, rfl, rfl⟩, ⟨⟨_, rfl, rfl⟩, ⟨⟨_, rfl, rfl⟩, ⟨⟨_, rfl, rfl⟩, ⟨⟨_, rfl, rfl⟩, ⟨⟨_, rfl, rfl⟩, ⟨⟨_, rfl, rfl⟩, ⟨⟨_, rfl, rfl⟩, ⟨⟨_, rfl, rfl⟩, ⟨⟨_, rfl, rfl⟩, ⟨⟨_, rfl, rfl⟩, ⟨⟨_, rfl, rfl⟩, ⟨⟨_, rfl, rfl⟩, ⟨⟨_, rfl, rfl⟩, ⟨⟨_, rfl, rfl⟩, trivial⟩⟩⟩⟩⟩⟩⟩⟩⟩⟩⟩⟩⟩⟩⟩⟩⟩⟩⟩⟩⟩⟩⟩⟩⟩⟩⟩⟩⟩⟩⟩⟩⟩⟩⟩⟩⟩⟩⟩⟩⟩⟩⟩⟩⟩⟩⟩⟩⟩⟩⟩⟩⟩⟩⟩⟩⟩⟩⟩⟩⟩⟩⟩⟩ rfl ?_
            refine J_goto (pc := 60) (tgt := 65) C 33 rfl rfl ?_
            exact J_sub [0, 1, 2, 3, 4, 6] rfl (B65 vL_29 vH_29 x6_29 q52 h)
  unfold f_L_areSeated_body at h
  refine J_aload_n (pc := 10) C 6 rfl 2 rfl rfl ?_
  refine J_iconst (pc := 11) (v := (2 : Int32)) C 7 rfl rfl ?_
  obtain ⟨q1, hq1, h⟩ := bnd h
  refine J_callV (pc := 12) (st2 := []) (st3 := [.int q1]) (ws2 := (wEx aX (aT 0) (aT2 0) (aS 0) (aS2 0) (aP 0) (aH 0) aB aU ++ (wSeat G aT (aS 0) (vT 1) (vT 2) (vT 3) (vT 4 0) (vT 5 0) (vT 6) (vT 7) (vT 8) ++ (wSch G aS (vS 0) (vS 1) (vS 2) (vS 3) (vS 4) (vS 5) (vS 6) (vS 7) (vS 8 0) (vS 9 0) ++ (wPad G aP (vP 0) (vP 1 0) (vP 2) (vP 3) (vP 4) (vP 5 0) (vP 6 0) (vP 7 0) (vP 8 0) (vP 9 0) ++ (wHis G aH hA hV (hZ 1 0) ++ (wArr G aL (vL 0) ++ (wArr G aH2 (vH 0))))))))) C 8 rfl (c_X4_count aX aT aS aT2 aS2 aP aH aB aU vT vS vP hA hV hZ (2 : Int32) hq1) V_X4_count k362 i_X4_count s_X4_count rfl rfl ⟨Nat.le_of_ble_eq_true rfl, Nat.le_of_ble_eq_true rfl⟩ (Nat.le_of_ble_eq_true rfl) ⟨Nat.le_refl _, Nat.le_refl _⟩ 0 4 rfl rfl rfl (isC := [0, 1, 2, 3, 4, 5, 6, 7, 8, 9, 10, 11, 12, 13, 14, 15, 16, 17, 18, 19, 20, 21, 22, 23, 24, 25, 26, 27, 28, 29, 30, 31, 32, 33, 34, 35, 36, 37, 38, 39, 40, 41, 42, 43, 44, 45, 46, 47, 48, 49, 50, 51, 52, 53, 54, 55, 56, 57, 58, 59, 60, 61, 62, 63, 64, 65, 66, 67, 68, 69, 70, 71, 72, 73, 74, 75, 76, 77]) (isR := [78, 79]) (N := 80) ⟨rfl, by decide +kernel, rfl, by decide +kernel, rfl, ⟨⟨_, rfl, rfl⟩, ⟨⟨_, rfl, rfl⟩, trivial⟩⟩⟩ rfl ?_
  refine J_istore_n (pc := 15) (lv' := [(3, .int q1), (2, .ref aH2), (1, .ref aL), (0, .ref aX)]) C 9 rfl rfl (by decide) rfl ?_
  refine J_aload_n (pc := 16) C 10 rfl 3 rfl rfl ?_
  refine J_iconst (pc := 17) (v := (0 : Int32)) C 11 rfl rfl ?_
  obtain ⟨q2, hq2, h⟩ := bnd h
  refine J_callV (pc := 18) (st2 := []) (st3 := [.int q2]) (ws2 := (wEx aX (aT 0) (aT2 0) (aS 0) (aS2 0) (aP 0) (aH 0) aB aU ++ (wSeat G aT (aS 0) (vT 1) (vT 2) (vT 3) (vT 4 0) (vT 5 0) (vT 6) (vT 7) (vT 8) ++ (wSch G aS (vS 0) (vS 1) (vS 2) (vS 3) (vS 4) (vS 5) (vS 6) (vS 7) (vS 8 0) (vS 9 0) ++ (wPad G aP (vP 0) (vP 1 0) (vP 2) (vP 3) (vP 4) (vP 5 0) (vP 6 0) (vP 7 0) (vP 8 0) (vP 9 0) ++ (wHis G aH hA hV (hZ 1 0) ++ (wArr G aL (vL 0) ++ (wArr G aH2 (vH 0))))))))) C 12 rfl (c_X4_count aX aT aS aT2 aS2 aP aH aB aU vT vS vP hA hV hZ (0 : Int32) hq2) V_X4_count k362 i_X4_count s_X4_count rfl rfl ⟨Nat.le_of_ble_eq_true rfl, Nat.le_of_ble_eq_true rfl⟩ (Nat.le_of_ble_eq_true rfl) ⟨Nat.le_refl _, Nat.le_refl _⟩ 0 4 rfl rfl rfl (isC := [0, 1, 2, 3, 4, 5, 6, 7, 8, 9, 10, 11, 12, 13, 14, 15, 16, 17, 18, 19, 20, 21, 22, 23, 24, 25, 26, 27, 28, 29, 30, 31, 32, 33, 34, 35, 36, 37, 38, 39, 40, 41, 42, 43, 44, 45, 46, 47, 48, 49, 50, 51, 52, 53, 54, 55, 56, 57, 58, 59, 60, 61, 62, 63, 64, 65, 66, 67, 68, 69, 70, 71, 72, 73, 74, 75, 76, 77]) (isR := [78, 79]) (N := 80) ⟨rfl, by decide +kernel, rfl, by decide +kernel, rfl, ⟨⟨_, rfl, rfl⟩, ⟨⟨_, rfl, rfl⟩, trivial⟩⟩⟩ rfl ?_
  refine J_istore (pc := 21) (lv' := [(4, .int q2), (3, .int q1), (2, .ref aH2), (1, .ref aL), (0, .ref aX)]) C 13 rfl (by decide) rfl ?_
  refine J_iconst (pc := 23) (v := (1 : Int32)) C 14 rfl rfl ?_
  refine J_istore (pc := 24) (lv' := [(5, .int (1 : Int32)), (4, .int q2), (3, .int q1), (2, .ref aH2), (1, .ref aL), (0, .ref aX)]) C 15 rfl (by decide) rfl ?_
  refine J_iconst (pc := 26) (v := (0 : Int32)) C 16 rfl rfl ?_
  refine J_istore (pc := 27) (lv' := [(6, .int (0 : Int32)), (5, .int (1 : Int32)), (4, .int q2), (3, .int q1), (2, .ref aH2), (1, .ref aL), (0, .ref aX)]) C 17 rfl (by decide) rfl ?_
  exact J_sub [6, 5, 4, 3, 2, 1, 0] rfl (B29 q1 q2 FU vL vH (1 : Int32) (0 : Int32) h)
set_option maxRecDepth 100000 in
set_option maxHeartbeats 4000000 in
theorem c_L_areSeated {l : Launch} {G : JG} (aX : Nat) (aT : Nat → Nat) (aS : Nat → Nat) (aT2 : Nat → Nat) (aS2 : Nat → Nat) (aP : Nat → Nat) (aH : Nat → Nat) (aB : Nat) (aU : Nat) (vT : JV) (vS : JV) (vP : JV) (hA : Nat → Nat → Nat) (hV : Nat → JV) (hZ : JV) {Rz : Int32} (h : f_L_areSeated vT vS vP hA hV hZ = some Rz) : JMN 2 96 l G yL_areSeated cL_areSeated 16 (some .boolean) 8 182 [.ref aX] (wEx aX (aT 0) (aT2 0) (aS 0) (aS2 0) (aP 0) (aH 0) aB aU ++ (wSeat G aT (aS 0) (vT 1) (vT 2) (vT 3) (vT 4 0) (vT 5 0) (vT 6) (vT 7) (vT 8) ++ (wSch G aS (vS 0) (vS 1) (vS 2) (vS 3) (vS 4) (vS 5) (vS 6) (vS 7) (vS 8 0) (vS 9 0) ++ (wPad G aP (vP 0) (vP 1 0) (vP 2) (vP 3) (vP 4) (vP 5 0) (vP 6 0) (vP 7 0) (vP 8 0) (vP 9 0) ++ (wHis G aH hA hV (hZ 1 0)))))) (wEx aX (aT 0) (aT2 0) (aS 0) (aS2 0) (aP 0) (aH 0) aB aU ++ (wSeat G aT (aS 0) (vT 1) (vT 2) (vT 3) (vT 4 0) (vT 5 0) (vT 6) (vT 7) (vT 8) ++ (wSch G aS (vS 0) (vS 1) (vS 2) (vS 3) (vS 4) (vS 5) (vS 6) (vS 7) (vS 8 0) (vS 9 0) ++ (wPad G aP (vP 0) (vP 1 0) (vP 2) (vP 3) (vP 4) (vP 5 0) (vP 6 0) (vP 7 0) (vP 8 0) (vP 9 0) ++ (wHis G aH hA hV (hZ 1 0)))))) (some (.int Rz)) := by
  obtain ⟨R0, hR, h⟩ := bnd h
  cases h
  refine JMN.of (own := RL) (tb := T_L_areSeated) (by decide) (Nat.le_of_ble_eq_true rfl) D_L_areSeated rfl (fun X C => ?_)
  refine J_sub (lv' := [(0, .ref aX)]) [0] rfl ?_
  refine J_bipush (pc := 0) (v := (48 : Int32)) C 0 rfl rfl ?_
  refine J_newaI (pc := 2) (N := 48) C 1 rfl k4 (by decide) rfl (Nat.le_of_ble_eq_true rfl) (Nat.le_of_ble_eq_true rfl) (Nat.le_of_ble_eq_true rfl) (fun aL => ?_)
  refine J_astore_n (pc := 4) (lv' := [(1, .ref aL), (0, .ref aX)]) C 2 rfl rfl (by decide) rfl ?_
  refine J_bipush (pc := 5) (v := (48 : Int32)) C 3 rfl rfl ?_
  refine J_newaI (pc := 7) (N := 48) C 4 rfl k4 (by decide) rfl (Nat.le_of_ble_eq_true rfl) (Nat.le_of_ble_eq_true rfl) (Nat.le_of_ble_eq_true rfl) (fun aH2 => ?_)
  refine J_astore_n (pc := 9) (lv' := [(2, .ref aH2), (1, .ref aL), (0, .ref aX)]) C 5 rfl rfl (by decide) rfl ?_
  refine J_perm (ws' := (wEx aX (aT 0) (aT2 0) (aS 0) (aS2 0) (aP 0) (aH 0) aB aU ++ (wSeat G aT (aS 0) (vT 1) (vT 2) (vT 3) (vT 4 0) (vT 5 0) (vT 6) (vT 7) (vT 8) ++ (wSch G aS (vS 0) (vS 1) (vS 2) (vS 3) (vS 4) (vS 5) (vS 6) (vS 7) (vS 8 0) (vS 9 0) ++ (wPad G aP (vP 0) (vP 1 0) (vP 2) (vP 3) (vP 4) (vP 5 0) (vP 6 0) (vP 7 0) (vP 8 0) (vP 9 0) ++ (wHis G aH hA hV (hZ 1 0) ++ (wArr G aL ((fun _ _ => (0 : Int32)) 0) ++ (wArr G aH2 ((fun _ _ => (0 : Int32)) 0))))))))) [0, 1, 2, 3, 4, 5, 6, 7, 8, 9, 10, 11, 12, 13, 14, 15, 16, 17, 18, 19, 20, 21, 22, 23, 24, 25, 26, 27, 28, 29, 30, 31, 32, 33, 34, 35, 36, 37, 38, 39, 40, 41, 42, 43, 44, 45, 46, 47, 48, 49, 50, 51, 52, 53, 54, 55, 56, 57, 58, 59, 60, 61, 62, 63, 64, 65, 66, 67, 68, 69, 70, 71, 72, 73, 74, 75, 76, 77, 78, 79] (by decide +kernel) rfl ?_
  exact b_L_areSeated C aX aT aS aT2 aS2 aP aH aB aU aL aH2 vT vS vP hA hV hZ (fun _ _ => (0 : Int32)) (fun _ _ => (0 : Int32)) hR
