def T_X2_copyFrom : List (Nat × ClassFile.Instr × Nat) := [(0, .iconst 0, 1), (1, .istore_n 2, 1), (2, .iload_n 2, 1), (3, .iconst 3, 1), (4, .if_icmp .ge 21, 3), (7, .aload_n 0, 1), (8, .getfield 9, 3), (11, .iload_n 2, 1), (12, .aload_n 1, 1), (13, .getfield 9, 3), (16, .iload_n 2, 1), (17, .iaload, 1), (18, .iastore, 1), (19, .iinc 2 1, 3), (22, .goto (-20), 3), (25, .iconst 0, 1), (26, .istore_n 2, 1), (27, .iload_n 2, 1), (28, .bipush 6, 2), (30, .if_icmp .ge 33, 3), (33, .aload_n 0, 1), (34, .getfield 15, 3), (37, .iload_n 2, 1), (38, .aload_n 1, 1), (39, .getfield 15, 3), (42, .iload_n 2, 1), (43, .iaload, 1), (44, .iastore, 1), (45, .aload_n 0, 1), (46, .getfield 18, 3), (49, .iload_n 2, 1), (50, .aload_n 1, 1), (51, .getfield 18, 3), (54, .iload_n 2, 1), (55, .iaload, 1), (56, .iastore, 1), (57, .iinc 2 1, 3), (60, .goto (-33), 3), (63, .iconst 0, 1), (64, .istore_n 2, 1), (65, .iload_n 2, 1), (66, .bipush 16, 2), (68, .if_icmp .ge 45, 3), (71, .aload_n 0, 1), (72, .getfield 21, 3), (75, .iload_n 2, 1), (76, .aload_n 1, 1), (77, .getfield 21, 3), (80, .iload_n 2, 1), (81, .iaload, 1), (82, .iastore, 1), (83, .aload_n 0, 1), (84, .getfield 24, 3), (87, .iload_n 2, 1), (88, .aload_n 1, 1), (89, .getfield 24, 3), (92, .iload_n 2, 1), (93, .iaload, 1), (94, .iastore, 1), (95, .aload_n 0, 1), (96, .getfield 27, 3), (99, .iload_n 2, 1), (100, .aload_n 1, 1), (101, .getfield 27, 3), (104, .iload_n 2, 1), (105, .baload, 1), (106, .bastore, 1), (107, .iinc 2 1, 3), (110, .goto (-45), 3), (113, .iconst 0, 1), (114, .istore_n 2, 1), (115, .iload_n 2, 1), (116, .iconst 4, 1), (117, .if_icmp .ge 33, 3), (120, .aload_n 0, 1), (121, .getfield 31, 3), (124, .iload_n 2, 1), (125, .aload_n 1, 1), (126, .getfield 31, 3), (129, .iload_n 2, 1), (130, .iaload, 1), (131, .iastore, 1), (132, .aload_n 0, 1), (133, .getfield 34, 3), (136, .iload_n 2, 1), (137, .aload_n 1, 1), (138, .getfield 34, 3), (141, .iload_n 2, 1), (142, .iaload, 1), (143, .iastore, 1), (144, .iinc 2 1, 3), (147, .goto (-32), 3), (150, .aload_n 0, 1), (151, .aload_n 1, 1), (152, .getfield 37, 3), (155, .putfield 37, 3), (158, .aload_n 0, 1), (159, .aload_n 1, 1), (160, .getfield 41, 3), (163, .putfield 41, 3), (166, .return_, 1)]
theorem D_X2_copyFrom : ∀ q ∈ T_X2_copyFrom, decode cX2_copyFrom q.1 = .ok q.2 := by decide +kernel
theorem V_X2_copyFrom : Vy yX2_copyFrom cX2_copyFrom 3 none 1 := ⟨k25, k22, by decide +kernel⟩
theorem i_X2_copyFrom : Cond.instanceMethod yX2_copyFrom ∈ TB := k32
theorem s_X2_copyFrom : Cond.selects yX2_copyFrom.cls yX2_copyFrom yX2_copyFrom ∈ TB := k33
noncomputable def f_X2_copyFrom_b115 (vO : JV) (r115 : JV → Int32 → Option (JV)) (vS_115 : JV) (x2_115 : Int32) : Option (JV) :=
  (if (4 : Int32) ≤ x2_115 then some (up2 (up2 vS_115 8 0 (vO 8 0)) 9 0 (vO 9 0)) else gd (inb x2_115 4) (gd (inb x2_115 4) (gd (inb x2_115 4) (gd (inb x2_115 4) (r115 (up2 (up2 vS_115 6 (Int32.toNatClampNeg x2_115) ((vO 6) (Int32.toNatClampNeg x2_115))) 7 (Int32.toNatClampNeg x2_115) ((vO 7) (Int32.toNatClampNeg x2_115))) (x2_115 + (1 : Int32)))))))
noncomputable def f_X2_copyFrom_L115 (vO : JV) (n : Nat) (vS_115 : JV) (x2_115 : Int32) : Option (JV) :=
  lp (fun (rec : JV × Int32 → Option (JV)) a => f_X2_copyFrom_b115 vO (fun vS_115 x2_115 => rec (vS_115, x2_115)) a.1 a.2) n (vS_115, x2_115)
noncomputable def f_X2_copyFrom_b65 (vO : JV) (r65 : JV → Int32 → Option (JV)) (vS_65 : JV) (x2_65 : Int32) : Option (JV) :=
  (if (16 : Int32) ≤ x2_65 then f_X2_copyFrom_L115 vO  FU vS_65 (0 : Int32) else gd (inb x2_65 16) (gd (inb x2_65 16) (gd (inb x2_65 16) (gd (inb x2_65 16) (gd (inb x2_65 16) (gd (inb x2_65 16) (gd (isb ((vO 5) (Int32.toNatClampNeg x2_65))) (r65 (up2 (up2 (up2 vS_65 3 (Int32.toNatClampNeg x2_65) ((vO 3) (Int32.toNatClampNeg x2_65))) 4 (Int32.toNatClampNeg x2_65) ((vO 4) (Int32.toNatClampNeg x2_65))) 5 (Int32.toNatClampNeg x2_65) ((vO 5) (Int32.toNatClampNeg x2_65))) (x2_65 + (1 : Int32))))))))))
noncomputable def f_X2_copyFrom_L65 (vO : JV) (n : Nat) (vS_65 : JV) (x2_65 : Int32) : Option (JV) :=
  lp (fun (rec : JV × Int32 → Option (JV)) a => f_X2_copyFrom_b65 vO (fun vS_65 x2_65 => rec (vS_65, x2_65)) a.1 a.2) n (vS_65, x2_65)
noncomputable def f_X2_copyFrom_b27 (vO : JV) (r27 : JV → Int32 → Option (JV)) (vS_27 : JV) (x2_27 : Int32) : Option (JV) :=
  (if (6 : Int32) ≤ x2_27 then f_X2_copyFrom_L65 vO  FU vS_27 (0 : Int32) else gd (inb x2_27 6) (gd (inb x2_27 6) (gd (inb x2_27 6) (gd (inb x2_27 6) (r27 (up2 (up2 vS_27 1 (Int32.toNatClampNeg x2_27) ((vO 1) (Int32.toNatClampNeg x2_27))) 2 (Int32.toNatClampNeg x2_27) ((vO 2) (Int32.toNatClampNeg x2_27))) (x2_27 + (1 : Int32)))))))
noncomputable def f_X2_copyFrom_L27 (vO : JV) (n : Nat) (vS_27 : JV) (x2_27 : Int32) : Option (JV) :=
  lp (fun (rec : JV × Int32 → Option (JV)) a => f_X2_copyFrom_b27 vO (fun vS_27 x2_27 => rec (vS_27, x2_27)) a.1 a.2) n (vS_27, x2_27)
noncomputable def f_X2_copyFrom_b2 (vO : JV) (r2 : JV → Int32 → Option (JV)) (vS_2 : JV) (x2_2 : Int32) : Option (JV) :=
  (if (3 : Int32) ≤ x2_2 then f_X2_copyFrom_L27 vO  FU vS_2 (0 : Int32) else gd (inb x2_2 3) (gd (inb x2_2 3) (r2 (up2 vS_2 0 (Int32.toNatClampNeg x2_2) ((vO 0) (Int32.toNatClampNeg x2_2))) (x2_2 + (1 : Int32)))))
noncomputable def f_X2_copyFrom_L2 (vO : JV) (n : Nat) (vS_2 : JV) (x2_2 : Int32) : Option (JV) :=
  lp (fun (rec : JV × Int32 → Option (JV)) a => f_X2_copyFrom_b2 vO (fun vS_2 x2_2 => rec (vS_2, x2_2)) a.1 a.2) n (vS_2, x2_2)
noncomputable def f_X2_copyFrom (vS : JV) (vO : JV)  : Option (JV) :=
  f_X2_copyFrom_L2 vO  FU vS (0 : Int32)
set_option maxRecDepth 100000 in
set_option maxHeartbeats 4000000 in
theorem c_X2_copyFrom {l : Launch} {G : JG} (aS : Nat → Nat) (aO : Nat → Nat) (vS : JV) (vO : JV)  {Rz : JV} (h : f_X2_copyFrom vS vO = some Rz) : JM l G yX2_copyFrom cX2_copyFrom 3 none 0 0 [.ref (aS 0), .ref (aO 0)] (wSch G aS (vS 0) (vS 1) (vS 2) (vS 3) (vS 4) (vS 5) (vS 6) (vS 7) (vS 8 0) (vS 9 0) ++ (wSch G aO (vO 0) (vO 1) (vO 2) (vO 3) (vO 4) (vO 5) (vO 6) (vO 7) (vO 8 0) (vO 9 0))) (wSch G aS (Rz 0) (Rz 1) (Rz 2) (Rz 3) (Rz 4) (Rz 5) (Rz 6) (Rz 7) (Rz 8 0) (Rz 9 0) ++ (wSch G aO (vO 0) (vO 1) (vO 2) (vO 3) (vO 4) (vO 5) (vO 6) (vO 7) (vO 8 0) (vO 9 0))) none := by
  refine JM.of (own := RX2) (tb := T_X2_copyFrom) (by decide) (Nat.le_of_ble_eq_true rfl) D_X2_copyFrom rfl (fun X C => ?_)
  refine J_sub (lv' := [(0, .ref (aS 0)), (1, .ref (aO 0))]) [0, 1] rfl ?_
  have B115 : ∀ (n115 : Nat) (vS_115 : JV) (x2_115 : Int32), f_X2_copyFrom_L115 vO n115 vS_115 x2_115 = some Rz → J l { frames := 0, cells := 0, slots := 0, locals := 0 } G 3 X (QM X G 0 0 none (wSch G aS (Rz 0) (Rz 1) (Rz 2) (Rz 3) (Rz 4) (Rz 5) (Rz 6) (Rz 7) (Rz 8 0) (Rz 9 0) ++ (wSch G aO (vO 0) (vO 1) (vO 2) (vO 3) (vO 4) (vO 5) (vO 6) (vO 7) (vO 8 0) (vO 9 0)))) 0 0 115 [(0, .ref (aS 0)), (1, .ref (aO 0)), (2, .int x2_115)] [] (wSch G aS (vS_115 0) (vS_115 1) (vS_115 2) (vS_115 3) (vS_115 4) (vS_115 5) (vS_115 6) (vS_115 7) (vS_115 8 0) (vS_115 9 0) ++ (wSch G aO (vO 0) (vO 1) (vO 2) (vO 3) (vO 4) (vO 5) (vO 6) (vO 7) (vO 8 0) (vO 9 0))) := by
    intro  n115
    induction n115 with
    | zero =>
      intro vS_115 x2_115 h
      exact (no_none rfl h).elim
    | succ n115 ih115 =>
      intro vS_115 x2_115 h
      replace h : f_X2_copyFrom_b115 vO (fun vS_115 x2_115 => f_X2_copyFrom_L115 vO n115 vS_115 x2_115) vS_115 x2_115 = some Rz := h
      unfold f_X2_copyFrom_b115 at h
      refine J_iload_n (pc := 115) C 71 rfl 2 rfl rfl ?_
      refine J_iconst (pc := 116) (v := (4 : Int32)) C 72 rfl rfl ?_
      refine J_icmp_ge (pc := 117) (tgt := 150) C 73 rfl rfl (fun c4 => ?_) (fun c4 => ?_)
      · rw [if_pos c4] at h
        refine J_aload_n (pc := 150) C 92 rfl 0 rfl rfl ?_
        refine J_aload_n (pc := 151) C 93 rfl 1 rfl rfl ?_
        refine J_get (pc := 152) (v := .int (vO 8 0)) C 94 rfl TB_l2 rfl 9 8 rfl (by decide) k14 rfl rfl ?_
        refine J_puti (pc := 155) C 95 (fun vv => (wSch G aS (vS_115 0) (vS_115 1) (vS_115 2) (vS_115 3) (vS_115 4) (vS_115 5) (vS_115 6) (vS_115 7) vv (vS_115 9 0) ++ (wSch G aO (vO 0) (vO 1) (vO 2) (vO 3) (vO 4) (vO 5) (vO 6) (vO 7) (vO 8 0) (vO 9 0)))) rfl TB_l2 tyX2 tyX2_ok nmX2 rfl 0 8 rfl (by decide) k14 rfl rfl rfl (Nat.le_of_ble_eq_true rfl) (fun _ => rfl) ?_
        refine J_aload_n (pc := 158) C 96 rfl 0 rfl rfl ?_
        refine J_aload_n (pc := 159) C 97 rfl 1 rfl rfl ?_
        refine J_get (pc := 160) (v := .int (vO 9 0)) C 98 rfl TB_l2 rfl 9 9 rfl (by decide) k15 rfl rfl ?_
        refine J_puti (pc := 163) C 99 (fun vv => (wSch G aS (vS_115 0) (vS_115 1) (vS_115 2) (vS_115 3) (vS_115 4) (vS_115 5) (vS_115 6) (vS_115 7) (vO 8 0) vv ++ (wSch G aO (vO 0) (vO 1) (vO 2) (vO 3) (vO 4) (vO 5) (vO 6) (vO 7) (vO 8 0) (vO 9 0)))) rfl TB_l2 tyX2 tyX2_ok nmX2 rfl 0 9 rfl (by decide) k15 rfl rfl rfl (Nat.le_of_ble_eq_true rfl) (fun _ => rfl) ?_
        cases h
        exact J_vret (pc := 166) C 100 rfl
      · rw [if_neg c4] at h
        refine J_aload_n (pc := 120) C 74 rfl 0 rfl rfl ?_
        refine J_get (pc := 121) (v := .ref (aS 7)) C 75 rfl TB_l2 rfl 0 6 rfl (by decide) k12 rfl rfl ?_
        refine J_iload_n (pc := 124) C 76 rfl 2 rfl rfl ?_
        refine J_aload_n (pc := 125) C 77 rfl 1 rfl rfl ?_
        refine J_get (pc := 126) (v := .ref (aO 7)) C 78 rfl TB_l2 rfl 9 6 rfl (by decide) k12 rfl rfl ?_
        refine J_iload_n (pc := 129) C 79 rfl 2 rfl rfl ?_
        obtain ⟨g5, h⟩ := gd_some h
        refine J_iald (pc := 130) (f := (vO 6)) (v := ((vO 6) (Int32.toNatClampNeg x2_115))) C 80 rfl 16 rfl g5 rfl ?_
        obtain ⟨g6, h⟩ := gd_some h
        refine J_iast (pc := 131) (f := (vS_115 6)) (m := (Int32.toNatClampNeg x2_115)) C 81 (fun mm vv => (wSch G aS (vS_115 0) (vS_115 1) (vS_115 2) (vS_115 3) (vS_115 4) (vS_115 5) (upd (vS_115 6) mm vv) (vS_115 7) (vS_115 8 0) (vS_115 9 0) ++ (wSch G aO (vO 0) (vO 1) (vO 2) (vO 3) (vO 4) (vO 5) (vO 6) (vO 7) (vO 8 0) (vO 9 0)))) rfl 7 rfl g6 rfl (fun _ _ => rfl) ?_
        refine J_aload_n (pc := 132) C 82 rfl 0 rfl rfl ?_
        refine J_get (pc := 133) (v := .ref (aS 8)) C 83 rfl TB_l2 rfl 0 7 rfl (by decide) k13 rfl rfl ?_
        refine J_iload_n (pc := 136) C 84 rfl 2 rfl rfl ?_
        refine J_aload_n (pc := 137) C 85 rfl 1 rfl rfl ?_
        refine J_get (pc := 138) (v := .ref (aO 8)) C 86 rfl TB_l2 rfl 9 7 rfl (by decide) k13 rfl rfl ?_
        refine J_iload_n (pc := 141) C 87 rfl 2 rfl rfl ?_
        obtain ⟨g7, h⟩ := gd_some h
        refine J_iald (pc := 142) (f := (vO 7)) (v := ((vO 7) (Int32.toNatClampNeg x2_115))) C 88 rfl 17 rfl g7 rfl ?_
        obtain ⟨g8, h⟩ := gd_some h
        refine J_iast (pc := 143) (f := (vS_115 7)) (m := (Int32.toNatClampNeg x2_115)) C 89 (fun mm vv => (wSch G aS (vS_115 0) (vS_115 1) (vS_115 2) (vS_115 3) (vS_115 4) (vS_115 5) (upd (vS_115 6) (Int32.toNatClampNeg x2_115) ((vO 6) (Int32.toNatClampNeg x2_115))) (upd (vS_115 7) mm vv) (vS_115 8 0) (vS_115 9 0) ++ (wSch G aO (vO 0) (vO 1) (vO 2) (vO 3) (vO 4) (vO 5) (vO 6) (vO 7) (vO 8 0) (vO 9 0)))) rfl 8 rfl g8 rfl (fun _ _ => rfl) ?_
        refine J_iinc (pc := 144) (v := (x2_115 + (1 : Int32))) (lv' := [(2, .int (x2_115 + (1 : Int32))), (0, .ref (aS 0)), (1, .ref (aO 0))]) C 90 rfl 2 rfl rfl (by decide) rfl ?_
        refine J_goto (pc := 147) (tgt := 115) C 91 rfl rfl ?_
        exact J_sub [1, 2, 0] rfl (ih115 (up2 (up2 vS_115 6 (Int32.toNatClampNeg x2_115) ((vO 6) (Int32.toNatClampNeg x2_115))) 7 (Int32.toNatClampNeg x2_115) ((vO 7) (Int32.toNatClampNeg x2_115))) (x2_115 + (1 : Int32)) h)
  have B65 : ∀ (n65 : Nat) (vS_65 : JV) (x2_65 : Int32), f_X2_copyFrom_L65 vO n65 vS_65 x2_65 = some Rz → J l { frames := 0, cells := 0, slots := 0, locals := 0 } G 3 X (QM X G 0 0 none (wSch G aS (Rz 0) (Rz 1) (Rz 2) (Rz 3) (Rz 4) (Rz 5) (Rz 6) (Rz 7) (Rz 8 0) (Rz 9 0) ++ (wSch G aO (vO 0) (vO 1) (vO 2) (vO 3) (vO 4) (vO 5) (vO 6) (vO 7) (vO 8 0) (vO 9 0)))) 0 0 65 [(0, .ref (aS 0)), (1, .ref (aO 0)), (2, .int x2_65)] [] (wSch G aS (vS_65 0) (vS_65 1) (vS_65 2) (vS_65 3) (vS_65 4) (vS_65 5) (vS_65 6) (vS_65 7) (vS_65 8 0) (vS_65 9 0) ++ (wSch G aO (vO 0) (vO 1) (vO 2) (vO 3) (vO 4) (vO 5) (vO 6) (vO 7) (vO 8 0) (vO 9 0))) := by
    intro  n65
    induction n65 with
    | zero =>
      intro vS_65 x2_65 h
      exact (no_none rfl h).elim
    | succ n65 ih65 =>
      intro vS_65 x2_65 h
      replace h : f_X2_copyFrom_b65 vO (fun vS_65 x2_65 => f_X2_copyFrom_L65 vO n65 vS_65 x2_65) vS_65 x2_65 = some Rz := h
      unfold f_X2_copyFrom_b65 at h
      refine J_iload_n (pc := 65) C 40 rfl 2 rfl rfl ?_
      refine J_bipush (pc := 66) (v := (16 : Int32)) C 41 rfl rfl ?_
      refine J_icmp_ge (pc := 68) (tgt := 113) C 42 rfl rfl (fun c3 => ?_) (fun c3 => ?_)
      · rw [if_pos c3] at h
        refine J_iconst (pc := 113) (v := (0 : Int32)) C 69 rfl rfl ?_
        refine J_istore_n (pc := 114) (lv' := [(2, .int (0 : Int32)), (0, .ref (aS 0)), (1, .ref (aO 0))]) C 70 rfl rfl (by decide) rfl ?_
        exact J_sub [1, 2, 0] rfl (B115  FU vS_65 (0 : Int32) h)
      · rw [if_neg c3] at h
        refine J_aload_n (pc := 71) C 43 rfl 0 rfl rfl ?_
        refine J_get (pc := 72) (v := .ref (aS 4)) C 44 rfl TB_l2 rfl 0 3 rfl (by decide) k8 rfl rfl ?_
        refine J_iload_n (pc := 75) C 45 rfl 2 rfl rfl ?_
        refine J_aload_n (pc := 76) C 46 rfl 1 rfl rfl ?_
        refine J_get (pc := 77) (v := .ref (aO 4)) C 47 rfl TB_l2 rfl 9 3 rfl (by decide) k8 rfl rfl ?_
        refine J_iload_n (pc := 80) C 48 rfl 2 rfl rfl ?_
        obtain ⟨g9, h⟩ := gd_some h
        refine J_iald (pc := 81) (f := (vO 3)) (v := ((vO 3) (Int32.toNatClampNeg x2_65))) C 49 rfl 13 rfl g9 rfl ?_
        obtain ⟨g10, h⟩ := gd_some h
        refine J_iast (pc := 82) (f := (vS_65 3)) (m := (Int32.toNatClampNeg x2_65)) C 50 (fun mm vv => (wSch G aS (vS_65 0) (vS_65 1) (vS_65 2) (upd (vS_65 3) mm vv) (vS_65 4) (vS_65 5) (vS_65 6) (vS_65 7) (vS_65 8 0) (vS_65 9 0) ++ (wSch G aO (vO 0) (vO 1) (vO 2) (vO 3) (vO 4) (vO 5) (vO 6) (vO 7) (vO 8 0) (vO 9 0)))) rfl 4 rfl g10 rfl (fun _ _ => rfl) ?_
        refine J_aload_n (pc := 83) C 51 rfl 0 rfl rfl ?_
        refine J_get (pc := 84) (v := .ref (aS 5)) C 52 rfl TB_l2 rfl 0 4 rfl (by decide) k9 rfl rfl ?_
        refine J_iload_n (pc := 87) C 53 rfl 2 rfl rfl ?_
        refine J_aload_n (pc := 88) C 54 rfl 1 rfl rfl ?_
        refine J_get (pc := 89) (v := .ref (aO 5)) C 55 rfl TB_l2 rfl 9 4 rfl (by decide) k9 rfl rfl ?_
        refine J_iload_n (pc := 92) C 56 rfl 2 rfl rfl ?_
        obtain ⟨g11, h⟩ := gd_some h
        refine J_iald (pc := 93) (f := (vO 4)) (v := ((vO 4) (Int32.toNatClampNeg x2_65))) C 57 rfl 14 rfl g11 rfl ?_
        obtain ⟨g12, h⟩ := gd_some h
        refine J_iast (pc := 94) (f := (vS_65 4)) (m := (Int32.toNatClampNeg x2_65)) C 58 (fun mm vv => (wSch G aS (vS_65 0) (vS_65 1) (vS_65 2) (upd (vS_65 3) (Int32.toNatClampNeg x2_65) ((vO 3) (Int32.toNatClampNeg x2_65))) (upd (vS_65 4) mm vv) (vS_65 5) (vS_65 6) (vS_65 7) (vS_65 8 0) (vS_65 9 0) ++ (wSch G aO (vO 0) (vO 1) (vO 2) (vO 3) (vO 4) (vO 5) (vO 6) (vO 7) (vO 8 0) (vO 9 0)))) rfl 5 rfl g12 rfl (fun _ _ => rfl) ?_
        refine J_aload_n (pc := 95) C 59 rfl 0 rfl rfl ?_
        refine J_get (pc := 96) (v := .ref (aS 6)) C 60 rfl TB_l2 rfl 0 5 rfl (by decide) k11 rfl rfl ?_
        refine J_iload_n (pc := 99) C 61 rfl 2 rfl rfl ?_
        refine J_aload_n (pc := 100) C 62 rfl 1 rfl rfl ?_
        refine J_get (pc := 101) (v := .ref (aO 6)) C 63 rfl TB_l2 rfl 9 5 rfl (by decide) k11 rfl rfl ?_
        refine J_iload_n (pc := 104) C 64 rfl 2 rfl rfl ?_
        obtain ⟨g13, h⟩ := gd_some h
        refine J_zald (pc := 105) (f := (vO 5)) (v := ((vO 5) (Int32.toNatClampNeg x2_65))) C 65 rfl 15 rfl g13 rfl ?_
        obtain ⟨g14, h⟩ := gd_some h
        obtain ⟨g15, h⟩ := gd_some h
        refine J_zast (pc := 106) (f := (vS_65 5)) (m := (Int32.toNatClampNeg x2_65)) C 66 (fun mm vv => (wSch G aS (vS_65 0) (vS_65 1) (vS_65 2) (upd (vS_65 3) (Int32.toNatClampNeg x2_65) ((vO 3) (Int32.toNatClampNeg x2_65))) (upd (vS_65 4) (Int32.toNatClampNeg x2_65) ((vO 4) (Int32.toNatClampNeg x2_65))) (upd (vS_65 5) mm vv) (vS_65 6) (vS_65 7) (vS_65 8 0) (vS_65 9 0) ++ (wSch G aO (vO 0) (vO 1) (vO 2) (vO 3) (vO 4) (vO 5) (vO 6) (vO 7) (vO 8 0) (vO 9 0)))) rfl 6 rfl g14 g15 rfl (fun _ _ => rfl) ?_
        refine J_iinc (pc := 107) (v := (x2_65 + (1 : Int32))) (lv' := [(2, .int (x2_65 + (1 : Int32))), (0, .ref (aS 0)), (1, .ref (aO 0))]) C 67 rfl 2 rfl rfl (by decide) rfl ?_
        refine J_goto (pc := 110) (tgt := 65) C 68 rfl rfl ?_
        exact J_sub [1, 2, 0] rfl (ih65 (up2 (up2 (up2 vS_65 3 (Int32.toNatClampNeg x2_65) ((vO 3) (Int32.toNatClampNeg x2_65))) 4 (Int32.toNatClampNeg x2_65) ((vO 4) (Int32.toNatClampNeg x2_65))) 5 (Int32.toNatClampNeg x2_65) ((vO 5) (Int32.toNatClampNeg x2_65))) (x2_65 + (1 : Int32)) h)
  have B27 : ∀ (n27 : Nat) (vS_27 : JV) (x2_27 : Int32), f_X2_copyFrom_L27 vO n27 vS_27 x2_27 = some Rz → J l { frames := 0, cells := 0, slots := 0, locals := 0 } G 3 X (QM X G 0 0 none (wSch G aS (Rz 0) (Rz 1) (Rz 2) (Rz 3) (Rz 4) (Rz 5) (Rz 6) (Rz 7) (Rz 8 0) (Rz 9 0) ++ (wSch G aO (vO 0) (vO 1) (vO 2) (vO 3) (vO 4) (vO 5) (vO 6) (vO 7) (vO 8 0) (vO 9 0)))) 0 0 27 [(0, .ref (aS 0)), (1, .ref (aO 0)), (2, .int x2_27)] [] (wSch G aS (vS_27 0) (vS_27 1) (vS_27 2) (vS_27 3) (vS_27 4) (vS_27 5) (vS_27 6) (vS_27 7) (vS_27 8 0) (vS_27 9 0) ++ (wSch G aO (vO 0) (vO 1) (vO 2) (vO 3) (vO 4) (vO 5) (vO 6) (vO 7) (vO 8 0) (vO 9 0))) := by
    intro  n27
    induction n27 with
    | zero =>
      intro vS_27 x2_27 h
      exact (no_none rfl h).elim
    | succ n27 ih27 =>
      intro vS_27 x2_27 h
      replace h : f_X2_copyFrom_b27 vO (fun vS_27 x2_27 => f_X2_copyFrom_L27 vO n27 vS_27 x2_27) vS_27 x2_27 = some Rz := h
      unfold f_X2_copyFrom_b27 at h
      refine J_iload_n (pc := 27) C 17 rfl 2 rfl rfl ?_
      refine J_bipush (pc := 28) (v := (6 : Int32)) C 18 rfl rfl ?_
      refine J_icmp_ge (pc := 30) (tgt := 63) C 19 rfl rfl (fun c2 => ?_) (fun c2 => ?_)
      · rw [if_pos c2] at h
        refine J_iconst (pc := 63) (v := (0 : Int32)) C 38 rfl rfl ?_
        refine J_istore_n (pc := 64) (lv' := [(2, .int (0 : Int32)), (0, .ref (aS 0)), (1, .ref (aO 0))]) C 39 rfl rfl (by decide) rfl ?_
        exact J_sub [1, 2, 0] rfl (B65  FU vS_27 (0 : Int32) h)
      · rw [if_neg c2] at h
        refine J_aload_n (pc := 33) C 20 rfl 0 rfl rfl ?_
        refine J_get (pc := 34) (v := .ref (aS 2)) C 21 rfl TB_l2 rfl 0 1 rfl (by decide) k6 rfl rfl ?_
        refine J_iload_n (pc := 37) C 22 rfl 2 rfl rfl ?_
        refine J_aload_n (pc := 38) C 23 rfl 1 rfl rfl ?_
        refine J_get (pc := 39) (v := .ref (aO 2)) C 24 rfl TB_l2 rfl 9 1 rfl (by decide) k6 rfl rfl ?_
        refine J_iload_n (pc := 42) C 25 rfl 2 rfl rfl ?_
        obtain ⟨g16, h⟩ := gd_some h
        refine J_iald (pc := 43) (f := (vO 1)) (v := ((vO 1) (Int32.toNatClampNeg x2_27))) C 26 rfl 11 rfl g16 rfl ?_
        obtain ⟨g17, h⟩ := gd_some h
        refine J_iast (pc := 44) (f := (vS_27 1)) (m := (Int32.toNatClampNeg x2_27)) C 27 (fun mm vv => (wSch G aS (vS_27 0) (upd (vS_27 1) mm vv) (vS_27 2) (vS_27 3) (vS_27 4) (vS_27 5) (vS_27 6) (vS_27 7) (vS_27 8 0) (vS_27 9 0) ++ (wSch G aO (vO 0) (vO 1) (vO 2) (vO 3) (vO 4) (vO 5) (vO 6) (vO 7) (vO 8 0) (vO 9 0)))) rfl 2 rfl g17 rfl (fun _ _ => rfl) ?_
        refine J_aload_n (pc := 45) C 28 rfl 0 rfl rfl ?_
        refine J_get (pc := 46) (v := .ref (aS 3)) C 29 rfl TB_l2 rfl 0 2 rfl (by decide) k7 rfl rfl ?_
        refine J_iload_n (pc := 49) C 30 rfl 2 rfl rfl ?_
        refine J_aload_n (pc := 50) C 31 rfl 1 rfl rfl ?_
        refine J_get (pc := 51) (v := .ref (aO 3)) C 32 rfl TB_l2 rfl 9 2 rfl (by decide) k7 rfl rfl ?_
        refine J_iload_n (pc := 54) C 33 rfl 2 rfl rfl ?_
        obtain ⟨g18, h⟩ := gd_some h
        refine J_iald (pc := 55) (f := (vO 2)) (v := ((vO 2) (Int32.toNatClampNeg x2_27))) C 34 rfl 12 rfl g18 rfl ?_
        obtain ⟨g19, h⟩ := gd_some h
        refine J_iast (pc := 56) (f := (vS_27 2)) (m := (Int32.toNatClampNeg x2_27)) C 35 (fun mm vv => (wSch G aS (vS_27 0) (upd (vS_27 1) (Int32.toNatClampNeg x2_27) ((vO 1) (Int32.toNatClampNeg x2_27))) (upd (vS_27 2) mm vv) (vS_27 3) (vS_27 4) (vS_27 5) (vS_27 6) (vS_27 7) (vS_27 8 0) (vS_27 9 0) ++ (wSch G aO (vO 0) (vO 1) (vO 2) (vO 3) (vO 4) (vO 5) (vO 6) (vO 7) (vO 8 0) (vO 9 0)))) rfl 3 rfl g19 rfl (fun _ _ => rfl) ?_
        refine J_iinc (pc := 57) (v := (x2_27 + (1 : Int32))) (lv' := [(2, .int (x2_27 + (1 : Int32))), (0, .ref (aS 0)), (1, .ref (aO 0))]) C 36 rfl 2 rfl rfl (by decide) rfl ?_
        refine J_goto (pc := 60) (tgt := 27) C 37 rfl rfl ?_
        exact J_sub [1, 2, 0] rfl (ih27 (up2 (up2 vS_27 1 (Int32.toNatClampNeg x2_27) ((vO 1) (Int32.toNatClampNeg x2_27))) 2 (Int32.toNatClampNeg x2_27) ((vO 2) (Int32.toNatClampNeg x2_27))) (x2_27 + (1 : Int32)) h)
  have B2 : ∀ (n2 : Nat) (vS_2 : JV) (x2_2 : Int32), f_X2_copyFrom_L2 vO n2 vS_2 x2_2 = some Rz → J l { frames := 0, cells := 0, slots := 0, locals := 0 } G 3 X (QM X G 0 0 none (wSch G aS (Rz 0) (Rz 1) (Rz 2) (Rz 3) (Rz 4) (Rz 5) (Rz 6) (Rz 7) (Rz 8 0) (Rz 9 0) ++ (wSch G aO (vO 0) (vO 1) (vO 2) (vO 3) (vO 4) (vO 5) (vO 6) (vO 7) (vO 8 0) (vO 9 0)))) 0 0 2 [(0, .ref (aS 0)), (1, .ref (aO 0)), (2, .int x2_2)] [] (wSch G aS (vS_2 0) (vS_2 1) (vS_2 2) (vS_2 3) (vS_2 4) (vS_2 5) (vS_2 6) (vS_2 7) (vS_2 8 0) (vS_2 9 0) ++ (wSch G aO (vO 0) (vO 1) (vO 2) (vO 3) (vO 4) (vO 5) (vO 6) (vO 7) (vO 8 0) (vO 9 0))) := by
    intro  n2
    induction n2 with
    | zero =>
      intro vS_2 x2_2 h
      exact (no_none rfl h).elim
    | succ n2 ih2 =>
      intro vS_2 x2_2 h
      replace h : f_X2_copyFrom_b2 vO (fun vS_2 x2_2 => f_X2_copyFrom_L2 vO n2 vS_2 x2_2) vS_2 x2_2 = some Rz := h
      unfold f_X2_copyFrom_b2 at h
      refine J_iload_n (pc := 2) C 2 rfl 2 rfl rfl ?_
      refine J_iconst (pc := 3) (v := (3 : Int32)) C 3 rfl rfl ?_
      refine J_icmp_ge (pc := 4) (tgt := 25) C 4 rfl rfl (fun c1 => ?_) (fun c1 => ?_)
      · rw [if_pos c1] at h
        refine J_iconst (pc := 25) (v := (0 : Int32)) C 15 rfl rfl ?_
        refine J_istore_n (pc := 26) (lv' := [(2, .int (0 : Int32)), (0, .ref (aS 0)), (1, .ref (aO 0))]) C 16 rfl rfl (by decide) rfl ?_
        exact J_sub [1, 2, 0] rfl (B27  FU vS_2 (0 : Int32) h)
      · rw [if_neg c1] at h
        refine J_aload_n (pc := 7) C 5 rfl 0 rfl rfl ?_
        refine J_get (pc := 8) (v := .ref (aS 1)) C 6 rfl TB_l2 rfl 0 0 rfl (by decide) k5 rfl rfl ?_
        refine J_iload_n (pc := 11) C 7 rfl 2 rfl rfl ?_
        refine J_aload_n (pc := 12) C 8 rfl 1 rfl rfl ?_
        refine J_get (pc := 13) (v := .ref (aO 1)) C 9 rfl TB_l2 rfl 9 0 rfl (by decide) k5 rfl rfl ?_
        refine J_iload_n (pc := 16) C 10 rfl 2 rfl rfl ?_
        obtain ⟨g20, h⟩ := gd_some h
        refine J_iald (pc := 17) (f := (vO 0)) (v := ((vO 0) (Int32.toNatClampNeg x2_2))) C 11 rfl 10 rfl g20 rfl ?_
        obtain ⟨g21, h⟩ := gd_some h
        refine J_iast (pc := 18) (f := (vS_2 0)) (m := (Int32.toNatClampNeg x2_2)) C 12 (fun mm vv => (wSch G aS (upd (vS_2 0) mm vv) (vS_2 1) (vS_2 2) (vS_2 3) (vS_2 4) (vS_2 5) (vS_2 6) (vS_2 7) (vS_2 8 0) (vS_2 9 0) ++ (wSch G aO (vO 0) (vO 1) (vO 2) (vO 3) (vO 4) (vO 5) (vO 6) (vO 7) (vO 8 0) (vO 9 0)))) rfl 1 rfl g21 rfl (fun _ _ => rfl) ?_
        refine J_iinc (pc := 19) (v := (x2_2 + (1 : Int32))) (lv' := [(2, .int (x2_2 + (1 : Int32))), (0, .ref (aS 0)), (1, .ref (aO 0))]) C 13 rfl 2 rfl rfl (by decide) rfl ?_
        refine J_goto (pc := 22) (tgt := 2) C 14 rfl rfl ?_
        exact J_sub [1, 2, 0] rfl (ih2 (up2 vS_2 0 (Int32.toNatClampNeg x2_2) ((vO 0) (Int32.toNatClampNeg x2_2))) (x2_2 + (1 : Int32)) h)
  unfold f_X2_copyFrom at h
  refine J_iconst (pc := 0) (v := (0 : Int32)) C 0 rfl rfl ?_
  refine J_istore_n (pc := 1) (lv' := [(2, .int (0 : Int32)), (0, .ref (aS 0)), (1, .ref (aO 0))]) C 1 rfl rfl (by decide) rfl ?_
  exact J_sub [1, 2, 0] rfl (B2  FU vS (0 : Int32) h)
def T_X2_writePupil : List (Nat × ClassFile.Instr × Nat) := [(0, .aload_n 0, 1), (1, .getfield 21, 3), (4, .iload_n 1, 1), (5, .iload_n 2, 1), (6, .iastore, 1), (7, .aload_n 0, 1), (8, .getfield 24, 3), (11, .iload_n 1, 1), (12, .iload_n 3, 1), (13, .iastore, 1), (14, .aload_n 0, 1), (15, .getfield 27, 3), (18, .iload_n 1, 1), (19, .iload 4, 2), (21, .bastore, 1), (22, .return_, 1)]
theorem D_X2_writePupil : ∀ q ∈ T_X2_writePupil, decode cX2_writePupil q.1 = .ok q.2 := by decide +kernel
theorem V_X2_writePupil : Vy yX2_writePupil cX2_writePupil 5 none 4 := ⟨k47, k22, by decide +kernel⟩
theorem i_X2_writePupil : Cond.instanceMethod yX2_writePupil ∈ TB := k50
theorem s_X2_writePupil : Cond.selects yX2_writePupil.cls yX2_writePupil yX2_writePupil ∈ TB := k51
noncomputable def f_X2_writePupil (vS : JV) (x1 : Int32) (x2 : Int32) (x3 : Int32) (x4 : Int32) : Option (JV) :=
  gd (inb x1 16) (gd (inb x1 16) (gd (inb x1 16) (gd (isb x4) (some (up2 (up2 (up2 vS 3 (Int32.toNatClampNeg x1) x2) 4 (Int32.toNatClampNeg x1) x3) 5 (Int32.toNatClampNeg x1) x4)))))
set_option maxRecDepth 100000 in
set_option maxHeartbeats 4000000 in
theorem c_X2_writePupil {l : Launch} {G : JG} (aS : Nat → Nat) (vS : JV) (x1 : Int32) (x2 : Int32) (x3 : Int32) (x4 : Int32) {Rz : JV} (h : f_X2_writePupil vS x1 x2 x3 x4 = some Rz) : JM l G yX2_writePupil cX2_writePupil 5 none 0 0 [.ref (aS 0), .int x1, .int x2, .int x3, .int x4] (wSch G aS (vS 0) (vS 1) (vS 2) (vS 3) (vS 4) (vS 5) (vS 6) (vS 7) (vS 8 0) (vS 9 0)) (wSch G aS (Rz 0) (Rz 1) (Rz 2) (Rz 3) (Rz 4) (Rz 5) (Rz 6) (Rz 7) (Rz 8 0) (Rz 9 0)) none := by
  refine JM.of (own := RX2) (tb := T_X2_writePupil) (by decide) (Nat.le_of_ble_eq_true rfl) D_X2_writePupil rfl (fun X C => ?_)
  refine J_sub (lv' := [(0, .ref (aS 0)), (1, .int x1), (2, .int x2), (3, .int x3), (4, .int x4)]) [0, 1, 2, 3, 4] rfl ?_
  unfold f_X2_writePupil at h
  refine J_aload_n (pc := 0) C 0 rfl 0 rfl rfl ?_
  refine J_get (pc := 1) (v := .ref (aS 4)) C 1 rfl TB_l2 rfl 0 3 rfl (by decide) k8 rfl rfl ?_
  refine J_iload_n (pc := 4) C 2 rfl 1 rfl rfl ?_
  refine J_iload_n (pc := 5) C 3 rfl 2 rfl rfl ?_
  obtain ⟨g1, h⟩ := gd_some h
  refine J_iast (pc := 6) (f := (vS 3)) (m := (Int32.toNatClampNeg x1)) C 4 (fun mm vv => (wSch G aS (vS 0) (vS 1) (vS 2) (upd (vS 3) mm vv) (vS 4) (vS 5) (vS 6) (vS 7) (vS 8 0) (vS 9 0))) rfl 4 rfl g1 rfl (fun _ _ => rfl) ?_
  refine J_aload_n (pc := 7) C 5 rfl 0 rfl rfl ?_
  refine J_get (pc := 8) (v := .ref (aS 5)) C 6 rfl TB_l2 rfl 0 4 rfl (by decide) k9 rfl rfl ?_
  refine J_iload_n (pc := 11) C 7 rfl 1 rfl rfl ?_
  refine J_iload_n (pc := 12) C 8 rfl 3 rfl rfl ?_
  obtain ⟨g2, h⟩ := gd_some h
  refine J_iast (pc := 13) (f := (vS 4)) (m := (Int32.toNatClampNeg x1)) C 9 (fun mm vv => (wSch G aS (vS 0) (vS 1) (vS 2) (upd (vS 3) (Int32.toNatClampNeg x1) x2) (upd (vS 4) mm vv) (vS 5) (vS 6) (vS 7) (vS 8 0) (vS 9 0))) rfl 5 rfl g2 rfl (fun _ _ => rfl) ?_
  refine J_aload_n (pc := 14) C 10 rfl 0 rfl rfl ?_
  refine J_get (pc := 15) (v := .ref (aS 6)) C 11 rfl TB_l2 rfl 0 5 rfl (by decide) k11 rfl rfl ?_
  refine J_iload_n (pc := 18) C 12 rfl 1 rfl rfl ?_
  refine J_iload (pc := 19) C 13 rfl 4 rfl ?_
  obtain ⟨g3, h⟩ := gd_some h
  obtain ⟨g4, h⟩ := gd_some h
  refine J_zast (pc := 21) (f := (vS 5)) (m := (Int32.toNatClampNeg x1)) C 14 (fun mm vv => (wSch G aS (vS 0) (vS 1) (vS 2) (upd (vS 3) (Int32.toNatClampNeg x1) x2) (upd (vS 4) (Int32.toNatClampNeg x1) x3) (upd (vS 5) mm vv) (vS 6) (vS 7) (vS 8 0) (vS 9 0))) rfl 6 rfl g3 g4 rfl (fun _ _ => rfl) ?_
  cases h
  exact J_vret (pc := 22) C 15 rfl
def T_X2_addPupil : List (Nat × ClassFile.Instr × Nat) := [(0, .aload_n 0, 1), (1, .getfield 37, 3), (4, .bipush 16, 2), (6, .if_icmp .ge 24, 3), (9, .aload_n 0, 1), (10, .aload_n 0, 1), (11, .getfield 37, 3), (14, .iload_n 1, 1), (15, .iload_n 2, 1), (16, .iload_n 3, 1), (17, .invokevirtual 44, 3), (20, .aload_n 0, 1), (21, .dup, 1), (22, .getfield 37, 3), (25, .iconst 1, 1), (26, .iadd, 1), (27, .putfield 37, 3), (30, .return_, 1)]
theorem D_X2_addPupil : ∀ q ∈ T_X2_addPupil, decode cX2_addPupil q.1 = .ok q.2 := by decide +kernel
theorem V_X2_addPupil : Vy yX2_addPupil cX2_addPupil 4 none 3 := ⟨k48, k22, by decide +kernel⟩
theorem i_X2_addPupil : Cond.instanceMethod yX2_addPupil ∈ TB := k241
theorem s_X2_addPupil : Cond.selects yX2_addPupil.cls yX2_addPupil yX2_addPupil ∈ TB := k242
noncomputable def f_X2_addPupil (vS : JV) (x1 : Int32) (x2 : Int32) (x3 : Int32) : Option (JV) :=
  (if (16 : Int32) ≤ (vS 8 0) then some vS else (f_X2_writePupil vS (vS 8 0) x1 x2 x3).bind (fun q2 => some (up2 q2 8 0 ((q2 8 0) + (1 : Int32)))))
set_option maxRecDepth 100000 in
set_option maxHeartbeats 4000000 in
theorem c_X2_addPupil {l : Launch} {G : JG} (aS : Nat → Nat) (vS : JV) (x1 : Int32) (x2 : Int32) (x3 : Int32) {Rz : JV} (h : f_X2_addPupil vS x1 x2 x3 = some Rz) : JM l G yX2_addPupil cX2_addPupil 4 none 1 24 [.ref (aS 0), .int x1, .int x2, .int x3] (wSch G aS (vS 0) (vS 1) (vS 2) (vS 3) (vS 4) (vS 5) (vS 6) (vS 7) (vS 8 0) (vS 9 0)) (wSch G aS (Rz 0) (Rz 1) (Rz 2) (Rz 3) (Rz 4) (Rz 5) (Rz 6) (Rz 7) (Rz 8 0) (Rz 9 0)) none := by
  refine JM.of (own := RX2) (tb := T_X2_addPupil) (by decide) (Nat.le_of_ble_eq_true rfl) D_X2_addPupil rfl (fun X C => ?_)
  refine J_sub (lv' := [(0, .ref (aS 0)), (1, .int x1), (2, .int x2), (3, .int x3)]) [0, 1, 2, 3] rfl ?_
  unfold f_X2_addPupil at h
  refine J_aload_n (pc := 0) C 0 rfl 0 rfl rfl ?_
  refine J_get (pc := 1) (v := .int (vS 8 0)) C 1 rfl TB_l2 rfl 0 8 rfl (by decide) k14 rfl rfl ?_
  refine J_bipush (pc := 4) (v := (16 : Int32)) C 2 rfl rfl ?_
  refine J_icmp_ge (pc := 6) (tgt := 30) C 3 rfl rfl (fun c1 => ?_) (fun c1 => ?_)
  · rw [if_pos c1] at h
    cases h
    exact J_vret (pc := 30) C 17 rfl
  · rw [if_neg c1] at h
    refine J_aload_n (pc := 9) C 4 rfl 0 rfl rfl ?_
    refine J_aload_n (pc := 10) C 5 rfl 0 rfl rfl ?_
    refine J_get (pc := 11) (v := .int (vS 8 0)) C 6 rfl TB_l2 rfl 0 8 rfl (by decide) k14 rfl rfl ?_
    refine J_iload_n (pc := 14) C 7 rfl 1 rfl rfl ?_
    refine J_iload_n (pc := 15) C 8 rfl 2 rfl rfl ?_
    refine J_iload_n (pc := 16) C 9 rfl 3 rfl rfl ?_
    obtain ⟨q2, hq2, h⟩ := bnd h
    refine J_callV (pc := 17) (st2 := []) (st3 := []) (ws2 := (wSch G aS (q2 0) (q2 1) (q2 2) (q2 3) (q2 4) (q2 5) (q2 6) (q2 7) (q2 8 0) (q2 9 0))) C 10 rfl (c_X2_writePupil aS vS (vS 8 0) x1 x2 x3 hq2) V_X2_writePupil k49 i_X2_writePupil s_X2_writePupil rfl rfl ⟨Nat.le_of_ble_eq_true rfl, Nat.le_of_ble_eq_true rfl⟩ (Nat.le_of_ble_eq_true rfl) ⟨Nat.le_refl _, Nat.le_refl _⟩ 0 2 rfl rfl rfl (isC := [0, 1, 2, 3, 4, 5, 6, 7, 8]) (isR := []) (N := 9) ⟨rfl, by decide +kernel, rfl, by decide +kernel, rfl, trivial⟩ rfl ?_
    refine J_aload_n (pc := 20) C 11 rfl 0 rfl rfl ?_
    refine J_dup (pc := 21) C 12 rfl rfl ?_
    refine J_get (pc := 22) (v := .int (q2 8 0)) C 13 rfl TB_l2 rfl 0 8 rfl (by decide) k14 rfl rfl ?_
    refine J_iconst (pc := 25) (v := (1 : Int32)) C 14 rfl rfl ?_
    refine J_iadd (pc := 26) C 15 rfl  ?_
    refine J_puti (pc := 27) C 16 (fun vv => (wSch G aS (q2 0) (q2 1) (q2 2) (q2 3) (q2 4) (q2 5) (q2 6) (q2 7) vv (q2 9 0))) rfl TB_l2 tyX2 tyX2_ok nmX2 rfl 0 8 rfl (by decide) k14 rfl rfl rfl (Nat.le_of_ble_eq_true rfl) (fun _ => rfl) ?_
    cases h
    exact J_vret (pc := 30) C 17 rfl
def T_X2_removePupil : List (Nat × ClassFile.Instr × Nat) := [(0, .iload_n 1, 1), (1, .istore_n 2, 1), (2, .iload_n 2, 1), (3, .aload_n 0, 1), (4, .getfield 37, 3), (7, .iconst 1, 1), (8, .isub, 1), (9, .if_icmp .ge 38, 3), (12, .aload_n 0, 1), (13, .iload_n 2, 1), (14, .aload_n 0, 1), (15, .getfield 21, 3), (18, .iload_n 2, 1), (19, .iconst 1, 1), (20, .iadd, 1), (21, .iaload, 1), (22, .aload_n 0, 1), (23, .getfield 24, 3), (26, .iload_n 2, 1), (27, .iconst 1, 1), (28, .iadd, 1), (29, .iaload, 1), (30, .aload_n 0, 1), (31, .getfield 27, 3), (34, .iload_n 2, 1), (35, .iconst 1, 1), (36, .iadd, 1), (37, .baload, 1), (38, .invokevirtual 44, 3), (41, .iinc 2 1, 3), (44, .goto (-42), 3), (47, .aload_n 0, 1), (48, .dup, 1), (49, .getfield 37, 3), (52, .iconst 1, 1), (53, .isub, 1), (54, .putfield 37, 3), (57, .return_, 1)]
theorem D_X2_removePupil : ∀ q ∈ T_X2_removePupil, decode cX2_removePupil q.1 = .ok q.2 := by decide +kernel
theorem V_X2_removePupil : Vy yX2_removePupil cX2_removePupil 3 none 1 := ⟨k52, k22, by decide +kernel⟩
theorem i_X2_removePupil : Cond.instanceMethod yX2_removePupil ∈ TB := k253
theorem s_X2_removePupil : Cond.selects yX2_removePupil.cls yX2_removePupil yX2_removePupil ∈ TB := k254
noncomputable def f_X2_removePupil_b2  (r2 : JV → Int32 → Option (JV)) (vS_2 : JV) (x2_2 : Int32) : Option (JV) :=
  (if ((vS_2 8 0) - (1 : Int32)) ≤ x2_2 then some (up2 vS_2 8 0 ((vS_2 8 0) - (1 : Int32))) else gd (inb (x2_2 + (1 : Int32)) 16) (gd (inb (x2_2 + (1 : Int32)) 16) (gd (inb (x2_2 + (1 : Int32)) 16) ((f_X2_writePupil vS_2 x2_2 ((vS_2 3) (Int32.toNatClampNeg (x2_2 + (1 : Int32)))) ((vS_2 4) (Int32.toNatClampNeg (x2_2 + (1 : Int32)))) ((vS_2 5) (Int32.toNatClampNeg (x2_2 + (1 : Int32))))).bind (fun q5 => r2 q5 (x2_2 + (1 : Int32)))))))
noncomputable def f_X2_removePupil_L2  (n : Nat) (vS_2 : JV) (x2_2 : Int32) : Option (JV) :=
  lp (fun (rec : JV × Int32 → Option (JV)) a => f_X2_removePupil_b2  (fun vS_2 x2_2 => rec (vS_2, x2_2)) a.1 a.2) n (vS_2, x2_2)
noncomputable def f_X2_removePupil (vS : JV) (x1 : Int32) : Option (JV) :=
  f_X2_removePupil_L2   FU vS x1
set_option maxRecDepth 100000 in
set_option maxHeartbeats 4000000 in
theorem c_X2_removePupil {l : Launch} {G : JG} (aS : Nat → Nat) (vS : JV) (x1 : Int32) {Rz : JV} (h : f_X2_removePupil vS x1 = some Rz) : JM l G yX2_removePupil cX2_removePupil 3 none 1 24 [.ref (aS 0), .int x1] (wSch G aS (vS 0) (vS 1) (vS 2) (vS 3) (vS 4) (vS 5) (vS 6) (vS 7) (vS 8 0) (vS 9 0)) (wSch G aS (Rz 0) (Rz 1) (Rz 2) (Rz 3) (Rz 4) (Rz 5) (Rz 6) (Rz 7) (Rz 8 0) (Rz 9 0)) none := by
  refine JM.of (own := RX2) (tb := T_X2_removePupil) (by decide) (Nat.le_of_ble_eq_true rfl) D_X2_removePupil rfl (fun X C => ?_)
  refine J_sub (lv' := [(0, .ref (aS 0)), (1, .int x1)]) [0, 1] rfl ?_
  have B2 : ∀ (n2 : Nat) (vS_2 : JV) (x2_2 : Int32), f_X2_removePupil_L2  n2 vS_2 x2_2 = some Rz → J l { frames := 1, cells := 0, slots := 0, locals := 24 } G 3 X (QM X G 0 0 none (wSch G aS (Rz 0) (Rz 1) (Rz 2) (Rz 3) (Rz 4) (Rz 5) (Rz 6) (Rz 7) (Rz 8 0) (Rz 9 0))) 0 0 2 [(0, .ref (aS 0)), (2, .int x2_2)] [] (wSch G aS (vS_2 0) (vS_2 1) (vS_2 2) (vS_2 3) (vS_2 4) (vS_2 5) (vS_2 6) (vS_2 7) (vS_2 8 0) (vS_2 9 0)) := by
    intro  n2
    induction n2 with
    | zero =>
      intro vS_2 x2_2 h
      exact (no_none rfl h).elim
    | succ n2 ih2 =>
      intro vS_2 x2_2 h
      replace h : f_X2_removePupil_b2  (fun vS_2 x2_2 => f_X2_removePupil_L2  n2 vS_2 x2_2) vS_2 x2_2 = some Rz := h
      unfold f_X2_removePupil_b2 at h
      refine J_iload_n (pc := 2) C 2 rfl 1 rfl rfl ?_
      refine J_aload_n (pc := 3) C 3 rfl 0 rfl rfl ?_
      refine J_get (pc := 4) (v := .int (vS_2 8 0)) C 4 rfl TB_l2 rfl 0 8 rfl (by decide) k14 rfl rfl ?_
      refine J_iconst (pc := 7) (v := (1 : Int32)) C 5 rfl rfl ?_
      refine J_isub (pc := 8) C 6 rfl  ?_
      refine J_icmp_ge (pc := 9) (tgt := 47) C 7 rfl rfl (fun c1 => ?_) (fun c1 => ?_)
      · rw [if_pos c1] at h
        refine J_aload_n (pc := 47) C 31 rfl 0 rfl rfl ?_
        refine J_dup (pc := 48) C 32 rfl rfl ?_
        refine J_get (pc := 49) (v := .int (vS_2 8 0)) C 33 rfl TB_l2 rfl 0 8 rfl (by decide) k14 rfl rfl ?_
        refine J_iconst (pc := 52) (v := (1 : Int32)) C 34 rfl rfl ?_
        refine J_isub (pc := 53) C 35 rfl  ?_
        refine J_puti (pc := 54) C 36 (fun vv => (wSch G aS (vS_2 0) (vS_2 1) (vS_2 2) (vS_2 3) (vS_2 4) (vS_2 5) (vS_2 6) (vS_2 7) vv (vS_2 9 0))) rfl TB_l2 tyX2 tyX2_ok nmX2 rfl 0 8 rfl (by decide) k14 rfl rfl rfl (Nat.le_of_ble_eq_true rfl) (fun _ => rfl) ?_
        cases h
        exact J_vret (pc := 57) C 37 rfl
      · rw [if_neg c1] at h
        refine J_aload_n (pc := 12) C 8 rfl 0 rfl rfl ?_
        refine J_iload_n (pc := 13) C 9 rfl 1 rfl rfl ?_
        refine J_aload_n (pc := 14) C 10 rfl 0 rfl rfl ?_
        refine J_get (pc := 15) (v := .ref (aS 4)) C 11 rfl TB_l2 rfl 0 3 rfl (by decide) k8 rfl rfl ?_
        refine J_iload_n (pc := 18) C 12 rfl 1 rfl rfl ?_
        refine J_iconst (pc := 19) (v := (1 : Int32)) C 13 rfl rfl ?_
        refine J_iadd (pc := 20) C 14 rfl  ?_
        obtain ⟨g2, h⟩ := gd_some h
        refine J_iald (pc := 21) (f := (vS_2 3)) (v := ((vS_2 3) (Int32.toNatClampNeg (x2_2 + (1 : Int32))))) C 15 rfl 4 rfl g2 rfl ?_
        refine J_aload_n (pc := 22) C 16 rfl 0 rfl rfl ?_
        refine J_get (pc := 23) (v := .ref (aS 5)) C 17 rfl TB_l2 rfl 0 4 rfl (by decide) k9 rfl rfl ?_
        refine J_iload_n (pc := 26) C 18 rfl 1 rfl rfl ?_
        refine J_iconst (pc := 27) (v := (1 : Int32)) C 19 rfl rfl ?_
        refine J_iadd (pc := 28) C 20 rfl  ?_
        obtain ⟨g3, h⟩ := gd_some h
        refine J_iald (pc := 29) (f := (vS_2 4)) (v := ((vS_2 4) (Int32.toNatClampNeg (x2_2 + (1 : Int32))))) C 21 rfl 5 rfl g3 rfl ?_
        refine J_aload_n (pc := 30) C 22 rfl 0 rfl rfl ?_
        refine J_get (pc := 31) (v := .ref (aS 6)) C 23 rfl TB_l2 rfl 0 5 rfl (by decide) k11 rfl rfl ?_
        refine J_iload_n (pc := 34) C 24 rfl 1 rfl rfl ?_
        refine J_iconst (pc := 35) (v := (1 : Int32)) C 25 rfl rfl ?_
        refine J_iadd (pc := 36) C 26 rfl  ?_
        obtain ⟨g4, h⟩ := gd_some h
        refine J_zald (pc := 37) (f := (vS_2 5)) (v := ((vS_2 5) (Int32.toNatClampNeg (x2_2 + (1 : Int32))))) C 27 rfl 6 rfl g4 rfl ?_
        obtain ⟨q5, hq5, h⟩ := bnd h
        refine J_callV (pc := 38) (st2 := []) (st3 := []) (ws2 := (wSch G aS (q5 0) (q5 1) (q5 2) (q5 3) (q5 4) (q5 5) (q5 6) (q5 7) (q5 8 0) (q5 9 0))) C 28 rfl (c_X2_writePupil aS vS_2 x2_2 ((vS_2 3) (Int32.toNatClampNeg (x2_2 + (1 : Int32)))) ((vS_2 4) (Int32.toNatClampNeg (x2_2 + (1 : Int32)))) ((vS_2 5) (Int32.toNatClampNeg (x2_2 + (1 : Int32)))) hq5) V_X2_writePupil k49 i_X2_writePupil s_X2_writePupil rfl rfl ⟨Nat.le_of_ble_eq_true rfl, Nat.le_of_ble_eq_true rfl⟩ (Nat.le_of_ble_eq_true rfl) ⟨Nat.le_refl _, Nat.le_refl _⟩ 0 2 rfl rfl rfl (isC := [0, 1, 2, 3, 4, 5, 6, 7, 8]) (isR := []) (N := 9) ⟨rfl, by decide +kernel, rfl, by decide +kernel, rfl, trivial⟩ rfl ?_
        refine J_iinc (pc := 41) (v := (x2_2 + (1 : Int32))) (lv' := [(2, .int (x2_2 + (1 : Int32))), (0, .ref (aS 0))]) C 29 rfl 1 rfl rfl (by decide) rfl ?_
        refine J_goto (pc := 44) (tgt := 2) C 30 rfl rfl ?_
        exact J_sub [1, 0] rfl (ih2 q5 (x2_2 + (1 : Int32)) h)
  unfold f_X2_removePupil at h
  refine J_iload_n (pc := 0) C 0 rfl 1 rfl rfl ?_
  refine J_istore_n (pc := 1) (lv' := [(2, .int x1), (0, .ref (aS 0)), (1, .int x1)]) C 1 rfl rfl (by decide) rfl ?_
  exact J_sub [1, 0] rfl (B2  FU vS x1 h)
def T_X2_sits : List (Nat × ClassFile.Instr × Nat) := [(0, .aload_n 0, 1), (1, .getfield 21, 3), (4, .iload_n 1, 1), (5, .iaload, 1), (6, .iload_n 2, 1), (7, .invokestatic 48, 3), (10, .ireturn, 1)]
theorem D_X2_sits : ∀ q ∈ T_X2_sits, decode cX2_sits q.1 = .ok q.2 := by decide +kernel
theorem V_X2_sits : Vy yX2_sits cX2_sits 3 (some .boolean) 2 := ⟨k54, k22, by decide +kernel⟩
theorem i_X2_sits : Cond.instanceMethod yX2_sits ∈ TB := k80
theorem s_X2_sits : Cond.selects yX2_sits.cls yX2_sits yX2_sits ∈ TB := k81
noncomputable def f_X2_sits (vS : JV) (x1 : Int32) (x2 : Int32) : Option (Int32) :=
  gd (inb x1 16) ((f_X4_contains ((vS 3) (Int32.toNatClampNeg x1)) x2).bind (fun q2 => gd (isb q2) (some q2)))
set_option maxRecDepth 100000 in
set_option maxHeartbeats 4000000 in
theorem c_X2_sits {l : Launch} {G : JG} (aS : Nat → Nat) (vS : JV) (x1 : Int32) (x2 : Int32) {Rz : Int32} (h : f_X2_sits vS x1 x2 = some Rz) : JM l G yX2_sits cX2_sits 3 (some .boolean) 1 21 [.ref (aS 0), .int x1, .int x2] (wSch G aS (vS 0) (vS 1) (vS 2) (vS 3) (vS 4) (vS 5) (vS 6) (vS 7) (vS 8 0) (vS 9 0)) (wSch G aS (vS 0) (vS 1) (vS 2) (vS 3) (vS 4) (vS 5) (vS 6) (vS 7) (vS 8 0) (vS 9 0)) (some (.int Rz)) := by
  refine JM.of (own := RX2) (tb := T_X2_sits) (by decide) (Nat.le_of_ble_eq_true rfl) D_X2_sits rfl (fun X C => ?_)
  refine J_sub (lv' := [(0, .ref (aS 0)), (1, .int x1), (2, .int x2)]) [0, 1, 2] rfl ?_
  unfold f_X2_sits at h
  refine J_aload_n (pc := 0) C 0 rfl 0 rfl rfl ?_
  refine J_get (pc := 1) (v := .ref (aS 4)) C 1 rfl TB_l2 rfl 0 3 rfl (by decide) k8 rfl rfl ?_
  refine J_iload_n (pc := 4) C 2 rfl 1 rfl rfl ?_
  obtain ⟨g1, h⟩ := gd_some h
  refine J_iald (pc := 5) (f := (vS 3)) (v := ((vS 3) (Int32.toNatClampNeg x1))) C 3 rfl 4 rfl g1 rfl ?_
  refine J_iload_n (pc := 6) C 4 rfl 2 rfl rfl ?_
  obtain ⟨q2, hq2, h⟩ := bnd h
  refine J_callSN (pc := 7) (st2 := []) (st3 := [.int q2]) (ws2 := (wSch G aS (vS 0) (vS 1) (vS 2) (vS 3) (vS 4) (vS 5) (vS 6) (vS 7) (vS 8 0) (vS 9 0))) C 5 rfl (c_X4_contains ((vS 3) (Int32.toNatClampNeg x1)) x2 hq2) V_X4_contains (List.mem_of_getElem? (i := 5) rfl) t_X4_contains rfl rfl ⟨Nat.le_of_ble_eq_true rfl, Nat.le_of_ble_eq_true rfl⟩ (Nat.le_of_ble_eq_true rfl) ⟨Nat.le_refl _, Nat.le_refl _⟩ (isC := []) (isR := [0, 1, 2, 3, 4, 5, 6, 7, 8]) (N := 9) ⟨rfl, by decide +kernel, rfl, by decide +kernel, rfl, ⟨⟨_, rfl, rfl⟩, ⟨⟨_, rfl, rfl⟩, ⟨⟨_, rfl, rfl⟩, ⟨⟨_, rfl, rfl⟩, ⟨⟨_, rfl, rfl⟩, ⟨⟨_, rfl, rfl⟩, ⟨⟨_, rfl, rfl⟩, ⟨⟨_, rfl, rfl⟩, ⟨⟨_, rfl, rfl⟩, trivial⟩⟩⟩⟩⟩⟩⟩⟩⟩⟩ rfl ?_
  obtain ⟨g3, h⟩ := gd_some h
  cases h
  exact J_zret (pc := 10) C 6 rfl g3
def T_X2_beginOf : List (Nat × ClassFile.Instr × Nat) := [(0, .bipush 30, 2), (2, .aload_n 0, 1), (3, .getfield 15, 3), (6, .iload_n 1, 1), (7, .iaload, 1), (8, .imul, 1), (9, .ireturn, 1)]
theorem D_X2_beginOf : ∀ q ∈ T_X2_beginOf, decode cX2_beginOf q.1 = .ok q.2 := by decide +kernel
theorem V_X2_beginOf : Vy yX2_beginOf cX2_beginOf 2 (some .int) 1 := ⟨k57, k22, by decide +kernel⟩
theorem i_X2_beginOf : Cond.instanceMethod yX2_beginOf ∈ TB := k61
theorem s_X2_beginOf : Cond.selects yX2_beginOf.cls yX2_beginOf yX2_beginOf ∈ TB := k62
noncomputable def f_X2_beginOf (vS : JV) (x1 : Int32) : Option (Int32) :=
  gd (inb x1 6) (some ((30 : Int32) * ((vS 1) (Int32.toNatClampNeg x1))))
set_option maxRecDepth 100000 in
set_option maxHeartbeats 4000000 in
theorem c_X2_beginOf {l : Launch} {G : JG} (aS : Nat → Nat) (vS : JV) (x1 : Int32) {Rz : Int32} (h : f_X2_beginOf vS x1 = some Rz) : JM l G yX2_beginOf cX2_beginOf 2 (some .int) 0 0 [.ref (aS 0), .int x1] (wSch G aS (vS 0) (vS 1) (vS 2) (vS 3) (vS 4) (vS 5) (vS 6) (vS 7) (vS 8 0) (vS 9 0)) (wSch G aS (vS 0) (vS 1) (vS 2) (vS 3) (vS 4) (vS 5) (vS 6) (vS 7) (vS 8 0) (vS 9 0)) (some (.int Rz)) := by
  refine JM.of (own := RX2) (tb := T_X2_beginOf) (by decide) (Nat.le_of_ble_eq_true rfl) D_X2_beginOf rfl (fun X C => ?_)
  refine J_sub (lv' := [(0, .ref (aS 0)), (1, .int x1)]) [0, 1] rfl ?_
  unfold f_X2_beginOf at h
  refine J_bipush (pc := 0) (v := (30 : Int32)) C 0 rfl rfl ?_
  refine J_aload_n (pc := 2) C 1 rfl 0 rfl rfl ?_
  refine J_get (pc := 3) (v := .ref (aS 2)) C 2 rfl TB_l2 rfl 0 1 rfl (by decide) k6 rfl rfl ?_
  refine J_iload_n (pc := 6) C 3 rfl 1 rfl rfl ?_
  obtain ⟨g1, h⟩ := gd_some h
  refine J_iald (pc := 7) (f := (vS 1)) (v := ((vS 1) (Int32.toNatClampNeg x1))) C 4 rfl 2 rfl g1 rfl ?_
  refine J_imul (pc := 8) C 5 rfl  ?_
  cases h
  exact J_iret (pc := 9) C 6 rfl
def T_X2_lengthOf : List (Nat × ClassFile.Instr × Nat) := [(0, .aload_n 0, 1), (1, .getfield 18, 3), (4, .iload_n 2, 1), (5, .iaload, 1), (6, .bipush 100, 2), (8, .aload_n 0, 1), (9, .getfield 24, 3), (12, .iload_n 1, 1), (13, .iaload, 1), (14, .iadd, 1), (15, .imul, 1), (16, .bipush 99, 2), (18, .iadd, 1), (19, .bipush 100, 2), (21, .idiv, 1), (22, .ireturn, 1)]
theorem D_X2_lengthOf : ∀ q ∈ T_X2_lengthOf, decode cX2_lengthOf q.1 = .ok q.2 := by decide +kernel
theorem V_X2_lengthOf : Vy yX2_lengthOf cX2_lengthOf 3 (some .int) 2 := ⟨k58, k22, by decide +kernel⟩
theorem i_X2_lengthOf : Cond.instanceMethod yX2_lengthOf ∈ TB := k64
theorem s_X2_lengthOf : Cond.selects yX2_lengthOf.cls yX2_lengthOf yX2_lengthOf ∈ TB := k65
noncomputable def f_X2_lengthOf (vS : JV) (x1 : Int32) (x2 : Int32) : Option (Int32) :=
  gd (inb x2 6) (gd (inb x1 16) (some (((((vS 2) (Int32.toNatClampNeg x2)) * ((100 : Int32) + ((vS 4) (Int32.toNatClampNeg x1)))) + (99 : Int32)) / (100 : Int32))))
set_option maxRecDepth 100000 in
set_option maxHeartbeats 4000000 in
theorem c_X2_lengthOf {l : Launch} {G : JG} (aS : Nat → Nat) (vS : JV) (x1 : Int32) (x2 : Int32) {Rz : Int32} (h : f_X2_lengthOf vS x1 x2 = some Rz) : JM l G yX2_lengthOf cX2_lengthOf 3 (some .int) 0 0 [.ref (aS 0), .int x1, .int x2] (wSch G aS (vS 0) (vS 1) (vS 2) (vS 3) (vS 4) (vS 5) (vS 6) (vS 7) (vS 8 0) (vS 9 0)) (wSch G aS (vS 0) (vS 1) (vS 2) (vS 3) (vS 4) (vS 5) (vS 6) (vS 7) (vS 8 0) (vS 9 0)) (some (.int Rz)) := by
  refine JM.of (own := RX2) (tb := T_X2_lengthOf) (by decide) (Nat.le_of_ble_eq_true rfl) D_X2_lengthOf rfl (fun X C => ?_)
  refine J_sub (lv' := [(0, .ref (aS 0)), (1, .int x1), (2, .int x2)]) [0, 1, 2] rfl ?_
  unfold f_X2_lengthOf at h
  refine J_aload_n (pc := 0) C 0 rfl 0 rfl rfl ?_
  refine J_get (pc := 1) (v := .ref (aS 3)) C 1 rfl TB_l2 rfl 0 2 rfl (by decide) k7 rfl rfl ?_
  refine J_iload_n (pc := 4) C 2 rfl 2 rfl rfl ?_
  obtain ⟨g1, h⟩ := gd_some h
  refine J_iald (pc := 5) (f := (vS 2)) (v := ((vS 2) (Int32.toNatClampNeg x2))) C 3 rfl 3 rfl g1 rfl ?_
  refine J_bipush (pc := 6) (v := (100 : Int32)) C 4 rfl rfl ?_
  refine J_aload_n (pc := 8) C 5 rfl 0 rfl rfl ?_
  refine J_get (pc := 9) (v := .ref (aS 5)) C 6 rfl TB_l2 rfl 0 4 rfl (by decide) k9 rfl rfl ?_
  refine J_iload_n (pc := 12) C 7 rfl 1 rfl rfl ?_
  obtain ⟨g2, h⟩ := gd_some h
  refine J_iald (pc := 13) (f := (vS 4)) (v := ((vS 4) (Int32.toNatClampNeg x1))) C 8 rfl 5 rfl g2 rfl ?_
  refine J_iadd (pc := 14) C 9 rfl  ?_
  refine J_imul (pc := 15) C 10 rfl  ?_
  refine J_bipush (pc := 16) (v := (99 : Int32)) C 11 rfl rfl ?_
  refine J_iadd (pc := 18) C 12 rfl  ?_
  refine J_bipush (pc := 19) (v := (100 : Int32)) C 13 rfl rfl ?_
  refine J_idiv (pc := 21) C 14 rfl (by decide) ?_
  cases h
  exact J_iret (pc := 22) C 15 rfl
def T_X2_endOf : List (Nat × ClassFile.Instr × Nat) := [(0, .aload_n 0, 1), (1, .iload_n 2, 1), (2, .invokevirtual 52, 3), (5, .aload_n 0, 1), (6, .iload_n 1, 1), (7, .iload_n 2, 1), (8, .invokevirtual 56, 3), (11, .iadd, 1), (12, .ireturn, 1)]
theorem D_X2_endOf : ∀ q ∈ T_X2_endOf, decode cX2_endOf q.1 = .ok q.2 := by decide +kernel
theorem V_X2_endOf : Vy yX2_endOf cX2_endOf 3 (some .int) 2 := ⟨k59, k22, by decide +kernel⟩
theorem i_X2_endOf : Cond.instanceMethod yX2_endOf ∈ TB := k68
theorem s_X2_endOf : Cond.selects yX2_endOf.cls yX2_endOf yX2_endOf ∈ TB := k69
noncomputable def f_X2_endOf (vS : JV) (x1 : Int32) (x2 : Int32) : Option (Int32) :=
  (f_X2_beginOf vS x2).bind (fun q1 => (f_X2_lengthOf vS x1 x2).bind (fun q2 => some (q1 + q2)))
set_option maxRecDepth 100000 in
set_option maxHeartbeats 4000000 in
theorem c_X2_endOf {l : Launch} {G : JG} (aS : Nat → Nat) (vS : JV) (x1 : Int32) (x2 : Int32) {Rz : Int32} (h : f_X2_endOf vS x1 x2 = some Rz) : JM l G yX2_endOf cX2_endOf 3 (some .int) 1 22 [.ref (aS 0), .int x1, .int x2] (wSch G aS (vS 0) (vS 1) (vS 2) (vS 3) (vS 4) (vS 5) (vS 6) (vS 7) (vS 8 0) (vS 9 0)) (wSch G aS (vS 0) (vS 1) (vS 2) (vS 3) (vS 4) (vS 5) (vS 6) (vS 7) (vS 8 0) (vS 9 0)) (some (.int Rz)) := by
  refine JM.of (own := RX2) (tb := T_X2_endOf) (by decide) (Nat.le_of_ble_eq_true rfl) D_X2_endOf rfl (fun X C => ?_)
  refine J_sub (lv' := [(0, .ref (aS 0)), (1, .int x1), (2, .int x2)]) [0, 1, 2] rfl ?_
  unfold f_X2_endOf at h
  refine J_aload_n (pc := 0) C 0 rfl 0 rfl rfl ?_
  refine J_iload_n (pc := 1) C 1 rfl 2 rfl rfl ?_
  obtain ⟨q1, hq1, h⟩ := bnd h
  refine J_callV (pc := 2) (st2 := []) (st3 := [.int q1]) (ws2 := (wSch G aS (vS 0) (vS 1) (vS 2) (vS 3) (vS 4) (vS 5) (vS 6) (vS 7) (vS 8 0) (vS 9 0))) C 2 rfl (c_X2_beginOf aS vS x2 hq1) V_X2_beginOf k60 i_X2_beginOf s_X2_beginOf rfl rfl ⟨Nat.le_of_ble_eq_true rfl, Nat.le_of_ble_eq_true rfl⟩ (Nat.le_of_ble_eq_true rfl) ⟨Nat.le_refl _, Nat.le_refl _⟩ 0 2 rfl rfl rfl (isC := [0, 1, 2, 3, 4, 5, 6, 7, 8]) (isR := []) (N := 9) ⟨rfl, by decide +kernel, rfl, by decide +kernel, rfl, trivial⟩ rfl ?_
  refine J_aload_n (pc := 5) C 3 rfl 0 rfl rfl ?_
  refine J_iload_n (pc := 6) C 4 rfl 1 rfl rfl ?_
  refine J_iload_n (pc := 7) C 5 rfl 2 rfl rfl ?_
  obtain ⟨q2, hq2, h⟩ := bnd h
  refine J_callV (pc := 8) (st2 := [.int q1]) (st3 := [.int q2, .int q1]) (ws2 := (wSch G aS (vS 0) (vS 1) (vS 2) (vS 3) (vS 4) (vS 5) (vS 6) (vS 7) (vS 8 0) (vS 9 0))) C 6 rfl (c_X2_lengthOf aS vS x1 x2 hq2) V_X2_lengthOf k63 i_X2_lengthOf s_X2_lengthOf rfl rfl ⟨Nat.le_of_ble_eq_true rfl, Nat.le_of_ble_eq_true rfl⟩ (Nat.le_of_ble_eq_true rfl) ⟨Nat.le_refl _, Nat.le_refl _⟩ 0 2 rfl rfl rfl (isC := [0, 1, 2, 3, 4, 5, 6, 7, 8]) (isR := []) (N := 9) ⟨rfl, by decide +kernel, rfl, by decide +kernel, rfl, trivial⟩ rfl ?_
  refine J_iadd (pc := 11) C 7 rfl  ?_
  cases h
  exact J_iret (pc := 12) C 8 rfl
def T_X2_isSatAt : List (Nat × ClassFile.Instr × Nat) := [(0, .aload_n 0, 1), (1, .iload_n 2, 1), (2, .invokevirtual 52, 3), (5, .iload_n 3, 1), (6, .if_icmp .gt 17, 3), (9, .iload_n 3, 1), (10, .aload_n 0, 1), (11, .iload_n 1, 1), (12, .iload_n 2, 1), (13, .invokevirtual 60, 3), (16, .if_icmp .ge 7, 3), (19, .iconst 1, 1), (20, .goto 4, 3), (23, .iconst 0, 1), (24, .ireturn, 1)]
theorem D_X2_isSatAt : ∀ q ∈ T_X2_isSatAt, decode cX2_isSatAt q.1 = .ok q.2 := by decide +kernel
theorem V_X2_isSatAt : Vy yX2_isSatAt cX2_isSatAt 4 (some .boolean) 3 := ⟨k66, k22, by decide +kernel⟩
theorem i_X2_isSatAt : Cond.instanceMethod yX2_isSatAt ∈ TB := k102
theorem s_X2_isSatAt : Cond.selects yX2_isSatAt.cls yX2_isSatAt yX2_isSatAt ∈ TB := k103
noncomputable def f_X2_isSatAt (vS : JV) (x1 : Int32) (x2 : Int32) (x3 : Int32) : Option (Int32) :=
  (f_X2_beginOf vS x2).bind (fun q1 => (if x3 < q1 then some (0 : Int32) else (f_X2_endOf vS x1 x2).bind (fun q3 => (if q3 ≤ x3 then some (0 : Int32) else some (1 : Int32)))))
set_option maxRecDepth 100000 in
set_option maxHeartbeats 4000000 in
theorem c_X2_isSatAt {l : Launch} {G : JG} (aS : Nat → Nat) (vS : JV) (x1 : Int32) (x2 : Int32) (x3 : Int32) {Rz : Int32} (h : f_X2_isSatAt vS x1 x2 x3 = some Rz) : JM l G yX2_isSatAt cX2_isSatAt 4 (some .boolean) 2 44 [.ref (aS 0), .int x1, .int x2, .int x3] (wSch G aS (vS 0) (vS 1) (vS 2) (vS 3) (vS 4) (vS 5) (vS 6) (vS 7) (vS 8 0) (vS 9 0)) (wSch G aS (vS 0) (vS 1) (vS 2) (vS 3) (vS 4) (vS 5) (vS 6) (vS 7) (vS 8 0) (vS 9 0)) (some (.int Rz)) := by
  refine JM.of (own := RX2) (tb := T_X2_isSatAt) (by decide) (Nat.le_of_ble_eq_true rfl) D_X2_isSatAt rfl (fun X C => ?_)
  refine J_sub (lv' := [(0, .ref (aS 0)), (1, .int x1), (2, .int x2), (3, .int x3)]) [0, 1, 2, 3] rfl ?_
  unfold f_X2_isSatAt at h
  refine J_aload_n (pc := 0) C 0 rfl 0 rfl rfl ?_
  refine J_iload_n (pc := 1) C 1 rfl 2 rfl rfl ?_
  obtain ⟨q1, hq1, h⟩ := bnd h
  refine J_callV (pc := 2) (st2 := []) (st3 := [.int q1]) (ws2 := (wSch G aS (vS 0) (vS 1) (vS 2) (vS 3) (vS 4) (vS 5) (vS 6) (vS 7) (vS 8 0) (vS 9 0))) C 2 rfl (c_X2_beginOf aS vS x2 hq1) V_X2_beginOf k60 i_X2_beginOf s_X2_beginOf rfl rfl ⟨Nat.le_of_ble_eq_true rfl, Nat.le_of_ble_eq_true rfl⟩ (Nat.le_of_ble_eq_true rfl) ⟨Nat.le_refl _, Nat.le_refl _⟩ 0 2 rfl rfl rfl (isC := [0, 1, 2, 3, 4, 5, 6, 7, 8]) (isR := []) (N := 9) ⟨rfl, by decide +kernel, rfl, by decide +kernel, rfl, trivial⟩ rfl ?_
  refine J_iload_n (pc := 5) C 3 rfl 3 rfl rfl ?_
  refine J_icmp_gt (pc := 6) (tgt := 23) C 4 rfl rfl (fun c2 => ?_) (fun c2 => ?_)
  · rw [if_pos c2] at h
    refine J_iconst (pc := 23) (v := (0 : Int32)) C 13 rfl rfl ?_
    cases h
    exact J_zret (pc := 24) C 14 rfl rfl
  · rw [if_neg c2] at h
    refine J_iload_n (pc := 9) C 5 rfl 3 rfl rfl ?_
    refine J_aload_n (pc := 10) C 6 rfl 0 rfl rfl ?_
    refine J_iload_n (pc := 11) C 7 rfl 1 rfl rfl ?_
    refine J_iload_n (pc := 12) C 8 rfl 2 rfl rfl ?_
    obtain ⟨q3, hq3, h⟩ := bnd h
    refine J_callV (pc := 13) (st2 := [.int x3]) (st3 := [.int q3, .int x3]) (ws2 := (wSch G aS (vS 0) (vS 1) (vS 2) (vS 3) (vS 4) (vS 5) (vS 6) (vS 7) (vS 8 0) (vS 9 0))) C 9 rfl (c_X2_endOf aS vS x1 x2 hq3) V_X2_endOf k67 i_X2_endOf s_X2_endOf rfl rfl ⟨Nat.le_of_ble_eq_true rfl, Nat.le_of_ble_eq_true rfl⟩ (Nat.le_of_ble_eq_true rfl) ⟨Nat.le_refl _, Nat.le_refl _⟩ 0 2 rfl rfl rfl (isC := [0, 1, 2, 3, 4, 5, 6, 7, 8]) (isR := []) (N := 9) ⟨rfl, by decide +kernel, rfl, by decide +kernel, rfl, trivial⟩ rfl ?_
    refine J_icmp_ge (pc := 16) (tgt := 23) C 10 rfl rfl (fun c4 => ?_) (fun c4 => ?_)
    · rw [if_pos c4] at h
      refine J_iconst (pc := 23) (v := (0 : Int32)) C 13 rfl rfl ?_
      cases h
      exact J_zret (pc := 24) C 14 rfl rfl
    · rw [if_neg c4] at h
      refine J_iconst (pc := 19) (v := (1 : Int32)) C 11 rfl rfl ?_
      refine J_goto (pc := 20) (tgt := 24) C 12 rfl rfl ?_
      cases h
      exact J_zret (pc := 24) C 14 rfl rfl
def T_X2_sittings : List (Nat × ClassFile.Instr × Nat) := [(0, .iconst 0, 1), (1, .istore_n 1, 1), (2, .iconst 0, 1), (3, .istore_n 2, 1), (4, .iload_n 2, 1), (5, .aload_n 0, 1), (6, .getfield 37, 3), (9, .if_icmp .ge 21, 3), (12, .iload_n 1, 1), (13, .aload_n 0, 1), (14, .getfield 21, 3), (17, .iload_n 2, 1), (18, .iaload, 1), (19, .invokestatic 63, 3), (22, .iadd, 1), (23, .istore_n 1, 1), (24, .iinc 2 1, 3), (27, .goto (-23), 3), (30, .iload_n 1, 1), (31, .ireturn, 1)]
theorem D_X2_sittings : ∀ q ∈ T_X2_sittings, decode cX2_sittings q.1 = .ok q.2 := by decide +kernel
theorem V_X2_sittings : Vy yX2_sittings cX2_sittings 3 (some .int) 0 := ⟨k74, k22, by decide +kernel⟩
theorem i_X2_sittings : Cond.instanceMethod yX2_sittings ∈ TB := k306
theorem s_X2_sittings : Cond.selects yX2_sittings.cls yX2_sittings yX2_sittings ∈ TB := k307
noncomputable def f_X2_sittings_b4 (vS : JV) (r4 : Int32 → Int32 → Option (Int32)) (x1_4 : Int32) (x2_4 : Int32) : Option (Int32) :=
  (if (vS 8 0) ≤ x2_4 then some x1_4 else gd (inb x2_4 16) ((f_J6_bitCount_0f7a4 ((vS 3) (Int32.toNatClampNeg x2_4))).bind (fun q3 => r4 (x1_4 + q3) (x2_4 + (1 : Int32)))))
noncomputable def f_X2_sittings_L4 (vS : JV) (n : Nat) (x1_4 : Int32) (x2_4 : Int32) : Option (Int32) :=
  lp (fun (rec : Int32 × Int32 → Option (Int32)) a => f_X2_sittings_b4 vS (fun x1_4 x2_4 => rec (x1_4, x2_4)) a.1 a.2) n (x1_4, x2_4)
noncomputable def f_X2_sittings (vS : JV)  : Option (Int32) :=
  f_X2_sittings_L4 vS  FU (0 : Int32) (0 : Int32)
set_option maxRecDepth 100000 in
set_option maxHeartbeats 4000000 in
theorem c_X2_sittings {l : Launch} {G : JG} (aS : Nat → Nat) (vS : JV)  {Rz : Int32} (h : f_X2_sittings vS = some Rz) : JM l G yX2_sittings cX2_sittings 3 (some .int) 1 20 [.ref (aS 0)] (wSch G aS (vS 0) (vS 1) (vS 2) (vS 3) (vS 4) (vS 5) (vS 6) (vS 7) (vS 8 0) (vS 9 0)) (wSch G aS (vS 0) (vS 1) (vS 2) (vS 3) (vS 4) (vS 5) (vS 6) (vS 7) (vS 8 0) (vS 9 0)) (some (.int Rz)) := by
  refine JM.of (own := RX2) (tb := T_X2_sittings) (by decide) (Nat.le_of_ble_eq_true rfl) D_X2_sittings rfl (fun X C => ?_)
  refine J_sub (lv' := [(0, .ref (aS 0))]) [0] rfl ?_
  have B4 : ∀ (n4 : Nat) (x1_4 : Int32) (x2_4 : Int32), f_X2_sittings_L4 vS n4 x1_4 x2_4 = some Rz → J l { frames := 1, cells := 0, slots := 0, locals := 20 } G 3 X (QM X G 0 0 (some (.int Rz)) (wSch G aS (vS 0) (vS 1) (vS 2) (vS 3) (vS 4) (vS 5) (vS 6) (vS 7) (vS 8 0) (vS 9 0))) 0 0 4 [(0, .ref (aS 0)), (1, .int x1_4), (2, .int x2_4)] [] (wSch G aS (vS 0) (vS 1) (vS 2) (vS 3) (vS 4) (vS 5) (vS 6) (vS 7) (vS 8 0) (vS 9 0)) := by
    intro  n4
    induction n4 with
    | zero =>
      intro x1_4 x2_4 h
      exact (no_none rfl h).elim
    | succ n4 ih4 =>
      intro x1_4 x2_4 h
      replace h : f_X2_sittings_b4 vS (fun x1_4 x2_4 => f_X2_sittings_L4 vS n4 x1_4 x2_4) x1_4 x2_4 = some Rz := h
      unfold f_X2_sittings_b4 at h
      refine J_iload_n (pc := 4) C 4 rfl 2 rfl rfl ?_
      refine J_aload_n (pc := 5) C 5 rfl 0 rfl rfl ?_
      refine J_get (pc := 6) (v := .int (vS 8 0)) C 6 rfl TB_l2 rfl 0 8 rfl (by decide) k14 rfl rfl ?_
      refine J_icmp_ge (pc := 9) (tgt := 30) C 7 rfl rfl (fun c1 => ?_) (fun c1 => ?_)
      · rw [if_pos c1] at h
        refine J_iload_n (pc := 30) C 18 rfl 1 rfl rfl ?_
        cases h
        exact J_iret (pc := 31) C 19 rfl
      · rw [if_neg c1] at h
        refine J_iload_n (pc := 12) C 8 rfl 1 rfl rfl ?_
        refine J_aload_n (pc := 13) C 9 rfl 0 rfl rfl ?_
        refine J_get (pc := 14) (v := .ref (aS 4)) C 10 rfl TB_l2 rfl 0 3 rfl (by decide) k8 rfl rfl ?_
        refine J_iload_n (pc := 17) C 11 rfl 2 rfl rfl ?_
        obtain ⟨g2, h⟩ := gd_some h
        refine J_iald (pc := 18) (f := (vS 3)) (v := ((vS 3) (Int32.toNatClampNeg x2_4))) C 12 rfl 4 rfl g2 rfl ?_
        obtain ⟨q3, hq3, h⟩ := bnd h
        refine J_callS (pc := 19) (st2 := [.int x1_4]) (st3 := [.int q3, .int x1_4]) (ws2 := (wSch G aS (vS 0) (vS 1) (vS 2) (vS 3) (vS 4) (vS 5) (vS 6) (vS 7) (vS 8 0) (vS 9 0))) C 13 rfl (c_J6_bitCount_0f7a4 ((vS 3) (Int32.toNatClampNeg x2_4)) hq3) V_J6_bitCount_0f7a4 k75 t_J6_bitCount_0f7a4 rfl rfl ⟨Nat.le_of_ble_eq_true rfl, Nat.le_of_ble_eq_true rfl⟩ (Nat.le_of_ble_eq_true rfl) ⟨Nat.le_refl _, Nat.le_refl _⟩ (isC := []) (isR := [0, 1, 2, 3, 4, 5, 6, 7, 8]) (N := 9) ⟨rfl, by decide +kernel, rfl, by decide +kernel, rfl, ⟨⟨_, rfl, rfl⟩, ⟨⟨_, rfl, rfl⟩, ⟨⟨_, rfl, rfl⟩, ⟨⟨_, rfl, rfl⟩, ⟨⟨_, rfl, rfl⟩, ⟨⟨_, rfl, rfl⟩, ⟨⟨_, rfl, rfl⟩, ⟨⟨_, rfl, rfl⟩, ⟨⟨_, rfl, rfl⟩, trivial⟩⟩⟩⟩⟩⟩⟩⟩⟩⟩ rfl ?_
        refine J_iadd (pc := 22) C 14 rfl  ?_
        refine J_istore_n (pc := 23) (lv' := [(1, .int (x1_4 + q3)), (0, .ref (aS 0)), (2, .int x2_4)]) C 15 rfl rfl (by decide) rfl ?_
        refine J_iinc (pc := 24) (v := (x2_4 + (1 : Int32))) (lv' := [(2, .int (x2_4 + (1 : Int32))), (1, .int (x1_4 + q3)), (0, .ref (aS 0))]) C 16 rfl 2 rfl rfl (by decide) rfl ?_
        refine J_goto (pc := 27) (tgt := 4) C 17 rfl rfl ?_
        exact J_sub [2, 1, 0] rfl (ih4 (x1_4 + q3) (x2_4 + (1 : Int32)) h)
  unfold f_X2_sittings at h
  refine J_iconst (pc := 0) (v := (0 : Int32)) C 0 rfl rfl ?_
  refine J_istore_n (pc := 1) (lv' := [(1, .int (0 : Int32)), (0, .ref (aS 0))]) C 1 rfl rfl (by decide) rfl ?_
  refine J_iconst (pc := 2) (v := (0 : Int32)) C 2 rfl rfl ?_
  refine J_istore_n (pc := 3) (lv' := [(2, .int (0 : Int32)), (1, .int (0 : Int32)), (0, .ref (aS 0))]) C 3 rfl rfl (by decide) rfl ?_
  exact J_sub [2, 1, 0] rfl (B4  FU (0 : Int32) (0 : Int32) h)
def T_X2_minutesOf : List (Nat × ClassFile.Instr × Nat) := [(0, .iconst 0, 1), (1, .istore_n 2, 1), (2, .iconst 0, 1), (3, .istore_n 3, 1), (4, .iload_n 3, 1), (5, .bipush 6, 2), (7, .if_icmp .ge 27, 3), (10, .aload_n 0, 1), (11, .iload_n 1, 1), (12, .iload_n 3, 1), (13, .invokevirtual 68, 3), (16, .ifCond .eq 12, 3), (19, .iload_n 2, 1), (20, .aload_n 0, 1), (21, .iload_n 1, 1), (22, .iload_n 3, 1), (23, .invokevirtual 56, 3), (26, .iadd, 1), (27, .istore_n 2, 1), (28, .iinc 3 1, 3), (31, .goto (-27), 3), (34, .iload_n 2, 1), (35, .ireturn, 1)]
theorem D_X2_minutesOf : ∀ q ∈ T_X2_minutesOf, decode cX2_minutesOf q.1 = .ok q.2 := by decide +kernel
theorem V_X2_minutesOf : Vy yX2_minutesOf cX2_minutesOf 4 (some .int) 1 := ⟨k78, k22, by decide +kernel⟩
theorem i_X2_minutesOf : Cond.instanceMethod yX2_minutesOf ∈ TB := k273
theorem s_X2_minutesOf : Cond.selects yX2_minutesOf.cls yX2_minutesOf yX2_minutesOf ∈ TB := k274
noncomputable def f_X2_minutesOf_b4 (vS : JV) (x1_4 : Int32) (r4 : Int32 → Int32 → Option (Int32)) (x2_4 : Int32) (x3_4 : Int32) : Option (Int32) :=
  (if (6 : Int32) ≤ x3_4 then some x2_4 else (f_X2_sits vS x1_4 x3_4).bind (fun q2 => (if q2 = 0 then r4 x2_4 (x3_4 + (1 : Int32)) else (f_X2_lengthOf vS x1_4 x3_4).bind (fun q4 => r4 (x2_4 + q4) (x3_4 + (1 : Int32))))))
noncomputable def f_X2_minutesOf_L4 (vS : JV) (x1_4 : Int32) (n : Nat) (x2_4 : Int32) (x3_4 : Int32) : Option (Int32) :=
  lp (fun (rec : Int32 × Int32 → Option (Int32)) a => f_X2_minutesOf_b4 vS x1_4 (fun x2_4 x3_4 => rec (x2_4, x3_4)) a.1 a.2) n (x2_4, x3_4)
noncomputable def f_X2_minutesOf (vS : JV) (x1 : Int32) : Option (Int32) :=
  f_X2_minutesOf_L4 vS x1 FU (0 : Int32) (0 : Int32)
set_option maxRecDepth 100000 in
set_option maxHeartbeats 4000000 in
theorem c_X2_minutesOf {l : Launch} {G : JG} (aS : Nat → Nat) (vS : JV) (x1 : Int32) {Rz : Int32} (h : f_X2_minutesOf vS x1 = some Rz) : JM l G yX2_minutesOf cX2_minutesOf 4 (some .int) 2 43 [.ref (aS 0), .int x1] (wSch G aS (vS 0) (vS 1) (vS 2) (vS 3) (vS 4) (vS 5) (vS 6) (vS 7) (vS 8 0) (vS 9 0)) (wSch G aS (vS 0) (vS 1) (vS 2) (vS 3) (vS 4) (vS 5) (vS 6) (vS 7) (vS 8 0) (vS 9 0)) (some (.int Rz)) := by
  refine JM.of (own := RX2) (tb := T_X2_minutesOf) (by decide) (Nat.le_of_ble_eq_true rfl) D_X2_minutesOf rfl (fun X C => ?_)
  refine J_sub (lv' := [(0, .ref (aS 0)), (1, .int x1)]) [0, 1] rfl ?_
  have B4 : ∀ (x1_4 : Int32) (n4 : Nat) (x2_4 : Int32) (x3_4 : Int32), f_X2_minutesOf_L4 vS x1_4 n4 x2_4 x3_4 = some Rz → J l { frames := 2, cells := 0, slots := 0, locals := 43 } G 4 X (QM X G 0 0 (some (.int Rz)) (wSch G aS (vS 0) (vS 1) (vS 2) (vS 3) (vS 4) (vS 5) (vS 6) (vS 7) (vS 8 0) (vS 9 0))) 0 0 4 [(0, .ref (aS 0)), (1, .int x1_4), (2, .int x2_4), (3, .int x3_4)] [] (wSch G aS (vS 0) (vS 1) (vS 2) (vS 3) (vS 4) (vS 5) (vS 6) (vS 7) (vS 8 0) (vS 9 0)) := by
    intro x1_4 n4
    induction n4 with
    | zero =>
      intro x2_4 x3_4 h
      exact (no_none rfl h).elim
    | succ n4 ih4 =>
      intro x2_4 x3_4 h
      replace h : f_X2_minutesOf_b4 vS x1_4 (fun x2_4 x3_4 => f_X2_minutesOf_L4 vS x1_4 n4 x2_4 x3_4) x2_4 x3_4 = some Rz := h
      unfold f_X2_minutesOf_b4 at h
      refine J_iload_n (pc := 4) C 4 rfl 3 rfl rfl ?_
      refine J_bipush (pc := 5) (v := (6 : Int32)) C 5 rfl rfl ?_
      refine J_icmp_ge (pc := 7) (tgt := 34) C 6 rfl rfl (fun c1 => ?_) (fun c1 => ?_)
      · rw [if_pos c1] at h
        refine J_iload_n (pc := 34) C 21 rfl 2 rfl rfl ?_
        cases h
        exact J_iret (pc := 35) C 22 rfl
      · rw [if_neg c1] at h
        refine J_aload_n (pc := 10) C 7 rfl 0 rfl rfl ?_
        refine J_iload_n (pc := 11) C 8 rfl 1 rfl rfl ?_
        refine J_iload_n (pc := 12) C 9 rfl 3 rfl rfl ?_
        obtain ⟨q2, hq2, h⟩ := bnd h
        refine J_callV (pc := 13) (st2 := []) (st3 := [.int q2]) (ws2 := (wSch G aS (vS 0) (vS 1) (vS 2) (vS 3) (vS 4) (vS 5) (vS 6) (vS 7) (vS 8 0) (vS 9 0))) C 10 rfl (c_X2_sits aS vS x1_4 x3_4 hq2) V_X2_sits k79 i_X2_sits s_X2_sits rfl rfl ⟨Nat.le_of_ble_eq_true rfl, Nat.le_of_ble_eq_true rfl⟩ (Nat.le_of_ble_eq_true rfl) ⟨Nat.le_refl _, Nat.le_refl _⟩ 0 2 rfl rfl rfl (isC := [0, 1, 2, 3, 4, 5, 6, 7, 8]) (isR := []) (N := 9) ⟨rfl, by decide +kernel, rfl, by decide +kernel, rfl, trivial⟩ rfl ?_
        refine J_if_eq (pc := 16) (tgt := 28) C 11 rfl rfl (fun c3 => ?_) (fun c3 => ?_)
        · rw [if_pos c3] at h
          refine J_iinc (pc := 28) (v := (x3_4 + (1 : Int32))) (lv' := [(3, .int (x3_4 + (1 : Int32))), (0, .ref (aS 0)), (1, .int x1_4), (2, .int x2_4)]) C 19 rfl 3 rfl rfl (by decide) rfl ?_
          refine J_goto (pc := 31) (tgt := 4) C 20 rfl rfl ?_
          exact J_sub [1, 2, 3, 0] rfl (ih4 x2_4 (x3_4 + (1 : Int32)) h)
        · rw [if_neg c3] at h
          refine J_iload_n (pc := 19) C 12 rfl 2 rfl rfl ?_
          refine J_aload_n (pc := 20) C 13 rfl 0 rfl rfl ?_
          refine J_iload_n (pc := 21) C 14 rfl 1 rfl rfl ?_
          refine J_iload_n (pc := 22) C 15 rfl 3 rfl rfl ?_
          obtain ⟨q4, hq4, h⟩ := bnd h
          refine J_callV (pc := 23) (st2 := [.int x2_4]) (st3 := [.int q4, .int x2_4]) (ws2 := (wSch G aS (vS 0) (vS 1) (vS 2) (vS 3) (vS 4) (vS 5) (vS 6) (vS 7) (vS 8 0) (vS 9 0))) C 16 rfl (c_X2_lengthOf aS vS x1_4 x3_4 hq4) V_X2_lengthOf k63 i_X2_lengthOf s_X2_lengthOf rfl rfl ⟨Nat.le_of_ble_eq_true rfl, Nat.le_of_ble_eq_true rfl⟩ (Nat.le_of_ble_eq_true rfl) ⟨Nat.le_refl _, Nat.le_refl _⟩ 0 2 rfl rfl rfl (isC := [0, 1, 2, 3, 4, 5, 6, 7, 8]) (isR := []) (N := 9) ⟨rfl, by decide +kernel, rfl, by decide +kernel, rfl, trivial⟩ rfl ?_
          refine J_iadd (pc := 26) C 17 rfl  ?_
          refine J_istore_n (pc := 27) (lv' := [(2, .int (x2_4 + q4)), (0, .ref (aS 0)), (1, .int x1_4), (3, .int x3_4)]) C 18 rfl rfl (by decide) rfl ?_
          refine J_iinc (pc := 28) (v := (x3_4 + (1 : Int32))) (lv' := [(3, .int (x3_4 + (1 : Int32))), (2, .int (x2_4 + q4)), (0, .ref (aS 0)), (1, .int x1_4)]) C 19 rfl 3 rfl rfl (by decide) rfl ?_
          refine J_goto (pc := 31) (tgt := 4) C 20 rfl rfl ?_
          exact J_sub [2, 3, 1, 0] rfl (ih4 (x2_4 + q4) (x3_4 + (1 : Int32)) h)
  unfold f_X2_minutesOf at h
  refine J_iconst (pc := 0) (v := (0 : Int32)) C 0 rfl rfl ?_
  refine J_istore_n (pc := 1) (lv' := [(2, .int (0 : Int32)), (0, .ref (aS 0)), (1, .int x1)]) C 1 rfl rfl (by decide) rfl ?_
  refine J_iconst (pc := 2) (v := (0 : Int32)) C 2 rfl rfl ?_
  refine J_istore_n (pc := 3) (lv' := [(3, .int (0 : Int32)), (2, .int (0 : Int32)), (0, .ref (aS 0)), (1, .int x1)]) C 3 rfl rfl (by decide) rfl ?_
  exact J_sub [2, 3, 1, 0] rfl (B4 x1 FU (0 : Int32) (0 : Int32) h)
def T_X2_pupilsOf : List (Nat × ClassFile.Instr × Nat) := [(0, .iconst 0, 1), (1, .istore_n 2, 1), (2, .iconst 0, 1), (3, .istore_n 3, 1), (4, .iload_n 3, 1), (5, .aload_n 0, 1), (6, .getfield 37, 3), (9, .if_icmp .ge 24, 3), (12, .aload_n 0, 1), (13, .iload_n 3, 1), (14, .iload_n 1, 1), (15, .invokevirtual 68, 3), (18, .ifCond .eq 9, 3), (21, .iload_n 2, 1), (22, .iconst 1, 1), (23, .iload_n 3, 1), (24, .ishl, 1), (25, .ior, 1), (26, .istore_n 2, 1), (27, .iinc 3 1, 3), (30, .goto (-26), 3), (33, .iload_n 2, 1), (34, .ireturn, 1)]
theorem D_X2_pupilsOf : ∀ q ∈ T_X2_pupilsOf, decode cX2_pupilsOf q.1 = .ok q.2 := by decide +kernel
theorem V_X2_pupilsOf : Vy yX2_pupilsOf cX2_pupilsOf 4 (some .int) 1 := ⟨k82, k22, by decide +kernel⟩
theorem i_X2_pupilsOf : Cond.instanceMethod yX2_pupilsOf ∈ TB := k277
theorem s_X2_pupilsOf : Cond.selects yX2_pupilsOf.cls yX2_pupilsOf yX2_pupilsOf ∈ TB := k278
noncomputable def f_X2_pupilsOf_b4 (vS : JV) (x1_4 : Int32) (r4 : Int32 → Int32 → Option (Int32)) (x2_4 : Int32) (x3_4 : Int32) : Option (Int32) :=
  (if (vS 8 0) ≤ x3_4 then some x2_4 else (f_X2_sits vS x3_4 x1_4).bind (fun q2 => (if q2 = 0 then r4 x2_4 (x3_4 + (1 : Int32)) else r4 (x2_4 ||| ((1 : Int32) <<< (x3_4 &&& 31))) (x3_4 + (1 : Int32)))))
noncomputable def f_X2_pupilsOf_L4 (vS : JV) (x1_4 : Int32) (n : Nat) (x2_4 : Int32) (x3_4 : Int32) : Option (Int32) :=
  lp (fun (rec : Int32 × Int32 → Option (Int32)) a => f_X2_pupilsOf_b4 vS x1_4 (fun x2_4 x3_4 => rec (x2_4, x3_4)) a.1 a.2) n (x2_4, x3_4)
noncomputable def f_X2_pupilsOf (vS : JV) (x1 : Int32) : Option (Int32) :=
  f_X2_pupilsOf_L4 vS x1 FU (0 : Int32) (0 : Int32)
set_option maxRecDepth 100000 in
set_option maxHeartbeats 4000000 in
theorem c_X2_pupilsOf {l : Launch} {G : JG} (aS : Nat → Nat) (vS : JV) (x1 : Int32) {Rz : Int32} (h : f_X2_pupilsOf vS x1 = some Rz) : JM l G yX2_pupilsOf cX2_pupilsOf 4 (some .int) 2 43 [.ref (aS 0), .int x1] (wSch G aS (vS 0) (vS 1) (vS 2) (vS 3) (vS 4) (vS 5) (vS 6) (vS 7) (vS 8 0) (vS 9 0)) (wSch G aS (vS 0) (vS 1) (vS 2) (vS 3) (vS 4) (vS 5) (vS 6) (vS 7) (vS 8 0) (vS 9 0)) (some (.int Rz)) := by
  refine JM.of (own := RX2) (tb := T_X2_pupilsOf) (by decide) (Nat.le_of_ble_eq_true rfl) D_X2_pupilsOf rfl (fun X C => ?_)
  refine J_sub (lv' := [(0, .ref (aS 0)), (1, .int x1)]) [0, 1] rfl ?_
  have B4 : ∀ (x1_4 : Int32) (n4 : Nat) (x2_4 : Int32) (x3_4 : Int32), f_X2_pupilsOf_L4 vS x1_4 n4 x2_4 x3_4 = some Rz → J l { frames := 2, cells := 0, slots := 0, locals := 43 } G 4 X (QM X G 0 0 (some (.int Rz)) (wSch G aS (vS 0) (vS 1) (vS 2) (vS 3) (vS 4) (vS 5) (vS 6) (vS 7) (vS 8 0) (vS 9 0))) 0 0 4 [(0, .ref (aS 0)), (1, .int x1_4), (2, .int x2_4), (3, .int x3_4)] [] (wSch G aS (vS 0) (vS 1) (vS 2) (vS 3) (vS 4) (vS 5) (vS 6) (vS 7) (vS 8 0) (vS 9 0)) := by
    intro x1_4 n4
    induction n4 with
    | zero =>
      intro x2_4 x3_4 h
      exact (no_none rfl h).elim
    | succ n4 ih4 =>
      intro x2_4 x3_4 h
      replace h : f_X2_pupilsOf_b4 vS x1_4 (fun x2_4 x3_4 => f_X2_pupilsOf_L4 vS x1_4 n4 x2_4 x3_4) x2_4 x3_4 = some Rz := h
      unfold f_X2_pupilsOf_b4 at h
      refine J_iload_n (pc := 4) C 4 rfl 3 rfl rfl ?_
      refine J_aload_n (pc := 5) C 5 rfl 0 rfl rfl ?_
      refine J_get (pc := 6) (v := .int (vS 8 0)) C 6 rfl TB_l2 rfl 0 8 rfl (by decide) k14 rfl rfl ?_
      refine J_icmp_ge (pc := 9) (tgt := 33) C 7 rfl rfl (fun c1 => ?_) (fun c1 => ?_)
      · rw [if_pos c1] at h
        refine J_iload_n (pc := 33) C 21 rfl 2 rfl rfl ?_
        cases h
        exact J_iret (pc := 34) C 22 rfl
      · rw [if_neg c1] at h
        refine J_aload_n (pc := 12) C 8 rfl 0 rfl rfl ?_
        refine J_iload_n (pc := 13) C 9 rfl 3 rfl rfl ?_
        refine J_iload_n (pc := 14) C 10 rfl 1 rfl rfl ?_
        obtain ⟨q2, hq2, h⟩ := bnd h
        refine J_callV (pc := 15) (st2 := []) (st3 := [.int q2]) (ws2 := (wSch G aS (vS 0) (vS 1) (vS 2) (vS 3) (vS 4) (vS 5) (vS 6) (vS 7) (vS 8 0) (vS 9 0))) C 11 rfl (c_X2_sits aS vS x3_4 x1_4 hq2) V_X2_sits k79 i_X2_sits s_X2_sits rfl rfl ⟨Nat.le_of_ble_eq_true rfl, Nat.le_of_ble_eq_true rfl⟩ (Nat.le_of_ble_eq_true rfl) ⟨Nat.le_refl _, Nat.le_refl _⟩ 0 2 rfl rfl rfl (isC := [0, 1, 2, 3, 4, 5, 6, 7, 8]) (isR := []) (N := 9) ⟨rfl, by decide +kernel, rfl, by decide +kernel, rfl, trivial⟩ rfl ?_
        refine J_if_eq (pc := 18) (tgt := 27) C 12 rfl rfl (fun c3 => ?_) (fun c3 => ?_)
        · rw [if_pos c3] at h
          refine J_iinc (pc := 27) (v := (x3_4 + (1 : Int32))) (lv' := [(3, .int (x3_4 + (1 : Int32))), (0, .ref (aS 0)), (1, .int x1_4), (2, .int x2_4)]) C 19 rfl 3 rfl rfl (by decide) rfl ?_
          refine J_goto (pc := 30) (tgt := 4) C 20 rfl rfl ?_
          exact J_sub [1, 2, 3, 0] rfl (ih4 x2_4 (x3_4 + (1 : Int32)) h)
        · rw [if_neg c3] at h
          refine J_iload_n (pc := 21) C 13 rfl 2 rfl rfl ?_
          refine J_iconst (pc := 22) (v := (1 : Int32)) C 14 rfl rfl ?_
          refine J_iload_n (pc := 23) C 15 rfl 3 rfl rfl ?_
          refine J_ishl (pc := 24) C 16 rfl  ?_
          refine J_ior (pc := 25) C 17 rfl  ?_
          refine J_istore_n (pc := 26) (lv' := [(2, .int (x2_4 ||| ((1 : Int32) <<< (x3_4 &&& 31)))), (0, .ref (aS 0)), (1, .int x1_4), (3, .int x3_4)]) C 18 rfl rfl (by decide) rfl ?_
          refine J_iinc (pc := 27) (v := (x3_4 + (1 : Int32))) (lv' := [(3, .int (x3_4 + (1 : Int32))), (2, .int (x2_4 ||| ((1 : Int32) <<< (x3_4 &&& 31)))), (0, .ref (aS 0)), (1, .int x1_4)]) C 19 rfl 3 rfl rfl (by decide) rfl ?_
          refine J_goto (pc := 30) (tgt := 4) C 20 rfl rfl ?_
          exact J_sub [2, 3, 1, 0] rfl (ih4 (x2_4 ||| ((1 : Int32) <<< (x3_4 &&& 31))) (x3_4 + (1 : Int32)) h)
  unfold f_X2_pupilsOf at h
  refine J_iconst (pc := 0) (v := (0 : Int32)) C 0 rfl rfl ?_
  refine J_istore_n (pc := 1) (lv' := [(2, .int (0 : Int32)), (0, .ref (aS 0)), (1, .int x1)]) C 1 rfl rfl (by decide) rfl ?_
  refine J_iconst (pc := 2) (v := (0 : Int32)) C 2 rfl rfl ?_
  refine J_istore_n (pc := 3) (lv' := [(3, .int (0 : Int32)), (2, .int (0 : Int32)), (0, .ref (aS 0)), (1, .int x1)]) C 3 rfl rfl (by decide) rfl ?_
  exact J_sub [2, 3, 1, 0] rfl (B4 x1 FU (0 : Int32) (0 : Int32) h)
def T_X2_clashingPapers : List (Nat × ClassFile.Instr × Nat) := [(0, .iconst 0, 1), (1, .istore_n 3, 1), (2, .iconst 0, 1), (3, .istore 4, 2), (5, .iload 4, 2), (7, .bipush 6, 2), (9, .if_icmp .ge 62, 3), (12, .iload 4, 2), (14, .iload_n 2, 1), (15, .if_icmp .eq 50, 3), (18, .aload_n 0, 1), (19, .iload_n 1, 1), (20, .iload 4, 2), (22, .invokevirtual 68, 3), (25, .ifCond .eq 40, 3), (28, .aload_n 0, 1), (29, .iload_n 1, 1), (30, .iload_n 2, 1), (31, .invokevirtual 60, 3), (34, .aload_n 0, 1), (35, .iload 4, 2), (37, .invokevirtual 52, 3), (40, .if_icmp .le 25, 3), (43, .aload_n 0, 1), (44, .iload_n 1, 1), (45, .iload 4, 2), (47, .invokevirtual 60, 3), (50, .aload_n 0, 1), (51, .iload_n 2, 1), (52, .invokevirtual 52, 3), (55, .if_icmp .le 10, 3), (58, .iload_n 3, 1), (59, .iconst 1, 1), (60, .iload 4, 2), (62, .ishl, 1), (63, .ior, 1), (64, .istore_n 3, 1), (65, .iinc 4 1, 3), (68, .goto (-63), 3), (71, .iload_n 3, 1), (72, .ireturn, 1)]
theorem D_X2_clashingPapers : ∀ q ∈ T_X2_clashingPapers, decode cX2_clashingPapers q.1 = .ok q.2 := by decide +kernel
theorem V_X2_clashingPapers : Vy yX2_clashingPapers cX2_clashingPapers 5 (some .int) 2 := ⟨k83, k22, by decide +kernel⟩
theorem i_X2_clashingPapers : Cond.instanceMethod yX2_clashingPapers ∈ TB := k85
theorem s_X2_clashingPapers : Cond.selects yX2_clashingPapers.cls yX2_clashingPapers yX2_clashingPapers ∈ TB := k86
noncomputable def f_X2_clashingPapers_b5 (vS : JV) (x1_5 : Int32) (x2_5 : Int32) (r5 : Int32 → Int32 → Option (Int32)) (x3_5 : Int32) (x4_5 : Int32) : Option (Int32) :=
  (if (6 : Int32) ≤ x4_5 then some x3_5 else (if x4_5 = x2_5 then r5 x3_5 (x4_5 + (1 : Int32)) else (f_X2_sits vS x1_5 x4_5).bind (fun q3 => (if q3 = 0 then r5 x3_5 (x4_5 + (1 : Int32)) else (f_X2_endOf vS x1_5 x2_5).bind (fun q5 => (f_X2_beginOf vS x4_5).bind (fun q6 => (if q5 ≤ q6 then r5 x3_5 (x4_5 + (1 : Int32)) else (f_X2_endOf vS x1_5 x4_5).bind (fun q8 => (f_X2_beginOf vS x2_5).bind (fun q9 => (if q8 ≤ q9 then r5 x3_5 (x4_5 + (1 : Int32)) else r5 (x3_5 ||| ((1 : Int32) <<< (x4_5 &&& 31))) (x4_5 + (1 : Int32))))))))))))
noncomputable def f_X2_clashingPapers_L5 (vS : JV) (x1_5 : Int32) (x2_5 : Int32) (n : Nat) (x3_5 : Int32) (x4_5 : Int32) : Option (Int32) :=
  lp (fun (rec : Int32 × Int32 → Option (Int32)) a => f_X2_clashingPapers_b5 vS x1_5 x2_5 (fun x3_5 x4_5 => rec (x3_5, x4_5)) a.1 a.2) n (x3_5, x4_5)
noncomputable def f_X2_clashingPapers (vS : JV) (x1 : Int32) (x2 : Int32) : Option (Int32) :=
  f_X2_clashingPapers_L5 vS x1 x2 FU (0 : Int32) (0 : Int32)
set_option maxRecDepth 100000 in
set_option maxHeartbeats 4000000 in
theorem c_X2_clashingPapers {l : Launch} {G : JG} (aS : Nat → Nat) (vS : JV) (x1 : Int32) (x2 : Int32) {Rz : Int32} (h : f_X2_clashingPapers vS x1 x2 = some Rz) : JM l G yX2_clashingPapers cX2_clashingPapers 5 (some .int) 2 44 [.ref (aS 0), .int x1, .int x2] (wSch G aS (vS 0) (vS 1) (vS 2) (vS 3) (vS 4) (vS 5) (vS 6) (vS 7) (vS 8 0) (vS 9 0)) (wSch G aS (vS 0) (vS 1) (vS 2) (vS 3) (vS 4) (vS 5) (vS 6) (vS 7) (vS 8 0) (vS 9 0)) (some (.int Rz)) := by
  refine JM.of (own := RX2) (tb := T_X2_clashingPapers) (by decide) (Nat.le_of_ble_eq_true rfl) D_X2_clashingPapers rfl (fun X C => ?_)
  refine J_sub (lv' := [(0, .ref (aS 0)), (1, .int x1), (2, .int x2)]) [0, 1, 2] rfl ?_
  have B5 : ∀ (x1_5 : Int32) (x2_5 : Int32) (n5 : Nat) (x3_5 : Int32) (x4_5 : Int32), f_X2_clashingPapers_L5 vS x1_5 x2_5 n5 x3_5 x4_5 = some Rz → J l { frames := 2, cells := 0, slots := 0, locals := 44 } G 5 X (QM X G 0 0 (some (.int Rz)) (wSch G aS (vS 0) (vS 1) (vS 2) (vS 3) (vS 4) (vS 5) (vS 6) (vS 7) (vS 8 0) (vS 9 0))) 0 0 5 [(0, .ref (aS 0)), (1, .int x1_5), (2, .int x2_5), (3, .int x3_5), (4, .int x4_5)] [] (wSch G aS (vS 0) (vS 1) (vS 2) (vS 3) (vS 4) (vS 5) (vS 6) (vS 7) (vS 8 0) (vS 9 0)) := by
    intro x1_5 x2_5 n5
    induction n5 with
    | zero =>
      intro x3_5 x4_5 h
      exact (no_none rfl h).elim
    | succ n5 ih5 =>
      intro x3_5 x4_5 h
      replace h : f_X2_clashingPapers_b5 vS x1_5 x2_5 (fun x3_5 x4_5 => f_X2_clashingPapers_L5 vS x1_5 x2_5 n5 x3_5 x4_5) x3_5 x4_5 = some Rz := h
      unfold f_X2_clashingPapers_b5 at h
      refine J_iload (pc := 5) C 4 rfl 4 rfl ?_
      refine J_bipush (pc := 7) (v := (6 : Int32)) C 5 rfl rfl ?_
      refine J_icmp_ge (pc := 9) (tgt := 71) C 6 rfl rfl (fun c1 => ?_) (fun c1 => ?_)
      · rw [if_pos c1] at h
        refine J_iload_n (pc := 71) C 39 rfl 3 rfl rfl ?_
        cases h
        exact J_iret (pc := 72) C 40 rfl
      · rw [if_neg c1] at h
        refine J_iload (pc := 12) C 7 rfl 4 rfl ?_
        refine J_iload_n (pc := 14) C 8 rfl 2 rfl rfl ?_
        refine J_icmp_eq (pc := 15) (tgt := 65) C 9 rfl rfl (fun c2 => ?_) (fun c2 => ?_)
        · rw [if_pos c2] at h
          refine J_iinc (pc := 65) (v := (x4_5 + (1 : Int32))) (lv' := [(4, .int (x4_5 + (1 : Int32))), (0, .ref (aS 0)), (1, .int x1_5), (2, .int x2_5), (3, .int x3_5)]) C 37 rfl 4 rfl rfl (by decide) rfl ?_
          refine J_goto (pc := 68) (tgt := 5) C 38 rfl rfl ?_
          exact J_sub [1, 2, 3, 4, 0] rfl (ih5 x3_5 (x4_5 + (1 : Int32)) h)
        · rw [if_neg c2] at h
          refine J_aload_n (pc := 18) C 10 rfl 0 rfl rfl ?_
          refine J_iload_n (pc := 19) C 11 rfl 1 rfl rfl ?_
          refine J_iload (pc := 20) C 12 rfl 4 rfl ?_
          obtain ⟨q3, hq3, h⟩ := bnd h
          refine J_callV (pc := 22) (st2 := []) (st3 := [.int q3]) (ws2 := (wSch G aS (vS 0) (vS 1) (vS 2) (vS 3) (vS 4) (vS 5) (vS 6) (vS 7) (vS 8 0) (vS 9 0))) C 13 rfl (c_X2_sits aS vS x1_5 x4_5 hq3) V_X2_sits k79 i_X2_sits s_X2_sits rfl rfl ⟨Nat.le_of_ble_eq_true rfl, Nat.le_of_ble_eq_true rfl⟩ (Nat.le_of_ble_eq_true rfl) ⟨Nat.le_refl _, Nat.le_refl _⟩ 0 2 rfl rfl rfl (isC := [0, 1, 2, 3, 4, 5, 6, 7, 8]) (isR := []) (N := 9) ⟨rfl, by decide +kernel, rfl, by decide +kernel, rfl, trivial⟩ rfl ?_
          refine J_if_eq (pc := 25) (tgt := 65) C 14 rfl rfl (fun c4 => ?_) (fun c4 => ?_)
          · rw [if_pos c4] at h
            refine J_iinc (pc := 65) (v := (x4_5 + (1 : Int32))) (lv' := [(4, .int (x4_5 + (1 : Int32))), (0, .ref (aS 0)), (1, .int x1_5), (2, .int x2_5), (3, .int x3_5)]) C 37 rfl 4 rfl rfl (by decide) rfl ?_
            refine J_goto (pc := 68) (tgt := 5) C 38 rfl rfl ?_
            exact J_sub [1, 2, 3, 4, 0] rfl (ih5 x3_5 (x4_5 + (1 : Int32)) h)
          · rw [if_neg c4] at h
            refine J_aload_n (pc := 28) C 15 rfl 0 rfl rfl ?_
            refine J_iload_n (pc := 29) C 16 rfl 1 rfl rfl ?_
            refine J_iload_n (pc := 30) C 17 rfl 2 rfl rfl ?_
            obtain ⟨q5, hq5, h⟩ := bnd h
            refine J_callV (pc := 31) (st2 := []) (st3 := [.int q5]) (ws2 := (wSch G aS (vS 0) (vS 1) (vS 2) (vS 3) (vS 4) (vS 5) (vS 6) (vS 7) (vS 8 0) (vS 9 0))) C 18 rfl (c_X2_endOf aS vS x1_5 x2_5 hq5) V_X2_endOf k67 i_X2_endOf s_X2_endOf rfl rfl ⟨Nat.le_of_ble_eq_true rfl, Nat.le_of_ble_eq_true rfl⟩ (Nat.le_of_ble_eq_true rfl) ⟨Nat.le_refl _, Nat.le_refl _⟩ 0 2 rfl rfl rfl (isC := [0, 1, 2, 3, 4, 5, 6, 7, 8]) (isR := []) (N := 9) ⟨rfl, by decide +kernel, rfl, by decide +kernel, rfl, trivial⟩ rfl ?_
            refine J_aload_n (pc := 34) C 19 rfl 0 rfl rfl ?_
            refine J_iload (pc := 35) C 20 rfl 4 rfl ?_
            obtain ⟨q6, hq6, h⟩ := bnd h
            refine J_callV (pc := 37) (st2 := [.int q5]) (st3 := [.int q6, .int q5]) (ws2 := (wSch G aS (vS 0) (vS 1) (vS 2) (vS 3) (vS 4) (vS 5) (vS 6) (vS 7) (vS 8 0) (vS 9 0))) C 21 rfl (c_X2_beginOf aS vS x4_5 hq6) V_X2_beginOf k60 i_X2_beginOf s_X2_beginOf rfl rfl ⟨Nat.le_of_ble_eq_true rfl, Nat.le_of_ble_eq_true rfl⟩ (Nat.le_of_ble_eq_true rfl) ⟨Nat.le_refl _, Nat.le_refl _⟩ 0 2 rfl rfl rfl (isC := [0, 1, 2, 3, 4, 5, 6, 7, 8]) (isR := []) (N := 9) ⟨rfl, by decide +kernel, rfl, by decide +kernel, rfl, trivial⟩ rfl ?_
            refine J_icmp_le (pc := 40) (tgt := 65) C 22 rfl rfl (fun c7 => ?_) (fun c7 => ?_)
            · rw [if_pos c7] at h
              refine J_iinc (pc := 65) (v := (x4_5 + (1 : Int32))) (lv' := [(4, .int (x4_5 + (1 : Int32))), (0, .ref (aS 0)), (1, .int x1_5), (2, .int x2_5), (3, .int x3_5)]) C 37 rfl 4 rfl rfl (by decide) rfl ?_
              refine J_goto (pc := 68) (tgt := 5) C 38 rfl rfl ?_
              exact J_sub [1, 2, 3, 4, 0] rfl (ih5 x3_5 (x4_5 + (1 : Int32)) h)
            · rw [if_neg c7] at h
              refine J_aload_n (pc := 43) C 23 rfl 0 rfl rfl ?_
              refine J_iload_n (pc := 44) C 24 rfl 1 rfl rfl ?_
              refine J_iload (pc := 45) C 25 rfl 4 rfl ?_
              obtain ⟨q8, hq8, h⟩ := bnd h
              refine J_callV (pc := 47) (st2 := []) (st3 := [.int q8]) (ws2 := (wSch G aS (vS 0) (vS 1) (vS 2) (vS 3) (vS 4) (vS 5) (vS 6) (vS 7) (vS 8 0) (vS 9 0))) C 26 rfl (c_X2_endOf aS vS x1_5 x4_5 hq8) V_X2_endOf k67 i_X2_endOf s_X2_endOf rfl rfl ⟨Nat.le_of_ble_eq_true rfl, Nat.le_of_ble_eq_true rfl⟩ (Nat.le_of_ble_eq_true rfl) ⟨Nat.le_refl _, Nat.le_refl _⟩ 0 2 rfl rfl rfl (isC := [0, 1, 2, 3, 4, 5, 6, 7, 8]) (isR := []) (N := 9) ⟨rfl, by decide +kernel, rfl, by decide +kernel, rfl, trivial⟩ rfl ?_
              refine J_aload_n (pc := 50) C 27 rfl 0 rfl rfl ?_
              refine J_iload_n (pc := 51) C 28 rfl 2 rfl rfl ?_
              obtain ⟨q9, hq9, h⟩ := bnd h
              refine J_callV (pc := 52) (st2 := [.int q8]) (st3 := [.int q9, .int q8]) (ws2 := (wSch G aS (vS 0) (vS 1) (vS 2) (vS 3) (vS 4) (vS 5) (vS 6) (vS 7) (vS 8 0) (vS 9 0))) C 29 rfl (c_X2_beginOf aS vS x2_5 hq9) V_X2_beginOf k60 i_X2_beginOf s_X2_beginOf rfl rfl ⟨Nat.le_of_ble_eq_true rfl, Nat.le_of_ble_eq_true rfl⟩ (Nat.le_of_ble_eq_true rfl) ⟨Nat.le_refl _, Nat.le_refl _⟩ 0 2 rfl rfl rfl (isC := [0, 1, 2, 3, 4, 5, 6, 7, 8]) (isR := []) (N := 9) ⟨rfl, by decide +kernel, rfl, by decide +kernel, rfl, trivial⟩ rfl ?_
              refine J_icmp_le (pc := 55) (tgt := 65) C 30 rfl rfl (fun c10 => ?_) (fun c10 => ?_)
              · rw [if_pos c10] at h
                refine J_iinc (pc := 65) (v := (x4_5 + (1 : Int32))) (lv' := [(4, .int (x4_5 + (1 : Int32))), (0, .ref (aS 0)), (1, .int x1_5), (2, .int x2_5), (3, .int x3_5)]) C 37 rfl 4 rfl rfl (by decide) rfl ?_
                refine J_goto (pc := 68) (tgt := 5) C 38 rfl rfl ?_
                exact J_sub [1, 2, 3, 4, 0] rfl (ih5 x3_5 (x4_5 + (1 : Int32)) h)
              · rw [if_neg c10] at h
                refine J_iload_n (pc := 58) C 31 rfl 3 rfl rfl ?_
                refine J_iconst (pc := 59) (v := (1 : Int32)) C 32 rfl rfl ?_
                refine J_iload (pc := 60) C 33 rfl 4 rfl ?_
                refine J_ishl (pc := 62) C 34 rfl  ?_
                refine J_ior (pc := 63) C 35 rfl  ?_
                refine J_istore_n (pc := 64) (lv' := [(3, .int (x3_5 ||| ((1 : Int32) <<< (x4_5 &&& 31)))), (0, .ref (aS 0)), (1, .int x1_5), (2, .int x2_5), (4, .int x4_5)]) C 36 rfl rfl (by decide) rfl ?_
                refine J_iinc (pc := 65) (v := (x4_5 + (1 : Int32))) (lv' := [(4, .int (x4_5 + (1 : Int32))), (3, .int (x3_5 ||| ((1 : Int32) <<< (x4_5 &&& 31)))), (0, .ref (aS 0)), (1, .int x1_5), (2, .int x2_5)]) C 37 rfl 4 rfl rfl (by decide) rfl ?_
                refine J_goto (pc := 68) (tgt := 5) C 38 rfl rfl ?_
                exact J_sub [2, 3, 4, 1, 0] rfl (ih5 (x3_5 ||| ((1 : Int32) <<< (x4_5 &&& 31))) (x4_5 + (1 : Int32)) h)
  unfold f_X2_clashingPapers at h
  refine J_iconst (pc := 0) (v := (0 : Int32)) C 0 rfl rfl ?_
  refine J_istore_n (pc := 1) (lv' := [(3, .int (0 : Int32)), (0, .ref (aS 0)), (1, .int x1), (2, .int x2)]) C 1 rfl rfl (by decide) rfl ?_
  refine J_iconst (pc := 2) (v := (0 : Int32)) C 2 rfl rfl ?_
  refine J_istore (pc := 3) (lv' := [(4, .int (0 : Int32)), (3, .int (0 : Int32)), (0, .ref (aS 0)), (1, .int x1), (2, .int x2)]) C 3 rfl (by decide) rfl ?_
  exact J_sub [2, 3, 4, 1, 0] rfl (B5 x1 x2 FU (0 : Int32) (0 : Int32) h)
def T_X2_clashesOf : List (Nat × ClassFile.Instr × Nat) := [(0, .iconst 0, 1), (1, .istore_n 2, 1), (2, .iconst 0, 1), (3, .istore_n 3, 1), (4, .iload_n 3, 1), (5, .bipush 6, 2), (7, .if_icmp .ge 30, 3), (10, .aload_n 0, 1), (11, .iload_n 1, 1), (12, .iload_n 3, 1), (13, .invokevirtual 68, 3), (16, .ifCond .eq 15, 3), (19, .iload_n 2, 1), (20, .aload_n 0, 1), (21, .iload_n 1, 1), (22, .iload_n 3, 1), (23, .invokevirtual 71, 3), (26, .invokestatic 63, 3), (29, .iadd, 1), (30, .istore_n 2, 1), (31, .iinc 3 1, 3), (34, .goto (-30), 3), (37, .iload_n 2, 1), (38, .iconst 2, 1), (39, .idiv, 1), (40, .ireturn, 1)]
theorem D_X2_clashesOf : ∀ q ∈ T_X2_clashesOf, decode cX2_clashesOf q.1 = .ok q.2 := by decide +kernel
theorem V_X2_clashesOf : Vy yX2_clashesOf cX2_clashesOf 4 (some .int) 1 := ⟨k87, k22, by decide +kernel⟩
theorem i_X2_clashesOf : Cond.instanceMethod yX2_clashesOf ∈ TB := k89
theorem s_X2_clashesOf : Cond.selects yX2_clashesOf.cls yX2_clashesOf yX2_clashesOf ∈ TB := k90
noncomputable def f_X2_clashesOf_b4 (vS : JV) (x1_4 : Int32) (r4 : Int32 → Int32 → Option (Int32)) (x2_4 : Int32) (x3_4 : Int32) : Option (Int32) :=
  (if (6 : Int32) ≤ x3_4 then some (x2_4 / (2 : Int32)) else (f_X2_sits vS x1_4 x3_4).bind (fun q2 => (if q2 = 0 then r4 x2_4 (x3_4 + (1 : Int32)) else (f_X2_clashingPapers vS x1_4 x3_4).bind (fun q4 => (f_J6_bitCount_0f7a4 q4).bind (fun q5 => r4 (x2_4 + q5) (x3_4 + (1 : Int32)))))))
noncomputable def f_X2_clashesOf_L4 (vS : JV) (x1_4 : Int32) (n : Nat) (x2_4 : Int32) (x3_4 : Int32) : Option (Int32) :=
  lp (fun (rec : Int32 × Int32 → Option (Int32)) a => f_X2_clashesOf_b4 vS x1_4 (fun x2_4 x3_4 => rec (x2_4, x3_4)) a.1 a.2) n (x2_4, x3_4)
noncomputable def f_X2_clashesOf (vS : JV) (x1 : Int32) : Option (Int32) :=
  f_X2_clashesOf_L4 vS x1 FU (0 : Int32) (0 : Int32)
set_option maxRecDepth 100000 in
set_option maxHeartbeats 4000000 in
theorem c_X2_clashesOf {l : Launch} {G : JG} (aS : Nat → Nat) (vS : JV) (x1 : Int32) {Rz : Int32} (h : f_X2_clashesOf vS x1 = some Rz) : JM l G yX2_clashesOf cX2_clashesOf 4 (some .int) 3 68 [.ref (aS 0), .int x1] (wSch G aS (vS 0) (vS 1) (vS 2) (vS 3) (vS 4) (vS 5) (vS 6) (vS 7) (vS 8 0) (vS 9 0)) (wSch G aS (vS 0) (vS 1) (vS 2) (vS 3) (vS 4) (vS 5) (vS 6) (vS 7) (vS 8 0) (vS 9 0)) (some (.int Rz)) := by
  refine JM.of (own := RX2) (tb := T_X2_clashesOf) (by decide) (Nat.le_of_ble_eq_true rfl) D_X2_clashesOf rfl (fun X C => ?_)
  refine J_sub (lv' := [(0, .ref (aS 0)), (1, .int x1)]) [0, 1] rfl ?_
  have B4 : ∀ (x1_4 : Int32) (n4 : Nat) (x2_4 : Int32) (x3_4 : Int32), f_X2_clashesOf_L4 vS x1_4 n4 x2_4 x3_4 = some Rz → J l { frames := 3, cells := 0, slots := 0, locals := 68 } G 4 X (QM X G 0 0 (some (.int Rz)) (wSch G aS (vS 0) (vS 1) (vS 2) (vS 3) (vS 4) (vS 5) (vS 6) (vS 7) (vS 8 0) (vS 9 0))) 0 0 4 [(0, .ref (aS 0)), (1, .int x1_4), (2, .int x2_4), (3, .int x3_4)] [] (wSch G aS (vS 0) (vS 1) (vS 2) (vS 3) (vS 4) (vS 5) (vS 6) (vS 7) (vS 8 0) (vS 9 0)) := by
    intro x1_4 n4
    induction n4 with
    | zero =>
      intro x2_4 x3_4 h
      exact (no_none rfl h).elim
    | succ n4 ih4 =>
      intro x2_4 x3_4 h
      replace h : f_X2_clashesOf_b4 vS x1_4 (fun x2_4 x3_4 => f_X2_clashesOf_L4 vS x1_4 n4 x2_4 x3_4) x2_4 x3_4 = some Rz := h
      unfold f_X2_clashesOf_b4 at h
      refine J_iload_n (pc := 4) C 4 rfl 3 rfl rfl ?_
      refine J_bipush (pc := 5) (v := (6 : Int32)) C 5 rfl rfl ?_
      refine J_icmp_ge (pc := 7) (tgt := 37) C 6 rfl rfl (fun c1 => ?_) (fun c1 => ?_)
      · rw [if_pos c1] at h
        refine J_iload_n (pc := 37) C 22 rfl 2 rfl rfl ?_
        refine J_iconst (pc := 38) (v := (2 : Int32)) C 23 rfl rfl ?_
        refine J_idiv (pc := 39) C 24 rfl (by decide) ?_
        cases h
        exact J_iret (pc := 40) C 25 rfl
      · rw [if_neg c1] at h
        refine J_aload_n (pc := 10) C 7 rfl 0 rfl rfl ?_
        refine J_iload_n (pc := 11) C 8 rfl 1 rfl rfl ?_
        refine J_iload_n (pc := 12) C 9 rfl 3 rfl rfl ?_
        obtain ⟨q2, hq2, h⟩ := bnd h
        refine J_callV (pc := 13) (st2 := []) (st3 := [.int q2]) (ws2 := (wSch G aS (vS 0) (vS 1) (vS 2) (vS 3) (vS 4) (vS 5) (vS 6) (vS 7) (vS 8 0) (vS 9 0))) C 10 rfl (c_X2_sits aS vS x1_4 x3_4 hq2) V_X2_sits k79 i_X2_sits s_X2_sits rfl rfl ⟨Nat.le_of_ble_eq_true rfl, Nat.le_of_ble_eq_true rfl⟩ (Nat.le_of_ble_eq_true rfl) ⟨Nat.le_refl _, Nat.le_refl _⟩ 0 2 rfl rfl rfl (isC := [0, 1, 2, 3, 4, 5, 6, 7, 8]) (isR := []) (N := 9) ⟨rfl, by decide +kernel, rfl, by decide +kernel, rfl, trivial⟩ rfl ?_
        refine J_if_eq (pc := 16) (tgt := 31) C 11 rfl rfl (fun c3 => ?_) (fun c3 => ?_)
        · rw [if_pos c3] at h
          refine J_iinc (pc := 31) (v := (x3_4 + (1 : Int32))) (lv' := [(3, .int (x3_4 + (1 : Int32))), (0, .ref (aS 0)), (1, .int x1_4), (2, .int x2_4)]) C 20 rfl 3 rfl rfl (by decide) rfl ?_
          refine J_goto (pc := 34) (tgt := 4) C 21 rfl rfl ?_
          exact J_sub [1, 2, 3, 0] rfl (ih4 x2_4 (x3_4 + (1 : Int32)) h)
        · rw [if_neg c3] at h
          refine J_iload_n (pc := 19) C 12 rfl 2 rfl rfl ?_
          refine J_aload_n (pc := 20) C 13 rfl 0 rfl rfl ?_
          refine J_iload_n (pc := 21) C 14 rfl 1 rfl rfl ?_
          refine J_iload_n (pc := 22) C 15 rfl 3 rfl rfl ?_
          obtain ⟨q4, hq4, h⟩ := bnd h
          refine J_callV (pc := 23) (st2 := [.int x2_4]) (st3 := [.int q4, .int x2_4]) (ws2 := (wSch G aS (vS 0) (vS 1) (vS 2) (vS 3) (vS 4) (vS 5) (vS 6) (vS 7) (vS 8 0) (vS 9 0))) C 16 rfl (c_X2_clashingPapers aS vS x1_4 x3_4 hq4) V_X2_clashingPapers k84 i_X2_clashingPapers s_X2_clashingPapers rfl rfl ⟨Nat.le_of_ble_eq_true rfl, Nat.le_of_ble_eq_true rfl⟩ (Nat.le_of_ble_eq_true rfl) ⟨Nat.le_refl _, Nat.le_refl _⟩ 0 2 rfl rfl rfl (isC := [0, 1, 2, 3, 4, 5, 6, 7, 8]) (isR := []) (N := 9) ⟨rfl, by decide +kernel, rfl, by decide +kernel, rfl, trivial⟩ rfl ?_
          obtain ⟨q5, hq5, h⟩ := bnd h
          refine J_callS (pc := 26) (st2 := [.int x2_4]) (st3 := [.int q5, .int x2_4]) (ws2 := (wSch G aS (vS 0) (vS 1) (vS 2) (vS 3) (vS 4) (vS 5) (vS 6) (vS 7) (vS 8 0) (vS 9 0))) C 17 rfl (c_J6_bitCount_0f7a4 q4 hq5) V_J6_bitCount_0f7a4 k75 t_J6_bitCount_0f7a4 rfl rfl ⟨Nat.le_of_ble_eq_true rfl, Nat.le_of_ble_eq_true rfl⟩ (Nat.le_of_ble_eq_true rfl) ⟨Nat.le_refl _, Nat.le_refl _⟩ (isC := []) (isR := [0, 1, 2, 3, 4, 5, 6, 7, 8]) (N := 9) ⟨rfl, by decide +kernel, rfl, by decide +kernel, rfl, ⟨⟨_, rfl, rfl⟩, ⟨⟨_, rfl, rfl⟩, ⟨⟨_, rfl, rfl⟩, ⟨⟨_, rfl, rfl⟩, ⟨⟨_, rfl, rfl⟩, ⟨⟨_, rfl, rfl⟩, ⟨⟨_, rfl, rfl⟩, ⟨⟨_, rfl, rfl⟩, ⟨⟨_, rfl, rfl⟩, trivial⟩⟩⟩⟩⟩⟩⟩⟩⟩⟩ rfl ?_
          refine J_iadd (pc := 29) C 18 rfl  ?_
          refine J_istore_n (pc := 30) (lv' := [(2, .int (x2_4 + q5)), (0, .ref (aS 0)), (1, .int x1_4), (3, .int x3_4)]) C 19 rfl rfl (by decide) rfl ?_
          refine J_iinc (pc := 31) (v := (x3_4 + (1 : Int32))) (lv' := [(3, .int (x3_4 + (1 : Int32))), (2, .int (x2_4 + q5)), (0, .ref (aS 0)), (1, .int x1_4)]) C 20 rfl 3 rfl rfl (by decide) rfl ?_
          refine J_goto (pc := 34) (tgt := 4) C 21 rfl rfl ?_
          exact J_sub [2, 3, 1, 0] rfl (ih4 (x2_4 + q5) (x3_4 + (1 : Int32)) h)
  unfold f_X2_clashesOf at h
  refine J_iconst (pc := 0) (v := (0 : Int32)) C 0 rfl rfl ?_
  refine J_istore_n (pc := 1) (lv' := [(2, .int (0 : Int32)), (0, .ref (aS 0)), (1, .int x1)]) C 1 rfl rfl (by decide) rfl ?_
  refine J_iconst (pc := 2) (v := (0 : Int32)) C 2 rfl rfl ?_
  refine J_istore_n (pc := 3) (lv' := [(3, .int (0 : Int32)), (2, .int (0 : Int32)), (0, .ref (aS 0)), (1, .int x1)]) C 3 rfl rfl (by decide) rfl ?_
  exact J_sub [2, 3, 1, 0] rfl (B4 x1 FU (0 : Int32) (0 : Int32) h)
def T_X2_clashes : List (Nat × ClassFile.Instr × Nat) := [(0, .iconst 0, 1), (1, .istore_n 1, 1), (2, .iconst 0, 1), (3, .istore_n 2, 1), (4, .iload_n 2, 1), (5, .aload_n 0, 1), (6, .getfield 37, 3), (9, .if_icmp .ge 17, 3), (12, .iload_n 1, 1), (13, .aload_n 0, 1), (14, .iload_n 2, 1), (15, .invokevirtual 74, 3), (18, .iadd, 1), (19, .istore_n 1, 1), (20, .iinc 2 1, 3), (23, .goto (-19), 3), (26, .iload_n 1, 1), (27, .ireturn, 1)]
theorem D_X2_clashes : ∀ q ∈ T_X2_clashes, decode cX2_clashes q.1 = .ok q.2 := by decide +kernel
theorem V_X2_clashes : Vy yX2_clashes cX2_clashes 3 (some .int) 0 := ⟨k91, k22, by decide +kernel⟩
theorem i_X2_clashes : Cond.instanceMethod yX2_clashes ∈ TB := k309
theorem s_X2_clashes : Cond.selects yX2_clashes.cls yX2_clashes yX2_clashes ∈ TB := k310
noncomputable def f_X2_clashes_b4 (vS : JV) (r4 : Int32 → Int32 → Option (Int32)) (x1_4 : Int32) (x2_4 : Int32) : Option (Int32) :=
  (if (vS 8 0) ≤ x2_4 then some x1_4 else (f_X2_clashesOf vS x2_4).bind (fun q2 => r4 (x1_4 + q2) (x2_4 + (1 : Int32))))
noncomputable def f_X2_clashes_L4 (vS : JV) (n : Nat) (x1_4 : Int32) (x2_4 : Int32) : Option (Int32) :=
  lp (fun (rec : Int32 × Int32 → Option (Int32)) a => f_X2_clashes_b4 vS (fun x1_4 x2_4 => rec (x1_4, x2_4)) a.1 a.2) n (x1_4, x2_4)
noncomputable def f_X2_clashes (vS : JV)  : Option (Int32) :=
  f_X2_clashes_L4 vS  FU (0 : Int32) (0 : Int32)
set_option maxRecDepth 100000 in
set_option maxHeartbeats 4000000 in
theorem c_X2_clashes {l : Launch} {G : JG} (aS : Nat → Nat) (vS : JV)  {Rz : Int32} (h : f_X2_clashes vS = some Rz) : JM l G yX2_clashes cX2_clashes 3 (some .int) 4 91 [.ref (aS 0)] (wSch G aS (vS 0) (vS 1) (vS 2) (vS 3) (vS 4) (vS 5) (vS 6) (vS 7) (vS 8 0) (vS 9 0)) (wSch G aS (vS 0) (vS 1) (vS 2) (vS 3) (vS 4) (vS 5) (vS 6) (vS 7) (vS 8 0) (vS 9 0)) (some (.int Rz)) := by
  refine JM.of (own := RX2) (tb := T_X2_clashes) (by decide) (Nat.le_of_ble_eq_true rfl) D_X2_clashes rfl (fun X C => ?_)
  refine J_sub (lv' := [(0, .ref (aS 0))]) [0] rfl ?_
  have B4 : ∀ (n4 : Nat) (x1_4 : Int32) (x2_4 : Int32), f_X2_clashes_L4 vS n4 x1_4 x2_4 = some Rz → J l { frames := 4, cells := 0, slots := 0, locals := 91 } G 3 X (QM X G 0 0 (some (.int Rz)) (wSch G aS (vS 0) (vS 1) (vS 2) (vS 3) (vS 4) (vS 5) (vS 6) (vS 7) (vS 8 0) (vS 9 0))) 0 0 4 [(0, .ref (aS 0)), (1, .int x1_4), (2, .int x2_4)] [] (wSch G aS (vS 0) (vS 1) (vS 2) (vS 3) (vS 4) (vS 5) (vS 6) (vS 7) (vS 8 0) (vS 9 0)) := by
    intro  n4
    induction n4 with
    | zero =>
      intro x1_4 x2_4 h
      exact (no_none rfl h).elim
    | succ n4 ih4 =>
      intro x1_4 x2_4 h
      replace h : f_X2_clashes_b4 vS (fun x1_4 x2_4 => f_X2_clashes_L4 vS n4 x1_4 x2_4) x1_4 x2_4 = some Rz := h
      unfold f_X2_clashes_b4 at h
      refine J_iload_n (pc := 4) C 4 rfl 2 rfl rfl ?_
      refine J_aload_n (pc := 5) C 5 rfl 0 rfl rfl ?_
      refine J_get (pc := 6) (v := .int (vS 8 0)) C 6 rfl TB_l2 rfl 0 8 rfl (by decide) k14 rfl rfl ?_
      refine J_icmp_ge (pc := 9) (tgt := 26) C 7 rfl rfl (fun c1 => ?_) (fun c1 => ?_)
      · rw [if_pos c1] at h
        refine J_iload_n (pc := 26) C 16 rfl 1 rfl rfl ?_
        cases h
        exact J_iret (pc := 27) C 17 rfl
      · rw [if_neg c1] at h
        refine J_iload_n (pc := 12) C 8 rfl 1 rfl rfl ?_
        refine J_aload_n (pc := 13) C 9 rfl 0 rfl rfl ?_
        refine J_iload_n (pc := 14) C 10 rfl 2 rfl rfl ?_
        obtain ⟨q2, hq2, h⟩ := bnd h
        refine J_callV (pc := 15) (st2 := [.int x1_4]) (st3 := [.int q2, .int x1_4]) (ws2 := (wSch G aS (vS 0) (vS 1) (vS 2) (vS 3) (vS 4) (vS 5) (vS 6) (vS 7) (vS 8 0) (vS 9 0))) C 11 rfl (c_X2_clashesOf aS vS x2_4 hq2) V_X2_clashesOf k88 i_X2_clashesOf s_X2_clashesOf rfl rfl ⟨Nat.le_of_ble_eq_true rfl, Nat.le_of_ble_eq_true rfl⟩ (Nat.le_of_ble_eq_true rfl) ⟨Nat.le_refl _, Nat.le_refl _⟩ 0 2 rfl rfl rfl (isC := [0, 1, 2, 3, 4, 5, 6, 7, 8]) (isR := []) (N := 9) ⟨rfl, by decide +kernel, rfl, by decide +kernel, rfl, trivial⟩ rfl ?_
        refine J_iadd (pc := 18) C 12 rfl  ?_
        refine J_istore_n (pc := 19) (lv' := [(1, .int (x1_4 + q2)), (0, .ref (aS 0)), (2, .int x2_4)]) C 13 rfl rfl (by decide) rfl ?_
        refine J_iinc (pc := 20) (v := (x2_4 + (1 : Int32))) (lv' := [(2, .int (x2_4 + (1 : Int32))), (1, .int (x1_4 + q2)), (0, .ref (aS 0))]) C 14 rfl 2 rfl rfl (by decide) rfl ?_
        refine J_goto (pc := 23) (tgt := 4) C 15 rfl rfl ?_
        exact J_sub [2, 1, 0] rfl (ih4 (x1_4 + q2) (x2_4 + (1 : Int32)) h)
  unfold f_X2_clashes at h
  refine J_iconst (pc := 0) (v := (0 : Int32)) C 0 rfl rfl ?_
  refine J_istore_n (pc := 1) (lv' := [(1, .int (0 : Int32)), (0, .ref (aS 0))]) C 1 rfl rfl (by decide) rfl ?_
  refine J_iconst (pc := 2) (v := (0 : Int32)) C 2 rfl rfl ?_
  refine J_istore_n (pc := 3) (lv' := [(2, .int (0 : Int32)), (1, .int (0 : Int32)), (0, .ref (aS 0))]) C 3 rfl rfl (by decide) rfl ?_
  exact J_sub [2, 1, 0] rfl (B4  FU (0 : Int32) (0 : Int32) h)
def T_X2_lastEndOf : List (Nat × ClassFile.Instr × Nat) := [(0, .bipush (-6), 2), (2, .istore_n 2, 1), (3, .iconst 0, 1), (4, .istore_n 3, 1), (5, .iload_n 3, 1), (6, .aload_n 0, 1), (7, .getfield 37, 3), (10, .if_icmp .ge 29, 3), (13, .aload_n 0, 1), (14, .iload_n 3, 1), (15, .iload_n 1, 1), (16, .invokevirtual 68, 3), (19, .ifCond .eq 14, 3), (22, .iload_n 2, 1), (23, .aload_n 0, 1), (24, .iload_n 3, 1), (25, .iload_n 1, 1), (26, .invokevirtual 60, 3), (29, .invokestatic 77, 3), (32, .istore_n 2, 1), (33, .iinc 3 1, 3), (36, .goto (-31), 3), (39, .iload_n 2, 1), (40, .ireturn, 1)]
theorem D_X2_lastEndOf : ∀ q ∈ T_X2_lastEndOf, decode cX2_lastEndOf q.1 = .ok q.2 := by decide +kernel
theorem V_X2_lastEndOf : Vy yX2_lastEndOf cX2_lastEndOf 4 (some .int) 1 := ⟨k96, k22, by decide +kernel⟩
theorem i_X2_lastEndOf : Cond.instanceMethod yX2_lastEndOf ∈ TB := k98
theorem s_X2_lastEndOf : Cond.selects yX2_lastEndOf.cls yX2_lastEndOf yX2_lastEndOf ∈ TB := k99
noncomputable def f_X2_lastEndOf_b5 (vS : JV) (x1_5 : Int32) (r5 : Int32 → Int32 → Option (Int32)) (x2_5 : Int32) (x3_5 : Int32) : Option (Int32) :=
  (if (vS 8 0) ≤ x3_5 then some x2_5 else (f_X2_sits vS x3_5 x1_5).bind (fun q2 => (if q2 = 0 then r5 x2_5 (x3_5 + (1 : Int32)) else (f_X2_endOf vS x3_5 x1_5).bind (fun q4 => r5 (mx x2_5 q4) (x3_5 + (1 : Int32))))))
noncomputable def f_X2_lastEndOf_L5 (vS : JV) (x1_5 : Int32) (n : Nat) (x2_5 : Int32) (x3_5 : Int32) : Option (Int32) :=
  lp (fun (rec : Int32 × Int32 → Option (Int32)) a => f_X2_lastEndOf_b5 vS x1_5 (fun x2_5 x3_5 => rec (x2_5, x3_5)) a.1 a.2) n (x2_5, x3_5)
noncomputable def f_X2_lastEndOf (vS : JV) (x1 : Int32) : Option (Int32) :=
  f_X2_lastEndOf_L5 vS x1 FU (-6 : Int32) (0 : Int32)
set_option maxRecDepth 100000 in
set_option maxHeartbeats 4000000 in
theorem c_X2_lastEndOf {l : Launch} {G : JG} (aS : Nat → Nat) (vS : JV) (x1 : Int32) {Rz : Int32} (h : f_X2_lastEndOf vS x1 = some Rz) : JM l G yX2_lastEndOf cX2_lastEndOf 4 (some .int) 2 44 [.ref (aS 0), .int x1] (wSch G aS (vS 0) (vS 1) (vS 2) (vS 3) (vS 4) (vS 5) (vS 6) (vS 7) (vS 8 0) (vS 9 0)) (wSch G aS (vS 0) (vS 1) (vS 2) (vS 3) (vS 4) (vS 5) (vS 6) (vS 7) (vS 8 0) (vS 9 0)) (some (.int Rz)) := by
  refine JM.of (own := RX2) (tb := T_X2_lastEndOf) (by decide) (Nat.le_of_ble_eq_true rfl) D_X2_lastEndOf rfl (fun X C => ?_)
  refine J_sub (lv' := [(0, .ref (aS 0)), (1, .int x1)]) [0, 1] rfl ?_
  have B5 : ∀ (x1_5 : Int32) (n5 : Nat) (x2_5 : Int32) (x3_5 : Int32), f_X2_lastEndOf_L5 vS x1_5 n5 x2_5 x3_5 = some Rz → J l { frames := 2, cells := 0, slots := 0, locals := 44 } G 4 X (QM X G 0 0 (some (.int Rz)) (wSch G aS (vS 0) (vS 1) (vS 2) (vS 3) (vS 4) (vS 5) (vS 6) (vS 7) (vS 8 0) (vS 9 0))) 0 0 5 [(0, .ref (aS 0)), (1, .int x1_5), (2, .int x2_5), (3, .int x3_5)] [] (wSch G aS (vS 0) (vS 1) (vS 2) (vS 3) (vS 4) (vS 5) (vS 6) (vS 7) (vS 8 0) (vS 9 0)) := by
    intro x1_5 n5
    induction n5 with
    | zero =>
      intro x2_5 x3_5 h
      exact (no_none rfl h).elim
    | succ n5 ih5 =>
      intro x2_5 x3_5 h
      replace h : f_X2_lastEndOf_b5 vS x1_5 (fun x2_5 x3_5 => f_X2_lastEndOf_L5 vS x1_5 n5 x2_5 x3_5) x2_5 x3_5 = some Rz := h
      unfold f_X2_lastEndOf_b5 at h
      refine J_iload_n (pc := 5) C 4 rfl 3 rfl rfl ?_
      refine J_aload_n (pc := 6) C 5 rfl 0 rfl rfl ?_
      refine J_get (pc := 7) (v := .int (vS 8 0)) C 6 rfl TB_l2 rfl 0 8 rfl (by decide) k14 rfl rfl ?_
      refine J_icmp_ge (pc := 10) (tgt := 39) C 7 rfl rfl (fun c1 => ?_) (fun c1 => ?_)
      · rw [if_pos c1] at h
        refine J_iload_n (pc := 39) C 22 rfl 2 rfl rfl ?_
        cases h
        exact J_iret (pc := 40) C 23 rfl
      · rw [if_neg c1] at h
        refine J_aload_n (pc := 13) C 8 rfl 0 rfl rfl ?_
        refine J_iload_n (pc := 14) C 9 rfl 3 rfl rfl ?_
        refine J_iload_n (pc := 15) C 10 rfl 1 rfl rfl ?_
        obtain ⟨q2, hq2, h⟩ := bnd h
        refine J_callV (pc := 16) (st2 := []) (st3 := [.int q2]) (ws2 := (wSch G aS (vS 0) (vS 1) (vS 2) (vS 3) (vS 4) (vS 5) (vS 6) (vS 7) (vS 8 0) (vS 9 0))) C 11 rfl (c_X2_sits aS vS x3_5 x1_5 hq2) V_X2_sits k79 i_X2_sits s_X2_sits rfl rfl ⟨Nat.le_of_ble_eq_true rfl, Nat.le_of_ble_eq_true rfl⟩ (Nat.le_of_ble_eq_true rfl) ⟨Nat.le_refl _, Nat.le_refl _⟩ 0 2 rfl rfl rfl (isC := [0, 1, 2, 3, 4, 5, 6, 7, 8]) (isR := []) (N := 9) ⟨rfl, by decide +kernel, rfl, by decide +kernel, rfl, trivial⟩ rfl ?_
        refine J_if_eq (pc := 19) (tgt := 33) C 12 rfl rfl (fun c3 => ?_) (fun c3 => ?_)
        · rw [if_pos c3] at h
          refine J_iinc (pc := 33) (v := (x3_5 + (1 : Int32))) (lv' := [(3, .int (x3_5 + (1 : Int32))), (0, .ref (aS 0)), (1, .int x1_5), (2, .int x2_5)]) C 20 rfl 3 rfl rfl (by decide) rfl ?_
          refine J_goto (pc := 36) (tgt := 5) C 21 rfl rfl ?_
          exact J_sub [1, 2, 3, 0] rfl (ih5 x2_5 (x3_5 + (1 : Int32)) h)
        · rw [if_neg c3] at h
          refine J_iload_n (pc := 22) C 13 rfl 2 rfl rfl ?_
          refine J_aload_n (pc := 23) C 14 rfl 0 rfl rfl ?_
          refine J_iload_n (pc := 24) C 15 rfl 3 rfl rfl ?_
          refine J_iload_n (pc := 25) C 16 rfl 1 rfl rfl ?_
          obtain ⟨q4, hq4, h⟩ := bnd h
          refine J_callV (pc := 26) (st2 := [.int x2_5]) (st3 := [.int q4, .int x2_5]) (ws2 := (wSch G aS (vS 0) (vS 1) (vS 2) (vS 3) (vS 4) (vS 5) (vS 6) (vS 7) (vS 8 0) (vS 9 0))) C 17 rfl (c_X2_endOf aS vS x3_5 x1_5 hq4) V_X2_endOf k67 i_X2_endOf s_X2_endOf rfl rfl ⟨Nat.le_of_ble_eq_true rfl, Nat.le_of_ble_eq_true rfl⟩ (Nat.le_of_ble_eq_true rfl) ⟨Nat.le_refl _, Nat.le_refl _⟩ 0 2 rfl rfl rfl (isC := [0, 1, 2, 3, 4, 5, 6, 7, 8]) (isR := []) (N := 9) ⟨rfl, by decide +kernel, rfl, by decide +kernel, rfl, trivial⟩ rfl ?_
          refine J_mmax (pc := 29) C 18 rfl k92 (by decide) (Nat.le_of_ble_eq_true rfl) (Nat.le_refl _) (Nat.le_refl _) ?_
          refine J_istore_n (pc := 32) (lv' := [(2, .int (mx x2_5 q4)), (0, .ref (aS 0)), (1, .int x1_5), (3, .int x3_5)]) C 19 rfl rfl (by decide) rfl ?_
          refine J_iinc (pc := 33) (v := (x3_5 + (1 : Int32))) (lv' := [(3, .int (x3_5 + (1 : Int32))), (2, .int (mx x2_5 q4)), (0, .ref (aS 0)), (1, .int x1_5)]) C 20 rfl 3 rfl rfl (by decide) rfl ?_
          refine J_goto (pc := 36) (tgt := 5) C 21 rfl rfl ?_
          exact J_sub [2, 3, 1, 0] rfl (ih5 (mx x2_5 q4) (x3_5 + (1 : Int32)) h)
  unfold f_X2_lastEndOf at h
  refine J_bipush (pc := 0) (v := (-6 : Int32)) C 0 rfl rfl ?_
  refine J_istore_n (pc := 2) (lv' := [(2, .int (-6 : Int32)), (0, .ref (aS 0)), (1, .int x1)]) C 1 rfl rfl (by decide) rfl ?_
  refine J_iconst (pc := 3) (v := (0 : Int32)) C 2 rfl rfl ?_
  refine J_istore_n (pc := 4) (lv' := [(3, .int (0 : Int32)), (2, .int (-6 : Int32)), (0, .ref (aS 0)), (1, .int x1)]) C 3 rfl rfl (by decide) rfl ?_
  exact J_sub [2, 3, 1, 0] rfl (B5 x1 FU (-6 : Int32) (0 : Int32) h)
def T_X2_lastEnd : List (Nat × ClassFile.Instr × Nat) := [(0, .iconst 0, 1), (1, .istore_n 1, 1), (2, .iconst 0, 1), (3, .istore_n 2, 1), (4, .iload_n 2, 1), (5, .bipush 6, 2), (7, .if_icmp .ge 19, 3), (10, .iload_n 1, 1), (11, .aload_n 0, 1), (12, .iload_n 2, 1), (13, .invokevirtual 82, 3), (16, .invokestatic 77, 3), (19, .istore_n 1, 1), (20, .iinc 2 1, 3), (23, .goto (-19), 3), (26, .iload_n 1, 1), (27, .ireturn, 1)]
theorem D_X2_lastEnd : ∀ q ∈ T_X2_lastEnd, decode cX2_lastEnd q.1 = .ok q.2 := by decide +kernel
theorem V_X2_lastEnd : Vy yX2_lastEnd cX2_lastEnd 3 (some .int) 0 := ⟨k100, k22, by decide +kernel⟩
theorem i_X2_lastEnd : Cond.instanceMethod yX2_lastEnd ∈ TB := k318
theorem s_X2_lastEnd : Cond.selects yX2_lastEnd.cls yX2_lastEnd yX2_lastEnd ∈ TB := k319
noncomputable def f_X2_lastEnd_b4 (vS : JV) (r4 : Int32 → Int32 → Option (Int32)) (x1_4 : Int32) (x2_4 : Int32) : Option (Int32) :=
  (if (6 : Int32) ≤ x2_4 then some x1_4 else (f_X2_lastEndOf vS x2_4).bind (fun q2 => r4 (mx x1_4 q2) (x2_4 + (1 : Int32))))
noncomputable def f_X2_lastEnd_L4 (vS : JV) (n : Nat) (x1_4 : Int32) (x2_4 : Int32) : Option (Int32) :=
  lp (fun (rec : Int32 × Int32 → Option (Int32)) a => f_X2_lastEnd_b4 vS (fun x1_4 x2_4 => rec (x1_4, x2_4)) a.1 a.2) n (x1_4, x2_4)
noncomputable def f_X2_lastEnd (vS : JV)  : Option (Int32) :=
  f_X2_lastEnd_L4 vS  FU (0 : Int32) (0 : Int32)
set_option maxRecDepth 100000 in
set_option maxHeartbeats 4000000 in
theorem c_X2_lastEnd {l : Launch} {G : JG} (aS : Nat → Nat) (vS : JV)  {Rz : Int32} (h : f_X2_lastEnd vS = some Rz) : JM l G yX2_lastEnd cX2_lastEnd 3 (some .int) 3 67 [.ref (aS 0)] (wSch G aS (vS 0) (vS 1) (vS 2) (vS 3) (vS 4) (vS 5) (vS 6) (vS 7) (vS 8 0) (vS 9 0)) (wSch G aS (vS 0) (vS 1) (vS 2) (vS 3) (vS 4) (vS 5) (vS 6) (vS 7) (vS 8 0) (vS 9 0)) (some (.int Rz)) := by
  refine JM.of (own := RX2) (tb := T_X2_lastEnd) (by decide) (Nat.le_of_ble_eq_true rfl) D_X2_lastEnd rfl (fun X C => ?_)
  refine J_sub (lv' := [(0, .ref (aS 0))]) [0] rfl ?_
  have B4 : ∀ (n4 : Nat) (x1_4 : Int32) (x2_4 : Int32), f_X2_lastEnd_L4 vS n4 x1_4 x2_4 = some Rz → J l { frames := 3, cells := 0, slots := 0, locals := 67 } G 3 X (QM X G 0 0 (some (.int Rz)) (wSch G aS (vS 0) (vS 1) (vS 2) (vS 3) (vS 4) (vS 5) (vS 6) (vS 7) (vS 8 0) (vS 9 0))) 0 0 4 [(0, .ref (aS 0)), (1, .int x1_4), (2, .int x2_4)] [] (wSch G aS (vS 0) (vS 1) (vS 2) (vS 3) (vS 4) (vS 5) (vS 6) (vS 7) (vS 8 0) (vS 9 0)) := by
    intro  n4
    induction n4 with
    | zero =>
      intro x1_4 x2_4 h
      exact (no_none rfl h).elim
    | succ n4 ih4 =>
      intro x1_4 x2_4 h
      replace h : f_X2_lastEnd_b4 vS (fun x1_4 x2_4 => f_X2_lastEnd_L4 vS n4 x1_4 x2_4) x1_4 x2_4 = some Rz := h
      unfold f_X2_lastEnd_b4 at h
      refine J_iload_n (pc := 4) C 4 rfl 2 rfl rfl ?_
      refine J_bipush (pc := 5) (v := (6 : Int32)) C 5 rfl rfl ?_
      refine J_icmp_ge (pc := 7) (tgt := 26) C 6 rfl rfl (fun c1 => ?_) (fun c1 => ?_)
      · rw [if_pos c1] at h
        refine J_iload_n (pc := 26) C 15 rfl 1 rfl rfl ?_
        cases h
        exact J_iret (pc := 27) C 16 rfl
      · rw [if_neg c1] at h
        refine J_iload_n (pc := 10) C 7 rfl 1 rfl rfl ?_
        refine J_aload_n (pc := 11) C 8 rfl 0 rfl rfl ?_
        refine J_iload_n (pc := 12) C 9 rfl 2 rfl rfl ?_
        obtain ⟨q2, hq2, h⟩ := bnd h
        refine J_callV (pc := 13) (st2 := [.int x1_4]) (st3 := [.int q2, .int x1_4]) (ws2 := (wSch G aS (vS 0) (vS 1) (vS 2) (vS 3) (vS 4) (vS 5) (vS 6) (vS 7) (vS 8 0) (vS 9 0))) C 10 rfl (c_X2_lastEndOf aS vS x2_4 hq2) V_X2_lastEndOf k97 i_X2_lastEndOf s_X2_lastEndOf rfl rfl ⟨Nat.le_of_ble_eq_true rfl, Nat.le_of_ble_eq_true rfl⟩ (Nat.le_of_ble_eq_true rfl) ⟨Nat.le_refl _, Nat.le_refl _⟩ 0 2 rfl rfl rfl (isC := [0, 1, 2, 3, 4, 5, 6, 7, 8]) (isR := []) (N := 9) ⟨rfl, by decide +kernel, rfl, by decide +kernel, rfl, trivial⟩ rfl ?_
        refine J_mmax (pc := 16) C 11 rfl k92 (by decide) (Nat.le_of_ble_eq_true rfl) (Nat.le_refl _) (Nat.le_refl _) ?_
        refine J_istore_n (pc := 19) (lv' := [(1, .int (mx x1_4 q2)), (0, .ref (aS 0)), (2, .int x2_4)]) C 12 rfl rfl (by decide) rfl ?_
        refine J_iinc (pc := 20) (v := (x2_4 + (1 : Int32))) (lv' := [(2, .int (x2_4 + (1 : Int32))), (1, .int (mx x1_4 q2)), (0, .ref (aS 0))]) C 13 rfl 2 rfl rfl (by decide) rfl ?_
        refine J_goto (pc := 23) (tgt := 4) C 14 rfl rfl ?_
        exact J_sub [2, 1, 0] rfl (ih4 (mx x1_4 q2) (x2_4 + (1 : Int32)) h)
  unfold f_X2_lastEnd at h
  refine J_iconst (pc := 0) (v := (0 : Int32)) C 0 rfl rfl ?_
  refine J_istore_n (pc := 1) (lv' := [(1, .int (0 : Int32)), (0, .ref (aS 0))]) C 1 rfl rfl (by decide) rfl ?_
  refine J_iconst (pc := 2) (v := (0 : Int32)) C 2 rfl rfl ?_
  refine J_istore_n (pc := 3) (lv' := [(2, .int (0 : Int32)), (1, .int (0 : Int32)), (0, .ref (aS 0))]) C 3 rfl rfl (by decide) rfl ?_
  exact J_sub [2, 1, 0] rfl (B4  FU (0 : Int32) (0 : Int32) h)
def T_X2_readersAt : List (Nat × ClassFile.Instr × Nat) := [(0, .iconst 0, 1), (1, .istore_n 2, 1), (2, .iconst 0, 1), (3, .istore_n 3, 1), (4, .iload_n 3, 1), (5, .aload_n 0, 1), (6, .getfield 37, 3), (9, .if_icmp .ge 58, 3), (12, .iconst 0, 1), (13, .istore 4, 2), (15, .iload 4, 2), (17, .bipush 6, 2), (19, .if_icmp .ge 42, 3), (22, .aload_n 0, 1), (23, .getfield 27, 3), (26, .iload_n 3, 1), (27, .baload, 1), (28, .ifCond .eq 33, 3), (31, .aload_n 0, 1), (32, .iload_n 3, 1), (33, .iload 4, 2), (35, .invokevirtual 68, 3), (38, .ifCond .eq 17, 3), (41, .aload_n 0, 1), (42, .iload_n 3, 1), (43, .iload 4, 2), (45, .iload_n 1, 1), (46, .invokevirtual 88, 3), (49, .ifCond .eq 6, 3), (52, .iinc 2 1, 3), (55, .iinc 4 1, 3), (58, .goto (-43), 3), (61, .iinc 3 1, 3), (64, .goto (-60), 3), (67, .iload_n 2, 1), (68, .ireturn, 1)]
theorem D_X2_readersAt : ∀ q ∈ T_X2_readersAt, decode cX2_readersAt q.1 = .ok q.2 := by decide +kernel
theorem V_X2_readersAt : Vy yX2_readersAt cX2_readersAt 5 (some .int) 1 := ⟨k104, k22, by decide +kernel⟩
theorem i_X2_readersAt : Cond.instanceMethod yX2_readersAt ∈ TB := k106
theorem s_X2_readersAt : Cond.selects yX2_readersAt.cls yX2_readersAt yX2_readersAt ∈ TB := k107
noncomputable def f_X2_readersAt_b15 (vS : JV) (r4 : Int32 → Int32 → Option (Int32)) (x1_4 : Int32) (x3_15 : Int32) (r15 : Int32 → Int32 → Option (Int32)) (x2_15 : Int32) (x4_15 : Int32) : Option (Int32) :=
  (if (6 : Int32) ≤ x4_15 then r4 x2_15 (x3_15 + (1 : Int32)) else gd (inb x3_15 16) ((if ((vS 5) (Int32.toNatClampNeg x3_15)) = 0 then r4 x2_15 (x3_15 + (1 : Int32)) else (f_X2_sits vS x3_15 x4_15).bind (fun q5 => (if q5 = 0 then r15 x2_15 (x4_15 + (1 : Int32)) else (f_X2_isSatAt vS x3_15 x4_15 x1_4).bind (fun q7 => (if q7 = 0 then r15 x2_15 (x4_15 + (1 : Int32)) else r15 (x2_15 + (1 : Int32)) (x4_15 + (1 : Int32)))))))))
noncomputable def f_X2_readersAt_L15 (vS : JV) (r4 : Int32 → Int32 → Option (Int32)) (x1_4 : Int32) (x3_15 : Int32) (n : Nat) (x2_15 : Int32) (x4_15 : Int32) : Option (Int32) :=
  lp (fun (rec : Int32 × Int32 → Option (Int32)) a => f_X2_readersAt_b15 vS r4 x1_4 x3_15 (fun x2_15 x4_15 => rec (x2_15, x4_15)) a.1 a.2) n (x2_15, x4_15)
noncomputable def f_X2_readersAt_b4 (vS : JV) (x1_4 : Int32) (r4 : Int32 → Int32 → Option (Int32)) (x2_4 : Int32) (x3_4 : Int32) : Option (Int32) :=
  (if (vS 8 0) ≤ x3_4 then some x2_4 else f_X2_readersAt_L15 vS r4 x1_4 x3_4 FU x2_4 (0 : Int32))
noncomputable def f_X2_readersAt_L4 (vS : JV) (x1_4 : Int32) (n : Nat) (x2_4 : Int32) (x3_4 : Int32) : Option (Int32) :=
  lp (fun (rec : Int32 × Int32 → Option (Int32)) a => f_X2_readersAt_b4 vS x1_4 (fun x2_4 x3_4 => rec (x2_4, x3_4)) a.1 a.2) n (x2_4, x3_4)
noncomputable def f_X2_readersAt (vS : JV) (x1 : Int32) : Option (Int32) :=
  f_X2_readersAt_L4 vS x1 FU (0 : Int32) (0 : Int32)
set_option maxRecDepth 100000 in
set_option maxHeartbeats 4000000 in
theorem c_X2_readersAt {l : Launch} {G : JG} (aS : Nat → Nat) (vS : JV) (x1 : Int32) {Rz : Int32} (h : f_X2_readersAt vS x1 = some Rz) : JM l G yX2_readersAt cX2_readersAt 5 (some .int) 3 67 [.ref (aS 0), .int x1] (wSch G aS (vS 0) (vS 1) (vS 2) (vS 3) (vS 4) (vS 5) (vS 6) (vS 7) (vS 8 0) (vS 9 0)) (wSch G aS (vS 0) (vS 1) (vS 2) (vS 3) (vS 4) (vS 5) (vS 6) (vS 7) (vS 8 0) (vS 9 0)) (some (.int Rz)) := by
  refine JM.of (own := RX2) (tb := T_X2_readersAt) (by decide) (Nat.le_of_ble_eq_true rfl) D_X2_readersAt rfl (fun X C => ?_)
  refine J_sub (lv' := [(0, .ref (aS 0)), (1, .int x1)]) [0, 1] rfl ?_
  have B4 : ∀ (x1_4 : Int32) (n4 : Nat) (x2_4 : Int32) (x3_4 : Int32), f_X2_readersAt_L4 vS x1_4 n4 x2_4 x3_4 = some Rz → J l { frames := 3, cells := 0, slots := 0, locals := 67 } G 5 X (QM X G 0 0 (some (.int Rz)) (wSch G aS (vS 0) (vS 1) (vS 2) (vS 3) (vS 4) (vS 5) (vS 6) (vS 7) (vS 8 0) (vS 9 0))) 0 0 4 [(0, .ref (aS 0)), (1, .int x1_4), (2, .int x2_4), (3, .int x3_4)] [] (wSch G aS (vS 0) (vS 1) (vS 2) (vS 3) (vS 4) (vS 5) (vS 6) (vS 7) (vS 8 0) (vS 9 0)) := by
    intro x1_4 n4
    induction n4 with
    | zero =>
      intro x2_4 x3_4 h
      exact (no_none rfl h).elim
    | succ n4 ih4 =>
      have B15 : ∀ (x3_15 : Int32) (n15 : Nat) (x2_15 : Int32) (x4_15 : Int32), f_X2_readersAt_L15 vS (fun x2_4 x3_4 => f_X2_readersAt_L4 vS x1_4 n4 x2_4 x3_4) x1_4 x3_15 n15 x2_15 x4_15 = some Rz → J l { frames := 3, cells := 0, slots := 0, locals := 67 } G 5 X (QM X G 0 0 (some (.int Rz)) (wSch G aS (vS 0) (vS 1) (vS 2) (vS 3) (vS 4) (vS 5) (vS 6) (vS 7) (vS 8 0) (vS 9 0))) 0 0 15 [(0, .ref (aS 0)), (1, .int x1_4), (2, .int x2_15), (3, .int x3_15), (4, .int x4_15)] [] (wSch G aS (vS 0) (vS 1) (vS 2) (vS 3) (vS 4) (vS 5) (vS 6) (vS 7) (vS 8 0) (vS 9 0)) := by
        intro x3_15 n15
        induction n15 with
        | zero =>
          intro x2_15 x4_15 h
          exact (no_none rfl h).elim
        | succ n15 ih15 =>
          intro x2_15 x4_15 h
          replace h : f_X2_readersAt_b15 vS (fun x2_4 x3_4 => f_X2_readersAt_L4 vS x1_4 n4 x2_4 x3_4) x1_4 x3_15 (fun x2_15 x4_15 => f_X2_readersAt_L15 vS (fun x2_4 x3_4 => f_X2_readersAt_L4 vS x1_4 n4 x2_4 x3_4) x1_4 x3_15 n15 x2_15 x4_15) x2_15 x4_15 = some Rz := h
          unfold f_X2_readersAt_b15 at h
          refine J_iload (pc := 15) C 10 rfl 4 rfl ?_
          refine J_bipush (pc := 17) (v := (6 : Int32)) C 11 rfl rfl ?_
          refine J_icmp_ge (pc := 19) (tgt := 61) C 12 rfl rfl (fun c2 => ?_) (fun c2 => ?_)
          · rw [if_pos c2] at h
            refine J_iinc (pc := 61) (v := (x3_15 + (1 : Int32))) (lv' := [(3, .int (x3_15 + (1 : Int32))), (0, .ref (aS 0)), (1, .int x1_4), (2, .int x2_15), (4, .int x4_15)]) C 32 rfl 3 rfl rfl (by decide) rfl ?_
            refine J_goto (pc := 64) (tgt := 4) C 33 rfl rfl ?_
            exact J_sub [1, 2, 3, 0] rfl (ih4 x2_15 (x3_15 + (1 : Int32)) h)
          · rw [if_neg c2] at h
            refine J_aload_n (pc := 22) C 13 rfl 0 rfl rfl ?_
            refine J_get (pc := 23) (v := .ref (aS 6)) C 14 rfl TB_l2 rfl 0 5 rfl (by decide) k11 rfl rfl ?_
            refine J_iload_n (pc := 26) C 15 rfl 3 rfl rfl ?_
            obtain ⟨g3, h⟩ := gd_some h
            refine J_zald (pc := 27) (f := (vS 5)) (v := ((vS 5) (Int32.toNatClampNeg x3_15))) C 16 rfl 6 rfl g3 rfl ?_
            refine J_if_eq (pc := 28) (tgt := 61) C 17 rfl rfl (fun c4 => ?_) (fun c4 => ?_)
            · rw [if_pos c4] at h
              refine J_iinc (pc := 61) (v := (x3_15 + (1 : Int32))) (lv' := [(3, .int (x3_15 + (1 : Int32))), (0, .ref (aS 0)), (1, .int x1_4), (2, .int x2_15), (4, .int x4_15)]) C 32 rfl 3 rfl rfl (by decide) rfl ?_
              refine J_goto (pc := 64) (tgt := 4) C 33 rfl rfl ?_
              exact J_sub [1, 2, 3, 0] rfl (ih4 x2_15 (x3_15 + (1 : Int32)) h)
            · rw [if_neg c4] at h
              refine J_aload_n (pc := 31) C 18 rfl 0 rfl rfl ?_
              refine J_iload_n (pc := 32) C 19 rfl 3 rfl rfl ?_
              refine J_iload (pc := 33) C 20 rfl 4 rfl ?_
              obtain ⟨q5, hq5, h⟩ := bnd h
              refine J_callV (pc := 35) (st2 := []) (st3 := [.int q5]) (ws2 := (wSch G aS (vS 0) (vS 1) (vS 2) (vS 3) (vS 4) (vS 5) (vS 6) (vS 7) (vS 8 0) (vS 9 0))) C 21 rfl (c_X2_sits aS vS x3_15 x4_15 hq5) V_X2_sits k79 i_X2_sits s_X2_sits rfl rfl ⟨Nat.le_of_ble_eq_true rfl, Nat.le_of_ble_eq_true rfl⟩ (Nat.le_of_ble_eq_true rfl) ⟨Nat.le_refl _, Nat.le_refl _⟩ 0 2 rfl rfl rfl (isC := [0, 1, 2, 3, 4, 5, 6, 7, 8]) (isR := []) (N := 9) ⟨rfl, by decide +kernel, rfl, by decide +kernel, rfl, trivial⟩ rfl ?_
              refine J_if_eq (pc := 38) (tgt := 55) C 22 rfl rfl (fun c6 => ?_) (fun c6 => ?_)
              · rw [if_pos c6] at h
                refine J_iinc (pc := 55) (v := (x4_15 + (1 : Int32))) (lv' := [(4, .int (x4_15 + (1 : Int32))), (0, .ref (aS 0)), (1, .int x1_4), (2, .int x2_15), (3, .int x3_15)]) C 30 rfl 4 rfl rfl (by decide) rfl ?_
                refine J_goto (pc := 58) (tgt := 15) C 31 rfl rfl ?_
                exact J_sub [1, 2, 3, 4, 0] rfl (ih15 x2_15 (x4_15 + (1 : Int32)) h)
              · rw [if_neg c6] at h
                refine J_aload_n (pc := 41) C 23 rfl 0 rfl rfl ?_
                refine J_iload_n (pc := 42) C 24 rfl 3 rfl rfl ?_
                refine J_iload (pc := 43) C 25 rfl 4 rfl ?_
                refine J_iload_n (pc := 45) C 26 rfl 1 rfl rfl ?_
                obtain ⟨q7, hq7, h⟩ := bnd h
                refine J_callV (pc := 46) (st2 := []) (st3 := [.int q7]) (ws2 := (wSch G aS (vS 0) (vS 1) (vS 2) (vS 3) (vS 4) (vS 5) (vS 6) (vS 7) (vS 8 0) (vS 9 0))) C 27 rfl (c_X2_isSatAt aS vS x3_15 x4_15 x1_4 hq7) V_X2_isSatAt k101 i_X2_isSatAt s_X2_isSatAt rfl rfl ⟨Nat.le_of_ble_eq_true rfl, Nat.le_of_ble_eq_true rfl⟩ (Nat.le_of_ble_eq_true rfl) ⟨Nat.le_refl _, Nat.le_refl _⟩ 0 2 rfl rfl rfl (isC := [0, 1, 2, 3, 4, 5, 6, 7, 8]) (isR := []) (N := 9) ⟨rfl, by decide +kernel, rfl, by decide +kernel, rfl, trivial⟩ rfl ?_
                refine J_if_eq (pc := 49) (tgt := 55) C 28 rfl rfl (fun c8 => ?_) (fun c8 => ?_)
                · rw [if_pos c8] at h
                  refine J_iinc (pc := 55) (v := (x4_15 + (1 : Int32))) (lv' := [(4, .int (x4_15 + (1 : Int32))), (0, .ref (aS 0)), (1, .int x1_4), (2, .int x2_15), (3, .int x3_15)]) C 30 rfl 4 rfl rfl (by decide) rfl ?_
                  refine J_goto (pc := 58) (tgt := 15) C 31 rfl rfl ?_
                  exact J_sub [1, 2, 3, 4, 0] rfl (ih15 x2_15 (x4_15 + (1 : Int32)) h)
                · rw [if_neg c8] at h
                  refine J_iinc (pc := 52) (v := (x2_15 + (1 : Int32))) (lv' := [(2, .int (x2_15 + (1 : Int32))), (0, .ref (aS 0)), (1, .int x1_4), (3, .int x3_15), (4, .int x4_15)]) C 29 rfl 2 rfl rfl (by decide) rfl ?_
                  refine J_iinc (pc := 55) (v := (x4_15 + (1 : Int32))) (lv' := [(4, .int (x4_15 + (1 : Int32))), (2, .int (x2_15 + (1 : Int32))), (0, .ref (aS 0)), (1, .int x1_4), (3, .int x3_15)]) C 30 rfl 4 rfl rfl (by decide) rfl ?_
                  refine J_goto (pc := 58) (tgt := 15) C 31 rfl rfl ?_
                  exact J_sub [2, 3, 1, 4, 0] rfl (ih15 (x2_15 + (1 : Int32)) (x4_15 + (1 : Int32)) h)
      intro x2_4 x3_4 h
      replace h : f_X2_readersAt_b4 vS x1_4 (fun x2_4 x3_4 => f_X2_readersAt_L4 vS x1_4 n4 x2_4 x3_4) x2_4 x3_4 = some Rz := h
      unfold f_X2_readersAt_b4 at h
      refine J_iload_n (pc := 4) C 4 rfl 3 rfl rfl ?_
      refine J_aload_n (pc := 5) C 5 rfl 0 rfl rfl ?_
      refine J_get (pc := 6) (v := .int (vS 8 0)) C 6 rfl TB_l2 rfl 0 8 rfl (by decide) k14 rfl rfl ?_
      refine J_icmp_ge (pc := 9) (tgt := 67) C 7 rfl rfl (fun c1 => ?_) (fun c1 => ?_)
      · rw [if_pos c1] at h
        refine J_iload_n (pc := 67) C 34 rfl 2 rfl rfl ?_
        cases h
        exact J_iret (pc := 68) C 35 rfl
      · rw [if_neg c1] at h
        refine J_iconst (pc := 12) (v := (0 : Int32)) C 8 rfl rfl ?_
        refine J_istore (pc := 13) (lv' := [(4, .int (0 : Int32)), (0, .ref (aS 0)), (1, .int x1_4), (2, .int x2_4), (3, .int x3_4)]) C 9 rfl (by decide) rfl ?_
        exact J_sub [1, 2, 3, 4, 0] rfl (B15 x3_4 FU x2_4 (0 : Int32) h)
  unfold f_X2_readersAt at h
  refine J_iconst (pc := 0) (v := (0 : Int32)) C 0 rfl rfl ?_
  refine J_istore_n (pc := 1) (lv' := [(2, .int (0 : Int32)), (0, .ref (aS 0)), (1, .int x1)]) C 1 rfl rfl (by decide) rfl ?_
  refine J_iconst (pc := 2) (v := (0 : Int32)) C 2 rfl rfl ?_
  refine J_istore_n (pc := 3) (lv' := [(3, .int (0 : Int32)), (2, .int (0 : Int32)), (0, .ref (aS 0)), (1, .int x1)]) C 3 rfl rfl (by decide) rfl ?_
  exact J_sub [2, 3, 1, 0] rfl (B4 x1 FU (0 : Int32) (0 : Int32) h)
def T_X2_mostReaders : List (Nat × ClassFile.Instr × Nat) := [(0, .iconst 0, 1), (1, .istore_n 1, 1), (2, .iconst 0, 1), (3, .istore_n 2, 1), (4, .iload_n 2, 1), (5, .bipush 6, 2), (7, .if_icmp .ge 23, 3), (10, .iload_n 1, 1), (11, .aload_n 0, 1), (12, .aload_n 0, 1), (13, .iload_n 2, 1), (14, .invokevirtual 52, 3), (17, .invokevirtual 85, 3), (20, .invokestatic 77, 3), (23, .istore_n 1, 1), (24, .iinc 2 1, 3), (27, .goto (-23), 3), (30, .iload_n 1, 1), (31, .ireturn, 1)]
theorem D_X2_mostReaders : ∀ q ∈ T_X2_mostReaders, decode cX2_mostReaders q.1 = .ok q.2 := by decide +kernel
theorem V_X2_mostReaders : Vy yX2_mostReaders cX2_mostReaders 3 (some .int) 0 := ⟨k108, k22, by decide +kernel⟩
theorem i_X2_mostReaders : Cond.instanceMethod yX2_mostReaders ∈ TB := k315
theorem s_X2_mostReaders : Cond.selects yX2_mostReaders.cls yX2_mostReaders yX2_mostReaders ∈ TB := k316
noncomputable def f_X2_mostReaders_b4 (vS : JV) (r4 : Int32 → Int32 → Option (Int32)) (x1_4 : Int32) (x2_4 : Int32) : Option (Int32) :=
  (if (6 : Int32) ≤ x2_4 then some x1_4 else (f_X2_beginOf vS x2_4).bind (fun q2 => (f_X2_readersAt vS q2).bind (fun q3 => r4 (mx x1_4 q3) (x2_4 + (1 : Int32)))))
noncomputable def f_X2_mostReaders_L4 (vS : JV) (n : Nat) (x1_4 : Int32) (x2_4 : Int32) : Option (Int32) :=
  lp (fun (rec : Int32 × Int32 → Option (Int32)) a => f_X2_mostReaders_b4 vS (fun x1_4 x2_4 => rec (x1_4, x2_4)) a.1 a.2) n (x1_4, x2_4)
noncomputable def f_X2_mostReaders (vS : JV)  : Option (Int32) :=
  f_X2_mostReaders_L4 vS  FU (0 : Int32) (0 : Int32)
set_option maxRecDepth 100000 in
set_option maxHeartbeats 4000000 in
theorem c_X2_mostReaders {l : Launch} {G : JG} (aS : Nat → Nat) (vS : JV)  {Rz : Int32} (h : f_X2_mostReaders vS = some Rz) : JM l G yX2_mostReaders cX2_mostReaders 3 (some .int) 4 91 [.ref (aS 0)] (wSch G aS (vS 0) (vS 1) (vS 2) (vS 3) (vS 4) (vS 5) (vS 6) (vS 7) (vS 8 0) (vS 9 0)) (wSch G aS (vS 0) (vS 1) (vS 2) (vS 3) (vS 4) (vS 5) (vS 6) (vS 7) (vS 8 0) (vS 9 0)) (some (.int Rz)) := by
  refine JM.of (own := RX2) (tb := T_X2_mostReaders) (by decide) (Nat.le_of_ble_eq_true rfl) D_X2_mostReaders rfl (fun X C => ?_)
  refine J_sub (lv' := [(0, .ref (aS 0))]) [0] rfl ?_
  have B4 : ∀ (n4 : Nat) (x1_4 : Int32) (x2_4 : Int32), f_X2_mostReaders_L4 vS n4 x1_4 x2_4 = some Rz → J l { frames := 4, cells := 0, slots := 0, locals := 91 } G 3 X (QM X G 0 0 (some (.int Rz)) (wSch G aS (vS 0) (vS 1) (vS 2) (vS 3) (vS 4) (vS 5) (vS 6) (vS 7) (vS 8 0) (vS 9 0))) 0 0 4 [(0, .ref (aS 0)), (1, .int x1_4), (2, .int x2_4)] [] (wSch G aS (vS 0) (vS 1) (vS 2) (vS 3) (vS 4) (vS 5) (vS 6) (vS 7) (vS 8 0) (vS 9 0)) := by
    intro  n4
    induction n4 with
    | zero =>
      intro x1_4 x2_4 h
      exact (no_none rfl h).elim
    | succ n4 ih4 =>
      intro x1_4 x2_4 h
      replace h : f_X2_mostReaders_b4 vS (fun x1_4 x2_4 => f_X2_mostReaders_L4 vS n4 x1_4 x2_4) x1_4 x2_4 = some Rz := h
      unfold f_X2_mostReaders_b4 at h
      refine J_iload_n (pc := 4) C 4 rfl 2 rfl rfl ?_
      refine J_bipush (pc := 5) (v := (6 : Int32)) C 5 rfl rfl ?_
      refine J_icmp_ge (pc := 7) (tgt := 30) C 6 rfl rfl (fun c1 => ?_) (fun c1 => ?_)
      · rw [if_pos c1] at h
        refine J_iload_n (pc := 30) C 17 rfl 1 rfl rfl ?_
        cases h
        exact J_iret (pc := 31) C 18 rfl
      · rw [if_neg c1] at h
        refine J_iload_n (pc := 10) C 7 rfl 1 rfl rfl ?_
        refine J_aload_n (pc := 11) C 8 rfl 0 rfl rfl ?_
        refine J_aload_n (pc := 12) C 9 rfl 0 rfl rfl ?_
        refine J_iload_n (pc := 13) C 10 rfl 2 rfl rfl ?_
        obtain ⟨q2, hq2, h⟩ := bnd h
        refine J_callV (pc := 14) (st2 := [.ref (aS 0), .int x1_4]) (st3 := [.int q2, .ref (aS 0), .int x1_4]) (ws2 := (wSch G aS (vS 0) (vS 1) (vS 2) (vS 3) (vS 4) (vS 5) (vS 6) (vS 7) (vS 8 0) (vS 9 0))) C 11 rfl (c_X2_beginOf aS vS x2_4 hq2) V_X2_beginOf k60 i_X2_beginOf s_X2_beginOf rfl rfl ⟨Nat.le_of_ble_eq_true rfl, Nat.le_of_ble_eq_true rfl⟩ (Nat.le_of_ble_eq_true rfl) ⟨Nat.le_refl _, Nat.le_refl _⟩ 0 2 rfl rfl rfl (isC := [0, 1, 2, 3, 4, 5, 6, 7, 8]) (isR := []) (N := 9) ⟨rfl, by decide +kernel, rfl, by decide +kernel, rfl, trivial⟩ rfl ?_
        obtain ⟨q3, hq3, h⟩ := bnd h
        refine J_callV (pc := 17) (st2 := [.int x1_4]) (st3 := [.int q3, .int x1_4]) (ws2 := (wSch G aS (vS 0) (vS 1) (vS 2) (vS 3) (vS 4) (vS 5) (vS 6) (vS 7) (vS 8 0) (vS 9 0))) C 12 rfl (c_X2_readersAt aS vS q2 hq3) V_X2_readersAt k105 i_X2_readersAt s_X2_readersAt rfl rfl ⟨Nat.le_of_ble_eq_true rfl, Nat.le_of_ble_eq_true rfl⟩ (Nat.le_of_ble_eq_true rfl) ⟨Nat.le_refl _, Nat.le_refl _⟩ 0 2 rfl rfl rfl (isC := [0, 1, 2, 3, 4, 5, 6, 7, 8]) (isR := []) (N := 9) ⟨rfl, by decide +kernel, rfl, by decide +kernel, rfl, trivial⟩ rfl ?_
        refine J_mmax (pc := 20) C 13 rfl k92 (by decide) (Nat.le_of_ble_eq_true rfl) (Nat.le_refl _) (Nat.le_refl _) ?_
        refine J_istore_n (pc := 23) (lv' := [(1, .int (mx x1_4 q3)), (0, .ref (aS 0)), (2, .int x2_4)]) C 14 rfl rfl (by decide) rfl ?_
        refine J_iinc (pc := 24) (v := (x2_4 + (1 : Int32))) (lv' := [(2, .int (x2_4 + (1 : Int32))), (1, .int (mx x1_4 q3)), (0, .ref (aS 0))]) C 15 rfl 2 rfl rfl (by decide) rfl ?_
        refine J_goto (pc := 27) (tgt := 4) C 16 rfl rfl ?_
        exact J_sub [2, 1, 0] rfl (ih4 (mx x1_4 q3) (x2_4 + (1 : Int32)) h)
  unfold f_X2_mostReaders at h
  refine J_iconst (pc := 0) (v := (0 : Int32)) C 0 rfl rfl ?_
  refine J_istore_n (pc := 1) (lv' := [(1, .int (0 : Int32)), (0, .ref (aS 0))]) C 1 rfl rfl (by decide) rfl ?_
  refine J_iconst (pc := 2) (v := (0 : Int32)) C 2 rfl rfl ?_
  refine J_istore_n (pc := 3) (lv' := [(2, .int (0 : Int32)), (1, .int (0 : Int32)), (0, .ref (aS 0))]) C 3 rfl rfl (by decide) rfl ?_
  exact J_sub [2, 1, 0] rfl (B4  FU (0 : Int32) (0 : Int32) h)
def T_X2_isOpen : List (Nat × ClassFile.Instr × Nat) := [(0, .aload_n 0, 1), (1, .getfield 41, 3), (4, .iload_n 1, 1), (5, .invokestatic 48, 3), (8, .ireturn, 1)]
theorem D_X2_isOpen : ∀ q ∈ T_X2_isOpen, decode cX2_isOpen q.1 = .ok q.2 := by decide +kernel
theorem V_X2_isOpen : Vy yX2_isOpen cX2_isOpen 2 (some .boolean) 1 := ⟨k109, k22, by decide +kernel⟩
theorem i_X2_isOpen : Cond.instanceMethod yX2_isOpen ∈ TB := k113
theorem s_X2_isOpen : Cond.selects yX2_isOpen.cls yX2_isOpen yX2_isOpen ∈ TB := k114
noncomputable def f_X2_isOpen (vS : JV) (x1 : Int32) : Option (Int32) :=
  (f_X4_contains (vS 9 0) x1).bind (fun q1 => gd (isb q1) (some q1))
set_option maxRecDepth 100000 in
set_option maxHeartbeats 4000000 in
theorem c_X2_isOpen {l : Launch} {G : JG} (aS : Nat → Nat) (vS : JV) (x1 : Int32) {Rz : Int32} (h : f_X2_isOpen vS x1 = some Rz) : JM l G yX2_isOpen cX2_isOpen 2 (some .boolean) 1 21 [.ref (aS 0), .int x1] (wSch G aS (vS 0) (vS 1) (vS 2) (vS 3) (vS 4) (vS 5) (vS 6) (vS 7) (vS 8 0) (vS 9 0)) (wSch G aS (vS 0) (vS 1) (vS 2) (vS 3) (vS 4) (vS 5) (vS 6) (vS 7) (vS 8 0) (vS 9 0)) (some (.int Rz)) := by
  refine JM.of (own := RX2) (tb := T_X2_isOpen) (by decide) (Nat.le_of_ble_eq_true rfl) D_X2_isOpen rfl (fun X C => ?_)
  refine J_sub (lv' := [(0, .ref (aS 0)), (1, .int x1)]) [0, 1] rfl ?_
  unfold f_X2_isOpen at h
  refine J_aload_n (pc := 0) C 0 rfl 0 rfl rfl ?_
  refine J_get (pc := 1) (v := .int (vS 9 0)) C 1 rfl TB_l2 rfl 0 9 rfl (by decide) k15 rfl rfl ?_
  refine J_iload_n (pc := 4) C 2 rfl 1 rfl rfl ?_
  obtain ⟨q1, hq1, h⟩ := bnd h
  refine J_callSN (pc := 5) (st2 := []) (st3 := [.int q1]) (ws2 := (wSch G aS (vS 0) (vS 1) (vS 2) (vS 3) (vS 4) (vS 5) (vS 6) (vS 7) (vS 8 0) (vS 9 0))) C 3 rfl (c_X4_contains (vS 9 0) x1 hq1) V_X4_contains (List.mem_of_getElem? (i := 5) rfl) t_X4_contains rfl rfl ⟨Nat.le_of_ble_eq_true rfl, Nat.le_of_ble_eq_true rfl⟩ (Nat.le_of_ble_eq_true rfl) ⟨Nat.le_refl _, Nat.le_refl _⟩ (isC := []) (isR := [0, 1, 2, 3, 4, 5, 6, 7, 8]) (N := 9) ⟨rfl, by decide +kernel, rfl, by decide +kernel, rfl, ⟨⟨_, rfl, rfl⟩, ⟨⟨_, rfl, rfl⟩, ⟨⟨_, rfl, rfl⟩, ⟨⟨_, rfl, rfl⟩, ⟨⟨_, rfl, rfl⟩, ⟨⟨_, rfl, rfl⟩, ⟨⟨_, rfl, rfl⟩, ⟨⟨_, rfl, rfl⟩, ⟨⟨_, rfl, rfl⟩, trivial⟩⟩⟩⟩⟩⟩⟩⟩⟩⟩ rfl ?_
  obtain ⟨g2, h⟩ := gd_some h
  cases h
  exact J_zret (pc := 8) C 4 rfl g2
def T_X2_desksOf : List (Nat × ClassFile.Instr × Nat) := [(0, .aload_n 0, 1), (1, .getfield 31, 3), (4, .iload_n 1, 1), (5, .iaload, 1), (6, .aload_n 0, 1), (7, .getfield 34, 3), (10, .iload_n 1, 1), (11, .iaload, 1), (12, .imul, 1), (13, .ireturn, 1)]
theorem D_X2_desksOf : ∀ q ∈ T_X2_desksOf, decode cX2_desksOf q.1 = .ok q.2 := by decide +kernel
theorem V_X2_desksOf : Vy yX2_desksOf cX2_desksOf 2 (some .int) 1 := ⟨k110, k22, by decide +kernel⟩
theorem i_X2_desksOf : Cond.instanceMethod yX2_desksOf ∈ TB := k116
theorem s_X2_desksOf : Cond.selects yX2_desksOf.cls yX2_desksOf yX2_desksOf ∈ TB := k117
noncomputable def f_X2_desksOf (vS : JV) (x1 : Int32) : Option (Int32) :=
  gd (inb x1 4) (gd (inb x1 4) (some (((vS 6) (Int32.toNatClampNeg x1)) * ((vS 7) (Int32.toNatClampNeg x1)))))
set_option maxRecDepth 100000 in
set_option maxHeartbeats 4000000 in
theorem c_X2_desksOf {l : Launch} {G : JG} (aS : Nat → Nat) (vS : JV) (x1 : Int32) {Rz : Int32} (h : f_X2_desksOf vS x1 = some Rz) : JM l G yX2_desksOf cX2_desksOf 2 (some .int) 0 0 [.ref (aS 0), .int x1] (wSch G aS (vS 0) (vS 1) (vS 2) (vS 3) (vS 4) (vS 5) (vS 6) (vS 7) (vS 8 0) (vS 9 0)) (wSch G aS (vS 0) (vS 1) (vS 2) (vS 3) (vS 4) (vS 5) (vS 6) (vS 7) (vS 8 0) (vS 9 0)) (some (.int Rz)) := by
  refine JM.of (own := RX2) (tb := T_X2_desksOf) (by decide) (Nat.le_of_ble_eq_true rfl) D_X2_desksOf rfl (fun X C => ?_)
  refine J_sub (lv' := [(0, .ref (aS 0)), (1, .int x1)]) [0, 1] rfl ?_
  unfold f_X2_desksOf at h
  refine J_aload_n (pc := 0) C 0 rfl 0 rfl rfl ?_
  refine J_get (pc := 1) (v := .ref (aS 7)) C 1 rfl TB_l2 rfl 0 6 rfl (by decide) k12 rfl rfl ?_
  refine J_iload_n (pc := 4) C 2 rfl 1 rfl rfl ?_
  obtain ⟨g1, h⟩ := gd_some h
  refine J_iald (pc := 5) (f := (vS 6)) (v := ((vS 6) (Int32.toNatClampNeg x1))) C 3 rfl 7 rfl g1 rfl ?_
  refine J_aload_n (pc := 6) C 4 rfl 0 rfl rfl ?_
  refine J_get (pc := 7) (v := .ref (aS 8)) C 5 rfl TB_l2 rfl 0 7 rfl (by decide) k13 rfl rfl ?_
  refine J_iload_n (pc := 10) C 6 rfl 1 rfl rfl ?_
  obtain ⟨g2, h⟩ := gd_some h
  refine J_iald (pc := 11) (f := (vS 7)) (v := ((vS 7) (Int32.toNatClampNeg x1))) C 7 rfl 8 rfl g2 rfl ?_
  refine J_imul (pc := 12) C 8 rfl  ?_
  cases h
  exact J_iret (pc := 13) C 9 rfl
def T_X2_openDesks : List (Nat × ClassFile.Instr × Nat) := [(0, .iconst 0, 1), (1, .istore_n 1, 1), (2, .iconst 0, 1), (3, .istore_n 2, 1), (4, .iload_n 2, 1), (5, .iconst 4, 1), (6, .if_icmp .ge 25, 3), (9, .aload_n 0, 1), (10, .iload_n 2, 1), (11, .invokevirtual 92, 3), (14, .ifCond .eq 11, 3), (17, .iload_n 1, 1), (18, .aload_n 0, 1), (19, .iload_n 2, 1), (20, .invokevirtual 96, 3), (23, .iadd, 1), (24, .istore_n 1, 1), (25, .iinc 2 1, 3), (28, .goto (-24), 3), (31, .iload_n 1, 1), (32, .ireturn, 1)]
theorem D_X2_openDesks : ∀ q ∈ T_X2_openDesks, decode cX2_openDesks q.1 = .ok q.2 := by decide +kernel
theorem V_X2_openDesks : Vy yX2_openDesks cX2_openDesks 3 (some .int) 0 := ⟨k111, k22, by decide +kernel⟩
theorem i_X2_openDesks : Cond.instanceMethod yX2_openDesks ∈ TB := k312
theorem s_X2_openDesks : Cond.selects yX2_openDesks.cls yX2_openDesks yX2_openDesks ∈ TB := k313
noncomputable def f_X2_openDesks_b4 (vS : JV) (r4 : Int32 → Int32 → Option (Int32)) (x1_4 : Int32) (x2_4 : Int32) : Option (Int32) :=
  (if (4 : Int32) ≤ x2_4 then some x1_4 else (f_X2_isOpen vS x2_4).bind (fun q2 => (if q2 = 0 then r4 x1_4 (x2_4 + (1 : Int32)) else (f_X2_desksOf vS x2_4).bind (fun q4 => r4 (x1_4 + q4) (x2_4 + (1 : Int32))))))
noncomputable def f_X2_openDesks_L4 (vS : JV) (n : Nat) (x1_4 : Int32) (x2_4 : Int32) : Option (Int32) :=
  lp (fun (rec : Int32 × Int32 → Option (Int32)) a => f_X2_openDesks_b4 vS (fun x1_4 x2_4 => rec (x1_4, x2_4)) a.1 a.2) n (x1_4, x2_4)
noncomputable def f_X2_openDesks (vS : JV)  : Option (Int32) :=
  f_X2_openDesks_L4 vS  FU (0 : Int32) (0 : Int32)
set_option maxRecDepth 100000 in
set_option maxHeartbeats 4000000 in
theorem c_X2_openDesks {l : Launch} {G : JG} (aS : Nat → Nat) (vS : JV)  {Rz : Int32} (h : f_X2_openDesks vS = some Rz) : JM l G yX2_openDesks cX2_openDesks 3 (some .int) 2 42 [.ref (aS 0)] (wSch G aS (vS 0) (vS 1) (vS 2) (vS 3) (vS 4) (vS 5) (vS 6) (vS 7) (vS 8 0) (vS 9 0)) (wSch G aS (vS 0) (vS 1) (vS 2) (vS 3) (vS 4) (vS 5) (vS 6) (vS 7) (vS 8 0) (vS 9 0)) (some (.int Rz)) := by
  refine JM.of (own := RX2) (tb := T_X2_openDesks) (by decide) (Nat.le_of_ble_eq_true rfl) D_X2_openDesks rfl (fun X C => ?_)
  refine J_sub (lv' := [(0, .ref (aS 0))]) [0] rfl ?_
  have B4 : ∀ (n4 : Nat) (x1_4 : Int32) (x2_4 : Int32), f_X2_openDesks_L4 vS n4 x1_4 x2_4 = some Rz → J l { frames := 2, cells := 0, slots := 0, locals := 42 } G 3 X (QM X G 0 0 (some (.int Rz)) (wSch G aS (vS 0) (vS 1) (vS 2) (vS 3) (vS 4) (vS 5) (vS 6) (vS 7) (vS 8 0) (vS 9 0))) 0 0 4 [(0, .ref (aS 0)), (1, .int x1_4), (2, .int x2_4)] [] (wSch G aS (vS 0) (vS 1) (vS 2) (vS 3) (vS 4) (vS 5) (vS 6) (vS 7) (vS 8 0) (vS 9 0)) := by
    intro  n4
    induction n4 with
    | zero =>
      intro x1_4 x2_4 h
      exact (no_none rfl h).elim
    | succ n4 ih4 =>
      intro x1_4 x2_4 h
      replace h : f_X2_openDesks_b4 vS (fun x1_4 x2_4 => f_X2_openDesks_L4 vS n4 x1_4 x2_4) x1_4 x2_4 = some Rz := h
      unfold f_X2_openDesks_b4 at h
      refine J_iload_n (pc := 4) C 4 rfl 2 rfl rfl ?_
      refine J_iconst (pc := 5) (v := (4 : Int32)) C 5 rfl rfl ?_
      refine J_icmp_ge (pc := 6) (tgt := 31) C 6 rfl rfl (fun c1 => ?_) (fun c1 => ?_)
      · rw [if_pos c1] at h
        refine J_iload_n (pc := 31) C 19 rfl 1 rfl rfl ?_
        cases h
        exact J_iret (pc := 32) C 20 rfl
      · rw [if_neg c1] at h
        refine J_aload_n (pc := 9) C 7 rfl 0 rfl rfl ?_
        refine J_iload_n (pc := 10) C 8 rfl 2 rfl rfl ?_
        obtain ⟨q2, hq2, h⟩ := bnd h
        refine J_callV (pc := 11) (st2 := []) (st3 := [.int q2]) (ws2 := (wSch G aS (vS 0) (vS 1) (vS 2) (vS 3) (vS 4) (vS 5) (vS 6) (vS 7) (vS 8 0) (vS 9 0))) C 9 rfl (c_X2_isOpen aS vS x2_4 hq2) V_X2_isOpen k112 i_X2_isOpen s_X2_isOpen rfl rfl ⟨Nat.le_of_ble_eq_true rfl, Nat.le_of_ble_eq_true rfl⟩ (Nat.le_of_ble_eq_true rfl) ⟨Nat.le_refl _, Nat.le_refl _⟩ 0 2 rfl rfl rfl (isC := [0, 1, 2, 3, 4, 5, 6, 7, 8]) (isR := []) (N := 9) ⟨rfl, by decide +kernel, rfl, by decide +kernel, rfl, trivial⟩ rfl ?_
        refine J_if_eq (pc := 14) (tgt := 25) C 10 rfl rfl (fun c3 => ?_) (fun c3 => ?_)
        · rw [if_pos c3] at h
          refine J_iinc (pc := 25) (v := (x2_4 + (1 : Int32))) (lv' := [(2, .int (x2_4 + (1 : Int32))), (0, .ref (aS 0)), (1, .int x1_4)]) C 17 rfl 2 rfl rfl (by decide) rfl ?_
          refine J_goto (pc := 28) (tgt := 4) C 18 rfl rfl ?_
          exact J_sub [1, 2, 0] rfl (ih4 x1_4 (x2_4 + (1 : Int32)) h)
        · rw [if_neg c3] at h
          refine J_iload_n (pc := 17) C 11 rfl 1 rfl rfl ?_
          refine J_aload_n (pc := 18) C 12 rfl 0 rfl rfl ?_
          refine J_iload_n (pc := 19) C 13 rfl 2 rfl rfl ?_
          obtain ⟨q4, hq4, h⟩ := bnd h
          refine J_callV (pc := 20) (st2 := [.int x1_4]) (st3 := [.int q4, .int x1_4]) (ws2 := (wSch G aS (vS 0) (vS 1) (vS 2) (vS 3) (vS 4) (vS 5) (vS 6) (vS 7) (vS 8 0) (vS 9 0))) C 14 rfl (c_X2_desksOf aS vS x2_4 hq4) V_X2_desksOf k115 i_X2_desksOf s_X2_desksOf rfl rfl ⟨Nat.le_of_ble_eq_true rfl, Nat.le_of_ble_eq_true rfl⟩ (Nat.le_of_ble_eq_true rfl) ⟨Nat.le_refl _, Nat.le_refl _⟩ 0 2 rfl rfl rfl (isC := [0, 1, 2, 3, 4, 5, 6, 7, 8]) (isR := []) (N := 9) ⟨rfl, by decide +kernel, rfl, by decide +kernel, rfl, trivial⟩ rfl ?_
          refine J_iadd (pc := 23) C 15 rfl  ?_
          refine J_istore_n (pc := 24) (lv' := [(1, .int (x1_4 + q4)), (0, .ref (aS 0)), (2, .int x2_4)]) C 16 rfl rfl (by decide) rfl ?_
          refine J_iinc (pc := 25) (v := (x2_4 + (1 : Int32))) (lv' := [(2, .int (x2_4 + (1 : Int32))), (1, .int (x1_4 + q4)), (0, .ref (aS 0))]) C 17 rfl 2 rfl rfl (by decide) rfl ?_
          refine J_goto (pc := 28) (tgt := 4) C 18 rfl rfl ?_
          exact J_sub [2, 1, 0] rfl (ih4 (x1_4 + q4) (x2_4 + (1 : Int32)) h)
  unfold f_X2_openDesks at h
  refine J_iconst (pc := 0) (v := (0 : Int32)) C 0 rfl rfl ?_
  refine J_istore_n (pc := 1) (lv' := [(1, .int (0 : Int32)), (0, .ref (aS 0))]) C 1 rfl rfl (by decide) rfl ?_
  refine J_iconst (pc := 2) (v := (0 : Int32)) C 2 rfl rfl ?_
  refine J_istore_n (pc := 3) (lv' := [(2, .int (0 : Int32)), (1, .int (0 : Int32)), (0, .ref (aS 0))]) C 3 rfl rfl (by decide) rfl ?_
  exact J_sub [2, 1, 0] rfl (B4  FU (0 : Int32) (0 : Int32) h)
