def T_X5_isPupil : List (Nat × ClassFile.Instr × Nat) := [(0, .iload_n 1, 1), (1, .iconst 0, 1), (2, .aload_n 0, 1), (3, .getfield 7, 3), (6, .iconst 3, 1), (7, .iaload, 1), (8, .iconst 1, 1), (9, .isub, 1), (10, .invokestatic 39, 3), (13, .ireturn, 1)]
theorem D_X5_isPupil : ∀ q ∈ T_X5_isPupil, decode cX5_isPupil q.1 = .ok q.2 := by decide +kernel
theorem V_X5_isPupil : Vy yX5_isPupil cX5_isPupil 2 (some .boolean) 1 := ⟨k417, k415, by decide +kernel⟩
theorem i_X5_isPupil : Cond.instanceMethod yX5_isPupil ∈ TB := k507
theorem s_X5_isPupil : Cond.selects yX5_isPupil.cls yX5_isPupil yX5_isPupil ∈ TB := k508
noncomputable def f_X5_isPupil (vM : JV) (x1 : Int32) : Option (Int32) :=
  (f_X5_in x1 (0 : Int32) (((vM 0) 3) - (1 : Int32))).bind (fun q1 => gd (isb q1) (some q1))
set_option maxRecDepth 100000 in
set_option maxHeartbeats 4000000 in
theorem c_X5_isPupil {l : Launch} {G : JG} (aM : Nat → Nat) (vM : JV) (x1 : Int32) {Rz : Int32} (h : f_X5_isPupil vM x1 = some Rz) : JM l G yX5_isPupil cX5_isPupil 2 (some .boolean) 1 22 [.ref (aM 0), .int x1] (wMod G aM (vM 0) (vM 1) (vM 2) (vM 3) (vM 4) (vM 5) (vM 6) (vM 7) (vM 8) (vM 9 0) (vM 10 0) (vM 11 0) (vM 12 0) (vM 13 0)) (wMod G aM (vM 0) (vM 1) (vM 2) (vM 3) (vM 4) (vM 5) (vM 6) (vM 7) (vM 8) (vM 9 0) (vM 10 0) (vM 11 0) (vM 12 0) (vM 13 0)) (some (.int Rz)) := by
  refine JM.of (own := RX5) (tb := T_X5_isPupil) (by decide) (Nat.le_of_ble_eq_true rfl) D_X5_isPupil rfl (fun X C => ?_)
  refine J_sub (lv' := [(0, .ref (aM 0)), (1, .int x1)]) [0, 1] rfl ?_
  unfold f_X5_isPupil at h
  refine J_iload_n (pc := 0) C 0 rfl 1 rfl rfl ?_
  refine J_iconst (pc := 1) (v := (0 : Int32)) C 1 rfl rfl ?_
  refine J_aload_n (pc := 2) C 2 rfl 0 rfl rfl ?_
  refine J_get (pc := 3) (v := .ref (aM 1)) C 3 rfl TB_l5 rfl 0 0 rfl (by decide) k399 rfl rfl ?_
  refine J_iconst (pc := 6) (v := (3 : Int32)) C 4 rfl rfl ?_
  refine J_iald (pc := 7) (f := (vM 0)) (v := ((vM 0) 3)) C 5 rfl 1 rfl rfl rfl ?_
  refine J_iconst (pc := 8) (v := (1 : Int32)) C 6 rfl rfl ?_
  refine J_isub (pc := 9) C 7 rfl  ?_
  obtain ⟨q1, hq1, h⟩ := bnd h
  refine J_callS (pc := 10) (st2 := []) (st3 := [.int q1]) (ws2 := (wMod G aM (vM 0) (vM 1) (vM 2) (vM 3) (vM 4) (vM 5) (vM 6) (vM 7) (vM 8) (vM 9 0) (vM 10 0) (vM 11 0) (vM 12 0) (vM 13 0))) C 8 rfl (c_X5_in x1 (0 : Int32) (((vM 0) 3) - (1 : Int32)) hq1) V_X5_in k413 t_X5_in rfl rfl ⟨Nat.le_of_ble_eq_true rfl, Nat.le_of_ble_eq_true rfl⟩ (Nat.le_of_ble_eq_true rfl) ⟨Nat.le_refl _, Nat.le_refl _⟩ (isC := []) (isR := [0, 1, 2, 3, 4, 5, 6, 7, 8, 9]) (N := 10) ⟨rfl, by decide +kernel, rfl, by decide +kernel, rfl, ⟨⟨_, rfl, rfl⟩, ⟨⟨_, rfl, rfl⟩, ⟨⟨_, rfl, rfl⟩, ⟨⟨_, rfl, rfl⟩, ⟨⟨_, rfl, rfl⟩, ⟨⟨_, rfl, rfl⟩, ⟨⟨_, rfl, rfl⟩, ⟨⟨_, rfl, rfl⟩, ⟨⟨_, rfl, rfl⟩, ⟨⟨_, rfl, rfl⟩, trivial⟩⟩⟩⟩⟩⟩⟩⟩⟩⟩⟩ rfl ?_
  obtain ⟨g2, h⟩ := gd_some h
  cases h
  exact J_zret (pc := 13) C 9 rfl g2
def T_X5_hold : List (Nat × ClassFile.Instr × Nat) := [(0, .aload_n 0, 1), (1, .iconst 0, 1), (2, .putfield 43, 3), (5, .iconst 0, 1), (6, .istore_n 1, 1), (7, .iload_n 1, 1), (8, .bipush 76, 2), (10, .if_icmp .ge 21, 3), (13, .aload_n 0, 1), (14, .getfield 13, 3), (17, .iload_n 1, 1), (18, .aload_n 0, 1), (19, .getfield 7, 3), (22, .iload_n 1, 1), (23, .iaload, 1), (24, .iastore, 1), (25, .iinc 1 1, 3), (28, .goto (-21), 3), (31, .return_, 1)]
theorem D_X5_hold : ∀ q ∈ T_X5_hold, decode cX5_hold q.1 = .ok q.2 := by decide +kernel
theorem V_X5_hold : Vy yX5_hold cX5_hold 2 none 0 := ⟨k418, k415, by decide +kernel⟩
theorem i_X5_hold : Cond.instanceMethod yX5_hold ∈ TB := k493
theorem s_X5_hold : Cond.selects yX5_hold.cls yX5_hold yX5_hold ∈ TB := k494
noncomputable def f_X5_hold_b7  (r7 : JV → Int32 → Option (JV)) (vM_7 : JV) (x1_7 : Int32) : Option (JV) :=
  (if (76 : Int32) ≤ x1_7 then some vM_7 else gd (inb x1_7 76) (gd (inb x1_7 76) (r7 (up2 vM_7 1 (Int32.toNatClampNeg x1_7) ((vM_7 0) (Int32.toNatClampNeg x1_7))) (x1_7 + (1 : Int32)))))
noncomputable def f_X5_hold_L7  (n : Nat) (vM_7 : JV) (x1_7 : Int32) : Option (JV) :=
  lp (fun (rec : JV × Int32 → Option (JV)) a => f_X5_hold_b7  (fun vM_7 x1_7 => rec (vM_7, x1_7)) a.1 a.2) n (vM_7, x1_7)
noncomputable def f_X5_hold (vM : JV)  : Option (JV) :=
  f_X5_hold_L7   FU (up2 vM 9 0 (0 : Int32)) (0 : Int32)
set_option maxRecDepth 100000 in
set_option maxHeartbeats 4000000 in
theorem c_X5_hold {l : Launch} {G : JG} (aM : Nat → Nat) (vM : JV)  {Rz : JV} (h : f_X5_hold vM = some Rz) : JM l G yX5_hold cX5_hold 2 none 0 0 [.ref (aM 0)] (wMod G aM (vM 0) (vM 1) (vM 2) (vM 3) (vM 4) (vM 5) (vM 6) (vM 7) (vM 8) (vM 9 0) (vM 10 0) (vM 11 0) (vM 12 0) (vM 13 0)) (wMod G aM (Rz 0) (Rz 1) (Rz 2) (Rz 3) (Rz 4) (Rz 5) (Rz 6) (Rz 7) (Rz 8) (Rz 9 0) (Rz 10 0) (Rz 11 0) (Rz 12 0) (Rz 13 0)) none := by
  refine JM.of (own := RX5) (tb := T_X5_hold) (by decide) (Nat.le_of_ble_eq_true rfl) D_X5_hold rfl (fun X C => ?_)
  refine J_sub (lv' := [(0, .ref (aM 0))]) [0] rfl ?_
  have B7 : ∀ (n7 : Nat) (vM_7 : JV) (x1_7 : Int32), f_X5_hold_L7  n7 vM_7 x1_7 = some Rz → J l { frames := 0, cells := 0, slots := 0, locals := 0 } G 2 X (QM X G 0 0 none (wMod G aM (Rz 0) (Rz 1) (Rz 2) (Rz 3) (Rz 4) (Rz 5) (Rz 6) (Rz 7) (Rz 8) (Rz 9 0) (Rz 10 0) (Rz 11 0) (Rz 12 0) (Rz 13 0))) 0 0 7 [(0, .ref (aM 0)), (1, .int x1_7)] [] (wMod G aM (vM_7 0) (vM_7 1) (vM_7 2) (vM_7 3) (vM_7 4) (vM_7 5) (vM_7 6) (vM_7 7) (vM_7 8) (vM_7 9 0) (vM_7 10 0) (vM_7 11 0) (vM_7 12 0) (vM_7 13 0)) := by
    intro  n7
    induction n7 with
    | zero =>
      intro vM_7 x1_7 h
      exact (no_none rfl h).elim
    | succ n7 ih7 =>
      intro vM_7 x1_7 h
      replace h : f_X5_hold_b7  (fun vM_7 x1_7 => f_X5_hold_L7  n7 vM_7 x1_7) vM_7 x1_7 = some Rz := h
      unfold f_X5_hold_b7 at h
      refine J_iload_n (pc := 7) C 5 rfl 1 rfl rfl ?_
      refine J_bipush (pc := 8) (v := (76 : Int32)) C 6 rfl rfl ?_
      refine J_icmp_ge (pc := 10) (tgt := 31) C 7 rfl rfl (fun c1 => ?_) (fun c1 => ?_)
      · rw [if_pos c1] at h
        cases h
        exact J_vret (pc := 31) C 18 rfl
      · rw [if_neg c1] at h
        refine J_aload_n (pc := 13) C 8 rfl 0 rfl rfl ?_
        refine J_get (pc := 14) (v := .ref (aM 2)) C 9 rfl TB_l5 rfl 0 1 rfl (by decide) k400 rfl rfl ?_
        refine J_iload_n (pc := 17) C 10 rfl 1 rfl rfl ?_
        refine J_aload_n (pc := 18) C 11 rfl 0 rfl rfl ?_
        refine J_get (pc := 19) (v := .ref (aM 1)) C 12 rfl TB_l5 rfl 0 0 rfl (by decide) k399 rfl rfl ?_
        refine J_iload_n (pc := 22) C 13 rfl 1 rfl rfl ?_
        obtain ⟨g2, h⟩ := gd_some h
        refine J_iald (pc := 23) (f := (vM_7 0)) (v := ((vM_7 0) (Int32.toNatClampNeg x1_7))) C 14 rfl 1 rfl g2 rfl ?_
        obtain ⟨g3, h⟩ := gd_some h
        refine J_iast (pc := 24) (f := (vM_7 1)) (m := (Int32.toNatClampNeg x1_7)) C 15 (fun mm vv => (wMod G aM (vM_7 0) (upd (vM_7 1) mm vv) (vM_7 2) (vM_7 3) (vM_7 4) (vM_7 5) (vM_7 6) (vM_7 7) (vM_7 8) (vM_7 9 0) (vM_7 10 0) (vM_7 11 0) (vM_7 12 0) (vM_7 13 0))) rfl 2 rfl g3 rfl (fun _ _ => rfl) ?_
        refine J_iinc (pc := 25) (v := (x1_7 + (1 : Int32))) (lv' := [(1, .int (x1_7 + (1 : Int32))), (0, .ref (aM 0))]) C 16 rfl 1 rfl rfl (by decide) rfl ?_
        refine J_goto (pc := 28) (tgt := 7) C 17 rfl rfl ?_
        exact J_sub [1, 0] rfl (ih7 (up2 vM_7 1 (Int32.toNatClampNeg x1_7) ((vM_7 0) (Int32.toNatClampNeg x1_7))) (x1_7 + (1 : Int32)) h)
  unfold f_X5_hold at h
  refine J_aload_n (pc := 0) C 0 rfl 0 rfl rfl ?_
  refine J_iconst (pc := 1) (v := (0 : Int32)) C 1 rfl rfl ?_
  refine J_putz (pc := 2) C 2 (fun vv => (wMod G aM (vM 0) (vM 1) (vM 2) (vM 3) (vM 4) (vM 5) (vM 6) (vM 7) (vM 8) vv (vM 10 0) (vM 11 0) (vM 12 0) (vM 13 0))) rfl rfl TB_l5 tyX5 tyX5_ok nmX5 rfl 0 9 rfl (by decide) k419 rfl rfl rfl (Nat.le_of_ble_eq_true rfl) (fun _ => rfl) ?_
  refine J_iconst (pc := 5) (v := (0 : Int32)) C 3 rfl rfl ?_
  refine J_istore_n (pc := 6) (lv' := [(1, .int (0 : Int32)), (0, .ref (aM 0))]) C 4 rfl rfl (by decide) rfl ?_
  exact J_sub [1, 0] rfl (B7  FU (up2 vM 9 0 (0 : Int32)) (0 : Int32) h)
def T_X5_recorded : List (Nat × ClassFile.Instr × Nat) := [(0, .aload_n 0, 1), (1, .getfield 47, 3), (4, .bipush 6, 2), (6, .if_icmp .ne 43, 3), (9, .iconst 0, 1), (10, .istore_n 2, 1), (11, .iload_n 2, 1), (12, .sipush 380, 3), (15, .if_icmp .ge 24, 3), (18, .aload_n 0, 1), (19, .getfield 19, 3), (22, .iload_n 2, 1), (23, .aload_n 0, 1), (24, .getfield 19, 3), (27, .bipush 76, 2), (29, .iload_n 2, 1), (30, .iadd, 1), (31, .iaload, 1), (32, .iastore, 1), (33, .iinc 2 1, 3), (36, .goto (-25), 3), (39, .aload_n 0, 1), (40, .dup, 1), (41, .getfield 47, 3), (44, .iconst 1, 1), (45, .isub, 1), (46, .putfield 47, 3), (49, .iconst 0, 1), (50, .istore_n 2, 1), (51, .iload_n 2, 1), (52, .bipush 76, 2), (54, .if_icmp .ge 29, 3), (57, .aload_n 0, 1), (58, .getfield 19, 3), (61, .bipush 76, 2), (63, .aload_n 0, 1), (64, .getfield 47, 3), (67, .imul, 1), (68, .iload_n 2, 1), (69, .iadd, 1), (70, .aload_n 0, 1), (71, .getfield 13, 3), (74, .iload_n 2, 1), (75, .iaload, 1), (76, .iastore, 1), (77, .iinc 2 1, 3), (80, .goto (-29), 3), (83, .aload_n 0, 1), (84, .dup, 1), (85, .getfield 47, 3), (88, .iconst 1, 1), (89, .iadd, 1), (90, .putfield 47, 3), (93, .iload_n 1, 1), (94, .ireturn, 1)]
theorem D_X5_recorded : ∀ q ∈ T_X5_recorded, decode cX5_recorded q.1 = .ok q.2 := by decide +kernel
theorem V_X5_recorded : Vy yX5_recorded cX5_recorded 3 (some .int) 1 := ⟨k420, k415, by decide +kernel⟩
theorem i_X5_recorded : Cond.instanceMethod yX5_recorded ∈ TB := k496
theorem s_X5_recorded : Cond.selects yX5_recorded.cls yX5_recorded yX5_recorded ∈ TB := k497
noncomputable def f_X5_recorded_b51  (x1_51 : Int32) (r51 : JV → Int32 → Option (Int32 × JV)) (vM_51 : JV) (x2_51 : Int32) : Option (Int32 × JV) :=
  (if (76 : Int32) ≤ x2_51 then some (x1_51, (up2 vM_51 11 0 ((vM_51 11 0) + (1 : Int32)))) else gd (inb x2_51 76) (gd (inb (((76 : Int32) * (vM_51 11 0)) + x2_51) 456) (r51 (up2 vM_51 3 (Int32.toNatClampNeg (((76 : Int32) * (vM_51 11 0)) + x2_51)) ((vM_51 1) (Int32.toNatClampNeg x2_51))) (x2_51 + (1 : Int32)))))
noncomputable def f_X5_recorded_L51  (x1_51 : Int32) (n : Nat) (vM_51 : JV) (x2_51 : Int32) : Option (Int32 × JV) :=
  lp (fun (rec : JV × Int32 → Option (Int32 × JV)) a => f_X5_recorded_b51  x1_51 (fun vM_51 x2_51 => rec (vM_51, x2_51)) a.1 a.2) n (vM_51, x2_51)
noncomputable def f_X5_recorded_b11  (x1_11 : Int32) (r11 : JV → Int32 → Option (Int32 × JV)) (vM_11 : JV) (x2_11 : Int32) : Option (Int32 × JV) :=
  (if (380 : Int32) ≤ x2_11 then f_X5_recorded_L51  x1_11 FU (up2 vM_11 11 0 ((vM_11 11 0) - (1 : Int32))) (0 : Int32) else gd (inb ((76 : Int32) + x2_11) 456) (gd (inb x2_11 456) (r11 (up2 vM_11 3 (Int32.toNatClampNeg x2_11) ((vM_11 3) (Int32.toNatClampNeg ((76 : Int32) + x2_11)))) (x2_11 + (1 : Int32)))))
noncomputable def f_X5_recorded_L11  (x1_11 : Int32) (n : Nat) (vM_11 : JV) (x2_11 : Int32) : Option (Int32 × JV) :=
  lp (fun (rec : JV × Int32 → Option (Int32 × JV)) a => f_X5_recorded_b11  x1_11 (fun vM_11 x2_11 => rec (vM_11, x2_11)) a.1 a.2) n (vM_11, x2_11)
noncomputable def f_X5_recorded (vM : JV) (x1 : Int32) : Option (Int32 × JV) :=
  (if (vM 11 0) = (6 : Int32) then f_X5_recorded_L11  x1 FU vM (0 : Int32) else f_X5_recorded_L51  x1 FU vM (0 : Int32))
set_option maxRecDepth 100000 in
set_option maxHeartbeats 4000000 in
theorem c_X5_recorded {l : Launch} {G : JG} (aM : Nat → Nat) (vM : JV) (x1 : Int32) {Rz : Int32 × JV} (h : f_X5_recorded vM x1 = some Rz) : JM l G yX5_recorded cX5_recorded 3 (some .int) 0 0 [.ref (aM 0), .int x1] (wMod G aM (vM 0) (vM 1) (vM 2) (vM 3) (vM 4) (vM 5) (vM 6) (vM 7) (vM 8) (vM 9 0) (vM 10 0) (vM 11 0) (vM 12 0) (vM 13 0)) (wMod G aM ((Rz.2) 0) ((Rz.2) 1) ((Rz.2) 2) ((Rz.2) 3) ((Rz.2) 4) ((Rz.2) 5) ((Rz.2) 6) ((Rz.2) 7) ((Rz.2) 8) ((Rz.2) 9 0) ((Rz.2) 10 0) ((Rz.2) 11 0) ((Rz.2) 12 0) ((Rz.2) 13 0)) (some (.int (Rz.1))) := by
  refine JM.of (own := RX5) (tb := T_X5_recorded) (by decide) (Nat.le_of_ble_eq_true rfl) D_X5_recorded rfl (fun X C => ?_)
  refine J_sub (lv' := [(0, .ref (aM 0)), (1, .int x1)]) [0, 1] rfl ?_
  have B51 : ∀ (x1_51 : Int32) (n51 : Nat) (vM_51 : JV) (x2_51 : Int32), f_X5_recorded_L51  x1_51 n51 vM_51 x2_51 = some Rz → J l { frames := 0, cells := 0, slots := 0, locals := 0 } G 3 X (QM X G 0 0 (some (.int (Rz.1))) (wMod G aM ((Rz.2) 0) ((Rz.2) 1) ((Rz.2) 2) ((Rz.2) 3) ((Rz.2) 4) ((Rz.2) 5) ((Rz.2) 6) ((Rz.2) 7) ((Rz.2) 8) ((Rz.2) 9 0) ((Rz.2) 10 0) ((Rz.2) 11 0) ((Rz.2) 12 0) ((Rz.2) 13 0))) 0 0 51 [(0, .ref (aM 0)), (1, .int x1_51), (2, .int x2_51)] [] (wMod G aM (vM_51 0) (vM_51 1) (vM_51 2) (vM_51 3) (vM_51 4) (vM_51 5) (vM_51 6) (vM_51 7) (vM_51 8) (vM_51 9 0) (vM_51 10 0) (vM_51 11 0) (vM_51 12 0) (vM_51 13 0)) := by
    intro x1_51 n51
    induction n51 with
    | zero =>
      intro vM_51 x2_51 h
      exact (no_none rfl h).elim
    | succ n51 ih51 =>
      intro vM_51 x2_51 h
      replace h : f_X5_recorded_b51  x1_51 (fun vM_51 x2_51 => f_X5_recorded_L51  x1_51 n51 vM_51 x2_51) vM_51 x2_51 = some Rz := h
      unfold f_X5_recorded_b51 at h
      refine J_iload_n (pc := 51) C 29 rfl 2 rfl rfl ?_
      refine J_bipush (pc := 52) (v := (76 : Int32)) C 30 rfl rfl ?_
      refine J_icmp_ge (pc := 54) (tgt := 83) C 31 rfl rfl (fun c2 => ?_) (fun c2 => ?_)
      · rw [if_pos c2] at h
        refine J_aload_n (pc := 83) C 47 rfl 0 rfl rfl ?_
        refine J_dup (pc := 84) C 48 rfl rfl ?_
        refine J_get (pc := 85) (v := .int (vM_51 11 0)) C 49 rfl TB_l5 rfl 0 11 rfl (by decide) k421 rfl rfl ?_
        refine J_iconst (pc := 88) (v := (1 : Int32)) C 50 rfl rfl ?_
        refine J_iadd (pc := 89) C 51 rfl  ?_
        refine J_puti (pc := 90) C 52 (fun vv => (wMod G aM (vM_51 0) (vM_51 1) (vM_51 2) (vM_51 3) (vM_51 4) (vM_51 5) (vM_51 6) (vM_51 7) (vM_51 8) (vM_51 9 0) (vM_51 10 0) vv (vM_51 12 0) (vM_51 13 0))) rfl TB_l5 tyX5 tyX5_ok nmX5 rfl 0 11 rfl (by decide) k421 rfl rfl rfl (Nat.le_of_ble_eq_true rfl) (fun _ => rfl) ?_
        refine J_iload_n (pc := 93) C 53 rfl 1 rfl rfl ?_
        cases h
        exact J_iret (pc := 94) C 54 rfl
      · rw [if_neg c2] at h
        refine J_aload_n (pc := 57) C 32 rfl 0 rfl rfl ?_
        refine J_get (pc := 58) (v := .ref (aM 4)) C 33 rfl TB_l5 rfl 0 3 rfl (by decide) k402 rfl rfl ?_
        refine J_bipush (pc := 61) (v := (76 : Int32)) C 34 rfl rfl ?_
        refine J_aload_n (pc := 63) C 35 rfl 0 rfl rfl ?_
        refine J_get (pc := 64) (v := .int (vM_51 11 0)) C 36 rfl TB_l5 rfl 0 11 rfl (by decide) k421 rfl rfl ?_
        refine J_imul (pc := 67) C 37 rfl  ?_
        refine J_iload_n (pc := 68) C 38 rfl 2 rfl rfl ?_
        refine J_iadd (pc := 69) C 39 rfl  ?_
        refine J_aload_n (pc := 70) C 40 rfl 0 rfl rfl ?_
        refine J_get (pc := 71) (v := .ref (aM 2)) C 41 rfl TB_l5 rfl 0 1 rfl (by decide) k400 rfl rfl ?_
        refine J_iload_n (pc := 74) C 42 rfl 2 rfl rfl ?_
        obtain ⟨g3, h⟩ := gd_some h
        refine J_iald (pc := 75) (f := (vM_51 1)) (v := ((vM_51 1) (Int32.toNatClampNeg x2_51))) C 43 rfl 2 rfl g3 rfl ?_
        obtain ⟨g4, h⟩ := gd_some h
        refine J_iast (pc := 76) (f := (vM_51 3)) (m := (Int32.toNatClampNeg (((76 : Int32) * (vM_51 11 0)) + x2_51))) C 44 (fun mm vv => (wMod G aM (vM_51 0) (vM_51 1) (vM_51 2) (upd (vM_51 3) mm vv) (vM_51 4) (vM_51 5) (vM_51 6) (vM_51 7) (vM_51 8) (vM_51 9 0) (vM_51 10 0) (vM_51 11 0) (vM_51 12 0) (vM_51 13 0))) rfl 4 rfl g4 rfl (fun _ _ => rfl) ?_
        refine J_iinc (pc := 77) (v := (x2_51 + (1 : Int32))) (lv' := [(2, .int (x2_51 + (1 : Int32))), (0, .ref (aM 0)), (1, .int x1_51)]) C 45 rfl 2 rfl rfl (by decide) rfl ?_
        refine J_goto (pc := 80) (tgt := 51) C 46 rfl rfl ?_
        exact J_sub [1, 2, 0] rfl (ih51 (up2 vM_51 3 (Int32.toNatClampNeg (((76 : Int32) * (vM_51 11 0)) + x2_51)) ((vM_51 1) (Int32.toNatClampNeg x2_51))) (x2_51 + (1 : Int32)) h)
  have B11 : ∀ (x1_11 : Int32) (n11 : Nat) (vM_11 : JV) (x2_11 : Int32), f_X5_recorded_L11  x1_11 n11 vM_11 x2_11 = some Rz → J l { frames := 0, cells := 0, slots := 0, locals := 0 } G 3 X (QM X G 0 0 (some (.int (Rz.1))) (wMod G aM ((Rz.2) 0) ((Rz.2) 1) ((Rz.2) 2) ((Rz.2) 3) ((Rz.2) 4) ((Rz.2) 5) ((Rz.2) 6) ((Rz.2) 7) ((Rz.2) 8) ((Rz.2) 9 0) ((Rz.2) 10 0) ((Rz.2) 11 0) ((Rz.2) 12 0) ((Rz.2) 13 0))) 0 0 11 [(0, .ref (aM 0)), (1, .int x1_11), (2, .int x2_11)] [] (wMod G aM (vM_11 0) (vM_11 1) (vM_11 2) (vM_11 3) (vM_11 4) (vM_11 5) (vM_11 6) (vM_11 7) (vM_11 8) (vM_11 9 0) (vM_11 10 0) (vM_11 11 0) (vM_11 12 0) (vM_11 13 0)) := by
    intro x1_11 n11
    induction n11 with
    | zero =>
      intro vM_11 x2_11 h
      exact (no_none rfl h).elim
    | succ n11 ih11 =>
      intro vM_11 x2_11 h
      replace h : f_X5_recorded_b11  x1_11 (fun vM_11 x2_11 => f_X5_recorded_L11  x1_11 n11 vM_11 x2_11) vM_11 x2_11 = some Rz := h
      unfold f_X5_recorded_b11 at h
      refine J_iload_n (pc := 11) C 6 rfl 2 rfl rfl ?_
      refine J_sipush (pc := 12) (v := (380 : Int32)) C 7 rfl rfl ?_
      refine J_icmp_ge (pc := 15) (tgt := 39) C 8 rfl rfl (fun c5 => ?_) (fun c5 => ?_)
      · rw [if_pos c5] at h
        refine J_aload_n (pc := 39) C 21 rfl 0 rfl rfl ?_
        refine J_dup (pc := 40) C 22 rfl rfl ?_
        refine J_get (pc := 41) (v := .int (vM_11 11 0)) C 23 rfl TB_l5 rfl 0 11 rfl (by decide) k421 rfl rfl ?_
        refine J_iconst (pc := 44) (v := (1 : Int32)) C 24 rfl rfl ?_
        refine J_isub (pc := 45) C 25 rfl  ?_
        refine J_puti (pc := 46) C 26 (fun vv => (wMod G aM (vM_11 0) (vM_11 1) (vM_11 2) (vM_11 3) (vM_11 4) (vM_11 5) (vM_11 6) (vM_11 7) (vM_11 8) (vM_11 9 0) (vM_11 10 0) vv (vM_11 12 0) (vM_11 13 0))) rfl TB_l5 tyX5 tyX5_ok nmX5 rfl 0 11 rfl (by decide) k421 rfl rfl rfl (Nat.le_of_ble_eq_true rfl) (fun _ => rfl) ?_
        refine J_iconst (pc := 49) (v := (0 : Int32)) C 27 rfl rfl ?_
        refine J_istore_n (pc := 50) (lv' := [(2, .int (0 : Int32)), (0, .ref (aM 0)), (1, .int x1_11)]) C 28 rfl rfl (by decide) rfl ?_
        exact J_sub [1, 2, 0] rfl (B51 x1_11 FU (up2 vM_11 11 0 ((vM_11 11 0) - (1 : Int32))) (0 : Int32) h)
      · rw [if_neg c5] at h
        refine J_aload_n (pc := 18) C 9 rfl 0 rfl rfl ?_
        refine J_get (pc := 19) (v := .ref (aM 4)) C 10 rfl TB_l5 rfl 0 3 rfl (by decide) k402 rfl rfl ?_
        refine J_iload_n (pc := 22) C 11 rfl 2 rfl rfl ?_
        refine J_aload_n (pc := 23) C 12 rfl 0 rfl rfl ?_
        refine J_get (pc := 24) (v := .ref (aM 4)) C 13 rfl TB_l5 rfl 0 3 rfl (by decide) k402 rfl rfl ?_
        refine J_bipush (pc := 27) (v := (76 : Int32)) C 14 rfl rfl ?_
        refine J_iload_n (pc := 29) C 15 rfl 2 rfl rfl ?_
        refine J_iadd (pc := 30) C 16 rfl  ?_
        obtain ⟨g6, h⟩ := gd_some h
        refine J_iald (pc := 31) (f := (vM_11 3)) (v := ((vM_11 3) (Int32.toNatClampNeg ((76 : Int32) + x2_11)))) C 17 rfl 4 rfl g6 rfl ?_
        obtain ⟨g7, h⟩ := gd_some h
        refine J_iast (pc := 32) (f := (vM_11 3)) (m := (Int32.toNatClampNeg x2_11)) C 18 (fun mm vv => (wMod G aM (vM_11 0) (vM_11 1) (vM_11 2) (upd (vM_11 3) mm vv) (vM_11 4) (vM_11 5) (vM_11 6) (vM_11 7) (vM_11 8) (vM_11 9 0) (vM_11 10 0) (vM_11 11 0) (vM_11 12 0) (vM_11 13 0))) rfl 4 rfl g7 rfl (fun _ _ => rfl) ?_
        refine J_iinc (pc := 33) (v := (x2_11 + (1 : Int32))) (lv' := [(2, .int (x2_11 + (1 : Int32))), (0, .ref (aM 0)), (1, .int x1_11)]) C 19 rfl 2 rfl rfl (by decide) rfl ?_
        refine J_goto (pc := 36) (tgt := 11) C 20 rfl rfl ?_
        exact J_sub [1, 2, 0] rfl (ih11 (up2 vM_11 3 (Int32.toNatClampNeg x2_11) ((vM_11 3) (Int32.toNatClampNeg ((76 : Int32) + x2_11)))) (x2_11 + (1 : Int32)) h)
  unfold f_X5_recorded at h
  refine J_aload_n (pc := 0) C 0 rfl 0 rfl rfl ?_
  refine J_get (pc := 1) (v := .int (vM 11 0)) C 1 rfl TB_l5 rfl 0 11 rfl (by decide) k421 rfl rfl ?_
  refine J_bipush (pc := 4) (v := (6 : Int32)) C 2 rfl rfl ?_
  refine J_icmp_ne (pc := 6) (tgt := 49) C 3 rfl rfl (fun c1 => ?_) (fun c1 => ?_)
  · rw [if_neg c1] at h
    refine J_iconst (pc := 49) (v := (0 : Int32)) C 27 rfl rfl ?_
    refine J_istore_n (pc := 50) (lv' := [(2, .int (0 : Int32)), (0, .ref (aM 0)), (1, .int x1)]) C 28 rfl rfl (by decide) rfl ?_
    exact J_sub [1, 2, 0] rfl (B51 x1 FU vM (0 : Int32) h)
  · rw [if_pos c1] at h
    refine J_iconst (pc := 9) (v := (0 : Int32)) C 4 rfl rfl ?_
    refine J_istore_n (pc := 10) (lv' := [(2, .int (0 : Int32)), (0, .ref (aM 0)), (1, .int x1)]) C 5 rfl rfl (by decide) rfl ?_
    exact J_sub [1, 2, 0] rfl (B11 x1 FU vM (0 : Int32) h)
def T_X5_keepTrial : List (Nat × ClassFile.Instr × Nat) := [(0, .iconst 0, 1), (1, .istore_n 1, 1), (2, .iload_n 1, 1), (3, .bipush 76, 2), (5, .if_icmp .ge 21, 3), (8, .aload_n 0, 1), (9, .getfield 16, 3), (12, .iload_n 1, 1), (13, .aload_n 0, 1), (14, .getfield 7, 3), (17, .iload_n 1, 1), (18, .iaload, 1), (19, .iastore, 1), (20, .iinc 1 1, 3), (23, .goto (-21), 3), (26, .return_, 1)]
theorem D_X5_keepTrial : ∀ q ∈ T_X5_keepTrial, decode cX5_keepTrial q.1 = .ok q.2 := by decide +kernel
theorem V_X5_keepTrial : Vy yX5_keepTrial cX5_keepTrial 2 none 0 := ⟨k422, k415, by decide +kernel⟩
theorem i_X5_keepTrial : Cond.instanceMethod yX5_keepTrial ∈ TB := k609
theorem s_X5_keepTrial : Cond.selects yX5_keepTrial.cls yX5_keepTrial yX5_keepTrial ∈ TB := k610
noncomputable def f_X5_keepTrial_b2  (r2 : JV → Int32 → Option (JV)) (vM_2 : JV) (x1_2 : Int32) : Option (JV) :=
  (if (76 : Int32) ≤ x1_2 then some vM_2 else gd (inb x1_2 76) (gd (inb x1_2 76) (r2 (up2 vM_2 2 (Int32.toNatClampNeg x1_2) ((vM_2 0) (Int32.toNatClampNeg x1_2))) (x1_2 + (1 : Int32)))))
noncomputable def f_X5_keepTrial_L2  (n : Nat) (vM_2 : JV) (x1_2 : Int32) : Option (JV) :=
  lp (fun (rec : JV × Int32 → Option (JV)) a => f_X5_keepTrial_b2  (fun vM_2 x1_2 => rec (vM_2, x1_2)) a.1 a.2) n (vM_2, x1_2)
noncomputable def f_X5_keepTrial (vM : JV)  : Option (JV) :=
  f_X5_keepTrial_L2   FU vM (0 : Int32)
set_option maxRecDepth 100000 in
set_option maxHeartbeats 4000000 in
theorem c_X5_keepTrial {l : Launch} {G : JG} (aM : Nat → Nat) (vM : JV)  {Rz : JV} (h : f_X5_keepTrial vM = some Rz) : JM l G yX5_keepTrial cX5_keepTrial 2 none 0 0 [.ref (aM 0)] (wMod G aM (vM 0) (vM 1) (vM 2) (vM 3) (vM 4) (vM 5) (vM 6) (vM 7) (vM 8) (vM 9 0) (vM 10 0) (vM 11 0) (vM 12 0) (vM 13 0)) (wMod G aM (Rz 0) (Rz 1) (Rz 2) (Rz 3) (Rz 4) (Rz 5) (Rz 6) (Rz 7) (Rz 8) (Rz 9 0) (Rz 10 0) (Rz 11 0) (Rz 12 0) (Rz 13 0)) none := by
  refine JM.of (own := RX5) (tb := T_X5_keepTrial) (by decide) (Nat.le_of_ble_eq_true rfl) D_X5_keepTrial rfl (fun X C => ?_)
  refine J_sub (lv' := [(0, .ref (aM 0))]) [0] rfl ?_
  have B2 : ∀ (n2 : Nat) (vM_2 : JV) (x1_2 : Int32), f_X5_keepTrial_L2  n2 vM_2 x1_2 = some Rz → J l { frames := 0, cells := 0, slots := 0, locals := 0 } G 2 X (QM X G 0 0 none (wMod G aM (Rz 0) (Rz 1) (Rz 2) (Rz 3) (Rz 4) (Rz 5) (Rz 6) (Rz 7) (Rz 8) (Rz 9 0) (Rz 10 0) (Rz 11 0) (Rz 12 0) (Rz 13 0))) 0 0 2 [(0, .ref (aM 0)), (1, .int x1_2)] [] (wMod G aM (vM_2 0) (vM_2 1) (vM_2 2) (vM_2 3) (vM_2 4) (vM_2 5) (vM_2 6) (vM_2 7) (vM_2 8) (vM_2 9 0) (vM_2 10 0) (vM_2 11 0) (vM_2 12 0) (vM_2 13 0)) := by
    intro  n2
    induction n2 with
    | zero =>
      intro vM_2 x1_2 h
      exact (no_none rfl h).elim
    | succ n2 ih2 =>
      intro vM_2 x1_2 h
      replace h : f_X5_keepTrial_b2  (fun vM_2 x1_2 => f_X5_keepTrial_L2  n2 vM_2 x1_2) vM_2 x1_2 = some Rz := h
      unfold f_X5_keepTrial_b2 at h
      refine J_iload_n (pc := 2) C 2 rfl 1 rfl rfl ?_
      refine J_bipush (pc := 3) (v := (76 : Int32)) C 3 rfl rfl ?_
      refine J_icmp_ge (pc := 5) (tgt := 26) C 4 rfl rfl (fun c1 => ?_) (fun c1 => ?_)
      · rw [if_pos c1] at h
        cases h
        exact J_vret (pc := 26) C 15 rfl
      · rw [if_neg c1] at h
        refine J_aload_n (pc := 8) C 5 rfl 0 rfl rfl ?_
        refine J_get (pc := 9) (v := .ref (aM 3)) C 6 rfl TB_l5 rfl 0 2 rfl (by decide) k401 rfl rfl ?_
        refine J_iload_n (pc := 12) C 7 rfl 1 rfl rfl ?_
        refine J_aload_n (pc := 13) C 8 rfl 0 rfl rfl ?_
        refine J_get (pc := 14) (v := .ref (aM 1)) C 9 rfl TB_l5 rfl 0 0 rfl (by decide) k399 rfl rfl ?_
        refine J_iload_n (pc := 17) C 10 rfl 1 rfl rfl ?_
        obtain ⟨g2, h⟩ := gd_some h
        refine J_iald (pc := 18) (f := (vM_2 0)) (v := ((vM_2 0) (Int32.toNatClampNeg x1_2))) C 11 rfl 1 rfl g2 rfl ?_
        obtain ⟨g3, h⟩ := gd_some h
        refine J_iast (pc := 19) (f := (vM_2 2)) (m := (Int32.toNatClampNeg x1_2)) C 12 (fun mm vv => (wMod G aM (vM_2 0) (vM_2 1) (upd (vM_2 2) mm vv) (vM_2 3) (vM_2 4) (vM_2 5) (vM_2 6) (vM_2 7) (vM_2 8) (vM_2 9 0) (vM_2 10 0) (vM_2 11 0) (vM_2 12 0) (vM_2 13 0))) rfl 3 rfl g3 rfl (fun _ _ => rfl) ?_
        refine J_iinc (pc := 20) (v := (x1_2 + (1 : Int32))) (lv' := [(1, .int (x1_2 + (1 : Int32))), (0, .ref (aM 0))]) C 13 rfl 1 rfl rfl (by decide) rfl ?_
        refine J_goto (pc := 23) (tgt := 2) C 14 rfl rfl ?_
        exact J_sub [1, 0] rfl (ih2 (up2 vM_2 2 (Int32.toNatClampNeg x1_2) ((vM_2 0) (Int32.toNatClampNeg x1_2))) (x1_2 + (1 : Int32)) h)
  unfold f_X5_keepTrial at h
  refine J_iconst (pc := 0) (v := (0 : Int32)) C 0 rfl rfl ?_
  refine J_istore_n (pc := 1) (lv' := [(1, .int (0 : Int32)), (0, .ref (aM 0))]) C 1 rfl rfl (by decide) rfl ?_
  exact J_sub [1, 0] rfl (B2  FU vM (0 : Int32) h)
def T_X5_putBack : List (Nat × ClassFile.Instr × Nat) := [(0, .iconst 0, 1), (1, .istore_n 1, 1), (2, .iload_n 1, 1), (3, .bipush 76, 2), (5, .if_icmp .ge 21, 3), (8, .aload_n 0, 1), (9, .getfield 7, 3), (12, .iload_n 1, 1), (13, .aload_n 0, 1), (14, .getfield 16, 3), (17, .iload_n 1, 1), (18, .iaload, 1), (19, .iastore, 1), (20, .iinc 1 1, 3), (23, .goto (-21), 3), (26, .return_, 1)]
theorem D_X5_putBack : ∀ q ∈ T_X5_putBack, decode cX5_putBack q.1 = .ok q.2 := by decide +kernel
theorem V_X5_putBack : Vy yX5_putBack cX5_putBack 2 none 0 := ⟨k423, k415, by decide +kernel⟩
theorem i_X5_putBack : Cond.instanceMethod yX5_putBack ∈ TB := k612
theorem s_X5_putBack : Cond.selects yX5_putBack.cls yX5_putBack yX5_putBack ∈ TB := k613
noncomputable def f_X5_putBack_b2  (r2 : JV → Int32 → Option (JV)) (vM_2 : JV) (x1_2 : Int32) : Option (JV) :=
  (if (76 : Int32) ≤ x1_2 then some vM_2 else gd (inb x1_2 76) (gd (inb x1_2 76) (r2 (up2 vM_2 0 (Int32.toNatClampNeg x1_2) ((vM_2 2) (Int32.toNatClampNeg x1_2))) (x1_2 + (1 : Int32)))))
noncomputable def f_X5_putBack_L2  (n : Nat) (vM_2 : JV) (x1_2 : Int32) : Option (JV) :=
  lp (fun (rec : JV × Int32 → Option (JV)) a => f_X5_putBack_b2  (fun vM_2 x1_2 => rec (vM_2, x1_2)) a.1 a.2) n (vM_2, x1_2)
noncomputable def f_X5_putBack (vM : JV)  : Option (JV) :=
  f_X5_putBack_L2   FU vM (0 : Int32)
set_option maxRecDepth 100000 in
set_option maxHeartbeats 4000000 in
theorem c_X5_putBack {l : Launch} {G : JG} (aM : Nat → Nat) (vM : JV)  {Rz : JV} (h : f_X5_putBack vM = some Rz) : JM l G yX5_putBack cX5_putBack 2 none 0 0 [.ref (aM 0)] (wMod G aM (vM 0) (vM 1) (vM 2) (vM 3) (vM 4) (vM 5) (vM 6) (vM 7) (vM 8) (vM 9 0) (vM 10 0) (vM 11 0) (vM 12 0) (vM 13 0)) (wMod G aM (Rz 0) (Rz 1) (Rz 2) (Rz 3) (Rz 4) (Rz 5) (Rz 6) (Rz 7) (Rz 8) (Rz 9 0) (Rz 10 0) (Rz 11 0) (Rz 12 0) (Rz 13 0)) none := by
  refine JM.of (own := RX5) (tb := T_X5_putBack) (by decide) (Nat.le_of_ble_eq_true rfl) D_X5_putBack rfl (fun X C => ?_)
  refine J_sub (lv' := [(0, .ref (aM 0))]) [0] rfl ?_
  have B2 : ∀ (n2 : Nat) (vM_2 : JV) (x1_2 : Int32), f_X5_putBack_L2  n2 vM_2 x1_2 = some Rz → J l { frames := 0, cells := 0, slots := 0, locals := 0 } G 2 X (QM X G 0 0 none (wMod G aM (Rz 0) (Rz 1) (Rz 2) (Rz 3) (Rz 4) (Rz 5) (Rz 6) (Rz 7) (Rz 8) (Rz 9 0) (Rz 10 0) (Rz 11 0) (Rz 12 0) (Rz 13 0))) 0 0 2 [(0, .ref (aM 0)), (1, .int x1_2)] [] (wMod G aM (vM_2 0) (vM_2 1) (vM_2 2) (vM_2 3) (vM_2 4) (vM_2 5) (vM_2 6) (vM_2 7) (vM_2 8) (vM_2 9 0) (vM_2 10 0) (vM_2 11 0) (vM_2 12 0) (vM_2 13 0)) := by
    intro  n2
    induction n2 with
    | zero =>
      intro vM_2 x1_2 h
      exact (no_none rfl h).elim
    | succ n2 ih2 =>
      intro vM_2 x1_2 h
      replace h : f_X5_putBack_b2  (fun vM_2 x1_2 => f_X5_putBack_L2  n2 vM_2 x1_2) vM_2 x1_2 = some Rz := h
      unfold f_X5_putBack_b2 at h
      refine J_iload_n (pc := 2) C 2 rfl 1 rfl rfl ?_
      refine J_bipush (pc := 3) (v := (76 : Int32)) C 3 rfl rfl ?_
      refine J_icmp_ge (pc := 5) (tgt := 26) C 4 rfl rfl (fun c1 => ?_) (fun c1 => ?_)
      · rw [if_pos c1] at h
        cases h
        exact J_vret (pc := 26) C 15 rfl
      · rw [if_neg c1] at h
        refine J_aload_n (pc := 8) C 5 rfl 0 rfl rfl ?_
        refine J_get (pc := 9) (v := .ref (aM 1)) C 6 rfl TB_l5 rfl 0 0 rfl (by decide) k399 rfl rfl ?_
        refine J_iload_n (pc := 12) C 7 rfl 1 rfl rfl ?_
        refine J_aload_n (pc := 13) C 8 rfl 0 rfl rfl ?_
        refine J_get (pc := 14) (v := .ref (aM 3)) C 9 rfl TB_l5 rfl 0 2 rfl (by decide) k401 rfl rfl ?_
        refine J_iload_n (pc := 17) C 10 rfl 1 rfl rfl ?_
        obtain ⟨g2, h⟩ := gd_some h
        refine J_iald (pc := 18) (f := (vM_2 2)) (v := ((vM_2 2) (Int32.toNatClampNeg x1_2))) C 11 rfl 3 rfl g2 rfl ?_
        obtain ⟨g3, h⟩ := gd_some h
        refine J_iast (pc := 19) (f := (vM_2 0)) (m := (Int32.toNatClampNeg x1_2)) C 12 (fun mm vv => (wMod G aM (upd (vM_2 0) mm vv) (vM_2 1) (vM_2 2) (vM_2 3) (vM_2 4) (vM_2 5) (vM_2 6) (vM_2 7) (vM_2 8) (vM_2 9 0) (vM_2 10 0) (vM_2 11 0) (vM_2 12 0) (vM_2 13 0))) rfl 1 rfl g3 rfl (fun _ _ => rfl) ?_
        refine J_iinc (pc := 20) (v := (x1_2 + (1 : Int32))) (lv' := [(1, .int (x1_2 + (1 : Int32))), (0, .ref (aM 0))]) C 13 rfl 1 rfl rfl (by decide) rfl ?_
        refine J_goto (pc := 23) (tgt := 2) C 14 rfl rfl ?_
        exact J_sub [1, 0] rfl (ih2 (up2 vM_2 0 (Int32.toNatClampNeg x1_2) ((vM_2 2) (Int32.toNatClampNeg x1_2))) (x1_2 + (1 : Int32)) h)
  unfold f_X5_putBack at h
  refine J_iconst (pc := 0) (v := (0 : Int32)) C 0 rfl rfl ?_
  refine J_istore_n (pc := 1) (lv' := [(1, .int (0 : Int32)), (0, .ref (aM 0))]) C 1 rfl rfl (by decide) rfl ?_
  exact J_sub [1, 0] rfl (B2  FU vM (0 : Int32) h)
def T_X5_isSitting : List (Nat × ClassFile.Instr × Nat) := [(0, .iload_n 1, 1), (1, .bipush 6, 2), (3, .idiv, 1), (4, .aload_n 0, 1), (5, .getfield 7, 3), (8, .iconst 3, 1), (9, .iaload, 1), (10, .if_icmp .ge 32, 3), (13, .aload_n 0, 1), (14, .getfield 7, 3), (17, .iload_n 1, 1), (18, .bipush 6, 2), (20, .idiv, 1), (21, .invokestatic 51, 3), (24, .iconst 0, 1), (25, .iadd, 1), (26, .iaload, 1), (27, .iload_n 1, 1), (28, .bipush 6, 2), (30, .irem, 1), (31, .ishr, 1), (32, .iconst 1, 1), (33, .iand, 1), (34, .iconst 1, 1), (35, .if_icmp .ne 7, 3), (38, .iconst 1, 1), (39, .goto 4, 3), (42, .iconst 0, 1), (43, .ireturn, 1)]
theorem D_X5_isSitting : ∀ q ∈ T_X5_isSitting, decode cX5_isSitting q.1 = .ok q.2 := by decide +kernel
theorem V_X5_isSitting : Vy yX5_isSitting cX5_isSitting 2 (some .boolean) 1 := ⟨k424, k415, by decide +kernel⟩
theorem i_X5_isSitting : Cond.instanceMethod yX5_isSitting ∈ TB := k466
theorem s_X5_isSitting : Cond.selects yX5_isSitting.cls yX5_isSitting yX5_isSitting ∈ TB := k467
noncomputable def f_X5_isSitting (vM : JV) (x1 : Int32) : Option (Int32) :=
  (if ((vM 0) 3) ≤ (x1 / (6 : Int32)) then some (0 : Int32) else (f_X5_p (x1 / (6 : Int32))).bind (fun q2 => gd (inb (q2 + (0 : Int32)) 76) ((if ((((vM 0) (Int32.toNatClampNeg (q2 + (0 : Int32)))) >>> ((x1 - x1 / (6 : Int32) * (6 : Int32)) &&& 31)) &&& (1 : Int32)) = (1 : Int32) then some (1 : Int32) else some (0 : Int32)))))
set_option maxRecDepth 100000 in
set_option maxHeartbeats 4000000 in
theorem c_X5_isSitting {l : Launch} {G : JG} (aM : Nat → Nat) (vM : JV) (x1 : Int32) {Rz : Int32} (h : f_X5_isSitting vM x1 = some Rz) : JM l G yX5_isSitting cX5_isSitting 2 (some .boolean) 1 20 [.ref (aM 0), .int x1] (wMod G aM (vM 0) (vM 1) (vM 2) (vM 3) (vM 4) (vM 5) (vM 6) (vM 7) (vM 8) (vM 9 0) (vM 10 0) (vM 11 0) (vM 12 0) (vM 13 0)) (wMod G aM (vM 0) (vM 1) (vM 2) (vM 3) (vM 4) (vM 5) (vM 6) (vM 7) (vM 8) (vM 9 0) (vM 10 0) (vM 11 0) (vM 12 0) (vM 13 0)) (some (.int Rz)) := by
  refine JM.of (own := RX5) (tb := T_X5_isSitting) (by decide) (Nat.le_of_ble_eq_true rfl) D_X5_isSitting rfl (fun X C => ?_)
  refine J_sub (lv' := [(0, .ref (aM 0)), (1, .int x1)]) [0, 1] rfl ?_
  unfold f_X5_isSitting at h
  refine J_iload_n (pc := 0) C 0 rfl 1 rfl rfl ?_
  refine J_bipush (pc := 1) (v := (6 : Int32)) C 1 rfl rfl ?_
  refine J_idiv (pc := 3) C 2 rfl (by decide) ?_
  refine J_aload_n (pc := 4) C 3 rfl 0 rfl rfl ?_
  refine J_get (pc := 5) (v := .ref (aM 1)) C 4 rfl TB_l5 rfl 0 0 rfl (by decide) k399 rfl rfl ?_
  refine J_iconst (pc := 8) (v := (3 : Int32)) C 5 rfl rfl ?_
  refine J_iald (pc := 9) (f := (vM 0)) (v := ((vM 0) 3)) C 6 rfl 1 rfl rfl rfl ?_
  refine J_icmp_ge (pc := 10) (tgt := 42) C 7 rfl rfl (fun c1 => ?_) (fun c1 => ?_)
  · rw [if_pos c1] at h
    refine J_iconst (pc := 42) (v := (0 : Int32)) C 27 rfl rfl ?_
    cases h
    exact J_zret (pc := 43) C 28 rfl rfl
  · rw [if_neg c1] at h
    refine J_aload_n (pc := 13) C 8 rfl 0 rfl rfl ?_
    refine J_get (pc := 14) (v := .ref (aM 1)) C 9 rfl TB_l5 rfl 0 0 rfl (by decide) k399 rfl rfl ?_
    refine J_iload_n (pc := 17) C 10 rfl 1 rfl rfl ?_
    refine J_bipush (pc := 18) (v := (6 : Int32)) C 11 rfl rfl ?_
    refine J_idiv (pc := 20) C 12 rfl (by decide) ?_
    obtain ⟨q2, hq2, h⟩ := bnd h
    refine J_callS (pc := 21) (st2 := [.ref (aM 1)]) (st3 := [.int q2, .ref (aM 1)]) (ws2 := (wMod G aM (vM 0) (vM 1) (vM 2) (vM 3) (vM 4) (vM 5) (vM 6) (vM 7) (vM 8) (vM 9 0) (vM 10 0) (vM 11 0) (vM 12 0) (vM 13 0))) C 13 rfl (c_X5_p (x1 / (6 : Int32)) hq2) V_X5_p k425 t_X5_p rfl rfl ⟨Nat.le_of_ble_eq_true rfl, Nat.le_of_ble_eq_true rfl⟩ (Nat.le_of_ble_eq_true rfl) ⟨Nat.le_refl _, Nat.le_refl _⟩ (isC := []) (isR := [0, 1, 2, 3, 4, 5, 6, 7, 8, 9]) (N := 10) ⟨rfl, by decide +kernel, rfl, by decide +kernel, rfl, ⟨⟨_, rfl, rfl⟩, ⟨⟨_, rfl, rfl⟩, ⟨⟨_, rfl, rfl⟩, ⟨⟨_, rfl, rfl⟩, ⟨⟨_, rfl, rfl⟩, ⟨⟨_, rfl, rfl⟩, ⟨⟨_, rfl, rfl⟩, ⟨⟨_, rfl, rfl⟩, ⟨⟨_, rfl, rfl⟩, ⟨⟨_, rfl, rfl⟩, trivial⟩⟩⟩⟩⟩⟩⟩⟩⟩⟩⟩ rfl ?_
    refine J_iconst (pc := 24) (v := (0 : Int32)) C 14 rfl rfl ?_
    refine J_iadd (pc := 25) C 15 rfl  ?_
    obtain ⟨g3, h⟩ := gd_some h
    refine J_iald (pc := 26) (f := (vM 0)) (v := ((vM 0) (Int32.toNatClampNeg (q2 + (0 : Int32))))) C 16 rfl 1 rfl g3 rfl ?_
    refine J_iload_n (pc := 27) C 17 rfl 1 rfl rfl ?_
    refine J_bipush (pc := 28) (v := (6 : Int32)) C 18 rfl rfl ?_
    refine J_irem (pc := 30) C 19 rfl (by decide) ?_
    refine J_ishr (pc := 31) C 20 rfl  ?_
    refine J_iconst (pc := 32) (v := (1 : Int32)) C 21 rfl rfl ?_
    refine J_iand (pc := 33) C 22 rfl  ?_
    refine J_iconst (pc := 34) (v := (1 : Int32)) C 23 rfl rfl ?_
    refine J_icmp_ne (pc := 35) (tgt := 42) C 24 rfl rfl (fun c4 => ?_) (fun c4 => ?_)
    · rw [if_neg c4] at h
      refine J_iconst (pc := 42) (v := (0 : Int32)) C 27 rfl rfl ?_
      cases h
      exact J_zret (pc := 43) C 28 rfl rfl
    · rw [if_pos c4] at h
      refine J_iconst (pc := 38) (v := (1 : Int32)) C 25 rfl rfl ?_
      refine J_goto (pc := 39) (tgt := 43) C 26 rfl rfl ?_
      cases h
      exact J_zret (pc := 43) C 28 rfl rfl
def T_X5_begins : List (Nat × ClassFile.Instr × Nat) := [(0, .bipush 30, 2), (2, .aload_n 0, 1), (3, .getfield 7, 3), (6, .iconst 4, 1), (7, .iconst 2, 1), (8, .iload_n 1, 1), (9, .bipush 6, 2), (11, .irem, 1), (12, .imul, 1), (13, .iadd, 1), (14, .iaload, 1), (15, .imul, 1), (16, .ireturn, 1)]
theorem D_X5_begins : ∀ q ∈ T_X5_begins, decode cX5_begins q.1 = .ok q.2 := by decide +kernel
theorem V_X5_begins : Vy yX5_begins cX5_begins 2 (some .int) 1 := ⟨k427, k415, by decide +kernel⟩
theorem i_X5_begins : Cond.instanceMethod yX5_begins ∈ TB := k431
theorem s_X5_begins : Cond.selects yX5_begins.cls yX5_begins yX5_begins ∈ TB := k432
noncomputable def f_X5_begins (vM : JV) (x1 : Int32) : Option (Int32) :=
  gd (inb ((4 : Int32) + ((2 : Int32) * (x1 - x1 / (6 : Int32) * (6 : Int32)))) 76) (some ((30 : Int32) * ((vM 0) (Int32.toNatClampNeg ((4 : Int32) + ((2 : Int32) * (x1 - x1 / (6 : Int32) * (6 : Int32))))))))
set_option maxRecDepth 100000 in
set_option maxHeartbeats 4000000 in
theorem c_X5_begins {l : Launch} {G : JG} (aM : Nat → Nat) (vM : JV) (x1 : Int32) {Rz : Int32} (h : f_X5_begins vM x1 = some Rz) : JM l G yX5_begins cX5_begins 2 (some .int) 0 0 [.ref (aM 0), .int x1] (wMod G aM (vM 0) (vM 1) (vM 2) (vM 3) (vM 4) (vM 5) (vM 6) (vM 7) (vM 8) (vM 9 0) (vM 10 0) (vM 11 0) (vM 12 0) (vM 13 0)) (wMod G aM (vM 0) (vM 1) (vM 2) (vM 3) (vM 4) (vM 5) (vM 6) (vM 7) (vM 8) (vM 9 0) (vM 10 0) (vM 11 0) (vM 12 0) (vM 13 0)) (some (.int Rz)) := by
  refine JM.of (own := RX5) (tb := T_X5_begins) (by decide) (Nat.le_of_ble_eq_true rfl) D_X5_begins rfl (fun X C => ?_)
  refine J_sub (lv' := [(0, .ref (aM 0)), (1, .int x1)]) [0, 1] rfl ?_
  unfold f_X5_begins at h
  refine J_bipush (pc := 0) (v := (30 : Int32)) C 0 rfl rfl ?_
  refine J_aload_n (pc := 2) C 1 rfl 0 rfl rfl ?_
  refine J_get (pc := 3) (v := .ref (aM 1)) C 2 rfl TB_l5 rfl 0 0 rfl (by decide) k399 rfl rfl ?_
  refine J_iconst (pc := 6) (v := (4 : Int32)) C 3 rfl rfl ?_
  refine J_iconst (pc := 7) (v := (2 : Int32)) C 4 rfl rfl ?_
  refine J_iload_n (pc := 8) C 5 rfl 1 rfl rfl ?_
  refine J_bipush (pc := 9) (v := (6 : Int32)) C 6 rfl rfl ?_
  refine J_irem (pc := 11) C 7 rfl (by decide) ?_
  refine J_imul (pc := 12) C 8 rfl  ?_
  refine J_iadd (pc := 13) C 9 rfl  ?_
  obtain ⟨g1, h⟩ := gd_some h
  refine J_iald (pc := 14) (f := (vM 0)) (v := ((vM 0) (Int32.toNatClampNeg ((4 : Int32) + ((2 : Int32) * (x1 - x1 / (6 : Int32) * (6 : Int32))))))) C 10 rfl 1 rfl g1 rfl ?_
  refine J_imul (pc := 15) C 11 rfl  ?_
  cases h
  exact J_iret (pc := 16) C 12 rfl
def T_X5_minutes : List (Nat × ClassFile.Instr × Nat) := [(0, .aload_n 0, 1), (1, .getfield 7, 3), (4, .iconst 4, 1), (5, .iconst 2, 1), (6, .iload_n 1, 1), (7, .bipush 6, 2), (9, .irem, 1), (10, .imul, 1), (11, .iadd, 1), (12, .iconst 1, 1), (13, .iadd, 1), (14, .iaload, 1), (15, .bipush 100, 2), (17, .aload_n 0, 1), (18, .getfield 7, 3), (21, .iload_n 1, 1), (22, .bipush 6, 2), (24, .idiv, 1), (25, .invokestatic 51, 3), (28, .iconst 1, 1), (29, .iadd, 1), (30, .iaload, 1), (31, .iadd, 1), (32, .imul, 1), (33, .bipush 99, 2), (35, .iadd, 1), (36, .bipush 100, 2), (38, .idiv, 1), (39, .ireturn, 1)]
theorem D_X5_minutes : ∀ q ∈ T_X5_minutes, decode cX5_minutes q.1 = .ok q.2 := by decide +kernel
theorem V_X5_minutes : Vy yX5_minutes cX5_minutes 2 (some .int) 1 := ⟨k428, k415, by decide +kernel⟩
theorem i_X5_minutes : Cond.instanceMethod yX5_minutes ∈ TB := k434
theorem s_X5_minutes : Cond.selects yX5_minutes.cls yX5_minutes yX5_minutes ∈ TB := k435
noncomputable def f_X5_minutes (vM : JV) (x1 : Int32) : Option (Int32) :=
  gd (inb (((4 : Int32) + ((2 : Int32) * (x1 - x1 / (6 : Int32) * (6 : Int32)))) + (1 : Int32)) 76) ((f_X5_p (x1 / (6 : Int32))).bind (fun q2 => gd (inb (q2 + (1 : Int32)) 76) (some (((((vM 0) (Int32.toNatClampNeg (((4 : Int32) + ((2 : Int32) * (x1 - x1 / (6 : Int32) * (6 : Int32)))) + (1 : Int32)))) * ((100 : Int32) + ((vM 0) (Int32.toNatClampNeg (q2 + (1 : Int32)))))) + (99 : Int32)) / (100 : Int32)))))
set_option maxRecDepth 100000 in
set_option maxHeartbeats 4000000 in
theorem c_X5_minutes {l : Launch} {G : JG} (aM : Nat → Nat) (vM : JV) (x1 : Int32) {Rz : Int32} (h : f_X5_minutes vM x1 = some Rz) : JM l G yX5_minutes cX5_minutes 2 (some .int) 1 20 [.ref (aM 0), .int x1] (wMod G aM (vM 0) (vM 1) (vM 2) (vM 3) (vM 4) (vM 5) (vM 6) (vM 7) (vM 8) (vM 9 0) (vM 10 0) (vM 11 0) (vM 12 0) (vM 13 0)) (wMod G aM (vM 0) (vM 1) (vM 2) (vM 3) (vM 4) (vM 5) (vM 6) (vM 7) (vM 8) (vM 9 0) (vM 10 0) (vM 11 0) (vM 12 0) (vM 13 0)) (some (.int Rz)) := by
  refine JM.of (own := RX5) (tb := T_X5_minutes) (by decide) (Nat.le_of_ble_eq_true rfl) D_X5_minutes rfl (fun X C => ?_)
  refine J_sub (lv' := [(0, .ref (aM 0)), (1, .int x1)]) [0, 1] rfl ?_
  unfold f_X5_minutes at h
  refine J_aload_n (pc := 0) C 0 rfl 0 rfl rfl ?_
  refine J_get (pc := 1) (v := .ref (aM 1)) C 1 rfl TB_l5 rfl 0 0 rfl (by decide) k399 rfl rfl ?_
  refine J_iconst (pc := 4) (v := (4 : Int32)) C 2 rfl rfl ?_
  refine J_iconst (pc := 5) (v := (2 : Int32)) C 3 rfl rfl ?_
  refine J_iload_n (pc := 6) C 4 rfl 1 rfl rfl ?_
  refine J_bipush (pc := 7) (v := (6 : Int32)) C 5 rfl rfl ?_
  refine J_irem (pc := 9) C 6 rfl (by decide) ?_
  refine J_imul (pc := 10) C 7 rfl  ?_
  refine J_iadd (pc := 11) C 8 rfl  ?_
  refine J_iconst (pc := 12) (v := (1 : Int32)) C 9 rfl rfl ?_
  refine J_iadd (pc := 13) C 10 rfl  ?_
  obtain ⟨g1, h⟩ := gd_some h
  refine J_iald (pc := 14) (f := (vM 0)) (v := ((vM 0) (Int32.toNatClampNeg (((4 : Int32) + ((2 : Int32) * (x1 - x1 / (6 : Int32) * (6 : Int32)))) + (1 : Int32))))) C 11 rfl 1 rfl g1 rfl ?_
  refine J_bipush (pc := 15) (v := (100 : Int32)) C 12 rfl rfl ?_
  refine J_aload_n (pc := 17) C 13 rfl 0 rfl rfl ?_
  refine J_get (pc := 18) (v := .ref (aM 1)) C 14 rfl TB_l5 rfl 0 0 rfl (by decide) k399 rfl rfl ?_
  refine J_iload_n (pc := 21) C 15 rfl 1 rfl rfl ?_
  refine J_bipush (pc := 22) (v := (6 : Int32)) C 16 rfl rfl ?_
  refine J_idiv (pc := 24) C 17 rfl (by decide) ?_
  obtain ⟨q2, hq2, h⟩ := bnd h
  refine J_callS (pc := 25) (st2 := [.ref (aM 1), .int (100 : Int32), .int ((vM 0) (Int32.toNatClampNeg (((4 : Int32) + ((2 : Int32) * (x1 - x1 / (6 : Int32) * (6 : Int32)))) + (1 : Int32))))]) (st3 := [.int q2, .ref (aM 1), .int (100 : Int32), .int ((vM 0) (Int32.toNatClampNeg (((4 : Int32) + ((2 : Int32) * (x1 - x1 / (6 : Int32) * (6 : Int32)))) + (1 : Int32))))]) (ws2 := (wMod G aM (vM 0) (vM 1) (vM 2) (vM 3) (vM 4) (vM 5) (vM 6) (vM 7) (vM 8) (vM 9 0) (vM 10 0) (vM 11 0) (vM 12 0) (vM 13 0))) C 18 rfl (c_X5_p (x1 / (6 : Int32)) hq2) V_X5_p k425 t_X5_p rfl rfl ⟨Nat.le_of_ble_eq_true rfl, Nat.le_of_ble_eq_true rfl⟩ (Nat.le_of_ble_eq_true rfl) ⟨Nat.le_refl _, Nat.le_refl _⟩ (isC := []) (isR := [0, 1, 2, 3, 4, 5, 6, 7, 8, 9]) (N := 10) ⟨rfl, by decide +kernel, rfl, by decide +kernel, rfl, ⟨⟨_, rfl, rfl⟩, ⟨⟨_, rfl, rfl⟩, ⟨⟨_, rfl, rfl⟩, ⟨⟨_, rfl, rfl⟩, ⟨⟨_, rfl, rfl⟩, ⟨⟨_, rfl, rfl⟩, ⟨⟨_, rfl, rfl⟩, ⟨⟨_, rfl, rfl⟩, ⟨⟨_, rfl, rfl⟩, ⟨⟨_, rfl, rfl⟩, trivial⟩⟩⟩⟩⟩⟩⟩⟩⟩⟩⟩ rfl ?_
  refine J_iconst (pc := 28) (v := (1 : Int32)) C 19 rfl rfl ?_
  refine J_iadd (pc := 29) C 20 rfl  ?_
  obtain ⟨g3, h⟩ := gd_some h
  refine J_iald (pc := 30) (f := (vM 0)) (v := ((vM 0) (Int32.toNatClampNeg (q2 + (1 : Int32))))) C 21 rfl 1 rfl g3 rfl ?_
  refine J_iadd (pc := 31) C 22 rfl  ?_
  refine J_imul (pc := 32) C 23 rfl  ?_
  refine J_bipush (pc := 33) (v := (99 : Int32)) C 24 rfl rfl ?_
  refine J_iadd (pc := 35) C 25 rfl  ?_
  refine J_bipush (pc := 36) (v := (100 : Int32)) C 26 rfl rfl ?_
  refine J_idiv (pc := 38) C 27 rfl (by decide) ?_
  cases h
  exact J_iret (pc := 39) C 28 rfl
def T_X5_ends : List (Nat × ClassFile.Instr × Nat) := [(0, .aload_n 0, 1), (1, .iload_n 1, 1), (2, .invokevirtual 55, 3), (5, .aload_n 0, 1), (6, .iload_n 1, 1), (7, .invokevirtual 58, 3), (10, .iadd, 1), (11, .ireturn, 1)]
theorem D_X5_ends : ∀ q ∈ T_X5_ends, decode cX5_ends q.1 = .ok q.2 := by decide +kernel
theorem V_X5_ends : Vy yX5_ends cX5_ends 2 (some .int) 1 := ⟨k429, k415, by decide +kernel⟩
theorem i_X5_ends : Cond.instanceMethod yX5_ends ∈ TB := k439
theorem s_X5_ends : Cond.selects yX5_ends.cls yX5_ends yX5_ends ∈ TB := k440
noncomputable def f_X5_ends (vM : JV) (x1 : Int32) : Option (Int32) :=
  (f_X5_begins vM x1).bind (fun q1 => (f_X5_minutes vM x1).bind (fun q2 => some (q1 + q2)))
set_option maxRecDepth 100000 in
set_option maxHeartbeats 4000000 in
theorem c_X5_ends {l : Launch} {G : JG} (aM : Nat → Nat) (vM : JV) (x1 : Int32) {Rz : Int32} (h : f_X5_ends vM x1 = some Rz) : JM l G yX5_ends cX5_ends 2 (some .int) 2 41 [.ref (aM 0), .int x1] (wMod G aM (vM 0) (vM 1) (vM 2) (vM 3) (vM 4) (vM 5) (vM 6) (vM 7) (vM 8) (vM 9 0) (vM 10 0) (vM 11 0) (vM 12 0) (vM 13 0)) (wMod G aM (vM 0) (vM 1) (vM 2) (vM 3) (vM 4) (vM 5) (vM 6) (vM 7) (vM 8) (vM 9 0) (vM 10 0) (vM 11 0) (vM 12 0) (vM 13 0)) (some (.int Rz)) := by
  refine JM.of (own := RX5) (tb := T_X5_ends) (by decide) (Nat.le_of_ble_eq_true rfl) D_X5_ends rfl (fun X C => ?_)
  refine J_sub (lv' := [(0, .ref (aM 0)), (1, .int x1)]) [0, 1] rfl ?_
  unfold f_X5_ends at h
  refine J_aload_n (pc := 0) C 0 rfl 0 rfl rfl ?_
  refine J_iload_n (pc := 1) C 1 rfl 1 rfl rfl ?_
  obtain ⟨q1, hq1, h⟩ := bnd h
  refine J_callV (pc := 2) (st2 := []) (st3 := [.int q1]) (ws2 := (wMod G aM (vM 0) (vM 1) (vM 2) (vM 3) (vM 4) (vM 5) (vM 6) (vM 7) (vM 8) (vM 9 0) (vM 10 0) (vM 11 0) (vM 12 0) (vM 13 0))) C 2 rfl (c_X5_begins aM vM x1 hq1) V_X5_begins k430 i_X5_begins s_X5_begins rfl rfl ⟨Nat.le_of_ble_eq_true rfl, Nat.le_of_ble_eq_true rfl⟩ (Nat.le_of_ble_eq_true rfl) ⟨Nat.le_refl _, Nat.le_refl _⟩ 0 5 rfl rfl rfl (isC := [0, 1, 2, 3, 4, 5, 6, 7, 8, 9]) (isR := []) (N := 10) ⟨rfl, by decide +kernel, rfl, by decide +kernel, rfl, trivial⟩ rfl ?_
  refine J_aload_n (pc := 5) C 3 rfl 0 rfl rfl ?_
  refine J_iload_n (pc := 6) C 4 rfl 1 rfl rfl ?_
  obtain ⟨q2, hq2, h⟩ := bnd h
  refine J_callV (pc := 7) (st2 := [.int q1]) (st3 := [.int q2, .int q1]) (ws2 := (wMod G aM (vM 0) (vM 1) (vM 2) (vM 3) (vM 4) (vM 5) (vM 6) (vM 7) (vM 8) (vM 9 0) (vM 10 0) (vM 11 0) (vM 12 0) (vM 13 0))) C 5 rfl (c_X5_minutes aM vM x1 hq2) V_X5_minutes k433 i_X5_minutes s_X5_minutes rfl rfl ⟨Nat.le_of_ble_eq_true rfl, Nat.le_of_ble_eq_true rfl⟩ (Nat.le_of_ble_eq_true rfl) ⟨Nat.le_refl _, Nat.le_refl _⟩ 0 5 rfl rfl rfl (isC := [0, 1, 2, 3, 4, 5, 6, 7, 8, 9]) (isR := []) (N := 10) ⟨rfl, by decide +kernel, rfl, by decide +kernel, rfl, trivial⟩ rfl ?_
  refine J_iadd (pc := 10) C 6 rfl  ?_
  cases h
  exact J_iret (pc := 11) C 7 rfl
def T_X5_needsReader : List (Nat × ClassFile.Instr × Nat) := [(0, .aload_n 0, 1), (1, .getfield 7, 3), (4, .iload_n 1, 1), (5, .bipush 6, 2), (7, .idiv, 1), (8, .invokestatic 51, 3), (11, .iconst 2, 1), (12, .iadd, 1), (13, .iaload, 1), (14, .iconst 1, 1), (15, .if_icmp .ne 7, 3), (18, .iconst 1, 1), (19, .goto 4, 3), (22, .iconst 0, 1), (23, .ireturn, 1)]
theorem D_X5_needsReader : ∀ q ∈ T_X5_needsReader, decode cX5_needsReader q.1 = .ok q.2 := by decide +kernel
theorem V_X5_needsReader : Vy yX5_needsReader cX5_needsReader 2 (some .boolean) 1 := ⟨k436, k415, by decide +kernel⟩
theorem i_X5_needsReader : Cond.instanceMethod yX5_needsReader ∈ TB := k469
theorem s_X5_needsReader : Cond.selects yX5_needsReader.cls yX5_needsReader yX5_needsReader ∈ TB := k470
noncomputable def f_X5_needsReader (vM : JV) (x1 : Int32) : Option (Int32) :=
  (f_X5_p (x1 / (6 : Int32))).bind (fun q1 => gd (inb (q1 + (2 : Int32)) 76) ((if ((vM 0) (Int32.toNatClampNeg (q1 + (2 : Int32)))) = (1 : Int32) then some (1 : Int32) else some (0 : Int32))))
set_option maxRecDepth 100000 in
set_option maxHeartbeats 4000000 in
theorem c_X5_needsReader {l : Launch} {G : JG} (aM : Nat → Nat) (vM : JV) (x1 : Int32) {Rz : Int32} (h : f_X5_needsReader vM x1 = some Rz) : JM l G yX5_needsReader cX5_needsReader 2 (some .boolean) 1 20 [.ref (aM 0), .int x1] (wMod G aM (vM 0) (vM 1) (vM 2) (vM 3) (vM 4) (vM 5) (vM 6) (vM 7) (vM 8) (vM 9 0) (vM 10 0) (vM 11 0) (vM 12 0) (vM 13 0)) (wMod G aM (vM 0) (vM 1) (vM 2) (vM 3) (vM 4) (vM 5) (vM 6) (vM 7) (vM 8) (vM 9 0) (vM 10 0) (vM 11 0) (vM 12 0) (vM 13 0)) (some (.int Rz)) := by
  refine JM.of (own := RX5) (tb := T_X5_needsReader) (by decide) (Nat.le_of_ble_eq_true rfl) D_X5_needsReader rfl (fun X C => ?_)
  refine J_sub (lv' := [(0, .ref (aM 0)), (1, .int x1)]) [0, 1] rfl ?_
  unfold f_X5_needsReader at h
  refine J_aload_n (pc := 0) C 0 rfl 0 rfl rfl ?_
  refine J_get (pc := 1) (v := .ref (aM 1)) C 1 rfl TB_l5 rfl 0 0 rfl (by decide) k399 rfl rfl ?_
  refine J_iload_n (pc := 4) C 2 rfl 1 rfl rfl ?_
  refine J_bipush (pc := 5) (v := (6 : Int32)) C 3 rfl rfl ?_
  refine J_idiv (pc := 7) C 4 rfl (by decide) ?_
  obtain ⟨q1, hq1, h⟩ := bnd h
  refine J_callS (pc := 8) (st2 := [.ref (aM 1)]) (st3 := [.int q1, .ref (aM 1)]) (ws2 := (wMod G aM (vM 0) (vM 1) (vM 2) (vM 3) (vM 4) (vM 5) (vM 6) (vM 7) (vM 8) (vM 9 0) (vM 10 0) (vM 11 0) (vM 12 0) (vM 13 0))) C 5 rfl (c_X5_p (x1 / (6 : Int32)) hq1) V_X5_p k425 t_X5_p rfl rfl ⟨Nat.le_of_ble_eq_true rfl, Nat.le_of_ble_eq_true rfl⟩ (Nat.le_of_ble_eq_true rfl) ⟨Nat.le_refl _, Nat.le_refl _⟩ (isC := []) (isR := [0, 1, 2, 3, 4, 5, 6, 7, 8, 9]) (N := 10) ⟨rfl, by decide +kernel, rfl, by decide +kernel, rfl, ⟨⟨_, rfl, rfl⟩, ⟨⟨_, rfl, rfl⟩, ⟨⟨_, rfl, rfl⟩, ⟨⟨_, rfl, rfl⟩, ⟨⟨_, rfl, rfl⟩, ⟨⟨_, rfl, rfl⟩, ⟨⟨_, rfl, rfl⟩, ⟨⟨_, rfl, rfl⟩, ⟨⟨_, rfl, rfl⟩, ⟨⟨_, rfl, rfl⟩, trivial⟩⟩⟩⟩⟩⟩⟩⟩⟩⟩⟩ rfl ?_
  refine J_iconst (pc := 11) (v := (2 : Int32)) C 6 rfl rfl ?_
  refine J_iadd (pc := 12) C 7 rfl  ?_
  obtain ⟨g2, h⟩ := gd_some h
  refine J_iald (pc := 13) (f := (vM 0)) (v := ((vM 0) (Int32.toNatClampNeg (q1 + (2 : Int32))))) C 8 rfl 1 rfl g2 rfl ?_
  refine J_iconst (pc := 14) (v := (1 : Int32)) C 9 rfl rfl ?_
  refine J_icmp_ne (pc := 15) (tgt := 22) C 10 rfl rfl (fun c3 => ?_) (fun c3 => ?_)
  · rw [if_neg c3] at h
    refine J_iconst (pc := 22) (v := (0 : Int32)) C 13 rfl rfl ?_
    cases h
    exact J_zret (pc := 23) C 14 rfl rfl
  · rw [if_pos c3] at h
    refine J_iconst (pc := 18) (v := (1 : Int32)) C 11 rfl rfl ?_
    refine J_goto (pc := 19) (tgt := 23) C 12 rfl rfl ?_
    cases h
    exact J_zret (pc := 23) C 14 rfl rfl
def T_X5_clash : List (Nat × ClassFile.Instr × Nat) := [(0, .aload_n 0, 1), (1, .iload_n 1, 1), (2, .invokevirtual 61, 3), (5, .aload_n 0, 1), (6, .iload_n 2, 1), (7, .invokevirtual 55, 3), (10, .if_icmp .le 20, 3), (13, .aload_n 0, 1), (14, .iload_n 2, 1), (15, .invokevirtual 61, 3), (18, .aload_n 0, 1), (19, .iload_n 1, 1), (20, .invokevirtual 55, 3), (23, .if_icmp .le 7, 3), (26, .iconst 1, 1), (27, .goto 4, 3), (30, .iconst 0, 1), (31, .ireturn, 1)]
theorem D_X5_clash : ∀ q ∈ T_X5_clash, decode cX5_clash q.1 = .ok q.2 := by decide +kernel
theorem V_X5_clash : Vy yX5_clash cX5_clash 3 (some .boolean) 2 := ⟨k437, k415, by decide +kernel⟩
theorem i_X5_clash : Cond.instanceMethod yX5_clash ∈ TB := k483
theorem s_X5_clash : Cond.selects yX5_clash.cls yX5_clash yX5_clash ∈ TB := k484
noncomputable def f_X5_clash (vM : JV) (x1 : Int32) (x2 : Int32) : Option (Int32) :=
  (f_X5_ends vM x1).bind (fun q1 => (f_X5_begins vM x2).bind (fun q2 => (if q1 ≤ q2 then some (0 : Int32) else (f_X5_ends vM x2).bind (fun q4 => (f_X5_begins vM x1).bind (fun q5 => (if q4 ≤ q5 then some (0 : Int32) else some (1 : Int32)))))))
set_option maxRecDepth 100000 in
set_option maxHeartbeats 4000000 in
theorem c_X5_clash {l : Launch} {G : JG} (aM : Nat → Nat) (vM : JV) (x1 : Int32) (x2 : Int32) {Rz : Int32} (h : f_X5_clash vM x1 x2 = some Rz) : JM l G yX5_clash cX5_clash 3 (some .boolean) 3 62 [.ref (aM 0), .int x1, .int x2] (wMod G aM (vM 0) (vM 1) (vM 2) (vM 3) (vM 4) (vM 5) (vM 6) (vM 7) (vM 8) (vM 9 0) (vM 10 0) (vM 11 0) (vM 12 0) (vM 13 0)) (wMod G aM (vM 0) (vM 1) (vM 2) (vM 3) (vM 4) (vM 5) (vM 6) (vM 7) (vM 8) (vM 9 0) (vM 10 0) (vM 11 0) (vM 12 0) (vM 13 0)) (some (.int Rz)) := by
  refine JM.of (own := RX5) (tb := T_X5_clash) (by decide) (Nat.le_of_ble_eq_true rfl) D_X5_clash rfl (fun X C => ?_)
  refine J_sub (lv' := [(0, .ref (aM 0)), (1, .int x1), (2, .int x2)]) [0, 1, 2] rfl ?_
  unfold f_X5_clash at h
  refine J_aload_n (pc := 0) C 0 rfl 0 rfl rfl ?_
  refine J_iload_n (pc := 1) C 1 rfl 1 rfl rfl ?_
  obtain ⟨q1, hq1, h⟩ := bnd h
  refine J_callV (pc := 2) (st2 := []) (st3 := [.int q1]) (ws2 := (wMod G aM (vM 0) (vM 1) (vM 2) (vM 3) (vM 4) (vM 5) (vM 6) (vM 7) (vM 8) (vM 9 0) (vM 10 0) (vM 11 0) (vM 12 0) (vM 13 0))) C 2 rfl (c_X5_ends aM vM x1 hq1) V_X5_ends k438 i_X5_ends s_X5_ends rfl rfl ⟨Nat.le_of_ble_eq_true rfl, Nat.le_of_ble_eq_true rfl⟩ (Nat.le_of_ble_eq_true rfl) ⟨Nat.le_refl _, Nat.le_refl _⟩ 0 5 rfl rfl rfl (isC := [0, 1, 2, 3, 4, 5, 6, 7, 8, 9]) (isR := []) (N := 10) ⟨rfl, by decide +kernel, rfl, by decide +kernel, rfl, trivial⟩ rfl ?_
  refine J_aload_n (pc := 5) C 3 rfl 0 rfl rfl ?_
  refine J_iload_n (pc := 6) C 4 rfl 2 rfl rfl ?_
  obtain ⟨q2, hq2, h⟩ := bnd h
  refine J_callV (pc := 7) (st2 := [.int q1]) (st3 := [.int q2, .int q1]) (ws2 := (wMod G aM (vM 0) (vM 1) (vM 2) (vM 3) (vM 4) (vM 5) (vM 6) (vM 7) (vM 8) (vM 9 0) (vM 10 0) (vM 11 0) (vM 12 0) (vM 13 0))) C 5 rfl (c_X5_begins aM vM x2 hq2) V_X5_begins k430 i_X5_begins s_X5_begins rfl rfl ⟨Nat.le_of_ble_eq_true rfl, Nat.le_of_ble_eq_true rfl⟩ (Nat.le_of_ble_eq_true rfl) ⟨Nat.le_refl _, Nat.le_refl _⟩ 0 5 rfl rfl rfl (isC := [0, 1, 2, 3, 4, 5, 6, 7, 8, 9]) (isR := []) (N := 10) ⟨rfl, by decide +kernel, rfl, by decide +kernel, rfl, trivial⟩ rfl ?_
  refine J_icmp_le (pc := 10) (tgt := 30) C 6 rfl rfl (fun c3 => ?_) (fun c3 => ?_)
  · rw [if_pos c3] at h
    refine J_iconst (pc := 30) (v := (0 : Int32)) C 16 rfl rfl ?_
    cases h
    exact J_zret (pc := 31) C 17 rfl rfl
  · rw [if_neg c3] at h
    refine J_aload_n (pc := 13) C 7 rfl 0 rfl rfl ?_
    refine J_iload_n (pc := 14) C 8 rfl 2 rfl rfl ?_
    obtain ⟨q4, hq4, h⟩ := bnd h
    refine J_callV (pc := 15) (st2 := []) (st3 := [.int q4]) (ws2 := (wMod G aM (vM 0) (vM 1) (vM 2) (vM 3) (vM 4) (vM 5) (vM 6) (vM 7) (vM 8) (vM 9 0) (vM 10 0) (vM 11 0) (vM 12 0) (vM 13 0))) C 9 rfl (c_X5_ends aM vM x2 hq4) V_X5_ends k438 i_X5_ends s_X5_ends rfl rfl ⟨Nat.le_of_ble_eq_true rfl, Nat.le_of_ble_eq_true rfl⟩ (Nat.le_of_ble_eq_true rfl) ⟨Nat.le_refl _, Nat.le_refl _⟩ 0 5 rfl rfl rfl (isC := [0, 1, 2, 3, 4, 5, 6, 7, 8, 9]) (isR := []) (N := 10) ⟨rfl, by decide +kernel, rfl, by decide +kernel, rfl, trivial⟩ rfl ?_
    refine J_aload_n (pc := 18) C 10 rfl 0 rfl rfl ?_
    refine J_iload_n (pc := 19) C 11 rfl 1 rfl rfl ?_
    obtain ⟨q5, hq5, h⟩ := bnd h
    refine J_callV (pc := 20) (st2 := [.int q4]) (st3 := [.int q5, .int q4]) (ws2 := (wMod G aM (vM 0) (vM 1) (vM 2) (vM 3) (vM 4) (vM 5) (vM 6) (vM 7) (vM 8) (vM 9 0) (vM 10 0) (vM 11 0) (vM 12 0) (vM 13 0))) C 12 rfl (c_X5_begins aM vM x1 hq5) V_X5_begins k430 i_X5_begins s_X5_begins rfl rfl ⟨Nat.le_of_ble_eq_true rfl, Nat.le_of_ble_eq_true rfl⟩ (Nat.le_of_ble_eq_true rfl) ⟨Nat.le_refl _, Nat.le_refl _⟩ 0 5 rfl rfl rfl (isC := [0, 1, 2, 3, 4, 5, 6, 7, 8, 9]) (isR := []) (N := 10) ⟨rfl, by decide +kernel, rfl, by decide +kernel, rfl, trivial⟩ rfl ?_
    refine J_icmp_le (pc := 23) (tgt := 30) C 13 rfl rfl (fun c6 => ?_) (fun c6 => ?_)
    · rw [if_pos c6] at h
      refine J_iconst (pc := 30) (v := (0 : Int32)) C 16 rfl rfl ?_
      cases h
      exact J_zret (pc := 31) C 17 rfl rfl
    · rw [if_neg c6] at h
      refine J_iconst (pc := 26) (v := (1 : Int32)) C 14 rfl rfl ?_
      refine J_goto (pc := 27) (tgt := 31) C 15 rfl rfl ?_
      cases h
      exact J_zret (pc := 31) C 17 rfl rfl
def T_X5_isFree : List (Nat × ClassFile.Instr × Nat) := [(0, .iconst 1, 1), (1, .istore_n 3, 1), (2, .iconst 0, 1), (3, .istore 4, 2), (5, .iload 4, 2), (7, .bipush 96, 2), (9, .if_icmp .ge 84, 3), (12, .aload_n 0, 1), (13, .iload 4, 2), (15, .invokevirtual 61, 3), (18, .aload_n 0, 1), (19, .getfield 7, 3), (22, .iconst 2, 1), (23, .iaload, 1), (24, .iadd, 1), (25, .aload_n 0, 1), (26, .iload_n 2, 1), (27, .invokevirtual 55, 3), (30, .if_icmp .le 24, 3), (33, .aload_n 0, 1), (34, .iload 4, 2), (36, .invokevirtual 55, 3), (39, .aload_n 0, 1), (40, .iload_n 2, 1), (41, .invokevirtual 61, 3), (44, .aload_n 0, 1), (45, .getfield 7, 3), (48, .iconst 2, 1), (49, .iaload, 1), (50, .iadd, 1), (51, .if_icmp .lt 7, 3), (54, .iconst 1, 1), (55, .goto 4, 3), (58, .iconst 0, 1), (59, .istore 5, 2), (61, .iload_n 3, 1), (62, .ifCond .eq 23, 3), (65, .aload_n 0, 1), (66, .getfield 29, 3), (69, .iload 4, 2), (71, .iaload, 1), (72, .iload_n 1, 1), (73, .if_icmp .ne 8, 3), (76, .iload 5, 2), (78, .ifCond .eq 7, 3), (81, .iconst 1, 1), (82, .goto 4, 3), (85, .iconst 0, 1), (86, .istore_n 3, 1), (87, .iinc 4 1, 3), (90, .goto (-85), 3), (93, .iload_n 3, 1), (94, .ireturn, 1)]
theorem D_X5_isFree : ∀ q ∈ T_X5_isFree, decode cX5_isFree q.1 = .ok q.2 := by decide +kernel
theorem V_X5_isFree : Vy yX5_isFree cX5_isFree 6 (some .boolean) 2 := ⟨k441, k415, by decide +kernel⟩
theorem i_X5_isFree : Cond.instanceMethod yX5_isFree ∈ TB := k458
theorem s_X5_isFree : Cond.selects yX5_isFree.cls yX5_isFree yX5_isFree ∈ TB := k459
noncomputable def f_X5_isFree_K59 (vM : JV) (r5 : Int32 → Int32 → Option (Int32)) (x1_5 : Int32) (x2_5 : Int32) (x3_59 : Int32) (x4_59 : Int32) (y0_59 : Int32) : Option (Int32) :=
  (if x3_59 = 0 then r5 (0 : Int32) (x4_59 + (1 : Int32)) else gd (inb x4_59 96) ((if ((vM 6) (Int32.toNatClampNeg x4_59)) = x1_5 then (if y0_59 = 0 then r5 (0 : Int32) (x4_59 + (1 : Int32)) else r5 (1 : Int32) (x4_59 + (1 : Int32))) else r5 (1 : Int32) (x4_59 + (1 : Int32)))))
noncomputable def f_X5_isFree_K54 (vM : JV) (r5 : Int32 → Int32 → Option (Int32)) (x1_5 : Int32) (x2_5 : Int32) (x3_54 : Int32) (x4_54 : Int32) : Option (Int32) :=
  f_X5_isFree_K59 vM r5 x1_5 x2_5 x3_54 x4_54 (1 : Int32)
noncomputable def f_X5_isFree_b5 (vM : JV) (x1_5 : Int32) (x2_5 : Int32) (r5 : Int32 → Int32 → Option (Int32)) (x3_5 : Int32) (x4_5 : Int32) : Option (Int32) :=
  (if (96 : Int32) ≤ x4_5 then gd (isb x3_5) (some x3_5) else (f_X5_ends vM x4_5).bind (fun q3 => (f_X5_begins vM x2_5).bind (fun q4 => (if (q3 + ((vM 0) 2)) ≤ q4 then f_X5_isFree_K54 vM r5 x1_5 x2_5 x3_5 x4_5 else (f_X5_begins vM x4_5).bind (fun q10 => (f_X5_ends vM x2_5).bind (fun q11 => (if q10 < (q11 + ((vM 0) 2)) then f_X5_isFree_K59 vM r5 x1_5 x2_5 x3_5 x4_5 (0 : Int32) else f_X5_isFree_K54 vM r5 x1_5 x2_5 x3_5 x4_5)))))))
noncomputable def f_X5_isFree_L5 (vM : JV) (x1_5 : Int32) (x2_5 : Int32) (n : Nat) (x3_5 : Int32) (x4_5 : Int32) : Option (Int32) :=
  lp (fun (rec : Int32 × Int32 → Option (Int32)) a => f_X5_isFree_b5 vM x1_5 x2_5 (fun x3_5 x4_5 => rec (x3_5, x4_5)) a.1 a.2) n (x3_5, x4_5)
noncomputable def f_X5_isFree (vM : JV) (x1 : Int32) (x2 : Int32) : Option (Int32) :=
  f_X5_isFree_L5 vM x1 x2 FU (1 : Int32) (0 : Int32)
set_option maxRecDepth 100000 in
set_option maxHeartbeats 4000000 in
theorem c_X5_isFree {l : Launch} {G : JG} (aM : Nat → Nat) (vM : JV) (x1 : Int32) (x2 : Int32) {Rz : Int32} (h : f_X5_isFree vM x1 x2 = some Rz) : JM l G yX5_isFree cX5_isFree 6 (some .boolean) 3 62 [.ref (aM 0), .int x1, .int x2] (wMod G aM (vM 0) (vM 1) (vM 2) (vM 3) (vM 4) (vM 5) (vM 6) (vM 7) (vM 8) (vM 9 0) (vM 10 0) (vM 11 0) (vM 12 0) (vM 13 0)) (wMod G aM (vM 0) (vM 1) (vM 2) (vM 3) (vM 4) (vM 5) (vM 6) (vM 7) (vM 8) (vM 9 0) (vM 10 0) (vM 11 0) (vM 12 0) (vM 13 0)) (some (.int Rz)) := by
  refine JM.of (own := RX5) (tb := T_X5_isFree) (by decide) (Nat.le_of_ble_eq_true rfl) D_X5_isFree rfl (fun X C => ?_)
  refine J_sub (lv' := [(0, .ref (aM 0)), (1, .int x1), (2, .int x2)]) [0, 1, 2] rfl ?_
  have B5 : ∀ (x1_5 : Int32) (x2_5 : Int32) (n5 : Nat) (x3_5 : Int32) (x4_5 : Int32), f_X5_isFree_L5 vM x1_5 x2_5 n5 x3_5 x4_5 = some Rz → J l { frames := 3, cells := 0, slots := 0, locals := 62 } G 6 X (QM X G 0 0 (some (.int Rz)) (wMod G aM (vM 0) (vM 1) (vM 2) (vM 3) (vM 4) (vM 5) (vM 6) (vM 7) (vM 8) (vM 9 0) (vM 10 0) (vM 11 0) (vM 12 0) (vM 13 0))) 0 0 5 [(0, .ref (aM 0)), (1, .int x1_5), (2, .int x2_5), (3, .int x3_5), (4, .int x4_5)] [] (wMod G aM (vM 0) (vM 1) (vM 2) (vM 3) (vM 4) (vM 5) (vM 6) (vM 7) (vM 8) (vM 9 0) (vM 10 0) (vM 11 0) (vM 12 0) (vM 13 0)) := by
    intro x1_5 x2_5 n5
    induction n5 with
    | zero =>
      intro x3_5 x4_5 h
      exact (no_none rfl h).elim
    | succ n5 ih5 =>
      have B59 : ∀ (x3_59 : Int32) (x4_59 : Int32) (y0_59 : Int32), f_X5_isFree_K59 vM (fun x3_5 x4_5 => f_X5_isFree_L5 vM x1_5 x2_5 n5 x3_5 x4_5) x1_5 x2_5 x3_59 x4_59 y0_59 = some Rz → J l { frames := 3, cells := 0, slots := 0, locals := 62 } G 6 X (QM X G 0 0 (some (.int Rz)) (wMod G aM (vM 0) (vM 1) (vM 2) (vM 3) (vM 4) (vM 5) (vM 6) (vM 7) (vM 8) (vM 9 0) (vM 10 0) (vM 11 0) (vM 12 0) (vM 13 0))) 0 0 59 [(0, .ref (aM 0)), (1, .int x1_5), (2, .int x2_5), (3, .int x3_59), (4, .int x4_59)] [.int y0_59] (wMod G aM (vM 0) (vM 1) (vM 2) (vM 3) (vM 4) (vM 5) (vM 6) (vM 7) (vM 8) (vM 9 0) (vM 10 0) (vM 11 0) (vM 12 0) (vM 13 0)) := by
        intro x3_59 x4_59 y0_59 h
        unfold f_X5_isFree_K59 at h
        refine J_istore (pc := 59) (lv' := [(5, .int y0_59), (0, .ref (aM 0)), (1, .int x1_5), (2, .int x2_5), (3, .int x3_59), (4, .int x4_59)]) C 34 rfl (by decide) rfl ?_
        refine J_iload_n (pc := 61) C 35 rfl 4 rfl rfl ?_
        refine J_if_eq (pc := 62) (tgt := 85) C 36 rfl rfl (fun c6 => ?_) (fun c6 => ?_)
        · rw [if_pos c6] at h
          refine J_iconst (pc := 85) (v := (0 : Int32)) C 47 rfl rfl ?_
          refine J_istore_n (pc := 86) (lv' := [(3, .int (0 : Int32)), (5, .int y0_59), (0, .ref (aM 0)), (1, .int x1_5), (2, .int x2_5), (4, .int x4_59)]) C 48 rfl rfl (by decide) rfl ?_
          refine J_iinc (pc := 87) (v := (x4_59 + (1 : Int32))) (lv' := [(4, .int (x4_59 + (1 : Int32))), (3, .int (0 : Int32)), (5, .int y0_59), (0, .ref (aM 0)), (1, .int x1_5), (2, .int x2_5)]) C 49 rfl 5 rfl rfl (by decide) rfl ?_
          refine J_goto (pc := 90) (tgt := 5) C 50 rfl rfl ?_
          exact J_sub [3, 4, 5, 1, 0] rfl (ih5 (0 : Int32) (x4_59 + (1 : Int32)) h)
        · rw [if_neg c6] at h
          refine J_aload_n (pc := 65) C 37 rfl 1 rfl rfl ?_
          refine J_get (pc := 66) (v := .ref (aM 7)) C 38 rfl TB_l5 rfl 0 6 rfl (by decide) k405 rfl rfl ?_
          refine J_iload (pc := 69) C 39 rfl 5 rfl ?_
          obtain ⟨g7, h⟩ := gd_some h
          refine J_iald (pc := 71) (f := (vM 6)) (v := ((vM 6) (Int32.toNatClampNeg x4_59))) C 40 rfl 7 rfl g7 rfl ?_
          refine J_iload_n (pc := 72) C 41 rfl 2 rfl rfl ?_
          refine J_icmp_ne (pc := 73) (tgt := 81) C 42 rfl rfl (fun c8 => ?_) (fun c8 => ?_)
          · rw [if_neg c8] at h
            refine J_iconst (pc := 81) (v := (1 : Int32)) C 45 rfl rfl ?_
            refine J_goto (pc := 82) (tgt := 86) C 46 rfl rfl ?_
            refine J_istore_n (pc := 86) (lv' := [(3, .int (1 : Int32)), (5, .int y0_59), (0, .ref (aM 0)), (1, .int x1_5), (2, .int x2_5), (4, .int x4_59)]) C 48 rfl rfl (by decide) rfl ?_
            refine J_iinc (pc := 87) (v := (x4_59 + (1 : Int32))) (lv' := [(4, .int (x4_59 + (1 : Int32))), (3, .int (1 : Int32)), (5, .int y0_59), (0, .ref (aM 0)), (1, .int x1_5), (2, .int x2_5)]) C 49 rfl 5 rfl rfl (by decide) rfl ?_
            refine J_goto (pc := 90) (tgt := 5) C 50 rfl rfl ?_
            exact J_sub [3, 4, 5, 1, 0] rfl (ih5 (1 : Int32) (x4_59 + (1 : Int32)) h)
          · rw [if_pos c8] at h
            refine J_iload (pc := 76) C 43 rfl 0 rfl ?_
            refine J_if_eq (pc := 78) (tgt := 85) C 44 rfl rfl (fun c9 => ?_) (fun c9 => ?_)
            · rw [if_pos c9] at h
              refine J_iconst (pc := 85) (v := (0 : Int32)) C 47 rfl rfl ?_
              refine J_istore_n (pc := 86) (lv' := [(3, .int (0 : Int32)), (5, .int y0_59), (0, .ref (aM 0)), (1, .int x1_5), (2, .int x2_5), (4, .int x4_59)]) C 48 rfl rfl (by decide) rfl ?_
              refine J_iinc (pc := 87) (v := (x4_59 + (1 : Int32))) (lv' := [(4, .int (x4_59 + (1 : Int32))), (3, .int (0 : Int32)), (5, .int y0_59), (0, .ref (aM 0)), (1, .int x1_5), (2, .int x2_5)]) C 49 rfl 5 rfl rfl (by decide) rfl ?_
              refine J_goto (pc := 90) (tgt := 5) C 50 rfl rfl ?_
              exact J_sub [3, 4, 5, 1, 0] rfl (ih5 (0 : Int32) (x4_59 + (1 : Int32)) h)
            · rw [if_neg c9] at h
              refine J_iconst (pc := 81) (v := (1 : Int32)) C 45 rfl rfl ?_
              refine J_goto (pc := 82) (tgt := 86) C 46 rfl rfl ?_
              refine J_istore_n (pc := 86) (lv' := [(3, .int (1 : Int32)), (5, .int y0_59), (0, .ref (aM 0)), (1, .int x1_5), (2, .int x2_5), (4, .int x4_59)]) C 48 rfl rfl (by decide) rfl ?_
              refine J_iinc (pc := 87) (v := (x4_59 + (1 : Int32))) (lv' := [(4, .int (x4_59 + (1 : Int32))), (3, .int (1 : Int32)), (5, .int y0_59), (0, .ref (aM 0)), (1, .int x1_5), (2, .int x2_5)]) C 49 rfl 5 rfl rfl (by decide) rfl ?_
              refine J_goto (pc := 90) (tgt := 5) C 50 rfl rfl ?_
              exact J_sub [3, 4, 5, 1, 0] rfl (ih5 (1 : Int32) (x4_59 + (1 : Int32)) h)
      have B54 : ∀ (x3_54 : Int32) (x4_54 : Int32), f_X5_isFree_K54 vM (fun x3_5 x4_5 => f_X5_isFree_L5 vM x1_5 x2_5 n5 x3_5 x4_5) x1_5 x2_5 x3_54 x4_54 = some Rz → J l { frames := 3, cells := 0, slots := 0, locals := 62 } G 6 X (QM X G 0 0 (some (.int Rz)) (wMod G aM (vM 0) (vM 1) (vM 2) (vM 3) (vM 4) (vM 5) (vM 6) (vM 7) (vM 8) (vM 9 0) (vM 10 0) (vM 11 0) (vM 12 0) (vM 13 0))) 0 0 54 [(0, .ref (aM 0)), (1, .int x1_5), (2, .int x2_5), (3, .int x3_54), (4, .int x4_54)] [] (wMod G aM (vM 0) (vM 1) (vM 2) (vM 3) (vM 4) (vM 5) (vM 6) (vM 7) (vM 8) (vM 9 0) (vM 10 0) (vM 11 0) (vM 12 0) (vM 13 0)) := by
        intro x3_54 x4_54 h
        unfold f_X5_isFree_K54 at h
        refine J_iconst (pc := 54) (v := (1 : Int32)) C 31 rfl rfl ?_
        refine J_goto (pc := 55) (tgt := 59) C 32 rfl rfl ?_
        exact J_sub [0, 1, 2, 3, 4] rfl (B59 x3_54 x4_54 (1 : Int32) h)
      intro x3_5 x4_5 h
      replace h : f_X5_isFree_b5 vM x1_5 x2_5 (fun x3_5 x4_5 => f_X5_isFree_L5 vM x1_5 x2_5 n5 x3_5 x4_5) x3_5 x4_5 = some Rz := h
      unfold f_X5_isFree_b5 at h
      refine J_iload (pc := 5) C 4 rfl 4 rfl ?_
      refine J_bipush (pc := 7) (v := (96 : Int32)) C 5 rfl rfl ?_
      refine J_icmp_ge (pc := 9) (tgt := 93) C 6 rfl rfl (fun c1 => ?_) (fun c1 => ?_)
      · rw [if_pos c1] at h
        refine J_iload_n (pc := 93) C 51 rfl 3 rfl rfl ?_
        obtain ⟨g2, h⟩ := gd_some h
        cases h
        exact J_zret (pc := 94) C 52 rfl g2
      · rw [if_neg c1] at h
        refine J_aload_n (pc := 12) C 7 rfl 0 rfl rfl ?_
        refine J_iload (pc := 13) C 8 rfl 4 rfl ?_
        obtain ⟨q3, hq3, h⟩ := bnd h
        refine J_callV (pc := 15) (st2 := []) (st3 := [.int q3]) (ws2 := (wMod G aM (vM 0) (vM 1) (vM 2) (vM 3) (vM 4) (vM 5) (vM 6) (vM 7) (vM 8) (vM 9 0) (vM 10 0) (vM 11 0) (vM 12 0) (vM 13 0))) C 9 rfl (c_X5_ends aM vM x4_5 hq3) V_X5_ends k438 i_X5_ends s_X5_ends rfl rfl ⟨Nat.le_of_ble_eq_true rfl, Nat.le_of_ble_eq_true rfl⟩ (Nat.le_of_ble_eq_true rfl) ⟨Nat.le_refl _, Nat.le_refl _⟩ 0 5 rfl rfl rfl (isC := [0, 1, 2, 3, 4, 5, 6, 7, 8, 9]) (isR := []) (N := 10) ⟨rfl, by decide +kernel, rfl, by decide +kernel, rfl, trivial⟩ rfl ?_
        refine J_aload_n (pc := 18) C 10 rfl 0 rfl rfl ?_
        refine J_get (pc := 19) (v := .ref (aM 1)) C 11 rfl TB_l5 rfl 0 0 rfl (by decide) k399 rfl rfl ?_
        refine J_iconst (pc := 22) (v := (2 : Int32)) C 12 rfl rfl ?_
        refine J_iald (pc := 23) (f := (vM 0)) (v := ((vM 0) 2)) C 13 rfl 1 rfl rfl rfl ?_
        refine J_iadd (pc := 24) C 14 rfl  ?_
        refine J_aload_n (pc := 25) C 15 rfl 0 rfl rfl ?_
        refine J_iload_n (pc := 26) C 16 rfl 2 rfl rfl ?_
        obtain ⟨q4, hq4, h⟩ := bnd h
        refine J_callV (pc := 27) (st2 := [.int (q3 + ((vM 0) 2))]) (st3 := [.int q4, .int (q3 + ((vM 0) 2))]) (ws2 := (wMod G aM (vM 0) (vM 1) (vM 2) (vM 3) (vM 4) (vM 5) (vM 6) (vM 7) (vM 8) (vM 9 0) (vM 10 0) (vM 11 0) (vM 12 0) (vM 13 0))) C 17 rfl (c_X5_begins aM vM x2_5 hq4) V_X5_begins k430 i_X5_begins s_X5_begins rfl rfl ⟨Nat.le_of_ble_eq_true rfl, Nat.le_of_ble_eq_true rfl⟩ (Nat.le_of_ble_eq_true rfl) ⟨Nat.le_refl _, Nat.le_refl _⟩ 0 5 rfl rfl rfl (isC := [0, 1, 2, 3, 4, 5, 6, 7, 8, 9]) (isR := []) (N := 10) ⟨rfl, by decide +kernel, rfl, by decide +kernel, rfl, trivial⟩ rfl ?_
        refine J_icmp_le (pc := 30) (tgt := 54) C 18 rfl rfl (fun c5 => ?_) (fun c5 => ?_)
        · rw [if_pos c5] at h
          exact J_sub [0, 1, 2, 3, 4] rfl (B54 x3_5 x4_5 h)
        · rw [if_neg c5] at h
          refine J_aload_n (pc := 33) C 19 rfl 0 rfl rfl ?_
          refine J_iload (pc := 34) C 20 rfl 4 rfl ?_
          obtain ⟨q10, hq10, h⟩ := bnd h
          refine J_callV (pc := 36) (st2 := []) (st3 := [.int q10]) (ws2 := (wMod G aM (vM 0) (vM 1) (vM 2) (vM 3) (vM 4) (vM 5) (vM 6) (vM 7) (vM 8) (vM 9 0) (vM 10 0) (vM 11 0) (vM 12 0) (vM 13 0))) C 21 rfl (c_X5_begins aM vM x4_5 hq10) V_X5_begins k430 i_X5_begins s_X5_begins rfl rfl ⟨Nat.le_of_ble_eq_true rfl, Nat.le_of_ble_eq_true rfl⟩ (Nat.le_of_ble_eq_true rfl) ⟨Nat.le_refl _, Nat.le_refl _⟩ 0 5 rfl rfl rfl (isC := [0, 1, 2, 3, 4, 5, 6, 7, 8, 9]) (isR := []) (N := 10) ⟨rfl, by decide +kernel, rfl, by decide +kernel, rfl, trivial⟩ rfl ?_
          refine J_aload_n (pc := 39) C 22 rfl 0 rfl rfl ?_
          refine J_iload_n (pc := 40) C 23 rfl 2 rfl rfl ?_
          obtain ⟨q11, hq11, h⟩ := bnd h
          refine J_callV (pc := 41) (st2 := [.int q10]) (st3 := [.int q11, .int q10]) (ws2 := (wMod G aM (vM 0) (vM 1) (vM 2) (vM 3) (vM 4) (vM 5) (vM 6) (vM 7) (vM 8) (vM 9 0) (vM 10 0) (vM 11 0) (vM 12 0) (vM 13 0))) C 24 rfl (c_X5_ends aM vM x2_5 hq11) V_X5_ends k438 i_X5_ends s_X5_ends rfl rfl ⟨Nat.le_of_ble_eq_true rfl, Nat.le_of_ble_eq_true rfl⟩ (Nat.le_of_ble_eq_true rfl) ⟨Nat.le_refl _, Nat.le_refl _⟩ 0 5 rfl rfl rfl (isC := [0, 1, 2, 3, 4, 5, 6, 7, 8, 9]) (isR := []) (N := 10) ⟨rfl, by decide +kernel, rfl, by decide +kernel, rfl, trivial⟩ rfl ?_
          refine J_aload_n (pc := 44) C 25 rfl 0 rfl rfl ?_
          refine J_get (pc := 45) (v := .ref (aM 1)) C 26 rfl TB_l5 rfl 0 0 rfl (by decide) k399 rfl rfl ?_
          refine J_iconst (pc := 48) (v := (2 : Int32)) C 27 rfl rfl ?_
          refine J_iald (pc := 49) (f := (vM 0)) (v := ((vM 0) 2)) C 28 rfl 1 rfl rfl rfl ?_
          refine J_iadd (pc := 50) C 29 rfl  ?_
          refine J_icmp_lt (pc := 51) (tgt := 58) C 30 rfl rfl (fun c12 => ?_) (fun c12 => ?_)
          · rw [if_pos c12] at h
            refine J_iconst (pc := 58) (v := (0 : Int32)) C 33 rfl rfl ?_
            exact J_sub [0, 1, 2, 3, 4] rfl (B59 x3_5 x4_5 (0 : Int32) h)
          · rw [if_neg c12] at h
            exact J_sub [0, 1, 2, 3, 4] rfl (B54 x3_5 x4_5 h)
  unfold f_X5_isFree at h
  refine J_iconst (pc := 0) (v := (1 : Int32)) C 0 rfl rfl ?_
  refine J_istore_n (pc := 1) (lv' := [(3, .int (1 : Int32)), (0, .ref (aM 0)), (1, .int x1), (2, .int x2)]) C 1 rfl rfl (by decide) rfl ?_
  refine J_iconst (pc := 2) (v := (0 : Int32)) C 2 rfl rfl ?_
  refine J_istore (pc := 3) (lv' := [(4, .int (0 : Int32)), (3, .int (1 : Int32)), (0, .ref (aM 0)), (1, .int x1), (2, .int x2)]) C 3 rfl (by decide) rfl ?_
  exact J_sub [2, 3, 4, 1, 0] rfl (B5 x1 x2 FU (1 : Int32) (0 : Int32) h)
def T_X5_has : List (Nat × ClassFile.Instr × Nat) := [(0, .iconst 0, 1), (1, .istore_n 3, 1), (2, .iload_n 2, 1), (3, .istore 4, 2), (5, .iload 4, 2), (7, .bipush 96, 2), (9, .if_icmp .ge 30, 3), (12, .iload_n 3, 1), (13, .ifCond .ne 14, 3), (16, .aload_n 0, 1), (17, .getfield 29, 3), (20, .iload 4, 2), (22, .iaload, 1), (23, .iload_n 1, 1), (24, .if_icmp .ne 7, 3), (27, .iconst 1, 1), (28, .goto 4, 3), (31, .iconst 0, 1), (32, .istore_n 3, 1), (33, .iinc 4 6, 3), (36, .goto (-31), 3), (39, .iload_n 3, 1), (40, .ireturn, 1)]
theorem D_X5_has : ∀ q ∈ T_X5_has, decode cX5_has q.1 = .ok q.2 := by decide +kernel
theorem V_X5_has : Vy yX5_has cX5_has 5 (some .boolean) 2 := ⟨k442, k415, by decide +kernel⟩
theorem i_X5_has : Cond.instanceMethod yX5_has ∈ TB := k447
theorem s_X5_has : Cond.selects yX5_has.cls yX5_has yX5_has ∈ TB := k448
noncomputable def f_X5_has_b5 (vM : JV) (x1_5 : Int32) (r5 : Int32 → Int32 → Option (Int32)) (x3_5 : Int32) (x4_5 : Int32) : Option (Int32) :=
  (if (96 : Int32) ≤ x4_5 then gd (isb x3_5) (some x3_5) else (if x3_5 = 0 then gd (inb x4_5 96) ((if ((vM 6) (Int32.toNatClampNeg x4_5)) = x1_5 then r5 (1 : Int32) (x4_5 + (6 : Int32)) else r5 (0 : Int32) (x4_5 + (6 : Int32)))) else r5 (1 : Int32) (x4_5 + (6 : Int32))))
noncomputable def f_X5_has_L5 (vM : JV) (x1_5 : Int32) (n : Nat) (x3_5 : Int32) (x4_5 : Int32) : Option (Int32) :=
  lp (fun (rec : Int32 × Int32 → Option (Int32)) a => f_X5_has_b5 vM x1_5 (fun x3_5 x4_5 => rec (x3_5, x4_5)) a.1 a.2) n (x3_5, x4_5)
noncomputable def f_X5_has (vM : JV) (x1 : Int32) (x2 : Int32) : Option (Int32) :=
  f_X5_has_L5 vM x1 FU (0 : Int32) x2
set_option maxRecDepth 100000 in
set_option maxHeartbeats 4000000 in
theorem c_X5_has {l : Launch} {G : JG} (aM : Nat → Nat) (vM : JV) (x1 : Int32) (x2 : Int32) {Rz : Int32} (h : f_X5_has vM x1 x2 = some Rz) : JM l G yX5_has cX5_has 5 (some .boolean) 0 0 [.ref (aM 0), .int x1, .int x2] (wMod G aM (vM 0) (vM 1) (vM 2) (vM 3) (vM 4) (vM 5) (vM 6) (vM 7) (vM 8) (vM 9 0) (vM 10 0) (vM 11 0) (vM 12 0) (vM 13 0)) (wMod G aM (vM 0) (vM 1) (vM 2) (vM 3) (vM 4) (vM 5) (vM 6) (vM 7) (vM 8) (vM 9 0) (vM 10 0) (vM 11 0) (vM 12 0) (vM 13 0)) (some (.int Rz)) := by
  refine JM.of (own := RX5) (tb := T_X5_has) (by decide) (Nat.le_of_ble_eq_true rfl) D_X5_has rfl (fun X C => ?_)
  refine J_sub (lv' := [(0, .ref (aM 0)), (1, .int x1), (2, .int x2)]) [0, 1, 2] rfl ?_
  have B5 : ∀ (x1_5 : Int32) (n5 : Nat) (x3_5 : Int32) (x4_5 : Int32), f_X5_has_L5 vM x1_5 n5 x3_5 x4_5 = some Rz → J l { frames := 0, cells := 0, slots := 0, locals := 0 } G 5 X (QM X G 0 0 (some (.int Rz)) (wMod G aM (vM 0) (vM 1) (vM 2) (vM 3) (vM 4) (vM 5) (vM 6) (vM 7) (vM 8) (vM 9 0) (vM 10 0) (vM 11 0) (vM 12 0) (vM 13 0))) 0 0 5 [(0, .ref (aM 0)), (1, .int x1_5), (3, .int x3_5), (4, .int x4_5)] [] (wMod G aM (vM 0) (vM 1) (vM 2) (vM 3) (vM 4) (vM 5) (vM 6) (vM 7) (vM 8) (vM 9 0) (vM 10 0) (vM 11 0) (vM 12 0) (vM 13 0)) := by
    intro x1_5 n5
    induction n5 with
    | zero =>
      intro x3_5 x4_5 h
      exact (no_none rfl h).elim
    | succ n5 ih5 =>
      intro x3_5 x4_5 h
      replace h : f_X5_has_b5 vM x1_5 (fun x3_5 x4_5 => f_X5_has_L5 vM x1_5 n5 x3_5 x4_5) x3_5 x4_5 = some Rz := h
      unfold f_X5_has_b5 at h
      refine J_iload (pc := 5) C 4 rfl 3 rfl ?_
      refine J_bipush (pc := 7) (v := (96 : Int32)) C 5 rfl rfl ?_
      refine J_icmp_ge (pc := 9) (tgt := 39) C 6 rfl rfl (fun c1 => ?_) (fun c1 => ?_)
      · rw [if_pos c1] at h
        refine J_iload_n (pc := 39) C 21 rfl 2 rfl rfl ?_
        obtain ⟨g2, h⟩ := gd_some h
        cases h
        exact J_zret (pc := 40) C 22 rfl g2
      · rw [if_neg c1] at h
        refine J_iload_n (pc := 12) C 7 rfl 2 rfl rfl ?_
        refine J_if_ne (pc := 13) (tgt := 27) C 8 rfl rfl (fun c3 => ?_) (fun c3 => ?_)
        · rw [if_neg c3] at h
          refine J_iconst (pc := 27) (v := (1 : Int32)) C 15 rfl rfl ?_
          refine J_goto (pc := 28) (tgt := 32) C 16 rfl rfl ?_
          refine J_istore_n (pc := 32) (lv' := [(3, .int (1 : Int32)), (0, .ref (aM 0)), (1, .int x1_5), (4, .int x4_5)]) C 18 rfl rfl (by decide) rfl ?_
          refine J_iinc (pc := 33) (v := (x4_5 + (6 : Int32))) (lv' := [(4, .int (x4_5 + (6 : Int32))), (3, .int (1 : Int32)), (0, .ref (aM 0)), (1, .int x1_5)]) C 19 rfl 3 rfl rfl (by decide) rfl ?_
          refine J_goto (pc := 36) (tgt := 5) C 20 rfl rfl ?_
          exact J_sub [2, 3, 1, 0] rfl (ih5 (1 : Int32) (x4_5 + (6 : Int32)) h)
        · rw [if_pos c3] at h
          refine J_aload_n (pc := 16) C 9 rfl 0 rfl rfl ?_
          refine J_get (pc := 17) (v := .ref (aM 7)) C 10 rfl TB_l5 rfl 0 6 rfl (by decide) k405 rfl rfl ?_
          refine J_iload (pc := 20) C 11 rfl 3 rfl ?_
          obtain ⟨g4, h⟩ := gd_some h
          refine J_iald (pc := 22) (f := (vM 6)) (v := ((vM 6) (Int32.toNatClampNeg x4_5))) C 12 rfl 7 rfl g4 rfl ?_
          refine J_iload_n (pc := 23) C 13 rfl 1 rfl rfl ?_
          refine J_icmp_ne (pc := 24) (tgt := 31) C 14 rfl rfl (fun c5 => ?_) (fun c5 => ?_)
          · rw [if_neg c5] at h
            refine J_iconst (pc := 31) (v := (0 : Int32)) C 17 rfl rfl ?_
            refine J_istore_n (pc := 32) (lv' := [(3, .int (0 : Int32)), (0, .ref (aM 0)), (1, .int x1_5), (4, .int x4_5)]) C 18 rfl rfl (by decide) rfl ?_
            refine J_iinc (pc := 33) (v := (x4_5 + (6 : Int32))) (lv' := [(4, .int (x4_5 + (6 : Int32))), (3, .int (0 : Int32)), (0, .ref (aM 0)), (1, .int x1_5)]) C 19 rfl 3 rfl rfl (by decide) rfl ?_
            refine J_goto (pc := 36) (tgt := 5) C 20 rfl rfl ?_
            exact J_sub [2, 3, 1, 0] rfl (ih5 (0 : Int32) (x4_5 + (6 : Int32)) h)
          · rw [if_pos c5] at h
            refine J_iconst (pc := 27) (v := (1 : Int32)) C 15 rfl rfl ?_
            refine J_goto (pc := 28) (tgt := 32) C 16 rfl rfl ?_
            refine J_istore_n (pc := 32) (lv' := [(3, .int (1 : Int32)), (0, .ref (aM 0)), (1, .int x1_5), (4, .int x4_5)]) C 18 rfl rfl (by decide) rfl ?_
            refine J_iinc (pc := 33) (v := (x4_5 + (6 : Int32))) (lv' := [(4, .int (x4_5 + (6 : Int32))), (3, .int (1 : Int32)), (0, .ref (aM 0)), (1, .int x1_5)]) C 19 rfl 3 rfl rfl (by decide) rfl ?_
            refine J_goto (pc := 36) (tgt := 5) C 20 rfl rfl ?_
            exact J_sub [2, 3, 1, 0] rfl (ih5 (1 : Int32) (x4_5 + (6 : Int32)) h)
  unfold f_X5_has at h
  refine J_iconst (pc := 0) (v := (0 : Int32)) C 0 rfl rfl ?_
  refine J_istore_n (pc := 1) (lv' := [(3, .int (0 : Int32)), (0, .ref (aM 0)), (1, .int x1), (2, .int x2)]) C 1 rfl rfl (by decide) rfl ?_
  refine J_iload_n (pc := 2) C 2 rfl 3 rfl rfl ?_
  refine J_istore (pc := 3) (lv' := [(4, .int x2), (3, .int (0 : Int32)), (0, .ref (aM 0)), (1, .int x1), (2, .int x2)]) C 3 rfl (by decide) rfl ?_
  exact J_sub [2, 3, 1, 0] rfl (B5 x1 FU (0 : Int32) x2 h)
def T_X5_isAlone : List (Nat × ClassFile.Instr × Nat) := [(0, .aload_n 0, 1), (1, .getfield 7, 3), (4, .iload_n 1, 1), (5, .invokestatic 64, 3), (8, .iconst 1, 1), (9, .iadd, 1), (10, .iaload, 1), (11, .istore 4, 2), (13, .iload 4, 2), (15, .aload_n 0, 1), (16, .getfield 7, 3), (19, .iload_n 1, 1), (20, .invokestatic 64, 3), (23, .iconst 0, 1), (24, .iadd, 1), (25, .iaload, 1), (26, .imul, 1), (27, .istore 5, 2), (29, .bipush 16, 2), (31, .iload_n 1, 1), (32, .imul, 1), (33, .iload_n 2, 1), (34, .iadd, 1), (35, .istore 6, 2), (37, .iload_n 2, 1), (38, .iload 4, 2), (40, .irem, 1), (41, .ifCond .le 19, 3), (44, .aload_n 0, 1), (45, .iload 6, 2), (47, .iconst 1, 1), (48, .isub, 1), (49, .iload_n 3, 1), (50, .invokevirtual 67, 3), (53, .ifCond .eq 7, 3), (56, .iconst 1, 1), (57, .goto 4, 3), (60, .iconst 0, 1), (61, .istore 7, 2), (63, .iload_n 2, 1), (64, .iload 4, 2), (66, .irem, 1), (67, .iload 4, 2), (69, .iconst 1, 1), (70, .isub, 1), (71, .if_icmp .ge 19, 3), (74, .aload_n 0, 1), (75, .iload 6, 2), (77, .iconst 1, 1), (78, .iadd, 1), (79, .iload_n 3, 1), (80, .invokevirtual 67, 3), (83, .ifCond .eq 7, 3), (86, .iconst 1, 1), (87, .goto 4, 3), (90, .iconst 0, 1), (91, .istore 8, 2), (93, .iload_n 2, 1), (94, .iload 4, 2), (96, .if_icmp .lt 20, 3), (99, .aload_n 0, 1), (100, .iload 6, 2), (102, .iload 4, 2), (104, .isub, 1), (105, .iload_n 3, 1), (106, .invokevirtual 67, 3), (109, .ifCond .eq 7, 3), (112, .iconst 1, 1), (113, .goto 4, 3), (116, .iconst 0, 1), (117, .istore 9, 2), (119, .iload_n 2, 1), (120, .iload 4, 2), (122, .iadd, 1), (123, .iload 5, 2), (125, .if_icmp .ge 20, 3), (128, .aload_n 0, 1), (129, .iload 6, 2), (131, .iload 4, 2), (133, .iadd, 1), (134, .iload_n 3, 1), (135, .invokevirtual 67, 3), (138, .ifCond .eq 7, 3), (141, .iconst 1, 1), (142, .goto 4, 3), (145, .iconst 0, 1), (146, .istore 10, 2), (148, .iload 7, 2), (150, .ifCond .ne 22, 3), (153, .iload 8, 2), (155, .ifCond .ne 17, 3), (158, .iload 9, 2), (160, .ifCond .ne 12, 3), (163, .iload 10, 2), (165, .ifCond .ne 7, 3), (168, .iconst 1, 1), (169, .goto 4, 3), (172, .iconst 0, 1), (173, .ireturn, 1)]
theorem D_X5_isAlone : ∀ q ∈ T_X5_isAlone, decode cX5_isAlone q.1 = .ok q.2 := by decide +kernel
theorem V_X5_isAlone : Vy yX5_isAlone cX5_isAlone 11 (some .boolean) 3 := ⟨k443, k415, by decide +kernel⟩
theorem i_X5_isAlone : Cond.instanceMethod yX5_isAlone ∈ TB := k461
theorem s_X5_isAlone : Cond.selects yX5_isAlone.cls yX5_isAlone yX5_isAlone ∈ TB := k462
noncomputable def f_X5_isAlone_K146 (vM : JV) (x7_146 : Int32) (x8_146 : Int32) (x9_146 : Int32) (y0_146 : Int32) : Option (Int32) :=
  (if x7_146 = 0 then (if x8_146 = 0 then (if x9_146 = 0 then (if y0_146 = 0 then some (1 : Int32) else some (0 : Int32)) else some (0 : Int32)) else some (0 : Int32)) else some (0 : Int32))
noncomputable def f_X5_isAlone_K145 (vM : JV) (x7_145 : Int32) (x8_145 : Int32) (x9_145 : Int32) : Option (Int32) :=
  f_X5_isAlone_K146 vM x7_145 x8_145 x9_145 (0 : Int32)
noncomputable def f_X5_isAlone_K117 (vM : JV) (x2_117 : Int32) (x3_117 : Int32) (x4_117 : Int32) (x5_117 : Int32) (x6_117 : Int32) (x7_117 : Int32) (x8_117 : Int32) (y0_117 : Int32) : Option (Int32) :=
  (if x5_117 ≤ (x2_117 + x4_117) then f_X5_isAlone_K145 vM x7_117 x8_117 y0_117 else (f_X5_has vM (x6_117 + x4_117) x3_117).bind (fun q15 => (if q15 = 0 then f_X5_isAlone_K145 vM x7_117 x8_117 y0_117 else f_X5_isAlone_K146 vM x7_117 x8_117 y0_117 (1 : Int32))))
noncomputable def f_X5_isAlone_K116 (vM : JV) (x2_116 : Int32) (x3_116 : Int32) (x4_116 : Int32) (x5_116 : Int32) (x6_116 : Int32) (x7_116 : Int32) (x8_116 : Int32) : Option (Int32) :=
  f_X5_isAlone_K117 vM x2_116 x3_116 x4_116 x5_116 x6_116 x7_116 x8_116 (0 : Int32)
noncomputable def f_X5_isAlone_K91 (vM : JV) (x2_91 : Int32) (x3_91 : Int32) (x4_91 : Int32) (x5_91 : Int32) (x6_91 : Int32) (x7_91 : Int32) (y0_91 : Int32) : Option (Int32) :=
  (if x2_91 < x4_91 then f_X5_isAlone_K116 vM x2_91 x3_91 x4_91 x5_91 x6_91 x7_91 y0_91 else (f_X5_has vM (x6_91 - x4_91) x3_91).bind (fun q17 => (if q17 = 0 then f_X5_isAlone_K116 vM x2_91 x3_91 x4_91 x5_91 x6_91 x7_91 y0_91 else f_X5_isAlone_K117 vM x2_91 x3_91 x4_91 x5_91 x6_91 x7_91 y0_91 (1 : Int32))))
noncomputable def f_X5_isAlone_K90 (vM : JV) (x2_90 : Int32) (x3_90 : Int32) (x4_90 : Int32) (x5_90 : Int32) (x6_90 : Int32) (x7_90 : Int32) : Option (Int32) :=
  f_X5_isAlone_K91 vM x2_90 x3_90 x4_90 x5_90 x6_90 x7_90 (0 : Int32)
noncomputable def f_X5_isAlone_K61 (vM : JV) (x2_61 : Int32) (x3_61 : Int32) (x4_61 : Int32) (x5_61 : Int32) (x6_61 : Int32) (y0_61 : Int32) : Option (Int32) :=
  gd (nz x4_61) ((if (x4_61 - (1 : Int32)) ≤ (x2_61 - x2_61 / x4_61 * x4_61) then f_X5_isAlone_K90 vM x2_61 x3_61 x4_61 x5_61 x6_61 y0_61 else (f_X5_has vM (x6_61 + (1 : Int32)) x3_61).bind (fun q19 => (if q19 = 0 then f_X5_isAlone_K90 vM x2_61 x3_61 x4_61 x5_61 x6_61 y0_61 else f_X5_isAlone_K91 vM x2_61 x3_61 x4_61 x5_61 x6_61 y0_61 (1 : Int32)))))
noncomputable def f_X5_isAlone_K60 (vM : JV) (x2_60 : Int32) (x3_60 : Int32) (x4_60 : Int32) (x5_60 : Int32) (x6_60 : Int32) : Option (Int32) :=
  f_X5_isAlone_K61 vM x2_60 x3_60 x4_60 x5_60 x6_60 (0 : Int32)
noncomputable def f_X5_isAlone (vM : JV) (x1 : Int32) (x2 : Int32) (x3 : Int32) : Option (Int32) :=
  (f_X5_h x1).bind (fun q1 => gd (inb (q1 + (1 : Int32)) 76) ((f_X5_h x1).bind (fun q3 => gd (inb (q3 + (0 : Int32)) 76) (gd (nz ((vM 0) (Int32.toNatClampNeg (q1 + (1 : Int32))))) ((if (x2 - x2 / ((vM 0) (Int32.toNatClampNeg (q1 + (1 : Int32)))) * ((vM 0) (Int32.toNatClampNeg (q1 + (1 : Int32))))) ≤ 0 then f_X5_isAlone_K60 vM x2 x3 ((vM 0) (Int32.toNatClampNeg (q1 + (1 : Int32)))) (((vM 0) (Int32.toNatClampNeg (q1 + (1 : Int32)))) * ((vM 0) (Int32.toNatClampNeg (q3 + (0 : Int32))))) (((16 : Int32) * x1) + x2) else (f_X5_has vM ((((16 : Int32) * x1) + x2) - (1 : Int32)) x3).bind (fun q21 => (if q21 = 0 then f_X5_isAlone_K60 vM x2 x3 ((vM 0) (Int32.toNatClampNeg (q1 + (1 : Int32)))) (((vM 0) (Int32.toNatClampNeg (q1 + (1 : Int32)))) * ((vM 0) (Int32.toNatClampNeg (q3 + (0 : Int32))))) (((16 : Int32) * x1) + x2) else f_X5_isAlone_K61 vM x2 x3 ((vM 0) (Int32.toNatClampNeg (q1 + (1 : Int32)))) (((vM 0) (Int32.toNatClampNeg (q1 + (1 : Int32)))) * ((vM 0) (Int32.toNatClampNeg (q3 + (0 : Int32))))) (((16 : Int32) * x1) + x2) (1 : Int32)))))))))
set_option maxRecDepth 100000 in
set_option maxHeartbeats 4000000 in
theorem c_X5_isAlone {l : Launch} {G : JG} (aM : Nat → Nat) (vM : JV) (x1 : Int32) (x2 : Int32) (x3 : Int32) {Rz : Int32} (h : f_X5_isAlone vM x1 x2 x3 = some Rz) : JM l G yX5_isAlone cX5_isAlone 11 (some .boolean) 1 24 [.ref (aM 0), .int x1, .int x2, .int x3] (wMod G aM (vM 0) (vM 1) (vM 2) (vM 3) (vM 4) (vM 5) (vM 6) (vM 7) (vM 8) (vM 9 0) (vM 10 0) (vM 11 0) (vM 12 0) (vM 13 0)) (wMod G aM (vM 0) (vM 1) (vM 2) (vM 3) (vM 4) (vM 5) (vM 6) (vM 7) (vM 8) (vM 9 0) (vM 10 0) (vM 11 0) (vM 12 0) (vM 13 0)) (some (.int Rz)) := by
  refine JM.of (own := RX5) (tb := T_X5_isAlone) (by decide) (Nat.le_of_ble_eq_true rfl) D_X5_isAlone rfl (fun X C => ?_)
  refine J_sub (lv' := [(0, .ref (aM 0)), (1, .int x1), (2, .int x2), (3, .int x3)]) [0, 1, 2, 3] rfl ?_
  have B146 : ∀ (x7_146 : Int32) (x8_146 : Int32) (x9_146 : Int32) (y0_146 : Int32), f_X5_isAlone_K146 vM x7_146 x8_146 x9_146 y0_146 = some Rz → J l { frames := 1, cells := 0, slots := 0, locals := 24 } G 11 X (QM X G 0 0 (some (.int Rz)) (wMod G aM (vM 0) (vM 1) (vM 2) (vM 3) (vM 4) (vM 5) (vM 6) (vM 7) (vM 8) (vM 9 0) (vM 10 0) (vM 11 0) (vM 12 0) (vM 13 0))) 0 0 146 [(7, .int x7_146), (8, .int x8_146), (9, .int x9_146)] [.int y0_146] (wMod G aM (vM 0) (vM 1) (vM 2) (vM 3) (vM 4) (vM 5) (vM 6) (vM 7) (vM 8) (vM 9 0) (vM 10 0) (vM 11 0) (vM 12 0) (vM 13 0)) := by
    intro x7_146 x8_146 x9_146 y0_146 h
    unfold f_X5_isAlone_K146 at h
    refine J_istore (pc := 146) (lv' := [(10, .int y0_146), (7, .int x7_146), (8, .int x8_146), (9, .int x9_146)]) C 86 rfl (by decide) rfl ?_
    refine J_iload (pc := 148) C 87 rfl 1 rfl ?_
    refine J_if_ne (pc := 150) (tgt := 172) C 88 rfl rfl (fun c11 => ?_) (fun c11 => ?_)
    · rw [if_neg c11] at h
      refine J_iconst (pc := 172) (v := (0 : Int32)) C 97 rfl rfl ?_
      cases h
      exact J_zret (pc := 173) C 98 rfl rfl
    · rw [if_pos c11] at h
      refine J_iload (pc := 153) C 89 rfl 2 rfl ?_
      refine J_if_ne (pc := 155) (tgt := 172) C 90 rfl rfl (fun c12 => ?_) (fun c12 => ?_)
      · rw [if_neg c12] at h
        refine J_iconst (pc := 172) (v := (0 : Int32)) C 97 rfl rfl ?_
        cases h
        exact J_zret (pc := 173) C 98 rfl rfl
      · rw [if_pos c12] at h
        refine J_iload (pc := 158) C 91 rfl 3 rfl ?_
        refine J_if_ne (pc := 160) (tgt := 172) C 92 rfl rfl (fun c13 => ?_) (fun c13 => ?_)
        · rw [if_neg c13] at h
          refine J_iconst (pc := 172) (v := (0 : Int32)) C 97 rfl rfl ?_
          cases h
          exact J_zret (pc := 173) C 98 rfl rfl
        · rw [if_pos c13] at h
          refine J_iload (pc := 163) C 93 rfl 0 rfl ?_
          refine J_if_ne (pc := 165) (tgt := 172) C 94 rfl rfl (fun c14 => ?_) (fun c14 => ?_)
          · rw [if_neg c14] at h
            refine J_iconst (pc := 172) (v := (0 : Int32)) C 97 rfl rfl ?_
            cases h
            exact J_zret (pc := 173) C 98 rfl rfl
          · rw [if_pos c14] at h
            refine J_iconst (pc := 168) (v := (1 : Int32)) C 95 rfl rfl ?_
            refine J_goto (pc := 169) (tgt := 173) C 96 rfl rfl ?_
            cases h
            exact J_zret (pc := 173) C 98 rfl rfl
  have B145 : ∀ (x7_145 : Int32) (x8_145 : Int32) (x9_145 : Int32), f_X5_isAlone_K145 vM x7_145 x8_145 x9_145 = some Rz → J l { frames := 1, cells := 0, slots := 0, locals := 24 } G 11 X (QM X G 0 0 (some (.int Rz)) (wMod G aM (vM 0) (vM 1) (vM 2) (vM 3) (vM 4) (vM 5) (vM 6) (vM 7) (vM 8) (vM 9 0) (vM 10 0) (vM 11 0) (vM 12 0) (vM 13 0))) 0 0 145 [(7, .int x7_145), (8, .int x8_145), (9, .int x9_145)] [] (wMod G aM (vM 0) (vM 1) (vM 2) (vM 3) (vM 4) (vM 5) (vM 6) (vM 7) (vM 8) (vM 9 0) (vM 10 0) (vM 11 0) (vM 12 0) (vM 13 0)) := by
    intro x7_145 x8_145 x9_145 h
    unfold f_X5_isAlone_K145 at h
    refine J_iconst (pc := 145) (v := (0 : Int32)) C 85 rfl rfl ?_
    exact J_sub [0, 1, 2] rfl (B146 x7_145 x8_145 x9_145 (0 : Int32) h)
  have B117 : ∀ (x2_117 : Int32) (x3_117 : Int32) (x4_117 : Int32) (x5_117 : Int32) (x6_117 : Int32) (x7_117 : Int32) (x8_117 : Int32) (y0_117 : Int32), f_X5_isAlone_K117 vM x2_117 x3_117 x4_117 x5_117 x6_117 x7_117 x8_117 y0_117 = some Rz → J l { frames := 1, cells := 0, slots := 0, locals := 24 } G 11 X (QM X G 0 0 (some (.int Rz)) (wMod G aM (vM 0) (vM 1) (vM 2) (vM 3) (vM 4) (vM 5) (vM 6) (vM 7) (vM 8) (vM 9 0) (vM 10 0) (vM 11 0) (vM 12 0) (vM 13 0))) 0 0 117 [(0, .ref (aM 0)), (2, .int x2_117), (3, .int x3_117), (4, .int x4_117), (5, .int x5_117), (6, .int x6_117), (7, .int x7_117), (8, .int x8_117)] [.int y0_117] (wMod G aM (vM 0) (vM 1) (vM 2) (vM 3) (vM 4) (vM 5) (vM 6) (vM 7) (vM 8) (vM 9 0) (vM 10 0) (vM 11 0) (vM 12 0) (vM 13 0)) := by
    intro x2_117 x3_117 x4_117 x5_117 x6_117 x7_117 x8_117 y0_117 h
    unfold f_X5_isAlone_K117 at h
    refine J_istore (pc := 117) (lv' := [(9, .int y0_117), (0, .ref (aM 0)), (2, .int x2_117), (3, .int x3_117), (4, .int x4_117), (5, .int x5_117), (6, .int x6_117), (7, .int x7_117), (8, .int x8_117)]) C 70 rfl (by decide) rfl ?_
    refine J_iload_n (pc := 119) C 71 rfl 2 rfl rfl ?_
    refine J_iload (pc := 120) C 72 rfl 4 rfl ?_
    refine J_iadd (pc := 122) C 73 rfl  ?_
    refine J_iload (pc := 123) C 74 rfl 5 rfl ?_
    refine J_icmp_ge (pc := 125) (tgt := 145) C 75 rfl rfl (fun c10 => ?_) (fun c10 => ?_)
    · rw [if_pos c10] at h
      exact J_sub [7, 8, 0] rfl (B145 x7_117 x8_117 y0_117 h)
    · rw [if_neg c10] at h
      refine J_aload_n (pc := 128) C 76 rfl 1 rfl rfl ?_
      refine J_iload (pc := 129) C 77 rfl 6 rfl ?_
      refine J_iload (pc := 131) C 78 rfl 4 rfl ?_
      refine J_iadd (pc := 133) C 79 rfl  ?_
      refine J_iload_n (pc := 134) C 80 rfl 3 rfl rfl ?_
      obtain ⟨q15, hq15, h⟩ := bnd h
      refine J_callV (pc := 135) (st2 := []) (st3 := [.int q15]) (ws2 := (wMod G aM (vM 0) (vM 1) (vM 2) (vM 3) (vM 4) (vM 5) (vM 6) (vM 7) (vM 8) (vM 9 0) (vM 10 0) (vM 11 0) (vM 12 0) (vM 13 0))) C 81 rfl (c_X5_has aM vM (x6_117 + x4_117) x3_117 hq15) V_X5_has k446 i_X5_has s_X5_has rfl rfl ⟨Nat.le_of_ble_eq_true rfl, Nat.le_of_ble_eq_true rfl⟩ (Nat.le_of_ble_eq_true rfl) ⟨Nat.le_refl _, Nat.le_refl _⟩ 0 5 rfl rfl rfl (isC := [0, 1, 2, 3, 4, 5, 6, 7, 8, 9]) (isR := []) (N := 10) ⟨rfl, by decide +kernel, rfl, by decide +kernel, rfl, trivial⟩ rfl ?_
      refine J_if_eq (pc := 138) (tgt := 145) C 82 rfl rfl (fun c16 => ?_) (fun c16 => ?_)
      · rw [if_pos c16] at h
        exact J_sub [7, 8, 0] rfl (B145 x7_117 x8_117 y0_117 h)
      · rw [if_neg c16] at h
        refine J_iconst (pc := 141) (v := (1 : Int32)) C 83 rfl rfl ?_
        refine J_goto (pc := 142) (tgt := 146) C 84 rfl rfl ?_
        exact J_sub [7, 8, 0] rfl (B146 x7_117 x8_117 y0_117 (1 : Int32) h)
  have B116 : ∀ (x2_116 : Int32) (x3_116 : Int32) (x4_116 : Int32) (x5_116 : Int32) (x6_116 : Int32) (x7_116 : Int32) (x8_116 : Int32), f_X5_isAlone_K116 vM x2_116 x3_116 x4_116 x5_116 x6_116 x7_116 x8_116 = some Rz → J l { frames := 1, cells := 0, slots := 0, locals := 24 } G 11 X (QM X G 0 0 (some (.int Rz)) (wMod G aM (vM 0) (vM 1) (vM 2) (vM 3) (vM 4) (vM 5) (vM 6) (vM 7) (vM 8) (vM 9 0) (vM 10 0) (vM 11 0) (vM 12 0) (vM 13 0))) 0 0 116 [(0, .ref (aM 0)), (2, .int x2_116), (3, .int x3_116), (4, .int x4_116), (5, .int x5_116), (6, .int x6_116), (7, .int x7_116), (8, .int x8_116)] [] (wMod G aM (vM 0) (vM 1) (vM 2) (vM 3) (vM 4) (vM 5) (vM 6) (vM 7) (vM 8) (vM 9 0) (vM 10 0) (vM 11 0) (vM 12 0) (vM 13 0)) := by
    intro x2_116 x3_116 x4_116 x5_116 x6_116 x7_116 x8_116 h
    unfold f_X5_isAlone_K116 at h
    refine J_iconst (pc := 116) (v := (0 : Int32)) C 69 rfl rfl ?_
    exact J_sub [0, 1, 2, 3, 4, 5, 6, 7] rfl (B117 x2_116 x3_116 x4_116 x5_116 x6_116 x7_116 x8_116 (0 : Int32) h)
  have B91 : ∀ (x2_91 : Int32) (x3_91 : Int32) (x4_91 : Int32) (x5_91 : Int32) (x6_91 : Int32) (x7_91 : Int32) (y0_91 : Int32), f_X5_isAlone_K91 vM x2_91 x3_91 x4_91 x5_91 x6_91 x7_91 y0_91 = some Rz → J l { frames := 1, cells := 0, slots := 0, locals := 24 } G 11 X (QM X G 0 0 (some (.int Rz)) (wMod G aM (vM 0) (vM 1) (vM 2) (vM 3) (vM 4) (vM 5) (vM 6) (vM 7) (vM 8) (vM 9 0) (vM 10 0) (vM 11 0) (vM 12 0) (vM 13 0))) 0 0 91 [(0, .ref (aM 0)), (2, .int x2_91), (3, .int x3_91), (4, .int x4_91), (5, .int x5_91), (6, .int x6_91), (7, .int x7_91)] [.int y0_91] (wMod G aM (vM 0) (vM 1) (vM 2) (vM 3) (vM 4) (vM 5) (vM 6) (vM 7) (vM 8) (vM 9 0) (vM 10 0) (vM 11 0) (vM 12 0) (vM 13 0)) := by
    intro x2_91 x3_91 x4_91 x5_91 x6_91 x7_91 y0_91 h
    unfold f_X5_isAlone_K91 at h
    refine J_istore (pc := 91) (lv' := [(8, .int y0_91), (0, .ref (aM 0)), (2, .int x2_91), (3, .int x3_91), (4, .int x4_91), (5, .int x5_91), (6, .int x6_91), (7, .int x7_91)]) C 56 rfl (by decide) rfl ?_
    refine J_iload_n (pc := 93) C 57 rfl 2 rfl rfl ?_
    refine J_iload (pc := 94) C 58 rfl 4 rfl ?_
    refine J_icmp_lt (pc := 96) (tgt := 116) C 59 rfl rfl (fun c9 => ?_) (fun c9 => ?_)
    · rw [if_pos c9] at h
      exact J_sub [1, 2, 3, 4, 5, 6, 7, 0] rfl (B116 x2_91 x3_91 x4_91 x5_91 x6_91 x7_91 y0_91 h)
    · rw [if_neg c9] at h
      refine J_aload_n (pc := 99) C 60 rfl 1 rfl rfl ?_
      refine J_iload (pc := 100) C 61 rfl 6 rfl ?_
      refine J_iload (pc := 102) C 62 rfl 4 rfl ?_
      refine J_isub (pc := 104) C 63 rfl  ?_
      refine J_iload_n (pc := 105) C 64 rfl 3 rfl rfl ?_
      obtain ⟨q17, hq17, h⟩ := bnd h
      refine J_callV (pc := 106) (st2 := []) (st3 := [.int q17]) (ws2 := (wMod G aM (vM 0) (vM 1) (vM 2) (vM 3) (vM 4) (vM 5) (vM 6) (vM 7) (vM 8) (vM 9 0) (vM 10 0) (vM 11 0) (vM 12 0) (vM 13 0))) C 65 rfl (c_X5_has aM vM (x6_91 - x4_91) x3_91 hq17) V_X5_has k446 i_X5_has s_X5_has rfl rfl ⟨Nat.le_of_ble_eq_true rfl, Nat.le_of_ble_eq_true rfl⟩ (Nat.le_of_ble_eq_true rfl) ⟨Nat.le_refl _, Nat.le_refl _⟩ 0 5 rfl rfl rfl (isC := [0, 1, 2, 3, 4, 5, 6, 7, 8, 9]) (isR := []) (N := 10) ⟨rfl, by decide +kernel, rfl, by decide +kernel, rfl, trivial⟩ rfl ?_
      refine J_if_eq (pc := 109) (tgt := 116) C 66 rfl rfl (fun c18 => ?_) (fun c18 => ?_)
      · rw [if_pos c18] at h
        exact J_sub [1, 2, 3, 4, 5, 6, 7, 0] rfl (B116 x2_91 x3_91 x4_91 x5_91 x6_91 x7_91 y0_91 h)
      · rw [if_neg c18] at h
        refine J_iconst (pc := 112) (v := (1 : Int32)) C 67 rfl rfl ?_
        refine J_goto (pc := 113) (tgt := 117) C 68 rfl rfl ?_
        exact J_sub [1, 2, 3, 4, 5, 6, 7, 0] rfl (B117 x2_91 x3_91 x4_91 x5_91 x6_91 x7_91 y0_91 (1 : Int32) h)
  have B90 : ∀ (x2_90 : Int32) (x3_90 : Int32) (x4_90 : Int32) (x5_90 : Int32) (x6_90 : Int32) (x7_90 : Int32), f_X5_isAlone_K90 vM x2_90 x3_90 x4_90 x5_90 x6_90 x7_90 = some Rz → J l { frames := 1, cells := 0, slots := 0, locals := 24 } G 11 X (QM X G 0 0 (some (.int Rz)) (wMod G aM (vM 0) (vM 1) (vM 2) (vM 3) (vM 4) (vM 5) (vM 6) (vM 7) (vM 8) (vM 9 0) (vM 10 0) (vM 11 0) (vM 12 0) (vM 13 0))) 0 0 90 [(0, .ref (aM 0)), (2, .int x2_90), (3, .int x3_90), (4, .int x4_90), (5, .int x5_90), (6, .int x6_90), (7, .int x7_90)] [] (wMod G aM (vM 0) (vM 1) (vM 2) (vM 3) (vM 4) (vM 5) (vM 6) (vM 7) (vM 8) (vM 9 0) (vM 10 0) (vM 11 0) (vM 12 0) (vM 13 0)) := by
    intro x2_90 x3_90 x4_90 x5_90 x6_90 x7_90 h
    unfold f_X5_isAlone_K90 at h
    refine J_iconst (pc := 90) (v := (0 : Int32)) C 55 rfl rfl ?_
    exact J_sub [0, 1, 2, 3, 4, 5, 6] rfl (B91 x2_90 x3_90 x4_90 x5_90 x6_90 x7_90 (0 : Int32) h)
  have B61 : ∀ (x2_61 : Int32) (x3_61 : Int32) (x4_61 : Int32) (x5_61 : Int32) (x6_61 : Int32) (y0_61 : Int32), f_X5_isAlone_K61 vM x2_61 x3_61 x4_61 x5_61 x6_61 y0_61 = some Rz → J l { frames := 1, cells := 0, slots := 0, locals := 24 } G 11 X (QM X G 0 0 (some (.int Rz)) (wMod G aM (vM 0) (vM 1) (vM 2) (vM 3) (vM 4) (vM 5) (vM 6) (vM 7) (vM 8) (vM 9 0) (vM 10 0) (vM 11 0) (vM 12 0) (vM 13 0))) 0 0 61 [(0, .ref (aM 0)), (2, .int x2_61), (3, .int x3_61), (4, .int x4_61), (5, .int x5_61), (6, .int x6_61)] [.int y0_61] (wMod G aM (vM 0) (vM 1) (vM 2) (vM 3) (vM 4) (vM 5) (vM 6) (vM 7) (vM 8) (vM 9 0) (vM 10 0) (vM 11 0) (vM 12 0) (vM 13 0)) := by
    intro x2_61 x3_61 x4_61 x5_61 x6_61 y0_61 h
    unfold f_X5_isAlone_K61 at h
    refine J_istore (pc := 61) (lv' := [(7, .int y0_61), (0, .ref (aM 0)), (2, .int x2_61), (3, .int x3_61), (4, .int x4_61), (5, .int x5_61), (6, .int x6_61)]) C 38 rfl (by decide) rfl ?_
    refine J_iload_n (pc := 63) C 39 rfl 2 rfl rfl ?_
    refine J_iload (pc := 64) C 40 rfl 4 rfl ?_
    obtain ⟨g7, h⟩ := gd_some h
    refine J_irem (pc := 66) C 41 rfl g7 ?_
    refine J_iload (pc := 67) C 42 rfl 4 rfl ?_
    refine J_iconst (pc := 69) (v := (1 : Int32)) C 43 rfl rfl ?_
    refine J_isub (pc := 70) C 44 rfl  ?_
    refine J_icmp_ge (pc := 71) (tgt := 90) C 45 rfl rfl (fun c8 => ?_) (fun c8 => ?_)
    · rw [if_pos c8] at h
      exact J_sub [1, 2, 3, 4, 5, 6, 0] rfl (B90 x2_61 x3_61 x4_61 x5_61 x6_61 y0_61 h)
    · rw [if_neg c8] at h
      refine J_aload_n (pc := 74) C 46 rfl 1 rfl rfl ?_
      refine J_iload (pc := 75) C 47 rfl 6 rfl ?_
      refine J_iconst (pc := 77) (v := (1 : Int32)) C 48 rfl rfl ?_
      refine J_iadd (pc := 78) C 49 rfl  ?_
      refine J_iload_n (pc := 79) C 50 rfl 3 rfl rfl ?_
      obtain ⟨q19, hq19, h⟩ := bnd h
      refine J_callV (pc := 80) (st2 := []) (st3 := [.int q19]) (ws2 := (wMod G aM (vM 0) (vM 1) (vM 2) (vM 3) (vM 4) (vM 5) (vM 6) (vM 7) (vM 8) (vM 9 0) (vM 10 0) (vM 11 0) (vM 12 0) (vM 13 0))) C 51 rfl (c_X5_has aM vM (x6_61 + (1 : Int32)) x3_61 hq19) V_X5_has k446 i_X5_has s_X5_has rfl rfl ⟨Nat.le_of_ble_eq_true rfl, Nat.le_of_ble_eq_true rfl⟩ (Nat.le_of_ble_eq_true rfl) ⟨Nat.le_refl _, Nat.le_refl _⟩ 0 5 rfl rfl rfl (isC := [0, 1, 2, 3, 4, 5, 6, 7, 8, 9]) (isR := []) (N := 10) ⟨rfl, by decide +kernel, rfl, by decide +kernel, rfl, trivial⟩ rfl ?_
      refine J_if_eq (pc := 83) (tgt := 90) C 52 rfl rfl (fun c20 => ?_) (fun c20 => ?_)
      · rw [if_pos c20] at h
        exact J_sub [1, 2, 3, 4, 5, 6, 0] rfl (B90 x2_61 x3_61 x4_61 x5_61 x6_61 y0_61 h)
      · rw [if_neg c20] at h
        refine J_iconst (pc := 86) (v := (1 : Int32)) C 53 rfl rfl ?_
        refine J_goto (pc := 87) (tgt := 91) C 54 rfl rfl ?_
        exact J_sub [1, 2, 3, 4, 5, 6, 0] rfl (B91 x2_61 x3_61 x4_61 x5_61 x6_61 y0_61 (1 : Int32) h)
  have B60 : ∀ (x2_60 : Int32) (x3_60 : Int32) (x4_60 : Int32) (x5_60 : Int32) (x6_60 : Int32), f_X5_isAlone_K60 vM x2_60 x3_60 x4_60 x5_60 x6_60 = some Rz → J l { frames := 1, cells := 0, slots := 0, locals := 24 } G 11 X (QM X G 0 0 (some (.int Rz)) (wMod G aM (vM 0) (vM 1) (vM 2) (vM 3) (vM 4) (vM 5) (vM 6) (vM 7) (vM 8) (vM 9 0) (vM 10 0) (vM 11 0) (vM 12 0) (vM 13 0))) 0 0 60 [(0, .ref (aM 0)), (2, .int x2_60), (3, .int x3_60), (4, .int x4_60), (5, .int x5_60), (6, .int x6_60)] [] (wMod G aM (vM 0) (vM 1) (vM 2) (vM 3) (vM 4) (vM 5) (vM 6) (vM 7) (vM 8) (vM 9 0) (vM 10 0) (vM 11 0) (vM 12 0) (vM 13 0)) := by
    intro x2_60 x3_60 x4_60 x5_60 x6_60 h
    unfold f_X5_isAlone_K60 at h
    refine J_iconst (pc := 60) (v := (0 : Int32)) C 37 rfl rfl ?_
    exact J_sub [0, 1, 2, 3, 4, 5] rfl (B61 x2_60 x3_60 x4_60 x5_60 x6_60 (0 : Int32) h)
  unfold f_X5_isAlone at h
  refine J_aload_n (pc := 0) C 0 rfl 0 rfl rfl ?_
  refine J_get (pc := 1) (v := .ref (aM 1)) C 1 rfl TB_l5 rfl 0 0 rfl (by decide) k399 rfl rfl ?_
  refine J_iload_n (pc := 4) C 2 rfl 1 rfl rfl ?_
  obtain ⟨q1, hq1, h⟩ := bnd h
  refine J_callS (pc := 5) (st2 := [.ref (aM 1)]) (st3 := [.int q1, .ref (aM 1)]) (ws2 := (wMod G aM (vM 0) (vM 1) (vM 2) (vM 3) (vM 4) (vM 5) (vM 6) (vM 7) (vM 8) (vM 9 0) (vM 10 0) (vM 11 0) (vM 12 0) (vM 13 0))) C 3 rfl (c_X5_h x1 hq1) V_X5_h k444 t_X5_h rfl rfl ⟨Nat.le_of_ble_eq_true rfl, Nat.le_of_ble_eq_true rfl⟩ (Nat.le_of_ble_eq_true rfl) ⟨Nat.le_refl _, Nat.le_refl _⟩ (isC := []) (isR := [0, 1, 2, 3, 4, 5, 6, 7, 8, 9]) (N := 10) ⟨rfl, by decide +kernel, rfl, by decide +kernel, rfl, ⟨⟨_, rfl, rfl⟩, ⟨⟨_, rfl, rfl⟩, ⟨⟨_, rfl, rfl⟩, ⟨⟨_, rfl, rfl⟩, ⟨⟨_, rfl, rfl⟩, ⟨⟨_, rfl, rfl⟩, ⟨⟨_, rfl, rfl⟩, ⟨⟨_, rfl, rfl⟩, ⟨⟨_, rfl, rfl⟩, ⟨⟨_, rfl, rfl⟩, trivial⟩⟩⟩⟩⟩⟩⟩⟩⟩⟩⟩ rfl ?_
  refine J_iconst (pc := 8) (v := (1 : Int32)) C 4 rfl rfl ?_
  refine J_iadd (pc := 9) C 5 rfl  ?_
  obtain ⟨g2, h⟩ := gd_some h
  refine J_iald (pc := 10) (f := (vM 0)) (v := ((vM 0) (Int32.toNatClampNeg (q1 + (1 : Int32))))) C 6 rfl 1 rfl g2 rfl ?_
  refine J_istore (pc := 11) (lv' := [(4, .int ((vM 0) (Int32.toNatClampNeg (q1 + (1 : Int32))))), (0, .ref (aM 0)), (1, .int x1), (2, .int x2), (3, .int x3)]) C 7 rfl (by decide) rfl ?_
  refine J_iload (pc := 13) C 8 rfl 0 rfl ?_
  refine J_aload_n (pc := 15) C 9 rfl 1 rfl rfl ?_
  refine J_get (pc := 16) (v := .ref (aM 1)) C 10 rfl TB_l5 rfl 0 0 rfl (by decide) k399 rfl rfl ?_
  refine J_iload_n (pc := 19) C 11 rfl 2 rfl rfl ?_
  obtain ⟨q3, hq3, h⟩ := bnd h
  refine J_callS (pc := 20) (st2 := [.ref (aM 1), .int ((vM 0) (Int32.toNatClampNeg (q1 + (1 : Int32))))]) (st3 := [.int q3, .ref (aM 1), .int ((vM 0) (Int32.toNatClampNeg (q1 + (1 : Int32))))]) (ws2 := (wMod G aM (vM 0) (vM 1) (vM 2) (vM 3) (vM 4) (vM 5) (vM 6) (vM 7) (vM 8) (vM 9 0) (vM 10 0) (vM 11 0) (vM 12 0) (vM 13 0))) C 12 rfl (c_X5_h x1 hq3) V_X5_h k444 t_X5_h rfl rfl ⟨Nat.le_of_ble_eq_true rfl, Nat.le_of_ble_eq_true rfl⟩ (Nat.le_of_ble_eq_true rfl) ⟨Nat.le_refl _, Nat.le_refl _⟩ (isC := []) (isR := [0, 1, 2, 3, 4, 5, 6, 7, 8, 9]) (N := 10) ⟨rfl, by decide +kernel, rfl, by decide +kernel, rfl, ⟨⟨_, rfl, rfl⟩, ⟨⟨_, rfl, rfl⟩, ⟨⟨_, rfl, rfl⟩, ⟨⟨_, rfl, rfl⟩, ⟨⟨_, rfl, rfl⟩, ⟨⟨_, rfl, rfl⟩, ⟨⟨_, rfl, rfl⟩, ⟨⟨_, rfl, rfl⟩, ⟨⟨_, rfl, rfl⟩, ⟨⟨_, rfl, rfl⟩, trivial⟩⟩⟩⟩⟩⟩⟩⟩⟩⟩⟩ rfl ?_
  refine J_iconst (pc := 23) (v := (0 : Int32)) C 13 rfl rfl ?_
  refine J_iadd (pc := 24) C 14 rfl  ?_
  obtain ⟨g4, h⟩ := gd_some h
  refine J_iald (pc := 25) (f := (vM 0)) (v := ((vM 0) (Int32.toNatClampNeg (q3 + (0 : Int32))))) C 15 rfl 1 rfl g4 rfl ?_
  refine J_imul (pc := 26) C 16 rfl  ?_
  refine J_istore (pc := 27) (lv' := [(5, .int (((vM 0) (Int32.toNatClampNeg (q1 + (1 : Int32)))) * ((vM 0) (Int32.toNatClampNeg (q3 + (0 : Int32)))))), (4, .int ((vM 0) (Int32.toNatClampNeg (q1 + (1 : Int32))))), (0, .ref (aM 0)), (1, .int x1), (2, .int x2), (3, .int x3)]) C 17 rfl (by decide) rfl ?_
  refine J_bipush (pc := 29) (v := (16 : Int32)) C 18 rfl rfl ?_
  refine J_iload_n (pc := 31) C 19 rfl 3 rfl rfl ?_
  refine J_imul (pc := 32) C 20 rfl  ?_
  refine J_iload_n (pc := 33) C 21 rfl 4 rfl rfl ?_
  refine J_iadd (pc := 34) C 22 rfl  ?_
  refine J_istore (pc := 35) (lv' := [(6, .int (((16 : Int32) * x1) + x2)), (5, .int (((vM 0) (Int32.toNatClampNeg (q1 + (1 : Int32)))) * ((vM 0) (Int32.toNatClampNeg (q3 + (0 : Int32)))))), (4, .int ((vM 0) (Int32.toNatClampNeg (q1 + (1 : Int32))))), (0, .ref (aM 0)), (1, .int x1), (2, .int x2), (3, .int x3)]) C 23 rfl (by decide) rfl ?_
  refine J_iload_n (pc := 37) C 24 rfl 5 rfl rfl ?_
  refine J_iload (pc := 38) C 25 rfl 2 rfl ?_
  obtain ⟨g5, h⟩ := gd_some h
  refine J_irem (pc := 40) C 26 rfl g5 ?_
  refine J_if_le (pc := 41) (tgt := 60) C 27 rfl rfl (fun c6 => ?_) (fun c6 => ?_)
  · rw [if_pos c6] at h
    exact J_sub [3, 5, 6, 2, 1, 0] rfl (B60 x2 x3 ((vM 0) (Int32.toNatClampNeg (q1 + (1 : Int32)))) (((vM 0) (Int32.toNatClampNeg (q1 + (1 : Int32)))) * ((vM 0) (Int32.toNatClampNeg (q3 + (0 : Int32))))) (((16 : Int32) * x1) + x2) h)
  · rw [if_neg c6] at h
    refine J_aload_n (pc := 44) C 28 rfl 3 rfl rfl ?_
    refine J_iload (pc := 45) C 29 rfl 0 rfl ?_
    refine J_iconst (pc := 47) (v := (1 : Int32)) C 30 rfl rfl ?_
    refine J_isub (pc := 48) C 31 rfl  ?_
    refine J_iload_n (pc := 49) C 32 rfl 6 rfl rfl ?_
    obtain ⟨q21, hq21, h⟩ := bnd h
    refine J_callV (pc := 50) (st2 := []) (st3 := [.int q21]) (ws2 := (wMod G aM (vM 0) (vM 1) (vM 2) (vM 3) (vM 4) (vM 5) (vM 6) (vM 7) (vM 8) (vM 9 0) (vM 10 0) (vM 11 0) (vM 12 0) (vM 13 0))) C 33 rfl (c_X5_has aM vM ((((16 : Int32) * x1) + x2) - (1 : Int32)) x3 hq21) V_X5_has k446 i_X5_has s_X5_has rfl rfl ⟨Nat.le_of_ble_eq_true rfl, Nat.le_of_ble_eq_true rfl⟩ (Nat.le_of_ble_eq_true rfl) ⟨Nat.le_refl _, Nat.le_refl _⟩ 0 5 rfl rfl rfl (isC := [0, 1, 2, 3, 4, 5, 6, 7, 8, 9]) (isR := []) (N := 10) ⟨rfl, by decide +kernel, rfl, by decide +kernel, rfl, trivial⟩ rfl ?_
    refine J_if_eq (pc := 53) (tgt := 60) C 34 rfl rfl (fun c22 => ?_) (fun c22 => ?_)
    · rw [if_pos c22] at h
      exact J_sub [3, 5, 6, 2, 1, 0] rfl (B60 x2 x3 ((vM 0) (Int32.toNatClampNeg (q1 + (1 : Int32)))) (((vM 0) (Int32.toNatClampNeg (q1 + (1 : Int32)))) * ((vM 0) (Int32.toNatClampNeg (q3 + (0 : Int32))))) (((16 : Int32) * x1) + x2) h)
    · rw [if_neg c22] at h
      refine J_iconst (pc := 56) (v := (1 : Int32)) C 35 rfl rfl ?_
      refine J_goto (pc := 57) (tgt := 61) C 36 rfl rfl ?_
      exact J_sub [3, 5, 6, 2, 1, 0] rfl (B61 x2 x3 ((vM 0) (Int32.toNatClampNeg (q1 + (1 : Int32)))) (((vM 0) (Int32.toNatClampNeg (q1 + (1 : Int32)))) * ((vM 0) (Int32.toNatClampNeg (q3 + (0 : Int32))))) (((16 : Int32) * x1) + x2) (1 : Int32) h)
def T_X5_desks : List (Nat × ClassFile.Instr × Nat) := [(0, .aload_n 0, 1), (1, .getfield 7, 3), (4, .iload_n 1, 1), (5, .invokestatic 64, 3), (8, .iconst 0, 1), (9, .iadd, 1), (10, .iaload, 1), (11, .aload_n 0, 1), (12, .getfield 7, 3), (15, .iload_n 1, 1), (16, .invokestatic 64, 3), (19, .iconst 1, 1), (20, .iadd, 1), (21, .iaload, 1), (22, .imul, 1), (23, .ireturn, 1)]
theorem D_X5_desks : ∀ q ∈ T_X5_desks, decode cX5_desks q.1 = .ok q.2 := by decide +kernel
theorem V_X5_desks : Vy yX5_desks cX5_desks 2 (some .int) 1 := ⟨k449, k415, by decide +kernel⟩
theorem i_X5_desks : Cond.instanceMethod yX5_desks ∈ TB := k452
theorem s_X5_desks : Cond.selects yX5_desks.cls yX5_desks yX5_desks ∈ TB := k453
noncomputable def f_X5_desks (vM : JV) (x1 : Int32) : Option (Int32) :=
  (f_X5_h x1).bind (fun q1 => gd (inb (q1 + (0 : Int32)) 76) ((f_X5_h x1).bind (fun q3 => gd (inb (q3 + (1 : Int32)) 76) (some (((vM 0) (Int32.toNatClampNeg (q1 + (0 : Int32)))) * ((vM 0) (Int32.toNatClampNeg (q3 + (1 : Int32)))))))))
set_option maxRecDepth 100000 in
set_option maxHeartbeats 4000000 in
theorem c_X5_desks {l : Launch} {G : JG} (aM : Nat → Nat) (vM : JV) (x1 : Int32) {Rz : Int32} (h : f_X5_desks vM x1 = some Rz) : JM l G yX5_desks cX5_desks 2 (some .int) 1 20 [.ref (aM 0), .int x1] (wMod G aM (vM 0) (vM 1) (vM 2) (vM 3) (vM 4) (vM 5) (vM 6) (vM 7) (vM 8) (vM 9 0) (vM 10 0) (vM 11 0) (vM 12 0) (vM 13 0)) (wMod G aM (vM 0) (vM 1) (vM 2) (vM 3) (vM 4) (vM 5) (vM 6) (vM 7) (vM 8) (vM 9 0) (vM 10 0) (vM 11 0) (vM 12 0) (vM 13 0)) (some (.int Rz)) := by
  refine JM.of (own := RX5) (tb := T_X5_desks) (by decide) (Nat.le_of_ble_eq_true rfl) D_X5_desks rfl (fun X C => ?_)
  refine J_sub (lv' := [(0, .ref (aM 0)), (1, .int x1)]) [0, 1] rfl ?_
  unfold f_X5_desks at h
  refine J_aload_n (pc := 0) C 0 rfl 0 rfl rfl ?_
  refine J_get (pc := 1) (v := .ref (aM 1)) C 1 rfl TB_l5 rfl 0 0 rfl (by decide) k399 rfl rfl ?_
  refine J_iload_n (pc := 4) C 2 rfl 1 rfl rfl ?_
  obtain ⟨q1, hq1, h⟩ := bnd h
  refine J_callS (pc := 5) (st2 := [.ref (aM 1)]) (st3 := [.int q1, .ref (aM 1)]) (ws2 := (wMod G aM (vM 0) (vM 1) (vM 2) (vM 3) (vM 4) (vM 5) (vM 6) (vM 7) (vM 8) (vM 9 0) (vM 10 0) (vM 11 0) (vM 12 0) (vM 13 0))) C 3 rfl (c_X5_h x1 hq1) V_X5_h k444 t_X5_h rfl rfl ⟨Nat.le_of_ble_eq_true rfl, Nat.le_of_ble_eq_true rfl⟩ (Nat.le_of_ble_eq_true rfl) ⟨Nat.le_refl _, Nat.le_refl _⟩ (isC := []) (isR := [0, 1, 2, 3, 4, 5, 6, 7, 8, 9]) (N := 10) ⟨rfl, by decide +kernel, rfl, by decide +kernel, rfl, ⟨⟨_, rfl, rfl⟩, ⟨⟨_, rfl, rfl⟩, ⟨⟨_, rfl, rfl⟩, ⟨⟨_, rfl, rfl⟩, ⟨⟨_, rfl, rfl⟩, ⟨⟨_, rfl, rfl⟩, ⟨⟨_, rfl, rfl⟩, ⟨⟨_, rfl, rfl⟩, ⟨⟨_, rfl, rfl⟩, ⟨⟨_, rfl, rfl⟩, trivial⟩⟩⟩⟩⟩⟩⟩⟩⟩⟩⟩ rfl ?_
  refine J_iconst (pc := 8) (v := (0 : Int32)) C 4 rfl rfl ?_
  refine J_iadd (pc := 9) C 5 rfl  ?_
  obtain ⟨g2, h⟩ := gd_some h
  refine J_iald (pc := 10) (f := (vM 0)) (v := ((vM 0) (Int32.toNatClampNeg (q1 + (0 : Int32))))) C 6 rfl 1 rfl g2 rfl ?_
  refine J_aload_n (pc := 11) C 7 rfl 0 rfl rfl ?_
  refine J_get (pc := 12) (v := .ref (aM 1)) C 8 rfl TB_l5 rfl 0 0 rfl (by decide) k399 rfl rfl ?_
  refine J_iload_n (pc := 15) C 9 rfl 1 rfl rfl ?_
  obtain ⟨q3, hq3, h⟩ := bnd h
  refine J_callS (pc := 16) (st2 := [.ref (aM 1), .int ((vM 0) (Int32.toNatClampNeg (q1 + (0 : Int32))))]) (st3 := [.int q3, .ref (aM 1), .int ((vM 0) (Int32.toNatClampNeg (q1 + (0 : Int32))))]) (ws2 := (wMod G aM (vM 0) (vM 1) (vM 2) (vM 3) (vM 4) (vM 5) (vM 6) (vM 7) (vM 8) (vM 9 0) (vM 10 0) (vM 11 0) (vM 12 0) (vM 13 0))) C 10 rfl (c_X5_h x1 hq3) V_X5_h k444 t_X5_h rfl rfl ⟨Nat.le_of_ble_eq_true rfl, Nat.le_of_ble_eq_true rfl⟩ (Nat.le_of_ble_eq_true rfl) ⟨Nat.le_refl _, Nat.le_refl _⟩ (isC := []) (isR := [0, 1, 2, 3, 4, 5, 6, 7, 8, 9]) (N := 10) ⟨rfl, by decide +kernel, rfl, by decide +kernel, rfl, ⟨⟨_, rfl, rfl⟩, ⟨⟨_, rfl, rfl⟩, ⟨⟨_, rfl, rfl⟩, ⟨⟨_, rfl, rfl⟩, ⟨⟨_, rfl, rfl⟩, ⟨⟨_, rfl, rfl⟩, ⟨⟨_, rfl, rfl⟩, ⟨⟨_, rfl, rfl⟩, ⟨⟨_, rfl, rfl⟩, ⟨⟨_, rfl, rfl⟩, trivial⟩⟩⟩⟩⟩⟩⟩⟩⟩⟩⟩ rfl ?_
  refine J_iconst (pc := 19) (v := (1 : Int32)) C 11 rfl rfl ?_
  refine J_iadd (pc := 20) C 12 rfl  ?_
  obtain ⟨g4, h⟩ := gd_some h
  refine J_iald (pc := 21) (f := (vM 0)) (v := ((vM 0) (Int32.toNatClampNeg (q3 + (1 : Int32))))) C 13 rfl 1 rfl g4 rfl ?_
  refine J_imul (pc := 22) C 14 rfl  ?_
  cases h
  exact J_iret (pc := 23) C 15 rfl
def T_X5_desksAt : List (Nat × ClassFile.Instr × Nat) := [(0, .iload_n 2, 1), (1, .ifCond .eq 11, 3), (4, .aload_n 0, 1), (5, .iload_n 1, 1), (6, .invokevirtual 71, 3), (9, .goto 4, 3), (12, .iconst 0, 1), (13, .ireturn, 1)]
theorem D_X5_desksAt : ∀ q ∈ T_X5_desksAt, decode cX5_desksAt q.1 = .ok q.2 := by decide +kernel
theorem V_X5_desksAt : Vy yX5_desksAt cX5_desksAt 3 (some .int) 2 := ⟨k450, k415, by decide +kernel⟩
theorem i_X5_desksAt : Cond.instanceMethod yX5_desksAt ∈ TB := k455
theorem s_X5_desksAt : Cond.selects yX5_desksAt.cls yX5_desksAt yX5_desksAt ∈ TB := k456
noncomputable def f_X5_desksAt (vM : JV) (x1 : Int32) (x2 : Int32) : Option (Int32) :=
  (if x2 = 0 then some (0 : Int32) else (f_X5_desks vM x1).bind (fun q2 => some q2))
set_option maxRecDepth 100000 in
set_option maxHeartbeats 4000000 in
theorem c_X5_desksAt {l : Launch} {G : JG} (aM : Nat → Nat) (vM : JV) (x1 : Int32) (x2 : Int32) {Rz : Int32} (h : f_X5_desksAt vM x1 x2 = some Rz) : JM l G yX5_desksAt cX5_desksAt 3 (some .int) 2 41 [.ref (aM 0), .int x1, .int x2] (wMod G aM (vM 0) (vM 1) (vM 2) (vM 3) (vM 4) (vM 5) (vM 6) (vM 7) (vM 8) (vM 9 0) (vM 10 0) (vM 11 0) (vM 12 0) (vM 13 0)) (wMod G aM (vM 0) (vM 1) (vM 2) (vM 3) (vM 4) (vM 5) (vM 6) (vM 7) (vM 8) (vM 9 0) (vM 10 0) (vM 11 0) (vM 12 0) (vM 13 0)) (some (.int Rz)) := by
  refine JM.of (own := RX5) (tb := T_X5_desksAt) (by decide) (Nat.le_of_ble_eq_true rfl) D_X5_desksAt rfl (fun X C => ?_)
  refine J_sub (lv' := [(0, .ref (aM 0)), (1, .int x1), (2, .int x2)]) [0, 1, 2] rfl ?_
  unfold f_X5_desksAt at h
  refine J_iload_n (pc := 0) C 0 rfl 2 rfl rfl ?_
  refine J_if_eq (pc := 1) (tgt := 12) C 1 rfl rfl (fun c1 => ?_) (fun c1 => ?_)
  · rw [if_pos c1] at h
    refine J_iconst (pc := 12) (v := (0 : Int32)) C 6 rfl rfl ?_
    cases h
    exact J_iret (pc := 13) C 7 rfl
  · rw [if_neg c1] at h
    refine J_aload_n (pc := 4) C 2 rfl 0 rfl rfl ?_
    refine J_iload_n (pc := 5) C 3 rfl 1 rfl rfl ?_
    obtain ⟨q2, hq2, h⟩ := bnd h
    refine J_callV (pc := 6) (st2 := []) (st3 := [.int q2]) (ws2 := (wMod G aM (vM 0) (vM 1) (vM 2) (vM 3) (vM 4) (vM 5) (vM 6) (vM 7) (vM 8) (vM 9 0) (vM 10 0) (vM 11 0) (vM 12 0) (vM 13 0))) C 4 rfl (c_X5_desks aM vM x1 hq2) V_X5_desks k451 i_X5_desks s_X5_desks rfl rfl ⟨Nat.le_of_ble_eq_true rfl, Nat.le_of_ble_eq_true rfl⟩ (Nat.le_of_ble_eq_true rfl) ⟨Nat.le_refl _, Nat.le_refl _⟩ 0 5 rfl rfl rfl (isC := [0, 1, 2, 3, 4, 5, 6, 7, 8, 9]) (isR := []) (N := 10) ⟨rfl, by decide +kernel, rfl, by decide +kernel, rfl, trivial⟩ rfl ?_
    refine J_goto (pc := 9) (tgt := 13) C 5 rfl rfl ?_
    cases h
    exact J_iret (pc := 13) C 7 rfl
def T_X5_deskFor : List (Nat × ClassFile.Instr × Nat) := [(0, .iconst 0, 1), (1, .istore_n 2, 1), (2, .iload_n 2, 1), (3, .iconst 4, 1), (4, .if_icmp .ge 96, 3), (7, .aload_n 0, 1), (8, .iload_n 2, 1), (9, .aload_n 0, 1), (10, .getfield 7, 3), (13, .iload_n 2, 1), (14, .invokestatic 64, 3), (17, .iconst 2, 1), (18, .iadd, 1), (19, .iaload, 1), (20, .iconst 1, 1), (21, .if_icmp .ne 7, 3), (24, .iconst 1, 1), (25, .goto 4, 3), (28, .iconst 0, 1), (29, .invokevirtual 74, 3), (32, .istore_n 3, 1), (33, .iconst 0, 1), (34, .istore 4, 2), (36, .iload 4, 2), (38, .iload_n 3, 1), (39, .if_icmp .ge 55, 3), (42, .aload_n 0, 1), (43, .bipush 16, 2), (45, .iload_n 2, 1), (46, .imul, 1), (47, .iload 4, 2), (49, .iadd, 1), (50, .iload_n 1, 1), (51, .invokevirtual 78, 3), (54, .ifCond .eq 34, 3), (57, .aload_n 0, 1), (58, .getfield 7, 3), (61, .iconst 0, 1), (62, .iaload, 1), (63, .ifCond .eq 17, 3), (66, .aload_n 0, 1), (67, .iload_n 2, 1), (68, .iload 4, 2), (70, .iload_n 1, 1), (71, .bipush 6, 2), (73, .irem, 1), (74, .invokevirtual 81, 3), (77, .ifCond .eq 11, 3), (80, .bipush 16, 2), (82, .iload_n 2, 1), (83, .imul, 1), (84, .iload 4, 2), (86, .iadd, 1), (87, .ireturn, 1), (88, .iinc 4 1, 3), (91, .goto (-55), 3), (94, .iinc 2 1, 3), (97, .goto (-95), 3), (100, .bipush (-6), 2), (102, .ireturn, 1)]
theorem D_X5_deskFor : ∀ q ∈ T_X5_deskFor, decode cX5_deskFor q.1 = .ok q.2 := by decide +kernel
theorem V_X5_deskFor : Vy yX5_deskFor cX5_deskFor 5 (some .int) 1 := ⟨k463, k415, by decide +kernel⟩
theorem i_X5_deskFor : Cond.instanceMethod yX5_deskFor ∈ TB := k475
theorem s_X5_deskFor : Cond.selects yX5_deskFor.cls yX5_deskFor yX5_deskFor ∈ TB := k476
noncomputable def f_X5_deskFor_b36 (vM : JV) (r2 : Int32 → Option (Int32)) (x1_2 : Int32) (x2_36 : Int32) (x3_36 : Int32) (r36 : Int32 → Option (Int32)) (x4_36 : Int32) : Option (Int32) :=
  (if x3_36 ≤ x4_36 then r2 (x2_36 + (1 : Int32)) else (f_X5_isFree vM (((16 : Int32) * x2_36) + x4_36) x1_2).bind (fun q7 => (if q7 = 0 then r36 (x4_36 + (1 : Int32)) else (if ((vM 0) 0) = 0 then some (((16 : Int32) * x2_36) + x4_36) else (f_X5_isAlone vM x2_36 x4_36 (x1_2 - x1_2 / (6 : Int32) * (6 : Int32))).bind (fun q10 => (if q10 = 0 then r36 (x4_36 + (1 : Int32)) else some (((16 : Int32) * x2_36) + x4_36)))))))
noncomputable def f_X5_deskFor_L36 (vM : JV) (r2 : Int32 → Option (Int32)) (x1_2 : Int32) (x2_36 : Int32) (x3_36 : Int32) (n : Nat) (x4_36 : Int32) : Option (Int32) :=
  lp (fun (rec : Int32 → Option (Int32)) a => f_X5_deskFor_b36 vM r2 x1_2 x2_36 x3_36 (fun x4_36 => rec x4_36) a) n x4_36
noncomputable def f_X5_deskFor_K29 (vM : JV) (r2 : Int32 → Option (Int32)) (x1_2 : Int32) (x2_29 : Int32) (y2_29 : Int32) (y1_29 : Int32) : Option (Int32) :=
  (f_X5_desksAt vM y1_29 y2_29).bind (fun q5 => f_X5_deskFor_L36 vM r2 x1_2 x2_29 q5 FU (0 : Int32))
noncomputable def f_X5_deskFor_b2 (vM : JV) (x1_2 : Int32) (r2 : Int32 → Option (Int32)) (x2_2 : Int32) : Option (Int32) :=
  (if (4 : Int32) ≤ x2_2 then some (-6 : Int32) else (f_X5_h x2_2).bind (fun q2 => gd (inb (q2 + (2 : Int32)) 76) ((if ((vM 0) (Int32.toNatClampNeg (q2 + (2 : Int32)))) = (1 : Int32) then f_X5_deskFor_K29 vM r2 x1_2 x2_2 (1 : Int32) x2_2 else f_X5_deskFor_K29 vM r2 x1_2 x2_2 (0 : Int32) x2_2))))
noncomputable def f_X5_deskFor_L2 (vM : JV) (x1_2 : Int32) (n : Nat) (x2_2 : Int32) : Option (Int32) :=
  lp (fun (rec : Int32 → Option (Int32)) a => f_X5_deskFor_b2 vM x1_2 (fun x2_2 => rec x2_2) a) n x2_2
noncomputable def f_X5_deskFor (vM : JV) (x1 : Int32) : Option (Int32) :=
  f_X5_deskFor_L2 vM x1 FU (0 : Int32)
set_option maxRecDepth 100000 in
set_option maxHeartbeats 4000000 in
theorem c_X5_deskFor {l : Launch} {G : JG} (aM : Nat → Nat) (vM : JV) (x1 : Int32) {Rz : Int32} (h : f_X5_deskFor vM x1 = some Rz) : JM l G yX5_deskFor cX5_deskFor 5 (some .int) 4 87 [.ref (aM 0), .int x1] (wMod G aM (vM 0) (vM 1) (vM 2) (vM 3) (vM 4) (vM 5) (vM 6) (vM 7) (vM 8) (vM 9 0) (vM 10 0) (vM 11 0) (vM 12 0) (vM 13 0)) (wMod G aM (vM 0) (vM 1) (vM 2) (vM 3) (vM 4) (vM 5) (vM 6) (vM 7) (vM 8) (vM 9 0) (vM 10 0) (vM 11 0) (vM 12 0) (vM 13 0)) (some (.int Rz)) := by
  refine JM.of (own := RX5) (tb := T_X5_deskFor) (by decide) (Nat.le_of_ble_eq_true rfl) D_X5_deskFor rfl (fun X C => ?_)
  refine J_sub (lv' := [(0, .ref (aM 0)), (1, .int x1)]) [0, 1] rfl ?_
  have B2 : ∀ (x1_2 : Int32) (n2 : Nat) (x2_2 : Int32), f_X5_deskFor_L2 vM x1_2 n2 x2_2 = some Rz → J l { frames := 4, cells := 0, slots := 0, locals := 87 } G 5 X (QM X G 0 0 (some (.int Rz)) (wMod G aM (vM 0) (vM 1) (vM 2) (vM 3) (vM 4) (vM 5) (vM 6) (vM 7) (vM 8) (vM 9 0) (vM 10 0) (vM 11 0) (vM 12 0) (vM 13 0))) 0 0 2 [(0, .ref (aM 0)), (1, .int x1_2), (2, .int x2_2)] [] (wMod G aM (vM 0) (vM 1) (vM 2) (vM 3) (vM 4) (vM 5) (vM 6) (vM 7) (vM 8) (vM 9 0) (vM 10 0) (vM 11 0) (vM 12 0) (vM 13 0)) := by
    intro x1_2 n2
    induction n2 with
    | zero =>
      intro x2_2 h
      exact (no_none rfl h).elim
    | succ n2 ih2 =>
      have B36 : ∀ (x2_36 : Int32) (x3_36 : Int32) (n36 : Nat) (x4_36 : Int32), f_X5_deskFor_L36 vM (fun x2_2 => f_X5_deskFor_L2 vM x1_2 n2 x2_2) x1_2 x2_36 x3_36 n36 x4_36 = some Rz → J l { frames := 4, cells := 0, slots := 0, locals := 87 } G 5 X (QM X G 0 0 (some (.int Rz)) (wMod G aM (vM 0) (vM 1) (vM 2) (vM 3) (vM 4) (vM 5) (vM 6) (vM 7) (vM 8) (vM 9 0) (vM 10 0) (vM 11 0) (vM 12 0) (vM 13 0))) 0 0 36 [(0, .ref (aM 0)), (1, .int x1_2), (2, .int x2_36), (3, .int x3_36), (4, .int x4_36)] [] (wMod G aM (vM 0) (vM 1) (vM 2) (vM 3) (vM 4) (vM 5) (vM 6) (vM 7) (vM 8) (vM 9 0) (vM 10 0) (vM 11 0) (vM 12 0) (vM 13 0)) := by
        intro x2_36 x3_36 n36
        induction n36 with
        | zero =>
          intro x4_36 h
          exact (no_none rfl h).elim
        | succ n36 ih36 =>
          intro x4_36 h
          replace h : f_X5_deskFor_b36 vM (fun x2_2 => f_X5_deskFor_L2 vM x1_2 n2 x2_2) x1_2 x2_36 x3_36 (fun x4_36 => f_X5_deskFor_L36 vM (fun x2_2 => f_X5_deskFor_L2 vM x1_2 n2 x2_2) x1_2 x2_36 x3_36 n36 x4_36) x4_36 = some Rz := h
          unfold f_X5_deskFor_b36 at h
          refine J_iload (pc := 36) C 23 rfl 4 rfl ?_
          refine J_iload_n (pc := 38) C 24 rfl 3 rfl rfl ?_
          refine J_icmp_ge (pc := 39) (tgt := 94) C 25 rfl rfl (fun c6 => ?_) (fun c6 => ?_)
          · rw [if_pos c6] at h
            refine J_iinc (pc := 94) (v := (x2_36 + (1 : Int32))) (lv' := [(2, .int (x2_36 + (1 : Int32))), (0, .ref (aM 0)), (1, .int x1_2), (3, .int x3_36), (4, .int x4_36)]) C 56 rfl 2 rfl rfl (by decide) rfl ?_
            refine J_goto (pc := 97) (tgt := 2) C 57 rfl rfl ?_
            exact J_sub [1, 2, 0] rfl (ih2 (x2_36 + (1 : Int32)) h)
          · rw [if_neg c6] at h
            refine J_aload_n (pc := 42) C 26 rfl 0 rfl rfl ?_
            refine J_bipush (pc := 43) (v := (16 : Int32)) C 27 rfl rfl ?_
            refine J_iload_n (pc := 45) C 28 rfl 2 rfl rfl ?_
            refine J_imul (pc := 46) C 29 rfl  ?_
            refine J_iload (pc := 47) C 30 rfl 4 rfl ?_
            refine J_iadd (pc := 49) C 31 rfl  ?_
            refine J_iload_n (pc := 50) C 32 rfl 1 rfl rfl ?_
            obtain ⟨q7, hq7, h⟩ := bnd h
            refine J_callV (pc := 51) (st2 := []) (st3 := [.int q7]) (ws2 := (wMod G aM (vM 0) (vM 1) (vM 2) (vM 3) (vM 4) (vM 5) (vM 6) (vM 7) (vM 8) (vM 9 0) (vM 10 0) (vM 11 0) (vM 12 0) (vM 13 0))) C 33 rfl (c_X5_isFree aM vM (((16 : Int32) * x2_36) + x4_36) x1_2 hq7) V_X5_isFree k457 i_X5_isFree s_X5_isFree rfl rfl ⟨Nat.le_of_ble_eq_true rfl, Nat.le_of_ble_eq_true rfl⟩ (Nat.le_of_ble_eq_true rfl) ⟨Nat.le_refl _, Nat.le_refl _⟩ 0 5 rfl rfl rfl (isC := [0, 1, 2, 3, 4, 5, 6, 7, 8, 9]) (isR := []) (N := 10) ⟨rfl, by decide +kernel, rfl, by decide +kernel, rfl, trivial⟩ rfl ?_
            refine J_if_eq (pc := 54) (tgt := 88) C 34 rfl rfl (fun c8 => ?_) (fun c8 => ?_)
            · rw [if_pos c8] at h
              refine J_iinc (pc := 88) (v := (x4_36 + (1 : Int32))) (lv' := [(4, .int (x4_36 + (1 : Int32))), (0, .ref (aM 0)), (1, .int x1_2), (2, .int x2_36), (3, .int x3_36)]) C 54 rfl 4 rfl rfl (by decide) rfl ?_
              refine J_goto (pc := 91) (tgt := 36) C 55 rfl rfl ?_
              exact J_sub [1, 2, 3, 4, 0] rfl (ih36 (x4_36 + (1 : Int32)) h)
            · rw [if_neg c8] at h
              refine J_aload_n (pc := 57) C 35 rfl 0 rfl rfl ?_
              refine J_get (pc := 58) (v := .ref (aM 1)) C 36 rfl TB_l5 rfl 0 0 rfl (by decide) k399 rfl rfl ?_
              refine J_iconst (pc := 61) (v := (0 : Int32)) C 37 rfl rfl ?_
              refine J_iald (pc := 62) (f := (vM 0)) (v := ((vM 0) 0)) C 38 rfl 1 rfl rfl rfl ?_
              refine J_if_eq (pc := 63) (tgt := 80) C 39 rfl rfl (fun c9 => ?_) (fun c9 => ?_)
              · rw [if_pos c9] at h
                refine J_bipush (pc := 80) (v := (16 : Int32)) C 48 rfl rfl ?_
                refine J_iload_n (pc := 82) C 49 rfl 2 rfl rfl ?_
                refine J_imul (pc := 83) C 50 rfl  ?_
                refine J_iload (pc := 84) C 51 rfl 4 rfl ?_
                refine J_iadd (pc := 86) C 52 rfl  ?_
                cases h
                exact J_iret (pc := 87) C 53 rfl
              · rw [if_neg c9] at h
                refine J_aload_n (pc := 66) C 40 rfl 0 rfl rfl ?_
                refine J_iload_n (pc := 67) C 41 rfl 2 rfl rfl ?_
                refine J_iload (pc := 68) C 42 rfl 4 rfl ?_
                refine J_iload_n (pc := 70) C 43 rfl 1 rfl rfl ?_
                refine J_bipush (pc := 71) (v := (6 : Int32)) C 44 rfl rfl ?_
                refine J_irem (pc := 73) C 45 rfl (by decide) ?_
                obtain ⟨q10, hq10, h⟩ := bnd h
                refine J_callV (pc := 74) (st2 := []) (st3 := [.int q10]) (ws2 := (wMod G aM (vM 0) (vM 1) (vM 2) (vM 3) (vM 4) (vM 5) (vM 6) (vM 7) (vM 8) (vM 9 0) (vM 10 0) (vM 11 0) (vM 12 0) (vM 13 0))) C 46 rfl (c_X5_isAlone aM vM x2_36 x4_36 (x1_2 - x1_2 / (6 : Int32) * (6 : Int32)) hq10) V_X5_isAlone k460 i_X5_isAlone s_X5_isAlone rfl rfl ⟨Nat.le_of_ble_eq_true rfl, Nat.le_of_ble_eq_true rfl⟩ (Nat.le_of_ble_eq_true rfl) ⟨Nat.le_refl _, Nat.le_refl _⟩ 0 5 rfl rfl rfl (isC := [0, 1, 2, 3, 4, 5, 6, 7, 8, 9]) (isR := []) (N := 10) ⟨rfl, by decide +kernel, rfl, by decide +kernel, rfl, trivial⟩ rfl ?_
                refine J_if_eq (pc := 77) (tgt := 88) C 47 rfl rfl (fun c11 => ?_) (fun c11 => ?_)
                · rw [if_pos c11] at h
                  refine J_iinc (pc := 88) (v := (x4_36 + (1 : Int32))) (lv' := [(4, .int (x4_36 + (1 : Int32))), (0, .ref (aM 0)), (1, .int x1_2), (2, .int x2_36), (3, .int x3_36)]) C 54 rfl 4 rfl rfl (by decide) rfl ?_
                  refine J_goto (pc := 91) (tgt := 36) C 55 rfl rfl ?_
                  exact J_sub [1, 2, 3, 4, 0] rfl (ih36 (x4_36 + (1 : Int32)) h)
                · rw [if_neg c11] at h
                  refine J_bipush (pc := 80) (v := (16 : Int32)) C 48 rfl rfl ?_
                  refine J_iload_n (pc := 82) C 49 rfl 2 rfl rfl ?_
                  refine J_imul (pc := 83) C 50 rfl  ?_
                  refine J_iload (pc := 84) C 51 rfl 4 rfl ?_
                  refine J_iadd (pc := 86) C 52 rfl  ?_
                  cases h
                  exact J_iret (pc := 87) C 53 rfl
      have B29 : ∀ (x2_29 : Int32) (y2_29 : Int32) (y1_29 : Int32), f_X5_deskFor_K29 vM (fun x2_2 => f_X5_deskFor_L2 vM x1_2 n2 x2_2) x1_2 x2_29 y2_29 y1_29 = some Rz → J l { frames := 4, cells := 0, slots := 0, locals := 87 } G 5 X (QM X G 0 0 (some (.int Rz)) (wMod G aM (vM 0) (vM 1) (vM 2) (vM 3) (vM 4) (vM 5) (vM 6) (vM 7) (vM 8) (vM 9 0) (vM 10 0) (vM 11 0) (vM 12 0) (vM 13 0))) 0 0 29 [(0, .ref (aM 0)), (1, .int x1_2), (2, .int x2_29)] [.int y2_29, .int y1_29, .ref (aM 0)] (wMod G aM (vM 0) (vM 1) (vM 2) (vM 3) (vM 4) (vM 5) (vM 6) (vM 7) (vM 8) (vM 9 0) (vM 10 0) (vM 11 0) (vM 12 0) (vM 13 0)) := by
        intro x2_29 y2_29 y1_29 h
        unfold f_X5_deskFor_K29 at h
        obtain ⟨q5, hq5, h⟩ := bnd h
        refine J_callV (pc := 29) (st2 := []) (st3 := [.int q5]) (ws2 := (wMod G aM (vM 0) (vM 1) (vM 2) (vM 3) (vM 4) (vM 5) (vM 6) (vM 7) (vM 8) (vM 9 0) (vM 10 0) (vM 11 0) (vM 12 0) (vM 13 0))) C 19 rfl (c_X5_desksAt aM vM y1_29 y2_29 hq5) V_X5_desksAt k454 i_X5_desksAt s_X5_desksAt rfl rfl ⟨Nat.le_of_ble_eq_true rfl, Nat.le_of_ble_eq_true rfl⟩ (Nat.le_of_ble_eq_true rfl) ⟨Nat.le_refl _, Nat.le_refl _⟩ 0 5 rfl rfl rfl (isC := [0, 1, 2, 3, 4, 5, 6, 7, 8, 9]) (isR := []) (N := 10) ⟨rfl, by decide +kernel, rfl, by decide +kernel, rfl, trivial⟩ rfl ?_
        refine J_istore_n (pc := 32) (lv' := [(3, .int q5), (0, .ref (aM 0)), (1, .int x1_2), (2, .int x2_29)]) C 20 rfl rfl (by decide) rfl ?_
        refine J_iconst (pc := 33) (v := (0 : Int32)) C 21 rfl rfl ?_
        refine J_istore (pc := 34) (lv' := [(4, .int (0 : Int32)), (3, .int q5), (0, .ref (aM 0)), (1, .int x1_2), (2, .int x2_29)]) C 22 rfl (by decide) rfl ?_
        exact J_sub [2, 3, 4, 1, 0] rfl (B36 x2_29 q5 FU (0 : Int32) h)
      intro x2_2 h
      replace h : f_X5_deskFor_b2 vM x1_2 (fun x2_2 => f_X5_deskFor_L2 vM x1_2 n2 x2_2) x2_2 = some Rz := h
      unfold f_X5_deskFor_b2 at h
      refine J_iload_n (pc := 2) C 2 rfl 2 rfl rfl ?_
      refine J_iconst (pc := 3) (v := (4 : Int32)) C 3 rfl rfl ?_
      refine J_icmp_ge (pc := 4) (tgt := 100) C 4 rfl rfl (fun c1 => ?_) (fun c1 => ?_)
      · rw [if_pos c1] at h
        refine J_bipush (pc := 100) (v := (-6 : Int32)) C 58 rfl rfl ?_
        cases h
        exact J_iret (pc := 102) C 59 rfl
      · rw [if_neg c1] at h
        refine J_aload_n (pc := 7) C 5 rfl 0 rfl rfl ?_
        refine J_iload_n (pc := 8) C 6 rfl 2 rfl rfl ?_
        refine J_aload_n (pc := 9) C 7 rfl 0 rfl rfl ?_
        refine J_get (pc := 10) (v := .ref (aM 1)) C 8 rfl TB_l5 rfl 0 0 rfl (by decide) k399 rfl rfl ?_
        refine J_iload_n (pc := 13) C 9 rfl 2 rfl rfl ?_
        obtain ⟨q2, hq2, h⟩ := bnd h
        refine J_callS (pc := 14) (st2 := [.ref (aM 1), .int x2_2, .ref (aM 0)]) (st3 := [.int q2, .ref (aM 1), .int x2_2, .ref (aM 0)]) (ws2 := (wMod G aM (vM 0) (vM 1) (vM 2) (vM 3) (vM 4) (vM 5) (vM 6) (vM 7) (vM 8) (vM 9 0) (vM 10 0) (vM 11 0) (vM 12 0) (vM 13 0))) C 10 rfl (c_X5_h x2_2 hq2) V_X5_h k444 t_X5_h rfl rfl ⟨Nat.le_of_ble_eq_true rfl, Nat.le_of_ble_eq_true rfl⟩ (Nat.le_of_ble_eq_true rfl) ⟨Nat.le_refl _, Nat.le_refl _⟩ (isC := []) (isR := [0, 1, 2, 3, 4, 5, 6, 7, 8, 9]) (N := 10) ⟨rfl, by decide +kernel, rfl, by decide +kernel, rfl, ⟨⟨_, rfl, rfl⟩, ⟨⟨_, rfl, rfl⟩, ⟨⟨_, rfl, rfl⟩, ⟨⟨_, rfl, rfl⟩, ⟨⟨_, rfl, rfl⟩, ⟨⟨_, rfl, rfl⟩, ⟨⟨_, rfl, rfl⟩, ⟨⟨_, rfl, rfl⟩, ⟨⟨_, rfl, rfl⟩, ⟨⟨_, rfl, rfl⟩, trivial⟩⟩⟩⟩⟩⟩⟩⟩⟩⟩⟩ rfl ?_
        refine J_iconst (pc := 17) (v := (2 : Int32)) C 11 rfl rfl ?_
        refine J_iadd (pc := 18) C 12 rfl  ?_
        obtain ⟨g3, h⟩ := gd_some h
        refine J_iald (pc := 19) (f := (vM 0)) (v := ((vM 0) (Int32.toNatClampNeg (q2 + (2 : Int32))))) C 13 rfl 1 rfl g3 rfl ?_
        refine J_iconst (pc := 20) (v := (1 : Int32)) C 14 rfl rfl ?_
        refine J_icmp_ne (pc := 21) (tgt := 28) C 15 rfl rfl (fun c4 => ?_) (fun c4 => ?_)
        · rw [if_neg c4] at h
          refine J_iconst (pc := 28) (v := (0 : Int32)) C 18 rfl rfl ?_
          exact J_sub [0, 1, 2] rfl (B29 x2_2 (0 : Int32) x2_2 h)
        · rw [if_pos c4] at h
          refine J_iconst (pc := 24) (v := (1 : Int32)) C 16 rfl rfl ?_
          refine J_goto (pc := 25) (tgt := 29) C 17 rfl rfl ?_
          exact J_sub [0, 1, 2] rfl (B29 x2_2 (1 : Int32) x2_2 h)
  unfold f_X5_deskFor at h
  refine J_iconst (pc := 0) (v := (0 : Int32)) C 0 rfl rfl ?_
  refine J_istore_n (pc := 1) (lv' := [(2, .int (0 : Int32)), (0, .ref (aM 0)), (1, .int x1)]) C 1 rfl rfl (by decide) rfl ?_
  exact J_sub [1, 2, 0] rfl (B2 x1 FU (0 : Int32) h)
def T_X5_roomFor : List (Nat × ClassFile.Instr × Nat) := [(0, .iconst 0, 1), (1, .istore_n 2, 1), (2, .iload_n 2, 1), (3, .aload_n 0, 1), (4, .getfield 7, 3), (7, .iconst 1, 1), (8, .iaload, 1), (9, .if_icmp .ge 21, 3), (12, .aload_n 0, 1), (13, .bipush 64, 2), (15, .iload_n 2, 1), (16, .iadd, 1), (17, .iload_n 1, 1), (18, .invokevirtual 78, 3), (21, .ifCond .ne 9, 3), (24, .iinc 2 1, 3), (27, .goto (-25), 3), (30, .iload_n 2, 1), (31, .aload_n 0, 1), (32, .getfield 7, 3), (35, .iconst 1, 1), (36, .iaload, 1), (37, .if_icmp .ge 10, 3), (40, .bipush 64, 2), (42, .iload_n 2, 1), (43, .iadd, 1), (44, .goto 5, 3), (47, .bipush (-6), 2), (49, .ireturn, 1)]
theorem D_X5_roomFor : ∀ q ∈ T_X5_roomFor, decode cX5_roomFor q.1 = .ok q.2 := by decide +kernel
theorem V_X5_roomFor : Vy yX5_roomFor cX5_roomFor 3 (some .int) 1 := ⟨k464, k415, by decide +kernel⟩
theorem i_X5_roomFor : Cond.instanceMethod yX5_roomFor ∈ TB := k472
theorem s_X5_roomFor : Cond.selects yX5_roomFor.cls yX5_roomFor yX5_roomFor ∈ TB := k473
noncomputable def f_X5_roomFor_K30 (vM : JV) (x2_30 : Int32) : Option (Int32) :=
  (if ((vM 0) 1) ≤ x2_30 then some (-6 : Int32) else some ((64 : Int32) + x2_30))
noncomputable def f_X5_roomFor_b2 (vM : JV) (x1_2 : Int32) (r2 : Int32 → Option (Int32)) (x2_2 : Int32) : Option (Int32) :=
  (if ((vM 0) 1) ≤ x2_2 then f_X5_roomFor_K30 vM x2_2 else (f_X5_isFree vM ((64 : Int32) + x2_2) x1_2).bind (fun q3 => (if q3 = 0 then r2 (x2_2 + (1 : Int32)) else f_X5_roomFor_K30 vM x2_2)))
noncomputable def f_X5_roomFor_L2 (vM : JV) (x1_2 : Int32) (n : Nat) (x2_2 : Int32) : Option (Int32) :=
  lp (fun (rec : Int32 → Option (Int32)) a => f_X5_roomFor_b2 vM x1_2 (fun x2_2 => rec x2_2) a) n x2_2
noncomputable def f_X5_roomFor (vM : JV) (x1 : Int32) : Option (Int32) :=
  f_X5_roomFor_L2 vM x1 FU (0 : Int32)
set_option maxRecDepth 100000 in
set_option maxHeartbeats 4000000 in
theorem c_X5_roomFor {l : Launch} {G : JG} (aM : Nat → Nat) (vM : JV) (x1 : Int32) {Rz : Int32} (h : f_X5_roomFor vM x1 = some Rz) : JM l G yX5_roomFor cX5_roomFor 3 (some .int) 4 87 [.ref (aM 0), .int x1] (wMod G aM (vM 0) (vM 1) (vM 2) (vM 3) (vM 4) (vM 5) (vM 6) (vM 7) (vM 8) (vM 9 0) (vM 10 0) (vM 11 0) (vM 12 0) (vM 13 0)) (wMod G aM (vM 0) (vM 1) (vM 2) (vM 3) (vM 4) (vM 5) (vM 6) (vM 7) (vM 8) (vM 9 0) (vM 10 0) (vM 11 0) (vM 12 0) (vM 13 0)) (some (.int Rz)) := by
  refine JM.of (own := RX5) (tb := T_X5_roomFor) (by decide) (Nat.le_of_ble_eq_true rfl) D_X5_roomFor rfl (fun X C => ?_)
  refine J_sub (lv' := [(0, .ref (aM 0)), (1, .int x1)]) [0, 1] rfl ?_
  have B30 : ∀ (x2_30 : Int32), f_X5_roomFor_K30 vM x2_30 = some Rz → J l { frames := 4, cells := 0, slots := 0, locals := 87 } G 3 X (QM X G 0 0 (some (.int Rz)) (wMod G aM (vM 0) (vM 1) (vM 2) (vM 3) (vM 4) (vM 5) (vM 6) (vM 7) (vM 8) (vM 9 0) (vM 10 0) (vM 11 0) (vM 12 0) (vM 13 0))) 0 0 30 [(0, .ref (aM 0)), (2, .int x2_30)] [] (wMod G aM (vM 0) (vM 1) (vM 2) (vM 3) (vM 4) (vM 5) (vM 6) (vM 7) (vM 8) (vM 9 0) (vM 10 0) (vM 11 0) (vM 12 0) (vM 13 0)) := by
    intro x2_30 h
    unfold f_X5_roomFor_K30 at h
    refine J_iload_n (pc := 30) C 17 rfl 1 rfl rfl ?_
    refine J_aload_n (pc := 31) C 18 rfl 0 rfl rfl ?_
    refine J_get (pc := 32) (v := .ref (aM 1)) C 19 rfl TB_l5 rfl 0 0 rfl (by decide) k399 rfl rfl ?_
    refine J_iconst (pc := 35) (v := (1 : Int32)) C 20 rfl rfl ?_
    refine J_iald (pc := 36) (f := (vM 0)) (v := ((vM 0) 1)) C 21 rfl 1 rfl rfl rfl ?_
    refine J_icmp_ge (pc := 37) (tgt := 47) C 22 rfl rfl (fun c2 => ?_) (fun c2 => ?_)
    · rw [if_pos c2] at h
      refine J_bipush (pc := 47) (v := (-6 : Int32)) C 27 rfl rfl ?_
      cases h
      exact J_iret (pc := 49) C 28 rfl
    · rw [if_neg c2] at h
      refine J_bipush (pc := 40) (v := (64 : Int32)) C 23 rfl rfl ?_
      refine J_iload_n (pc := 42) C 24 rfl 1 rfl rfl ?_
      refine J_iadd (pc := 43) C 25 rfl  ?_
      refine J_goto (pc := 44) (tgt := 49) C 26 rfl rfl ?_
      cases h
      exact J_iret (pc := 49) C 28 rfl
  have B2 : ∀ (x1_2 : Int32) (n2 : Nat) (x2_2 : Int32), f_X5_roomFor_L2 vM x1_2 n2 x2_2 = some Rz → J l { frames := 4, cells := 0, slots := 0, locals := 87 } G 3 X (QM X G 0 0 (some (.int Rz)) (wMod G aM (vM 0) (vM 1) (vM 2) (vM 3) (vM 4) (vM 5) (vM 6) (vM 7) (vM 8) (vM 9 0) (vM 10 0) (vM 11 0) (vM 12 0) (vM 13 0))) 0 0 2 [(0, .ref (aM 0)), (1, .int x1_2), (2, .int x2_2)] [] (wMod G aM (vM 0) (vM 1) (vM 2) (vM 3) (vM 4) (vM 5) (vM 6) (vM 7) (vM 8) (vM 9 0) (vM 10 0) (vM 11 0) (vM 12 0) (vM 13 0)) := by
    intro x1_2 n2
    induction n2 with
    | zero =>
      intro x2_2 h
      exact (no_none rfl h).elim
    | succ n2 ih2 =>
      intro x2_2 h
      replace h : f_X5_roomFor_b2 vM x1_2 (fun x2_2 => f_X5_roomFor_L2 vM x1_2 n2 x2_2) x2_2 = some Rz := h
      unfold f_X5_roomFor_b2 at h
      refine J_iload_n (pc := 2) C 2 rfl 2 rfl rfl ?_
      refine J_aload_n (pc := 3) C 3 rfl 0 rfl rfl ?_
      refine J_get (pc := 4) (v := .ref (aM 1)) C 4 rfl TB_l5 rfl 0 0 rfl (by decide) k399 rfl rfl ?_
      refine J_iconst (pc := 7) (v := (1 : Int32)) C 5 rfl rfl ?_
      refine J_iald (pc := 8) (f := (vM 0)) (v := ((vM 0) 1)) C 6 rfl 1 rfl rfl rfl ?_
      refine J_icmp_ge (pc := 9) (tgt := 30) C 7 rfl rfl (fun c1 => ?_) (fun c1 => ?_)
      · rw [if_pos c1] at h
        exact J_sub [0, 2] rfl (B30 x2_2 h)
      · rw [if_neg c1] at h
        refine J_aload_n (pc := 12) C 8 rfl 0 rfl rfl ?_
        refine J_bipush (pc := 13) (v := (64 : Int32)) C 9 rfl rfl ?_
        refine J_iload_n (pc := 15) C 10 rfl 2 rfl rfl ?_
        refine J_iadd (pc := 16) C 11 rfl  ?_
        refine J_iload_n (pc := 17) C 12 rfl 1 rfl rfl ?_
        obtain ⟨q3, hq3, h⟩ := bnd h
        refine J_callV (pc := 18) (st2 := []) (st3 := [.int q3]) (ws2 := (wMod G aM (vM 0) (vM 1) (vM 2) (vM 3) (vM 4) (vM 5) (vM 6) (vM 7) (vM 8) (vM 9 0) (vM 10 0) (vM 11 0) (vM 12 0) (vM 13 0))) C 13 rfl (c_X5_isFree aM vM ((64 : Int32) + x2_2) x1_2 hq3) V_X5_isFree k457 i_X5_isFree s_X5_isFree rfl rfl ⟨Nat.le_of_ble_eq_true rfl, Nat.le_of_ble_eq_true rfl⟩ (Nat.le_of_ble_eq_true rfl) ⟨Nat.le_refl _, Nat.le_refl _⟩ 0 5 rfl rfl rfl (isC := [0, 1, 2, 3, 4, 5, 6, 7, 8, 9]) (isR := []) (N := 10) ⟨rfl, by decide +kernel, rfl, by decide +kernel, rfl, trivial⟩ rfl ?_
        refine J_if_ne (pc := 21) (tgt := 30) C 14 rfl rfl (fun c4 => ?_) (fun c4 => ?_)
        · rw [if_neg c4] at h
          exact J_sub [0, 2] rfl (B30 x2_2 h)
        · rw [if_pos c4] at h
          refine J_iinc (pc := 24) (v := (x2_2 + (1 : Int32))) (lv' := [(2, .int (x2_2 + (1 : Int32))), (0, .ref (aM 0)), (1, .int x1_2)]) C 15 rfl 2 rfl rfl (by decide) rfl ?_
          refine J_goto (pc := 27) (tgt := 2) C 16 rfl rfl ?_
          exact J_sub [1, 2, 0] rfl (ih2 (x2_2 + (1 : Int32)) h)
  unfold f_X5_roomFor at h
  refine J_iconst (pc := 0) (v := (0 : Int32)) C 0 rfl rfl ?_
  refine J_istore_n (pc := 1) (lv' := [(2, .int (0 : Int32)), (0, .ref (aM 0)), (1, .int x1)]) C 1 rfl rfl (by decide) rfl ?_
  exact J_sub [1, 2, 0] rfl (B2 x1 FU (0 : Int32) h)
def T_X5_seats : List (Nat × ClassFile.Instr × Nat) := [(0, .aload_n 0, 1), (1, .getfield 43, 3), (4, .ifCond .eq 4, 3), (7, .return_, 1), (8, .aload_n 0, 1), (9, .iconst 1, 1), (10, .putfield 43, 3), (13, .iconst 0, 1), (14, .istore_n 1, 1), (15, .iload_n 1, 1), (16, .bipush 96, 2), (18, .if_icmp .ge 17, 3), (21, .aload_n 0, 1), (22, .getfield 29, 3), (25, .iload_n 1, 1), (26, .bipush (-6), 2), (28, .iastore, 1), (29, .iinc 1 1, 3), (32, .goto (-17), 3), (35, .iconst 0, 1), (36, .istore_n 1, 1), (37, .iload_n 1, 1), (38, .sipush 1920, 3), (41, .if_icmp .ge 80, 3), (44, .iload_n 1, 1), (45, .bipush 16, 2), (47, .irem, 1), (48, .bipush 6, 2), (50, .imul, 1), (51, .iload_n 1, 1), (52, .bipush 96, 2), (54, .irem, 1), (55, .bipush 16, 2), (57, .idiv, 1), (58, .iadd, 1), (59, .istore_n 2, 1), (60, .aload_n 0, 1), (61, .getfield 7, 3), (64, .iconst 4, 1), (65, .iconst 2, 1), (66, .iload_n 2, 1), (67, .bipush 6, 2), (69, .irem, 1), (70, .imul, 1), (71, .iadd, 1), (72, .iaload, 1), (73, .iload_n 1, 1), (74, .bipush 96, 2), (76, .idiv, 1), (77, .if_icmp .ne 38, 3), (80, .aload_n 0, 1), (81, .iload_n 2, 1), (82, .invokevirtual 84, 3), (85, .ifCond .eq 30, 3), (88, .aload_n 0, 1), (89, .getfield 29, 3), (92, .iload_n 2, 1), (93, .aload_n 0, 1), (94, .iload_n 2, 1), (95, .invokevirtual 88, 3), (98, .ifCond .eq 11, 3), (101, .aload_n 0, 1), (102, .iload_n 2, 1), (103, .invokevirtual 91, 3), (106, .goto 8, 3), (109, .aload_n 0, 1), (110, .iload_n 2, 1), (111, .invokevirtual 94, 3), (114, .iastore, 1), (115, .iinc 1 1, 3), (118, .goto (-81), 3), (121, .return_, 1)]
theorem D_X5_seats : ∀ q ∈ T_X5_seats, decode cX5_seats q.1 = .ok q.2 := by decide +kernel
theorem V_X5_seats : Vy yX5_seats cX5_seats 3 none 0 := ⟨k477, k415, by decide +kernel⟩
theorem i_X5_seats : Cond.instanceMethod yX5_seats ∈ TB := k479
theorem s_X5_seats : Cond.selects yX5_seats.cls yX5_seats yX5_seats ∈ TB := k480
noncomputable def f_X5_seats_b37  (r37 : JV → Int32 → Option (JV)) (vM_37 : JV) (x1_37 : Int32) : Option (JV) :=
  (if (1920 : Int32) ≤ x1_37 then some vM_37 else gd (inb ((4 : Int32) + ((2 : Int32) * ((((x1_37 - x1_37 / (16 : Int32) * (16 : Int32)) * (6 : Int32)) + ((x1_37 - x1_37 / (96 : Int32) * (96 : Int32)) / (16 : Int32))) - (((x1_37 - x1_37 / (16 : Int32) * (16 : Int32)) * (6 : Int32)) + ((x1_37 - x1_37 / (96 : Int32) * (96 : Int32)) / (16 : Int32))) / (6 : Int32) * (6 : Int32)))) 76) ((if ((vM_37 0) (Int32.toNatClampNeg ((4 : Int32) + ((2 : Int32) * ((((x1_37 - x1_37 / (16 : Int32) * (16 : Int32)) * (6 : Int32)) + ((x1_37 - x1_37 / (96 : Int32) * (96 : Int32)) / (16 : Int32))) - (((x1_37 - x1_37 / (16 : Int32) * (16 : Int32)) * (6 : Int32)) + ((x1_37 - x1_37 / (96 : Int32) * (96 : Int32)) / (16 : Int32))) / (6 : Int32) * (6 : Int32)))))) = (x1_37 / (96 : Int32)) then (f_X5_isSitting vM_37 (((x1_37 - x1_37 / (16 : Int32) * (16 : Int32)) * (6 : Int32)) + ((x1_37 - x1_37 / (96 : Int32) * (96 : Int32)) / (16 : Int32)))).bind (fun q6 => (if q6 = 0 then r37 vM_37 (x1_37 + (1 : Int32)) else (f_X5_needsReader vM_37 (((x1_37 - x1_37 / (16 : Int32) * (16 : Int32)) * (6 : Int32)) + ((x1_37 - x1_37 / (96 : Int32) * (96 : Int32)) / (16 : Int32)))).bind (fun q8 => (if q8 = 0 then (f_X5_deskFor vM_37 (((x1_37 - x1_37 / (16 : Int32) * (16 : Int32)) * (6 : Int32)) + ((x1_37 - x1_37 / (96 : Int32) * (96 : Int32)) / (16 : Int32)))).bind (fun q10 => gd (inb (((x1_37 - x1_37 / (16 : Int32) * (16 : Int32)) * (6 : Int32)) + ((x1_37 - x1_37 / (96 : Int32) * (96 : Int32)) / (16 : Int32))) 96) (r37 (up2 vM_37 6 (Int32.toNatClampNeg (((x1_37 - x1_37 / (16 : Int32) * (16 : Int32)) * (6 : Int32)) + ((x1_37 - x1_37 / (96 : Int32) * (96 : Int32)) / (16 : Int32)))) q10) (x1_37 + (1 : Int32)))) else (f_X5_roomFor vM_37 (((x1_37 - x1_37 / (16 : Int32) * (16 : Int32)) * (6 : Int32)) + ((x1_37 - x1_37 / (96 : Int32) * (96 : Int32)) / (16 : Int32)))).bind (fun q12 => gd (inb (((x1_37 - x1_37 / (16 : Int32) * (16 : Int32)) * (6 : Int32)) + ((x1_37 - x1_37 / (96 : Int32) * (96 : Int32)) / (16 : Int32))) 96) (r37 (up2 vM_37 6 (Int32.toNatClampNeg (((x1_37 - x1_37 / (16 : Int32) * (16 : Int32)) * (6 : Int32)) + ((x1_37 - x1_37 / (96 : Int32) * (96 : Int32)) / (16 : Int32)))) q12) (x1_37 + (1 : Int32)))))))) else r37 vM_37 (x1_37 + (1 : Int32)))))
noncomputable def f_X5_seats_L37  (n : Nat) (vM_37 : JV) (x1_37 : Int32) : Option (JV) :=
  lp (fun (rec : JV × Int32 → Option (JV)) a => f_X5_seats_b37  (fun vM_37 x1_37 => rec (vM_37, x1_37)) a.1 a.2) n (vM_37, x1_37)
noncomputable def f_X5_seats_b15  (r15 : JV → Int32 → Option (JV)) (vM_15 : JV) (x1_15 : Int32) : Option (JV) :=
  (if (96 : Int32) ≤ x1_15 then f_X5_seats_L37   FU vM_15 (0 : Int32) else gd (inb x1_15 96) (r15 (up2 vM_15 6 (Int32.toNatClampNeg x1_15) (-6 : Int32)) (x1_15 + (1 : Int32))))
noncomputable def f_X5_seats_L15  (n : Nat) (vM_15 : JV) (x1_15 : Int32) : Option (JV) :=
  lp (fun (rec : JV × Int32 → Option (JV)) a => f_X5_seats_b15  (fun vM_15 x1_15 => rec (vM_15, x1_15)) a.1 a.2) n (vM_15, x1_15)
noncomputable def f_X5_seats (vM : JV)  : Option (JV) :=
  (if (vM 9 0) = 0 then f_X5_seats_L15   FU (up2 vM 9 0 (1 : Int32)) (0 : Int32) else some vM)
set_option maxRecDepth 100000 in
set_option maxHeartbeats 4000000 in
theorem c_X5_seats {l : Launch} {G : JG} (aM : Nat → Nat) (vM : JV)  {Rz : JV} (h : f_X5_seats vM = some Rz) : JM l G yX5_seats cX5_seats 3 none 5 111 [.ref (aM 0)] (wMod G aM (vM 0) (vM 1) (vM 2) (vM 3) (vM 4) (vM 5) (vM 6) (vM 7) (vM 8) (vM 9 0) (vM 10 0) (vM 11 0) (vM 12 0) (vM 13 0)) (wMod G aM (Rz 0) (Rz 1) (Rz 2) (Rz 3) (Rz 4) (Rz 5) (Rz 6) (Rz 7) (Rz 8) (Rz 9 0) (Rz 10 0) (Rz 11 0) (Rz 12 0) (Rz 13 0)) none := by
  refine JM.of (own := RX5) (tb := T_X5_seats) (by decide) (Nat.le_of_ble_eq_true rfl) D_X5_seats rfl (fun X C => ?_)
  refine J_sub (lv' := [(0, .ref (aM 0))]) [0] rfl ?_
  have B37 : ∀ (n37 : Nat) (vM_37 : JV) (x1_37 : Int32), f_X5_seats_L37  n37 vM_37 x1_37 = some Rz → J l { frames := 5, cells := 0, slots := 0, locals := 111 } G 3 X (QM X G 0 0 none (wMod G aM (Rz 0) (Rz 1) (Rz 2) (Rz 3) (Rz 4) (Rz 5) (Rz 6) (Rz 7) (Rz 8) (Rz 9 0) (Rz 10 0) (Rz 11 0) (Rz 12 0) (Rz 13 0))) 0 0 37 [(0, .ref (aM 0)), (1, .int x1_37)] [] (wMod G aM (vM_37 0) (vM_37 1) (vM_37 2) (vM_37 3) (vM_37 4) (vM_37 5) (vM_37 6) (vM_37 7) (vM_37 8) (vM_37 9 0) (vM_37 10 0) (vM_37 11 0) (vM_37 12 0) (vM_37 13 0)) := by
    intro  n37
    induction n37 with
    | zero =>
      intro vM_37 x1_37 h
      exact (no_none rfl h).elim
    | succ n37 ih37 =>
      intro vM_37 x1_37 h
      replace h : f_X5_seats_b37  (fun vM_37 x1_37 => f_X5_seats_L37  n37 vM_37 x1_37) vM_37 x1_37 = some Rz := h
      unfold f_X5_seats_b37 at h
      refine J_iload_n (pc := 37) C 21 rfl 1 rfl rfl ?_
      refine J_sipush (pc := 38) (v := (1920 : Int32)) C 22 rfl rfl ?_
      refine J_icmp_ge (pc := 41) (tgt := 121) C 23 rfl rfl (fun c3 => ?_) (fun c3 => ?_)
      · rw [if_pos c3] at h
        cases h
        exact J_vret (pc := 121) C 71 rfl
      · rw [if_neg c3] at h
        refine J_iload_n (pc := 44) C 24 rfl 1 rfl rfl ?_
        refine J_bipush (pc := 45) (v := (16 : Int32)) C 25 rfl rfl ?_
        refine J_irem (pc := 47) C 26 rfl (by decide) ?_
        refine J_bipush (pc := 48) (v := (6 : Int32)) C 27 rfl rfl ?_
        refine J_imul (pc := 50) C 28 rfl  ?_
        refine J_iload_n (pc := 51) C 29 rfl 1 rfl rfl ?_
        refine J_bipush (pc := 52) (v := (96 : Int32)) C 30 rfl rfl ?_
        refine J_irem (pc := 54) C 31 rfl (by decide) ?_
        refine J_bipush (pc := 55) (v := (16 : Int32)) C 32 rfl rfl ?_
        refine J_idiv (pc := 57) C 33 rfl (by decide) ?_
        refine J_iadd (pc := 58) C 34 rfl  ?_
        refine J_istore_n (pc := 59) (lv' := [(2, .int (((x1_37 - x1_37 / (16 : Int32) * (16 : Int32)) * (6 : Int32)) + ((x1_37 - x1_37 / (96 : Int32) * (96 : Int32)) / (16 : Int32)))), (0, .ref (aM 0)), (1, .int x1_37)]) C 35 rfl rfl (by decide) rfl ?_
        refine J_aload_n (pc := 60) C 36 rfl 1 rfl rfl ?_
        refine J_get (pc := 61) (v := .ref (aM 1)) C 37 rfl TB_l5 rfl 0 0 rfl (by decide) k399 rfl rfl ?_
        refine J_iconst (pc := 64) (v := (4 : Int32)) C 38 rfl rfl ?_
        refine J_iconst (pc := 65) (v := (2 : Int32)) C 39 rfl rfl ?_
        refine J_iload_n (pc := 66) C 40 rfl 0 rfl rfl ?_
        refine J_bipush (pc := 67) (v := (6 : Int32)) C 41 rfl rfl ?_
        refine J_irem (pc := 69) C 42 rfl (by decide) ?_
        refine J_imul (pc := 70) C 43 rfl  ?_
        refine J_iadd (pc := 71) C 44 rfl  ?_
        obtain ⟨g4, h⟩ := gd_some h
        refine J_iald (pc := 72) (f := (vM_37 0)) (v := ((vM_37 0) (Int32.toNatClampNeg ((4 : Int32) + ((2 : Int32) * ((((x1_37 - x1_37 / (16 : Int32) * (16 : Int32)) * (6 : Int32)) + ((x1_37 - x1_37 / (96 : Int32) * (96 : Int32)) / (16 : Int32))) - (((x1_37 - x1_37 / (16 : Int32) * (16 : Int32)) * (6 : Int32)) + ((x1_37 - x1_37 / (96 : Int32) * (96 : Int32)) / (16 : Int32))) / (6 : Int32) * (6 : Int32))))))) C 45 rfl 1 rfl g4 rfl ?_
        refine J_iload_n (pc := 73) C 46 rfl 2 rfl rfl ?_
        refine J_bipush (pc := 74) (v := (96 : Int32)) C 47 rfl rfl ?_
        refine J_idiv (pc := 76) C 48 rfl (by decide) ?_
        refine J_icmp_ne (pc := 77) (tgt := 115) C 49 rfl rfl (fun c5 => ?_) (fun c5 => ?_)
        · rw [if_neg c5] at h
          refine J_iinc (pc := 115) (v := (x1_37 + (1 : Int32))) (lv' := [(1, .int (x1_37 + (1 : Int32))), (2, .int (((x1_37 - x1_37 / (16 : Int32) * (16 : Int32)) * (6 : Int32)) + ((x1_37 - x1_37 / (96 : Int32) * (96 : Int32)) / (16 : Int32)))), (0, .ref (aM 0))]) C 69 rfl 2 rfl rfl (by decide) rfl ?_
          refine J_goto (pc := 118) (tgt := 37) C 70 rfl rfl ?_
          exact J_sub [2, 0] rfl (ih37 vM_37 (x1_37 + (1 : Int32)) h)
        · rw [if_pos c5] at h
          refine J_aload_n (pc := 80) C 50 rfl 1 rfl rfl ?_
          refine J_iload_n (pc := 81) C 51 rfl 0 rfl rfl ?_
          obtain ⟨q6, hq6, h⟩ := bnd h
          refine J_callV (pc := 82) (st2 := []) (st3 := [.int q6]) (ws2 := (wMod G aM (vM_37 0) (vM_37 1) (vM_37 2) (vM_37 3) (vM_37 4) (vM_37 5) (vM_37 6) (vM_37 7) (vM_37 8) (vM_37 9 0) (vM_37 10 0) (vM_37 11 0) (vM_37 12 0) (vM_37 13 0))) C 52 rfl (c_X5_isSitting aM vM_37 (((x1_37 - x1_37 / (16 : Int32) * (16 : Int32)) * (6 : Int32)) + ((x1_37 - x1_37 / (96 : Int32) * (96 : Int32)) / (16 : Int32))) hq6) V_X5_isSitting k465 i_X5_isSitting s_X5_isSitting rfl rfl ⟨Nat.le_of_ble_eq_true rfl, Nat.le_of_ble_eq_true rfl⟩ (Nat.le_of_ble_eq_true rfl) ⟨Nat.le_refl _, Nat.le_refl _⟩ 0 5 rfl rfl rfl (isC := [0, 1, 2, 3, 4, 5, 6, 7, 8, 9]) (isR := []) (N := 10) ⟨rfl, by decide +kernel, rfl, by decide +kernel, rfl, trivial⟩ rfl ?_
          refine J_if_eq (pc := 85) (tgt := 115) C 53 rfl rfl (fun c7 => ?_) (fun c7 => ?_)
          · rw [if_pos c7] at h
            refine J_iinc (pc := 115) (v := (x1_37 + (1 : Int32))) (lv' := [(1, .int (x1_37 + (1 : Int32))), (2, .int (((x1_37 - x1_37 / (16 : Int32) * (16 : Int32)) * (6 : Int32)) + ((x1_37 - x1_37 / (96 : Int32) * (96 : Int32)) / (16 : Int32)))), (0, .ref (aM 0))]) C 69 rfl 2 rfl rfl (by decide) rfl ?_
            refine J_goto (pc := 118) (tgt := 37) C 70 rfl rfl ?_
            exact J_sub [2, 0] rfl (ih37 vM_37 (x1_37 + (1 : Int32)) h)
          · rw [if_neg c7] at h
            refine J_aload_n (pc := 88) C 54 rfl 1 rfl rfl ?_
            refine J_get (pc := 89) (v := .ref (aM 7)) C 55 rfl TB_l5 rfl 0 6 rfl (by decide) k405 rfl rfl ?_
            refine J_iload_n (pc := 92) C 56 rfl 0 rfl rfl ?_
            refine J_aload_n (pc := 93) C 57 rfl 1 rfl rfl ?_
            refine J_iload_n (pc := 94) C 58 rfl 0 rfl rfl ?_
            obtain ⟨q8, hq8, h⟩ := bnd h
            refine J_callV (pc := 95) (st2 := [.int (((x1_37 - x1_37 / (16 : Int32) * (16 : Int32)) * (6 : Int32)) + ((x1_37 - x1_37 / (96 : Int32) * (96 : Int32)) / (16 : Int32))), .ref (aM 7)]) (st3 := [.int q8, .int (((x1_37 - x1_37 / (16 : Int32) * (16 : Int32)) * (6 : Int32)) + ((x1_37 - x1_37 / (96 : Int32) * (96 : Int32)) / (16 : Int32))), .ref (aM 7)]) (ws2 := (wMod G aM (vM_37 0) (vM_37 1) (vM_37 2) (vM_37 3) (vM_37 4) (vM_37 5) (vM_37 6) (vM_37 7) (vM_37 8) (vM_37 9 0) (vM_37 10 0) (vM_37 11 0) (vM_37 12 0) (vM_37 13 0))) C 59 rfl (c_X5_needsReader aM vM_37 (((x1_37 - x1_37 / (16 : Int32) * (16 : Int32)) * (6 : Int32)) + ((x1_37 - x1_37 / (96 : Int32) * (96 : Int32)) / (16 : Int32))) hq8) V_X5_needsReader k468 i_X5_needsReader s_X5_needsReader rfl rfl ⟨Nat.le_of_ble_eq_true rfl, Nat.le_of_ble_eq_true rfl⟩ (Nat.le_of_ble_eq_true rfl) ⟨Nat.le_refl _, Nat.le_refl _⟩ 0 5 rfl rfl rfl (isC := [0, 1, 2, 3, 4, 5, 6, 7, 8, 9]) (isR := []) (N := 10) ⟨rfl, by decide +kernel, rfl, by decide +kernel, rfl, trivial⟩ rfl ?_
            refine J_if_eq (pc := 98) (tgt := 109) C 60 rfl rfl (fun c9 => ?_) (fun c9 => ?_)
            · rw [if_pos c9] at h
              refine J_aload_n (pc := 109) C 65 rfl 1 rfl rfl ?_
              refine J_iload_n (pc := 110) C 66 rfl 0 rfl rfl ?_
              obtain ⟨q10, hq10, h⟩ := bnd h
              refine J_callV (pc := 111) (st2 := [.int (((x1_37 - x1_37 / (16 : Int32) * (16 : Int32)) * (6 : Int32)) + ((x1_37 - x1_37 / (96 : Int32) * (96 : Int32)) / (16 : Int32))), .ref (aM 7)]) (st3 := [.int q10, .int (((x1_37 - x1_37 / (16 : Int32) * (16 : Int32)) * (6 : Int32)) + ((x1_37 - x1_37 / (96 : Int32) * (96 : Int32)) / (16 : Int32))), .ref (aM 7)]) (ws2 := (wMod G aM (vM_37 0) (vM_37 1) (vM_37 2) (vM_37 3) (vM_37 4) (vM_37 5) (vM_37 6) (vM_37 7) (vM_37 8) (vM_37 9 0) (vM_37 10 0) (vM_37 11 0) (vM_37 12 0) (vM_37 13 0))) C 67 rfl (c_X5_deskFor aM vM_37 (((x1_37 - x1_37 / (16 : Int32) * (16 : Int32)) * (6 : Int32)) + ((x1_37 - x1_37 / (96 : Int32) * (96 : Int32)) / (16 : Int32))) hq10) V_X5_deskFor k474 i_X5_deskFor s_X5_deskFor rfl rfl ⟨Nat.le_of_ble_eq_true rfl, Nat.le_of_ble_eq_true rfl⟩ (Nat.le_of_ble_eq_true rfl) ⟨Nat.le_refl _, Nat.le_refl _⟩ 0 5 rfl rfl rfl (isC := [0, 1, 2, 3, 4, 5, 6, 7, 8, 9]) (isR := []) (N := 10) ⟨rfl, by decide +kernel, rfl, by decide +kernel, rfl, trivial⟩ rfl ?_
              obtain ⟨g11, h⟩ := gd_some h
              refine J_iast (pc := 114) (f := (vM_37 6)) (m := (Int32.toNatClampNeg (((x1_37 - x1_37 / (16 : Int32) * (16 : Int32)) * (6 : Int32)) + ((x1_37 - x1_37 / (96 : Int32) * (96 : Int32)) / (16 : Int32))))) C 68 (fun mm vv => (wMod G aM (vM_37 0) (vM_37 1) (vM_37 2) (vM_37 3) (vM_37 4) (vM_37 5) (upd (vM_37 6) mm vv) (vM_37 7) (vM_37 8) (vM_37 9 0) (vM_37 10 0) (vM_37 11 0) (vM_37 12 0) (vM_37 13 0))) rfl 7 rfl g11 rfl (fun _ _ => rfl) ?_
              refine J_iinc (pc := 115) (v := (x1_37 + (1 : Int32))) (lv' := [(1, .int (x1_37 + (1 : Int32))), (2, .int (((x1_37 - x1_37 / (16 : Int32) * (16 : Int32)) * (6 : Int32)) + ((x1_37 - x1_37 / (96 : Int32) * (96 : Int32)) / (16 : Int32)))), (0, .ref (aM 0))]) C 69 rfl 2 rfl rfl (by decide) rfl ?_
              refine J_goto (pc := 118) (tgt := 37) C 70 rfl rfl ?_
              exact J_sub [2, 0] rfl (ih37 (up2 vM_37 6 (Int32.toNatClampNeg (((x1_37 - x1_37 / (16 : Int32) * (16 : Int32)) * (6 : Int32)) + ((x1_37 - x1_37 / (96 : Int32) * (96 : Int32)) / (16 : Int32)))) q10) (x1_37 + (1 : Int32)) h)
            · rw [if_neg c9] at h
              refine J_aload_n (pc := 101) C 61 rfl 1 rfl rfl ?_
              refine J_iload_n (pc := 102) C 62 rfl 0 rfl rfl ?_
              obtain ⟨q12, hq12, h⟩ := bnd h
              refine J_callV (pc := 103) (st2 := [.int (((x1_37 - x1_37 / (16 : Int32) * (16 : Int32)) * (6 : Int32)) + ((x1_37 - x1_37 / (96 : Int32) * (96 : Int32)) / (16 : Int32))), .ref (aM 7)]) (st3 := [.int q12, .int (((x1_37 - x1_37 / (16 : Int32) * (16 : Int32)) * (6 : Int32)) + ((x1_37 - x1_37 / (96 : Int32) * (96 : Int32)) / (16 : Int32))), .ref (aM 7)]) (ws2 := (wMod G aM (vM_37 0) (vM_37 1) (vM_37 2) (vM_37 3) (vM_37 4) (vM_37 5) (vM_37 6) (vM_37 7) (vM_37 8) (vM_37 9 0) (vM_37 10 0) (vM_37 11 0) (vM_37 12 0) (vM_37 13 0))) C 63 rfl (c_X5_roomFor aM vM_37 (((x1_37 - x1_37 / (16 : Int32) * (16 : Int32)) * (6 : Int32)) + ((x1_37 - x1_37 / (96 : Int32) * (96 : Int32)) / (16 : Int32))) hq12) V_X5_roomFor k471 i_X5_roomFor s_X5_roomFor rfl rfl ⟨Nat.le_of_ble_eq_true rfl, Nat.le_of_ble_eq_true rfl⟩ (Nat.le_of_ble_eq_true rfl) ⟨Nat.le_refl _, Nat.le_refl _⟩ 0 5 rfl rfl rfl (isC := [0, 1, 2, 3, 4, 5, 6, 7, 8, 9]) (isR := []) (N := 10) ⟨rfl, by decide +kernel, rfl, by decide +kernel, rfl, trivial⟩ rfl ?_
              refine J_goto (pc := 106) (tgt := 114) C 64 rfl rfl ?_
              obtain ⟨g13, h⟩ := gd_some h
              refine J_iast (pc := 114) (f := (vM_37 6)) (m := (Int32.toNatClampNeg (((x1_37 - x1_37 / (16 : Int32) * (16 : Int32)) * (6 : Int32)) + ((x1_37 - x1_37 / (96 : Int32) * (96 : Int32)) / (16 : Int32))))) C 68 (fun mm vv => (wMod G aM (vM_37 0) (vM_37 1) (vM_37 2) (vM_37 3) (vM_37 4) (vM_37 5) (upd (vM_37 6) mm vv) (vM_37 7) (vM_37 8) (vM_37 9 0) (vM_37 10 0) (vM_37 11 0) (vM_37 12 0) (vM_37 13 0))) rfl 7 rfl g13 rfl (fun _ _ => rfl) ?_
              refine J_iinc (pc := 115) (v := (x1_37 + (1 : Int32))) (lv' := [(1, .int (x1_37 + (1 : Int32))), (2, .int (((x1_37 - x1_37 / (16 : Int32) * (16 : Int32)) * (6 : Int32)) + ((x1_37 - x1_37 / (96 : Int32) * (96 : Int32)) / (16 : Int32)))), (0, .ref (aM 0))]) C 69 rfl 2 rfl rfl (by decide) rfl ?_
              refine J_goto (pc := 118) (tgt := 37) C 70 rfl rfl ?_
              exact J_sub [2, 0] rfl (ih37 (up2 vM_37 6 (Int32.toNatClampNeg (((x1_37 - x1_37 / (16 : Int32) * (16 : Int32)) * (6 : Int32)) + ((x1_37 - x1_37 / (96 : Int32) * (96 : Int32)) / (16 : Int32)))) q12) (x1_37 + (1 : Int32)) h)
  have B15 : ∀ (n15 : Nat) (vM_15 : JV) (x1_15 : Int32), f_X5_seats_L15  n15 vM_15 x1_15 = some Rz → J l { frames := 5, cells := 0, slots := 0, locals := 111 } G 3 X (QM X G 0 0 none (wMod G aM (Rz 0) (Rz 1) (Rz 2) (Rz 3) (Rz 4) (Rz 5) (Rz 6) (Rz 7) (Rz 8) (Rz 9 0) (Rz 10 0) (Rz 11 0) (Rz 12 0) (Rz 13 0))) 0 0 15 [(0, .ref (aM 0)), (1, .int x1_15)] [] (wMod G aM (vM_15 0) (vM_15 1) (vM_15 2) (vM_15 3) (vM_15 4) (vM_15 5) (vM_15 6) (vM_15 7) (vM_15 8) (vM_15 9 0) (vM_15 10 0) (vM_15 11 0) (vM_15 12 0) (vM_15 13 0)) := by
    intro  n15
    induction n15 with
    | zero =>
      intro vM_15 x1_15 h
      exact (no_none rfl h).elim
    | succ n15 ih15 =>
      intro vM_15 x1_15 h
      replace h : f_X5_seats_b15  (fun vM_15 x1_15 => f_X5_seats_L15  n15 vM_15 x1_15) vM_15 x1_15 = some Rz := h
      unfold f_X5_seats_b15 at h
      refine J_iload_n (pc := 15) C 9 rfl 1 rfl rfl ?_
      refine J_bipush (pc := 16) (v := (96 : Int32)) C 10 rfl rfl ?_
      refine J_icmp_ge (pc := 18) (tgt := 35) C 11 rfl rfl (fun c2 => ?_) (fun c2 => ?_)
      · rw [if_pos c2] at h
        refine J_iconst (pc := 35) (v := (0 : Int32)) C 19 rfl rfl ?_
        refine J_istore_n (pc := 36) (lv' := [(1, .int (0 : Int32)), (0, .ref (aM 0))]) C 20 rfl rfl (by decide) rfl ?_
        exact J_sub [1, 0] rfl (B37  FU vM_15 (0 : Int32) h)
      · rw [if_neg c2] at h
        refine J_aload_n (pc := 21) C 12 rfl 0 rfl rfl ?_
        refine J_get (pc := 22) (v := .ref (aM 7)) C 13 rfl TB_l5 rfl 0 6 rfl (by decide) k405 rfl rfl ?_
        refine J_iload_n (pc := 25) C 14 rfl 1 rfl rfl ?_
        refine J_bipush (pc := 26) (v := (-6 : Int32)) C 15 rfl rfl ?_
        obtain ⟨g14, h⟩ := gd_some h
        refine J_iast (pc := 28) (f := (vM_15 6)) (m := (Int32.toNatClampNeg x1_15)) C 16 (fun mm vv => (wMod G aM (vM_15 0) (vM_15 1) (vM_15 2) (vM_15 3) (vM_15 4) (vM_15 5) (upd (vM_15 6) mm vv) (vM_15 7) (vM_15 8) (vM_15 9 0) (vM_15 10 0) (vM_15 11 0) (vM_15 12 0) (vM_15 13 0))) rfl 7 rfl g14 rfl (fun _ _ => rfl) ?_
        refine J_iinc (pc := 29) (v := (x1_15 + (1 : Int32))) (lv' := [(1, .int (x1_15 + (1 : Int32))), (0, .ref (aM 0))]) C 17 rfl 1 rfl rfl (by decide) rfl ?_
        refine J_goto (pc := 32) (tgt := 15) C 18 rfl rfl ?_
        exact J_sub [1, 0] rfl (ih15 (up2 vM_15 6 (Int32.toNatClampNeg x1_15) (-6 : Int32)) (x1_15 + (1 : Int32)) h)
  unfold f_X5_seats at h
  refine J_aload_n (pc := 0) C 0 rfl 0 rfl rfl ?_
  refine J_get (pc := 1) (v := .int (vM 9 0)) C 1 rfl TB_l5 rfl 0 9 rfl (by decide) k419 rfl rfl ?_
  refine J_if_eq (pc := 4) (tgt := 8) C 2 rfl rfl (fun c1 => ?_) (fun c1 => ?_)
  · rw [if_pos c1] at h
    refine J_aload_n (pc := 8) C 4 rfl 0 rfl rfl ?_
    refine J_iconst (pc := 9) (v := (1 : Int32)) C 5 rfl rfl ?_
    refine J_putz (pc := 10) C 6 (fun vv => (wMod G aM (vM 0) (vM 1) (vM 2) (vM 3) (vM 4) (vM 5) (vM 6) (vM 7) (vM 8) vv (vM 10 0) (vM 11 0) (vM 12 0) (vM 13 0))) rfl rfl TB_l5 tyX5 tyX5_ok nmX5 rfl 0 9 rfl (by decide) k419 rfl rfl rfl (Nat.le_of_ble_eq_true rfl) (fun _ => rfl) ?_
    refine J_iconst (pc := 13) (v := (0 : Int32)) C 7 rfl rfl ?_
    refine J_istore_n (pc := 14) (lv' := [(1, .int (0 : Int32)), (0, .ref (aM 0))]) C 8 rfl rfl (by decide) rfl ?_
    exact J_sub [1, 0] rfl (B15  FU (up2 vM 9 0 (1 : Int32)) (0 : Int32) h)
  · rw [if_neg c1] at h
    cases h
    exact J_vret (pc := 7) C 3 rfl
def T_X5_without : List (Nat × ClassFile.Instr × Nat) := [(0, .aload_n 0, 1), (1, .invokevirtual 97, 3), (4, .iconst 0, 1), (5, .istore_n 2, 1), (6, .iconst 0, 1), (7, .istore_n 3, 1), (8, .iload_n 3, 1), (9, .bipush 96, 2), (11, .if_icmp .ge 48, 3), (14, .iload_n 2, 1), (15, .aload_n 0, 1), (16, .iload_n 3, 1), (17, .invokevirtual 84, 3), (20, .ifCond .eq 30, 3), (23, .aload_n 0, 1), (24, .getfield 29, 3), (27, .iload_n 3, 1), (28, .iaload, 1), (29, .bipush (-6), 2), (31, .if_icmp .ne 19, 3), (34, .iload_n 1, 1), (35, .ifCond .eq 11, 3), (38, .aload_n 0, 1), (39, .iload_n 3, 1), (40, .invokevirtual 88, 3), (43, .ifCond .eq 7, 3), (46, .iconst 1, 1), (47, .goto 4, 3), (50, .iconst 0, 1), (51, .iadd, 1), (52, .istore_n 2, 1), (53, .iinc 3 1, 3), (56, .goto (-48), 3), (59, .iload_n 2, 1), (60, .ireturn, 1)]
theorem D_X5_without : ∀ q ∈ T_X5_without, decode cX5_without q.1 = .ok q.2 := by decide +kernel
theorem V_X5_without : Vy yX5_without cX5_without 4 (some .int) 1 := ⟨k481, k415, by decide +kernel⟩
theorem i_X5_without : Cond.instanceMethod yX5_without ∈ TB := k515
theorem s_X5_without : Cond.selects yX5_without.cls yX5_without yX5_without ∈ TB := k516
noncomputable def f_X5_without_b8  (x1_8 : Int32) (r8 : JV → Int32 → Int32 → Option (Int32 × JV)) (vM_8 : JV) (x2_8 : Int32) (x3_8 : Int32) : Option (Int32 × JV) :=
  (if (96 : Int32) ≤ x3_8 then some (x2_8, vM_8) else (f_X5_isSitting vM_8 x3_8).bind (fun q3 => (if q3 = 0 then r8 vM_8 (x2_8 + (0 : Int32)) (x3_8 + (1 : Int32)) else gd (inb x3_8 96) ((if ((vM_8 6) (Int32.toNatClampNeg x3_8)) = (-6 : Int32) then (if x1_8 = 0 then r8 vM_8 (x2_8 + (1 : Int32)) (x3_8 + (1 : Int32)) else (f_X5_needsReader vM_8 x3_8).bind (fun q8 => (if q8 = 0 then r8 vM_8 (x2_8 + (0 : Int32)) (x3_8 + (1 : Int32)) else r8 vM_8 (x2_8 + (1 : Int32)) (x3_8 + (1 : Int32))))) else r8 vM_8 (x2_8 + (0 : Int32)) (x3_8 + (1 : Int32)))))))
noncomputable def f_X5_without_L8  (x1_8 : Int32) (n : Nat) (vM_8 : JV) (x2_8 : Int32) (x3_8 : Int32) : Option (Int32 × JV) :=
  lp (fun (rec : JV × Int32 × Int32 → Option (Int32 × JV)) a => f_X5_without_b8  x1_8 (fun vM_8 x2_8 x3_8 => rec (vM_8, x2_8, x3_8)) a.1 a.2.1 a.2.2) n (vM_8, x2_8, x3_8)
noncomputable def f_X5_without (vM : JV) (x1 : Int32) : Option (Int32 × JV) :=
  (f_X5_seats vM).bind (fun q1 => f_X5_without_L8  x1 FU q1 (0 : Int32) (0 : Int32))
set_option maxRecDepth 100000 in
set_option maxHeartbeats 4000000 in
theorem c_X5_without {l : Launch} {G : JG} (aM : Nat → Nat) (vM : JV) (x1 : Int32) {Rz : Int32 × JV} (h : f_X5_without vM x1 = some Rz) : JM l G yX5_without cX5_without 4 (some .int) 6 133 [.ref (aM 0), .int x1] (wMod G aM (vM 0) (vM 1) (vM 2) (vM 3) (vM 4) (vM 5) (vM 6) (vM 7) (vM 8) (vM 9 0) (vM 10 0) (vM 11 0) (vM 12 0) (vM 13 0)) (wMod G aM ((Rz.2) 0) ((Rz.2) 1) ((Rz.2) 2) ((Rz.2) 3) ((Rz.2) 4) ((Rz.2) 5) ((Rz.2) 6) ((Rz.2) 7) ((Rz.2) 8) ((Rz.2) 9 0) ((Rz.2) 10 0) ((Rz.2) 11 0) ((Rz.2) 12 0) ((Rz.2) 13 0)) (some (.int (Rz.1))) := by
  refine JM.of (own := RX5) (tb := T_X5_without) (by decide) (Nat.le_of_ble_eq_true rfl) D_X5_without rfl (fun X C => ?_)
  refine J_sub (lv' := [(0, .ref (aM 0)), (1, .int x1)]) [0, 1] rfl ?_
  have B8 : ∀ (x1_8 : Int32) (n8 : Nat) (vM_8 : JV) (x2_8 : Int32) (x3_8 : Int32), f_X5_without_L8  x1_8 n8 vM_8 x2_8 x3_8 = some Rz → J l { frames := 6, cells := 0, slots := 0, locals := 133 } G 4 X (QM X G 0 0 (some (.int (Rz.1))) (wMod G aM ((Rz.2) 0) ((Rz.2) 1) ((Rz.2) 2) ((Rz.2) 3) ((Rz.2) 4) ((Rz.2) 5) ((Rz.2) 6) ((Rz.2) 7) ((Rz.2) 8) ((Rz.2) 9 0) ((Rz.2) 10 0) ((Rz.2) 11 0) ((Rz.2) 12 0) ((Rz.2) 13 0))) 0 0 8 [(0, .ref (aM 0)), (1, .int x1_8), (2, .int x2_8), (3, .int x3_8)] [] (wMod G aM (vM_8 0) (vM_8 1) (vM_8 2) (vM_8 3) (vM_8 4) (vM_8 5) (vM_8 6) (vM_8 7) (vM_8 8) (vM_8 9 0) (vM_8 10 0) (vM_8 11 0) (vM_8 12 0) (vM_8 13 0)) := by
    intro x1_8 n8
    induction n8 with
    | zero =>
      intro vM_8 x2_8 x3_8 h
      exact (no_none rfl h).elim
    | succ n8 ih8 =>
      intro vM_8 x2_8 x3_8 h
      replace h : f_X5_without_b8  x1_8 (fun vM_8 x2_8 x3_8 => f_X5_without_L8  x1_8 n8 vM_8 x2_8 x3_8) vM_8 x2_8 x3_8 = some Rz := h
      unfold f_X5_without_b8 at h
      refine J_iload_n (pc := 8) C 6 rfl 3 rfl rfl ?_
      refine J_bipush (pc := 9) (v := (96 : Int32)) C 7 rfl rfl ?_
      refine J_icmp_ge (pc := 11) (tgt := 59) C 8 rfl rfl (fun c2 => ?_) (fun c2 => ?_)
      · rw [if_pos c2] at h
        refine J_iload_n (pc := 59) C 33 rfl 2 rfl rfl ?_
        cases h
        exact J_iret (pc := 60) C 34 rfl
      · rw [if_neg c2] at h
        refine J_iload_n (pc := 14) C 9 rfl 2 rfl rfl ?_
        refine J_aload_n (pc := 15) C 10 rfl 0 rfl rfl ?_
        refine J_iload_n (pc := 16) C 11 rfl 3 rfl rfl ?_
        obtain ⟨q3, hq3, h⟩ := bnd h
        refine J_callV (pc := 17) (st2 := [.int x2_8]) (st3 := [.int q3, .int x2_8]) (ws2 := (wMod G aM (vM_8 0) (vM_8 1) (vM_8 2) (vM_8 3) (vM_8 4) (vM_8 5) (vM_8 6) (vM_8 7) (vM_8 8) (vM_8 9 0) (vM_8 10 0) (vM_8 11 0) (vM_8 12 0) (vM_8 13 0))) C 12 rfl (c_X5_isSitting aM vM_8 x3_8 hq3) V_X5_isSitting k465 i_X5_isSitting s_X5_isSitting rfl rfl ⟨Nat.le_of_ble_eq_true rfl, Nat.le_of_ble_eq_true rfl⟩ (Nat.le_of_ble_eq_true rfl) ⟨Nat.le_refl _, Nat.le_refl _⟩ 0 5 rfl rfl rfl (isC := [0, 1, 2, 3, 4, 5, 6, 7, 8, 9]) (isR := []) (N := 10) ⟨rfl, by decide +kernel, rfl, by decide +kernel, rfl, trivial⟩ rfl ?_
        refine J_if_eq (pc := 20) (tgt := 50) C 13 rfl rfl (fun c4 => ?_) (fun c4 => ?_)
        · rw [if_pos c4] at h
          refine J_iconst (pc := 50) (v := (0 : Int32)) C 28 rfl rfl ?_
          refine J_iadd (pc := 51) C 29 rfl  ?_
          refine J_istore_n (pc := 52) (lv' := [(2, .int (x2_8 + (0 : Int32))), (0, .ref (aM 0)), (1, .int x1_8), (3, .int x3_8)]) C 30 rfl rfl (by decide) rfl ?_
          refine J_iinc (pc := 53) (v := (x3_8 + (1 : Int32))) (lv' := [(3, .int (x3_8 + (1 : Int32))), (2, .int (x2_8 + (0 : Int32))), (0, .ref (aM 0)), (1, .int x1_8)]) C 31 rfl 3 rfl rfl (by decide) rfl ?_
          refine J_goto (pc := 56) (tgt := 8) C 32 rfl rfl ?_
          exact J_sub [2, 3, 1, 0] rfl (ih8 vM_8 (x2_8 + (0 : Int32)) (x3_8 + (1 : Int32)) h)
        · rw [if_neg c4] at h
          refine J_aload_n (pc := 23) C 14 rfl 0 rfl rfl ?_
          refine J_get (pc := 24) (v := .ref (aM 7)) C 15 rfl TB_l5 rfl 0 6 rfl (by decide) k405 rfl rfl ?_
          refine J_iload_n (pc := 27) C 16 rfl 3 rfl rfl ?_
          obtain ⟨g5, h⟩ := gd_some h
          refine J_iald (pc := 28) (f := (vM_8 6)) (v := ((vM_8 6) (Int32.toNatClampNeg x3_8))) C 17 rfl 7 rfl g5 rfl ?_
          refine J_bipush (pc := 29) (v := (-6 : Int32)) C 18 rfl rfl ?_
          refine J_icmp_ne (pc := 31) (tgt := 50) C 19 rfl rfl (fun c6 => ?_) (fun c6 => ?_)
          · rw [if_neg c6] at h
            refine J_iconst (pc := 50) (v := (0 : Int32)) C 28 rfl rfl ?_
            refine J_iadd (pc := 51) C 29 rfl  ?_
            refine J_istore_n (pc := 52) (lv' := [(2, .int (x2_8 + (0 : Int32))), (0, .ref (aM 0)), (1, .int x1_8), (3, .int x3_8)]) C 30 rfl rfl (by decide) rfl ?_
            refine J_iinc (pc := 53) (v := (x3_8 + (1 : Int32))) (lv' := [(3, .int (x3_8 + (1 : Int32))), (2, .int (x2_8 + (0 : Int32))), (0, .ref (aM 0)), (1, .int x1_8)]) C 31 rfl 3 rfl rfl (by decide) rfl ?_
            refine J_goto (pc := 56) (tgt := 8) C 32 rfl rfl ?_
            exact J_sub [2, 3, 1, 0] rfl (ih8 vM_8 (x2_8 + (0 : Int32)) (x3_8 + (1 : Int32)) h)
          · rw [if_pos c6] at h
            refine J_iload_n (pc := 34) C 20 rfl 1 rfl rfl ?_
            refine J_if_eq (pc := 35) (tgt := 46) C 21 rfl rfl (fun c7 => ?_) (fun c7 => ?_)
            · rw [if_pos c7] at h
              refine J_iconst (pc := 46) (v := (1 : Int32)) C 26 rfl rfl ?_
              refine J_goto (pc := 47) (tgt := 51) C 27 rfl rfl ?_
              refine J_iadd (pc := 51) C 29 rfl  ?_
              refine J_istore_n (pc := 52) (lv' := [(2, .int (x2_8 + (1 : Int32))), (0, .ref (aM 0)), (1, .int x1_8), (3, .int x3_8)]) C 30 rfl rfl (by decide) rfl ?_
              refine J_iinc (pc := 53) (v := (x3_8 + (1 : Int32))) (lv' := [(3, .int (x3_8 + (1 : Int32))), (2, .int (x2_8 + (1 : Int32))), (0, .ref (aM 0)), (1, .int x1_8)]) C 31 rfl 3 rfl rfl (by decide) rfl ?_
              refine J_goto (pc := 56) (tgt := 8) C 32 rfl rfl ?_
              exact J_sub [2, 3, 1, 0] rfl (ih8 vM_8 (x2_8 + (1 : Int32)) (x3_8 + (1 : Int32)) h)
            · rw [if_neg c7] at h
              refine J_aload_n (pc := 38) C 22 rfl 0 rfl rfl ?_
              refine J_iload_n (pc := 39) C 23 rfl 3 rfl rfl ?_
              obtain ⟨q8, hq8, h⟩ := bnd h
              refine J_callV (pc := 40) (st2 := [.int x2_8]) (st3 := [.int q8, .int x2_8]) (ws2 := (wMod G aM (vM_8 0) (vM_8 1) (vM_8 2) (vM_8 3) (vM_8 4) (vM_8 5) (vM_8 6) (vM_8 7) (vM_8 8) (vM_8 9 0) (vM_8 10 0) (vM_8 11 0) (vM_8 12 0) (vM_8 13 0))) C 24 rfl (c_X5_needsReader aM vM_8 x3_8 hq8) V_X5_needsReader k468 i_X5_needsReader s_X5_needsReader rfl rfl ⟨Nat.le_of_ble_eq_true rfl, Nat.le_of_ble_eq_true rfl⟩ (Nat.le_of_ble_eq_true rfl) ⟨Nat.le_refl _, Nat.le_refl _⟩ 0 5 rfl rfl rfl (isC := [0, 1, 2, 3, 4, 5, 6, 7, 8, 9]) (isR := []) (N := 10) ⟨rfl, by decide +kernel, rfl, by decide +kernel, rfl, trivial⟩ rfl ?_
              refine J_if_eq (pc := 43) (tgt := 50) C 25 rfl rfl (fun c9 => ?_) (fun c9 => ?_)
              · rw [if_pos c9] at h
                refine J_iconst (pc := 50) (v := (0 : Int32)) C 28 rfl rfl ?_
                refine J_iadd (pc := 51) C 29 rfl  ?_
                refine J_istore_n (pc := 52) (lv' := [(2, .int (x2_8 + (0 : Int32))), (0, .ref (aM 0)), (1, .int x1_8), (3, .int x3_8)]) C 30 rfl rfl (by decide) rfl ?_
                refine J_iinc (pc := 53) (v := (x3_8 + (1 : Int32))) (lv' := [(3, .int (x3_8 + (1 : Int32))), (2, .int (x2_8 + (0 : Int32))), (0, .ref (aM 0)), (1, .int x1_8)]) C 31 rfl 3 rfl rfl (by decide) rfl ?_
                refine J_goto (pc := 56) (tgt := 8) C 32 rfl rfl ?_
                exact J_sub [2, 3, 1, 0] rfl (ih8 vM_8 (x2_8 + (0 : Int32)) (x3_8 + (1 : Int32)) h)
              · rw [if_neg c9] at h
                refine J_iconst (pc := 46) (v := (1 : Int32)) C 26 rfl rfl ?_
                refine J_goto (pc := 47) (tgt := 51) C 27 rfl rfl ?_
                refine J_iadd (pc := 51) C 29 rfl  ?_
                refine J_istore_n (pc := 52) (lv' := [(2, .int (x2_8 + (1 : Int32))), (0, .ref (aM 0)), (1, .int x1_8), (3, .int x3_8)]) C 30 rfl rfl (by decide) rfl ?_
                refine J_iinc (pc := 53) (v := (x3_8 + (1 : Int32))) (lv' := [(3, .int (x3_8 + (1 : Int32))), (2, .int (x2_8 + (1 : Int32))), (0, .ref (aM 0)), (1, .int x1_8)]) C 31 rfl 3 rfl rfl (by decide) rfl ?_
                refine J_goto (pc := 56) (tgt := 8) C 32 rfl rfl ?_
                exact J_sub [2, 3, 1, 0] rfl (ih8 vM_8 (x2_8 + (1 : Int32)) (x3_8 + (1 : Int32)) h)
  unfold f_X5_without at h
  refine J_aload_n (pc := 0) C 0 rfl 0 rfl rfl ?_
  obtain ⟨q1, hq1, h⟩ := bnd h
  refine J_callV (pc := 1) (st2 := []) (st3 := []) (ws2 := (wMod G aM (q1 0) (q1 1) (q1 2) (q1 3) (q1 4) (q1 5) (q1 6) (q1 7) (q1 8) (q1 9 0) (q1 10 0) (q1 11 0) (q1 12 0) (q1 13 0))) C 1 rfl (c_X5_seats aM vM hq1) V_X5_seats k478 i_X5_seats s_X5_seats rfl rfl ⟨Nat.le_of_ble_eq_true rfl, Nat.le_of_ble_eq_true rfl⟩ (Nat.le_of_ble_eq_true rfl) ⟨Nat.le_refl _, Nat.le_refl _⟩ 0 5 rfl rfl rfl (isC := [0, 1, 2, 3, 4, 5, 6, 7, 8, 9]) (isR := []) (N := 10) ⟨rfl, by decide +kernel, rfl, by decide +kernel, rfl, trivial⟩ rfl ?_
  refine J_iconst (pc := 4) (v := (0 : Int32)) C 2 rfl rfl ?_
  refine J_istore_n (pc := 5) (lv' := [(2, .int (0 : Int32)), (0, .ref (aM 0)), (1, .int x1)]) C 3 rfl rfl (by decide) rfl ?_
  refine J_iconst (pc := 6) (v := (0 : Int32)) C 4 rfl rfl ?_
  refine J_istore_n (pc := 7) (lv' := [(3, .int (0 : Int32)), (2, .int (0 : Int32)), (0, .ref (aM 0)), (1, .int x1)]) C 5 rfl rfl (by decide) rfl ?_
  exact J_sub [2, 3, 1, 0] rfl (B8 x1 FU q1 (0 : Int32) (0 : Int32) h)
def T_X5_clashesOf : List (Nat × ClassFile.Instr × Nat) := [(0, .iconst 0, 1), (1, .istore_n 2, 1), (2, .iconst 0, 1), (3, .istore_n 3, 1), (4, .iload_n 3, 1), (5, .bipush 36, 2), (7, .if_icmp .ge 79, 3), (10, .bipush 6, 2), (12, .iload_n 1, 1), (13, .imul, 1), (14, .iload_n 3, 1), (15, .bipush 6, 2), (17, .idiv, 1), (18, .iadd, 1), (19, .istore 4, 2), (21, .bipush 6, 2), (23, .iload_n 1, 1), (24, .imul, 1), (25, .iload_n 3, 1), (26, .bipush 6, 2), (28, .irem, 1), (29, .iadd, 1), (30, .istore 5, 2), (32, .iload_n 2, 1), (33, .iload_n 3, 1), (34, .bipush 6, 2), (36, .idiv, 1), (37, .iload_n 3, 1), (38, .bipush 6, 2), (40, .irem, 1), (41, .if_icmp .ge 36, 3), (44, .aload_n 0, 1), (45, .iload 4, 2), (47, .invokevirtual 84, 3), (50, .ifCond .eq 27, 3), (53, .aload_n 0, 1), (54, .iload 5, 2), (56, .invokevirtual 84, 3), (59, .ifCond .eq 18, 3), (62, .aload_n 0, 1), (63, .iload 4, 2), (65, .iload 5, 2), (67, .invokevirtual 100, 3), (70, .ifCond .eq 7, 3), (73, .iconst 1, 1), (74, .goto 4, 3), (77, .iconst 0, 1), (78, .iadd, 1), (79, .istore_n 2, 1), (80, .iinc 3 1, 3), (83, .goto (-79), 3), (86, .iload_n 2, 1), (87, .ireturn, 1)]
theorem D_X5_clashesOf : ∀ q ∈ T_X5_clashesOf, decode cX5_clashesOf q.1 = .ok q.2 := by decide +kernel
theorem V_X5_clashesOf : Vy yX5_clashesOf cX5_clashesOf 6 (some .int) 1 := ⟨k485, k415, by decide +kernel⟩
theorem i_X5_clashesOf : Cond.instanceMethod yX5_clashesOf ∈ TB := k487
theorem s_X5_clashesOf : Cond.selects yX5_clashesOf.cls yX5_clashesOf yX5_clashesOf ∈ TB := k488
noncomputable def f_X5_clashesOf_b4 (vM : JV) (x1_4 : Int32) (r4 : Int32 → Int32 → Option (Int32)) (x2_4 : Int32) (x3_4 : Int32) : Option (Int32) :=
  (if (36 : Int32) ≤ x3_4 then some x2_4 else (if (x3_4 - x3_4 / (6 : Int32) * (6 : Int32)) ≤ (x3_4 / (6 : Int32)) then r4 (x2_4 + (0 : Int32)) (x3_4 + (1 : Int32)) else (f_X5_isSitting vM (((6 : Int32) * x1_4) + (x3_4 / (6 : Int32)))).bind (fun q3 => (if q3 = 0 then r4 (x2_4 + (0 : Int32)) (x3_4 + (1 : Int32)) else (f_X5_isSitting vM (((6 : Int32) * x1_4) + (x3_4 - x3_4 / (6 : Int32) * (6 : Int32)))).bind (fun q5 => (if q5 = 0 then r4 (x2_4 + (0 : Int32)) (x3_4 + (1 : Int32)) else (f_X5_clash vM (((6 : Int32) * x1_4) + (x3_4 / (6 : Int32))) (((6 : Int32) * x1_4) + (x3_4 - x3_4 / (6 : Int32) * (6 : Int32)))).bind (fun q7 => (if q7 = 0 then r4 (x2_4 + (0 : Int32)) (x3_4 + (1 : Int32)) else r4 (x2_4 + (1 : Int32)) (x3_4 + (1 : Int32))))))))))
noncomputable def f_X5_clashesOf_L4 (vM : JV) (x1_4 : Int32) (n : Nat) (x2_4 : Int32) (x3_4 : Int32) : Option (Int32) :=
  lp (fun (rec : Int32 × Int32 → Option (Int32)) a => f_X5_clashesOf_b4 vM x1_4 (fun x2_4 x3_4 => rec (x2_4, x3_4)) a.1 a.2) n (x2_4, x3_4)
noncomputable def f_X5_clashesOf (vM : JV) (x1 : Int32) : Option (Int32) :=
  f_X5_clashesOf_L4 vM x1 FU (0 : Int32) (0 : Int32)
set_option maxRecDepth 100000 in
set_option maxHeartbeats 4000000 in
theorem c_X5_clashesOf {l : Launch} {G : JG} (aM : Nat → Nat) (vM : JV) (x1 : Int32) {Rz : Int32} (h : f_X5_clashesOf vM x1 = some Rz) : JM l G yX5_clashesOf cX5_clashesOf 6 (some .int) 4 84 [.ref (aM 0), .int x1] (wMod G aM (vM 0) (vM 1) (vM 2) (vM 3) (vM 4) (vM 5) (vM 6) (vM 7) (vM 8) (vM 9 0) (vM 10 0) (vM 11 0) (vM 12 0) (vM 13 0)) (wMod G aM (vM 0) (vM 1) (vM 2) (vM 3) (vM 4) (vM 5) (vM 6) (vM 7) (vM 8) (vM 9 0) (vM 10 0) (vM 11 0) (vM 12 0) (vM 13 0)) (some (.int Rz)) := by
  refine JM.of (own := RX5) (tb := T_X5_clashesOf) (by decide) (Nat.le_of_ble_eq_true rfl) D_X5_clashesOf rfl (fun X C => ?_)
  refine J_sub (lv' := [(0, .ref (aM 0)), (1, .int x1)]) [0, 1] rfl ?_
  have B4 : ∀ (x1_4 : Int32) (n4 : Nat) (x2_4 : Int32) (x3_4 : Int32), f_X5_clashesOf_L4 vM x1_4 n4 x2_4 x3_4 = some Rz → J l { frames := 4, cells := 0, slots := 0, locals := 84 } G 6 X (QM X G 0 0 (some (.int Rz)) (wMod G aM (vM 0) (vM 1) (vM 2) (vM 3) (vM 4) (vM 5) (vM 6) (vM 7) (vM 8) (vM 9 0) (vM 10 0) (vM 11 0) (vM 12 0) (vM 13 0))) 0 0 4 [(0, .ref (aM 0)), (1, .int x1_4), (2, .int x2_4), (3, .int x3_4)] [] (wMod G aM (vM 0) (vM 1) (vM 2) (vM 3) (vM 4) (vM 5) (vM 6) (vM 7) (vM 8) (vM 9 0) (vM 10 0) (vM 11 0) (vM 12 0) (vM 13 0)) := by
    intro x1_4 n4
    induction n4 with
    | zero =>
      intro x2_4 x3_4 h
      exact (no_none rfl h).elim
    | succ n4 ih4 =>
      intro x2_4 x3_4 h
      replace h : f_X5_clashesOf_b4 vM x1_4 (fun x2_4 x3_4 => f_X5_clashesOf_L4 vM x1_4 n4 x2_4 x3_4) x2_4 x3_4 = some Rz := h
      unfold f_X5_clashesOf_b4 at h
      refine J_iload_n (pc := 4) C 4 rfl 3 rfl rfl ?_
      refine J_bipush (pc := 5) (v := (36 : Int32)) C 5 rfl rfl ?_
      refine J_icmp_ge (pc := 7) (tgt := 86) C 6 rfl rfl (fun c1 => ?_) (fun c1 => ?_)
      · rw [if_pos c1] at h
        refine J_iload_n (pc := 86) C 51 rfl 2 rfl rfl ?_
        cases h
        exact J_iret (pc := 87) C 52 rfl
      · rw [if_neg c1] at h
        refine J_bipush (pc := 10) (v := (6 : Int32)) C 7 rfl rfl ?_
        refine J_iload_n (pc := 12) C 8 rfl 1 rfl rfl ?_
        refine J_imul (pc := 13) C 9 rfl  ?_
        refine J_iload_n (pc := 14) C 10 rfl 3 rfl rfl ?_
        refine J_bipush (pc := 15) (v := (6 : Int32)) C 11 rfl rfl ?_
        refine J_idiv (pc := 17) C 12 rfl (by decide) ?_
        refine J_iadd (pc := 18) C 13 rfl  ?_
        refine J_istore (pc := 19) (lv' := [(4, .int (((6 : Int32) * x1_4) + (x3_4 / (6 : Int32)))), (0, .ref (aM 0)), (1, .int x1_4), (2, .int x2_4), (3, .int x3_4)]) C 14 rfl (by decide) rfl ?_
        refine J_bipush (pc := 21) (v := (6 : Int32)) C 15 rfl rfl ?_
        refine J_iload_n (pc := 23) C 16 rfl 2 rfl rfl ?_
        refine J_imul (pc := 24) C 17 rfl  ?_
        refine J_iload_n (pc := 25) C 18 rfl 4 rfl rfl ?_
        refine J_bipush (pc := 26) (v := (6 : Int32)) C 19 rfl rfl ?_
        refine J_irem (pc := 28) C 20 rfl (by decide) ?_
        refine J_iadd (pc := 29) C 21 rfl  ?_
        refine J_istore (pc := 30) (lv' := [(5, .int (((6 : Int32) * x1_4) + (x3_4 - x3_4 / (6 : Int32) * (6 : Int32)))), (4, .int (((6 : Int32) * x1_4) + (x3_4 / (6 : Int32)))), (0, .ref (aM 0)), (1, .int x1_4), (2, .int x2_4), (3, .int x3_4)]) C 22 rfl (by decide) rfl ?_
        refine J_iload_n (pc := 32) C 23 rfl 4 rfl rfl ?_
        refine J_iload_n (pc := 33) C 24 rfl 5 rfl rfl ?_
        refine J_bipush (pc := 34) (v := (6 : Int32)) C 25 rfl rfl ?_
        refine J_idiv (pc := 36) C 26 rfl (by decide) ?_
        refine J_iload_n (pc := 37) C 27 rfl 5 rfl rfl ?_
        refine J_bipush (pc := 38) (v := (6 : Int32)) C 28 rfl rfl ?_
        refine J_irem (pc := 40) C 29 rfl (by decide) ?_
        refine J_icmp_ge (pc := 41) (tgt := 77) C 30 rfl rfl (fun c2 => ?_) (fun c2 => ?_)
        · rw [if_pos c2] at h
          refine J_iconst (pc := 77) (v := (0 : Int32)) C 46 rfl rfl ?_
          refine J_iadd (pc := 78) C 47 rfl  ?_
          refine J_istore_n (pc := 79) (lv' := [(2, .int (x2_4 + (0 : Int32))), (5, .int (((6 : Int32) * x1_4) + (x3_4 - x3_4 / (6 : Int32) * (6 : Int32)))), (4, .int (((6 : Int32) * x1_4) + (x3_4 / (6 : Int32)))), (0, .ref (aM 0)), (1, .int x1_4), (3, .int x3_4)]) C 48 rfl rfl (by decide) rfl ?_
          refine J_iinc (pc := 80) (v := (x3_4 + (1 : Int32))) (lv' := [(3, .int (x3_4 + (1 : Int32))), (2, .int (x2_4 + (0 : Int32))), (5, .int (((6 : Int32) * x1_4) + (x3_4 - x3_4 / (6 : Int32) * (6 : Int32)))), (4, .int (((6 : Int32) * x1_4) + (x3_4 / (6 : Int32)))), (0, .ref (aM 0)), (1, .int x1_4)]) C 49 rfl 5 rfl rfl (by decide) rfl ?_
          refine J_goto (pc := 83) (tgt := 4) C 50 rfl rfl ?_
          exact J_sub [4, 5, 1, 0] rfl (ih4 (x2_4 + (0 : Int32)) (x3_4 + (1 : Int32)) h)
        · rw [if_neg c2] at h
          refine J_aload_n (pc := 44) C 31 rfl 2 rfl rfl ?_
          refine J_iload (pc := 45) C 32 rfl 1 rfl ?_
          obtain ⟨q3, hq3, h⟩ := bnd h
          refine J_callV (pc := 47) (st2 := [.int x2_4]) (st3 := [.int q3, .int x2_4]) (ws2 := (wMod G aM (vM 0) (vM 1) (vM 2) (vM 3) (vM 4) (vM 5) (vM 6) (vM 7) (vM 8) (vM 9 0) (vM 10 0) (vM 11 0) (vM 12 0) (vM 13 0))) C 33 rfl (c_X5_isSitting aM vM (((6 : Int32) * x1_4) + (x3_4 / (6 : Int32))) hq3) V_X5_isSitting k465 i_X5_isSitting s_X5_isSitting rfl rfl ⟨Nat.le_of_ble_eq_true rfl, Nat.le_of_ble_eq_true rfl⟩ (Nat.le_of_ble_eq_true rfl) ⟨Nat.le_refl _, Nat.le_refl _⟩ 0 5 rfl rfl rfl (isC := [0, 1, 2, 3, 4, 5, 6, 7, 8, 9]) (isR := []) (N := 10) ⟨rfl, by decide +kernel, rfl, by decide +kernel, rfl, trivial⟩ rfl ?_
          refine J_if_eq (pc := 50) (tgt := 77) C 34 rfl rfl (fun c4 => ?_) (fun c4 => ?_)
          · rw [if_pos c4] at h
            refine J_iconst (pc := 77) (v := (0 : Int32)) C 46 rfl rfl ?_
            refine J_iadd (pc := 78) C 47 rfl  ?_
            refine J_istore_n (pc := 79) (lv' := [(2, .int (x2_4 + (0 : Int32))), (5, .int (((6 : Int32) * x1_4) + (x3_4 - x3_4 / (6 : Int32) * (6 : Int32)))), (4, .int (((6 : Int32) * x1_4) + (x3_4 / (6 : Int32)))), (0, .ref (aM 0)), (1, .int x1_4), (3, .int x3_4)]) C 48 rfl rfl (by decide) rfl ?_
            refine J_iinc (pc := 80) (v := (x3_4 + (1 : Int32))) (lv' := [(3, .int (x3_4 + (1 : Int32))), (2, .int (x2_4 + (0 : Int32))), (5, .int (((6 : Int32) * x1_4) + (x3_4 - x3_4 / (6 : Int32) * (6 : Int32)))), (4, .int (((6 : Int32) * x1_4) + (x3_4 / (6 : Int32)))), (0, .ref (aM 0)), (1, .int x1_4)]) C 49 rfl 5 rfl rfl (by decide) rfl ?_
            refine J_goto (pc := 83) (tgt := 4) C 50 rfl rfl ?_
            exact J_sub [4, 5, 1, 0] rfl (ih4 (x2_4 + (0 : Int32)) (x3_4 + (1 : Int32)) h)
          · rw [if_neg c4] at h
            refine J_aload_n (pc := 53) C 35 rfl 2 rfl rfl ?_
            refine J_iload (pc := 54) C 36 rfl 0 rfl ?_
            obtain ⟨q5, hq5, h⟩ := bnd h
            refine J_callV (pc := 56) (st2 := [.int x2_4]) (st3 := [.int q5, .int x2_4]) (ws2 := (wMod G aM (vM 0) (vM 1) (vM 2) (vM 3) (vM 4) (vM 5) (vM 6) (vM 7) (vM 8) (vM 9 0) (vM 10 0) (vM 11 0) (vM 12 0) (vM 13 0))) C 37 rfl (c_X5_isSitting aM vM (((6 : Int32) * x1_4) + (x3_4 - x3_4 / (6 : Int32) * (6 : Int32))) hq5) V_X5_isSitting k465 i_X5_isSitting s_X5_isSitting rfl rfl ⟨Nat.le_of_ble_eq_true rfl, Nat.le_of_ble_eq_true rfl⟩ (Nat.le_of_ble_eq_true rfl) ⟨Nat.le_refl _, Nat.le_refl _⟩ 0 5 rfl rfl rfl (isC := [0, 1, 2, 3, 4, 5, 6, 7, 8, 9]) (isR := []) (N := 10) ⟨rfl, by decide +kernel, rfl, by decide +kernel, rfl, trivial⟩ rfl ?_
            refine J_if_eq (pc := 59) (tgt := 77) C 38 rfl rfl (fun c6 => ?_) (fun c6 => ?_)
            · rw [if_pos c6] at h
              refine J_iconst (pc := 77) (v := (0 : Int32)) C 46 rfl rfl ?_
              refine J_iadd (pc := 78) C 47 rfl  ?_
              refine J_istore_n (pc := 79) (lv' := [(2, .int (x2_4 + (0 : Int32))), (5, .int (((6 : Int32) * x1_4) + (x3_4 - x3_4 / (6 : Int32) * (6 : Int32)))), (4, .int (((6 : Int32) * x1_4) + (x3_4 / (6 : Int32)))), (0, .ref (aM 0)), (1, .int x1_4), (3, .int x3_4)]) C 48 rfl rfl (by decide) rfl ?_
              refine J_iinc (pc := 80) (v := (x3_4 + (1 : Int32))) (lv' := [(3, .int (x3_4 + (1 : Int32))), (2, .int (x2_4 + (0 : Int32))), (5, .int (((6 : Int32) * x1_4) + (x3_4 - x3_4 / (6 : Int32) * (6 : Int32)))), (4, .int (((6 : Int32) * x1_4) + (x3_4 / (6 : Int32)))), (0, .ref (aM 0)), (1, .int x1_4)]) C 49 rfl 5 rfl rfl (by decide) rfl ?_
              refine J_goto (pc := 83) (tgt := 4) C 50 rfl rfl ?_
              exact J_sub [4, 5, 1, 0] rfl (ih4 (x2_4 + (0 : Int32)) (x3_4 + (1 : Int32)) h)
            · rw [if_neg c6] at h
              refine J_aload_n (pc := 62) C 39 rfl 2 rfl rfl ?_
              refine J_iload (pc := 63) C 40 rfl 1 rfl ?_
              refine J_iload (pc := 65) C 41 rfl 0 rfl ?_
              obtain ⟨q7, hq7, h⟩ := bnd h
              refine J_callV (pc := 67) (st2 := [.int x2_4]) (st3 := [.int q7, .int x2_4]) (ws2 := (wMod G aM (vM 0) (vM 1) (vM 2) (vM 3) (vM 4) (vM 5) (vM 6) (vM 7) (vM 8) (vM 9 0) (vM 10 0) (vM 11 0) (vM 12 0) (vM 13 0))) C 42 rfl (c_X5_clash aM vM (((6 : Int32) * x1_4) + (x3_4 / (6 : Int32))) (((6 : Int32) * x1_4) + (x3_4 - x3_4 / (6 : Int32) * (6 : Int32))) hq7) V_X5_clash k482 i_X5_clash s_X5_clash rfl rfl ⟨Nat.le_of_ble_eq_true rfl, Nat.le_of_ble_eq_true rfl⟩ (Nat.le_of_ble_eq_true rfl) ⟨Nat.le_refl _, Nat.le_refl _⟩ 0 5 rfl rfl rfl (isC := [0, 1, 2, 3, 4, 5, 6, 7, 8, 9]) (isR := []) (N := 10) ⟨rfl, by decide +kernel, rfl, by decide +kernel, rfl, trivial⟩ rfl ?_
              refine J_if_eq (pc := 70) (tgt := 77) C 43 rfl rfl (fun c8 => ?_) (fun c8 => ?_)
              · rw [if_pos c8] at h
                refine J_iconst (pc := 77) (v := (0 : Int32)) C 46 rfl rfl ?_
                refine J_iadd (pc := 78) C 47 rfl  ?_
                refine J_istore_n (pc := 79) (lv' := [(2, .int (x2_4 + (0 : Int32))), (5, .int (((6 : Int32) * x1_4) + (x3_4 - x3_4 / (6 : Int32) * (6 : Int32)))), (4, .int (((6 : Int32) * x1_4) + (x3_4 / (6 : Int32)))), (0, .ref (aM 0)), (1, .int x1_4), (3, .int x3_4)]) C 48 rfl rfl (by decide) rfl ?_
                refine J_iinc (pc := 80) (v := (x3_4 + (1 : Int32))) (lv' := [(3, .int (x3_4 + (1 : Int32))), (2, .int (x2_4 + (0 : Int32))), (5, .int (((6 : Int32) * x1_4) + (x3_4 - x3_4 / (6 : Int32) * (6 : Int32)))), (4, .int (((6 : Int32) * x1_4) + (x3_4 / (6 : Int32)))), (0, .ref (aM 0)), (1, .int x1_4)]) C 49 rfl 5 rfl rfl (by decide) rfl ?_
                refine J_goto (pc := 83) (tgt := 4) C 50 rfl rfl ?_
                exact J_sub [4, 5, 1, 0] rfl (ih4 (x2_4 + (0 : Int32)) (x3_4 + (1 : Int32)) h)
              · rw [if_neg c8] at h
                refine J_iconst (pc := 73) (v := (1 : Int32)) C 44 rfl rfl ?_
                refine J_goto (pc := 74) (tgt := 78) C 45 rfl rfl ?_
                refine J_iadd (pc := 78) C 47 rfl  ?_
                refine J_istore_n (pc := 79) (lv' := [(2, .int (x2_4 + (1 : Int32))), (5, .int (((6 : Int32) * x1_4) + (x3_4 - x3_4 / (6 : Int32) * (6 : Int32)))), (4, .int (((6 : Int32) * x1_4) + (x3_4 / (6 : Int32)))), (0, .ref (aM 0)), (1, .int x1_4), (3, .int x3_4)]) C 48 rfl rfl (by decide) rfl ?_
                refine J_iinc (pc := 80) (v := (x3_4 + (1 : Int32))) (lv' := [(3, .int (x3_4 + (1 : Int32))), (2, .int (x2_4 + (1 : Int32))), (5, .int (((6 : Int32) * x1_4) + (x3_4 - x3_4 / (6 : Int32) * (6 : Int32)))), (4, .int (((6 : Int32) * x1_4) + (x3_4 / (6 : Int32)))), (0, .ref (aM 0)), (1, .int x1_4)]) C 49 rfl 5 rfl rfl (by decide) rfl ?_
                refine J_goto (pc := 83) (tgt := 4) C 50 rfl rfl ?_
                exact J_sub [4, 5, 1, 0] rfl (ih4 (x2_4 + (1 : Int32)) (x3_4 + (1 : Int32)) h)
  unfold f_X5_clashesOf at h
  refine J_iconst (pc := 0) (v := (0 : Int32)) C 0 rfl rfl ?_
  refine J_istore_n (pc := 1) (lv' := [(2, .int (0 : Int32)), (0, .ref (aM 0)), (1, .int x1)]) C 1 rfl rfl (by decide) rfl ?_
  refine J_iconst (pc := 2) (v := (0 : Int32)) C 2 rfl rfl ?_
  refine J_istore_n (pc := 3) (lv' := [(3, .int (0 : Int32)), (2, .int (0 : Int32)), (0, .ref (aM 0)), (1, .int x1)]) C 3 rfl rfl (by decide) rfl ?_
  exact J_sub [2, 3, 1, 0] rfl (B4 x1 FU (0 : Int32) (0 : Int32) h)
def T_X5_clashes : List (Nat × ClassFile.Instr × Nat) := [(0, .iconst 0, 1), (1, .istore_n 1, 1), (2, .iconst 0, 1), (3, .istore_n 2, 1), (4, .iload_n 2, 1), (5, .aload_n 0, 1), (6, .getfield 7, 3), (9, .iconst 3, 1), (10, .iaload, 1), (11, .if_icmp .ge 17, 3), (14, .iload_n 1, 1), (15, .aload_n 0, 1), (16, .iload_n 2, 1), (17, .invokevirtual 103, 3), (20, .iadd, 1), (21, .istore_n 1, 1), (22, .iinc 2 1, 3), (25, .goto (-21), 3), (28, .iload_n 1, 1), (29, .ireturn, 1)]
theorem D_X5_clashes : ∀ q ∈ T_X5_clashes, decode cX5_clashes q.1 = .ok q.2 := by decide +kernel
theorem V_X5_clashes : Vy yX5_clashes cX5_clashes 3 (some .int) 0 := ⟨k489, k415, by decide +kernel⟩
theorem i_X5_clashes : Cond.instanceMethod yX5_clashes ∈ TB := k589
theorem s_X5_clashes : Cond.selects yX5_clashes.cls yX5_clashes yX5_clashes ∈ TB := k590
noncomputable def f_X5_clashes_b4 (vM : JV) (r4 : Int32 → Int32 → Option (Int32)) (x1_4 : Int32) (x2_4 : Int32) : Option (Int32) :=
  (if ((vM 0) 3) ≤ x2_4 then some x1_4 else (f_X5_clashesOf vM x2_4).bind (fun q2 => r4 (x1_4 + q2) (x2_4 + (1 : Int32))))
noncomputable def f_X5_clashes_L4 (vM : JV) (n : Nat) (x1_4 : Int32) (x2_4 : Int32) : Option (Int32) :=
  lp (fun (rec : Int32 × Int32 → Option (Int32)) a => f_X5_clashes_b4 vM (fun x1_4 x2_4 => rec (x1_4, x2_4)) a.1 a.2) n (x1_4, x2_4)
noncomputable def f_X5_clashes (vM : JV)  : Option (Int32) :=
  f_X5_clashes_L4 vM  FU (0 : Int32) (0 : Int32)
set_option maxRecDepth 100000 in
set_option maxHeartbeats 4000000 in
theorem c_X5_clashes {l : Launch} {G : JG} (aM : Nat → Nat) (vM : JV)  {Rz : Int32} (h : f_X5_clashes vM = some Rz) : JM l G yX5_clashes cX5_clashes 3 (some .int) 5 109 [.ref (aM 0)] (wMod G aM (vM 0) (vM 1) (vM 2) (vM 3) (vM 4) (vM 5) (vM 6) (vM 7) (vM 8) (vM 9 0) (vM 10 0) (vM 11 0) (vM 12 0) (vM 13 0)) (wMod G aM (vM 0) (vM 1) (vM 2) (vM 3) (vM 4) (vM 5) (vM 6) (vM 7) (vM 8) (vM 9 0) (vM 10 0) (vM 11 0) (vM 12 0) (vM 13 0)) (some (.int Rz)) := by
  refine JM.of (own := RX5) (tb := T_X5_clashes) (by decide) (Nat.le_of_ble_eq_true rfl) D_X5_clashes rfl (fun X C => ?_)
  refine J_sub (lv' := [(0, .ref (aM 0))]) [0] rfl ?_
  have B4 : ∀ (n4 : Nat) (x1_4 : Int32) (x2_4 : Int32), f_X5_clashes_L4 vM n4 x1_4 x2_4 = some Rz → J l { frames := 5, cells := 0, slots := 0, locals := 109 } G 3 X (QM X G 0 0 (some (.int Rz)) (wMod G aM (vM 0) (vM 1) (vM 2) (vM 3) (vM 4) (vM 5) (vM 6) (vM 7) (vM 8) (vM 9 0) (vM 10 0) (vM 11 0) (vM 12 0) (vM 13 0))) 0 0 4 [(0, .ref (aM 0)), (1, .int x1_4), (2, .int x2_4)] [] (wMod G aM (vM 0) (vM 1) (vM 2) (vM 3) (vM 4) (vM 5) (vM 6) (vM 7) (vM 8) (vM 9 0) (vM 10 0) (vM 11 0) (vM 12 0) (vM 13 0)) := by
    intro  n4
    induction n4 with
    | zero =>
      intro x1_4 x2_4 h
      exact (no_none rfl h).elim
    | succ n4 ih4 =>
      intro x1_4 x2_4 h
      replace h : f_X5_clashes_b4 vM (fun x1_4 x2_4 => f_X5_clashes_L4 vM n4 x1_4 x2_4) x1_4 x2_4 = some Rz := h
      unfold f_X5_clashes_b4 at h
      refine J_iload_n (pc := 4) C 4 rfl 2 rfl rfl ?_
      refine J_aload_n (pc := 5) C 5 rfl 0 rfl rfl ?_
      refine J_get (pc := 6) (v := .ref (aM 1)) C 6 rfl TB_l5 rfl 0 0 rfl (by decide) k399 rfl rfl ?_
      refine J_iconst (pc := 9) (v := (3 : Int32)) C 7 rfl rfl ?_
      refine J_iald (pc := 10) (f := (vM 0)) (v := ((vM 0) 3)) C 8 rfl 1 rfl rfl rfl ?_
      refine J_icmp_ge (pc := 11) (tgt := 28) C 9 rfl rfl (fun c1 => ?_) (fun c1 => ?_)
      · rw [if_pos c1] at h
        refine J_iload_n (pc := 28) C 18 rfl 1 rfl rfl ?_
        cases h
        exact J_iret (pc := 29) C 19 rfl
      · rw [if_neg c1] at h
        refine J_iload_n (pc := 14) C 10 rfl 1 rfl rfl ?_
        refine J_aload_n (pc := 15) C 11 rfl 0 rfl rfl ?_
        refine J_iload_n (pc := 16) C 12 rfl 2 rfl rfl ?_
        obtain ⟨q2, hq2, h⟩ := bnd h
        refine J_callV (pc := 17) (st2 := [.int x1_4]) (st3 := [.int q2, .int x1_4]) (ws2 := (wMod G aM (vM 0) (vM 1) (vM 2) (vM 3) (vM 4) (vM 5) (vM 6) (vM 7) (vM 8) (vM 9 0) (vM 10 0) (vM 11 0) (vM 12 0) (vM 13 0))) C 13 rfl (c_X5_clashesOf aM vM x2_4 hq2) V_X5_clashesOf k486 i_X5_clashesOf s_X5_clashesOf rfl rfl ⟨Nat.le_of_ble_eq_true rfl, Nat.le_of_ble_eq_true rfl⟩ (Nat.le_of_ble_eq_true rfl) ⟨Nat.le_refl _, Nat.le_refl _⟩ 0 5 rfl rfl rfl (isC := [0, 1, 2, 3, 4, 5, 6, 7, 8, 9]) (isR := []) (N := 10) ⟨rfl, by decide +kernel, rfl, by decide +kernel, rfl, trivial⟩ rfl ?_
        refine J_iadd (pc := 20) C 14 rfl  ?_
        refine J_istore_n (pc := 21) (lv' := [(1, .int (x1_4 + q2)), (0, .ref (aM 0)), (2, .int x2_4)]) C 15 rfl rfl (by decide) rfl ?_
        refine J_iinc (pc := 22) (v := (x2_4 + (1 : Int32))) (lv' := [(2, .int (x2_4 + (1 : Int32))), (1, .int (x1_4 + q2)), (0, .ref (aM 0))]) C 16 rfl 2 rfl rfl (by decide) rfl ?_
        refine J_goto (pc := 25) (tgt := 4) C 17 rfl rfl ?_
        exact J_sub [2, 1, 0] rfl (ih4 (x1_4 + q2) (x2_4 + (1 : Int32)) h)
  unfold f_X5_clashes at h
  refine J_iconst (pc := 0) (v := (0 : Int32)) C 0 rfl rfl ?_
  refine J_istore_n (pc := 1) (lv' := [(1, .int (0 : Int32)), (0, .ref (aM 0))]) C 1 rfl rfl (by decide) rfl ?_
  refine J_iconst (pc := 2) (v := (0 : Int32)) C 2 rfl rfl ?_
  refine J_istore_n (pc := 3) (lv' := [(2, .int (0 : Int32)), (1, .int (0 : Int32)), (0, .ref (aM 0))]) C 3 rfl rfl (by decide) rfl ?_
  exact J_sub [2, 1, 0] rfl (B4  FU (0 : Int32) (0 : Int32) h)
def T_X5_lastEnd : List (Nat × ClassFile.Instr × Nat) := [(0, .iconst 0, 1), (1, .istore_n 1, 1), (2, .iconst 0, 1), (3, .istore_n 2, 1), (4, .iload_n 2, 1), (5, .bipush 96, 2), (7, .if_icmp .ge 36, 3), (10, .aload_n 0, 1), (11, .iload_n 2, 1), (12, .invokevirtual 84, 3), (15, .ifCond .eq 20, 3), (18, .aload_n 0, 1), (19, .iload_n 2, 1), (20, .invokevirtual 61, 3), (23, .iload_n 1, 1), (24, .if_icmp .le 11, 3), (27, .aload_n 0, 1), (28, .iload_n 2, 1), (29, .invokevirtual 61, 3), (32, .goto 4, 3), (35, .iload_n 1, 1), (36, .istore_n 1, 1), (37, .iinc 2 1, 3), (40, .goto (-36), 3), (43, .iload_n 1, 1), (44, .ireturn, 1)]
theorem D_X5_lastEnd : ∀ q ∈ T_X5_lastEnd, decode cX5_lastEnd q.1 = .ok q.2 := by decide +kernel
theorem V_X5_lastEnd : Vy yX5_lastEnd cX5_lastEnd 3 (some .int) 0 := ⟨k490, k415, by decide +kernel⟩
theorem i_X5_lastEnd : Cond.instanceMethod yX5_lastEnd ∈ TB := k598
theorem s_X5_lastEnd : Cond.selects yX5_lastEnd.cls yX5_lastEnd yX5_lastEnd ∈ TB := k599
noncomputable def f_X5_lastEnd_b4 (vM : JV) (r4 : Int32 → Int32 → Option (Int32)) (x1_4 : Int32) (x2_4 : Int32) : Option (Int32) :=
  (if (96 : Int32) ≤ x2_4 then some x1_4 else (f_X5_isSitting vM x2_4).bind (fun q2 => (if q2 = 0 then r4 x1_4 (x2_4 + (1 : Int32)) else (f_X5_ends vM x2_4).bind (fun q4 => (if q4 ≤ x1_4 then r4 x1_4 (x2_4 + (1 : Int32)) else (f_X5_ends vM x2_4).bind (fun q6 => r4 q6 (x2_4 + (1 : Int32))))))))
noncomputable def f_X5_lastEnd_L4 (vM : JV) (n : Nat) (x1_4 : Int32) (x2_4 : Int32) : Option (Int32) :=
  lp (fun (rec : Int32 × Int32 → Option (Int32)) a => f_X5_lastEnd_b4 vM (fun x1_4 x2_4 => rec (x1_4, x2_4)) a.1 a.2) n (x1_4, x2_4)
noncomputable def f_X5_lastEnd (vM : JV)  : Option (Int32) :=
  f_X5_lastEnd_L4 vM  FU (0 : Int32) (0 : Int32)
set_option maxRecDepth 100000 in
set_option maxHeartbeats 4000000 in
theorem c_X5_lastEnd {l : Launch} {G : JG} (aM : Nat → Nat) (vM : JV)  {Rz : Int32} (h : f_X5_lastEnd vM = some Rz) : JM l G yX5_lastEnd cX5_lastEnd 3 (some .int) 3 62 [.ref (aM 0)] (wMod G aM (vM 0) (vM 1) (vM 2) (vM 3) (vM 4) (vM 5) (vM 6) (vM 7) (vM 8) (vM 9 0) (vM 10 0) (vM 11 0) (vM 12 0) (vM 13 0)) (wMod G aM (vM 0) (vM 1) (vM 2) (vM 3) (vM 4) (vM 5) (vM 6) (vM 7) (vM 8) (vM 9 0) (vM 10 0) (vM 11 0) (vM 12 0) (vM 13 0)) (some (.int Rz)) := by
  refine JM.of (own := RX5) (tb := T_X5_lastEnd) (by decide) (Nat.le_of_ble_eq_true rfl) D_X5_lastEnd rfl (fun X C => ?_)
  refine J_sub (lv' := [(0, .ref (aM 0))]) [0] rfl ?_
  have B4 : ∀ (n4 : Nat) (x1_4 : Int32) (x2_4 : Int32), f_X5_lastEnd_L4 vM n4 x1_4 x2_4 = some Rz → J l { frames := 3, cells := 0, slots := 0, locals := 62 } G 3 X (QM X G 0 0 (some (.int Rz)) (wMod G aM (vM 0) (vM 1) (vM 2) (vM 3) (vM 4) (vM 5) (vM 6) (vM 7) (vM 8) (vM 9 0) (vM 10 0) (vM 11 0) (vM 12 0) (vM 13 0))) 0 0 4 [(0, .ref (aM 0)), (1, .int x1_4), (2, .int x2_4)] [] (wMod G aM (vM 0) (vM 1) (vM 2) (vM 3) (vM 4) (vM 5) (vM 6) (vM 7) (vM 8) (vM 9 0) (vM 10 0) (vM 11 0) (vM 12 0) (vM 13 0)) := by
    intro  n4
    induction n4 with
    | zero =>
      intro x1_4 x2_4 h
      exact (no_none rfl h).elim
    | succ n4 ih4 =>
      intro x1_4 x2_4 h
      replace h : f_X5_lastEnd_b4 vM (fun x1_4 x2_4 => f_X5_lastEnd_L4 vM n4 x1_4 x2_4) x1_4 x2_4 = some Rz := h
      unfold f_X5_lastEnd_b4 at h
      refine J_iload_n (pc := 4) C 4 rfl 2 rfl rfl ?_
      refine J_bipush (pc := 5) (v := (96 : Int32)) C 5 rfl rfl ?_
      refine J_icmp_ge (pc := 7) (tgt := 43) C 6 rfl rfl (fun c1 => ?_) (fun c1 => ?_)
      · rw [if_pos c1] at h
        refine J_iload_n (pc := 43) C 24 rfl 1 rfl rfl ?_
        cases h
        exact J_iret (pc := 44) C 25 rfl
      · rw [if_neg c1] at h
        refine J_aload_n (pc := 10) C 7 rfl 0 rfl rfl ?_
        refine J_iload_n (pc := 11) C 8 rfl 2 rfl rfl ?_
        obtain ⟨q2, hq2, h⟩ := bnd h
        refine J_callV (pc := 12) (st2 := []) (st3 := [.int q2]) (ws2 := (wMod G aM (vM 0) (vM 1) (vM 2) (vM 3) (vM 4) (vM 5) (vM 6) (vM 7) (vM 8) (vM 9 0) (vM 10 0) (vM 11 0) (vM 12 0) (vM 13 0))) C 9 rfl (c_X5_isSitting aM vM x2_4 hq2) V_X5_isSitting k465 i_X5_isSitting s_X5_isSitting rfl rfl ⟨Nat.le_of_ble_eq_true rfl, Nat.le_of_ble_eq_true rfl⟩ (Nat.le_of_ble_eq_true rfl) ⟨Nat.le_refl _, Nat.le_refl _⟩ 0 5 rfl rfl rfl (isC := [0, 1, 2, 3, 4, 5, 6, 7, 8, 9]) (isR := []) (N := 10) ⟨rfl, by decide +kernel, rfl, by decide +kernel, rfl, trivial⟩ rfl ?_
        refine J_if_eq (pc := 15) (tgt := 35) C 10 rfl rfl (fun c3 => ?_) (fun c3 => ?_)
        · rw [if_pos c3] at h
          refine J_iload_n (pc := 35) C 20 rfl 1 rfl rfl ?_
          refine J_istore_n (pc := 36) (lv' := [(1, .int x1_4), (0, .ref (aM 0)), (2, .int x2_4)]) C 21 rfl rfl (by decide) rfl ?_
          refine J_iinc (pc := 37) (v := (x2_4 + (1 : Int32))) (lv' := [(2, .int (x2_4 + (1 : Int32))), (1, .int x1_4), (0, .ref (aM 0))]) C 22 rfl 2 rfl rfl (by decide) rfl ?_
          refine J_goto (pc := 40) (tgt := 4) C 23 rfl rfl ?_
          exact J_sub [2, 1, 0] rfl (ih4 x1_4 (x2_4 + (1 : Int32)) h)
        · rw [if_neg c3] at h
          refine J_aload_n (pc := 18) C 11 rfl 0 rfl rfl ?_
          refine J_iload_n (pc := 19) C 12 rfl 2 rfl rfl ?_
          obtain ⟨q4, hq4, h⟩ := bnd h
          refine J_callV (pc := 20) (st2 := []) (st3 := [.int q4]) (ws2 := (wMod G aM (vM 0) (vM 1) (vM 2) (vM 3) (vM 4) (vM 5) (vM 6) (vM 7) (vM 8) (vM 9 0) (vM 10 0) (vM 11 0) (vM 12 0) (vM 13 0))) C 13 rfl (c_X5_ends aM vM x2_4 hq4) V_X5_ends k438 i_X5_ends s_X5_ends rfl rfl ⟨Nat.le_of_ble_eq_true rfl, Nat.le_of_ble_eq_true rfl⟩ (Nat.le_of_ble_eq_true rfl) ⟨Nat.le_refl _, Nat.le_refl _⟩ 0 5 rfl rfl rfl (isC := [0, 1, 2, 3, 4, 5, 6, 7, 8, 9]) (isR := []) (N := 10) ⟨rfl, by decide +kernel, rfl, by decide +kernel, rfl, trivial⟩ rfl ?_
          refine J_iload_n (pc := 23) C 14 rfl 1 rfl rfl ?_
          refine J_icmp_le (pc := 24) (tgt := 35) C 15 rfl rfl (fun c5 => ?_) (fun c5 => ?_)
          · rw [if_pos c5] at h
            refine J_iload_n (pc := 35) C 20 rfl 1 rfl rfl ?_
            refine J_istore_n (pc := 36) (lv' := [(1, .int x1_4), (0, .ref (aM 0)), (2, .int x2_4)]) C 21 rfl rfl (by decide) rfl ?_
            refine J_iinc (pc := 37) (v := (x2_4 + (1 : Int32))) (lv' := [(2, .int (x2_4 + (1 : Int32))), (1, .int x1_4), (0, .ref (aM 0))]) C 22 rfl 2 rfl rfl (by decide) rfl ?_
            refine J_goto (pc := 40) (tgt := 4) C 23 rfl rfl ?_
            exact J_sub [2, 1, 0] rfl (ih4 x1_4 (x2_4 + (1 : Int32)) h)
          · rw [if_neg c5] at h
            refine J_aload_n (pc := 27) C 16 rfl 0 rfl rfl ?_
            refine J_iload_n (pc := 28) C 17 rfl 2 rfl rfl ?_
            obtain ⟨q6, hq6, h⟩ := bnd h
            refine J_callV (pc := 29) (st2 := []) (st3 := [.int q6]) (ws2 := (wMod G aM (vM 0) (vM 1) (vM 2) (vM 3) (vM 4) (vM 5) (vM 6) (vM 7) (vM 8) (vM 9 0) (vM 10 0) (vM 11 0) (vM 12 0) (vM 13 0))) C 18 rfl (c_X5_ends aM vM x2_4 hq6) V_X5_ends k438 i_X5_ends s_X5_ends rfl rfl ⟨Nat.le_of_ble_eq_true rfl, Nat.le_of_ble_eq_true rfl⟩ (Nat.le_of_ble_eq_true rfl) ⟨Nat.le_refl _, Nat.le_refl _⟩ 0 5 rfl rfl rfl (isC := [0, 1, 2, 3, 4, 5, 6, 7, 8, 9]) (isR := []) (N := 10) ⟨rfl, by decide +kernel, rfl, by decide +kernel, rfl, trivial⟩ rfl ?_
            refine J_goto (pc := 32) (tgt := 36) C 19 rfl rfl ?_
            refine J_istore_n (pc := 36) (lv' := [(1, .int q6), (0, .ref (aM 0)), (2, .int x2_4)]) C 21 rfl rfl (by decide) rfl ?_
            refine J_iinc (pc := 37) (v := (x2_4 + (1 : Int32))) (lv' := [(2, .int (x2_4 + (1 : Int32))), (1, .int q6), (0, .ref (aM 0))]) C 22 rfl 2 rfl rfl (by decide) rfl ?_
            refine J_goto (pc := 40) (tgt := 4) C 23 rfl rfl ?_
            exact J_sub [2, 1, 0] rfl (ih4 q6 (x2_4 + (1 : Int32)) h)
  unfold f_X5_lastEnd at h
  refine J_iconst (pc := 0) (v := (0 : Int32)) C 0 rfl rfl ?_
  refine J_istore_n (pc := 1) (lv' := [(1, .int (0 : Int32)), (0, .ref (aM 0))]) C 1 rfl rfl (by decide) rfl ?_
  refine J_iconst (pc := 2) (v := (0 : Int32)) C 2 rfl rfl ?_
  refine J_istore_n (pc := 3) (lv' := [(2, .int (0 : Int32)), (1, .int (0 : Int32)), (0, .ref (aM 0))]) C 3 rfl rfl (by decide) rfl ?_
  exact J_sub [2, 1, 0] rfl (B4  FU (0 : Int32) (0 : Int32) h)
def T_X5_set : List (Nat × ClassFile.Instr × Nat) := [(0, .iload_n 1, 1), (1, .ifCond .ne 12, 3), (4, .iload_n 2, 1), (5, .iconst 0, 1), (6, .iconst 1, 1), (7, .invokestatic 39, 3), (10, .goto 38, 3), (13, .iload_n 1, 1), (14, .iconst 1, 1), (15, .if_icmp .ne 13, 3), (18, .iload_n 2, 1), (19, .iconst 0, 1), (20, .bipush 6, 2), (22, .invokestatic 39, 3), (25, .goto 23, 3), (28, .iload_n 1, 1), (29, .iconst 2, 1), (30, .if_icmp .ne 17, 3), (33, .iload_n 2, 1), (34, .iconst 0, 1), (35, .bipush 60, 2), (37, .invokestatic 39, 3), (40, .ifCond .eq 7, 3), (43, .iconst 1, 1), (44, .goto 4, 3), (47, .iconst 0, 1), (48, .istore_n 3, 1), (49, .iload_n 3, 1), (50, .ifCond .ne 6, 3), (53, .bipush (-2), 2), (55, .ireturn, 1), (56, .aload_n 0, 1), (57, .invokevirtual 106, 3), (60, .aload_n 0, 1), (61, .getfield 7, 3), (64, .iload_n 1, 1), (65, .iaload, 1), (66, .istore 4, 2), (68, .aload_n 0, 1), (69, .getfield 7, 3), (72, .iload_n 1, 1), (73, .iload_n 2, 1), (74, .iastore, 1), (75, .aload_n 0, 1), (76, .iload 4, 2), (78, .invokevirtual 109, 3), (81, .ireturn, 1)]
theorem D_X5_set : ∀ q ∈ T_X5_set, decode cX5_set q.1 = .ok q.2 := by decide +kernel
theorem V_X5_set : Vy yX5_set cX5_set 5 (some .int) 2 := ⟨k491, k415, by decide +kernel⟩
theorem i_X5_set : Cond.instanceMethod yX5_set ∈ TB := k639
theorem s_X5_set : Cond.selects yX5_set.cls yX5_set yX5_set ∈ TB := k640
noncomputable def f_X5_set_K48  (vM_48 : JV) (x1_48 : Int32) (x2_48 : Int32) (y0_48 : Int32) : Option (Int32 × JV) :=
  (if y0_48 = 0 then some ((-2 : Int32), vM_48) else (f_X5_hold vM_48).bind (fun q5 => gd (inb x1_48 76) (gd (inb x1_48 76) ((f_X5_recorded (up2 q5 0 (Int32.toNatClampNeg x1_48) x2_48) ((q5 0) (Int32.toNatClampNeg x1_48))).bind (fun q8 => some ((q8.1), (q8.2)))))))
noncomputable def f_X5_set_K47  (vM_47 : JV) (x1_47 : Int32) (x2_47 : Int32) : Option (Int32 × JV) :=
  f_X5_set_K48  vM_47 x1_47 x2_47 (0 : Int32)
noncomputable def f_X5_set (vM : JV) (x1 : Int32) (x2 : Int32) : Option (Int32 × JV) :=
  (if x1 = 0 then (f_X5_in x2 (0 : Int32) (1 : Int32)).bind (fun q12 => f_X5_set_K48  vM x1 x2 q12) else (if x1 = (1 : Int32) then (f_X5_in x2 (0 : Int32) (6 : Int32)).bind (fun q11 => f_X5_set_K48  vM x1 x2 q11) else (if x1 = (2 : Int32) then (f_X5_in x2 (0 : Int32) (60 : Int32)).bind (fun q9 => (if q9 = 0 then f_X5_set_K47  vM x1 x2 else f_X5_set_K48  vM x1 x2 (1 : Int32))) else f_X5_set_K47  vM x1 x2)))
set_option maxRecDepth 100000 in
set_option maxHeartbeats 4000000 in
theorem c_X5_set {l : Launch} {G : JG} (aM : Nat → Nat) (vM : JV) (x1 : Int32) (x2 : Int32) {Rz : Int32 × JV} (h : f_X5_set vM x1 x2 = some Rz) : JM l G yX5_set cX5_set 5 (some .int) 1 22 [.ref (aM 0), .int x1, .int x2] (wMod G aM (vM 0) (vM 1) (vM 2) (vM 3) (vM 4) (vM 5) (vM 6) (vM 7) (vM 8) (vM 9 0) (vM 10 0) (vM 11 0) (vM 12 0) (vM 13 0)) (wMod G aM ((Rz.2) 0) ((Rz.2) 1) ((Rz.2) 2) ((Rz.2) 3) ((Rz.2) 4) ((Rz.2) 5) ((Rz.2) 6) ((Rz.2) 7) ((Rz.2) 8) ((Rz.2) 9 0) ((Rz.2) 10 0) ((Rz.2) 11 0) ((Rz.2) 12 0) ((Rz.2) 13 0)) (some (.int (Rz.1))) := by
  refine JM.of (own := RX5) (tb := T_X5_set) (by decide) (Nat.le_of_ble_eq_true rfl) D_X5_set rfl (fun X C => ?_)
  refine J_sub (lv' := [(0, .ref (aM 0)), (1, .int x1), (2, .int x2)]) [0, 1, 2] rfl ?_
  have B48 : ∀ (vM_48 : JV) (x1_48 : Int32) (x2_48 : Int32) (y0_48 : Int32), f_X5_set_K48  vM_48 x1_48 x2_48 y0_48 = some Rz → J l { frames := 1, cells := 0, slots := 0, locals := 22 } G 5 X (QM X G 0 0 (some (.int (Rz.1))) (wMod G aM ((Rz.2) 0) ((Rz.2) 1) ((Rz.2) 2) ((Rz.2) 3) ((Rz.2) 4) ((Rz.2) 5) ((Rz.2) 6) ((Rz.2) 7) ((Rz.2) 8) ((Rz.2) 9 0) ((Rz.2) 10 0) ((Rz.2) 11 0) ((Rz.2) 12 0) ((Rz.2) 13 0))) 0 0 48 [(0, .ref (aM 0)), (1, .int x1_48), (2, .int x2_48)] [.int y0_48] (wMod G aM (vM_48 0) (vM_48 1) (vM_48 2) (vM_48 3) (vM_48 4) (vM_48 5) (vM_48 6) (vM_48 7) (vM_48 8) (vM_48 9 0) (vM_48 10 0) (vM_48 11 0) (vM_48 12 0) (vM_48 13 0)) := by
    intro vM_48 x1_48 x2_48 y0_48 h
    unfold f_X5_set_K48 at h
    refine J_istore_n (pc := 48) (lv' := [(3, .int y0_48), (0, .ref (aM 0)), (1, .int x1_48), (2, .int x2_48)]) C 26 rfl rfl (by decide) rfl ?_
    refine J_iload_n (pc := 49) C 27 rfl 0 rfl rfl ?_
    refine J_if_ne (pc := 50) (tgt := 56) C 28 rfl rfl (fun c4 => ?_) (fun c4 => ?_)
    · rw [if_neg c4] at h
      refine J_aload_n (pc := 56) C 31 rfl 1 rfl rfl ?_
      obtain ⟨q5, hq5, h⟩ := bnd h
      refine J_callV (pc := 57) (st2 := []) (st3 := []) (ws2 := (wMod G aM (q5 0) (q5 1) (q5 2) (q5 3) (q5 4) (q5 5) (q5 6) (q5 7) (q5 8) (q5 9 0) (q5 10 0) (q5 11 0) (q5 12 0) (q5 13 0))) C 32 rfl (c_X5_hold aM vM_48 hq5) V_X5_hold k492 i_X5_hold s_X5_hold rfl rfl ⟨Nat.le_of_ble_eq_true rfl, Nat.le_of_ble_eq_true rfl⟩ (Nat.le_of_ble_eq_true rfl) ⟨Nat.le_refl _, Nat.le_refl _⟩ 0 5 rfl rfl rfl (isC := [0, 1, 2, 3, 4, 5, 6, 7, 8, 9]) (isR := []) (N := 10) ⟨rfl, by decide +kernel, rfl, by decide +kernel, rfl, trivial⟩ rfl ?_
      refine J_aload_n (pc := 60) C 33 rfl 1 rfl rfl ?_
      refine J_get (pc := 61) (v := .ref (aM 1)) C 34 rfl TB_l5 rfl 0 0 rfl (by decide) k399 rfl rfl ?_
      refine J_iload_n (pc := 64) C 35 rfl 2 rfl rfl ?_
      obtain ⟨g6, h⟩ := gd_some h
      refine J_iald (pc := 65) (f := (q5 0)) (v := ((q5 0) (Int32.toNatClampNeg x1_48))) C 36 rfl 1 rfl g6 rfl ?_
      refine J_istore (pc := 66) (lv' := [(4, .int ((q5 0) (Int32.toNatClampNeg x1_48))), (3, .int y0_48), (0, .ref (aM 0)), (1, .int x1_48), (2, .int x2_48)]) C 37 rfl (by decide) rfl ?_
      refine J_aload_n (pc := 68) C 38 rfl 2 rfl rfl ?_
      refine J_get (pc := 69) (v := .ref (aM 1)) C 39 rfl TB_l5 rfl 0 0 rfl (by decide) k399 rfl rfl ?_
      refine J_iload_n (pc := 72) C 40 rfl 3 rfl rfl ?_
      refine J_iload_n (pc := 73) C 41 rfl 4 rfl rfl ?_
      obtain ⟨g7, h⟩ := gd_some h
      refine J_iast (pc := 74) (f := (q5 0)) (m := (Int32.toNatClampNeg x1_48)) C 42 (fun mm vv => (wMod G aM (upd (q5 0) mm vv) (q5 1) (q5 2) (q5 3) (q5 4) (q5 5) (q5 6) (q5 7) (q5 8) (q5 9 0) (q5 10 0) (q5 11 0) (q5 12 0) (q5 13 0))) rfl 1 rfl g7 rfl (fun _ _ => rfl) ?_
      refine J_aload_n (pc := 75) C 43 rfl 2 rfl rfl ?_
      refine J_iload (pc := 76) C 44 rfl 0 rfl ?_
      obtain ⟨q8, hq8, h⟩ := bnd h
      refine J_callV (pc := 78) (st2 := []) (st3 := [.int (q8.1)]) (ws2 := (wMod G aM ((q8.2) 0) ((q8.2) 1) ((q8.2) 2) ((q8.2) 3) ((q8.2) 4) ((q8.2) 5) ((q8.2) 6) ((q8.2) 7) ((q8.2) 8) ((q8.2) 9 0) ((q8.2) 10 0) ((q8.2) 11 0) ((q8.2) 12 0) ((q8.2) 13 0))) C 45 rfl (c_X5_recorded aM (up2 q5 0 (Int32.toNatClampNeg x1_48) x2_48) ((q5 0) (Int32.toNatClampNeg x1_48)) hq8) V_X5_recorded k495 i_X5_recorded s_X5_recorded rfl rfl ⟨Nat.le_of_ble_eq_true rfl, Nat.le_of_ble_eq_true rfl⟩ (Nat.le_of_ble_eq_true rfl) ⟨Nat.le_refl _, Nat.le_refl _⟩ 0 5 rfl rfl rfl (isC := [0, 1, 2, 3, 4, 5, 6, 7, 8, 9]) (isR := []) (N := 10) ⟨rfl, by decide +kernel, rfl, by decide +kernel, rfl, trivial⟩ rfl ?_
      cases h
      exact J_iret (pc := 81) C 46 rfl
    · rw [if_pos c4] at h
      refine J_bipush (pc := 53) (v := (-2 : Int32)) C 29 rfl rfl ?_
      cases h
      exact J_iret (pc := 55) C 30 rfl
  have B47 : ∀ (vM_47 : JV) (x1_47 : Int32) (x2_47 : Int32), f_X5_set_K47  vM_47 x1_47 x2_47 = some Rz → J l { frames := 1, cells := 0, slots := 0, locals := 22 } G 5 X (QM X G 0 0 (some (.int (Rz.1))) (wMod G aM ((Rz.2) 0) ((Rz.2) 1) ((Rz.2) 2) ((Rz.2) 3) ((Rz.2) 4) ((Rz.2) 5) ((Rz.2) 6) ((Rz.2) 7) ((Rz.2) 8) ((Rz.2) 9 0) ((Rz.2) 10 0) ((Rz.2) 11 0) ((Rz.2) 12 0) ((Rz.2) 13 0))) 0 0 47 [(0, .ref (aM 0)), (1, .int x1_47), (2, .int x2_47)] [] (wMod G aM (vM_47 0) (vM_47 1) (vM_47 2) (vM_47 3) (vM_47 4) (vM_47 5) (vM_47 6) (vM_47 7) (vM_47 8) (vM_47 9 0) (vM_47 10 0) (vM_47 11 0) (vM_47 12 0) (vM_47 13 0)) := by
    intro vM_47 x1_47 x2_47 h
    unfold f_X5_set_K47 at h
    refine J_iconst (pc := 47) (v := (0 : Int32)) C 25 rfl rfl ?_
    exact J_sub [0, 1, 2] rfl (B48 vM_47 x1_47 x2_47 (0 : Int32) h)
  unfold f_X5_set at h
  refine J_iload_n (pc := 0) C 0 rfl 1 rfl rfl ?_
  refine J_if_ne (pc := 1) (tgt := 13) C 1 rfl rfl (fun c1 => ?_) (fun c1 => ?_)
  · rw [if_neg c1] at h
    refine J_iload_n (pc := 13) C 7 rfl 1 rfl rfl ?_
    refine J_iconst (pc := 14) (v := (1 : Int32)) C 8 rfl rfl ?_
    refine J_icmp_ne (pc := 15) (tgt := 28) C 9 rfl rfl (fun c2 => ?_) (fun c2 => ?_)
    · rw [if_neg c2] at h
      refine J_iload_n (pc := 28) C 15 rfl 1 rfl rfl ?_
      refine J_iconst (pc := 29) (v := (2 : Int32)) C 16 rfl rfl ?_
      refine J_icmp_ne (pc := 30) (tgt := 47) C 17 rfl rfl (fun c3 => ?_) (fun c3 => ?_)
      · rw [if_neg c3] at h
        exact J_sub [0, 1, 2] rfl (B47 vM x1 x2 h)
      · rw [if_pos c3] at h
        refine J_iload_n (pc := 33) C 18 rfl 2 rfl rfl ?_
        refine J_iconst (pc := 34) (v := (0 : Int32)) C 19 rfl rfl ?_
        refine J_bipush (pc := 35) (v := (60 : Int32)) C 20 rfl rfl ?_
        obtain ⟨q9, hq9, h⟩ := bnd h
        refine J_callS (pc := 37) (st2 := []) (st3 := [.int q9]) (ws2 := (wMod G aM (vM 0) (vM 1) (vM 2) (vM 3) (vM 4) (vM 5) (vM 6) (vM 7) (vM 8) (vM 9 0) (vM 10 0) (vM 11 0) (vM 12 0) (vM 13 0))) C 21 rfl (c_X5_in x2 (0 : Int32) (60 : Int32) hq9) V_X5_in k413 t_X5_in rfl rfl ⟨Nat.le_of_ble_eq_true rfl, Nat.le_of_ble_eq_true rfl⟩ (Nat.le_of_ble_eq_true rfl) ⟨Nat.le_refl _, Nat.le_refl _⟩ (isC := []) (isR := [0, 1, 2, 3, 4, 5, 6, 7, 8, 9]) (N := 10) ⟨rfl, by decide +kernel, rfl, by decide +kernel, rfl, ⟨⟨_, rfl, rfl⟩, ⟨⟨_, rfl, rfl⟩, ⟨⟨_, rfl, rfl⟩, ⟨⟨_, rfl, rfl⟩, ⟨⟨_, rfl, rfl⟩, ⟨⟨_, rfl, rfl⟩, ⟨⟨_, rfl, rfl⟩, ⟨⟨_, rfl, rfl⟩, ⟨⟨_, rfl, rfl⟩, ⟨⟨_, rfl, rfl⟩, trivial⟩⟩⟩⟩⟩⟩⟩⟩⟩⟩⟩ rfl ?_
        refine J_if_eq (pc := 40) (tgt := 47) C 22 rfl rfl (fun c10 => ?_) (fun c10 => ?_)
        · rw [if_pos c10] at h
          exact J_sub [0, 1, 2] rfl (B47 vM x1 x2 h)
        · rw [if_neg c10] at h
          refine J_iconst (pc := 43) (v := (1 : Int32)) C 23 rfl rfl ?_
          refine J_goto (pc := 44) (tgt := 48) C 24 rfl rfl ?_
          exact J_sub [0, 1, 2] rfl (B48 vM x1 x2 (1 : Int32) h)
    · rw [if_pos c2] at h
      refine J_iload_n (pc := 18) C 10 rfl 2 rfl rfl ?_
      refine J_iconst (pc := 19) (v := (0 : Int32)) C 11 rfl rfl ?_
      refine J_bipush (pc := 20) (v := (6 : Int32)) C 12 rfl rfl ?_
      obtain ⟨q11, hq11, h⟩ := bnd h
      refine J_callS (pc := 22) (st2 := []) (st3 := [.int q11]) (ws2 := (wMod G aM (vM 0) (vM 1) (vM 2) (vM 3) (vM 4) (vM 5) (vM 6) (vM 7) (vM 8) (vM 9 0) (vM 10 0) (vM 11 0) (vM 12 0) (vM 13 0))) C 13 rfl (c_X5_in x2 (0 : Int32) (6 : Int32) hq11) V_X5_in k413 t_X5_in rfl rfl ⟨Nat.le_of_ble_eq_true rfl, Nat.le_of_ble_eq_true rfl⟩ (Nat.le_of_ble_eq_true rfl) ⟨Nat.le_refl _, Nat.le_refl _⟩ (isC := []) (isR := [0, 1, 2, 3, 4, 5, 6, 7, 8, 9]) (N := 10) ⟨rfl, by decide +kernel, rfl, by decide +kernel, rfl, ⟨⟨_, rfl, rfl⟩, ⟨⟨_, rfl, rfl⟩, ⟨⟨_, rfl, rfl⟩, ⟨⟨_, rfl, rfl⟩, ⟨⟨_, rfl, rfl⟩, ⟨⟨_, rfl, rfl⟩, ⟨⟨_, rfl, rfl⟩, ⟨⟨_, rfl, rfl⟩, ⟨⟨_, rfl, rfl⟩, ⟨⟨_, rfl, rfl⟩, trivial⟩⟩⟩⟩⟩⟩⟩⟩⟩⟩⟩ rfl ?_
      refine J_goto (pc := 25) (tgt := 48) C 14 rfl rfl ?_
      exact J_sub [0, 1, 2] rfl (B48 vM x1 x2 q11 h)
  · rw [if_pos c1] at h
    refine J_iload_n (pc := 4) C 2 rfl 2 rfl rfl ?_
    refine J_iconst (pc := 5) (v := (0 : Int32)) C 3 rfl rfl ?_
    refine J_iconst (pc := 6) (v := (1 : Int32)) C 4 rfl rfl ?_
    obtain ⟨q12, hq12, h⟩ := bnd h
    refine J_callS (pc := 7) (st2 := []) (st3 := [.int q12]) (ws2 := (wMod G aM (vM 0) (vM 1) (vM 2) (vM 3) (vM 4) (vM 5) (vM 6) (vM 7) (vM 8) (vM 9 0) (vM 10 0) (vM 11 0) (vM 12 0) (vM 13 0))) C 5 rfl (c_X5_in x2 (0 : Int32) (1 : Int32) hq12) V_X5_in k413 t_X5_in rfl rfl ⟨Nat.le_of_ble_eq_true rfl, Nat.le_of_ble_eq_true rfl⟩ (Nat.le_of_ble_eq_true rfl) ⟨Nat.le_refl _, Nat.le_refl _⟩ (isC := []) (isR := [0, 1, 2, 3, 4, 5, 6, 7, 8, 9]) (N := 10) ⟨rfl, by decide +kernel, rfl, by decide +kernel, rfl, ⟨⟨_, rfl, rfl⟩, ⟨⟨_, rfl, rfl⟩, ⟨⟨_, rfl, rfl⟩, ⟨⟨_, rfl, rfl⟩, ⟨⟨_, rfl, rfl⟩, ⟨⟨_, rfl, rfl⟩, ⟨⟨_, rfl, rfl⟩, ⟨⟨_, rfl, rfl⟩, ⟨⟨_, rfl, rfl⟩, ⟨⟨_, rfl, rfl⟩, trivial⟩⟩⟩⟩⟩⟩⟩⟩⟩⟩⟩ rfl ?_
    refine J_goto (pc := 10) (tgt := 48) C 6 rfl rfl ?_
    exact J_sub [0, 1, 2] rfl (B48 vM x1 x2 q12 h)
def T_X5_paper : List (Nat × ClassFile.Instr × Nat) := [(0, .iload_n 1, 1), (1, .invokestatic 112, 3), (4, .ifCond .ne 5, 3), (7, .iconst (-1), 1), (8, .ireturn, 1), (9, .iload_n 2, 1), (10, .iconst 0, 1), (11, .bipush 19, 2), (13, .invokestatic 39, 3), (16, .ifCond .eq 15, 3), (19, .iload_n 3, 1), (20, .bipush 30, 2), (22, .sipush 180, 3), (25, .invokestatic 39, 3), (28, .ifCond .ne 6, 3), (31, .bipush (-2), 2), (33, .ireturn, 1), (34, .aload_n 0, 1), (35, .invokevirtual 106, 3), (38, .aload_n 0, 1), (39, .getfield 7, 3), (42, .iconst 4, 1), (43, .iconst 2, 1), (44, .iload_n 1, 1), (45, .imul, 1), (46, .iadd, 1), (47, .iaload, 1), (48, .istore 4, 2), (50, .aload_n 0, 1), (51, .getfield 7, 3), (54, .iconst 4, 1), (55, .iconst 2, 1), (56, .iload_n 1, 1), (57, .imul, 1), (58, .iadd, 1), (59, .iload_n 2, 1), (60, .iastore, 1), (61, .aload_n 0, 1), (62, .getfield 7, 3), (65, .iconst 4, 1), (66, .iconst 2, 1), (67, .iload_n 1, 1), (68, .imul, 1), (69, .iadd, 1), (70, .iconst 1, 1), (71, .iadd, 1), (72, .iload_n 3, 1), (73, .iastore, 1), (74, .aload_n 0, 1), (75, .iload 4, 2), (77, .invokevirtual 109, 3), (80, .ireturn, 1)]
theorem D_X5_paper : ∀ q ∈ T_X5_paper, decode cX5_paper q.1 = .ok q.2 := by decide +kernel
theorem V_X5_paper : Vy yX5_paper cX5_paper 5 (some .int) 3 := ⟨k498, k415, by decide +kernel⟩
theorem i_X5_paper : Cond.instanceMethod yX5_paper ∈ TB := k645
theorem s_X5_paper : Cond.selects yX5_paper.cls yX5_paper yX5_paper ∈ TB := k646
noncomputable def f_X5_paper (vM : JV) (x1 : Int32) (x2 : Int32) (x3 : Int32) : Option (Int32 × JV) :=
  (f_X5_isPaper x1).bind (fun q1 => (if q1 = 0 then some ((-1 : Int32), vM) else (f_X5_in x2 (0 : Int32) (19 : Int32)).bind (fun q3 => (if q3 = 0 then some ((-2 : Int32), vM) else (f_X5_in x3 (30 : Int32) (180 : Int32)).bind (fun q5 => (if q5 = 0 then some ((-2 : Int32), vM) else (f_X5_hold vM).bind (fun q7 => gd (inb ((4 : Int32) + ((2 : Int32) * x1)) 76) (gd (inb ((4 : Int32) + ((2 : Int32) * x1)) 76) (gd (inb (((4 : Int32) + ((2 : Int32) * x1)) + (1 : Int32)) 76) ((f_X5_recorded (up2 (up2 q7 0 (Int32.toNatClampNeg ((4 : Int32) + ((2 : Int32) * x1))) x2) 0 (Int32.toNatClampNeg (((4 : Int32) + ((2 : Int32) * x1)) + (1 : Int32))) x3) ((q7 0) (Int32.toNatClampNeg ((4 : Int32) + ((2 : Int32) * x1))))).bind (fun q11 => some ((q11.1), (q11.2)))))))))))))
set_option maxRecDepth 100000 in
set_option maxHeartbeats 4000000 in
theorem c_X5_paper {l : Launch} {G : JG} (aM : Nat → Nat) (vM : JV) (x1 : Int32) (x2 : Int32) (x3 : Int32) {Rz : Int32 × JV} (h : f_X5_paper vM x1 x2 x3 = some Rz) : JM l G yX5_paper cX5_paper 5 (some .int) 2 42 [.ref (aM 0), .int x1, .int x2, .int x3] (wMod G aM (vM 0) (vM 1) (vM 2) (vM 3) (vM 4) (vM 5) (vM 6) (vM 7) (vM 8) (vM 9 0) (vM 10 0) (vM 11 0) (vM 12 0) (vM 13 0)) (wMod G aM ((Rz.2) 0) ((Rz.2) 1) ((Rz.2) 2) ((Rz.2) 3) ((Rz.2) 4) ((Rz.2) 5) ((Rz.2) 6) ((Rz.2) 7) ((Rz.2) 8) ((Rz.2) 9 0) ((Rz.2) 10 0) ((Rz.2) 11 0) ((Rz.2) 12 0) ((Rz.2) 13 0)) (some (.int (Rz.1))) := by
  refine JM.of (own := RX5) (tb := T_X5_paper) (by decide) (Nat.le_of_ble_eq_true rfl) D_X5_paper rfl (fun X C => ?_)
  refine J_sub (lv' := [(0, .ref (aM 0)), (1, .int x1), (2, .int x2), (3, .int x3)]) [0, 1, 2, 3] rfl ?_
  unfold f_X5_paper at h
  refine J_iload_n (pc := 0) C 0 rfl 1 rfl rfl ?_
  obtain ⟨q1, hq1, h⟩ := bnd h
  refine J_callS (pc := 1) (st2 := []) (st3 := [.int q1]) (ws2 := (wMod G aM (vM 0) (vM 1) (vM 2) (vM 3) (vM 4) (vM 5) (vM 6) (vM 7) (vM 8) (vM 9 0) (vM 10 0) (vM 11 0) (vM 12 0) (vM 13 0))) C 1 rfl (c_X5_isPaper x1 hq1) V_X5_isPaper k499 t_X5_isPaper rfl rfl ⟨Nat.le_of_ble_eq_true rfl, Nat.le_of_ble_eq_true rfl⟩ (Nat.le_of_ble_eq_true rfl) ⟨Nat.le_refl _, Nat.le_refl _⟩ (isC := []) (isR := [0, 1, 2, 3, 4, 5, 6, 7, 8, 9]) (N := 10) ⟨rfl, by decide +kernel, rfl, by decide +kernel, rfl, ⟨⟨_, rfl, rfl⟩, ⟨⟨_, rfl, rfl⟩, ⟨⟨_, rfl, rfl⟩, ⟨⟨_, rfl, rfl⟩, ⟨⟨_, rfl, rfl⟩, ⟨⟨_, rfl, rfl⟩, ⟨⟨_, rfl, rfl⟩, ⟨⟨_, rfl, rfl⟩, ⟨⟨_, rfl, rfl⟩, ⟨⟨_, rfl, rfl⟩, trivial⟩⟩⟩⟩⟩⟩⟩⟩⟩⟩⟩ rfl ?_
  refine J_if_ne (pc := 4) (tgt := 9) C 2 rfl rfl (fun c2 => ?_) (fun c2 => ?_)
  · rw [if_neg c2] at h
    refine J_iload_n (pc := 9) C 5 rfl 2 rfl rfl ?_
    refine J_iconst (pc := 10) (v := (0 : Int32)) C 6 rfl rfl ?_
    refine J_bipush (pc := 11) (v := (19 : Int32)) C 7 rfl rfl ?_
    obtain ⟨q3, hq3, h⟩ := bnd h
    refine J_callS (pc := 13) (st2 := []) (st3 := [.int q3]) (ws2 := (wMod G aM (vM 0) (vM 1) (vM 2) (vM 3) (vM 4) (vM 5) (vM 6) (vM 7) (vM 8) (vM 9 0) (vM 10 0) (vM 11 0) (vM 12 0) (vM 13 0))) C 8 rfl (c_X5_in x2 (0 : Int32) (19 : Int32) hq3) V_X5_in k413 t_X5_in rfl rfl ⟨Nat.le_of_ble_eq_true rfl, Nat.le_of_ble_eq_true rfl⟩ (Nat.le_of_ble_eq_true rfl) ⟨Nat.le_refl _, Nat.le_refl _⟩ (isC := []) (isR := [0, 1, 2, 3, 4, 5, 6, 7, 8, 9]) (N := 10) ⟨rfl, by decide +kernel, rfl, by decide +kernel, rfl, ⟨⟨_, rfl, rfl⟩, ⟨⟨_, rfl, rfl⟩, ⟨⟨_, rfl, rfl⟩, ⟨⟨_, rfl, rfl⟩, ⟨⟨_, rfl, rfl⟩, ⟨⟨_, rfl, rfl⟩, ⟨⟨_, rfl, rfl⟩, ⟨⟨_, rfl, rfl⟩, ⟨⟨_, rfl, rfl⟩, ⟨⟨_, rfl, rfl⟩, trivial⟩⟩⟩⟩⟩⟩⟩⟩⟩⟩⟩ rfl ?_
    refine J_if_eq (pc := 16) (tgt := 31) C 9 rfl rfl (fun c4 => ?_) (fun c4 => ?_)
    · rw [if_pos c4] at h
      refine J_bipush (pc := 31) (v := (-2 : Int32)) C 15 rfl rfl ?_
      cases h
      exact J_iret (pc := 33) C 16 rfl
    · rw [if_neg c4] at h
      refine J_iload_n (pc := 19) C 10 rfl 3 rfl rfl ?_
      refine J_bipush (pc := 20) (v := (30 : Int32)) C 11 rfl rfl ?_
      refine J_sipush (pc := 22) (v := (180 : Int32)) C 12 rfl rfl ?_
      obtain ⟨q5, hq5, h⟩ := bnd h
      refine J_callS (pc := 25) (st2 := []) (st3 := [.int q5]) (ws2 := (wMod G aM (vM 0) (vM 1) (vM 2) (vM 3) (vM 4) (vM 5) (vM 6) (vM 7) (vM 8) (vM 9 0) (vM 10 0) (vM 11 0) (vM 12 0) (vM 13 0))) C 13 rfl (c_X5_in x3 (30 : Int32) (180 : Int32) hq5) V_X5_in k413 t_X5_in rfl rfl ⟨Nat.le_of_ble_eq_true rfl, Nat.le_of_ble_eq_true rfl⟩ (Nat.le_of_ble_eq_true rfl) ⟨Nat.le_refl _, Nat.le_refl _⟩ (isC := []) (isR := [0, 1, 2, 3, 4, 5, 6, 7, 8, 9]) (N := 10) ⟨rfl, by decide +kernel, rfl, by decide +kernel, rfl, ⟨⟨_, rfl, rfl⟩, ⟨⟨_, rfl, rfl⟩, ⟨⟨_, rfl, rfl⟩, ⟨⟨_, rfl, rfl⟩, ⟨⟨_, rfl, rfl⟩, ⟨⟨_, rfl, rfl⟩, ⟨⟨_, rfl, rfl⟩, ⟨⟨_, rfl, rfl⟩, ⟨⟨_, rfl, rfl⟩, ⟨⟨_, rfl, rfl⟩, trivial⟩⟩⟩⟩⟩⟩⟩⟩⟩⟩⟩ rfl ?_
      refine J_if_ne (pc := 28) (tgt := 34) C 14 rfl rfl (fun c6 => ?_) (fun c6 => ?_)
      · rw [if_neg c6] at h
        refine J_aload_n (pc := 34) C 17 rfl 0 rfl rfl ?_
        obtain ⟨q7, hq7, h⟩ := bnd h
        refine J_callV (pc := 35) (st2 := []) (st3 := []) (ws2 := (wMod G aM (q7 0) (q7 1) (q7 2) (q7 3) (q7 4) (q7 5) (q7 6) (q7 7) (q7 8) (q7 9 0) (q7 10 0) (q7 11 0) (q7 12 0) (q7 13 0))) C 18 rfl (c_X5_hold aM vM hq7) V_X5_hold k492 i_X5_hold s_X5_hold rfl rfl ⟨Nat.le_of_ble_eq_true rfl, Nat.le_of_ble_eq_true rfl⟩ (Nat.le_of_ble_eq_true rfl) ⟨Nat.le_refl _, Nat.le_refl _⟩ 0 5 rfl rfl rfl (isC := [0, 1, 2, 3, 4, 5, 6, 7, 8, 9]) (isR := []) (N := 10) ⟨rfl, by decide +kernel, rfl, by decide +kernel, rfl, trivial⟩ rfl ?_
        refine J_aload_n (pc := 38) C 19 rfl 0 rfl rfl ?_
        refine J_get (pc := 39) (v := .ref (aM 1)) C 20 rfl TB_l5 rfl 0 0 rfl (by decide) k399 rfl rfl ?_
        refine J_iconst (pc := 42) (v := (4 : Int32)) C 21 rfl rfl ?_
        refine J_iconst (pc := 43) (v := (2 : Int32)) C 22 rfl rfl ?_
        refine J_iload_n (pc := 44) C 23 rfl 1 rfl rfl ?_
        refine J_imul (pc := 45) C 24 rfl  ?_
        refine J_iadd (pc := 46) C 25 rfl  ?_
        obtain ⟨g8, h⟩ := gd_some h
        refine J_iald (pc := 47) (f := (q7 0)) (v := ((q7 0) (Int32.toNatClampNeg ((4 : Int32) + ((2 : Int32) * x1))))) C 26 rfl 1 rfl g8 rfl ?_
        refine J_istore (pc := 48) (lv' := [(4, .int ((q7 0) (Int32.toNatClampNeg ((4 : Int32) + ((2 : Int32) * x1))))), (0, .ref (aM 0)), (1, .int x1), (2, .int x2), (3, .int x3)]) C 27 rfl (by decide) rfl ?_
        refine J_aload_n (pc := 50) C 28 rfl 1 rfl rfl ?_
        refine J_get (pc := 51) (v := .ref (aM 1)) C 29 rfl TB_l5 rfl 0 0 rfl (by decide) k399 rfl rfl ?_
        refine J_iconst (pc := 54) (v := (4 : Int32)) C 30 rfl rfl ?_
        refine J_iconst (pc := 55) (v := (2 : Int32)) C 31 rfl rfl ?_
        refine J_iload_n (pc := 56) C 32 rfl 2 rfl rfl ?_
        refine J_imul (pc := 57) C 33 rfl  ?_
        refine J_iadd (pc := 58) C 34 rfl  ?_
        refine J_iload_n (pc := 59) C 35 rfl 3 rfl rfl ?_
        obtain ⟨g9, h⟩ := gd_some h
        refine J_iast (pc := 60) (f := (q7 0)) (m := (Int32.toNatClampNeg ((4 : Int32) + ((2 : Int32) * x1)))) C 36 (fun mm vv => (wMod G aM (upd (q7 0) mm vv) (q7 1) (q7 2) (q7 3) (q7 4) (q7 5) (q7 6) (q7 7) (q7 8) (q7 9 0) (q7 10 0) (q7 11 0) (q7 12 0) (q7 13 0))) rfl 1 rfl g9 rfl (fun _ _ => rfl) ?_
        refine J_aload_n (pc := 61) C 37 rfl 1 rfl rfl ?_
        refine J_get (pc := 62) (v := .ref (aM 1)) C 38 rfl TB_l5 rfl 0 0 rfl (by decide) k399 rfl rfl ?_
        refine J_iconst (pc := 65) (v := (4 : Int32)) C 39 rfl rfl ?_
        refine J_iconst (pc := 66) (v := (2 : Int32)) C 40 rfl rfl ?_
        refine J_iload_n (pc := 67) C 41 rfl 2 rfl rfl ?_
        refine J_imul (pc := 68) C 42 rfl  ?_
        refine J_iadd (pc := 69) C 43 rfl  ?_
        refine J_iconst (pc := 70) (v := (1 : Int32)) C 44 rfl rfl ?_
        refine J_iadd (pc := 71) C 45 rfl  ?_
        refine J_iload_n (pc := 72) C 46 rfl 4 rfl rfl ?_
        obtain ⟨g10, h⟩ := gd_some h
        refine J_iast (pc := 73) (f := (upd (q7 0) (Int32.toNatClampNeg ((4 : Int32) + ((2 : Int32) * x1))) x2)) (m := (Int32.toNatClampNeg (((4 : Int32) + ((2 : Int32) * x1)) + (1 : Int32)))) C 47 (fun mm vv => (wMod G aM (upd (upd (q7 0) (Int32.toNatClampNeg ((4 : Int32) + ((2 : Int32) * x1))) x2) mm vv) (q7 1) (q7 2) (q7 3) (q7 4) (q7 5) (q7 6) (q7 7) (q7 8) (q7 9 0) (q7 10 0) (q7 11 0) (q7 12 0) (q7 13 0))) rfl 1 rfl g10 rfl (fun _ _ => rfl) ?_
        refine J_aload_n (pc := 74) C 48 rfl 1 rfl rfl ?_
        refine J_iload (pc := 75) C 49 rfl 0 rfl ?_
        obtain ⟨q11, hq11, h⟩ := bnd h
        refine J_callV (pc := 77) (st2 := []) (st3 := [.int (q11.1)]) (ws2 := (wMod G aM ((q11.2) 0) ((q11.2) 1) ((q11.2) 2) ((q11.2) 3) ((q11.2) 4) ((q11.2) 5) ((q11.2) 6) ((q11.2) 7) ((q11.2) 8) ((q11.2) 9 0) ((q11.2) 10 0) ((q11.2) 11 0) ((q11.2) 12 0) ((q11.2) 13 0))) C 50 rfl (c_X5_recorded aM (up2 (up2 q7 0 (Int32.toNatClampNeg ((4 : Int32) + ((2 : Int32) * x1))) x2) 0 (Int32.toNatClampNeg (((4 : Int32) + ((2 : Int32) * x1)) + (1 : Int32))) x3) ((q7 0) (Int32.toNatClampNeg ((4 : Int32) + ((2 : Int32) * x1)))) hq11) V_X5_recorded k495 i_X5_recorded s_X5_recorded rfl rfl ⟨Nat.le_of_ble_eq_true rfl, Nat.le_of_ble_eq_true rfl⟩ (Nat.le_of_ble_eq_true rfl) ⟨Nat.le_refl _, Nat.le_refl _⟩ 0 5 rfl rfl rfl (isC := [0, 1, 2, 3, 4, 5, 6, 7, 8, 9]) (isR := []) (N := 10) ⟨rfl, by decide +kernel, rfl, by decide +kernel, rfl, trivial⟩ rfl ?_
        cases h
        exact J_iret (pc := 80) C 51 rfl
      · rw [if_pos c6] at h
        refine J_bipush (pc := 31) (v := (-2 : Int32)) C 15 rfl rfl ?_
        cases h
        exact J_iret (pc := 33) C 16 rfl
  · rw [if_pos c2] at h
    refine J_iconst (pc := 7) (v := (-1 : Int32)) C 3 rfl rfl ?_
    cases h
    exact J_iret (pc := 8) C 4 rfl
def T_X5_puts : List (Nat × ClassFile.Instr × Nat) := [(0, .aload_n 0, 1), (1, .getfield 7, 3), (4, .iload_n 1, 1), (5, .invokestatic 51, 3), (8, .iconst 0, 1), (9, .iadd, 1), (10, .iload_n 2, 1), (11, .iastore, 1), (12, .aload_n 0, 1), (13, .getfield 7, 3), (16, .iload_n 1, 1), (17, .invokestatic 51, 3), (20, .iconst 1, 1), (21, .iadd, 1), (22, .iload_n 3, 1), (23, .iastore, 1), (24, .aload_n 0, 1), (25, .getfield 7, 3), (28, .iload_n 1, 1), (29, .invokestatic 51, 3), (32, .iconst 2, 1), (33, .iadd, 1), (34, .iload 4, 2), (36, .iastore, 1), (37, .return_, 1)]
theorem D_X5_puts : ∀ q ∈ T_X5_puts, decode cX5_puts q.1 = .ok q.2 := by decide +kernel
theorem V_X5_puts : Vy yX5_puts cX5_puts 5 none 4 := ⟨k501, k415, by decide +kernel⟩
theorem i_X5_puts : Cond.instanceMethod yX5_puts ∈ TB := k504
theorem s_X5_puts : Cond.selects yX5_puts.cls yX5_puts yX5_puts ∈ TB := k505
noncomputable def f_X5_puts (vM : JV) (x1 : Int32) (x2 : Int32) (x3 : Int32) (x4 : Int32) : Option (JV) :=
  (f_X5_p x1).bind (fun q1 => gd (inb (q1 + (0 : Int32)) 76) ((f_X5_p x1).bind (fun q3 => gd (inb (q3 + (1 : Int32)) 76) ((f_X5_p x1).bind (fun q5 => gd (inb (q5 + (2 : Int32)) 76) (some (up2 (up2 (up2 vM 0 (Int32.toNatClampNeg (q1 + (0 : Int32))) x2) 0 (Int32.toNatClampNeg (q3 + (1 : Int32))) x3) 0 (Int32.toNatClampNeg (q5 + (2 : Int32))) x4)))))))
set_option maxRecDepth 100000 in
set_option maxHeartbeats 4000000 in
theorem c_X5_puts {l : Launch} {G : JG} (aM : Nat → Nat) (vM : JV) (x1 : Int32) (x2 : Int32) (x3 : Int32) (x4 : Int32) {Rz : JV} (h : f_X5_puts vM x1 x2 x3 x4 = some Rz) : JM l G yX5_puts cX5_puts 5 none 1 20 [.ref (aM 0), .int x1, .int x2, .int x3, .int x4] (wMod G aM (vM 0) (vM 1) (vM 2) (vM 3) (vM 4) (vM 5) (vM 6) (vM 7) (vM 8) (vM 9 0) (vM 10 0) (vM 11 0) (vM 12 0) (vM 13 0)) (wMod G aM (Rz 0) (Rz 1) (Rz 2) (Rz 3) (Rz 4) (Rz 5) (Rz 6) (Rz 7) (Rz 8) (Rz 9 0) (Rz 10 0) (Rz 11 0) (Rz 12 0) (Rz 13 0)) none := by
  refine JM.of (own := RX5) (tb := T_X5_puts) (by decide) (Nat.le_of_ble_eq_true rfl) D_X5_puts rfl (fun X C => ?_)
  refine J_sub (lv' := [(0, .ref (aM 0)), (1, .int x1), (2, .int x2), (3, .int x3), (4, .int x4)]) [0, 1, 2, 3, 4] rfl ?_
  unfold f_X5_puts at h
  refine J_aload_n (pc := 0) C 0 rfl 0 rfl rfl ?_
  refine J_get (pc := 1) (v := .ref (aM 1)) C 1 rfl TB_l5 rfl 0 0 rfl (by decide) k399 rfl rfl ?_
  refine J_iload_n (pc := 4) C 2 rfl 1 rfl rfl ?_
  obtain ⟨q1, hq1, h⟩ := bnd h
  refine J_callS (pc := 5) (st2 := [.ref (aM 1)]) (st3 := [.int q1, .ref (aM 1)]) (ws2 := (wMod G aM (vM 0) (vM 1) (vM 2) (vM 3) (vM 4) (vM 5) (vM 6) (vM 7) (vM 8) (vM 9 0) (vM 10 0) (vM 11 0) (vM 12 0) (vM 13 0))) C 3 rfl (c_X5_p x1 hq1) V_X5_p k425 t_X5_p rfl rfl ⟨Nat.le_of_ble_eq_true rfl, Nat.le_of_ble_eq_true rfl⟩ (Nat.le_of_ble_eq_true rfl) ⟨Nat.le_refl _, Nat.le_refl _⟩ (isC := []) (isR := [0, 1, 2, 3, 4, 5, 6, 7, 8, 9]) (N := 10) ⟨rfl, by decide +kernel, rfl, by decide +kernel, rfl, ⟨⟨_, rfl, rfl⟩, ⟨⟨_, rfl, rfl⟩, ⟨⟨_, rfl, rfl⟩, ⟨⟨_, rfl, rfl⟩, ⟨⟨_, rfl, rfl⟩, ⟨⟨_, rfl, rfl⟩, ⟨⟨_, rfl, rfl⟩, ⟨⟨_, rfl, rfl⟩, ⟨⟨_, rfl, rfl⟩, ⟨⟨_, rfl, rfl⟩, trivial⟩⟩⟩⟩⟩⟩⟩⟩⟩⟩⟩ rfl ?_
  refine J_iconst (pc := 8) (v := (0 : Int32)) C 4 rfl rfl ?_
  refine J_iadd (pc := 9) C 5 rfl  ?_
  refine J_iload_n (pc := 10) C 6 rfl 2 rfl rfl ?_
  obtain ⟨g2, h⟩ := gd_some h
  refine J_iast (pc := 11) (f := (vM 0)) (m := (Int32.toNatClampNeg (q1 + (0 : Int32)))) C 7 (fun mm vv => (wMod G aM (upd (vM 0) mm vv) (vM 1) (vM 2) (vM 3) (vM 4) (vM 5) (vM 6) (vM 7) (vM 8) (vM 9 0) (vM 10 0) (vM 11 0) (vM 12 0) (vM 13 0))) rfl 1 rfl g2 rfl (fun _ _ => rfl) ?_
  refine J_aload_n (pc := 12) C 8 rfl 0 rfl rfl ?_
  refine J_get (pc := 13) (v := .ref (aM 1)) C 9 rfl TB_l5 rfl 0 0 rfl (by decide) k399 rfl rfl ?_
  refine J_iload_n (pc := 16) C 10 rfl 1 rfl rfl ?_
  obtain ⟨q3, hq3, h⟩ := bnd h
  refine J_callS (pc := 17) (st2 := [.ref (aM 1)]) (st3 := [.int q3, .ref (aM 1)]) (ws2 := (wMod G aM (upd (vM 0) (Int32.toNatClampNeg (q1 + (0 : Int32))) x2) (vM 1) (vM 2) (vM 3) (vM 4) (vM 5) (vM 6) (vM 7) (vM 8) (vM 9 0) (vM 10 0) (vM 11 0) (vM 12 0) (vM 13 0))) C 11 rfl (c_X5_p x1 hq3) V_X5_p k425 t_X5_p rfl rfl ⟨Nat.le_of_ble_eq_true rfl, Nat.le_of_ble_eq_true rfl⟩ (Nat.le_of_ble_eq_true rfl) ⟨Nat.le_refl _, Nat.le_refl _⟩ (isC := []) (isR := [0, 1, 2, 3, 4, 5, 6, 7, 8, 9]) (N := 10) ⟨rfl, by decide +kernel, rfl, by decide +kernel, rfl, ⟨⟨_, rfl, rfl⟩, ⟨⟨_, rfl, rfl⟩, ⟨⟨_, rfl, rfl⟩, ⟨⟨_, rfl, rfl⟩, ⟨⟨_, rfl, rfl⟩, ⟨⟨_, rfl, rfl⟩, ⟨⟨_, rfl, rfl⟩, ⟨⟨_, rfl, rfl⟩, ⟨⟨_, rfl, rfl⟩, ⟨⟨_, rfl, rfl⟩, trivial⟩⟩⟩⟩⟩⟩⟩⟩⟩⟩⟩ rfl ?_
  refine J_iconst (pc := 20) (v := (1 : Int32)) C 12 rfl rfl ?_
  refine J_iadd (pc := 21) C 13 rfl  ?_
  refine J_iload_n (pc := 22) C 14 rfl 3 rfl rfl ?_
  obtain ⟨g4, h⟩ := gd_some h
  refine J_iast (pc := 23) (f := (upd (vM 0) (Int32.toNatClampNeg (q1 + (0 : Int32))) x2)) (m := (Int32.toNatClampNeg (q3 + (1 : Int32)))) C 15 (fun mm vv => (wMod G aM (upd (upd (vM 0) (Int32.toNatClampNeg (q1 + (0 : Int32))) x2) mm vv) (vM 1) (vM 2) (vM 3) (vM 4) (vM 5) (vM 6) (vM 7) (vM 8) (vM 9 0) (vM 10 0) (vM 11 0) (vM 12 0) (vM 13 0))) rfl 1 rfl g4 rfl (fun _ _ => rfl) ?_
  refine J_aload_n (pc := 24) C 16 rfl 0 rfl rfl ?_
  refine J_get (pc := 25) (v := .ref (aM 1)) C 17 rfl TB_l5 rfl 0 0 rfl (by decide) k399 rfl rfl ?_
  refine J_iload_n (pc := 28) C 18 rfl 1 rfl rfl ?_
  obtain ⟨q5, hq5, h⟩ := bnd h
  refine J_callS (pc := 29) (st2 := [.ref (aM 1)]) (st3 := [.int q5, .ref (aM 1)]) (ws2 := (wMod G aM (upd (upd (vM 0) (Int32.toNatClampNeg (q1 + (0 : Int32))) x2) (Int32.toNatClampNeg (q3 + (1 : Int32))) x3) (vM 1) (vM 2) (vM 3) (vM 4) (vM 5) (vM 6) (vM 7) (vM 8) (vM 9 0) (vM 10 0) (vM 11 0) (vM 12 0) (vM 13 0))) C 19 rfl (c_X5_p x1 hq5) V_X5_p k425 t_X5_p rfl rfl ⟨Nat.le_of_ble_eq_true rfl, Nat.le_of_ble_eq_true rfl⟩ (Nat.le_of_ble_eq_true rfl) ⟨Nat.le_refl _, Nat.le_refl _⟩ (isC := []) (isR := [0, 1, 2, 3, 4, 5, 6, 7, 8, 9]) (N := 10) ⟨rfl, by decide +kernel, rfl, by decide +kernel, rfl, ⟨⟨_, rfl, rfl⟩, ⟨⟨_, rfl, rfl⟩, ⟨⟨_, rfl, rfl⟩, ⟨⟨_, rfl, rfl⟩, ⟨⟨_, rfl, rfl⟩, ⟨⟨_, rfl, rfl⟩, ⟨⟨_, rfl, rfl⟩, ⟨⟨_, rfl, rfl⟩, ⟨⟨_, rfl, rfl⟩, ⟨⟨_, rfl, rfl⟩, trivial⟩⟩⟩⟩⟩⟩⟩⟩⟩⟩⟩ rfl ?_
  refine J_iconst (pc := 32) (v := (2 : Int32)) C 20 rfl rfl ?_
  refine J_iadd (pc := 33) C 21 rfl  ?_
  refine J_iload (pc := 34) C 22 rfl 4 rfl ?_
  obtain ⟨g6, h⟩ := gd_some h
  refine J_iast (pc := 36) (f := (upd (upd (vM 0) (Int32.toNatClampNeg (q1 + (0 : Int32))) x2) (Int32.toNatClampNeg (q3 + (1 : Int32))) x3)) (m := (Int32.toNatClampNeg (q5 + (2 : Int32)))) C 23 (fun mm vv => (wMod G aM (upd (upd (upd (vM 0) (Int32.toNatClampNeg (q1 + (0 : Int32))) x2) (Int32.toNatClampNeg (q3 + (1 : Int32))) x3) mm vv) (vM 1) (vM 2) (vM 3) (vM 4) (vM 5) (vM 6) (vM 7) (vM 8) (vM 9 0) (vM 10 0) (vM 11 0) (vM 12 0) (vM 13 0))) rfl 1 rfl g6 rfl (fun _ _ => rfl) ?_
  cases h
  exact J_vret (pc := 37) C 24 rfl
def T_X5_pupil : List (Nat × ClassFile.Instr × Nat) := [(0, .iload_n 1, 1), (1, .iconst 1, 1), (2, .bipush 63, 2), (4, .invokestatic 39, 3), (7, .ifCond .eq 13, 3), (10, .iload_n 2, 1), (11, .iconst 0, 1), (12, .bipush 100, 2), (14, .invokestatic 39, 3), (17, .ifCond .ne 6, 3), (20, .bipush (-2), 2), (22, .ireturn, 1), (23, .aload_n 0, 1), (24, .getfield 7, 3), (27, .iconst 3, 1), (28, .iaload, 1), (29, .bipush 16, 2), (31, .if_icmp .ne 6, 3), (34, .bipush (-4), 2), (36, .ireturn, 1), (37, .aload_n 0, 1), (38, .invokevirtual 106, 3), (41, .aload_n 0, 1), (42, .getfield 7, 3), (45, .iconst 3, 1), (46, .iaload, 1), (47, .istore 4, 2), (49, .aload_n 0, 1), (50, .iload 4, 2), (52, .iload_n 1, 1), (53, .iload_n 2, 1), (54, .iload_n 3, 1), (55, .ifCond .eq 7, 3), (58, .iconst 1, 1), (59, .goto 4, 3), (62, .iconst 0, 1), (63, .invokevirtual 115, 3), (66, .aload_n 0, 1), (67, .getfield 7, 3), (70, .iconst 3, 1), (71, .dup2, 1), (72, .iaload, 1), (73, .iconst 1, 1), (74, .iadd, 1), (75, .iastore, 1), (76, .aload_n 0, 1), (77, .iload 4, 2), (79, .invokevirtual 109, 3), (82, .ireturn, 1)]
theorem D_X5_pupil : ∀ q ∈ T_X5_pupil, decode cX5_pupil q.1 = .ok q.2 := by decide +kernel
theorem V_X5_pupil : Vy yX5_pupil cX5_pupil 5 (some .int) 3 := ⟨k502, k415, by decide +kernel⟩
theorem i_X5_pupil : Cond.instanceMethod yX5_pupil ∈ TB := k651
theorem s_X5_pupil : Cond.selects yX5_pupil.cls yX5_pupil yX5_pupil ∈ TB := k652
noncomputable def f_X5_pupil_K63  (vM_63 : JV) (x4_63 : Int32) (y4_63 : Int32) (y3_63 : Int32) (y2_63 : Int32) (y1_63 : Int32) : Option (Int32 × JV) :=
  (f_X5_puts vM_63 y1_63 y2_63 y3_63 y4_63).bind (fun q8 => (f_X5_recorded (up2 q8 0 3 (((q8 0) 3) + (1 : Int32))) x4_63).bind (fun q9 => some ((q9.1), (q9.2))))
noncomputable def f_X5_pupil (vM : JV) (x1 : Int32) (x2 : Int32) (x3 : Int32) : Option (Int32 × JV) :=
  (f_X5_in x1 (1 : Int32) (63 : Int32)).bind (fun q1 => (if q1 = 0 then some ((-2 : Int32), vM) else (f_X5_in x2 (0 : Int32) (100 : Int32)).bind (fun q3 => (if q3 = 0 then some ((-2 : Int32), vM) else (if ((vM 0) 3) = (16 : Int32) then some ((-4 : Int32), vM) else (f_X5_hold vM).bind (fun q6 => (if x3 = 0 then f_X5_pupil_K63  q6 ((q6 0) 3) (0 : Int32) x2 x1 ((q6 0) 3) else f_X5_pupil_K63  q6 ((q6 0) 3) (1 : Int32) x2 x1 ((q6 0) 3))))))))
set_option maxRecDepth 100000 in
set_option maxHeartbeats 4000000 in
theorem c_X5_pupil {l : Launch} {G : JG} (aM : Nat → Nat) (vM : JV) (x1 : Int32) (x2 : Int32) (x3 : Int32) {Rz : Int32 × JV} (h : f_X5_pupil vM x1 x2 x3 = some Rz) : JM l G yX5_pupil cX5_pupil 5 (some .int) 2 44 [.ref (aM 0), .int x1, .int x2, .int x3] (wMod G aM (vM 0) (vM 1) (vM 2) (vM 3) (vM 4) (vM 5) (vM 6) (vM 7) (vM 8) (vM 9 0) (vM 10 0) (vM 11 0) (vM 12 0) (vM 13 0)) (wMod G aM ((Rz.2) 0) ((Rz.2) 1) ((Rz.2) 2) ((Rz.2) 3) ((Rz.2) 4) ((Rz.2) 5) ((Rz.2) 6) ((Rz.2) 7) ((Rz.2) 8) ((Rz.2) 9 0) ((Rz.2) 10 0) ((Rz.2) 11 0) ((Rz.2) 12 0) ((Rz.2) 13 0)) (some (.int (Rz.1))) := by
  refine JM.of (own := RX5) (tb := T_X5_pupil) (by decide) (Nat.le_of_ble_eq_true rfl) D_X5_pupil rfl (fun X C => ?_)
  refine J_sub (lv' := [(0, .ref (aM 0)), (1, .int x1), (2, .int x2), (3, .int x3)]) [0, 1, 2, 3] rfl ?_
  have B63 : ∀ (vM_63 : JV) (x4_63 : Int32) (y4_63 : Int32) (y3_63 : Int32) (y2_63 : Int32) (y1_63 : Int32), f_X5_pupil_K63  vM_63 x4_63 y4_63 y3_63 y2_63 y1_63 = some Rz → J l { frames := 2, cells := 0, slots := 0, locals := 44 } G 5 X (QM X G 0 0 (some (.int (Rz.1))) (wMod G aM ((Rz.2) 0) ((Rz.2) 1) ((Rz.2) 2) ((Rz.2) 3) ((Rz.2) 4) ((Rz.2) 5) ((Rz.2) 6) ((Rz.2) 7) ((Rz.2) 8) ((Rz.2) 9 0) ((Rz.2) 10 0) ((Rz.2) 11 0) ((Rz.2) 12 0) ((Rz.2) 13 0))) 0 0 63 [(0, .ref (aM 0)), (4, .int x4_63)] [.int y4_63, .int y3_63, .int y2_63, .int y1_63, .ref (aM 0)] (wMod G aM (vM_63 0) (vM_63 1) (vM_63 2) (vM_63 3) (vM_63 4) (vM_63 5) (vM_63 6) (vM_63 7) (vM_63 8) (vM_63 9 0) (vM_63 10 0) (vM_63 11 0) (vM_63 12 0) (vM_63 13 0)) := by
    intro vM_63 x4_63 y4_63 y3_63 y2_63 y1_63 h
    unfold f_X5_pupil_K63 at h
    obtain ⟨q8, hq8, h⟩ := bnd h
    refine J_callV (pc := 63) (st2 := []) (st3 := []) (ws2 := (wMod G aM (q8 0) (q8 1) (q8 2) (q8 3) (q8 4) (q8 5) (q8 6) (q8 7) (q8 8) (q8 9 0) (q8 10 0) (q8 11 0) (q8 12 0) (q8 13 0))) C 36 rfl (c_X5_puts aM vM_63 y1_63 y2_63 y3_63 y4_63 hq8) V_X5_puts k503 i_X5_puts s_X5_puts rfl rfl ⟨Nat.le_of_ble_eq_true rfl, Nat.le_of_ble_eq_true rfl⟩ (Nat.le_of_ble_eq_true rfl) ⟨Nat.le_refl _, Nat.le_refl _⟩ 0 5 rfl rfl rfl (isC := [0, 1, 2, 3, 4, 5, 6, 7, 8, 9]) (isR := []) (N := 10) ⟨rfl, by decide +kernel, rfl, by decide +kernel, rfl, trivial⟩ rfl ?_
    refine J_aload_n (pc := 66) C 37 rfl 0 rfl rfl ?_
    refine J_get (pc := 67) (v := .ref (aM 1)) C 38 rfl TB_l5 rfl 0 0 rfl (by decide) k399 rfl rfl ?_
    refine J_iconst (pc := 70) (v := (3 : Int32)) C 39 rfl rfl ?_
    refine J_dup2 (pc := 71) C 40 rfl rfl rfl ?_
    refine J_iald (pc := 72) (f := (q8 0)) (v := ((q8 0) 3)) C 41 rfl 1 rfl rfl rfl ?_
    refine J_iconst (pc := 73) (v := (1 : Int32)) C 42 rfl rfl ?_
    refine J_iadd (pc := 74) C 43 rfl  ?_
    refine J_iast (pc := 75) (f := (q8 0)) (m := 3) C 44 (fun mm vv => (wMod G aM (upd (q8 0) mm vv) (q8 1) (q8 2) (q8 3) (q8 4) (q8 5) (q8 6) (q8 7) (q8 8) (q8 9 0) (q8 10 0) (q8 11 0) (q8 12 0) (q8 13 0))) rfl 1 rfl rfl rfl (fun _ _ => rfl) ?_
    refine J_aload_n (pc := 76) C 45 rfl 0 rfl rfl ?_
    refine J_iload (pc := 77) C 46 rfl 1 rfl ?_
    obtain ⟨q9, hq9, h⟩ := bnd h
    refine J_callV (pc := 79) (st2 := []) (st3 := [.int (q9.1)]) (ws2 := (wMod G aM ((q9.2) 0) ((q9.2) 1) ((q9.2) 2) ((q9.2) 3) ((q9.2) 4) ((q9.2) 5) ((q9.2) 6) ((q9.2) 7) ((q9.2) 8) ((q9.2) 9 0) ((q9.2) 10 0) ((q9.2) 11 0) ((q9.2) 12 0) ((q9.2) 13 0))) C 47 rfl (c_X5_recorded aM (up2 q8 0 3 (((q8 0) 3) + (1 : Int32))) x4_63 hq9) V_X5_recorded k495 i_X5_recorded s_X5_recorded rfl rfl ⟨Nat.le_of_ble_eq_true rfl, Nat.le_of_ble_eq_true rfl⟩ (Nat.le_of_ble_eq_true rfl) ⟨Nat.le_refl _, Nat.le_refl _⟩ 0 5 rfl rfl rfl (isC := [0, 1, 2, 3, 4, 5, 6, 7, 8, 9]) (isR := []) (N := 10) ⟨rfl, by decide +kernel, rfl, by decide +kernel, rfl, trivial⟩ rfl ?_
    cases h
    exact J_iret (pc := 82) C 48 rfl
  unfold f_X5_pupil at h
  refine J_iload_n (pc := 0) C 0 rfl 1 rfl rfl ?_
  refine J_iconst (pc := 1) (v := (1 : Int32)) C 1 rfl rfl ?_
  refine J_bipush (pc := 2) (v := (63 : Int32)) C 2 rfl rfl ?_
  obtain ⟨q1, hq1, h⟩ := bnd h
  refine J_callS (pc := 4) (st2 := []) (st3 := [.int q1]) (ws2 := (wMod G aM (vM 0) (vM 1) (vM 2) (vM 3) (vM 4) (vM 5) (vM 6) (vM 7) (vM 8) (vM 9 0) (vM 10 0) (vM 11 0) (vM 12 0) (vM 13 0))) C 3 rfl (c_X5_in x1 (1 : Int32) (63 : Int32) hq1) V_X5_in k413 t_X5_in rfl rfl ⟨Nat.le_of_ble_eq_true rfl, Nat.le_of_ble_eq_true rfl⟩ (Nat.le_of_ble_eq_true rfl) ⟨Nat.le_refl _, Nat.le_refl _⟩ (isC := []) (isR := [0, 1, 2, 3, 4, 5, 6, 7, 8, 9]) (N := 10) ⟨rfl, by decide +kernel, rfl, by decide +kernel, rfl, ⟨⟨_, rfl, rfl⟩, ⟨⟨_, rfl, rfl⟩, ⟨⟨_, rfl, rfl⟩, ⟨⟨_, rfl, rfl⟩, ⟨⟨_, rfl, rfl⟩, ⟨⟨_, rfl, rfl⟩, ⟨⟨_, rfl, rfl⟩, ⟨⟨_, rfl, rfl⟩, ⟨⟨_, rfl, rfl⟩, ⟨⟨_, rfl, rfl⟩, trivial⟩⟩⟩⟩⟩⟩⟩⟩⟩⟩⟩ rfl ?_
  refine J_if_eq (pc := 7) (tgt := 20) C 4 rfl rfl (fun c2 => ?_) (fun c2 => ?_)
  · rw [if_pos c2] at h
    refine J_bipush (pc := 20) (v := (-2 : Int32)) C 10 rfl rfl ?_
    cases h
    exact J_iret (pc := 22) C 11 rfl
  · rw [if_neg c2] at h
    refine J_iload_n (pc := 10) C 5 rfl 2 rfl rfl ?_
    refine J_iconst (pc := 11) (v := (0 : Int32)) C 6 rfl rfl ?_
    refine J_bipush (pc := 12) (v := (100 : Int32)) C 7 rfl rfl ?_
    obtain ⟨q3, hq3, h⟩ := bnd h
    refine J_callS (pc := 14) (st2 := []) (st3 := [.int q3]) (ws2 := (wMod G aM (vM 0) (vM 1) (vM 2) (vM 3) (vM 4) (vM 5) (vM 6) (vM 7) (vM 8) (vM 9 0) (vM 10 0) (vM 11 0) (vM 12 0) (vM 13 0))) C 8 rfl (c_X5_in x2 (0 : Int32) (100 : Int32) hq3) V_X5_in k413 t_X5_in rfl rfl ⟨Nat.le_of_ble_eq_true rfl, Nat.le_of_ble_eq_true rfl⟩ (Nat.le_of_ble_eq_true rfl) ⟨Nat.le_refl _, Nat.le_refl _⟩ (isC := []) (isR := [0, 1, 2, 3, 4, 5, 6, 7, 8, 9]) (N := 10) ⟨rfl, by decide +kernel, rfl, by decide +kernel, rfl, ⟨⟨_, rfl, rfl⟩, ⟨⟨_, rfl, rfl⟩, ⟨⟨_, rfl, rfl⟩, ⟨⟨_, rfl, rfl⟩, ⟨⟨_, rfl, rfl⟩, ⟨⟨_, rfl, rfl⟩, ⟨⟨_, rfl, rfl⟩, ⟨⟨_, rfl, rfl⟩, ⟨⟨_, rfl, rfl⟩, ⟨⟨_, rfl, rfl⟩, trivial⟩⟩⟩⟩⟩⟩⟩⟩⟩⟩⟩ rfl ?_
    refine J_if_ne (pc := 17) (tgt := 23) C 9 rfl rfl (fun c4 => ?_) (fun c4 => ?_)
    · rw [if_neg c4] at h
      refine J_aload_n (pc := 23) C 12 rfl 0 rfl rfl ?_
      refine J_get (pc := 24) (v := .ref (aM 1)) C 13 rfl TB_l5 rfl 0 0 rfl (by decide) k399 rfl rfl ?_
      refine J_iconst (pc := 27) (v := (3 : Int32)) C 14 rfl rfl ?_
      refine J_iald (pc := 28) (f := (vM 0)) (v := ((vM 0) 3)) C 15 rfl 1 rfl rfl rfl ?_
      refine J_bipush (pc := 29) (v := (16 : Int32)) C 16 rfl rfl ?_
      refine J_icmp_ne (pc := 31) (tgt := 37) C 17 rfl rfl (fun c5 => ?_) (fun c5 => ?_)
      · rw [if_neg c5] at h
        refine J_aload_n (pc := 37) C 20 rfl 0 rfl rfl ?_
        obtain ⟨q6, hq6, h⟩ := bnd h
        refine J_callV (pc := 38) (st2 := []) (st3 := []) (ws2 := (wMod G aM (q6 0) (q6 1) (q6 2) (q6 3) (q6 4) (q6 5) (q6 6) (q6 7) (q6 8) (q6 9 0) (q6 10 0) (q6 11 0) (q6 12 0) (q6 13 0))) C 21 rfl (c_X5_hold aM vM hq6) V_X5_hold k492 i_X5_hold s_X5_hold rfl rfl ⟨Nat.le_of_ble_eq_true rfl, Nat.le_of_ble_eq_true rfl⟩ (Nat.le_of_ble_eq_true rfl) ⟨Nat.le_refl _, Nat.le_refl _⟩ 0 5 rfl rfl rfl (isC := [0, 1, 2, 3, 4, 5, 6, 7, 8, 9]) (isR := []) (N := 10) ⟨rfl, by decide +kernel, rfl, by decide +kernel, rfl, trivial⟩ rfl ?_
        refine J_aload_n (pc := 41) C 22 rfl 0 rfl rfl ?_
        refine J_get (pc := 42) (v := .ref (aM 1)) C 23 rfl TB_l5 rfl 0 0 rfl (by decide) k399 rfl rfl ?_
        refine J_iconst (pc := 45) (v := (3 : Int32)) C 24 rfl rfl ?_
        refine J_iald (pc := 46) (f := (q6 0)) (v := ((q6 0) 3)) C 25 rfl 1 rfl rfl rfl ?_
        refine J_istore (pc := 47) (lv' := [(4, .int ((q6 0) 3)), (0, .ref (aM 0)), (1, .int x1), (2, .int x2), (3, .int x3)]) C 26 rfl (by decide) rfl ?_
        refine J_aload_n (pc := 49) C 27 rfl 1 rfl rfl ?_
        refine J_iload (pc := 50) C 28 rfl 0 rfl ?_
        refine J_iload_n (pc := 52) C 29 rfl 2 rfl rfl ?_
        refine J_iload_n (pc := 53) C 30 rfl 3 rfl rfl ?_
        refine J_iload_n (pc := 54) C 31 rfl 4 rfl rfl ?_
        refine J_if_eq (pc := 55) (tgt := 62) C 32 rfl rfl (fun c7 => ?_) (fun c7 => ?_)
        · rw [if_pos c7] at h
          refine J_iconst (pc := 62) (v := (0 : Int32)) C 35 rfl rfl ?_
          exact J_sub [1, 0] rfl (B63 q6 ((q6 0) 3) (0 : Int32) x2 x1 ((q6 0) 3) h)
        · rw [if_neg c7] at h
          refine J_iconst (pc := 58) (v := (1 : Int32)) C 33 rfl rfl ?_
          refine J_goto (pc := 59) (tgt := 63) C 34 rfl rfl ?_
          exact J_sub [1, 0] rfl (B63 q6 ((q6 0) 3) (1 : Int32) x2 x1 ((q6 0) 3) h)
      · rw [if_pos c5] at h
        refine J_bipush (pc := 34) (v := (-4 : Int32)) C 18 rfl rfl ?_
        cases h
        exact J_iret (pc := 36) C 19 rfl
    · rw [if_pos c4] at h
      refine J_bipush (pc := 20) (v := (-2 : Int32)) C 10 rfl rfl ?_
      cases h
      exact J_iret (pc := 22) C 11 rfl
def T_X5_change : List (Nat × ClassFile.Instr × Nat) := [(0, .aload_n 0, 1), (1, .iload_n 1, 1), (2, .invokevirtual 119, 3), (5, .ifCond .ne 5, 3), (8, .iconst (-1), 1), (9, .ireturn, 1), (10, .iload_n 2, 1), (11, .iconst 1, 1), (12, .bipush 63, 2), (14, .invokestatic 39, 3), (17, .ifCond .eq 13, 3), (20, .iload_n 3, 1), (21, .iconst 0, 1), (22, .bipush 100, 2), (24, .invokestatic 39, 3), (27, .ifCond .ne 6, 3), (30, .bipush (-2), 2), (32, .ireturn, 1), (33, .aload_n 0, 1), (34, .invokevirtual 106, 3), (37, .aload_n 0, 1), (38, .iload_n 1, 1), (39, .iload_n 2, 1), (40, .iload_n 3, 1), (41, .iload 4, 2), (43, .ifCond .eq 7, 3), (46, .iconst 1, 1), (47, .goto 4, 3), (50, .iconst 0, 1), (51, .invokevirtual 115, 3), (54, .aload_n 0, 1), (55, .aload_n 0, 1), (56, .iload_n 1, 1), (57, .invokevirtual 103, 3), (60, .invokevirtual 109, 3), (63, .ireturn, 1)]
theorem D_X5_change : ∀ q ∈ T_X5_change, decode cX5_change q.1 = .ok q.2 := by decide +kernel
theorem V_X5_change : Vy yX5_change cX5_change 5 (some .int) 4 := ⟨k509, k415, by decide +kernel⟩
theorem i_X5_change : Cond.instanceMethod yX5_change ∈ TB := k663
theorem s_X5_change : Cond.selects yX5_change.cls yX5_change yX5_change ∈ TB := k664
noncomputable def f_X5_change_K51  (vM_51 : JV) (x1_51 : Int32) (y4_51 : Int32) (y3_51 : Int32) (y2_51 : Int32) (y1_51 : Int32) : Option (Int32 × JV) :=
  (f_X5_puts vM_51 y1_51 y2_51 y3_51 y4_51).bind (fun q9 => (f_X5_clashesOf q9 x1_51).bind (fun q10 => (f_X5_recorded q9 q10).bind (fun q11 => some ((q11.1), (q11.2)))))
noncomputable def f_X5_change (vM : JV) (x1 : Int32) (x2 : Int32) (x3 : Int32) (x4 : Int32) : Option (Int32 × JV) :=
  (f_X5_isPupil vM x1).bind (fun q1 => (if q1 = 0 then some ((-1 : Int32), vM) else (f_X5_in x2 (1 : Int32) (63 : Int32)).bind (fun q3 => (if q3 = 0 then some ((-2 : Int32), vM) else (f_X5_in x3 (0 : Int32) (100 : Int32)).bind (fun q5 => (if q5 = 0 then some ((-2 : Int32), vM) else (f_X5_hold vM).bind (fun q7 => (if x4 = 0 then f_X5_change_K51  q7 x1 (0 : Int32) x3 x2 x1 else f_X5_change_K51  q7 x1 (1 : Int32) x3 x2 x1))))))))
set_option maxRecDepth 100000 in
set_option maxHeartbeats 4000000 in
theorem c_X5_change {l : Launch} {G : JG} (aM : Nat → Nat) (vM : JV) (x1 : Int32) (x2 : Int32) (x3 : Int32) (x4 : Int32) {Rz : Int32 × JV} (h : f_X5_change vM x1 x2 x3 x4 = some Rz) : JM l G yX5_change cX5_change 5 (some .int) 5 109 [.ref (aM 0), .int x1, .int x2, .int x3, .int x4] (wMod G aM (vM 0) (vM 1) (vM 2) (vM 3) (vM 4) (vM 5) (vM 6) (vM 7) (vM 8) (vM 9 0) (vM 10 0) (vM 11 0) (vM 12 0) (vM 13 0)) (wMod G aM ((Rz.2) 0) ((Rz.2) 1) ((Rz.2) 2) ((Rz.2) 3) ((Rz.2) 4) ((Rz.2) 5) ((Rz.2) 6) ((Rz.2) 7) ((Rz.2) 8) ((Rz.2) 9 0) ((Rz.2) 10 0) ((Rz.2) 11 0) ((Rz.2) 12 0) ((Rz.2) 13 0)) (some (.int (Rz.1))) := by
  refine JM.of (own := RX5) (tb := T_X5_change) (by decide) (Nat.le_of_ble_eq_true rfl) D_X5_change rfl (fun X C => ?_)
  refine J_sub (lv' := [(0, .ref (aM 0)), (1, .int x1), (2, .int x2), (3, .int x3), (4, .int x4)]) [0, 1, 2, 3, 4] rfl ?_
  have B51 : ∀ (vM_51 : JV) (x1_51 : Int32) (y4_51 : Int32) (y3_51 : Int32) (y2_51 : Int32) (y1_51 : Int32), f_X5_change_K51  vM_51 x1_51 y4_51 y3_51 y2_51 y1_51 = some Rz → J l { frames := 5, cells := 0, slots := 0, locals := 109 } G 5 X (QM X G 0 0 (some (.int (Rz.1))) (wMod G aM ((Rz.2) 0) ((Rz.2) 1) ((Rz.2) 2) ((Rz.2) 3) ((Rz.2) 4) ((Rz.2) 5) ((Rz.2) 6) ((Rz.2) 7) ((Rz.2) 8) ((Rz.2) 9 0) ((Rz.2) 10 0) ((Rz.2) 11 0) ((Rz.2) 12 0) ((Rz.2) 13 0))) 0 0 51 [(0, .ref (aM 0)), (1, .int x1_51)] [.int y4_51, .int y3_51, .int y2_51, .int y1_51, .ref (aM 0)] (wMod G aM (vM_51 0) (vM_51 1) (vM_51 2) (vM_51 3) (vM_51 4) (vM_51 5) (vM_51 6) (vM_51 7) (vM_51 8) (vM_51 9 0) (vM_51 10 0) (vM_51 11 0) (vM_51 12 0) (vM_51 13 0)) := by
    intro vM_51 x1_51 y4_51 y3_51 y2_51 y1_51 h
    unfold f_X5_change_K51 at h
    obtain ⟨q9, hq9, h⟩ := bnd h
    refine J_callV (pc := 51) (st2 := []) (st3 := []) (ws2 := (wMod G aM (q9 0) (q9 1) (q9 2) (q9 3) (q9 4) (q9 5) (q9 6) (q9 7) (q9 8) (q9 9 0) (q9 10 0) (q9 11 0) (q9 12 0) (q9 13 0))) C 29 rfl (c_X5_puts aM vM_51 y1_51 y2_51 y3_51 y4_51 hq9) V_X5_puts k503 i_X5_puts s_X5_puts rfl rfl ⟨Nat.le_of_ble_eq_true rfl, Nat.le_of_ble_eq_true rfl⟩ (Nat.le_of_ble_eq_true rfl) ⟨Nat.le_refl _, Nat.le_refl _⟩ 0 5 rfl rfl rfl (isC := [0, 1, 2, 3, 4, 5, 6, 7, 8, 9]) (isR := []) (N := 10) ⟨rfl, by decide +kernel, rfl, by decide +kernel, rfl, trivial⟩ rfl ?_
    refine J_aload_n (pc := 54) C 30 rfl 0 rfl rfl ?_
    refine J_aload_n (pc := 55) C 31 rfl 0 rfl rfl ?_
    refine J_iload_n (pc := 56) C 32 rfl 1 rfl rfl ?_
    obtain ⟨q10, hq10, h⟩ := bnd h
    refine J_callV (pc := 57) (st2 := [.ref (aM 0)]) (st3 := [.int q10, .ref (aM 0)]) (ws2 := (wMod G aM (q9 0) (q9 1) (q9 2) (q9 3) (q9 4) (q9 5) (q9 6) (q9 7) (q9 8) (q9 9 0) (q9 10 0) (q9 11 0) (q9 12 0) (q9 13 0))) C 33 rfl (c_X5_clashesOf aM q9 x1_51 hq10) V_X5_clashesOf k486 i_X5_clashesOf s_X5_clashesOf rfl rfl ⟨Nat.le_of_ble_eq_true rfl, Nat.le_of_ble_eq_true rfl⟩ (Nat.le_of_ble_eq_true rfl) ⟨Nat.le_refl _, Nat.le_refl _⟩ 0 5 rfl rfl rfl (isC := [0, 1, 2, 3, 4, 5, 6, 7, 8, 9]) (isR := []) (N := 10) ⟨rfl, by decide +kernel, rfl, by decide +kernel, rfl, trivial⟩ rfl ?_
    obtain ⟨q11, hq11, h⟩ := bnd h
    refine J_callV (pc := 60) (st2 := []) (st3 := [.int (q11.1)]) (ws2 := (wMod G aM ((q11.2) 0) ((q11.2) 1) ((q11.2) 2) ((q11.2) 3) ((q11.2) 4) ((q11.2) 5) ((q11.2) 6) ((q11.2) 7) ((q11.2) 8) ((q11.2) 9 0) ((q11.2) 10 0) ((q11.2) 11 0) ((q11.2) 12 0) ((q11.2) 13 0))) C 34 rfl (c_X5_recorded aM q9 q10 hq11) V_X5_recorded k495 i_X5_recorded s_X5_recorded rfl rfl ⟨Nat.le_of_ble_eq_true rfl, Nat.le_of_ble_eq_true rfl⟩ (Nat.le_of_ble_eq_true rfl) ⟨Nat.le_refl _, Nat.le_refl _⟩ 0 5 rfl rfl rfl (isC := [0, 1, 2, 3, 4, 5, 6, 7, 8, 9]) (isR := []) (N := 10) ⟨rfl, by decide +kernel, rfl, by decide +kernel, rfl, trivial⟩ rfl ?_
    cases h
    exact J_iret (pc := 63) C 35 rfl
  unfold f_X5_change at h
  refine J_aload_n (pc := 0) C 0 rfl 0 rfl rfl ?_
  refine J_iload_n (pc := 1) C 1 rfl 1 rfl rfl ?_
  obtain ⟨q1, hq1, h⟩ := bnd h
  refine J_callV (pc := 2) (st2 := []) (st3 := [.int q1]) (ws2 := (wMod G aM (vM 0) (vM 1) (vM 2) (vM 3) (vM 4) (vM 5) (vM 6) (vM 7) (vM 8) (vM 9 0) (vM 10 0) (vM 11 0) (vM 12 0) (vM 13 0))) C 2 rfl (c_X5_isPupil aM vM x1 hq1) V_X5_isPupil k506 i_X5_isPupil s_X5_isPupil rfl rfl ⟨Nat.le_of_ble_eq_true rfl, Nat.le_of_ble_eq_true rfl⟩ (Nat.le_of_ble_eq_true rfl) ⟨Nat.le_refl _, Nat.le_refl _⟩ 0 5 rfl rfl rfl (isC := [0, 1, 2, 3, 4, 5, 6, 7, 8, 9]) (isR := []) (N := 10) ⟨rfl, by decide +kernel, rfl, by decide +kernel, rfl, trivial⟩ rfl ?_
  refine J_if_ne (pc := 5) (tgt := 10) C 3 rfl rfl (fun c2 => ?_) (fun c2 => ?_)
  · rw [if_neg c2] at h
    refine J_iload_n (pc := 10) C 6 rfl 2 rfl rfl ?_
    refine J_iconst (pc := 11) (v := (1 : Int32)) C 7 rfl rfl ?_
    refine J_bipush (pc := 12) (v := (63 : Int32)) C 8 rfl rfl ?_
    obtain ⟨q3, hq3, h⟩ := bnd h
    refine J_callS (pc := 14) (st2 := []) (st3 := [.int q3]) (ws2 := (wMod G aM (vM 0) (vM 1) (vM 2) (vM 3) (vM 4) (vM 5) (vM 6) (vM 7) (vM 8) (vM 9 0) (vM 10 0) (vM 11 0) (vM 12 0) (vM 13 0))) C 9 rfl (c_X5_in x2 (1 : Int32) (63 : Int32) hq3) V_X5_in k413 t_X5_in rfl rfl ⟨Nat.le_of_ble_eq_true rfl, Nat.le_of_ble_eq_true rfl⟩ (Nat.le_of_ble_eq_true rfl) ⟨Nat.le_refl _, Nat.le_refl _⟩ (isC := []) (isR := [0, 1, 2, 3, 4, 5, 6, 7, 8, 9]) (N := 10) ⟨rfl, by decide +kernel, rfl, by decide +kernel, rfl, ⟨⟨_, rfl, rfl⟩, ⟨⟨_, rfl, rfl⟩, ⟨⟨_, rfl, rfl⟩, ⟨⟨_, rfl, rfl⟩, ⟨⟨_, rfl, rfl⟩, ⟨⟨_, rfl, rfl⟩, ⟨⟨_, rfl, rfl⟩, ⟨⟨_, rfl, rfl⟩, ⟨⟨_, rfl, rfl⟩, ⟨⟨_, rfl, rfl⟩, trivial⟩⟩⟩⟩⟩⟩⟩⟩⟩⟩⟩ rfl ?_
    refine J_if_eq (pc := 17) (tgt := 30) C 10 rfl rfl (fun c4 => ?_) (fun c4 => ?_)
    · rw [if_pos c4] at h
      refine J_bipush (pc := 30) (v := (-2 : Int32)) C 16 rfl rfl ?_
      cases h
      exact J_iret (pc := 32) C 17 rfl
    · rw [if_neg c4] at h
      refine J_iload_n (pc := 20) C 11 rfl 3 rfl rfl ?_
      refine J_iconst (pc := 21) (v := (0 : Int32)) C 12 rfl rfl ?_
      refine J_bipush (pc := 22) (v := (100 : Int32)) C 13 rfl rfl ?_
      obtain ⟨q5, hq5, h⟩ := bnd h
      refine J_callS (pc := 24) (st2 := []) (st3 := [.int q5]) (ws2 := (wMod G aM (vM 0) (vM 1) (vM 2) (vM 3) (vM 4) (vM 5) (vM 6) (vM 7) (vM 8) (vM 9 0) (vM 10 0) (vM 11 0) (vM 12 0) (vM 13 0))) C 14 rfl (c_X5_in x3 (0 : Int32) (100 : Int32) hq5) V_X5_in k413 t_X5_in rfl rfl ⟨Nat.le_of_ble_eq_true rfl, Nat.le_of_ble_eq_true rfl⟩ (Nat.le_of_ble_eq_true rfl) ⟨Nat.le_refl _, Nat.le_refl _⟩ (isC := []) (isR := [0, 1, 2, 3, 4, 5, 6, 7, 8, 9]) (N := 10) ⟨rfl, by decide +kernel, rfl, by decide +kernel, rfl, ⟨⟨_, rfl, rfl⟩, ⟨⟨_, rfl, rfl⟩, ⟨⟨_, rfl, rfl⟩, ⟨⟨_, rfl, rfl⟩, ⟨⟨_, rfl, rfl⟩, ⟨⟨_, rfl, rfl⟩, ⟨⟨_, rfl, rfl⟩, ⟨⟨_, rfl, rfl⟩, ⟨⟨_, rfl, rfl⟩, ⟨⟨_, rfl, rfl⟩, trivial⟩⟩⟩⟩⟩⟩⟩⟩⟩⟩⟩ rfl ?_
      refine J_if_ne (pc := 27) (tgt := 33) C 15 rfl rfl (fun c6 => ?_) (fun c6 => ?_)
      · rw [if_neg c6] at h
        refine J_aload_n (pc := 33) C 18 rfl 0 rfl rfl ?_
        obtain ⟨q7, hq7, h⟩ := bnd h
        refine J_callV (pc := 34) (st2 := []) (st3 := []) (ws2 := (wMod G aM (q7 0) (q7 1) (q7 2) (q7 3) (q7 4) (q7 5) (q7 6) (q7 7) (q7 8) (q7 9 0) (q7 10 0) (q7 11 0) (q7 12 0) (q7 13 0))) C 19 rfl (c_X5_hold aM vM hq7) V_X5_hold k492 i_X5_hold s_X5_hold rfl rfl ⟨Nat.le_of_ble_eq_true rfl, Nat.le_of_ble_eq_true rfl⟩ (Nat.le_of_ble_eq_true rfl) ⟨Nat.le_refl _, Nat.le_refl _⟩ 0 5 rfl rfl rfl (isC := [0, 1, 2, 3, 4, 5, 6, 7, 8, 9]) (isR := []) (N := 10) ⟨rfl, by decide +kernel, rfl, by decide +kernel, rfl, trivial⟩ rfl ?_
        refine J_aload_n (pc := 37) C 20 rfl 0 rfl rfl ?_
        refine J_iload_n (pc := 38) C 21 rfl 1 rfl rfl ?_
        refine J_iload_n (pc := 39) C 22 rfl 2 rfl rfl ?_
        refine J_iload_n (pc := 40) C 23 rfl 3 rfl rfl ?_
        refine J_iload (pc := 41) C 24 rfl 4 rfl ?_
        refine J_if_eq (pc := 43) (tgt := 50) C 25 rfl rfl (fun c8 => ?_) (fun c8 => ?_)
        · rw [if_pos c8] at h
          refine J_iconst (pc := 50) (v := (0 : Int32)) C 28 rfl rfl ?_
          exact J_sub [0, 1] rfl (B51 q7 x1 (0 : Int32) x3 x2 x1 h)
        · rw [if_neg c8] at h
          refine J_iconst (pc := 46) (v := (1 : Int32)) C 26 rfl rfl ?_
          refine J_goto (pc := 47) (tgt := 51) C 27 rfl rfl ?_
          exact J_sub [0, 1] rfl (B51 q7 x1 (1 : Int32) x3 x2 x1 h)
      · rw [if_pos c6] at h
        refine J_bipush (pc := 30) (v := (-2 : Int32)) C 16 rfl rfl ?_
        cases h
        exact J_iret (pc := 32) C 17 rfl
  · rw [if_pos c2] at h
    refine J_iconst (pc := 8) (v := (-1 : Int32)) C 4 rfl rfl ?_
    cases h
    exact J_iret (pc := 9) C 5 rfl
def T_X5_leave : List (Nat × ClassFile.Instr × Nat) := [(0, .aload_n 0, 1), (1, .iload_n 1, 1), (2, .invokevirtual 119, 3), (5, .ifCond .ne 5, 3), (8, .iconst (-1), 1), (9, .ireturn, 1), (10, .aload_n 0, 1), (11, .invokevirtual 106, 3), (14, .aload_n 0, 1), (15, .getfield 7, 3), (18, .iload_n 1, 1), (19, .invokestatic 51, 3), (22, .iconst 0, 1), (23, .iadd, 1), (24, .iaload, 1), (25, .istore_n 2, 1), (26, .iload_n 1, 1), (27, .invokestatic 51, 3), (30, .istore_n 3, 1), (31, .iload_n 3, 1), (32, .aload_n 0, 1), (33, .getfield 7, 3), (36, .iconst 3, 1), (37, .iaload, 1), (38, .iconst 1, 1), (39, .isub, 1), (40, .invokestatic 51, 3), (43, .if_icmp .ge 23, 3), (46, .aload_n 0, 1), (47, .getfield 7, 3), (50, .iload_n 3, 1), (51, .aload_n 0, 1), (52, .getfield 7, 3), (55, .iload_n 3, 1), (56, .iconst 3, 1), (57, .iadd, 1), (58, .iaload, 1), (59, .iastore, 1), (60, .iinc 3 1, 3), (63, .goto (-32), 3), (66, .aload_n 0, 1), (67, .getfield 7, 3), (70, .iconst 3, 1), (71, .dup2, 1), (72, .iaload, 1), (73, .iconst 1, 1), (74, .isub, 1), (75, .iastore, 1), (76, .aload_n 0, 1), (77, .iload_n 2, 1), (78, .invokevirtual 109, 3), (81, .ireturn, 1)]
theorem D_X5_leave : ∀ q ∈ T_X5_leave, decode cX5_leave q.1 = .ok q.2 := by decide +kernel
theorem V_X5_leave : Vy yX5_leave cX5_leave 4 (some .int) 1 := ⟨k510, k415, by decide +kernel⟩
theorem i_X5_leave : Cond.instanceMethod yX5_leave ∈ TB := k669
theorem s_X5_leave : Cond.selects yX5_leave.cls yX5_leave yX5_leave ∈ TB := k670
noncomputable def f_X5_leave_b31  (x2_31 : Int32) (r31 : JV → Int32 → Option (Int32 × JV)) (vM_31 : JV) (x3_31 : Int32) : Option (Int32 × JV) :=
  (f_X5_p (((vM_31 0) 3) - (1 : Int32))).bind (fun q7 => (if q7 ≤ x3_31 then (f_X5_recorded (up2 vM_31 0 3 (((vM_31 0) 3) - (1 : Int32))) x2_31).bind (fun q9 => some ((q9.1), (q9.2))) else gd (inb (x3_31 + (3 : Int32)) 76) (gd (inb x3_31 76) (r31 (up2 vM_31 0 (Int32.toNatClampNeg x3_31) ((vM_31 0) (Int32.toNatClampNeg (x3_31 + (3 : Int32))))) (x3_31 + (1 : Int32))))))
noncomputable def f_X5_leave_L31  (x2_31 : Int32) (n : Nat) (vM_31 : JV) (x3_31 : Int32) : Option (Int32 × JV) :=
  lp (fun (rec : JV × Int32 → Option (Int32 × JV)) a => f_X5_leave_b31  x2_31 (fun vM_31 x3_31 => rec (vM_31, x3_31)) a.1 a.2) n (vM_31, x3_31)
noncomputable def f_X5_leave (vM : JV) (x1 : Int32) : Option (Int32 × JV) :=
  (f_X5_isPupil vM x1).bind (fun q1 => (if q1 = 0 then some ((-1 : Int32), vM) else (f_X5_hold vM).bind (fun q3 => (f_X5_p x1).bind (fun q4 => gd (inb (q4 + (0 : Int32)) 76) ((f_X5_p x1).bind (fun q6 => f_X5_leave_L31  ((q3 0) (Int32.toNatClampNeg (q4 + (0 : Int32)))) FU q3 q6))))))
set_option maxRecDepth 100000 in
set_option maxHeartbeats 4000000 in
theorem c_X5_leave {l : Launch} {G : JG} (aM : Nat → Nat) (vM : JV) (x1 : Int32) {Rz : Int32 × JV} (h : f_X5_leave vM x1 = some Rz) : JM l G yX5_leave cX5_leave 4 (some .int) 2 43 [.ref (aM 0), .int x1] (wMod G aM (vM 0) (vM 1) (vM 2) (vM 3) (vM 4) (vM 5) (vM 6) (vM 7) (vM 8) (vM 9 0) (vM 10 0) (vM 11 0) (vM 12 0) (vM 13 0)) (wMod G aM ((Rz.2) 0) ((Rz.2) 1) ((Rz.2) 2) ((Rz.2) 3) ((Rz.2) 4) ((Rz.2) 5) ((Rz.2) 6) ((Rz.2) 7) ((Rz.2) 8) ((Rz.2) 9 0) ((Rz.2) 10 0) ((Rz.2) 11 0) ((Rz.2) 12 0) ((Rz.2) 13 0)) (some (.int (Rz.1))) := by
  refine JM.of (own := RX5) (tb := T_X5_leave) (by decide) (Nat.le_of_ble_eq_true rfl) D_X5_leave rfl (fun X C => ?_)
  refine J_sub (lv' := [(0, .ref (aM 0)), (1, .int x1)]) [0, 1] rfl ?_
  have B31 : ∀ (x2_31 : Int32) (n31 : Nat) (vM_31 : JV) (x3_31 : Int32), f_X5_leave_L31  x2_31 n31 vM_31 x3_31 = some Rz → J l { frames := 2, cells := 0, slots := 0, locals := 43 } G 4 X (QM X G 0 0 (some (.int (Rz.1))) (wMod G aM ((Rz.2) 0) ((Rz.2) 1) ((Rz.2) 2) ((Rz.2) 3) ((Rz.2) 4) ((Rz.2) 5) ((Rz.2) 6) ((Rz.2) 7) ((Rz.2) 8) ((Rz.2) 9 0) ((Rz.2) 10 0) ((Rz.2) 11 0) ((Rz.2) 12 0) ((Rz.2) 13 0))) 0 0 31 [(0, .ref (aM 0)), (2, .int x2_31), (3, .int x3_31)] [] (wMod G aM (vM_31 0) (vM_31 1) (vM_31 2) (vM_31 3) (vM_31 4) (vM_31 5) (vM_31 6) (vM_31 7) (vM_31 8) (vM_31 9 0) (vM_31 10 0) (vM_31 11 0) (vM_31 12 0) (vM_31 13 0)) := by
    intro x2_31 n31
    induction n31 with
    | zero =>
      intro vM_31 x3_31 h
      exact (no_none rfl h).elim
    | succ n31 ih31 =>
      intro vM_31 x3_31 h
      replace h : f_X5_leave_b31  x2_31 (fun vM_31 x3_31 => f_X5_leave_L31  x2_31 n31 vM_31 x3_31) vM_31 x3_31 = some Rz := h
      unfold f_X5_leave_b31 at h
      refine J_iload_n (pc := 31) C 19 rfl 2 rfl rfl ?_
      refine J_aload_n (pc := 32) C 20 rfl 0 rfl rfl ?_
      refine J_get (pc := 33) (v := .ref (aM 1)) C 21 rfl TB_l5 rfl 0 0 rfl (by decide) k399 rfl rfl ?_
      refine J_iconst (pc := 36) (v := (3 : Int32)) C 22 rfl rfl ?_
      refine J_iald (pc := 37) (f := (vM_31 0)) (v := ((vM_31 0) 3)) C 23 rfl 1 rfl rfl rfl ?_
      refine J_iconst (pc := 38) (v := (1 : Int32)) C 24 rfl rfl ?_
      refine J_isub (pc := 39) C 25 rfl  ?_
      obtain ⟨q7, hq7, h⟩ := bnd h
      refine J_callS (pc := 40) (st2 := [.int x3_31]) (st3 := [.int q7, .int x3_31]) (ws2 := (wMod G aM (vM_31 0) (vM_31 1) (vM_31 2) (vM_31 3) (vM_31 4) (vM_31 5) (vM_31 6) (vM_31 7) (vM_31 8) (vM_31 9 0) (vM_31 10 0) (vM_31 11 0) (vM_31 12 0) (vM_31 13 0))) C 26 rfl (c_X5_p (((vM_31 0) 3) - (1 : Int32)) hq7) V_X5_p k425 t_X5_p rfl rfl ⟨Nat.le_of_ble_eq_true rfl, Nat.le_of_ble_eq_true rfl⟩ (Nat.le_of_ble_eq_true rfl) ⟨Nat.le_refl _, Nat.le_refl _⟩ (isC := []) (isR := [0, 1, 2, 3, 4, 5, 6, 7, 8, 9]) (N := 10) ⟨rfl, by decide +kernel, rfl, by decide +kernel, rfl, ⟨⟨_, rfl, rfl⟩, ⟨⟨_, rfl, rfl⟩, ⟨⟨_, rfl, rfl⟩, ⟨⟨_, rfl, rfl⟩, ⟨⟨_, rfl, rfl⟩, ⟨⟨_, rfl, rfl⟩, ⟨⟨_, rfl, rfl⟩, ⟨⟨_, rfl, rfl⟩, ⟨⟨_, rfl, rfl⟩, ⟨⟨_, rfl, rfl⟩, trivial⟩⟩⟩⟩⟩⟩⟩⟩⟩⟩⟩ rfl ?_
      refine J_icmp_ge (pc := 43) (tgt := 66) C 27 rfl rfl (fun c8 => ?_) (fun c8 => ?_)
      · rw [if_pos c8] at h
        refine J_aload_n (pc := 66) C 40 rfl 0 rfl rfl ?_
        refine J_get (pc := 67) (v := .ref (aM 1)) C 41 rfl TB_l5 rfl 0 0 rfl (by decide) k399 rfl rfl ?_
        refine J_iconst (pc := 70) (v := (3 : Int32)) C 42 rfl rfl ?_
        refine J_dup2 (pc := 71) C 43 rfl rfl rfl ?_
        refine J_iald (pc := 72) (f := (vM_31 0)) (v := ((vM_31 0) 3)) C 44 rfl 1 rfl rfl rfl ?_
        refine J_iconst (pc := 73) (v := (1 : Int32)) C 45 rfl rfl ?_
        refine J_isub (pc := 74) C 46 rfl  ?_
        refine J_iast (pc := 75) (f := (vM_31 0)) (m := 3) C 47 (fun mm vv => (wMod G aM (upd (vM_31 0) mm vv) (vM_31 1) (vM_31 2) (vM_31 3) (vM_31 4) (vM_31 5) (vM_31 6) (vM_31 7) (vM_31 8) (vM_31 9 0) (vM_31 10 0) (vM_31 11 0) (vM_31 12 0) (vM_31 13 0))) rfl 1 rfl rfl rfl (fun _ _ => rfl) ?_
        refine J_aload_n (pc := 76) C 48 rfl 0 rfl rfl ?_
        refine J_iload_n (pc := 77) C 49 rfl 1 rfl rfl ?_
        obtain ⟨q9, hq9, h⟩ := bnd h
        refine J_callV (pc := 78) (st2 := []) (st3 := [.int (q9.1)]) (ws2 := (wMod G aM ((q9.2) 0) ((q9.2) 1) ((q9.2) 2) ((q9.2) 3) ((q9.2) 4) ((q9.2) 5) ((q9.2) 6) ((q9.2) 7) ((q9.2) 8) ((q9.2) 9 0) ((q9.2) 10 0) ((q9.2) 11 0) ((q9.2) 12 0) ((q9.2) 13 0))) C 50 rfl (c_X5_recorded aM (up2 vM_31 0 3 (((vM_31 0) 3) - (1 : Int32))) x2_31 hq9) V_X5_recorded k495 i_X5_recorded s_X5_recorded rfl rfl ⟨Nat.le_of_ble_eq_true rfl, Nat.le_of_ble_eq_true rfl⟩ (Nat.le_of_ble_eq_true rfl) ⟨Nat.le_refl _, Nat.le_refl _⟩ 0 5 rfl rfl rfl (isC := [0, 1, 2, 3, 4, 5, 6, 7, 8, 9]) (isR := []) (N := 10) ⟨rfl, by decide +kernel, rfl, by decide +kernel, rfl, trivial⟩ rfl ?_
        cases h
        exact J_iret (pc := 81) C 51 rfl
      · rw [if_neg c8] at h
        refine J_aload_n (pc := 46) C 28 rfl 0 rfl rfl ?_
        refine J_get (pc := 47) (v := .ref (aM 1)) C 29 rfl TB_l5 rfl 0 0 rfl (by decide) k399 rfl rfl ?_
        refine J_iload_n (pc := 50) C 30 rfl 2 rfl rfl ?_
        refine J_aload_n (pc := 51) C 31 rfl 0 rfl rfl ?_
        refine J_get (pc := 52) (v := .ref (aM 1)) C 32 rfl TB_l5 rfl 0 0 rfl (by decide) k399 rfl rfl ?_
        refine J_iload_n (pc := 55) C 33 rfl 2 rfl rfl ?_
        refine J_iconst (pc := 56) (v := (3 : Int32)) C 34 rfl rfl ?_
        refine J_iadd (pc := 57) C 35 rfl  ?_
        obtain ⟨g10, h⟩ := gd_some h
        refine J_iald (pc := 58) (f := (vM_31 0)) (v := ((vM_31 0) (Int32.toNatClampNeg (x3_31 + (3 : Int32))))) C 36 rfl 1 rfl g10 rfl ?_
        obtain ⟨g11, h⟩ := gd_some h
        refine J_iast (pc := 59) (f := (vM_31 0)) (m := (Int32.toNatClampNeg x3_31)) C 37 (fun mm vv => (wMod G aM (upd (vM_31 0) mm vv) (vM_31 1) (vM_31 2) (vM_31 3) (vM_31 4) (vM_31 5) (vM_31 6) (vM_31 7) (vM_31 8) (vM_31 9 0) (vM_31 10 0) (vM_31 11 0) (vM_31 12 0) (vM_31 13 0))) rfl 1 rfl g11 rfl (fun _ _ => rfl) ?_
        refine J_iinc (pc := 60) (v := (x3_31 + (1 : Int32))) (lv' := [(3, .int (x3_31 + (1 : Int32))), (0, .ref (aM 0)), (2, .int x2_31)]) C 38 rfl 2 rfl rfl (by decide) rfl ?_
        refine J_goto (pc := 63) (tgt := 31) C 39 rfl rfl ?_
        exact J_sub [1, 2, 0] rfl (ih31 (up2 vM_31 0 (Int32.toNatClampNeg x3_31) ((vM_31 0) (Int32.toNatClampNeg (x3_31 + (3 : Int32))))) (x3_31 + (1 : Int32)) h)
  unfold f_X5_leave at h
  refine J_aload_n (pc := 0) C 0 rfl 0 rfl rfl ?_
  refine J_iload_n (pc := 1) C 1 rfl 1 rfl rfl ?_
  obtain ⟨q1, hq1, h⟩ := bnd h
  refine J_callV (pc := 2) (st2 := []) (st3 := [.int q1]) (ws2 := (wMod G aM (vM 0) (vM 1) (vM 2) (vM 3) (vM 4) (vM 5) (vM 6) (vM 7) (vM 8) (vM 9 0) (vM 10 0) (vM 11 0) (vM 12 0) (vM 13 0))) C 2 rfl (c_X5_isPupil aM vM x1 hq1) V_X5_isPupil k506 i_X5_isPupil s_X5_isPupil rfl rfl ⟨Nat.le_of_ble_eq_true rfl, Nat.le_of_ble_eq_true rfl⟩ (Nat.le_of_ble_eq_true rfl) ⟨Nat.le_refl _, Nat.le_refl _⟩ 0 5 rfl rfl rfl (isC := [0, 1, 2, 3, 4, 5, 6, 7, 8, 9]) (isR := []) (N := 10) ⟨rfl, by decide +kernel, rfl, by decide +kernel, rfl, trivial⟩ rfl ?_
  refine J_if_ne (pc := 5) (tgt := 10) C 3 rfl rfl (fun c2 => ?_) (fun c2 => ?_)
  · rw [if_neg c2] at h
    refine J_aload_n (pc := 10) C 6 rfl 0 rfl rfl ?_
    obtain ⟨q3, hq3, h⟩ := bnd h
    refine J_callV (pc := 11) (st2 := []) (st3 := []) (ws2 := (wMod G aM (q3 0) (q3 1) (q3 2) (q3 3) (q3 4) (q3 5) (q3 6) (q3 7) (q3 8) (q3 9 0) (q3 10 0) (q3 11 0) (q3 12 0) (q3 13 0))) C 7 rfl (c_X5_hold aM vM hq3) V_X5_hold k492 i_X5_hold s_X5_hold rfl rfl ⟨Nat.le_of_ble_eq_true rfl, Nat.le_of_ble_eq_true rfl⟩ (Nat.le_of_ble_eq_true rfl) ⟨Nat.le_refl _, Nat.le_refl _⟩ 0 5 rfl rfl rfl (isC := [0, 1, 2, 3, 4, 5, 6, 7, 8, 9]) (isR := []) (N := 10) ⟨rfl, by decide +kernel, rfl, by decide +kernel, rfl, trivial⟩ rfl ?_
    refine J_aload_n (pc := 14) C 8 rfl 0 rfl rfl ?_
    refine J_get (pc := 15) (v := .ref (aM 1)) C 9 rfl TB_l5 rfl 0 0 rfl (by decide) k399 rfl rfl ?_
    refine J_iload_n (pc := 18) C 10 rfl 1 rfl rfl ?_
    obtain ⟨q4, hq4, h⟩ := bnd h
    refine J_callS (pc := 19) (st2 := [.ref (aM 1)]) (st3 := [.int q4, .ref (aM 1)]) (ws2 := (wMod G aM (q3 0) (q3 1) (q3 2) (q3 3) (q3 4) (q3 5) (q3 6) (q3 7) (q3 8) (q3 9 0) (q3 10 0) (q3 11 0) (q3 12 0) (q3 13 0))) C 11 rfl (c_X5_p x1 hq4) V_X5_p k425 t_X5_p rfl rfl ⟨Nat.le_of_ble_eq_true rfl, Nat.le_of_ble_eq_true rfl⟩ (Nat.le_of_ble_eq_true rfl) ⟨Nat.le_refl _, Nat.le_refl _⟩ (isC := []) (isR := [0, 1, 2, 3, 4, 5, 6, 7, 8, 9]) (N := 10) ⟨rfl, by decide +kernel, rfl, by decide +kernel, rfl, ⟨⟨_, rfl, rfl⟩, ⟨⟨_, rfl, rfl⟩, ⟨⟨_, rfl, rfl⟩, ⟨⟨_, rfl, rfl⟩, ⟨⟨_, rfl, rfl⟩, ⟨⟨_, rfl, rfl⟩, ⟨⟨_, rfl, rfl⟩, ⟨⟨_, rfl, rfl⟩, ⟨⟨_, rfl, rfl⟩, ⟨⟨_, rfl, rfl⟩, trivial⟩⟩⟩⟩⟩⟩⟩⟩⟩⟩⟩ rfl ?_
    refine J_iconst (pc := 22) (v := (0 : Int32)) C 12 rfl rfl ?_
    refine J_iadd (pc := 23) C 13 rfl  ?_
    obtain ⟨g5, h⟩ := gd_some h
    refine J_iald (pc := 24) (f := (q3 0)) (v := ((q3 0) (Int32.toNatClampNeg (q4 + (0 : Int32))))) C 14 rfl 1 rfl g5 rfl ?_
    refine J_istore_n (pc := 25) (lv' := [(2, .int ((q3 0) (Int32.toNatClampNeg (q4 + (0 : Int32))))), (0, .ref (aM 0)), (1, .int x1)]) C 15 rfl rfl (by decide) rfl ?_
    refine J_iload_n (pc := 26) C 16 rfl 2 rfl rfl ?_
    obtain ⟨q6, hq6, h⟩ := bnd h
    refine J_callS (pc := 27) (st2 := []) (st3 := [.int q6]) (ws2 := (wMod G aM (q3 0) (q3 1) (q3 2) (q3 3) (q3 4) (q3 5) (q3 6) (q3 7) (q3 8) (q3 9 0) (q3 10 0) (q3 11 0) (q3 12 0) (q3 13 0))) C 17 rfl (c_X5_p x1 hq6) V_X5_p k425 t_X5_p rfl rfl ⟨Nat.le_of_ble_eq_true rfl, Nat.le_of_ble_eq_true rfl⟩ (Nat.le_of_ble_eq_true rfl) ⟨Nat.le_refl _, Nat.le_refl _⟩ (isC := []) (isR := [0, 1, 2, 3, 4, 5, 6, 7, 8, 9]) (N := 10) ⟨rfl, by decide +kernel, rfl, by decide +kernel, rfl, ⟨⟨_, rfl, rfl⟩, ⟨⟨_, rfl, rfl⟩, ⟨⟨_, rfl, rfl⟩, ⟨⟨_, rfl, rfl⟩, ⟨⟨_, rfl, rfl⟩, ⟨⟨_, rfl, rfl⟩, ⟨⟨_, rfl, rfl⟩, ⟨⟨_, rfl, rfl⟩, ⟨⟨_, rfl, rfl⟩, ⟨⟨_, rfl, rfl⟩, trivial⟩⟩⟩⟩⟩⟩⟩⟩⟩⟩⟩ rfl ?_
    refine J_istore_n (pc := 30) (lv' := [(3, .int q6), (2, .int ((q3 0) (Int32.toNatClampNeg (q4 + (0 : Int32))))), (0, .ref (aM 0)), (1, .int x1)]) C 18 rfl rfl (by decide) rfl ?_
    exact J_sub [2, 1, 0] rfl (B31 ((q3 0) (Int32.toNatClampNeg (q4 + (0 : Int32)))) FU q3 q6 h)
  · rw [if_pos c2] at h
    refine J_iconst (pc := 8) (v := (-1 : Int32)) C 4 rfl rfl ?_
    cases h
    exact J_iret (pc := 9) C 5 rfl
def T_X5_hall : List (Nat × ClassFile.Instr × Nat) := [(0, .iload_n 1, 1), (1, .invokestatic 122, 3), (4, .ifCond .ne 5, 3), (7, .iconst (-1), 1), (8, .ireturn, 1), (9, .iload_n 2, 1), (10, .iconst 1, 1), (11, .iconst 4, 1), (12, .invokestatic 39, 3), (15, .ifCond .eq 12, 3), (18, .iload_n 3, 1), (19, .iconst 1, 1), (20, .iconst 4, 1), (21, .invokestatic 39, 3), (24, .ifCond .ne 6, 3), (27, .bipush (-2), 2), (29, .ireturn, 1), (30, .aload_n 0, 1), (31, .invokevirtual 106, 3), (34, .aload_n 0, 1), (35, .iload_n 1, 1), (36, .invokevirtual 71, 3), (39, .istore 4, 2), (41, .aload_n 0, 1), (42, .getfield 7, 3), (45, .iload_n 1, 1), (46, .invokestatic 64, 3), (49, .iconst 0, 1), (50, .iadd, 1), (51, .iload_n 2, 1), (52, .iastore, 1), (53, .aload_n 0, 1), (54, .getfield 7, 3), (57, .iload_n 1, 1), (58, .invokestatic 64, 3), (61, .iconst 1, 1), (62, .iadd, 1), (63, .iload_n 3, 1), (64, .iastore, 1), (65, .aload_n 0, 1), (66, .iload 4, 2), (68, .invokevirtual 109, 3), (71, .ireturn, 1)]
theorem D_X5_hall : ∀ q ∈ T_X5_hall, decode cX5_hall q.1 = .ok q.2 := by decide +kernel
theorem V_X5_hall : Vy yX5_hall cX5_hall 5 (some .int) 3 := ⟨k513, k415, by decide +kernel⟩
theorem i_X5_hall : Cond.instanceMethod yX5_hall ∈ TB := k675
theorem s_X5_hall : Cond.selects yX5_hall.cls yX5_hall yX5_hall ∈ TB := k676
noncomputable def f_X5_hall (vM : JV) (x1 : Int32) (x2 : Int32) (x3 : Int32) : Option (Int32 × JV) :=
  (f_X5_isHall x1).bind (fun q1 => (if q1 = 0 then some ((-1 : Int32), vM) else (f_X5_in x2 (1 : Int32) (4 : Int32)).bind (fun q3 => (if q3 = 0 then some ((-2 : Int32), vM) else (f_X5_in x3 (1 : Int32) (4 : Int32)).bind (fun q5 => (if q5 = 0 then some ((-2 : Int32), vM) else (f_X5_hold vM).bind (fun q7 => (f_X5_desks q7 x1).bind (fun q8 => (f_X5_h x1).bind (fun q9 => gd (inb (q9 + (0 : Int32)) 76) ((f_X5_h x1).bind (fun q11 => gd (inb (q11 + (1 : Int32)) 76) ((f_X5_recorded (up2 (up2 q7 0 (Int32.toNatClampNeg (q9 + (0 : Int32))) x2) 0 (Int32.toNatClampNeg (q11 + (1 : Int32))) x3) q8).bind (fun q13 => some ((q13.1), (q13.2)))))))))))))))
set_option maxRecDepth 100000 in
set_option maxHeartbeats 4000000 in
theorem c_X5_hall {l : Launch} {G : JG} (aM : Nat → Nat) (vM : JV) (x1 : Int32) (x2 : Int32) (x3 : Int32) {Rz : Int32 × JV} (h : f_X5_hall vM x1 x2 x3 = some Rz) : JM l G yX5_hall cX5_hall 5 (some .int) 2 42 [.ref (aM 0), .int x1, .int x2, .int x3] (wMod G aM (vM 0) (vM 1) (vM 2) (vM 3) (vM 4) (vM 5) (vM 6) (vM 7) (vM 8) (vM 9 0) (vM 10 0) (vM 11 0) (vM 12 0) (vM 13 0)) (wMod G aM ((Rz.2) 0) ((Rz.2) 1) ((Rz.2) 2) ((Rz.2) 3) ((Rz.2) 4) ((Rz.2) 5) ((Rz.2) 6) ((Rz.2) 7) ((Rz.2) 8) ((Rz.2) 9 0) ((Rz.2) 10 0) ((Rz.2) 11 0) ((Rz.2) 12 0) ((Rz.2) 13 0)) (some (.int (Rz.1))) := by
  refine JM.of (own := RX5) (tb := T_X5_hall) (by decide) (Nat.le_of_ble_eq_true rfl) D_X5_hall rfl (fun X C => ?_)
  refine J_sub (lv' := [(0, .ref (aM 0)), (1, .int x1), (2, .int x2), (3, .int x3)]) [0, 1, 2, 3] rfl ?_
  unfold f_X5_hall at h
  refine J_iload_n (pc := 0) C 0 rfl 1 rfl rfl ?_
  obtain ⟨q1, hq1, h⟩ := bnd h
  refine J_callS (pc := 1) (st2 := []) (st3 := [.int q1]) (ws2 := (wMod G aM (vM 0) (vM 1) (vM 2) (vM 3) (vM 4) (vM 5) (vM 6) (vM 7) (vM 8) (vM 9 0) (vM 10 0) (vM 11 0) (vM 12 0) (vM 13 0))) C 1 rfl (c_X5_isHall x1 hq1) V_X5_isHall k511 t_X5_isHall rfl rfl ⟨Nat.le_of_ble_eq_true rfl, Nat.le_of_ble_eq_true rfl⟩ (Nat.le_of_ble_eq_true rfl) ⟨Nat.le_refl _, Nat.le_refl _⟩ (isC := []) (isR := [0, 1, 2, 3, 4, 5, 6, 7, 8, 9]) (N := 10) ⟨rfl, by decide +kernel, rfl, by decide +kernel, rfl, ⟨⟨_, rfl, rfl⟩, ⟨⟨_, rfl, rfl⟩, ⟨⟨_, rfl, rfl⟩, ⟨⟨_, rfl, rfl⟩, ⟨⟨_, rfl, rfl⟩, ⟨⟨_, rfl, rfl⟩, ⟨⟨_, rfl, rfl⟩, ⟨⟨_, rfl, rfl⟩, ⟨⟨_, rfl, rfl⟩, ⟨⟨_, rfl, rfl⟩, trivial⟩⟩⟩⟩⟩⟩⟩⟩⟩⟩⟩ rfl ?_
  refine J_if_ne (pc := 4) (tgt := 9) C 2 rfl rfl (fun c2 => ?_) (fun c2 => ?_)
  · rw [if_neg c2] at h
    refine J_iload_n (pc := 9) C 5 rfl 2 rfl rfl ?_
    refine J_iconst (pc := 10) (v := (1 : Int32)) C 6 rfl rfl ?_
    refine J_iconst (pc := 11) (v := (4 : Int32)) C 7 rfl rfl ?_
    obtain ⟨q3, hq3, h⟩ := bnd h
    refine J_callS (pc := 12) (st2 := []) (st3 := [.int q3]) (ws2 := (wMod G aM (vM 0) (vM 1) (vM 2) (vM 3) (vM 4) (vM 5) (vM 6) (vM 7) (vM 8) (vM 9 0) (vM 10 0) (vM 11 0) (vM 12 0) (vM 13 0))) C 8 rfl (c_X5_in x2 (1 : Int32) (4 : Int32) hq3) V_X5_in k413 t_X5_in rfl rfl ⟨Nat.le_of_ble_eq_true rfl, Nat.le_of_ble_eq_true rfl⟩ (Nat.le_of_ble_eq_true rfl) ⟨Nat.le_refl _, Nat.le_refl _⟩ (isC := []) (isR := [0, 1, 2, 3, 4, 5, 6, 7, 8, 9]) (N := 10) ⟨rfl, by decide +kernel, rfl, by decide +kernel, rfl, ⟨⟨_, rfl, rfl⟩, ⟨⟨_, rfl, rfl⟩, ⟨⟨_, rfl, rfl⟩, ⟨⟨_, rfl, rfl⟩, ⟨⟨_, rfl, rfl⟩, ⟨⟨_, rfl, rfl⟩, ⟨⟨_, rfl, rfl⟩, ⟨⟨_, rfl, rfl⟩, ⟨⟨_, rfl, rfl⟩, ⟨⟨_, rfl, rfl⟩, trivial⟩⟩⟩⟩⟩⟩⟩⟩⟩⟩⟩ rfl ?_
    refine J_if_eq (pc := 15) (tgt := 27) C 9 rfl rfl (fun c4 => ?_) (fun c4 => ?_)
    · rw [if_pos c4] at h
      refine J_bipush (pc := 27) (v := (-2 : Int32)) C 15 rfl rfl ?_
      cases h
      exact J_iret (pc := 29) C 16 rfl
    · rw [if_neg c4] at h
      refine J_iload_n (pc := 18) C 10 rfl 3 rfl rfl ?_
      refine J_iconst (pc := 19) (v := (1 : Int32)) C 11 rfl rfl ?_
      refine J_iconst (pc := 20) (v := (4 : Int32)) C 12 rfl rfl ?_
      obtain ⟨q5, hq5, h⟩ := bnd h
      refine J_callS (pc := 21) (st2 := []) (st3 := [.int q5]) (ws2 := (wMod G aM (vM 0) (vM 1) (vM 2) (vM 3) (vM 4) (vM 5) (vM 6) (vM 7) (vM 8) (vM 9 0) (vM 10 0) (vM 11 0) (vM 12 0) (vM 13 0))) C 13 rfl (c_X5_in x3 (1 : Int32) (4 : Int32) hq5) V_X5_in k413 t_X5_in rfl rfl ⟨Nat.le_of_ble_eq_true rfl, Nat.le_of_ble_eq_true rfl⟩ (Nat.le_of_ble_eq_true rfl) ⟨Nat.le_refl _, Nat.le_refl _⟩ (isC := []) (isR := [0, 1, 2, 3, 4, 5, 6, 7, 8, 9]) (N := 10) ⟨rfl, by decide +kernel, rfl, by decide +kernel, rfl, ⟨⟨_, rfl, rfl⟩, ⟨⟨_, rfl, rfl⟩, ⟨⟨_, rfl, rfl⟩, ⟨⟨_, rfl, rfl⟩, ⟨⟨_, rfl, rfl⟩, ⟨⟨_, rfl, rfl⟩, ⟨⟨_, rfl, rfl⟩, ⟨⟨_, rfl, rfl⟩, ⟨⟨_, rfl, rfl⟩, ⟨⟨_, rfl, rfl⟩, trivial⟩⟩⟩⟩⟩⟩⟩⟩⟩⟩⟩ rfl ?_
      refine J_if_ne (pc := 24) (tgt := 30) C 14 rfl rfl (fun c6 => ?_) (fun c6 => ?_)
      · rw [if_neg c6] at h
        refine J_aload_n (pc := 30) C 17 rfl 0 rfl rfl ?_
        obtain ⟨q7, hq7, h⟩ := bnd h
        refine J_callV (pc := 31) (st2 := []) (st3 := []) (ws2 := (wMod G aM (q7 0) (q7 1) (q7 2) (q7 3) (q7 4) (q7 5) (q7 6) (q7 7) (q7 8) (q7 9 0) (q7 10 0) (q7 11 0) (q7 12 0) (q7 13 0))) C 18 rfl (c_X5_hold aM vM hq7) V_X5_hold k492 i_X5_hold s_X5_hold rfl rfl ⟨Nat.le_of_ble_eq_true rfl, Nat.le_of_ble_eq_true rfl⟩ (Nat.le_of_ble_eq_true rfl) ⟨Nat.le_refl _, Nat.le_refl _⟩ 0 5 rfl rfl rfl (isC := [0, 1, 2, 3, 4, 5, 6, 7, 8, 9]) (isR := []) (N := 10) ⟨rfl, by decide +kernel, rfl, by decide +kernel, rfl, trivial⟩ rfl ?_
        refine J_aload_n (pc := 34) C 19 rfl 0 rfl rfl ?_
        refine J_iload_n (pc := 35) C 20 rfl 1 rfl rfl ?_
        obtain ⟨q8, hq8, h⟩ := bnd h
        refine J_callV (pc := 36) (st2 := []) (st3 := [.int q8]) (ws2 := (wMod G aM (q7 0) (q7 1) (q7 2) (q7 3) (q7 4) (q7 5) (q7 6) (q7 7) (q7 8) (q7 9 0) (q7 10 0) (q7 11 0) (q7 12 0) (q7 13 0))) C 21 rfl (c_X5_desks aM q7 x1 hq8) V_X5_desks k451 i_X5_desks s_X5_desks rfl rfl ⟨Nat.le_of_ble_eq_true rfl, Nat.le_of_ble_eq_true rfl⟩ (Nat.le_of_ble_eq_true rfl) ⟨Nat.le_refl _, Nat.le_refl _⟩ 0 5 rfl rfl rfl (isC := [0, 1, 2, 3, 4, 5, 6, 7, 8, 9]) (isR := []) (N := 10) ⟨rfl, by decide +kernel, rfl, by decide +kernel, rfl, trivial⟩ rfl ?_
        refine J_istore (pc := 39) (lv' := [(4, .int q8), (0, .ref (aM 0)), (1, .int x1), (2, .int x2), (3, .int x3)]) C 22 rfl (by decide) rfl ?_
        refine J_aload_n (pc := 41) C 23 rfl 1 rfl rfl ?_
        refine J_get (pc := 42) (v := .ref (aM 1)) C 24 rfl TB_l5 rfl 0 0 rfl (by decide) k399 rfl rfl ?_
        refine J_iload_n (pc := 45) C 25 rfl 2 rfl rfl ?_
        obtain ⟨q9, hq9, h⟩ := bnd h
        refine J_callS (pc := 46) (st2 := [.ref (aM 1)]) (st3 := [.int q9, .ref (aM 1)]) (ws2 := (wMod G aM (q7 0) (q7 1) (q7 2) (q7 3) (q7 4) (q7 5) (q7 6) (q7 7) (q7 8) (q7 9 0) (q7 10 0) (q7 11 0) (q7 12 0) (q7 13 0))) C 26 rfl (c_X5_h x1 hq9) V_X5_h k444 t_X5_h rfl rfl ⟨Nat.le_of_ble_eq_true rfl, Nat.le_of_ble_eq_true rfl⟩ (Nat.le_of_ble_eq_true rfl) ⟨Nat.le_refl _, Nat.le_refl _⟩ (isC := []) (isR := [0, 1, 2, 3, 4, 5, 6, 7, 8, 9]) (N := 10) ⟨rfl, by decide +kernel, rfl, by decide +kernel, rfl, ⟨⟨_, rfl, rfl⟩, ⟨⟨_, rfl, rfl⟩, ⟨⟨_, rfl, rfl⟩, ⟨⟨_, rfl, rfl⟩, ⟨⟨_, rfl, rfl⟩, ⟨⟨_, rfl, rfl⟩, ⟨⟨_, rfl, rfl⟩, ⟨⟨_, rfl, rfl⟩, ⟨⟨_, rfl, rfl⟩, ⟨⟨_, rfl, rfl⟩, trivial⟩⟩⟩⟩⟩⟩⟩⟩⟩⟩⟩ rfl ?_
        refine J_iconst (pc := 49) (v := (0 : Int32)) C 27 rfl rfl ?_
        refine J_iadd (pc := 50) C 28 rfl  ?_
        refine J_iload_n (pc := 51) C 29 rfl 3 rfl rfl ?_
        obtain ⟨g10, h⟩ := gd_some h
        refine J_iast (pc := 52) (f := (q7 0)) (m := (Int32.toNatClampNeg (q9 + (0 : Int32)))) C 30 (fun mm vv => (wMod G aM (upd (q7 0) mm vv) (q7 1) (q7 2) (q7 3) (q7 4) (q7 5) (q7 6) (q7 7) (q7 8) (q7 9 0) (q7 10 0) (q7 11 0) (q7 12 0) (q7 13 0))) rfl 1 rfl g10 rfl (fun _ _ => rfl) ?_
        refine J_aload_n (pc := 53) C 31 rfl 1 rfl rfl ?_
        refine J_get (pc := 54) (v := .ref (aM 1)) C 32 rfl TB_l5 rfl 0 0 rfl (by decide) k399 rfl rfl ?_
        refine J_iload_n (pc := 57) C 33 rfl 2 rfl rfl ?_
        obtain ⟨q11, hq11, h⟩ := bnd h
        refine J_callS (pc := 58) (st2 := [.ref (aM 1)]) (st3 := [.int q11, .ref (aM 1)]) (ws2 := (wMod G aM (upd (q7 0) (Int32.toNatClampNeg (q9 + (0 : Int32))) x2) (q7 1) (q7 2) (q7 3) (q7 4) (q7 5) (q7 6) (q7 7) (q7 8) (q7 9 0) (q7 10 0) (q7 11 0) (q7 12 0) (q7 13 0))) C 34 rfl (c_X5_h x1 hq11) V_X5_h k444 t_X5_h rfl rfl ⟨Nat.le_of_ble_eq_true rfl, Nat.le_of_ble_eq_true rfl⟩ (Nat.le_of_ble_eq_true rfl) ⟨Nat.le_refl _, Nat.le_refl _⟩ (isC := []) (isR := [0, 1, 2, 3, 4, 5, 6, 7, 8, 9]) (N := 10) ⟨rfl, by decide +kernel, rfl, by decide +kernel, rfl, ⟨⟨_, rfl, rfl⟩, ⟨⟨_, rfl, rfl⟩, ⟨⟨_, rfl, rfl⟩, ⟨⟨_, rfl, rfl⟩, ⟨⟨_, rfl, rfl⟩, ⟨⟨_, rfl, rfl⟩, ⟨⟨_, rfl, rfl⟩, ⟨⟨_, rfl, rfl⟩, ⟨⟨_, rfl, rfl⟩, ⟨⟨_, rfl, rfl⟩, trivial⟩⟩⟩⟩⟩⟩⟩⟩⟩⟩⟩ rfl ?_
        refine J_iconst (pc := 61) (v := (1 : Int32)) C 35 rfl rfl ?_
        refine J_iadd (pc := 62) C 36 rfl  ?_
        refine J_iload_n (pc := 63) C 37 rfl 4 rfl rfl ?_
        obtain ⟨g12, h⟩ := gd_some h
        refine J_iast (pc := 64) (f := (upd (q7 0) (Int32.toNatClampNeg (q9 + (0 : Int32))) x2)) (m := (Int32.toNatClampNeg (q11 + (1 : Int32)))) C 38 (fun mm vv => (wMod G aM (upd (upd (q7 0) (Int32.toNatClampNeg (q9 + (0 : Int32))) x2) mm vv) (q7 1) (q7 2) (q7 3) (q7 4) (q7 5) (q7 6) (q7 7) (q7 8) (q7 9 0) (q7 10 0) (q7 11 0) (q7 12 0) (q7 13 0))) rfl 1 rfl g12 rfl (fun _ _ => rfl) ?_
        refine J_aload_n (pc := 65) C 39 rfl 1 rfl rfl ?_
        refine J_iload (pc := 66) C 40 rfl 0 rfl ?_
        obtain ⟨q13, hq13, h⟩ := bnd h
        refine J_callV (pc := 68) (st2 := []) (st3 := [.int (q13.1)]) (ws2 := (wMod G aM ((q13.2) 0) ((q13.2) 1) ((q13.2) 2) ((q13.2) 3) ((q13.2) 4) ((q13.2) 5) ((q13.2) 6) ((q13.2) 7) ((q13.2) 8) ((q13.2) 9 0) ((q13.2) 10 0) ((q13.2) 11 0) ((q13.2) 12 0) ((q13.2) 13 0))) C 41 rfl (c_X5_recorded aM (up2 (up2 q7 0 (Int32.toNatClampNeg (q9 + (0 : Int32))) x2) 0 (Int32.toNatClampNeg (q11 + (1 : Int32))) x3) q8 hq13) V_X5_recorded k495 i_X5_recorded s_X5_recorded rfl rfl ⟨Nat.le_of_ble_eq_true rfl, Nat.le_of_ble_eq_true rfl⟩ (Nat.le_of_ble_eq_true rfl) ⟨Nat.le_refl _, Nat.le_refl _⟩ 0 5 rfl rfl rfl (isC := [0, 1, 2, 3, 4, 5, 6, 7, 8, 9]) (isR := []) (N := 10) ⟨rfl, by decide +kernel, rfl, by decide +kernel, rfl, trivial⟩ rfl ?_
        cases h
        exact J_iret (pc := 71) C 42 rfl
      · rw [if_pos c6] at h
        refine J_bipush (pc := 27) (v := (-2 : Int32)) C 15 rfl rfl ?_
        cases h
        exact J_iret (pc := 29) C 16 rfl
  · rw [if_pos c2] at h
    refine J_iconst (pc := 7) (v := (-1 : Int32)) C 3 rfl rfl ?_
    cases h
    exact J_iret (pc := 8) C 4 rfl
def T_X5_open : List (Nat × ClassFile.Instr × Nat) := [(0, .iload_n 1, 1), (1, .invokestatic 122, 3), (4, .ifCond .ne 5, 3), (7, .iconst (-1), 1), (8, .ireturn, 1), (9, .aload_n 0, 1), (10, .getfield 7, 3), (13, .iload_n 1, 1), (14, .invokestatic 64, 3), (17, .iconst 2, 1), (18, .iadd, 1), (19, .iaload, 1), (20, .iconst 1, 1), (21, .if_icmp .ne 7, 3), (24, .iconst 1, 1), (25, .goto 4, 3), (28, .iconst 0, 1), (29, .iload_n 2, 1), (30, .if_icmp .ne 6, 3), (33, .bipush (-5), 2), (35, .ireturn, 1), (36, .aload_n 0, 1), (37, .invokevirtual 106, 3), (40, .aload_n 0, 1), (41, .getfield 7, 3), (44, .iload_n 1, 1), (45, .invokestatic 64, 3), (48, .iconst 2, 1), (49, .iadd, 1), (50, .iload_n 2, 1), (51, .ifCond .eq 7, 3), (54, .iconst 1, 1), (55, .goto 4, 3), (58, .iconst 0, 1), (59, .iastore, 1), (60, .aload_n 0, 1), (61, .aload_n 0, 1), (62, .iconst 0, 1), (63, .invokevirtual 125, 3), (66, .invokevirtual 109, 3), (69, .ireturn, 1)]
theorem D_X5_open : ∀ q ∈ T_X5_open, decode cX5_open q.1 = .ok q.2 := by decide +kernel
theorem V_X5_open : Vy yX5_open cX5_open 3 (some .int) 2 := ⟨k517, k415, by decide +kernel⟩
theorem i_X5_open : Cond.instanceMethod yX5_open ∈ TB := k681
theorem s_X5_open : Cond.selects yX5_open.cls yX5_open yX5_open ∈ TB := k682
noncomputable def f_X5_open_K59  (vM_59 : JV) (y2_59 : Int32) (y1_59 : Int32) : Option (Int32 × JV) :=
  gd (inb y1_59 76) ((f_X5_without (up2 vM_59 0 (Int32.toNatClampNeg y1_59) y2_59) (0 : Int32)).bind (fun q11 => (f_X5_recorded (q11.2) (q11.1)).bind (fun q12 => some ((q12.1), (q12.2)))))
noncomputable def f_X5_open_K29  (vM_29 : JV) (x1_29 : Int32) (x2_29 : Int32) (y0_29 : Int32) : Option (Int32 × JV) :=
  (if y0_29 = x2_29 then some ((-5 : Int32), vM_29) else (f_X5_hold vM_29).bind (fun q7 => (f_X5_h x1_29).bind (fun q8 => (if x2_29 = 0 then f_X5_open_K59  q7 (0 : Int32) (q8 + (2 : Int32)) else f_X5_open_K59  q7 (1 : Int32) (q8 + (2 : Int32))))))
noncomputable def f_X5_open (vM : JV) (x1 : Int32) (x2 : Int32) : Option (Int32 × JV) :=
  (f_X5_isHall x1).bind (fun q1 => (if q1 = 0 then some ((-1 : Int32), vM) else (f_X5_h x1).bind (fun q3 => gd (inb (q3 + (2 : Int32)) 76) ((if ((vM 0) (Int32.toNatClampNeg (q3 + (2 : Int32)))) = (1 : Int32) then f_X5_open_K29  vM x1 x2 (1 : Int32) else f_X5_open_K29  vM x1 x2 (0 : Int32))))))
set_option maxRecDepth 100000 in
set_option maxHeartbeats 4000000 in
theorem c_X5_open {l : Launch} {G : JG} (aM : Nat → Nat) (vM : JV) (x1 : Int32) (x2 : Int32) {Rz : Int32 × JV} (h : f_X5_open vM x1 x2 = some Rz) : JM l G yX5_open cX5_open 3 (some .int) 7 156 [.ref (aM 0), .int x1, .int x2] (wMod G aM (vM 0) (vM 1) (vM 2) (vM 3) (vM 4) (vM 5) (vM 6) (vM 7) (vM 8) (vM 9 0) (vM 10 0) (vM 11 0) (vM 12 0) (vM 13 0)) (wMod G aM ((Rz.2) 0) ((Rz.2) 1) ((Rz.2) 2) ((Rz.2) 3) ((Rz.2) 4) ((Rz.2) 5) ((Rz.2) 6) ((Rz.2) 7) ((Rz.2) 8) ((Rz.2) 9 0) ((Rz.2) 10 0) ((Rz.2) 11 0) ((Rz.2) 12 0) ((Rz.2) 13 0)) (some (.int (Rz.1))) := by
  refine JM.of (own := RX5) (tb := T_X5_open) (by decide) (Nat.le_of_ble_eq_true rfl) D_X5_open rfl (fun X C => ?_)
  refine J_sub (lv' := [(0, .ref (aM 0)), (1, .int x1), (2, .int x2)]) [0, 1, 2] rfl ?_
  have B59 : ∀ (vM_59 : JV) (y2_59 : Int32) (y1_59 : Int32), f_X5_open_K59  vM_59 y2_59 y1_59 = some Rz → J l { frames := 7, cells := 0, slots := 0, locals := 156 } G 3 X (QM X G 0 0 (some (.int (Rz.1))) (wMod G aM ((Rz.2) 0) ((Rz.2) 1) ((Rz.2) 2) ((Rz.2) 3) ((Rz.2) 4) ((Rz.2) 5) ((Rz.2) 6) ((Rz.2) 7) ((Rz.2) 8) ((Rz.2) 9 0) ((Rz.2) 10 0) ((Rz.2) 11 0) ((Rz.2) 12 0) ((Rz.2) 13 0))) 0 0 59 [(0, .ref (aM 0))] [.int y2_59, .int y1_59, .ref (aM 1)] (wMod G aM (vM_59 0) (vM_59 1) (vM_59 2) (vM_59 3) (vM_59 4) (vM_59 5) (vM_59 6) (vM_59 7) (vM_59 8) (vM_59 9 0) (vM_59 10 0) (vM_59 11 0) (vM_59 12 0) (vM_59 13 0)) := by
    intro vM_59 y2_59 y1_59 h
    unfold f_X5_open_K59 at h
    obtain ⟨g10, h⟩ := gd_some h
    refine J_iast (pc := 59) (f := (vM_59 0)) (m := (Int32.toNatClampNeg y1_59)) C 34 (fun mm vv => (wMod G aM (upd (vM_59 0) mm vv) (vM_59 1) (vM_59 2) (vM_59 3) (vM_59 4) (vM_59 5) (vM_59 6) (vM_59 7) (vM_59 8) (vM_59 9 0) (vM_59 10 0) (vM_59 11 0) (vM_59 12 0) (vM_59 13 0))) rfl 1 rfl g10 rfl (fun _ _ => rfl) ?_
    refine J_aload_n (pc := 60) C 35 rfl 0 rfl rfl ?_
    refine J_aload_n (pc := 61) C 36 rfl 0 rfl rfl ?_
    refine J_iconst (pc := 62) (v := (0 : Int32)) C 37 rfl rfl ?_
    obtain ⟨q11, hq11, h⟩ := bnd h
    refine J_callV (pc := 63) (st2 := [.ref (aM 0)]) (st3 := [.int (q11.1), .ref (aM 0)]) (ws2 := (wMod G aM ((q11.2) 0) ((q11.2) 1) ((q11.2) 2) ((q11.2) 3) ((q11.2) 4) ((q11.2) 5) ((q11.2) 6) ((q11.2) 7) ((q11.2) 8) ((q11.2) 9 0) ((q11.2) 10 0) ((q11.2) 11 0) ((q11.2) 12 0) ((q11.2) 13 0))) C 38 rfl (c_X5_without aM (up2 vM_59 0 (Int32.toNatClampNeg y1_59) y2_59) (0 : Int32) hq11) V_X5_without k514 i_X5_without s_X5_without rfl rfl ⟨Nat.le_of_ble_eq_true rfl, Nat.le_of_ble_eq_true rfl⟩ (Nat.le_of_ble_eq_true rfl) ⟨Nat.le_refl _, Nat.le_refl _⟩ 0 5 rfl rfl rfl (isC := [0, 1, 2, 3, 4, 5, 6, 7, 8, 9]) (isR := []) (N := 10) ⟨rfl, by decide +kernel, rfl, by decide +kernel, rfl, trivial⟩ rfl ?_
    obtain ⟨q12, hq12, h⟩ := bnd h
    refine J_callV (pc := 66) (st2 := []) (st3 := [.int (q12.1)]) (ws2 := (wMod G aM ((q12.2) 0) ((q12.2) 1) ((q12.2) 2) ((q12.2) 3) ((q12.2) 4) ((q12.2) 5) ((q12.2) 6) ((q12.2) 7) ((q12.2) 8) ((q12.2) 9 0) ((q12.2) 10 0) ((q12.2) 11 0) ((q12.2) 12 0) ((q12.2) 13 0))) C 39 rfl (c_X5_recorded aM (q11.2) (q11.1) hq12) V_X5_recorded k495 i_X5_recorded s_X5_recorded rfl rfl ⟨Nat.le_of_ble_eq_true rfl, Nat.le_of_ble_eq_true rfl⟩ (Nat.le_of_ble_eq_true rfl) ⟨Nat.le_refl _, Nat.le_refl _⟩ 0 5 rfl rfl rfl (isC := [0, 1, 2, 3, 4, 5, 6, 7, 8, 9]) (isR := []) (N := 10) ⟨rfl, by decide +kernel, rfl, by decide +kernel, rfl, trivial⟩ rfl ?_
    cases h
    exact J_iret (pc := 69) C 40 rfl
  have B29 : ∀ (vM_29 : JV) (x1_29 : Int32) (x2_29 : Int32) (y0_29 : Int32), f_X5_open_K29  vM_29 x1_29 x2_29 y0_29 = some Rz → J l { frames := 7, cells := 0, slots := 0, locals := 156 } G 3 X (QM X G 0 0 (some (.int (Rz.1))) (wMod G aM ((Rz.2) 0) ((Rz.2) 1) ((Rz.2) 2) ((Rz.2) 3) ((Rz.2) 4) ((Rz.2) 5) ((Rz.2) 6) ((Rz.2) 7) ((Rz.2) 8) ((Rz.2) 9 0) ((Rz.2) 10 0) ((Rz.2) 11 0) ((Rz.2) 12 0) ((Rz.2) 13 0))) 0 0 29 [(0, .ref (aM 0)), (1, .int x1_29), (2, .int x2_29)] [.int y0_29] (wMod G aM (vM_29 0) (vM_29 1) (vM_29 2) (vM_29 3) (vM_29 4) (vM_29 5) (vM_29 6) (vM_29 7) (vM_29 8) (vM_29 9 0) (vM_29 10 0) (vM_29 11 0) (vM_29 12 0) (vM_29 13 0)) := by
    intro vM_29 x1_29 x2_29 y0_29 h
    unfold f_X5_open_K29 at h
    refine J_iload_n (pc := 29) C 17 rfl 2 rfl rfl ?_
    refine J_icmp_ne (pc := 30) (tgt := 36) C 18 rfl rfl (fun c6 => ?_) (fun c6 => ?_)
    · rw [if_neg c6] at h
      refine J_aload_n (pc := 36) C 21 rfl 0 rfl rfl ?_
      obtain ⟨q7, hq7, h⟩ := bnd h
      refine J_callV (pc := 37) (st2 := []) (st3 := []) (ws2 := (wMod G aM (q7 0) (q7 1) (q7 2) (q7 3) (q7 4) (q7 5) (q7 6) (q7 7) (q7 8) (q7 9 0) (q7 10 0) (q7 11 0) (q7 12 0) (q7 13 0))) C 22 rfl (c_X5_hold aM vM_29 hq7) V_X5_hold k492 i_X5_hold s_X5_hold rfl rfl ⟨Nat.le_of_ble_eq_true rfl, Nat.le_of_ble_eq_true rfl⟩ (Nat.le_of_ble_eq_true rfl) ⟨Nat.le_refl _, Nat.le_refl _⟩ 0 5 rfl rfl rfl (isC := [0, 1, 2, 3, 4, 5, 6, 7, 8, 9]) (isR := []) (N := 10) ⟨rfl, by decide +kernel, rfl, by decide +kernel, rfl, trivial⟩ rfl ?_
      refine J_aload_n (pc := 40) C 23 rfl 0 rfl rfl ?_
      refine J_get (pc := 41) (v := .ref (aM 1)) C 24 rfl TB_l5 rfl 0 0 rfl (by decide) k399 rfl rfl ?_
      refine J_iload_n (pc := 44) C 25 rfl 1 rfl rfl ?_
      obtain ⟨q8, hq8, h⟩ := bnd h
      refine J_callS (pc := 45) (st2 := [.ref (aM 1)]) (st3 := [.int q8, .ref (aM 1)]) (ws2 := (wMod G aM (q7 0) (q7 1) (q7 2) (q7 3) (q7 4) (q7 5) (q7 6) (q7 7) (q7 8) (q7 9 0) (q7 10 0) (q7 11 0) (q7 12 0) (q7 13 0))) C 26 rfl (c_X5_h x1_29 hq8) V_X5_h k444 t_X5_h rfl rfl ⟨Nat.le_of_ble_eq_true rfl, Nat.le_of_ble_eq_true rfl⟩ (Nat.le_of_ble_eq_true rfl) ⟨Nat.le_refl _, Nat.le_refl _⟩ (isC := []) (isR := [0, 1, 2, 3, 4, 5, 6, 7, 8, 9]) (N := 10) ⟨rfl, by decide +kernel, rfl, by decide +kernel, rfl, ⟨⟨_, rfl, rfl⟩, ⟨⟨_, rfl, rfl⟩, ⟨⟨_, rfl, rfl⟩, ⟨⟨_, rfl, rfl⟩, ⟨⟨_, rfl, rfl⟩, ⟨⟨_, rfl, rfl⟩, ⟨⟨_, rfl, rfl⟩, ⟨⟨_, rfl, rfl⟩, ⟨⟨_, rfl, rfl⟩, ⟨⟨_, rfl, rfl⟩, trivial⟩⟩⟩⟩⟩⟩⟩⟩⟩⟩⟩ rfl ?_
      refine J_iconst (pc := 48) (v := (2 : Int32)) C 27 rfl rfl ?_
      refine J_iadd (pc := 49) C 28 rfl  ?_
      refine J_iload_n (pc := 50) C 29 rfl 2 rfl rfl ?_
      refine J_if_eq (pc := 51) (tgt := 58) C 30 rfl rfl (fun c9 => ?_) (fun c9 => ?_)
      · rw [if_pos c9] at h
        refine J_iconst (pc := 58) (v := (0 : Int32)) C 33 rfl rfl ?_
        exact J_sub [0] rfl (B59 q7 (0 : Int32) (q8 + (2 : Int32)) h)
      · rw [if_neg c9] at h
        refine J_iconst (pc := 54) (v := (1 : Int32)) C 31 rfl rfl ?_
        refine J_goto (pc := 55) (tgt := 59) C 32 rfl rfl ?_
        exact J_sub [0] rfl (B59 q7 (1 : Int32) (q8 + (2 : Int32)) h)
    · rw [if_pos c6] at h
      refine J_bipush (pc := 33) (v := (-5 : Int32)) C 19 rfl rfl ?_
      cases h
      exact J_iret (pc := 35) C 20 rfl
  unfold f_X5_open at h
  refine J_iload_n (pc := 0) C 0 rfl 1 rfl rfl ?_
  obtain ⟨q1, hq1, h⟩ := bnd h
  refine J_callS (pc := 1) (st2 := []) (st3 := [.int q1]) (ws2 := (wMod G aM (vM 0) (vM 1) (vM 2) (vM 3) (vM 4) (vM 5) (vM 6) (vM 7) (vM 8) (vM 9 0) (vM 10 0) (vM 11 0) (vM 12 0) (vM 13 0))) C 1 rfl (c_X5_isHall x1 hq1) V_X5_isHall k511 t_X5_isHall rfl rfl ⟨Nat.le_of_ble_eq_true rfl, Nat.le_of_ble_eq_true rfl⟩ (Nat.le_of_ble_eq_true rfl) ⟨Nat.le_refl _, Nat.le_refl _⟩ (isC := []) (isR := [0, 1, 2, 3, 4, 5, 6, 7, 8, 9]) (N := 10) ⟨rfl, by decide +kernel, rfl, by decide +kernel, rfl, ⟨⟨_, rfl, rfl⟩, ⟨⟨_, rfl, rfl⟩, ⟨⟨_, rfl, rfl⟩, ⟨⟨_, rfl, rfl⟩, ⟨⟨_, rfl, rfl⟩, ⟨⟨_, rfl, rfl⟩, ⟨⟨_, rfl, rfl⟩, ⟨⟨_, rfl, rfl⟩, ⟨⟨_, rfl, rfl⟩, ⟨⟨_, rfl, rfl⟩, trivial⟩⟩⟩⟩⟩⟩⟩⟩⟩⟩⟩ rfl ?_
  refine J_if_ne (pc := 4) (tgt := 9) C 2 rfl rfl (fun c2 => ?_) (fun c2 => ?_)
  · rw [if_neg c2] at h
    refine J_aload_n (pc := 9) C 5 rfl 0 rfl rfl ?_
    refine J_get (pc := 10) (v := .ref (aM 1)) C 6 rfl TB_l5 rfl 0 0 rfl (by decide) k399 rfl rfl ?_
    refine J_iload_n (pc := 13) C 7 rfl 1 rfl rfl ?_
    obtain ⟨q3, hq3, h⟩ := bnd h
    refine J_callS (pc := 14) (st2 := [.ref (aM 1)]) (st3 := [.int q3, .ref (aM 1)]) (ws2 := (wMod G aM (vM 0) (vM 1) (vM 2) (vM 3) (vM 4) (vM 5) (vM 6) (vM 7) (vM 8) (vM 9 0) (vM 10 0) (vM 11 0) (vM 12 0) (vM 13 0))) C 8 rfl (c_X5_h x1 hq3) V_X5_h k444 t_X5_h rfl rfl ⟨Nat.le_of_ble_eq_true rfl, Nat.le_of_ble_eq_true rfl⟩ (Nat.le_of_ble_eq_true rfl) ⟨Nat.le_refl _, Nat.le_refl _⟩ (isC := []) (isR := [0, 1, 2, 3, 4, 5, 6, 7, 8, 9]) (N := 10) ⟨rfl, by decide +kernel, rfl, by decide +kernel, rfl, ⟨⟨_, rfl, rfl⟩, ⟨⟨_, rfl, rfl⟩, ⟨⟨_, rfl, rfl⟩, ⟨⟨_, rfl, rfl⟩, ⟨⟨_, rfl, rfl⟩, ⟨⟨_, rfl, rfl⟩, ⟨⟨_, rfl, rfl⟩, ⟨⟨_, rfl, rfl⟩, ⟨⟨_, rfl, rfl⟩, ⟨⟨_, rfl, rfl⟩, trivial⟩⟩⟩⟩⟩⟩⟩⟩⟩⟩⟩ rfl ?_
    refine J_iconst (pc := 17) (v := (2 : Int32)) C 9 rfl rfl ?_
    refine J_iadd (pc := 18) C 10 rfl  ?_
    obtain ⟨g4, h⟩ := gd_some h
    refine J_iald (pc := 19) (f := (vM 0)) (v := ((vM 0) (Int32.toNatClampNeg (q3 + (2 : Int32))))) C 11 rfl 1 rfl g4 rfl ?_
    refine J_iconst (pc := 20) (v := (1 : Int32)) C 12 rfl rfl ?_
    refine J_icmp_ne (pc := 21) (tgt := 28) C 13 rfl rfl (fun c5 => ?_) (fun c5 => ?_)
    · rw [if_neg c5] at h
      refine J_iconst (pc := 28) (v := (0 : Int32)) C 16 rfl rfl ?_
      exact J_sub [0, 1, 2] rfl (B29 vM x1 x2 (0 : Int32) h)
    · rw [if_pos c5] at h
      refine J_iconst (pc := 24) (v := (1 : Int32)) C 14 rfl rfl ?_
      refine J_goto (pc := 25) (tgt := 29) C 15 rfl rfl ?_
      exact J_sub [0, 1, 2] rfl (B29 vM x1 x2 (1 : Int32) h)
  · rw [if_pos c2] at h
    refine J_iconst (pc := 7) (v := (-1 : Int32)) C 3 rfl rfl ?_
    cases h
    exact J_iret (pc := 8) C 4 rfl
def T_X5_isSign : List (Nat × ClassFile.Instr × Nat) := [(0, .aload_n 0, 1), (1, .getfield 128, 3), (4, .aload_n 0, 1), (5, .getfield 131, 3), (8, .if_icmp .ge 33, 3), (11, .aload_n 0, 1), (12, .getfield 35, 3), (15, .aload_n 0, 1), (16, .getfield 128, 3), (19, .caload, 1), (20, .iload_n 1, 1), (21, .if_icmp .lt 20, 3), (24, .aload_n 0, 1), (25, .getfield 35, 3), (28, .aload_n 0, 1), (29, .getfield 128, 3), (32, .caload, 1), (33, .iload_n 2, 1), (34, .if_icmp .gt 7, 3), (37, .iconst 1, 1), (38, .goto 4, 3), (41, .iconst 0, 1), (42, .ireturn, 1)]
theorem D_X5_isSign : ∀ q ∈ T_X5_isSign, decode cX5_isSign q.1 = .ok q.2 := by decide +kernel
theorem V_X5_isSign : Vy yX5_isSign cX5_isSign 3 (some .boolean) 2 := ⟨k518, k415, by decide +kernel⟩
theorem i_X5_isSign : Cond.instanceMethod yX5_isSign ∈ TB := k523
theorem s_X5_isSign : Cond.selects yX5_isSign.cls yX5_isSign yX5_isSign ∈ TB := k524
noncomputable def f_X5_isSign (vM : JV) (x1 : Int32) (x2 : Int32) : Option (Int32) :=
  (if (vM 10 0) ≤ (vM 13 0) then some (0 : Int32) else gd (inb (vM 13 0) 60) ((if ((vM 8) (Int32.toNatClampNeg (vM 13 0))) < x1 then some (0 : Int32) else gd (inb (vM 13 0) 60) ((if x2 < ((vM 8) (Int32.toNatClampNeg (vM 13 0))) then some (0 : Int32) else some (1 : Int32))))))
set_option maxRecDepth 100000 in
set_option maxHeartbeats 4000000 in
theorem c_X5_isSign {l : Launch} {G : JG} (aM : Nat → Nat) (vM : JV) (x1 : Int32) (x2 : Int32) {Rz : Int32} (h : f_X5_isSign vM x1 x2 = some Rz) : JM l G yX5_isSign cX5_isSign 3 (some .boolean) 0 0 [.ref (aM 0), .int x1, .int x2] (wMod G aM (vM 0) (vM 1) (vM 2) (vM 3) (vM 4) (vM 5) (vM 6) (vM 7) (vM 8) (vM 9 0) (vM 10 0) (vM 11 0) (vM 12 0) (vM 13 0)) (wMod G aM (vM 0) (vM 1) (vM 2) (vM 3) (vM 4) (vM 5) (vM 6) (vM 7) (vM 8) (vM 9 0) (vM 10 0) (vM 11 0) (vM 12 0) (vM 13 0)) (some (.int Rz)) := by
  refine JM.of (own := RX5) (tb := T_X5_isSign) (by decide) (Nat.le_of_ble_eq_true rfl) D_X5_isSign rfl (fun X C => ?_)
  refine J_sub (lv' := [(0, .ref (aM 0)), (1, .int x1), (2, .int x2)]) [0, 1, 2] rfl ?_
  unfold f_X5_isSign at h
  refine J_aload_n (pc := 0) C 0 rfl 0 rfl rfl ?_
  refine J_get (pc := 1) (v := .int (vM 13 0)) C 1 rfl TB_l5 rfl 0 13 rfl (by decide) k519 rfl rfl ?_
  refine J_aload_n (pc := 4) C 2 rfl 0 rfl rfl ?_
  refine J_get (pc := 5) (v := .int (vM 10 0)) C 3 rfl TB_l5 rfl 0 10 rfl (by decide) k520 rfl rfl ?_
  refine J_icmp_ge (pc := 8) (tgt := 41) C 4 rfl rfl (fun c1 => ?_) (fun c1 => ?_)
  · rw [if_pos c1] at h
    refine J_iconst (pc := 41) (v := (0 : Int32)) C 21 rfl rfl ?_
    cases h
    exact J_zret (pc := 42) C 22 rfl rfl
  · rw [if_neg c1] at h
    refine J_aload_n (pc := 11) C 5 rfl 0 rfl rfl ?_
    refine J_get (pc := 12) (v := .ref (aM 9)) C 6 rfl TB_l5 rfl 0 8 rfl (by decide) k408 rfl rfl ?_
    refine J_aload_n (pc := 15) C 7 rfl 0 rfl rfl ?_
    refine J_get (pc := 16) (v := .int (vM 13 0)) C 8 rfl TB_l5 rfl 0 13 rfl (by decide) k519 rfl rfl ?_
    obtain ⟨g2, h⟩ := gd_some h
    refine J_cald (pc := 19) (f := (vM 8)) (v := ((vM 8) (Int32.toNatClampNeg (vM 13 0)))) C 9 rfl 9 rfl g2 rfl ?_
    refine J_iload_n (pc := 20) C 10 rfl 1 rfl rfl ?_
    refine J_icmp_lt (pc := 21) (tgt := 41) C 11 rfl rfl (fun c3 => ?_) (fun c3 => ?_)
    · rw [if_pos c3] at h
      refine J_iconst (pc := 41) (v := (0 : Int32)) C 21 rfl rfl ?_
      cases h
      exact J_zret (pc := 42) C 22 rfl rfl
    · rw [if_neg c3] at h
      refine J_aload_n (pc := 24) C 12 rfl 0 rfl rfl ?_
      refine J_get (pc := 25) (v := .ref (aM 9)) C 13 rfl TB_l5 rfl 0 8 rfl (by decide) k408 rfl rfl ?_
      refine J_aload_n (pc := 28) C 14 rfl 0 rfl rfl ?_
      refine J_get (pc := 29) (v := .int (vM 13 0)) C 15 rfl TB_l5 rfl 0 13 rfl (by decide) k519 rfl rfl ?_
      obtain ⟨g4, h⟩ := gd_some h
      refine J_cald (pc := 32) (f := (vM 8)) (v := ((vM 8) (Int32.toNatClampNeg (vM 13 0)))) C 16 rfl 9 rfl g4 rfl ?_
      refine J_iload_n (pc := 33) C 17 rfl 2 rfl rfl ?_
      refine J_icmp_gt (pc := 34) (tgt := 41) C 18 rfl rfl (fun c5 => ?_) (fun c5 => ?_)
      · rw [if_pos c5] at h
        refine J_iconst (pc := 41) (v := (0 : Int32)) C 21 rfl rfl ?_
        cases h
        exact J_zret (pc := 42) C 22 rfl rfl
      · rw [if_neg c5] at h
        refine J_iconst (pc := 37) (v := (1 : Int32)) C 19 rfl rfl ?_
        refine J_goto (pc := 38) (tgt := 42) C 20 rfl rfl ?_
        cases h
        exact J_zret (pc := 42) C 22 rfl rfl
def T_X5_accepts : List (Nat × ClassFile.Instr × Nat) := [(0, .aload_n 0, 1), (1, .iload_n 1, 1), (2, .iload_n 1, 1), (3, .invokevirtual 134, 3), (6, .istore_n 2, 1), (7, .aload_n 0, 1), (8, .dup, 1), (9, .getfield 128, 3), (12, .iload_n 2, 1), (13, .ifCond .eq 7, 3), (16, .iconst 1, 1), (17, .goto 4, 3), (20, .iconst 0, 1), (21, .iadd, 1), (22, .putfield 128, 3), (25, .iload_n 2, 1), (26, .ireturn, 1)]
theorem D_X5_accepts : ∀ q ∈ T_X5_accepts, decode cX5_accepts q.1 = .ok q.2 := by decide +kernel
theorem V_X5_accepts : Vy yX5_accepts cX5_accepts 3 (some .boolean) 1 := ⟨k521, k415, by decide +kernel⟩
theorem i_X5_accepts : Cond.instanceMethod yX5_accepts ∈ TB := k533
theorem s_X5_accepts : Cond.selects yX5_accepts.cls yX5_accepts yX5_accepts ∈ TB := k534
noncomputable def f_X5_accepts (vM : JV) (x1 : Int32) : Option (Int32 × JV) :=
  (f_X5_isSign vM x1 x1).bind (fun q1 => (if q1 = 0 then gd (isb q1) (some (q1, (up2 vM 13 0 ((vM 13 0) + (0 : Int32))))) else gd (isb q1) (some (q1, (up2 vM 13 0 ((vM 13 0) + (1 : Int32)))))))
set_option maxRecDepth 100000 in
set_option maxHeartbeats 4000000 in
theorem c_X5_accepts {l : Launch} {G : JG} (aM : Nat → Nat) (vM : JV) (x1 : Int32) {Rz : Int32 × JV} (h : f_X5_accepts vM x1 = some Rz) : JM l G yX5_accepts cX5_accepts 3 (some .boolean) 1 22 [.ref (aM 0), .int x1] (wMod G aM (vM 0) (vM 1) (vM 2) (vM 3) (vM 4) (vM 5) (vM 6) (vM 7) (vM 8) (vM 9 0) (vM 10 0) (vM 11 0) (vM 12 0) (vM 13 0)) (wMod G aM ((Rz.2) 0) ((Rz.2) 1) ((Rz.2) 2) ((Rz.2) 3) ((Rz.2) 4) ((Rz.2) 5) ((Rz.2) 6) ((Rz.2) 7) ((Rz.2) 8) ((Rz.2) 9 0) ((Rz.2) 10 0) ((Rz.2) 11 0) ((Rz.2) 12 0) ((Rz.2) 13 0)) (some (.int (Rz.1))) := by
  refine JM.of (own := RX5) (tb := T_X5_accepts) (by decide) (Nat.le_of_ble_eq_true rfl) D_X5_accepts rfl (fun X C => ?_)
  refine J_sub (lv' := [(0, .ref (aM 0)), (1, .int x1)]) [0, 1] rfl ?_
  unfold f_X5_accepts at h
  refine J_aload_n (pc := 0) C 0 rfl 0 rfl rfl ?_
  refine J_iload_n (pc := 1) C 1 rfl 1 rfl rfl ?_
  refine J_iload_n (pc := 2) C 2 rfl 1 rfl rfl ?_
  obtain ⟨q1, hq1, h⟩ := bnd h
  refine J_callV (pc := 3) (st2 := []) (st3 := [.int q1]) (ws2 := (wMod G aM (vM 0) (vM 1) (vM 2) (vM 3) (vM 4) (vM 5) (vM 6) (vM 7) (vM 8) (vM 9 0) (vM 10 0) (vM 11 0) (vM 12 0) (vM 13 0))) C 3 rfl (c_X5_isSign aM vM x1 x1 hq1) V_X5_isSign k522 i_X5_isSign s_X5_isSign rfl rfl ⟨Nat.le_of_ble_eq_true rfl, Nat.le_of_ble_eq_true rfl⟩ (Nat.le_of_ble_eq_true rfl) ⟨Nat.le_refl _, Nat.le_refl _⟩ 0 5 rfl rfl rfl (isC := [0, 1, 2, 3, 4, 5, 6, 7, 8, 9]) (isR := []) (N := 10) ⟨rfl, by decide +kernel, rfl, by decide +kernel, rfl, trivial⟩ rfl ?_
  refine J_istore_n (pc := 6) (lv' := [(2, .int q1), (0, .ref (aM 0)), (1, .int x1)]) C 4 rfl rfl (by decide) rfl ?_
  refine J_aload_n (pc := 7) C 5 rfl 1 rfl rfl ?_
  refine J_dup (pc := 8) C 6 rfl rfl ?_
  refine J_get (pc := 9) (v := .int (vM 13 0)) C 7 rfl TB_l5 rfl 0 13 rfl (by decide) k519 rfl rfl ?_
  refine J_iload_n (pc := 12) C 8 rfl 0 rfl rfl ?_
  refine J_if_eq (pc := 13) (tgt := 20) C 9 rfl rfl (fun c2 => ?_) (fun c2 => ?_)
  · rw [if_pos c2] at h
    refine J_iconst (pc := 20) (v := (0 : Int32)) C 12 rfl rfl ?_
    refine J_iadd (pc := 21) C 13 rfl  ?_
    refine J_puti (pc := 22) C 14 (fun vv => (wMod G aM (vM 0) (vM 1) (vM 2) (vM 3) (vM 4) (vM 5) (vM 6) (vM 7) (vM 8) (vM 9 0) (vM 10 0) (vM 11 0) (vM 12 0) vv)) rfl TB_l5 tyX5 tyX5_ok nmX5 rfl 0 13 rfl (by decide) k519 rfl rfl rfl (Nat.le_of_ble_eq_true rfl) (fun _ => rfl) ?_
    refine J_iload_n (pc := 25) C 15 rfl 0 rfl rfl ?_
    obtain ⟨g3, h⟩ := gd_some h
    cases h
    exact J_zret (pc := 26) C 16 rfl g3
  · rw [if_neg c2] at h
    refine J_iconst (pc := 16) (v := (1 : Int32)) C 10 rfl rfl ?_
    refine J_goto (pc := 17) (tgt := 21) C 11 rfl rfl ?_
    refine J_iadd (pc := 21) C 13 rfl  ?_
    refine J_puti (pc := 22) C 14 (fun vv => (wMod G aM (vM 0) (vM 1) (vM 2) (vM 3) (vM 4) (vM 5) (vM 6) (vM 7) (vM 8) (vM 9 0) (vM 10 0) (vM 11 0) (vM 12 0) vv)) rfl TB_l5 tyX5 tyX5_ok nmX5 rfl 0 13 rfl (by decide) k519 rfl rfl rfl (Nat.le_of_ble_eq_true rfl) (fun _ => rfl) ?_
    refine J_iload_n (pc := 25) C 15 rfl 0 rfl rfl ?_
    obtain ⟨g4, h⟩ := gd_some h
    cases h
    exact J_zret (pc := 26) C 16 rfl g4
def T_X5_letters : List (Nat × ClassFile.Instr × Nat) := [(0, .iconst 0, 1), (1, .istore_n 1, 1), (2, .aload_n 0, 1), (3, .bipush 97, 2), (5, .bipush 102, 2), (7, .invokevirtual 134, 3), (10, .ifCond .eq 51, 3), (13, .iload_n 1, 1), (14, .iconst 1, 1), (15, .aload_n 0, 1), (16, .getfield 35, 3), (19, .aload_n 0, 1), (20, .getfield 128, 3), (23, .caload, 1), (24, .bipush 97, 2), (26, .isub, 1), (27, .ishl, 1), (28, .if_icmp .ge 33, 3), (31, .iload_n 1, 1), (32, .iconst 1, 1), (33, .aload_n 0, 1), (34, .getfield 35, 3), (37, .aload_n 0, 1), (38, .getfield 128, 3), (41, .caload, 1), (42, .bipush 97, 2), (44, .isub, 1), (45, .ishl, 1), (46, .ior, 1), (47, .istore_n 1, 1), (48, .aload_n 0, 1), (49, .dup, 1), (50, .getfield 128, 3), (53, .iconst 1, 1), (54, .iadd, 1), (55, .putfield 128, 3), (58, .goto (-56), 3), (61, .iload_n 1, 1), (62, .ireturn, 1)]
theorem D_X5_letters : ∀ q ∈ T_X5_letters, decode cX5_letters q.1 = .ok q.2 := by decide +kernel
theorem V_X5_letters : Vy yX5_letters cX5_letters 2 (some .int) 0 := ⟨k525, k415, by decide +kernel⟩
theorem i_X5_letters : Cond.instanceMethod yX5_letters ∈ TB := k530
theorem s_X5_letters : Cond.selects yX5_letters.cls yX5_letters yX5_letters ∈ TB := k531
noncomputable def f_X5_letters_b2  (r2 : JV → Int32 → Option (Int32 × JV)) (vM_2 : JV) (x1_2 : Int32) : Option (Int32 × JV) :=
  (f_X5_isSign vM_2 (97 : Int32) (102 : Int32)).bind (fun q1 => (if q1 = 0 then some (x1_2, vM_2) else gd (inb (vM_2 13 0) 60) ((if ((1 : Int32) <<< ((((vM_2 8) (Int32.toNatClampNeg (vM_2 13 0))) - (97 : Int32)) &&& 31)) ≤ x1_2 then some (x1_2, vM_2) else gd (inb (vM_2 13 0) 60) (r2 (up2 vM_2 13 0 ((vM_2 13 0) + (1 : Int32))) (x1_2 ||| ((1 : Int32) <<< ((((vM_2 8) (Int32.toNatClampNeg (vM_2 13 0))) - (97 : Int32)) &&& 31))))))))
noncomputable def f_X5_letters_L2  (n : Nat) (vM_2 : JV) (x1_2 : Int32) : Option (Int32 × JV) :=
  lp (fun (rec : JV × Int32 → Option (Int32 × JV)) a => f_X5_letters_b2  (fun vM_2 x1_2 => rec (vM_2, x1_2)) a.1 a.2) n (vM_2, x1_2)
noncomputable def f_X5_letters (vM : JV)  : Option (Int32 × JV) :=
  f_X5_letters_L2   FU vM (0 : Int32)
set_option maxRecDepth 100000 in
set_option maxHeartbeats 4000000 in
theorem c_X5_letters {l : Launch} {G : JG} (aM : Nat → Nat) (vM : JV)  {Rz : Int32 × JV} (h : f_X5_letters vM = some Rz) : JM l G yX5_letters cX5_letters 2 (some .int) 1 22 [.ref (aM 0)] (wMod G aM (vM 0) (vM 1) (vM 2) (vM 3) (vM 4) (vM 5) (vM 6) (vM 7) (vM 8) (vM 9 0) (vM 10 0) (vM 11 0) (vM 12 0) (vM 13 0)) (wMod G aM ((Rz.2) 0) ((Rz.2) 1) ((Rz.2) 2) ((Rz.2) 3) ((Rz.2) 4) ((Rz.2) 5) ((Rz.2) 6) ((Rz.2) 7) ((Rz.2) 8) ((Rz.2) 9 0) ((Rz.2) 10 0) ((Rz.2) 11 0) ((Rz.2) 12 0) ((Rz.2) 13 0)) (some (.int (Rz.1))) := by
  refine JM.of (own := RX5) (tb := T_X5_letters) (by decide) (Nat.le_of_ble_eq_true rfl) D_X5_letters rfl (fun X C => ?_)
  refine J_sub (lv' := [(0, .ref (aM 0))]) [0] rfl ?_
  have B2 : ∀ (n2 : Nat) (vM_2 : JV) (x1_2 : Int32), f_X5_letters_L2  n2 vM_2 x1_2 = some Rz → J l { frames := 1, cells := 0, slots := 0, locals := 22 } G 2 X (QM X G 0 0 (some (.int (Rz.1))) (wMod G aM ((Rz.2) 0) ((Rz.2) 1) ((Rz.2) 2) ((Rz.2) 3) ((Rz.2) 4) ((Rz.2) 5) ((Rz.2) 6) ((Rz.2) 7) ((Rz.2) 8) ((Rz.2) 9 0) ((Rz.2) 10 0) ((Rz.2) 11 0) ((Rz.2) 12 0) ((Rz.2) 13 0))) 0 0 2 [(0, .ref (aM 0)), (1, .int x1_2)] [] (wMod G aM (vM_2 0) (vM_2 1) (vM_2 2) (vM_2 3) (vM_2 4) (vM_2 5) (vM_2 6) (vM_2 7) (vM_2 8) (vM_2 9 0) (vM_2 10 0) (vM_2 11 0) (vM_2 12 0) (vM_2 13 0)) := by
    intro  n2
    induction n2 with
    | zero =>
      intro vM_2 x1_2 h
      exact (no_none rfl h).elim
    | succ n2 ih2 =>
      intro vM_2 x1_2 h
      replace h : f_X5_letters_b2  (fun vM_2 x1_2 => f_X5_letters_L2  n2 vM_2 x1_2) vM_2 x1_2 = some Rz := h
      unfold f_X5_letters_b2 at h
      refine J_aload_n (pc := 2) C 2 rfl 0 rfl rfl ?_
      refine J_bipush (pc := 3) (v := (97 : Int32)) C 3 rfl rfl ?_
      refine J_bipush (pc := 5) (v := (102 : Int32)) C 4 rfl rfl ?_
      obtain ⟨q1, hq1, h⟩ := bnd h
      refine J_callV (pc := 7) (st2 := []) (st3 := [.int q1]) (ws2 := (wMod G aM (vM_2 0) (vM_2 1) (vM_2 2) (vM_2 3) (vM_2 4) (vM_2 5) (vM_2 6) (vM_2 7) (vM_2 8) (vM_2 9 0) (vM_2 10 0) (vM_2 11 0) (vM_2 12 0) (vM_2 13 0))) C 5 rfl (c_X5_isSign aM vM_2 (97 : Int32) (102 : Int32) hq1) V_X5_isSign k522 i_X5_isSign s_X5_isSign rfl rfl ⟨Nat.le_of_ble_eq_true rfl, Nat.le_of_ble_eq_true rfl⟩ (Nat.le_of_ble_eq_true rfl) ⟨Nat.le_refl _, Nat.le_refl _⟩ 0 5 rfl rfl rfl (isC := [0, 1, 2, 3, 4, 5, 6, 7, 8, 9]) (isR := []) (N := 10) ⟨rfl, by decide +kernel, rfl, by decide +kernel, rfl, trivial⟩ rfl ?_
      refine J_if_eq (pc := 10) (tgt := 61) C 6 rfl rfl (fun c2 => ?_) (fun c2 => ?_)
      · rw [if_pos c2] at h
        refine J_iload_n (pc := 61) C 37 rfl 1 rfl rfl ?_
        cases h
        exact J_iret (pc := 62) C 38 rfl
      · rw [if_neg c2] at h
        refine J_iload_n (pc := 13) C 7 rfl 1 rfl rfl ?_
        refine J_iconst (pc := 14) (v := (1 : Int32)) C 8 rfl rfl ?_
        refine J_aload_n (pc := 15) C 9 rfl 0 rfl rfl ?_
        refine J_get (pc := 16) (v := .ref (aM 9)) C 10 rfl TB_l5 rfl 0 8 rfl (by decide) k408 rfl rfl ?_
        refine J_aload_n (pc := 19) C 11 rfl 0 rfl rfl ?_
        refine J_get (pc := 20) (v := .int (vM_2 13 0)) C 12 rfl TB_l5 rfl 0 13 rfl (by decide) k519 rfl rfl ?_
        obtain ⟨g3, h⟩ := gd_some h
        refine J_cald (pc := 23) (f := (vM_2 8)) (v := ((vM_2 8) (Int32.toNatClampNeg (vM_2 13 0)))) C 13 rfl 9 rfl g3 rfl ?_
        refine J_bipush (pc := 24) (v := (97 : Int32)) C 14 rfl rfl ?_
        refine J_isub (pc := 26) C 15 rfl  ?_
        refine J_ishl (pc := 27) C 16 rfl  ?_
        refine J_icmp_ge (pc := 28) (tgt := 61) C 17 rfl rfl (fun c4 => ?_) (fun c4 => ?_)
        · rw [if_pos c4] at h
          refine J_iload_n (pc := 61) C 37 rfl 1 rfl rfl ?_
          cases h
          exact J_iret (pc := 62) C 38 rfl
        · rw [if_neg c4] at h
          refine J_iload_n (pc := 31) C 18 rfl 1 rfl rfl ?_
          refine J_iconst (pc := 32) (v := (1 : Int32)) C 19 rfl rfl ?_
          refine J_aload_n (pc := 33) C 20 rfl 0 rfl rfl ?_
          refine J_get (pc := 34) (v := .ref (aM 9)) C 21 rfl TB_l5 rfl 0 8 rfl (by decide) k408 rfl rfl ?_
          refine J_aload_n (pc := 37) C 22 rfl 0 rfl rfl ?_
          refine J_get (pc := 38) (v := .int (vM_2 13 0)) C 23 rfl TB_l5 rfl 0 13 rfl (by decide) k519 rfl rfl ?_
          obtain ⟨g5, h⟩ := gd_some h
          refine J_cald (pc := 41) (f := (vM_2 8)) (v := ((vM_2 8) (Int32.toNatClampNeg (vM_2 13 0)))) C 24 rfl 9 rfl g5 rfl ?_
          refine J_bipush (pc := 42) (v := (97 : Int32)) C 25 rfl rfl ?_
          refine J_isub (pc := 44) C 26 rfl  ?_
          refine J_ishl (pc := 45) C 27 rfl  ?_
          refine J_ior (pc := 46) C 28 rfl  ?_
          refine J_istore_n (pc := 47) (lv' := [(1, .int (x1_2 ||| ((1 : Int32) <<< ((((vM_2 8) (Int32.toNatClampNeg (vM_2 13 0))) - (97 : Int32)) &&& 31)))), (0, .ref (aM 0))]) C 29 rfl rfl (by decide) rfl ?_
          refine J_aload_n (pc := 48) C 30 rfl 1 rfl rfl ?_
          refine J_dup (pc := 49) C 31 rfl rfl ?_
          refine J_get (pc := 50) (v := .int (vM_2 13 0)) C 32 rfl TB_l5 rfl 0 13 rfl (by decide) k519 rfl rfl ?_
          refine J_iconst (pc := 53) (v := (1 : Int32)) C 33 rfl rfl ?_
          refine J_iadd (pc := 54) C 34 rfl  ?_
          refine J_puti (pc := 55) C 35 (fun vv => (wMod G aM (vM_2 0) (vM_2 1) (vM_2 2) (vM_2 3) (vM_2 4) (vM_2 5) (vM_2 6) (vM_2 7) (vM_2 8) (vM_2 9 0) (vM_2 10 0) (vM_2 11 0) (vM_2 12 0) vv)) rfl TB_l5 tyX5 tyX5_ok nmX5 rfl 0 13 rfl (by decide) k519 rfl rfl rfl (Nat.le_of_ble_eq_true rfl) (fun _ => rfl) ?_
          refine J_goto (pc := 58) (tgt := 2) C 36 rfl rfl ?_
          exact J_sub [1, 0] rfl (ih2 (up2 vM_2 13 0 ((vM_2 13 0) + (1 : Int32))) (x1_2 ||| ((1 : Int32) <<< ((((vM_2 8) (Int32.toNatClampNeg (vM_2 13 0))) - (97 : Int32)) &&& 31))) h)
  unfold f_X5_letters at h
  refine J_iconst (pc := 0) (v := (0 : Int32)) C 0 rfl rfl ?_
  refine J_istore_n (pc := 1) (lv' := [(1, .int (0 : Int32)), (0, .ref (aM 0))]) C 1 rfl rfl (by decide) rfl ?_
  exact J_sub [1, 0] rfl (B2  FU vM (0 : Int32) h)
def T_X5_number : List (Nat × ClassFile.Instr × Nat) := [(0, .iconst 0, 1), (1, .istore_n 1, 1), (2, .aload_n 0, 1), (3, .iload_n 1, 1), (4, .ifCond .ne 8, 3), (7, .bipush 49, 2), (9, .goto 5, 3), (12, .bipush 48, 2), (14, .bipush 57, 2), (16, .invokevirtual 134, 3), (19, .ifCond .eq 56, 3), (22, .bipush 10, 2), (24, .iload_n 1, 1), (25, .imul, 1), (26, .aload_n 0, 1), (27, .getfield 35, 3), (30, .aload_n 0, 1), (31, .getfield 128, 3), (34, .caload, 1), (35, .iadd, 1), (36, .bipush 48, 2), (38, .isub, 1), (39, .bipush 100, 2), (41, .if_icmp .gt 34, 3), (44, .bipush 10, 2), (46, .iload_n 1, 1), (47, .imul, 1), (48, .aload_n 0, 1), (49, .getfield 35, 3), (52, .aload_n 0, 1), (53, .getfield 128, 3), (56, .caload, 1), (57, .iadd, 1), (58, .bipush 48, 2), (60, .isub, 1), (61, .istore_n 1, 1), (62, .aload_n 0, 1), (63, .dup, 1), (64, .getfield 128, 3), (67, .iconst 1, 1), (68, .iadd, 1), (69, .putfield 128, 3), (72, .goto (-70), 3), (75, .iload_n 1, 1), (76, .ireturn, 1)]
theorem D_X5_number : ∀ q ∈ T_X5_number, decode cX5_number q.1 = .ok q.2 := by decide +kernel
theorem V_X5_number : Vy yX5_number cX5_number 2 (some .int) 0 := ⟨k526, k415, by decide +kernel⟩
theorem i_X5_number : Cond.instanceMethod yX5_number ∈ TB := k536
theorem s_X5_number : Cond.selects yX5_number.cls yX5_number yX5_number ∈ TB := k537
noncomputable def f_X5_number_K14  (r2 : JV → Int32 → Option (Int32 × JV)) (vM_14 : JV) (x1_14 : Int32) (y1_14 : Int32) : Option (Int32 × JV) :=
  (f_X5_isSign vM_14 y1_14 (57 : Int32)).bind (fun q2 => (if q2 = 0 then some (x1_14, vM_14) else gd (inb (vM_14 13 0) 60) ((if (100 : Int32) < ((((10 : Int32) * x1_14) + ((vM_14 8) (Int32.toNatClampNeg (vM_14 13 0)))) - (48 : Int32)) then some (x1_14, vM_14) else gd (inb (vM_14 13 0) 60) (r2 (up2 vM_14 13 0 ((vM_14 13 0) + (1 : Int32))) ((((10 : Int32) * x1_14) + ((vM_14 8) (Int32.toNatClampNeg (vM_14 13 0)))) - (48 : Int32)))))))
noncomputable def f_X5_number_b2  (r2 : JV → Int32 → Option (Int32 × JV)) (vM_2 : JV) (x1_2 : Int32) : Option (Int32 × JV) :=
  (if x1_2 = 0 then f_X5_number_K14  r2 vM_2 x1_2 (49 : Int32) else f_X5_number_K14  r2 vM_2 x1_2 (48 : Int32))
noncomputable def f_X5_number_L2  (n : Nat) (vM_2 : JV) (x1_2 : Int32) : Option (Int32 × JV) :=
  lp (fun (rec : JV × Int32 → Option (Int32 × JV)) a => f_X5_number_b2  (fun vM_2 x1_2 => rec (vM_2, x1_2)) a.1 a.2) n (vM_2, x1_2)
noncomputable def f_X5_number (vM : JV)  : Option (Int32 × JV) :=
  f_X5_number_L2   FU vM (0 : Int32)
set_option maxRecDepth 100000 in
set_option maxHeartbeats 4000000 in
theorem c_X5_number {l : Launch} {G : JG} (aM : Nat → Nat) (vM : JV)  {Rz : Int32 × JV} (h : f_X5_number vM = some Rz) : JM l G yX5_number cX5_number 2 (some .int) 1 22 [.ref (aM 0)] (wMod G aM (vM 0) (vM 1) (vM 2) (vM 3) (vM 4) (vM 5) (vM 6) (vM 7) (vM 8) (vM 9 0) (vM 10 0) (vM 11 0) (vM 12 0) (vM 13 0)) (wMod G aM ((Rz.2) 0) ((Rz.2) 1) ((Rz.2) 2) ((Rz.2) 3) ((Rz.2) 4) ((Rz.2) 5) ((Rz.2) 6) ((Rz.2) 7) ((Rz.2) 8) ((Rz.2) 9 0) ((Rz.2) 10 0) ((Rz.2) 11 0) ((Rz.2) 12 0) ((Rz.2) 13 0)) (some (.int (Rz.1))) := by
  refine JM.of (own := RX5) (tb := T_X5_number) (by decide) (Nat.le_of_ble_eq_true rfl) D_X5_number rfl (fun X C => ?_)
  refine J_sub (lv' := [(0, .ref (aM 0))]) [0] rfl ?_
  have B2 : ∀ (n2 : Nat) (vM_2 : JV) (x1_2 : Int32), f_X5_number_L2  n2 vM_2 x1_2 = some Rz → J l { frames := 1, cells := 0, slots := 0, locals := 22 } G 2 X (QM X G 0 0 (some (.int (Rz.1))) (wMod G aM ((Rz.2) 0) ((Rz.2) 1) ((Rz.2) 2) ((Rz.2) 3) ((Rz.2) 4) ((Rz.2) 5) ((Rz.2) 6) ((Rz.2) 7) ((Rz.2) 8) ((Rz.2) 9 0) ((Rz.2) 10 0) ((Rz.2) 11 0) ((Rz.2) 12 0) ((Rz.2) 13 0))) 0 0 2 [(0, .ref (aM 0)), (1, .int x1_2)] [] (wMod G aM (vM_2 0) (vM_2 1) (vM_2 2) (vM_2 3) (vM_2 4) (vM_2 5) (vM_2 6) (vM_2 7) (vM_2 8) (vM_2 9 0) (vM_2 10 0) (vM_2 11 0) (vM_2 12 0) (vM_2 13 0)) := by
    intro  n2
    induction n2 with
    | zero =>
      intro vM_2 x1_2 h
      exact (no_none rfl h).elim
    | succ n2 ih2 =>
      have B14 : ∀ (vM_14 : JV) (x1_14 : Int32) (y1_14 : Int32), f_X5_number_K14  (fun vM_2 x1_2 => f_X5_number_L2  n2 vM_2 x1_2) vM_14 x1_14 y1_14 = some Rz → J l { frames := 1, cells := 0, slots := 0, locals := 22 } G 2 X (QM X G 0 0 (some (.int (Rz.1))) (wMod G aM ((Rz.2) 0) ((Rz.2) 1) ((Rz.2) 2) ((Rz.2) 3) ((Rz.2) 4) ((Rz.2) 5) ((Rz.2) 6) ((Rz.2) 7) ((Rz.2) 8) ((Rz.2) 9 0) ((Rz.2) 10 0) ((Rz.2) 11 0) ((Rz.2) 12 0) ((Rz.2) 13 0))) 0 0 14 [(0, .ref (aM 0)), (1, .int x1_14)] [.int y1_14, .ref (aM 0)] (wMod G aM (vM_14 0) (vM_14 1) (vM_14 2) (vM_14 3) (vM_14 4) (vM_14 5) (vM_14 6) (vM_14 7) (vM_14 8) (vM_14 9 0) (vM_14 10 0) (vM_14 11 0) (vM_14 12 0) (vM_14 13 0)) := by
        intro vM_14 x1_14 y1_14 h
        unfold f_X5_number_K14 at h
        refine J_bipush (pc := 14) (v := (57 : Int32)) C 8 rfl rfl ?_
        obtain ⟨q2, hq2, h⟩ := bnd h
        refine J_callV (pc := 16) (st2 := []) (st3 := [.int q2]) (ws2 := (wMod G aM (vM_14 0) (vM_14 1) (vM_14 2) (vM_14 3) (vM_14 4) (vM_14 5) (vM_14 6) (vM_14 7) (vM_14 8) (vM_14 9 0) (vM_14 10 0) (vM_14 11 0) (vM_14 12 0) (vM_14 13 0))) C 9 rfl (c_X5_isSign aM vM_14 y1_14 (57 : Int32) hq2) V_X5_isSign k522 i_X5_isSign s_X5_isSign rfl rfl ⟨Nat.le_of_ble_eq_true rfl, Nat.le_of_ble_eq_true rfl⟩ (Nat.le_of_ble_eq_true rfl) ⟨Nat.le_refl _, Nat.le_refl _⟩ 0 5 rfl rfl rfl (isC := [0, 1, 2, 3, 4, 5, 6, 7, 8, 9]) (isR := []) (N := 10) ⟨rfl, by decide +kernel, rfl, by decide +kernel, rfl, trivial⟩ rfl ?_
        refine J_if_eq (pc := 19) (tgt := 75) C 10 rfl rfl (fun c3 => ?_) (fun c3 => ?_)
        · rw [if_pos c3] at h
          refine J_iload_n (pc := 75) C 43 rfl 1 rfl rfl ?_
          cases h
          exact J_iret (pc := 76) C 44 rfl
        · rw [if_neg c3] at h
          refine J_bipush (pc := 22) (v := (10 : Int32)) C 11 rfl rfl ?_
          refine J_iload_n (pc := 24) C 12 rfl 1 rfl rfl ?_
          refine J_imul (pc := 25) C 13 rfl  ?_
          refine J_aload_n (pc := 26) C 14 rfl 0 rfl rfl ?_
          refine J_get (pc := 27) (v := .ref (aM 9)) C 15 rfl TB_l5 rfl 0 8 rfl (by decide) k408 rfl rfl ?_
          refine J_aload_n (pc := 30) C 16 rfl 0 rfl rfl ?_
          refine J_get (pc := 31) (v := .int (vM_14 13 0)) C 17 rfl TB_l5 rfl 0 13 rfl (by decide) k519 rfl rfl ?_
          obtain ⟨g4, h⟩ := gd_some h
          refine J_cald (pc := 34) (f := (vM_14 8)) (v := ((vM_14 8) (Int32.toNatClampNeg (vM_14 13 0)))) C 18 rfl 9 rfl g4 rfl ?_
          refine J_iadd (pc := 35) C 19 rfl  ?_
          refine J_bipush (pc := 36) (v := (48 : Int32)) C 20 rfl rfl ?_
          refine J_isub (pc := 38) C 21 rfl  ?_
          refine J_bipush (pc := 39) (v := (100 : Int32)) C 22 rfl rfl ?_
          refine J_icmp_gt (pc := 41) (tgt := 75) C 23 rfl rfl (fun c5 => ?_) (fun c5 => ?_)
          · rw [if_pos c5] at h
            refine J_iload_n (pc := 75) C 43 rfl 1 rfl rfl ?_
            cases h
            exact J_iret (pc := 76) C 44 rfl
          · rw [if_neg c5] at h
            refine J_bipush (pc := 44) (v := (10 : Int32)) C 24 rfl rfl ?_
            refine J_iload_n (pc := 46) C 25 rfl 1 rfl rfl ?_
            refine J_imul (pc := 47) C 26 rfl  ?_
            refine J_aload_n (pc := 48) C 27 rfl 0 rfl rfl ?_
            refine J_get (pc := 49) (v := .ref (aM 9)) C 28 rfl TB_l5 rfl 0 8 rfl (by decide) k408 rfl rfl ?_
            refine J_aload_n (pc := 52) C 29 rfl 0 rfl rfl ?_
            refine J_get (pc := 53) (v := .int (vM_14 13 0)) C 30 rfl TB_l5 rfl 0 13 rfl (by decide) k519 rfl rfl ?_
            obtain ⟨g6, h⟩ := gd_some h
            refine J_cald (pc := 56) (f := (vM_14 8)) (v := ((vM_14 8) (Int32.toNatClampNeg (vM_14 13 0)))) C 31 rfl 9 rfl g6 rfl ?_
            refine J_iadd (pc := 57) C 32 rfl  ?_
            refine J_bipush (pc := 58) (v := (48 : Int32)) C 33 rfl rfl ?_
            refine J_isub (pc := 60) C 34 rfl  ?_
            refine J_istore_n (pc := 61) (lv' := [(1, .int ((((10 : Int32) * x1_14) + ((vM_14 8) (Int32.toNatClampNeg (vM_14 13 0)))) - (48 : Int32))), (0, .ref (aM 0))]) C 35 rfl rfl (by decide) rfl ?_
            refine J_aload_n (pc := 62) C 36 rfl 1 rfl rfl ?_
            refine J_dup (pc := 63) C 37 rfl rfl ?_
            refine J_get (pc := 64) (v := .int (vM_14 13 0)) C 38 rfl TB_l5 rfl 0 13 rfl (by decide) k519 rfl rfl ?_
            refine J_iconst (pc := 67) (v := (1 : Int32)) C 39 rfl rfl ?_
            refine J_iadd (pc := 68) C 40 rfl  ?_
            refine J_puti (pc := 69) C 41 (fun vv => (wMod G aM (vM_14 0) (vM_14 1) (vM_14 2) (vM_14 3) (vM_14 4) (vM_14 5) (vM_14 6) (vM_14 7) (vM_14 8) (vM_14 9 0) (vM_14 10 0) (vM_14 11 0) (vM_14 12 0) vv)) rfl TB_l5 tyX5 tyX5_ok nmX5 rfl 0 13 rfl (by decide) k519 rfl rfl rfl (Nat.le_of_ble_eq_true rfl) (fun _ => rfl) ?_
            refine J_goto (pc := 72) (tgt := 2) C 42 rfl rfl ?_
            exact J_sub [1, 0] rfl (ih2 (up2 vM_14 13 0 ((vM_14 13 0) + (1 : Int32))) ((((10 : Int32) * x1_14) + ((vM_14 8) (Int32.toNatClampNeg (vM_14 13 0)))) - (48 : Int32)) h)
      intro vM_2 x1_2 h
      replace h : f_X5_number_b2  (fun vM_2 x1_2 => f_X5_number_L2  n2 vM_2 x1_2) vM_2 x1_2 = some Rz := h
      unfold f_X5_number_b2 at h
      refine J_aload_n (pc := 2) C 2 rfl 0 rfl rfl ?_
      refine J_iload_n (pc := 3) C 3 rfl 1 rfl rfl ?_
      refine J_if_ne (pc := 4) (tgt := 12) C 4 rfl rfl (fun c1 => ?_) (fun c1 => ?_)
      · rw [if_neg c1] at h
        refine J_bipush (pc := 12) (v := (48 : Int32)) C 7 rfl rfl ?_
        exact J_sub [0, 1] rfl (B14 vM_2 x1_2 (48 : Int32) h)
      · rw [if_pos c1] at h
        refine J_bipush (pc := 7) (v := (49 : Int32)) C 5 rfl rfl ?_
        refine J_goto (pc := 9) (tgt := 14) C 6 rfl rfl ?_
        exact J_sub [0, 1] rfl (B14 vM_2 x1_2 (49 : Int32) h)
  unfold f_X5_number at h
  refine J_iconst (pc := 0) (v := (0 : Int32)) C 0 rfl rfl ?_
  refine J_istore_n (pc := 1) (lv' := [(1, .int (0 : Int32)), (0, .ref (aM 0))]) C 1 rfl rfl (by decide) rfl ?_
  exact J_sub [1, 0] rfl (B2  FU vM (0 : Int32) h)
def T_X5_readsPupil : List (Nat × ClassFile.Instr × Nat) := [(0, .aload_n 0, 1), (1, .invokevirtual 138, 3), (4, .istore_n 1, 1), (5, .iload_n 1, 1), (6, .ifCond .ne 5, 3), (9, .iconst 0, 1), (10, .ireturn, 1), (11, .iconst 0, 1), (12, .istore_n 2, 1), (13, .aload_n 0, 1), (14, .bipush 43, 2), (16, .invokevirtual 142, 3), (19, .ifCond .eq 14, 3), (22, .aload_n 0, 1), (23, .invokevirtual 146, 3), (26, .istore_n 2, 1), (27, .iload_n 2, 1), (28, .ifCond .ne 5, 3), (31, .iconst 0, 1), (32, .ireturn, 1), (33, .aload_n 0, 1), (34, .getfield 32, 3), (37, .iconst 3, 1), (38, .aload_n 0, 1), (39, .getfield 149, 3), (42, .imul, 1), (43, .iload_n 1, 1), (44, .iastore, 1), (45, .aload_n 0, 1), (46, .getfield 32, 3), (49, .iconst 3, 1), (50, .aload_n 0, 1), (51, .getfield 149, 3), (54, .imul, 1), (55, .iconst 1, 1), (56, .iadd, 1), (57, .iload_n 2, 1), (58, .iastore, 1), (59, .aload_n 0, 1), (60, .getfield 32, 3), (63, .iconst 3, 1), (64, .aload_n 0, 1), (65, .getfield 149, 3), (68, .imul, 1), (69, .iconst 2, 1), (70, .iadd, 1), (71, .aload_n 0, 1), (72, .bipush 114, 2), (74, .invokevirtual 142, 3), (77, .ifCond .eq 7, 3), (80, .iconst 1, 1), (81, .goto 4, 3), (84, .iconst 0, 1), (85, .iastore, 1), (86, .aload_n 0, 1), (87, .dup, 1), (88, .getfield 149, 3), (91, .iconst 1, 1), (92, .iadd, 1), (93, .putfield 149, 3), (96, .iconst 1, 1), (97, .ireturn, 1)]
theorem D_X5_readsPupil : ∀ q ∈ T_X5_readsPupil, decode cX5_readsPupil q.1 = .ok q.2 := by decide +kernel
theorem V_X5_readsPupil : Vy yX5_readsPupil cX5_readsPupil 3 (some .boolean) 0 := ⟨k527, k415, by decide +kernel⟩
theorem i_X5_readsPupil : Cond.instanceMethod yX5_readsPupil ∈ TB := k539
theorem s_X5_readsPupil : Cond.selects yX5_readsPupil.cls yX5_readsPupil yX5_readsPupil ∈ TB := k540
noncomputable def f_X5_readsPupil_K33  (vM_33 : JV) (x1_33 : Int32) (x2_33 : Int32) : Option (Int32 × JV) :=
  gd (inb ((3 : Int32) * (vM_33 12 0)) 96) (gd (inb (((3 : Int32) * (vM_33 12 0)) + (1 : Int32)) 96) ((f_X5_accepts (up2 (up2 vM_33 7 (Int32.toNatClampNeg ((3 : Int32) * (vM_33 12 0))) x1_33) 7 (Int32.toNatClampNeg (((3 : Int32) * (vM_33 12 0)) + (1 : Int32))) x2_33) (114 : Int32)).bind (fun q7 => (if (q7.1) = 0 then gd (inb (((3 : Int32) * (vM_33 12 0)) + (2 : Int32)) 96) (some ((1 : Int32), (up2 (up2 (q7.2) 7 (Int32.toNatClampNeg (((3 : Int32) * (vM_33 12 0)) + (2 : Int32))) (0 : Int32)) 12 0 (((q7.2) 12 0) + (1 : Int32))))) else gd (inb (((3 : Int32) * (vM_33 12 0)) + (2 : Int32)) 96) (some ((1 : Int32), (up2 (up2 (q7.2) 7 (Int32.toNatClampNeg (((3 : Int32) * (vM_33 12 0)) + (2 : Int32))) (1 : Int32)) 12 0 (((q7.2) 12 0) + (1 : Int32)))))))))
noncomputable def f_X5_readsPupil (vM : JV)  : Option (Int32 × JV) :=
  (f_X5_letters vM).bind (fun q1 => (if (q1.1) = 0 then some ((0 : Int32), (q1.2)) else (f_X5_accepts (q1.2) (43 : Int32)).bind (fun q3 => (if (q3.1) = 0 then f_X5_readsPupil_K33  (q3.2) (q1.1) (0 : Int32) else (f_X5_number (q3.2)).bind (fun q11 => (if (q11.1) = 0 then some ((0 : Int32), (q11.2)) else f_X5_readsPupil_K33  (q11.2) (q1.1) (q11.1)))))))
set_option maxRecDepth 100000 in
set_option maxHeartbeats 4000000 in
theorem c_X5_readsPupil {l : Launch} {G : JG} (aM : Nat → Nat) (vM : JV)  {Rz : Int32 × JV} (h : f_X5_readsPupil vM = some Rz) : JM l G yX5_readsPupil cX5_readsPupil 3 (some .boolean) 2 44 [.ref (aM 0)] (wMod G aM (vM 0) (vM 1) (vM 2) (vM 3) (vM 4) (vM 5) (vM 6) (vM 7) (vM 8) (vM 9 0) (vM 10 0) (vM 11 0) (vM 12 0) (vM 13 0)) (wMod G aM ((Rz.2) 0) ((Rz.2) 1) ((Rz.2) 2) ((Rz.2) 3) ((Rz.2) 4) ((Rz.2) 5) ((Rz.2) 6) ((Rz.2) 7) ((Rz.2) 8) ((Rz.2) 9 0) ((Rz.2) 10 0) ((Rz.2) 11 0) ((Rz.2) 12 0) ((Rz.2) 13 0)) (some (.int (Rz.1))) := by
  refine JM.of (own := RX5) (tb := T_X5_readsPupil) (by decide) (Nat.le_of_ble_eq_true rfl) D_X5_readsPupil rfl (fun X C => ?_)
  refine J_sub (lv' := [(0, .ref (aM 0))]) [0] rfl ?_
  have B33 : ∀ (vM_33 : JV) (x1_33 : Int32) (x2_33 : Int32), f_X5_readsPupil_K33  vM_33 x1_33 x2_33 = some Rz → J l { frames := 2, cells := 0, slots := 0, locals := 44 } G 3 X (QM X G 0 0 (some (.int (Rz.1))) (wMod G aM ((Rz.2) 0) ((Rz.2) 1) ((Rz.2) 2) ((Rz.2) 3) ((Rz.2) 4) ((Rz.2) 5) ((Rz.2) 6) ((Rz.2) 7) ((Rz.2) 8) ((Rz.2) 9 0) ((Rz.2) 10 0) ((Rz.2) 11 0) ((Rz.2) 12 0) ((Rz.2) 13 0))) 0 0 33 [(0, .ref (aM 0)), (1, .int x1_33), (2, .int x2_33)] [] (wMod G aM (vM_33 0) (vM_33 1) (vM_33 2) (vM_33 3) (vM_33 4) (vM_33 5) (vM_33 6) (vM_33 7) (vM_33 8) (vM_33 9 0) (vM_33 10 0) (vM_33 11 0) (vM_33 12 0) (vM_33 13 0)) := by
    intro vM_33 x1_33 x2_33 h
    unfold f_X5_readsPupil_K33 at h
    refine J_aload_n (pc := 33) C 20 rfl 0 rfl rfl ?_
    refine J_get (pc := 34) (v := .ref (aM 8)) C 21 rfl TB_l5 rfl 0 7 rfl (by decide) k406 rfl rfl ?_
    refine J_iconst (pc := 37) (v := (3 : Int32)) C 22 rfl rfl ?_
    refine J_aload_n (pc := 38) C 23 rfl 0 rfl rfl ?_
    refine J_get (pc := 39) (v := .int (vM_33 12 0)) C 24 rfl TB_l5 rfl 0 12 rfl (by decide) k528 rfl rfl ?_
    refine J_imul (pc := 42) C 25 rfl  ?_
    refine J_iload_n (pc := 43) C 26 rfl 1 rfl rfl ?_
    obtain ⟨g5, h⟩ := gd_some h
    refine J_iast (pc := 44) (f := (vM_33 7)) (m := (Int32.toNatClampNeg ((3 : Int32) * (vM_33 12 0)))) C 27 (fun mm vv => (wMod G aM (vM_33 0) (vM_33 1) (vM_33 2) (vM_33 3) (vM_33 4) (vM_33 5) (vM_33 6) (upd (vM_33 7) mm vv) (vM_33 8) (vM_33 9 0) (vM_33 10 0) (vM_33 11 0) (vM_33 12 0) (vM_33 13 0))) rfl 8 rfl g5 rfl (fun _ _ => rfl) ?_
    refine J_aload_n (pc := 45) C 28 rfl 0 rfl rfl ?_
    refine J_get (pc := 46) (v := .ref (aM 8)) C 29 rfl TB_l5 rfl 0 7 rfl (by decide) k406 rfl rfl ?_
    refine J_iconst (pc := 49) (v := (3 : Int32)) C 30 rfl rfl ?_
    refine J_aload_n (pc := 50) C 31 rfl 0 rfl rfl ?_
    refine J_get (pc := 51) (v := .int (vM_33 12 0)) C 32 rfl TB_l5 rfl 0 12 rfl (by decide) k528 rfl rfl ?_
    refine J_imul (pc := 54) C 33 rfl  ?_
    refine J_iconst (pc := 55) (v := (1 : Int32)) C 34 rfl rfl ?_
    refine J_iadd (pc := 56) C 35 rfl  ?_
    refine J_iload_n (pc := 57) C 36 rfl 2 rfl rfl ?_
    obtain ⟨g6, h⟩ := gd_some h
    refine J_iast (pc := 58) (f := (upd (vM_33 7) (Int32.toNatClampNeg ((3 : Int32) * (vM_33 12 0))) x1_33)) (m := (Int32.toNatClampNeg (((3 : Int32) * (vM_33 12 0)) + (1 : Int32)))) C 37 (fun mm vv => (wMod G aM (vM_33 0) (vM_33 1) (vM_33 2) (vM_33 3) (vM_33 4) (vM_33 5) (vM_33 6) (upd (upd (vM_33 7) (Int32.toNatClampNeg ((3 : Int32) * (vM_33 12 0))) x1_33) mm vv) (vM_33 8) (vM_33 9 0) (vM_33 10 0) (vM_33 11 0) (vM_33 12 0) (vM_33 13 0))) rfl 8 rfl g6 rfl (fun _ _ => rfl) ?_
    refine J_aload_n (pc := 59) C 38 rfl 0 rfl rfl ?_
    refine J_get (pc := 60) (v := .ref (aM 8)) C 39 rfl TB_l5 rfl 0 7 rfl (by decide) k406 rfl rfl ?_
    refine J_iconst (pc := 63) (v := (3 : Int32)) C 40 rfl rfl ?_
    refine J_aload_n (pc := 64) C 41 rfl 0 rfl rfl ?_
    refine J_get (pc := 65) (v := .int (vM_33 12 0)) C 42 rfl TB_l5 rfl 0 12 rfl (by decide) k528 rfl rfl ?_
    refine J_imul (pc := 68) C 43 rfl  ?_
    refine J_iconst (pc := 69) (v := (2 : Int32)) C 44 rfl rfl ?_
    refine J_iadd (pc := 70) C 45 rfl  ?_
    refine J_aload_n (pc := 71) C 46 rfl 0 rfl rfl ?_
    refine J_bipush (pc := 72) (v := (114 : Int32)) C 47 rfl rfl ?_
    obtain ⟨q7, hq7, h⟩ := bnd h
    refine J_callV (pc := 74) (st2 := [.int (((3 : Int32) * (vM_33 12 0)) + (2 : Int32)), .ref (aM 8)]) (st3 := [.int (q7.1), .int (((3 : Int32) * (vM_33 12 0)) + (2 : Int32)), .ref (aM 8)]) (ws2 := (wMod G aM ((q7.2) 0) ((q7.2) 1) ((q7.2) 2) ((q7.2) 3) ((q7.2) 4) ((q7.2) 5) ((q7.2) 6) ((q7.2) 7) ((q7.2) 8) ((q7.2) 9 0) ((q7.2) 10 0) ((q7.2) 11 0) ((q7.2) 12 0) ((q7.2) 13 0))) C 48 rfl (c_X5_accepts aM (up2 (up2 vM_33 7 (Int32.toNatClampNeg ((3 : Int32) * (vM_33 12 0))) x1_33) 7 (Int32.toNatClampNeg (((3 : Int32) * (vM_33 12 0)) + (1 : Int32))) x2_33) (114 : Int32) hq7) V_X5_accepts k532 i_X5_accepts s_X5_accepts rfl rfl ⟨Nat.le_of_ble_eq_true rfl, Nat.le_of_ble_eq_true rfl⟩ (Nat.le_of_ble_eq_true rfl) ⟨Nat.le_refl _, Nat.le_refl _⟩ 0 5 rfl rfl rfl (isC := [0, 1, 2, 3, 4, 5, 6, 7, 8, 9]) (isR := []) (N := 10) ⟨rfl, by decide +kernel, rfl, by decide +kernel, rfl, trivial⟩ rfl ?_
    refine J_if_eq (pc := 77) (tgt := 84) C 49 rfl rfl (fun c8 => ?_) (fun c8 => ?_)
    · rw [if_pos c8] at h
      refine J_iconst (pc := 84) (v := (0 : Int32)) C 52 rfl rfl ?_
      obtain ⟨g9, h⟩ := gd_some h
      refine J_iast (pc := 85) (f := ((q7.2) 7)) (m := (Int32.toNatClampNeg (((3 : Int32) * (vM_33 12 0)) + (2 : Int32)))) C 53 (fun mm vv => (wMod G aM ((q7.2) 0) ((q7.2) 1) ((q7.2) 2) ((q7.2) 3) ((q7.2) 4) ((q7.2) 5) ((q7.2) 6) (upd ((q7.2) 7) mm vv) ((q7.2) 8) ((q7.2) 9 0) ((q7.2) 10 0) ((q7.2) 11 0) ((q7.2) 12 0) ((q7.2) 13 0))) rfl 8 rfl g9 rfl (fun _ _ => rfl) ?_
      refine J_aload_n (pc := 86) C 54 rfl 0 rfl rfl ?_
      refine J_dup (pc := 87) C 55 rfl rfl ?_
      refine J_get (pc := 88) (v := .int ((q7.2) 12 0)) C 56 rfl TB_l5 rfl 0 12 rfl (by decide) k528 rfl rfl ?_
      refine J_iconst (pc := 91) (v := (1 : Int32)) C 57 rfl rfl ?_
      refine J_iadd (pc := 92) C 58 rfl  ?_
      refine J_puti (pc := 93) C 59 (fun vv => (wMod G aM ((q7.2) 0) ((q7.2) 1) ((q7.2) 2) ((q7.2) 3) ((q7.2) 4) ((q7.2) 5) ((q7.2) 6) (upd ((q7.2) 7) (Int32.toNatClampNeg (((3 : Int32) * (vM_33 12 0)) + (2 : Int32))) (0 : Int32)) ((q7.2) 8) ((q7.2) 9 0) ((q7.2) 10 0) ((q7.2) 11 0) vv ((q7.2) 13 0))) rfl TB_l5 tyX5 tyX5_ok nmX5 rfl 0 12 rfl (by decide) k528 rfl rfl rfl (Nat.le_of_ble_eq_true rfl) (fun _ => rfl) ?_
      refine J_iconst (pc := 96) (v := (1 : Int32)) C 60 rfl rfl ?_
      cases h
      exact J_zret (pc := 97) C 61 rfl rfl
    · rw [if_neg c8] at h
      refine J_iconst (pc := 80) (v := (1 : Int32)) C 50 rfl rfl ?_
      refine J_goto (pc := 81) (tgt := 85) C 51 rfl rfl ?_
      obtain ⟨g10, h⟩ := gd_some h
      refine J_iast (pc := 85) (f := ((q7.2) 7)) (m := (Int32.toNatClampNeg (((3 : Int32) * (vM_33 12 0)) + (2 : Int32)))) C 53 (fun mm vv => (wMod G aM ((q7.2) 0) ((q7.2) 1) ((q7.2) 2) ((q7.2) 3) ((q7.2) 4) ((q7.2) 5) ((q7.2) 6) (upd ((q7.2) 7) mm vv) ((q7.2) 8) ((q7.2) 9 0) ((q7.2) 10 0) ((q7.2) 11 0) ((q7.2) 12 0) ((q7.2) 13 0))) rfl 8 rfl g10 rfl (fun _ _ => rfl) ?_
      refine J_aload_n (pc := 86) C 54 rfl 0 rfl rfl ?_
      refine J_dup (pc := 87) C 55 rfl rfl ?_
      refine J_get (pc := 88) (v := .int ((q7.2) 12 0)) C 56 rfl TB_l5 rfl 0 12 rfl (by decide) k528 rfl rfl ?_
      refine J_iconst (pc := 91) (v := (1 : Int32)) C 57 rfl rfl ?_
      refine J_iadd (pc := 92) C 58 rfl  ?_
      refine J_puti (pc := 93) C 59 (fun vv => (wMod G aM ((q7.2) 0) ((q7.2) 1) ((q7.2) 2) ((q7.2) 3) ((q7.2) 4) ((q7.2) 5) ((q7.2) 6) (upd ((q7.2) 7) (Int32.toNatClampNeg (((3 : Int32) * (vM_33 12 0)) + (2 : Int32))) (1 : Int32)) ((q7.2) 8) ((q7.2) 9 0) ((q7.2) 10 0) ((q7.2) 11 0) vv ((q7.2) 13 0))) rfl TB_l5 tyX5 tyX5_ok nmX5 rfl 0 12 rfl (by decide) k528 rfl rfl rfl (Nat.le_of_ble_eq_true rfl) (fun _ => rfl) ?_
      refine J_iconst (pc := 96) (v := (1 : Int32)) C 60 rfl rfl ?_
      cases h
      exact J_zret (pc := 97) C 61 rfl rfl
  unfold f_X5_readsPupil at h
  refine J_aload_n (pc := 0) C 0 rfl 0 rfl rfl ?_
  obtain ⟨q1, hq1, h⟩ := bnd h
  refine J_callV (pc := 1) (st2 := []) (st3 := [.int (q1.1)]) (ws2 := (wMod G aM ((q1.2) 0) ((q1.2) 1) ((q1.2) 2) ((q1.2) 3) ((q1.2) 4) ((q1.2) 5) ((q1.2) 6) ((q1.2) 7) ((q1.2) 8) ((q1.2) 9 0) ((q1.2) 10 0) ((q1.2) 11 0) ((q1.2) 12 0) ((q1.2) 13 0))) C 1 rfl (c_X5_letters aM vM hq1) V_X5_letters k529 i_X5_letters s_X5_letters rfl rfl ⟨Nat.le_of_ble_eq_true rfl, Nat.le_of_ble_eq_true rfl⟩ (Nat.le_of_ble_eq_true rfl) ⟨Nat.le_refl _, Nat.le_refl _⟩ 0 5 rfl rfl rfl (isC := [0, 1, 2, 3, 4, 5, 6, 7, 8, 9]) (isR := []) (N := 10) ⟨rfl, by decide +kernel, rfl, by decide +kernel, rfl, trivial⟩ rfl ?_
  refine J_istore_n (pc := 4) (lv' := [(1, .int (q1.1)), (0, .ref (aM 0))]) C 2 rfl rfl (by decide) rfl ?_
  refine J_iload_n (pc := 5) C 3 rfl 0 rfl rfl ?_
  refine J_if_ne (pc := 6) (tgt := 11) C 4 rfl rfl (fun c2 => ?_) (fun c2 => ?_)
  · rw [if_neg c2] at h
    refine J_iconst (pc := 11) (v := (0 : Int32)) C 7 rfl rfl ?_
    refine J_istore_n (pc := 12) (lv' := [(2, .int (0 : Int32)), (1, .int (q1.1)), (0, .ref (aM 0))]) C 8 rfl rfl (by decide) rfl ?_
    refine J_aload_n (pc := 13) C 9 rfl 2 rfl rfl ?_
    refine J_bipush (pc := 14) (v := (43 : Int32)) C 10 rfl rfl ?_
    obtain ⟨q3, hq3, h⟩ := bnd h
    refine J_callV (pc := 16) (st2 := []) (st3 := [.int (q3.1)]) (ws2 := (wMod G aM ((q3.2) 0) ((q3.2) 1) ((q3.2) 2) ((q3.2) 3) ((q3.2) 4) ((q3.2) 5) ((q3.2) 6) ((q3.2) 7) ((q3.2) 8) ((q3.2) 9 0) ((q3.2) 10 0) ((q3.2) 11 0) ((q3.2) 12 0) ((q3.2) 13 0))) C 11 rfl (c_X5_accepts aM (q1.2) (43 : Int32) hq3) V_X5_accepts k532 i_X5_accepts s_X5_accepts rfl rfl ⟨Nat.le_of_ble_eq_true rfl, Nat.le_of_ble_eq_true rfl⟩ (Nat.le_of_ble_eq_true rfl) ⟨Nat.le_refl _, Nat.le_refl _⟩ 0 5 rfl rfl rfl (isC := [0, 1, 2, 3, 4, 5, 6, 7, 8, 9]) (isR := []) (N := 10) ⟨rfl, by decide +kernel, rfl, by decide +kernel, rfl, trivial⟩ rfl ?_
    refine J_if_eq (pc := 19) (tgt := 33) C 12 rfl rfl (fun c4 => ?_) (fun c4 => ?_)
    · rw [if_pos c4] at h
      exact J_sub [2, 1, 0] rfl (B33 (q3.2) (q1.1) (0 : Int32) h)
    · rw [if_neg c4] at h
      refine J_aload_n (pc := 22) C 13 rfl 2 rfl rfl ?_
      obtain ⟨q11, hq11, h⟩ := bnd h
      refine J_callV (pc := 23) (st2 := []) (st3 := [.int (q11.1)]) (ws2 := (wMod G aM ((q11.2) 0) ((q11.2) 1) ((q11.2) 2) ((q11.2) 3) ((q11.2) 4) ((q11.2) 5) ((q11.2) 6) ((q11.2) 7) ((q11.2) 8) ((q11.2) 9 0) ((q11.2) 10 0) ((q11.2) 11 0) ((q11.2) 12 0) ((q11.2) 13 0))) C 14 rfl (c_X5_number aM (q3.2) hq11) V_X5_number k535 i_X5_number s_X5_number rfl rfl ⟨Nat.le_of_ble_eq_true rfl, Nat.le_of_ble_eq_true rfl⟩ (Nat.le_of_ble_eq_true rfl) ⟨Nat.le_refl _, Nat.le_refl _⟩ 0 5 rfl rfl rfl (isC := [0, 1, 2, 3, 4, 5, 6, 7, 8, 9]) (isR := []) (N := 10) ⟨rfl, by decide +kernel, rfl, by decide +kernel, rfl, trivial⟩ rfl ?_
      refine J_istore_n (pc := 26) (lv' := [(2, .int (q11.1)), (1, .int (q1.1)), (0, .ref (aM 0))]) C 15 rfl rfl (by decide) rfl ?_
      refine J_iload_n (pc := 27) C 16 rfl 0 rfl rfl ?_
      refine J_if_ne (pc := 28) (tgt := 33) C 17 rfl rfl (fun c12 => ?_) (fun c12 => ?_)
      · rw [if_neg c12] at h
        exact J_sub [2, 1, 0] rfl (B33 (q11.2) (q1.1) (q11.1) h)
      · rw [if_pos c12] at h
        refine J_iconst (pc := 31) (v := (0 : Int32)) C 18 rfl rfl ?_
        cases h
        exact J_zret (pc := 32) C 19 rfl rfl
  · rw [if_pos c2] at h
    refine J_iconst (pc := 9) (v := (0 : Int32)) C 5 rfl rfl ?_
    cases h
    exact J_zret (pc := 10) C 6 rfl rfl
def T_X5_faultOf : List (Nat × ClassFile.Instr × Nat) := [(0, .aload_n 0, 1), (1, .iconst 0, 1), (2, .putfield 128, 3), (5, .aload_n 0, 1), (6, .iconst 0, 1), (7, .putfield 149, 3), (10, .aload_n 0, 1), (11, .invokevirtual 152, 3), (14, .istore_n 1, 1), (15, .iload_n 1, 1), (16, .ifCond .eq 39, 3), (19, .aload_n 0, 1), (20, .getfield 128, 3), (23, .aload_n 0, 1), (24, .getfield 131, 3), (27, .if_icmp .ge 28, 3), (30, .aload_n 0, 1), (31, .bipush 59, 2), (33, .invokevirtual 142, 3), (36, .ifCond .eq 14, 3), (39, .aload_n 0, 1), (40, .invokevirtual 152, 3), (43, .ifCond .eq 7, 3), (46, .iconst 1, 1), (47, .goto 4, 3), (50, .iconst 0, 1), (51, .istore_n 1, 1), (52, .goto (-37), 3), (55, .iload_n 1, 1), (56, .ifCond .eq 7, 3), (59, .iconst (-1), 1), (60, .goto 7, 3), (63, .aload_n 0, 1), (64, .getfield 128, 3), (67, .ireturn, 1)]
theorem D_X5_faultOf : ∀ q ∈ T_X5_faultOf, decode cX5_faultOf q.1 = .ok q.2 := by decide +kernel
theorem V_X5_faultOf : Vy yX5_faultOf cX5_faultOf 2 (some .int) 0 := ⟨k541, k415, by decide +kernel⟩
theorem i_X5_faultOf : Cond.instanceMethod yX5_faultOf ∈ TB := k543
theorem s_X5_faultOf : Cond.selects yX5_faultOf.cls yX5_faultOf yX5_faultOf ∈ TB := k544
noncomputable def f_X5_faultOf_K55  (vM_55 : JV) (x1_55 : Int32) : Option (Int32 × JV) :=
  (if x1_55 = 0 then some ((vM_55 13 0), vM_55) else some ((-1 : Int32), vM_55))
noncomputable def f_X5_faultOf_b15  (r15 : JV → Int32 → Option (Int32 × JV)) (vM_15 : JV) (x1_15 : Int32) : Option (Int32 × JV) :=
  (if x1_15 = 0 then f_X5_faultOf_K55  vM_15 x1_15 else (if (vM_15 10 0) ≤ (vM_15 13 0) then f_X5_faultOf_K55  vM_15 x1_15 else (f_X5_accepts vM_15 (59 : Int32)).bind (fun q5 => (if (q5.1) = 0 then r15 (q5.2) (0 : Int32) else (f_X5_readsPupil (q5.2)).bind (fun q7 => (if (q7.1) = 0 then r15 (q7.2) (0 : Int32) else r15 (q7.2) (1 : Int32)))))))
noncomputable def f_X5_faultOf_L15  (n : Nat) (vM_15 : JV) (x1_15 : Int32) : Option (Int32 × JV) :=
  lp (fun (rec : JV × Int32 → Option (Int32 × JV)) a => f_X5_faultOf_b15  (fun vM_15 x1_15 => rec (vM_15, x1_15)) a.1 a.2) n (vM_15, x1_15)
noncomputable def f_X5_faultOf (vM : JV)  : Option (Int32 × JV) :=
  (f_X5_readsPupil (up2 (up2 vM 13 0 (0 : Int32)) 12 0 (0 : Int32))).bind (fun q1 => f_X5_faultOf_L15   FU (q1.2) (q1.1))
set_option maxRecDepth 100000 in
set_option maxHeartbeats 4000000 in
theorem c_X5_faultOf {l : Launch} {G : JG} (aM : Nat → Nat) (vM : JV)  {Rz : Int32 × JV} (h : f_X5_faultOf vM = some Rz) : JM l G yX5_faultOf cX5_faultOf 2 (some .int) 3 66 [.ref (aM 0)] (wMod G aM (vM 0) (vM 1) (vM 2) (vM 3) (vM 4) (vM 5) (vM 6) (vM 7) (vM 8) (vM 9 0) (vM 10 0) (vM 11 0) (vM 12 0) (vM 13 0)) (wMod G aM ((Rz.2) 0) ((Rz.2) 1) ((Rz.2) 2) ((Rz.2) 3) ((Rz.2) 4) ((Rz.2) 5) ((Rz.2) 6) ((Rz.2) 7) ((Rz.2) 8) ((Rz.2) 9 0) ((Rz.2) 10 0) ((Rz.2) 11 0) ((Rz.2) 12 0) ((Rz.2) 13 0)) (some (.int (Rz.1))) := by
  refine JM.of (own := RX5) (tb := T_X5_faultOf) (by decide) (Nat.le_of_ble_eq_true rfl) D_X5_faultOf rfl (fun X C => ?_)
  refine J_sub (lv' := [(0, .ref (aM 0))]) [0] rfl ?_
  have B55 : ∀ (vM_55 : JV) (x1_55 : Int32), f_X5_faultOf_K55  vM_55 x1_55 = some Rz → J l { frames := 3, cells := 0, slots := 0, locals := 66 } G 2 X (QM X G 0 0 (some (.int (Rz.1))) (wMod G aM ((Rz.2) 0) ((Rz.2) 1) ((Rz.2) 2) ((Rz.2) 3) ((Rz.2) 4) ((Rz.2) 5) ((Rz.2) 6) ((Rz.2) 7) ((Rz.2) 8) ((Rz.2) 9 0) ((Rz.2) 10 0) ((Rz.2) 11 0) ((Rz.2) 12 0) ((Rz.2) 13 0))) 0 0 55 [(0, .ref (aM 0)), (1, .int x1_55)] [] (wMod G aM (vM_55 0) (vM_55 1) (vM_55 2) (vM_55 3) (vM_55 4) (vM_55 5) (vM_55 6) (vM_55 7) (vM_55 8) (vM_55 9 0) (vM_55 10 0) (vM_55 11 0) (vM_55 12 0) (vM_55 13 0)) := by
    intro vM_55 x1_55 h
    unfold f_X5_faultOf_K55 at h
    refine J_iload_n (pc := 55) C 28 rfl 1 rfl rfl ?_
    refine J_if_eq (pc := 56) (tgt := 63) C 29 rfl rfl (fun c3 => ?_) (fun c3 => ?_)
    · rw [if_pos c3] at h
      refine J_aload_n (pc := 63) C 32 rfl 0 rfl rfl ?_
      refine J_get (pc := 64) (v := .int (vM_55 13 0)) C 33 rfl TB_l5 rfl 0 13 rfl (by decide) k519 rfl rfl ?_
      cases h
      exact J_iret (pc := 67) C 34 rfl
    · rw [if_neg c3] at h
      refine J_iconst (pc := 59) (v := (-1 : Int32)) C 30 rfl rfl ?_
      refine J_goto (pc := 60) (tgt := 67) C 31 rfl rfl ?_
      cases h
      exact J_iret (pc := 67) C 34 rfl
  have B15 : ∀ (n15 : Nat) (vM_15 : JV) (x1_15 : Int32), f_X5_faultOf_L15  n15 vM_15 x1_15 = some Rz → J l { frames := 3, cells := 0, slots := 0, locals := 66 } G 2 X (QM X G 0 0 (some (.int (Rz.1))) (wMod G aM ((Rz.2) 0) ((Rz.2) 1) ((Rz.2) 2) ((Rz.2) 3) ((Rz.2) 4) ((Rz.2) 5) ((Rz.2) 6) ((Rz.2) 7) ((Rz.2) 8) ((Rz.2) 9 0) ((Rz.2) 10 0) ((Rz.2) 11 0) ((Rz.2) 12 0) ((Rz.2) 13 0))) 0 0 15 [(0, .ref (aM 0)), (1, .int x1_15)] [] (wMod G aM (vM_15 0) (vM_15 1) (vM_15 2) (vM_15 3) (vM_15 4) (vM_15 5) (vM_15 6) (vM_15 7) (vM_15 8) (vM_15 9 0) (vM_15 10 0) (vM_15 11 0) (vM_15 12 0) (vM_15 13 0)) := by
    intro  n15
    induction n15 with
    | zero =>
      intro vM_15 x1_15 h
      exact (no_none rfl h).elim
    | succ n15 ih15 =>
      intro vM_15 x1_15 h
      replace h : f_X5_faultOf_b15  (fun vM_15 x1_15 => f_X5_faultOf_L15  n15 vM_15 x1_15) vM_15 x1_15 = some Rz := h
      unfold f_X5_faultOf_b15 at h
      refine J_iload_n (pc := 15) C 9 rfl 1 rfl rfl ?_
      refine J_if_eq (pc := 16) (tgt := 55) C 10 rfl rfl (fun c2 => ?_) (fun c2 => ?_)
      · rw [if_pos c2] at h
        exact J_sub [0, 1] rfl (B55 vM_15 x1_15 h)
      · rw [if_neg c2] at h
        refine J_aload_n (pc := 19) C 11 rfl 0 rfl rfl ?_
        refine J_get (pc := 20) (v := .int (vM_15 13 0)) C 12 rfl TB_l5 rfl 0 13 rfl (by decide) k519 rfl rfl ?_
        refine J_aload_n (pc := 23) C 13 rfl 0 rfl rfl ?_
        refine J_get (pc := 24) (v := .int (vM_15 10 0)) C 14 rfl TB_l5 rfl 0 10 rfl (by decide) k520 rfl rfl ?_
        refine J_icmp_ge (pc := 27) (tgt := 55) C 15 rfl rfl (fun c4 => ?_) (fun c4 => ?_)
        · rw [if_pos c4] at h
          exact J_sub [0, 1] rfl (B55 vM_15 x1_15 h)
        · rw [if_neg c4] at h
          refine J_aload_n (pc := 30) C 16 rfl 0 rfl rfl ?_
          refine J_bipush (pc := 31) (v := (59 : Int32)) C 17 rfl rfl ?_
          obtain ⟨q5, hq5, h⟩ := bnd h
          refine J_callV (pc := 33) (st2 := []) (st3 := [.int (q5.1)]) (ws2 := (wMod G aM ((q5.2) 0) ((q5.2) 1) ((q5.2) 2) ((q5.2) 3) ((q5.2) 4) ((q5.2) 5) ((q5.2) 6) ((q5.2) 7) ((q5.2) 8) ((q5.2) 9 0) ((q5.2) 10 0) ((q5.2) 11 0) ((q5.2) 12 0) ((q5.2) 13 0))) C 18 rfl (c_X5_accepts aM vM_15 (59 : Int32) hq5) V_X5_accepts k532 i_X5_accepts s_X5_accepts rfl rfl ⟨Nat.le_of_ble_eq_true rfl, Nat.le_of_ble_eq_true rfl⟩ (Nat.le_of_ble_eq_true rfl) ⟨Nat.le_refl _, Nat.le_refl _⟩ 0 5 rfl rfl rfl (isC := [0, 1, 2, 3, 4, 5, 6, 7, 8, 9]) (isR := []) (N := 10) ⟨rfl, by decide +kernel, rfl, by decide +kernel, rfl, trivial⟩ rfl ?_
          refine J_if_eq (pc := 36) (tgt := 50) C 19 rfl rfl (fun c6 => ?_) (fun c6 => ?_)
          · rw [if_pos c6] at h
            refine J_iconst (pc := 50) (v := (0 : Int32)) C 25 rfl rfl ?_
            refine J_istore_n (pc := 51) (lv' := [(1, .int (0 : Int32)), (0, .ref (aM 0))]) C 26 rfl rfl (by decide) rfl ?_
            refine J_goto (pc := 52) (tgt := 15) C 27 rfl rfl ?_
            exact J_sub [1, 0] rfl (ih15 (q5.2) (0 : Int32) h)
          · rw [if_neg c6] at h
            refine J_aload_n (pc := 39) C 20 rfl 0 rfl rfl ?_
            obtain ⟨q7, hq7, h⟩ := bnd h
            refine J_callV (pc := 40) (st2 := []) (st3 := [.int (q7.1)]) (ws2 := (wMod G aM ((q7.2) 0) ((q7.2) 1) ((q7.2) 2) ((q7.2) 3) ((q7.2) 4) ((q7.2) 5) ((q7.2) 6) ((q7.2) 7) ((q7.2) 8) ((q7.2) 9 0) ((q7.2) 10 0) ((q7.2) 11 0) ((q7.2) 12 0) ((q7.2) 13 0))) C 21 rfl (c_X5_readsPupil aM (q5.2) hq7) V_X5_readsPupil k538 i_X5_readsPupil s_X5_readsPupil rfl rfl ⟨Nat.le_of_ble_eq_true rfl, Nat.le_of_ble_eq_true rfl⟩ (Nat.le_of_ble_eq_true rfl) ⟨Nat.le_refl _, Nat.le_refl _⟩ 0 5 rfl rfl rfl (isC := [0, 1, 2, 3, 4, 5, 6, 7, 8, 9]) (isR := []) (N := 10) ⟨rfl, by decide +kernel, rfl, by decide +kernel, rfl, trivial⟩ rfl ?_
            refine J_if_eq (pc := 43) (tgt := 50) C 22 rfl rfl (fun c8 => ?_) (fun c8 => ?_)
            · rw [if_pos c8] at h
              refine J_iconst (pc := 50) (v := (0 : Int32)) C 25 rfl rfl ?_
              refine J_istore_n (pc := 51) (lv' := [(1, .int (0 : Int32)), (0, .ref (aM 0))]) C 26 rfl rfl (by decide) rfl ?_
              refine J_goto (pc := 52) (tgt := 15) C 27 rfl rfl ?_
              exact J_sub [1, 0] rfl (ih15 (q7.2) (0 : Int32) h)
            · rw [if_neg c8] at h
              refine J_iconst (pc := 46) (v := (1 : Int32)) C 23 rfl rfl ?_
              refine J_goto (pc := 47) (tgt := 51) C 24 rfl rfl ?_
              refine J_istore_n (pc := 51) (lv' := [(1, .int (1 : Int32)), (0, .ref (aM 0))]) C 26 rfl rfl (by decide) rfl ?_
              refine J_goto (pc := 52) (tgt := 15) C 27 rfl rfl ?_
              exact J_sub [1, 0] rfl (ih15 (q7.2) (1 : Int32) h)
  unfold f_X5_faultOf at h
  refine J_aload_n (pc := 0) C 0 rfl 0 rfl rfl ?_
  refine J_iconst (pc := 1) (v := (0 : Int32)) C 1 rfl rfl ?_
  refine J_puti (pc := 2) C 2 (fun vv => (wMod G aM (vM 0) (vM 1) (vM 2) (vM 3) (vM 4) (vM 5) (vM 6) (vM 7) (vM 8) (vM 9 0) (vM 10 0) (vM 11 0) (vM 12 0) vv)) rfl TB_l5 tyX5 tyX5_ok nmX5 rfl 0 13 rfl (by decide) k519 rfl rfl rfl (Nat.le_of_ble_eq_true rfl) (fun _ => rfl) ?_
  refine J_aload_n (pc := 5) C 3 rfl 0 rfl rfl ?_
  refine J_iconst (pc := 6) (v := (0 : Int32)) C 4 rfl rfl ?_
  refine J_puti (pc := 7) C 5 (fun vv => (wMod G aM (vM 0) (vM 1) (vM 2) (vM 3) (vM 4) (vM 5) (vM 6) (vM 7) (vM 8) (vM 9 0) (vM 10 0) (vM 11 0) vv (0 : Int32))) rfl TB_l5 tyX5 tyX5_ok nmX5 rfl 0 12 rfl (by decide) k528 rfl rfl rfl (Nat.le_of_ble_eq_true rfl) (fun _ => rfl) ?_
  refine J_aload_n (pc := 10) C 6 rfl 0 rfl rfl ?_
  obtain ⟨q1, hq1, h⟩ := bnd h
  refine J_callV (pc := 11) (st2 := []) (st3 := [.int (q1.1)]) (ws2 := (wMod G aM ((q1.2) 0) ((q1.2) 1) ((q1.2) 2) ((q1.2) 3) ((q1.2) 4) ((q1.2) 5) ((q1.2) 6) ((q1.2) 7) ((q1.2) 8) ((q1.2) 9 0) ((q1.2) 10 0) ((q1.2) 11 0) ((q1.2) 12 0) ((q1.2) 13 0))) C 7 rfl (c_X5_readsPupil aM (up2 (up2 vM 13 0 (0 : Int32)) 12 0 (0 : Int32)) hq1) V_X5_readsPupil k538 i_X5_readsPupil s_X5_readsPupil rfl rfl ⟨Nat.le_of_ble_eq_true rfl, Nat.le_of_ble_eq_true rfl⟩ (Nat.le_of_ble_eq_true rfl) ⟨Nat.le_refl _, Nat.le_refl _⟩ 0 5 rfl rfl rfl (isC := [0, 1, 2, 3, 4, 5, 6, 7, 8, 9]) (isR := []) (N := 10) ⟨rfl, by decide +kernel, rfl, by decide +kernel, rfl, trivial⟩ rfl ?_
  refine J_istore_n (pc := 14) (lv' := [(1, .int (q1.1)), (0, .ref (aM 0))]) C 8 rfl rfl (by decide) rfl ?_
  exact J_sub [1, 0] rfl (B15  FU (q1.2) (q1.1) h)
def T_X5_read : List (Nat × ClassFile.Instr × Nat) := [(0, .aload_n 0, 1), (1, .invokevirtual 156, 3), (4, .ifCond .lt 6, 3), (7, .bipush (-3), 2), (9, .ireturn, 1), (10, .aload_n 0, 1), (11, .getfield 7, 3), (14, .iconst 3, 1), (15, .iaload, 1), (16, .aload_n 0, 1), (17, .getfield 149, 3), (20, .iadd, 1), (21, .bipush 16, 2), (23, .if_icmp .le 6, 3), (26, .bipush (-4), 2), (28, .ireturn, 1), (29, .aload_n 0, 1), (30, .invokevirtual 106, 3), (33, .iconst 0, 1), (34, .istore_n 1, 1), (35, .iload_n 1, 1), (36, .aload_n 0, 1), (37, .getfield 149, 3), (40, .if_icmp .ge 57, 3), (43, .aload_n 0, 1), (44, .aload_n 0, 1), (45, .getfield 7, 3), (48, .iconst 3, 1), (49, .iaload, 1), (50, .aload_n 0, 1), (51, .getfield 32, 3), (54, .iconst 3, 1), (55, .iload_n 1, 1), (56, .imul, 1), (57, .iaload, 1), (58, .aload_n 0, 1), (59, .getfield 32, 3), (62, .iconst 3, 1), (63, .iload_n 1, 1), (64, .imul, 1), (65, .iconst 1, 1), (66, .iadd, 1), (67, .iaload, 1), (68, .aload_n 0, 1), (69, .getfield 32, 3), (72, .iconst 3, 1), (73, .iload_n 1, 1), (74, .imul, 1), (75, .iconst 2, 1), (76, .iadd, 1), (77, .iaload, 1), (78, .invokevirtual 115, 3), (81, .aload_n 0, 1), (82, .getfield 7, 3), (85, .iconst 3, 1), (86, .dup2, 1), (87, .iaload, 1), (88, .iconst 1, 1), (89, .iadd, 1), (90, .iastore, 1), (91, .iinc 1 1, 3), (94, .goto (-59), 3), (97, .aload_n 0, 1), (98, .iconst 0, 1), (99, .putfield 131, 3), (102, .aload_n 0, 1), (103, .aload_n 0, 1), (104, .getfield 7, 3), (107, .iconst 3, 1), (108, .iaload, 1), (109, .invokevirtual 109, 3), (112, .ireturn, 1)]
theorem D_X5_read : ∀ q ∈ T_X5_read, decode cX5_read q.1 = .ok q.2 := by decide +kernel
theorem V_X5_read : Vy yX5_read cX5_read 2 (some .int) 0 := ⟨k545, k415, by decide +kernel⟩
theorem i_X5_read : Cond.instanceMethod yX5_read ∈ TB := k657
theorem s_X5_read : Cond.selects yX5_read.cls yX5_read yX5_read ∈ TB := k658
noncomputable def f_X5_read_b35  (r35 : JV → Int32 → Option (Int32 × JV)) (vM_35 : JV) (x1_35 : Int32) : Option (Int32 × JV) :=
  (if (vM_35 12 0) ≤ x1_35 then (f_X5_recorded (up2 vM_35 10 0 (0 : Int32)) ((vM_35 0) 3)).bind (fun q6 => some ((q6.1), (q6.2))) else gd (inb ((3 : Int32) * x1_35) 96) (gd (inb (((3 : Int32) * x1_35) + (1 : Int32)) 96) (gd (inb (((3 : Int32) * x1_35) + (2 : Int32)) 96) ((f_X5_puts vM_35 ((vM_35 0) 3) ((vM_35 7) (Int32.toNatClampNeg ((3 : Int32) * x1_35))) ((vM_35 7) (Int32.toNatClampNeg (((3 : Int32) * x1_35) + (1 : Int32)))) ((vM_35 7) (Int32.toNatClampNeg (((3 : Int32) * x1_35) + (2 : Int32))))).bind (fun q10 => r35 (up2 q10 0 3 (((q10 0) 3) + (1 : Int32))) (x1_35 + (1 : Int32)))))))
noncomputable def f_X5_read_L35  (n : Nat) (vM_35 : JV) (x1_35 : Int32) : Option (Int32 × JV) :=
  lp (fun (rec : JV × Int32 → Option (Int32 × JV)) a => f_X5_read_b35  (fun vM_35 x1_35 => rec (vM_35, x1_35)) a.1 a.2) n (vM_35, x1_35)
noncomputable def f_X5_read (vM : JV)  : Option (Int32 × JV) :=
  (f_X5_faultOf vM).bind (fun q1 => (if (q1.1) < 0 then (if ((((q1.2) 0) 3) + ((q1.2) 12 0)) ≤ (16 : Int32) then (f_X5_hold (q1.2)).bind (fun q4 => f_X5_read_L35   FU q4 (0 : Int32)) else some ((-4 : Int32), (q1.2))) else some ((-3 : Int32), (q1.2))))
set_option maxRecDepth 100000 in
set_option maxHeartbeats 4000000 in
theorem c_X5_read {l : Launch} {G : JG} (aM : Nat → Nat) (vM : JV)  {Rz : Int32 × JV} (h : f_X5_read vM = some Rz) : JM l G yX5_read cX5_read 2 (some .int) 4 87 [.ref (aM 0)] (wMod G aM (vM 0) (vM 1) (vM 2) (vM 3) (vM 4) (vM 5) (vM 6) (vM 7) (vM 8) (vM 9 0) (vM 10 0) (vM 11 0) (vM 12 0) (vM 13 0)) (wMod G aM ((Rz.2) 0) ((Rz.2) 1) ((Rz.2) 2) ((Rz.2) 3) ((Rz.2) 4) ((Rz.2) 5) ((Rz.2) 6) ((Rz.2) 7) ((Rz.2) 8) ((Rz.2) 9 0) ((Rz.2) 10 0) ((Rz.2) 11 0) ((Rz.2) 12 0) ((Rz.2) 13 0)) (some (.int (Rz.1))) := by
  refine JM.of (own := RX5) (tb := T_X5_read) (by decide) (Nat.le_of_ble_eq_true rfl) D_X5_read rfl (fun X C => ?_)
  refine J_sub (lv' := [(0, .ref (aM 0))]) [0] rfl ?_
  have B35 : ∀ (n35 : Nat) (vM_35 : JV) (x1_35 : Int32), f_X5_read_L35  n35 vM_35 x1_35 = some Rz → J l { frames := 4, cells := 0, slots := 0, locals := 87 } G 2 X (QM X G 0 0 (some (.int (Rz.1))) (wMod G aM ((Rz.2) 0) ((Rz.2) 1) ((Rz.2) 2) ((Rz.2) 3) ((Rz.2) 4) ((Rz.2) 5) ((Rz.2) 6) ((Rz.2) 7) ((Rz.2) 8) ((Rz.2) 9 0) ((Rz.2) 10 0) ((Rz.2) 11 0) ((Rz.2) 12 0) ((Rz.2) 13 0))) 0 0 35 [(0, .ref (aM 0)), (1, .int x1_35)] [] (wMod G aM (vM_35 0) (vM_35 1) (vM_35 2) (vM_35 3) (vM_35 4) (vM_35 5) (vM_35 6) (vM_35 7) (vM_35 8) (vM_35 9 0) (vM_35 10 0) (vM_35 11 0) (vM_35 12 0) (vM_35 13 0)) := by
    intro  n35
    induction n35 with
    | zero =>
      intro vM_35 x1_35 h
      exact (no_none rfl h).elim
    | succ n35 ih35 =>
      intro vM_35 x1_35 h
      replace h : f_X5_read_b35  (fun vM_35 x1_35 => f_X5_read_L35  n35 vM_35 x1_35) vM_35 x1_35 = some Rz := h
      unfold f_X5_read_b35 at h
      refine J_iload_n (pc := 35) C 20 rfl 1 rfl rfl ?_
      refine J_aload_n (pc := 36) C 21 rfl 0 rfl rfl ?_
      refine J_get (pc := 37) (v := .int (vM_35 12 0)) C 22 rfl TB_l5 rfl 0 12 rfl (by decide) k528 rfl rfl ?_
      refine J_icmp_ge (pc := 40) (tgt := 97) C 23 rfl rfl (fun c5 => ?_) (fun c5 => ?_)
      · rw [if_pos c5] at h
        refine J_aload_n (pc := 97) C 62 rfl 0 rfl rfl ?_
        refine J_iconst (pc := 98) (v := (0 : Int32)) C 63 rfl rfl ?_
        refine J_puti (pc := 99) C 64 (fun vv => (wMod G aM (vM_35 0) (vM_35 1) (vM_35 2) (vM_35 3) (vM_35 4) (vM_35 5) (vM_35 6) (vM_35 7) (vM_35 8) (vM_35 9 0) vv (vM_35 11 0) (vM_35 12 0) (vM_35 13 0))) rfl TB_l5 tyX5 tyX5_ok nmX5 rfl 0 10 rfl (by decide) k520 rfl rfl rfl (Nat.le_of_ble_eq_true rfl) (fun _ => rfl) ?_
        refine J_aload_n (pc := 102) C 65 rfl 0 rfl rfl ?_
        refine J_aload_n (pc := 103) C 66 rfl 0 rfl rfl ?_
        refine J_get (pc := 104) (v := .ref (aM 1)) C 67 rfl TB_l5 rfl 0 0 rfl (by decide) k399 rfl rfl ?_
        refine J_iconst (pc := 107) (v := (3 : Int32)) C 68 rfl rfl ?_
        refine J_iald (pc := 108) (f := (vM_35 0)) (v := ((vM_35 0) 3)) C 69 rfl 1 rfl rfl rfl ?_
        obtain ⟨q6, hq6, h⟩ := bnd h
        refine J_callV (pc := 109) (st2 := []) (st3 := [.int (q6.1)]) (ws2 := (wMod G aM ((q6.2) 0) ((q6.2) 1) ((q6.2) 2) ((q6.2) 3) ((q6.2) 4) ((q6.2) 5) ((q6.2) 6) ((q6.2) 7) ((q6.2) 8) ((q6.2) 9 0) ((q6.2) 10 0) ((q6.2) 11 0) ((q6.2) 12 0) ((q6.2) 13 0))) C 70 rfl (c_X5_recorded aM (up2 vM_35 10 0 (0 : Int32)) ((vM_35 0) 3) hq6) V_X5_recorded k495 i_X5_recorded s_X5_recorded rfl rfl ⟨Nat.le_of_ble_eq_true rfl, Nat.le_of_ble_eq_true rfl⟩ (Nat.le_of_ble_eq_true rfl) ⟨Nat.le_refl _, Nat.le_refl _⟩ 0 5 rfl rfl rfl (isC := [0, 1, 2, 3, 4, 5, 6, 7, 8, 9]) (isR := []) (N := 10) ⟨rfl, by decide +kernel, rfl, by decide +kernel, rfl, trivial⟩ rfl ?_
        cases h
        exact J_iret (pc := 112) C 71 rfl
      · rw [if_neg c5] at h
        refine J_aload_n (pc := 43) C 24 rfl 0 rfl rfl ?_
        refine J_aload_n (pc := 44) C 25 rfl 0 rfl rfl ?_
        refine J_get (pc := 45) (v := .ref (aM 1)) C 26 rfl TB_l5 rfl 0 0 rfl (by decide) k399 rfl rfl ?_
        refine J_iconst (pc := 48) (v := (3 : Int32)) C 27 rfl rfl ?_
        refine J_iald (pc := 49) (f := (vM_35 0)) (v := ((vM_35 0) 3)) C 28 rfl 1 rfl rfl rfl ?_
        refine J_aload_n (pc := 50) C 29 rfl 0 rfl rfl ?_
        refine J_get (pc := 51) (v := .ref (aM 8)) C 30 rfl TB_l5 rfl 0 7 rfl (by decide) k406 rfl rfl ?_
        refine J_iconst (pc := 54) (v := (3 : Int32)) C 31 rfl rfl ?_
        refine J_iload_n (pc := 55) C 32 rfl 1 rfl rfl ?_
        refine J_imul (pc := 56) C 33 rfl  ?_
        obtain ⟨g7, h⟩ := gd_some h
        refine J_iald (pc := 57) (f := (vM_35 7)) (v := ((vM_35 7) (Int32.toNatClampNeg ((3 : Int32) * x1_35)))) C 34 rfl 8 rfl g7 rfl ?_
        refine J_aload_n (pc := 58) C 35 rfl 0 rfl rfl ?_
        refine J_get (pc := 59) (v := .ref (aM 8)) C 36 rfl TB_l5 rfl 0 7 rfl (by decide) k406 rfl rfl ?_
        refine J_iconst (pc := 62) (v := (3 : Int32)) C 37 rfl rfl ?_
        refine J_iload_n (pc := 63) C 38 rfl 1 rfl rfl ?_
        refine J_imul (pc := 64) C 39 rfl  ?_
        refine J_iconst (pc := 65) (v := (1 : Int32)) C 40 rfl rfl ?_
        refine J_iadd (pc := 66) C 41 rfl  ?_
        obtain ⟨g8, h⟩ := gd_some h
        refine J_iald (pc := 67) (f := (vM_35 7)) (v := ((vM_35 7) (Int32.toNatClampNeg (((3 : Int32) * x1_35) + (1 : Int32))))) C 42 rfl 8 rfl g8 rfl ?_
        refine J_aload_n (pc := 68) C 43 rfl 0 rfl rfl ?_
        refine J_get (pc := 69) (v := .ref (aM 8)) C 44 rfl TB_l5 rfl 0 7 rfl (by decide) k406 rfl rfl ?_
        refine J_iconst (pc := 72) (v := (3 : Int32)) C 45 rfl rfl ?_
        refine J_iload_n (pc := 73) C 46 rfl 1 rfl rfl ?_
        refine J_imul (pc := 74) C 47 rfl  ?_
        refine J_iconst (pc := 75) (v := (2 : Int32)) C 48 rfl rfl ?_
        refine J_iadd (pc := 76) C 49 rfl  ?_
        obtain ⟨g9, h⟩ := gd_some h
        refine J_iald (pc := 77) (f := (vM_35 7)) (v := ((vM_35 7) (Int32.toNatClampNeg (((3 : Int32) * x1_35) + (2 : Int32))))) C 50 rfl 8 rfl g9 rfl ?_
        obtain ⟨q10, hq10, h⟩ := bnd h
        refine J_callV (pc := 78) (st2 := []) (st3 := []) (ws2 := (wMod G aM (q10 0) (q10 1) (q10 2) (q10 3) (q10 4) (q10 5) (q10 6) (q10 7) (q10 8) (q10 9 0) (q10 10 0) (q10 11 0) (q10 12 0) (q10 13 0))) C 51 rfl (c_X5_puts aM vM_35 ((vM_35 0) 3) ((vM_35 7) (Int32.toNatClampNeg ((3 : Int32) * x1_35))) ((vM_35 7) (Int32.toNatClampNeg (((3 : Int32) * x1_35) + (1 : Int32)))) ((vM_35 7) (Int32.toNatClampNeg (((3 : Int32) * x1_35) + (2 : Int32)))) hq10) V_X5_puts k503 i_X5_puts s_X5_puts rfl rfl ⟨Nat.le_of_ble_eq_true rfl, Nat.le_of_ble_eq_true rfl⟩ (Nat.le_of_ble_eq_true rfl) ⟨Nat.le_refl _, Nat.le_refl _⟩ 0 5 rfl rfl rfl (isC := [0, 1, 2, 3, 4, 5, 6, 7, 8, 9]) (isR := []) (N := 10) ⟨rfl, by decide +kernel, rfl, by decide +kernel, rfl, trivial⟩ rfl ?_
        refine J_aload_n (pc := 81) C 52 rfl 0 rfl rfl ?_
        refine J_get (pc := 82) (v := .ref (aM 1)) C 53 rfl TB_l5 rfl 0 0 rfl (by decide) k399 rfl rfl ?_
        refine J_iconst (pc := 85) (v := (3 : Int32)) C 54 rfl rfl ?_
        refine J_dup2 (pc := 86) C 55 rfl rfl rfl ?_
        refine J_iald (pc := 87) (f := (q10 0)) (v := ((q10 0) 3)) C 56 rfl 1 rfl rfl rfl ?_
        refine J_iconst (pc := 88) (v := (1 : Int32)) C 57 rfl rfl ?_
        refine J_iadd (pc := 89) C 58 rfl  ?_
        refine J_iast (pc := 90) (f := (q10 0)) (m := 3) C 59 (fun mm vv => (wMod G aM (upd (q10 0) mm vv) (q10 1) (q10 2) (q10 3) (q10 4) (q10 5) (q10 6) (q10 7) (q10 8) (q10 9 0) (q10 10 0) (q10 11 0) (q10 12 0) (q10 13 0))) rfl 1 rfl rfl rfl (fun _ _ => rfl) ?_
        refine J_iinc (pc := 91) (v := (x1_35 + (1 : Int32))) (lv' := [(1, .int (x1_35 + (1 : Int32))), (0, .ref (aM 0))]) C 60 rfl 1 rfl rfl (by decide) rfl ?_
        refine J_goto (pc := 94) (tgt := 35) C 61 rfl rfl ?_
        exact J_sub [1, 0] rfl (ih35 (up2 q10 0 3 (((q10 0) 3) + (1 : Int32))) (x1_35 + (1 : Int32)) h)
  unfold f_X5_read at h
  refine J_aload_n (pc := 0) C 0 rfl 0 rfl rfl ?_
  obtain ⟨q1, hq1, h⟩ := bnd h
  refine J_callV (pc := 1) (st2 := []) (st3 := [.int (q1.1)]) (ws2 := (wMod G aM ((q1.2) 0) ((q1.2) 1) ((q1.2) 2) ((q1.2) 3) ((q1.2) 4) ((q1.2) 5) ((q1.2) 6) ((q1.2) 7) ((q1.2) 8) ((q1.2) 9 0) ((q1.2) 10 0) ((q1.2) 11 0) ((q1.2) 12 0) ((q1.2) 13 0))) C 1 rfl (c_X5_faultOf aM vM hq1) V_X5_faultOf k542 i_X5_faultOf s_X5_faultOf rfl rfl ⟨Nat.le_of_ble_eq_true rfl, Nat.le_of_ble_eq_true rfl⟩ (Nat.le_of_ble_eq_true rfl) ⟨Nat.le_refl _, Nat.le_refl _⟩ 0 5 rfl rfl rfl (isC := [0, 1, 2, 3, 4, 5, 6, 7, 8, 9]) (isR := []) (N := 10) ⟨rfl, by decide +kernel, rfl, by decide +kernel, rfl, trivial⟩ rfl ?_
  refine J_if_lt (pc := 4) (tgt := 10) C 2 rfl rfl (fun c2 => ?_) (fun c2 => ?_)
  · rw [if_pos c2] at h
    refine J_aload_n (pc := 10) C 5 rfl 0 rfl rfl ?_
    refine J_get (pc := 11) (v := .ref (aM 1)) C 6 rfl TB_l5 rfl 0 0 rfl (by decide) k399 rfl rfl ?_
    refine J_iconst (pc := 14) (v := (3 : Int32)) C 7 rfl rfl ?_
    refine J_iald (pc := 15) (f := ((q1.2) 0)) (v := (((q1.2) 0) 3)) C 8 rfl 1 rfl rfl rfl ?_
    refine J_aload_n (pc := 16) C 9 rfl 0 rfl rfl ?_
    refine J_get (pc := 17) (v := .int ((q1.2) 12 0)) C 10 rfl TB_l5 rfl 0 12 rfl (by decide) k528 rfl rfl ?_
    refine J_iadd (pc := 20) C 11 rfl  ?_
    refine J_bipush (pc := 21) (v := (16 : Int32)) C 12 rfl rfl ?_
    refine J_icmp_le (pc := 23) (tgt := 29) C 13 rfl rfl (fun c3 => ?_) (fun c3 => ?_)
    · rw [if_pos c3] at h
      refine J_aload_n (pc := 29) C 16 rfl 0 rfl rfl ?_
      obtain ⟨q4, hq4, h⟩ := bnd h
      refine J_callV (pc := 30) (st2 := []) (st3 := []) (ws2 := (wMod G aM (q4 0) (q4 1) (q4 2) (q4 3) (q4 4) (q4 5) (q4 6) (q4 7) (q4 8) (q4 9 0) (q4 10 0) (q4 11 0) (q4 12 0) (q4 13 0))) C 17 rfl (c_X5_hold aM (q1.2) hq4) V_X5_hold k492 i_X5_hold s_X5_hold rfl rfl ⟨Nat.le_of_ble_eq_true rfl, Nat.le_of_ble_eq_true rfl⟩ (Nat.le_of_ble_eq_true rfl) ⟨Nat.le_refl _, Nat.le_refl _⟩ 0 5 rfl rfl rfl (isC := [0, 1, 2, 3, 4, 5, 6, 7, 8, 9]) (isR := []) (N := 10) ⟨rfl, by decide +kernel, rfl, by decide +kernel, rfl, trivial⟩ rfl ?_
      refine J_iconst (pc := 33) (v := (0 : Int32)) C 18 rfl rfl ?_
      refine J_istore_n (pc := 34) (lv' := [(1, .int (0 : Int32)), (0, .ref (aM 0))]) C 19 rfl rfl (by decide) rfl ?_
      exact J_sub [1, 0] rfl (B35  FU q4 (0 : Int32) h)
    · rw [if_neg c3] at h
      refine J_bipush (pc := 26) (v := (-4 : Int32)) C 14 rfl rfl ?_
      cases h
      exact J_iret (pc := 28) C 15 rfl
  · rw [if_neg c2] at h
    refine J_bipush (pc := 7) (v := (-3 : Int32)) C 3 rfl rfl ?_
    cases h
    exact J_iret (pc := 9) C 4 rfl
def T_X5_unseated : List (Nat × ClassFile.Instr × Nat) := [(0, .aload_n 0, 1), (1, .invokevirtual 97, 3), (4, .iconst 0, 1), (5, .istore_n 2, 1), (6, .iconst 0, 1), (7, .istore_n 3, 1), (8, .iload_n 3, 1), (9, .bipush 6, 2), (11, .if_icmp .ge 48, 3), (14, .iload_n 2, 1), (15, .aload_n 0, 1), (16, .bipush 6, 2), (18, .iload_n 1, 1), (19, .imul, 1), (20, .iload_n 3, 1), (21, .iadd, 1), (22, .invokevirtual 84, 3), (25, .ifCond .eq 25, 3), (28, .aload_n 0, 1), (29, .getfield 29, 3), (32, .bipush 6, 2), (34, .iload_n 1, 1), (35, .imul, 1), (36, .iload_n 3, 1), (37, .iadd, 1), (38, .iaload, 1), (39, .bipush (-6), 2), (41, .if_icmp .ne 9, 3), (44, .iconst 1, 1), (45, .iload_n 3, 1), (46, .ishl, 1), (47, .goto 4, 3), (50, .iconst 0, 1), (51, .ior, 1), (52, .istore_n 2, 1), (53, .iinc 3 1, 3), (56, .goto (-48), 3), (59, .iload_n 2, 1), (60, .ireturn, 1)]
theorem D_X5_unseated : ∀ q ∈ T_X5_unseated, decode cX5_unseated q.1 = .ok q.2 := by decide +kernel
theorem V_X5_unseated : Vy yX5_unseated cX5_unseated 4 (some .int) 1 := ⟨k546, k415, by decide +kernel⟩
theorem i_X5_unseated : Cond.instanceMethod yX5_unseated ∈ TB := k549
theorem s_X5_unseated : Cond.selects yX5_unseated.cls yX5_unseated yX5_unseated ∈ TB := k550
noncomputable def f_X5_unseated_b8  (x1_8 : Int32) (r8 : JV → Int32 → Int32 → Option (Int32 × JV)) (vM_8 : JV) (x2_8 : Int32) (x3_8 : Int32) : Option (Int32 × JV) :=
  (if (6 : Int32) ≤ x3_8 then some (x2_8, vM_8) else (f_X5_isSitting vM_8 (((6 : Int32) * x1_8) + x3_8)).bind (fun q3 => (if q3 = 0 then r8 vM_8 (x2_8 ||| (0 : Int32)) (x3_8 + (1 : Int32)) else gd (inb (((6 : Int32) * x1_8) + x3_8) 96) ((if ((vM_8 6) (Int32.toNatClampNeg (((6 : Int32) * x1_8) + x3_8))) = (-6 : Int32) then r8 vM_8 (x2_8 ||| ((1 : Int32) <<< (x3_8 &&& 31))) (x3_8 + (1 : Int32)) else r8 vM_8 (x2_8 ||| (0 : Int32)) (x3_8 + (1 : Int32)))))))
noncomputable def f_X5_unseated_L8  (x1_8 : Int32) (n : Nat) (vM_8 : JV) (x2_8 : Int32) (x3_8 : Int32) : Option (Int32 × JV) :=
  lp (fun (rec : JV × Int32 × Int32 → Option (Int32 × JV)) a => f_X5_unseated_b8  x1_8 (fun vM_8 x2_8 x3_8 => rec (vM_8, x2_8, x3_8)) a.1 a.2.1 a.2.2) n (vM_8, x2_8, x3_8)
noncomputable def f_X5_unseated (vM : JV) (x1 : Int32) : Option (Int32 × JV) :=
  (f_X5_seats vM).bind (fun q1 => f_X5_unseated_L8  x1 FU q1 (0 : Int32) (0 : Int32))
set_option maxRecDepth 100000 in
set_option maxHeartbeats 4000000 in
theorem c_X5_unseated {l : Launch} {G : JG} (aM : Nat → Nat) (vM : JV) (x1 : Int32) {Rz : Int32 × JV} (h : f_X5_unseated vM x1 = some Rz) : JM l G yX5_unseated cX5_unseated 4 (some .int) 6 133 [.ref (aM 0), .int x1] (wMod G aM (vM 0) (vM 1) (vM 2) (vM 3) (vM 4) (vM 5) (vM 6) (vM 7) (vM 8) (vM 9 0) (vM 10 0) (vM 11 0) (vM 12 0) (vM 13 0)) (wMod G aM ((Rz.2) 0) ((Rz.2) 1) ((Rz.2) 2) ((Rz.2) 3) ((Rz.2) 4) ((Rz.2) 5) ((Rz.2) 6) ((Rz.2) 7) ((Rz.2) 8) ((Rz.2) 9 0) ((Rz.2) 10 0) ((Rz.2) 11 0) ((Rz.2) 12 0) ((Rz.2) 13 0)) (some (.int (Rz.1))) := by
  refine JM.of (own := RX5) (tb := T_X5_unseated) (by decide) (Nat.le_of_ble_eq_true rfl) D_X5_unseated rfl (fun X C => ?_)
  refine J_sub (lv' := [(0, .ref (aM 0)), (1, .int x1)]) [0, 1] rfl ?_
  have B8 : ∀ (x1_8 : Int32) (n8 : Nat) (vM_8 : JV) (x2_8 : Int32) (x3_8 : Int32), f_X5_unseated_L8  x1_8 n8 vM_8 x2_8 x3_8 = some Rz → J l { frames := 6, cells := 0, slots := 0, locals := 133 } G 4 X (QM X G 0 0 (some (.int (Rz.1))) (wMod G aM ((Rz.2) 0) ((Rz.2) 1) ((Rz.2) 2) ((Rz.2) 3) ((Rz.2) 4) ((Rz.2) 5) ((Rz.2) 6) ((Rz.2) 7) ((Rz.2) 8) ((Rz.2) 9 0) ((Rz.2) 10 0) ((Rz.2) 11 0) ((Rz.2) 12 0) ((Rz.2) 13 0))) 0 0 8 [(0, .ref (aM 0)), (1, .int x1_8), (2, .int x2_8), (3, .int x3_8)] [] (wMod G aM (vM_8 0) (vM_8 1) (vM_8 2) (vM_8 3) (vM_8 4) (vM_8 5) (vM_8 6) (vM_8 7) (vM_8 8) (vM_8 9 0) (vM_8 10 0) (vM_8 11 0) (vM_8 12 0) (vM_8 13 0)) := by
    intro x1_8 n8
    induction n8 with
    | zero =>
      intro vM_8 x2_8 x3_8 h
      exact (no_none rfl h).elim
    | succ n8 ih8 =>
      intro vM_8 x2_8 x3_8 h
      replace h : f_X5_unseated_b8  x1_8 (fun vM_8 x2_8 x3_8 => f_X5_unseated_L8  x1_8 n8 vM_8 x2_8 x3_8) vM_8 x2_8 x3_8 = some Rz := h
      unfold f_X5_unseated_b8 at h
      refine J_iload_n (pc := 8) C 6 rfl 3 rfl rfl ?_
      refine J_bipush (pc := 9) (v := (6 : Int32)) C 7 rfl rfl ?_
      refine J_icmp_ge (pc := 11) (tgt := 59) C 8 rfl rfl (fun c2 => ?_) (fun c2 => ?_)
      · rw [if_pos c2] at h
        refine J_iload_n (pc := 59) C 37 rfl 2 rfl rfl ?_
        cases h
        exact J_iret (pc := 60) C 38 rfl
      · rw [if_neg c2] at h
        refine J_iload_n (pc := 14) C 9 rfl 2 rfl rfl ?_
        refine J_aload_n (pc := 15) C 10 rfl 0 rfl rfl ?_
        refine J_bipush (pc := 16) (v := (6 : Int32)) C 11 rfl rfl ?_
        refine J_iload_n (pc := 18) C 12 rfl 1 rfl rfl ?_
        refine J_imul (pc := 19) C 13 rfl  ?_
        refine J_iload_n (pc := 20) C 14 rfl 3 rfl rfl ?_
        refine J_iadd (pc := 21) C 15 rfl  ?_
        obtain ⟨q3, hq3, h⟩ := bnd h
        refine J_callV (pc := 22) (st2 := [.int x2_8]) (st3 := [.int q3, .int x2_8]) (ws2 := (wMod G aM (vM_8 0) (vM_8 1) (vM_8 2) (vM_8 3) (vM_8 4) (vM_8 5) (vM_8 6) (vM_8 7) (vM_8 8) (vM_8 9 0) (vM_8 10 0) (vM_8 11 0) (vM_8 12 0) (vM_8 13 0))) C 16 rfl (c_X5_isSitting aM vM_8 (((6 : Int32) * x1_8) + x3_8) hq3) V_X5_isSitting k465 i_X5_isSitting s_X5_isSitting rfl rfl ⟨Nat.le_of_ble_eq_true rfl, Nat.le_of_ble_eq_true rfl⟩ (Nat.le_of_ble_eq_true rfl) ⟨Nat.le_refl _, Nat.le_refl _⟩ 0 5 rfl rfl rfl (isC := [0, 1, 2, 3, 4, 5, 6, 7, 8, 9]) (isR := []) (N := 10) ⟨rfl, by decide +kernel, rfl, by decide +kernel, rfl, trivial⟩ rfl ?_
        refine J_if_eq (pc := 25) (tgt := 50) C 17 rfl rfl (fun c4 => ?_) (fun c4 => ?_)
        · rw [if_pos c4] at h
          refine J_iconst (pc := 50) (v := (0 : Int32)) C 32 rfl rfl ?_
          refine J_ior (pc := 51) C 33 rfl  ?_
          refine J_istore_n (pc := 52) (lv' := [(2, .int (x2_8 ||| (0 : Int32))), (0, .ref (aM 0)), (1, .int x1_8), (3, .int x3_8)]) C 34 rfl rfl (by decide) rfl ?_
          refine J_iinc (pc := 53) (v := (x3_8 + (1 : Int32))) (lv' := [(3, .int (x3_8 + (1 : Int32))), (2, .int (x2_8 ||| (0 : Int32))), (0, .ref (aM 0)), (1, .int x1_8)]) C 35 rfl 3 rfl rfl (by decide) rfl ?_
          refine J_goto (pc := 56) (tgt := 8) C 36 rfl rfl ?_
          exact J_sub [2, 3, 1, 0] rfl (ih8 vM_8 (x2_8 ||| (0 : Int32)) (x3_8 + (1 : Int32)) h)
        · rw [if_neg c4] at h
          refine J_aload_n (pc := 28) C 18 rfl 0 rfl rfl ?_
          refine J_get (pc := 29) (v := .ref (aM 7)) C 19 rfl TB_l5 rfl 0 6 rfl (by decide) k405 rfl rfl ?_
          refine J_bipush (pc := 32) (v := (6 : Int32)) C 20 rfl rfl ?_
          refine J_iload_n (pc := 34) C 21 rfl 1 rfl rfl ?_
          refine J_imul (pc := 35) C 22 rfl  ?_
          refine J_iload_n (pc := 36) C 23 rfl 3 rfl rfl ?_
          refine J_iadd (pc := 37) C 24 rfl  ?_
          obtain ⟨g5, h⟩ := gd_some h
          refine J_iald (pc := 38) (f := (vM_8 6)) (v := ((vM_8 6) (Int32.toNatClampNeg (((6 : Int32) * x1_8) + x3_8)))) C 25 rfl 7 rfl g5 rfl ?_
          refine J_bipush (pc := 39) (v := (-6 : Int32)) C 26 rfl rfl ?_
          refine J_icmp_ne (pc := 41) (tgt := 50) C 27 rfl rfl (fun c6 => ?_) (fun c6 => ?_)
          · rw [if_neg c6] at h
            refine J_iconst (pc := 50) (v := (0 : Int32)) C 32 rfl rfl ?_
            refine J_ior (pc := 51) C 33 rfl  ?_
            refine J_istore_n (pc := 52) (lv' := [(2, .int (x2_8 ||| (0 : Int32))), (0, .ref (aM 0)), (1, .int x1_8), (3, .int x3_8)]) C 34 rfl rfl (by decide) rfl ?_
            refine J_iinc (pc := 53) (v := (x3_8 + (1 : Int32))) (lv' := [(3, .int (x3_8 + (1 : Int32))), (2, .int (x2_8 ||| (0 : Int32))), (0, .ref (aM 0)), (1, .int x1_8)]) C 35 rfl 3 rfl rfl (by decide) rfl ?_
            refine J_goto (pc := 56) (tgt := 8) C 36 rfl rfl ?_
            exact J_sub [2, 3, 1, 0] rfl (ih8 vM_8 (x2_8 ||| (0 : Int32)) (x3_8 + (1 : Int32)) h)
          · rw [if_pos c6] at h
            refine J_iconst (pc := 44) (v := (1 : Int32)) C 28 rfl rfl ?_
            refine J_iload_n (pc := 45) C 29 rfl 3 rfl rfl ?_
            refine J_ishl (pc := 46) C 30 rfl  ?_
            refine J_goto (pc := 47) (tgt := 51) C 31 rfl rfl ?_
            refine J_ior (pc := 51) C 33 rfl  ?_
            refine J_istore_n (pc := 52) (lv' := [(2, .int (x2_8 ||| ((1 : Int32) <<< (x3_8 &&& 31)))), (0, .ref (aM 0)), (1, .int x1_8), (3, .int x3_8)]) C 34 rfl rfl (by decide) rfl ?_
            refine J_iinc (pc := 53) (v := (x3_8 + (1 : Int32))) (lv' := [(3, .int (x3_8 + (1 : Int32))), (2, .int (x2_8 ||| ((1 : Int32) <<< (x3_8 &&& 31)))), (0, .ref (aM 0)), (1, .int x1_8)]) C 35 rfl 3 rfl rfl (by decide) rfl ?_
            refine J_goto (pc := 56) (tgt := 8) C 36 rfl rfl ?_
            exact J_sub [2, 3, 1, 0] rfl (ih8 vM_8 (x2_8 ||| ((1 : Int32) <<< (x3_8 &&& 31))) (x3_8 + (1 : Int32)) h)
  unfold f_X5_unseated at h
  refine J_aload_n (pc := 0) C 0 rfl 0 rfl rfl ?_
  obtain ⟨q1, hq1, h⟩ := bnd h
  refine J_callV (pc := 1) (st2 := []) (st3 := []) (ws2 := (wMod G aM (q1 0) (q1 1) (q1 2) (q1 3) (q1 4) (q1 5) (q1 6) (q1 7) (q1 8) (q1 9 0) (q1 10 0) (q1 11 0) (q1 12 0) (q1 13 0))) C 1 rfl (c_X5_seats aM vM hq1) V_X5_seats k478 i_X5_seats s_X5_seats rfl rfl ⟨Nat.le_of_ble_eq_true rfl, Nat.le_of_ble_eq_true rfl⟩ (Nat.le_of_ble_eq_true rfl) ⟨Nat.le_refl _, Nat.le_refl _⟩ 0 5 rfl rfl rfl (isC := [0, 1, 2, 3, 4, 5, 6, 7, 8, 9]) (isR := []) (N := 10) ⟨rfl, by decide +kernel, rfl, by decide +kernel, rfl, trivial⟩ rfl ?_
  refine J_iconst (pc := 4) (v := (0 : Int32)) C 2 rfl rfl ?_
  refine J_istore_n (pc := 5) (lv' := [(2, .int (0 : Int32)), (0, .ref (aM 0)), (1, .int x1)]) C 3 rfl rfl (by decide) rfl ?_
  refine J_iconst (pc := 6) (v := (0 : Int32)) C 4 rfl rfl ?_
  refine J_istore_n (pc := 7) (lv' := [(3, .int (0 : Int32)), (2, .int (0 : Int32)), (0, .ref (aM 0)), (1, .int x1)]) C 5 rfl rfl (by decide) rfl ?_
  exact J_sub [2, 3, 1, 0] rfl (B8 x1 FU q1 (0 : Int32) (0 : Int32) h)
def T_X5_allMinutes : List (Nat × ClassFile.Instr × Nat) := [(0, .iconst 0, 1), (1, .istore_n 2, 1), (2, .iconst 0, 1), (3, .istore_n 3, 1), (4, .iload_n 3, 1), (5, .bipush 6, 2), (7, .if_icmp .ge 39, 3), (10, .iload_n 2, 1), (11, .aload_n 0, 1), (12, .bipush 6, 2), (14, .iload_n 1, 1), (15, .imul, 1), (16, .iload_n 3, 1), (17, .iadd, 1), (18, .invokevirtual 84, 3), (21, .ifCond .eq 16, 3), (24, .aload_n 0, 1), (25, .bipush 6, 2), (27, .iload_n 1, 1), (28, .imul, 1), (29, .iload_n 3, 1), (30, .iadd, 1), (31, .invokevirtual 58, 3), (34, .goto 4, 3), (37, .iconst 0, 1), (38, .iadd, 1), (39, .istore_n 2, 1), (40, .iinc 3 1, 3), (43, .goto (-39), 3), (46, .iload_n 2, 1), (47, .ireturn, 1)]
theorem D_X5_allMinutes : ∀ q ∈ T_X5_allMinutes, decode cX5_allMinutes q.1 = .ok q.2 := by decide +kernel
theorem V_X5_allMinutes : Vy yX5_allMinutes cX5_allMinutes 4 (some .int) 1 := ⟨k547, k415, by decide +kernel⟩
theorem i_X5_allMinutes : Cond.instanceMethod yX5_allMinutes ∈ TB := k552
theorem s_X5_allMinutes : Cond.selects yX5_allMinutes.cls yX5_allMinutes yX5_allMinutes ∈ TB := k553
noncomputable def f_X5_allMinutes_b4 (vM : JV) (x1_4 : Int32) (r4 : Int32 → Int32 → Option (Int32)) (x2_4 : Int32) (x3_4 : Int32) : Option (Int32) :=
  (if (6 : Int32) ≤ x3_4 then some x2_4 else (f_X5_isSitting vM (((6 : Int32) * x1_4) + x3_4)).bind (fun q2 => (if q2 = 0 then r4 (x2_4 + (0 : Int32)) (x3_4 + (1 : Int32)) else (f_X5_minutes vM (((6 : Int32) * x1_4) + x3_4)).bind (fun q4 => r4 (x2_4 + q4) (x3_4 + (1 : Int32))))))
noncomputable def f_X5_allMinutes_L4 (vM : JV) (x1_4 : Int32) (n : Nat) (x2_4 : Int32) (x3_4 : Int32) : Option (Int32) :=
  lp (fun (rec : Int32 × Int32 → Option (Int32)) a => f_X5_allMinutes_b4 vM x1_4 (fun x2_4 x3_4 => rec (x2_4, x3_4)) a.1 a.2) n (x2_4, x3_4)
noncomputable def f_X5_allMinutes (vM : JV) (x1 : Int32) : Option (Int32) :=
  f_X5_allMinutes_L4 vM x1 FU (0 : Int32) (0 : Int32)
set_option maxRecDepth 100000 in
set_option maxHeartbeats 4000000 in
theorem c_X5_allMinutes {l : Launch} {G : JG} (aM : Nat → Nat) (vM : JV) (x1 : Int32) {Rz : Int32} (h : f_X5_allMinutes vM x1 = some Rz) : JM l G yX5_allMinutes cX5_allMinutes 4 (some .int) 2 41 [.ref (aM 0), .int x1] (wMod G aM (vM 0) (vM 1) (vM 2) (vM 3) (vM 4) (vM 5) (vM 6) (vM 7) (vM 8) (vM 9 0) (vM 10 0) (vM 11 0) (vM 12 0) (vM 13 0)) (wMod G aM (vM 0) (vM 1) (vM 2) (vM 3) (vM 4) (vM 5) (vM 6) (vM 7) (vM 8) (vM 9 0) (vM 10 0) (vM 11 0) (vM 12 0) (vM 13 0)) (some (.int Rz)) := by
  refine JM.of (own := RX5) (tb := T_X5_allMinutes) (by decide) (Nat.le_of_ble_eq_true rfl) D_X5_allMinutes rfl (fun X C => ?_)
  refine J_sub (lv' := [(0, .ref (aM 0)), (1, .int x1)]) [0, 1] rfl ?_
  have B4 : ∀ (x1_4 : Int32) (n4 : Nat) (x2_4 : Int32) (x3_4 : Int32), f_X5_allMinutes_L4 vM x1_4 n4 x2_4 x3_4 = some Rz → J l { frames := 2, cells := 0, slots := 0, locals := 41 } G 4 X (QM X G 0 0 (some (.int Rz)) (wMod G aM (vM 0) (vM 1) (vM 2) (vM 3) (vM 4) (vM 5) (vM 6) (vM 7) (vM 8) (vM 9 0) (vM 10 0) (vM 11 0) (vM 12 0) (vM 13 0))) 0 0 4 [(0, .ref (aM 0)), (1, .int x1_4), (2, .int x2_4), (3, .int x3_4)] [] (wMod G aM (vM 0) (vM 1) (vM 2) (vM 3) (vM 4) (vM 5) (vM 6) (vM 7) (vM 8) (vM 9 0) (vM 10 0) (vM 11 0) (vM 12 0) (vM 13 0)) := by
    intro x1_4 n4
    induction n4 with
    | zero =>
      intro x2_4 x3_4 h
      exact (no_none rfl h).elim
    | succ n4 ih4 =>
      intro x2_4 x3_4 h
      replace h : f_X5_allMinutes_b4 vM x1_4 (fun x2_4 x3_4 => f_X5_allMinutes_L4 vM x1_4 n4 x2_4 x3_4) x2_4 x3_4 = some Rz := h
      unfold f_X5_allMinutes_b4 at h
      refine J_iload_n (pc := 4) C 4 rfl 3 rfl rfl ?_
      refine J_bipush (pc := 5) (v := (6 : Int32)) C 5 rfl rfl ?_
      refine J_icmp_ge (pc := 7) (tgt := 46) C 6 rfl rfl (fun c1 => ?_) (fun c1 => ?_)
      · rw [if_pos c1] at h
        refine J_iload_n (pc := 46) C 29 rfl 2 rfl rfl ?_
        cases h
        exact J_iret (pc := 47) C 30 rfl
      · rw [if_neg c1] at h
        refine J_iload_n (pc := 10) C 7 rfl 2 rfl rfl ?_
        refine J_aload_n (pc := 11) C 8 rfl 0 rfl rfl ?_
        refine J_bipush (pc := 12) (v := (6 : Int32)) C 9 rfl rfl ?_
        refine J_iload_n (pc := 14) C 10 rfl 1 rfl rfl ?_
        refine J_imul (pc := 15) C 11 rfl  ?_
        refine J_iload_n (pc := 16) C 12 rfl 3 rfl rfl ?_
        refine J_iadd (pc := 17) C 13 rfl  ?_
        obtain ⟨q2, hq2, h⟩ := bnd h
        refine J_callV (pc := 18) (st2 := [.int x2_4]) (st3 := [.int q2, .int x2_4]) (ws2 := (wMod G aM (vM 0) (vM 1) (vM 2) (vM 3) (vM 4) (vM 5) (vM 6) (vM 7) (vM 8) (vM 9 0) (vM 10 0) (vM 11 0) (vM 12 0) (vM 13 0))) C 14 rfl (c_X5_isSitting aM vM (((6 : Int32) * x1_4) + x3_4) hq2) V_X5_isSitting k465 i_X5_isSitting s_X5_isSitting rfl rfl ⟨Nat.le_of_ble_eq_true rfl, Nat.le_of_ble_eq_true rfl⟩ (Nat.le_of_ble_eq_true rfl) ⟨Nat.le_refl _, Nat.le_refl _⟩ 0 5 rfl rfl rfl (isC := [0, 1, 2, 3, 4, 5, 6, 7, 8, 9]) (isR := []) (N := 10) ⟨rfl, by decide +kernel, rfl, by decide +kernel, rfl, trivial⟩ rfl ?_
        refine J_if_eq (pc := 21) (tgt := 37) C 15 rfl rfl (fun c3 => ?_) (fun c3 => ?_)
        · rw [if_pos c3] at h
          refine J_iconst (pc := 37) (v := (0 : Int32)) C 24 rfl rfl ?_
          refine J_iadd (pc := 38) C 25 rfl  ?_
          refine J_istore_n (pc := 39) (lv' := [(2, .int (x2_4 + (0 : Int32))), (0, .ref (aM 0)), (1, .int x1_4), (3, .int x3_4)]) C 26 rfl rfl (by decide) rfl ?_
          refine J_iinc (pc := 40) (v := (x3_4 + (1 : Int32))) (lv' := [(3, .int (x3_4 + (1 : Int32))), (2, .int (x2_4 + (0 : Int32))), (0, .ref (aM 0)), (1, .int x1_4)]) C 27 rfl 3 rfl rfl (by decide) rfl ?_
          refine J_goto (pc := 43) (tgt := 4) C 28 rfl rfl ?_
          exact J_sub [2, 3, 1, 0] rfl (ih4 (x2_4 + (0 : Int32)) (x3_4 + (1 : Int32)) h)
        · rw [if_neg c3] at h
          refine J_aload_n (pc := 24) C 16 rfl 0 rfl rfl ?_
          refine J_bipush (pc := 25) (v := (6 : Int32)) C 17 rfl rfl ?_
          refine J_iload_n (pc := 27) C 18 rfl 1 rfl rfl ?_
          refine J_imul (pc := 28) C 19 rfl  ?_
          refine J_iload_n (pc := 29) C 20 rfl 3 rfl rfl ?_
          refine J_iadd (pc := 30) C 21 rfl  ?_
          obtain ⟨q4, hq4, h⟩ := bnd h
          refine J_callV (pc := 31) (st2 := [.int x2_4]) (st3 := [.int q4, .int x2_4]) (ws2 := (wMod G aM (vM 0) (vM 1) (vM 2) (vM 3) (vM 4) (vM 5) (vM 6) (vM 7) (vM 8) (vM 9 0) (vM 10 0) (vM 11 0) (vM 12 0) (vM 13 0))) C 22 rfl (c_X5_minutes aM vM (((6 : Int32) * x1_4) + x3_4) hq4) V_X5_minutes k433 i_X5_minutes s_X5_minutes rfl rfl ⟨Nat.le_of_ble_eq_true rfl, Nat.le_of_ble_eq_true rfl⟩ (Nat.le_of_ble_eq_true rfl) ⟨Nat.le_refl _, Nat.le_refl _⟩ 0 5 rfl rfl rfl (isC := [0, 1, 2, 3, 4, 5, 6, 7, 8, 9]) (isR := []) (N := 10) ⟨rfl, by decide +kernel, rfl, by decide +kernel, rfl, trivial⟩ rfl ?_
          refine J_goto (pc := 34) (tgt := 38) C 23 rfl rfl ?_
          refine J_iadd (pc := 38) C 25 rfl  ?_
          refine J_istore_n (pc := 39) (lv' := [(2, .int (x2_4 + q4)), (0, .ref (aM 0)), (1, .int x1_4), (3, .int x3_4)]) C 26 rfl rfl (by decide) rfl ?_
          refine J_iinc (pc := 40) (v := (x3_4 + (1 : Int32))) (lv' := [(3, .int (x3_4 + (1 : Int32))), (2, .int (x2_4 + q4)), (0, .ref (aM 0)), (1, .int x1_4)]) C 27 rfl 3 rfl rfl (by decide) rfl ?_
          refine J_goto (pc := 43) (tgt := 4) C 28 rfl rfl ?_
          exact J_sub [2, 3, 1, 0] rfl (ih4 (x2_4 + q4) (x3_4 + (1 : Int32)) h)
  unfold f_X5_allMinutes at h
  refine J_iconst (pc := 0) (v := (0 : Int32)) C 0 rfl rfl ?_
  refine J_istore_n (pc := 1) (lv' := [(2, .int (0 : Int32)), (0, .ref (aM 0)), (1, .int x1)]) C 1 rfl rfl (by decide) rfl ?_
  refine J_iconst (pc := 2) (v := (0 : Int32)) C 2 rfl rfl ?_
  refine J_istore_n (pc := 3) (lv' := [(3, .int (0 : Int32)), (2, .int (0 : Int32)), (0, .ref (aM 0)), (1, .int x1)]) C 3 rfl rfl (by decide) rfl ?_
  exact J_sub [2, 3, 1, 0] rfl (B4 x1 FU (0 : Int32) (0 : Int32) h)
def T_X5_pupilOf : List (Nat × ClassFile.Instr × Nat) := [(0, .aload_n 0, 1), (1, .iload_n 1, 1), (2, .invokevirtual 119, 3), (5, .ifCond .ne 5, 3), (8, .iconst (-1), 1), (9, .ireturn, 1), (10, .iload_n 2, 1), (11, .tableswitch 67 0 5 #[37, 37, 37, 49, 55, 61], 37), (48, .aload_n 0, 1), (49, .getfield 7, 3), (52, .iload_n 1, 1), (53, .invokestatic 51, 3), (56, .iload_n 2, 1), (57, .iadd, 1), (58, .iaload, 1), (59, .ireturn, 1), (60, .aload_n 0, 1), (61, .iload_n 1, 1), (62, .invokevirtual 103, 3), (65, .ireturn, 1), (66, .aload_n 0, 1), (67, .iload_n 1, 1), (68, .invokevirtual 159, 3), (71, .ireturn, 1), (72, .aload_n 0, 1), (73, .iload_n 1, 1), (74, .invokevirtual 162, 3), (77, .ireturn, 1), (78, .bipush (-2), 2), (80, .ireturn, 1)]
theorem D_X5_pupilOf : ∀ q ∈ T_X5_pupilOf, decode cX5_pupilOf q.1 = .ok q.2 := by decide +kernel
theorem V_X5_pupilOf : Vy yX5_pupilOf cX5_pupilOf 3 (some .int) 2 := ⟨k554, k415, by decide +kernel⟩
theorem i_X5_pupilOf : Cond.instanceMethod yX5_pupilOf ∈ TB := k687
theorem s_X5_pupilOf : Cond.selects yX5_pupilOf.cls yX5_pupilOf yX5_pupilOf ∈ TB := k688
noncomputable def f_X5_pupilOf_K48  (vM_48 : JV) (x1_48 : Int32) (x2_48 : Int32) : Option (Int32 × JV) :=
  (f_X5_p x1_48).bind (fun q4 => gd (inb (q4 + x2_48) 76) (some (((vM_48 0) (Int32.toNatClampNeg (q4 + x2_48))), vM_48)))
noncomputable def f_X5_pupilOf (vM : JV) (x1 : Int32) (x2 : Int32) : Option (Int32 × JV) :=
  (f_X5_isPupil vM x1).bind (fun q1 => (if q1 = 0 then some ((-1 : Int32), vM) else (if x2 = (0 : Int32) then f_X5_pupilOf_K48  vM x1 x2 else (if x2 = (1 : Int32) then f_X5_pupilOf_K48  vM x1 x2 else (if x2 = (2 : Int32) then f_X5_pupilOf_K48  vM x1 x2 else (if x2 = (3 : Int32) then (f_X5_clashesOf vM x1).bind (fun q9 => some (q9, vM)) else (if x2 = (4 : Int32) then (f_X5_unseated vM x1).bind (fun q11 => some ((q11.1), (q11.2))) else (if x2 = (5 : Int32) then (f_X5_allMinutes vM x1).bind (fun q13 => some (q13, vM)) else some ((-2 : Int32), vM)))))))))
set_option maxRecDepth 100000 in
set_option maxHeartbeats 4000000 in
theorem c_X5_pupilOf {l : Launch} {G : JG} (aM : Nat → Nat) (vM : JV) (x1 : Int32) (x2 : Int32) {Rz : Int32 × JV} (h : f_X5_pupilOf vM x1 x2 = some Rz) : JM l G yX5_pupilOf cX5_pupilOf 3 (some .int) 7 156 [.ref (aM 0), .int x1, .int x2] (wMod G aM (vM 0) (vM 1) (vM 2) (vM 3) (vM 4) (vM 5) (vM 6) (vM 7) (vM 8) (vM 9 0) (vM 10 0) (vM 11 0) (vM 12 0) (vM 13 0)) (wMod G aM ((Rz.2) 0) ((Rz.2) 1) ((Rz.2) 2) ((Rz.2) 3) ((Rz.2) 4) ((Rz.2) 5) ((Rz.2) 6) ((Rz.2) 7) ((Rz.2) 8) ((Rz.2) 9 0) ((Rz.2) 10 0) ((Rz.2) 11 0) ((Rz.2) 12 0) ((Rz.2) 13 0)) (some (.int (Rz.1))) := by
  refine JM.of (own := RX5) (tb := T_X5_pupilOf) (by decide) (Nat.le_of_ble_eq_true rfl) D_X5_pupilOf rfl (fun X C => ?_)
  refine J_sub (lv' := [(0, .ref (aM 0)), (1, .int x1), (2, .int x2)]) [0, 1, 2] rfl ?_
  have B48 : ∀ (vM_48 : JV) (x1_48 : Int32) (x2_48 : Int32), f_X5_pupilOf_K48  vM_48 x1_48 x2_48 = some Rz → J l { frames := 7, cells := 0, slots := 0, locals := 156 } G 3 X (QM X G 0 0 (some (.int (Rz.1))) (wMod G aM ((Rz.2) 0) ((Rz.2) 1) ((Rz.2) 2) ((Rz.2) 3) ((Rz.2) 4) ((Rz.2) 5) ((Rz.2) 6) ((Rz.2) 7) ((Rz.2) 8) ((Rz.2) 9 0) ((Rz.2) 10 0) ((Rz.2) 11 0) ((Rz.2) 12 0) ((Rz.2) 13 0))) 0 0 48 [(0, .ref (aM 0)), (1, .int x1_48), (2, .int x2_48)] [] (wMod G aM (vM_48 0) (vM_48 1) (vM_48 2) (vM_48 3) (vM_48 4) (vM_48 5) (vM_48 6) (vM_48 7) (vM_48 8) (vM_48 9 0) (vM_48 10 0) (vM_48 11 0) (vM_48 12 0) (vM_48 13 0)) := by
    intro vM_48 x1_48 x2_48 h
    unfold f_X5_pupilOf_K48 at h
    refine J_aload_n (pc := 48) C 8 rfl 0 rfl rfl ?_
    refine J_get (pc := 49) (v := .ref (aM 1)) C 9 rfl TB_l5 rfl 0 0 rfl (by decide) k399 rfl rfl ?_
    refine J_iload_n (pc := 52) C 10 rfl 1 rfl rfl ?_
    obtain ⟨q4, hq4, h⟩ := bnd h
    refine J_callS (pc := 53) (st2 := [.ref (aM 1)]) (st3 := [.int q4, .ref (aM 1)]) (ws2 := (wMod G aM (vM_48 0) (vM_48 1) (vM_48 2) (vM_48 3) (vM_48 4) (vM_48 5) (vM_48 6) (vM_48 7) (vM_48 8) (vM_48 9 0) (vM_48 10 0) (vM_48 11 0) (vM_48 12 0) (vM_48 13 0))) C 11 rfl (c_X5_p x1_48 hq4) V_X5_p k425 t_X5_p rfl rfl ⟨Nat.le_of_ble_eq_true rfl, Nat.le_of_ble_eq_true rfl⟩ (Nat.le_of_ble_eq_true rfl) ⟨Nat.le_refl _, Nat.le_refl _⟩ (isC := []) (isR := [0, 1, 2, 3, 4, 5, 6, 7, 8, 9]) (N := 10) ⟨rfl, by decide +kernel, rfl, by decide +kernel, rfl, ⟨⟨_, rfl, rfl⟩, ⟨⟨_, rfl, rfl⟩, ⟨⟨_, rfl, rfl⟩, ⟨⟨_, rfl, rfl⟩, ⟨⟨_, rfl, rfl⟩, ⟨⟨_, rfl, rfl⟩, ⟨⟨_, rfl, rfl⟩, ⟨⟨_, rfl, rfl⟩, ⟨⟨_, rfl, rfl⟩, ⟨⟨_, rfl, rfl⟩, trivial⟩⟩⟩⟩⟩⟩⟩⟩⟩⟩⟩ rfl ?_
    refine J_iload_n (pc := 56) C 12 rfl 2 rfl rfl ?_
    refine J_iadd (pc := 57) C 13 rfl  ?_
    obtain ⟨g5, h⟩ := gd_some h
    refine J_iald (pc := 58) (f := (vM_48 0)) (v := ((vM_48 0) (Int32.toNatClampNeg (q4 + x2_48)))) C 14 rfl 1 rfl g5 rfl ?_
    cases h
    exact J_iret (pc := 59) C 15 rfl
  unfold f_X5_pupilOf at h
  refine J_aload_n (pc := 0) C 0 rfl 0 rfl rfl ?_
  refine J_iload_n (pc := 1) C 1 rfl 1 rfl rfl ?_
  obtain ⟨q1, hq1, h⟩ := bnd h
  refine J_callV (pc := 2) (st2 := []) (st3 := [.int q1]) (ws2 := (wMod G aM (vM 0) (vM 1) (vM 2) (vM 3) (vM 4) (vM 5) (vM 6) (vM 7) (vM 8) (vM 9 0) (vM 10 0) (vM 11 0) (vM 12 0) (vM 13 0))) C 2 rfl (c_X5_isPupil aM vM x1 hq1) V_X5_isPupil k506 i_X5_isPupil s_X5_isPupil rfl rfl ⟨Nat.le_of_ble_eq_true rfl, Nat.le_of_ble_eq_true rfl⟩ (Nat.le_of_ble_eq_true rfl) ⟨Nat.le_refl _, Nat.le_refl _⟩ 0 5 rfl rfl rfl (isC := [0, 1, 2, 3, 4, 5, 6, 7, 8, 9]) (isR := []) (N := 10) ⟨rfl, by decide +kernel, rfl, by decide +kernel, rfl, trivial⟩ rfl ?_
  refine J_if_ne (pc := 5) (tgt := 10) C 3 rfl rfl (fun c2 => ?_) (fun c2 => ?_)
  · rw [if_neg c2] at h
    refine J_iload_n (pc := 10) C 6 rfl 2 rfl rfl ?_
    by_cases c3 : x2 = (0 : Int32)
    · rw [if_pos c3] at h
      refine J_tabIn (pc := 11) (tgt := 48) C 7 rfl (by rw [c3]; decide) (by rw [c3]; decide) (by rw [c3]; rfl) rfl ?_
      exact J_sub [0, 1, 2] rfl (B48 vM x1 x2 h)
    · rw [if_neg c3] at h
      by_cases c6 : x2 = (1 : Int32)
      · rw [if_pos c6] at h
        refine J_tabIn (pc := 11) (tgt := 48) C 7 rfl (by rw [c6]; decide) (by rw [c6]; decide) (by rw [c6]; rfl) rfl ?_
        exact J_sub [0, 1, 2] rfl (B48 vM x1 x2 h)
      · rw [if_neg c6] at h
        by_cases c7 : x2 = (2 : Int32)
        · rw [if_pos c7] at h
          refine J_tabIn (pc := 11) (tgt := 48) C 7 rfl (by rw [c7]; decide) (by rw [c7]; decide) (by rw [c7]; rfl) rfl ?_
          exact J_sub [0, 1, 2] rfl (B48 vM x1 x2 h)
        · rw [if_neg c7] at h
          by_cases c8 : x2 = (3 : Int32)
          · rw [if_pos c8] at h
            refine J_tabIn (pc := 11) (tgt := 60) C 7 rfl (by rw [c8]; decide) (by rw [c8]; decide) (by rw [c8]; rfl) rfl ?_
            refine J_aload_n (pc := 60) C 16 rfl 0 rfl rfl ?_
            refine J_iload_n (pc := 61) C 17 rfl 1 rfl rfl ?_
            obtain ⟨q9, hq9, h⟩ := bnd h
            refine J_callV (pc := 62) (st2 := []) (st3 := [.int q9]) (ws2 := (wMod G aM (vM 0) (vM 1) (vM 2) (vM 3) (vM 4) (vM 5) (vM 6) (vM 7) (vM 8) (vM 9 0) (vM 10 0) (vM 11 0) (vM 12 0) (vM 13 0))) C 18 rfl (c_X5_clashesOf aM vM x1 hq9) V_X5_clashesOf k486 i_X5_clashesOf s_X5_clashesOf rfl rfl ⟨Nat.le_of_ble_eq_true rfl, Nat.le_of_ble_eq_true rfl⟩ (Nat.le_of_ble_eq_true rfl) ⟨Nat.le_refl _, Nat.le_refl _⟩ 0 5 rfl rfl rfl (isC := [0, 1, 2, 3, 4, 5, 6, 7, 8, 9]) (isR := []) (N := 10) ⟨rfl, by decide +kernel, rfl, by decide +kernel, rfl, trivial⟩ rfl ?_
            cases h
            exact J_iret (pc := 65) C 19 rfl
          · rw [if_neg c8] at h
            by_cases c10 : x2 = (4 : Int32)
            · rw [if_pos c10] at h
              refine J_tabIn (pc := 11) (tgt := 66) C 7 rfl (by rw [c10]; decide) (by rw [c10]; decide) (by rw [c10]; rfl) rfl ?_
              refine J_aload_n (pc := 66) C 20 rfl 0 rfl rfl ?_
              refine J_iload_n (pc := 67) C 21 rfl 1 rfl rfl ?_
              obtain ⟨q11, hq11, h⟩ := bnd h
              refine J_callV (pc := 68) (st2 := []) (st3 := [.int (q11.1)]) (ws2 := (wMod G aM ((q11.2) 0) ((q11.2) 1) ((q11.2) 2) ((q11.2) 3) ((q11.2) 4) ((q11.2) 5) ((q11.2) 6) ((q11.2) 7) ((q11.2) 8) ((q11.2) 9 0) ((q11.2) 10 0) ((q11.2) 11 0) ((q11.2) 12 0) ((q11.2) 13 0))) C 22 rfl (c_X5_unseated aM vM x1 hq11) V_X5_unseated k548 i_X5_unseated s_X5_unseated rfl rfl ⟨Nat.le_of_ble_eq_true rfl, Nat.le_of_ble_eq_true rfl⟩ (Nat.le_of_ble_eq_true rfl) ⟨Nat.le_refl _, Nat.le_refl _⟩ 0 5 rfl rfl rfl (isC := [0, 1, 2, 3, 4, 5, 6, 7, 8, 9]) (isR := []) (N := 10) ⟨rfl, by decide +kernel, rfl, by decide +kernel, rfl, trivial⟩ rfl ?_
              cases h
              exact J_iret (pc := 71) C 23 rfl
            · rw [if_neg c10] at h
              by_cases c12 : x2 = (5 : Int32)
              · rw [if_pos c12] at h
                refine J_tabIn (pc := 11) (tgt := 72) C 7 rfl (by rw [c12]; decide) (by rw [c12]; decide) (by rw [c12]; rfl) rfl ?_
                refine J_aload_n (pc := 72) C 24 rfl 0 rfl rfl ?_
                refine J_iload_n (pc := 73) C 25 rfl 1 rfl rfl ?_
                obtain ⟨q13, hq13, h⟩ := bnd h
                refine J_callV (pc := 74) (st2 := []) (st3 := [.int q13]) (ws2 := (wMod G aM (vM 0) (vM 1) (vM 2) (vM 3) (vM 4) (vM 5) (vM 6) (vM 7) (vM 8) (vM 9 0) (vM 10 0) (vM 11 0) (vM 12 0) (vM 13 0))) C 26 rfl (c_X5_allMinutes aM vM x1 hq13) V_X5_allMinutes k551 i_X5_allMinutes s_X5_allMinutes rfl rfl ⟨Nat.le_of_ble_eq_true rfl, Nat.le_of_ble_eq_true rfl⟩ (Nat.le_of_ble_eq_true rfl) ⟨Nat.le_refl _, Nat.le_refl _⟩ 0 5 rfl rfl rfl (isC := [0, 1, 2, 3, 4, 5, 6, 7, 8, 9]) (isR := []) (N := 10) ⟨rfl, by decide +kernel, rfl, by decide +kernel, rfl, trivial⟩ rfl ?_
                cases h
                exact J_iret (pc := 77) C 27 rfl
              · rw [if_neg c12] at h
                have ec3 := lv_neT (a := 0) c3 rfl
                have ec6 := lv_neT (a := 1) c6 rfl
                have ec7 := lv_neT (a := 2) c7 rfl
                have ec8 := lv_neT (a := 3) c8 rfl
                have ec10 := lv_neT (a := 4) c10 rfl
                have ec12 := lv_neT (a := 5) c12 rfl
                refine J_tabOut (pc := 11) (tgt := 78) C 7 rfl (by omega) rfl ?_
                refine J_bipush (pc := 78) (v := (-2 : Int32)) C 28 rfl rfl ?_
                cases h
                exact J_iret (pc := 80) C 29 rfl
  · rw [if_pos c2] at h
    refine J_iconst (pc := 8) (v := (-1 : Int32)) C 4 rfl rfl ?_
    cases h
    exact J_iret (pc := 9) C 5 rfl
def T_X5_ofSittings : List (Nat × ClassFile.Instr × Nat) := [(0, .aload_n 0, 1), (1, .invokevirtual 97, 3), (4, .iconst 0, 1), (5, .istore_n 3, 1), (6, .bipush (-6), 2), (8, .istore 4, 2), (10, .iconst 0, 1), (11, .istore 5, 2), (13, .iconst 0, 1), (14, .istore 6, 2), (16, .iload_n 1, 1), (17, .istore 7, 2), (19, .iload 7, 2), (21, .bipush 96, 2), (23, .if_icmp .ge 129, 3), (26, .aload_n 0, 1), (27, .iload 7, 2), (29, .invokevirtual 84, 3), (32, .istore 8, 2), (34, .iload_n 3, 1), (35, .iload 8, 2), (37, .ifCond .eq 13, 3), (40, .iconst 1, 1), (41, .iload 7, 2), (43, .bipush 6, 2), (45, .idiv, 1), (46, .ishl, 1), (47, .goto 4, 3), (50, .iconst 0, 1), (51, .ior, 1), (52, .istore_n 3, 1), (53, .iload 8, 2), (55, .ifCond .eq 23, 3), (58, .aload_n 0, 1), (59, .iload 7, 2), (61, .invokevirtual 61, 3), (64, .iload 4, 2), (66, .if_icmp .le 12, 3), (69, .aload_n 0, 1), (70, .iload 7, 2), (72, .invokevirtual 61, 3), (75, .goto 5, 3), (78, .iload 4, 2), (80, .istore 4, 2), (82, .iload 5, 2), (84, .iload 8, 2), (86, .ifCond .eq 19, 3), (89, .aload_n 0, 1), (90, .getfield 29, 3), (93, .iload 7, 2), (95, .iaload, 1), (96, .bipush (-6), 2), (98, .if_icmp .ne 7, 3), (101, .iconst 1, 1), (102, .goto 4, 3), (105, .iconst 0, 1), (106, .iadd, 1), (107, .istore 5, 2), (109, .iload 6, 2), (111, .aload_n 0, 1), (112, .getfield 29, 3), (115, .iload 7, 2), (117, .iaload, 1), (118, .iconst 0, 1), (119, .bipush 63, 2), (121, .invokestatic 39, 3), (124, .ifCond .eq 18, 3), (127, .iconst 1, 1), (128, .aload_n 0, 1), (129, .getfield 29, 3), (132, .iload 7, 2), (134, .iaload, 1), (135, .bipush 16, 2), (137, .idiv, 1), (138, .ishl, 1), (139, .goto 4, 3), (142, .iconst 0, 1), (143, .ior, 1), (144, .istore 6, 2), (146, .iinc 7 6, 3), (149, .goto (-130), 3), (152, .iload_n 2, 1), (153, .iconst 2, 1), (154, .if_icmp .ne 7, 3), (157, .iload_n 3, 1), (158, .goto 25, 3), (161, .iload_n 2, 1), (162, .iconst 3, 1), (163, .if_icmp .ne 8, 3), (166, .iload 4, 2), (168, .goto 15, 3), (171, .iload_n 2, 1), (172, .iconst 4, 1), (173, .if_icmp .ne 8, 3), (176, .iload 5, 2), (178, .goto 5, 3), (181, .iload 6, 2), (183, .ireturn, 1)]
theorem D_X5_ofSittings : ∀ q ∈ T_X5_ofSittings, decode cX5_ofSittings q.1 = .ok q.2 := by decide +kernel
theorem V_X5_ofSittings : Vy yX5_ofSittings cX5_ofSittings 9 (some .int) 2 := ⟨k555, k415, by decide +kernel⟩
theorem i_X5_ofSittings : Cond.instanceMethod yX5_ofSittings ∈ TB := k557
theorem s_X5_ofSittings : Cond.selects yX5_ofSittings.cls yX5_ofSittings yX5_ofSittings ∈ TB := k558
noncomputable def f_X5_ofSittings_K106  (r19 : JV → Int32 → Int32 → Int32 → Int32 → Int32 → Option (Int32 × JV)) (vM_106 : JV) (x2_19 : Int32) (x3_106 : Int32) (x4_106 : Int32) (x6_106 : Int32) (x7_106 : Int32) (y1_106 : Int32) (y0_106 : Int32) : Option (Int32 × JV) :=
  gd (inb x7_106 96) ((f_X5_in ((vM_106 6) (Int32.toNatClampNeg x7_106)) (0 : Int32) (63 : Int32)).bind (fun q11 => (if q11 = 0 then r19 vM_106 x3_106 x4_106 (y0_106 + y1_106) (x6_106 ||| (0 : Int32)) (x7_106 + (6 : Int32)) else gd (inb x7_106 96) (r19 vM_106 x3_106 x4_106 (y0_106 + y1_106) (x6_106 ||| ((1 : Int32) <<< ((((vM_106 6) (Int32.toNatClampNeg x7_106)) / (16 : Int32)) &&& 31))) (x7_106 + (6 : Int32))))))
noncomputable def f_X5_ofSittings_K105  (r19 : JV → Int32 → Int32 → Int32 → Int32 → Int32 → Option (Int32 × JV)) (vM_105 : JV) (x2_19 : Int32) (x3_105 : Int32) (x4_105 : Int32) (x6_105 : Int32) (x7_105 : Int32) (y0_105 : Int32) : Option (Int32 × JV) :=
  f_X5_ofSittings_K106  r19 vM_105 x2_19 x3_105 x4_105 x6_105 x7_105 (0 : Int32) y0_105
noncomputable def f_X5_ofSittings_K80  (r19 : JV → Int32 → Int32 → Int32 → Int32 → Int32 → Option (Int32 × JV)) (vM_80 : JV) (x2_19 : Int32) (x3_80 : Int32) (x5_80 : Int32) (x6_80 : Int32) (x7_80 : Int32) (x8_80 : Int32) (y0_80 : Int32) : Option (Int32 × JV) :=
  (if x8_80 = 0 then f_X5_ofSittings_K105  r19 vM_80 x2_19 x3_80 y0_80 x6_80 x7_80 x5_80 else gd (inb x7_80 96) ((if ((vM_80 6) (Int32.toNatClampNeg x7_80)) = (-6 : Int32) then f_X5_ofSittings_K106  r19 vM_80 x2_19 x3_80 y0_80 x6_80 x7_80 (1 : Int32) x5_80 else f_X5_ofSittings_K105  r19 vM_80 x2_19 x3_80 y0_80 x6_80 x7_80 x5_80)))
noncomputable def f_X5_ofSittings_K78  (r19 : JV → Int32 → Int32 → Int32 → Int32 → Int32 → Option (Int32 × JV)) (vM_78 : JV) (x2_19 : Int32) (x3_78 : Int32) (x4_78 : Int32) (x5_78 : Int32) (x6_78 : Int32) (x7_78 : Int32) (x8_78 : Int32) : Option (Int32 × JV) :=
  f_X5_ofSittings_K80  r19 vM_78 x2_19 x3_78 x5_78 x6_78 x7_78 x8_78 x4_78
noncomputable def f_X5_ofSittings_K51  (r19 : JV → Int32 → Int32 → Int32 → Int32 → Int32 → Option (Int32 × JV)) (vM_51 : JV) (x2_19 : Int32) (x4_51 : Int32) (x5_51 : Int32) (x6_51 : Int32) (x7_51 : Int32) (x8_51 : Int32) (y1_51 : Int32) (y0_51 : Int32) : Option (Int32 × JV) :=
  (if x8_51 = 0 then f_X5_ofSittings_K78  r19 vM_51 x2_19 (y0_51 ||| y1_51) x4_51 x5_51 x6_51 x7_51 x8_51 else (f_X5_ends vM_51 x7_51).bind (fun q16 => (if q16 ≤ x4_51 then f_X5_ofSittings_K78  r19 vM_51 x2_19 (y0_51 ||| y1_51) x4_51 x5_51 x6_51 x7_51 x8_51 else (f_X5_ends vM_51 x7_51).bind (fun q18 => f_X5_ofSittings_K80  r19 vM_51 x2_19 (y0_51 ||| y1_51) x5_51 x6_51 x7_51 x8_51 q18))))
noncomputable def f_X5_ofSittings_b19  (x2_19 : Int32) (r19 : JV → Int32 → Int32 → Int32 → Int32 → Int32 → Option (Int32 × JV)) (vM_19 : JV) (x3_19 : Int32) (x4_19 : Int32) (x5_19 : Int32) (x6_19 : Int32) (x7_19 : Int32) : Option (Int32 × JV) :=
  (if (96 : Int32) ≤ x7_19 then (if x2_19 = (2 : Int32) then some (x3_19, vM_19) else (if x2_19 = (3 : Int32) then some (x4_19, vM_19) else (if x2_19 = (4 : Int32) then some (x5_19, vM_19) else some (x6_19, vM_19)))) else (f_X5_isSitting vM_19 x7_19).bind (fun q6 => (if q6 = 0 then f_X5_ofSittings_K51  r19 vM_19 x2_19 x4_19 x5_19 x6_19 x7_19 q6 (0 : Int32) x3_19 else f_X5_ofSittings_K51  r19 vM_19 x2_19 x4_19 x5_19 x6_19 x7_19 q6 ((1 : Int32) <<< ((x7_19 / (6 : Int32)) &&& 31)) x3_19)))
noncomputable def f_X5_ofSittings_L19  (x2_19 : Int32) (n : Nat) (vM_19 : JV) (x3_19 : Int32) (x4_19 : Int32) (x5_19 : Int32) (x6_19 : Int32) (x7_19 : Int32) : Option (Int32 × JV) :=
  lp (fun (rec : JV × Int32 × Int32 × Int32 × Int32 × Int32 → Option (Int32 × JV)) a => f_X5_ofSittings_b19  x2_19 (fun vM_19 x3_19 x4_19 x5_19 x6_19 x7_19 => rec (vM_19, x3_19, x4_19, x5_19, x6_19, x7_19)) a.1 a.2.1 a.2.2.1 a.2.2.2.1 a.2.2.2.2.1 a.2.2.2.2.2) n (vM_19, x3_19, x4_19, x5_19, x6_19, x7_19)
noncomputable def f_X5_ofSittings (vM : JV) (x1 : Int32) (x2 : Int32) : Option (Int32 × JV) :=
  (f_X5_seats vM).bind (fun q1 => f_X5_ofSittings_L19  x2 FU q1 (0 : Int32) (-6 : Int32) (0 : Int32) (0 : Int32) x1)
set_option maxRecDepth 100000 in
set_option maxHeartbeats 4000000 in
theorem c_X5_ofSittings {l : Launch} {G : JG} (aM : Nat → Nat) (vM : JV) (x1 : Int32) (x2 : Int32) {Rz : Int32 × JV} (h : f_X5_ofSittings vM x1 x2 = some Rz) : JM l G yX5_ofSittings cX5_ofSittings 9 (some .int) 6 133 [.ref (aM 0), .int x1, .int x2] (wMod G aM (vM 0) (vM 1) (vM 2) (vM 3) (vM 4) (vM 5) (vM 6) (vM 7) (vM 8) (vM 9 0) (vM 10 0) (vM 11 0) (vM 12 0) (vM 13 0)) (wMod G aM ((Rz.2) 0) ((Rz.2) 1) ((Rz.2) 2) ((Rz.2) 3) ((Rz.2) 4) ((Rz.2) 5) ((Rz.2) 6) ((Rz.2) 7) ((Rz.2) 8) ((Rz.2) 9 0) ((Rz.2) 10 0) ((Rz.2) 11 0) ((Rz.2) 12 0) ((Rz.2) 13 0)) (some (.int (Rz.1))) := by
  refine JM.of (own := RX5) (tb := T_X5_ofSittings) (by decide) (Nat.le_of_ble_eq_true rfl) D_X5_ofSittings rfl (fun X C => ?_)
  refine J_sub (lv' := [(0, .ref (aM 0)), (1, .int x1), (2, .int x2)]) [0, 1, 2] rfl ?_
  have B19 : ∀ (x2_19 : Int32) (n19 : Nat) (vM_19 : JV) (x3_19 : Int32) (x4_19 : Int32) (x5_19 : Int32) (x6_19 : Int32) (x7_19 : Int32), f_X5_ofSittings_L19  x2_19 n19 vM_19 x3_19 x4_19 x5_19 x6_19 x7_19 = some Rz → J l { frames := 6, cells := 0, slots := 0, locals := 133 } G 9 X (QM X G 0 0 (some (.int (Rz.1))) (wMod G aM ((Rz.2) 0) ((Rz.2) 1) ((Rz.2) 2) ((Rz.2) 3) ((Rz.2) 4) ((Rz.2) 5) ((Rz.2) 6) ((Rz.2) 7) ((Rz.2) 8) ((Rz.2) 9 0) ((Rz.2) 10 0) ((Rz.2) 11 0) ((Rz.2) 12 0) ((Rz.2) 13 0))) 0 0 19 [(0, .ref (aM 0)), (2, .int x2_19), (3, .int x3_19), (4, .int x4_19), (5, .int x5_19), (6, .int x6_19), (7, .int x7_19)] [] (wMod G aM (vM_19 0) (vM_19 1) (vM_19 2) (vM_19 3) (vM_19 4) (vM_19 5) (vM_19 6) (vM_19 7) (vM_19 8) (vM_19 9 0) (vM_19 10 0) (vM_19 11 0) (vM_19 12 0) (vM_19 13 0)) := by
    intro x2_19 n19
    induction n19 with
    | zero =>
      intro vM_19 x3_19 x4_19 x5_19 x6_19 x7_19 h
      exact (no_none rfl h).elim
    | succ n19 ih19 =>
      have B106 : ∀ (vM_106 : JV) (x3_106 : Int32) (x4_106 : Int32) (x6_106 : Int32) (x7_106 : Int32) (y1_106 : Int32) (y0_106 : Int32), f_X5_ofSittings_K106  (fun vM_19 x3_19 x4_19 x5_19 x6_19 x7_19 => f_X5_ofSittings_L19  x2_19 n19 vM_19 x3_19 x4_19 x5_19 x6_19 x7_19) vM_106 x2_19 x3_106 x4_106 x6_106 x7_106 y1_106 y0_106 = some Rz → J l { frames := 6, cells := 0, slots := 0, locals := 133 } G 9 X (QM X G 0 0 (some (.int (Rz.1))) (wMod G aM ((Rz.2) 0) ((Rz.2) 1) ((Rz.2) 2) ((Rz.2) 3) ((Rz.2) 4) ((Rz.2) 5) ((Rz.2) 6) ((Rz.2) 7) ((Rz.2) 8) ((Rz.2) 9 0) ((Rz.2) 10 0) ((Rz.2) 11 0) ((Rz.2) 12 0) ((Rz.2) 13 0))) 0 0 106 [(0, .ref (aM 0)), (2, .int x2_19), (3, .int x3_106), (4, .int x4_106), (6, .int x6_106), (7, .int x7_106)] [.int y1_106, .int y0_106] (wMod G aM (vM_106 0) (vM_106 1) (vM_106 2) (vM_106 3) (vM_106 4) (vM_106 5) (vM_106 6) (vM_106 7) (vM_106 8) (vM_106 9 0) (vM_106 10 0) (vM_106 11 0) (vM_106 12 0) (vM_106 13 0)) := by
        intro vM_106 x3_106 x4_106 x6_106 x7_106 y1_106 y0_106 h
        unfold f_X5_ofSittings_K106 at h
        refine J_iadd (pc := 106) C 56 rfl  ?_
        refine J_istore (pc := 107) (lv' := [(5, .int (y0_106 + y1_106)), (0, .ref (aM 0)), (2, .int x2_19), (3, .int x3_106), (4, .int x4_106), (6, .int x6_106), (7, .int x7_106)]) C 57 rfl (by decide) rfl ?_
        refine J_iload (pc := 109) C 58 rfl 5 rfl ?_
        refine J_aload_n (pc := 111) C 59 rfl 1 rfl rfl ?_
        refine J_get (pc := 112) (v := .ref (aM 7)) C 60 rfl TB_l5 rfl 0 6 rfl (by decide) k405 rfl rfl ?_
        refine J_iload (pc := 115) C 61 rfl 6 rfl ?_
        obtain ⟨g10, h⟩ := gd_some h
        refine J_iald (pc := 117) (f := (vM_106 6)) (v := ((vM_106 6) (Int32.toNatClampNeg x7_106))) C 62 rfl 7 rfl g10 rfl ?_
        refine J_iconst (pc := 118) (v := (0 : Int32)) C 63 rfl rfl ?_
        refine J_bipush (pc := 119) (v := (63 : Int32)) C 64 rfl rfl ?_
        obtain ⟨q11, hq11, h⟩ := bnd h
        refine J_callS (pc := 121) (st2 := [.int x6_106]) (st3 := [.int q11, .int x6_106]) (ws2 := (wMod G aM (vM_106 0) (vM_106 1) (vM_106 2) (vM_106 3) (vM_106 4) (vM_106 5) (vM_106 6) (vM_106 7) (vM_106 8) (vM_106 9 0) (vM_106 10 0) (vM_106 11 0) (vM_106 12 0) (vM_106 13 0))) C 65 rfl (c_X5_in ((vM_106 6) (Int32.toNatClampNeg x7_106)) (0 : Int32) (63 : Int32) hq11) V_X5_in k413 t_X5_in rfl rfl ⟨Nat.le_of_ble_eq_true rfl, Nat.le_of_ble_eq_true rfl⟩ (Nat.le_of_ble_eq_true rfl) ⟨Nat.le_refl _, Nat.le_refl _⟩ (isC := []) (isR := [0, 1, 2, 3, 4, 5, 6, 7, 8, 9]) (N := 10) ⟨rfl, by decide +kernel, rfl, by decide +kernel, rfl, ⟨⟨_, rfl, rfl⟩, ⟨⟨_, rfl, rfl⟩, ⟨⟨_, rfl, rfl⟩, ⟨⟨_, rfl, rfl⟩, ⟨⟨_, rfl, rfl⟩, ⟨⟨_, rfl, rfl⟩, ⟨⟨_, rfl, rfl⟩, ⟨⟨_, rfl, rfl⟩, ⟨⟨_, rfl, rfl⟩, ⟨⟨_, rfl, rfl⟩, trivial⟩⟩⟩⟩⟩⟩⟩⟩⟩⟩⟩ rfl ?_
        refine J_if_eq (pc := 124) (tgt := 142) C 66 rfl rfl (fun c12 => ?_) (fun c12 => ?_)
        · rw [if_pos c12] at h
          refine J_iconst (pc := 142) (v := (0 : Int32)) C 76 rfl rfl ?_
          refine J_ior (pc := 143) C 77 rfl  ?_
          refine J_istore (pc := 144) (lv' := [(6, .int (x6_106 ||| (0 : Int32))), (5, .int (y0_106 + y1_106)), (0, .ref (aM 0)), (2, .int x2_19), (3, .int x3_106), (4, .int x4_106), (7, .int x7_106)]) C 78 rfl (by decide) rfl ?_
          refine J_iinc (pc := 146) (v := (x7_106 + (6 : Int32))) (lv' := [(7, .int (x7_106 + (6 : Int32))), (6, .int (x6_106 ||| (0 : Int32))), (5, .int (y0_106 + y1_106)), (0, .ref (aM 0)), (2, .int x2_19), (3, .int x3_106), (4, .int x4_106)]) C 79 rfl 6 rfl rfl (by decide) rfl ?_
          refine J_goto (pc := 149) (tgt := 19) C 80 rfl rfl ?_
          exact J_sub [3, 4, 5, 6, 2, 1, 0] rfl (ih19 vM_106 x3_106 x4_106 (y0_106 + y1_106) (x6_106 ||| (0 : Int32)) (x7_106 + (6 : Int32)) h)
        · rw [if_neg c12] at h
          refine J_iconst (pc := 127) (v := (1 : Int32)) C 67 rfl rfl ?_
          refine J_aload_n (pc := 128) C 68 rfl 1 rfl rfl ?_
          refine J_get (pc := 129) (v := .ref (aM 7)) C 69 rfl TB_l5 rfl 0 6 rfl (by decide) k405 rfl rfl ?_
          refine J_iload (pc := 132) C 70 rfl 6 rfl ?_
          obtain ⟨g13, h⟩ := gd_some h
          refine J_iald (pc := 134) (f := (vM_106 6)) (v := ((vM_106 6) (Int32.toNatClampNeg x7_106))) C 71 rfl 7 rfl g13 rfl ?_
          refine J_bipush (pc := 135) (v := (16 : Int32)) C 72 rfl rfl ?_
          refine J_idiv (pc := 137) C 73 rfl (by decide) ?_
          refine J_ishl (pc := 138) C 74 rfl  ?_
          refine J_goto (pc := 139) (tgt := 143) C 75 rfl rfl ?_
          refine J_ior (pc := 143) C 77 rfl  ?_
          refine J_istore (pc := 144) (lv' := [(6, .int (x6_106 ||| ((1 : Int32) <<< ((((vM_106 6) (Int32.toNatClampNeg x7_106)) / (16 : Int32)) &&& 31)))), (5, .int (y0_106 + y1_106)), (0, .ref (aM 0)), (2, .int x2_19), (3, .int x3_106), (4, .int x4_106), (7, .int x7_106)]) C 78 rfl (by decide) rfl ?_
          refine J_iinc (pc := 146) (v := (x7_106 + (6 : Int32))) (lv' := [(7, .int (x7_106 + (6 : Int32))), (6, .int (x6_106 ||| ((1 : Int32) <<< ((((vM_106 6) (Int32.toNatClampNeg x7_106)) / (16 : Int32)) &&& 31)))), (5, .int (y0_106 + y1_106)), (0, .ref (aM 0)), (2, .int x2_19), (3, .int x3_106), (4, .int x4_106)]) C 79 rfl 6 rfl rfl (by decide) rfl ?_
          refine J_goto (pc := 149) (tgt := 19) C 80 rfl rfl ?_
          exact J_sub [3, 4, 5, 6, 2, 1, 0] rfl (ih19 vM_106 x3_106 x4_106 (y0_106 + y1_106) (x6_106 ||| ((1 : Int32) <<< ((((vM_106 6) (Int32.toNatClampNeg x7_106)) / (16 : Int32)) &&& 31))) (x7_106 + (6 : Int32)) h)
      have B105 : ∀ (vM_105 : JV) (x3_105 : Int32) (x4_105 : Int32) (x6_105 : Int32) (x7_105 : Int32) (y0_105 : Int32), f_X5_ofSittings_K105  (fun vM_19 x3_19 x4_19 x5_19 x6_19 x7_19 => f_X5_ofSittings_L19  x2_19 n19 vM_19 x3_19 x4_19 x5_19 x6_19 x7_19) vM_105 x2_19 x3_105 x4_105 x6_105 x7_105 y0_105 = some Rz → J l { frames := 6, cells := 0, slots := 0, locals := 133 } G 9 X (QM X G 0 0 (some (.int (Rz.1))) (wMod G aM ((Rz.2) 0) ((Rz.2) 1) ((Rz.2) 2) ((Rz.2) 3) ((Rz.2) 4) ((Rz.2) 5) ((Rz.2) 6) ((Rz.2) 7) ((Rz.2) 8) ((Rz.2) 9 0) ((Rz.2) 10 0) ((Rz.2) 11 0) ((Rz.2) 12 0) ((Rz.2) 13 0))) 0 0 105 [(0, .ref (aM 0)), (2, .int x2_19), (3, .int x3_105), (4, .int x4_105), (6, .int x6_105), (7, .int x7_105)] [.int y0_105] (wMod G aM (vM_105 0) (vM_105 1) (vM_105 2) (vM_105 3) (vM_105 4) (vM_105 5) (vM_105 6) (vM_105 7) (vM_105 8) (vM_105 9 0) (vM_105 10 0) (vM_105 11 0) (vM_105 12 0) (vM_105 13 0)) := by
        intro vM_105 x3_105 x4_105 x6_105 x7_105 y0_105 h
        unfold f_X5_ofSittings_K105 at h
        refine J_iconst (pc := 105) (v := (0 : Int32)) C 55 rfl rfl ?_
        exact J_sub [0, 1, 2, 3, 4, 5] rfl (B106 vM_105 x3_105 x4_105 x6_105 x7_105 (0 : Int32) y0_105 h)
      have B80 : ∀ (vM_80 : JV) (x3_80 : Int32) (x5_80 : Int32) (x6_80 : Int32) (x7_80 : Int32) (x8_80 : Int32) (y0_80 : Int32), f_X5_ofSittings_K80  (fun vM_19 x3_19 x4_19 x5_19 x6_19 x7_19 => f_X5_ofSittings_L19  x2_19 n19 vM_19 x3_19 x4_19 x5_19 x6_19 x7_19) vM_80 x2_19 x3_80 x5_80 x6_80 x7_80 x8_80 y0_80 = some Rz → J l { frames := 6, cells := 0, slots := 0, locals := 133 } G 9 X (QM X G 0 0 (some (.int (Rz.1))) (wMod G aM ((Rz.2) 0) ((Rz.2) 1) ((Rz.2) 2) ((Rz.2) 3) ((Rz.2) 4) ((Rz.2) 5) ((Rz.2) 6) ((Rz.2) 7) ((Rz.2) 8) ((Rz.2) 9 0) ((Rz.2) 10 0) ((Rz.2) 11 0) ((Rz.2) 12 0) ((Rz.2) 13 0))) 0 0 80 [(0, .ref (aM 0)), (2, .int x2_19), (3, .int x3_80), (5, .int x5_80), (6, .int x6_80), (7, .int x7_80), (8, .int x8_80)] [.int y0_80] (wMod G aM (vM_80 0) (vM_80 1) (vM_80 2) (vM_80 3) (vM_80 4) (vM_80 5) (vM_80 6) (vM_80 7) (vM_80 8) (vM_80 9 0) (vM_80 10 0) (vM_80 11 0) (vM_80 12 0) (vM_80 13 0)) := by
        intro vM_80 x3_80 x5_80 x6_80 x7_80 x8_80 y0_80 h
        unfold f_X5_ofSittings_K80 at h
        refine J_istore (pc := 80) (lv' := [(4, .int y0_80), (0, .ref (aM 0)), (2, .int x2_19), (3, .int x3_80), (5, .int x5_80), (6, .int x6_80), (7, .int x7_80), (8, .int x8_80)]) C 43 rfl (by decide) rfl ?_
        refine J_iload (pc := 82) C 44 rfl 4 rfl ?_
        refine J_iload (pc := 84) C 45 rfl 7 rfl ?_
        refine J_if_eq (pc := 86) (tgt := 105) C 46 rfl rfl (fun c9 => ?_) (fun c9 => ?_)
        · rw [if_pos c9] at h
          exact J_sub [1, 2, 3, 0, 5, 6] rfl (B105 vM_80 x3_80 y0_80 x6_80 x7_80 x5_80 h)
        · rw [if_neg c9] at h
          refine J_aload_n (pc := 89) C 47 rfl 1 rfl rfl ?_
          refine J_get (pc := 90) (v := .ref (aM 7)) C 48 rfl TB_l5 rfl 0 6 rfl (by decide) k405 rfl rfl ?_
          refine J_iload (pc := 93) C 49 rfl 6 rfl ?_
          obtain ⟨g14, h⟩ := gd_some h
          refine J_iald (pc := 95) (f := (vM_80 6)) (v := ((vM_80 6) (Int32.toNatClampNeg x7_80))) C 50 rfl 7 rfl g14 rfl ?_
          refine J_bipush (pc := 96) (v := (-6 : Int32)) C 51 rfl rfl ?_
          refine J_icmp_ne (pc := 98) (tgt := 105) C 52 rfl rfl (fun c15 => ?_) (fun c15 => ?_)
          · rw [if_neg c15] at h
            exact J_sub [1, 2, 3, 0, 5, 6] rfl (B105 vM_80 x3_80 y0_80 x6_80 x7_80 x5_80 h)
          · rw [if_pos c15] at h
            refine J_iconst (pc := 101) (v := (1 : Int32)) C 53 rfl rfl ?_
            refine J_goto (pc := 102) (tgt := 106) C 54 rfl rfl ?_
            exact J_sub [1, 2, 3, 0, 5, 6] rfl (B106 vM_80 x3_80 y0_80 x6_80 x7_80 (1 : Int32) x5_80 h)
      have B78 : ∀ (vM_78 : JV) (x3_78 : Int32) (x4_78 : Int32) (x5_78 : Int32) (x6_78 : Int32) (x7_78 : Int32) (x8_78 : Int32), f_X5_ofSittings_K78  (fun vM_19 x3_19 x4_19 x5_19 x6_19 x7_19 => f_X5_ofSittings_L19  x2_19 n19 vM_19 x3_19 x4_19 x5_19 x6_19 x7_19) vM_78 x2_19 x3_78 x4_78 x5_78 x6_78 x7_78 x8_78 = some Rz → J l { frames := 6, cells := 0, slots := 0, locals := 133 } G 9 X (QM X G 0 0 (some (.int (Rz.1))) (wMod G aM ((Rz.2) 0) ((Rz.2) 1) ((Rz.2) 2) ((Rz.2) 3) ((Rz.2) 4) ((Rz.2) 5) ((Rz.2) 6) ((Rz.2) 7) ((Rz.2) 8) ((Rz.2) 9 0) ((Rz.2) 10 0) ((Rz.2) 11 0) ((Rz.2) 12 0) ((Rz.2) 13 0))) 0 0 78 [(0, .ref (aM 0)), (2, .int x2_19), (3, .int x3_78), (4, .int x4_78), (5, .int x5_78), (6, .int x6_78), (7, .int x7_78), (8, .int x8_78)] [] (wMod G aM (vM_78 0) (vM_78 1) (vM_78 2) (vM_78 3) (vM_78 4) (vM_78 5) (vM_78 6) (vM_78 7) (vM_78 8) (vM_78 9 0) (vM_78 10 0) (vM_78 11 0) (vM_78 12 0) (vM_78 13 0)) := by
        intro vM_78 x3_78 x4_78 x5_78 x6_78 x7_78 x8_78 h
        unfold f_X5_ofSittings_K78 at h
        refine J_iload (pc := 78) C 42 rfl 3 rfl ?_
        exact J_sub [0, 1, 2, 4, 5, 6, 7] rfl (B80 vM_78 x3_78 x5_78 x6_78 x7_78 x8_78 x4_78 h)
      have B51 : ∀ (vM_51 : JV) (x4_51 : Int32) (x5_51 : Int32) (x6_51 : Int32) (x7_51 : Int32) (x8_51 : Int32) (y1_51 : Int32) (y0_51 : Int32), f_X5_ofSittings_K51  (fun vM_19 x3_19 x4_19 x5_19 x6_19 x7_19 => f_X5_ofSittings_L19  x2_19 n19 vM_19 x3_19 x4_19 x5_19 x6_19 x7_19) vM_51 x2_19 x4_51 x5_51 x6_51 x7_51 x8_51 y1_51 y0_51 = some Rz → J l { frames := 6, cells := 0, slots := 0, locals := 133 } G 9 X (QM X G 0 0 (some (.int (Rz.1))) (wMod G aM ((Rz.2) 0) ((Rz.2) 1) ((Rz.2) 2) ((Rz.2) 3) ((Rz.2) 4) ((Rz.2) 5) ((Rz.2) 6) ((Rz.2) 7) ((Rz.2) 8) ((Rz.2) 9 0) ((Rz.2) 10 0) ((Rz.2) 11 0) ((Rz.2) 12 0) ((Rz.2) 13 0))) 0 0 51 [(0, .ref (aM 0)), (2, .int x2_19), (4, .int x4_51), (5, .int x5_51), (6, .int x6_51), (7, .int x7_51), (8, .int x8_51)] [.int y1_51, .int y0_51] (wMod G aM (vM_51 0) (vM_51 1) (vM_51 2) (vM_51 3) (vM_51 4) (vM_51 5) (vM_51 6) (vM_51 7) (vM_51 8) (vM_51 9 0) (vM_51 10 0) (vM_51 11 0) (vM_51 12 0) (vM_51 13 0)) := by
        intro vM_51 x4_51 x5_51 x6_51 x7_51 x8_51 y1_51 y0_51 h
        unfold f_X5_ofSittings_K51 at h
        refine J_ior (pc := 51) C 29 rfl  ?_
        refine J_istore_n (pc := 52) (lv' := [(3, .int (y0_51 ||| y1_51)), (0, .ref (aM 0)), (2, .int x2_19), (4, .int x4_51), (5, .int x5_51), (6, .int x6_51), (7, .int x7_51), (8, .int x8_51)]) C 30 rfl rfl (by decide) rfl ?_
        refine J_iload (pc := 53) C 31 rfl 7 rfl ?_
        refine J_if_eq (pc := 55) (tgt := 78) C 32 rfl rfl (fun c8 => ?_) (fun c8 => ?_)
        · rw [if_pos c8] at h
          exact J_sub [1, 2, 0, 3, 4, 5, 6, 7] rfl (B78 vM_51 (y0_51 ||| y1_51) x4_51 x5_51 x6_51 x7_51 x8_51 h)
        · rw [if_neg c8] at h
          refine J_aload_n (pc := 58) C 33 rfl 1 rfl rfl ?_
          refine J_iload (pc := 59) C 34 rfl 6 rfl ?_
          obtain ⟨q16, hq16, h⟩ := bnd h
          refine J_callV (pc := 61) (st2 := []) (st3 := [.int q16]) (ws2 := (wMod G aM (vM_51 0) (vM_51 1) (vM_51 2) (vM_51 3) (vM_51 4) (vM_51 5) (vM_51 6) (vM_51 7) (vM_51 8) (vM_51 9 0) (vM_51 10 0) (vM_51 11 0) (vM_51 12 0) (vM_51 13 0))) C 35 rfl (c_X5_ends aM vM_51 x7_51 hq16) V_X5_ends k438 i_X5_ends s_X5_ends rfl rfl ⟨Nat.le_of_ble_eq_true rfl, Nat.le_of_ble_eq_true rfl⟩ (Nat.le_of_ble_eq_true rfl) ⟨Nat.le_refl _, Nat.le_refl _⟩ 0 5 rfl rfl rfl (isC := [0, 1, 2, 3, 4, 5, 6, 7, 8, 9]) (isR := []) (N := 10) ⟨rfl, by decide +kernel, rfl, by decide +kernel, rfl, trivial⟩ rfl ?_
          refine J_iload (pc := 64) C 36 rfl 3 rfl ?_
          refine J_icmp_le (pc := 66) (tgt := 78) C 37 rfl rfl (fun c17 => ?_) (fun c17 => ?_)
          · rw [if_pos c17] at h
            exact J_sub [1, 2, 0, 3, 4, 5, 6, 7] rfl (B78 vM_51 (y0_51 ||| y1_51) x4_51 x5_51 x6_51 x7_51 x8_51 h)
          · rw [if_neg c17] at h
            refine J_aload_n (pc := 69) C 38 rfl 1 rfl rfl ?_
            refine J_iload (pc := 70) C 39 rfl 6 rfl ?_
            obtain ⟨q18, hq18, h⟩ := bnd h
            refine J_callV (pc := 72) (st2 := []) (st3 := [.int q18]) (ws2 := (wMod G aM (vM_51 0) (vM_51 1) (vM_51 2) (vM_51 3) (vM_51 4) (vM_51 5) (vM_51 6) (vM_51 7) (vM_51 8) (vM_51 9 0) (vM_51 10 0) (vM_51 11 0) (vM_51 12 0) (vM_51 13 0))) C 40 rfl (c_X5_ends aM vM_51 x7_51 hq18) V_X5_ends k438 i_X5_ends s_X5_ends rfl rfl ⟨Nat.le_of_ble_eq_true rfl, Nat.le_of_ble_eq_true rfl⟩ (Nat.le_of_ble_eq_true rfl) ⟨Nat.le_refl _, Nat.le_refl _⟩ 0 5 rfl rfl rfl (isC := [0, 1, 2, 3, 4, 5, 6, 7, 8, 9]) (isR := []) (N := 10) ⟨rfl, by decide +kernel, rfl, by decide +kernel, rfl, trivial⟩ rfl ?_
            refine J_goto (pc := 75) (tgt := 80) C 41 rfl rfl ?_
            exact J_sub [1, 2, 0, 4, 5, 6, 7] rfl (B80 vM_51 (y0_51 ||| y1_51) x5_51 x6_51 x7_51 x8_51 q18 h)
      intro vM_19 x3_19 x4_19 x5_19 x6_19 x7_19 h
      replace h : f_X5_ofSittings_b19  x2_19 (fun vM_19 x3_19 x4_19 x5_19 x6_19 x7_19 => f_X5_ofSittings_L19  x2_19 n19 vM_19 x3_19 x4_19 x5_19 x6_19 x7_19) vM_19 x3_19 x4_19 x5_19 x6_19 x7_19 = some Rz := h
      unfold f_X5_ofSittings_b19 at h
      refine J_iload (pc := 19) C 12 rfl 6 rfl ?_
      refine J_bipush (pc := 21) (v := (96 : Int32)) C 13 rfl rfl ?_
      refine J_icmp_ge (pc := 23) (tgt := 152) C 14 rfl rfl (fun c2 => ?_) (fun c2 => ?_)
      · rw [if_pos c2] at h
        refine J_iload_n (pc := 152) C 81 rfl 1 rfl rfl ?_
        refine J_iconst (pc := 153) (v := (2 : Int32)) C 82 rfl rfl ?_
        refine J_icmp_ne (pc := 154) (tgt := 161) C 83 rfl rfl (fun c3 => ?_) (fun c3 => ?_)
        · rw [if_neg c3] at h
          refine J_iload_n (pc := 161) C 86 rfl 1 rfl rfl ?_
          refine J_iconst (pc := 162) (v := (3 : Int32)) C 87 rfl rfl ?_
          refine J_icmp_ne (pc := 163) (tgt := 171) C 88 rfl rfl (fun c4 => ?_) (fun c4 => ?_)
          · rw [if_neg c4] at h
            refine J_iload_n (pc := 171) C 91 rfl 1 rfl rfl ?_
            refine J_iconst (pc := 172) (v := (4 : Int32)) C 92 rfl rfl ?_
            refine J_icmp_ne (pc := 173) (tgt := 181) C 93 rfl rfl (fun c5 => ?_) (fun c5 => ?_)
            · rw [if_neg c5] at h
              refine J_iload (pc := 181) C 96 rfl 5 rfl ?_
              cases h
              exact J_iret (pc := 183) C 97 rfl
            · rw [if_pos c5] at h
              refine J_iload (pc := 176) C 94 rfl 4 rfl ?_
              refine J_goto (pc := 178) (tgt := 183) C 95 rfl rfl ?_
              cases h
              exact J_iret (pc := 183) C 97 rfl
          · rw [if_pos c4] at h
            refine J_iload (pc := 166) C 89 rfl 3 rfl ?_
            refine J_goto (pc := 168) (tgt := 183) C 90 rfl rfl ?_
            cases h
            exact J_iret (pc := 183) C 97 rfl
        · rw [if_pos c3] at h
          refine J_iload_n (pc := 157) C 84 rfl 2 rfl rfl ?_
          refine J_goto (pc := 158) (tgt := 183) C 85 rfl rfl ?_
          cases h
          exact J_iret (pc := 183) C 97 rfl
      · rw [if_neg c2] at h
        refine J_aload_n (pc := 26) C 15 rfl 0 rfl rfl ?_
        refine J_iload (pc := 27) C 16 rfl 6 rfl ?_
        obtain ⟨q6, hq6, h⟩ := bnd h
        refine J_callV (pc := 29) (st2 := []) (st3 := [.int q6]) (ws2 := (wMod G aM (vM_19 0) (vM_19 1) (vM_19 2) (vM_19 3) (vM_19 4) (vM_19 5) (vM_19 6) (vM_19 7) (vM_19 8) (vM_19 9 0) (vM_19 10 0) (vM_19 11 0) (vM_19 12 0) (vM_19 13 0))) C 17 rfl (c_X5_isSitting aM vM_19 x7_19 hq6) V_X5_isSitting k465 i_X5_isSitting s_X5_isSitting rfl rfl ⟨Nat.le_of_ble_eq_true rfl, Nat.le_of_ble_eq_true rfl⟩ (Nat.le_of_ble_eq_true rfl) ⟨Nat.le_refl _, Nat.le_refl _⟩ 0 5 rfl rfl rfl (isC := [0, 1, 2, 3, 4, 5, 6, 7, 8, 9]) (isR := []) (N := 10) ⟨rfl, by decide +kernel, rfl, by decide +kernel, rfl, trivial⟩ rfl ?_
        refine J_istore (pc := 32) (lv' := [(8, .int q6), (0, .ref (aM 0)), (2, .int x2_19), (3, .int x3_19), (4, .int x4_19), (5, .int x5_19), (6, .int x6_19), (7, .int x7_19)]) C 18 rfl (by decide) rfl ?_
        refine J_iload_n (pc := 34) C 19 rfl 3 rfl rfl ?_
        refine J_iload (pc := 35) C 20 rfl 0 rfl ?_
        refine J_if_eq (pc := 37) (tgt := 50) C 21 rfl rfl (fun c7 => ?_) (fun c7 => ?_)
        · rw [if_pos c7] at h
          refine J_iconst (pc := 50) (v := (0 : Int32)) C 28 rfl rfl ?_
          exact J_sub [1, 2, 4, 5, 6, 7, 0] rfl (B51 vM_19 x4_19 x5_19 x6_19 x7_19 q6 (0 : Int32) x3_19 h)
        · rw [if_neg c7] at h
          refine J_iconst (pc := 40) (v := (1 : Int32)) C 22 rfl rfl ?_
          refine J_iload (pc := 41) C 23 rfl 7 rfl ?_
          refine J_bipush (pc := 43) (v := (6 : Int32)) C 24 rfl rfl ?_
          refine J_idiv (pc := 45) C 25 rfl (by decide) ?_
          refine J_ishl (pc := 46) C 26 rfl  ?_
          refine J_goto (pc := 47) (tgt := 51) C 27 rfl rfl ?_
          exact J_sub [1, 2, 4, 5, 6, 7, 0] rfl (B51 vM_19 x4_19 x5_19 x6_19 x7_19 q6 ((1 : Int32) <<< ((x7_19 / (6 : Int32)) &&& 31)) x3_19 h)
  unfold f_X5_ofSittings at h
  refine J_aload_n (pc := 0) C 0 rfl 0 rfl rfl ?_
  obtain ⟨q1, hq1, h⟩ := bnd h
  refine J_callV (pc := 1) (st2 := []) (st3 := []) (ws2 := (wMod G aM (q1 0) (q1 1) (q1 2) (q1 3) (q1 4) (q1 5) (q1 6) (q1 7) (q1 8) (q1 9 0) (q1 10 0) (q1 11 0) (q1 12 0) (q1 13 0))) C 1 rfl (c_X5_seats aM vM hq1) V_X5_seats k478 i_X5_seats s_X5_seats rfl rfl ⟨Nat.le_of_ble_eq_true rfl, Nat.le_of_ble_eq_true rfl⟩ (Nat.le_of_ble_eq_true rfl) ⟨Nat.le_refl _, Nat.le_refl _⟩ 0 5 rfl rfl rfl (isC := [0, 1, 2, 3, 4, 5, 6, 7, 8, 9]) (isR := []) (N := 10) ⟨rfl, by decide +kernel, rfl, by decide +kernel, rfl, trivial⟩ rfl ?_
  refine J_iconst (pc := 4) (v := (0 : Int32)) C 2 rfl rfl ?_
  refine J_istore_n (pc := 5) (lv' := [(3, .int (0 : Int32)), (0, .ref (aM 0)), (1, .int x1), (2, .int x2)]) C 3 rfl rfl (by decide) rfl ?_
  refine J_bipush (pc := 6) (v := (-6 : Int32)) C 4 rfl rfl ?_
  refine J_istore (pc := 8) (lv' := [(4, .int (-6 : Int32)), (3, .int (0 : Int32)), (0, .ref (aM 0)), (1, .int x1), (2, .int x2)]) C 5 rfl (by decide) rfl ?_
  refine J_iconst (pc := 10) (v := (0 : Int32)) C 6 rfl rfl ?_
  refine J_istore (pc := 11) (lv' := [(5, .int (0 : Int32)), (4, .int (-6 : Int32)), (3, .int (0 : Int32)), (0, .ref (aM 0)), (1, .int x1), (2, .int x2)]) C 7 rfl (by decide) rfl ?_
  refine J_iconst (pc := 13) (v := (0 : Int32)) C 8 rfl rfl ?_
  refine J_istore (pc := 14) (lv' := [(6, .int (0 : Int32)), (5, .int (0 : Int32)), (4, .int (-6 : Int32)), (3, .int (0 : Int32)), (0, .ref (aM 0)), (1, .int x1), (2, .int x2)]) C 9 rfl (by decide) rfl ?_
  refine J_iload_n (pc := 16) C 10 rfl 5 rfl rfl ?_
  refine J_istore (pc := 17) (lv' := [(7, .int x1), (6, .int (0 : Int32)), (5, .int (0 : Int32)), (4, .int (-6 : Int32)), (3, .int (0 : Int32)), (0, .ref (aM 0)), (1, .int x1), (2, .int x2)]) C 11 rfl (by decide) rfl ?_
  exact J_sub [5, 7, 4, 3, 2, 1, 0] rfl (B19 x2 FU q1 (0 : Int32) (-6 : Int32) (0 : Int32) (0 : Int32) x1 h)
def T_X5_paperOf : List (Nat × ClassFile.Instr × Nat) := [(0, .iload_n 1, 1), (1, .invokestatic 112, 3), (4, .ifCond .ne 5, 3), (7, .iconst (-1), 1), (8, .ireturn, 1), (9, .iload_n 2, 1), (10, .iconst 0, 1), (11, .iconst 1, 1), (12, .invokestatic 39, 3), (15, .ifCond .eq 18, 3), (18, .aload_n 0, 1), (19, .getfield 7, 3), (22, .iconst 4, 1), (23, .iconst 2, 1), (24, .iload_n 1, 1), (25, .imul, 1), (26, .iadd, 1), (27, .iload_n 2, 1), (28, .iadd, 1), (29, .iaload, 1), (30, .goto 23, 3), (33, .iload_n 2, 1), (34, .iconst 2, 1), (35, .iconst 5, 1), (36, .invokestatic 39, 3), (39, .ifCond .eq 12, 3), (42, .aload_n 0, 1), (43, .iload_n 1, 1), (44, .iload_n 2, 1), (45, .invokevirtual 165, 3), (48, .goto 5, 3), (51, .bipush (-2), 2), (53, .ireturn, 1)]
theorem D_X5_paperOf : ∀ q ∈ T_X5_paperOf, decode cX5_paperOf q.1 = .ok q.2 := by decide +kernel
theorem V_X5_paperOf : Vy yX5_paperOf cX5_paperOf 3 (some .int) 2 := ⟨k559, k415, by decide +kernel⟩
theorem i_X5_paperOf : Cond.instanceMethod yX5_paperOf ∈ TB := k693
theorem s_X5_paperOf : Cond.selects yX5_paperOf.cls yX5_paperOf yX5_paperOf ∈ TB := k694
noncomputable def f_X5_paperOf (vM : JV) (x1 : Int32) (x2 : Int32) : Option (Int32 × JV) :=
  (f_X5_isPaper x1).bind (fun q1 => (if q1 = 0 then some ((-1 : Int32), vM) else (f_X5_in x2 (0 : Int32) (1 : Int32)).bind (fun q3 => (if q3 = 0 then (f_X5_in x2 (2 : Int32) (5 : Int32)).bind (fun q5 => (if q5 = 0 then some ((-2 : Int32), vM) else (f_X5_ofSittings vM x1 x2).bind (fun q7 => some ((q7.1), (q7.2))))) else gd (inb (((4 : Int32) + ((2 : Int32) * x1)) + x2) 76) (some (((vM 0) (Int32.toNatClampNeg (((4 : Int32) + ((2 : Int32) * x1)) + x2))), vM))))))
set_option maxRecDepth 100000 in
set_option maxHeartbeats 4000000 in
theorem c_X5_paperOf {l : Launch} {G : JG} (aM : Nat → Nat) (vM : JV) (x1 : Int32) (x2 : Int32) {Rz : Int32 × JV} (h : f_X5_paperOf vM x1 x2 = some Rz) : JM l G yX5_paperOf cX5_paperOf 3 (some .int) 7 161 [.ref (aM 0), .int x1, .int x2] (wMod G aM (vM 0) (vM 1) (vM 2) (vM 3) (vM 4) (vM 5) (vM 6) (vM 7) (vM 8) (vM 9 0) (vM 10 0) (vM 11 0) (vM 12 0) (vM 13 0)) (wMod G aM ((Rz.2) 0) ((Rz.2) 1) ((Rz.2) 2) ((Rz.2) 3) ((Rz.2) 4) ((Rz.2) 5) ((Rz.2) 6) ((Rz.2) 7) ((Rz.2) 8) ((Rz.2) 9 0) ((Rz.2) 10 0) ((Rz.2) 11 0) ((Rz.2) 12 0) ((Rz.2) 13 0)) (some (.int (Rz.1))) := by
  refine JM.of (own := RX5) (tb := T_X5_paperOf) (by decide) (Nat.le_of_ble_eq_true rfl) D_X5_paperOf rfl (fun X C => ?_)
  refine J_sub (lv' := [(0, .ref (aM 0)), (1, .int x1), (2, .int x2)]) [0, 1, 2] rfl ?_
  unfold f_X5_paperOf at h
  refine J_iload_n (pc := 0) C 0 rfl 1 rfl rfl ?_
  obtain ⟨q1, hq1, h⟩ := bnd h
  refine J_callS (pc := 1) (st2 := []) (st3 := [.int q1]) (ws2 := (wMod G aM (vM 0) (vM 1) (vM 2) (vM 3) (vM 4) (vM 5) (vM 6) (vM 7) (vM 8) (vM 9 0) (vM 10 0) (vM 11 0) (vM 12 0) (vM 13 0))) C 1 rfl (c_X5_isPaper x1 hq1) V_X5_isPaper k499 t_X5_isPaper rfl rfl ⟨Nat.le_of_ble_eq_true rfl, Nat.le_of_ble_eq_true rfl⟩ (Nat.le_of_ble_eq_true rfl) ⟨Nat.le_refl _, Nat.le_refl _⟩ (isC := []) (isR := [0, 1, 2, 3, 4, 5, 6, 7, 8, 9]) (N := 10) ⟨rfl, by decide +kernel, rfl, by decide +kernel, rfl, ⟨⟨_, rfl, rfl⟩, ⟨⟨_, rfl, rfl⟩, ⟨⟨_, rfl, rfl⟩, ⟨⟨_, rfl, rfl⟩, ⟨⟨_, rfl, rfl⟩, ⟨⟨_, rfl, rfl⟩, ⟨⟨_, rfl, rfl⟩, ⟨⟨_, rfl, rfl⟩, ⟨⟨_, rfl, rfl⟩, ⟨⟨_, rfl, rfl⟩, trivial⟩⟩⟩⟩⟩⟩⟩⟩⟩⟩⟩ rfl ?_
  refine J_if_ne (pc := 4) (tgt := 9) C 2 rfl rfl (fun c2 => ?_) (fun c2 => ?_)
  · rw [if_neg c2] at h
    refine J_iload_n (pc := 9) C 5 rfl 2 rfl rfl ?_
    refine J_iconst (pc := 10) (v := (0 : Int32)) C 6 rfl rfl ?_
    refine J_iconst (pc := 11) (v := (1 : Int32)) C 7 rfl rfl ?_
    obtain ⟨q3, hq3, h⟩ := bnd h
    refine J_callS (pc := 12) (st2 := []) (st3 := [.int q3]) (ws2 := (wMod G aM (vM 0) (vM 1) (vM 2) (vM 3) (vM 4) (vM 5) (vM 6) (vM 7) (vM 8) (vM 9 0) (vM 10 0) (vM 11 0) (vM 12 0) (vM 13 0))) C 8 rfl (c_X5_in x2 (0 : Int32) (1 : Int32) hq3) V_X5_in k413 t_X5_in rfl rfl ⟨Nat.le_of_ble_eq_true rfl, Nat.le_of_ble_eq_true rfl⟩ (Nat.le_of_ble_eq_true rfl) ⟨Nat.le_refl _, Nat.le_refl _⟩ (isC := []) (isR := [0, 1, 2, 3, 4, 5, 6, 7, 8, 9]) (N := 10) ⟨rfl, by decide +kernel, rfl, by decide +kernel, rfl, ⟨⟨_, rfl, rfl⟩, ⟨⟨_, rfl, rfl⟩, ⟨⟨_, rfl, rfl⟩, ⟨⟨_, rfl, rfl⟩, ⟨⟨_, rfl, rfl⟩, ⟨⟨_, rfl, rfl⟩, ⟨⟨_, rfl, rfl⟩, ⟨⟨_, rfl, rfl⟩, ⟨⟨_, rfl, rfl⟩, ⟨⟨_, rfl, rfl⟩, trivial⟩⟩⟩⟩⟩⟩⟩⟩⟩⟩⟩ rfl ?_
    refine J_if_eq (pc := 15) (tgt := 33) C 9 rfl rfl (fun c4 => ?_) (fun c4 => ?_)
    · rw [if_pos c4] at h
      refine J_iload_n (pc := 33) C 21 rfl 2 rfl rfl ?_
      refine J_iconst (pc := 34) (v := (2 : Int32)) C 22 rfl rfl ?_
      refine J_iconst (pc := 35) (v := (5 : Int32)) C 23 rfl rfl ?_
      obtain ⟨q5, hq5, h⟩ := bnd h
      refine J_callS (pc := 36) (st2 := []) (st3 := [.int q5]) (ws2 := (wMod G aM (vM 0) (vM 1) (vM 2) (vM 3) (vM 4) (vM 5) (vM 6) (vM 7) (vM 8) (vM 9 0) (vM 10 0) (vM 11 0) (vM 12 0) (vM 13 0))) C 24 rfl (c_X5_in x2 (2 : Int32) (5 : Int32) hq5) V_X5_in k413 t_X5_in rfl rfl ⟨Nat.le_of_ble_eq_true rfl, Nat.le_of_ble_eq_true rfl⟩ (Nat.le_of_ble_eq_true rfl) ⟨Nat.le_refl _, Nat.le_refl _⟩ (isC := []) (isR := [0, 1, 2, 3, 4, 5, 6, 7, 8, 9]) (N := 10) ⟨rfl, by decide +kernel, rfl, by decide +kernel, rfl, ⟨⟨_, rfl, rfl⟩, ⟨⟨_, rfl, rfl⟩, ⟨⟨_, rfl, rfl⟩, ⟨⟨_, rfl, rfl⟩, ⟨⟨_, rfl, rfl⟩, ⟨⟨_, rfl, rfl⟩, ⟨⟨_, rfl, rfl⟩, ⟨⟨_, rfl, rfl⟩, ⟨⟨_, rfl, rfl⟩, ⟨⟨_, rfl, rfl⟩, trivial⟩⟩⟩⟩⟩⟩⟩⟩⟩⟩⟩ rfl ?_
      refine J_if_eq (pc := 39) (tgt := 51) C 25 rfl rfl (fun c6 => ?_) (fun c6 => ?_)
      · rw [if_pos c6] at h
        refine J_bipush (pc := 51) (v := (-2 : Int32)) C 31 rfl rfl ?_
        cases h
        exact J_iret (pc := 53) C 32 rfl
      · rw [if_neg c6] at h
        refine J_aload_n (pc := 42) C 26 rfl 0 rfl rfl ?_
        refine J_iload_n (pc := 43) C 27 rfl 1 rfl rfl ?_
        refine J_iload_n (pc := 44) C 28 rfl 2 rfl rfl ?_
        obtain ⟨q7, hq7, h⟩ := bnd h
        refine J_callV (pc := 45) (st2 := []) (st3 := [.int (q7.1)]) (ws2 := (wMod G aM ((q7.2) 0) ((q7.2) 1) ((q7.2) 2) ((q7.2) 3) ((q7.2) 4) ((q7.2) 5) ((q7.2) 6) ((q7.2) 7) ((q7.2) 8) ((q7.2) 9 0) ((q7.2) 10 0) ((q7.2) 11 0) ((q7.2) 12 0) ((q7.2) 13 0))) C 29 rfl (c_X5_ofSittings aM vM x1 x2 hq7) V_X5_ofSittings k556 i_X5_ofSittings s_X5_ofSittings rfl rfl ⟨Nat.le_of_ble_eq_true rfl, Nat.le_of_ble_eq_true rfl⟩ (Nat.le_of_ble_eq_true rfl) ⟨Nat.le_refl _, Nat.le_refl _⟩ 0 5 rfl rfl rfl (isC := [0, 1, 2, 3, 4, 5, 6, 7, 8, 9]) (isR := []) (N := 10) ⟨rfl, by decide +kernel, rfl, by decide +kernel, rfl, trivial⟩ rfl ?_
        refine J_goto (pc := 48) (tgt := 53) C 30 rfl rfl ?_
        cases h
        exact J_iret (pc := 53) C 32 rfl
    · rw [if_neg c4] at h
      refine J_aload_n (pc := 18) C 10 rfl 0 rfl rfl ?_
      refine J_get (pc := 19) (v := .ref (aM 1)) C 11 rfl TB_l5 rfl 0 0 rfl (by decide) k399 rfl rfl ?_
      refine J_iconst (pc := 22) (v := (4 : Int32)) C 12 rfl rfl ?_
      refine J_iconst (pc := 23) (v := (2 : Int32)) C 13 rfl rfl ?_
      refine J_iload_n (pc := 24) C 14 rfl 1 rfl rfl ?_
      refine J_imul (pc := 25) C 15 rfl  ?_
      refine J_iadd (pc := 26) C 16 rfl  ?_
      refine J_iload_n (pc := 27) C 17 rfl 2 rfl rfl ?_
      refine J_iadd (pc := 28) C 18 rfl  ?_
      obtain ⟨g8, h⟩ := gd_some h
      refine J_iald (pc := 29) (f := (vM 0)) (v := ((vM 0) (Int32.toNatClampNeg (((4 : Int32) + ((2 : Int32) * x1)) + x2)))) C 19 rfl 1 rfl g8 rfl ?_
      refine J_goto (pc := 30) (tgt := 53) C 20 rfl rfl ?_
      cases h
      exact J_iret (pc := 53) C 32 rfl
  · rw [if_pos c2] at h
    refine J_iconst (pc := 7) (v := (-1 : Int32)) C 3 rfl rfl ?_
    cases h
    exact J_iret (pc := 8) C 4 rfl
def T_X5_clashesWith : List (Nat × ClassFile.Instr × Nat) := [(0, .iconst 0, 1), (1, .istore_n 2, 1), (2, .iconst 0, 1), (3, .istore_n 3, 1), (4, .iload_n 3, 1), (5, .bipush 6, 2), (7, .if_icmp .ge 55, 3), (10, .iload_n 1, 1), (11, .bipush 6, 2), (13, .idiv, 1), (14, .bipush 6, 2), (16, .imul, 1), (17, .iload_n 3, 1), (18, .iadd, 1), (19, .istore 4, 2), (21, .iload_n 2, 1), (22, .iload 4, 2), (24, .iload_n 1, 1), (25, .if_icmp .eq 28, 3), (28, .aload_n 0, 1), (29, .iload 4, 2), (31, .invokevirtual 84, 3), (34, .ifCond .eq 19, 3), (37, .aload_n 0, 1), (38, .iload_n 1, 1), (39, .iload 4, 2), (41, .invokevirtual 100, 3), (44, .ifCond .eq 9, 3), (47, .iconst 1, 1), (48, .iload_n 3, 1), (49, .ishl, 1), (50, .goto 4, 3), (53, .iconst 0, 1), (54, .ior, 1), (55, .istore_n 2, 1), (56, .iinc 3 1, 3), (59, .goto (-55), 3), (62, .iload_n 2, 1), (63, .ireturn, 1)]
theorem D_X5_clashesWith : ∀ q ∈ T_X5_clashesWith, decode cX5_clashesWith q.1 = .ok q.2 := by decide +kernel
theorem V_X5_clashesWith : Vy yX5_clashesWith cX5_clashesWith 5 (some .int) 1 := ⟨k560, k415, by decide +kernel⟩
theorem i_X5_clashesWith : Cond.instanceMethod yX5_clashesWith ∈ TB := k562
theorem s_X5_clashesWith : Cond.selects yX5_clashesWith.cls yX5_clashesWith yX5_clashesWith ∈ TB := k563
noncomputable def f_X5_clashesWith_b4 (vM : JV) (x1_4 : Int32) (r4 : Int32 → Int32 → Option (Int32)) (x2_4 : Int32) (x3_4 : Int32) : Option (Int32) :=
  (if (6 : Int32) ≤ x3_4 then some x2_4 else (if (((x1_4 / (6 : Int32)) * (6 : Int32)) + x3_4) = x1_4 then r4 (x2_4 ||| (0 : Int32)) (x3_4 + (1 : Int32)) else (f_X5_isSitting vM (((x1_4 / (6 : Int32)) * (6 : Int32)) + x3_4)).bind (fun q3 => (if q3 = 0 then r4 (x2_4 ||| (0 : Int32)) (x3_4 + (1 : Int32)) else (f_X5_clash vM x1_4 (((x1_4 / (6 : Int32)) * (6 : Int32)) + x3_4)).bind (fun q5 => (if q5 = 0 then r4 (x2_4 ||| (0 : Int32)) (x3_4 + (1 : Int32)) else r4 (x2_4 ||| ((1 : Int32) <<< (x3_4 &&& 31))) (x3_4 + (1 : Int32))))))))
noncomputable def f_X5_clashesWith_L4 (vM : JV) (x1_4 : Int32) (n : Nat) (x2_4 : Int32) (x3_4 : Int32) : Option (Int32) :=
  lp (fun (rec : Int32 × Int32 → Option (Int32)) a => f_X5_clashesWith_b4 vM x1_4 (fun x2_4 x3_4 => rec (x2_4, x3_4)) a.1 a.2) n (x2_4, x3_4)
noncomputable def f_X5_clashesWith (vM : JV) (x1 : Int32) : Option (Int32) :=
  f_X5_clashesWith_L4 vM x1 FU (0 : Int32) (0 : Int32)
set_option maxRecDepth 100000 in
set_option maxHeartbeats 4000000 in
theorem c_X5_clashesWith {l : Launch} {G : JG} (aM : Nat → Nat) (vM : JV) (x1 : Int32) {Rz : Int32} (h : f_X5_clashesWith vM x1 = some Rz) : JM l G yX5_clashesWith cX5_clashesWith 5 (some .int) 4 84 [.ref (aM 0), .int x1] (wMod G aM (vM 0) (vM 1) (vM 2) (vM 3) (vM 4) (vM 5) (vM 6) (vM 7) (vM 8) (vM 9 0) (vM 10 0) (vM 11 0) (vM 12 0) (vM 13 0)) (wMod G aM (vM 0) (vM 1) (vM 2) (vM 3) (vM 4) (vM 5) (vM 6) (vM 7) (vM 8) (vM 9 0) (vM 10 0) (vM 11 0) (vM 12 0) (vM 13 0)) (some (.int Rz)) := by
  refine JM.of (own := RX5) (tb := T_X5_clashesWith) (by decide) (Nat.le_of_ble_eq_true rfl) D_X5_clashesWith rfl (fun X C => ?_)
  refine J_sub (lv' := [(0, .ref (aM 0)), (1, .int x1)]) [0, 1] rfl ?_
  have B4 : ∀ (x1_4 : Int32) (n4 : Nat) (x2_4 : Int32) (x3_4 : Int32), f_X5_clashesWith_L4 vM x1_4 n4 x2_4 x3_4 = some Rz → J l { frames := 4, cells := 0, slots := 0, locals := 84 } G 5 X (QM X G 0 0 (some (.int Rz)) (wMod G aM (vM 0) (vM 1) (vM 2) (vM 3) (vM 4) (vM 5) (vM 6) (vM 7) (vM 8) (vM 9 0) (vM 10 0) (vM 11 0) (vM 12 0) (vM 13 0))) 0 0 4 [(0, .ref (aM 0)), (1, .int x1_4), (2, .int x2_4), (3, .int x3_4)] [] (wMod G aM (vM 0) (vM 1) (vM 2) (vM 3) (vM 4) (vM 5) (vM 6) (vM 7) (vM 8) (vM 9 0) (vM 10 0) (vM 11 0) (vM 12 0) (vM 13 0)) := by
    intro x1_4 n4
    induction n4 with
    | zero =>
      intro x2_4 x3_4 h
      exact (no_none rfl h).elim
    | succ n4 ih4 =>
      intro x2_4 x3_4 h
      replace h : f_X5_clashesWith_b4 vM x1_4 (fun x2_4 x3_4 => f_X5_clashesWith_L4 vM x1_4 n4 x2_4 x3_4) x2_4 x3_4 = some Rz := h
      unfold f_X5_clashesWith_b4 at h
      refine J_iload_n (pc := 4) C 4 rfl 3 rfl rfl ?_
      refine J_bipush (pc := 5) (v := (6 : Int32)) C 5 rfl rfl ?_
      refine J_icmp_ge (pc := 7) (tgt := 62) C 6 rfl rfl (fun c1 => ?_) (fun c1 => ?_)
      · rw [if_pos c1] at h
        refine J_iload_n (pc := 62) C 37 rfl 2 rfl rfl ?_
        cases h
        exact J_iret (pc := 63) C 38 rfl
      · rw [if_neg c1] at h
        refine J_iload_n (pc := 10) C 7 rfl 1 rfl rfl ?_
        refine J_bipush (pc := 11) (v := (6 : Int32)) C 8 rfl rfl ?_
        refine J_idiv (pc := 13) C 9 rfl (by decide) ?_
        refine J_bipush (pc := 14) (v := (6 : Int32)) C 10 rfl rfl ?_
        refine J_imul (pc := 16) C 11 rfl  ?_
        refine J_iload_n (pc := 17) C 12 rfl 3 rfl rfl ?_
        refine J_iadd (pc := 18) C 13 rfl  ?_
        refine J_istore (pc := 19) (lv' := [(4, .int (((x1_4 / (6 : Int32)) * (6 : Int32)) + x3_4)), (0, .ref (aM 0)), (1, .int x1_4), (2, .int x2_4), (3, .int x3_4)]) C 14 rfl (by decide) rfl ?_
        refine J_iload_n (pc := 21) C 15 rfl 3 rfl rfl ?_
        refine J_iload (pc := 22) C 16 rfl 0 rfl ?_
        refine J_iload_n (pc := 24) C 17 rfl 2 rfl rfl ?_
        refine J_icmp_eq (pc := 25) (tgt := 53) C 18 rfl rfl (fun c2 => ?_) (fun c2 => ?_)
        · rw [if_pos c2] at h
          refine J_iconst (pc := 53) (v := (0 : Int32)) C 32 rfl rfl ?_
          refine J_ior (pc := 54) C 33 rfl  ?_
          refine J_istore_n (pc := 55) (lv' := [(2, .int (x2_4 ||| (0 : Int32))), (4, .int (((x1_4 / (6 : Int32)) * (6 : Int32)) + x3_4)), (0, .ref (aM 0)), (1, .int x1_4), (3, .int x3_4)]) C 34 rfl rfl (by decide) rfl ?_
          refine J_iinc (pc := 56) (v := (x3_4 + (1 : Int32))) (lv' := [(3, .int (x3_4 + (1 : Int32))), (2, .int (x2_4 ||| (0 : Int32))), (4, .int (((x1_4 / (6 : Int32)) * (6 : Int32)) + x3_4)), (0, .ref (aM 0)), (1, .int x1_4)]) C 35 rfl 4 rfl rfl (by decide) rfl ?_
          refine J_goto (pc := 59) (tgt := 4) C 36 rfl rfl ?_
          exact J_sub [3, 4, 1, 0] rfl (ih4 (x2_4 ||| (0 : Int32)) (x3_4 + (1 : Int32)) h)
        · rw [if_neg c2] at h
          refine J_aload_n (pc := 28) C 19 rfl 1 rfl rfl ?_
          refine J_iload (pc := 29) C 20 rfl 0 rfl ?_
          obtain ⟨q3, hq3, h⟩ := bnd h
          refine J_callV (pc := 31) (st2 := [.int x2_4]) (st3 := [.int q3, .int x2_4]) (ws2 := (wMod G aM (vM 0) (vM 1) (vM 2) (vM 3) (vM 4) (vM 5) (vM 6) (vM 7) (vM 8) (vM 9 0) (vM 10 0) (vM 11 0) (vM 12 0) (vM 13 0))) C 21 rfl (c_X5_isSitting aM vM (((x1_4 / (6 : Int32)) * (6 : Int32)) + x3_4) hq3) V_X5_isSitting k465 i_X5_isSitting s_X5_isSitting rfl rfl ⟨Nat.le_of_ble_eq_true rfl, Nat.le_of_ble_eq_true rfl⟩ (Nat.le_of_ble_eq_true rfl) ⟨Nat.le_refl _, Nat.le_refl _⟩ 0 5 rfl rfl rfl (isC := [0, 1, 2, 3, 4, 5, 6, 7, 8, 9]) (isR := []) (N := 10) ⟨rfl, by decide +kernel, rfl, by decide +kernel, rfl, trivial⟩ rfl ?_
          refine J_if_eq (pc := 34) (tgt := 53) C 22 rfl rfl (fun c4 => ?_) (fun c4 => ?_)
          · rw [if_pos c4] at h
            refine J_iconst (pc := 53) (v := (0 : Int32)) C 32 rfl rfl ?_
            refine J_ior (pc := 54) C 33 rfl  ?_
            refine J_istore_n (pc := 55) (lv' := [(2, .int (x2_4 ||| (0 : Int32))), (4, .int (((x1_4 / (6 : Int32)) * (6 : Int32)) + x3_4)), (0, .ref (aM 0)), (1, .int x1_4), (3, .int x3_4)]) C 34 rfl rfl (by decide) rfl ?_
            refine J_iinc (pc := 56) (v := (x3_4 + (1 : Int32))) (lv' := [(3, .int (x3_4 + (1 : Int32))), (2, .int (x2_4 ||| (0 : Int32))), (4, .int (((x1_4 / (6 : Int32)) * (6 : Int32)) + x3_4)), (0, .ref (aM 0)), (1, .int x1_4)]) C 35 rfl 4 rfl rfl (by decide) rfl ?_
            refine J_goto (pc := 59) (tgt := 4) C 36 rfl rfl ?_
            exact J_sub [3, 4, 1, 0] rfl (ih4 (x2_4 ||| (0 : Int32)) (x3_4 + (1 : Int32)) h)
          · rw [if_neg c4] at h
            refine J_aload_n (pc := 37) C 23 rfl 1 rfl rfl ?_
            refine J_iload_n (pc := 38) C 24 rfl 2 rfl rfl ?_
            refine J_iload (pc := 39) C 25 rfl 0 rfl ?_
            obtain ⟨q5, hq5, h⟩ := bnd h
            refine J_callV (pc := 41) (st2 := [.int x2_4]) (st3 := [.int q5, .int x2_4]) (ws2 := (wMod G aM (vM 0) (vM 1) (vM 2) (vM 3) (vM 4) (vM 5) (vM 6) (vM 7) (vM 8) (vM 9 0) (vM 10 0) (vM 11 0) (vM 12 0) (vM 13 0))) C 26 rfl (c_X5_clash aM vM x1_4 (((x1_4 / (6 : Int32)) * (6 : Int32)) + x3_4) hq5) V_X5_clash k482 i_X5_clash s_X5_clash rfl rfl ⟨Nat.le_of_ble_eq_true rfl, Nat.le_of_ble_eq_true rfl⟩ (Nat.le_of_ble_eq_true rfl) ⟨Nat.le_refl _, Nat.le_refl _⟩ 0 5 rfl rfl rfl (isC := [0, 1, 2, 3, 4, 5, 6, 7, 8, 9]) (isR := []) (N := 10) ⟨rfl, by decide +kernel, rfl, by decide +kernel, rfl, trivial⟩ rfl ?_
            refine J_if_eq (pc := 44) (tgt := 53) C 27 rfl rfl (fun c6 => ?_) (fun c6 => ?_)
            · rw [if_pos c6] at h
              refine J_iconst (pc := 53) (v := (0 : Int32)) C 32 rfl rfl ?_
              refine J_ior (pc := 54) C 33 rfl  ?_
              refine J_istore_n (pc := 55) (lv' := [(2, .int (x2_4 ||| (0 : Int32))), (4, .int (((x1_4 / (6 : Int32)) * (6 : Int32)) + x3_4)), (0, .ref (aM 0)), (1, .int x1_4), (3, .int x3_4)]) C 34 rfl rfl (by decide) rfl ?_
              refine J_iinc (pc := 56) (v := (x3_4 + (1 : Int32))) (lv' := [(3, .int (x3_4 + (1 : Int32))), (2, .int (x2_4 ||| (0 : Int32))), (4, .int (((x1_4 / (6 : Int32)) * (6 : Int32)) + x3_4)), (0, .ref (aM 0)), (1, .int x1_4)]) C 35 rfl 4 rfl rfl (by decide) rfl ?_
              refine J_goto (pc := 59) (tgt := 4) C 36 rfl rfl ?_
              exact J_sub [3, 4, 1, 0] rfl (ih4 (x2_4 ||| (0 : Int32)) (x3_4 + (1 : Int32)) h)
            · rw [if_neg c6] at h
              refine J_iconst (pc := 47) (v := (1 : Int32)) C 28 rfl rfl ?_
              refine J_iload_n (pc := 48) C 29 rfl 4 rfl rfl ?_
              refine J_ishl (pc := 49) C 30 rfl  ?_
              refine J_goto (pc := 50) (tgt := 54) C 31 rfl rfl ?_
              refine J_ior (pc := 54) C 33 rfl  ?_
              refine J_istore_n (pc := 55) (lv' := [(2, .int (x2_4 ||| ((1 : Int32) <<< (x3_4 &&& 31)))), (4, .int (((x1_4 / (6 : Int32)) * (6 : Int32)) + x3_4)), (0, .ref (aM 0)), (1, .int x1_4), (3, .int x3_4)]) C 34 rfl rfl (by decide) rfl ?_
              refine J_iinc (pc := 56) (v := (x3_4 + (1 : Int32))) (lv' := [(3, .int (x3_4 + (1 : Int32))), (2, .int (x2_4 ||| ((1 : Int32) <<< (x3_4 &&& 31)))), (4, .int (((x1_4 / (6 : Int32)) * (6 : Int32)) + x3_4)), (0, .ref (aM 0)), (1, .int x1_4)]) C 35 rfl 4 rfl rfl (by decide) rfl ?_
              refine J_goto (pc := 59) (tgt := 4) C 36 rfl rfl ?_
              exact J_sub [3, 4, 1, 0] rfl (ih4 (x2_4 ||| ((1 : Int32) <<< (x3_4 &&& 31))) (x3_4 + (1 : Int32)) h)
  unfold f_X5_clashesWith at h
  refine J_iconst (pc := 0) (v := (0 : Int32)) C 0 rfl rfl ?_
  refine J_istore_n (pc := 1) (lv' := [(2, .int (0 : Int32)), (0, .ref (aM 0)), (1, .int x1)]) C 1 rfl rfl (by decide) rfl ?_
  refine J_iconst (pc := 2) (v := (0 : Int32)) C 2 rfl rfl ?_
  refine J_istore_n (pc := 3) (lv' := [(3, .int (0 : Int32)), (2, .int (0 : Int32)), (0, .ref (aM 0)), (1, .int x1)]) C 3 rfl rfl (by decide) rfl ?_
  exact J_sub [2, 3, 1, 0] rfl (B4 x1 FU (0 : Int32) (0 : Int32) h)
def T_X5_sitting : List (Nat × ClassFile.Instr × Nat) := [(0, .aload_n 0, 1), (1, .iload_n 1, 1), (2, .invokevirtual 119, 3), (5, .ifCond .eq 10, 3), (8, .iload_n 2, 1), (9, .invokestatic 112, 3), (12, .ifCond .ne 5, 3), (15, .iconst (-1), 1), (16, .ireturn, 1), (17, .iload_n 3, 1), (18, .iconst 0, 1), (19, .iconst 5, 1), (20, .invokestatic 39, 3), (23, .ifCond .ne 6, 3), (26, .bipush (-2), 2), (28, .ireturn, 1), (29, .bipush 6, 2), (31, .iload_n 1, 1), (32, .imul, 1), (33, .iload_n 2, 1), (34, .iadd, 1), (35, .istore 4, 2), (37, .aload_n 0, 1), (38, .iload 4, 2), (40, .invokevirtual 84, 3), (43, .ifCond .ne 6, 3), (46, .bipush (-5), 2), (48, .ireturn, 1), (49, .aload_n 0, 1), (50, .invokevirtual 97, 3), (53, .aload_n 0, 1), (54, .getfield 29, 3), (57, .iload 4, 2), (59, .iaload, 1), (60, .iconst 0, 1), (61, .bipush 63, 2), (63, .invokestatic 39, 3), (66, .istore 5, 2), (68, .iload_n 3, 1), (69, .tableswitch 119 0 4 #[35, 42, 49, 70, 91], 35), (104, .aload_n 0, 1), (105, .iload 4, 2), (107, .invokevirtual 55, 3), (110, .ireturn, 1), (111, .aload_n 0, 1), (112, .iload 4, 2), (114, .invokevirtual 61, 3), (117, .ireturn, 1), (118, .iload 5, 2), (120, .ifCond .eq 16, 3), (123, .aload_n 0, 1), (124, .getfield 29, 3), (127, .iload 4, 2), (129, .iaload, 1), (130, .bipush 16, 2), (132, .idiv, 1), (133, .goto 5, 3), (136, .bipush (-6), 2), (138, .ireturn, 1), (139, .iload 5, 2), (141, .ifCond .eq 16, 3), (144, .aload_n 0, 1), (145, .getfield 29, 3), (148, .iload 4, 2), (150, .iaload, 1), (151, .bipush 16, 2), (153, .irem, 1), (154, .goto 5, 3), (157, .bipush (-6), 2), (159, .ireturn, 1), (160, .aload_n 0, 1), (161, .getfield 29, 3), (164, .iload 4, 2), (166, .iaload, 1), (167, .bipush 64, 2), (169, .if_icmp .lt 16, 3), (172, .aload_n 0, 1), (173, .getfield 29, 3), (176, .iload 4, 2), (178, .iaload, 1), (179, .bipush 64, 2), (181, .isub, 1), (182, .goto 5, 3), (185, .bipush (-6), 2), (187, .ireturn, 1), (188, .aload_n 0, 1), (189, .iload 4, 2), (191, .invokevirtual 169, 3), (194, .ireturn, 1)]
theorem D_X5_sitting : ∀ q ∈ T_X5_sitting, decode cX5_sitting q.1 = .ok q.2 := by decide +kernel
theorem V_X5_sitting : Vy yX5_sitting cX5_sitting 6 (some .int) 3 := ⟨k564, k415, by decide +kernel⟩
theorem i_X5_sitting : Cond.instanceMethod yX5_sitting ∈ TB := k699
theorem s_X5_sitting : Cond.selects yX5_sitting.cls yX5_sitting yX5_sitting ∈ TB := k700
noncomputable def f_X5_sitting (vM : JV) (x1 : Int32) (x2 : Int32) (x3 : Int32) : Option (Int32 × JV) :=
  (f_X5_isPupil vM x1).bind (fun q1 => (if q1 = 0 then some ((-1 : Int32), vM) else (f_X5_isPaper x2).bind (fun q3 => (if q3 = 0 then some ((-1 : Int32), vM) else (f_X5_in x3 (0 : Int32) (5 : Int32)).bind (fun q5 => (if q5 = 0 then some ((-2 : Int32), vM) else (f_X5_isSitting vM (((6 : Int32) * x1) + x2)).bind (fun q7 => (if q7 = 0 then some ((-5 : Int32), vM) else (f_X5_seats vM).bind (fun q9 => gd (inb (((6 : Int32) * x1) + x2) 96) ((f_X5_in ((q9 6) (Int32.toNatClampNeg (((6 : Int32) * x1) + x2))) (0 : Int32) (63 : Int32)).bind (fun q11 => (if x3 = (0 : Int32) then (f_X5_begins q9 (((6 : Int32) * x1) + x2)).bind (fun q13 => some (q13, q9)) else (if x3 = (1 : Int32) then (f_X5_ends q9 (((6 : Int32) * x1) + x2)).bind (fun q15 => some (q15, q9)) else (if x3 = (2 : Int32) then (if q11 = 0 then some ((-6 : Int32), q9) else gd (inb (((6 : Int32) * x1) + x2) 96) (some ((((q9 6) (Int32.toNatClampNeg (((6 : Int32) * x1) + x2))) / (16 : Int32)), q9))) else (if x3 = (3 : Int32) then (if q11 = 0 then some ((-6 : Int32), q9) else gd (inb (((6 : Int32) * x1) + x2) 96) (some ((((q9 6) (Int32.toNatClampNeg (((6 : Int32) * x1) + x2))) - ((q9 6) (Int32.toNatClampNeg (((6 : Int32) * x1) + x2))) / (16 : Int32) * (16 : Int32)), q9))) else (if x3 = (4 : Int32) then gd (inb (((6 : Int32) * x1) + x2) 96) ((if ((q9 6) (Int32.toNatClampNeg (((6 : Int32) * x1) + x2))) < (64 : Int32) then some ((-6 : Int32), q9) else gd (inb (((6 : Int32) * x1) + x2) 96) (some ((((q9 6) (Int32.toNatClampNeg (((6 : Int32) * x1) + x2))) - (64 : Int32)), q9)))) else (f_X5_clashesWith q9 (((6 : Int32) * x1) + x2)).bind (fun q26 => some (q26, q9))))))))))))))))))
set_option maxRecDepth 100000 in
set_option maxHeartbeats 4000000 in
theorem c_X5_sitting {l : Launch} {G : JG} (aM : Nat → Nat) (vM : JV) (x1 : Int32) (x2 : Int32) (x3 : Int32) {Rz : Int32 × JV} (h : f_X5_sitting vM x1 x2 x3 = some Rz) : JM l G yX5_sitting cX5_sitting 6 (some .int) 6 133 [.ref (aM 0), .int x1, .int x2, .int x3] (wMod G aM (vM 0) (vM 1) (vM 2) (vM 3) (vM 4) (vM 5) (vM 6) (vM 7) (vM 8) (vM 9 0) (vM 10 0) (vM 11 0) (vM 12 0) (vM 13 0)) (wMod G aM ((Rz.2) 0) ((Rz.2) 1) ((Rz.2) 2) ((Rz.2) 3) ((Rz.2) 4) ((Rz.2) 5) ((Rz.2) 6) ((Rz.2) 7) ((Rz.2) 8) ((Rz.2) 9 0) ((Rz.2) 10 0) ((Rz.2) 11 0) ((Rz.2) 12 0) ((Rz.2) 13 0)) (some (.int (Rz.1))) := by
  refine JM.of (own := RX5) (tb := T_X5_sitting) (by decide) (Nat.le_of_ble_eq_true rfl) D_X5_sitting rfl (fun X C => ?_)
  refine J_sub (lv' := [(0, .ref (aM 0)), (1, .int x1), (2, .int x2), (3, .int x3)]) [0, 1, 2, 3] rfl ?_
  unfold f_X5_sitting at h
  refine J_aload_n (pc := 0) C 0 rfl 0 rfl rfl ?_
  refine J_iload_n (pc := 1) C 1 rfl 1 rfl rfl ?_
  obtain ⟨q1, hq1, h⟩ := bnd h
  refine J_callV (pc := 2) (st2 := []) (st3 := [.int q1]) (ws2 := (wMod G aM (vM 0) (vM 1) (vM 2) (vM 3) (vM 4) (vM 5) (vM 6) (vM 7) (vM 8) (vM 9 0) (vM 10 0) (vM 11 0) (vM 12 0) (vM 13 0))) C 2 rfl (c_X5_isPupil aM vM x1 hq1) V_X5_isPupil k506 i_X5_isPupil s_X5_isPupil rfl rfl ⟨Nat.le_of_ble_eq_true rfl, Nat.le_of_ble_eq_true rfl⟩ (Nat.le_of_ble_eq_true rfl) ⟨Nat.le_refl _, Nat.le_refl _⟩ 0 5 rfl rfl rfl (isC := [0, 1, 2, 3, 4, 5, 6, 7, 8, 9]) (isR := []) (N := 10) ⟨rfl, by decide +kernel, rfl, by decide +kernel, rfl, trivial⟩ rfl ?_
  refine J_if_eq (pc := 5) (tgt := 15) C 3 rfl rfl (fun c2 => ?_) (fun c2 => ?_)
  · rw [if_pos c2] at h
    refine J_iconst (pc := 15) (v := (-1 : Int32)) C 7 rfl rfl ?_
    cases h
    exact J_iret (pc := 16) C 8 rfl
  · rw [if_neg c2] at h
    refine J_iload_n (pc := 8) C 4 rfl 2 rfl rfl ?_
    obtain ⟨q3, hq3, h⟩ := bnd h
    refine J_callS (pc := 9) (st2 := []) (st3 := [.int q3]) (ws2 := (wMod G aM (vM 0) (vM 1) (vM 2) (vM 3) (vM 4) (vM 5) (vM 6) (vM 7) (vM 8) (vM 9 0) (vM 10 0) (vM 11 0) (vM 12 0) (vM 13 0))) C 5 rfl (c_X5_isPaper x2 hq3) V_X5_isPaper k499 t_X5_isPaper rfl rfl ⟨Nat.le_of_ble_eq_true rfl, Nat.le_of_ble_eq_true rfl⟩ (Nat.le_of_ble_eq_true rfl) ⟨Nat.le_refl _, Nat.le_refl _⟩ (isC := []) (isR := [0, 1, 2, 3, 4, 5, 6, 7, 8, 9]) (N := 10) ⟨rfl, by decide +kernel, rfl, by decide +kernel, rfl, ⟨⟨_, rfl, rfl⟩, ⟨⟨_, rfl, rfl⟩, ⟨⟨_, rfl, rfl⟩, ⟨⟨_, rfl, rfl⟩, ⟨⟨_, rfl, rfl⟩, ⟨⟨_, rfl, rfl⟩, ⟨⟨_, rfl, rfl⟩, ⟨⟨_, rfl, rfl⟩, ⟨⟨_, rfl, rfl⟩, ⟨⟨_, rfl, rfl⟩, trivial⟩⟩⟩⟩⟩⟩⟩⟩⟩⟩⟩ rfl ?_
    refine J_if_ne (pc := 12) (tgt := 17) C 6 rfl rfl (fun c4 => ?_) (fun c4 => ?_)
    · rw [if_neg c4] at h
      refine J_iload_n (pc := 17) C 9 rfl 3 rfl rfl ?_
      refine J_iconst (pc := 18) (v := (0 : Int32)) C 10 rfl rfl ?_
      refine J_iconst (pc := 19) (v := (5 : Int32)) C 11 rfl rfl ?_
      obtain ⟨q5, hq5, h⟩ := bnd h
      refine J_callS (pc := 20) (st2 := []) (st3 := [.int q5]) (ws2 := (wMod G aM (vM 0) (vM 1) (vM 2) (vM 3) (vM 4) (vM 5) (vM 6) (vM 7) (vM 8) (vM 9 0) (vM 10 0) (vM 11 0) (vM 12 0) (vM 13 0))) C 12 rfl (c_X5_in x3 (0 : Int32) (5 : Int32) hq5) V_X5_in k413 t_X5_in rfl rfl ⟨Nat.le_of_ble_eq_true rfl, Nat.le_of_ble_eq_true rfl⟩ (Nat.le_of_ble_eq_true rfl) ⟨Nat.le_refl _, Nat.le_refl _⟩ (isC := []) (isR := [0, 1, 2, 3, 4, 5, 6, 7, 8, 9]) (N := 10) ⟨rfl, by decide +kernel, rfl, by decide +kernel, rfl, ⟨⟨_, rfl, rfl⟩, ⟨⟨_, rfl, rfl⟩, ⟨⟨_, rfl, rfl⟩, ⟨⟨_, rfl, rfl⟩, ⟨⟨_, rfl, rfl⟩, ⟨⟨_, rfl, rfl⟩, ⟨⟨_, rfl, rfl⟩, ⟨⟨_, rfl, rfl⟩, ⟨⟨_, rfl, rfl⟩, ⟨⟨_, rfl, rfl⟩, trivial⟩⟩⟩⟩⟩⟩⟩⟩⟩⟩⟩ rfl ?_
      refine J_if_ne (pc := 23) (tgt := 29) C 13 rfl rfl (fun c6 => ?_) (fun c6 => ?_)
      · rw [if_neg c6] at h
        refine J_bipush (pc := 29) (v := (6 : Int32)) C 16 rfl rfl ?_
        refine J_iload_n (pc := 31) C 17 rfl 1 rfl rfl ?_
        refine J_imul (pc := 32) C 18 rfl  ?_
        refine J_iload_n (pc := 33) C 19 rfl 2 rfl rfl ?_
        refine J_iadd (pc := 34) C 20 rfl  ?_
        refine J_istore (pc := 35) (lv' := [(4, .int (((6 : Int32) * x1) + x2)), (0, .ref (aM 0)), (1, .int x1), (2, .int x2), (3, .int x3)]) C 21 rfl (by decide) rfl ?_
        refine J_aload_n (pc := 37) C 22 rfl 1 rfl rfl ?_
        refine J_iload (pc := 38) C 23 rfl 0 rfl ?_
        obtain ⟨q7, hq7, h⟩ := bnd h
        refine J_callV (pc := 40) (st2 := []) (st3 := [.int q7]) (ws2 := (wMod G aM (vM 0) (vM 1) (vM 2) (vM 3) (vM 4) (vM 5) (vM 6) (vM 7) (vM 8) (vM 9 0) (vM 10 0) (vM 11 0) (vM 12 0) (vM 13 0))) C 24 rfl (c_X5_isSitting aM vM (((6 : Int32) * x1) + x2) hq7) V_X5_isSitting k465 i_X5_isSitting s_X5_isSitting rfl rfl ⟨Nat.le_of_ble_eq_true rfl, Nat.le_of_ble_eq_true rfl⟩ (Nat.le_of_ble_eq_true rfl) ⟨Nat.le_refl _, Nat.le_refl _⟩ 0 5 rfl rfl rfl (isC := [0, 1, 2, 3, 4, 5, 6, 7, 8, 9]) (isR := []) (N := 10) ⟨rfl, by decide +kernel, rfl, by decide +kernel, rfl, trivial⟩ rfl ?_
        refine J_if_ne (pc := 43) (tgt := 49) C 25 rfl rfl (fun c8 => ?_) (fun c8 => ?_)
        · rw [if_neg c8] at h
          refine J_aload_n (pc := 49) C 28 rfl 1 rfl rfl ?_
          obtain ⟨q9, hq9, h⟩ := bnd h
          refine J_callV (pc := 50) (st2 := []) (st3 := []) (ws2 := (wMod G aM (q9 0) (q9 1) (q9 2) (q9 3) (q9 4) (q9 5) (q9 6) (q9 7) (q9 8) (q9 9 0) (q9 10 0) (q9 11 0) (q9 12 0) (q9 13 0))) C 29 rfl (c_X5_seats aM vM hq9) V_X5_seats k478 i_X5_seats s_X5_seats rfl rfl ⟨Nat.le_of_ble_eq_true rfl, Nat.le_of_ble_eq_true rfl⟩ (Nat.le_of_ble_eq_true rfl) ⟨Nat.le_refl _, Nat.le_refl _⟩ 0 5 rfl rfl rfl (isC := [0, 1, 2, 3, 4, 5, 6, 7, 8, 9]) (isR := []) (N := 10) ⟨rfl, by decide +kernel, rfl, by decide +kernel, rfl, trivial⟩ rfl ?_
          refine J_aload_n (pc := 53) C 30 rfl 1 rfl rfl ?_
          refine J_get (pc := 54) (v := .ref (aM 7)) C 31 rfl TB_l5 rfl 0 6 rfl (by decide) k405 rfl rfl ?_
          refine J_iload (pc := 57) C 32 rfl 0 rfl ?_
          obtain ⟨g10, h⟩ := gd_some h
          refine J_iald (pc := 59) (f := (q9 6)) (v := ((q9 6) (Int32.toNatClampNeg (((6 : Int32) * x1) + x2)))) C 33 rfl 7 rfl g10 rfl ?_
          refine J_iconst (pc := 60) (v := (0 : Int32)) C 34 rfl rfl ?_
          refine J_bipush (pc := 61) (v := (63 : Int32)) C 35 rfl rfl ?_
          obtain ⟨q11, hq11, h⟩ := bnd h
          refine J_callS (pc := 63) (st2 := []) (st3 := [.int q11]) (ws2 := (wMod G aM (q9 0) (q9 1) (q9 2) (q9 3) (q9 4) (q9 5) (q9 6) (q9 7) (q9 8) (q9 9 0) (q9 10 0) (q9 11 0) (q9 12 0) (q9 13 0))) C 36 rfl (c_X5_in ((q9 6) (Int32.toNatClampNeg (((6 : Int32) * x1) + x2))) (0 : Int32) (63 : Int32) hq11) V_X5_in k413 t_X5_in rfl rfl ⟨Nat.le_of_ble_eq_true rfl, Nat.le_of_ble_eq_true rfl⟩ (Nat.le_of_ble_eq_true rfl) ⟨Nat.le_refl _, Nat.le_refl _⟩ (isC := []) (isR := [0, 1, 2, 3, 4, 5, 6, 7, 8, 9]) (N := 10) ⟨rfl, by decide +kernel, rfl, by decide +kernel, rfl, ⟨⟨_, rfl, rfl⟩, ⟨⟨_, rfl, rfl⟩, ⟨⟨_, rfl, rfl⟩, ⟨⟨_, rfl, rfl⟩, ⟨⟨_, rfl, rfl⟩, ⟨⟨_, rfl, rfl⟩, ⟨⟨_, rfl, rfl⟩, ⟨⟨_, rfl, rfl⟩, ⟨⟨_, rfl, rfl⟩, ⟨⟨_, rfl, rfl⟩, trivial⟩⟩⟩⟩⟩⟩⟩⟩⟩⟩⟩ rfl ?_
          refine J_istore (pc := 66) (lv' := [(5, .int q11), (4, .int (((6 : Int32) * x1) + x2)), (0, .ref (aM 0)), (1, .int x1), (2, .int x2), (3, .int x3)]) C 37 rfl (by decide) rfl ?_
          refine J_iload_n (pc := 68) C 38 rfl 5 rfl rfl ?_
          by_cases c12 : x3 = (0 : Int32)
          · rw [if_pos c12] at h
            refine J_tabIn (pc := 69) (tgt := 104) C 39 rfl (by rw [c12]; decide) (by rw [c12]; decide) (by rw [c12]; rfl) rfl ?_
            refine J_aload_n (pc := 104) C 40 rfl 2 rfl rfl ?_
            refine J_iload (pc := 105) C 41 rfl 1 rfl ?_
            obtain ⟨q13, hq13, h⟩ := bnd h
            refine J_callV (pc := 107) (st2 := []) (st3 := [.int q13]) (ws2 := (wMod G aM (q9 0) (q9 1) (q9 2) (q9 3) (q9 4) (q9 5) (q9 6) (q9 7) (q9 8) (q9 9 0) (q9 10 0) (q9 11 0) (q9 12 0) (q9 13 0))) C 42 rfl (c_X5_begins aM q9 (((6 : Int32) * x1) + x2) hq13) V_X5_begins k430 i_X5_begins s_X5_begins rfl rfl ⟨Nat.le_of_ble_eq_true rfl, Nat.le_of_ble_eq_true rfl⟩ (Nat.le_of_ble_eq_true rfl) ⟨Nat.le_refl _, Nat.le_refl _⟩ 0 5 rfl rfl rfl (isC := [0, 1, 2, 3, 4, 5, 6, 7, 8, 9]) (isR := []) (N := 10) ⟨rfl, by decide +kernel, rfl, by decide +kernel, rfl, trivial⟩ rfl ?_
            cases h
            exact J_iret (pc := 110) C 43 rfl
          · rw [if_neg c12] at h
            by_cases c14 : x3 = (1 : Int32)
            · rw [if_pos c14] at h
              refine J_tabIn (pc := 69) (tgt := 111) C 39 rfl (by rw [c14]; decide) (by rw [c14]; decide) (by rw [c14]; rfl) rfl ?_
              refine J_aload_n (pc := 111) C 44 rfl 2 rfl rfl ?_
              refine J_iload (pc := 112) C 45 rfl 1 rfl ?_
              obtain ⟨q15, hq15, h⟩ := bnd h
              refine J_callV (pc := 114) (st2 := []) (st3 := [.int q15]) (ws2 := (wMod G aM (q9 0) (q9 1) (q9 2) (q9 3) (q9 4) (q9 5) (q9 6) (q9 7) (q9 8) (q9 9 0) (q9 10 0) (q9 11 0) (q9 12 0) (q9 13 0))) C 46 rfl (c_X5_ends aM q9 (((6 : Int32) * x1) + x2) hq15) V_X5_ends k438 i_X5_ends s_X5_ends rfl rfl ⟨Nat.le_of_ble_eq_true rfl, Nat.le_of_ble_eq_true rfl⟩ (Nat.le_of_ble_eq_true rfl) ⟨Nat.le_refl _, Nat.le_refl _⟩ 0 5 rfl rfl rfl (isC := [0, 1, 2, 3, 4, 5, 6, 7, 8, 9]) (isR := []) (N := 10) ⟨rfl, by decide +kernel, rfl, by decide +kernel, rfl, trivial⟩ rfl ?_
              cases h
              exact J_iret (pc := 117) C 47 rfl
            · rw [if_neg c14] at h
              by_cases c16 : x3 = (2 : Int32)
              · rw [if_pos c16] at h
                refine J_tabIn (pc := 69) (tgt := 118) C 39 rfl (by rw [c16]; decide) (by rw [c16]; decide) (by rw [c16]; rfl) rfl ?_
                refine J_iload (pc := 118) C 48 rfl 0 rfl ?_
                refine J_if_eq (pc := 120) (tgt := 136) C 49 rfl rfl (fun c17 => ?_) (fun c17 => ?_)
                · rw [if_pos c17] at h
                  refine J_bipush (pc := 136) (v := (-6 : Int32)) C 57 rfl rfl ?_
                  cases h
                  exact J_iret (pc := 138) C 58 rfl
                · rw [if_neg c17] at h
                  refine J_aload_n (pc := 123) C 50 rfl 2 rfl rfl ?_
                  refine J_get (pc := 124) (v := .ref (aM 7)) C 51 rfl TB_l5 rfl 0 6 rfl (by decide) k405 rfl rfl ?_
                  refine J_iload (pc := 127) C 52 rfl 1 rfl ?_
                  obtain ⟨g18, h⟩ := gd_some h
                  refine J_iald (pc := 129) (f := (q9 6)) (v := ((q9 6) (Int32.toNatClampNeg (((6 : Int32) * x1) + x2)))) C 53 rfl 7 rfl g18 rfl ?_
                  refine J_bipush (pc := 130) (v := (16 : Int32)) C 54 rfl rfl ?_
                  refine J_idiv (pc := 132) C 55 rfl (by decide) ?_
                  refine J_goto (pc := 133) (tgt := 138) C 56 rfl rfl ?_
                  cases h
                  exact J_iret (pc := 138) C 58 rfl
              · rw [if_neg c16] at h
                by_cases c19 : x3 = (3 : Int32)
                · rw [if_pos c19] at h
                  refine J_tabIn (pc := 69) (tgt := 139) C 39 rfl (by rw [c19]; decide) (by rw [c19]; decide) (by rw [c19]; rfl) rfl ?_
                  refine J_iload (pc := 139) C 59 rfl 0 rfl ?_
                  refine J_if_eq (pc := 141) (tgt := 157) C 60 rfl rfl (fun c20 => ?_) (fun c20 => ?_)
                  · rw [if_pos c20] at h
                    refine J_bipush (pc := 157) (v := (-6 : Int32)) C 68 rfl rfl ?_
                    cases h
                    exact J_iret (pc := 159) C 69 rfl
                  · rw [if_neg c20] at h
                    refine J_aload_n (pc := 144) C 61 rfl 2 rfl rfl ?_
                    refine J_get (pc := 145) (v := .ref (aM 7)) C 62 rfl TB_l5 rfl 0 6 rfl (by decide) k405 rfl rfl ?_
                    refine J_iload (pc := 148) C 63 rfl 1 rfl ?_
                    obtain ⟨g21, h⟩ := gd_some h
                    refine J_iald (pc := 150) (f := (q9 6)) (v := ((q9 6) (Int32.toNatClampNeg (((6 : Int32) * x1) + x2)))) C 64 rfl 7 rfl g21 rfl ?_
                    refine J_bipush (pc := 151) (v := (16 : Int32)) C 65 rfl rfl ?_
                    refine J_irem (pc := 153) C 66 rfl (by decide) ?_
                    refine J_goto (pc := 154) (tgt := 159) C 67 rfl rfl ?_
                    cases h
                    exact J_iret (pc := 159) C 69 rfl
                · rw [if_neg c19] at h
                  by_cases c22 : x3 = (4 : Int32)
                  · rw [if_pos c22] at h
                    refine J_tabIn (pc := 69) (tgt := 160) C 39 rfl (by rw [c22]; decide) (by rw [c22]; decide) (by rw [c22]; rfl) rfl ?_
                    refine J_aload_n (pc := 160) C 70 rfl 2 rfl rfl ?_
                    refine J_get (pc := 161) (v := .ref (aM 7)) C 71 rfl TB_l5 rfl 0 6 rfl (by decide) k405 rfl rfl ?_
                    refine J_iload (pc := 164) C 72 rfl 1 rfl ?_
                    obtain ⟨g23, h⟩ := gd_some h
                    refine J_iald (pc := 166) (f := (q9 6)) (v := ((q9 6) (Int32.toNatClampNeg (((6 : Int32) * x1) + x2)))) C 73 rfl 7 rfl g23 rfl ?_
                    refine J_bipush (pc := 167) (v := (64 : Int32)) C 74 rfl rfl ?_
                    refine J_icmp_lt (pc := 169) (tgt := 185) C 75 rfl rfl (fun c24 => ?_) (fun c24 => ?_)
                    · rw [if_pos c24] at h
                      refine J_bipush (pc := 185) (v := (-6 : Int32)) C 83 rfl rfl ?_
                      cases h
                      exact J_iret (pc := 187) C 84 rfl
                    · rw [if_neg c24] at h
                      refine J_aload_n (pc := 172) C 76 rfl 2 rfl rfl ?_
                      refine J_get (pc := 173) (v := .ref (aM 7)) C 77 rfl TB_l5 rfl 0 6 rfl (by decide) k405 rfl rfl ?_
                      refine J_iload (pc := 176) C 78 rfl 1 rfl ?_
                      obtain ⟨g25, h⟩ := gd_some h
                      refine J_iald (pc := 178) (f := (q9 6)) (v := ((q9 6) (Int32.toNatClampNeg (((6 : Int32) * x1) + x2)))) C 79 rfl 7 rfl g25 rfl ?_
                      refine J_bipush (pc := 179) (v := (64 : Int32)) C 80 rfl rfl ?_
                      refine J_isub (pc := 181) C 81 rfl  ?_
                      refine J_goto (pc := 182) (tgt := 187) C 82 rfl rfl ?_
                      cases h
                      exact J_iret (pc := 187) C 84 rfl
                  · rw [if_neg c22] at h
                    have ec12 := lv_neT (a := 0) c12 rfl
                    have ec14 := lv_neT (a := 1) c14 rfl
                    have ec16 := lv_neT (a := 2) c16 rfl
                    have ec19 := lv_neT (a := 3) c19 rfl
                    have ec22 := lv_neT (a := 4) c22 rfl
                    refine J_tabOut (pc := 69) (tgt := 188) C 39 rfl (by omega) rfl ?_
                    refine J_aload_n (pc := 188) C 85 rfl 2 rfl rfl ?_
                    refine J_iload (pc := 189) C 86 rfl 1 rfl ?_
                    obtain ⟨q26, hq26, h⟩ := bnd h
                    refine J_callV (pc := 191) (st2 := []) (st3 := [.int q26]) (ws2 := (wMod G aM (q9 0) (q9 1) (q9 2) (q9 3) (q9 4) (q9 5) (q9 6) (q9 7) (q9 8) (q9 9 0) (q9 10 0) (q9 11 0) (q9 12 0) (q9 13 0))) C 87 rfl (c_X5_clashesWith aM q9 (((6 : Int32) * x1) + x2) hq26) V_X5_clashesWith k561 i_X5_clashesWith s_X5_clashesWith rfl rfl ⟨Nat.le_of_ble_eq_true rfl, Nat.le_of_ble_eq_true rfl⟩ (Nat.le_of_ble_eq_true rfl) ⟨Nat.le_refl _, Nat.le_refl _⟩ 0 5 rfl rfl rfl (isC := [0, 1, 2, 3, 4, 5, 6, 7, 8, 9]) (isR := []) (N := 10) ⟨rfl, by decide +kernel, rfl, by decide +kernel, rfl, trivial⟩ rfl ?_
                    cases h
                    exact J_iret (pc := 194) C 88 rfl
        · rw [if_pos c8] at h
          refine J_bipush (pc := 46) (v := (-5 : Int32)) C 26 rfl rfl ?_
          cases h
          exact J_iret (pc := 48) C 27 rfl
      · rw [if_pos c6] at h
        refine J_bipush (pc := 26) (v := (-2 : Int32)) C 14 rfl rfl ?_
        cases h
        exact J_iret (pc := 28) C 15 rfl
    · rw [if_pos c4] at h
      refine J_iconst (pc := 15) (v := (-1 : Int32)) C 7 rfl rfl ?_
      cases h
      exact J_iret (pc := 16) C 8 rfl
def T_X5_isIn : List (Nat × ClassFile.Instr × Nat) := [(0, .aload_n 0, 1), (1, .getfield 29, 3), (4, .iload_n 1, 1), (5, .iaload, 1), (6, .bipush 16, 2), (8, .iload_n 2, 1), (9, .imul, 1), (10, .bipush 16, 2), (12, .iload_n 2, 1), (13, .imul, 1), (14, .bipush 15, 2), (16, .iadd, 1), (17, .invokestatic 39, 3), (20, .ireturn, 1)]
theorem D_X5_isIn : ∀ q ∈ T_X5_isIn, decode cX5_isIn q.1 = .ok q.2 := by decide +kernel
theorem V_X5_isIn : Vy yX5_isIn cX5_isIn 3 (some .boolean) 2 := ⟨k565, k415, by decide +kernel⟩
theorem i_X5_isIn : Cond.instanceMethod yX5_isIn ∈ TB := k567
theorem s_X5_isIn : Cond.selects yX5_isIn.cls yX5_isIn yX5_isIn ∈ TB := k568
noncomputable def f_X5_isIn (vM : JV) (x1 : Int32) (x2 : Int32) : Option (Int32) :=
  gd (inb x1 96) ((f_X5_in ((vM 6) (Int32.toNatClampNeg x1)) ((16 : Int32) * x2) (((16 : Int32) * x2) + (15 : Int32))).bind (fun q2 => gd (isb q2) (some q2)))
set_option maxRecDepth 100000 in
set_option maxHeartbeats 4000000 in
theorem c_X5_isIn {l : Launch} {G : JG} (aM : Nat → Nat) (vM : JV) (x1 : Int32) (x2 : Int32) {Rz : Int32} (h : f_X5_isIn vM x1 x2 = some Rz) : JM l G yX5_isIn cX5_isIn 3 (some .boolean) 1 22 [.ref (aM 0), .int x1, .int x2] (wMod G aM (vM 0) (vM 1) (vM 2) (vM 3) (vM 4) (vM 5) (vM 6) (vM 7) (vM 8) (vM 9 0) (vM 10 0) (vM 11 0) (vM 12 0) (vM 13 0)) (wMod G aM (vM 0) (vM 1) (vM 2) (vM 3) (vM 4) (vM 5) (vM 6) (vM 7) (vM 8) (vM 9 0) (vM 10 0) (vM 11 0) (vM 12 0) (vM 13 0)) (some (.int Rz)) := by
  refine JM.of (own := RX5) (tb := T_X5_isIn) (by decide) (Nat.le_of_ble_eq_true rfl) D_X5_isIn rfl (fun X C => ?_)
  refine J_sub (lv' := [(0, .ref (aM 0)), (1, .int x1), (2, .int x2)]) [0, 1, 2] rfl ?_
  unfold f_X5_isIn at h
  refine J_aload_n (pc := 0) C 0 rfl 0 rfl rfl ?_
  refine J_get (pc := 1) (v := .ref (aM 7)) C 1 rfl TB_l5 rfl 0 6 rfl (by decide) k405 rfl rfl ?_
  refine J_iload_n (pc := 4) C 2 rfl 1 rfl rfl ?_
  obtain ⟨g1, h⟩ := gd_some h
  refine J_iald (pc := 5) (f := (vM 6)) (v := ((vM 6) (Int32.toNatClampNeg x1))) C 3 rfl 7 rfl g1 rfl ?_
  refine J_bipush (pc := 6) (v := (16 : Int32)) C 4 rfl rfl ?_
  refine J_iload_n (pc := 8) C 5 rfl 2 rfl rfl ?_
  refine J_imul (pc := 9) C 6 rfl  ?_
  refine J_bipush (pc := 10) (v := (16 : Int32)) C 7 rfl rfl ?_
  refine J_iload_n (pc := 12) C 8 rfl 2 rfl rfl ?_
  refine J_imul (pc := 13) C 9 rfl  ?_
  refine J_bipush (pc := 14) (v := (15 : Int32)) C 10 rfl rfl ?_
  refine J_iadd (pc := 16) C 11 rfl  ?_
  obtain ⟨q2, hq2, h⟩ := bnd h
  refine J_callS (pc := 17) (st2 := []) (st3 := [.int q2]) (ws2 := (wMod G aM (vM 0) (vM 1) (vM 2) (vM 3) (vM 4) (vM 5) (vM 6) (vM 7) (vM 8) (vM 9 0) (vM 10 0) (vM 11 0) (vM 12 0) (vM 13 0))) C 12 rfl (c_X5_in ((vM 6) (Int32.toNatClampNeg x1)) ((16 : Int32) * x2) (((16 : Int32) * x2) + (15 : Int32)) hq2) V_X5_in k413 t_X5_in rfl rfl ⟨Nat.le_of_ble_eq_true rfl, Nat.le_of_ble_eq_true rfl⟩ (Nat.le_of_ble_eq_true rfl) ⟨Nat.le_refl _, Nat.le_refl _⟩ (isC := []) (isR := [0, 1, 2, 3, 4, 5, 6, 7, 8, 9]) (N := 10) ⟨rfl, by decide +kernel, rfl, by decide +kernel, rfl, ⟨⟨_, rfl, rfl⟩, ⟨⟨_, rfl, rfl⟩, ⟨⟨_, rfl, rfl⟩, ⟨⟨_, rfl, rfl⟩, ⟨⟨_, rfl, rfl⟩, ⟨⟨_, rfl, rfl⟩, ⟨⟨_, rfl, rfl⟩, ⟨⟨_, rfl, rfl⟩, ⟨⟨_, rfl, rfl⟩, ⟨⟨_, rfl, rfl⟩, trivial⟩⟩⟩⟩⟩⟩⟩⟩⟩⟩⟩ rfl ?_
  obtain ⟨g3, h⟩ := gd_some h
  cases h
  exact J_zret (pc := 20) C 13 rfl g3
def T_X5_atMinute : List (Nat × ClassFile.Instr × Nat) := [(0, .iconst 0, 1), (1, .istore_n 3, 1), (2, .iconst 0, 1), (3, .istore 4, 2), (5, .iload 4, 2), (7, .bipush 96, 2), (9, .if_icmp .ge 82, 3), (12, .iload_n 1, 1), (13, .iconst 4, 1), (14, .if_icmp .ge 13, 3), (17, .aload_n 0, 1), (18, .iload 4, 2), (20, .iload_n 1, 1), (21, .invokevirtual 172, 3), (24, .goto 26, 3), (27, .aload_n 0, 1), (28, .iload 4, 2), (30, .invokevirtual 84, 3), (33, .ifCond .eq 16, 3), (36, .aload_n 0, 1), (37, .iload 4, 2), (39, .invokevirtual 88, 3), (42, .ifCond .eq 7, 3), (45, .iconst 1, 1), (46, .goto 4, 3), (49, .iconst 0, 1), (50, .istore 5, 2), (52, .iload_n 3, 1), (53, .iload 5, 2), (55, .ifCond .eq 27, 3), (58, .aload_n 0, 1), (59, .iload 4, 2), (61, .invokevirtual 55, 3), (64, .iload_n 2, 1), (65, .if_icmp .gt 17, 3), (68, .aload_n 0, 1), (69, .iload 4, 2), (71, .invokevirtual 61, 3), (74, .iload_n 2, 1), (75, .if_icmp .le 7, 3), (78, .iconst 1, 1), (79, .goto 4, 3), (82, .iconst 0, 1), (83, .iadd, 1), (84, .istore_n 3, 1), (85, .iinc 4 1, 3), (88, .goto (-83), 3), (91, .iload_n 3, 1), (92, .ireturn, 1)]
theorem D_X5_atMinute : ∀ q ∈ T_X5_atMinute, decode cX5_atMinute q.1 = .ok q.2 := by decide +kernel
theorem V_X5_atMinute : Vy yX5_atMinute cX5_atMinute 6 (some .int) 2 := ⟨k569, k415, by decide +kernel⟩
theorem i_X5_atMinute : Cond.instanceMethod yX5_atMinute ∈ TB := k571
theorem s_X5_atMinute : Cond.selects yX5_atMinute.cls yX5_atMinute yX5_atMinute ∈ TB := k572
noncomputable def f_X5_atMinute_K50 (vM : JV) (r5 : Int32 → Int32 → Option (Int32)) (x1_5 : Int32) (x2_5 : Int32) (x3_50 : Int32) (x4_50 : Int32) (y0_50 : Int32) : Option (Int32) :=
  (if y0_50 = 0 then r5 (x3_50 + (0 : Int32)) (x4_50 + (1 : Int32)) else (f_X5_begins vM x4_50).bind (fun q6 => (if x2_5 < q6 then r5 (x3_50 + (0 : Int32)) (x4_50 + (1 : Int32)) else (f_X5_ends vM x4_50).bind (fun q8 => (if q8 ≤ x2_5 then r5 (x3_50 + (0 : Int32)) (x4_50 + (1 : Int32)) else r5 (x3_50 + (1 : Int32)) (x4_50 + (1 : Int32)))))))
noncomputable def f_X5_atMinute_K49 (vM : JV) (r5 : Int32 → Int32 → Option (Int32)) (x1_5 : Int32) (x2_5 : Int32) (x3_49 : Int32) (x4_49 : Int32) : Option (Int32) :=
  f_X5_atMinute_K50 vM r5 x1_5 x2_5 x3_49 x4_49 (0 : Int32)
noncomputable def f_X5_atMinute_b5 (vM : JV) (x1_5 : Int32) (x2_5 : Int32) (r5 : Int32 → Int32 → Option (Int32)) (x3_5 : Int32) (x4_5 : Int32) : Option (Int32) :=
  (if (96 : Int32) ≤ x4_5 then some x3_5 else (if (4 : Int32) ≤ x1_5 then (f_X5_isSitting vM x4_5).bind (fun q3 => (if q3 = 0 then f_X5_atMinute_K49 vM r5 x1_5 x2_5 x3_5 x4_5 else (f_X5_needsReader vM x4_5).bind (fun q10 => (if q10 = 0 then f_X5_atMinute_K49 vM r5 x1_5 x2_5 x3_5 x4_5 else f_X5_atMinute_K50 vM r5 x1_5 x2_5 x3_5 x4_5 (1 : Int32))))) else (f_X5_isIn vM x4_5 x1_5).bind (fun q12 => f_X5_atMinute_K50 vM r5 x1_5 x2_5 x3_5 x4_5 q12)))
noncomputable def f_X5_atMinute_L5 (vM : JV) (x1_5 : Int32) (x2_5 : Int32) (n : Nat) (x3_5 : Int32) (x4_5 : Int32) : Option (Int32) :=
  lp (fun (rec : Int32 × Int32 → Option (Int32)) a => f_X5_atMinute_b5 vM x1_5 x2_5 (fun x3_5 x4_5 => rec (x3_5, x4_5)) a.1 a.2) n (x3_5, x4_5)
noncomputable def f_X5_atMinute (vM : JV) (x1 : Int32) (x2 : Int32) : Option (Int32) :=
  f_X5_atMinute_L5 vM x1 x2 FU (0 : Int32) (0 : Int32)
set_option maxRecDepth 100000 in
set_option maxHeartbeats 4000000 in
theorem c_X5_atMinute {l : Launch} {G : JG} (aM : Nat → Nat) (vM : JV) (x1 : Int32) (x2 : Int32) {Rz : Int32} (h : f_X5_atMinute vM x1 x2 = some Rz) : JM l G yX5_atMinute cX5_atMinute 6 (some .int) 3 62 [.ref (aM 0), .int x1, .int x2] (wMod G aM (vM 0) (vM 1) (vM 2) (vM 3) (vM 4) (vM 5) (vM 6) (vM 7) (vM 8) (vM 9 0) (vM 10 0) (vM 11 0) (vM 12 0) (vM 13 0)) (wMod G aM (vM 0) (vM 1) (vM 2) (vM 3) (vM 4) (vM 5) (vM 6) (vM 7) (vM 8) (vM 9 0) (vM 10 0) (vM 11 0) (vM 12 0) (vM 13 0)) (some (.int Rz)) := by
  refine JM.of (own := RX5) (tb := T_X5_atMinute) (by decide) (Nat.le_of_ble_eq_true rfl) D_X5_atMinute rfl (fun X C => ?_)
  refine J_sub (lv' := [(0, .ref (aM 0)), (1, .int x1), (2, .int x2)]) [0, 1, 2] rfl ?_
  have B5 : ∀ (x1_5 : Int32) (x2_5 : Int32) (n5 : Nat) (x3_5 : Int32) (x4_5 : Int32), f_X5_atMinute_L5 vM x1_5 x2_5 n5 x3_5 x4_5 = some Rz → J l { frames := 3, cells := 0, slots := 0, locals := 62 } G 6 X (QM X G 0 0 (some (.int Rz)) (wMod G aM (vM 0) (vM 1) (vM 2) (vM 3) (vM 4) (vM 5) (vM 6) (vM 7) (vM 8) (vM 9 0) (vM 10 0) (vM 11 0) (vM 12 0) (vM 13 0))) 0 0 5 [(0, .ref (aM 0)), (1, .int x1_5), (2, .int x2_5), (3, .int x3_5), (4, .int x4_5)] [] (wMod G aM (vM 0) (vM 1) (vM 2) (vM 3) (vM 4) (vM 5) (vM 6) (vM 7) (vM 8) (vM 9 0) (vM 10 0) (vM 11 0) (vM 12 0) (vM 13 0)) := by
    intro x1_5 x2_5 n5
    induction n5 with
    | zero =>
      intro x3_5 x4_5 h
      exact (no_none rfl h).elim
    | succ n5 ih5 =>
      have B50 : ∀ (x3_50 : Int32) (x4_50 : Int32) (y0_50 : Int32), f_X5_atMinute_K50 vM (fun x3_5 x4_5 => f_X5_atMinute_L5 vM x1_5 x2_5 n5 x3_5 x4_5) x1_5 x2_5 x3_50 x4_50 y0_50 = some Rz → J l { frames := 3, cells := 0, slots := 0, locals := 62 } G 6 X (QM X G 0 0 (some (.int Rz)) (wMod G aM (vM 0) (vM 1) (vM 2) (vM 3) (vM 4) (vM 5) (vM 6) (vM 7) (vM 8) (vM 9 0) (vM 10 0) (vM 11 0) (vM 12 0) (vM 13 0))) 0 0 50 [(0, .ref (aM 0)), (1, .int x1_5), (2, .int x2_5), (3, .int x3_50), (4, .int x4_50)] [.int y0_50] (wMod G aM (vM 0) (vM 1) (vM 2) (vM 3) (vM 4) (vM 5) (vM 6) (vM 7) (vM 8) (vM 9 0) (vM 10 0) (vM 11 0) (vM 12 0) (vM 13 0)) := by
        intro x3_50 x4_50 y0_50 h
        unfold f_X5_atMinute_K50 at h
        refine J_istore (pc := 50) (lv' := [(5, .int y0_50), (0, .ref (aM 0)), (1, .int x1_5), (2, .int x2_5), (3, .int x3_50), (4, .int x4_50)]) C 26 rfl (by decide) rfl ?_
        refine J_iload_n (pc := 52) C 27 rfl 4 rfl rfl ?_
        refine J_iload (pc := 53) C 28 rfl 0 rfl ?_
        refine J_if_eq (pc := 55) (tgt := 82) C 29 rfl rfl (fun c5 => ?_) (fun c5 => ?_)
        · rw [if_pos c5] at h
          refine J_iconst (pc := 82) (v := (0 : Int32)) C 42 rfl rfl ?_
          refine J_iadd (pc := 83) C 43 rfl  ?_
          refine J_istore_n (pc := 84) (lv' := [(3, .int (x3_50 + (0 : Int32))), (5, .int y0_50), (0, .ref (aM 0)), (1, .int x1_5), (2, .int x2_5), (4, .int x4_50)]) C 44 rfl rfl (by decide) rfl ?_
          refine J_iinc (pc := 85) (v := (x4_50 + (1 : Int32))) (lv' := [(4, .int (x4_50 + (1 : Int32))), (3, .int (x3_50 + (0 : Int32))), (5, .int y0_50), (0, .ref (aM 0)), (1, .int x1_5), (2, .int x2_5)]) C 45 rfl 5 rfl rfl (by decide) rfl ?_
          refine J_goto (pc := 88) (tgt := 5) C 46 rfl rfl ?_
          exact J_sub [3, 4, 5, 1, 0] rfl (ih5 (x3_50 + (0 : Int32)) (x4_50 + (1 : Int32)) h)
        · rw [if_neg c5] at h
          refine J_aload_n (pc := 58) C 30 rfl 1 rfl rfl ?_
          refine J_iload (pc := 59) C 31 rfl 5 rfl ?_
          obtain ⟨q6, hq6, h⟩ := bnd h
          refine J_callV (pc := 61) (st2 := [.int x3_50]) (st3 := [.int q6, .int x3_50]) (ws2 := (wMod G aM (vM 0) (vM 1) (vM 2) (vM 3) (vM 4) (vM 5) (vM 6) (vM 7) (vM 8) (vM 9 0) (vM 10 0) (vM 11 0) (vM 12 0) (vM 13 0))) C 32 rfl (c_X5_begins aM vM x4_50 hq6) V_X5_begins k430 i_X5_begins s_X5_begins rfl rfl ⟨Nat.le_of_ble_eq_true rfl, Nat.le_of_ble_eq_true rfl⟩ (Nat.le_of_ble_eq_true rfl) ⟨Nat.le_refl _, Nat.le_refl _⟩ 0 5 rfl rfl rfl (isC := [0, 1, 2, 3, 4, 5, 6, 7, 8, 9]) (isR := []) (N := 10) ⟨rfl, by decide +kernel, rfl, by decide +kernel, rfl, trivial⟩ rfl ?_
          refine J_iload_n (pc := 64) C 33 rfl 3 rfl rfl ?_
          refine J_icmp_gt (pc := 65) (tgt := 82) C 34 rfl rfl (fun c7 => ?_) (fun c7 => ?_)
          · rw [if_pos c7] at h
            refine J_iconst (pc := 82) (v := (0 : Int32)) C 42 rfl rfl ?_
            refine J_iadd (pc := 83) C 43 rfl  ?_
            refine J_istore_n (pc := 84) (lv' := [(3, .int (x3_50 + (0 : Int32))), (5, .int y0_50), (0, .ref (aM 0)), (1, .int x1_5), (2, .int x2_5), (4, .int x4_50)]) C 44 rfl rfl (by decide) rfl ?_
            refine J_iinc (pc := 85) (v := (x4_50 + (1 : Int32))) (lv' := [(4, .int (x4_50 + (1 : Int32))), (3, .int (x3_50 + (0 : Int32))), (5, .int y0_50), (0, .ref (aM 0)), (1, .int x1_5), (2, .int x2_5)]) C 45 rfl 5 rfl rfl (by decide) rfl ?_
            refine J_goto (pc := 88) (tgt := 5) C 46 rfl rfl ?_
            exact J_sub [3, 4, 5, 1, 0] rfl (ih5 (x3_50 + (0 : Int32)) (x4_50 + (1 : Int32)) h)
          · rw [if_neg c7] at h
            refine J_aload_n (pc := 68) C 35 rfl 1 rfl rfl ?_
            refine J_iload (pc := 69) C 36 rfl 5 rfl ?_
            obtain ⟨q8, hq8, h⟩ := bnd h
            refine J_callV (pc := 71) (st2 := [.int x3_50]) (st3 := [.int q8, .int x3_50]) (ws2 := (wMod G aM (vM 0) (vM 1) (vM 2) (vM 3) (vM 4) (vM 5) (vM 6) (vM 7) (vM 8) (vM 9 0) (vM 10 0) (vM 11 0) (vM 12 0) (vM 13 0))) C 37 rfl (c_X5_ends aM vM x4_50 hq8) V_X5_ends k438 i_X5_ends s_X5_ends rfl rfl ⟨Nat.le_of_ble_eq_true rfl, Nat.le_of_ble_eq_true rfl⟩ (Nat.le_of_ble_eq_true rfl) ⟨Nat.le_refl _, Nat.le_refl _⟩ 0 5 rfl rfl rfl (isC := [0, 1, 2, 3, 4, 5, 6, 7, 8, 9]) (isR := []) (N := 10) ⟨rfl, by decide +kernel, rfl, by decide +kernel, rfl, trivial⟩ rfl ?_
            refine J_iload_n (pc := 74) C 38 rfl 3 rfl rfl ?_
            refine J_icmp_le (pc := 75) (tgt := 82) C 39 rfl rfl (fun c9 => ?_) (fun c9 => ?_)
            · rw [if_pos c9] at h
              refine J_iconst (pc := 82) (v := (0 : Int32)) C 42 rfl rfl ?_
              refine J_iadd (pc := 83) C 43 rfl  ?_
              refine J_istore_n (pc := 84) (lv' := [(3, .int (x3_50 + (0 : Int32))), (5, .int y0_50), (0, .ref (aM 0)), (1, .int x1_5), (2, .int x2_5), (4, .int x4_50)]) C 44 rfl rfl (by decide) rfl ?_
              refine J_iinc (pc := 85) (v := (x4_50 + (1 : Int32))) (lv' := [(4, .int (x4_50 + (1 : Int32))), (3, .int (x3_50 + (0 : Int32))), (5, .int y0_50), (0, .ref (aM 0)), (1, .int x1_5), (2, .int x2_5)]) C 45 rfl 5 rfl rfl (by decide) rfl ?_
              refine J_goto (pc := 88) (tgt := 5) C 46 rfl rfl ?_
              exact J_sub [3, 4, 5, 1, 0] rfl (ih5 (x3_50 + (0 : Int32)) (x4_50 + (1 : Int32)) h)
            · rw [if_neg c9] at h
              refine J_iconst (pc := 78) (v := (1 : Int32)) C 40 rfl rfl ?_
              refine J_goto (pc := 79) (tgt := 83) C 41 rfl rfl ?_
              refine J_iadd (pc := 83) C 43 rfl  ?_
              refine J_istore_n (pc := 84) (lv' := [(3, .int (x3_50 + (1 : Int32))), (5, .int y0_50), (0, .ref (aM 0)), (1, .int x1_5), (2, .int x2_5), (4, .int x4_50)]) C 44 rfl rfl (by decide) rfl ?_
              refine J_iinc (pc := 85) (v := (x4_50 + (1 : Int32))) (lv' := [(4, .int (x4_50 + (1 : Int32))), (3, .int (x3_50 + (1 : Int32))), (5, .int y0_50), (0, .ref (aM 0)), (1, .int x1_5), (2, .int x2_5)]) C 45 rfl 5 rfl rfl (by decide) rfl ?_
              refine J_goto (pc := 88) (tgt := 5) C 46 rfl rfl ?_
              exact J_sub [3, 4, 5, 1, 0] rfl (ih5 (x3_50 + (1 : Int32)) (x4_50 + (1 : Int32)) h)
      have B49 : ∀ (x3_49 : Int32) (x4_49 : Int32), f_X5_atMinute_K49 vM (fun x3_5 x4_5 => f_X5_atMinute_L5 vM x1_5 x2_5 n5 x3_5 x4_5) x1_5 x2_5 x3_49 x4_49 = some Rz → J l { frames := 3, cells := 0, slots := 0, locals := 62 } G 6 X (QM X G 0 0 (some (.int Rz)) (wMod G aM (vM 0) (vM 1) (vM 2) (vM 3) (vM 4) (vM 5) (vM 6) (vM 7) (vM 8) (vM 9 0) (vM 10 0) (vM 11 0) (vM 12 0) (vM 13 0))) 0 0 49 [(0, .ref (aM 0)), (1, .int x1_5), (2, .int x2_5), (3, .int x3_49), (4, .int x4_49)] [] (wMod G aM (vM 0) (vM 1) (vM 2) (vM 3) (vM 4) (vM 5) (vM 6) (vM 7) (vM 8) (vM 9 0) (vM 10 0) (vM 11 0) (vM 12 0) (vM 13 0)) := by
        intro x3_49 x4_49 h
        unfold f_X5_atMinute_K49 at h
        refine J_iconst (pc := 49) (v := (0 : Int32)) C 25 rfl rfl ?_
        exact J_sub [0, 1, 2, 3, 4] rfl (B50 x3_49 x4_49 (0 : Int32) h)
      intro x3_5 x4_5 h
      replace h : f_X5_atMinute_b5 vM x1_5 x2_5 (fun x3_5 x4_5 => f_X5_atMinute_L5 vM x1_5 x2_5 n5 x3_5 x4_5) x3_5 x4_5 = some Rz := h
      unfold f_X5_atMinute_b5 at h
      refine J_iload (pc := 5) C 4 rfl 4 rfl ?_
      refine J_bipush (pc := 7) (v := (96 : Int32)) C 5 rfl rfl ?_
      refine J_icmp_ge (pc := 9) (tgt := 91) C 6 rfl rfl (fun c1 => ?_) (fun c1 => ?_)
      · rw [if_pos c1] at h
        refine J_iload_n (pc := 91) C 47 rfl 3 rfl rfl ?_
        cases h
        exact J_iret (pc := 92) C 48 rfl
      · rw [if_neg c1] at h
        refine J_iload_n (pc := 12) C 7 rfl 1 rfl rfl ?_
        refine J_iconst (pc := 13) (v := (4 : Int32)) C 8 rfl rfl ?_
        refine J_icmp_ge (pc := 14) (tgt := 27) C 9 rfl rfl (fun c2 => ?_) (fun c2 => ?_)
        · rw [if_pos c2] at h
          refine J_aload_n (pc := 27) C 15 rfl 0 rfl rfl ?_
          refine J_iload (pc := 28) C 16 rfl 4 rfl ?_
          obtain ⟨q3, hq3, h⟩ := bnd h
          refine J_callV (pc := 30) (st2 := []) (st3 := [.int q3]) (ws2 := (wMod G aM (vM 0) (vM 1) (vM 2) (vM 3) (vM 4) (vM 5) (vM 6) (vM 7) (vM 8) (vM 9 0) (vM 10 0) (vM 11 0) (vM 12 0) (vM 13 0))) C 17 rfl (c_X5_isSitting aM vM x4_5 hq3) V_X5_isSitting k465 i_X5_isSitting s_X5_isSitting rfl rfl ⟨Nat.le_of_ble_eq_true rfl, Nat.le_of_ble_eq_true rfl⟩ (Nat.le_of_ble_eq_true rfl) ⟨Nat.le_refl _, Nat.le_refl _⟩ 0 5 rfl rfl rfl (isC := [0, 1, 2, 3, 4, 5, 6, 7, 8, 9]) (isR := []) (N := 10) ⟨rfl, by decide +kernel, rfl, by decide +kernel, rfl, trivial⟩ rfl ?_
          refine J_if_eq (pc := 33) (tgt := 49) C 18 rfl rfl (fun c4 => ?_) (fun c4 => ?_)
          · rw [if_pos c4] at h
            exact J_sub [0, 1, 2, 3, 4] rfl (B49 x3_5 x4_5 h)
          · rw [if_neg c4] at h
            refine J_aload_n (pc := 36) C 19 rfl 0 rfl rfl ?_
            refine J_iload (pc := 37) C 20 rfl 4 rfl ?_
            obtain ⟨q10, hq10, h⟩ := bnd h
            refine J_callV (pc := 39) (st2 := []) (st3 := [.int q10]) (ws2 := (wMod G aM (vM 0) (vM 1) (vM 2) (vM 3) (vM 4) (vM 5) (vM 6) (vM 7) (vM 8) (vM 9 0) (vM 10 0) (vM 11 0) (vM 12 0) (vM 13 0))) C 21 rfl (c_X5_needsReader aM vM x4_5 hq10) V_X5_needsReader k468 i_X5_needsReader s_X5_needsReader rfl rfl ⟨Nat.le_of_ble_eq_true rfl, Nat.le_of_ble_eq_true rfl⟩ (Nat.le_of_ble_eq_true rfl) ⟨Nat.le_refl _, Nat.le_refl _⟩ 0 5 rfl rfl rfl (isC := [0, 1, 2, 3, 4, 5, 6, 7, 8, 9]) (isR := []) (N := 10) ⟨rfl, by decide +kernel, rfl, by decide +kernel, rfl, trivial⟩ rfl ?_
            refine J_if_eq (pc := 42) (tgt := 49) C 22 rfl rfl (fun c11 => ?_) (fun c11 => ?_)
            · rw [if_pos c11] at h
              exact J_sub [0, 1, 2, 3, 4] rfl (B49 x3_5 x4_5 h)
            · rw [if_neg c11] at h
              refine J_iconst (pc := 45) (v := (1 : Int32)) C 23 rfl rfl ?_
              refine J_goto (pc := 46) (tgt := 50) C 24 rfl rfl ?_
              exact J_sub [0, 1, 2, 3, 4] rfl (B50 x3_5 x4_5 (1 : Int32) h)
        · rw [if_neg c2] at h
          refine J_aload_n (pc := 17) C 10 rfl 0 rfl rfl ?_
          refine J_iload (pc := 18) C 11 rfl 4 rfl ?_
          refine J_iload_n (pc := 20) C 12 rfl 1 rfl rfl ?_
          obtain ⟨q12, hq12, h⟩ := bnd h
          refine J_callV (pc := 21) (st2 := []) (st3 := [.int q12]) (ws2 := (wMod G aM (vM 0) (vM 1) (vM 2) (vM 3) (vM 4) (vM 5) (vM 6) (vM 7) (vM 8) (vM 9 0) (vM 10 0) (vM 11 0) (vM 12 0) (vM 13 0))) C 13 rfl (c_X5_isIn aM vM x4_5 x1_5 hq12) V_X5_isIn k566 i_X5_isIn s_X5_isIn rfl rfl ⟨Nat.le_of_ble_eq_true rfl, Nat.le_of_ble_eq_true rfl⟩ (Nat.le_of_ble_eq_true rfl) ⟨Nat.le_refl _, Nat.le_refl _⟩ 0 5 rfl rfl rfl (isC := [0, 1, 2, 3, 4, 5, 6, 7, 8, 9]) (isR := []) (N := 10) ⟨rfl, by decide +kernel, rfl, by decide +kernel, rfl, trivial⟩ rfl ?_
          refine J_goto (pc := 24) (tgt := 50) C 14 rfl rfl ?_
          exact J_sub [0, 1, 2, 3, 4] rfl (B50 x3_5 x4_5 q12 h)
  unfold f_X5_atMinute at h
  refine J_iconst (pc := 0) (v := (0 : Int32)) C 0 rfl rfl ?_
  refine J_istore_n (pc := 1) (lv' := [(3, .int (0 : Int32)), (0, .ref (aM 0)), (1, .int x1), (2, .int x2)]) C 1 rfl rfl (by decide) rfl ?_
  refine J_iconst (pc := 2) (v := (0 : Int32)) C 2 rfl rfl ?_
  refine J_istore (pc := 3) (lv' := [(4, .int (0 : Int32)), (3, .int (0 : Int32)), (0, .ref (aM 0)), (1, .int x1), (2, .int x2)]) C 3 rfl (by decide) rfl ?_
  exact J_sub [2, 3, 4, 1, 0] rfl (B5 x1 x2 FU (0 : Int32) (0 : Int32) h)
def T_X5_most : List (Nat × ClassFile.Instr × Nat) := [(0, .aload_n 0, 1), (1, .invokevirtual 97, 3), (4, .iconst 0, 1), (5, .istore_n 2, 1), (6, .iconst 0, 1), (7, .istore_n 3, 1), (8, .iload_n 3, 1), (9, .bipush 96, 2), (11, .if_icmp .ge 46, 3), (14, .aload_n 0, 1), (15, .iload_n 3, 1), (16, .invokevirtual 84, 3), (19, .ifCond .eq 16, 3), (22, .aload_n 0, 1), (23, .iload_n 1, 1), (24, .aload_n 0, 1), (25, .iload_n 3, 1), (26, .invokevirtual 55, 3), (29, .invokevirtual 175, 3), (32, .goto 4, 3), (35, .iconst 0, 1), (36, .istore 4, 2), (38, .iload 4, 2), (40, .iload_n 2, 1), (41, .if_icmp .le 8, 3), (44, .iload 4, 2), (46, .goto 4, 3), (49, .iload_n 2, 1), (50, .istore_n 2, 1), (51, .iinc 3 1, 3), (54, .goto (-46), 3), (57, .iload_n 2, 1), (58, .ireturn, 1)]
theorem D_X5_most : ∀ q ∈ T_X5_most, decode cX5_most q.1 = .ok q.2 := by decide +kernel
theorem V_X5_most : Vy yX5_most cX5_most 5 (some .int) 1 := ⟨k573, k415, by decide +kernel⟩
theorem i_X5_most : Cond.instanceMethod yX5_most ∈ TB := k579
theorem s_X5_most : Cond.selects yX5_most.cls yX5_most yX5_most ∈ TB := k580
noncomputable def f_X5_most_K36  (r8 : JV → Int32 → Int32 → Option (Int32 × JV)) (vM_36 : JV) (x1_8 : Int32) (x2_36 : Int32) (x3_36 : Int32) (y0_36 : Int32) : Option (Int32 × JV) :=
  (if y0_36 ≤ x2_36 then r8 vM_36 x2_36 (x3_36 + (1 : Int32)) else r8 vM_36 y0_36 (x3_36 + (1 : Int32)))
noncomputable def f_X5_most_b8  (x1_8 : Int32) (r8 : JV → Int32 → Int32 → Option (Int32 × JV)) (vM_8 : JV) (x2_8 : Int32) (x3_8 : Int32) : Option (Int32 × JV) :=
  (if (96 : Int32) ≤ x3_8 then some (x2_8, vM_8) else (f_X5_isSitting vM_8 x3_8).bind (fun q3 => (if q3 = 0 then f_X5_most_K36  r8 vM_8 x1_8 x2_8 x3_8 (0 : Int32) else (f_X5_begins vM_8 x3_8).bind (fun q6 => (f_X5_atMinute vM_8 x1_8 q6).bind (fun q7 => f_X5_most_K36  r8 vM_8 x1_8 x2_8 x3_8 q7)))))
noncomputable def f_X5_most_L8  (x1_8 : Int32) (n : Nat) (vM_8 : JV) (x2_8 : Int32) (x3_8 : Int32) : Option (Int32 × JV) :=
  lp (fun (rec : JV × Int32 × Int32 → Option (Int32 × JV)) a => f_X5_most_b8  x1_8 (fun vM_8 x2_8 x3_8 => rec (vM_8, x2_8, x3_8)) a.1 a.2.1 a.2.2) n (vM_8, x2_8, x3_8)
noncomputable def f_X5_most (vM : JV) (x1 : Int32) : Option (Int32 × JV) :=
  (f_X5_seats vM).bind (fun q1 => f_X5_most_L8  x1 FU q1 (0 : Int32) (0 : Int32))
set_option maxRecDepth 100000 in
set_option maxHeartbeats 4000000 in
theorem c_X5_most {l : Launch} {G : JG} (aM : Nat → Nat) (vM : JV) (x1 : Int32) {Rz : Int32 × JV} (h : f_X5_most vM x1 = some Rz) : JM l G yX5_most cX5_most 5 (some .int) 6 133 [.ref (aM 0), .int x1] (wMod G aM (vM 0) (vM 1) (vM 2) (vM 3) (vM 4) (vM 5) (vM 6) (vM 7) (vM 8) (vM 9 0) (vM 10 0) (vM 11 0) (vM 12 0) (vM 13 0)) (wMod G aM ((Rz.2) 0) ((Rz.2) 1) ((Rz.2) 2) ((Rz.2) 3) ((Rz.2) 4) ((Rz.2) 5) ((Rz.2) 6) ((Rz.2) 7) ((Rz.2) 8) ((Rz.2) 9 0) ((Rz.2) 10 0) ((Rz.2) 11 0) ((Rz.2) 12 0) ((Rz.2) 13 0)) (some (.int (Rz.1))) := by
  refine JM.of (own := RX5) (tb := T_X5_most) (by decide) (Nat.le_of_ble_eq_true rfl) D_X5_most rfl (fun X C => ?_)
  refine J_sub (lv' := [(0, .ref (aM 0)), (1, .int x1)]) [0, 1] rfl ?_
  have B8 : ∀ (x1_8 : Int32) (n8 : Nat) (vM_8 : JV) (x2_8 : Int32) (x3_8 : Int32), f_X5_most_L8  x1_8 n8 vM_8 x2_8 x3_8 = some Rz → J l { frames := 6, cells := 0, slots := 0, locals := 133 } G 5 X (QM X G 0 0 (some (.int (Rz.1))) (wMod G aM ((Rz.2) 0) ((Rz.2) 1) ((Rz.2) 2) ((Rz.2) 3) ((Rz.2) 4) ((Rz.2) 5) ((Rz.2) 6) ((Rz.2) 7) ((Rz.2) 8) ((Rz.2) 9 0) ((Rz.2) 10 0) ((Rz.2) 11 0) ((Rz.2) 12 0) ((Rz.2) 13 0))) 0 0 8 [(0, .ref (aM 0)), (1, .int x1_8), (2, .int x2_8), (3, .int x3_8)] [] (wMod G aM (vM_8 0) (vM_8 1) (vM_8 2) (vM_8 3) (vM_8 4) (vM_8 5) (vM_8 6) (vM_8 7) (vM_8 8) (vM_8 9 0) (vM_8 10 0) (vM_8 11 0) (vM_8 12 0) (vM_8 13 0)) := by
    intro x1_8 n8
    induction n8 with
    | zero =>
      intro vM_8 x2_8 x3_8 h
      exact (no_none rfl h).elim
    | succ n8 ih8 =>
      have B36 : ∀ (vM_36 : JV) (x2_36 : Int32) (x3_36 : Int32) (y0_36 : Int32), f_X5_most_K36  (fun vM_8 x2_8 x3_8 => f_X5_most_L8  x1_8 n8 vM_8 x2_8 x3_8) vM_36 x1_8 x2_36 x3_36 y0_36 = some Rz → J l { frames := 6, cells := 0, slots := 0, locals := 133 } G 5 X (QM X G 0 0 (some (.int (Rz.1))) (wMod G aM ((Rz.2) 0) ((Rz.2) 1) ((Rz.2) 2) ((Rz.2) 3) ((Rz.2) 4) ((Rz.2) 5) ((Rz.2) 6) ((Rz.2) 7) ((Rz.2) 8) ((Rz.2) 9 0) ((Rz.2) 10 0) ((Rz.2) 11 0) ((Rz.2) 12 0) ((Rz.2) 13 0))) 0 0 36 [(0, .ref (aM 0)), (1, .int x1_8), (2, .int x2_36), (3, .int x3_36)] [.int y0_36] (wMod G aM (vM_36 0) (vM_36 1) (vM_36 2) (vM_36 3) (vM_36 4) (vM_36 5) (vM_36 6) (vM_36 7) (vM_36 8) (vM_36 9 0) (vM_36 10 0) (vM_36 11 0) (vM_36 12 0) (vM_36 13 0)) := by
        intro vM_36 x2_36 x3_36 y0_36 h
        unfold f_X5_most_K36 at h
        refine J_istore (pc := 36) (lv' := [(4, .int y0_36), (0, .ref (aM 0)), (1, .int x1_8), (2, .int x2_36), (3, .int x3_36)]) C 21 rfl (by decide) rfl ?_
        refine J_iload (pc := 38) C 22 rfl 0 rfl ?_
        refine J_iload_n (pc := 40) C 23 rfl 3 rfl rfl ?_
        refine J_icmp_le (pc := 41) (tgt := 49) C 24 rfl rfl (fun c5 => ?_) (fun c5 => ?_)
        · rw [if_pos c5] at h
          refine J_iload_n (pc := 49) C 27 rfl 3 rfl rfl ?_
          refine J_istore_n (pc := 50) (lv' := [(2, .int x2_36), (4, .int y0_36), (0, .ref (aM 0)), (1, .int x1_8), (3, .int x3_36)]) C 28 rfl rfl (by decide) rfl ?_
          refine J_iinc (pc := 51) (v := (x3_36 + (1 : Int32))) (lv' := [(3, .int (x3_36 + (1 : Int32))), (2, .int x2_36), (4, .int y0_36), (0, .ref (aM 0)), (1, .int x1_8)]) C 29 rfl 4 rfl rfl (by decide) rfl ?_
          refine J_goto (pc := 54) (tgt := 8) C 30 rfl rfl ?_
          exact J_sub [3, 4, 1, 0] rfl (ih8 vM_36 x2_36 (x3_36 + (1 : Int32)) h)
        · rw [if_neg c5] at h
          refine J_iload (pc := 44) C 25 rfl 0 rfl ?_
          refine J_goto (pc := 46) (tgt := 50) C 26 rfl rfl ?_
          refine J_istore_n (pc := 50) (lv' := [(2, .int y0_36), (4, .int y0_36), (0, .ref (aM 0)), (1, .int x1_8), (3, .int x3_36)]) C 28 rfl rfl (by decide) rfl ?_
          refine J_iinc (pc := 51) (v := (x3_36 + (1 : Int32))) (lv' := [(3, .int (x3_36 + (1 : Int32))), (2, .int y0_36), (4, .int y0_36), (0, .ref (aM 0)), (1, .int x1_8)]) C 29 rfl 4 rfl rfl (by decide) rfl ?_
          refine J_goto (pc := 54) (tgt := 8) C 30 rfl rfl ?_
          exact J_sub [3, 4, 1, 0] rfl (ih8 vM_36 y0_36 (x3_36 + (1 : Int32)) h)
      intro vM_8 x2_8 x3_8 h
      replace h : f_X5_most_b8  x1_8 (fun vM_8 x2_8 x3_8 => f_X5_most_L8  x1_8 n8 vM_8 x2_8 x3_8) vM_8 x2_8 x3_8 = some Rz := h
      unfold f_X5_most_b8 at h
      refine J_iload_n (pc := 8) C 6 rfl 3 rfl rfl ?_
      refine J_bipush (pc := 9) (v := (96 : Int32)) C 7 rfl rfl ?_
      refine J_icmp_ge (pc := 11) (tgt := 57) C 8 rfl rfl (fun c2 => ?_) (fun c2 => ?_)
      · rw [if_pos c2] at h
        refine J_iload_n (pc := 57) C 31 rfl 2 rfl rfl ?_
        cases h
        exact J_iret (pc := 58) C 32 rfl
      · rw [if_neg c2] at h
        refine J_aload_n (pc := 14) C 9 rfl 0 rfl rfl ?_
        refine J_iload_n (pc := 15) C 10 rfl 3 rfl rfl ?_
        obtain ⟨q3, hq3, h⟩ := bnd h
        refine J_callV (pc := 16) (st2 := []) (st3 := [.int q3]) (ws2 := (wMod G aM (vM_8 0) (vM_8 1) (vM_8 2) (vM_8 3) (vM_8 4) (vM_8 5) (vM_8 6) (vM_8 7) (vM_8 8) (vM_8 9 0) (vM_8 10 0) (vM_8 11 0) (vM_8 12 0) (vM_8 13 0))) C 11 rfl (c_X5_isSitting aM vM_8 x3_8 hq3) V_X5_isSitting k465 i_X5_isSitting s_X5_isSitting rfl rfl ⟨Nat.le_of_ble_eq_true rfl, Nat.le_of_ble_eq_true rfl⟩ (Nat.le_of_ble_eq_true rfl) ⟨Nat.le_refl _, Nat.le_refl _⟩ 0 5 rfl rfl rfl (isC := [0, 1, 2, 3, 4, 5, 6, 7, 8, 9]) (isR := []) (N := 10) ⟨rfl, by decide +kernel, rfl, by decide +kernel, rfl, trivial⟩ rfl ?_
        refine J_if_eq (pc := 19) (tgt := 35) C 12 rfl rfl (fun c4 => ?_) (fun c4 => ?_)
        · rw [if_pos c4] at h
          refine J_iconst (pc := 35) (v := (0 : Int32)) C 20 rfl rfl ?_
          exact J_sub [0, 1, 2, 3] rfl (B36 vM_8 x2_8 x3_8 (0 : Int32) h)
        · rw [if_neg c4] at h
          refine J_aload_n (pc := 22) C 13 rfl 0 rfl rfl ?_
          refine J_iload_n (pc := 23) C 14 rfl 1 rfl rfl ?_
          refine J_aload_n (pc := 24) C 15 rfl 0 rfl rfl ?_
          refine J_iload_n (pc := 25) C 16 rfl 3 rfl rfl ?_
          obtain ⟨q6, hq6, h⟩ := bnd h
          refine J_callV (pc := 26) (st2 := [.int x1_8, .ref (aM 0)]) (st3 := [.int q6, .int x1_8, .ref (aM 0)]) (ws2 := (wMod G aM (vM_8 0) (vM_8 1) (vM_8 2) (vM_8 3) (vM_8 4) (vM_8 5) (vM_8 6) (vM_8 7) (vM_8 8) (vM_8 9 0) (vM_8 10 0) (vM_8 11 0) (vM_8 12 0) (vM_8 13 0))) C 17 rfl (c_X5_begins aM vM_8 x3_8 hq6) V_X5_begins k430 i_X5_begins s_X5_begins rfl rfl ⟨Nat.le_of_ble_eq_true rfl, Nat.le_of_ble_eq_true rfl⟩ (Nat.le_of_ble_eq_true rfl) ⟨Nat.le_refl _, Nat.le_refl _⟩ 0 5 rfl rfl rfl (isC := [0, 1, 2, 3, 4, 5, 6, 7, 8, 9]) (isR := []) (N := 10) ⟨rfl, by decide +kernel, rfl, by decide +kernel, rfl, trivial⟩ rfl ?_
          obtain ⟨q7, hq7, h⟩ := bnd h
          refine J_callV (pc := 29) (st2 := []) (st3 := [.int q7]) (ws2 := (wMod G aM (vM_8 0) (vM_8 1) (vM_8 2) (vM_8 3) (vM_8 4) (vM_8 5) (vM_8 6) (vM_8 7) (vM_8 8) (vM_8 9 0) (vM_8 10 0) (vM_8 11 0) (vM_8 12 0) (vM_8 13 0))) C 18 rfl (c_X5_atMinute aM vM_8 x1_8 q6 hq7) V_X5_atMinute k570 i_X5_atMinute s_X5_atMinute rfl rfl ⟨Nat.le_of_ble_eq_true rfl, Nat.le_of_ble_eq_true rfl⟩ (Nat.le_of_ble_eq_true rfl) ⟨Nat.le_refl _, Nat.le_refl _⟩ 0 5 rfl rfl rfl (isC := [0, 1, 2, 3, 4, 5, 6, 7, 8, 9]) (isR := []) (N := 10) ⟨rfl, by decide +kernel, rfl, by decide +kernel, rfl, trivial⟩ rfl ?_
          refine J_goto (pc := 32) (tgt := 36) C 19 rfl rfl ?_
          exact J_sub [0, 1, 2, 3] rfl (B36 vM_8 x2_8 x3_8 q7 h)
  unfold f_X5_most at h
  refine J_aload_n (pc := 0) C 0 rfl 0 rfl rfl ?_
  obtain ⟨q1, hq1, h⟩ := bnd h
  refine J_callV (pc := 1) (st2 := []) (st3 := []) (ws2 := (wMod G aM (q1 0) (q1 1) (q1 2) (q1 3) (q1 4) (q1 5) (q1 6) (q1 7) (q1 8) (q1 9 0) (q1 10 0) (q1 11 0) (q1 12 0) (q1 13 0))) C 1 rfl (c_X5_seats aM vM hq1) V_X5_seats k478 i_X5_seats s_X5_seats rfl rfl ⟨Nat.le_of_ble_eq_true rfl, Nat.le_of_ble_eq_true rfl⟩ (Nat.le_of_ble_eq_true rfl) ⟨Nat.le_refl _, Nat.le_refl _⟩ 0 5 rfl rfl rfl (isC := [0, 1, 2, 3, 4, 5, 6, 7, 8, 9]) (isR := []) (N := 10) ⟨rfl, by decide +kernel, rfl, by decide +kernel, rfl, trivial⟩ rfl ?_
  refine J_iconst (pc := 4) (v := (0 : Int32)) C 2 rfl rfl ?_
  refine J_istore_n (pc := 5) (lv' := [(2, .int (0 : Int32)), (0, .ref (aM 0)), (1, .int x1)]) C 3 rfl rfl (by decide) rfl ?_
  refine J_iconst (pc := 6) (v := (0 : Int32)) C 4 rfl rfl ?_
  refine J_istore_n (pc := 7) (lv' := [(3, .int (0 : Int32)), (2, .int (0 : Int32)), (0, .ref (aM 0)), (1, .int x1)]) C 5 rfl rfl (by decide) rfl ?_
  exact J_sub [2, 3, 1, 0] rfl (B8 x1 FU q1 (0 : Int32) (0 : Int32) h)
def T_X5_seatedIn : List (Nat × ClassFile.Instr × Nat) := [(0, .aload_n 0, 1), (1, .invokevirtual 97, 3), (4, .iconst 0, 1), (5, .istore_n 2, 1), (6, .iconst 0, 1), (7, .istore_n 3, 1), (8, .iload_n 3, 1), (9, .bipush 96, 2), (11, .if_icmp .ge 26, 3), (14, .iload_n 2, 1), (15, .aload_n 0, 1), (16, .iload_n 3, 1), (17, .iload_n 1, 1), (18, .invokevirtual 172, 3), (21, .ifCond .eq 7, 3), (24, .iconst 1, 1), (25, .goto 4, 3), (28, .iconst 0, 1), (29, .iadd, 1), (30, .istore_n 2, 1), (31, .iinc 3 1, 3), (34, .goto (-26), 3), (37, .iload_n 2, 1), (38, .ireturn, 1)]
theorem D_X5_seatedIn : ∀ q ∈ T_X5_seatedIn, decode cX5_seatedIn q.1 = .ok q.2 := by decide +kernel
theorem V_X5_seatedIn : Vy yX5_seatedIn cX5_seatedIn 4 (some .int) 1 := ⟨k574, k415, by decide +kernel⟩
theorem i_X5_seatedIn : Cond.instanceMethod yX5_seatedIn ∈ TB := k576
theorem s_X5_seatedIn : Cond.selects yX5_seatedIn.cls yX5_seatedIn yX5_seatedIn ∈ TB := k577
noncomputable def f_X5_seatedIn_b8  (x1_8 : Int32) (r8 : JV → Int32 → Int32 → Option (Int32 × JV)) (vM_8 : JV) (x2_8 : Int32) (x3_8 : Int32) : Option (Int32 × JV) :=
  (if (96 : Int32) ≤ x3_8 then some (x2_8, vM_8) else (f_X5_isIn vM_8 x3_8 x1_8).bind (fun q3 => (if q3 = 0 then r8 vM_8 (x2_8 + (0 : Int32)) (x3_8 + (1 : Int32)) else r8 vM_8 (x2_8 + (1 : Int32)) (x3_8 + (1 : Int32)))))
noncomputable def f_X5_seatedIn_L8  (x1_8 : Int32) (n : Nat) (vM_8 : JV) (x2_8 : Int32) (x3_8 : Int32) : Option (Int32 × JV) :=
  lp (fun (rec : JV × Int32 × Int32 → Option (Int32 × JV)) a => f_X5_seatedIn_b8  x1_8 (fun vM_8 x2_8 x3_8 => rec (vM_8, x2_8, x3_8)) a.1 a.2.1 a.2.2) n (vM_8, x2_8, x3_8)
noncomputable def f_X5_seatedIn (vM : JV) (x1 : Int32) : Option (Int32 × JV) :=
  (f_X5_seats vM).bind (fun q1 => f_X5_seatedIn_L8  x1 FU q1 (0 : Int32) (0 : Int32))
set_option maxRecDepth 100000 in
set_option maxHeartbeats 4000000 in
theorem c_X5_seatedIn {l : Launch} {G : JG} (aM : Nat → Nat) (vM : JV) (x1 : Int32) {Rz : Int32 × JV} (h : f_X5_seatedIn vM x1 = some Rz) : JM l G yX5_seatedIn cX5_seatedIn 4 (some .int) 6 133 [.ref (aM 0), .int x1] (wMod G aM (vM 0) (vM 1) (vM 2) (vM 3) (vM 4) (vM 5) (vM 6) (vM 7) (vM 8) (vM 9 0) (vM 10 0) (vM 11 0) (vM 12 0) (vM 13 0)) (wMod G aM ((Rz.2) 0) ((Rz.2) 1) ((Rz.2) 2) ((Rz.2) 3) ((Rz.2) 4) ((Rz.2) 5) ((Rz.2) 6) ((Rz.2) 7) ((Rz.2) 8) ((Rz.2) 9 0) ((Rz.2) 10 0) ((Rz.2) 11 0) ((Rz.2) 12 0) ((Rz.2) 13 0)) (some (.int (Rz.1))) := by
  refine JM.of (own := RX5) (tb := T_X5_seatedIn) (by decide) (Nat.le_of_ble_eq_true rfl) D_X5_seatedIn rfl (fun X C => ?_)
  refine J_sub (lv' := [(0, .ref (aM 0)), (1, .int x1)]) [0, 1] rfl ?_
  have B8 : ∀ (x1_8 : Int32) (n8 : Nat) (vM_8 : JV) (x2_8 : Int32) (x3_8 : Int32), f_X5_seatedIn_L8  x1_8 n8 vM_8 x2_8 x3_8 = some Rz → J l { frames := 6, cells := 0, slots := 0, locals := 133 } G 4 X (QM X G 0 0 (some (.int (Rz.1))) (wMod G aM ((Rz.2) 0) ((Rz.2) 1) ((Rz.2) 2) ((Rz.2) 3) ((Rz.2) 4) ((Rz.2) 5) ((Rz.2) 6) ((Rz.2) 7) ((Rz.2) 8) ((Rz.2) 9 0) ((Rz.2) 10 0) ((Rz.2) 11 0) ((Rz.2) 12 0) ((Rz.2) 13 0))) 0 0 8 [(0, .ref (aM 0)), (1, .int x1_8), (2, .int x2_8), (3, .int x3_8)] [] (wMod G aM (vM_8 0) (vM_8 1) (vM_8 2) (vM_8 3) (vM_8 4) (vM_8 5) (vM_8 6) (vM_8 7) (vM_8 8) (vM_8 9 0) (vM_8 10 0) (vM_8 11 0) (vM_8 12 0) (vM_8 13 0)) := by
    intro x1_8 n8
    induction n8 with
    | zero =>
      intro vM_8 x2_8 x3_8 h
      exact (no_none rfl h).elim
    | succ n8 ih8 =>
      intro vM_8 x2_8 x3_8 h
      replace h : f_X5_seatedIn_b8  x1_8 (fun vM_8 x2_8 x3_8 => f_X5_seatedIn_L8  x1_8 n8 vM_8 x2_8 x3_8) vM_8 x2_8 x3_8 = some Rz := h
      unfold f_X5_seatedIn_b8 at h
      refine J_iload_n (pc := 8) C 6 rfl 3 rfl rfl ?_
      refine J_bipush (pc := 9) (v := (96 : Int32)) C 7 rfl rfl ?_
      refine J_icmp_ge (pc := 11) (tgt := 37) C 8 rfl rfl (fun c2 => ?_) (fun c2 => ?_)
      · rw [if_pos c2] at h
        refine J_iload_n (pc := 37) C 22 rfl 2 rfl rfl ?_
        cases h
        exact J_iret (pc := 38) C 23 rfl
      · rw [if_neg c2] at h
        refine J_iload_n (pc := 14) C 9 rfl 2 rfl rfl ?_
        refine J_aload_n (pc := 15) C 10 rfl 0 rfl rfl ?_
        refine J_iload_n (pc := 16) C 11 rfl 3 rfl rfl ?_
        refine J_iload_n (pc := 17) C 12 rfl 1 rfl rfl ?_
        obtain ⟨q3, hq3, h⟩ := bnd h
        refine J_callV (pc := 18) (st2 := [.int x2_8]) (st3 := [.int q3, .int x2_8]) (ws2 := (wMod G aM (vM_8 0) (vM_8 1) (vM_8 2) (vM_8 3) (vM_8 4) (vM_8 5) (vM_8 6) (vM_8 7) (vM_8 8) (vM_8 9 0) (vM_8 10 0) (vM_8 11 0) (vM_8 12 0) (vM_8 13 0))) C 13 rfl (c_X5_isIn aM vM_8 x3_8 x1_8 hq3) V_X5_isIn k566 i_X5_isIn s_X5_isIn rfl rfl ⟨Nat.le_of_ble_eq_true rfl, Nat.le_of_ble_eq_true rfl⟩ (Nat.le_of_ble_eq_true rfl) ⟨Nat.le_refl _, Nat.le_refl _⟩ 0 5 rfl rfl rfl (isC := [0, 1, 2, 3, 4, 5, 6, 7, 8, 9]) (isR := []) (N := 10) ⟨rfl, by decide +kernel, rfl, by decide +kernel, rfl, trivial⟩ rfl ?_
        refine J_if_eq (pc := 21) (tgt := 28) C 14 rfl rfl (fun c4 => ?_) (fun c4 => ?_)
        · rw [if_pos c4] at h
          refine J_iconst (pc := 28) (v := (0 : Int32)) C 17 rfl rfl ?_
          refine J_iadd (pc := 29) C 18 rfl  ?_
          refine J_istore_n (pc := 30) (lv' := [(2, .int (x2_8 + (0 : Int32))), (0, .ref (aM 0)), (1, .int x1_8), (3, .int x3_8)]) C 19 rfl rfl (by decide) rfl ?_
          refine J_iinc (pc := 31) (v := (x3_8 + (1 : Int32))) (lv' := [(3, .int (x3_8 + (1 : Int32))), (2, .int (x2_8 + (0 : Int32))), (0, .ref (aM 0)), (1, .int x1_8)]) C 20 rfl 3 rfl rfl (by decide) rfl ?_
          refine J_goto (pc := 34) (tgt := 8) C 21 rfl rfl ?_
          exact J_sub [2, 3, 1, 0] rfl (ih8 vM_8 (x2_8 + (0 : Int32)) (x3_8 + (1 : Int32)) h)
        · rw [if_neg c4] at h
          refine J_iconst (pc := 24) (v := (1 : Int32)) C 15 rfl rfl ?_
          refine J_goto (pc := 25) (tgt := 29) C 16 rfl rfl ?_
          refine J_iadd (pc := 29) C 18 rfl  ?_
          refine J_istore_n (pc := 30) (lv' := [(2, .int (x2_8 + (1 : Int32))), (0, .ref (aM 0)), (1, .int x1_8), (3, .int x3_8)]) C 19 rfl rfl (by decide) rfl ?_
          refine J_iinc (pc := 31) (v := (x3_8 + (1 : Int32))) (lv' := [(3, .int (x3_8 + (1 : Int32))), (2, .int (x2_8 + (1 : Int32))), (0, .ref (aM 0)), (1, .int x1_8)]) C 20 rfl 3 rfl rfl (by decide) rfl ?_
          refine J_goto (pc := 34) (tgt := 8) C 21 rfl rfl ?_
          exact J_sub [2, 3, 1, 0] rfl (ih8 vM_8 (x2_8 + (1 : Int32)) (x3_8 + (1 : Int32)) h)
  unfold f_X5_seatedIn at h
  refine J_aload_n (pc := 0) C 0 rfl 0 rfl rfl ?_
  obtain ⟨q1, hq1, h⟩ := bnd h
  refine J_callV (pc := 1) (st2 := []) (st3 := []) (ws2 := (wMod G aM (q1 0) (q1 1) (q1 2) (q1 3) (q1 4) (q1 5) (q1 6) (q1 7) (q1 8) (q1 9 0) (q1 10 0) (q1 11 0) (q1 12 0) (q1 13 0))) C 1 rfl (c_X5_seats aM vM hq1) V_X5_seats k478 i_X5_seats s_X5_seats rfl rfl ⟨Nat.le_of_ble_eq_true rfl, Nat.le_of_ble_eq_true rfl⟩ (Nat.le_of_ble_eq_true rfl) ⟨Nat.le_refl _, Nat.le_refl _⟩ 0 5 rfl rfl rfl (isC := [0, 1, 2, 3, 4, 5, 6, 7, 8, 9]) (isR := []) (N := 10) ⟨rfl, by decide +kernel, rfl, by decide +kernel, rfl, trivial⟩ rfl ?_
  refine J_iconst (pc := 4) (v := (0 : Int32)) C 2 rfl rfl ?_
  refine J_istore_n (pc := 5) (lv' := [(2, .int (0 : Int32)), (0, .ref (aM 0)), (1, .int x1)]) C 3 rfl rfl (by decide) rfl ?_
  refine J_iconst (pc := 6) (v := (0 : Int32)) C 4 rfl rfl ?_
  refine J_istore_n (pc := 7) (lv' := [(3, .int (0 : Int32)), (2, .int (0 : Int32)), (0, .ref (aM 0)), (1, .int x1)]) C 5 rfl rfl (by decide) rfl ?_
  exact J_sub [2, 3, 1, 0] rfl (B8 x1 FU q1 (0 : Int32) (0 : Int32) h)
def T_X5_hallOf : List (Nat × ClassFile.Instr × Nat) := [(0, .iload_n 1, 1), (1, .invokestatic 122, 3), (4, .ifCond .ne 5, 3), (7, .iconst (-1), 1), (8, .ireturn, 1), (9, .iload_n 2, 1), (10, .tableswitch 58 0 4 #[34, 34, 34, 46, 52], 34), (44, .aload_n 0, 1), (45, .getfield 7, 3), (48, .iload_n 1, 1), (49, .invokestatic 64, 3), (52, .iload_n 2, 1), (53, .iadd, 1), (54, .iaload, 1), (55, .ireturn, 1), (56, .aload_n 0, 1), (57, .iload_n 1, 1), (58, .invokevirtual 178, 3), (61, .ireturn, 1), (62, .aload_n 0, 1), (63, .iload_n 1, 1), (64, .invokevirtual 181, 3), (67, .ireturn, 1), (68, .bipush (-2), 2), (70, .ireturn, 1)]
theorem D_X5_hallOf : ∀ q ∈ T_X5_hallOf, decode cX5_hallOf q.1 = .ok q.2 := by decide +kernel
theorem V_X5_hallOf : Vy yX5_hallOf cX5_hallOf 3 (some .int) 2 := ⟨k581, k415, by decide +kernel⟩
theorem i_X5_hallOf : Cond.instanceMethod yX5_hallOf ∈ TB := k705
theorem s_X5_hallOf : Cond.selects yX5_hallOf.cls yX5_hallOf yX5_hallOf ∈ TB := k706
noncomputable def f_X5_hallOf_K44  (vM_44 : JV) (x1_44 : Int32) (x2_44 : Int32) : Option (Int32 × JV) :=
  (f_X5_h x1_44).bind (fun q4 => gd (inb (q4 + x2_44) 76) (some (((vM_44 0) (Int32.toNatClampNeg (q4 + x2_44))), vM_44)))
noncomputable def f_X5_hallOf (vM : JV) (x1 : Int32) (x2 : Int32) : Option (Int32 × JV) :=
  (f_X5_isHall x1).bind (fun q1 => (if q1 = 0 then some ((-1 : Int32), vM) else (if x2 = (0 : Int32) then f_X5_hallOf_K44  vM x1 x2 else (if x2 = (1 : Int32) then f_X5_hallOf_K44  vM x1 x2 else (if x2 = (2 : Int32) then f_X5_hallOf_K44  vM x1 x2 else (if x2 = (3 : Int32) then (f_X5_seatedIn vM x1).bind (fun q9 => some ((q9.1), (q9.2))) else (if x2 = (4 : Int32) then (f_X5_most vM x1).bind (fun q11 => some ((q11.1), (q11.2))) else some ((-2 : Int32), vM))))))))
set_option maxRecDepth 100000 in
set_option maxHeartbeats 4000000 in
theorem c_X5_hallOf {l : Launch} {G : JG} (aM : Nat → Nat) (vM : JV) (x1 : Int32) (x2 : Int32) {Rz : Int32 × JV} (h : f_X5_hallOf vM x1 x2 = some Rz) : JM l G yX5_hallOf cX5_hallOf 3 (some .int) 7 157 [.ref (aM 0), .int x1, .int x2] (wMod G aM (vM 0) (vM 1) (vM 2) (vM 3) (vM 4) (vM 5) (vM 6) (vM 7) (vM 8) (vM 9 0) (vM 10 0) (vM 11 0) (vM 12 0) (vM 13 0)) (wMod G aM ((Rz.2) 0) ((Rz.2) 1) ((Rz.2) 2) ((Rz.2) 3) ((Rz.2) 4) ((Rz.2) 5) ((Rz.2) 6) ((Rz.2) 7) ((Rz.2) 8) ((Rz.2) 9 0) ((Rz.2) 10 0) ((Rz.2) 11 0) ((Rz.2) 12 0) ((Rz.2) 13 0)) (some (.int (Rz.1))) := by
  refine JM.of (own := RX5) (tb := T_X5_hallOf) (by decide) (Nat.le_of_ble_eq_true rfl) D_X5_hallOf rfl (fun X C => ?_)
  refine J_sub (lv' := [(0, .ref (aM 0)), (1, .int x1), (2, .int x2)]) [0, 1, 2] rfl ?_
  have B44 : ∀ (vM_44 : JV) (x1_44 : Int32) (x2_44 : Int32), f_X5_hallOf_K44  vM_44 x1_44 x2_44 = some Rz → J l { frames := 7, cells := 0, slots := 0, locals := 157 } G 3 X (QM X G 0 0 (some (.int (Rz.1))) (wMod G aM ((Rz.2) 0) ((Rz.2) 1) ((Rz.2) 2) ((Rz.2) 3) ((Rz.2) 4) ((Rz.2) 5) ((Rz.2) 6) ((Rz.2) 7) ((Rz.2) 8) ((Rz.2) 9 0) ((Rz.2) 10 0) ((Rz.2) 11 0) ((Rz.2) 12 0) ((Rz.2) 13 0))) 0 0 44 [(0, .ref (aM 0)), (1, .int x1_44), (2, .int x2_44)] [] (wMod G aM (vM_44 0) (vM_44 1) (vM_44 2) (vM_44 3) (vM_44 4) (vM_44 5) (vM_44 6) (vM_44 7) (vM_44 8) (vM_44 9 0) (vM_44 10 0) (vM_44 11 0) (vM_44 12 0) (vM_44 13 0)) := by
    intro vM_44 x1_44 x2_44 h
    unfold f_X5_hallOf_K44 at h
    refine J_aload_n (pc := 44) C 7 rfl 0 rfl rfl ?_
    refine J_get (pc := 45) (v := .ref (aM 1)) C 8 rfl TB_l5 rfl 0 0 rfl (by decide) k399 rfl rfl ?_
    refine J_iload_n (pc := 48) C 9 rfl 1 rfl rfl ?_
    obtain ⟨q4, hq4, h⟩ := bnd h
    refine J_callS (pc := 49) (st2 := [.ref (aM 1)]) (st3 := [.int q4, .ref (aM 1)]) (ws2 := (wMod G aM (vM_44 0) (vM_44 1) (vM_44 2) (vM_44 3) (vM_44 4) (vM_44 5) (vM_44 6) (vM_44 7) (vM_44 8) (vM_44 9 0) (vM_44 10 0) (vM_44 11 0) (vM_44 12 0) (vM_44 13 0))) C 10 rfl (c_X5_h x1_44 hq4) V_X5_h k444 t_X5_h rfl rfl ⟨Nat.le_of_ble_eq_true rfl, Nat.le_of_ble_eq_true rfl⟩ (Nat.le_of_ble_eq_true rfl) ⟨Nat.le_refl _, Nat.le_refl _⟩ (isC := []) (isR := [0, 1, 2, 3, 4, 5, 6, 7, 8, 9]) (N := 10) ⟨rfl, by decide +kernel, rfl, by decide +kernel, rfl, ⟨⟨_, rfl, rfl⟩, ⟨⟨_, rfl, rfl⟩, ⟨⟨_, rfl, rfl⟩, ⟨⟨_, rfl, rfl⟩, ⟨⟨_, rfl, rfl⟩, ⟨⟨_, rfl, rfl⟩, ⟨⟨_, rfl, rfl⟩, ⟨⟨_, rfl, rfl⟩, ⟨⟨_, rfl, rfl⟩, ⟨⟨_, rfl, rfl⟩, trivial⟩⟩⟩⟩⟩⟩⟩⟩⟩⟩⟩ rfl ?_
    refine J_iload_n (pc := 52) C 11 rfl 2 rfl rfl ?_
    refine J_iadd (pc := 53) C 12 rfl  ?_
    obtain ⟨g5, h⟩ := gd_some h
    refine J_iald (pc := 54) (f := (vM_44 0)) (v := ((vM_44 0) (Int32.toNatClampNeg (q4 + x2_44)))) C 13 rfl 1 rfl g5 rfl ?_
    cases h
    exact J_iret (pc := 55) C 14 rfl
  unfold f_X5_hallOf at h
  refine J_iload_n (pc := 0) C 0 rfl 1 rfl rfl ?_
  obtain ⟨q1, hq1, h⟩ := bnd h
  refine J_callS (pc := 1) (st2 := []) (st3 := [.int q1]) (ws2 := (wMod G aM (vM 0) (vM 1) (vM 2) (vM 3) (vM 4) (vM 5) (vM 6) (vM 7) (vM 8) (vM 9 0) (vM 10 0) (vM 11 0) (vM 12 0) (vM 13 0))) C 1 rfl (c_X5_isHall x1 hq1) V_X5_isHall k511 t_X5_isHall rfl rfl ⟨Nat.le_of_ble_eq_true rfl, Nat.le_of_ble_eq_true rfl⟩ (Nat.le_of_ble_eq_true rfl) ⟨Nat.le_refl _, Nat.le_refl _⟩ (isC := []) (isR := [0, 1, 2, 3, 4, 5, 6, 7, 8, 9]) (N := 10) ⟨rfl, by decide +kernel, rfl, by decide +kernel, rfl, ⟨⟨_, rfl, rfl⟩, ⟨⟨_, rfl, rfl⟩, ⟨⟨_, rfl, rfl⟩, ⟨⟨_, rfl, rfl⟩, ⟨⟨_, rfl, rfl⟩, ⟨⟨_, rfl, rfl⟩, ⟨⟨_, rfl, rfl⟩, ⟨⟨_, rfl, rfl⟩, ⟨⟨_, rfl, rfl⟩, ⟨⟨_, rfl, rfl⟩, trivial⟩⟩⟩⟩⟩⟩⟩⟩⟩⟩⟩ rfl ?_
  refine J_if_ne (pc := 4) (tgt := 9) C 2 rfl rfl (fun c2 => ?_) (fun c2 => ?_)
  · rw [if_neg c2] at h
    refine J_iload_n (pc := 9) C 5 rfl 2 rfl rfl ?_
    by_cases c3 : x2 = (0 : Int32)
    · rw [if_pos c3] at h
      refine J_tabIn (pc := 10) (tgt := 44) C 6 rfl (by rw [c3]; decide) (by rw [c3]; decide) (by rw [c3]; rfl) rfl ?_
      exact J_sub [0, 1, 2] rfl (B44 vM x1 x2 h)
    · rw [if_neg c3] at h
      by_cases c6 : x2 = (1 : Int32)
      · rw [if_pos c6] at h
        refine J_tabIn (pc := 10) (tgt := 44) C 6 rfl (by rw [c6]; decide) (by rw [c6]; decide) (by rw [c6]; rfl) rfl ?_
        exact J_sub [0, 1, 2] rfl (B44 vM x1 x2 h)
      · rw [if_neg c6] at h
        by_cases c7 : x2 = (2 : Int32)
        · rw [if_pos c7] at h
          refine J_tabIn (pc := 10) (tgt := 44) C 6 rfl (by rw [c7]; decide) (by rw [c7]; decide) (by rw [c7]; rfl) rfl ?_
          exact J_sub [0, 1, 2] rfl (B44 vM x1 x2 h)
        · rw [if_neg c7] at h
          by_cases c8 : x2 = (3 : Int32)
          · rw [if_pos c8] at h
            refine J_tabIn (pc := 10) (tgt := 56) C 6 rfl (by rw [c8]; decide) (by rw [c8]; decide) (by rw [c8]; rfl) rfl ?_
            refine J_aload_n (pc := 56) C 15 rfl 0 rfl rfl ?_
            refine J_iload_n (pc := 57) C 16 rfl 1 rfl rfl ?_
            obtain ⟨q9, hq9, h⟩ := bnd h
            refine J_callV (pc := 58) (st2 := []) (st3 := [.int (q9.1)]) (ws2 := (wMod G aM ((q9.2) 0) ((q9.2) 1) ((q9.2) 2) ((q9.2) 3) ((q9.2) 4) ((q9.2) 5) ((q9.2) 6) ((q9.2) 7) ((q9.2) 8) ((q9.2) 9 0) ((q9.2) 10 0) ((q9.2) 11 0) ((q9.2) 12 0) ((q9.2) 13 0))) C 17 rfl (c_X5_seatedIn aM vM x1 hq9) V_X5_seatedIn k575 i_X5_seatedIn s_X5_seatedIn rfl rfl ⟨Nat.le_of_ble_eq_true rfl, Nat.le_of_ble_eq_true rfl⟩ (Nat.le_of_ble_eq_true rfl) ⟨Nat.le_refl _, Nat.le_refl _⟩ 0 5 rfl rfl rfl (isC := [0, 1, 2, 3, 4, 5, 6, 7, 8, 9]) (isR := []) (N := 10) ⟨rfl, by decide +kernel, rfl, by decide +kernel, rfl, trivial⟩ rfl ?_
            cases h
            exact J_iret (pc := 61) C 18 rfl
          · rw [if_neg c8] at h
            by_cases c10 : x2 = (4 : Int32)
            · rw [if_pos c10] at h
              refine J_tabIn (pc := 10) (tgt := 62) C 6 rfl (by rw [c10]; decide) (by rw [c10]; decide) (by rw [c10]; rfl) rfl ?_
              refine J_aload_n (pc := 62) C 19 rfl 0 rfl rfl ?_
              refine J_iload_n (pc := 63) C 20 rfl 1 rfl rfl ?_
              obtain ⟨q11, hq11, h⟩ := bnd h
              refine J_callV (pc := 64) (st2 := []) (st3 := [.int (q11.1)]) (ws2 := (wMod G aM ((q11.2) 0) ((q11.2) 1) ((q11.2) 2) ((q11.2) 3) ((q11.2) 4) ((q11.2) 5) ((q11.2) 6) ((q11.2) 7) ((q11.2) 8) ((q11.2) 9 0) ((q11.2) 10 0) ((q11.2) 11 0) ((q11.2) 12 0) ((q11.2) 13 0))) C 21 rfl (c_X5_most aM vM x1 hq11) V_X5_most k578 i_X5_most s_X5_most rfl rfl ⟨Nat.le_of_ble_eq_true rfl, Nat.le_of_ble_eq_true rfl⟩ (Nat.le_of_ble_eq_true rfl) ⟨Nat.le_refl _, Nat.le_refl _⟩ 0 5 rfl rfl rfl (isC := [0, 1, 2, 3, 4, 5, 6, 7, 8, 9]) (isR := []) (N := 10) ⟨rfl, by decide +kernel, rfl, by decide +kernel, rfl, trivial⟩ rfl ?_
              cases h
              exact J_iret (pc := 67) C 22 rfl
            · rw [if_neg c10] at h
              have ec3 := lv_neT (a := 0) c3 rfl
              have ec6 := lv_neT (a := 1) c6 rfl
              have ec7 := lv_neT (a := 2) c7 rfl
              have ec8 := lv_neT (a := 3) c8 rfl
              have ec10 := lv_neT (a := 4) c10 rfl
              refine J_tabOut (pc := 10) (tgt := 68) C 6 rfl (by omega) rfl ?_
              refine J_bipush (pc := 68) (v := (-2 : Int32)) C 23 rfl rfl ?_
              cases h
              exact J_iret (pc := 70) C 24 rfl
  · rw [if_pos c2] at h
    refine J_iconst (pc := 7) (v := (-1 : Int32)) C 3 rfl rfl ?_
    cases h
    exact J_iret (pc := 8) C 4 rfl
def T_X5_sittings : List (Nat × ClassFile.Instr × Nat) := [(0, .iconst 0, 1), (1, .istore_n 1, 1), (2, .iconst 0, 1), (3, .istore_n 2, 1), (4, .iload_n 2, 1), (5, .bipush 96, 2), (7, .if_icmp .ge 25, 3), (10, .iload_n 1, 1), (11, .aload_n 0, 1), (12, .iload_n 2, 1), (13, .invokevirtual 84, 3), (16, .ifCond .eq 7, 3), (19, .iconst 1, 1), (20, .goto 4, 3), (23, .iconst 0, 1), (24, .iadd, 1), (25, .istore_n 1, 1), (26, .iinc 2 1, 3), (29, .goto (-25), 3), (32, .iload_n 1, 1), (33, .ireturn, 1)]
theorem D_X5_sittings : ∀ q ∈ T_X5_sittings, decode cX5_sittings q.1 = .ok q.2 := by decide +kernel
theorem V_X5_sittings : Vy yX5_sittings cX5_sittings 3 (some .int) 0 := ⟨k582, k415, by decide +kernel⟩
theorem i_X5_sittings : Cond.instanceMethod yX5_sittings ∈ TB := k586
theorem s_X5_sittings : Cond.selects yX5_sittings.cls yX5_sittings yX5_sittings ∈ TB := k587
noncomputable def f_X5_sittings_b4 (vM : JV) (r4 : Int32 → Int32 → Option (Int32)) (x1_4 : Int32) (x2_4 : Int32) : Option (Int32) :=
  (if (96 : Int32) ≤ x2_4 then some x1_4 else (f_X5_isSitting vM x2_4).bind (fun q2 => (if q2 = 0 then r4 (x1_4 + (0 : Int32)) (x2_4 + (1 : Int32)) else r4 (x1_4 + (1 : Int32)) (x2_4 + (1 : Int32)))))
noncomputable def f_X5_sittings_L4 (vM : JV) (n : Nat) (x1_4 : Int32) (x2_4 : Int32) : Option (Int32) :=
  lp (fun (rec : Int32 × Int32 → Option (Int32)) a => f_X5_sittings_b4 vM (fun x1_4 x2_4 => rec (x1_4, x2_4)) a.1 a.2) n (x1_4, x2_4)
noncomputable def f_X5_sittings (vM : JV)  : Option (Int32) :=
  f_X5_sittings_L4 vM  FU (0 : Int32) (0 : Int32)
set_option maxRecDepth 100000 in
set_option maxHeartbeats 4000000 in
theorem c_X5_sittings {l : Launch} {G : JG} (aM : Nat → Nat) (vM : JV)  {Rz : Int32} (h : f_X5_sittings vM = some Rz) : JM l G yX5_sittings cX5_sittings 3 (some .int) 2 41 [.ref (aM 0)] (wMod G aM (vM 0) (vM 1) (vM 2) (vM 3) (vM 4) (vM 5) (vM 6) (vM 7) (vM 8) (vM 9 0) (vM 10 0) (vM 11 0) (vM 12 0) (vM 13 0)) (wMod G aM (vM 0) (vM 1) (vM 2) (vM 3) (vM 4) (vM 5) (vM 6) (vM 7) (vM 8) (vM 9 0) (vM 10 0) (vM 11 0) (vM 12 0) (vM 13 0)) (some (.int Rz)) := by
  refine JM.of (own := RX5) (tb := T_X5_sittings) (by decide) (Nat.le_of_ble_eq_true rfl) D_X5_sittings rfl (fun X C => ?_)
  refine J_sub (lv' := [(0, .ref (aM 0))]) [0] rfl ?_
  have B4 : ∀ (n4 : Nat) (x1_4 : Int32) (x2_4 : Int32), f_X5_sittings_L4 vM n4 x1_4 x2_4 = some Rz → J l { frames := 2, cells := 0, slots := 0, locals := 41 } G 3 X (QM X G 0 0 (some (.int Rz)) (wMod G aM (vM 0) (vM 1) (vM 2) (vM 3) (vM 4) (vM 5) (vM 6) (vM 7) (vM 8) (vM 9 0) (vM 10 0) (vM 11 0) (vM 12 0) (vM 13 0))) 0 0 4 [(0, .ref (aM 0)), (1, .int x1_4), (2, .int x2_4)] [] (wMod G aM (vM 0) (vM 1) (vM 2) (vM 3) (vM 4) (vM 5) (vM 6) (vM 7) (vM 8) (vM 9 0) (vM 10 0) (vM 11 0) (vM 12 0) (vM 13 0)) := by
    intro  n4
    induction n4 with
    | zero =>
      intro x1_4 x2_4 h
      exact (no_none rfl h).elim
    | succ n4 ih4 =>
      intro x1_4 x2_4 h
      replace h : f_X5_sittings_b4 vM (fun x1_4 x2_4 => f_X5_sittings_L4 vM n4 x1_4 x2_4) x1_4 x2_4 = some Rz := h
      unfold f_X5_sittings_b4 at h
      refine J_iload_n (pc := 4) C 4 rfl 2 rfl rfl ?_
      refine J_bipush (pc := 5) (v := (96 : Int32)) C 5 rfl rfl ?_
      refine J_icmp_ge (pc := 7) (tgt := 32) C 6 rfl rfl (fun c1 => ?_) (fun c1 => ?_)
      · rw [if_pos c1] at h
        refine J_iload_n (pc := 32) C 19 rfl 1 rfl rfl ?_
        cases h
        exact J_iret (pc := 33) C 20 rfl
      · rw [if_neg c1] at h
        refine J_iload_n (pc := 10) C 7 rfl 1 rfl rfl ?_
        refine J_aload_n (pc := 11) C 8 rfl 0 rfl rfl ?_
        refine J_iload_n (pc := 12) C 9 rfl 2 rfl rfl ?_
        obtain ⟨q2, hq2, h⟩ := bnd h
        refine J_callV (pc := 13) (st2 := [.int x1_4]) (st3 := [.int q2, .int x1_4]) (ws2 := (wMod G aM (vM 0) (vM 1) (vM 2) (vM 3) (vM 4) (vM 5) (vM 6) (vM 7) (vM 8) (vM 9 0) (vM 10 0) (vM 11 0) (vM 12 0) (vM 13 0))) C 10 rfl (c_X5_isSitting aM vM x2_4 hq2) V_X5_isSitting k465 i_X5_isSitting s_X5_isSitting rfl rfl ⟨Nat.le_of_ble_eq_true rfl, Nat.le_of_ble_eq_true rfl⟩ (Nat.le_of_ble_eq_true rfl) ⟨Nat.le_refl _, Nat.le_refl _⟩ 0 5 rfl rfl rfl (isC := [0, 1, 2, 3, 4, 5, 6, 7, 8, 9]) (isR := []) (N := 10) ⟨rfl, by decide +kernel, rfl, by decide +kernel, rfl, trivial⟩ rfl ?_
        refine J_if_eq (pc := 16) (tgt := 23) C 11 rfl rfl (fun c3 => ?_) (fun c3 => ?_)
        · rw [if_pos c3] at h
          refine J_iconst (pc := 23) (v := (0 : Int32)) C 14 rfl rfl ?_
          refine J_iadd (pc := 24) C 15 rfl  ?_
          refine J_istore_n (pc := 25) (lv' := [(1, .int (x1_4 + (0 : Int32))), (0, .ref (aM 0)), (2, .int x2_4)]) C 16 rfl rfl (by decide) rfl ?_
          refine J_iinc (pc := 26) (v := (x2_4 + (1 : Int32))) (lv' := [(2, .int (x2_4 + (1 : Int32))), (1, .int (x1_4 + (0 : Int32))), (0, .ref (aM 0))]) C 17 rfl 2 rfl rfl (by decide) rfl ?_
          refine J_goto (pc := 29) (tgt := 4) C 18 rfl rfl ?_
          exact J_sub [2, 1, 0] rfl (ih4 (x1_4 + (0 : Int32)) (x2_4 + (1 : Int32)) h)
        · rw [if_neg c3] at h
          refine J_iconst (pc := 19) (v := (1 : Int32)) C 12 rfl rfl ?_
          refine J_goto (pc := 20) (tgt := 24) C 13 rfl rfl ?_
          refine J_iadd (pc := 24) C 15 rfl  ?_
          refine J_istore_n (pc := 25) (lv' := [(1, .int (x1_4 + (1 : Int32))), (0, .ref (aM 0)), (2, .int x2_4)]) C 16 rfl rfl (by decide) rfl ?_
          refine J_iinc (pc := 26) (v := (x2_4 + (1 : Int32))) (lv' := [(2, .int (x2_4 + (1 : Int32))), (1, .int (x1_4 + (1 : Int32))), (0, .ref (aM 0))]) C 17 rfl 2 rfl rfl (by decide) rfl ?_
          refine J_goto (pc := 29) (tgt := 4) C 18 rfl rfl ?_
          exact J_sub [2, 1, 0] rfl (ih4 (x1_4 + (1 : Int32)) (x2_4 + (1 : Int32)) h)
  unfold f_X5_sittings at h
  refine J_iconst (pc := 0) (v := (0 : Int32)) C 0 rfl rfl ?_
  refine J_istore_n (pc := 1) (lv' := [(1, .int (0 : Int32)), (0, .ref (aM 0))]) C 1 rfl rfl (by decide) rfl ?_
  refine J_iconst (pc := 2) (v := (0 : Int32)) C 2 rfl rfl ?_
  refine J_istore_n (pc := 3) (lv' := [(2, .int (0 : Int32)), (1, .int (0 : Int32)), (0, .ref (aM 0))]) C 3 rfl rfl (by decide) rfl ?_
  exact J_sub [2, 1, 0] rfl (B4  FU (0 : Int32) (0 : Int32) h)
def T_X5_openHalls : List (Nat × ClassFile.Instr × Nat) := [(0, .iconst 0, 1), (1, .istore_n 1, 1), (2, .iconst 0, 1), (3, .istore_n 2, 1), (4, .iload_n 2, 1), (5, .iconst 4, 1), (6, .if_icmp .ge 34, 3), (9, .iload_n 1, 1), (10, .aload_n 0, 1), (11, .getfield 7, 3), (14, .iload_n 2, 1), (15, .invokestatic 64, 3), (18, .iconst 2, 1), (19, .iadd, 1), (20, .iaload, 1), (21, .iconst 1, 1), (22, .if_icmp .ne 9, 3), (25, .iconst 1, 1), (26, .iload_n 2, 1), (27, .ishl, 1), (28, .goto 4, 3), (31, .iconst 0, 1), (32, .ior, 1), (33, .istore_n 1, 1), (34, .iinc 2 1, 3), (37, .goto (-33), 3), (40, .iload_n 1, 1), (41, .ireturn, 1)]
theorem D_X5_openHalls : ∀ q ∈ T_X5_openHalls, decode cX5_openHalls q.1 = .ok q.2 := by decide +kernel
theorem V_X5_openHalls : Vy yX5_openHalls cX5_openHalls 3 (some .int) 0 := ⟨k583, k415, by decide +kernel⟩
theorem i_X5_openHalls : Cond.instanceMethod yX5_openHalls ∈ TB := k592
theorem s_X5_openHalls : Cond.selects yX5_openHalls.cls yX5_openHalls yX5_openHalls ∈ TB := k593
noncomputable def f_X5_openHalls_b4 (vM : JV) (r4 : Int32 → Int32 → Option (Int32)) (x1_4 : Int32) (x2_4 : Int32) : Option (Int32) :=
  (if (4 : Int32) ≤ x2_4 then some x1_4 else (f_X5_h x2_4).bind (fun q2 => gd (inb (q2 + (2 : Int32)) 76) ((if ((vM 0) (Int32.toNatClampNeg (q2 + (2 : Int32)))) = (1 : Int32) then r4 (x1_4 ||| ((1 : Int32) <<< (x2_4 &&& 31))) (x2_4 + (1 : Int32)) else r4 (x1_4 ||| (0 : Int32)) (x2_4 + (1 : Int32))))))
noncomputable def f_X5_openHalls_L4 (vM : JV) (n : Nat) (x1_4 : Int32) (x2_4 : Int32) : Option (Int32) :=
  lp (fun (rec : Int32 × Int32 → Option (Int32)) a => f_X5_openHalls_b4 vM (fun x1_4 x2_4 => rec (x1_4, x2_4)) a.1 a.2) n (x1_4, x2_4)
noncomputable def f_X5_openHalls (vM : JV)  : Option (Int32) :=
  f_X5_openHalls_L4 vM  FU (0 : Int32) (0 : Int32)
set_option maxRecDepth 100000 in
set_option maxHeartbeats 4000000 in
theorem c_X5_openHalls {l : Launch} {G : JG} (aM : Nat → Nat) (vM : JV)  {Rz : Int32} (h : f_X5_openHalls vM = some Rz) : JM l G yX5_openHalls cX5_openHalls 3 (some .int) 1 20 [.ref (aM 0)] (wMod G aM (vM 0) (vM 1) (vM 2) (vM 3) (vM 4) (vM 5) (vM 6) (vM 7) (vM 8) (vM 9 0) (vM 10 0) (vM 11 0) (vM 12 0) (vM 13 0)) (wMod G aM (vM 0) (vM 1) (vM 2) (vM 3) (vM 4) (vM 5) (vM 6) (vM 7) (vM 8) (vM 9 0) (vM 10 0) (vM 11 0) (vM 12 0) (vM 13 0)) (some (.int Rz)) := by
  refine JM.of (own := RX5) (tb := T_X5_openHalls) (by decide) (Nat.le_of_ble_eq_true rfl) D_X5_openHalls rfl (fun X C => ?_)
  refine J_sub (lv' := [(0, .ref (aM 0))]) [0] rfl ?_
  have B4 : ∀ (n4 : Nat) (x1_4 : Int32) (x2_4 : Int32), f_X5_openHalls_L4 vM n4 x1_4 x2_4 = some Rz → J l { frames := 1, cells := 0, slots := 0, locals := 20 } G 3 X (QM X G 0 0 (some (.int Rz)) (wMod G aM (vM 0) (vM 1) (vM 2) (vM 3) (vM 4) (vM 5) (vM 6) (vM 7) (vM 8) (vM 9 0) (vM 10 0) (vM 11 0) (vM 12 0) (vM 13 0))) 0 0 4 [(0, .ref (aM 0)), (1, .int x1_4), (2, .int x2_4)] [] (wMod G aM (vM 0) (vM 1) (vM 2) (vM 3) (vM 4) (vM 5) (vM 6) (vM 7) (vM 8) (vM 9 0) (vM 10 0) (vM 11 0) (vM 12 0) (vM 13 0)) := by
    intro  n4
    induction n4 with
    | zero =>
      intro x1_4 x2_4 h
      exact (no_none rfl h).elim
    | succ n4 ih4 =>
      intro x1_4 x2_4 h
      replace h : f_X5_openHalls_b4 vM (fun x1_4 x2_4 => f_X5_openHalls_L4 vM n4 x1_4 x2_4) x1_4 x2_4 = some Rz := h
      unfold f_X5_openHalls_b4 at h
      refine J_iload_n (pc := 4) C 4 rfl 2 rfl rfl ?_
      refine J_iconst (pc := 5) (v := (4 : Int32)) C 5 rfl rfl ?_
      refine J_icmp_ge (pc := 6) (tgt := 40) C 6 rfl rfl (fun c1 => ?_) (fun c1 => ?_)
      · rw [if_pos c1] at h
        refine J_iload_n (pc := 40) C 26 rfl 1 rfl rfl ?_
        cases h
        exact J_iret (pc := 41) C 27 rfl
      · rw [if_neg c1] at h
        refine J_iload_n (pc := 9) C 7 rfl 1 rfl rfl ?_
        refine J_aload_n (pc := 10) C 8 rfl 0 rfl rfl ?_
        refine J_get (pc := 11) (v := .ref (aM 1)) C 9 rfl TB_l5 rfl 0 0 rfl (by decide) k399 rfl rfl ?_
        refine J_iload_n (pc := 14) C 10 rfl 2 rfl rfl ?_
        obtain ⟨q2, hq2, h⟩ := bnd h
        refine J_callS (pc := 15) (st2 := [.ref (aM 1), .int x1_4]) (st3 := [.int q2, .ref (aM 1), .int x1_4]) (ws2 := (wMod G aM (vM 0) (vM 1) (vM 2) (vM 3) (vM 4) (vM 5) (vM 6) (vM 7) (vM 8) (vM 9 0) (vM 10 0) (vM 11 0) (vM 12 0) (vM 13 0))) C 11 rfl (c_X5_h x2_4 hq2) V_X5_h k444 t_X5_h rfl rfl ⟨Nat.le_of_ble_eq_true rfl, Nat.le_of_ble_eq_true rfl⟩ (Nat.le_of_ble_eq_true rfl) ⟨Nat.le_refl _, Nat.le_refl _⟩ (isC := []) (isR := [0, 1, 2, 3, 4, 5, 6, 7, 8, 9]) (N := 10) ⟨rfl, by decide +kernel, rfl, by decide +kernel, rfl, ⟨⟨_, rfl, rfl⟩, ⟨⟨_, rfl, rfl⟩, ⟨⟨_, rfl, rfl⟩, ⟨⟨_, rfl, rfl⟩, ⟨⟨_, rfl, rfl⟩, ⟨⟨_, rfl, rfl⟩, ⟨⟨_, rfl, rfl⟩, ⟨⟨_, rfl, rfl⟩, ⟨⟨_, rfl, rfl⟩, ⟨⟨_, rfl, rfl⟩, trivial⟩⟩⟩⟩⟩⟩⟩⟩⟩⟩⟩ rfl ?_
        refine J_iconst (pc := 18) (v := (2 : Int32)) C 12 rfl rfl ?_
        refine J_iadd (pc := 19) C 13 rfl  ?_
        obtain ⟨g3, h⟩ := gd_some h
        refine J_iald (pc := 20) (f := (vM 0)) (v := ((vM 0) (Int32.toNatClampNeg (q2 + (2 : Int32))))) C 14 rfl 1 rfl g3 rfl ?_
        refine J_iconst (pc := 21) (v := (1 : Int32)) C 15 rfl rfl ?_
        refine J_icmp_ne (pc := 22) (tgt := 31) C 16 rfl rfl (fun c4 => ?_) (fun c4 => ?_)
        · rw [if_neg c4] at h
          refine J_iconst (pc := 31) (v := (0 : Int32)) C 21 rfl rfl ?_
          refine J_ior (pc := 32) C 22 rfl  ?_
          refine J_istore_n (pc := 33) (lv' := [(1, .int (x1_4 ||| (0 : Int32))), (0, .ref (aM 0)), (2, .int x2_4)]) C 23 rfl rfl (by decide) rfl ?_
          refine J_iinc (pc := 34) (v := (x2_4 + (1 : Int32))) (lv' := [(2, .int (x2_4 + (1 : Int32))), (1, .int (x1_4 ||| (0 : Int32))), (0, .ref (aM 0))]) C 24 rfl 2 rfl rfl (by decide) rfl ?_
          refine J_goto (pc := 37) (tgt := 4) C 25 rfl rfl ?_
          exact J_sub [2, 1, 0] rfl (ih4 (x1_4 ||| (0 : Int32)) (x2_4 + (1 : Int32)) h)
        · rw [if_pos c4] at h
          refine J_iconst (pc := 25) (v := (1 : Int32)) C 17 rfl rfl ?_
          refine J_iload_n (pc := 26) C 18 rfl 2 rfl rfl ?_
          refine J_ishl (pc := 27) C 19 rfl  ?_
          refine J_goto (pc := 28) (tgt := 32) C 20 rfl rfl ?_
          refine J_ior (pc := 32) C 22 rfl  ?_
          refine J_istore_n (pc := 33) (lv' := [(1, .int (x1_4 ||| ((1 : Int32) <<< (x2_4 &&& 31)))), (0, .ref (aM 0)), (2, .int x2_4)]) C 23 rfl rfl (by decide) rfl ?_
          refine J_iinc (pc := 34) (v := (x2_4 + (1 : Int32))) (lv' := [(2, .int (x2_4 + (1 : Int32))), (1, .int (x1_4 ||| ((1 : Int32) <<< (x2_4 &&& 31)))), (0, .ref (aM 0))]) C 24 rfl 2 rfl rfl (by decide) rfl ?_
          refine J_goto (pc := 37) (tgt := 4) C 25 rfl rfl ?_
          exact J_sub [2, 1, 0] rfl (ih4 (x1_4 ||| ((1 : Int32) <<< (x2_4 &&& 31))) (x2_4 + (1 : Int32)) h)
  unfold f_X5_openHalls at h
  refine J_iconst (pc := 0) (v := (0 : Int32)) C 0 rfl rfl ?_
  refine J_istore_n (pc := 1) (lv' := [(1, .int (0 : Int32)), (0, .ref (aM 0))]) C 1 rfl rfl (by decide) rfl ?_
  refine J_iconst (pc := 2) (v := (0 : Int32)) C 2 rfl rfl ?_
  refine J_istore_n (pc := 3) (lv' := [(2, .int (0 : Int32)), (1, .int (0 : Int32)), (0, .ref (aM 0))]) C 3 rfl rfl (by decide) rfl ?_
  exact J_sub [2, 1, 0] rfl (B4  FU (0 : Int32) (0 : Int32) h)
def T_X5_desksOf : List (Nat × ClassFile.Instr × Nat) := [(0, .iconst 0, 1), (1, .istore_n 2, 1), (2, .iconst 0, 1), (3, .istore_n 3, 1), (4, .iload_n 3, 1), (5, .iconst 4, 1), (6, .if_icmp .ge 31, 3), (9, .iload_n 2, 1), (10, .aload_n 0, 1), (11, .iload_n 3, 1), (12, .iload_n 1, 1), (13, .iload_n 3, 1), (14, .ishr, 1), (15, .iconst 1, 1), (16, .iand, 1), (17, .iconst 1, 1), (18, .if_icmp .ne 7, 3), (21, .iconst 1, 1), (22, .goto 4, 3), (25, .iconst 0, 1), (26, .invokevirtual 74, 3), (29, .iadd, 1), (30, .istore_n 2, 1), (31, .iinc 3 1, 3), (34, .goto (-30), 3), (37, .iload_n 2, 1), (38, .ireturn, 1)]
theorem D_X5_desksOf : ∀ q ∈ T_X5_desksOf, decode cX5_desksOf q.1 = .ok q.2 := by decide +kernel
theorem V_X5_desksOf : Vy yX5_desksOf cX5_desksOf 4 (some .int) 1 := ⟨k584, k415, by decide +kernel⟩
theorem i_X5_desksOf : Cond.instanceMethod yX5_desksOf ∈ TB := k595
theorem s_X5_desksOf : Cond.selects yX5_desksOf.cls yX5_desksOf yX5_desksOf ∈ TB := k596
noncomputable def f_X5_desksOf_K26 (vM : JV) (r4 : Int32 → Int32 → Option (Int32)) (x1_4 : Int32) (x3_26 : Int32) (y3_26 : Int32) (y2_26 : Int32) (y0_26 : Int32) : Option (Int32) :=
  (f_X5_desksAt vM y2_26 y3_26).bind (fun q3 => r4 (y0_26 + q3) (x3_26 + (1 : Int32)))
noncomputable def f_X5_desksOf_b4 (vM : JV) (x1_4 : Int32) (r4 : Int32 → Int32 → Option (Int32)) (x2_4 : Int32) (x3_4 : Int32) : Option (Int32) :=
  (if (4 : Int32) ≤ x3_4 then some x2_4 else (if ((x1_4 >>> (x3_4 &&& 31)) &&& (1 : Int32)) = (1 : Int32) then f_X5_desksOf_K26 vM r4 x1_4 x3_4 (1 : Int32) x3_4 x2_4 else f_X5_desksOf_K26 vM r4 x1_4 x3_4 (0 : Int32) x3_4 x2_4))
noncomputable def f_X5_desksOf_L4 (vM : JV) (x1_4 : Int32) (n : Nat) (x2_4 : Int32) (x3_4 : Int32) : Option (Int32) :=
  lp (fun (rec : Int32 × Int32 → Option (Int32)) a => f_X5_desksOf_b4 vM x1_4 (fun x2_4 x3_4 => rec (x2_4, x3_4)) a.1 a.2) n (x2_4, x3_4)
noncomputable def f_X5_desksOf (vM : JV) (x1 : Int32) : Option (Int32) :=
  f_X5_desksOf_L4 vM x1 FU (0 : Int32) (0 : Int32)
set_option maxRecDepth 100000 in
set_option maxHeartbeats 4000000 in
theorem c_X5_desksOf {l : Launch} {G : JG} (aM : Nat → Nat) (vM : JV) (x1 : Int32) {Rz : Int32} (h : f_X5_desksOf vM x1 = some Rz) : JM l G yX5_desksOf cX5_desksOf 4 (some .int) 3 63 [.ref (aM 0), .int x1] (wMod G aM (vM 0) (vM 1) (vM 2) (vM 3) (vM 4) (vM 5) (vM 6) (vM 7) (vM 8) (vM 9 0) (vM 10 0) (vM 11 0) (vM 12 0) (vM 13 0)) (wMod G aM (vM 0) (vM 1) (vM 2) (vM 3) (vM 4) (vM 5) (vM 6) (vM 7) (vM 8) (vM 9 0) (vM 10 0) (vM 11 0) (vM 12 0) (vM 13 0)) (some (.int Rz)) := by
  refine JM.of (own := RX5) (tb := T_X5_desksOf) (by decide) (Nat.le_of_ble_eq_true rfl) D_X5_desksOf rfl (fun X C => ?_)
  refine J_sub (lv' := [(0, .ref (aM 0)), (1, .int x1)]) [0, 1] rfl ?_
  have B4 : ∀ (x1_4 : Int32) (n4 : Nat) (x2_4 : Int32) (x3_4 : Int32), f_X5_desksOf_L4 vM x1_4 n4 x2_4 x3_4 = some Rz → J l { frames := 3, cells := 0, slots := 0, locals := 63 } G 4 X (QM X G 0 0 (some (.int Rz)) (wMod G aM (vM 0) (vM 1) (vM 2) (vM 3) (vM 4) (vM 5) (vM 6) (vM 7) (vM 8) (vM 9 0) (vM 10 0) (vM 11 0) (vM 12 0) (vM 13 0))) 0 0 4 [(0, .ref (aM 0)), (1, .int x1_4), (2, .int x2_4), (3, .int x3_4)] [] (wMod G aM (vM 0) (vM 1) (vM 2) (vM 3) (vM 4) (vM 5) (vM 6) (vM 7) (vM 8) (vM 9 0) (vM 10 0) (vM 11 0) (vM 12 0) (vM 13 0)) := by
    intro x1_4 n4
    induction n4 with
    | zero =>
      intro x2_4 x3_4 h
      exact (no_none rfl h).elim
    | succ n4 ih4 =>
      have B26 : ∀ (x3_26 : Int32) (y3_26 : Int32) (y2_26 : Int32) (y0_26 : Int32), f_X5_desksOf_K26 vM (fun x2_4 x3_4 => f_X5_desksOf_L4 vM x1_4 n4 x2_4 x3_4) x1_4 x3_26 y3_26 y2_26 y0_26 = some Rz → J l { frames := 3, cells := 0, slots := 0, locals := 63 } G 4 X (QM X G 0 0 (some (.int Rz)) (wMod G aM (vM 0) (vM 1) (vM 2) (vM 3) (vM 4) (vM 5) (vM 6) (vM 7) (vM 8) (vM 9 0) (vM 10 0) (vM 11 0) (vM 12 0) (vM 13 0))) 0 0 26 [(0, .ref (aM 0)), (1, .int x1_4), (3, .int x3_26)] [.int y3_26, .int y2_26, .ref (aM 0), .int y0_26] (wMod G aM (vM 0) (vM 1) (vM 2) (vM 3) (vM 4) (vM 5) (vM 6) (vM 7) (vM 8) (vM 9 0) (vM 10 0) (vM 11 0) (vM 12 0) (vM 13 0)) := by
        intro x3_26 y3_26 y2_26 y0_26 h
        unfold f_X5_desksOf_K26 at h
        obtain ⟨q3, hq3, h⟩ := bnd h
        refine J_callV (pc := 26) (st2 := [.int y0_26]) (st3 := [.int q3, .int y0_26]) (ws2 := (wMod G aM (vM 0) (vM 1) (vM 2) (vM 3) (vM 4) (vM 5) (vM 6) (vM 7) (vM 8) (vM 9 0) (vM 10 0) (vM 11 0) (vM 12 0) (vM 13 0))) C 20 rfl (c_X5_desksAt aM vM y2_26 y3_26 hq3) V_X5_desksAt k454 i_X5_desksAt s_X5_desksAt rfl rfl ⟨Nat.le_of_ble_eq_true rfl, Nat.le_of_ble_eq_true rfl⟩ (Nat.le_of_ble_eq_true rfl) ⟨Nat.le_refl _, Nat.le_refl _⟩ 0 5 rfl rfl rfl (isC := [0, 1, 2, 3, 4, 5, 6, 7, 8, 9]) (isR := []) (N := 10) ⟨rfl, by decide +kernel, rfl, by decide +kernel, rfl, trivial⟩ rfl ?_
        refine J_iadd (pc := 29) C 21 rfl  ?_
        refine J_istore_n (pc := 30) (lv' := [(2, .int (y0_26 + q3)), (0, .ref (aM 0)), (1, .int x1_4), (3, .int x3_26)]) C 22 rfl rfl (by decide) rfl ?_
        refine J_iinc (pc := 31) (v := (x3_26 + (1 : Int32))) (lv' := [(3, .int (x3_26 + (1 : Int32))), (2, .int (y0_26 + q3)), (0, .ref (aM 0)), (1, .int x1_4)]) C 23 rfl 3 rfl rfl (by decide) rfl ?_
        refine J_goto (pc := 34) (tgt := 4) C 24 rfl rfl ?_
        exact J_sub [2, 3, 1, 0] rfl (ih4 (y0_26 + q3) (x3_26 + (1 : Int32)) h)
      intro x2_4 x3_4 h
      replace h : f_X5_desksOf_b4 vM x1_4 (fun x2_4 x3_4 => f_X5_desksOf_L4 vM x1_4 n4 x2_4 x3_4) x2_4 x3_4 = some Rz := h
      unfold f_X5_desksOf_b4 at h
      refine J_iload_n (pc := 4) C 4 rfl 3 rfl rfl ?_
      refine J_iconst (pc := 5) (v := (4 : Int32)) C 5 rfl rfl ?_
      refine J_icmp_ge (pc := 6) (tgt := 37) C 6 rfl rfl (fun c1 => ?_) (fun c1 => ?_)
      · rw [if_pos c1] at h
        refine J_iload_n (pc := 37) C 25 rfl 2 rfl rfl ?_
        cases h
        exact J_iret (pc := 38) C 26 rfl
      · rw [if_neg c1] at h
        refine J_iload_n (pc := 9) C 7 rfl 2 rfl rfl ?_
        refine J_aload_n (pc := 10) C 8 rfl 0 rfl rfl ?_
        refine J_iload_n (pc := 11) C 9 rfl 3 rfl rfl ?_
        refine J_iload_n (pc := 12) C 10 rfl 1 rfl rfl ?_
        refine J_iload_n (pc := 13) C 11 rfl 3 rfl rfl ?_
        refine J_ishr (pc := 14) C 12 rfl  ?_
        refine J_iconst (pc := 15) (v := (1 : Int32)) C 13 rfl rfl ?_
        refine J_iand (pc := 16) C 14 rfl  ?_
        refine J_iconst (pc := 17) (v := (1 : Int32)) C 15 rfl rfl ?_
        refine J_icmp_ne (pc := 18) (tgt := 25) C 16 rfl rfl (fun c2 => ?_) (fun c2 => ?_)
        · rw [if_neg c2] at h
          refine J_iconst (pc := 25) (v := (0 : Int32)) C 19 rfl rfl ?_
          exact J_sub [0, 1, 3] rfl (B26 x3_4 (0 : Int32) x3_4 x2_4 h)
        · rw [if_pos c2] at h
          refine J_iconst (pc := 21) (v := (1 : Int32)) C 17 rfl rfl ?_
          refine J_goto (pc := 22) (tgt := 26) C 18 rfl rfl ?_
          exact J_sub [0, 1, 3] rfl (B26 x3_4 (1 : Int32) x3_4 x2_4 h)
  unfold f_X5_desksOf at h
  refine J_iconst (pc := 0) (v := (0 : Int32)) C 0 rfl rfl ?_
  refine J_istore_n (pc := 1) (lv' := [(2, .int (0 : Int32)), (0, .ref (aM 0)), (1, .int x1)]) C 1 rfl rfl (by decide) rfl ?_
  refine J_iconst (pc := 2) (v := (0 : Int32)) C 2 rfl rfl ?_
  refine J_istore_n (pc := 3) (lv' := [(3, .int (0 : Int32)), (2, .int (0 : Int32)), (0, .ref (aM 0)), (1, .int x1)]) C 3 rfl rfl (by decide) rfl ?_
  exact J_sub [2, 3, 1, 0] rfl (B4 x1 FU (0 : Int32) (0 : Int32) h)
def T_X5_count : List (Nat × ClassFile.Instr × Nat) := [(0, .iload_n 1, 1), (1, .tableswitch 125 0 12 #[67, 67, 67, 67, 74, 79, 85, 90, 95, 104, 110, 115, 120], 67), (68, .aload_n 0, 1), (69, .getfield 7, 3), (72, .iload_n 1, 1), (73, .iaload, 1), (74, .ireturn, 1), (75, .aload_n 0, 1), (76, .invokevirtual 184, 3), (79, .ireturn, 1), (80, .aload_n 0, 1), (81, .iconst 0, 1), (82, .invokevirtual 125, 3), (85, .ireturn, 1), (86, .aload_n 0, 1), (87, .invokevirtual 187, 3), (90, .ireturn, 1), (91, .aload_n 0, 1), (92, .invokevirtual 190, 3), (95, .ireturn, 1), (96, .aload_n 0, 1), (97, .aload_n 0, 1), (98, .invokevirtual 190, 3), (101, .invokevirtual 193, 3), (104, .ireturn, 1), (105, .aload_n 0, 1), (106, .iconst 4, 1), (107, .invokevirtual 181, 3), (110, .ireturn, 1), (111, .aload_n 0, 1), (112, .invokevirtual 196, 3), (115, .ireturn, 1), (116, .aload_n 0, 1), (117, .getfield 131, 3), (120, .ireturn, 1), (121, .aload_n 0, 1), (122, .getfield 47, 3), (125, .ireturn, 1), (126, .bipush (-2), 2), (128, .ireturn, 1)]
theorem D_X5_count : ∀ q ∈ T_X5_count, decode cX5_count q.1 = .ok q.2 := by decide +kernel
theorem V_X5_count : Vy yX5_count cX5_count 2 (some .int) 1 := ⟨k600, k415, by decide +kernel⟩
theorem i_X5_count : Cond.instanceMethod yX5_count ∈ TB := k711
theorem s_X5_count : Cond.selects yX5_count.cls yX5_count yX5_count ∈ TB := k712
noncomputable def f_X5_count (vM : JV) (x1 : Int32) : Option (Int32 × JV) :=
  (if x1 = (0 : Int32) then gd (inb x1 76) (some (((vM 0) (Int32.toNatClampNeg x1)), vM)) else (if x1 = (1 : Int32) then gd (inb x1 76) (some (((vM 0) (Int32.toNatClampNeg x1)), vM)) else (if x1 = (2 : Int32) then gd (inb x1 76) (some (((vM 0) (Int32.toNatClampNeg x1)), vM)) else (if x1 = (3 : Int32) then gd (inb x1 76) (some (((vM 0) (Int32.toNatClampNeg x1)), vM)) else (if x1 = (4 : Int32) then (f_X5_sittings vM).bind (fun q10 => some (q10, vM)) else (if x1 = (5 : Int32) then (f_X5_without vM (0 : Int32)).bind (fun q12 => some ((q12.1), (q12.2))) else (if x1 = (6 : Int32) then (f_X5_clashes vM).bind (fun q14 => some (q14, vM)) else (if x1 = (7 : Int32) then (f_X5_openHalls vM).bind (fun q16 => some (q16, vM)) else (if x1 = (8 : Int32) then (f_X5_openHalls vM).bind (fun q18 => (f_X5_desksOf vM q18).bind (fun q19 => some (q19, vM))) else (if x1 = (9 : Int32) then (f_X5_most vM (4 : Int32)).bind (fun q21 => some ((q21.1), (q21.2))) else (if x1 = (10 : Int32) then (f_X5_lastEnd vM).bind (fun q23 => some (q23, vM)) else (if x1 = (11 : Int32) then some ((vM 10 0), vM) else (if x1 = (12 : Int32) then some ((vM 11 0), vM) else some ((-2 : Int32), vM))))))))))))))
set_option maxRecDepth 100000 in
set_option maxHeartbeats 4000000 in
theorem c_X5_count {l : Launch} {G : JG} (aM : Nat → Nat) (vM : JV) (x1 : Int32) {Rz : Int32 × JV} (h : f_X5_count vM x1 = some Rz) : JM l G yX5_count cX5_count 2 (some .int) 7 157 [.ref (aM 0), .int x1] (wMod G aM (vM 0) (vM 1) (vM 2) (vM 3) (vM 4) (vM 5) (vM 6) (vM 7) (vM 8) (vM 9 0) (vM 10 0) (vM 11 0) (vM 12 0) (vM 13 0)) (wMod G aM ((Rz.2) 0) ((Rz.2) 1) ((Rz.2) 2) ((Rz.2) 3) ((Rz.2) 4) ((Rz.2) 5) ((Rz.2) 6) ((Rz.2) 7) ((Rz.2) 8) ((Rz.2) 9 0) ((Rz.2) 10 0) ((Rz.2) 11 0) ((Rz.2) 12 0) ((Rz.2) 13 0)) (some (.int (Rz.1))) := by
  refine JM.of (own := RX5) (tb := T_X5_count) (by decide) (Nat.le_of_ble_eq_true rfl) D_X5_count rfl (fun X C => ?_)
  refine J_sub (lv' := [(0, .ref (aM 0)), (1, .int x1)]) [0, 1] rfl ?_
  unfold f_X5_count at h
  refine J_iload_n (pc := 0) C 0 rfl 1 rfl rfl ?_
  by_cases c1 : x1 = (0 : Int32)
  · rw [if_pos c1] at h
    refine J_tabIn (pc := 1) (tgt := 68) C 1 rfl (by rw [c1]; decide) (by rw [c1]; decide) (by rw [c1]; rfl) rfl ?_
    refine J_aload_n (pc := 68) C 2 rfl 0 rfl rfl ?_
    refine J_get (pc := 69) (v := .ref (aM 1)) C 3 rfl TB_l5 rfl 0 0 rfl (by decide) k399 rfl rfl ?_
    refine J_iload_n (pc := 72) C 4 rfl 1 rfl rfl ?_
    obtain ⟨g2, h⟩ := gd_some h
    refine J_iald (pc := 73) (f := (vM 0)) (v := ((vM 0) (Int32.toNatClampNeg x1))) C 5 rfl 1 rfl g2 rfl ?_
    cases h
    exact J_iret (pc := 74) C 6 rfl
  · rw [if_neg c1] at h
    by_cases c3 : x1 = (1 : Int32)
    · rw [if_pos c3] at h
      refine J_tabIn (pc := 1) (tgt := 68) C 1 rfl (by rw [c3]; decide) (by rw [c3]; decide) (by rw [c3]; rfl) rfl ?_
      refine J_aload_n (pc := 68) C 2 rfl 0 rfl rfl ?_
      refine J_get (pc := 69) (v := .ref (aM 1)) C 3 rfl TB_l5 rfl 0 0 rfl (by decide) k399 rfl rfl ?_
      refine J_iload_n (pc := 72) C 4 rfl 1 rfl rfl ?_
      obtain ⟨g4, h⟩ := gd_some h
      refine J_iald (pc := 73) (f := (vM 0)) (v := ((vM 0) (Int32.toNatClampNeg x1))) C 5 rfl 1 rfl g4 rfl ?_
      cases h
      exact J_iret (pc := 74) C 6 rfl
    · rw [if_neg c3] at h
      by_cases c5 : x1 = (2 : Int32)
      · rw [if_pos c5] at h
        refine J_tabIn (pc := 1) (tgt := 68) C 1 rfl (by rw [c5]; decide) (by rw [c5]; decide) (by rw [c5]; rfl) rfl ?_
        refine J_aload_n (pc := 68) C 2 rfl 0 rfl rfl ?_
        refine J_get (pc := 69) (v := .ref (aM 1)) C 3 rfl TB_l5 rfl 0 0 rfl (by decide) k399 rfl rfl ?_
        refine J_iload_n (pc := 72) C 4 rfl 1 rfl rfl ?_
        obtain ⟨g6, h⟩ := gd_some h
        refine J_iald (pc := 73) (f := (vM 0)) (v := ((vM 0) (Int32.toNatClampNeg x1))) C 5 rfl 1 rfl g6 rfl ?_
        cases h
        exact J_iret (pc := 74) C 6 rfl
      · rw [if_neg c5] at h
        by_cases c7 : x1 = (3 : Int32)
        · rw [if_pos c7] at h
          refine J_tabIn (pc := 1) (tgt := 68) C 1 rfl (by rw [c7]; decide) (by rw [c7]; decide) (by rw [c7]; rfl) rfl ?_
          refine J_aload_n (pc := 68) C 2 rfl 0 rfl rfl ?_
          refine J_get (pc := 69) (v := .ref (aM 1)) C 3 rfl TB_l5 rfl 0 0 rfl (by decide) k399 rfl rfl ?_
          refine J_iload_n (pc := 72) C 4 rfl 1 rfl rfl ?_
          obtain ⟨g8, h⟩ := gd_some h
          refine J_iald (pc := 73) (f := (vM 0)) (v := ((vM 0) (Int32.toNatClampNeg x1))) C 5 rfl 1 rfl g8 rfl ?_
          cases h
          exact J_iret (pc := 74) C 6 rfl
        · rw [if_neg c7] at h
          by_cases c9 : x1 = (4 : Int32)
          · rw [if_pos c9] at h
            refine J_tabIn (pc := 1) (tgt := 75) C 1 rfl (by rw [c9]; decide) (by rw [c9]; decide) (by rw [c9]; rfl) rfl ?_
            refine J_aload_n (pc := 75) C 7 rfl 0 rfl rfl ?_
            obtain ⟨q10, hq10, h⟩ := bnd h
            refine J_callV (pc := 76) (st2 := []) (st3 := [.int q10]) (ws2 := (wMod G aM (vM 0) (vM 1) (vM 2) (vM 3) (vM 4) (vM 5) (vM 6) (vM 7) (vM 8) (vM 9 0) (vM 10 0) (vM 11 0) (vM 12 0) (vM 13 0))) C 8 rfl (c_X5_sittings aM vM hq10) V_X5_sittings k585 i_X5_sittings s_X5_sittings rfl rfl ⟨Nat.le_of_ble_eq_true rfl, Nat.le_of_ble_eq_true rfl⟩ (Nat.le_of_ble_eq_true rfl) ⟨Nat.le_refl _, Nat.le_refl _⟩ 0 5 rfl rfl rfl (isC := [0, 1, 2, 3, 4, 5, 6, 7, 8, 9]) (isR := []) (N := 10) ⟨rfl, by decide +kernel, rfl, by decide +kernel, rfl, trivial⟩ rfl ?_
            cases h
            exact J_iret (pc := 79) C 9 rfl
          · rw [if_neg c9] at h
            by_cases c11 : x1 = (5 : Int32)
            · rw [if_pos c11] at h
              refine J_tabIn (pc := 1) (tgt := 80) C 1 rfl (by rw [c11]; decide) (by rw [c11]; decide) (by rw [c11]; rfl) rfl ?_
              refine J_aload_n (pc := 80) C 10 rfl 0 rfl rfl ?_
              refine J_iconst (pc := 81) (v := (0 : Int32)) C 11 rfl rfl ?_
              obtain ⟨q12, hq12, h⟩ := bnd h
              refine J_callV (pc := 82) (st2 := []) (st3 := [.int (q12.1)]) (ws2 := (wMod G aM ((q12.2) 0) ((q12.2) 1) ((q12.2) 2) ((q12.2) 3) ((q12.2) 4) ((q12.2) 5) ((q12.2) 6) ((q12.2) 7) ((q12.2) 8) ((q12.2) 9 0) ((q12.2) 10 0) ((q12.2) 11 0) ((q12.2) 12 0) ((q12.2) 13 0))) C 12 rfl (c_X5_without aM vM (0 : Int32) hq12) V_X5_without k514 i_X5_without s_X5_without rfl rfl ⟨Nat.le_of_ble_eq_true rfl, Nat.le_of_ble_eq_true rfl⟩ (Nat.le_of_ble_eq_true rfl) ⟨Nat.le_refl _, Nat.le_refl _⟩ 0 5 rfl rfl rfl (isC := [0, 1, 2, 3, 4, 5, 6, 7, 8, 9]) (isR := []) (N := 10) ⟨rfl, by decide +kernel, rfl, by decide +kernel, rfl, trivial⟩ rfl ?_
              cases h
              exact J_iret (pc := 85) C 13 rfl
            · rw [if_neg c11] at h
              by_cases c13 : x1 = (6 : Int32)
              · rw [if_pos c13] at h
                refine J_tabIn (pc := 1) (tgt := 86) C 1 rfl (by rw [c13]; decide) (by rw [c13]; decide) (by rw [c13]; rfl) rfl ?_
                refine J_aload_n (pc := 86) C 14 rfl 0 rfl rfl ?_
                obtain ⟨q14, hq14, h⟩ := bnd h
                refine J_callV (pc := 87) (st2 := []) (st3 := [.int q14]) (ws2 := (wMod G aM (vM 0) (vM 1) (vM 2) (vM 3) (vM 4) (vM 5) (vM 6) (vM 7) (vM 8) (vM 9 0) (vM 10 0) (vM 11 0) (vM 12 0) (vM 13 0))) C 15 rfl (c_X5_clashes aM vM hq14) V_X5_clashes k588 i_X5_clashes s_X5_clashes rfl rfl ⟨Nat.le_of_ble_eq_true rfl, Nat.le_of_ble_eq_true rfl⟩ (Nat.le_of_ble_eq_true rfl) ⟨Nat.le_refl _, Nat.le_refl _⟩ 0 5 rfl rfl rfl (isC := [0, 1, 2, 3, 4, 5, 6, 7, 8, 9]) (isR := []) (N := 10) ⟨rfl, by decide +kernel, rfl, by decide +kernel, rfl, trivial⟩ rfl ?_
                cases h
                exact J_iret (pc := 90) C 16 rfl
              · rw [if_neg c13] at h
                by_cases c15 : x1 = (7 : Int32)
                · rw [if_pos c15] at h
                  refine J_tabIn (pc := 1) (tgt := 91) C 1 rfl (by rw [c15]; decide) (by rw [c15]; decide) (by rw [c15]; rfl) rfl ?_
                  refine J_aload_n (pc := 91) C 17 rfl 0 rfl rfl ?_
                  obtain ⟨q16, hq16, h⟩ := bnd h
                  refine J_callV (pc := 92) (st2 := []) (st3 := [.int q16]) (ws2 := (wMod G aM (vM 0) (vM 1) (vM 2) (vM 3) (vM 4) (vM 5) (vM 6) (vM 7) (vM 8) (vM 9 0) (vM 10 0) (vM 11 0) (vM 12 0) (vM 13 0))) C 18 rfl (c_X5_openHalls aM vM hq16) V_X5_openHalls k591 i_X5_openHalls s_X5_openHalls rfl rfl ⟨Nat.le_of_ble_eq_true rfl, Nat.le_of_ble_eq_true rfl⟩ (Nat.le_of_ble_eq_true rfl) ⟨Nat.le_refl _, Nat.le_refl _⟩ 0 5 rfl rfl rfl (isC := [0, 1, 2, 3, 4, 5, 6, 7, 8, 9]) (isR := []) (N := 10) ⟨rfl, by decide +kernel, rfl, by decide +kernel, rfl, trivial⟩ rfl ?_
                  cases h
                  exact J_iret (pc := 95) C 19 rfl
                · rw [if_neg c15] at h
                  by_cases c17 : x1 = (8 : Int32)
                  · rw [if_pos c17] at h
                    refine J_tabIn (pc := 1) (tgt := 96) C 1 rfl (by rw [c17]; decide) (by rw [c17]; decide) (by rw [c17]; rfl) rfl ?_
                    refine J_aload_n (pc := 96) C 20 rfl 0 rfl rfl ?_
                    refine J_aload_n (pc := 97) C 21 rfl 0 rfl rfl ?_
                    obtain ⟨q18, hq18, h⟩ := bnd h
                    refine J_callV (pc := 98) (st2 := [.ref (aM 0)]) (st3 := [.int q18, .ref (aM 0)]) (ws2 := (wMod G aM (vM 0) (vM 1) (vM 2) (vM 3) (vM 4) (vM 5) (vM 6) (vM 7) (vM 8) (vM 9 0) (vM 10 0) (vM 11 0) (vM 12 0) (vM 13 0))) C 22 rfl (c_X5_openHalls aM vM hq18) V_X5_openHalls k591 i_X5_openHalls s_X5_openHalls rfl rfl ⟨Nat.le_of_ble_eq_true rfl, Nat.le_of_ble_eq_true rfl⟩ (Nat.le_of_ble_eq_true rfl) ⟨Nat.le_refl _, Nat.le_refl _⟩ 0 5 rfl rfl rfl (isC := [0, 1, 2, 3, 4, 5, 6, 7, 8, 9]) (isR := []) (N := 10) ⟨rfl, by decide +kernel, rfl, by decide +kernel, rfl, trivial⟩ rfl ?_
                    obtain ⟨q19, hq19, h⟩ := bnd h
                    refine J_callV (pc := 101) (st2 := []) (st3 := [.int q19]) (ws2 := (wMod G aM (vM 0) (vM 1) (vM 2) (vM 3) (vM 4) (vM 5) (vM 6) (vM 7) (vM 8) (vM 9 0) (vM 10 0) (vM 11 0) (vM 12 0) (vM 13 0))) C 23 rfl (c_X5_desksOf aM vM q18 hq19) V_X5_desksOf k594 i_X5_desksOf s_X5_desksOf rfl rfl ⟨Nat.le_of_ble_eq_true rfl, Nat.le_of_ble_eq_true rfl⟩ (Nat.le_of_ble_eq_true rfl) ⟨Nat.le_refl _, Nat.le_refl _⟩ 0 5 rfl rfl rfl (isC := [0, 1, 2, 3, 4, 5, 6, 7, 8, 9]) (isR := []) (N := 10) ⟨rfl, by decide +kernel, rfl, by decide +kernel, rfl, trivial⟩ rfl ?_
                    cases h
                    exact J_iret (pc := 104) C 24 rfl
                  · rw [if_neg c17] at h
                    by_cases c20 : x1 = (9 : Int32)
                    · rw [if_pos c20] at h
                      refine J_tabIn (pc := 1) (tgt := 105) C 1 rfl (by rw [c20]; decide) (by rw [c20]; decide) (by rw [c20]; rfl) rfl ?_
                      refine J_aload_n (pc := 105) C 25 rfl 0 rfl rfl ?_
                      refine J_iconst (pc := 106) (v := (4 : Int32)) C 26 rfl rfl ?_
                      obtain ⟨q21, hq21, h⟩ := bnd h
                      refine J_callV (pc := 107) (st2 := []) (st3 := [.int (q21.1)]) (ws2 := (wMod G aM ((q21.2) 0) ((q21.2) 1) ((q21.2) 2) ((q21.2) 3) ((q21.2) 4) ((q21.2) 5) ((q21.2) 6) ((q21.2) 7) ((q21.2) 8) ((q21.2) 9 0) ((q21.2) 10 0) ((q21.2) 11 0) ((q21.2) 12 0) ((q21.2) 13 0))) C 27 rfl (c_X5_most aM vM (4 : Int32) hq21) V_X5_most k578 i_X5_most s_X5_most rfl rfl ⟨Nat.le_of_ble_eq_true rfl, Nat.le_of_ble_eq_true rfl⟩ (Nat.le_of_ble_eq_true rfl) ⟨Nat.le_refl _, Nat.le_refl _⟩ 0 5 rfl rfl rfl (isC := [0, 1, 2, 3, 4, 5, 6, 7, 8, 9]) (isR := []) (N := 10) ⟨rfl, by decide +kernel, rfl, by decide +kernel, rfl, trivial⟩ rfl ?_
                      cases h
                      exact J_iret (pc := 110) C 28 rfl
                    · rw [if_neg c20] at h
                      by_cases c22 : x1 = (10 : Int32)
                      · rw [if_pos c22] at h
                        refine J_tabIn (pc := 1) (tgt := 111) C 1 rfl (by rw [c22]; decide) (by rw [c22]; decide) (by rw [c22]; rfl) rfl ?_
                        refine J_aload_n (pc := 111) C 29 rfl 0 rfl rfl ?_
                        obtain ⟨q23, hq23, h⟩ := bnd h
                        refine J_callV (pc := 112) (st2 := []) (st3 := [.int q23]) (ws2 := (wMod G aM (vM 0) (vM 1) (vM 2) (vM 3) (vM 4) (vM 5) (vM 6) (vM 7) (vM 8) (vM 9 0) (vM 10 0) (vM 11 0) (vM 12 0) (vM 13 0))) C 30 rfl (c_X5_lastEnd aM vM hq23) V_X5_lastEnd k597 i_X5_lastEnd s_X5_lastEnd rfl rfl ⟨Nat.le_of_ble_eq_true rfl, Nat.le_of_ble_eq_true rfl⟩ (Nat.le_of_ble_eq_true rfl) ⟨Nat.le_refl _, Nat.le_refl _⟩ 0 5 rfl rfl rfl (isC := [0, 1, 2, 3, 4, 5, 6, 7, 8, 9]) (isR := []) (N := 10) ⟨rfl, by decide +kernel, rfl, by decide +kernel, rfl, trivial⟩ rfl ?_
                        cases h
                        exact J_iret (pc := 115) C 31 rfl
                      · rw [if_neg c22] at h
                        by_cases c24 : x1 = (11 : Int32)
                        · rw [if_pos c24] at h
                          refine J_tabIn (pc := 1) (tgt := 116) C 1 rfl (by rw [c24]; decide) (by rw [c24]; decide) (by rw [c24]; rfl) rfl ?_
                          refine J_aload_n (pc := 116) C 32 rfl 0 rfl rfl ?_
                          refine J_get (pc := 117) (v := .int (vM 10 0)) C 33 rfl TB_l5 rfl 0 10 rfl (by decide) k520 rfl rfl ?_
                          cases h
                          exact J_iret (pc := 120) C 34 rfl
                        · rw [if_neg c24] at h
                          by_cases c25 : x1 = (12 : Int32)
                          · rw [if_pos c25] at h
                            refine J_tabIn (pc := 1) (tgt := 121) C 1 rfl (by rw [c25]; decide) (by rw [c25]; decide) (by rw [c25]; rfl) rfl ?_
                            refine J_aload_n (pc := 121) C 35 rfl 0 rfl rfl ?_
                            refine J_get (pc := 122) (v := .int (vM 11 0)) C 36 rfl TB_l5 rfl 0 11 rfl (by decide) k421 rfl rfl ?_
                            cases h
                            exact J_iret (pc := 125) C 37 rfl
                          · rw [if_neg c25] at h
                            have ec1 := lv_neT (a := 0) c1 rfl
                            have ec3 := lv_neT (a := 1) c3 rfl
                            have ec5 := lv_neT (a := 2) c5 rfl
                            have ec7 := lv_neT (a := 3) c7 rfl
                            have ec9 := lv_neT (a := 4) c9 rfl
                            have ec11 := lv_neT (a := 5) c11 rfl
                            have ec13 := lv_neT (a := 6) c13 rfl
                            have ec15 := lv_neT (a := 7) c15 rfl
                            have ec17 := lv_neT (a := 8) c17 rfl
                            have ec20 := lv_neT (a := 9) c20 rfl
                            have ec22 := lv_neT (a := 10) c22 rfl
                            have ec24 := lv_neT (a := 11) c24 rfl
                            have ec25 := lv_neT (a := 12) c25 rfl
                            refine J_tabOut (pc := 1) (tgt := 126) C 1 rfl (by omega) rfl ?_
                            refine J_bipush (pc := 126) (v := (-2 : Int32)) C 38 rfl rfl ?_
                            cases h
                            exact J_iret (pc := 128) C 39 rfl
def T_X5_at : List (Nat × ClassFile.Instr × Nat) := [(0, .iload_n 1, 1), (1, .invokestatic 122, 3), (4, .ifCond .eq 18, 3), (7, .iload_n 2, 1), (8, .iconst 0, 1), (9, .aload_n 0, 1), (10, .iload_n 1, 1), (11, .invokevirtual 71, 3), (14, .iconst 1, 1), (15, .isub, 1), (16, .invokestatic 39, 3), (19, .ifCond .ne 5, 3), (22, .iconst (-1), 1), (23, .ireturn, 1), (24, .iload_n 3, 1), (25, .ifCond .ge 6, 3), (28, .bipush (-2), 2), (30, .ireturn, 1), (31, .aload_n 0, 1), (32, .invokevirtual 97, 3), (35, .bipush (-6), 2), (37, .istore 4, 2), (39, .iconst 0, 1), (40, .istore 5, 2), (42, .iload 5, 2), (44, .bipush 96, 2), (46, .if_icmp .ge 54, 3), (49, .aload_n 0, 1), (50, .getfield 29, 3), (53, .iload 5, 2), (55, .iaload, 1), (56, .bipush 16, 2), (58, .iload_n 1, 1), (59, .imul, 1), (60, .iload_n 2, 1), (61, .iadd, 1), (62, .if_icmp .ne 28, 3), (65, .aload_n 0, 1), (66, .iload 5, 2), (68, .invokevirtual 55, 3), (71, .iload_n 3, 1), (72, .if_icmp .gt 18, 3), (75, .aload_n 0, 1), (76, .iload 5, 2), (78, .invokevirtual 61, 3), (81, .iload_n 3, 1), (82, .if_icmp .le 8, 3), (85, .iload 5, 2), (87, .goto 5, 3), (90, .iload 4, 2), (92, .istore 4, 2), (94, .iinc 5 1, 3), (97, .goto (-55), 3), (100, .iload 4, 2), (102, .ireturn, 1)]
theorem D_X5_at : ∀ q ∈ T_X5_at, decode cX5_at q.1 = .ok q.2 := by decide +kernel
theorem V_X5_at : Vy yX5_at cX5_at 6 (some .int) 3 := ⟨k601, k415, by decide +kernel⟩
theorem i_X5_at : Cond.instanceMethod yX5_at ∈ TB := k717
theorem s_X5_at : Cond.selects yX5_at.cls yX5_at yX5_at ∈ TB := k718
noncomputable def f_X5_at_b42  (x1_42 : Int32) (x2_42 : Int32) (x3_42 : Int32) (r42 : JV → Int32 → Int32 → Option (Int32 × JV)) (vM_42 : JV) (x4_42 : Int32) (x5_42 : Int32) : Option (Int32 × JV) :=
  (if (96 : Int32) ≤ x5_42 then some (x4_42, vM_42) else gd (inb x5_42 96) ((if ((vM_42 6) (Int32.toNatClampNeg x5_42)) = (((16 : Int32) * x1_42) + x2_42) then (f_X5_begins vM_42 x5_42).bind (fun q11 => (if x3_42 < q11 then r42 vM_42 x4_42 (x5_42 + (1 : Int32)) else (f_X5_ends vM_42 x5_42).bind (fun q13 => (if q13 ≤ x3_42 then r42 vM_42 x4_42 (x5_42 + (1 : Int32)) else r42 vM_42 x5_42 (x5_42 + (1 : Int32)))))) else r42 vM_42 x4_42 (x5_42 + (1 : Int32)))))
noncomputable def f_X5_at_L42  (x1_42 : Int32) (x2_42 : Int32) (x3_42 : Int32) (n : Nat) (vM_42 : JV) (x4_42 : Int32) (x5_42 : Int32) : Option (Int32 × JV) :=
  lp (fun (rec : JV × Int32 × Int32 → Option (Int32 × JV)) a => f_X5_at_b42  x1_42 x2_42 x3_42 (fun vM_42 x4_42 x5_42 => rec (vM_42, x4_42, x5_42)) a.1 a.2.1 a.2.2) n (vM_42, x4_42, x5_42)
noncomputable def f_X5_at (vM : JV) (x1 : Int32) (x2 : Int32) (x3 : Int32) : Option (Int32 × JV) :=
  (f_X5_isHall x1).bind (fun q1 => (if q1 = 0 then some ((-1 : Int32), vM) else (f_X5_desks vM x1).bind (fun q3 => (f_X5_in x2 (0 : Int32) (q3 - (1 : Int32))).bind (fun q4 => (if q4 = 0 then some ((-1 : Int32), vM) else (if 0 ≤ x3 then (f_X5_seats vM).bind (fun q7 => f_X5_at_L42  x1 x2 x3 FU q7 (-6 : Int32) (0 : Int32)) else some ((-2 : Int32), vM)))))))
set_option maxRecDepth 100000 in
set_option maxHeartbeats 4000000 in
theorem c_X5_at {l : Launch} {G : JG} (aM : Nat → Nat) (vM : JV) (x1 : Int32) (x2 : Int32) (x3 : Int32) {Rz : Int32 × JV} (h : f_X5_at vM x1 x2 x3 = some Rz) : JM l G yX5_at cX5_at 6 (some .int) 6 133 [.ref (aM 0), .int x1, .int x2, .int x3] (wMod G aM (vM 0) (vM 1) (vM 2) (vM 3) (vM 4) (vM 5) (vM 6) (vM 7) (vM 8) (vM 9 0) (vM 10 0) (vM 11 0) (vM 12 0) (vM 13 0)) (wMod G aM ((Rz.2) 0) ((Rz.2) 1) ((Rz.2) 2) ((Rz.2) 3) ((Rz.2) 4) ((Rz.2) 5) ((Rz.2) 6) ((Rz.2) 7) ((Rz.2) 8) ((Rz.2) 9 0) ((Rz.2) 10 0) ((Rz.2) 11 0) ((Rz.2) 12 0) ((Rz.2) 13 0)) (some (.int (Rz.1))) := by
  refine JM.of (own := RX5) (tb := T_X5_at) (by decide) (Nat.le_of_ble_eq_true rfl) D_X5_at rfl (fun X C => ?_)
  refine J_sub (lv' := [(0, .ref (aM 0)), (1, .int x1), (2, .int x2), (3, .int x3)]) [0, 1, 2, 3] rfl ?_
  have B42 : ∀ (x1_42 : Int32) (x2_42 : Int32) (x3_42 : Int32) (n42 : Nat) (vM_42 : JV) (x4_42 : Int32) (x5_42 : Int32), f_X5_at_L42  x1_42 x2_42 x3_42 n42 vM_42 x4_42 x5_42 = some Rz → J l { frames := 6, cells := 0, slots := 0, locals := 133 } G 6 X (QM X G 0 0 (some (.int (Rz.1))) (wMod G aM ((Rz.2) 0) ((Rz.2) 1) ((Rz.2) 2) ((Rz.2) 3) ((Rz.2) 4) ((Rz.2) 5) ((Rz.2) 6) ((Rz.2) 7) ((Rz.2) 8) ((Rz.2) 9 0) ((Rz.2) 10 0) ((Rz.2) 11 0) ((Rz.2) 12 0) ((Rz.2) 13 0))) 0 0 42 [(0, .ref (aM 0)), (1, .int x1_42), (2, .int x2_42), (3, .int x3_42), (4, .int x4_42), (5, .int x5_42)] [] (wMod G aM (vM_42 0) (vM_42 1) (vM_42 2) (vM_42 3) (vM_42 4) (vM_42 5) (vM_42 6) (vM_42 7) (vM_42 8) (vM_42 9 0) (vM_42 10 0) (vM_42 11 0) (vM_42 12 0) (vM_42 13 0)) := by
    intro x1_42 x2_42 x3_42 n42
    induction n42 with
    | zero =>
      intro vM_42 x4_42 x5_42 h
      exact (no_none rfl h).elim
    | succ n42 ih42 =>
      intro vM_42 x4_42 x5_42 h
      replace h : f_X5_at_b42  x1_42 x2_42 x3_42 (fun vM_42 x4_42 x5_42 => f_X5_at_L42  x1_42 x2_42 x3_42 n42 vM_42 x4_42 x5_42) vM_42 x4_42 x5_42 = some Rz := h
      unfold f_X5_at_b42 at h
      refine J_iload (pc := 42) C 24 rfl 5 rfl ?_
      refine J_bipush (pc := 44) (v := (96 : Int32)) C 25 rfl rfl ?_
      refine J_icmp_ge (pc := 46) (tgt := 100) C 26 rfl rfl (fun c8 => ?_) (fun c8 => ?_)
      · rw [if_pos c8] at h
        refine J_iload (pc := 100) C 53 rfl 4 rfl ?_
        cases h
        exact J_iret (pc := 102) C 54 rfl
      · rw [if_neg c8] at h
        refine J_aload_n (pc := 49) C 27 rfl 0 rfl rfl ?_
        refine J_get (pc := 50) (v := .ref (aM 7)) C 28 rfl TB_l5 rfl 0 6 rfl (by decide) k405 rfl rfl ?_
        refine J_iload (pc := 53) C 29 rfl 5 rfl ?_
        obtain ⟨g9, h⟩ := gd_some h
        refine J_iald (pc := 55) (f := (vM_42 6)) (v := ((vM_42 6) (Int32.toNatClampNeg x5_42))) C 30 rfl 7 rfl g9 rfl ?_
        refine J_bipush (pc := 56) (v := (16 : Int32)) C 31 rfl rfl ?_
        refine J_iload_n (pc := 58) C 32 rfl 1 rfl rfl ?_
        refine J_imul (pc := 59) C 33 rfl  ?_
        refine J_iload_n (pc := 60) C 34 rfl 2 rfl rfl ?_
        refine J_iadd (pc := 61) C 35 rfl  ?_
        refine J_icmp_ne (pc := 62) (tgt := 90) C 36 rfl rfl (fun c10 => ?_) (fun c10 => ?_)
        · rw [if_neg c10] at h
          refine J_iload (pc := 90) C 49 rfl 4 rfl ?_
          refine J_istore (pc := 92) (lv' := [(4, .int x4_42), (0, .ref (aM 0)), (1, .int x1_42), (2, .int x2_42), (3, .int x3_42), (5, .int x5_42)]) C 50 rfl (by decide) rfl ?_
          refine J_iinc (pc := 94) (v := (x5_42 + (1 : Int32))) (lv' := [(5, .int (x5_42 + (1 : Int32))), (4, .int x4_42), (0, .ref (aM 0)), (1, .int x1_42), (2, .int x2_42), (3, .int x3_42)]) C 51 rfl 5 rfl rfl (by decide) rfl ?_
          refine J_goto (pc := 97) (tgt := 42) C 52 rfl rfl ?_
          exact J_sub [2, 3, 4, 5, 1, 0] rfl (ih42 vM_42 x4_42 (x5_42 + (1 : Int32)) h)
        · rw [if_pos c10] at h
          refine J_aload_n (pc := 65) C 37 rfl 0 rfl rfl ?_
          refine J_iload (pc := 66) C 38 rfl 5 rfl ?_
          obtain ⟨q11, hq11, h⟩ := bnd h
          refine J_callV (pc := 68) (st2 := []) (st3 := [.int q11]) (ws2 := (wMod G aM (vM_42 0) (vM_42 1) (vM_42 2) (vM_42 3) (vM_42 4) (vM_42 5) (vM_42 6) (vM_42 7) (vM_42 8) (vM_42 9 0) (vM_42 10 0) (vM_42 11 0) (vM_42 12 0) (vM_42 13 0))) C 39 rfl (c_X5_begins aM vM_42 x5_42 hq11) V_X5_begins k430 i_X5_begins s_X5_begins rfl rfl ⟨Nat.le_of_ble_eq_true rfl, Nat.le_of_ble_eq_true rfl⟩ (Nat.le_of_ble_eq_true rfl) ⟨Nat.le_refl _, Nat.le_refl _⟩ 0 5 rfl rfl rfl (isC := [0, 1, 2, 3, 4, 5, 6, 7, 8, 9]) (isR := []) (N := 10) ⟨rfl, by decide +kernel, rfl, by decide +kernel, rfl, trivial⟩ rfl ?_
          refine J_iload_n (pc := 71) C 40 rfl 3 rfl rfl ?_
          refine J_icmp_gt (pc := 72) (tgt := 90) C 41 rfl rfl (fun c12 => ?_) (fun c12 => ?_)
          · rw [if_pos c12] at h
            refine J_iload (pc := 90) C 49 rfl 4 rfl ?_
            refine J_istore (pc := 92) (lv' := [(4, .int x4_42), (0, .ref (aM 0)), (1, .int x1_42), (2, .int x2_42), (3, .int x3_42), (5, .int x5_42)]) C 50 rfl (by decide) rfl ?_
            refine J_iinc (pc := 94) (v := (x5_42 + (1 : Int32))) (lv' := [(5, .int (x5_42 + (1 : Int32))), (4, .int x4_42), (0, .ref (aM 0)), (1, .int x1_42), (2, .int x2_42), (3, .int x3_42)]) C 51 rfl 5 rfl rfl (by decide) rfl ?_
            refine J_goto (pc := 97) (tgt := 42) C 52 rfl rfl ?_
            exact J_sub [2, 3, 4, 5, 1, 0] rfl (ih42 vM_42 x4_42 (x5_42 + (1 : Int32)) h)
          · rw [if_neg c12] at h
            refine J_aload_n (pc := 75) C 42 rfl 0 rfl rfl ?_
            refine J_iload (pc := 76) C 43 rfl 5 rfl ?_
            obtain ⟨q13, hq13, h⟩ := bnd h
            refine J_callV (pc := 78) (st2 := []) (st3 := [.int q13]) (ws2 := (wMod G aM (vM_42 0) (vM_42 1) (vM_42 2) (vM_42 3) (vM_42 4) (vM_42 5) (vM_42 6) (vM_42 7) (vM_42 8) (vM_42 9 0) (vM_42 10 0) (vM_42 11 0) (vM_42 12 0) (vM_42 13 0))) C 44 rfl (c_X5_ends aM vM_42 x5_42 hq13) V_X5_ends k438 i_X5_ends s_X5_ends rfl rfl ⟨Nat.le_of_ble_eq_true rfl, Nat.le_of_ble_eq_true rfl⟩ (Nat.le_of_ble_eq_true rfl) ⟨Nat.le_refl _, Nat.le_refl _⟩ 0 5 rfl rfl rfl (isC := [0, 1, 2, 3, 4, 5, 6, 7, 8, 9]) (isR := []) (N := 10) ⟨rfl, by decide +kernel, rfl, by decide +kernel, rfl, trivial⟩ rfl ?_
            refine J_iload_n (pc := 81) C 45 rfl 3 rfl rfl ?_
            refine J_icmp_le (pc := 82) (tgt := 90) C 46 rfl rfl (fun c14 => ?_) (fun c14 => ?_)
            · rw [if_pos c14] at h
              refine J_iload (pc := 90) C 49 rfl 4 rfl ?_
              refine J_istore (pc := 92) (lv' := [(4, .int x4_42), (0, .ref (aM 0)), (1, .int x1_42), (2, .int x2_42), (3, .int x3_42), (5, .int x5_42)]) C 50 rfl (by decide) rfl ?_
              refine J_iinc (pc := 94) (v := (x5_42 + (1 : Int32))) (lv' := [(5, .int (x5_42 + (1 : Int32))), (4, .int x4_42), (0, .ref (aM 0)), (1, .int x1_42), (2, .int x2_42), (3, .int x3_42)]) C 51 rfl 5 rfl rfl (by decide) rfl ?_
              refine J_goto (pc := 97) (tgt := 42) C 52 rfl rfl ?_
              exact J_sub [2, 3, 4, 5, 1, 0] rfl (ih42 vM_42 x4_42 (x5_42 + (1 : Int32)) h)
            · rw [if_neg c14] at h
              refine J_iload (pc := 85) C 47 rfl 5 rfl ?_
              refine J_goto (pc := 87) (tgt := 92) C 48 rfl rfl ?_
              refine J_istore (pc := 92) (lv' := [(4, .int x5_42), (0, .ref (aM 0)), (1, .int x1_42), (2, .int x2_42), (3, .int x3_42), (5, .int x5_42)]) C 50 rfl (by decide) rfl ?_
              refine J_iinc (pc := 94) (v := (x5_42 + (1 : Int32))) (lv' := [(5, .int (x5_42 + (1 : Int32))), (4, .int x5_42), (0, .ref (aM 0)), (1, .int x1_42), (2, .int x2_42), (3, .int x3_42)]) C 51 rfl 5 rfl rfl (by decide) rfl ?_
              refine J_goto (pc := 97) (tgt := 42) C 52 rfl rfl ?_
              exact J_sub [2, 3, 4, 5, 1, 0] rfl (ih42 vM_42 x5_42 (x5_42 + (1 : Int32)) h)
  unfold f_X5_at at h
  refine J_iload_n (pc := 0) C 0 rfl 1 rfl rfl ?_
  obtain ⟨q1, hq1, h⟩ := bnd h
  refine J_callS (pc := 1) (st2 := []) (st3 := [.int q1]) (ws2 := (wMod G aM (vM 0) (vM 1) (vM 2) (vM 3) (vM 4) (vM 5) (vM 6) (vM 7) (vM 8) (vM 9 0) (vM 10 0) (vM 11 0) (vM 12 0) (vM 13 0))) C 1 rfl (c_X5_isHall x1 hq1) V_X5_isHall k511 t_X5_isHall rfl rfl ⟨Nat.le_of_ble_eq_true rfl, Nat.le_of_ble_eq_true rfl⟩ (Nat.le_of_ble_eq_true rfl) ⟨Nat.le_refl _, Nat.le_refl _⟩ (isC := []) (isR := [0, 1, 2, 3, 4, 5, 6, 7, 8, 9]) (N := 10) ⟨rfl, by decide +kernel, rfl, by decide +kernel, rfl, ⟨⟨_, rfl, rfl⟩, ⟨⟨_, rfl, rfl⟩, ⟨⟨_, rfl, rfl⟩, ⟨⟨_, rfl, rfl⟩, ⟨⟨_, rfl, rfl⟩, ⟨⟨_, rfl, rfl⟩, ⟨⟨_, rfl, rfl⟩, ⟨⟨_, rfl, rfl⟩, ⟨⟨_, rfl, rfl⟩, ⟨⟨_, rfl, rfl⟩, trivial⟩⟩⟩⟩⟩⟩⟩⟩⟩⟩⟩ rfl ?_
  refine J_if_eq (pc := 4) (tgt := 22) C 2 rfl rfl (fun c2 => ?_) (fun c2 => ?_)
  · rw [if_pos c2] at h
    refine J_iconst (pc := 22) (v := (-1 : Int32)) C 12 rfl rfl ?_
    cases h
    exact J_iret (pc := 23) C 13 rfl
  · rw [if_neg c2] at h
    refine J_iload_n (pc := 7) C 3 rfl 2 rfl rfl ?_
    refine J_iconst (pc := 8) (v := (0 : Int32)) C 4 rfl rfl ?_
    refine J_aload_n (pc := 9) C 5 rfl 0 rfl rfl ?_
    refine J_iload_n (pc := 10) C 6 rfl 1 rfl rfl ?_
    obtain ⟨q3, hq3, h⟩ := bnd h
    refine J_callV (pc := 11) (st2 := [.int (0 : Int32), .int x2]) (st3 := [.int q3, .int (0 : Int32), .int x2]) (ws2 := (wMod G aM (vM 0) (vM 1) (vM 2) (vM 3) (vM 4) (vM 5) (vM 6) (vM 7) (vM 8) (vM 9 0) (vM 10 0) (vM 11 0) (vM 12 0) (vM 13 0))) C 7 rfl (c_X5_desks aM vM x1 hq3) V_X5_desks k451 i_X5_desks s_X5_desks rfl rfl ⟨Nat.le_of_ble_eq_true rfl, Nat.le_of_ble_eq_true rfl⟩ (Nat.le_of_ble_eq_true rfl) ⟨Nat.le_refl _, Nat.le_refl _⟩ 0 5 rfl rfl rfl (isC := [0, 1, 2, 3, 4, 5, 6, 7, 8, 9]) (isR := []) (N := 10) ⟨rfl, by decide +kernel, rfl, by decide +kernel, rfl, trivial⟩ rfl ?_
    refine J_iconst (pc := 14) (v := (1 : Int32)) C 8 rfl rfl ?_
    refine J_isub (pc := 15) C 9 rfl  ?_
    obtain ⟨q4, hq4, h⟩ := bnd h
    refine J_callS (pc := 16) (st2 := []) (st3 := [.int q4]) (ws2 := (wMod G aM (vM 0) (vM 1) (vM 2) (vM 3) (vM 4) (vM 5) (vM 6) (vM 7) (vM 8) (vM 9 0) (vM 10 0) (vM 11 0) (vM 12 0) (vM 13 0))) C 10 rfl (c_X5_in x2 (0 : Int32) (q3 - (1 : Int32)) hq4) V_X5_in k413 t_X5_in rfl rfl ⟨Nat.le_of_ble_eq_true rfl, Nat.le_of_ble_eq_true rfl⟩ (Nat.le_of_ble_eq_true rfl) ⟨Nat.le_refl _, Nat.le_refl _⟩ (isC := []) (isR := [0, 1, 2, 3, 4, 5, 6, 7, 8, 9]) (N := 10) ⟨rfl, by decide +kernel, rfl, by decide +kernel, rfl, ⟨⟨_, rfl, rfl⟩, ⟨⟨_, rfl, rfl⟩, ⟨⟨_, rfl, rfl⟩, ⟨⟨_, rfl, rfl⟩, ⟨⟨_, rfl, rfl⟩, ⟨⟨_, rfl, rfl⟩, ⟨⟨_, rfl, rfl⟩, ⟨⟨_, rfl, rfl⟩, ⟨⟨_, rfl, rfl⟩, ⟨⟨_, rfl, rfl⟩, trivial⟩⟩⟩⟩⟩⟩⟩⟩⟩⟩⟩ rfl ?_
    refine J_if_ne (pc := 19) (tgt := 24) C 11 rfl rfl (fun c5 => ?_) (fun c5 => ?_)
    · rw [if_neg c5] at h
      refine J_iload_n (pc := 24) C 14 rfl 3 rfl rfl ?_
      refine J_if_ge (pc := 25) (tgt := 31) C 15 rfl rfl (fun c6 => ?_) (fun c6 => ?_)
      · rw [if_pos c6] at h
        refine J_aload_n (pc := 31) C 18 rfl 0 rfl rfl ?_
        obtain ⟨q7, hq7, h⟩ := bnd h
        refine J_callV (pc := 32) (st2 := []) (st3 := []) (ws2 := (wMod G aM (q7 0) (q7 1) (q7 2) (q7 3) (q7 4) (q7 5) (q7 6) (q7 7) (q7 8) (q7 9 0) (q7 10 0) (q7 11 0) (q7 12 0) (q7 13 0))) C 19 rfl (c_X5_seats aM vM hq7) V_X5_seats k478 i_X5_seats s_X5_seats rfl rfl ⟨Nat.le_of_ble_eq_true rfl, Nat.le_of_ble_eq_true rfl⟩ (Nat.le_of_ble_eq_true rfl) ⟨Nat.le_refl _, Nat.le_refl _⟩ 0 5 rfl rfl rfl (isC := [0, 1, 2, 3, 4, 5, 6, 7, 8, 9]) (isR := []) (N := 10) ⟨rfl, by decide +kernel, rfl, by decide +kernel, rfl, trivial⟩ rfl ?_
        refine J_bipush (pc := 35) (v := (-6 : Int32)) C 20 rfl rfl ?_
        refine J_istore (pc := 37) (lv' := [(4, .int (-6 : Int32)), (0, .ref (aM 0)), (1, .int x1), (2, .int x2), (3, .int x3)]) C 21 rfl (by decide) rfl ?_
        refine J_iconst (pc := 39) (v := (0 : Int32)) C 22 rfl rfl ?_
        refine J_istore (pc := 40) (lv' := [(5, .int (0 : Int32)), (4, .int (-6 : Int32)), (0, .ref (aM 0)), (1, .int x1), (2, .int x2), (3, .int x3)]) C 23 rfl (by decide) rfl ?_
        exact J_sub [2, 3, 4, 5, 1, 0] rfl (B42 x1 x2 x3 FU q7 (-6 : Int32) (0 : Int32) h)
      · rw [if_neg c6] at h
        refine J_bipush (pc := 28) (v := (-2 : Int32)) C 16 rfl rfl ?_
        cases h
        exact J_iret (pc := 30) C 17 rfl
    · rw [if_pos c5] at h
      refine J_iconst (pc := 22) (v := (-1 : Int32)) C 12 rfl rfl ?_
      cases h
      exact J_iret (pc := 23) C 13 rfl
def T_X5_ifStart : List (Nat × ClassFile.Instr × Nat) := [(0, .iload_n 1, 1), (1, .invokestatic 112, 3), (4, .ifCond .ne 5, 3), (7, .iconst (-1), 1), (8, .ireturn, 1), (9, .iload_n 2, 1), (10, .iconst 0, 1), (11, .bipush 19, 2), (13, .invokestatic 39, 3), (16, .ifCond .eq 12, 3), (19, .iload_n 3, 1), (20, .iconst 0, 1), (21, .iconst 2, 1), (22, .invokestatic 39, 3), (25, .ifCond .ne 6, 3), (28, .bipush (-2), 2), (30, .ireturn, 1), (31, .aload_n 0, 1), (32, .getfield 7, 3), (35, .iconst 4, 1), (36, .iconst 2, 1), (37, .iload_n 1, 1), (38, .imul, 1), (39, .iadd, 1), (40, .iaload, 1), (41, .istore 4, 2), (43, .aload_n 0, 1), (44, .getfield 7, 3), (47, .iconst 4, 1), (48, .iconst 2, 1), (49, .iload_n 1, 1), (50, .imul, 1), (51, .iadd, 1), (52, .iload_n 2, 1), (53, .iastore, 1), (54, .aload_n 0, 1), (55, .iconst 0, 1), (56, .putfield 43, 3), (59, .iload_n 3, 1), (60, .ifCond .ne 10, 3), (63, .aload_n 0, 1), (64, .invokevirtual 187, 3), (67, .goto 20, 3), (70, .iload_n 3, 1), (71, .iconst 1, 1), (72, .if_icmp .ne 11, 3), (75, .aload_n 0, 1), (76, .iconst 0, 1), (77, .invokevirtual 125, 3), (80, .goto 7, 3), (83, .aload_n 0, 1), (84, .invokevirtual 196, 3), (87, .istore 5, 2), (89, .aload_n 0, 1), (90, .getfield 7, 3), (93, .iconst 4, 1), (94, .iconst 2, 1), (95, .iload_n 1, 1), (96, .imul, 1), (97, .iadd, 1), (98, .iload 4, 2), (100, .iastore, 1), (101, .aload_n 0, 1), (102, .iconst 0, 1), (103, .putfield 43, 3), (106, .iload 5, 2), (108, .ireturn, 1)]
theorem D_X5_ifStart : ∀ q ∈ T_X5_ifStart, decode cX5_ifStart q.1 = .ok q.2 := by decide +kernel
theorem V_X5_ifStart : Vy yX5_ifStart cX5_ifStart 6 (some .int) 3 := ⟨k602, k415, by decide +kernel⟩
theorem i_X5_ifStart : Cond.instanceMethod yX5_ifStart ∈ TB := k605
theorem s_X5_ifStart : Cond.selects yX5_ifStart.cls yX5_ifStart yX5_ifStart ∈ TB := k606
noncomputable def f_X5_ifStart_K87  (vM_87 : JV) (x1_87 : Int32) (x4_87 : Int32) (y0_87 : Int32) : Option (Int32 × JV) :=
  gd (inb ((4 : Int32) + ((2 : Int32) * x1_87)) 76) (some (y0_87, (up2 (up2 vM_87 0 (Int32.toNatClampNeg ((4 : Int32) + ((2 : Int32) * x1_87))) x4_87) 9 0 (0 : Int32))))
noncomputable def f_X5_ifStart (vM : JV) (x1 : Int32) (x2 : Int32) (x3 : Int32) : Option (Int32 × JV) :=
  (f_X5_isPaper x1).bind (fun q1 => (if q1 = 0 then some ((-1 : Int32), vM) else (f_X5_in x2 (0 : Int32) (19 : Int32)).bind (fun q3 => (if q3 = 0 then some ((-2 : Int32), vM) else (f_X5_in x3 (0 : Int32) (2 : Int32)).bind (fun q5 => (if q5 = 0 then some ((-2 : Int32), vM) else gd (inb ((4 : Int32) + ((2 : Int32) * x1)) 76) (gd (inb ((4 : Int32) + ((2 : Int32) * x1)) 76) ((if x3 = 0 then (f_X5_clashes (up2 (up2 vM 0 (Int32.toNatClampNeg ((4 : Int32) + ((2 : Int32) * x1))) x2) 9 0 (0 : Int32))).bind (fun q14 => f_X5_ifStart_K87  (up2 (up2 vM 0 (Int32.toNatClampNeg ((4 : Int32) + ((2 : Int32) * x1))) x2) 9 0 (0 : Int32)) x1 ((vM 0) (Int32.toNatClampNeg ((4 : Int32) + ((2 : Int32) * x1)))) q14) else (if x3 = (1 : Int32) then (f_X5_without (up2 (up2 vM 0 (Int32.toNatClampNeg ((4 : Int32) + ((2 : Int32) * x1))) x2) 9 0 (0 : Int32)) (0 : Int32)).bind (fun q13 => f_X5_ifStart_K87  (q13.2) x1 ((vM 0) (Int32.toNatClampNeg ((4 : Int32) + ((2 : Int32) * x1)))) (q13.1)) else (f_X5_lastEnd (up2 (up2 vM 0 (Int32.toNatClampNeg ((4 : Int32) + ((2 : Int32) * x1))) x2) 9 0 (0 : Int32))).bind (fun q11 => f_X5_ifStart_K87  (up2 (up2 vM 0 (Int32.toNatClampNeg ((4 : Int32) + ((2 : Int32) * x1))) x2) 9 0 (0 : Int32)) x1 ((vM 0) (Int32.toNatClampNeg ((4 : Int32) + ((2 : Int32) * x1)))) q11)))))))))))
set_option maxRecDepth 100000 in
set_option maxHeartbeats 4000000 in
theorem c_X5_ifStart {l : Launch} {G : JG} (aM : Nat → Nat) (vM : JV) (x1 : Int32) (x2 : Int32) (x3 : Int32) {Rz : Int32 × JV} (h : f_X5_ifStart vM x1 x2 x3 = some Rz) : JM l G yX5_ifStart cX5_ifStart 6 (some .int) 7 156 [.ref (aM 0), .int x1, .int x2, .int x3] (wMod G aM (vM 0) (vM 1) (vM 2) (vM 3) (vM 4) (vM 5) (vM 6) (vM 7) (vM 8) (vM 9 0) (vM 10 0) (vM 11 0) (vM 12 0) (vM 13 0)) (wMod G aM ((Rz.2) 0) ((Rz.2) 1) ((Rz.2) 2) ((Rz.2) 3) ((Rz.2) 4) ((Rz.2) 5) ((Rz.2) 6) ((Rz.2) 7) ((Rz.2) 8) ((Rz.2) 9 0) ((Rz.2) 10 0) ((Rz.2) 11 0) ((Rz.2) 12 0) ((Rz.2) 13 0)) (some (.int (Rz.1))) := by
  refine JM.of (own := RX5) (tb := T_X5_ifStart) (by decide) (Nat.le_of_ble_eq_true rfl) D_X5_ifStart rfl (fun X C => ?_)
  refine J_sub (lv' := [(0, .ref (aM 0)), (1, .int x1), (2, .int x2), (3, .int x3)]) [0, 1, 2, 3] rfl ?_
  have B87 : ∀ (vM_87 : JV) (x1_87 : Int32) (x4_87 : Int32) (y0_87 : Int32), f_X5_ifStart_K87  vM_87 x1_87 x4_87 y0_87 = some Rz → J l { frames := 7, cells := 0, slots := 0, locals := 156 } G 6 X (QM X G 0 0 (some (.int (Rz.1))) (wMod G aM ((Rz.2) 0) ((Rz.2) 1) ((Rz.2) 2) ((Rz.2) 3) ((Rz.2) 4) ((Rz.2) 5) ((Rz.2) 6) ((Rz.2) 7) ((Rz.2) 8) ((Rz.2) 9 0) ((Rz.2) 10 0) ((Rz.2) 11 0) ((Rz.2) 12 0) ((Rz.2) 13 0))) 0 0 87 [(0, .ref (aM 0)), (1, .int x1_87), (4, .int x4_87)] [.int y0_87] (wMod G aM (vM_87 0) (vM_87 1) (vM_87 2) (vM_87 3) (vM_87 4) (vM_87 5) (vM_87 6) (vM_87 7) (vM_87 8) (vM_87 9 0) (vM_87 10 0) (vM_87 11 0) (vM_87 12 0) (vM_87 13 0)) := by
    intro vM_87 x1_87 x4_87 y0_87 h
    unfold f_X5_ifStart_K87 at h
    refine J_istore (pc := 87) (lv' := [(5, .int y0_87), (0, .ref (aM 0)), (1, .int x1_87), (4, .int x4_87)]) C 52 rfl (by decide) rfl ?_
    refine J_aload_n (pc := 89) C 53 rfl 1 rfl rfl ?_
    refine J_get (pc := 90) (v := .ref (aM 1)) C 54 rfl TB_l5 rfl 0 0 rfl (by decide) k399 rfl rfl ?_
    refine J_iconst (pc := 93) (v := (4 : Int32)) C 55 rfl rfl ?_
    refine J_iconst (pc := 94) (v := (2 : Int32)) C 56 rfl rfl ?_
    refine J_iload_n (pc := 95) C 57 rfl 2 rfl rfl ?_
    refine J_imul (pc := 96) C 58 rfl  ?_
    refine J_iadd (pc := 97) C 59 rfl  ?_
    refine J_iload (pc := 98) C 60 rfl 3 rfl ?_
    obtain ⟨g12, h⟩ := gd_some h
    refine J_iast (pc := 100) (f := (vM_87 0)) (m := (Int32.toNatClampNeg ((4 : Int32) + ((2 : Int32) * x1_87)))) C 61 (fun mm vv => (wMod G aM (upd (vM_87 0) mm vv) (vM_87 1) (vM_87 2) (vM_87 3) (vM_87 4) (vM_87 5) (vM_87 6) (vM_87 7) (vM_87 8) (vM_87 9 0) (vM_87 10 0) (vM_87 11 0) (vM_87 12 0) (vM_87 13 0))) rfl 1 rfl g12 rfl (fun _ _ => rfl) ?_
    refine J_aload_n (pc := 101) C 62 rfl 1 rfl rfl ?_
    refine J_iconst (pc := 102) (v := (0 : Int32)) C 63 rfl rfl ?_
    refine J_putz (pc := 103) C 64 (fun vv => (wMod G aM (upd (vM_87 0) (Int32.toNatClampNeg ((4 : Int32) + ((2 : Int32) * x1_87))) x4_87) (vM_87 1) (vM_87 2) (vM_87 3) (vM_87 4) (vM_87 5) (vM_87 6) (vM_87 7) (vM_87 8) vv (vM_87 10 0) (vM_87 11 0) (vM_87 12 0) (vM_87 13 0))) rfl rfl TB_l5 tyX5 tyX5_ok nmX5 rfl 0 9 rfl (by decide) k419 rfl rfl rfl (Nat.le_of_ble_eq_true rfl) (fun _ => rfl) ?_
    refine J_iload (pc := 106) C 65 rfl 0 rfl ?_
    cases h
    exact J_iret (pc := 108) C 66 rfl
  unfold f_X5_ifStart at h
  refine J_iload_n (pc := 0) C 0 rfl 1 rfl rfl ?_
  obtain ⟨q1, hq1, h⟩ := bnd h
  refine J_callS (pc := 1) (st2 := []) (st3 := [.int q1]) (ws2 := (wMod G aM (vM 0) (vM 1) (vM 2) (vM 3) (vM 4) (vM 5) (vM 6) (vM 7) (vM 8) (vM 9 0) (vM 10 0) (vM 11 0) (vM 12 0) (vM 13 0))) C 1 rfl (c_X5_isPaper x1 hq1) V_X5_isPaper k499 t_X5_isPaper rfl rfl ⟨Nat.le_of_ble_eq_true rfl, Nat.le_of_ble_eq_true rfl⟩ (Nat.le_of_ble_eq_true rfl) ⟨Nat.le_refl _, Nat.le_refl _⟩ (isC := []) (isR := [0, 1, 2, 3, 4, 5, 6, 7, 8, 9]) (N := 10) ⟨rfl, by decide +kernel, rfl, by decide +kernel, rfl, ⟨⟨_, rfl, rfl⟩, ⟨⟨_, rfl, rfl⟩, ⟨⟨_, rfl, rfl⟩, ⟨⟨_, rfl, rfl⟩, ⟨⟨_, rfl, rfl⟩, ⟨⟨_, rfl, rfl⟩, ⟨⟨_, rfl, rfl⟩, ⟨⟨_, rfl, rfl⟩, ⟨⟨_, rfl, rfl⟩, ⟨⟨_, rfl, rfl⟩, trivial⟩⟩⟩⟩⟩⟩⟩⟩⟩⟩⟩ rfl ?_
  refine J_if_ne (pc := 4) (tgt := 9) C 2 rfl rfl (fun c2 => ?_) (fun c2 => ?_)
  · rw [if_neg c2] at h
    refine J_iload_n (pc := 9) C 5 rfl 2 rfl rfl ?_
    refine J_iconst (pc := 10) (v := (0 : Int32)) C 6 rfl rfl ?_
    refine J_bipush (pc := 11) (v := (19 : Int32)) C 7 rfl rfl ?_
    obtain ⟨q3, hq3, h⟩ := bnd h
    refine J_callS (pc := 13) (st2 := []) (st3 := [.int q3]) (ws2 := (wMod G aM (vM 0) (vM 1) (vM 2) (vM 3) (vM 4) (vM 5) (vM 6) (vM 7) (vM 8) (vM 9 0) (vM 10 0) (vM 11 0) (vM 12 0) (vM 13 0))) C 8 rfl (c_X5_in x2 (0 : Int32) (19 : Int32) hq3) V_X5_in k413 t_X5_in rfl rfl ⟨Nat.le_of_ble_eq_true rfl, Nat.le_of_ble_eq_true rfl⟩ (Nat.le_of_ble_eq_true rfl) ⟨Nat.le_refl _, Nat.le_refl _⟩ (isC := []) (isR := [0, 1, 2, 3, 4, 5, 6, 7, 8, 9]) (N := 10) ⟨rfl, by decide +kernel, rfl, by decide +kernel, rfl, ⟨⟨_, rfl, rfl⟩, ⟨⟨_, rfl, rfl⟩, ⟨⟨_, rfl, rfl⟩, ⟨⟨_, rfl, rfl⟩, ⟨⟨_, rfl, rfl⟩, ⟨⟨_, rfl, rfl⟩, ⟨⟨_, rfl, rfl⟩, ⟨⟨_, rfl, rfl⟩, ⟨⟨_, rfl, rfl⟩, ⟨⟨_, rfl, rfl⟩, trivial⟩⟩⟩⟩⟩⟩⟩⟩⟩⟩⟩ rfl ?_
    refine J_if_eq (pc := 16) (tgt := 28) C 9 rfl rfl (fun c4 => ?_) (fun c4 => ?_)
    · rw [if_pos c4] at h
      refine J_bipush (pc := 28) (v := (-2 : Int32)) C 15 rfl rfl ?_
      cases h
      exact J_iret (pc := 30) C 16 rfl
    · rw [if_neg c4] at h
      refine J_iload_n (pc := 19) C 10 rfl 3 rfl rfl ?_
      refine J_iconst (pc := 20) (v := (0 : Int32)) C 11 rfl rfl ?_
      refine J_iconst (pc := 21) (v := (2 : Int32)) C 12 rfl rfl ?_
      obtain ⟨q5, hq5, h⟩ := bnd h
      refine J_callS (pc := 22) (st2 := []) (st3 := [.int q5]) (ws2 := (wMod G aM (vM 0) (vM 1) (vM 2) (vM 3) (vM 4) (vM 5) (vM 6) (vM 7) (vM 8) (vM 9 0) (vM 10 0) (vM 11 0) (vM 12 0) (vM 13 0))) C 13 rfl (c_X5_in x3 (0 : Int32) (2 : Int32) hq5) V_X5_in k413 t_X5_in rfl rfl ⟨Nat.le_of_ble_eq_true rfl, Nat.le_of_ble_eq_true rfl⟩ (Nat.le_of_ble_eq_true rfl) ⟨Nat.le_refl _, Nat.le_refl _⟩ (isC := []) (isR := [0, 1, 2, 3, 4, 5, 6, 7, 8, 9]) (N := 10) ⟨rfl, by decide +kernel, rfl, by decide +kernel, rfl, ⟨⟨_, rfl, rfl⟩, ⟨⟨_, rfl, rfl⟩, ⟨⟨_, rfl, rfl⟩, ⟨⟨_, rfl, rfl⟩, ⟨⟨_, rfl, rfl⟩, ⟨⟨_, rfl, rfl⟩, ⟨⟨_, rfl, rfl⟩, ⟨⟨_, rfl, rfl⟩, ⟨⟨_, rfl, rfl⟩, ⟨⟨_, rfl, rfl⟩, trivial⟩⟩⟩⟩⟩⟩⟩⟩⟩⟩⟩ rfl ?_
      refine J_if_ne (pc := 25) (tgt := 31) C 14 rfl rfl (fun c6 => ?_) (fun c6 => ?_)
      · rw [if_neg c6] at h
        refine J_aload_n (pc := 31) C 17 rfl 0 rfl rfl ?_
        refine J_get (pc := 32) (v := .ref (aM 1)) C 18 rfl TB_l5 rfl 0 0 rfl (by decide) k399 rfl rfl ?_
        refine J_iconst (pc := 35) (v := (4 : Int32)) C 19 rfl rfl ?_
        refine J_iconst (pc := 36) (v := (2 : Int32)) C 20 rfl rfl ?_
        refine J_iload_n (pc := 37) C 21 rfl 1 rfl rfl ?_
        refine J_imul (pc := 38) C 22 rfl  ?_
        refine J_iadd (pc := 39) C 23 rfl  ?_
        obtain ⟨g7, h⟩ := gd_some h
        refine J_iald (pc := 40) (f := (vM 0)) (v := ((vM 0) (Int32.toNatClampNeg ((4 : Int32) + ((2 : Int32) * x1))))) C 24 rfl 1 rfl g7 rfl ?_
        refine J_istore (pc := 41) (lv' := [(4, .int ((vM 0) (Int32.toNatClampNeg ((4 : Int32) + ((2 : Int32) * x1))))), (0, .ref (aM 0)), (1, .int x1), (2, .int x2), (3, .int x3)]) C 25 rfl (by decide) rfl ?_
        refine J_aload_n (pc := 43) C 26 rfl 1 rfl rfl ?_
        refine J_get (pc := 44) (v := .ref (aM 1)) C 27 rfl TB_l5 rfl 0 0 rfl (by decide) k399 rfl rfl ?_
        refine J_iconst (pc := 47) (v := (4 : Int32)) C 28 rfl rfl ?_
        refine J_iconst (pc := 48) (v := (2 : Int32)) C 29 rfl rfl ?_
        refine J_iload_n (pc := 49) C 30 rfl 2 rfl rfl ?_
        refine J_imul (pc := 50) C 31 rfl  ?_
        refine J_iadd (pc := 51) C 32 rfl  ?_
        refine J_iload_n (pc := 52) C 33 rfl 3 rfl rfl ?_
        obtain ⟨g8, h⟩ := gd_some h
        refine J_iast (pc := 53) (f := (vM 0)) (m := (Int32.toNatClampNeg ((4 : Int32) + ((2 : Int32) * x1)))) C 34 (fun mm vv => (wMod G aM (upd (vM 0) mm vv) (vM 1) (vM 2) (vM 3) (vM 4) (vM 5) (vM 6) (vM 7) (vM 8) (vM 9 0) (vM 10 0) (vM 11 0) (vM 12 0) (vM 13 0))) rfl 1 rfl g8 rfl (fun _ _ => rfl) ?_
        refine J_aload_n (pc := 54) C 35 rfl 1 rfl rfl ?_
        refine J_iconst (pc := 55) (v := (0 : Int32)) C 36 rfl rfl ?_
        refine J_putz (pc := 56) C 37 (fun vv => (wMod G aM (upd (vM 0) (Int32.toNatClampNeg ((4 : Int32) + ((2 : Int32) * x1))) x2) (vM 1) (vM 2) (vM 3) (vM 4) (vM 5) (vM 6) (vM 7) (vM 8) vv (vM 10 0) (vM 11 0) (vM 12 0) (vM 13 0))) rfl rfl TB_l5 tyX5 tyX5_ok nmX5 rfl 0 9 rfl (by decide) k419 rfl rfl rfl (Nat.le_of_ble_eq_true rfl) (fun _ => rfl) ?_
        refine J_iload_n (pc := 59) C 38 rfl 4 rfl rfl ?_
        refine J_if_ne (pc := 60) (tgt := 70) C 39 rfl rfl (fun c9 => ?_) (fun c9 => ?_)
        · rw [if_neg c9] at h
          refine J_iload_n (pc := 70) C 43 rfl 4 rfl rfl ?_
          refine J_iconst (pc := 71) (v := (1 : Int32)) C 44 rfl rfl ?_
          refine J_icmp_ne (pc := 72) (tgt := 83) C 45 rfl rfl (fun c10 => ?_) (fun c10 => ?_)
          · rw [if_neg c10] at h
            refine J_aload_n (pc := 83) C 50 rfl 1 rfl rfl ?_
            obtain ⟨q11, hq11, h⟩ := bnd h
            refine J_callV (pc := 84) (st2 := []) (st3 := [.int q11]) (ws2 := (wMod G aM (upd (vM 0) (Int32.toNatClampNeg ((4 : Int32) + ((2 : Int32) * x1))) x2) (vM 1) (vM 2) (vM 3) (vM 4) (vM 5) (vM 6) (vM 7) (vM 8) (0 : Int32) (vM 10 0) (vM 11 0) (vM 12 0) (vM 13 0))) C 51 rfl (c_X5_lastEnd aM (up2 (up2 vM 0 (Int32.toNatClampNeg ((4 : Int32) + ((2 : Int32) * x1))) x2) 9 0 (0 : Int32)) hq11) V_X5_lastEnd k597 i_X5_lastEnd s_X5_lastEnd rfl rfl ⟨Nat.le_of_ble_eq_true rfl, Nat.le_of_ble_eq_true rfl⟩ (Nat.le_of_ble_eq_true rfl) ⟨Nat.le_refl _, Nat.le_refl _⟩ 0 5 rfl rfl rfl (isC := [0, 1, 2, 3, 4, 5, 6, 7, 8, 9]) (isR := []) (N := 10) ⟨rfl, by decide +kernel, rfl, by decide +kernel, rfl, trivial⟩ rfl ?_
            exact J_sub [1, 2, 0] rfl (B87 (up2 (up2 vM 0 (Int32.toNatClampNeg ((4 : Int32) + ((2 : Int32) * x1))) x2) 9 0 (0 : Int32)) x1 ((vM 0) (Int32.toNatClampNeg ((4 : Int32) + ((2 : Int32) * x1)))) q11 h)
          · rw [if_pos c10] at h
            refine J_aload_n (pc := 75) C 46 rfl 1 rfl rfl ?_
            refine J_iconst (pc := 76) (v := (0 : Int32)) C 47 rfl rfl ?_
            obtain ⟨q13, hq13, h⟩ := bnd h
            refine J_callV (pc := 77) (st2 := []) (st3 := [.int (q13.1)]) (ws2 := (wMod G aM ((q13.2) 0) ((q13.2) 1) ((q13.2) 2) ((q13.2) 3) ((q13.2) 4) ((q13.2) 5) ((q13.2) 6) ((q13.2) 7) ((q13.2) 8) ((q13.2) 9 0) ((q13.2) 10 0) ((q13.2) 11 0) ((q13.2) 12 0) ((q13.2) 13 0))) C 48 rfl (c_X5_without aM (up2 (up2 vM 0 (Int32.toNatClampNeg ((4 : Int32) + ((2 : Int32) * x1))) x2) 9 0 (0 : Int32)) (0 : Int32) hq13) V_X5_without k514 i_X5_without s_X5_without rfl rfl ⟨Nat.le_of_ble_eq_true rfl, Nat.le_of_ble_eq_true rfl⟩ (Nat.le_of_ble_eq_true rfl) ⟨Nat.le_refl _, Nat.le_refl _⟩ 0 5 rfl rfl rfl (isC := [0, 1, 2, 3, 4, 5, 6, 7, 8, 9]) (isR := []) (N := 10) ⟨rfl, by decide +kernel, rfl, by decide +kernel, rfl, trivial⟩ rfl ?_
            refine J_goto (pc := 80) (tgt := 87) C 49 rfl rfl ?_
            exact J_sub [1, 2, 0] rfl (B87 (q13.2) x1 ((vM 0) (Int32.toNatClampNeg ((4 : Int32) + ((2 : Int32) * x1)))) (q13.1) h)
        · rw [if_pos c9] at h
          refine J_aload_n (pc := 63) C 40 rfl 1 rfl rfl ?_
          obtain ⟨q14, hq14, h⟩ := bnd h
          refine J_callV (pc := 64) (st2 := []) (st3 := [.int q14]) (ws2 := (wMod G aM (upd (vM 0) (Int32.toNatClampNeg ((4 : Int32) + ((2 : Int32) * x1))) x2) (vM 1) (vM 2) (vM 3) (vM 4) (vM 5) (vM 6) (vM 7) (vM 8) (0 : Int32) (vM 10 0) (vM 11 0) (vM 12 0) (vM 13 0))) C 41 rfl (c_X5_clashes aM (up2 (up2 vM 0 (Int32.toNatClampNeg ((4 : Int32) + ((2 : Int32) * x1))) x2) 9 0 (0 : Int32)) hq14) V_X5_clashes k588 i_X5_clashes s_X5_clashes rfl rfl ⟨Nat.le_of_ble_eq_true rfl, Nat.le_of_ble_eq_true rfl⟩ (Nat.le_of_ble_eq_true rfl) ⟨Nat.le_refl _, Nat.le_refl _⟩ 0 5 rfl rfl rfl (isC := [0, 1, 2, 3, 4, 5, 6, 7, 8, 9]) (isR := []) (N := 10) ⟨rfl, by decide +kernel, rfl, by decide +kernel, rfl, trivial⟩ rfl ?_
          refine J_goto (pc := 67) (tgt := 87) C 42 rfl rfl ?_
          exact J_sub [1, 2, 0] rfl (B87 (up2 (up2 vM 0 (Int32.toNatClampNeg ((4 : Int32) + ((2 : Int32) * x1))) x2) 9 0 (0 : Int32)) x1 ((vM 0) (Int32.toNatClampNeg ((4 : Int32) + ((2 : Int32) * x1)))) q14 h)
      · rw [if_pos c6] at h
        refine J_bipush (pc := 28) (v := (-2 : Int32)) C 15 rfl rfl ?_
        cases h
        exact J_iret (pc := 30) C 16 rfl
  · rw [if_pos c2] at h
    refine J_iconst (pc := 7) (v := (-1 : Int32)) C 3 rfl rfl ?_
    cases h
    exact J_iret (pc := 8) C 4 rfl
def T_X5_bestStart : List (Nat × ClassFile.Instr × Nat) := [(0, .iload_n 1, 1), (1, .invokestatic 112, 3), (4, .ifCond .ne 5, 3), (7, .iconst (-1), 1), (8, .ireturn, 1), (9, .iconst 0, 1), (10, .istore_n 2, 1), (11, .ldc 199, 2), (13, .istore_n 3, 1), (14, .iconst 0, 1), (15, .istore 4, 2), (17, .iload 4, 2), (19, .bipush 20, 2), (21, .if_icmp .ge 58, 3), (24, .sipush 1000, 3), (27, .aload_n 0, 1), (28, .iload_n 1, 1), (29, .iload 4, 2), (31, .iconst 0, 1), (32, .invokevirtual 200, 3), (35, .imul, 1), (36, .aload_n 0, 1), (37, .iload_n 1, 1), (38, .iload 4, 2), (40, .iconst 1, 1), (41, .invokevirtual 200, 3), (44, .iadd, 1), (45, .istore 5, 2), (47, .iload 5, 2), (49, .iload_n 3, 1), (50, .if_icmp .ge 8, 3), (53, .iload 4, 2), (55, .goto 4, 3), (58, .iload_n 2, 1), (59, .istore_n 2, 1), (60, .iload 5, 2), (62, .iload_n 3, 1), (63, .if_icmp .ge 8, 3), (66, .iload 5, 2), (68, .goto 4, 3), (71, .iload_n 3, 1), (72, .istore_n 3, 1), (73, .iinc 4 1, 3), (76, .goto (-59), 3), (79, .iload_n 2, 1), (80, .ireturn, 1)]
theorem D_X5_bestStart : ∀ q ∈ T_X5_bestStart, decode cX5_bestStart q.1 = .ok q.2 := by decide +kernel
theorem V_X5_bestStart : Vy yX5_bestStart cX5_bestStart 6 (some .int) 1 := ⟨k607, k415, by decide +kernel⟩
theorem i_X5_bestStart : Cond.instanceMethod yX5_bestStart ∈ TB := k727
theorem s_X5_bestStart : Cond.selects yX5_bestStart.cls yX5_bestStart yX5_bestStart ∈ TB := k728
noncomputable def f_X5_bestStart_K59  (r17 : JV → Int32 → Int32 → Int32 → Option (Int32 × JV)) (vM_59 : JV) (x1_17 : Int32) (x3_59 : Int32) (x4_59 : Int32) (x5_59 : Int32) (y0_59 : Int32) : Option (Int32 × JV) :=
  (if x3_59 ≤ x5_59 then r17 vM_59 y0_59 x3_59 (x4_59 + (1 : Int32)) else r17 vM_59 y0_59 x5_59 (x4_59 + (1 : Int32)))
noncomputable def f_X5_bestStart_b17  (x1_17 : Int32) (r17 : JV → Int32 → Int32 → Int32 → Option (Int32 × JV)) (vM_17 : JV) (x2_17 : Int32) (x3_17 : Int32) (x4_17 : Int32) : Option (Int32 × JV) :=
  (if (20 : Int32) ≤ x4_17 then some (x2_17, vM_17) else (f_X5_ifStart vM_17 x1_17 x4_17 (0 : Int32)).bind (fun q4 => (f_X5_ifStart (q4.2) x1_17 x4_17 (1 : Int32)).bind (fun q5 => (if x3_17 ≤ (((1000 : Int32) * (q4.1)) + (q5.1)) then f_X5_bestStart_K59  r17 (q5.2) x1_17 x3_17 x4_17 (((1000 : Int32) * (q4.1)) + (q5.1)) x2_17 else f_X5_bestStart_K59  r17 (q5.2) x1_17 x3_17 x4_17 (((1000 : Int32) * (q4.1)) + (q5.1)) x4_17))))
noncomputable def f_X5_bestStart_L17  (x1_17 : Int32) (n : Nat) (vM_17 : JV) (x2_17 : Int32) (x3_17 : Int32) (x4_17 : Int32) : Option (Int32 × JV) :=
  lp (fun (rec : JV × Int32 × Int32 × Int32 → Option (Int32 × JV)) a => f_X5_bestStart_b17  x1_17 (fun vM_17 x2_17 x3_17 x4_17 => rec (vM_17, x2_17, x3_17, x4_17)) a.1 a.2.1 a.2.2.1 a.2.2.2) n (vM_17, x2_17, x3_17, x4_17)
noncomputable def f_X5_bestStart (vM : JV) (x1 : Int32) : Option (Int32 × JV) :=
  (f_X5_isPaper x1).bind (fun q1 => (if q1 = 0 then some ((-1 : Int32), vM) else f_X5_bestStart_L17  x1 FU vM (0 : Int32) (1000000 : Int32) (0 : Int32)))
set_option maxRecDepth 100000 in
set_option maxHeartbeats 4000000 in
theorem c_X5_bestStart {l : Launch} {G : JG} (aM : Nat → Nat) (vM : JV) (x1 : Int32) {Rz : Int32 × JV} (h : f_X5_bestStart vM x1 = some Rz) : JM l G yX5_bestStart cX5_bestStart 6 (some .int) 8 181 [.ref (aM 0), .int x1] (wMod G aM (vM 0) (vM 1) (vM 2) (vM 3) (vM 4) (vM 5) (vM 6) (vM 7) (vM 8) (vM 9 0) (vM 10 0) (vM 11 0) (vM 12 0) (vM 13 0)) (wMod G aM ((Rz.2) 0) ((Rz.2) 1) ((Rz.2) 2) ((Rz.2) 3) ((Rz.2) 4) ((Rz.2) 5) ((Rz.2) 6) ((Rz.2) 7) ((Rz.2) 8) ((Rz.2) 9 0) ((Rz.2) 10 0) ((Rz.2) 11 0) ((Rz.2) 12 0) ((Rz.2) 13 0)) (some (.int (Rz.1))) := by
  refine JM.of (own := RX5) (tb := T_X5_bestStart) (by decide) (Nat.le_of_ble_eq_true rfl) D_X5_bestStart rfl (fun X C => ?_)
  refine J_sub (lv' := [(0, .ref (aM 0)), (1, .int x1)]) [0, 1] rfl ?_
  have B17 : ∀ (x1_17 : Int32) (n17 : Nat) (vM_17 : JV) (x2_17 : Int32) (x3_17 : Int32) (x4_17 : Int32), f_X5_bestStart_L17  x1_17 n17 vM_17 x2_17 x3_17 x4_17 = some Rz → J l { frames := 8, cells := 0, slots := 0, locals := 181 } G 6 X (QM X G 0 0 (some (.int (Rz.1))) (wMod G aM ((Rz.2) 0) ((Rz.2) 1) ((Rz.2) 2) ((Rz.2) 3) ((Rz.2) 4) ((Rz.2) 5) ((Rz.2) 6) ((Rz.2) 7) ((Rz.2) 8) ((Rz.2) 9 0) ((Rz.2) 10 0) ((Rz.2) 11 0) ((Rz.2) 12 0) ((Rz.2) 13 0))) 0 0 17 [(0, .ref (aM 0)), (1, .int x1_17), (2, .int x2_17), (3, .int x3_17), (4, .int x4_17)] [] (wMod G aM (vM_17 0) (vM_17 1) (vM_17 2) (vM_17 3) (vM_17 4) (vM_17 5) (vM_17 6) (vM_17 7) (vM_17 8) (vM_17 9 0) (vM_17 10 0) (vM_17 11 0) (vM_17 12 0) (vM_17 13 0)) := by
    intro x1_17 n17
    induction n17 with
    | zero =>
      intro vM_17 x2_17 x3_17 x4_17 h
      exact (no_none rfl h).elim
    | succ n17 ih17 =>
      have B59 : ∀ (vM_59 : JV) (x3_59 : Int32) (x4_59 : Int32) (x5_59 : Int32) (y0_59 : Int32), f_X5_bestStart_K59  (fun vM_17 x2_17 x3_17 x4_17 => f_X5_bestStart_L17  x1_17 n17 vM_17 x2_17 x3_17 x4_17) vM_59 x1_17 x3_59 x4_59 x5_59 y0_59 = some Rz → J l { frames := 8, cells := 0, slots := 0, locals := 181 } G 6 X (QM X G 0 0 (some (.int (Rz.1))) (wMod G aM ((Rz.2) 0) ((Rz.2) 1) ((Rz.2) 2) ((Rz.2) 3) ((Rz.2) 4) ((Rz.2) 5) ((Rz.2) 6) ((Rz.2) 7) ((Rz.2) 8) ((Rz.2) 9 0) ((Rz.2) 10 0) ((Rz.2) 11 0) ((Rz.2) 12 0) ((Rz.2) 13 0))) 0 0 59 [(0, .ref (aM 0)), (1, .int x1_17), (3, .int x3_59), (4, .int x4_59), (5, .int x5_59)] [.int y0_59] (wMod G aM (vM_59 0) (vM_59 1) (vM_59 2) (vM_59 3) (vM_59 4) (vM_59 5) (vM_59 6) (vM_59 7) (vM_59 8) (vM_59 9 0) (vM_59 10 0) (vM_59 11 0) (vM_59 12 0) (vM_59 13 0)) := by
        intro vM_59 x3_59 x4_59 x5_59 y0_59 h
        unfold f_X5_bestStart_K59 at h
        refine J_istore_n (pc := 59) (lv' := [(2, .int y0_59), (0, .ref (aM 0)), (1, .int x1_17), (3, .int x3_59), (4, .int x4_59), (5, .int x5_59)]) C 34 rfl rfl (by decide) rfl ?_
        refine J_iload (pc := 60) C 35 rfl 5 rfl ?_
        refine J_iload_n (pc := 62) C 36 rfl 3 rfl rfl ?_
        refine J_icmp_ge (pc := 63) (tgt := 71) C 37 rfl rfl (fun c7 => ?_) (fun c7 => ?_)
        · rw [if_pos c7] at h
          refine J_iload_n (pc := 71) C 40 rfl 3 rfl rfl ?_
          refine J_istore_n (pc := 72) (lv' := [(3, .int x3_59), (2, .int y0_59), (0, .ref (aM 0)), (1, .int x1_17), (4, .int x4_59), (5, .int x5_59)]) C 41 rfl rfl (by decide) rfl ?_
          refine J_iinc (pc := 73) (v := (x4_59 + (1 : Int32))) (lv' := [(4, .int (x4_59 + (1 : Int32))), (3, .int x3_59), (2, .int y0_59), (0, .ref (aM 0)), (1, .int x1_17), (5, .int x5_59)]) C 42 rfl 4 rfl rfl (by decide) rfl ?_
          refine J_goto (pc := 76) (tgt := 17) C 43 rfl rfl ?_
          exact J_sub [3, 4, 2, 1, 0] rfl (ih17 vM_59 y0_59 x3_59 (x4_59 + (1 : Int32)) h)
        · rw [if_neg c7] at h
          refine J_iload (pc := 66) C 38 rfl 5 rfl ?_
          refine J_goto (pc := 68) (tgt := 72) C 39 rfl rfl ?_
          refine J_istore_n (pc := 72) (lv' := [(3, .int x5_59), (2, .int y0_59), (0, .ref (aM 0)), (1, .int x1_17), (4, .int x4_59), (5, .int x5_59)]) C 41 rfl rfl (by decide) rfl ?_
          refine J_iinc (pc := 73) (v := (x4_59 + (1 : Int32))) (lv' := [(4, .int (x4_59 + (1 : Int32))), (3, .int x5_59), (2, .int y0_59), (0, .ref (aM 0)), (1, .int x1_17), (5, .int x5_59)]) C 42 rfl 4 rfl rfl (by decide) rfl ?_
          refine J_goto (pc := 76) (tgt := 17) C 43 rfl rfl ?_
          exact J_sub [3, 4, 2, 1, 0] rfl (ih17 vM_59 y0_59 x5_59 (x4_59 + (1 : Int32)) h)
      intro vM_17 x2_17 x3_17 x4_17 h
      replace h : f_X5_bestStart_b17  x1_17 (fun vM_17 x2_17 x3_17 x4_17 => f_X5_bestStart_L17  x1_17 n17 vM_17 x2_17 x3_17 x4_17) vM_17 x2_17 x3_17 x4_17 = some Rz := h
      unfold f_X5_bestStart_b17 at h
      refine J_iload (pc := 17) C 11 rfl 4 rfl ?_
      refine J_bipush (pc := 19) (v := (20 : Int32)) C 12 rfl rfl ?_
      refine J_icmp_ge (pc := 21) (tgt := 79) C 13 rfl rfl (fun c3 => ?_) (fun c3 => ?_)
      · rw [if_pos c3] at h
        refine J_iload_n (pc := 79) C 44 rfl 2 rfl rfl ?_
        cases h
        exact J_iret (pc := 80) C 45 rfl
      · rw [if_neg c3] at h
        refine J_sipush (pc := 24) (v := (1000 : Int32)) C 14 rfl rfl ?_
        refine J_aload_n (pc := 27) C 15 rfl 0 rfl rfl ?_
        refine J_iload_n (pc := 28) C 16 rfl 1 rfl rfl ?_
        refine J_iload (pc := 29) C 17 rfl 4 rfl ?_
        refine J_iconst (pc := 31) (v := (0 : Int32)) C 18 rfl rfl ?_
        obtain ⟨q4, hq4, h⟩ := bnd h
        refine J_callV (pc := 32) (st2 := [.int (1000 : Int32)]) (st3 := [.int (q4.1), .int (1000 : Int32)]) (ws2 := (wMod G aM ((q4.2) 0) ((q4.2) 1) ((q4.2) 2) ((q4.2) 3) ((q4.2) 4) ((q4.2) 5) ((q4.2) 6) ((q4.2) 7) ((q4.2) 8) ((q4.2) 9 0) ((q4.2) 10 0) ((q4.2) 11 0) ((q4.2) 12 0) ((q4.2) 13 0))) C 19 rfl (c_X5_ifStart aM vM_17 x1_17 x4_17 (0 : Int32) hq4) V_X5_ifStart k604 i_X5_ifStart s_X5_ifStart rfl rfl ⟨Nat.le_of_ble_eq_true rfl, Nat.le_of_ble_eq_true rfl⟩ (Nat.le_of_ble_eq_true rfl) ⟨Nat.le_refl _, Nat.le_refl _⟩ 0 5 rfl rfl rfl (isC := [0, 1, 2, 3, 4, 5, 6, 7, 8, 9]) (isR := []) (N := 10) ⟨rfl, by decide +kernel, rfl, by decide +kernel, rfl, trivial⟩ rfl ?_
        refine J_imul (pc := 35) C 20 rfl  ?_
        refine J_aload_n (pc := 36) C 21 rfl 0 rfl rfl ?_
        refine J_iload_n (pc := 37) C 22 rfl 1 rfl rfl ?_
        refine J_iload (pc := 38) C 23 rfl 4 rfl ?_
        refine J_iconst (pc := 40) (v := (1 : Int32)) C 24 rfl rfl ?_
        obtain ⟨q5, hq5, h⟩ := bnd h
        refine J_callV (pc := 41) (st2 := [.int ((1000 : Int32) * (q4.1))]) (st3 := [.int (q5.1), .int ((1000 : Int32) * (q4.1))]) (ws2 := (wMod G aM ((q5.2) 0) ((q5.2) 1) ((q5.2) 2) ((q5.2) 3) ((q5.2) 4) ((q5.2) 5) ((q5.2) 6) ((q5.2) 7) ((q5.2) 8) ((q5.2) 9 0) ((q5.2) 10 0) ((q5.2) 11 0) ((q5.2) 12 0) ((q5.2) 13 0))) C 25 rfl (c_X5_ifStart aM (q4.2) x1_17 x4_17 (1 : Int32) hq5) V_X5_ifStart k604 i_X5_ifStart s_X5_ifStart rfl rfl ⟨Nat.le_of_ble_eq_true rfl, Nat.le_of_ble_eq_true rfl⟩ (Nat.le_of_ble_eq_true rfl) ⟨Nat.le_refl _, Nat.le_refl _⟩ 0 5 rfl rfl rfl (isC := [0, 1, 2, 3, 4, 5, 6, 7, 8, 9]) (isR := []) (N := 10) ⟨rfl, by decide +kernel, rfl, by decide +kernel, rfl, trivial⟩ rfl ?_
        refine J_iadd (pc := 44) C 26 rfl  ?_
        refine J_istore (pc := 45) (lv' := [(5, .int (((1000 : Int32) * (q4.1)) + (q5.1))), (0, .ref (aM 0)), (1, .int x1_17), (2, .int x2_17), (3, .int x3_17), (4, .int x4_17)]) C 27 rfl (by decide) rfl ?_
        refine J_iload (pc := 47) C 28 rfl 0 rfl ?_
        refine J_iload_n (pc := 49) C 29 rfl 4 rfl rfl ?_
        refine J_icmp_ge (pc := 50) (tgt := 58) C 30 rfl rfl (fun c6 => ?_) (fun c6 => ?_)
        · rw [if_pos c6] at h
          refine J_iload_n (pc := 58) C 33 rfl 3 rfl rfl ?_
          exact J_sub [1, 2, 4, 5, 0] rfl (B59 (q5.2) x3_17 x4_17 (((1000 : Int32) * (q4.1)) + (q5.1)) x2_17 h)
        · rw [if_neg c6] at h
          refine J_iload (pc := 53) C 31 rfl 5 rfl ?_
          refine J_goto (pc := 55) (tgt := 59) C 32 rfl rfl ?_
          exact J_sub [1, 2, 4, 5, 0] rfl (B59 (q5.2) x3_17 x4_17 (((1000 : Int32) * (q4.1)) + (q5.1)) x4_17 h)
  unfold f_X5_bestStart at h
  refine J_iload_n (pc := 0) C 0 rfl 1 rfl rfl ?_
  obtain ⟨q1, hq1, h⟩ := bnd h
  refine J_callS (pc := 1) (st2 := []) (st3 := [.int q1]) (ws2 := (wMod G aM (vM 0) (vM 1) (vM 2) (vM 3) (vM 4) (vM 5) (vM 6) (vM 7) (vM 8) (vM 9 0) (vM 10 0) (vM 11 0) (vM 12 0) (vM 13 0))) C 1 rfl (c_X5_isPaper x1 hq1) V_X5_isPaper k499 t_X5_isPaper rfl rfl ⟨Nat.le_of_ble_eq_true rfl, Nat.le_of_ble_eq_true rfl⟩ (Nat.le_of_ble_eq_true rfl) ⟨Nat.le_refl _, Nat.le_refl _⟩ (isC := []) (isR := [0, 1, 2, 3, 4, 5, 6, 7, 8, 9]) (N := 10) ⟨rfl, by decide +kernel, rfl, by decide +kernel, rfl, ⟨⟨_, rfl, rfl⟩, ⟨⟨_, rfl, rfl⟩, ⟨⟨_, rfl, rfl⟩, ⟨⟨_, rfl, rfl⟩, ⟨⟨_, rfl, rfl⟩, ⟨⟨_, rfl, rfl⟩, ⟨⟨_, rfl, rfl⟩, ⟨⟨_, rfl, rfl⟩, ⟨⟨_, rfl, rfl⟩, ⟨⟨_, rfl, rfl⟩, trivial⟩⟩⟩⟩⟩⟩⟩⟩⟩⟩⟩ rfl ?_
  refine J_if_ne (pc := 4) (tgt := 9) C 2 rfl rfl (fun c2 => ?_) (fun c2 => ?_)
  · rw [if_neg c2] at h
    refine J_iconst (pc := 9) (v := (0 : Int32)) C 5 rfl rfl ?_
    refine J_istore_n (pc := 10) (lv' := [(2, .int (0 : Int32)), (0, .ref (aM 0)), (1, .int x1)]) C 6 rfl rfl (by decide) rfl ?_
    refine J_ldc (pc := 11) (v := (1000000 : Int32)) C 7 rfl k603 ?_
    refine J_istore_n (pc := 13) (lv' := [(3, .int (1000000 : Int32)), (2, .int (0 : Int32)), (0, .ref (aM 0)), (1, .int x1)]) C 8 rfl rfl (by decide) rfl ?_
    refine J_iconst (pc := 14) (v := (0 : Int32)) C 9 rfl rfl ?_
    refine J_istore (pc := 15) (lv' := [(4, .int (0 : Int32)), (3, .int (1000000 : Int32)), (2, .int (0 : Int32)), (0, .ref (aM 0)), (1, .int x1)]) C 10 rfl (by decide) rfl ?_
    exact J_sub [3, 4, 2, 1, 0] rfl (B17 x1 FU vM (0 : Int32) (1000000 : Int32) (0 : Int32) h)
  · rw [if_pos c2] at h
    refine J_iconst (pc := 7) (v := (-1 : Int32)) C 3 rfl rfl ?_
    cases h
    exact J_iret (pc := 8) C 4 rfl
def T_X5_bestHalls : List (Nat × ClassFile.Instr × Nat) := [(0, .iload_n 1, 1), (1, .iconst 0, 1), (2, .iconst 1, 1), (3, .invokestatic 39, 3), (6, .ifCond .ne 6, 3), (9, .bipush (-2), 2), (11, .ireturn, 1), (12, .aload_n 0, 1), (13, .invokevirtual 204, 3), (16, .iconst 0, 1), (17, .istore_n 2, 1), (18, .ldc 199, 2), (20, .istore_n 3, 1), (21, .iconst 0, 1), (22, .istore 4, 2), (24, .iload 4, 2), (26, .bipush 16, 2), (28, .if_icmp .ge 92, 3), (31, .iconst 0, 1), (32, .istore 5, 2), (34, .iload 5, 2), (36, .iconst 4, 1), (37, .if_icmp .ge 28, 3), (40, .aload_n 0, 1), (41, .getfield 7, 3), (44, .iload 5, 2), (46, .invokestatic 64, 3), (49, .iconst 2, 1), (50, .iadd, 1), (51, .iload 4, 2), (53, .iload 5, 2), (55, .ishr, 1), (56, .iconst 1, 1), (57, .iand, 1), (58, .iastore, 1), (59, .iinc 5 1, 3), (62, .goto (-28), 3), (65, .aload_n 0, 1), (66, .iconst 0, 1), (67, .putfield 43, 3), (70, .sipush 1000, 3), (73, .aload_n 0, 1), (74, .iconst 0, 1), (75, .invokevirtual 125, 3), (78, .imul, 1), (79, .aload_n 0, 1), (80, .iload 4, 2), (82, .invokevirtual 193, 3), (85, .iadd, 1), (86, .istore 5, 2), (88, .iload 5, 2), (90, .iload_n 3, 1), (91, .if_icmp .ge 8, 3), (94, .iload 4, 2), (96, .goto 4, 3), (99, .iload_n 2, 1), (100, .istore_n 2, 1), (101, .iload 5, 2), (103, .iload_n 3, 1), (104, .if_icmp .ge 8, 3), (107, .iload 5, 2), (109, .goto 4, 3), (112, .iload_n 3, 1), (113, .istore_n 3, 1), (114, .iinc 4 1, 3), (117, .goto (-93), 3), (120, .aload_n 0, 1), (121, .invokevirtual 207, 3), (124, .aload_n 0, 1), (125, .iconst 0, 1), (126, .putfield 43, 3), (129, .iload_n 1, 1), (130, .ifCond .ne 7, 3), (133, .iload_n 2, 1), (134, .goto 8, 3), (137, .iload_n 3, 1), (138, .sipush 1000, 3), (141, .idiv, 1), (142, .ireturn, 1)]
theorem D_X5_bestHalls : ∀ q ∈ T_X5_bestHalls, decode cX5_bestHalls q.1 = .ok q.2 := by decide +kernel
theorem V_X5_bestHalls : Vy yX5_bestHalls cX5_bestHalls 6 (some .int) 1 := ⟨k614, k415, by decide +kernel⟩
theorem i_X5_bestHalls : Cond.instanceMethod yX5_bestHalls ∈ TB := k733
theorem s_X5_bestHalls : Cond.selects yX5_bestHalls.cls yX5_bestHalls yX5_bestHalls ∈ TB := k734
noncomputable def f_X5_bestHalls_K100  (r24 : JV → Int32 → Int32 → Int32 → Option (Int32 × JV)) (vM_100 : JV) (x1_24 : Int32) (x3_100 : Int32) (x4_100 : Int32) (x5_100 : Int32) (y0_100 : Int32) : Option (Int32 × JV) :=
  (if x3_100 ≤ x5_100 then r24 vM_100 y0_100 x3_100 (x4_100 + (1 : Int32)) else r24 vM_100 y0_100 x5_100 (x4_100 + (1 : Int32)))
noncomputable def f_X5_bestHalls_b34  (r24 : JV → Int32 → Int32 → Int32 → Option (Int32 × JV)) (x1_24 : Int32) (x2_34 : Int32) (x3_34 : Int32) (x4_34 : Int32) (r34 : JV → Int32 → Option (Int32 × JV)) (vM_34 : JV) (x5_34 : Int32) : Option (Int32 × JV) :=
  (if (4 : Int32) ≤ x5_34 then (f_X5_without (up2 vM_34 9 0 (0 : Int32)) (0 : Int32)).bind (fun q8 => (f_X5_desksOf (q8.2) x4_34).bind (fun q9 => (if x3_34 ≤ (((1000 : Int32) * (q8.1)) + q9) then f_X5_bestHalls_K100  r24 (q8.2) x1_24 x3_34 x4_34 (((1000 : Int32) * (q8.1)) + q9) x2_34 else f_X5_bestHalls_K100  r24 (q8.2) x1_24 x3_34 x4_34 (((1000 : Int32) * (q8.1)) + q9) x4_34))) else (f_X5_h x5_34).bind (fun q12 => gd (inb (q12 + (2 : Int32)) 76) (r34 (up2 vM_34 0 (Int32.toNatClampNeg (q12 + (2 : Int32))) ((x4_34 >>> (x5_34 &&& 31)) &&& (1 : Int32))) (x5_34 + (1 : Int32)))))
noncomputable def f_X5_bestHalls_L34  (r24 : JV → Int32 → Int32 → Int32 → Option (Int32 × JV)) (x1_24 : Int32) (x2_34 : Int32) (x3_34 : Int32) (x4_34 : Int32) (n : Nat) (vM_34 : JV) (x5_34 : Int32) : Option (Int32 × JV) :=
  lp (fun (rec : JV × Int32 → Option (Int32 × JV)) a => f_X5_bestHalls_b34  r24 x1_24 x2_34 x3_34 x4_34 (fun vM_34 x5_34 => rec (vM_34, x5_34)) a.1 a.2) n (vM_34, x5_34)
noncomputable def f_X5_bestHalls_b24  (x1_24 : Int32) (r24 : JV → Int32 → Int32 → Int32 → Option (Int32 × JV)) (vM_24 : JV) (x2_24 : Int32) (x3_24 : Int32) (x4_24 : Int32) : Option (Int32 × JV) :=
  (if (16 : Int32) ≤ x4_24 then (f_X5_putBack vM_24).bind (fun q5 => (if x1_24 = 0 then some (x2_24, (up2 q5 9 0 (0 : Int32))) else some ((x3_24 / (1000 : Int32)), (up2 q5 9 0 (0 : Int32))))) else f_X5_bestHalls_L34  r24 x1_24 x2_24 x3_24 x4_24 FU vM_24 (0 : Int32))
noncomputable def f_X5_bestHalls_L24  (x1_24 : Int32) (n : Nat) (vM_24 : JV) (x2_24 : Int32) (x3_24 : Int32) (x4_24 : Int32) : Option (Int32 × JV) :=
  lp (fun (rec : JV × Int32 × Int32 × Int32 → Option (Int32 × JV)) a => f_X5_bestHalls_b24  x1_24 (fun vM_24 x2_24 x3_24 x4_24 => rec (vM_24, x2_24, x3_24, x4_24)) a.1 a.2.1 a.2.2.1 a.2.2.2) n (vM_24, x2_24, x3_24, x4_24)
noncomputable def f_X5_bestHalls (vM : JV) (x1 : Int32) : Option (Int32 × JV) :=
  (f_X5_in x1 (0 : Int32) (1 : Int32)).bind (fun q1 => (if q1 = 0 then some ((-2 : Int32), vM) else (f_X5_keepTrial vM).bind (fun q3 => f_X5_bestHalls_L24  x1 FU q3 (0 : Int32) (1000000 : Int32) (0 : Int32))))
set_option maxRecDepth 100000 in
set_option maxHeartbeats 4000000 in
theorem c_X5_bestHalls {l : Launch} {G : JG} (aM : Nat → Nat) (vM : JV) (x1 : Int32) {Rz : Int32 × JV} (h : f_X5_bestHalls vM x1 = some Rz) : JM l G yX5_bestHalls cX5_bestHalls 6 (some .int) 7 156 [.ref (aM 0), .int x1] (wMod G aM (vM 0) (vM 1) (vM 2) (vM 3) (vM 4) (vM 5) (vM 6) (vM 7) (vM 8) (vM 9 0) (vM 10 0) (vM 11 0) (vM 12 0) (vM 13 0)) (wMod G aM ((Rz.2) 0) ((Rz.2) 1) ((Rz.2) 2) ((Rz.2) 3) ((Rz.2) 4) ((Rz.2) 5) ((Rz.2) 6) ((Rz.2) 7) ((Rz.2) 8) ((Rz.2) 9 0) ((Rz.2) 10 0) ((Rz.2) 11 0) ((Rz.2) 12 0) ((Rz.2) 13 0)) (some (.int (Rz.1))) := by
  refine JM.of (own := RX5) (tb := T_X5_bestHalls) (by decide) (Nat.le_of_ble_eq_true rfl) D_X5_bestHalls rfl (fun X C => ?_)
  refine J_sub (lv' := [(0, .ref (aM 0)), (1, .int x1)]) [0, 1] rfl ?_
  have B24 : ∀ (x1_24 : Int32) (n24 : Nat) (vM_24 : JV) (x2_24 : Int32) (x3_24 : Int32) (x4_24 : Int32), f_X5_bestHalls_L24  x1_24 n24 vM_24 x2_24 x3_24 x4_24 = some Rz → J l { frames := 7, cells := 0, slots := 0, locals := 156 } G 6 X (QM X G 0 0 (some (.int (Rz.1))) (wMod G aM ((Rz.2) 0) ((Rz.2) 1) ((Rz.2) 2) ((Rz.2) 3) ((Rz.2) 4) ((Rz.2) 5) ((Rz.2) 6) ((Rz.2) 7) ((Rz.2) 8) ((Rz.2) 9 0) ((Rz.2) 10 0) ((Rz.2) 11 0) ((Rz.2) 12 0) ((Rz.2) 13 0))) 0 0 24 [(0, .ref (aM 0)), (1, .int x1_24), (2, .int x2_24), (3, .int x3_24), (4, .int x4_24)] [] (wMod G aM (vM_24 0) (vM_24 1) (vM_24 2) (vM_24 3) (vM_24 4) (vM_24 5) (vM_24 6) (vM_24 7) (vM_24 8) (vM_24 9 0) (vM_24 10 0) (vM_24 11 0) (vM_24 12 0) (vM_24 13 0)) := by
    intro x1_24 n24
    induction n24 with
    | zero =>
      intro vM_24 x2_24 x3_24 x4_24 h
      exact (no_none rfl h).elim
    | succ n24 ih24 =>
      have B100 : ∀ (vM_100 : JV) (x3_100 : Int32) (x4_100 : Int32) (x5_100 : Int32) (y0_100 : Int32), f_X5_bestHalls_K100  (fun vM_24 x2_24 x3_24 x4_24 => f_X5_bestHalls_L24  x1_24 n24 vM_24 x2_24 x3_24 x4_24) vM_100 x1_24 x3_100 x4_100 x5_100 y0_100 = some Rz → J l { frames := 7, cells := 0, slots := 0, locals := 156 } G 6 X (QM X G 0 0 (some (.int (Rz.1))) (wMod G aM ((Rz.2) 0) ((Rz.2) 1) ((Rz.2) 2) ((Rz.2) 3) ((Rz.2) 4) ((Rz.2) 5) ((Rz.2) 6) ((Rz.2) 7) ((Rz.2) 8) ((Rz.2) 9 0) ((Rz.2) 10 0) ((Rz.2) 11 0) ((Rz.2) 12 0) ((Rz.2) 13 0))) 0 0 100 [(0, .ref (aM 0)), (1, .int x1_24), (3, .int x3_100), (4, .int x4_100), (5, .int x5_100)] [.int y0_100] (wMod G aM (vM_100 0) (vM_100 1) (vM_100 2) (vM_100 3) (vM_100 4) (vM_100 5) (vM_100 6) (vM_100 7) (vM_100 8) (vM_100 9 0) (vM_100 10 0) (vM_100 11 0) (vM_100 12 0) (vM_100 13 0)) := by
        intro vM_100 x3_100 x4_100 x5_100 y0_100 h
        unfold f_X5_bestHalls_K100 at h
        refine J_istore_n (pc := 100) (lv' := [(2, .int y0_100), (0, .ref (aM 0)), (1, .int x1_24), (3, .int x3_100), (4, .int x4_100), (5, .int x5_100)]) C 56 rfl rfl (by decide) rfl ?_
        refine J_iload (pc := 101) C 57 rfl 5 rfl ?_
        refine J_iload_n (pc := 103) C 58 rfl 3 rfl rfl ?_
        refine J_icmp_ge (pc := 104) (tgt := 112) C 59 rfl rfl (fun c11 => ?_) (fun c11 => ?_)
        · rw [if_pos c11] at h
          refine J_iload_n (pc := 112) C 62 rfl 3 rfl rfl ?_
          refine J_istore_n (pc := 113) (lv' := [(3, .int x3_100), (2, .int y0_100), (0, .ref (aM 0)), (1, .int x1_24), (4, .int x4_100), (5, .int x5_100)]) C 63 rfl rfl (by decide) rfl ?_
          refine J_iinc (pc := 114) (v := (x4_100 + (1 : Int32))) (lv' := [(4, .int (x4_100 + (1 : Int32))), (3, .int x3_100), (2, .int y0_100), (0, .ref (aM 0)), (1, .int x1_24), (5, .int x5_100)]) C 64 rfl 4 rfl rfl (by decide) rfl ?_
          refine J_goto (pc := 117) (tgt := 24) C 65 rfl rfl ?_
          exact J_sub [3, 4, 2, 1, 0] rfl (ih24 vM_100 y0_100 x3_100 (x4_100 + (1 : Int32)) h)
        · rw [if_neg c11] at h
          refine J_iload (pc := 107) C 60 rfl 5 rfl ?_
          refine J_goto (pc := 109) (tgt := 113) C 61 rfl rfl ?_
          refine J_istore_n (pc := 113) (lv' := [(3, .int x5_100), (2, .int y0_100), (0, .ref (aM 0)), (1, .int x1_24), (4, .int x4_100), (5, .int x5_100)]) C 63 rfl rfl (by decide) rfl ?_
          refine J_iinc (pc := 114) (v := (x4_100 + (1 : Int32))) (lv' := [(4, .int (x4_100 + (1 : Int32))), (3, .int x5_100), (2, .int y0_100), (0, .ref (aM 0)), (1, .int x1_24), (5, .int x5_100)]) C 64 rfl 4 rfl rfl (by decide) rfl ?_
          refine J_goto (pc := 117) (tgt := 24) C 65 rfl rfl ?_
          exact J_sub [3, 4, 2, 1, 0] rfl (ih24 vM_100 y0_100 x5_100 (x4_100 + (1 : Int32)) h)
      have B34 : ∀ (x2_34 : Int32) (x3_34 : Int32) (x4_34 : Int32) (n34 : Nat) (vM_34 : JV) (x5_34 : Int32), f_X5_bestHalls_L34  (fun vM_24 x2_24 x3_24 x4_24 => f_X5_bestHalls_L24  x1_24 n24 vM_24 x2_24 x3_24 x4_24) x1_24 x2_34 x3_34 x4_34 n34 vM_34 x5_34 = some Rz → J l { frames := 7, cells := 0, slots := 0, locals := 156 } G 6 X (QM X G 0 0 (some (.int (Rz.1))) (wMod G aM ((Rz.2) 0) ((Rz.2) 1) ((Rz.2) 2) ((Rz.2) 3) ((Rz.2) 4) ((Rz.2) 5) ((Rz.2) 6) ((Rz.2) 7) ((Rz.2) 8) ((Rz.2) 9 0) ((Rz.2) 10 0) ((Rz.2) 11 0) ((Rz.2) 12 0) ((Rz.2) 13 0))) 0 0 34 [(0, .ref (aM 0)), (1, .int x1_24), (2, .int x2_34), (3, .int x3_34), (4, .int x4_34), (5, .int x5_34)] [] (wMod G aM (vM_34 0) (vM_34 1) (vM_34 2) (vM_34 3) (vM_34 4) (vM_34 5) (vM_34 6) (vM_34 7) (vM_34 8) (vM_34 9 0) (vM_34 10 0) (vM_34 11 0) (vM_34 12 0) (vM_34 13 0)) := by
        intro x2_34 x3_34 x4_34 n34
        induction n34 with
        | zero =>
          intro vM_34 x5_34 h
          exact (no_none rfl h).elim
        | succ n34 ih34 =>
          intro vM_34 x5_34 h
          replace h : f_X5_bestHalls_b34  (fun vM_24 x2_24 x3_24 x4_24 => f_X5_bestHalls_L24  x1_24 n24 vM_24 x2_24 x3_24 x4_24) x1_24 x2_34 x3_34 x4_34 (fun vM_34 x5_34 => f_X5_bestHalls_L34  (fun vM_24 x2_24 x3_24 x4_24 => f_X5_bestHalls_L24  x1_24 n24 vM_24 x2_24 x3_24 x4_24) x1_24 x2_34 x3_34 x4_34 n34 vM_34 x5_34) vM_34 x5_34 = some Rz := h
          unfold f_X5_bestHalls_b34 at h
          refine J_iload (pc := 34) C 20 rfl 5 rfl ?_
          refine J_iconst (pc := 36) (v := (4 : Int32)) C 21 rfl rfl ?_
          refine J_icmp_ge (pc := 37) (tgt := 65) C 22 rfl rfl (fun c7 => ?_) (fun c7 => ?_)
          · rw [if_pos c7] at h
            refine J_aload_n (pc := 65) C 37 rfl 0 rfl rfl ?_
            refine J_iconst (pc := 66) (v := (0 : Int32)) C 38 rfl rfl ?_
            refine J_putz (pc := 67) C 39 (fun vv => (wMod G aM (vM_34 0) (vM_34 1) (vM_34 2) (vM_34 3) (vM_34 4) (vM_34 5) (vM_34 6) (vM_34 7) (vM_34 8) vv (vM_34 10 0) (vM_34 11 0) (vM_34 12 0) (vM_34 13 0))) rfl rfl TB_l5 tyX5 tyX5_ok nmX5 rfl 0 9 rfl (by decide) k419 rfl rfl rfl (Nat.le_of_ble_eq_true rfl) (fun _ => rfl) ?_
            refine J_sipush (pc := 70) (v := (1000 : Int32)) C 40 rfl rfl ?_
            refine J_aload_n (pc := 73) C 41 rfl 0 rfl rfl ?_
            refine J_iconst (pc := 74) (v := (0 : Int32)) C 42 rfl rfl ?_
            obtain ⟨q8, hq8, h⟩ := bnd h
            refine J_callV (pc := 75) (st2 := [.int (1000 : Int32)]) (st3 := [.int (q8.1), .int (1000 : Int32)]) (ws2 := (wMod G aM ((q8.2) 0) ((q8.2) 1) ((q8.2) 2) ((q8.2) 3) ((q8.2) 4) ((q8.2) 5) ((q8.2) 6) ((q8.2) 7) ((q8.2) 8) ((q8.2) 9 0) ((q8.2) 10 0) ((q8.2) 11 0) ((q8.2) 12 0) ((q8.2) 13 0))) C 43 rfl (c_X5_without aM (up2 vM_34 9 0 (0 : Int32)) (0 : Int32) hq8) V_X5_without k514 i_X5_without s_X5_without rfl rfl ⟨Nat.le_of_ble_eq_true rfl, Nat.le_of_ble_eq_true rfl⟩ (Nat.le_of_ble_eq_true rfl) ⟨Nat.le_refl _, Nat.le_refl _⟩ 0 5 rfl rfl rfl (isC := [0, 1, 2, 3, 4, 5, 6, 7, 8, 9]) (isR := []) (N := 10) ⟨rfl, by decide +kernel, rfl, by decide +kernel, rfl, trivial⟩ rfl ?_
            refine J_imul (pc := 78) C 44 rfl  ?_
            refine J_aload_n (pc := 79) C 45 rfl 0 rfl rfl ?_
            refine J_iload (pc := 80) C 46 rfl 4 rfl ?_
            obtain ⟨q9, hq9, h⟩ := bnd h
            refine J_callV (pc := 82) (st2 := [.int ((1000 : Int32) * (q8.1))]) (st3 := [.int q9, .int ((1000 : Int32) * (q8.1))]) (ws2 := (wMod G aM ((q8.2) 0) ((q8.2) 1) ((q8.2) 2) ((q8.2) 3) ((q8.2) 4) ((q8.2) 5) ((q8.2) 6) ((q8.2) 7) ((q8.2) 8) ((q8.2) 9 0) ((q8.2) 10 0) ((q8.2) 11 0) ((q8.2) 12 0) ((q8.2) 13 0))) C 47 rfl (c_X5_desksOf aM (q8.2) x4_34 hq9) V_X5_desksOf k594 i_X5_desksOf s_X5_desksOf rfl rfl ⟨Nat.le_of_ble_eq_true rfl, Nat.le_of_ble_eq_true rfl⟩ (Nat.le_of_ble_eq_true rfl) ⟨Nat.le_refl _, Nat.le_refl _⟩ 0 5 rfl rfl rfl (isC := [0, 1, 2, 3, 4, 5, 6, 7, 8, 9]) (isR := []) (N := 10) ⟨rfl, by decide +kernel, rfl, by decide +kernel, rfl, trivial⟩ rfl ?_
            refine J_iadd (pc := 85) C 48 rfl  ?_
            refine J_istore (pc := 86) (lv' := [(5, .int (((1000 : Int32) * (q8.1)) + q9)), (0, .ref (aM 0)), (1, .int x1_24), (2, .int x2_34), (3, .int x3_34), (4, .int x4_34)]) C 49 rfl (by decide) rfl ?_
            refine J_iload (pc := 88) C 50 rfl 0 rfl ?_
            refine J_iload_n (pc := 90) C 51 rfl 4 rfl rfl ?_
            refine J_icmp_ge (pc := 91) (tgt := 99) C 52 rfl rfl (fun c10 => ?_) (fun c10 => ?_)
            · rw [if_pos c10] at h
              refine J_iload_n (pc := 99) C 55 rfl 3 rfl rfl ?_
              exact J_sub [1, 2, 4, 5, 0] rfl (B100 (q8.2) x3_34 x4_34 (((1000 : Int32) * (q8.1)) + q9) x2_34 h)
            · rw [if_neg c10] at h
              refine J_iload (pc := 94) C 53 rfl 5 rfl ?_
              refine J_goto (pc := 96) (tgt := 100) C 54 rfl rfl ?_
              exact J_sub [1, 2, 4, 5, 0] rfl (B100 (q8.2) x3_34 x4_34 (((1000 : Int32) * (q8.1)) + q9) x4_34 h)
          · rw [if_neg c7] at h
            refine J_aload_n (pc := 40) C 23 rfl 0 rfl rfl ?_
            refine J_get (pc := 41) (v := .ref (aM 1)) C 24 rfl TB_l5 rfl 0 0 rfl (by decide) k399 rfl rfl ?_
            refine J_iload (pc := 44) C 25 rfl 5 rfl ?_
            obtain ⟨q12, hq12, h⟩ := bnd h
            refine J_callS (pc := 46) (st2 := [.ref (aM 1)]) (st3 := [.int q12, .ref (aM 1)]) (ws2 := (wMod G aM (vM_34 0) (vM_34 1) (vM_34 2) (vM_34 3) (vM_34 4) (vM_34 5) (vM_34 6) (vM_34 7) (vM_34 8) (vM_34 9 0) (vM_34 10 0) (vM_34 11 0) (vM_34 12 0) (vM_34 13 0))) C 26 rfl (c_X5_h x5_34 hq12) V_X5_h k444 t_X5_h rfl rfl ⟨Nat.le_of_ble_eq_true rfl, Nat.le_of_ble_eq_true rfl⟩ (Nat.le_of_ble_eq_true rfl) ⟨Nat.le_refl _, Nat.le_refl _⟩ (isC := []) (isR := [0, 1, 2, 3, 4, 5, 6, 7, 8, 9]) (N := 10) ⟨rfl, by decide +kernel, rfl, by decide +kernel, rfl, ⟨⟨_, rfl, rfl⟩, ⟨⟨_, rfl, rfl⟩, ⟨⟨_, rfl, rfl⟩, ⟨⟨_, rfl, rfl⟩, ⟨⟨_, rfl, rfl⟩, ⟨⟨_, rfl, rfl⟩, ⟨⟨_, rfl, rfl⟩, ⟨⟨_, rfl, rfl⟩, ⟨⟨_, rfl, rfl⟩, ⟨⟨_, rfl, rfl⟩, trivial⟩⟩⟩⟩⟩⟩⟩⟩⟩⟩⟩ rfl ?_
            refine J_iconst (pc := 49) (v := (2 : Int32)) C 27 rfl rfl ?_
            refine J_iadd (pc := 50) C 28 rfl  ?_
            refine J_iload (pc := 51) C 29 rfl 4 rfl ?_
            refine J_iload (pc := 53) C 30 rfl 5 rfl ?_
            refine J_ishr (pc := 55) C 31 rfl  ?_
            refine J_iconst (pc := 56) (v := (1 : Int32)) C 32 rfl rfl ?_
            refine J_iand (pc := 57) C 33 rfl  ?_
            obtain ⟨g13, h⟩ := gd_some h
            refine J_iast (pc := 58) (f := (vM_34 0)) (m := (Int32.toNatClampNeg (q12 + (2 : Int32)))) C 34 (fun mm vv => (wMod G aM (upd (vM_34 0) mm vv) (vM_34 1) (vM_34 2) (vM_34 3) (vM_34 4) (vM_34 5) (vM_34 6) (vM_34 7) (vM_34 8) (vM_34 9 0) (vM_34 10 0) (vM_34 11 0) (vM_34 12 0) (vM_34 13 0))) rfl 1 rfl g13 rfl (fun _ _ => rfl) ?_
            refine J_iinc (pc := 59) (v := (x5_34 + (1 : Int32))) (lv' := [(5, .int (x5_34 + (1 : Int32))), (0, .ref (aM 0)), (1, .int x1_24), (2, .int x2_34), (3, .int x3_34), (4, .int x4_34)]) C 35 rfl 5 rfl rfl (by decide) rfl ?_
            refine J_goto (pc := 62) (tgt := 34) C 36 rfl rfl ?_
            exact J_sub [1, 2, 3, 4, 5, 0] rfl (ih34 (up2 vM_34 0 (Int32.toNatClampNeg (q12 + (2 : Int32))) ((x4_34 >>> (x5_34 &&& 31)) &&& (1 : Int32))) (x5_34 + (1 : Int32)) h)
      intro vM_24 x2_24 x3_24 x4_24 h
      replace h : f_X5_bestHalls_b24  x1_24 (fun vM_24 x2_24 x3_24 x4_24 => f_X5_bestHalls_L24  x1_24 n24 vM_24 x2_24 x3_24 x4_24) vM_24 x2_24 x3_24 x4_24 = some Rz := h
      unfold f_X5_bestHalls_b24 at h
      refine J_iload (pc := 24) C 15 rfl 4 rfl ?_
      refine J_bipush (pc := 26) (v := (16 : Int32)) C 16 rfl rfl ?_
      refine J_icmp_ge (pc := 28) (tgt := 120) C 17 rfl rfl (fun c4 => ?_) (fun c4 => ?_)
      · rw [if_pos c4] at h
        refine J_aload_n (pc := 120) C 66 rfl 0 rfl rfl ?_
        obtain ⟨q5, hq5, h⟩ := bnd h
        refine J_callV (pc := 121) (st2 := []) (st3 := []) (ws2 := (wMod G aM (q5 0) (q5 1) (q5 2) (q5 3) (q5 4) (q5 5) (q5 6) (q5 7) (q5 8) (q5 9 0) (q5 10 0) (q5 11 0) (q5 12 0) (q5 13 0))) C 67 rfl (c_X5_putBack aM vM_24 hq5) V_X5_putBack k611 i_X5_putBack s_X5_putBack rfl rfl ⟨Nat.le_of_ble_eq_true rfl, Nat.le_of_ble_eq_true rfl⟩ (Nat.le_of_ble_eq_true rfl) ⟨Nat.le_refl _, Nat.le_refl _⟩ 0 5 rfl rfl rfl (isC := [0, 1, 2, 3, 4, 5, 6, 7, 8, 9]) (isR := []) (N := 10) ⟨rfl, by decide +kernel, rfl, by decide +kernel, rfl, trivial⟩ rfl ?_
        refine J_aload_n (pc := 124) C 68 rfl 0 rfl rfl ?_
        refine J_iconst (pc := 125) (v := (0 : Int32)) C 69 rfl rfl ?_
        refine J_putz (pc := 126) C 70 (fun vv => (wMod G aM (q5 0) (q5 1) (q5 2) (q5 3) (q5 4) (q5 5) (q5 6) (q5 7) (q5 8) vv (q5 10 0) (q5 11 0) (q5 12 0) (q5 13 0))) rfl rfl TB_l5 tyX5 tyX5_ok nmX5 rfl 0 9 rfl (by decide) k419 rfl rfl rfl (Nat.le_of_ble_eq_true rfl) (fun _ => rfl) ?_
        refine J_iload_n (pc := 129) C 71 rfl 1 rfl rfl ?_
        refine J_if_ne (pc := 130) (tgt := 137) C 72 rfl rfl (fun c6 => ?_) (fun c6 => ?_)
        · rw [if_neg c6] at h
          refine J_iload_n (pc := 137) C 75 rfl 3 rfl rfl ?_
          refine J_sipush (pc := 138) (v := (1000 : Int32)) C 76 rfl rfl ?_
          refine J_idiv (pc := 141) C 77 rfl (by decide) ?_
          cases h
          exact J_iret (pc := 142) C 78 rfl
        · rw [if_pos c6] at h
          refine J_iload_n (pc := 133) C 73 rfl 2 rfl rfl ?_
          refine J_goto (pc := 134) (tgt := 142) C 74 rfl rfl ?_
          cases h
          exact J_iret (pc := 142) C 78 rfl
      · rw [if_neg c4] at h
        refine J_iconst (pc := 31) (v := (0 : Int32)) C 18 rfl rfl ?_
        refine J_istore (pc := 32) (lv' := [(5, .int (0 : Int32)), (0, .ref (aM 0)), (1, .int x1_24), (2, .int x2_24), (3, .int x3_24), (4, .int x4_24)]) C 19 rfl (by decide) rfl ?_
        exact J_sub [1, 2, 3, 4, 5, 0] rfl (B34 x2_24 x3_24 x4_24 FU vM_24 (0 : Int32) h)
  unfold f_X5_bestHalls at h
  refine J_iload_n (pc := 0) C 0 rfl 1 rfl rfl ?_
  refine J_iconst (pc := 1) (v := (0 : Int32)) C 1 rfl rfl ?_
  refine J_iconst (pc := 2) (v := (1 : Int32)) C 2 rfl rfl ?_
  obtain ⟨q1, hq1, h⟩ := bnd h
  refine J_callS (pc := 3) (st2 := []) (st3 := [.int q1]) (ws2 := (wMod G aM (vM 0) (vM 1) (vM 2) (vM 3) (vM 4) (vM 5) (vM 6) (vM 7) (vM 8) (vM 9 0) (vM 10 0) (vM 11 0) (vM 12 0) (vM 13 0))) C 3 rfl (c_X5_in x1 (0 : Int32) (1 : Int32) hq1) V_X5_in k413 t_X5_in rfl rfl ⟨Nat.le_of_ble_eq_true rfl, Nat.le_of_ble_eq_true rfl⟩ (Nat.le_of_ble_eq_true rfl) ⟨Nat.le_refl _, Nat.le_refl _⟩ (isC := []) (isR := [0, 1, 2, 3, 4, 5, 6, 7, 8, 9]) (N := 10) ⟨rfl, by decide +kernel, rfl, by decide +kernel, rfl, ⟨⟨_, rfl, rfl⟩, ⟨⟨_, rfl, rfl⟩, ⟨⟨_, rfl, rfl⟩, ⟨⟨_, rfl, rfl⟩, ⟨⟨_, rfl, rfl⟩, ⟨⟨_, rfl, rfl⟩, ⟨⟨_, rfl, rfl⟩, ⟨⟨_, rfl, rfl⟩, ⟨⟨_, rfl, rfl⟩, ⟨⟨_, rfl, rfl⟩, trivial⟩⟩⟩⟩⟩⟩⟩⟩⟩⟩⟩ rfl ?_
  refine J_if_ne (pc := 6) (tgt := 12) C 4 rfl rfl (fun c2 => ?_) (fun c2 => ?_)
  · rw [if_neg c2] at h
    refine J_aload_n (pc := 12) C 7 rfl 0 rfl rfl ?_
    obtain ⟨q3, hq3, h⟩ := bnd h
    refine J_callV (pc := 13) (st2 := []) (st3 := []) (ws2 := (wMod G aM (q3 0) (q3 1) (q3 2) (q3 3) (q3 4) (q3 5) (q3 6) (q3 7) (q3 8) (q3 9 0) (q3 10 0) (q3 11 0) (q3 12 0) (q3 13 0))) C 8 rfl (c_X5_keepTrial aM vM hq3) V_X5_keepTrial k608 i_X5_keepTrial s_X5_keepTrial rfl rfl ⟨Nat.le_of_ble_eq_true rfl, Nat.le_of_ble_eq_true rfl⟩ (Nat.le_of_ble_eq_true rfl) ⟨Nat.le_refl _, Nat.le_refl _⟩ 0 5 rfl rfl rfl (isC := [0, 1, 2, 3, 4, 5, 6, 7, 8, 9]) (isR := []) (N := 10) ⟨rfl, by decide +kernel, rfl, by decide +kernel, rfl, trivial⟩ rfl ?_
    refine J_iconst (pc := 16) (v := (0 : Int32)) C 9 rfl rfl ?_
    refine J_istore_n (pc := 17) (lv' := [(2, .int (0 : Int32)), (0, .ref (aM 0)), (1, .int x1)]) C 10 rfl rfl (by decide) rfl ?_
    refine J_ldc (pc := 18) (v := (1000000 : Int32)) C 11 rfl k603 ?_
    refine J_istore_n (pc := 20) (lv' := [(3, .int (1000000 : Int32)), (2, .int (0 : Int32)), (0, .ref (aM 0)), (1, .int x1)]) C 12 rfl rfl (by decide) rfl ?_
    refine J_iconst (pc := 21) (v := (0 : Int32)) C 13 rfl rfl ?_
    refine J_istore (pc := 22) (lv' := [(4, .int (0 : Int32)), (3, .int (1000000 : Int32)), (2, .int (0 : Int32)), (0, .ref (aM 0)), (1, .int x1)]) C 14 rfl (by decide) rfl ?_
    exact J_sub [3, 4, 2, 1, 0] rfl (B24 x1 FU q3 (0 : Int32) (1000000 : Int32) (0 : Int32) h)
  · rw [if_pos c2] at h
    refine J_bipush (pc := 9) (v := (-2 : Int32)) C 5 rfl rfl ?_
    cases h
    exact J_iret (pc := 11) C 6 rfl
def T_X5_leastRooms : List (Nat × ClassFile.Instr × Nat) := [(0, .aload_n 0, 1), (1, .getfield 7, 3), (4, .iconst 1, 1), (5, .iaload, 1), (6, .istore_n 1, 1), (7, .bipush (-6), 2), (9, .istore_n 2, 1), (10, .bipush 6, 2), (12, .istore_n 3, 1), (13, .iload_n 3, 1), (14, .ifCond .lt 35, 3), (17, .aload_n 0, 1), (18, .getfield 7, 3), (21, .iconst 1, 1), (22, .iload_n 3, 1), (23, .iastore, 1), (24, .aload_n 0, 1), (25, .iconst 0, 1), (26, .putfield 43, 3), (29, .aload_n 0, 1), (30, .iconst 1, 1), (31, .invokevirtual 125, 3), (34, .ifCond .ne 7, 3), (37, .iload_n 3, 1), (38, .goto 4, 3), (41, .iload_n 2, 1), (42, .istore_n 2, 1), (43, .iinc 3 (-1), 3), (46, .goto (-33), 3), (49, .aload_n 0, 1), (50, .getfield 7, 3), (53, .iconst 1, 1), (54, .iload_n 1, 1), (55, .iastore, 1), (56, .aload_n 0, 1), (57, .iconst 0, 1), (58, .putfield 43, 3), (61, .iload_n 2, 1), (62, .ireturn, 1)]
theorem D_X5_leastRooms : ∀ q ∈ T_X5_leastRooms, decode cX5_leastRooms q.1 = .ok q.2 := by decide +kernel
theorem V_X5_leastRooms : Vy yX5_leastRooms cX5_leastRooms 4 (some .int) 0 := ⟨k615, k415, by decide +kernel⟩
theorem i_X5_leastRooms : Cond.instanceMethod yX5_leastRooms ∈ TB := k739
theorem s_X5_leastRooms : Cond.selects yX5_leastRooms.cls yX5_leastRooms yX5_leastRooms ∈ TB := k740
noncomputable def f_X5_leastRooms_b13  (x1_13 : Int32) (r13 : JV → Int32 → Int32 → Option (Int32 × JV)) (vM_13 : JV) (x2_13 : Int32) (x3_13 : Int32) : Option (Int32 × JV) :=
  (if x3_13 < 0 then some (x2_13, (up2 (up2 vM_13 0 1 x1_13) 9 0 (0 : Int32))) else (f_X5_without (up2 (up2 vM_13 0 1 x3_13) 9 0 (0 : Int32)) (1 : Int32)).bind (fun q2 => (if (q2.1) = 0 then r13 (q2.2) x3_13 (x3_13 + (-1 : Int32)) else r13 (q2.2) x2_13 (x3_13 + (-1 : Int32)))))
noncomputable def f_X5_leastRooms_L13  (x1_13 : Int32) (n : Nat) (vM_13 : JV) (x2_13 : Int32) (x3_13 : Int32) : Option (Int32 × JV) :=
  lp (fun (rec : JV × Int32 × Int32 → Option (Int32 × JV)) a => f_X5_leastRooms_b13  x1_13 (fun vM_13 x2_13 x3_13 => rec (vM_13, x2_13, x3_13)) a.1 a.2.1 a.2.2) n (vM_13, x2_13, x3_13)
noncomputable def f_X5_leastRooms (vM : JV)  : Option (Int32 × JV) :=
  f_X5_leastRooms_L13  ((vM 0) 1) FU vM (-6 : Int32) (6 : Int32)
set_option maxRecDepth 100000 in
set_option maxHeartbeats 4000000 in
theorem c_X5_leastRooms {l : Launch} {G : JG} (aM : Nat → Nat) (vM : JV)  {Rz : Int32 × JV} (h : f_X5_leastRooms vM = some Rz) : JM l G yX5_leastRooms cX5_leastRooms 4 (some .int) 7 156 [.ref (aM 0)] (wMod G aM (vM 0) (vM 1) (vM 2) (vM 3) (vM 4) (vM 5) (vM 6) (vM 7) (vM 8) (vM 9 0) (vM 10 0) (vM 11 0) (vM 12 0) (vM 13 0)) (wMod G aM ((Rz.2) 0) ((Rz.2) 1) ((Rz.2) 2) ((Rz.2) 3) ((Rz.2) 4) ((Rz.2) 5) ((Rz.2) 6) ((Rz.2) 7) ((Rz.2) 8) ((Rz.2) 9 0) ((Rz.2) 10 0) ((Rz.2) 11 0) ((Rz.2) 12 0) ((Rz.2) 13 0)) (some (.int (Rz.1))) := by
  refine JM.of (own := RX5) (tb := T_X5_leastRooms) (by decide) (Nat.le_of_ble_eq_true rfl) D_X5_leastRooms rfl (fun X C => ?_)
  refine J_sub (lv' := [(0, .ref (aM 0))]) [0] rfl ?_
  have B13 : ∀ (x1_13 : Int32) (n13 : Nat) (vM_13 : JV) (x2_13 : Int32) (x3_13 : Int32), f_X5_leastRooms_L13  x1_13 n13 vM_13 x2_13 x3_13 = some Rz → J l { frames := 7, cells := 0, slots := 0, locals := 156 } G 4 X (QM X G 0 0 (some (.int (Rz.1))) (wMod G aM ((Rz.2) 0) ((Rz.2) 1) ((Rz.2) 2) ((Rz.2) 3) ((Rz.2) 4) ((Rz.2) 5) ((Rz.2) 6) ((Rz.2) 7) ((Rz.2) 8) ((Rz.2) 9 0) ((Rz.2) 10 0) ((Rz.2) 11 0) ((Rz.2) 12 0) ((Rz.2) 13 0))) 0 0 13 [(0, .ref (aM 0)), (1, .int x1_13), (2, .int x2_13), (3, .int x3_13)] [] (wMod G aM (vM_13 0) (vM_13 1) (vM_13 2) (vM_13 3) (vM_13 4) (vM_13 5) (vM_13 6) (vM_13 7) (vM_13 8) (vM_13 9 0) (vM_13 10 0) (vM_13 11 0) (vM_13 12 0) (vM_13 13 0)) := by
    intro x1_13 n13
    induction n13 with
    | zero =>
      intro vM_13 x2_13 x3_13 h
      exact (no_none rfl h).elim
    | succ n13 ih13 =>
      intro vM_13 x2_13 x3_13 h
      replace h : f_X5_leastRooms_b13  x1_13 (fun vM_13 x2_13 x3_13 => f_X5_leastRooms_L13  x1_13 n13 vM_13 x2_13 x3_13) vM_13 x2_13 x3_13 = some Rz := h
      unfold f_X5_leastRooms_b13 at h
      refine J_iload_n (pc := 13) C 9 rfl 3 rfl rfl ?_
      refine J_if_lt (pc := 14) (tgt := 49) C 10 rfl rfl (fun c1 => ?_) (fun c1 => ?_)
      · rw [if_pos c1] at h
        refine J_aload_n (pc := 49) C 29 rfl 0 rfl rfl ?_
        refine J_get (pc := 50) (v := .ref (aM 1)) C 30 rfl TB_l5 rfl 0 0 rfl (by decide) k399 rfl rfl ?_
        refine J_iconst (pc := 53) (v := (1 : Int32)) C 31 rfl rfl ?_
        refine J_iload_n (pc := 54) C 32 rfl 1 rfl rfl ?_
        refine J_iast (pc := 55) (f := (vM_13 0)) (m := 1) C 33 (fun mm vv => (wMod G aM (upd (vM_13 0) mm vv) (vM_13 1) (vM_13 2) (vM_13 3) (vM_13 4) (vM_13 5) (vM_13 6) (vM_13 7) (vM_13 8) (vM_13 9 0) (vM_13 10 0) (vM_13 11 0) (vM_13 12 0) (vM_13 13 0))) rfl 1 rfl rfl rfl (fun _ _ => rfl) ?_
        refine J_aload_n (pc := 56) C 34 rfl 0 rfl rfl ?_
        refine J_iconst (pc := 57) (v := (0 : Int32)) C 35 rfl rfl ?_
        refine J_putz (pc := 58) C 36 (fun vv => (wMod G aM (upd (vM_13 0) 1 x1_13) (vM_13 1) (vM_13 2) (vM_13 3) (vM_13 4) (vM_13 5) (vM_13 6) (vM_13 7) (vM_13 8) vv (vM_13 10 0) (vM_13 11 0) (vM_13 12 0) (vM_13 13 0))) rfl rfl TB_l5 tyX5 tyX5_ok nmX5 rfl 0 9 rfl (by decide) k419 rfl rfl rfl (Nat.le_of_ble_eq_true rfl) (fun _ => rfl) ?_
        refine J_iload_n (pc := 61) C 37 rfl 2 rfl rfl ?_
        cases h
        exact J_iret (pc := 62) C 38 rfl
      · rw [if_neg c1] at h
        refine J_aload_n (pc := 17) C 11 rfl 0 rfl rfl ?_
        refine J_get (pc := 18) (v := .ref (aM 1)) C 12 rfl TB_l5 rfl 0 0 rfl (by decide) k399 rfl rfl ?_
        refine J_iconst (pc := 21) (v := (1 : Int32)) C 13 rfl rfl ?_
        refine J_iload_n (pc := 22) C 14 rfl 3 rfl rfl ?_
        refine J_iast (pc := 23) (f := (vM_13 0)) (m := 1) C 15 (fun mm vv => (wMod G aM (upd (vM_13 0) mm vv) (vM_13 1) (vM_13 2) (vM_13 3) (vM_13 4) (vM_13 5) (vM_13 6) (vM_13 7) (vM_13 8) (vM_13 9 0) (vM_13 10 0) (vM_13 11 0) (vM_13 12 0) (vM_13 13 0))) rfl 1 rfl rfl rfl (fun _ _ => rfl) ?_
        refine J_aload_n (pc := 24) C 16 rfl 0 rfl rfl ?_
        refine J_iconst (pc := 25) (v := (0 : Int32)) C 17 rfl rfl ?_
        refine J_putz (pc := 26) C 18 (fun vv => (wMod G aM (upd (vM_13 0) 1 x3_13) (vM_13 1) (vM_13 2) (vM_13 3) (vM_13 4) (vM_13 5) (vM_13 6) (vM_13 7) (vM_13 8) vv (vM_13 10 0) (vM_13 11 0) (vM_13 12 0) (vM_13 13 0))) rfl rfl TB_l5 tyX5 tyX5_ok nmX5 rfl 0 9 rfl (by decide) k419 rfl rfl rfl (Nat.le_of_ble_eq_true rfl) (fun _ => rfl) ?_
        refine J_aload_n (pc := 29) C 19 rfl 0 rfl rfl ?_
        refine J_iconst (pc := 30) (v := (1 : Int32)) C 20 rfl rfl ?_
        obtain ⟨q2, hq2, h⟩ := bnd h
        refine J_callV (pc := 31) (st2 := []) (st3 := [.int (q2.1)]) (ws2 := (wMod G aM ((q2.2) 0) ((q2.2) 1) ((q2.2) 2) ((q2.2) 3) ((q2.2) 4) ((q2.2) 5) ((q2.2) 6) ((q2.2) 7) ((q2.2) 8) ((q2.2) 9 0) ((q2.2) 10 0) ((q2.2) 11 0) ((q2.2) 12 0) ((q2.2) 13 0))) C 21 rfl (c_X5_without aM (up2 (up2 vM_13 0 1 x3_13) 9 0 (0 : Int32)) (1 : Int32) hq2) V_X5_without k514 i_X5_without s_X5_without rfl rfl ⟨Nat.le_of_ble_eq_true rfl, Nat.le_of_ble_eq_true rfl⟩ (Nat.le_of_ble_eq_true rfl) ⟨Nat.le_refl _, Nat.le_refl _⟩ 0 5 rfl rfl rfl (isC := [0, 1, 2, 3, 4, 5, 6, 7, 8, 9]) (isR := []) (N := 10) ⟨rfl, by decide +kernel, rfl, by decide +kernel, rfl, trivial⟩ rfl ?_
        refine J_if_ne (pc := 34) (tgt := 41) C 22 rfl rfl (fun c3 => ?_) (fun c3 => ?_)
        · rw [if_neg c3] at h
          refine J_iload_n (pc := 41) C 25 rfl 2 rfl rfl ?_
          refine J_istore_n (pc := 42) (lv' := [(2, .int x2_13), (0, .ref (aM 0)), (1, .int x1_13), (3, .int x3_13)]) C 26 rfl rfl (by decide) rfl ?_
          refine J_iinc (pc := 43) (v := (x3_13 + (-1 : Int32))) (lv' := [(3, .int (x3_13 + (-1 : Int32))), (2, .int x2_13), (0, .ref (aM 0)), (1, .int x1_13)]) C 27 rfl 3 rfl rfl (by decide) rfl ?_
          refine J_goto (pc := 46) (tgt := 13) C 28 rfl rfl ?_
          exact J_sub [2, 3, 1, 0] rfl (ih13 (q2.2) x2_13 (x3_13 + (-1 : Int32)) h)
        · rw [if_pos c3] at h
          refine J_iload_n (pc := 37) C 23 rfl 3 rfl rfl ?_
          refine J_goto (pc := 38) (tgt := 42) C 24 rfl rfl ?_
          refine J_istore_n (pc := 42) (lv' := [(2, .int x3_13), (0, .ref (aM 0)), (1, .int x1_13), (3, .int x3_13)]) C 26 rfl rfl (by decide) rfl ?_
          refine J_iinc (pc := 43) (v := (x3_13 + (-1 : Int32))) (lv' := [(3, .int (x3_13 + (-1 : Int32))), (2, .int x3_13), (0, .ref (aM 0)), (1, .int x1_13)]) C 27 rfl 3 rfl rfl (by decide) rfl ?_
          refine J_goto (pc := 46) (tgt := 13) C 28 rfl rfl ?_
          exact J_sub [2, 3, 1, 0] rfl (ih13 (q2.2) x3_13 (x3_13 + (-1 : Int32)) h)
  unfold f_X5_leastRooms at h
  refine J_aload_n (pc := 0) C 0 rfl 0 rfl rfl ?_
  refine J_get (pc := 1) (v := .ref (aM 1)) C 1 rfl TB_l5 rfl 0 0 rfl (by decide) k399 rfl rfl ?_
  refine J_iconst (pc := 4) (v := (1 : Int32)) C 2 rfl rfl ?_
  refine J_iald (pc := 5) (f := (vM 0)) (v := ((vM 0) 1)) C 3 rfl 1 rfl rfl rfl ?_
  refine J_istore_n (pc := 6) (lv' := [(1, .int ((vM 0) 1)), (0, .ref (aM 0))]) C 4 rfl rfl (by decide) rfl ?_
  refine J_bipush (pc := 7) (v := (-6 : Int32)) C 5 rfl rfl ?_
  refine J_istore_n (pc := 9) (lv' := [(2, .int (-6 : Int32)), (1, .int ((vM 0) 1)), (0, .ref (aM 0))]) C 6 rfl rfl (by decide) rfl ?_
  refine J_bipush (pc := 10) (v := (6 : Int32)) C 7 rfl rfl ?_
  refine J_istore_n (pc := 12) (lv' := [(3, .int (6 : Int32)), (2, .int (-6 : Int32)), (1, .int ((vM 0) 1)), (0, .ref (aM 0))]) C 8 rfl rfl (by decide) rfl ?_
  exact J_sub [3, 2, 1, 0] rfl (B13 ((vM 0) 1) FU vM (-6 : Int32) (6 : Int32) h)
def T_X5_put : List (Nat × ClassFile.Instr × Nat) := [(0, .iconst 0, 1), (1, .istore_n 3, 1), (2, .lload_n 1, 1), (3, .lstore 4, 2), (5, .iload_n 3, 1), (6, .bipush 8, 2), (8, .if_icmp .ge 52, 3), (11, .lload 4, 2), (13, .lconst 0, 1), (14, .lcmp, 1), (15, .ifCond .eq 45, 3), (18, .lload 4, 2), (20, .ldc2_w 210, 3), (23, .land, 1), (24, .lstore 6, 2), (26, .lload 6, 2), (28, .ldc2_w 212, 3), (31, .lcmp, 1), (32, .ifCond .lt 12, 3), (35, .lload 6, 2), (37, .ldc2_w 214, 3), (40, .lcmp, 1), (41, .ifCond .le 6, 3), (44, .bipush (-2), 2), (46, .ireturn, 1), (47, .lload 4, 2), (49, .bipush 8, 2), (51, .lushr, 1), (52, .lstore 4, 2), (54, .iinc 3 1, 3), (57, .goto (-52), 3), (60, .iload_n 3, 1), (61, .ifCond .ne 6, 3), (64, .bipush (-2), 2), (66, .ireturn, 1), (67, .aload_n 0, 1), (68, .getfield 131, 3), (71, .iload_n 3, 1), (72, .iadd, 1), (73, .bipush 60, 2), (75, .if_icmp .le 6, 3), (78, .bipush (-4), 2), (80, .ireturn, 1), (81, .iload_n 3, 1), (82, .iconst 1, 1), (83, .isub, 1), (84, .istore 6, 2), (86, .iload 6, 2), (88, .ifCond .lt 41, 3), (91, .aload_n 0, 1), (92, .getfield 35, 3), (95, .aload_n 0, 1), (96, .getfield 131, 3), (99, .lload_n 1, 1), (100, .bipush 8, 2), (102, .iload 6, 2), (104, .imul, 1), (105, .lushr, 1), (106, .ldc2_w 210, 3), (109, .land, 1), (110, .l2i, 1), (111, .i2c, 1), (112, .castore, 1), (113, .aload_n 0, 1), (114, .dup, 1), (115, .getfield 131, 3), (118, .iconst 1, 1), (119, .iadd, 1), (120, .putfield 131, 3), (123, .iinc 6 (-1), 3), (126, .goto (-40), 3), (129, .aload_n 0, 1), (130, .getfield 131, 3), (133, .ireturn, 1)]
theorem D_X5_put : ∀ q ∈ T_X5_put, decode cX5_put q.1 = .ok q.2 := by decide +kernel
theorem V_X5_put : Vy yX5_put cX5_put 8 (some .int) 1 := ⟨k616, k415, by decide +kernel⟩
theorem i_X5_put : Cond.instanceMethod yX5_put ∈ TB := k745
theorem s_X5_put : Cond.selects yX5_put.cls yX5_put yX5_put ∈ TB := k746
noncomputable def f_X5_put_b86  (x1_86 : Int64) (r86 : JV → Int32 → Option (Int32 × JV)) (vM_86 : JV) (x6_86 : Int32) : Option (Int32 × JV) :=
  (if x6_86 < 0 then some ((vM_86 10 0), vM_86) else gd (inb (vM_86 10 0) 60) (gd (isc (UInt32.toInt32 (Int32.toUInt32 (Int64.toInt32 ((UInt64.toInt64 (Int64.toUInt64 x1_86 >>> (Int64.toUInt64 (Int32.toInt64 ((8 : Int32) * x6_86)) &&& Int64.toUInt64 63))) &&& (255 : Int64))) % 65536))) (r86 (up2 (up2 vM_86 8 (Int32.toNatClampNeg (vM_86 10 0)) (UInt32.toInt32 (Int32.toUInt32 (Int64.toInt32 ((UInt64.toInt64 (Int64.toUInt64 x1_86 >>> (Int64.toUInt64 (Int32.toInt64 ((8 : Int32) * x6_86)) &&& Int64.toUInt64 63))) &&& (255 : Int64))) % 65536))) 10 0 ((vM_86 10 0) + (1 : Int32))) (x6_86 + (-1 : Int32)))))
noncomputable def f_X5_put_L86  (x1_86 : Int64) (n : Nat) (vM_86 : JV) (x6_86 : Int32) : Option (Int32 × JV) :=
  lp (fun (rec : JV × Int32 → Option (Int32 × JV)) a => f_X5_put_b86  x1_86 (fun vM_86 x6_86 => rec (vM_86, x6_86)) a.1 a.2) n (vM_86, x6_86)
noncomputable def f_X5_put_K60  (vM_60 : JV) (x1_60 : Int64) (x3_60 : Int32) : Option (Int32 × JV) :=
  (if x3_60 = 0 then some ((-2 : Int32), vM_60) else (if ((vM_60 10 0) + x3_60) ≤ (60 : Int32) then f_X5_put_L86  x1_60 FU vM_60 (x3_60 - (1 : Int32)) else some ((-4 : Int32), vM_60)))
noncomputable def f_X5_put_b5  (x1_5 : Int64) (r5 : JV → Int32 → Int64 → Option (Int32 × JV)) (vM_5 : JV) (x3_5 : Int32) (x4_5 : Int64) : Option (Int32 × JV) :=
  (if (8 : Int32) ≤ x3_5 then f_X5_put_K60  vM_5 x1_5 x3_5 else (if (lg_cmp x4_5 (0 : Int64)) = 0 then f_X5_put_K60  vM_5 x1_5 x3_5 else (if (lg_cmp (x4_5 &&& (255 : Int64)) (33 : Int64)) < 0 then some ((-2 : Int32), vM_5) else (if (lg_cmp (x4_5 &&& (255 : Int64)) (126 : Int64)) ≤ 0 then r5 vM_5 (x3_5 + (1 : Int32)) (UInt64.toInt64 (Int64.toUInt64 x4_5 >>> (Int64.toUInt64 (Int32.toInt64 (8 : Int32)) &&& Int64.toUInt64 63))) else some ((-2 : Int32), vM_5)))))
noncomputable def f_X5_put_L5  (x1_5 : Int64) (n : Nat) (vM_5 : JV) (x3_5 : Int32) (x4_5 : Int64) : Option (Int32 × JV) :=
  lp (fun (rec : JV × Int32 × Int64 → Option (Int32 × JV)) a => f_X5_put_b5  x1_5 (fun vM_5 x3_5 x4_5 => rec (vM_5, x3_5, x4_5)) a.1 a.2.1 a.2.2) n (vM_5, x3_5, x4_5)
noncomputable def f_X5_put (vM : JV) (x1 : Int64) : Option (Int32 × JV) :=
  f_X5_put_L5  x1 FU vM (0 : Int32) x1
set_option maxRecDepth 100000 in
set_option maxHeartbeats 4000000 in
theorem c_X5_put {l : Launch} {G : JG} (aM : Nat → Nat) (vM : JV) (x1 : Int64) {Rz : Int32 × JV} (h : f_X5_put vM x1 = some Rz) : JM l G yX5_put cX5_put 8 (some .int) 0 0 [.ref (aM 0), .long x1] (wMod G aM (vM 0) (vM 1) (vM 2) (vM 3) (vM 4) (vM 5) (vM 6) (vM 7) (vM 8) (vM 9 0) (vM 10 0) (vM 11 0) (vM 12 0) (vM 13 0)) (wMod G aM ((Rz.2) 0) ((Rz.2) 1) ((Rz.2) 2) ((Rz.2) 3) ((Rz.2) 4) ((Rz.2) 5) ((Rz.2) 6) ((Rz.2) 7) ((Rz.2) 8) ((Rz.2) 9 0) ((Rz.2) 10 0) ((Rz.2) 11 0) ((Rz.2) 12 0) ((Rz.2) 13 0)) (some (.int (Rz.1))) := by
  refine JM.of (own := RX5) (tb := T_X5_put) (by decide) (Nat.le_of_ble_eq_true rfl) D_X5_put rfl (fun X C => ?_)
  refine J_sub (lv' := [(0, .ref (aM 0)), (1, .long x1)]) [0, 1] rfl ?_
  have B86 : ∀ (x1_86 : Int64) (n86 : Nat) (vM_86 : JV) (x6_86 : Int32), f_X5_put_L86  x1_86 n86 vM_86 x6_86 = some Rz → J l { frames := 0, cells := 0, slots := 0, locals := 0 } G 8 X (QM X G 0 0 (some (.int (Rz.1))) (wMod G aM ((Rz.2) 0) ((Rz.2) 1) ((Rz.2) 2) ((Rz.2) 3) ((Rz.2) 4) ((Rz.2) 5) ((Rz.2) 6) ((Rz.2) 7) ((Rz.2) 8) ((Rz.2) 9 0) ((Rz.2) 10 0) ((Rz.2) 11 0) ((Rz.2) 12 0) ((Rz.2) 13 0))) 0 0 86 [(0, .ref (aM 0)), (1, .long x1_86), (6, .int x6_86)] [] (wMod G aM (vM_86 0) (vM_86 1) (vM_86 2) (vM_86 3) (vM_86 4) (vM_86 5) (vM_86 6) (vM_86 7) (vM_86 8) (vM_86 9 0) (vM_86 10 0) (vM_86 11 0) (vM_86 12 0) (vM_86 13 0)) := by
    intro x1_86 n86
    induction n86 with
    | zero =>
      intro vM_86 x6_86 h
      exact (no_none rfl h).elim
    | succ n86 ih86 =>
      intro vM_86 x6_86 h
      replace h : f_X5_put_b86  x1_86 (fun vM_86 x6_86 => f_X5_put_L86  x1_86 n86 vM_86 x6_86) vM_86 x6_86 = some Rz := h
      unfold f_X5_put_b86 at h
      refine J_iload (pc := 86) C 47 rfl 2 rfl ?_
      refine J_if_lt (pc := 88) (tgt := 129) C 48 rfl rfl (fun c4 => ?_) (fun c4 => ?_)
      · rw [if_pos c4] at h
        refine J_aload_n (pc := 129) C 71 rfl 0 rfl rfl ?_
        refine J_get (pc := 130) (v := .int (vM_86 10 0)) C 72 rfl TB_l5 rfl 0 10 rfl (by decide) k520 rfl rfl ?_
        cases h
        exact J_iret (pc := 133) C 73 rfl
      · rw [if_neg c4] at h
        refine J_aload_n (pc := 91) C 49 rfl 0 rfl rfl ?_
        refine J_get (pc := 92) (v := .ref (aM 9)) C 50 rfl TB_l5 rfl 0 8 rfl (by decide) k408 rfl rfl ?_
        refine J_aload_n (pc := 95) C 51 rfl 0 rfl rfl ?_
        refine J_get (pc := 96) (v := .int (vM_86 10 0)) C 52 rfl TB_l5 rfl 0 10 rfl (by decide) k520 rfl rfl ?_
        refine J_lload_n (pc := 99) C 53 rfl 1 rfl rfl ?_
        refine J_bipush (pc := 100) (v := (8 : Int32)) C 54 rfl rfl ?_
        refine J_iload (pc := 102) C 55 rfl 2 rfl ?_
        refine J_imul (pc := 104) C 56 rfl  ?_
        refine J_lushr (pc := 105) C 57 rfl  ?_
        refine J_ldc2 (pc := 106) (v := (255 : Int64)) C 58 rfl k617 ?_
        refine J_land (pc := 109) C 59 rfl  ?_
        refine J_l2i (pc := 110) C 60 rfl  ?_
        refine J_i2c (pc := 111) C 61 rfl  ?_
        obtain ⟨g5, h⟩ := gd_some h
        obtain ⟨g6, h⟩ := gd_some h
        refine J_cast (pc := 112) (f := (vM_86 8)) (m := (Int32.toNatClampNeg (vM_86 10 0))) C 62 (fun mm vv => (wMod G aM (vM_86 0) (vM_86 1) (vM_86 2) (vM_86 3) (vM_86 4) (vM_86 5) (vM_86 6) (vM_86 7) (upd (vM_86 8) mm vv) (vM_86 9 0) (vM_86 10 0) (vM_86 11 0) (vM_86 12 0) (vM_86 13 0))) rfl 9 rfl g5 g6 rfl (fun _ _ => rfl) ?_
        refine J_aload_n (pc := 113) C 63 rfl 0 rfl rfl ?_
        refine J_dup (pc := 114) C 64 rfl rfl ?_
        refine J_get (pc := 115) (v := .int (vM_86 10 0)) C 65 rfl TB_l5 rfl 0 10 rfl (by decide) k520 rfl rfl ?_
        refine J_iconst (pc := 118) (v := (1 : Int32)) C 66 rfl rfl ?_
        refine J_iadd (pc := 119) C 67 rfl  ?_
        refine J_puti (pc := 120) C 68 (fun vv => (wMod G aM (vM_86 0) (vM_86 1) (vM_86 2) (vM_86 3) (vM_86 4) (vM_86 5) (vM_86 6) (vM_86 7) (upd (vM_86 8) (Int32.toNatClampNeg (vM_86 10 0)) (UInt32.toInt32 (Int32.toUInt32 (Int64.toInt32 ((UInt64.toInt64 (Int64.toUInt64 x1_86 >>> (Int64.toUInt64 (Int32.toInt64 ((8 : Int32) * x6_86)) &&& Int64.toUInt64 63))) &&& (255 : Int64))) % 65536))) (vM_86 9 0) vv (vM_86 11 0) (vM_86 12 0) (vM_86 13 0))) rfl TB_l5 tyX5 tyX5_ok nmX5 rfl 0 10 rfl (by decide) k520 rfl rfl rfl (Nat.le_of_ble_eq_true rfl) (fun _ => rfl) ?_
        refine J_iinc (pc := 123) (v := (x6_86 + (-1 : Int32))) (lv' := [(6, .int (x6_86 + (-1 : Int32))), (0, .ref (aM 0)), (1, .long x1_86)]) C 69 rfl 2 rfl rfl (by decide) rfl ?_
        refine J_goto (pc := 126) (tgt := 86) C 70 rfl rfl ?_
        exact J_sub [1, 2, 0] rfl (ih86 (up2 (up2 vM_86 8 (Int32.toNatClampNeg (vM_86 10 0)) (UInt32.toInt32 (Int32.toUInt32 (Int64.toInt32 ((UInt64.toInt64 (Int64.toUInt64 x1_86 >>> (Int64.toUInt64 (Int32.toInt64 ((8 : Int32) * x6_86)) &&& Int64.toUInt64 63))) &&& (255 : Int64))) % 65536))) 10 0 ((vM_86 10 0) + (1 : Int32))) (x6_86 + (-1 : Int32)) h)
  have B60 : ∀ (vM_60 : JV) (x1_60 : Int64) (x3_60 : Int32), f_X5_put_K60  vM_60 x1_60 x3_60 = some Rz → J l { frames := 0, cells := 0, slots := 0, locals := 0 } G 8 X (QM X G 0 0 (some (.int (Rz.1))) (wMod G aM ((Rz.2) 0) ((Rz.2) 1) ((Rz.2) 2) ((Rz.2) 3) ((Rz.2) 4) ((Rz.2) 5) ((Rz.2) 6) ((Rz.2) 7) ((Rz.2) 8) ((Rz.2) 9 0) ((Rz.2) 10 0) ((Rz.2) 11 0) ((Rz.2) 12 0) ((Rz.2) 13 0))) 0 0 60 [(0, .ref (aM 0)), (1, .long x1_60), (3, .int x3_60)] [] (wMod G aM (vM_60 0) (vM_60 1) (vM_60 2) (vM_60 3) (vM_60 4) (vM_60 5) (vM_60 6) (vM_60 7) (vM_60 8) (vM_60 9 0) (vM_60 10 0) (vM_60 11 0) (vM_60 12 0) (vM_60 13 0)) := by
    intro vM_60 x1_60 x3_60 h
    unfold f_X5_put_K60 at h
    refine J_iload_n (pc := 60) C 31 rfl 2 rfl rfl ?_
    refine J_if_ne (pc := 61) (tgt := 67) C 32 rfl rfl (fun c2 => ?_) (fun c2 => ?_)
    · rw [if_neg c2] at h
      refine J_aload_n (pc := 67) C 35 rfl 0 rfl rfl ?_
      refine J_get (pc := 68) (v := .int (vM_60 10 0)) C 36 rfl TB_l5 rfl 0 10 rfl (by decide) k520 rfl rfl ?_
      refine J_iload_n (pc := 71) C 37 rfl 2 rfl rfl ?_
      refine J_iadd (pc := 72) C 38 rfl  ?_
      refine J_bipush (pc := 73) (v := (60 : Int32)) C 39 rfl rfl ?_
      refine J_icmp_le (pc := 75) (tgt := 81) C 40 rfl rfl (fun c3 => ?_) (fun c3 => ?_)
      · rw [if_pos c3] at h
        refine J_iload_n (pc := 81) C 43 rfl 2 rfl rfl ?_
        refine J_iconst (pc := 82) (v := (1 : Int32)) C 44 rfl rfl ?_
        refine J_isub (pc := 83) C 45 rfl  ?_
        refine J_istore (pc := 84) (lv' := [(6, .int (x3_60 - (1 : Int32))), (0, .ref (aM 0)), (1, .long x1_60), (3, .int x3_60)]) C 46 rfl (by decide) rfl ?_
        exact J_sub [1, 2, 0] rfl (B86 x1_60 FU vM_60 (x3_60 - (1 : Int32)) h)
      · rw [if_neg c3] at h
        refine J_bipush (pc := 78) (v := (-4 : Int32)) C 41 rfl rfl ?_
        cases h
        exact J_iret (pc := 80) C 42 rfl
    · rw [if_pos c2] at h
      refine J_bipush (pc := 64) (v := (-2 : Int32)) C 33 rfl rfl ?_
      cases h
      exact J_iret (pc := 66) C 34 rfl
  have B5 : ∀ (x1_5 : Int64) (n5 : Nat) (vM_5 : JV) (x3_5 : Int32) (x4_5 : Int64), f_X5_put_L5  x1_5 n5 vM_5 x3_5 x4_5 = some Rz → J l { frames := 0, cells := 0, slots := 0, locals := 0 } G 8 X (QM X G 0 0 (some (.int (Rz.1))) (wMod G aM ((Rz.2) 0) ((Rz.2) 1) ((Rz.2) 2) ((Rz.2) 3) ((Rz.2) 4) ((Rz.2) 5) ((Rz.2) 6) ((Rz.2) 7) ((Rz.2) 8) ((Rz.2) 9 0) ((Rz.2) 10 0) ((Rz.2) 11 0) ((Rz.2) 12 0) ((Rz.2) 13 0))) 0 0 5 [(0, .ref (aM 0)), (1, .long x1_5), (3, .int x3_5), (4, .long x4_5)] [] (wMod G aM (vM_5 0) (vM_5 1) (vM_5 2) (vM_5 3) (vM_5 4) (vM_5 5) (vM_5 6) (vM_5 7) (vM_5 8) (vM_5 9 0) (vM_5 10 0) (vM_5 11 0) (vM_5 12 0) (vM_5 13 0)) := by
    intro x1_5 n5
    induction n5 with
    | zero =>
      intro vM_5 x3_5 x4_5 h
      exact (no_none rfl h).elim
    | succ n5 ih5 =>
      intro vM_5 x3_5 x4_5 h
      replace h : f_X5_put_b5  x1_5 (fun vM_5 x3_5 x4_5 => f_X5_put_L5  x1_5 n5 vM_5 x3_5 x4_5) vM_5 x3_5 x4_5 = some Rz := h
      unfold f_X5_put_b5 at h
      refine J_iload_n (pc := 5) C 4 rfl 2 rfl rfl ?_
      refine J_bipush (pc := 6) (v := (8 : Int32)) C 5 rfl rfl ?_
      refine J_icmp_ge (pc := 8) (tgt := 60) C 6 rfl rfl (fun c1 => ?_) (fun c1 => ?_)
      · rw [if_pos c1] at h
        exact J_sub [0, 1, 2] rfl (B60 vM_5 x1_5 x3_5 h)
      · rw [if_neg c1] at h
        refine J_lload (pc := 11) C 7 rfl 3 rfl ?_
        refine J_lconst (pc := 13) (v := (0 : Int64)) C 8 rfl rfl ?_
        refine J_lcmp (pc := 14) C 9 rfl  ?_
        refine J_if_eq (pc := 15) (tgt := 60) C 10 rfl rfl (fun c7 => ?_) (fun c7 => ?_)
        · rw [if_pos c7] at h
          exact J_sub [0, 1, 2] rfl (B60 vM_5 x1_5 x3_5 h)
        · rw [if_neg c7] at h
          refine J_lload (pc := 18) C 11 rfl 3 rfl ?_
          refine J_ldc2 (pc := 20) (v := (255 : Int64)) C 12 rfl k617 ?_
          refine J_land (pc := 23) C 13 rfl  ?_
          refine J_lstore (pc := 24) (lv' := [(6, .long (x4_5 &&& (255 : Int64))), (0, .ref (aM 0)), (1, .long x1_5), (3, .int x3_5), (4, .long x4_5)]) C 14 rfl (by decide) rfl ?_
          refine J_lload (pc := 26) C 15 rfl 0 rfl ?_
          refine J_ldc2 (pc := 28) (v := (33 : Int64)) C 16 rfl k618 ?_
          refine J_lcmp (pc := 31) C 17 rfl  ?_
          refine J_if_lt (pc := 32) (tgt := 44) C 18 rfl rfl (fun c8 => ?_) (fun c8 => ?_)
          · rw [if_pos c8] at h
            refine J_bipush (pc := 44) (v := (-2 : Int32)) C 23 rfl rfl ?_
            cases h
            exact J_iret (pc := 46) C 24 rfl
          · rw [if_neg c8] at h
            refine J_lload (pc := 35) C 19 rfl 0 rfl ?_
            refine J_ldc2 (pc := 37) (v := (126 : Int64)) C 20 rfl k619 ?_
            refine J_lcmp (pc := 40) C 21 rfl  ?_
            refine J_if_le (pc := 41) (tgt := 47) C 22 rfl rfl (fun c9 => ?_) (fun c9 => ?_)
            · rw [if_pos c9] at h
              refine J_lload (pc := 47) C 25 rfl 4 rfl ?_
              refine J_bipush (pc := 49) (v := (8 : Int32)) C 26 rfl rfl ?_
              refine J_lushr (pc := 51) C 27 rfl  ?_
              refine J_lstore (pc := 52) (lv' := [(4, .long (UInt64.toInt64 (Int64.toUInt64 x4_5 >>> (Int64.toUInt64 (Int32.toInt64 (8 : Int32)) &&& Int64.toUInt64 63)))), (6, .long (x4_5 &&& (255 : Int64))), (0, .ref (aM 0)), (1, .long x1_5), (3, .int x3_5)]) C 28 rfl (by decide) rfl ?_
              refine J_iinc (pc := 54) (v := (x3_5 + (1 : Int32))) (lv' := [(3, .int (x3_5 + (1 : Int32))), (4, .long (UInt64.toInt64 (Int64.toUInt64 x4_5 >>> (Int64.toUInt64 (Int32.toInt64 (8 : Int32)) &&& Int64.toUInt64 63)))), (6, .long (x4_5 &&& (255 : Int64))), (0, .ref (aM 0)), (1, .long x1_5)]) C 29 rfl 4 rfl rfl (by decide) rfl ?_
              refine J_goto (pc := 57) (tgt := 5) C 30 rfl rfl ?_
              exact J_sub [3, 4, 0, 1] rfl (ih5 vM_5 (x3_5 + (1 : Int32)) (UInt64.toInt64 (Int64.toUInt64 x4_5 >>> (Int64.toUInt64 (Int32.toInt64 (8 : Int32)) &&& Int64.toUInt64 63))) h)
            · rw [if_neg c9] at h
              refine J_bipush (pc := 44) (v := (-2 : Int32)) C 23 rfl rfl ?_
              cases h
              exact J_iret (pc := 46) C 24 rfl
  unfold f_X5_put at h
  refine J_iconst (pc := 0) (v := (0 : Int32)) C 0 rfl rfl ?_
  refine J_istore_n (pc := 1) (lv' := [(3, .int (0 : Int32)), (0, .ref (aM 0)), (1, .long x1)]) C 1 rfl rfl (by decide) rfl ?_
  refine J_lload_n (pc := 2) C 2 rfl 2 rfl rfl ?_
  refine J_lstore (pc := 3) (lv' := [(4, .long x1), (3, .int (0 : Int32)), (0, .ref (aM 0)), (1, .long x1)]) C 3 rfl (by decide) rfl ?_
  exact J_sub [2, 3, 1, 0] rfl (B5 x1 FU vM (0 : Int32) x1 h)
def T_X5_wipe : List (Nat × ClassFile.Instr × Nat) := [(0, .aload_n 0, 1), (1, .getfield 131, 3), (4, .istore_n 1, 1), (5, .aload_n 0, 1), (6, .iconst 0, 1), (7, .putfield 131, 3), (10, .iload_n 1, 1), (11, .ireturn, 1)]
theorem D_X5_wipe : ∀ q ∈ T_X5_wipe, decode cX5_wipe q.1 = .ok q.2 := by decide +kernel
theorem V_X5_wipe : Vy yX5_wipe cX5_wipe 2 (some .int) 0 := ⟨k620, k415, by decide +kernel⟩
theorem i_X5_wipe : Cond.instanceMethod yX5_wipe ∈ TB := k751
theorem s_X5_wipe : Cond.selects yX5_wipe.cls yX5_wipe yX5_wipe ∈ TB := k752
noncomputable def f_X5_wipe (vM : JV)  : Option (Int32 × JV) :=
  some ((vM 10 0), (up2 vM 10 0 (0 : Int32)))
set_option maxRecDepth 100000 in
set_option maxHeartbeats 4000000 in
theorem c_X5_wipe {l : Launch} {G : JG} (aM : Nat → Nat) (vM : JV)  {Rz : Int32 × JV} (h : f_X5_wipe vM = some Rz) : JM l G yX5_wipe cX5_wipe 2 (some .int) 0 0 [.ref (aM 0)] (wMod G aM (vM 0) (vM 1) (vM 2) (vM 3) (vM 4) (vM 5) (vM 6) (vM 7) (vM 8) (vM 9 0) (vM 10 0) (vM 11 0) (vM 12 0) (vM 13 0)) (wMod G aM ((Rz.2) 0) ((Rz.2) 1) ((Rz.2) 2) ((Rz.2) 3) ((Rz.2) 4) ((Rz.2) 5) ((Rz.2) 6) ((Rz.2) 7) ((Rz.2) 8) ((Rz.2) 9 0) ((Rz.2) 10 0) ((Rz.2) 11 0) ((Rz.2) 12 0) ((Rz.2) 13 0)) (some (.int (Rz.1))) := by
  refine JM.of (own := RX5) (tb := T_X5_wipe) (by decide) (Nat.le_of_ble_eq_true rfl) D_X5_wipe rfl (fun X C => ?_)
  refine J_sub (lv' := [(0, .ref (aM 0))]) [0] rfl ?_
  unfold f_X5_wipe at h
  refine J_aload_n (pc := 0) C 0 rfl 0 rfl rfl ?_
  refine J_get (pc := 1) (v := .int (vM 10 0)) C 1 rfl TB_l5 rfl 0 10 rfl (by decide) k520 rfl rfl ?_
  refine J_istore_n (pc := 4) (lv' := [(1, .int (vM 10 0)), (0, .ref (aM 0))]) C 2 rfl rfl (by decide) rfl ?_
  refine J_aload_n (pc := 5) C 3 rfl 1 rfl rfl ?_
  refine J_iconst (pc := 6) (v := (0 : Int32)) C 4 rfl rfl ?_
  refine J_puti (pc := 7) C 5 (fun vv => (wMod G aM (vM 0) (vM 1) (vM 2) (vM 3) (vM 4) (vM 5) (vM 6) (vM 7) (vM 8) (vM 9 0) vv (vM 11 0) (vM 12 0) (vM 13 0))) rfl TB_l5 tyX5 tyX5_ok nmX5 rfl 0 10 rfl (by decide) k520 rfl rfl rfl (Nat.le_of_ble_eq_true rfl) (fun _ => rfl) ?_
  refine J_iload_n (pc := 10) C 6 rfl 0 rfl rfl ?_
  cases h
  exact J_iret (pc := 11) C 7 rfl
def T_X5_fault : List (Nat × ClassFile.Instr × Nat) := [(0, .aload_n 0, 1), (1, .invokevirtual 156, 3), (4, .istore_n 1, 1), (5, .iload_n 1, 1), (6, .ifCond .ge 8, 3), (9, .bipush (-6), 2), (11, .goto 4, 3), (14, .iload_n 1, 1), (15, .ireturn, 1)]
theorem D_X5_fault : ∀ q ∈ T_X5_fault, decode cX5_fault q.1 = .ok q.2 := by decide +kernel
theorem V_X5_fault : Vy yX5_fault cX5_fault 2 (some .int) 0 := ⟨k621, k415, by decide +kernel⟩
theorem i_X5_fault : Cond.instanceMethod yX5_fault ∈ TB := k757
theorem s_X5_fault : Cond.selects yX5_fault.cls yX5_fault yX5_fault ∈ TB := k758
noncomputable def f_X5_fault (vM : JV)  : Option (Int32 × JV) :=
  (f_X5_faultOf vM).bind (fun q1 => (if 0 ≤ (q1.1) then some ((q1.1), (q1.2)) else some ((-6 : Int32), (q1.2))))
set_option maxRecDepth 100000 in
set_option maxHeartbeats 4000000 in
theorem c_X5_fault {l : Launch} {G : JG} (aM : Nat → Nat) (vM : JV)  {Rz : Int32 × JV} (h : f_X5_fault vM = some Rz) : JM l G yX5_fault cX5_fault 2 (some .int) 4 87 [.ref (aM 0)] (wMod G aM (vM 0) (vM 1) (vM 2) (vM 3) (vM 4) (vM 5) (vM 6) (vM 7) (vM 8) (vM 9 0) (vM 10 0) (vM 11 0) (vM 12 0) (vM 13 0)) (wMod G aM ((Rz.2) 0) ((Rz.2) 1) ((Rz.2) 2) ((Rz.2) 3) ((Rz.2) 4) ((Rz.2) 5) ((Rz.2) 6) ((Rz.2) 7) ((Rz.2) 8) ((Rz.2) 9 0) ((Rz.2) 10 0) ((Rz.2) 11 0) ((Rz.2) 12 0) ((Rz.2) 13 0)) (some (.int (Rz.1))) := by
  refine JM.of (own := RX5) (tb := T_X5_fault) (by decide) (Nat.le_of_ble_eq_true rfl) D_X5_fault rfl (fun X C => ?_)
  refine J_sub (lv' := [(0, .ref (aM 0))]) [0] rfl ?_
  unfold f_X5_fault at h
  refine J_aload_n (pc := 0) C 0 rfl 0 rfl rfl ?_
  obtain ⟨q1, hq1, h⟩ := bnd h
  refine J_callV (pc := 1) (st2 := []) (st3 := [.int (q1.1)]) (ws2 := (wMod G aM ((q1.2) 0) ((q1.2) 1) ((q1.2) 2) ((q1.2) 3) ((q1.2) 4) ((q1.2) 5) ((q1.2) 6) ((q1.2) 7) ((q1.2) 8) ((q1.2) 9 0) ((q1.2) 10 0) ((q1.2) 11 0) ((q1.2) 12 0) ((q1.2) 13 0))) C 1 rfl (c_X5_faultOf aM vM hq1) V_X5_faultOf k542 i_X5_faultOf s_X5_faultOf rfl rfl ⟨Nat.le_of_ble_eq_true rfl, Nat.le_of_ble_eq_true rfl⟩ (Nat.le_of_ble_eq_true rfl) ⟨Nat.le_refl _, Nat.le_refl _⟩ 0 5 rfl rfl rfl (isC := [0, 1, 2, 3, 4, 5, 6, 7, 8, 9]) (isR := []) (N := 10) ⟨rfl, by decide +kernel, rfl, by decide +kernel, rfl, trivial⟩ rfl ?_
  refine J_istore_n (pc := 4) (lv' := [(1, .int (q1.1)), (0, .ref (aM 0))]) C 2 rfl rfl (by decide) rfl ?_
  refine J_iload_n (pc := 5) C 3 rfl 0 rfl rfl ?_
  refine J_if_ge (pc := 6) (tgt := 14) C 4 rfl rfl (fun c2 => ?_) (fun c2 => ?_)
  · rw [if_pos c2] at h
    refine J_iload_n (pc := 14) C 7 rfl 0 rfl rfl ?_
    cases h
    exact J_iret (pc := 15) C 8 rfl
  · rw [if_neg c2] at h
    refine J_bipush (pc := 9) (v := (-6 : Int32)) C 5 rfl rfl ?_
    refine J_goto (pc := 11) (tgt := 15) C 6 rfl rfl ?_
    cases h
    exact J_iret (pc := 15) C 8 rfl
def T_X5_undo : List (Nat × ClassFile.Instr × Nat) := [(0, .aload_n 0, 1), (1, .getfield 47, 3), (4, .ifCond .ne 6, 3), (7, .bipush (-5), 2), (9, .ireturn, 1), (10, .aload_n 0, 1), (11, .iconst 0, 1), (12, .putfield 43, 3), (15, .aload_n 0, 1), (16, .dup, 1), (17, .getfield 47, 3), (20, .iconst 1, 1), (21, .isub, 1), (22, .putfield 47, 3), (25, .iconst 0, 1), (26, .istore_n 1, 1), (27, .iload_n 1, 1), (28, .bipush 76, 2), (30, .if_icmp .ge 29, 3), (33, .aload_n 0, 1), (34, .getfield 7, 3), (37, .iload_n 1, 1), (38, .aload_n 0, 1), (39, .getfield 19, 3), (42, .bipush 76, 2), (44, .aload_n 0, 1), (45, .getfield 47, 3), (48, .imul, 1), (49, .iload_n 1, 1), (50, .iadd, 1), (51, .iaload, 1), (52, .iastore, 1), (53, .iinc 1 1, 3), (56, .goto (-29), 3), (59, .aload_n 0, 1), (60, .getfield 47, 3), (63, .ireturn, 1)]
theorem D_X5_undo : ∀ q ∈ T_X5_undo, decode cX5_undo q.1 = .ok q.2 := by decide +kernel
theorem V_X5_undo : Vy yX5_undo cX5_undo 2 (some .int) 0 := ⟨k622, k415, by decide +kernel⟩
theorem i_X5_undo : Cond.instanceMethod yX5_undo ∈ TB := k763
theorem s_X5_undo : Cond.selects yX5_undo.cls yX5_undo yX5_undo ∈ TB := k764
noncomputable def f_X5_undo_b27  (r27 : JV → Int32 → Option (Int32 × JV)) (vM_27 : JV) (x1_27 : Int32) : Option (Int32 × JV) :=
  (if (76 : Int32) ≤ x1_27 then some ((vM_27 11 0), vM_27) else gd (inb (((76 : Int32) * (vM_27 11 0)) + x1_27) 456) (gd (inb x1_27 76) (r27 (up2 vM_27 0 (Int32.toNatClampNeg x1_27) ((vM_27 3) (Int32.toNatClampNeg (((76 : Int32) * (vM_27 11 0)) + x1_27)))) (x1_27 + (1 : Int32)))))
noncomputable def f_X5_undo_L27  (n : Nat) (vM_27 : JV) (x1_27 : Int32) : Option (Int32 × JV) :=
  lp (fun (rec : JV × Int32 → Option (Int32 × JV)) a => f_X5_undo_b27  (fun vM_27 x1_27 => rec (vM_27, x1_27)) a.1 a.2) n (vM_27, x1_27)
noncomputable def f_X5_undo (vM : JV)  : Option (Int32 × JV) :=
  (if (vM 11 0) = 0 then some ((-5 : Int32), vM) else f_X5_undo_L27   FU (up2 (up2 vM 9 0 (0 : Int32)) 11 0 ((vM 11 0) - (1 : Int32))) (0 : Int32))
set_option maxRecDepth 100000 in
set_option maxHeartbeats 4000000 in
theorem c_X5_undo {l : Launch} {G : JG} (aM : Nat → Nat) (vM : JV)  {Rz : Int32 × JV} (h : f_X5_undo vM = some Rz) : JM l G yX5_undo cX5_undo 2 (some .int) 0 0 [.ref (aM 0)] (wMod G aM (vM 0) (vM 1) (vM 2) (vM 3) (vM 4) (vM 5) (vM 6) (vM 7) (vM 8) (vM 9 0) (vM 10 0) (vM 11 0) (vM 12 0) (vM 13 0)) (wMod G aM ((Rz.2) 0) ((Rz.2) 1) ((Rz.2) 2) ((Rz.2) 3) ((Rz.2) 4) ((Rz.2) 5) ((Rz.2) 6) ((Rz.2) 7) ((Rz.2) 8) ((Rz.2) 9 0) ((Rz.2) 10 0) ((Rz.2) 11 0) ((Rz.2) 12 0) ((Rz.2) 13 0)) (some (.int (Rz.1))) := by
  refine JM.of (own := RX5) (tb := T_X5_undo) (by decide) (Nat.le_of_ble_eq_true rfl) D_X5_undo rfl (fun X C => ?_)
  refine J_sub (lv' := [(0, .ref (aM 0))]) [0] rfl ?_
  have B27 : ∀ (n27 : Nat) (vM_27 : JV) (x1_27 : Int32), f_X5_undo_L27  n27 vM_27 x1_27 = some Rz → J l { frames := 0, cells := 0, slots := 0, locals := 0 } G 2 X (QM X G 0 0 (some (.int (Rz.1))) (wMod G aM ((Rz.2) 0) ((Rz.2) 1) ((Rz.2) 2) ((Rz.2) 3) ((Rz.2) 4) ((Rz.2) 5) ((Rz.2) 6) ((Rz.2) 7) ((Rz.2) 8) ((Rz.2) 9 0) ((Rz.2) 10 0) ((Rz.2) 11 0) ((Rz.2) 12 0) ((Rz.2) 13 0))) 0 0 27 [(0, .ref (aM 0)), (1, .int x1_27)] [] (wMod G aM (vM_27 0) (vM_27 1) (vM_27 2) (vM_27 3) (vM_27 4) (vM_27 5) (vM_27 6) (vM_27 7) (vM_27 8) (vM_27 9 0) (vM_27 10 0) (vM_27 11 0) (vM_27 12 0) (vM_27 13 0)) := by
    intro  n27
    induction n27 with
    | zero =>
      intro vM_27 x1_27 h
      exact (no_none rfl h).elim
    | succ n27 ih27 =>
      intro vM_27 x1_27 h
      replace h : f_X5_undo_b27  (fun vM_27 x1_27 => f_X5_undo_L27  n27 vM_27 x1_27) vM_27 x1_27 = some Rz := h
      unfold f_X5_undo_b27 at h
      refine J_iload_n (pc := 27) C 16 rfl 1 rfl rfl ?_
      refine J_bipush (pc := 28) (v := (76 : Int32)) C 17 rfl rfl ?_
      refine J_icmp_ge (pc := 30) (tgt := 59) C 18 rfl rfl (fun c2 => ?_) (fun c2 => ?_)
      · rw [if_pos c2] at h
        refine J_aload_n (pc := 59) C 34 rfl 0 rfl rfl ?_
        refine J_get (pc := 60) (v := .int (vM_27 11 0)) C 35 rfl TB_l5 rfl 0 11 rfl (by decide) k421 rfl rfl ?_
        cases h
        exact J_iret (pc := 63) C 36 rfl
      · rw [if_neg c2] at h
        refine J_aload_n (pc := 33) C 19 rfl 0 rfl rfl ?_
        refine J_get (pc := 34) (v := .ref (aM 1)) C 20 rfl TB_l5 rfl 0 0 rfl (by decide) k399 rfl rfl ?_
        refine J_iload_n (pc := 37) C 21 rfl 1 rfl rfl ?_
        refine J_aload_n (pc := 38) C 22 rfl 0 rfl rfl ?_
        refine J_get (pc := 39) (v := .ref (aM 4)) C 23 rfl TB_l5 rfl 0 3 rfl (by decide) k402 rfl rfl ?_
        refine J_bipush (pc := 42) (v := (76 : Int32)) C 24 rfl rfl ?_
        refine J_aload_n (pc := 44) C 25 rfl 0 rfl rfl ?_
        refine J_get (pc := 45) (v := .int (vM_27 11 0)) C 26 rfl TB_l5 rfl 0 11 rfl (by decide) k421 rfl rfl ?_
        refine J_imul (pc := 48) C 27 rfl  ?_
        refine J_iload_n (pc := 49) C 28 rfl 1 rfl rfl ?_
        refine J_iadd (pc := 50) C 29 rfl  ?_
        obtain ⟨g3, h⟩ := gd_some h
        refine J_iald (pc := 51) (f := (vM_27 3)) (v := ((vM_27 3) (Int32.toNatClampNeg (((76 : Int32) * (vM_27 11 0)) + x1_27)))) C 30 rfl 4 rfl g3 rfl ?_
        obtain ⟨g4, h⟩ := gd_some h
        refine J_iast (pc := 52) (f := (vM_27 0)) (m := (Int32.toNatClampNeg x1_27)) C 31 (fun mm vv => (wMod G aM (upd (vM_27 0) mm vv) (vM_27 1) (vM_27 2) (vM_27 3) (vM_27 4) (vM_27 5) (vM_27 6) (vM_27 7) (vM_27 8) (vM_27 9 0) (vM_27 10 0) (vM_27 11 0) (vM_27 12 0) (vM_27 13 0))) rfl 1 rfl g4 rfl (fun _ _ => rfl) ?_
        refine J_iinc (pc := 53) (v := (x1_27 + (1 : Int32))) (lv' := [(1, .int (x1_27 + (1 : Int32))), (0, .ref (aM 0))]) C 32 rfl 1 rfl rfl (by decide) rfl ?_
        refine J_goto (pc := 56) (tgt := 27) C 33 rfl rfl ?_
        exact J_sub [1, 0] rfl (ih27 (up2 vM_27 0 (Int32.toNatClampNeg x1_27) ((vM_27 3) (Int32.toNatClampNeg (((76 : Int32) * (vM_27 11 0)) + x1_27)))) (x1_27 + (1 : Int32)) h)
  unfold f_X5_undo at h
  refine J_aload_n (pc := 0) C 0 rfl 0 rfl rfl ?_
  refine J_get (pc := 1) (v := .int (vM 11 0)) C 1 rfl TB_l5 rfl 0 11 rfl (by decide) k421 rfl rfl ?_
  refine J_if_ne (pc := 4) (tgt := 10) C 2 rfl rfl (fun c1 => ?_) (fun c1 => ?_)
  · rw [if_neg c1] at h
    refine J_aload_n (pc := 10) C 5 rfl 0 rfl rfl ?_
    refine J_iconst (pc := 11) (v := (0 : Int32)) C 6 rfl rfl ?_
    refine J_putz (pc := 12) C 7 (fun vv => (wMod G aM (vM 0) (vM 1) (vM 2) (vM 3) (vM 4) (vM 5) (vM 6) (vM 7) (vM 8) vv (vM 10 0) (vM 11 0) (vM 12 0) (vM 13 0))) rfl rfl TB_l5 tyX5 tyX5_ok nmX5 rfl 0 9 rfl (by decide) k419 rfl rfl rfl (Nat.le_of_ble_eq_true rfl) (fun _ => rfl) ?_
    refine J_aload_n (pc := 15) C 8 rfl 0 rfl rfl ?_
    refine J_dup (pc := 16) C 9 rfl rfl ?_
    refine J_get (pc := 17) (v := .int (vM 11 0)) C 10 rfl TB_l5 rfl 0 11 rfl (by decide) k421 rfl rfl ?_
    refine J_iconst (pc := 20) (v := (1 : Int32)) C 11 rfl rfl ?_
    refine J_isub (pc := 21) C 12 rfl  ?_
    refine J_puti (pc := 22) C 13 (fun vv => (wMod G aM (vM 0) (vM 1) (vM 2) (vM 3) (vM 4) (vM 5) (vM 6) (vM 7) (vM 8) (0 : Int32) (vM 10 0) vv (vM 12 0) (vM 13 0))) rfl TB_l5 tyX5 tyX5_ok nmX5 rfl 0 11 rfl (by decide) k421 rfl rfl rfl (Nat.le_of_ble_eq_true rfl) (fun _ => rfl) ?_
    refine J_iconst (pc := 25) (v := (0 : Int32)) C 14 rfl rfl ?_
    refine J_istore_n (pc := 26) (lv' := [(1, .int (0 : Int32)), (0, .ref (aM 0))]) C 15 rfl rfl (by decide) rfl ?_
    exact J_sub [1, 0] rfl (B27  FU (up2 (up2 vM 9 0 (0 : Int32)) 11 0 ((vM 11 0) - (1 : Int32))) (0 : Int32) h)
  · rw [if_pos c1] at h
    refine J_bipush (pc := 7) (v := (-5 : Int32)) C 3 rfl rfl ?_
    cases h
    exact J_iret (pc := 9) C 4 rfl
def T_X5_save : List (Nat × ClassFile.Instr × Nat) := [(0, .iload_n 1, 1), (1, .iconst 0, 1), (2, .iconst 1, 1), (3, .invokestatic 39, 3), (6, .ifCond .ne 6, 3), (9, .bipush (-2), 2), (11, .ireturn, 1), (12, .iconst 0, 1), (13, .istore_n 2, 1), (14, .iload_n 2, 1), (15, .bipush 76, 2), (17, .if_icmp .ge 26, 3), (20, .aload_n 0, 1), (21, .getfield 22, 3), (24, .bipush 76, 2), (26, .iload_n 1, 1), (27, .imul, 1), (28, .iload_n 2, 1), (29, .iadd, 1), (30, .aload_n 0, 1), (31, .getfield 7, 3), (34, .iload_n 2, 1), (35, .iaload, 1), (36, .iastore, 1), (37, .iinc 2 1, 3), (40, .goto (-26), 3), (43, .aload_n 0, 1), (44, .getfield 25, 3), (47, .iload_n 1, 1), (48, .iconst 1, 1), (49, .bastore, 1), (50, .aload_n 0, 1), (51, .getfield 7, 3), (54, .iconst 3, 1), (55, .iaload, 1), (56, .ireturn, 1)]
theorem D_X5_save : ∀ q ∈ T_X5_save, decode cX5_save q.1 = .ok q.2 := by decide +kernel
theorem V_X5_save : Vy yX5_save cX5_save 3 (some .int) 1 := ⟨k623, k415, by decide +kernel⟩
theorem i_X5_save : Cond.instanceMethod yX5_save ∈ TB := k769
theorem s_X5_save : Cond.selects yX5_save.cls yX5_save yX5_save ∈ TB := k770
noncomputable def f_X5_save_b14  (x1_14 : Int32) (r14 : JV → Int32 → Option (Int32 × JV)) (vM_14 : JV) (x2_14 : Int32) : Option (Int32 × JV) :=
  (if (76 : Int32) ≤ x2_14 then gd (inb x1_14 2) (some (((vM_14 0) 3), (up2 vM_14 5 (Int32.toNatClampNeg x1_14) (1 : Int32)))) else gd (inb x2_14 76) (gd (inb (((76 : Int32) * x1_14) + x2_14) 152) (r14 (up2 vM_14 4 (Int32.toNatClampNeg (((76 : Int32) * x1_14) + x2_14)) ((vM_14 0) (Int32.toNatClampNeg x2_14))) (x2_14 + (1 : Int32)))))
noncomputable def f_X5_save_L14  (x1_14 : Int32) (n : Nat) (vM_14 : JV) (x2_14 : Int32) : Option (Int32 × JV) :=
  lp (fun (rec : JV × Int32 → Option (Int32 × JV)) a => f_X5_save_b14  x1_14 (fun vM_14 x2_14 => rec (vM_14, x2_14)) a.1 a.2) n (vM_14, x2_14)
noncomputable def f_X5_save (vM : JV) (x1 : Int32) : Option (Int32 × JV) :=
  (f_X5_in x1 (0 : Int32) (1 : Int32)).bind (fun q1 => (if q1 = 0 then some ((-2 : Int32), vM) else f_X5_save_L14  x1 FU vM (0 : Int32)))
set_option maxRecDepth 100000 in
set_option maxHeartbeats 4000000 in
theorem c_X5_save {l : Launch} {G : JG} (aM : Nat → Nat) (vM : JV) (x1 : Int32) {Rz : Int32 × JV} (h : f_X5_save vM x1 = some Rz) : JM l G yX5_save cX5_save 3 (some .int) 1 22 [.ref (aM 0), .int x1] (wMod G aM (vM 0) (vM 1) (vM 2) (vM 3) (vM 4) (vM 5) (vM 6) (vM 7) (vM 8) (vM 9 0) (vM 10 0) (vM 11 0) (vM 12 0) (vM 13 0)) (wMod G aM ((Rz.2) 0) ((Rz.2) 1) ((Rz.2) 2) ((Rz.2) 3) ((Rz.2) 4) ((Rz.2) 5) ((Rz.2) 6) ((Rz.2) 7) ((Rz.2) 8) ((Rz.2) 9 0) ((Rz.2) 10 0) ((Rz.2) 11 0) ((Rz.2) 12 0) ((Rz.2) 13 0)) (some (.int (Rz.1))) := by
  refine JM.of (own := RX5) (tb := T_X5_save) (by decide) (Nat.le_of_ble_eq_true rfl) D_X5_save rfl (fun X C => ?_)
  refine J_sub (lv' := [(0, .ref (aM 0)), (1, .int x1)]) [0, 1] rfl ?_
  have B14 : ∀ (x1_14 : Int32) (n14 : Nat) (vM_14 : JV) (x2_14 : Int32), f_X5_save_L14  x1_14 n14 vM_14 x2_14 = some Rz → J l { frames := 1, cells := 0, slots := 0, locals := 22 } G 3 X (QM X G 0 0 (some (.int (Rz.1))) (wMod G aM ((Rz.2) 0) ((Rz.2) 1) ((Rz.2) 2) ((Rz.2) 3) ((Rz.2) 4) ((Rz.2) 5) ((Rz.2) 6) ((Rz.2) 7) ((Rz.2) 8) ((Rz.2) 9 0) ((Rz.2) 10 0) ((Rz.2) 11 0) ((Rz.2) 12 0) ((Rz.2) 13 0))) 0 0 14 [(0, .ref (aM 0)), (1, .int x1_14), (2, .int x2_14)] [] (wMod G aM (vM_14 0) (vM_14 1) (vM_14 2) (vM_14 3) (vM_14 4) (vM_14 5) (vM_14 6) (vM_14 7) (vM_14 8) (vM_14 9 0) (vM_14 10 0) (vM_14 11 0) (vM_14 12 0) (vM_14 13 0)) := by
    intro x1_14 n14
    induction n14 with
    | zero =>
      intro vM_14 x2_14 h
      exact (no_none rfl h).elim
    | succ n14 ih14 =>
      intro vM_14 x2_14 h
      replace h : f_X5_save_b14  x1_14 (fun vM_14 x2_14 => f_X5_save_L14  x1_14 n14 vM_14 x2_14) vM_14 x2_14 = some Rz := h
      unfold f_X5_save_b14 at h
      refine J_iload_n (pc := 14) C 9 rfl 2 rfl rfl ?_
      refine J_bipush (pc := 15) (v := (76 : Int32)) C 10 rfl rfl ?_
      refine J_icmp_ge (pc := 17) (tgt := 43) C 11 rfl rfl (fun c3 => ?_) (fun c3 => ?_)
      · rw [if_pos c3] at h
        refine J_aload_n (pc := 43) C 26 rfl 0 rfl rfl ?_
        refine J_get (pc := 44) (v := .ref (aM 6)) C 27 rfl TB_l5 rfl 0 5 rfl (by decide) k404 rfl rfl ?_
        refine J_iload_n (pc := 47) C 28 rfl 1 rfl rfl ?_
        refine J_iconst (pc := 48) (v := (1 : Int32)) C 29 rfl rfl ?_
        obtain ⟨g4, h⟩ := gd_some h
        refine J_zast (pc := 49) (f := (vM_14 5)) (m := (Int32.toNatClampNeg x1_14)) C 30 (fun mm vv => (wMod G aM (vM_14 0) (vM_14 1) (vM_14 2) (vM_14 3) (vM_14 4) (upd (vM_14 5) mm vv) (vM_14 6) (vM_14 7) (vM_14 8) (vM_14 9 0) (vM_14 10 0) (vM_14 11 0) (vM_14 12 0) (vM_14 13 0))) rfl 6 rfl g4 rfl rfl (fun _ _ => rfl) ?_
        refine J_aload_n (pc := 50) C 31 rfl 0 rfl rfl ?_
        refine J_get (pc := 51) (v := .ref (aM 1)) C 32 rfl TB_l5 rfl 0 0 rfl (by decide) k399 rfl rfl ?_
        refine J_iconst (pc := 54) (v := (3 : Int32)) C 33 rfl rfl ?_
        refine J_iald (pc := 55) (f := (vM_14 0)) (v := ((vM_14 0) 3)) C 34 rfl 1 rfl rfl rfl ?_
        cases h
        exact J_iret (pc := 56) C 35 rfl
      · rw [if_neg c3] at h
        refine J_aload_n (pc := 20) C 12 rfl 0 rfl rfl ?_
        refine J_get (pc := 21) (v := .ref (aM 5)) C 13 rfl TB_l5 rfl 0 4 rfl (by decide) k403 rfl rfl ?_
        refine J_bipush (pc := 24) (v := (76 : Int32)) C 14 rfl rfl ?_
        refine J_iload_n (pc := 26) C 15 rfl 1 rfl rfl ?_
        refine J_imul (pc := 27) C 16 rfl  ?_
        refine J_iload_n (pc := 28) C 17 rfl 2 rfl rfl ?_
        refine J_iadd (pc := 29) C 18 rfl  ?_
        refine J_aload_n (pc := 30) C 19 rfl 0 rfl rfl ?_
        refine J_get (pc := 31) (v := .ref (aM 1)) C 20 rfl TB_l5 rfl 0 0 rfl (by decide) k399 rfl rfl ?_
        refine J_iload_n (pc := 34) C 21 rfl 2 rfl rfl ?_
        obtain ⟨g5, h⟩ := gd_some h
        refine J_iald (pc := 35) (f := (vM_14 0)) (v := ((vM_14 0) (Int32.toNatClampNeg x2_14))) C 22 rfl 1 rfl g5 rfl ?_
        obtain ⟨g6, h⟩ := gd_some h
        refine J_iast (pc := 36) (f := (vM_14 4)) (m := (Int32.toNatClampNeg (((76 : Int32) * x1_14) + x2_14))) C 23 (fun mm vv => (wMod G aM (vM_14 0) (vM_14 1) (vM_14 2) (vM_14 3) (upd (vM_14 4) mm vv) (vM_14 5) (vM_14 6) (vM_14 7) (vM_14 8) (vM_14 9 0) (vM_14 10 0) (vM_14 11 0) (vM_14 12 0) (vM_14 13 0))) rfl 5 rfl g6 rfl (fun _ _ => rfl) ?_
        refine J_iinc (pc := 37) (v := (x2_14 + (1 : Int32))) (lv' := [(2, .int (x2_14 + (1 : Int32))), (0, .ref (aM 0)), (1, .int x1_14)]) C 24 rfl 2 rfl rfl (by decide) rfl ?_
        refine J_goto (pc := 40) (tgt := 14) C 25 rfl rfl ?_
        exact J_sub [1, 2, 0] rfl (ih14 (up2 vM_14 4 (Int32.toNatClampNeg (((76 : Int32) * x1_14) + x2_14)) ((vM_14 0) (Int32.toNatClampNeg x2_14))) (x2_14 + (1 : Int32)) h)
  unfold f_X5_save at h
  refine J_iload_n (pc := 0) C 0 rfl 1 rfl rfl ?_
  refine J_iconst (pc := 1) (v := (0 : Int32)) C 1 rfl rfl ?_
  refine J_iconst (pc := 2) (v := (1 : Int32)) C 2 rfl rfl ?_
  obtain ⟨q1, hq1, h⟩ := bnd h
  refine J_callS (pc := 3) (st2 := []) (st3 := [.int q1]) (ws2 := (wMod G aM (vM 0) (vM 1) (vM 2) (vM 3) (vM 4) (vM 5) (vM 6) (vM 7) (vM 8) (vM 9 0) (vM 10 0) (vM 11 0) (vM 12 0) (vM 13 0))) C 3 rfl (c_X5_in x1 (0 : Int32) (1 : Int32) hq1) V_X5_in k413 t_X5_in rfl rfl ⟨Nat.le_of_ble_eq_true rfl, Nat.le_of_ble_eq_true rfl⟩ (Nat.le_of_ble_eq_true rfl) ⟨Nat.le_refl _, Nat.le_refl _⟩ (isC := []) (isR := [0, 1, 2, 3, 4, 5, 6, 7, 8, 9]) (N := 10) ⟨rfl, by decide +kernel, rfl, by decide +kernel, rfl, ⟨⟨_, rfl, rfl⟩, ⟨⟨_, rfl, rfl⟩, ⟨⟨_, rfl, rfl⟩, ⟨⟨_, rfl, rfl⟩, ⟨⟨_, rfl, rfl⟩, ⟨⟨_, rfl, rfl⟩, ⟨⟨_, rfl, rfl⟩, ⟨⟨_, rfl, rfl⟩, ⟨⟨_, rfl, rfl⟩, ⟨⟨_, rfl, rfl⟩, trivial⟩⟩⟩⟩⟩⟩⟩⟩⟩⟩⟩ rfl ?_
  refine J_if_ne (pc := 6) (tgt := 12) C 4 rfl rfl (fun c2 => ?_) (fun c2 => ?_)
  · rw [if_neg c2] at h
    refine J_iconst (pc := 12) (v := (0 : Int32)) C 7 rfl rfl ?_
    refine J_istore_n (pc := 13) (lv' := [(2, .int (0 : Int32)), (0, .ref (aM 0)), (1, .int x1)]) C 8 rfl rfl (by decide) rfl ?_
    exact J_sub [1, 2, 0] rfl (B14 x1 FU vM (0 : Int32) h)
  · rw [if_pos c2] at h
    refine J_bipush (pc := 9) (v := (-2 : Int32)) C 5 rfl rfl ?_
    cases h
    exact J_iret (pc := 11) C 6 rfl
def T_X5_restore : List (Nat × ClassFile.Instr × Nat) := [(0, .iload_n 1, 1), (1, .iconst 0, 1), (2, .iconst 1, 1), (3, .invokestatic 39, 3), (6, .ifCond .ne 6, 3), (9, .bipush (-2), 2), (11, .ireturn, 1), (12, .aload_n 0, 1), (13, .getfield 25, 3), (16, .iload_n 1, 1), (17, .baload, 1), (18, .ifCond .ne 6, 3), (21, .bipush (-5), 2), (23, .ireturn, 1), (24, .aload_n 0, 1), (25, .invokevirtual 106, 3), (28, .iconst 0, 1), (29, .istore_n 2, 1), (30, .iload_n 2, 1), (31, .bipush 76, 2), (33, .if_icmp .ge 26, 3), (36, .aload_n 0, 1), (37, .getfield 7, 3), (40, .iload_n 2, 1), (41, .aload_n 0, 1), (42, .getfield 22, 3), (45, .bipush 76, 2), (47, .iload_n 1, 1), (48, .imul, 1), (49, .iload_n 2, 1), (50, .iadd, 1), (51, .iaload, 1), (52, .iastore, 1), (53, .iinc 2 1, 3), (56, .goto (-26), 3), (59, .aload_n 0, 1), (60, .aload_n 0, 1), (61, .getfield 7, 3), (64, .iconst 3, 1), (65, .iaload, 1), (66, .invokevirtual 109, 3), (69, .ireturn, 1)]
theorem D_X5_restore : ∀ q ∈ T_X5_restore, decode cX5_restore q.1 = .ok q.2 := by decide +kernel
theorem V_X5_restore : Vy yX5_restore cX5_restore 3 (some .int) 1 := ⟨k624, k415, by decide +kernel⟩
theorem i_X5_restore : Cond.instanceMethod yX5_restore ∈ TB := k775
theorem s_X5_restore : Cond.selects yX5_restore.cls yX5_restore yX5_restore ∈ TB := k776
noncomputable def f_X5_restore_b30  (x1_30 : Int32) (r30 : JV → Int32 → Option (Int32 × JV)) (vM_30 : JV) (x2_30 : Int32) : Option (Int32 × JV) :=
  (if (76 : Int32) ≤ x2_30 then (f_X5_recorded vM_30 ((vM_30 0) 3)).bind (fun q7 => some ((q7.1), (q7.2))) else gd (inb (((76 : Int32) * x1_30) + x2_30) 152) (gd (inb x2_30 76) (r30 (up2 vM_30 0 (Int32.toNatClampNeg x2_30) ((vM_30 4) (Int32.toNatClampNeg (((76 : Int32) * x1_30) + x2_30)))) (x2_30 + (1 : Int32)))))
noncomputable def f_X5_restore_L30  (x1_30 : Int32) (n : Nat) (vM_30 : JV) (x2_30 : Int32) : Option (Int32 × JV) :=
  lp (fun (rec : JV × Int32 → Option (Int32 × JV)) a => f_X5_restore_b30  x1_30 (fun vM_30 x2_30 => rec (vM_30, x2_30)) a.1 a.2) n (vM_30, x2_30)
noncomputable def f_X5_restore (vM : JV) (x1 : Int32) : Option (Int32 × JV) :=
  (f_X5_in x1 (0 : Int32) (1 : Int32)).bind (fun q1 => (if q1 = 0 then some ((-2 : Int32), vM) else gd (inb x1 2) ((if ((vM 5) (Int32.toNatClampNeg x1)) = 0 then some ((-5 : Int32), vM) else (f_X5_hold vM).bind (fun q5 => f_X5_restore_L30  x1 FU q5 (0 : Int32))))))
set_option maxRecDepth 100000 in
set_option maxHeartbeats 4000000 in
theorem c_X5_restore {l : Launch} {G : JG} (aM : Nat → Nat) (vM : JV) (x1 : Int32) {Rz : Int32 × JV} (h : f_X5_restore vM x1 = some Rz) : JM l G yX5_restore cX5_restore 3 (some .int) 1 22 [.ref (aM 0), .int x1] (wMod G aM (vM 0) (vM 1) (vM 2) (vM 3) (vM 4) (vM 5) (vM 6) (vM 7) (vM 8) (vM 9 0) (vM 10 0) (vM 11 0) (vM 12 0) (vM 13 0)) (wMod G aM ((Rz.2) 0) ((Rz.2) 1) ((Rz.2) 2) ((Rz.2) 3) ((Rz.2) 4) ((Rz.2) 5) ((Rz.2) 6) ((Rz.2) 7) ((Rz.2) 8) ((Rz.2) 9 0) ((Rz.2) 10 0) ((Rz.2) 11 0) ((Rz.2) 12 0) ((Rz.2) 13 0)) (some (.int (Rz.1))) := by
  refine JM.of (own := RX5) (tb := T_X5_restore) (by decide) (Nat.le_of_ble_eq_true rfl) D_X5_restore rfl (fun X C => ?_)
  refine J_sub (lv' := [(0, .ref (aM 0)), (1, .int x1)]) [0, 1] rfl ?_
  have B30 : ∀ (x1_30 : Int32) (n30 : Nat) (vM_30 : JV) (x2_30 : Int32), f_X5_restore_L30  x1_30 n30 vM_30 x2_30 = some Rz → J l { frames := 1, cells := 0, slots := 0, locals := 22 } G 3 X (QM X G 0 0 (some (.int (Rz.1))) (wMod G aM ((Rz.2) 0) ((Rz.2) 1) ((Rz.2) 2) ((Rz.2) 3) ((Rz.2) 4) ((Rz.2) 5) ((Rz.2) 6) ((Rz.2) 7) ((Rz.2) 8) ((Rz.2) 9 0) ((Rz.2) 10 0) ((Rz.2) 11 0) ((Rz.2) 12 0) ((Rz.2) 13 0))) 0 0 30 [(0, .ref (aM 0)), (1, .int x1_30), (2, .int x2_30)] [] (wMod G aM (vM_30 0) (vM_30 1) (vM_30 2) (vM_30 3) (vM_30 4) (vM_30 5) (vM_30 6) (vM_30 7) (vM_30 8) (vM_30 9 0) (vM_30 10 0) (vM_30 11 0) (vM_30 12 0) (vM_30 13 0)) := by
    intro x1_30 n30
    induction n30 with
    | zero =>
      intro vM_30 x2_30 h
      exact (no_none rfl h).elim
    | succ n30 ih30 =>
      intro vM_30 x2_30 h
      replace h : f_X5_restore_b30  x1_30 (fun vM_30 x2_30 => f_X5_restore_L30  x1_30 n30 vM_30 x2_30) vM_30 x2_30 = some Rz := h
      unfold f_X5_restore_b30 at h
      refine J_iload_n (pc := 30) C 18 rfl 2 rfl rfl ?_
      refine J_bipush (pc := 31) (v := (76 : Int32)) C 19 rfl rfl ?_
      refine J_icmp_ge (pc := 33) (tgt := 59) C 20 rfl rfl (fun c6 => ?_) (fun c6 => ?_)
      · rw [if_pos c6] at h
        refine J_aload_n (pc := 59) C 35 rfl 0 rfl rfl ?_
        refine J_aload_n (pc := 60) C 36 rfl 0 rfl rfl ?_
        refine J_get (pc := 61) (v := .ref (aM 1)) C 37 rfl TB_l5 rfl 0 0 rfl (by decide) k399 rfl rfl ?_
        refine J_iconst (pc := 64) (v := (3 : Int32)) C 38 rfl rfl ?_
        refine J_iald (pc := 65) (f := (vM_30 0)) (v := ((vM_30 0) 3)) C 39 rfl 1 rfl rfl rfl ?_
        obtain ⟨q7, hq7, h⟩ := bnd h
        refine J_callV (pc := 66) (st2 := []) (st3 := [.int (q7.1)]) (ws2 := (wMod G aM ((q7.2) 0) ((q7.2) 1) ((q7.2) 2) ((q7.2) 3) ((q7.2) 4) ((q7.2) 5) ((q7.2) 6) ((q7.2) 7) ((q7.2) 8) ((q7.2) 9 0) ((q7.2) 10 0) ((q7.2) 11 0) ((q7.2) 12 0) ((q7.2) 13 0))) C 40 rfl (c_X5_recorded aM vM_30 ((vM_30 0) 3) hq7) V_X5_recorded k495 i_X5_recorded s_X5_recorded rfl rfl ⟨Nat.le_of_ble_eq_true rfl, Nat.le_of_ble_eq_true rfl⟩ (Nat.le_of_ble_eq_true rfl) ⟨Nat.le_refl _, Nat.le_refl _⟩ 0 5 rfl rfl rfl (isC := [0, 1, 2, 3, 4, 5, 6, 7, 8, 9]) (isR := []) (N := 10) ⟨rfl, by decide +kernel, rfl, by decide +kernel, rfl, trivial⟩ rfl ?_
        cases h
        exact J_iret (pc := 69) C 41 rfl
      · rw [if_neg c6] at h
        refine J_aload_n (pc := 36) C 21 rfl 0 rfl rfl ?_
        refine J_get (pc := 37) (v := .ref (aM 1)) C 22 rfl TB_l5 rfl 0 0 rfl (by decide) k399 rfl rfl ?_
        refine J_iload_n (pc := 40) C 23 rfl 2 rfl rfl ?_
        refine J_aload_n (pc := 41) C 24 rfl 0 rfl rfl ?_
        refine J_get (pc := 42) (v := .ref (aM 5)) C 25 rfl TB_l5 rfl 0 4 rfl (by decide) k403 rfl rfl ?_
        refine J_bipush (pc := 45) (v := (76 : Int32)) C 26 rfl rfl ?_
        refine J_iload_n (pc := 47) C 27 rfl 1 rfl rfl ?_
        refine J_imul (pc := 48) C 28 rfl  ?_
        refine J_iload_n (pc := 49) C 29 rfl 2 rfl rfl ?_
        refine J_iadd (pc := 50) C 30 rfl  ?_
        obtain ⟨g8, h⟩ := gd_some h
        refine J_iald (pc := 51) (f := (vM_30 4)) (v := ((vM_30 4) (Int32.toNatClampNeg (((76 : Int32) * x1_30) + x2_30)))) C 31 rfl 5 rfl g8 rfl ?_
        obtain ⟨g9, h⟩ := gd_some h
        refine J_iast (pc := 52) (f := (vM_30 0)) (m := (Int32.toNatClampNeg x2_30)) C 32 (fun mm vv => (wMod G aM (upd (vM_30 0) mm vv) (vM_30 1) (vM_30 2) (vM_30 3) (vM_30 4) (vM_30 5) (vM_30 6) (vM_30 7) (vM_30 8) (vM_30 9 0) (vM_30 10 0) (vM_30 11 0) (vM_30 12 0) (vM_30 13 0))) rfl 1 rfl g9 rfl (fun _ _ => rfl) ?_
        refine J_iinc (pc := 53) (v := (x2_30 + (1 : Int32))) (lv' := [(2, .int (x2_30 + (1 : Int32))), (0, .ref (aM 0)), (1, .int x1_30)]) C 33 rfl 2 rfl rfl (by decide) rfl ?_
        refine J_goto (pc := 56) (tgt := 30) C 34 rfl rfl ?_
        exact J_sub [1, 2, 0] rfl (ih30 (up2 vM_30 0 (Int32.toNatClampNeg x2_30) ((vM_30 4) (Int32.toNatClampNeg (((76 : Int32) * x1_30) + x2_30)))) (x2_30 + (1 : Int32)) h)
  unfold f_X5_restore at h
  refine J_iload_n (pc := 0) C 0 rfl 1 rfl rfl ?_
  refine J_iconst (pc := 1) (v := (0 : Int32)) C 1 rfl rfl ?_
  refine J_iconst (pc := 2) (v := (1 : Int32)) C 2 rfl rfl ?_
  obtain ⟨q1, hq1, h⟩ := bnd h
  refine J_callS (pc := 3) (st2 := []) (st3 := [.int q1]) (ws2 := (wMod G aM (vM 0) (vM 1) (vM 2) (vM 3) (vM 4) (vM 5) (vM 6) (vM 7) (vM 8) (vM 9 0) (vM 10 0) (vM 11 0) (vM 12 0) (vM 13 0))) C 3 rfl (c_X5_in x1 (0 : Int32) (1 : Int32) hq1) V_X5_in k413 t_X5_in rfl rfl ⟨Nat.le_of_ble_eq_true rfl, Nat.le_of_ble_eq_true rfl⟩ (Nat.le_of_ble_eq_true rfl) ⟨Nat.le_refl _, Nat.le_refl _⟩ (isC := []) (isR := [0, 1, 2, 3, 4, 5, 6, 7, 8, 9]) (N := 10) ⟨rfl, by decide +kernel, rfl, by decide +kernel, rfl, ⟨⟨_, rfl, rfl⟩, ⟨⟨_, rfl, rfl⟩, ⟨⟨_, rfl, rfl⟩, ⟨⟨_, rfl, rfl⟩, ⟨⟨_, rfl, rfl⟩, ⟨⟨_, rfl, rfl⟩, ⟨⟨_, rfl, rfl⟩, ⟨⟨_, rfl, rfl⟩, ⟨⟨_, rfl, rfl⟩, ⟨⟨_, rfl, rfl⟩, trivial⟩⟩⟩⟩⟩⟩⟩⟩⟩⟩⟩ rfl ?_
  refine J_if_ne (pc := 6) (tgt := 12) C 4 rfl rfl (fun c2 => ?_) (fun c2 => ?_)
  · rw [if_neg c2] at h
    refine J_aload_n (pc := 12) C 7 rfl 0 rfl rfl ?_
    refine J_get (pc := 13) (v := .ref (aM 6)) C 8 rfl TB_l5 rfl 0 5 rfl (by decide) k404 rfl rfl ?_
    refine J_iload_n (pc := 16) C 9 rfl 1 rfl rfl ?_
    obtain ⟨g3, h⟩ := gd_some h
    refine J_zald (pc := 17) (f := (vM 5)) (v := ((vM 5) (Int32.toNatClampNeg x1))) C 10 rfl 6 rfl g3 rfl ?_
    refine J_if_ne (pc := 18) (tgt := 24) C 11 rfl rfl (fun c4 => ?_) (fun c4 => ?_)
    · rw [if_neg c4] at h
      refine J_aload_n (pc := 24) C 14 rfl 0 rfl rfl ?_
      obtain ⟨q5, hq5, h⟩ := bnd h
      refine J_callV (pc := 25) (st2 := []) (st3 := []) (ws2 := (wMod G aM (q5 0) (q5 1) (q5 2) (q5 3) (q5 4) (q5 5) (q5 6) (q5 7) (q5 8) (q5 9 0) (q5 10 0) (q5 11 0) (q5 12 0) (q5 13 0))) C 15 rfl (c_X5_hold aM vM hq5) V_X5_hold k492 i_X5_hold s_X5_hold rfl rfl ⟨Nat.le_of_ble_eq_true rfl, Nat.le_of_ble_eq_true rfl⟩ (Nat.le_of_ble_eq_true rfl) ⟨Nat.le_refl _, Nat.le_refl _⟩ 0 5 rfl rfl rfl (isC := [0, 1, 2, 3, 4, 5, 6, 7, 8, 9]) (isR := []) (N := 10) ⟨rfl, by decide +kernel, rfl, by decide +kernel, rfl, trivial⟩ rfl ?_
      refine J_iconst (pc := 28) (v := (0 : Int32)) C 16 rfl rfl ?_
      refine J_istore_n (pc := 29) (lv' := [(2, .int (0 : Int32)), (0, .ref (aM 0)), (1, .int x1)]) C 17 rfl rfl (by decide) rfl ?_
      exact J_sub [1, 2, 0] rfl (B30 x1 FU q5 (0 : Int32) h)
    · rw [if_pos c4] at h
      refine J_bipush (pc := 21) (v := (-5 : Int32)) C 12 rfl rfl ?_
      cases h
      exact J_iret (pc := 23) C 13 rfl
  · rw [if_pos c2] at h
    refine J_bipush (pc := 9) (v := (-2 : Int32)) C 5 rfl rfl ?_
    cases h
    exact J_iret (pc := 11) C 6 rfl
