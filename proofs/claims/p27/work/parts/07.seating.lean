def T_X3_clear : List (Nat × ClassFile.Instr × Nat) := [(0, .iconst 0, 1), (1, .istore_n 1, 1), (2, .iload_n 1, 1), (3, .bipush 96, 2), (5, .if_icmp .ge 33, 3), (8, .aload_n 0, 1), (9, .getfield 18, 3), (12, .iload_n 1, 1), (13, .bipush (-6), 2), (15, .iastore, 1), (16, .aload_n 0, 1), (17, .getfield 22, 3), (20, .iload_n 1, 1), (21, .bipush (-6), 2), (23, .iastore, 1), (24, .aload_n 0, 1), (25, .getfield 25, 3), (28, .iload_n 1, 1), (29, .bipush (-6), 2), (31, .iastore, 1), (32, .iinc 1 1, 3), (35, .goto (-33), 3), (38, .iconst 0, 1), (39, .istore_n 1, 1), (40, .iload_n 1, 1), (41, .bipush 64, 2), (43, .if_icmp .ge 25, 3), (46, .aload_n 0, 1), (47, .getfield 35, 3), (50, .iload_n 1, 1), (51, .sipush (-1000), 3), (54, .iastore, 1), (55, .aload_n 0, 1), (56, .getfield 38, 3), (59, .iload_n 1, 1), (60, .iconst 0, 1), (61, .iastore, 1), (62, .iinc 1 1, 3), (65, .goto (-25), 3), (68, .iconst 0, 1), (69, .istore_n 1, 1), (70, .iload_n 1, 1), (71, .bipush 6, 2), (73, .if_icmp .ge 18, 3), (76, .aload_n 0, 1), (77, .getfield 41, 3), (80, .iload_n 1, 1), (81, .sipush (-1000), 3), (84, .iastore, 1), (85, .iinc 1 1, 3), (88, .goto (-18), 3), (91, .aload_n 0, 1), (92, .iconst 0, 1), (93, .putfield 28, 3), (96, .aload_n 0, 1), (97, .iconst 0, 1), (98, .putfield 32, 3), (101, .return_, 1)]
theorem D_X3_clear : ∀ q ∈ T_X3_clear, decode cX3_clear q.1 = .ok q.2 := by decide +kernel
theorem V_X3_clear : Vy yX3_clear cX3_clear 2 none 0 := ⟨k130, k138, by decide +kernel⟩
theorem i_X3_clear : Cond.instanceMethod yX3_clear ∈ TB := k166
theorem s_X3_clear : Cond.selects yX3_clear.cls yX3_clear yX3_clear ∈ TB := k167
noncomputable def f_X3_clear_b70  (r70 : JV → Int32 → Option (JV)) (vT_70 : JV) (x1_70 : Int32) : Option (JV) :=
  (if (6 : Int32) ≤ x1_70 then some (up2 (up2 vT_70 4 0 (0 : Int32)) 5 0 (0 : Int32)) else gd (inb x1_70 6) (r70 (up2 vT_70 8 (Int32.toNatClampNeg x1_70) (-1000 : Int32)) (x1_70 + (1 : Int32))))
noncomputable def f_X3_clear_L70  (n : Nat) (vT_70 : JV) (x1_70 : Int32) : Option (JV) :=
  lp (fun (rec : JV × Int32 → Option (JV)) a => f_X3_clear_b70  (fun vT_70 x1_70 => rec (vT_70, x1_70)) a.1 a.2) n (vT_70, x1_70)
noncomputable def f_X3_clear_b40  (r40 : JV → Int32 → Option (JV)) (vT_40 : JV) (x1_40 : Int32) : Option (JV) :=
  (if (64 : Int32) ≤ x1_40 then f_X3_clear_L70   FU vT_40 (0 : Int32) else gd (inb x1_40 64) (gd (inb x1_40 64) (r40 (up2 (up2 vT_40 6 (Int32.toNatClampNeg x1_40) (-1000 : Int32)) 7 (Int32.toNatClampNeg x1_40) (0 : Int32)) (x1_40 + (1 : Int32)))))
noncomputable def f_X3_clear_L40  (n : Nat) (vT_40 : JV) (x1_40 : Int32) : Option (JV) :=
  lp (fun (rec : JV × Int32 → Option (JV)) a => f_X3_clear_b40  (fun vT_40 x1_40 => rec (vT_40, x1_40)) a.1 a.2) n (vT_40, x1_40)
noncomputable def f_X3_clear_b2  (r2 : JV → Int32 → Option (JV)) (vT_2 : JV) (x1_2 : Int32) : Option (JV) :=
  (if (96 : Int32) ≤ x1_2 then f_X3_clear_L40   FU vT_2 (0 : Int32) else gd (inb x1_2 96) (gd (inb x1_2 96) (gd (inb x1_2 96) (r2 (up2 (up2 (up2 vT_2 1 (Int32.toNatClampNeg x1_2) (-6 : Int32)) 2 (Int32.toNatClampNeg x1_2) (-6 : Int32)) 3 (Int32.toNatClampNeg x1_2) (-6 : Int32)) (x1_2 + (1 : Int32))))))
noncomputable def f_X3_clear_L2  (n : Nat) (vT_2 : JV) (x1_2 : Int32) : Option (JV) :=
  lp (fun (rec : JV × Int32 → Option (JV)) a => f_X3_clear_b2  (fun vT_2 x1_2 => rec (vT_2, x1_2)) a.1 a.2) n (vT_2, x1_2)
noncomputable def f_X3_clear (vT : JV)  : Option (JV) :=
  f_X3_clear_L2   FU vT (0 : Int32)
set_option maxRecDepth 100000 in
set_option maxHeartbeats 4000000 in
theorem c_X3_clear {l : Launch} {G : JG} (aT : Nat → Nat) (aS : Nat → Nat) (vT : JV)  {Rz : JV} (h : f_X3_clear vT = some Rz) : JM l G yX3_clear cX3_clear 2 none 0 0 [.ref (aT 0)] (wSeat G aT (aS 0) (vT 1) (vT 2) (vT 3) (vT 4 0) (vT 5 0) (vT 6) (vT 7) (vT 8)) (wSeat G aT (aS 0) (Rz 1) (Rz 2) (Rz 3) (Rz 4 0) (Rz 5 0) (Rz 6) (Rz 7) (Rz 8)) none := by
  refine JM.of (own := RX3) (tb := T_X3_clear) (by decide) (Nat.le_of_ble_eq_true rfl) D_X3_clear rfl (fun X C => ?_)
  refine J_sub (lv' := [(0, .ref (aT 0))]) [0] rfl ?_
  have B70 : ∀ (n70 : Nat) (vT_70 : JV) (x1_70 : Int32), f_X3_clear_L70  n70 vT_70 x1_70 = some Rz → J l { frames := 0, cells := 0, slots := 0, locals := 0 } G 2 X (QM X G 0 0 none (wSeat G aT (aS 0) (Rz 1) (Rz 2) (Rz 3) (Rz 4 0) (Rz 5 0) (Rz 6) (Rz 7) (Rz 8))) 0 0 70 [(0, .ref (aT 0)), (1, .int x1_70)] [] (wSeat G aT (aS 0) (vT_70 1) (vT_70 2) (vT_70 3) (vT_70 4 0) (vT_70 5 0) (vT_70 6) (vT_70 7) (vT_70 8)) := by
    intro  n70
    induction n70 with
    | zero =>
      intro vT_70 x1_70 h
      exact (no_none rfl h).elim
    | succ n70 ih70 =>
      intro vT_70 x1_70 h
      replace h : f_X3_clear_b70  (fun vT_70 x1_70 => f_X3_clear_L70  n70 vT_70 x1_70) vT_70 x1_70 = some Rz := h
      unfold f_X3_clear_b70 at h
      refine J_iload_n (pc := 70) C 41 rfl 1 rfl rfl ?_
      refine J_bipush (pc := 71) (v := (6 : Int32)) C 42 rfl rfl ?_
      refine J_icmp_ge (pc := 73) (tgt := 91) C 43 rfl rfl (fun c3 => ?_) (fun c3 => ?_)
      · rw [if_pos c3] at h
        refine J_aload_n (pc := 91) C 51 rfl 0 rfl rfl ?_
        refine J_iconst (pc := 92) (v := (0 : Int32)) C 52 rfl rfl ?_
        refine J_puti (pc := 93) C 53 (fun vv => (wSeat G aT (aS 0) (vT_70 1) (vT_70 2) (vT_70 3) vv (vT_70 5 0) (vT_70 6) (vT_70 7) (vT_70 8))) rfl TB_l3 tyX3 tyX3_ok nmX3 rfl 0 4 rfl (by decide) k124 rfl rfl rfl (Nat.le_of_ble_eq_true rfl) (fun _ => rfl) ?_
        refine J_aload_n (pc := 96) C 54 rfl 0 rfl rfl ?_
        refine J_iconst (pc := 97) (v := (0 : Int32)) C 55 rfl rfl ?_
        refine J_puti (pc := 98) C 56 (fun vv => (wSeat G aT (aS 0) (vT_70 1) (vT_70 2) (vT_70 3) (0 : Int32) vv (vT_70 6) (vT_70 7) (vT_70 8))) rfl TB_l3 tyX3 tyX3_ok nmX3 rfl 0 5 rfl (by decide) k125 rfl rfl rfl (Nat.le_of_ble_eq_true rfl) (fun _ => rfl) ?_
        cases h
        exact J_vret (pc := 101) C 57 rfl
      · rw [if_neg c3] at h
        refine J_aload_n (pc := 76) C 44 rfl 0 rfl rfl ?_
        refine J_get (pc := 77) (v := .ref (aT 6)) C 45 rfl TB_l3 rfl 0 8 rfl (by decide) k128 rfl rfl ?_
        refine J_iload_n (pc := 80) C 46 rfl 1 rfl rfl ?_
        refine J_sipush (pc := 81) (v := (-1000 : Int32)) C 47 rfl rfl ?_
        obtain ⟨g4, h⟩ := gd_some h
        refine J_iast (pc := 84) (f := (vT_70 8)) (m := (Int32.toNatClampNeg x1_70)) C 48 (fun mm vv => (wSeat G aT (aS 0) (vT_70 1) (vT_70 2) (vT_70 3) (vT_70 4 0) (vT_70 5 0) (vT_70 6) (vT_70 7) (upd (vT_70 8) mm vv))) rfl 6 rfl g4 rfl (fun _ _ => rfl) ?_
        refine J_iinc (pc := 85) (v := (x1_70 + (1 : Int32))) (lv' := [(1, .int (x1_70 + (1 : Int32))), (0, .ref (aT 0))]) C 49 rfl 1 rfl rfl (by decide) rfl ?_
        refine J_goto (pc := 88) (tgt := 70) C 50 rfl rfl ?_
        exact J_sub [1, 0] rfl (ih70 (up2 vT_70 8 (Int32.toNatClampNeg x1_70) (-1000 : Int32)) (x1_70 + (1 : Int32)) h)
  have B40 : ∀ (n40 : Nat) (vT_40 : JV) (x1_40 : Int32), f_X3_clear_L40  n40 vT_40 x1_40 = some Rz → J l { frames := 0, cells := 0, slots := 0, locals := 0 } G 2 X (QM X G 0 0 none (wSeat G aT (aS 0) (Rz 1) (Rz 2) (Rz 3) (Rz 4 0) (Rz 5 0) (Rz 6) (Rz 7) (Rz 8))) 0 0 40 [(0, .ref (aT 0)), (1, .int x1_40)] [] (wSeat G aT (aS 0) (vT_40 1) (vT_40 2) (vT_40 3) (vT_40 4 0) (vT_40 5 0) (vT_40 6) (vT_40 7) (vT_40 8)) := by
    intro  n40
    induction n40 with
    | zero =>
      intro vT_40 x1_40 h
      exact (no_none rfl h).elim
    | succ n40 ih40 =>
      intro vT_40 x1_40 h
      replace h : f_X3_clear_b40  (fun vT_40 x1_40 => f_X3_clear_L40  n40 vT_40 x1_40) vT_40 x1_40 = some Rz := h
      unfold f_X3_clear_b40 at h
      refine J_iload_n (pc := 40) C 24 rfl 1 rfl rfl ?_
      refine J_bipush (pc := 41) (v := (64 : Int32)) C 25 rfl rfl ?_
      refine J_icmp_ge (pc := 43) (tgt := 68) C 26 rfl rfl (fun c2 => ?_) (fun c2 => ?_)
      · rw [if_pos c2] at h
        refine J_iconst (pc := 68) (v := (0 : Int32)) C 39 rfl rfl ?_
        refine J_istore_n (pc := 69) (lv' := [(1, .int (0 : Int32)), (0, .ref (aT 0))]) C 40 rfl rfl (by decide) rfl ?_
        exact J_sub [1, 0] rfl (B70  FU vT_40 (0 : Int32) h)
      · rw [if_neg c2] at h
        refine J_aload_n (pc := 46) C 27 rfl 0 rfl rfl ?_
        refine J_get (pc := 47) (v := .ref (aT 4)) C 28 rfl TB_l3 rfl 0 6 rfl (by decide) k126 rfl rfl ?_
        refine J_iload_n (pc := 50) C 29 rfl 1 rfl rfl ?_
        refine J_sipush (pc := 51) (v := (-1000 : Int32)) C 30 rfl rfl ?_
        obtain ⟨g5, h⟩ := gd_some h
        refine J_iast (pc := 54) (f := (vT_40 6)) (m := (Int32.toNatClampNeg x1_40)) C 31 (fun mm vv => (wSeat G aT (aS 0) (vT_40 1) (vT_40 2) (vT_40 3) (vT_40 4 0) (vT_40 5 0) (upd (vT_40 6) mm vv) (vT_40 7) (vT_40 8))) rfl 4 rfl g5 rfl (fun _ _ => rfl) ?_
        refine J_aload_n (pc := 55) C 32 rfl 0 rfl rfl ?_
        refine J_get (pc := 56) (v := .ref (aT 5)) C 33 rfl TB_l3 rfl 0 7 rfl (by decide) k127 rfl rfl ?_
        refine J_iload_n (pc := 59) C 34 rfl 1 rfl rfl ?_
        refine J_iconst (pc := 60) (v := (0 : Int32)) C 35 rfl rfl ?_
        obtain ⟨g6, h⟩ := gd_some h
        refine J_iast (pc := 61) (f := (vT_40 7)) (m := (Int32.toNatClampNeg x1_40)) C 36 (fun mm vv => (wSeat G aT (aS 0) (vT_40 1) (vT_40 2) (vT_40 3) (vT_40 4 0) (vT_40 5 0) (upd (vT_40 6) (Int32.toNatClampNeg x1_40) (-1000 : Int32)) (upd (vT_40 7) mm vv) (vT_40 8))) rfl 5 rfl g6 rfl (fun _ _ => rfl) ?_
        refine J_iinc (pc := 62) (v := (x1_40 + (1 : Int32))) (lv' := [(1, .int (x1_40 + (1 : Int32))), (0, .ref (aT 0))]) C 37 rfl 1 rfl rfl (by decide) rfl ?_
        refine J_goto (pc := 65) (tgt := 40) C 38 rfl rfl ?_
        exact J_sub [1, 0] rfl (ih40 (up2 (up2 vT_40 6 (Int32.toNatClampNeg x1_40) (-1000 : Int32)) 7 (Int32.toNatClampNeg x1_40) (0 : Int32)) (x1_40 + (1 : Int32)) h)
  have B2 : ∀ (n2 : Nat) (vT_2 : JV) (x1_2 : Int32), f_X3_clear_L2  n2 vT_2 x1_2 = some Rz → J l { frames := 0, cells := 0, slots := 0, locals := 0 } G 2 X (QM X G 0 0 none (wSeat G aT (aS 0) (Rz 1) (Rz 2) (Rz 3) (Rz 4 0) (Rz 5 0) (Rz 6) (Rz 7) (Rz 8))) 0 0 2 [(0, .ref (aT 0)), (1, .int x1_2)] [] (wSeat G aT (aS 0) (vT_2 1) (vT_2 2) (vT_2 3) (vT_2 4 0) (vT_2 5 0) (vT_2 6) (vT_2 7) (vT_2 8)) := by
    intro  n2
    induction n2 with
    | zero =>
      intro vT_2 x1_2 h
      exact (no_none rfl h).elim
    | succ n2 ih2 =>
      intro vT_2 x1_2 h
      replace h : f_X3_clear_b2  (fun vT_2 x1_2 => f_X3_clear_L2  n2 vT_2 x1_2) vT_2 x1_2 = some Rz := h
      unfold f_X3_clear_b2 at h
      refine J_iload_n (pc := 2) C 2 rfl 1 rfl rfl ?_
      refine J_bipush (pc := 3) (v := (96 : Int32)) C 3 rfl rfl ?_
      refine J_icmp_ge (pc := 5) (tgt := 38) C 4 rfl rfl (fun c1 => ?_) (fun c1 => ?_)
      · rw [if_pos c1] at h
        refine J_iconst (pc := 38) (v := (0 : Int32)) C 22 rfl rfl ?_
        refine J_istore_n (pc := 39) (lv' := [(1, .int (0 : Int32)), (0, .ref (aT 0))]) C 23 rfl rfl (by decide) rfl ?_
        exact J_sub [1, 0] rfl (B40  FU vT_2 (0 : Int32) h)
      · rw [if_neg c1] at h
        refine J_aload_n (pc := 8) C 5 rfl 0 rfl rfl ?_
        refine J_get (pc := 9) (v := .ref (aT 1)) C 6 rfl TB_l3 rfl 0 1 rfl (by decide) k121 rfl rfl ?_
        refine J_iload_n (pc := 12) C 7 rfl 1 rfl rfl ?_
        refine J_bipush (pc := 13) (v := (-6 : Int32)) C 8 rfl rfl ?_
        obtain ⟨g7, h⟩ := gd_some h
        refine J_iast (pc := 15) (f := (vT_2 1)) (m := (Int32.toNatClampNeg x1_2)) C 9 (fun mm vv => (wSeat G aT (aS 0) (upd (vT_2 1) mm vv) (vT_2 2) (vT_2 3) (vT_2 4 0) (vT_2 5 0) (vT_2 6) (vT_2 7) (vT_2 8))) rfl 1 rfl g7 rfl (fun _ _ => rfl) ?_
        refine J_aload_n (pc := 16) C 10 rfl 0 rfl rfl ?_
        refine J_get (pc := 17) (v := .ref (aT 2)) C 11 rfl TB_l3 rfl 0 2 rfl (by decide) k122 rfl rfl ?_
        refine J_iload_n (pc := 20) C 12 rfl 1 rfl rfl ?_
        refine J_bipush (pc := 21) (v := (-6 : Int32)) C 13 rfl rfl ?_
        obtain ⟨g8, h⟩ := gd_some h
        refine J_iast (pc := 23) (f := (vT_2 2)) (m := (Int32.toNatClampNeg x1_2)) C 14 (fun mm vv => (wSeat G aT (aS 0) (upd (vT_2 1) (Int32.toNatClampNeg x1_2) (-6 : Int32)) (upd (vT_2 2) mm vv) (vT_2 3) (vT_2 4 0) (vT_2 5 0) (vT_2 6) (vT_2 7) (vT_2 8))) rfl 2 rfl g8 rfl (fun _ _ => rfl) ?_
        refine J_aload_n (pc := 24) C 15 rfl 0 rfl rfl ?_
        refine J_get (pc := 25) (v := .ref (aT 3)) C 16 rfl TB_l3 rfl 0 3 rfl (by decide) k123 rfl rfl ?_
        refine J_iload_n (pc := 28) C 17 rfl 1 rfl rfl ?_
        refine J_bipush (pc := 29) (v := (-6 : Int32)) C 18 rfl rfl ?_
        obtain ⟨g9, h⟩ := gd_some h
        refine J_iast (pc := 31) (f := (vT_2 3)) (m := (Int32.toNatClampNeg x1_2)) C 19 (fun mm vv => (wSeat G aT (aS 0) (upd (vT_2 1) (Int32.toNatClampNeg x1_2) (-6 : Int32)) (upd (vT_2 2) (Int32.toNatClampNeg x1_2) (-6 : Int32)) (upd (vT_2 3) mm vv) (vT_2 4 0) (vT_2 5 0) (vT_2 6) (vT_2 7) (vT_2 8))) rfl 3 rfl g9 rfl (fun _ _ => rfl) ?_
        refine J_iinc (pc := 32) (v := (x1_2 + (1 : Int32))) (lv' := [(1, .int (x1_2 + (1 : Int32))), (0, .ref (aT 0))]) C 20 rfl 1 rfl rfl (by decide) rfl ?_
        refine J_goto (pc := 35) (tgt := 2) C 21 rfl rfl ?_
        exact J_sub [1, 0] rfl (ih2 (up2 (up2 (up2 vT_2 1 (Int32.toNatClampNeg x1_2) (-6 : Int32)) 2 (Int32.toNatClampNeg x1_2) (-6 : Int32)) 3 (Int32.toNatClampNeg x1_2) (-6 : Int32)) (x1_2 + (1 : Int32)) h)
  unfold f_X3_clear at h
  refine J_iconst (pc := 0) (v := (0 : Int32)) C 0 rfl rfl ?_
  refine J_istore_n (pc := 1) (lv' := [(1, .int (0 : Int32)), (0, .ref (aT 0))]) C 1 rfl rfl (by decide) rfl ?_
  exact J_sub [1, 0] rfl (B2  FU vT (0 : Int32) h)
def T_X3_isEarlyEnough : List (Nat × ClassFile.Instr × Nat) := [(0, .iload_n 1, 1), (1, .aload_n 0, 1), (2, .getfield 12, 3), (5, .iload_n 2, 1), (6, .invokevirtual 102, 3), (9, .aload_n 0, 1), (10, .getfield 12, 3), (13, .getfield 72, 3), (16, .iconst 2, 1), (17, .iaload, 1), (18, .isub, 1), (19, .if_icmp .gt 7, 3), (22, .iconst 1, 1), (23, .goto 4, 3), (26, .iconst 0, 1), (27, .ireturn, 1)]
theorem D_X3_isEarlyEnough : ∀ q ∈ T_X3_isEarlyEnough, decode cX3_isEarlyEnough q.1 = .ok q.2 := by decide +kernel
theorem V_X3_isEarlyEnough : Vy yX3_isEarlyEnough cX3_isEarlyEnough 3 (some .boolean) 2 := ⟨k131, k138, by decide +kernel⟩
theorem i_X3_isEarlyEnough : Cond.instanceMethod yX3_isEarlyEnough ∈ TB := k136
theorem s_X3_isEarlyEnough : Cond.selects yX3_isEarlyEnough.cls yX3_isEarlyEnough yX3_isEarlyEnough ∈ TB := k137
noncomputable def f_X3_isEarlyEnough (vT : JV) (vS : JV) (x1 : Int32) (x2 : Int32) : Option (Int32) :=
  (f_X2_beginOf vS x2).bind (fun q1 => (if (q1 - ((vS 0) 2)) < x1 then some (0 : Int32) else some (1 : Int32)))
set_option maxRecDepth 100000 in
set_option maxHeartbeats 4000000 in
theorem c_X3_isEarlyEnough {l : Launch} {G : JG} (aT : Nat → Nat) (aS : Nat → Nat) (vT : JV) (vS : JV) (x1 : Int32) (x2 : Int32) {Rz : Int32} (h : f_X3_isEarlyEnough vT vS x1 x2 = some Rz) : JM l G yX3_isEarlyEnough cX3_isEarlyEnough 3 (some .boolean) 1 21 [.ref (aT 0), .int x1, .int x2] (wSeat G aT (aS 0) (vT 1) (vT 2) (vT 3) (vT 4 0) (vT 5 0) (vT 6) (vT 7) (vT 8) ++ (wSch G aS (vS 0) (vS 1) (vS 2) (vS 3) (vS 4) (vS 5) (vS 6) (vS 7) (vS 8 0) (vS 9 0))) (wSeat G aT (aS 0) (vT 1) (vT 2) (vT 3) (vT 4 0) (vT 5 0) (vT 6) (vT 7) (vT 8) ++ (wSch G aS (vS 0) (vS 1) (vS 2) (vS 3) (vS 4) (vS 5) (vS 6) (vS 7) (vS 8 0) (vS 9 0))) (some (.int Rz)) := by
  refine JM.of (own := RX3) (tb := T_X3_isEarlyEnough) (by decide) (Nat.le_of_ble_eq_true rfl) D_X3_isEarlyEnough rfl (fun X C => ?_)
  refine J_sub (lv' := [(0, .ref (aT 0)), (1, .int x1), (2, .int x2)]) [0, 1, 2] rfl ?_
  unfold f_X3_isEarlyEnough at h
  refine J_iload_n (pc := 0) C 0 rfl 1 rfl rfl ?_
  refine J_aload_n (pc := 1) C 1 rfl 0 rfl rfl ?_
  refine J_get (pc := 2) (v := .ref (aS 0)) C 2 rfl TB_l3 rfl 0 0 rfl (by decide) k120 rfl rfl ?_
  refine J_iload_n (pc := 5) C 3 rfl 2 rfl rfl ?_
  obtain ⟨q1, hq1, h⟩ := bnd h
  refine J_callV (pc := 6) (st2 := [.int x1]) (st3 := [.int q1, .int x1]) (ws2 := (wSeat G aT (aS 0) (vT 1) (vT 2) (vT 3) (vT 4 0) (vT 5 0) (vT 6) (vT 7) (vT 8) ++ (wSch G aS (vS 0) (vS 1) (vS 2) (vS 3) (vS 4) (vS 5) (vS 6) (vS 7) (vS 8 0) (vS 9 0)))) C 4 rfl (c_X2_beginOf aS vS x2 hq1) V_X2_beginOf k133 i_X2_beginOf s_X2_beginOf rfl rfl ⟨Nat.le_of_ble_eq_true rfl, Nat.le_of_ble_eq_true rfl⟩ (Nat.le_of_ble_eq_true rfl) ⟨Nat.le_refl _, Nat.le_refl _⟩ 7 2 rfl rfl rfl (isC := [7, 8, 9, 10, 11, 12, 13, 14, 15]) (isR := [0, 1, 2, 3, 4, 5, 6]) (N := 16) ⟨rfl, by decide +kernel, rfl, by decide +kernel, rfl, ⟨⟨_, rfl, rfl⟩, ⟨⟨_, rfl, rfl⟩, ⟨⟨_, rfl, rfl⟩, ⟨⟨_, rfl, rfl⟩, ⟨⟨_, rfl, rfl⟩, ⟨⟨_, rfl, rfl⟩, ⟨⟨_, rfl, rfl⟩, trivial⟩⟩⟩⟩⟩⟩⟩⟩ rfl ?_
  refine J_aload_n (pc := 9) C 5 rfl 0 rfl rfl ?_
  refine J_get (pc := 10) (v := .ref (aS 0)) C 6 rfl TB_l3 rfl 0 0 rfl (by decide) k120 rfl rfl ?_
  refine J_get (pc := 13) (v := .ref (aS 1)) C 7 rfl TB_l2 rfl 7 0 rfl (by decide) k132 rfl rfl ?_
  refine J_iconst (pc := 16) (v := (2 : Int32)) C 8 rfl rfl ?_
  refine J_iald (pc := 17) (f := (vS 0)) (v := ((vS 0) 2)) C 9 rfl 8 rfl rfl rfl ?_
  refine J_isub (pc := 18) C 10 rfl  ?_
  refine J_icmp_gt (pc := 19) (tgt := 26) C 11 rfl rfl (fun c2 => ?_) (fun c2 => ?_)
  · rw [if_pos c2] at h
    refine J_iconst (pc := 26) (v := (0 : Int32)) C 14 rfl rfl ?_
    cases h
    exact J_zret (pc := 27) C 15 rfl rfl
  · rw [if_neg c2] at h
    refine J_iconst (pc := 22) (v := (1 : Int32)) C 12 rfl rfl ?_
    refine J_goto (pc := 23) (tgt := 27) C 13 rfl rfl ?_
    cases h
    exact J_zret (pc := 27) C 15 rfl rfl
def T_X3_seatInRoom : List (Nat × ClassFile.Instr × Nat) := [(0, .iconst 0, 1), (1, .istore_n 3, 1), (2, .iload_n 3, 1), (3, .aload_n 0, 1), (4, .getfield 12, 3), (7, .getfield 72, 3), (10, .iconst 1, 1), (11, .iaload, 1), (12, .if_icmp .ge 56, 3), (15, .iload_n 3, 1), (16, .bipush 6, 2), (18, .if_icmp .ge 50, 3), (21, .aload_n 0, 1), (22, .aload_n 0, 1), (23, .getfield 41, 3), (26, .iload_n 3, 1), (27, .iaload, 1), (28, .iload_n 2, 1), (29, .invokevirtual 75, 3), (32, .ifCond .eq 30, 3), (35, .aload_n 0, 1), (36, .getfield 25, 3), (39, .iload_n 1, 1), (40, .iload_n 2, 1), (41, .invokestatic 78, 3), (44, .iload_n 3, 1), (45, .iastore, 1), (46, .aload_n 0, 1), (47, .getfield 41, 3), (50, .iload_n 3, 1), (51, .aload_n 0, 1), (52, .getfield 12, 3), (55, .iload_n 1, 1), (56, .iload_n 2, 1), (57, .invokevirtual 82, 3), (60, .iastore, 1), (61, .return_, 1), (62, .iinc 3 1, 3), (65, .goto (-63), 3), (68, .aload_n 0, 1), (69, .dup, 1), (70, .getfield 28, 3), (73, .iconst 1, 1), (74, .iadd, 1), (75, .putfield 28, 3), (78, .aload_n 0, 1), (79, .dup, 1), (80, .getfield 32, 3), (83, .iconst 1, 1), (84, .iadd, 1), (85, .putfield 32, 3), (88, .return_, 1)]
theorem D_X3_seatInRoom : ∀ q ∈ T_X3_seatInRoom, decode cX3_seatInRoom q.1 = .ok q.2 := by decide +kernel
theorem V_X3_seatInRoom : Vy yX3_seatInRoom cX3_seatInRoom 4 none 2 := ⟨k141, k138, by decide +kernel⟩
theorem i_X3_seatInRoom : Cond.instanceMethod yX3_seatInRoom ∈ TB := k158
theorem s_X3_seatInRoom : Cond.selects yX3_seatInRoom.cls yX3_seatInRoom yX3_seatInRoom ∈ TB := k159
noncomputable def f_X3_seatInRoom_b2 (vS : JV) (x1_2 : Int32) (x2_2 : Int32) (r2 : JV → Int32 → Option (JV)) (vT_2 : JV) (x3_2 : Int32) : Option (JV) :=
  (if ((vS 0) 1) ≤ x3_2 then some (up2 (up2 vT_2 4 0 ((vT_2 4 0) + (1 : Int32))) 5 0 ((vT_2 5 0) + (1 : Int32))) else (if (6 : Int32) ≤ x3_2 then some (up2 (up2 vT_2 4 0 ((vT_2 4 0) + (1 : Int32))) 5 0 ((vT_2 5 0) + (1 : Int32))) else gd (inb x3_2 6) ((f_X3_isEarlyEnough vT_2 vS ((vT_2 8) (Int32.toNatClampNeg x3_2)) x2_2).bind (fun q4 => (if q4 = 0 then r2 vT_2 (x3_2 + (1 : Int32)) else (f_X4_sittingNumber x1_2 x2_2).bind (fun q6 => gd (inb q6 96) ((f_X2_endOf vS x1_2 x2_2).bind (fun q8 => gd (inb x3_2 6) (some (up2 (up2 vT_2 3 (Int32.toNatClampNeg q6) x3_2) 8 (Int32.toNatClampNeg x3_2) q8))))))))))
noncomputable def f_X3_seatInRoom_L2 (vS : JV) (x1_2 : Int32) (x2_2 : Int32) (n : Nat) (vT_2 : JV) (x3_2 : Int32) : Option (JV) :=
  lp (fun (rec : JV × Int32 → Option (JV)) a => f_X3_seatInRoom_b2 vS x1_2 x2_2 (fun vT_2 x3_2 => rec (vT_2, x3_2)) a.1 a.2) n (vT_2, x3_2)
noncomputable def f_X3_seatInRoom (vT : JV) (vS : JV) (x1 : Int32) (x2 : Int32) : Option (JV) :=
  f_X3_seatInRoom_L2 vS x1 x2 FU vT (0 : Int32)
set_option maxRecDepth 100000 in
set_option maxHeartbeats 4000000 in
theorem c_X3_seatInRoom {l : Launch} {G : JG} (aT : Nat → Nat) (aS : Nat → Nat) (vT : JV) (vS : JV) (x1 : Int32) (x2 : Int32) {Rz : JV} (h : f_X3_seatInRoom vT vS x1 x2 = some Rz) : JM l G yX3_seatInRoom cX3_seatInRoom 4 none 2 44 [.ref (aT 0), .int x1, .int x2] (wSeat G aT (aS 0) (vT 1) (vT 2) (vT 3) (vT 4 0) (vT 5 0) (vT 6) (vT 7) (vT 8) ++ (wSch G aS (vS 0) (vS 1) (vS 2) (vS 3) (vS 4) (vS 5) (vS 6) (vS 7) (vS 8 0) (vS 9 0))) (wSeat G aT (aS 0) (Rz 1) (Rz 2) (Rz 3) (Rz 4 0) (Rz 5 0) (Rz 6) (Rz 7) (Rz 8) ++ (wSch G aS (vS 0) (vS 1) (vS 2) (vS 3) (vS 4) (vS 5) (vS 6) (vS 7) (vS 8 0) (vS 9 0))) none := by
  refine JM.of (own := RX3) (tb := T_X3_seatInRoom) (by decide) (Nat.le_of_ble_eq_true rfl) D_X3_seatInRoom rfl (fun X C => ?_)
  refine J_sub (lv' := [(0, .ref (aT 0)), (1, .int x1), (2, .int x2)]) [0, 1, 2] rfl ?_
  have B2 : ∀ (x1_2 : Int32) (x2_2 : Int32) (n2 : Nat) (vT_2 : JV) (x3_2 : Int32), f_X3_seatInRoom_L2 vS x1_2 x2_2 n2 vT_2 x3_2 = some Rz → J l { frames := 2, cells := 0, slots := 0, locals := 44 } G 4 X (QM X G 0 0 none (wSeat G aT (aS 0) (Rz 1) (Rz 2) (Rz 3) (Rz 4 0) (Rz 5 0) (Rz 6) (Rz 7) (Rz 8) ++ (wSch G aS (vS 0) (vS 1) (vS 2) (vS 3) (vS 4) (vS 5) (vS 6) (vS 7) (vS 8 0) (vS 9 0)))) 0 0 2 [(0, .ref (aT 0)), (1, .int x1_2), (2, .int x2_2), (3, .int x3_2)] [] (wSeat G aT (aS 0) (vT_2 1) (vT_2 2) (vT_2 3) (vT_2 4 0) (vT_2 5 0) (vT_2 6) (vT_2 7) (vT_2 8) ++ (wSch G aS (vS 0) (vS 1) (vS 2) (vS 3) (vS 4) (vS 5) (vS 6) (vS 7) (vS 8 0) (vS 9 0))) := by
    intro x1_2 x2_2 n2
    induction n2 with
    | zero =>
      intro vT_2 x3_2 h
      exact (no_none rfl h).elim
    | succ n2 ih2 =>
      intro vT_2 x3_2 h
      replace h : f_X3_seatInRoom_b2 vS x1_2 x2_2 (fun vT_2 x3_2 => f_X3_seatInRoom_L2 vS x1_2 x2_2 n2 vT_2 x3_2) vT_2 x3_2 = some Rz := h
      unfold f_X3_seatInRoom_b2 at h
      refine J_iload_n (pc := 2) C 2 rfl 3 rfl rfl ?_
      refine J_aload_n (pc := 3) C 3 rfl 0 rfl rfl ?_
      refine J_get (pc := 4) (v := .ref (aS 0)) C 4 rfl TB_l3 rfl 0 0 rfl (by decide) k120 rfl rfl ?_
      refine J_get (pc := 7) (v := .ref (aS 1)) C 5 rfl TB_l2 rfl 7 0 rfl (by decide) k132 rfl rfl ?_
      refine J_iconst (pc := 10) (v := (1 : Int32)) C 6 rfl rfl ?_
      refine J_iald (pc := 11) (f := (vS 0)) (v := ((vS 0) 1)) C 7 rfl 8 rfl rfl rfl ?_
      refine J_icmp_ge (pc := 12) (tgt := 68) C 8 rfl rfl (fun c1 => ?_) (fun c1 => ?_)
      · rw [if_pos c1] at h
        refine J_aload_n (pc := 68) C 39 rfl 0 rfl rfl ?_
        refine J_dup (pc := 69) C 40 rfl rfl ?_
        refine J_get (pc := 70) (v := .int (vT_2 4 0)) C 41 rfl TB_l3 rfl 0 4 rfl (by decide) k124 rfl rfl ?_
        refine J_iconst (pc := 73) (v := (1 : Int32)) C 42 rfl rfl ?_
        refine J_iadd (pc := 74) C 43 rfl  ?_
        refine J_puti (pc := 75) C 44 (fun vv => (wSeat G aT (aS 0) (vT_2 1) (vT_2 2) (vT_2 3) vv (vT_2 5 0) (vT_2 6) (vT_2 7) (vT_2 8) ++ (wSch G aS (vS 0) (vS 1) (vS 2) (vS 3) (vS 4) (vS 5) (vS 6) (vS 7) (vS 8 0) (vS 9 0)))) rfl TB_l3 tyX3 tyX3_ok nmX3 rfl 0 4 rfl (by decide) k124 rfl rfl rfl (Nat.le_of_ble_eq_true rfl) (fun _ => rfl) ?_
        refine J_aload_n (pc := 78) C 45 rfl 0 rfl rfl ?_
        refine J_dup (pc := 79) C 46 rfl rfl ?_
        refine J_get (pc := 80) (v := .int (vT_2 5 0)) C 47 rfl TB_l3 rfl 0 5 rfl (by decide) k125 rfl rfl ?_
        refine J_iconst (pc := 83) (v := (1 : Int32)) C 48 rfl rfl ?_
        refine J_iadd (pc := 84) C 49 rfl  ?_
        refine J_puti (pc := 85) C 50 (fun vv => (wSeat G aT (aS 0) (vT_2 1) (vT_2 2) (vT_2 3) ((vT_2 4 0) + (1 : Int32)) vv (vT_2 6) (vT_2 7) (vT_2 8) ++ (wSch G aS (vS 0) (vS 1) (vS 2) (vS 3) (vS 4) (vS 5) (vS 6) (vS 7) (vS 8 0) (vS 9 0)))) rfl TB_l3 tyX3 tyX3_ok nmX3 rfl 0 5 rfl (by decide) k125 rfl rfl rfl (Nat.le_of_ble_eq_true rfl) (fun _ => rfl) ?_
        cases h
        exact J_vret (pc := 88) C 51 rfl
      · rw [if_neg c1] at h
        refine J_iload_n (pc := 15) C 9 rfl 3 rfl rfl ?_
        refine J_bipush (pc := 16) (v := (6 : Int32)) C 10 rfl rfl ?_
        refine J_icmp_ge (pc := 18) (tgt := 68) C 11 rfl rfl (fun c2 => ?_) (fun c2 => ?_)
        · rw [if_pos c2] at h
          refine J_aload_n (pc := 68) C 39 rfl 0 rfl rfl ?_
          refine J_dup (pc := 69) C 40 rfl rfl ?_
          refine J_get (pc := 70) (v := .int (vT_2 4 0)) C 41 rfl TB_l3 rfl 0 4 rfl (by decide) k124 rfl rfl ?_
          refine J_iconst (pc := 73) (v := (1 : Int32)) C 42 rfl rfl ?_
          refine J_iadd (pc := 74) C 43 rfl  ?_
          refine J_puti (pc := 75) C 44 (fun vv => (wSeat G aT (aS 0) (vT_2 1) (vT_2 2) (vT_2 3) vv (vT_2 5 0) (vT_2 6) (vT_2 7) (vT_2 8) ++ (wSch G aS (vS 0) (vS 1) (vS 2) (vS 3) (vS 4) (vS 5) (vS 6) (vS 7) (vS 8 0) (vS 9 0)))) rfl TB_l3 tyX3 tyX3_ok nmX3 rfl 0 4 rfl (by decide) k124 rfl rfl rfl (Nat.le_of_ble_eq_true rfl) (fun _ => rfl) ?_
          refine J_aload_n (pc := 78) C 45 rfl 0 rfl rfl ?_
          refine J_dup (pc := 79) C 46 rfl rfl ?_
          refine J_get (pc := 80) (v := .int (vT_2 5 0)) C 47 rfl TB_l3 rfl 0 5 rfl (by decide) k125 rfl rfl ?_
          refine J_iconst (pc := 83) (v := (1 : Int32)) C 48 rfl rfl ?_
          refine J_iadd (pc := 84) C 49 rfl  ?_
          refine J_puti (pc := 85) C 50 (fun vv => (wSeat G aT (aS 0) (vT_2 1) (vT_2 2) (vT_2 3) ((vT_2 4 0) + (1 : Int32)) vv (vT_2 6) (vT_2 7) (vT_2 8) ++ (wSch G aS (vS 0) (vS 1) (vS 2) (vS 3) (vS 4) (vS 5) (vS 6) (vS 7) (vS 8 0) (vS 9 0)))) rfl TB_l3 tyX3 tyX3_ok nmX3 rfl 0 5 rfl (by decide) k125 rfl rfl rfl (Nat.le_of_ble_eq_true rfl) (fun _ => rfl) ?_
          cases h
          exact J_vret (pc := 88) C 51 rfl
        · rw [if_neg c2] at h
          refine J_aload_n (pc := 21) C 12 rfl 0 rfl rfl ?_
          refine J_aload_n (pc := 22) C 13 rfl 0 rfl rfl ?_
          refine J_get (pc := 23) (v := .ref (aT 6)) C 14 rfl TB_l3 rfl 0 8 rfl (by decide) k128 rfl rfl ?_
          refine J_iload_n (pc := 26) C 15 rfl 3 rfl rfl ?_
          obtain ⟨g3, h⟩ := gd_some h
          refine J_iald (pc := 27) (f := (vT_2 8)) (v := ((vT_2 8) (Int32.toNatClampNeg x3_2))) C 16 rfl 6 rfl g3 rfl ?_
          refine J_iload_n (pc := 28) C 17 rfl 2 rfl rfl ?_
          obtain ⟨q4, hq4, h⟩ := bnd h
          refine J_callV (pc := 29) (st2 := []) (st3 := [.int q4]) (ws2 := (wSeat G aT (aS 0) (vT_2 1) (vT_2 2) (vT_2 3) (vT_2 4 0) (vT_2 5 0) (vT_2 6) (vT_2 7) (vT_2 8) ++ (wSch G aS (vS 0) (vS 1) (vS 2) (vS 3) (vS 4) (vS 5) (vS 6) (vS 7) (vS 8 0) (vS 9 0)))) C 18 rfl (c_X3_isEarlyEnough aT aS vT_2 vS ((vT_2 8) (Int32.toNatClampNeg x3_2)) x2_2 hq4) V_X3_isEarlyEnough k135 i_X3_isEarlyEnough s_X3_isEarlyEnough rfl rfl ⟨Nat.le_of_ble_eq_true rfl, Nat.le_of_ble_eq_true rfl⟩ (Nat.le_of_ble_eq_true rfl) ⟨Nat.le_refl _, Nat.le_refl _⟩ 0 3 rfl rfl rfl (isC := [0, 1, 2, 3, 4, 5, 6, 7, 8, 9, 10, 11, 12, 13, 14, 15]) (isR := []) (N := 16) ⟨rfl, by decide +kernel, rfl, by decide +kernel, rfl, trivial⟩ rfl ?_
          refine J_if_eq (pc := 32) (tgt := 62) C 19 rfl rfl (fun c5 => ?_) (fun c5 => ?_)
          · rw [if_pos c5] at h
            refine J_iinc (pc := 62) (v := (x3_2 + (1 : Int32))) (lv' := [(3, .int (x3_2 + (1 : Int32))), (0, .ref (aT 0)), (1, .int x1_2), (2, .int x2_2)]) C 37 rfl 3 rfl rfl (by decide) rfl ?_
            refine J_goto (pc := 65) (tgt := 2) C 38 rfl rfl ?_
            exact J_sub [1, 2, 3, 0] rfl (ih2 vT_2 (x3_2 + (1 : Int32)) h)
          · rw [if_neg c5] at h
            refine J_aload_n (pc := 35) C 20 rfl 0 rfl rfl ?_
            refine J_get (pc := 36) (v := .ref (aT 3)) C 21 rfl TB_l3 rfl 0 3 rfl (by decide) k123 rfl rfl ?_
            refine J_iload_n (pc := 39) C 22 rfl 1 rfl rfl ?_
            refine J_iload_n (pc := 40) C 23 rfl 2 rfl rfl ?_
            obtain ⟨q6, hq6, h⟩ := bnd h
            refine J_callSN (pc := 41) (st2 := [.ref (aT 3)]) (st3 := [.int q6, .ref (aT 3)]) (ws2 := (wSeat G aT (aS 0) (vT_2 1) (vT_2 2) (vT_2 3) (vT_2 4 0) (vT_2 5 0) (vT_2 6) (vT_2 7) (vT_2 8) ++ (wSch G aS (vS 0) (vS 1) (vS 2) (vS 3) (vS 4) (vS 5) (vS 6) (vS 7) (vS 8 0) (vS 9 0)))) C 24 rfl (c_X4_sittingNumber x1_2 x2_2 hq6) V_X4_sittingNumber (List.mem_of_getElem? (i := 6) rfl) t_X4_sittingNumber rfl rfl ⟨Nat.le_of_ble_eq_true rfl, Nat.le_of_ble_eq_true rfl⟩ (Nat.le_of_ble_eq_true rfl) ⟨Nat.le_refl _, Nat.le_refl _⟩ (isC := []) (isR := [0, 1, 2, 3, 4, 5, 6, 7, 8, 9, 10, 11, 12, 13, 14, 15]) (N := 16) ⟨rfl, by decide +kernel, rfl, by decide +kernel, rfl, ⟨⟨_, rfl, rfl⟩, ⟨⟨_, rfl, rfl⟩, ⟨⟨_, rfl, rfl⟩, ⟨⟨_, rfl, rfl⟩, ⟨⟨_, rfl, rfl⟩, ⟨⟨_, rfl, rfl⟩, ⟨⟨_, rfl, rfl⟩, ⟨⟨_, rfl, rfl⟩, ⟨⟨_, rfl, rfl⟩, ⟨⟨_, rfl, rfl⟩, ⟨⟨_, rfl, rfl⟩, ⟨⟨_, rfl, rfl⟩, ⟨⟨_, rfl, rfl⟩, ⟨⟨_, rfl, rfl⟩, ⟨⟨_, rfl, rfl⟩, ⟨⟨_, rfl, rfl⟩, trivial⟩⟩⟩⟩⟩⟩⟩⟩⟩⟩⟩⟩⟩⟩⟩⟩⟩ rfl ?_
            refine J_iload_n (pc := 44) C 25 rfl 3 rfl rfl ?_
            obtain ⟨g7, h⟩ := gd_some h
            refine J_iast (pc := 45) (f := (vT_2 3)) (m := (Int32.toNatClampNeg q6)) C 26 (fun mm vv => (wSeat G aT (aS 0) (vT_2 1) (vT_2 2) (upd (vT_2 3) mm vv) (vT_2 4 0) (vT_2 5 0) (vT_2 6) (vT_2 7) (vT_2 8) ++ (wSch G aS (vS 0) (vS 1) (vS 2) (vS 3) (vS 4) (vS 5) (vS 6) (vS 7) (vS 8 0) (vS 9 0)))) rfl 3 rfl g7 rfl (fun _ _ => rfl) ?_
            refine J_aload_n (pc := 46) C 27 rfl 0 rfl rfl ?_
            refine J_get (pc := 47) (v := .ref (aT 6)) C 28 rfl TB_l3 rfl 0 8 rfl (by decide) k128 rfl rfl ?_
            refine J_iload_n (pc := 50) C 29 rfl 3 rfl rfl ?_
            refine J_aload_n (pc := 51) C 30 rfl 0 rfl rfl ?_
            refine J_get (pc := 52) (v := .ref (aS 0)) C 31 rfl TB_l3 rfl 0 0 rfl (by decide) k120 rfl rfl ?_
            refine J_iload_n (pc := 55) C 32 rfl 1 rfl rfl ?_
            refine J_iload_n (pc := 56) C 33 rfl 2 rfl rfl ?_
            obtain ⟨q8, hq8, h⟩ := bnd h
            refine J_callV (pc := 57) (st2 := [.int x3_2, .ref (aT 6)]) (st3 := [.int q8, .int x3_2, .ref (aT 6)]) (ws2 := (wSeat G aT (aS 0) (vT_2 1) (vT_2 2) (upd (vT_2 3) (Int32.toNatClampNeg q6) x3_2) (vT_2 4 0) (vT_2 5 0) (vT_2 6) (vT_2 7) (vT_2 8) ++ (wSch G aS (vS 0) (vS 1) (vS 2) (vS 3) (vS 4) (vS 5) (vS 6) (vS 7) (vS 8 0) (vS 9 0)))) C 34 rfl (c_X2_endOf aS vS x1_2 x2_2 hq8) V_X2_endOf k140 i_X2_endOf s_X2_endOf rfl rfl ⟨Nat.le_of_ble_eq_true rfl, Nat.le_of_ble_eq_true rfl⟩ (Nat.le_of_ble_eq_true rfl) ⟨Nat.le_refl _, Nat.le_refl _⟩ 7 2 rfl rfl rfl (isC := [7, 8, 9, 10, 11, 12, 13, 14, 15]) (isR := [0, 1, 2, 3, 4, 5, 6]) (N := 16) ⟨rfl, by decide +kernel, rfl, by decide +kernel, rfl, ⟨⟨_, rfl, rfl⟩, ⟨⟨_, rfl, rfl⟩, ⟨⟨_, rfl, rfl⟩, ⟨⟨_, rfl, rfl⟩, ⟨⟨_, rfl, rfl⟩, ⟨⟨_, rfl, rfl⟩, ⟨⟨_, rfl, rfl⟩, trivial⟩⟩⟩⟩⟩⟩⟩⟩ rfl ?_
            obtain ⟨g9, h⟩ := gd_some h
            refine J_iast (pc := 60) (f := (vT_2 8)) (m := (Int32.toNatClampNeg x3_2)) C 35 (fun mm vv => (wSeat G aT (aS 0) (vT_2 1) (vT_2 2) (upd (vT_2 3) (Int32.toNatClampNeg q6) x3_2) (vT_2 4 0) (vT_2 5 0) (vT_2 6) (vT_2 7) (upd (vT_2 8) mm vv) ++ (wSch G aS (vS 0) (vS 1) (vS 2) (vS 3) (vS 4) (vS 5) (vS 6) (vS 7) (vS 8 0) (vS 9 0)))) rfl 6 rfl g9 rfl (fun _ _ => rfl) ?_
            cases h
            exact J_vret (pc := 61) C 36 rfl
  unfold f_X3_seatInRoom at h
  refine J_iconst (pc := 0) (v := (0 : Int32)) C 0 rfl rfl ?_
  refine J_istore_n (pc := 1) (lv' := [(3, .int (0 : Int32)), (0, .ref (aT 0)), (1, .int x1), (2, .int x2)]) C 1 rfl rfl (by decide) rfl ?_
  exact J_sub [1, 2, 3, 0] rfl (B2 x1 x2 FU vT (0 : Int32) h)
def T_X3_isBeside : List (Nat × ClassFile.Instr × Nat) := [(0, .aload_n 0, 1), (1, .getfield 12, 3), (4, .getfield 95, 3), (7, .iload_n 1, 1), (8, .iaload, 1), (9, .istore 5, 2), (11, .bipush 16, 2), (13, .iload_n 1, 1), (14, .imul, 1), (15, .iload 5, 2), (17, .iload_n 2, 1), (18, .imul, 1), (19, .iadd, 1), (20, .iload_n 3, 1), (21, .iadd, 1), (22, .istore 6, 2), (24, .iload_n 3, 1), (25, .ifCond .le 20, 3), (28, .aload_n 0, 1), (29, .getfield 38, 3), (32, .iload 6, 2), (34, .iconst 1, 1), (35, .isub, 1), (36, .iaload, 1), (37, .iload 4, 2), (39, .invokestatic 106, 3), (42, .ifCond .ne 83, 3), (45, .iload_n 3, 1), (46, .iload 5, 2), (48, .iconst 1, 1), (49, .isub, 1), (50, .if_icmp .ge 20, 3), (53, .aload_n 0, 1), (54, .getfield 38, 3), (57, .iload 6, 2), (59, .iconst 1, 1), (60, .iadd, 1), (61, .iaload, 1), (62, .iload 4, 2), (64, .invokestatic 106, 3), (67, .ifCond .ne 58, 3), (70, .iload_n 2, 1), (71, .ifCond .le 21, 3), (74, .aload_n 0, 1), (75, .getfield 38, 3), (78, .iload 6, 2), (80, .iload 5, 2), (82, .isub, 1), (83, .iaload, 1), (84, .iload 4, 2), (86, .invokestatic 106, 3), (89, .ifCond .ne 36, 3), (92, .iload_n 2, 1), (93, .aload_n 0, 1), (94, .getfield 12, 3), (97, .getfield 92, 3), (100, .iload_n 1, 1), (101, .iaload, 1), (102, .iconst 1, 1), (103, .isub, 1), (104, .if_icmp .ge 25, 3), (107, .aload_n 0, 1), (108, .getfield 38, 3), (111, .iload 6, 2), (113, .iload 5, 2), (115, .iadd, 1), (116, .iaload, 1), (117, .iload 4, 2), (119, .invokestatic 106, 3), (122, .ifCond .eq 7, 3), (125, .iconst 1, 1), (126, .goto 4, 3), (129, .iconst 0, 1), (130, .ireturn, 1)]
theorem D_X3_isBeside : ∀ q ∈ T_X3_isBeside, decode cX3_isBeside q.1 = .ok q.2 := by decide +kernel
theorem V_X3_isBeside : Vy yX3_isBeside cX3_isBeside 7 (some .boolean) 4 := ⟨k142, k138, by decide +kernel⟩
theorem i_X3_isBeside : Cond.instanceMethod yX3_isBeside ∈ TB := k147
theorem s_X3_isBeside : Cond.selects yX3_isBeside.cls yX3_isBeside yX3_isBeside ∈ TB := k148
noncomputable def f_X3_isBeside_K92 (vT : JV) (vS : JV) (x1_92 : Int32) (x2_92 : Int32) (x4_92 : Int32) (x5_92 : Int32) (x6_92 : Int32) : Option (Int32) :=
  gd (inb x1_92 4) ((if (((vS 6) (Int32.toNatClampNeg x1_92)) - (1 : Int32)) ≤ x2_92 then some (0 : Int32) else gd (inb (x6_92 + x5_92) 64) ((f_X4_contains ((vT 7) (Int32.toNatClampNeg (x6_92 + x5_92))) x4_92).bind (fun q8 => (if q8 = 0 then some (0 : Int32) else some (1 : Int32))))))
noncomputable def f_X3_isBeside_K70 (vT : JV) (vS : JV) (x1_70 : Int32) (x2_70 : Int32) (x4_70 : Int32) (x5_70 : Int32) (x6_70 : Int32) : Option (Int32) :=
  (if x2_70 ≤ 0 then f_X3_isBeside_K92 vT vS x1_70 x2_70 x4_70 x5_70 x6_70 else gd (inb (x6_70 - x5_70) 64) ((f_X4_contains ((vT 7) (Int32.toNatClampNeg (x6_70 - x5_70))) x4_70).bind (fun q11 => (if q11 = 0 then f_X3_isBeside_K92 vT vS x1_70 x2_70 x4_70 x5_70 x6_70 else some (1 : Int32)))))
noncomputable def f_X3_isBeside_K45 (vT : JV) (vS : JV) (x1_45 : Int32) (x2_45 : Int32) (x3_45 : Int32) (x4_45 : Int32) (x5_45 : Int32) (x6_45 : Int32) : Option (Int32) :=
  (if (x5_45 - (1 : Int32)) ≤ x3_45 then f_X3_isBeside_K70 vT vS x1_45 x2_45 x4_45 x5_45 x6_45 else gd (inb (x6_45 + (1 : Int32)) 64) ((f_X4_contains ((vT 7) (Int32.toNatClampNeg (x6_45 + (1 : Int32)))) x4_45).bind (fun q14 => (if q14 = 0 then f_X3_isBeside_K70 vT vS x1_45 x2_45 x4_45 x5_45 x6_45 else some (1 : Int32)))))
noncomputable def f_X3_isBeside (vT : JV) (vS : JV) (x1 : Int32) (x2 : Int32) (x3 : Int32) (x4 : Int32) : Option (Int32) :=
  gd (inb x1 4) ((if x3 ≤ 0 then f_X3_isBeside_K45 vT vS x1 x2 x3 x4 ((vS 7) (Int32.toNatClampNeg x1)) ((((16 : Int32) * x1) + (((vS 7) (Int32.toNatClampNeg x1)) * x2)) + x3) else gd (inb (((((16 : Int32) * x1) + (((vS 7) (Int32.toNatClampNeg x1)) * x2)) + x3) - (1 : Int32)) 64) ((f_X4_contains ((vT 7) (Int32.toNatClampNeg (((((16 : Int32) * x1) + (((vS 7) (Int32.toNatClampNeg x1)) * x2)) + x3) - (1 : Int32)))) x4).bind (fun q17 => (if q17 = 0 then f_X3_isBeside_K45 vT vS x1 x2 x3 x4 ((vS 7) (Int32.toNatClampNeg x1)) ((((16 : Int32) * x1) + (((vS 7) (Int32.toNatClampNeg x1)) * x2)) + x3) else some (1 : Int32))))))
set_option maxRecDepth 100000 in
set_option maxHeartbeats 4000000 in
theorem c_X3_isBeside {l : Launch} {G : JG} (aT : Nat → Nat) (aS : Nat → Nat) (vT : JV) (vS : JV) (x1 : Int32) (x2 : Int32) (x3 : Int32) (x4 : Int32) {Rz : Int32} (h : f_X3_isBeside vT vS x1 x2 x3 x4 = some Rz) : JM l G yX3_isBeside cX3_isBeside 7 (some .boolean) 1 21 [.ref (aT 0), .int x1, .int x2, .int x3, .int x4] (wSeat G aT (aS 0) (vT 1) (vT 2) (vT 3) (vT 4 0) (vT 5 0) (vT 6) (vT 7) (vT 8) ++ (wSch G aS (vS 0) (vS 1) (vS 2) (vS 3) (vS 4) (vS 5) (vS 6) (vS 7) (vS 8 0) (vS 9 0))) (wSeat G aT (aS 0) (vT 1) (vT 2) (vT 3) (vT 4 0) (vT 5 0) (vT 6) (vT 7) (vT 8) ++ (wSch G aS (vS 0) (vS 1) (vS 2) (vS 3) (vS 4) (vS 5) (vS 6) (vS 7) (vS 8 0) (vS 9 0))) (some (.int Rz)) := by
  refine JM.of (own := RX3) (tb := T_X3_isBeside) (by decide) (Nat.le_of_ble_eq_true rfl) D_X3_isBeside rfl (fun X C => ?_)
  refine J_sub (lv' := [(0, .ref (aT 0)), (1, .int x1), (2, .int x2), (3, .int x3), (4, .int x4)]) [0, 1, 2, 3, 4] rfl ?_
  have B92 : ∀ (x1_92 : Int32) (x2_92 : Int32) (x4_92 : Int32) (x5_92 : Int32) (x6_92 : Int32), f_X3_isBeside_K92 vT vS x1_92 x2_92 x4_92 x5_92 x6_92 = some Rz → J l { frames := 1, cells := 0, slots := 0, locals := 21 } G 7 X (QM X G 0 0 (some (.int Rz)) (wSeat G aT (aS 0) (vT 1) (vT 2) (vT 3) (vT 4 0) (vT 5 0) (vT 6) (vT 7) (vT 8) ++ (wSch G aS (vS 0) (vS 1) (vS 2) (vS 3) (vS 4) (vS 5) (vS 6) (vS 7) (vS 8 0) (vS 9 0)))) 0 0 92 [(0, .ref (aT 0)), (1, .int x1_92), (2, .int x2_92), (4, .int x4_92), (5, .int x5_92), (6, .int x6_92)] [] (wSeat G aT (aS 0) (vT 1) (vT 2) (vT 3) (vT 4 0) (vT 5 0) (vT 6) (vT 7) (vT 8) ++ (wSch G aS (vS 0) (vS 1) (vS 2) (vS 3) (vS 4) (vS 5) (vS 6) (vS 7) (vS 8 0) (vS 9 0))) := by
    intro x1_92 x2_92 x4_92 x5_92 x6_92 h
    unfold f_X3_isBeside_K92 at h
    refine J_iload_n (pc := 92) C 52 rfl 2 rfl rfl ?_
    refine J_aload_n (pc := 93) C 53 rfl 0 rfl rfl ?_
    refine J_get (pc := 94) (v := .ref (aS 0)) C 54 rfl TB_l3 rfl 0 0 rfl (by decide) k120 rfl rfl ?_
    refine J_get (pc := 97) (v := .ref (aS 7)) C 55 rfl TB_l2 rfl 7 6 rfl (by decide) k144 rfl rfl ?_
    refine J_iload_n (pc := 100) C 56 rfl 1 rfl rfl ?_
    obtain ⟨g5, h⟩ := gd_some h
    refine J_iald (pc := 101) (f := (vS 6)) (v := ((vS 6) (Int32.toNatClampNeg x1_92))) C 57 rfl 14 rfl g5 rfl ?_
    refine J_iconst (pc := 102) (v := (1 : Int32)) C 58 rfl rfl ?_
    refine J_isub (pc := 103) C 59 rfl  ?_
    refine J_icmp_ge (pc := 104) (tgt := 129) C 60 rfl rfl (fun c6 => ?_) (fun c6 => ?_)
    · rw [if_pos c6] at h
      refine J_iconst (pc := 129) (v := (0 : Int32)) C 72 rfl rfl ?_
      cases h
      exact J_zret (pc := 130) C 73 rfl rfl
    · rw [if_neg c6] at h
      refine J_aload_n (pc := 107) C 61 rfl 0 rfl rfl ?_
      refine J_get (pc := 108) (v := .ref (aT 5)) C 62 rfl TB_l3 rfl 0 7 rfl (by decide) k127 rfl rfl ?_
      refine J_iload (pc := 111) C 63 rfl 5 rfl ?_
      refine J_iload (pc := 113) C 64 rfl 4 rfl ?_
      refine J_iadd (pc := 115) C 65 rfl  ?_
      obtain ⟨g7, h⟩ := gd_some h
      refine J_iald (pc := 116) (f := (vT 7)) (v := ((vT 7) (Int32.toNatClampNeg (x6_92 + x5_92)))) C 66 rfl 5 rfl g7 rfl ?_
      refine J_iload (pc := 117) C 67 rfl 3 rfl ?_
      obtain ⟨q8, hq8, h⟩ := bnd h
      refine J_callSN (pc := 119) (st2 := []) (st3 := [.int q8]) (ws2 := (wSeat G aT (aS 0) (vT 1) (vT 2) (vT 3) (vT 4 0) (vT 5 0) (vT 6) (vT 7) (vT 8) ++ (wSch G aS (vS 0) (vS 1) (vS 2) (vS 3) (vS 4) (vS 5) (vS 6) (vS 7) (vS 8 0) (vS 9 0)))) C 68 rfl (c_X4_contains ((vT 7) (Int32.toNatClampNeg (x6_92 + x5_92))) x4_92 hq8) V_X4_contains (List.mem_of_getElem? (i := 7) rfl) t_X4_contains rfl rfl ⟨Nat.le_of_ble_eq_true rfl, Nat.le_of_ble_eq_true rfl⟩ (Nat.le_of_ble_eq_true rfl) ⟨Nat.le_refl _, Nat.le_refl _⟩ (isC := []) (isR := [0, 1, 2, 3, 4, 5, 6, 7, 8, 9, 10, 11, 12, 13, 14, 15]) (N := 16) ⟨rfl, by decide +kernel, rfl, by decide +kernel, rfl, ⟨⟨_, rfl, rfl⟩, ⟨⟨_, rfl, rfl⟩, ⟨⟨_, rfl, rfl⟩, ⟨⟨_, rfl, rfl⟩, ⟨⟨_, rfl, rfl⟩, ⟨⟨_, rfl, rfl⟩, ⟨⟨_, rfl, rfl⟩, ⟨⟨_, rfl, rfl⟩, ⟨⟨_, rfl, rfl⟩, ⟨⟨_, rfl, rfl⟩, ⟨⟨_, rfl, rfl⟩, ⟨⟨_, rfl, rfl⟩, ⟨⟨_, rfl, rfl⟩, ⟨⟨_, rfl, rfl⟩, ⟨⟨_, rfl, rfl⟩, ⟨⟨_, rfl, rfl⟩, trivial⟩⟩⟩⟩⟩⟩⟩⟩⟩⟩⟩⟩⟩⟩⟩⟩⟩ rfl ?_
      refine J_if_eq (pc := 122) (tgt := 129) C 69 rfl rfl (fun c9 => ?_) (fun c9 => ?_)
      · rw [if_pos c9] at h
        refine J_iconst (pc := 129) (v := (0 : Int32)) C 72 rfl rfl ?_
        cases h
        exact J_zret (pc := 130) C 73 rfl rfl
      · rw [if_neg c9] at h
        refine J_iconst (pc := 125) (v := (1 : Int32)) C 70 rfl rfl ?_
        refine J_goto (pc := 126) (tgt := 130) C 71 rfl rfl ?_
        cases h
        exact J_zret (pc := 130) C 73 rfl rfl
  have B70 : ∀ (x1_70 : Int32) (x2_70 : Int32) (x4_70 : Int32) (x5_70 : Int32) (x6_70 : Int32), f_X3_isBeside_K70 vT vS x1_70 x2_70 x4_70 x5_70 x6_70 = some Rz → J l { frames := 1, cells := 0, slots := 0, locals := 21 } G 7 X (QM X G 0 0 (some (.int Rz)) (wSeat G aT (aS 0) (vT 1) (vT 2) (vT 3) (vT 4 0) (vT 5 0) (vT 6) (vT 7) (vT 8) ++ (wSch G aS (vS 0) (vS 1) (vS 2) (vS 3) (vS 4) (vS 5) (vS 6) (vS 7) (vS 8 0) (vS 9 0)))) 0 0 70 [(0, .ref (aT 0)), (1, .int x1_70), (2, .int x2_70), (4, .int x4_70), (5, .int x5_70), (6, .int x6_70)] [] (wSeat G aT (aS 0) (vT 1) (vT 2) (vT 3) (vT 4 0) (vT 5 0) (vT 6) (vT 7) (vT 8) ++ (wSch G aS (vS 0) (vS 1) (vS 2) (vS 3) (vS 4) (vS 5) (vS 6) (vS 7) (vS 8 0) (vS 9 0))) := by
    intro x1_70 x2_70 x4_70 x5_70 x6_70 h
    unfold f_X3_isBeside_K70 at h
    refine J_iload_n (pc := 70) C 41 rfl 2 rfl rfl ?_
    refine J_if_le (pc := 71) (tgt := 92) C 42 rfl rfl (fun c4 => ?_) (fun c4 => ?_)
    · rw [if_pos c4] at h
      exact J_sub [0, 1, 2, 3, 4, 5] rfl (B92 x1_70 x2_70 x4_70 x5_70 x6_70 h)
    · rw [if_neg c4] at h
      refine J_aload_n (pc := 74) C 43 rfl 0 rfl rfl ?_
      refine J_get (pc := 75) (v := .ref (aT 5)) C 44 rfl TB_l3 rfl 0 7 rfl (by decide) k127 rfl rfl ?_
      refine J_iload (pc := 78) C 45 rfl 5 rfl ?_
      refine J_iload (pc := 80) C 46 rfl 4 rfl ?_
      refine J_isub (pc := 82) C 47 rfl  ?_
      obtain ⟨g10, h⟩ := gd_some h
      refine J_iald (pc := 83) (f := (vT 7)) (v := ((vT 7) (Int32.toNatClampNeg (x6_70 - x5_70)))) C 48 rfl 5 rfl g10 rfl ?_
      refine J_iload (pc := 84) C 49 rfl 3 rfl ?_
      obtain ⟨q11, hq11, h⟩ := bnd h
      refine J_callSN (pc := 86) (st2 := []) (st3 := [.int q11]) (ws2 := (wSeat G aT (aS 0) (vT 1) (vT 2) (vT 3) (vT 4 0) (vT 5 0) (vT 6) (vT 7) (vT 8) ++ (wSch G aS (vS 0) (vS 1) (vS 2) (vS 3) (vS 4) (vS 5) (vS 6) (vS 7) (vS 8 0) (vS 9 0)))) C 50 rfl (c_X4_contains ((vT 7) (Int32.toNatClampNeg (x6_70 - x5_70))) x4_70 hq11) V_X4_contains (List.mem_of_getElem? (i := 7) rfl) t_X4_contains rfl rfl ⟨Nat.le_of_ble_eq_true rfl, Nat.le_of_ble_eq_true rfl⟩ (Nat.le_of_ble_eq_true rfl) ⟨Nat.le_refl _, Nat.le_refl _⟩ (isC := []) (isR := [0, 1, 2, 3, 4, 5, 6, 7, 8, 9, 10, 11, 12, 13, 14, 15]) (N := 16) ⟨rfl, by decide +kernel, rfl, by decide +kernel, rfl, ⟨⟨_, rfl, rfl⟩, ⟨⟨_, rfl, rfl⟩, ⟨⟨_, rfl, rfl⟩, ⟨⟨_, rfl, rfl⟩, ⟨⟨_, rfl, rfl⟩, ⟨⟨_, rfl, rfl⟩, ⟨⟨_, rfl, rfl⟩, ⟨⟨_, rfl, rfl⟩, ⟨⟨_, rfl, rfl⟩, ⟨⟨_, rfl, rfl⟩, ⟨⟨_, rfl, rfl⟩, ⟨⟨_, rfl, rfl⟩, ⟨⟨_, rfl, rfl⟩, ⟨⟨_, rfl, rfl⟩, ⟨⟨_, rfl, rfl⟩, ⟨⟨_, rfl, rfl⟩, trivial⟩⟩⟩⟩⟩⟩⟩⟩⟩⟩⟩⟩⟩⟩⟩⟩⟩ rfl ?_
      refine J_if_ne (pc := 89) (tgt := 125) C 51 rfl rfl (fun c12 => ?_) (fun c12 => ?_)
      · rw [if_neg c12] at h
        refine J_iconst (pc := 125) (v := (1 : Int32)) C 70 rfl rfl ?_
        refine J_goto (pc := 126) (tgt := 130) C 71 rfl rfl ?_
        cases h
        exact J_zret (pc := 130) C 73 rfl rfl
      · rw [if_pos c12] at h
        exact J_sub [0, 1, 2, 3, 4, 5] rfl (B92 x1_70 x2_70 x4_70 x5_70 x6_70 h)
  have B45 : ∀ (x1_45 : Int32) (x2_45 : Int32) (x3_45 : Int32) (x4_45 : Int32) (x5_45 : Int32) (x6_45 : Int32), f_X3_isBeside_K45 vT vS x1_45 x2_45 x3_45 x4_45 x5_45 x6_45 = some Rz → J l { frames := 1, cells := 0, slots := 0, locals := 21 } G 7 X (QM X G 0 0 (some (.int Rz)) (wSeat G aT (aS 0) (vT 1) (vT 2) (vT 3) (vT 4 0) (vT 5 0) (vT 6) (vT 7) (vT 8) ++ (wSch G aS (vS 0) (vS 1) (vS 2) (vS 3) (vS 4) (vS 5) (vS 6) (vS 7) (vS 8 0) (vS 9 0)))) 0 0 45 [(0, .ref (aT 0)), (1, .int x1_45), (2, .int x2_45), (3, .int x3_45), (4, .int x4_45), (5, .int x5_45), (6, .int x6_45)] [] (wSeat G aT (aS 0) (vT 1) (vT 2) (vT 3) (vT 4 0) (vT 5 0) (vT 6) (vT 7) (vT 8) ++ (wSch G aS (vS 0) (vS 1) (vS 2) (vS 3) (vS 4) (vS 5) (vS 6) (vS 7) (vS 8 0) (vS 9 0))) := by
    intro x1_45 x2_45 x3_45 x4_45 x5_45 x6_45 h
    unfold f_X3_isBeside_K45 at h
    refine J_iload_n (pc := 45) C 27 rfl 3 rfl rfl ?_
    refine J_iload (pc := 46) C 28 rfl 5 rfl ?_
    refine J_iconst (pc := 48) (v := (1 : Int32)) C 29 rfl rfl ?_
    refine J_isub (pc := 49) C 30 rfl  ?_
    refine J_icmp_ge (pc := 50) (tgt := 70) C 31 rfl rfl (fun c3 => ?_) (fun c3 => ?_)
    · rw [if_pos c3] at h
      exact J_sub [0, 1, 2, 4, 5, 6] rfl (B70 x1_45 x2_45 x4_45 x5_45 x6_45 h)
    · rw [if_neg c3] at h
      refine J_aload_n (pc := 53) C 32 rfl 0 rfl rfl ?_
      refine J_get (pc := 54) (v := .ref (aT 5)) C 33 rfl TB_l3 rfl 0 7 rfl (by decide) k127 rfl rfl ?_
      refine J_iload (pc := 57) C 34 rfl 6 rfl ?_
      refine J_iconst (pc := 59) (v := (1 : Int32)) C 35 rfl rfl ?_
      refine J_iadd (pc := 60) C 36 rfl  ?_
      obtain ⟨g13, h⟩ := gd_some h
      refine J_iald (pc := 61) (f := (vT 7)) (v := ((vT 7) (Int32.toNatClampNeg (x6_45 + (1 : Int32))))) C 37 rfl 5 rfl g13 rfl ?_
      refine J_iload (pc := 62) C 38 rfl 4 rfl ?_
      obtain ⟨q14, hq14, h⟩ := bnd h
      refine J_callSN (pc := 64) (st2 := []) (st3 := [.int q14]) (ws2 := (wSeat G aT (aS 0) (vT 1) (vT 2) (vT 3) (vT 4 0) (vT 5 0) (vT 6) (vT 7) (vT 8) ++ (wSch G aS (vS 0) (vS 1) (vS 2) (vS 3) (vS 4) (vS 5) (vS 6) (vS 7) (vS 8 0) (vS 9 0)))) C 39 rfl (c_X4_contains ((vT 7) (Int32.toNatClampNeg (x6_45 + (1 : Int32)))) x4_45 hq14) V_X4_contains (List.mem_of_getElem? (i := 7) rfl) t_X4_contains rfl rfl ⟨Nat.le_of_ble_eq_true rfl, Nat.le_of_ble_eq_true rfl⟩ (Nat.le_of_ble_eq_true rfl) ⟨Nat.le_refl _, Nat.le_refl _⟩ (isC := []) (isR := [0, 1, 2, 3, 4, 5, 6, 7, 8, 9, 10, 11, 12, 13, 14, 15]) (N := 16) ⟨rfl, by decide +kernel, rfl, by decide +kernel, rfl, ⟨⟨_, rfl, rfl⟩, ⟨⟨_, rfl, rfl⟩, ⟨⟨_, rfl, rfl⟩, ⟨⟨_, rfl, rfl⟩, ⟨⟨_, rfl, rfl⟩, ⟨⟨_, rfl, rfl⟩, ⟨⟨_, rfl, rfl⟩, ⟨⟨_, rfl, rfl⟩, ⟨⟨_, rfl, rfl⟩, ⟨⟨_, rfl, rfl⟩, ⟨⟨_, rfl, rfl⟩, ⟨⟨_, rfl, rfl⟩, ⟨⟨_, rfl, rfl⟩, ⟨⟨_, rfl, rfl⟩, ⟨⟨_, rfl, rfl⟩, ⟨⟨_, rfl, rfl⟩, trivial⟩⟩⟩⟩⟩⟩⟩⟩⟩⟩⟩⟩⟩⟩⟩⟩⟩ rfl ?_
      refine J_if_ne (pc := 67) (tgt := 125) C 40 rfl rfl (fun c15 => ?_) (fun c15 => ?_)
      · rw [if_neg c15] at h
        refine J_iconst (pc := 125) (v := (1 : Int32)) C 70 rfl rfl ?_
        refine J_goto (pc := 126) (tgt := 130) C 71 rfl rfl ?_
        cases h
        exact J_zret (pc := 130) C 73 rfl rfl
      · rw [if_pos c15] at h
        exact J_sub [0, 1, 2, 4, 5, 6] rfl (B70 x1_45 x2_45 x4_45 x5_45 x6_45 h)
  unfold f_X3_isBeside at h
  refine J_aload_n (pc := 0) C 0 rfl 0 rfl rfl ?_
  refine J_get (pc := 1) (v := .ref (aS 0)) C 1 rfl TB_l3 rfl 0 0 rfl (by decide) k120 rfl rfl ?_
  refine J_get (pc := 4) (v := .ref (aS 8)) C 2 rfl TB_l2 rfl 7 7 rfl (by decide) k143 rfl rfl ?_
  refine J_iload_n (pc := 7) C 3 rfl 1 rfl rfl ?_
  obtain ⟨g1, h⟩ := gd_some h
  refine J_iald (pc := 8) (f := (vS 7)) (v := ((vS 7) (Int32.toNatClampNeg x1))) C 4 rfl 15 rfl g1 rfl ?_
  refine J_istore (pc := 9) (lv' := [(5, .int ((vS 7) (Int32.toNatClampNeg x1))), (0, .ref (aT 0)), (1, .int x1), (2, .int x2), (3, .int x3), (4, .int x4)]) C 5 rfl (by decide) rfl ?_
  refine J_bipush (pc := 11) (v := (16 : Int32)) C 6 rfl rfl ?_
  refine J_iload_n (pc := 13) C 7 rfl 2 rfl rfl ?_
  refine J_imul (pc := 14) C 8 rfl  ?_
  refine J_iload (pc := 15) C 9 rfl 0 rfl ?_
  refine J_iload_n (pc := 17) C 10 rfl 3 rfl rfl ?_
  refine J_imul (pc := 18) C 11 rfl  ?_
  refine J_iadd (pc := 19) C 12 rfl  ?_
  refine J_iload_n (pc := 20) C 13 rfl 4 rfl rfl ?_
  refine J_iadd (pc := 21) C 14 rfl  ?_
  refine J_istore (pc := 22) (lv' := [(6, .int ((((16 : Int32) * x1) + (((vS 7) (Int32.toNatClampNeg x1)) * x2)) + x3)), (5, .int ((vS 7) (Int32.toNatClampNeg x1))), (0, .ref (aT 0)), (1, .int x1), (2, .int x2), (3, .int x3), (4, .int x4)]) C 15 rfl (by decide) rfl ?_
  refine J_iload_n (pc := 24) C 16 rfl 5 rfl rfl ?_
  refine J_if_le (pc := 25) (tgt := 45) C 17 rfl rfl (fun c2 => ?_) (fun c2 => ?_)
  · rw [if_pos c2] at h
    exact J_sub [2, 3, 4, 5, 6, 1, 0] rfl (B45 x1 x2 x3 x4 ((vS 7) (Int32.toNatClampNeg x1)) ((((16 : Int32) * x1) + (((vS 7) (Int32.toNatClampNeg x1)) * x2)) + x3) h)
  · rw [if_neg c2] at h
    refine J_aload_n (pc := 28) C 18 rfl 2 rfl rfl ?_
    refine J_get (pc := 29) (v := .ref (aT 5)) C 19 rfl TB_l3 rfl 0 7 rfl (by decide) k127 rfl rfl ?_
    refine J_iload (pc := 32) C 20 rfl 0 rfl ?_
    refine J_iconst (pc := 34) (v := (1 : Int32)) C 21 rfl rfl ?_
    refine J_isub (pc := 35) C 22 rfl  ?_
    obtain ⟨g16, h⟩ := gd_some h
    refine J_iald (pc := 36) (f := (vT 7)) (v := ((vT 7) (Int32.toNatClampNeg (((((16 : Int32) * x1) + (((vS 7) (Int32.toNatClampNeg x1)) * x2)) + x3) - (1 : Int32))))) C 23 rfl 5 rfl g16 rfl ?_
    refine J_iload (pc := 37) C 24 rfl 6 rfl ?_
    obtain ⟨q17, hq17, h⟩ := bnd h
    refine J_callSN (pc := 39) (st2 := []) (st3 := [.int q17]) (ws2 := (wSeat G aT (aS 0) (vT 1) (vT 2) (vT 3) (vT 4 0) (vT 5 0) (vT 6) (vT 7) (vT 8) ++ (wSch G aS (vS 0) (vS 1) (vS 2) (vS 3) (vS 4) (vS 5) (vS 6) (vS 7) (vS 8 0) (vS 9 0)))) C 25 rfl (c_X4_contains ((vT 7) (Int32.toNatClampNeg (((((16 : Int32) * x1) + (((vS 7) (Int32.toNatClampNeg x1)) * x2)) + x3) - (1 : Int32)))) x4 hq17) V_X4_contains (List.mem_of_getElem? (i := 7) rfl) t_X4_contains rfl rfl ⟨Nat.le_of_ble_eq_true rfl, Nat.le_of_ble_eq_true rfl⟩ (Nat.le_of_ble_eq_true rfl) ⟨Nat.le_refl _, Nat.le_refl _⟩ (isC := []) (isR := [0, 1, 2, 3, 4, 5, 6, 7, 8, 9, 10, 11, 12, 13, 14, 15]) (N := 16) ⟨rfl, by decide +kernel, rfl, by decide +kernel, rfl, ⟨⟨_, rfl, rfl⟩, ⟨⟨_, rfl, rfl⟩, ⟨⟨_, rfl, rfl⟩, ⟨⟨_, rfl, rfl⟩, ⟨⟨_, rfl, rfl⟩, ⟨⟨_, rfl, rfl⟩, ⟨⟨_, rfl, rfl⟩, ⟨⟨_, rfl, rfl⟩, ⟨⟨_, rfl, rfl⟩, ⟨⟨_, rfl, rfl⟩, ⟨⟨_, rfl, rfl⟩, ⟨⟨_, rfl, rfl⟩, ⟨⟨_, rfl, rfl⟩, ⟨⟨_, rfl, rfl⟩, ⟨⟨_, rfl, rfl⟩, ⟨⟨_, rfl, rfl⟩, trivial⟩⟩⟩⟩⟩⟩⟩⟩⟩⟩⟩⟩⟩⟩⟩⟩⟩ rfl ?_
    refine J_if_ne (pc := 42) (tgt := 125) C 26 rfl rfl (fun c18 => ?_) (fun c18 => ?_)
    · rw [if_neg c18] at h
      refine J_iconst (pc := 125) (v := (1 : Int32)) C 70 rfl rfl ?_
      refine J_goto (pc := 126) (tgt := 130) C 71 rfl rfl ?_
      cases h
      exact J_zret (pc := 130) C 73 rfl rfl
    · rw [if_pos c18] at h
      exact J_sub [2, 3, 4, 5, 6, 1, 0] rfl (B45 x1 x2 x3 x4 ((vS 7) (Int32.toNatClampNeg x1)) ((((16 : Int32) * x1) + (((vS 7) (Int32.toNatClampNeg x1)) * x2)) + x3) h)
def T_X3_firstDesk : List (Nat × ClassFile.Instr × Nat) := [(0, .iconst 0, 1), (1, .istore_n 3, 1), (2, .iload_n 3, 1), (3, .aload_n 0, 1), (4, .getfield 12, 3), (7, .getfield 92, 3), (10, .iload_n 1, 1), (11, .iaload, 1), (12, .if_icmp .ge 95, 3), (15, .iconst 0, 1), (16, .istore 4, 2), (18, .iload 4, 2), (20, .aload_n 0, 1), (21, .getfield 12, 3), (24, .getfield 95, 3), (27, .iload_n 1, 1), (28, .iaload, 1), (29, .if_icmp .ge 72, 3), (32, .aload_n 0, 1), (33, .getfield 12, 3), (36, .getfield 95, 3), (39, .iload_n 1, 1), (40, .iaload, 1), (41, .iload_n 3, 1), (42, .imul, 1), (43, .iload 4, 2), (45, .iadd, 1), (46, .istore 5, 2), (48, .aload_n 0, 1), (49, .aload_n 0, 1), (50, .getfield 35, 3), (53, .bipush 16, 2), (55, .iload_n 1, 1), (56, .imul, 1), (57, .iload 5, 2), (59, .iadd, 1), (60, .iaload, 1), (61, .iload_n 2, 1), (62, .invokevirtual 75, 3), (65, .ifCond .eq 30, 3), (68, .aload_n 0, 1), (69, .getfield 12, 3), (72, .getfield 72, 3), (75, .iconst 0, 1), (76, .iaload, 1), (77, .ifCond .eq 15, 3), (80, .aload_n 0, 1), (81, .iload_n 1, 1), (82, .iload_n 3, 1), (83, .iload 4, 2), (85, .iload_n 2, 1), (86, .invokevirtual 98, 3), (89, .ifCond .ne 6, 3), (92, .iload 5, 2), (94, .ireturn, 1), (95, .iinc 4 1, 3), (98, .goto (-80), 3), (101, .iinc 3 1, 3), (104, .goto (-102), 3), (107, .bipush (-6), 2), (109, .ireturn, 1)]
theorem D_X3_firstDesk : ∀ q ∈ T_X3_firstDesk, decode cX3_firstDesk q.1 = .ok q.2 := by decide +kernel
theorem V_X3_firstDesk : Vy yX3_firstDesk cX3_firstDesk 6 (some .int) 2 := ⟨k145, k138, by decide +kernel⟩
theorem i_X3_firstDesk : Cond.instanceMethod yX3_firstDesk ∈ TB := k151
theorem s_X3_firstDesk : Cond.selects yX3_firstDesk.cls yX3_firstDesk yX3_firstDesk ∈ TB := k152
noncomputable def f_X3_firstDesk_b18 (vT : JV) (vS : JV) (r2 : Int32 → Option (Int32)) (x1_2 : Int32) (x2_2 : Int32) (x3_18 : Int32) (r18 : Int32 → Option (Int32)) (x4_18 : Int32) : Option (Int32) :=
  gd (inb x1_2 4) ((if ((vS 7) (Int32.toNatClampNeg x1_2)) ≤ x4_18 then r2 (x3_18 + (1 : Int32)) else gd (inb x1_2 4) (gd (inb (((16 : Int32) * x1_2) + ((((vS 7) (Int32.toNatClampNeg x1_2)) * x3_18) + x4_18)) 64) ((f_X3_isEarlyEnough vT vS ((vT 6) (Int32.toNatClampNeg (((16 : Int32) * x1_2) + ((((vS 7) (Int32.toNatClampNeg x1_2)) * x3_18) + x4_18)))) x2_2).bind (fun q7 => (if q7 = 0 then r18 (x4_18 + (1 : Int32)) else (if ((vS 0) 0) = 0 then some ((((vS 7) (Int32.toNatClampNeg x1_2)) * x3_18) + x4_18) else (f_X3_isBeside vT vS x1_2 x3_18 x4_18 x2_2).bind (fun q10 => (if q10 = 0 then some ((((vS 7) (Int32.toNatClampNeg x1_2)) * x3_18) + x4_18) else r18 (x4_18 + (1 : Int32)))))))))))
noncomputable def f_X3_firstDesk_L18 (vT : JV) (vS : JV) (r2 : Int32 → Option (Int32)) (x1_2 : Int32) (x2_2 : Int32) (x3_18 : Int32) (n : Nat) (x4_18 : Int32) : Option (Int32) :=
  lp (fun (rec : Int32 → Option (Int32)) a => f_X3_firstDesk_b18 vT vS r2 x1_2 x2_2 x3_18 (fun x4_18 => rec x4_18) a) n x4_18
noncomputable def f_X3_firstDesk_b2 (vT : JV) (vS : JV) (x1_2 : Int32) (x2_2 : Int32) (r2 : Int32 → Option (Int32)) (x3_2 : Int32) : Option (Int32) :=
  gd (inb x1_2 4) ((if ((vS 6) (Int32.toNatClampNeg x1_2)) ≤ x3_2 then some (-6 : Int32) else f_X3_firstDesk_L18 vT vS r2 x1_2 x2_2 x3_2 FU (0 : Int32)))
noncomputable def f_X3_firstDesk_L2 (vT : JV) (vS : JV) (x1_2 : Int32) (x2_2 : Int32) (n : Nat) (x3_2 : Int32) : Option (Int32) :=
  lp (fun (rec : Int32 → Option (Int32)) a => f_X3_firstDesk_b2 vT vS x1_2 x2_2 (fun x3_2 => rec x3_2) a) n x3_2
noncomputable def f_X3_firstDesk (vT : JV) (vS : JV) (x1 : Int32) (x2 : Int32) : Option (Int32) :=
  f_X3_firstDesk_L2 vT vS x1 x2 FU (0 : Int32)
set_option maxRecDepth 100000 in
set_option maxHeartbeats 4000000 in
theorem c_X3_firstDesk {l : Launch} {G : JG} (aT : Nat → Nat) (aS : Nat → Nat) (vT : JV) (vS : JV) (x1 : Int32) (x2 : Int32) {Rz : Int32} (h : f_X3_firstDesk vT vS x1 x2 = some Rz) : JM l G yX3_firstDesk cX3_firstDesk 6 (some .int) 2 47 [.ref (aT 0), .int x1, .int x2] (wSeat G aT (aS 0) (vT 1) (vT 2) (vT 3) (vT 4 0) (vT 5 0) (vT 6) (vT 7) (vT 8) ++ (wSch G aS (vS 0) (vS 1) (vS 2) (vS 3) (vS 4) (vS 5) (vS 6) (vS 7) (vS 8 0) (vS 9 0))) (wSeat G aT (aS 0) (vT 1) (vT 2) (vT 3) (vT 4 0) (vT 5 0) (vT 6) (vT 7) (vT 8) ++ (wSch G aS (vS 0) (vS 1) (vS 2) (vS 3) (vS 4) (vS 5) (vS 6) (vS 7) (vS 8 0) (vS 9 0))) (some (.int Rz)) := by
  refine JM.of (own := RX3) (tb := T_X3_firstDesk) (by decide) (Nat.le_of_ble_eq_true rfl) D_X3_firstDesk rfl (fun X C => ?_)
  refine J_sub (lv' := [(0, .ref (aT 0)), (1, .int x1), (2, .int x2)]) [0, 1, 2] rfl ?_
  have B2 : ∀ (x1_2 : Int32) (x2_2 : Int32) (n2 : Nat) (x3_2 : Int32), f_X3_firstDesk_L2 vT vS x1_2 x2_2 n2 x3_2 = some Rz → J l { frames := 2, cells := 0, slots := 0, locals := 47 } G 6 X (QM X G 0 0 (some (.int Rz)) (wSeat G aT (aS 0) (vT 1) (vT 2) (vT 3) (vT 4 0) (vT 5 0) (vT 6) (vT 7) (vT 8) ++ (wSch G aS (vS 0) (vS 1) (vS 2) (vS 3) (vS 4) (vS 5) (vS 6) (vS 7) (vS 8 0) (vS 9 0)))) 0 0 2 [(0, .ref (aT 0)), (1, .int x1_2), (2, .int x2_2), (3, .int x3_2)] [] (wSeat G aT (aS 0) (vT 1) (vT 2) (vT 3) (vT 4 0) (vT 5 0) (vT 6) (vT 7) (vT 8) ++ (wSch G aS (vS 0) (vS 1) (vS 2) (vS 3) (vS 4) (vS 5) (vS 6) (vS 7) (vS 8 0) (vS 9 0))) := by
    intro x1_2 x2_2 n2
    induction n2 with
    | zero =>
      intro x3_2 h
      exact (no_none rfl h).elim
    | succ n2 ih2 =>
      have B18 : ∀ (x3_18 : Int32) (n18 : Nat) (x4_18 : Int32), f_X3_firstDesk_L18 vT vS (fun x3_2 => f_X3_firstDesk_L2 vT vS x1_2 x2_2 n2 x3_2) x1_2 x2_2 x3_18 n18 x4_18 = some Rz → J l { frames := 2, cells := 0, slots := 0, locals := 47 } G 6 X (QM X G 0 0 (some (.int Rz)) (wSeat G aT (aS 0) (vT 1) (vT 2) (vT 3) (vT 4 0) (vT 5 0) (vT 6) (vT 7) (vT 8) ++ (wSch G aS (vS 0) (vS 1) (vS 2) (vS 3) (vS 4) (vS 5) (vS 6) (vS 7) (vS 8 0) (vS 9 0)))) 0 0 18 [(0, .ref (aT 0)), (1, .int x1_2), (2, .int x2_2), (3, .int x3_18), (4, .int x4_18)] [] (wSeat G aT (aS 0) (vT 1) (vT 2) (vT 3) (vT 4 0) (vT 5 0) (vT 6) (vT 7) (vT 8) ++ (wSch G aS (vS 0) (vS 1) (vS 2) (vS 3) (vS 4) (vS 5) (vS 6) (vS 7) (vS 8 0) (vS 9 0))) := by
        intro x3_18 n18
        induction n18 with
        | zero =>
          intro x4_18 h
          exact (no_none rfl h).elim
        | succ n18 ih18 =>
          intro x4_18 h
          replace h : f_X3_firstDesk_b18 vT vS (fun x3_2 => f_X3_firstDesk_L2 vT vS x1_2 x2_2 n2 x3_2) x1_2 x2_2 x3_18 (fun x4_18 => f_X3_firstDesk_L18 vT vS (fun x3_2 => f_X3_firstDesk_L2 vT vS x1_2 x2_2 n2 x3_2) x1_2 x2_2 x3_18 n18 x4_18) x4_18 = some Rz := h
          unfold f_X3_firstDesk_b18 at h
          refine J_iload (pc := 18) C 11 rfl 4 rfl ?_
          refine J_aload_n (pc := 20) C 12 rfl 0 rfl rfl ?_
          refine J_get (pc := 21) (v := .ref (aS 0)) C 13 rfl TB_l3 rfl 0 0 rfl (by decide) k120 rfl rfl ?_
          refine J_get (pc := 24) (v := .ref (aS 8)) C 14 rfl TB_l2 rfl 7 7 rfl (by decide) k143 rfl rfl ?_
          refine J_iload_n (pc := 27) C 15 rfl 1 rfl rfl ?_
          obtain ⟨g3, h⟩ := gd_some h
          refine J_iald (pc := 28) (f := (vS 7)) (v := ((vS 7) (Int32.toNatClampNeg x1_2))) C 16 rfl 15 rfl g3 rfl ?_
          refine J_icmp_ge (pc := 29) (tgt := 101) C 17 rfl rfl (fun c4 => ?_) (fun c4 => ?_)
          · rw [if_pos c4] at h
            refine J_iinc (pc := 101) (v := (x3_18 + (1 : Int32))) (lv' := [(3, .int (x3_18 + (1 : Int32))), (0, .ref (aT 0)), (1, .int x1_2), (2, .int x2_2), (4, .int x4_18)]) C 57 rfl 3 rfl rfl (by decide) rfl ?_
            refine J_goto (pc := 104) (tgt := 2) C 58 rfl rfl ?_
            exact J_sub [1, 2, 3, 0] rfl (ih2 (x3_18 + (1 : Int32)) h)
          · rw [if_neg c4] at h
            refine J_aload_n (pc := 32) C 18 rfl 0 rfl rfl ?_
            refine J_get (pc := 33) (v := .ref (aS 0)) C 19 rfl TB_l3 rfl 0 0 rfl (by decide) k120 rfl rfl ?_
            refine J_get (pc := 36) (v := .ref (aS 8)) C 20 rfl TB_l2 rfl 7 7 rfl (by decide) k143 rfl rfl ?_
            refine J_iload_n (pc := 39) C 21 rfl 1 rfl rfl ?_
            obtain ⟨g5, h⟩ := gd_some h
            refine J_iald (pc := 40) (f := (vS 7)) (v := ((vS 7) (Int32.toNatClampNeg x1_2))) C 22 rfl 15 rfl g5 rfl ?_
            refine J_iload_n (pc := 41) C 23 rfl 3 rfl rfl ?_
            refine J_imul (pc := 42) C 24 rfl  ?_
            refine J_iload (pc := 43) C 25 rfl 4 rfl ?_
            refine J_iadd (pc := 45) C 26 rfl  ?_
            refine J_istore (pc := 46) (lv' := [(5, .int ((((vS 7) (Int32.toNatClampNeg x1_2)) * x3_18) + x4_18)), (0, .ref (aT 0)), (1, .int x1_2), (2, .int x2_2), (3, .int x3_18), (4, .int x4_18)]) C 27 rfl (by decide) rfl ?_
            refine J_aload_n (pc := 48) C 28 rfl 1 rfl rfl ?_
            refine J_aload_n (pc := 49) C 29 rfl 1 rfl rfl ?_
            refine J_get (pc := 50) (v := .ref (aT 4)) C 30 rfl TB_l3 rfl 0 6 rfl (by decide) k126 rfl rfl ?_
            refine J_bipush (pc := 53) (v := (16 : Int32)) C 31 rfl rfl ?_
            refine J_iload_n (pc := 55) C 32 rfl 2 rfl rfl ?_
            refine J_imul (pc := 56) C 33 rfl  ?_
            refine J_iload (pc := 57) C 34 rfl 0 rfl ?_
            refine J_iadd (pc := 59) C 35 rfl  ?_
            obtain ⟨g6, h⟩ := gd_some h
            refine J_iald (pc := 60) (f := (vT 6)) (v := ((vT 6) (Int32.toNatClampNeg (((16 : Int32) * x1_2) + ((((vS 7) (Int32.toNatClampNeg x1_2)) * x3_18) + x4_18))))) C 36 rfl 4 rfl g6 rfl ?_
            refine J_iload_n (pc := 61) C 37 rfl 3 rfl rfl ?_
            obtain ⟨q7, hq7, h⟩ := bnd h
            refine J_callV (pc := 62) (st2 := []) (st3 := [.int q7]) (ws2 := (wSeat G aT (aS 0) (vT 1) (vT 2) (vT 3) (vT 4 0) (vT 5 0) (vT 6) (vT 7) (vT 8) ++ (wSch G aS (vS 0) (vS 1) (vS 2) (vS 3) (vS 4) (vS 5) (vS 6) (vS 7) (vS 8 0) (vS 9 0)))) C 38 rfl (c_X3_isEarlyEnough aT aS vT vS ((vT 6) (Int32.toNatClampNeg (((16 : Int32) * x1_2) + ((((vS 7) (Int32.toNatClampNeg x1_2)) * x3_18) + x4_18)))) x2_2 hq7) V_X3_isEarlyEnough k135 i_X3_isEarlyEnough s_X3_isEarlyEnough rfl rfl ⟨Nat.le_of_ble_eq_true rfl, Nat.le_of_ble_eq_true rfl⟩ (Nat.le_of_ble_eq_true rfl) ⟨Nat.le_refl _, Nat.le_refl _⟩ 0 3 rfl rfl rfl (isC := [0, 1, 2, 3, 4, 5, 6, 7, 8, 9, 10, 11, 12, 13, 14, 15]) (isR := []) (N := 16) ⟨rfl, by decide +kernel, rfl, by decide +kernel, rfl, trivial⟩ rfl ?_
            refine J_if_eq (pc := 65) (tgt := 95) C 39 rfl rfl (fun c8 => ?_) (fun c8 => ?_)
            · rw [if_pos c8] at h
              refine J_iinc (pc := 95) (v := (x4_18 + (1 : Int32))) (lv' := [(4, .int (x4_18 + (1 : Int32))), (5, .int ((((vS 7) (Int32.toNatClampNeg x1_2)) * x3_18) + x4_18)), (0, .ref (aT 0)), (1, .int x1_2), (2, .int x2_2), (3, .int x3_18)]) C 55 rfl 5 rfl rfl (by decide) rfl ?_
              refine J_goto (pc := 98) (tgt := 18) C 56 rfl rfl ?_
              exact J_sub [2, 3, 4, 5, 0] rfl (ih18 (x4_18 + (1 : Int32)) h)
            · rw [if_neg c8] at h
              refine J_aload_n (pc := 68) C 40 rfl 1 rfl rfl ?_
              refine J_get (pc := 69) (v := .ref (aS 0)) C 41 rfl TB_l3 rfl 0 0 rfl (by decide) k120 rfl rfl ?_
              refine J_get (pc := 72) (v := .ref (aS 1)) C 42 rfl TB_l2 rfl 7 0 rfl (by decide) k132 rfl rfl ?_
              refine J_iconst (pc := 75) (v := (0 : Int32)) C 43 rfl rfl ?_
              refine J_iald (pc := 76) (f := (vS 0)) (v := ((vS 0) 0)) C 44 rfl 8 rfl rfl rfl ?_
              refine J_if_eq (pc := 77) (tgt := 92) C 45 rfl rfl (fun c9 => ?_) (fun c9 => ?_)
              · rw [if_pos c9] at h
                refine J_iload (pc := 92) C 53 rfl 0 rfl ?_
                cases h
                exact J_iret (pc := 94) C 54 rfl
              · rw [if_neg c9] at h
                refine J_aload_n (pc := 80) C 46 rfl 1 rfl rfl ?_
                refine J_iload_n (pc := 81) C 47 rfl 2 rfl rfl ?_
                refine J_iload_n (pc := 82) C 48 rfl 4 rfl rfl ?_
                refine J_iload (pc := 83) C 49 rfl 5 rfl ?_
                refine J_iload_n (pc := 85) C 50 rfl 3 rfl rfl ?_
                obtain ⟨q10, hq10, h⟩ := bnd h
                refine J_callV (pc := 86) (st2 := []) (st3 := [.int q10]) (ws2 := (wSeat G aT (aS 0) (vT 1) (vT 2) (vT 3) (vT 4 0) (vT 5 0) (vT 6) (vT 7) (vT 8) ++ (wSch G aS (vS 0) (vS 1) (vS 2) (vS 3) (vS 4) (vS 5) (vS 6) (vS 7) (vS 8 0) (vS 9 0)))) C 51 rfl (c_X3_isBeside aT aS vT vS x1_2 x3_18 x4_18 x2_2 hq10) V_X3_isBeside k146 i_X3_isBeside s_X3_isBeside rfl rfl ⟨Nat.le_of_ble_eq_true rfl, Nat.le_of_ble_eq_true rfl⟩ (Nat.le_of_ble_eq_true rfl) ⟨Nat.le_refl _, Nat.le_refl _⟩ 0 3 rfl rfl rfl (isC := [0, 1, 2, 3, 4, 5, 6, 7, 8, 9, 10, 11, 12, 13, 14, 15]) (isR := []) (N := 16) ⟨rfl, by decide +kernel, rfl, by decide +kernel, rfl, trivial⟩ rfl ?_
                refine J_if_ne (pc := 89) (tgt := 95) C 52 rfl rfl (fun c11 => ?_) (fun c11 => ?_)
                · rw [if_neg c11] at h
                  refine J_iinc (pc := 95) (v := (x4_18 + (1 : Int32))) (lv' := [(4, .int (x4_18 + (1 : Int32))), (5, .int ((((vS 7) (Int32.toNatClampNeg x1_2)) * x3_18) + x4_18)), (0, .ref (aT 0)), (1, .int x1_2), (2, .int x2_2), (3, .int x3_18)]) C 55 rfl 5 rfl rfl (by decide) rfl ?_
                  refine J_goto (pc := 98) (tgt := 18) C 56 rfl rfl ?_
                  exact J_sub [2, 3, 4, 5, 0] rfl (ih18 (x4_18 + (1 : Int32)) h)
                · rw [if_pos c11] at h
                  refine J_iload (pc := 92) C 53 rfl 0 rfl ?_
                  cases h
                  exact J_iret (pc := 94) C 54 rfl
      intro x3_2 h
      replace h : f_X3_firstDesk_b2 vT vS x1_2 x2_2 (fun x3_2 => f_X3_firstDesk_L2 vT vS x1_2 x2_2 n2 x3_2) x3_2 = some Rz := h
      unfold f_X3_firstDesk_b2 at h
      refine J_iload_n (pc := 2) C 2 rfl 3 rfl rfl ?_
      refine J_aload_n (pc := 3) C 3 rfl 0 rfl rfl ?_
      refine J_get (pc := 4) (v := .ref (aS 0)) C 4 rfl TB_l3 rfl 0 0 rfl (by decide) k120 rfl rfl ?_
      refine J_get (pc := 7) (v := .ref (aS 7)) C 5 rfl TB_l2 rfl 7 6 rfl (by decide) k144 rfl rfl ?_
      refine J_iload_n (pc := 10) C 6 rfl 1 rfl rfl ?_
      obtain ⟨g1, h⟩ := gd_some h
      refine J_iald (pc := 11) (f := (vS 6)) (v := ((vS 6) (Int32.toNatClampNeg x1_2))) C 7 rfl 14 rfl g1 rfl ?_
      refine J_icmp_ge (pc := 12) (tgt := 107) C 8 rfl rfl (fun c2 => ?_) (fun c2 => ?_)
      · rw [if_pos c2] at h
        refine J_bipush (pc := 107) (v := (-6 : Int32)) C 59 rfl rfl ?_
        cases h
        exact J_iret (pc := 109) C 60 rfl
      · rw [if_neg c2] at h
        refine J_iconst (pc := 15) (v := (0 : Int32)) C 9 rfl rfl ?_
        refine J_istore (pc := 16) (lv' := [(4, .int (0 : Int32)), (0, .ref (aT 0)), (1, .int x1_2), (2, .int x2_2), (3, .int x3_2)]) C 10 rfl (by decide) rfl ?_
        exact J_sub [1, 2, 3, 4, 0] rfl (B18 x3_2 FU (0 : Int32) h)
  unfold f_X3_firstDesk at h
  refine J_iconst (pc := 0) (v := (0 : Int32)) C 0 rfl rfl ?_
  refine J_istore_n (pc := 1) (lv' := [(3, .int (0 : Int32)), (0, .ref (aT 0)), (1, .int x1), (2, .int x2)]) C 1 rfl rfl (by decide) rfl ?_
  exact J_sub [1, 2, 3, 0] rfl (B2 x1 x2 FU (0 : Int32) h)
def T_X3_seatAtDesk : List (Nat × ClassFile.Instr × Nat) := [(0, .iconst 0, 1), (1, .istore_n 3, 1), (2, .iload_n 3, 1), (3, .iconst 4, 1), (4, .if_icmp .ge 102, 3), (7, .aload_n 0, 1), (8, .getfield 12, 3), (11, .iload_n 3, 1), (12, .invokevirtual 85, 3), (15, .ifCond .eq 12, 3), (18, .aload_n 0, 1), (19, .iload_n 3, 1), (20, .iload_n 2, 1), (21, .invokevirtual 89, 3), (24, .goto 5, 3), (27, .bipush (-6), 2), (29, .istore 4, 2), (31, .iload 4, 2), (33, .bipush (-6), 2), (35, .if_icmp .eq 65, 3), (38, .bipush 16, 2), (40, .iload_n 3, 1), (41, .imul, 1), (42, .iload 4, 2), (44, .iadd, 1), (45, .istore 5, 2), (47, .aload_n 0, 1), (48, .getfield 18, 3), (51, .iload_n 1, 1), (52, .iload_n 2, 1), (53, .invokestatic 78, 3), (56, .iload_n 3, 1), (57, .iastore, 1), (58, .aload_n 0, 1), (59, .getfield 22, 3), (62, .iload_n 1, 1), (63, .iload_n 2, 1), (64, .invokestatic 78, 3), (67, .iload 4, 2), (69, .iastore, 1), (70, .aload_n 0, 1), (71, .getfield 35, 3), (74, .iload 5, 2), (76, .aload_n 0, 1), (77, .getfield 12, 3), (80, .iload_n 1, 1), (81, .iload_n 2, 1), (82, .invokevirtual 82, 3), (85, .iastore, 1), (86, .aload_n 0, 1), (87, .getfield 38, 3), (90, .iload 5, 2), (92, .dup2, 1), (93, .iaload, 1), (94, .iconst 1, 1), (95, .iload_n 2, 1), (96, .ishl, 1), (97, .ior, 1), (98, .iastore, 1), (99, .return_, 1), (100, .iinc 3 1, 3), (103, .goto (-101), 3), (106, .aload_n 0, 1), (107, .dup, 1), (108, .getfield 28, 3), (111, .iconst 1, 1), (112, .iadd, 1), (113, .putfield 28, 3), (116, .return_, 1)]
theorem D_X3_seatAtDesk : ∀ q ∈ T_X3_seatAtDesk, decode cX3_seatAtDesk q.1 = .ok q.2 := by decide +kernel
theorem V_X3_seatAtDesk : Vy yX3_seatAtDesk cX3_seatAtDesk 6 none 2 := ⟨k153, k138, by decide +kernel⟩
theorem i_X3_seatAtDesk : Cond.instanceMethod yX3_seatAtDesk ∈ TB := k161
theorem s_X3_seatAtDesk : Cond.selects yX3_seatAtDesk.cls yX3_seatAtDesk yX3_seatAtDesk ∈ TB := k162
noncomputable def f_X3_seatAtDesk_K29 (vS : JV) (r2 : JV → Int32 → Option (JV)) (vT_29 : JV) (x1_2 : Int32) (x2_2 : Int32) (x3_29 : Int32) (y0_29 : Int32) : Option (JV) :=
  (if y0_29 = (-6 : Int32) then r2 vT_29 (x3_29 + (1 : Int32)) else (f_X4_sittingNumber x1_2 x2_2).bind (fun q5 => gd (inb q5 96) ((f_X4_sittingNumber x1_2 x2_2).bind (fun q7 => gd (inb q7 96) ((f_X2_endOf vS x1_2 x2_2).bind (fun q9 => gd (inb (((16 : Int32) * x3_29) + y0_29) 64) (gd (inb (((16 : Int32) * x3_29) + y0_29) 64) (gd (inb (((16 : Int32) * x3_29) + y0_29) 64) (some (up2 (up2 (up2 (up2 vT_29 1 (Int32.toNatClampNeg q5) x3_29) 2 (Int32.toNatClampNeg q7) y0_29) 6 (Int32.toNatClampNeg (((16 : Int32) * x3_29) + y0_29)) q9) 7 (Int32.toNatClampNeg (((16 : Int32) * x3_29) + y0_29)) (((vT_29 7) (Int32.toNatClampNeg (((16 : Int32) * x3_29) + y0_29))) ||| ((1 : Int32) <<< (x2_2 &&& 31)))))))))))))
noncomputable def f_X3_seatAtDesk_b2 (vS : JV) (x1_2 : Int32) (x2_2 : Int32) (r2 : JV → Int32 → Option (JV)) (vT_2 : JV) (x3_2 : Int32) : Option (JV) :=
  (if (4 : Int32) ≤ x3_2 then some (up2 vT_2 4 0 ((vT_2 4 0) + (1 : Int32))) else (f_X2_isOpen vS x3_2).bind (fun q2 => (if q2 = 0 then f_X3_seatAtDesk_K29 vS r2 vT_2 x1_2 x2_2 x3_2 (-6 : Int32) else (f_X3_firstDesk vT_2 vS x3_2 x2_2).bind (fun q13 => f_X3_seatAtDesk_K29 vS r2 vT_2 x1_2 x2_2 x3_2 q13))))
noncomputable def f_X3_seatAtDesk_L2 (vS : JV) (x1_2 : Int32) (x2_2 : Int32) (n : Nat) (vT_2 : JV) (x3_2 : Int32) : Option (JV) :=
  lp (fun (rec : JV × Int32 → Option (JV)) a => f_X3_seatAtDesk_b2 vS x1_2 x2_2 (fun vT_2 x3_2 => rec (vT_2, x3_2)) a.1 a.2) n (vT_2, x3_2)
noncomputable def f_X3_seatAtDesk (vT : JV) (vS : JV) (x1 : Int32) (x2 : Int32) : Option (JV) :=
  f_X3_seatAtDesk_L2 vS x1 x2 FU vT (0 : Int32)
set_option maxRecDepth 100000 in
set_option maxHeartbeats 4000000 in
theorem c_X3_seatAtDesk {l : Launch} {G : JG} (aT : Nat → Nat) (aS : Nat → Nat) (vT : JV) (vS : JV) (x1 : Int32) (x2 : Int32) {Rz : JV} (h : f_X3_seatAtDesk vT vS x1 x2 = some Rz) : JM l G yX3_seatAtDesk cX3_seatAtDesk 6 none 3 72 [.ref (aT 0), .int x1, .int x2] (wSeat G aT (aS 0) (vT 1) (vT 2) (vT 3) (vT 4 0) (vT 5 0) (vT 6) (vT 7) (vT 8) ++ (wSch G aS (vS 0) (vS 1) (vS 2) (vS 3) (vS 4) (vS 5) (vS 6) (vS 7) (vS 8 0) (vS 9 0))) (wSeat G aT (aS 0) (Rz 1) (Rz 2) (Rz 3) (Rz 4 0) (Rz 5 0) (Rz 6) (Rz 7) (Rz 8) ++ (wSch G aS (vS 0) (vS 1) (vS 2) (vS 3) (vS 4) (vS 5) (vS 6) (vS 7) (vS 8 0) (vS 9 0))) none := by
  refine JM.of (own := RX3) (tb := T_X3_seatAtDesk) (by decide) (Nat.le_of_ble_eq_true rfl) D_X3_seatAtDesk rfl (fun X C => ?_)
  refine J_sub (lv' := [(0, .ref (aT 0)), (1, .int x1), (2, .int x2)]) [0, 1, 2] rfl ?_
  have B2 : ∀ (x1_2 : Int32) (x2_2 : Int32) (n2 : Nat) (vT_2 : JV) (x3_2 : Int32), f_X3_seatAtDesk_L2 vS x1_2 x2_2 n2 vT_2 x3_2 = some Rz → J l { frames := 3, cells := 0, slots := 0, locals := 72 } G 6 X (QM X G 0 0 none (wSeat G aT (aS 0) (Rz 1) (Rz 2) (Rz 3) (Rz 4 0) (Rz 5 0) (Rz 6) (Rz 7) (Rz 8) ++ (wSch G aS (vS 0) (vS 1) (vS 2) (vS 3) (vS 4) (vS 5) (vS 6) (vS 7) (vS 8 0) (vS 9 0)))) 0 0 2 [(0, .ref (aT 0)), (1, .int x1_2), (2, .int x2_2), (3, .int x3_2)] [] (wSeat G aT (aS 0) (vT_2 1) (vT_2 2) (vT_2 3) (vT_2 4 0) (vT_2 5 0) (vT_2 6) (vT_2 7) (vT_2 8) ++ (wSch G aS (vS 0) (vS 1) (vS 2) (vS 3) (vS 4) (vS 5) (vS 6) (vS 7) (vS 8 0) (vS 9 0))) := by
    intro x1_2 x2_2 n2
    induction n2 with
    | zero =>
      intro vT_2 x3_2 h
      exact (no_none rfl h).elim
    | succ n2 ih2 =>
      have B29 : ∀ (vT_29 : JV) (x3_29 : Int32) (y0_29 : Int32), f_X3_seatAtDesk_K29 vS (fun vT_2 x3_2 => f_X3_seatAtDesk_L2 vS x1_2 x2_2 n2 vT_2 x3_2) vT_29 x1_2 x2_2 x3_29 y0_29 = some Rz → J l { frames := 3, cells := 0, slots := 0, locals := 72 } G 6 X (QM X G 0 0 none (wSeat G aT (aS 0) (Rz 1) (Rz 2) (Rz 3) (Rz 4 0) (Rz 5 0) (Rz 6) (Rz 7) (Rz 8) ++ (wSch G aS (vS 0) (vS 1) (vS 2) (vS 3) (vS 4) (vS 5) (vS 6) (vS 7) (vS 8 0) (vS 9 0)))) 0 0 29 [(0, .ref (aT 0)), (1, .int x1_2), (2, .int x2_2), (3, .int x3_29)] [.int y0_29] (wSeat G aT (aS 0) (vT_29 1) (vT_29 2) (vT_29 3) (vT_29 4 0) (vT_29 5 0) (vT_29 6) (vT_29 7) (vT_29 8) ++ (wSch G aS (vS 0) (vS 1) (vS 2) (vS 3) (vS 4) (vS 5) (vS 6) (vS 7) (vS 8 0) (vS 9 0))) := by
        intro vT_29 x3_29 y0_29 h
        unfold f_X3_seatAtDesk_K29 at h
        refine J_istore (pc := 29) (lv' := [(4, .int y0_29), (0, .ref (aT 0)), (1, .int x1_2), (2, .int x2_2), (3, .int x3_29)]) C 16 rfl (by decide) rfl ?_
        refine J_iload (pc := 31) C 17 rfl 0 rfl ?_
        refine J_bipush (pc := 33) (v := (-6 : Int32)) C 18 rfl rfl ?_
        refine J_icmp_eq (pc := 35) (tgt := 100) C 19 rfl rfl (fun c4 => ?_) (fun c4 => ?_)
        · rw [if_pos c4] at h
          refine J_iinc (pc := 100) (v := (x3_29 + (1 : Int32))) (lv' := [(3, .int (x3_29 + (1 : Int32))), (4, .int y0_29), (0, .ref (aT 0)), (1, .int x1_2), (2, .int x2_2)]) C 60 rfl 4 rfl rfl (by decide) rfl ?_
          refine J_goto (pc := 103) (tgt := 2) C 61 rfl rfl ?_
          exact J_sub [2, 3, 4, 0] rfl (ih2 vT_29 (x3_29 + (1 : Int32)) h)
        · rw [if_neg c4] at h
          refine J_bipush (pc := 38) (v := (16 : Int32)) C 20 rfl rfl ?_
          refine J_iload_n (pc := 40) C 21 rfl 4 rfl rfl ?_
          refine J_imul (pc := 41) C 22 rfl  ?_
          refine J_iload (pc := 42) C 23 rfl 0 rfl ?_
          refine J_iadd (pc := 44) C 24 rfl  ?_
          refine J_istore (pc := 45) (lv' := [(5, .int (((16 : Int32) * x3_29) + y0_29)), (4, .int y0_29), (0, .ref (aT 0)), (1, .int x1_2), (2, .int x2_2), (3, .int x3_29)]) C 25 rfl (by decide) rfl ?_
          refine J_aload_n (pc := 47) C 26 rfl 2 rfl rfl ?_
          refine J_get (pc := 48) (v := .ref (aT 1)) C 27 rfl TB_l3 rfl 0 1 rfl (by decide) k121 rfl rfl ?_
          refine J_iload_n (pc := 51) C 28 rfl 3 rfl rfl ?_
          refine J_iload_n (pc := 52) C 29 rfl 4 rfl rfl ?_
          obtain ⟨q5, hq5, h⟩ := bnd h
          refine J_callSN (pc := 53) (st2 := [.ref (aT 1)]) (st3 := [.int q5, .ref (aT 1)]) (ws2 := (wSeat G aT (aS 0) (vT_29 1) (vT_29 2) (vT_29 3) (vT_29 4 0) (vT_29 5 0) (vT_29 6) (vT_29 7) (vT_29 8) ++ (wSch G aS (vS 0) (vS 1) (vS 2) (vS 3) (vS 4) (vS 5) (vS 6) (vS 7) (vS 8 0) (vS 9 0)))) C 30 rfl (c_X4_sittingNumber x1_2 x2_2 hq5) V_X4_sittingNumber (List.mem_of_getElem? (i := 6) rfl) t_X4_sittingNumber rfl rfl ⟨Nat.le_of_ble_eq_true rfl, Nat.le_of_ble_eq_true rfl⟩ (Nat.le_of_ble_eq_true rfl) ⟨Nat.le_refl _, Nat.le_refl _⟩ (isC := []) (isR := [0, 1, 2, 3, 4, 5, 6, 7, 8, 9, 10, 11, 12, 13, 14, 15]) (N := 16) ⟨rfl, by decide +kernel, rfl, by decide +kernel, rfl, ⟨⟨_, rfl, rfl⟩, ⟨⟨_, rfl, rfl⟩, ⟨⟨_, rfl, rfl⟩, ⟨⟨_, rfl, rfl⟩, ⟨⟨_, rfl, rfl⟩, ⟨⟨_, rfl, rfl⟩, ⟨⟨_, rfl, rfl⟩, ⟨⟨_, rfl, rfl⟩, ⟨⟨_, rfl, rfl⟩, ⟨⟨_, rfl, rfl⟩, ⟨⟨_, rfl, rfl⟩, ⟨⟨_, rfl, rfl⟩, ⟨⟨_, rfl, rfl⟩, ⟨⟨_, rfl, rfl⟩, ⟨⟨_, rfl, rfl⟩, ⟨⟨_, rfl, rfl⟩, trivial⟩⟩⟩⟩⟩⟩⟩⟩⟩⟩⟩⟩⟩⟩⟩⟩⟩ rfl ?_
          refine J_iload_n (pc := 56) C 31 rfl 5 rfl rfl ?_
          obtain ⟨g6, h⟩ := gd_some h
          refine J_iast (pc := 57) (f := (vT_29 1)) (m := (Int32.toNatClampNeg q5)) C 32 (fun mm vv => (wSeat G aT (aS 0) (upd (vT_29 1) mm vv) (vT_29 2) (vT_29 3) (vT_29 4 0) (vT_29 5 0) (vT_29 6) (vT_29 7) (vT_29 8) ++ (wSch G aS (vS 0) (vS 1) (vS 2) (vS 3) (vS 4) (vS 5) (vS 6) (vS 7) (vS 8 0) (vS 9 0)))) rfl 1 rfl g6 rfl (fun _ _ => rfl) ?_
          refine J_aload_n (pc := 58) C 33 rfl 2 rfl rfl ?_
          refine J_get (pc := 59) (v := .ref (aT 2)) C 34 rfl TB_l3 rfl 0 2 rfl (by decide) k122 rfl rfl ?_
          refine J_iload_n (pc := 62) C 35 rfl 3 rfl rfl ?_
          refine J_iload_n (pc := 63) C 36 rfl 4 rfl rfl ?_
          obtain ⟨q7, hq7, h⟩ := bnd h
          refine J_callSN (pc := 64) (st2 := [.ref (aT 2)]) (st3 := [.int q7, .ref (aT 2)]) (ws2 := (wSeat G aT (aS 0) (upd (vT_29 1) (Int32.toNatClampNeg q5) x3_29) (vT_29 2) (vT_29 3) (vT_29 4 0) (vT_29 5 0) (vT_29 6) (vT_29 7) (vT_29 8) ++ (wSch G aS (vS 0) (vS 1) (vS 2) (vS 3) (vS 4) (vS 5) (vS 6) (vS 7) (vS 8 0) (vS 9 0)))) C 37 rfl (c_X4_sittingNumber x1_2 x2_2 hq7) V_X4_sittingNumber (List.mem_of_getElem? (i := 6) rfl) t_X4_sittingNumber rfl rfl ⟨Nat.le_of_ble_eq_true rfl, Nat.le_of_ble_eq_true rfl⟩ (Nat.le_of_ble_eq_true rfl) ⟨Nat.le_refl _, Nat.le_refl _⟩ (isC := []) (isR := [0, 1, 2, 3, 4, 5, 6, 7, 8, 9, 10, 11, 12, 13, 14, 15]) (N := 16) ⟨rfl, by decide +kernel, rfl, by decide +kernel, rfl, ⟨⟨_, rfl, rfl⟩, ⟨⟨_, rfl, rfl⟩, ⟨⟨_, rfl, rfl⟩, ⟨⟨_, rfl, rfl⟩, ⟨⟨_, rfl, rfl⟩, ⟨⟨_, rfl, rfl⟩, ⟨⟨_, rfl, rfl⟩, ⟨⟨_, rfl, rfl⟩, ⟨⟨_, rfl, rfl⟩, ⟨⟨_, rfl, rfl⟩, ⟨⟨_, rfl, rfl⟩, ⟨⟨_, rfl, rfl⟩, ⟨⟨_, rfl, rfl⟩, ⟨⟨_, rfl, rfl⟩, ⟨⟨_, rfl, rfl⟩, ⟨⟨_, rfl, rfl⟩, trivial⟩⟩⟩⟩⟩⟩⟩⟩⟩⟩⟩⟩⟩⟩⟩⟩⟩ rfl ?_
          refine J_iload (pc := 67) C 38 rfl 1 rfl ?_
          obtain ⟨g8, h⟩ := gd_some h
          refine J_iast (pc := 69) (f := (vT_29 2)) (m := (Int32.toNatClampNeg q7)) C 39 (fun mm vv => (wSeat G aT (aS 0) (upd (vT_29 1) (Int32.toNatClampNeg q5) x3_29) (upd (vT_29 2) mm vv) (vT_29 3) (vT_29 4 0) (vT_29 5 0) (vT_29 6) (vT_29 7) (vT_29 8) ++ (wSch G aS (vS 0) (vS 1) (vS 2) (vS 3) (vS 4) (vS 5) (vS 6) (vS 7) (vS 8 0) (vS 9 0)))) rfl 2 rfl g8 rfl (fun _ _ => rfl) ?_
          refine J_aload_n (pc := 70) C 40 rfl 2 rfl rfl ?_
          refine J_get (pc := 71) (v := .ref (aT 4)) C 41 rfl TB_l3 rfl 0 6 rfl (by decide) k126 rfl rfl ?_
          refine J_iload (pc := 74) C 42 rfl 0 rfl ?_
          refine J_aload_n (pc := 76) C 43 rfl 2 rfl rfl ?_
          refine J_get (pc := 77) (v := .ref (aS 0)) C 44 rfl TB_l3 rfl 0 0 rfl (by decide) k120 rfl rfl ?_
          refine J_iload_n (pc := 80) C 45 rfl 3 rfl rfl ?_
          refine J_iload_n (pc := 81) C 46 rfl 4 rfl rfl ?_
          obtain ⟨q9, hq9, h⟩ := bnd h
          refine J_callV (pc := 82) (st2 := [.int (((16 : Int32) * x3_29) + y0_29), .ref (aT 4)]) (st3 := [.int q9, .int (((16 : Int32) * x3_29) + y0_29), .ref (aT 4)]) (ws2 := (wSeat G aT (aS 0) (upd (vT_29 1) (Int32.toNatClampNeg q5) x3_29) (upd (vT_29 2) (Int32.toNatClampNeg q7) y0_29) (vT_29 3) (vT_29 4 0) (vT_29 5 0) (vT_29 6) (vT_29 7) (vT_29 8) ++ (wSch G aS (vS 0) (vS 1) (vS 2) (vS 3) (vS 4) (vS 5) (vS 6) (vS 7) (vS 8 0) (vS 9 0)))) C 47 rfl (c_X2_endOf aS vS x1_2 x2_2 hq9) V_X2_endOf k140 i_X2_endOf s_X2_endOf rfl rfl ⟨Nat.le_of_ble_eq_true rfl, Nat.le_of_ble_eq_true rfl⟩ (Nat.le_of_ble_eq_true rfl) ⟨Nat.le_refl _, Nat.le_refl _⟩ 7 2 rfl rfl rfl (isC := [7, 8, 9, 10, 11, 12, 13, 14, 15]) (isR := [0, 1, 2, 3, 4, 5, 6]) (N := 16) ⟨rfl, by decide +kernel, rfl, by decide +kernel, rfl, ⟨⟨_, rfl, rfl⟩, ⟨⟨_, rfl, rfl⟩, ⟨⟨_, rfl, rfl⟩, ⟨⟨_, rfl, rfl⟩, ⟨⟨_, rfl, rfl⟩, ⟨⟨_, rfl, rfl⟩, ⟨⟨_, rfl, rfl⟩, trivial⟩⟩⟩⟩⟩⟩⟩⟩ rfl ?_
          obtain ⟨g10, h⟩ := gd_some h
          refine J_iast (pc := 85) (f := (vT_29 6)) (m := (Int32.toNatClampNeg (((16 : Int32) * x3_29) + y0_29))) C 48 (fun mm vv => (wSeat G aT (aS 0) (upd (vT_29 1) (Int32.toNatClampNeg q5) x3_29) (upd (vT_29 2) (Int32.toNatClampNeg q7) y0_29) (vT_29 3) (vT_29 4 0) (vT_29 5 0) (upd (vT_29 6) mm vv) (vT_29 7) (vT_29 8) ++ (wSch G aS (vS 0) (vS 1) (vS 2) (vS 3) (vS 4) (vS 5) (vS 6) (vS 7) (vS 8 0) (vS 9 0)))) rfl 4 rfl g10 rfl (fun _ _ => rfl) ?_
          refine J_aload_n (pc := 86) C 49 rfl 2 rfl rfl ?_
          refine J_get (pc := 87) (v := .ref (aT 5)) C 50 rfl TB_l3 rfl 0 7 rfl (by decide) k127 rfl rfl ?_
          refine J_iload (pc := 90) C 51 rfl 0 rfl ?_
          refine J_dup2 (pc := 92) C 52 rfl rfl rfl ?_
          obtain ⟨g11, h⟩ := gd_some h
          refine J_iald (pc := 93) (f := (vT_29 7)) (v := ((vT_29 7) (Int32.toNatClampNeg (((16 : Int32) * x3_29) + y0_29)))) C 53 rfl 5 rfl g11 rfl ?_
          refine J_iconst (pc := 94) (v := (1 : Int32)) C 54 rfl rfl ?_
          refine J_iload_n (pc := 95) C 55 rfl 4 rfl rfl ?_
          refine J_ishl (pc := 96) C 56 rfl  ?_
          refine J_ior (pc := 97) C 57 rfl  ?_
          obtain ⟨g12, h⟩ := gd_some h
          refine J_iast (pc := 98) (f := (vT_29 7)) (m := (Int32.toNatClampNeg (((16 : Int32) * x3_29) + y0_29))) C 58 (fun mm vv => (wSeat G aT (aS 0) (upd (vT_29 1) (Int32.toNatClampNeg q5) x3_29) (upd (vT_29 2) (Int32.toNatClampNeg q7) y0_29) (vT_29 3) (vT_29 4 0) (vT_29 5 0) (upd (vT_29 6) (Int32.toNatClampNeg (((16 : Int32) * x3_29) + y0_29)) q9) (upd (vT_29 7) mm vv) (vT_29 8) ++ (wSch G aS (vS 0) (vS 1) (vS 2) (vS 3) (vS 4) (vS 5) (vS 6) (vS 7) (vS 8 0) (vS 9 0)))) rfl 5 rfl g12 rfl (fun _ _ => rfl) ?_
          cases h
          exact J_vret (pc := 99) C 59 rfl
      intro vT_2 x3_2 h
      replace h : f_X3_seatAtDesk_b2 vS x1_2 x2_2 (fun vT_2 x3_2 => f_X3_seatAtDesk_L2 vS x1_2 x2_2 n2 vT_2 x3_2) vT_2 x3_2 = some Rz := h
      unfold f_X3_seatAtDesk_b2 at h
      refine J_iload_n (pc := 2) C 2 rfl 3 rfl rfl ?_
      refine J_iconst (pc := 3) (v := (4 : Int32)) C 3 rfl rfl ?_
      refine J_icmp_ge (pc := 4) (tgt := 106) C 4 rfl rfl (fun c1 => ?_) (fun c1 => ?_)
      · rw [if_pos c1] at h
        refine J_aload_n (pc := 106) C 62 rfl 0 rfl rfl ?_
        refine J_dup (pc := 107) C 63 rfl rfl ?_
        refine J_get (pc := 108) (v := .int (vT_2 4 0)) C 64 rfl TB_l3 rfl 0 4 rfl (by decide) k124 rfl rfl ?_
        refine J_iconst (pc := 111) (v := (1 : Int32)) C 65 rfl rfl ?_
        refine J_iadd (pc := 112) C 66 rfl  ?_
        refine J_puti (pc := 113) C 67 (fun vv => (wSeat G aT (aS 0) (vT_2 1) (vT_2 2) (vT_2 3) vv (vT_2 5 0) (vT_2 6) (vT_2 7) (vT_2 8) ++ (wSch G aS (vS 0) (vS 1) (vS 2) (vS 3) (vS 4) (vS 5) (vS 6) (vS 7) (vS 8 0) (vS 9 0)))) rfl TB_l3 tyX3 tyX3_ok nmX3 rfl 0 4 rfl (by decide) k124 rfl rfl rfl (Nat.le_of_ble_eq_true rfl) (fun _ => rfl) ?_
        cases h
        exact J_vret (pc := 116) C 68 rfl
      · rw [if_neg c1] at h
        refine J_aload_n (pc := 7) C 5 rfl 0 rfl rfl ?_
        refine J_get (pc := 8) (v := .ref (aS 0)) C 6 rfl TB_l3 rfl 0 0 rfl (by decide) k120 rfl rfl ?_
        refine J_iload_n (pc := 11) C 7 rfl 3 rfl rfl ?_
        obtain ⟨q2, hq2, h⟩ := bnd h
        refine J_callV (pc := 12) (st2 := []) (st3 := [.int q2]) (ws2 := (wSeat G aT (aS 0) (vT_2 1) (vT_2 2) (vT_2 3) (vT_2 4 0) (vT_2 5 0) (vT_2 6) (vT_2 7) (vT_2 8) ++ (wSch G aS (vS 0) (vS 1) (vS 2) (vS 3) (vS 4) (vS 5) (vS 6) (vS 7) (vS 8 0) (vS 9 0)))) C 8 rfl (c_X2_isOpen aS vS x3_2 hq2) V_X2_isOpen k149 i_X2_isOpen s_X2_isOpen rfl rfl ⟨Nat.le_of_ble_eq_true rfl, Nat.le_of_ble_eq_true rfl⟩ (Nat.le_of_ble_eq_true rfl) ⟨Nat.le_refl _, Nat.le_refl _⟩ 7 2 rfl rfl rfl (isC := [7, 8, 9, 10, 11, 12, 13, 14, 15]) (isR := [0, 1, 2, 3, 4, 5, 6]) (N := 16) ⟨rfl, by decide +kernel, rfl, by decide +kernel, rfl, ⟨⟨_, rfl, rfl⟩, ⟨⟨_, rfl, rfl⟩, ⟨⟨_, rfl, rfl⟩, ⟨⟨_, rfl, rfl⟩, ⟨⟨_, rfl, rfl⟩, ⟨⟨_, rfl, rfl⟩, ⟨⟨_, rfl, rfl⟩, trivial⟩⟩⟩⟩⟩⟩⟩⟩ rfl ?_
        refine J_if_eq (pc := 15) (tgt := 27) C 9 rfl rfl (fun c3 => ?_) (fun c3 => ?_)
        · rw [if_pos c3] at h
          refine J_bipush (pc := 27) (v := (-6 : Int32)) C 15 rfl rfl ?_
          exact J_sub [0, 1, 2, 3] rfl (B29 vT_2 x3_2 (-6 : Int32) h)
        · rw [if_neg c3] at h
          refine J_aload_n (pc := 18) C 10 rfl 0 rfl rfl ?_
          refine J_iload_n (pc := 19) C 11 rfl 3 rfl rfl ?_
          refine J_iload_n (pc := 20) C 12 rfl 2 rfl rfl ?_
          obtain ⟨q13, hq13, h⟩ := bnd h
          refine J_callV (pc := 21) (st2 := []) (st3 := [.int q13]) (ws2 := (wSeat G aT (aS 0) (vT_2 1) (vT_2 2) (vT_2 3) (vT_2 4 0) (vT_2 5 0) (vT_2 6) (vT_2 7) (vT_2 8) ++ (wSch G aS (vS 0) (vS 1) (vS 2) (vS 3) (vS 4) (vS 5) (vS 6) (vS 7) (vS 8 0) (vS 9 0)))) C 13 rfl (c_X3_firstDesk aT aS vT_2 vS x3_2 x2_2 hq13) V_X3_firstDesk k150 i_X3_firstDesk s_X3_firstDesk rfl rfl ⟨Nat.le_of_ble_eq_true rfl, Nat.le_of_ble_eq_true rfl⟩ (Nat.le_of_ble_eq_true rfl) ⟨Nat.le_refl _, Nat.le_refl _⟩ 0 3 rfl rfl rfl (isC := [0, 1, 2, 3, 4, 5, 6, 7, 8, 9, 10, 11, 12, 13, 14, 15]) (isR := []) (N := 16) ⟨rfl, by decide +kernel, rfl, by decide +kernel, rfl, trivial⟩ rfl ?_
          refine J_goto (pc := 24) (tgt := 29) C 14 rfl rfl ?_
          exact J_sub [0, 1, 2, 3] rfl (B29 vT_2 x3_2 q13 h)
  unfold f_X3_seatAtDesk at h
  refine J_iconst (pc := 0) (v := (0 : Int32)) C 0 rfl rfl ?_
  refine J_istore_n (pc := 1) (lv' := [(3, .int (0 : Int32)), (0, .ref (aT 0)), (1, .int x1), (2, .int x2)]) C 1 rfl rfl (by decide) rfl ?_
  exact J_sub [1, 2, 3, 0] rfl (B2 x1 x2 FU vT (0 : Int32) h)
def T_X3_seatPupils : List (Nat × ClassFile.Instr × Nat) := [(0, .iconst 0, 1), (1, .istore_n 2, 1), (2, .iload_n 2, 1), (3, .aload_n 0, 1), (4, .getfield 12, 3), (7, .getfield 54, 3), (10, .if_icmp .ge 48, 3), (13, .aload_n 0, 1), (14, .getfield 12, 3), (17, .iload_n 2, 1), (18, .iload_n 1, 1), (19, .invokevirtual 57, 3), (22, .ifCond .eq 30, 3), (25, .aload_n 0, 1), (26, .getfield 12, 3), (29, .getfield 61, 3), (32, .iload_n 2, 1), (33, .baload, 1), (34, .ifCond .eq 12, 3), (37, .aload_n 0, 1), (38, .iload_n 2, 1), (39, .iload_n 1, 1), (40, .invokevirtual 65, 3), (43, .goto 9, 3), (46, .aload_n 0, 1), (47, .iload_n 2, 1), (48, .iload_n 1, 1), (49, .invokevirtual 69, 3), (52, .iinc 2 1, 3), (55, .goto (-53), 3), (58, .return_, 1)]
theorem D_X3_seatPupils : ∀ q ∈ T_X3_seatPupils, decode cX3_seatPupils q.1 = .ok q.2 := by decide +kernel
theorem V_X3_seatPupils : Vy yX3_seatPupils cX3_seatPupils 3 none 1 := ⟨k163, k138, by decide +kernel⟩
theorem i_X3_seatPupils : Cond.instanceMethod yX3_seatPupils ∈ TB := k169
theorem s_X3_seatPupils : Cond.selects yX3_seatPupils.cls yX3_seatPupils yX3_seatPupils ∈ TB := k170
noncomputable def f_X3_seatPupils_b2 (vS : JV) (x1_2 : Int32) (r2 : JV → Int32 → Option (JV)) (vT_2 : JV) (x2_2 : Int32) : Option (JV) :=
  (if (vS 8 0) ≤ x2_2 then some vT_2 else (f_X2_sits vS x2_2 x1_2).bind (fun q2 => (if q2 = 0 then r2 vT_2 (x2_2 + (1 : Int32)) else gd (inb x2_2 16) ((if ((vS 5) (Int32.toNatClampNeg x2_2)) = 0 then (f_X3_seatAtDesk vT_2 vS x2_2 x1_2).bind (fun q6 => r2 q6 (x2_2 + (1 : Int32))) else (f_X3_seatInRoom vT_2 vS x2_2 x1_2).bind (fun q7 => r2 q7 (x2_2 + (1 : Int32))))))))
noncomputable def f_X3_seatPupils_L2 (vS : JV) (x1_2 : Int32) (n : Nat) (vT_2 : JV) (x2_2 : Int32) : Option (JV) :=
  lp (fun (rec : JV × Int32 → Option (JV)) a => f_X3_seatPupils_b2 vS x1_2 (fun vT_2 x2_2 => rec (vT_2, x2_2)) a.1 a.2) n (vT_2, x2_2)
noncomputable def f_X3_seatPupils (vT : JV) (vS : JV) (x1 : Int32) : Option (JV) :=
  f_X3_seatPupils_L2 vS x1 FU vT (0 : Int32)
set_option maxRecDepth 100000 in
set_option maxHeartbeats 4000000 in
theorem c_X3_seatPupils {l : Launch} {G : JG} (aT : Nat → Nat) (aS : Nat → Nat) (vT : JV) (vS : JV) (x1 : Int32) {Rz : JV} (h : f_X3_seatPupils vT vS x1 = some Rz) : JM l G yX3_seatPupils cX3_seatPupils 3 none 4 97 [.ref (aT 0), .int x1] (wSeat G aT (aS 0) (vT 1) (vT 2) (vT 3) (vT 4 0) (vT 5 0) (vT 6) (vT 7) (vT 8) ++ (wSch G aS (vS 0) (vS 1) (vS 2) (vS 3) (vS 4) (vS 5) (vS 6) (vS 7) (vS 8 0) (vS 9 0))) (wSeat G aT (aS 0) (Rz 1) (Rz 2) (Rz 3) (Rz 4 0) (Rz 5 0) (Rz 6) (Rz 7) (Rz 8) ++ (wSch G aS (vS 0) (vS 1) (vS 2) (vS 3) (vS 4) (vS 5) (vS 6) (vS 7) (vS 8 0) (vS 9 0))) none := by
  refine JM.of (own := RX3) (tb := T_X3_seatPupils) (by decide) (Nat.le_of_ble_eq_true rfl) D_X3_seatPupils rfl (fun X C => ?_)
  refine J_sub (lv' := [(0, .ref (aT 0)), (1, .int x1)]) [0, 1] rfl ?_
  have B2 : ∀ (x1_2 : Int32) (n2 : Nat) (vT_2 : JV) (x2_2 : Int32), f_X3_seatPupils_L2 vS x1_2 n2 vT_2 x2_2 = some Rz → J l { frames := 4, cells := 0, slots := 0, locals := 97 } G 3 X (QM X G 0 0 none (wSeat G aT (aS 0) (Rz 1) (Rz 2) (Rz 3) (Rz 4 0) (Rz 5 0) (Rz 6) (Rz 7) (Rz 8) ++ (wSch G aS (vS 0) (vS 1) (vS 2) (vS 3) (vS 4) (vS 5) (vS 6) (vS 7) (vS 8 0) (vS 9 0)))) 0 0 2 [(0, .ref (aT 0)), (1, .int x1_2), (2, .int x2_2)] [] (wSeat G aT (aS 0) (vT_2 1) (vT_2 2) (vT_2 3) (vT_2 4 0) (vT_2 5 0) (vT_2 6) (vT_2 7) (vT_2 8) ++ (wSch G aS (vS 0) (vS 1) (vS 2) (vS 3) (vS 4) (vS 5) (vS 6) (vS 7) (vS 8 0) (vS 9 0))) := by
    intro x1_2 n2
    induction n2 with
    | zero =>
      intro vT_2 x2_2 h
      exact (no_none rfl h).elim
    | succ n2 ih2 =>
      intro vT_2 x2_2 h
      replace h : f_X3_seatPupils_b2 vS x1_2 (fun vT_2 x2_2 => f_X3_seatPupils_L2 vS x1_2 n2 vT_2 x2_2) vT_2 x2_2 = some Rz := h
      unfold f_X3_seatPupils_b2 at h
      refine J_iload_n (pc := 2) C 2 rfl 2 rfl rfl ?_
      refine J_aload_n (pc := 3) C 3 rfl 0 rfl rfl ?_
      refine J_get (pc := 4) (v := .ref (aS 0)) C 4 rfl TB_l3 rfl 0 0 rfl (by decide) k120 rfl rfl ?_
      refine J_get (pc := 7) (v := .int (vS 8 0)) C 5 rfl TB_l2 rfl 7 8 rfl (by decide) k154 rfl rfl ?_
      refine J_icmp_ge (pc := 10) (tgt := 58) C 6 rfl rfl (fun c1 => ?_) (fun c1 => ?_)
      · rw [if_pos c1] at h
        cases h
        exact J_vret (pc := 58) C 30 rfl
      · rw [if_neg c1] at h
        refine J_aload_n (pc := 13) C 7 rfl 0 rfl rfl ?_
        refine J_get (pc := 14) (v := .ref (aS 0)) C 8 rfl TB_l3 rfl 0 0 rfl (by decide) k120 rfl rfl ?_
        refine J_iload_n (pc := 17) C 9 rfl 2 rfl rfl ?_
        refine J_iload_n (pc := 18) C 10 rfl 1 rfl rfl ?_
        obtain ⟨q2, hq2, h⟩ := bnd h
        refine J_callV (pc := 19) (st2 := []) (st3 := [.int q2]) (ws2 := (wSeat G aT (aS 0) (vT_2 1) (vT_2 2) (vT_2 3) (vT_2 4 0) (vT_2 5 0) (vT_2 6) (vT_2 7) (vT_2 8) ++ (wSch G aS (vS 0) (vS 1) (vS 2) (vS 3) (vS 4) (vS 5) (vS 6) (vS 7) (vS 8 0) (vS 9 0)))) C 11 rfl (c_X2_sits aS vS x2_2 x1_2 hq2) V_X2_sits k156 i_X2_sits s_X2_sits rfl rfl ⟨Nat.le_of_ble_eq_true rfl, Nat.le_of_ble_eq_true rfl⟩ (Nat.le_of_ble_eq_true rfl) ⟨Nat.le_refl _, Nat.le_refl _⟩ 7 2 rfl rfl rfl (isC := [7, 8, 9, 10, 11, 12, 13, 14, 15]) (isR := [0, 1, 2, 3, 4, 5, 6]) (N := 16) ⟨rfl, by decide +kernel, rfl, by decide +kernel, rfl, ⟨⟨_, rfl, rfl⟩, ⟨⟨_, rfl, rfl⟩, ⟨⟨_, rfl, rfl⟩, ⟨⟨_, rfl, rfl⟩, ⟨⟨_, rfl, rfl⟩, ⟨⟨_, rfl, rfl⟩, ⟨⟨_, rfl, rfl⟩, trivial⟩⟩⟩⟩⟩⟩⟩⟩ rfl ?_
        refine J_if_eq (pc := 22) (tgt := 52) C 12 rfl rfl (fun c3 => ?_) (fun c3 => ?_)
        · rw [if_pos c3] at h
          refine J_iinc (pc := 52) (v := (x2_2 + (1 : Int32))) (lv' := [(2, .int (x2_2 + (1 : Int32))), (0, .ref (aT 0)), (1, .int x1_2)]) C 28 rfl 2 rfl rfl (by decide) rfl ?_
          refine J_goto (pc := 55) (tgt := 2) C 29 rfl rfl ?_
          exact J_sub [1, 2, 0] rfl (ih2 vT_2 (x2_2 + (1 : Int32)) h)
        · rw [if_neg c3] at h
          refine J_aload_n (pc := 25) C 13 rfl 0 rfl rfl ?_
          refine J_get (pc := 26) (v := .ref (aS 0)) C 14 rfl TB_l3 rfl 0 0 rfl (by decide) k120 rfl rfl ?_
          refine J_get (pc := 29) (v := .ref (aS 6)) C 15 rfl TB_l2 rfl 7 5 rfl (by decide) k155 rfl rfl ?_
          refine J_iload_n (pc := 32) C 16 rfl 2 rfl rfl ?_
          obtain ⟨g4, h⟩ := gd_some h
          refine J_zald (pc := 33) (f := (vS 5)) (v := ((vS 5) (Int32.toNatClampNeg x2_2))) C 17 rfl 13 rfl g4 rfl ?_
          refine J_if_eq (pc := 34) (tgt := 46) C 18 rfl rfl (fun c5 => ?_) (fun c5 => ?_)
          · rw [if_pos c5] at h
            refine J_aload_n (pc := 46) C 24 rfl 0 rfl rfl ?_
            refine J_iload_n (pc := 47) C 25 rfl 2 rfl rfl ?_
            refine J_iload_n (pc := 48) C 26 rfl 1 rfl rfl ?_
            obtain ⟨q6, hq6, h⟩ := bnd h
            refine J_callV (pc := 49) (st2 := []) (st3 := []) (ws2 := (wSeat G aT (aS 0) (q6 1) (q6 2) (q6 3) (q6 4 0) (q6 5 0) (q6 6) (q6 7) (q6 8) ++ (wSch G aS (vS 0) (vS 1) (vS 2) (vS 3) (vS 4) (vS 5) (vS 6) (vS 7) (vS 8 0) (vS 9 0)))) C 27 rfl (c_X3_seatAtDesk aT aS vT_2 vS x2_2 x1_2 hq6) V_X3_seatAtDesk k160 i_X3_seatAtDesk s_X3_seatAtDesk rfl rfl ⟨Nat.le_of_ble_eq_true rfl, Nat.le_of_ble_eq_true rfl⟩ (Nat.le_of_ble_eq_true rfl) ⟨Nat.le_refl _, Nat.le_refl _⟩ 0 3 rfl rfl rfl (isC := [0, 1, 2, 3, 4, 5, 6, 7, 8, 9, 10, 11, 12, 13, 14, 15]) (isR := []) (N := 16) ⟨rfl, by decide +kernel, rfl, by decide +kernel, rfl, trivial⟩ rfl ?_
            refine J_iinc (pc := 52) (v := (x2_2 + (1 : Int32))) (lv' := [(2, .int (x2_2 + (1 : Int32))), (0, .ref (aT 0)), (1, .int x1_2)]) C 28 rfl 2 rfl rfl (by decide) rfl ?_
            refine J_goto (pc := 55) (tgt := 2) C 29 rfl rfl ?_
            exact J_sub [1, 2, 0] rfl (ih2 q6 (x2_2 + (1 : Int32)) h)
          · rw [if_neg c5] at h
            refine J_aload_n (pc := 37) C 19 rfl 0 rfl rfl ?_
            refine J_iload_n (pc := 38) C 20 rfl 2 rfl rfl ?_
            refine J_iload_n (pc := 39) C 21 rfl 1 rfl rfl ?_
            obtain ⟨q7, hq7, h⟩ := bnd h
            refine J_callV (pc := 40) (st2 := []) (st3 := []) (ws2 := (wSeat G aT (aS 0) (q7 1) (q7 2) (q7 3) (q7 4 0) (q7 5 0) (q7 6) (q7 7) (q7 8) ++ (wSch G aS (vS 0) (vS 1) (vS 2) (vS 3) (vS 4) (vS 5) (vS 6) (vS 7) (vS 8 0) (vS 9 0)))) C 22 rfl (c_X3_seatInRoom aT aS vT_2 vS x2_2 x1_2 hq7) V_X3_seatInRoom k157 i_X3_seatInRoom s_X3_seatInRoom rfl rfl ⟨Nat.le_of_ble_eq_true rfl, Nat.le_of_ble_eq_true rfl⟩ (Nat.le_of_ble_eq_true rfl) ⟨Nat.le_refl _, Nat.le_refl _⟩ 0 3 rfl rfl rfl (isC := [0, 1, 2, 3, 4, 5, 6, 7, 8, 9, 10, 11, 12, 13, 14, 15]) (isR := []) (N := 16) ⟨rfl, by decide +kernel, rfl, by decide +kernel, rfl, trivial⟩ rfl ?_
            refine J_goto (pc := 43) (tgt := 52) C 23 rfl rfl ?_
            refine J_iinc (pc := 52) (v := (x2_2 + (1 : Int32))) (lv' := [(2, .int (x2_2 + (1 : Int32))), (0, .ref (aT 0)), (1, .int x1_2)]) C 28 rfl 2 rfl rfl (by decide) rfl ?_
            refine J_goto (pc := 55) (tgt := 2) C 29 rfl rfl ?_
            exact J_sub [1, 2, 0] rfl (ih2 q7 (x2_2 + (1 : Int32)) h)
  unfold f_X3_seatPupils at h
  refine J_iconst (pc := 0) (v := (0 : Int32)) C 0 rfl rfl ?_
  refine J_istore_n (pc := 1) (lv' := [(2, .int (0 : Int32)), (0, .ref (aT 0)), (1, .int x1)]) C 1 rfl rfl (by decide) rfl ?_
  exact J_sub [1, 2, 0] rfl (B2 x1 FU vT (0 : Int32) h)
def T_X3_seatAll : List (Nat × ClassFile.Instr × Nat) := [(0, .aload_n 0, 1), (1, .invokevirtual 44, 3), (4, .iconst 0, 1), (5, .istore_n 1, 1), (6, .iload_n 1, 1), (7, .bipush 20, 2), (9, .if_icmp .ge 41, 3), (12, .iconst 0, 1), (13, .istore_n 2, 1), (14, .iload_n 2, 1), (15, .bipush 6, 2), (17, .if_icmp .ge 27, 3), (20, .aload_n 0, 1), (21, .getfield 12, 3), (24, .getfield 47, 3), (27, .iload_n 2, 1), (28, .iaload, 1), (29, .iload_n 1, 1), (30, .if_icmp .ne 8, 3), (33, .aload_n 0, 1), (34, .iload_n 2, 1), (35, .invokevirtual 50, 3), (38, .iinc 2 1, 3), (41, .goto (-27), 3), (44, .iinc 1 1, 3), (47, .goto (-41), 3), (50, .return_, 1)]
theorem D_X3_seatAll : ∀ q ∈ T_X3_seatAll, decode cX3_seatAll q.1 = .ok q.2 := by decide +kernel
theorem V_X3_seatAll : Vy yX3_seatAll cX3_seatAll 3 none 0 := ⟨k171, k138, by decide +kernel⟩
theorem i_X3_seatAll : Cond.instanceMethod yX3_seatAll ∈ TB := k215
theorem s_X3_seatAll : Cond.selects yX3_seatAll.cls yX3_seatAll yX3_seatAll ∈ TB := k216
noncomputable def f_X3_seatAll_b14 (vS : JV) (r6 : JV → Int32 → Option (JV)) (x1_14 : Int32) (r14 : JV → Int32 → Option (JV)) (vT_14 : JV) (x2_14 : Int32) : Option (JV) :=
  (if (6 : Int32) ≤ x2_14 then r6 vT_14 (x1_14 + (1 : Int32)) else gd (inb x2_14 6) ((if ((vS 1) (Int32.toNatClampNeg x2_14)) = x1_14 then (f_X3_seatPupils vT_14 vS x2_14).bind (fun q6 => r14 q6 (x2_14 + (1 : Int32))) else r14 vT_14 (x2_14 + (1 : Int32)))))
noncomputable def f_X3_seatAll_L14 (vS : JV) (r6 : JV → Int32 → Option (JV)) (x1_14 : Int32) (n : Nat) (vT_14 : JV) (x2_14 : Int32) : Option (JV) :=
  lp (fun (rec : JV × Int32 → Option (JV)) a => f_X3_seatAll_b14 vS r6 x1_14 (fun vT_14 x2_14 => rec (vT_14, x2_14)) a.1 a.2) n (vT_14, x2_14)
noncomputable def f_X3_seatAll_b6 (vS : JV) (r6 : JV → Int32 → Option (JV)) (vT_6 : JV) (x1_6 : Int32) : Option (JV) :=
  (if (20 : Int32) ≤ x1_6 then some vT_6 else f_X3_seatAll_L14 vS r6 x1_6 FU vT_6 (0 : Int32))
noncomputable def f_X3_seatAll_L6 (vS : JV) (n : Nat) (vT_6 : JV) (x1_6 : Int32) : Option (JV) :=
  lp (fun (rec : JV × Int32 → Option (JV)) a => f_X3_seatAll_b6 vS (fun vT_6 x1_6 => rec (vT_6, x1_6)) a.1 a.2) n (vT_6, x1_6)
noncomputable def f_X3_seatAll (vT : JV) (vS : JV)  : Option (JV) :=
  (f_X3_clear vT).bind (fun q1 => f_X3_seatAll_L6 vS  FU q1 (0 : Int32))
set_option maxRecDepth 100000 in
set_option maxHeartbeats 4000000 in
theorem c_X3_seatAll {l : Launch} {G : JG} (aT : Nat → Nat) (aS : Nat → Nat) (vT : JV) (vS : JV)  {Rz : JV} (h : f_X3_seatAll vT vS = some Rz) : JM l G yX3_seatAll cX3_seatAll 3 none 5 119 [.ref (aT 0)] (wSeat G aT (aS 0) (vT 1) (vT 2) (vT 3) (vT 4 0) (vT 5 0) (vT 6) (vT 7) (vT 8) ++ (wSch G aS (vS 0) (vS 1) (vS 2) (vS 3) (vS 4) (vS 5) (vS 6) (vS 7) (vS 8 0) (vS 9 0))) (wSeat G aT (aS 0) (Rz 1) (Rz 2) (Rz 3) (Rz 4 0) (Rz 5 0) (Rz 6) (Rz 7) (Rz 8) ++ (wSch G aS (vS 0) (vS 1) (vS 2) (vS 3) (vS 4) (vS 5) (vS 6) (vS 7) (vS 8 0) (vS 9 0))) none := by
  refine JM.of (own := RX3) (tb := T_X3_seatAll) (by decide) (Nat.le_of_ble_eq_true rfl) D_X3_seatAll rfl (fun X C => ?_)
  refine J_sub (lv' := [(0, .ref (aT 0))]) [0] rfl ?_
  have B6 : ∀ (n6 : Nat) (vT_6 : JV) (x1_6 : Int32), f_X3_seatAll_L6 vS n6 vT_6 x1_6 = some Rz → J l { frames := 5, cells := 0, slots := 0, locals := 119 } G 3 X (QM X G 0 0 none (wSeat G aT (aS 0) (Rz 1) (Rz 2) (Rz 3) (Rz 4 0) (Rz 5 0) (Rz 6) (Rz 7) (Rz 8) ++ (wSch G aS (vS 0) (vS 1) (vS 2) (vS 3) (vS 4) (vS 5) (vS 6) (vS 7) (vS 8 0) (vS 9 0)))) 0 0 6 [(0, .ref (aT 0)), (1, .int x1_6)] [] (wSeat G aT (aS 0) (vT_6 1) (vT_6 2) (vT_6 3) (vT_6 4 0) (vT_6 5 0) (vT_6 6) (vT_6 7) (vT_6 8) ++ (wSch G aS (vS 0) (vS 1) (vS 2) (vS 3) (vS 4) (vS 5) (vS 6) (vS 7) (vS 8 0) (vS 9 0))) := by
    intro  n6
    induction n6 with
    | zero =>
      intro vT_6 x1_6 h
      exact (no_none rfl h).elim
    | succ n6 ih6 =>
      have B14 : ∀ (x1_14 : Int32) (n14 : Nat) (vT_14 : JV) (x2_14 : Int32), f_X3_seatAll_L14 vS (fun vT_6 x1_6 => f_X3_seatAll_L6 vS n6 vT_6 x1_6) x1_14 n14 vT_14 x2_14 = some Rz → J l { frames := 5, cells := 0, slots := 0, locals := 119 } G 3 X (QM X G 0 0 none (wSeat G aT (aS 0) (Rz 1) (Rz 2) (Rz 3) (Rz 4 0) (Rz 5 0) (Rz 6) (Rz 7) (Rz 8) ++ (wSch G aS (vS 0) (vS 1) (vS 2) (vS 3) (vS 4) (vS 5) (vS 6) (vS 7) (vS 8 0) (vS 9 0)))) 0 0 14 [(0, .ref (aT 0)), (1, .int x1_14), (2, .int x2_14)] [] (wSeat G aT (aS 0) (vT_14 1) (vT_14 2) (vT_14 3) (vT_14 4 0) (vT_14 5 0) (vT_14 6) (vT_14 7) (vT_14 8) ++ (wSch G aS (vS 0) (vS 1) (vS 2) (vS 3) (vS 4) (vS 5) (vS 6) (vS 7) (vS 8 0) (vS 9 0))) := by
        intro x1_14 n14
        induction n14 with
        | zero =>
          intro vT_14 x2_14 h
          exact (no_none rfl h).elim
        | succ n14 ih14 =>
          intro vT_14 x2_14 h
          replace h : f_X3_seatAll_b14 vS (fun vT_6 x1_6 => f_X3_seatAll_L6 vS n6 vT_6 x1_6) x1_14 (fun vT_14 x2_14 => f_X3_seatAll_L14 vS (fun vT_6 x1_6 => f_X3_seatAll_L6 vS n6 vT_6 x1_6) x1_14 n14 vT_14 x2_14) vT_14 x2_14 = some Rz := h
          unfold f_X3_seatAll_b14 at h
          refine J_iload_n (pc := 14) C 9 rfl 2 rfl rfl ?_
          refine J_bipush (pc := 15) (v := (6 : Int32)) C 10 rfl rfl ?_
          refine J_icmp_ge (pc := 17) (tgt := 44) C 11 rfl rfl (fun c3 => ?_) (fun c3 => ?_)
          · rw [if_pos c3] at h
            refine J_iinc (pc := 44) (v := (x1_14 + (1 : Int32))) (lv' := [(1, .int (x1_14 + (1 : Int32))), (0, .ref (aT 0)), (2, .int x2_14)]) C 24 rfl 1 rfl rfl (by decide) rfl ?_
            refine J_goto (pc := 47) (tgt := 6) C 25 rfl rfl ?_
            exact J_sub [1, 0] rfl (ih6 vT_14 (x1_14 + (1 : Int32)) h)
          · rw [if_neg c3] at h
            refine J_aload_n (pc := 20) C 12 rfl 0 rfl rfl ?_
            refine J_get (pc := 21) (v := .ref (aS 0)) C 13 rfl TB_l3 rfl 0 0 rfl (by decide) k120 rfl rfl ?_
            refine J_get (pc := 24) (v := .ref (aS 2)) C 14 rfl TB_l2 rfl 7 1 rfl (by decide) k164 rfl rfl ?_
            refine J_iload_n (pc := 27) C 15 rfl 2 rfl rfl ?_
            obtain ⟨g4, h⟩ := gd_some h
            refine J_iald (pc := 28) (f := (vS 1)) (v := ((vS 1) (Int32.toNatClampNeg x2_14))) C 16 rfl 9 rfl g4 rfl ?_
            refine J_iload_n (pc := 29) C 17 rfl 1 rfl rfl ?_
            refine J_icmp_ne (pc := 30) (tgt := 38) C 18 rfl rfl (fun c5 => ?_) (fun c5 => ?_)
            · rw [if_neg c5] at h
              refine J_iinc (pc := 38) (v := (x2_14 + (1 : Int32))) (lv' := [(2, .int (x2_14 + (1 : Int32))), (0, .ref (aT 0)), (1, .int x1_14)]) C 22 rfl 2 rfl rfl (by decide) rfl ?_
              refine J_goto (pc := 41) (tgt := 14) C 23 rfl rfl ?_
              exact J_sub [1, 2, 0] rfl (ih14 vT_14 (x2_14 + (1 : Int32)) h)
            · rw [if_pos c5] at h
              refine J_aload_n (pc := 33) C 19 rfl 0 rfl rfl ?_
              refine J_iload_n (pc := 34) C 20 rfl 2 rfl rfl ?_
              obtain ⟨q6, hq6, h⟩ := bnd h
              refine J_callV (pc := 35) (st2 := []) (st3 := []) (ws2 := (wSeat G aT (aS 0) (q6 1) (q6 2) (q6 3) (q6 4 0) (q6 5 0) (q6 6) (q6 7) (q6 8) ++ (wSch G aS (vS 0) (vS 1) (vS 2) (vS 3) (vS 4) (vS 5) (vS 6) (vS 7) (vS 8 0) (vS 9 0)))) C 21 rfl (c_X3_seatPupils aT aS vT_14 vS x2_14 hq6) V_X3_seatPupils k168 i_X3_seatPupils s_X3_seatPupils rfl rfl ⟨Nat.le_of_ble_eq_true rfl, Nat.le_of_ble_eq_true rfl⟩ (Nat.le_of_ble_eq_true rfl) ⟨Nat.le_refl _, Nat.le_refl _⟩ 0 3 rfl rfl rfl (isC := [0, 1, 2, 3, 4, 5, 6, 7, 8, 9, 10, 11, 12, 13, 14, 15]) (isR := []) (N := 16) ⟨rfl, by decide +kernel, rfl, by decide +kernel, rfl, trivial⟩ rfl ?_
              refine J_iinc (pc := 38) (v := (x2_14 + (1 : Int32))) (lv' := [(2, .int (x2_14 + (1 : Int32))), (0, .ref (aT 0)), (1, .int x1_14)]) C 22 rfl 2 rfl rfl (by decide) rfl ?_
              refine J_goto (pc := 41) (tgt := 14) C 23 rfl rfl ?_
              exact J_sub [1, 2, 0] rfl (ih14 q6 (x2_14 + (1 : Int32)) h)
      intro vT_6 x1_6 h
      replace h : f_X3_seatAll_b6 vS (fun vT_6 x1_6 => f_X3_seatAll_L6 vS n6 vT_6 x1_6) vT_6 x1_6 = some Rz := h
      unfold f_X3_seatAll_b6 at h
      refine J_iload_n (pc := 6) C 4 rfl 1 rfl rfl ?_
      refine J_bipush (pc := 7) (v := (20 : Int32)) C 5 rfl rfl ?_
      refine J_icmp_ge (pc := 9) (tgt := 50) C 6 rfl rfl (fun c2 => ?_) (fun c2 => ?_)
      · rw [if_pos c2] at h
        cases h
        exact J_vret (pc := 50) C 26 rfl
      · rw [if_neg c2] at h
        refine J_iconst (pc := 12) (v := (0 : Int32)) C 7 rfl rfl ?_
        refine J_istore_n (pc := 13) (lv' := [(2, .int (0 : Int32)), (0, .ref (aT 0)), (1, .int x1_6)]) C 8 rfl rfl (by decide) rfl ?_
        exact J_sub [1, 2, 0] rfl (B14 x1_6 FU vT_6 (0 : Int32) h)
  unfold f_X3_seatAll at h
  refine J_aload_n (pc := 0) C 0 rfl 0 rfl rfl ?_
  obtain ⟨q1, hq1, h⟩ := bnd h
  refine J_callV (pc := 1) (st2 := []) (st3 := []) (ws2 := (wSeat G aT (aS 0) (q1 1) (q1 2) (q1 3) (q1 4 0) (q1 5 0) (q1 6) (q1 7) (q1 8) ++ (wSch G aS (vS 0) (vS 1) (vS 2) (vS 3) (vS 4) (vS 5) (vS 6) (vS 7) (vS 8 0) (vS 9 0)))) C 1 rfl (c_X3_clear aT aS vT hq1) V_X3_clear k165 i_X3_clear s_X3_clear rfl rfl ⟨Nat.le_of_ble_eq_true rfl, Nat.le_of_ble_eq_true rfl⟩ (Nat.le_of_ble_eq_true rfl) ⟨Nat.le_refl _, Nat.le_refl _⟩ 0 3 rfl rfl rfl (isC := [0, 1, 2, 3, 4, 5, 6]) (isR := [7, 8, 9, 10, 11, 12, 13, 14, 15]) (N := 16) ⟨rfl, by decide +kernel, rfl, by decide +kernel, rfl, ⟨⟨_, rfl, rfl⟩, ⟨⟨_, rfl, rfl⟩, ⟨⟨_, rfl, rfl⟩, ⟨⟨_, rfl, rfl⟩, ⟨⟨_, rfl, rfl⟩, ⟨⟨_, rfl, rfl⟩, ⟨⟨_, rfl, rfl⟩, ⟨⟨_, rfl, rfl⟩, ⟨⟨_, rfl, rfl⟩, trivial⟩⟩⟩⟩⟩⟩⟩⟩⟩⟩ rfl ?_
  refine J_iconst (pc := 4) (v := (0 : Int32)) C 2 rfl rfl ?_
  refine J_istore_n (pc := 5) (lv' := [(1, .int (0 : Int32)), (0, .ref (aT 0))]) C 3 rfl rfl (by decide) rfl ?_
  exact J_sub [1, 0] rfl (B6  FU q1 (0 : Int32) h)
def T_X3_isUnplaced : List (Nat × ClassFile.Instr × Nat) := [(0, .iload_n 1, 1), (1, .iload_n 2, 1), (2, .invokestatic 78, 3), (5, .istore_n 3, 1), (6, .aload_n 0, 1), (7, .getfield 12, 3), (10, .iload_n 1, 1), (11, .iload_n 2, 1), (12, .invokevirtual 57, 3), (15, .ifCond .eq 29, 3), (18, .aload_n 0, 1), (19, .getfield 18, 3), (22, .iload_n 3, 1), (23, .iaload, 1), (24, .bipush (-6), 2), (26, .if_icmp .ne 18, 3), (29, .aload_n 0, 1), (30, .getfield 25, 3), (33, .iload_n 3, 1), (34, .iaload, 1), (35, .bipush (-6), 2), (37, .if_icmp .ne 7, 3), (40, .iconst 1, 1), (41, .goto 4, 3), (44, .iconst 0, 1), (45, .ireturn, 1)]
theorem D_X3_isUnplaced : ∀ q ∈ T_X3_isUnplaced, decode cX3_isUnplaced q.1 = .ok q.2 := by decide +kernel
theorem V_X3_isUnplaced : Vy yX3_isUnplaced cX3_isUnplaced 4 (some .boolean) 2 := ⟨k172, k138, by decide +kernel⟩
theorem i_X3_isUnplaced : Cond.instanceMethod yX3_isUnplaced ∈ TB := k175
theorem s_X3_isUnplaced : Cond.selects yX3_isUnplaced.cls yX3_isUnplaced yX3_isUnplaced ∈ TB := k176
noncomputable def f_X3_isUnplaced (vT : JV) (vS : JV) (x1 : Int32) (x2 : Int32) : Option (Int32) :=
  (f_X4_sittingNumber x1 x2).bind (fun q1 => (f_X2_sits vS x1 x2).bind (fun q2 => (if q2 = 0 then some (0 : Int32) else gd (inb q1 96) ((if ((vT 1) (Int32.toNatClampNeg q1)) = (-6 : Int32) then gd (inb q1 96) ((if ((vT 3) (Int32.toNatClampNeg q1)) = (-6 : Int32) then some (1 : Int32) else some (0 : Int32))) else some (0 : Int32))))))
set_option maxRecDepth 100000 in
set_option maxHeartbeats 4000000 in
theorem c_X3_isUnplaced {l : Launch} {G : JG} (aT : Nat → Nat) (aS : Nat → Nat) (vT : JV) (vS : JV) (x1 : Int32) (x2 : Int32) {Rz : Int32} (h : f_X3_isUnplaced vT vS x1 x2 = some Rz) : JM l G yX3_isUnplaced cX3_isUnplaced 4 (some .boolean) 2 43 [.ref (aT 0), .int x1, .int x2] (wSeat G aT (aS 0) (vT 1) (vT 2) (vT 3) (vT 4 0) (vT 5 0) (vT 6) (vT 7) (vT 8) ++ (wSch G aS (vS 0) (vS 1) (vS 2) (vS 3) (vS 4) (vS 5) (vS 6) (vS 7) (vS 8 0) (vS 9 0))) (wSeat G aT (aS 0) (vT 1) (vT 2) (vT 3) (vT 4 0) (vT 5 0) (vT 6) (vT 7) (vT 8) ++ (wSch G aS (vS 0) (vS 1) (vS 2) (vS 3) (vS 4) (vS 5) (vS 6) (vS 7) (vS 8 0) (vS 9 0))) (some (.int Rz)) := by
  refine JM.of (own := RX3) (tb := T_X3_isUnplaced) (by decide) (Nat.le_of_ble_eq_true rfl) D_X3_isUnplaced rfl (fun X C => ?_)
  refine J_sub (lv' := [(0, .ref (aT 0)), (1, .int x1), (2, .int x2)]) [0, 1, 2] rfl ?_
  unfold f_X3_isUnplaced at h
  refine J_iload_n (pc := 0) C 0 rfl 1 rfl rfl ?_
  refine J_iload_n (pc := 1) C 1 rfl 2 rfl rfl ?_
  obtain ⟨q1, hq1, h⟩ := bnd h
  refine J_callSN (pc := 2) (st2 := []) (st3 := [.int q1]) (ws2 := (wSeat G aT (aS 0) (vT 1) (vT 2) (vT 3) (vT 4 0) (vT 5 0) (vT 6) (vT 7) (vT 8) ++ (wSch G aS (vS 0) (vS 1) (vS 2) (vS 3) (vS 4) (vS 5) (vS 6) (vS 7) (vS 8 0) (vS 9 0)))) C 2 rfl (c_X4_sittingNumber x1 x2 hq1) V_X4_sittingNumber (List.mem_of_getElem? (i := 6) rfl) t_X4_sittingNumber rfl rfl ⟨Nat.le_of_ble_eq_true rfl, Nat.le_of_ble_eq_true rfl⟩ (Nat.le_of_ble_eq_true rfl) ⟨Nat.le_refl _, Nat.le_refl _⟩ (isC := []) (isR := [0, 1, 2, 3, 4, 5, 6, 7, 8, 9, 10, 11, 12, 13, 14, 15]) (N := 16) ⟨rfl, by decide +kernel, rfl, by decide +kernel, rfl, ⟨⟨_, rfl, rfl⟩, ⟨⟨_, rfl, rfl⟩, ⟨⟨_, rfl, rfl⟩, ⟨⟨_, rfl, rfl⟩, ⟨⟨_, rfl, rfl⟩, ⟨⟨_, rfl, rfl⟩, ⟨⟨_, rfl, rfl⟩, ⟨⟨_, rfl, rfl⟩, ⟨⟨_, rfl, rfl⟩, ⟨⟨_, rfl, rfl⟩, ⟨⟨_, rfl, rfl⟩, ⟨⟨_, rfl, rfl⟩, ⟨⟨_, rfl, rfl⟩, ⟨⟨_, rfl, rfl⟩, ⟨⟨_, rfl, rfl⟩, ⟨⟨_, rfl, rfl⟩, trivial⟩⟩⟩⟩⟩⟩⟩⟩⟩⟩⟩⟩⟩⟩⟩⟩⟩ rfl ?_
  refine J_istore_n (pc := 5) (lv' := [(3, .int q1), (0, .ref (aT 0)), (1, .int x1), (2, .int x2)]) C 3 rfl rfl (by decide) rfl ?_
  refine J_aload_n (pc := 6) C 4 rfl 1 rfl rfl ?_
  refine J_get (pc := 7) (v := .ref (aS 0)) C 5 rfl TB_l3 rfl 0 0 rfl (by decide) k120 rfl rfl ?_
  refine J_iload_n (pc := 10) C 6 rfl 2 rfl rfl ?_
  refine J_iload_n (pc := 11) C 7 rfl 3 rfl rfl ?_
  obtain ⟨q2, hq2, h⟩ := bnd h
  refine J_callV (pc := 12) (st2 := []) (st3 := [.int q2]) (ws2 := (wSeat G aT (aS 0) (vT 1) (vT 2) (vT 3) (vT 4 0) (vT 5 0) (vT 6) (vT 7) (vT 8) ++ (wSch G aS (vS 0) (vS 1) (vS 2) (vS 3) (vS 4) (vS 5) (vS 6) (vS 7) (vS 8 0) (vS 9 0)))) C 8 rfl (c_X2_sits aS vS x1 x2 hq2) V_X2_sits k156 i_X2_sits s_X2_sits rfl rfl ⟨Nat.le_of_ble_eq_true rfl, Nat.le_of_ble_eq_true rfl⟩ (Nat.le_of_ble_eq_true rfl) ⟨Nat.le_refl _, Nat.le_refl _⟩ 7 2 rfl rfl rfl (isC := [7, 8, 9, 10, 11, 12, 13, 14, 15]) (isR := [0, 1, 2, 3, 4, 5, 6]) (N := 16) ⟨rfl, by decide +kernel, rfl, by decide +kernel, rfl, ⟨⟨_, rfl, rfl⟩, ⟨⟨_, rfl, rfl⟩, ⟨⟨_, rfl, rfl⟩, ⟨⟨_, rfl, rfl⟩, ⟨⟨_, rfl, rfl⟩, ⟨⟨_, rfl, rfl⟩, ⟨⟨_, rfl, rfl⟩, trivial⟩⟩⟩⟩⟩⟩⟩⟩ rfl ?_
  refine J_if_eq (pc := 15) (tgt := 44) C 9 rfl rfl (fun c3 => ?_) (fun c3 => ?_)
  · rw [if_pos c3] at h
    refine J_iconst (pc := 44) (v := (0 : Int32)) C 24 rfl rfl ?_
    cases h
    exact J_zret (pc := 45) C 25 rfl rfl
  · rw [if_neg c3] at h
    refine J_aload_n (pc := 18) C 10 rfl 1 rfl rfl ?_
    refine J_get (pc := 19) (v := .ref (aT 1)) C 11 rfl TB_l3 rfl 0 1 rfl (by decide) k121 rfl rfl ?_
    refine J_iload_n (pc := 22) C 12 rfl 0 rfl rfl ?_
    obtain ⟨g4, h⟩ := gd_some h
    refine J_iald (pc := 23) (f := (vT 1)) (v := ((vT 1) (Int32.toNatClampNeg q1))) C 13 rfl 1 rfl g4 rfl ?_
    refine J_bipush (pc := 24) (v := (-6 : Int32)) C 14 rfl rfl ?_
    refine J_icmp_ne (pc := 26) (tgt := 44) C 15 rfl rfl (fun c5 => ?_) (fun c5 => ?_)
    · rw [if_neg c5] at h
      refine J_iconst (pc := 44) (v := (0 : Int32)) C 24 rfl rfl ?_
      cases h
      exact J_zret (pc := 45) C 25 rfl rfl
    · rw [if_pos c5] at h
      refine J_aload_n (pc := 29) C 16 rfl 1 rfl rfl ?_
      refine J_get (pc := 30) (v := .ref (aT 3)) C 17 rfl TB_l3 rfl 0 3 rfl (by decide) k123 rfl rfl ?_
      refine J_iload_n (pc := 33) C 18 rfl 0 rfl rfl ?_
      obtain ⟨g6, h⟩ := gd_some h
      refine J_iald (pc := 34) (f := (vT 3)) (v := ((vT 3) (Int32.toNatClampNeg q1))) C 19 rfl 3 rfl g6 rfl ?_
      refine J_bipush (pc := 35) (v := (-6 : Int32)) C 20 rfl rfl ?_
      refine J_icmp_ne (pc := 37) (tgt := 44) C 21 rfl rfl (fun c7 => ?_) (fun c7 => ?_)
      · rw [if_neg c7] at h
        refine J_iconst (pc := 44) (v := (0 : Int32)) C 24 rfl rfl ?_
        cases h
        exact J_zret (pc := 45) C 25 rfl rfl
      · rw [if_pos c7] at h
        refine J_iconst (pc := 40) (v := (1 : Int32)) C 22 rfl rfl ?_
        refine J_goto (pc := 41) (tgt := 45) C 23 rfl rfl ?_
        cases h
        exact J_zret (pc := 45) C 25 rfl rfl
def T_X3_unplacedPapersOf : List (Nat × ClassFile.Instr × Nat) := [(0, .iconst 0, 1), (1, .istore_n 2, 1), (2, .iconst 0, 1), (3, .istore_n 3, 1), (4, .iload_n 3, 1), (5, .bipush 6, 2), (7, .if_icmp .ge 24, 3), (10, .aload_n 0, 1), (11, .iload_n 1, 1), (12, .iload_n 3, 1), (13, .invokevirtual 109, 3), (16, .ifCond .eq 9, 3), (19, .iload_n 2, 1), (20, .iconst 1, 1), (21, .iload_n 3, 1), (22, .ishl, 1), (23, .ior, 1), (24, .istore_n 2, 1), (25, .iinc 3 1, 3), (28, .goto (-24), 3), (31, .iload_n 2, 1), (32, .ireturn, 1)]
theorem D_X3_unplacedPapersOf : ∀ q ∈ T_X3_unplacedPapersOf, decode cX3_unplacedPapersOf q.1 = .ok q.2 := by decide +kernel
theorem V_X3_unplacedPapersOf : Vy yX3_unplacedPapersOf cX3_unplacedPapersOf 4 (some .int) 1 := ⟨k173, k138, by decide +kernel⟩
theorem i_X3_unplacedPapersOf : Cond.instanceMethod yX3_unplacedPapersOf ∈ TB := k270
theorem s_X3_unplacedPapersOf : Cond.selects yX3_unplacedPapersOf.cls yX3_unplacedPapersOf yX3_unplacedPapersOf ∈ TB := k271
noncomputable def f_X3_unplacedPapersOf_b4 (vT : JV) (vS : JV) (x1_4 : Int32) (r4 : Int32 → Int32 → Option (Int32)) (x2_4 : Int32) (x3_4 : Int32) : Option (Int32) :=
  (if (6 : Int32) ≤ x3_4 then some x2_4 else (f_X3_isUnplaced vT vS x1_4 x3_4).bind (fun q2 => (if q2 = 0 then r4 x2_4 (x3_4 + (1 : Int32)) else r4 (x2_4 ||| ((1 : Int32) <<< (x3_4 &&& 31))) (x3_4 + (1 : Int32)))))
noncomputable def f_X3_unplacedPapersOf_L4 (vT : JV) (vS : JV) (x1_4 : Int32) (n : Nat) (x2_4 : Int32) (x3_4 : Int32) : Option (Int32) :=
  lp (fun (rec : Int32 × Int32 → Option (Int32)) a => f_X3_unplacedPapersOf_b4 vT vS x1_4 (fun x2_4 x3_4 => rec (x2_4, x3_4)) a.1 a.2) n (x2_4, x3_4)
noncomputable def f_X3_unplacedPapersOf (vT : JV) (vS : JV) (x1 : Int32) : Option (Int32) :=
  f_X3_unplacedPapersOf_L4 vT vS x1 FU (0 : Int32) (0 : Int32)
set_option maxRecDepth 100000 in
set_option maxHeartbeats 4000000 in
theorem c_X3_unplacedPapersOf {l : Launch} {G : JG} (aT : Nat → Nat) (aS : Nat → Nat) (vT : JV) (vS : JV) (x1 : Int32) {Rz : Int32} (h : f_X3_unplacedPapersOf vT vS x1 = some Rz) : JM l G yX3_unplacedPapersOf cX3_unplacedPapersOf 4 (some .int) 3 66 [.ref (aT 0), .int x1] (wSeat G aT (aS 0) (vT 1) (vT 2) (vT 3) (vT 4 0) (vT 5 0) (vT 6) (vT 7) (vT 8) ++ (wSch G aS (vS 0) (vS 1) (vS 2) (vS 3) (vS 4) (vS 5) (vS 6) (vS 7) (vS 8 0) (vS 9 0))) (wSeat G aT (aS 0) (vT 1) (vT 2) (vT 3) (vT 4 0) (vT 5 0) (vT 6) (vT 7) (vT 8) ++ (wSch G aS (vS 0) (vS 1) (vS 2) (vS 3) (vS 4) (vS 5) (vS 6) (vS 7) (vS 8 0) (vS 9 0))) (some (.int Rz)) := by
  refine JM.of (own := RX3) (tb := T_X3_unplacedPapersOf) (by decide) (Nat.le_of_ble_eq_true rfl) D_X3_unplacedPapersOf rfl (fun X C => ?_)
  refine J_sub (lv' := [(0, .ref (aT 0)), (1, .int x1)]) [0, 1] rfl ?_
  have B4 : ∀ (x1_4 : Int32) (n4 : Nat) (x2_4 : Int32) (x3_4 : Int32), f_X3_unplacedPapersOf_L4 vT vS x1_4 n4 x2_4 x3_4 = some Rz → J l { frames := 3, cells := 0, slots := 0, locals := 66 } G 4 X (QM X G 0 0 (some (.int Rz)) (wSeat G aT (aS 0) (vT 1) (vT 2) (vT 3) (vT 4 0) (vT 5 0) (vT 6) (vT 7) (vT 8) ++ (wSch G aS (vS 0) (vS 1) (vS 2) (vS 3) (vS 4) (vS 5) (vS 6) (vS 7) (vS 8 0) (vS 9 0)))) 0 0 4 [(0, .ref (aT 0)), (1, .int x1_4), (2, .int x2_4), (3, .int x3_4)] [] (wSeat G aT (aS 0) (vT 1) (vT 2) (vT 3) (vT 4 0) (vT 5 0) (vT 6) (vT 7) (vT 8) ++ (wSch G aS (vS 0) (vS 1) (vS 2) (vS 3) (vS 4) (vS 5) (vS 6) (vS 7) (vS 8 0) (vS 9 0))) := by
    intro x1_4 n4
    induction n4 with
    | zero =>
      intro x2_4 x3_4 h
      exact (no_none rfl h).elim
    | succ n4 ih4 =>
      intro x2_4 x3_4 h
      replace h : f_X3_unplacedPapersOf_b4 vT vS x1_4 (fun x2_4 x3_4 => f_X3_unplacedPapersOf_L4 vT vS x1_4 n4 x2_4 x3_4) x2_4 x3_4 = some Rz := h
      unfold f_X3_unplacedPapersOf_b4 at h
      refine J_iload_n (pc := 4) C 4 rfl 3 rfl rfl ?_
      refine J_bipush (pc := 5) (v := (6 : Int32)) C 5 rfl rfl ?_
      refine J_icmp_ge (pc := 7) (tgt := 31) C 6 rfl rfl (fun c1 => ?_) (fun c1 => ?_)
      · rw [if_pos c1] at h
        refine J_iload_n (pc := 31) C 20 rfl 2 rfl rfl ?_
        cases h
        exact J_iret (pc := 32) C 21 rfl
      · rw [if_neg c1] at h
        refine J_aload_n (pc := 10) C 7 rfl 0 rfl rfl ?_
        refine J_iload_n (pc := 11) C 8 rfl 1 rfl rfl ?_
        refine J_iload_n (pc := 12) C 9 rfl 3 rfl rfl ?_
        obtain ⟨q2, hq2, h⟩ := bnd h
        refine J_callV (pc := 13) (st2 := []) (st3 := [.int q2]) (ws2 := (wSeat G aT (aS 0) (vT 1) (vT 2) (vT 3) (vT 4 0) (vT 5 0) (vT 6) (vT 7) (vT 8) ++ (wSch G aS (vS 0) (vS 1) (vS 2) (vS 3) (vS 4) (vS 5) (vS 6) (vS 7) (vS 8 0) (vS 9 0)))) C 10 rfl (c_X3_isUnplaced aT aS vT vS x1_4 x3_4 hq2) V_X3_isUnplaced k174 i_X3_isUnplaced s_X3_isUnplaced rfl rfl ⟨Nat.le_of_ble_eq_true rfl, Nat.le_of_ble_eq_true rfl⟩ (Nat.le_of_ble_eq_true rfl) ⟨Nat.le_refl _, Nat.le_refl _⟩ 0 3 rfl rfl rfl (isC := [0, 1, 2, 3, 4, 5, 6, 7, 8, 9, 10, 11, 12, 13, 14, 15]) (isR := []) (N := 16) ⟨rfl, by decide +kernel, rfl, by decide +kernel, rfl, trivial⟩ rfl ?_
        refine J_if_eq (pc := 16) (tgt := 25) C 11 rfl rfl (fun c3 => ?_) (fun c3 => ?_)
        · rw [if_pos c3] at h
          refine J_iinc (pc := 25) (v := (x3_4 + (1 : Int32))) (lv' := [(3, .int (x3_4 + (1 : Int32))), (0, .ref (aT 0)), (1, .int x1_4), (2, .int x2_4)]) C 18 rfl 3 rfl rfl (by decide) rfl ?_
          refine J_goto (pc := 28) (tgt := 4) C 19 rfl rfl ?_
          exact J_sub [1, 2, 3, 0] rfl (ih4 x2_4 (x3_4 + (1 : Int32)) h)
        · rw [if_neg c3] at h
          refine J_iload_n (pc := 19) C 12 rfl 2 rfl rfl ?_
          refine J_iconst (pc := 20) (v := (1 : Int32)) C 13 rfl rfl ?_
          refine J_iload_n (pc := 21) C 14 rfl 3 rfl rfl ?_
          refine J_ishl (pc := 22) C 15 rfl  ?_
          refine J_ior (pc := 23) C 16 rfl  ?_
          refine J_istore_n (pc := 24) (lv' := [(2, .int (x2_4 ||| ((1 : Int32) <<< (x3_4 &&& 31)))), (0, .ref (aT 0)), (1, .int x1_4), (3, .int x3_4)]) C 17 rfl rfl (by decide) rfl ?_
          refine J_iinc (pc := 25) (v := (x3_4 + (1 : Int32))) (lv' := [(3, .int (x3_4 + (1 : Int32))), (2, .int (x2_4 ||| ((1 : Int32) <<< (x3_4 &&& 31)))), (0, .ref (aT 0)), (1, .int x1_4)]) C 18 rfl 3 rfl rfl (by decide) rfl ?_
          refine J_goto (pc := 28) (tgt := 4) C 19 rfl rfl ?_
          exact J_sub [2, 3, 1, 0] rfl (ih4 (x2_4 ||| ((1 : Int32) <<< (x3_4 &&& 31))) (x3_4 + (1 : Int32)) h)
  unfold f_X3_unplacedPapersOf at h
  refine J_iconst (pc := 0) (v := (0 : Int32)) C 0 rfl rfl ?_
  refine J_istore_n (pc := 1) (lv' := [(2, .int (0 : Int32)), (0, .ref (aT 0)), (1, .int x1)]) C 1 rfl rfl (by decide) rfl ?_
  refine J_iconst (pc := 2) (v := (0 : Int32)) C 2 rfl rfl ?_
  refine J_istore_n (pc := 3) (lv' := [(3, .int (0 : Int32)), (2, .int (0 : Int32)), (0, .ref (aT 0)), (1, .int x1)]) C 3 rfl rfl (by decide) rfl ?_
  exact J_sub [2, 3, 1, 0] rfl (B4 x1 FU (0 : Int32) (0 : Int32) h)
def T_X3_unplacedOf : List (Nat × ClassFile.Instr × Nat) := [(0, .iconst 0, 1), (1, .istore_n 2, 1), (2, .iconst 0, 1), (3, .istore_n 3, 1), (4, .iload_n 3, 1), (5, .aload_n 0, 1), (6, .getfield 12, 3), (9, .getfield 54, 3), (12, .if_icmp .ge 21, 3), (15, .aload_n 0, 1), (16, .iload_n 3, 1), (17, .iload_n 1, 1), (18, .invokevirtual 109, 3), (21, .ifCond .eq 6, 3), (24, .iinc 2 1, 3), (27, .iinc 3 1, 3), (30, .goto (-26), 3), (33, .iload_n 2, 1), (34, .ireturn, 1)]
theorem D_X3_unplacedOf : ∀ q ∈ T_X3_unplacedOf, decode cX3_unplacedOf q.1 = .ok q.2 := by decide +kernel
theorem V_X3_unplacedOf : Vy yX3_unplacedOf cX3_unplacedOf 4 (some .int) 1 := ⟨k177, k138, by decide +kernel⟩
theorem i_X3_unplacedOf : Cond.instanceMethod yX3_unplacedOf ∈ TB := k281
theorem s_X3_unplacedOf : Cond.selects yX3_unplacedOf.cls yX3_unplacedOf yX3_unplacedOf ∈ TB := k282
noncomputable def f_X3_unplacedOf_b4 (vT : JV) (vS : JV) (x1_4 : Int32) (r4 : Int32 → Int32 → Option (Int32)) (x2_4 : Int32) (x3_4 : Int32) : Option (Int32) :=
  (if (vS 8 0) ≤ x3_4 then some x2_4 else (f_X3_isUnplaced vT vS x3_4 x1_4).bind (fun q2 => (if q2 = 0 then r4 x2_4 (x3_4 + (1 : Int32)) else r4 (x2_4 + (1 : Int32)) (x3_4 + (1 : Int32)))))
noncomputable def f_X3_unplacedOf_L4 (vT : JV) (vS : JV) (x1_4 : Int32) (n : Nat) (x2_4 : Int32) (x3_4 : Int32) : Option (Int32) :=
  lp (fun (rec : Int32 × Int32 → Option (Int32)) a => f_X3_unplacedOf_b4 vT vS x1_4 (fun x2_4 x3_4 => rec (x2_4, x3_4)) a.1 a.2) n (x2_4, x3_4)
noncomputable def f_X3_unplacedOf (vT : JV) (vS : JV) (x1 : Int32) : Option (Int32) :=
  f_X3_unplacedOf_L4 vT vS x1 FU (0 : Int32) (0 : Int32)
set_option maxRecDepth 100000 in
set_option maxHeartbeats 4000000 in
theorem c_X3_unplacedOf {l : Launch} {G : JG} (aT : Nat → Nat) (aS : Nat → Nat) (vT : JV) (vS : JV) (x1 : Int32) {Rz : Int32} (h : f_X3_unplacedOf vT vS x1 = some Rz) : JM l G yX3_unplacedOf cX3_unplacedOf 4 (some .int) 3 66 [.ref (aT 0), .int x1] (wSeat G aT (aS 0) (vT 1) (vT 2) (vT 3) (vT 4 0) (vT 5 0) (vT 6) (vT 7) (vT 8) ++ (wSch G aS (vS 0) (vS 1) (vS 2) (vS 3) (vS 4) (vS 5) (vS 6) (vS 7) (vS 8 0) (vS 9 0))) (wSeat G aT (aS 0) (vT 1) (vT 2) (vT 3) (vT 4 0) (vT 5 0) (vT 6) (vT 7) (vT 8) ++ (wSch G aS (vS 0) (vS 1) (vS 2) (vS 3) (vS 4) (vS 5) (vS 6) (vS 7) (vS 8 0) (vS 9 0))) (some (.int Rz)) := by
  refine JM.of (own := RX3) (tb := T_X3_unplacedOf) (by decide) (Nat.le_of_ble_eq_true rfl) D_X3_unplacedOf rfl (fun X C => ?_)
  refine J_sub (lv' := [(0, .ref (aT 0)), (1, .int x1)]) [0, 1] rfl ?_
  have B4 : ∀ (x1_4 : Int32) (n4 : Nat) (x2_4 : Int32) (x3_4 : Int32), f_X3_unplacedOf_L4 vT vS x1_4 n4 x2_4 x3_4 = some Rz → J l { frames := 3, cells := 0, slots := 0, locals := 66 } G 4 X (QM X G 0 0 (some (.int Rz)) (wSeat G aT (aS 0) (vT 1) (vT 2) (vT 3) (vT 4 0) (vT 5 0) (vT 6) (vT 7) (vT 8) ++ (wSch G aS (vS 0) (vS 1) (vS 2) (vS 3) (vS 4) (vS 5) (vS 6) (vS 7) (vS 8 0) (vS 9 0)))) 0 0 4 [(0, .ref (aT 0)), (1, .int x1_4), (2, .int x2_4), (3, .int x3_4)] [] (wSeat G aT (aS 0) (vT 1) (vT 2) (vT 3) (vT 4 0) (vT 5 0) (vT 6) (vT 7) (vT 8) ++ (wSch G aS (vS 0) (vS 1) (vS 2) (vS 3) (vS 4) (vS 5) (vS 6) (vS 7) (vS 8 0) (vS 9 0))) := by
    intro x1_4 n4
    induction n4 with
    | zero =>
      intro x2_4 x3_4 h
      exact (no_none rfl h).elim
    | succ n4 ih4 =>
      intro x2_4 x3_4 h
      replace h : f_X3_unplacedOf_b4 vT vS x1_4 (fun x2_4 x3_4 => f_X3_unplacedOf_L4 vT vS x1_4 n4 x2_4 x3_4) x2_4 x3_4 = some Rz := h
      unfold f_X3_unplacedOf_b4 at h
      refine J_iload_n (pc := 4) C 4 rfl 3 rfl rfl ?_
      refine J_aload_n (pc := 5) C 5 rfl 0 rfl rfl ?_
      refine J_get (pc := 6) (v := .ref (aS 0)) C 6 rfl TB_l3 rfl 0 0 rfl (by decide) k120 rfl rfl ?_
      refine J_get (pc := 9) (v := .int (vS 8 0)) C 7 rfl TB_l2 rfl 7 8 rfl (by decide) k154 rfl rfl ?_
      refine J_icmp_ge (pc := 12) (tgt := 33) C 8 rfl rfl (fun c1 => ?_) (fun c1 => ?_)
      · rw [if_pos c1] at h
        refine J_iload_n (pc := 33) C 17 rfl 2 rfl rfl ?_
        cases h
        exact J_iret (pc := 34) C 18 rfl
      · rw [if_neg c1] at h
        refine J_aload_n (pc := 15) C 9 rfl 0 rfl rfl ?_
        refine J_iload_n (pc := 16) C 10 rfl 3 rfl rfl ?_
        refine J_iload_n (pc := 17) C 11 rfl 1 rfl rfl ?_
        obtain ⟨q2, hq2, h⟩ := bnd h
        refine J_callV (pc := 18) (st2 := []) (st3 := [.int q2]) (ws2 := (wSeat G aT (aS 0) (vT 1) (vT 2) (vT 3) (vT 4 0) (vT 5 0) (vT 6) (vT 7) (vT 8) ++ (wSch G aS (vS 0) (vS 1) (vS 2) (vS 3) (vS 4) (vS 5) (vS 6) (vS 7) (vS 8 0) (vS 9 0)))) C 12 rfl (c_X3_isUnplaced aT aS vT vS x3_4 x1_4 hq2) V_X3_isUnplaced k174 i_X3_isUnplaced s_X3_isUnplaced rfl rfl ⟨Nat.le_of_ble_eq_true rfl, Nat.le_of_ble_eq_true rfl⟩ (Nat.le_of_ble_eq_true rfl) ⟨Nat.le_refl _, Nat.le_refl _⟩ 0 3 rfl rfl rfl (isC := [0, 1, 2, 3, 4, 5, 6, 7, 8, 9, 10, 11, 12, 13, 14, 15]) (isR := []) (N := 16) ⟨rfl, by decide +kernel, rfl, by decide +kernel, rfl, trivial⟩ rfl ?_
        refine J_if_eq (pc := 21) (tgt := 27) C 13 rfl rfl (fun c3 => ?_) (fun c3 => ?_)
        · rw [if_pos c3] at h
          refine J_iinc (pc := 27) (v := (x3_4 + (1 : Int32))) (lv' := [(3, .int (x3_4 + (1 : Int32))), (0, .ref (aT 0)), (1, .int x1_4), (2, .int x2_4)]) C 15 rfl 3 rfl rfl (by decide) rfl ?_
          refine J_goto (pc := 30) (tgt := 4) C 16 rfl rfl ?_
          exact J_sub [1, 2, 3, 0] rfl (ih4 x2_4 (x3_4 + (1 : Int32)) h)
        · rw [if_neg c3] at h
          refine J_iinc (pc := 24) (v := (x2_4 + (1 : Int32))) (lv' := [(2, .int (x2_4 + (1 : Int32))), (0, .ref (aT 0)), (1, .int x1_4), (3, .int x3_4)]) C 14 rfl 2 rfl rfl (by decide) rfl ?_
          refine J_iinc (pc := 27) (v := (x3_4 + (1 : Int32))) (lv' := [(3, .int (x3_4 + (1 : Int32))), (2, .int (x2_4 + (1 : Int32))), (0, .ref (aT 0)), (1, .int x1_4)]) C 15 rfl 3 rfl rfl (by decide) rfl ?_
          refine J_goto (pc := 30) (tgt := 4) C 16 rfl rfl ?_
          exact J_sub [2, 3, 1, 0] rfl (ih4 (x2_4 + (1 : Int32)) (x3_4 + (1 : Int32)) h)
  unfold f_X3_unplacedOf at h
  refine J_iconst (pc := 0) (v := (0 : Int32)) C 0 rfl rfl ?_
  refine J_istore_n (pc := 1) (lv' := [(2, .int (0 : Int32)), (0, .ref (aT 0)), (1, .int x1)]) C 1 rfl rfl (by decide) rfl ?_
  refine J_iconst (pc := 2) (v := (0 : Int32)) C 2 rfl rfl ?_
  refine J_istore_n (pc := 3) (lv' := [(3, .int (0 : Int32)), (2, .int (0 : Int32)), (0, .ref (aT 0)), (1, .int x1)]) C 3 rfl rfl (by decide) rfl ?_
  exact J_sub [2, 3, 1, 0] rfl (B4 x1 FU (0 : Int32) (0 : Int32) h)
def T_X3_hallsOf : List (Nat × ClassFile.Instr × Nat) := [(0, .iconst 0, 1), (1, .istore_n 2, 1), (2, .iconst 0, 1), (3, .istore_n 3, 1), (4, .iload_n 3, 1), (5, .aload_n 0, 1), (6, .getfield 12, 3), (9, .getfield 54, 3), (12, .if_icmp .ge 35, 3), (15, .aload_n 0, 1), (16, .getfield 18, 3), (19, .iload_n 3, 1), (20, .iload_n 1, 1), (21, .invokestatic 78, 3), (24, .iaload, 1), (25, .istore 4, 2), (27, .iload 4, 2), (29, .bipush (-6), 2), (31, .if_icmp .eq 10, 3), (34, .iload_n 2, 1), (35, .iconst 1, 1), (36, .iload 4, 2), (38, .ishl, 1), (39, .ior, 1), (40, .istore_n 2, 1), (41, .iinc 3 1, 3), (44, .goto (-40), 3), (47, .iload_n 2, 1), (48, .ireturn, 1)]
theorem D_X3_hallsOf : ∀ q ∈ T_X3_hallsOf, decode cX3_hallsOf q.1 = .ok q.2 := by decide +kernel
theorem V_X3_hallsOf : Vy yX3_hallsOf cX3_hallsOf 5 (some .int) 1 := ⟨k178, k138, by decide +kernel⟩
theorem i_X3_hallsOf : Cond.instanceMethod yX3_hallsOf ∈ TB := k284
theorem s_X3_hallsOf : Cond.selects yX3_hallsOf.cls yX3_hallsOf yX3_hallsOf ∈ TB := k285
noncomputable def f_X3_hallsOf_b4 (vT : JV) (vS : JV) (x1_4 : Int32) (r4 : Int32 → Int32 → Option (Int32)) (x2_4 : Int32) (x3_4 : Int32) : Option (Int32) :=
  (if (vS 8 0) ≤ x3_4 then some x2_4 else (f_X4_sittingNumber x3_4 x1_4).bind (fun q2 => gd (inb q2 96) ((if ((vT 1) (Int32.toNatClampNeg q2)) = (-6 : Int32) then r4 x2_4 (x3_4 + (1 : Int32)) else r4 (x2_4 ||| ((1 : Int32) <<< (((vT 1) (Int32.toNatClampNeg q2)) &&& 31))) (x3_4 + (1 : Int32))))))
noncomputable def f_X3_hallsOf_L4 (vT : JV) (vS : JV) (x1_4 : Int32) (n : Nat) (x2_4 : Int32) (x3_4 : Int32) : Option (Int32) :=
  lp (fun (rec : Int32 × Int32 → Option (Int32)) a => f_X3_hallsOf_b4 vT vS x1_4 (fun x2_4 x3_4 => rec (x2_4, x3_4)) a.1 a.2) n (x2_4, x3_4)
noncomputable def f_X3_hallsOf (vT : JV) (vS : JV) (x1 : Int32) : Option (Int32) :=
  f_X3_hallsOf_L4 vT vS x1 FU (0 : Int32) (0 : Int32)
set_option maxRecDepth 100000 in
set_option maxHeartbeats 4000000 in
theorem c_X3_hallsOf {l : Launch} {G : JG} (aT : Nat → Nat) (aS : Nat → Nat) (vT : JV) (vS : JV) (x1 : Int32) {Rz : Int32} (h : f_X3_hallsOf vT vS x1 = some Rz) : JM l G yX3_hallsOf cX3_hallsOf 5 (some .int) 1 21 [.ref (aT 0), .int x1] (wSeat G aT (aS 0) (vT 1) (vT 2) (vT 3) (vT 4 0) (vT 5 0) (vT 6) (vT 7) (vT 8) ++ (wSch G aS (vS 0) (vS 1) (vS 2) (vS 3) (vS 4) (vS 5) (vS 6) (vS 7) (vS 8 0) (vS 9 0))) (wSeat G aT (aS 0) (vT 1) (vT 2) (vT 3) (vT 4 0) (vT 5 0) (vT 6) (vT 7) (vT 8) ++ (wSch G aS (vS 0) (vS 1) (vS 2) (vS 3) (vS 4) (vS 5) (vS 6) (vS 7) (vS 8 0) (vS 9 0))) (some (.int Rz)) := by
  refine JM.of (own := RX3) (tb := T_X3_hallsOf) (by decide) (Nat.le_of_ble_eq_true rfl) D_X3_hallsOf rfl (fun X C => ?_)
  refine J_sub (lv' := [(0, .ref (aT 0)), (1, .int x1)]) [0, 1] rfl ?_
  have B4 : ∀ (x1_4 : Int32) (n4 : Nat) (x2_4 : Int32) (x3_4 : Int32), f_X3_hallsOf_L4 vT vS x1_4 n4 x2_4 x3_4 = some Rz → J l { frames := 1, cells := 0, slots := 0, locals := 21 } G 5 X (QM X G 0 0 (some (.int Rz)) (wSeat G aT (aS 0) (vT 1) (vT 2) (vT 3) (vT 4 0) (vT 5 0) (vT 6) (vT 7) (vT 8) ++ (wSch G aS (vS 0) (vS 1) (vS 2) (vS 3) (vS 4) (vS 5) (vS 6) (vS 7) (vS 8 0) (vS 9 0)))) 0 0 4 [(0, .ref (aT 0)), (1, .int x1_4), (2, .int x2_4), (3, .int x3_4)] [] (wSeat G aT (aS 0) (vT 1) (vT 2) (vT 3) (vT 4 0) (vT 5 0) (vT 6) (vT 7) (vT 8) ++ (wSch G aS (vS 0) (vS 1) (vS 2) (vS 3) (vS 4) (vS 5) (vS 6) (vS 7) (vS 8 0) (vS 9 0))) := by
    intro x1_4 n4
    induction n4 with
    | zero =>
      intro x2_4 x3_4 h
      exact (no_none rfl h).elim
    | succ n4 ih4 =>
      intro x2_4 x3_4 h
      replace h : f_X3_hallsOf_b4 vT vS x1_4 (fun x2_4 x3_4 => f_X3_hallsOf_L4 vT vS x1_4 n4 x2_4 x3_4) x2_4 x3_4 = some Rz := h
      unfold f_X3_hallsOf_b4 at h
      refine J_iload_n (pc := 4) C 4 rfl 3 rfl rfl ?_
      refine J_aload_n (pc := 5) C 5 rfl 0 rfl rfl ?_
      refine J_get (pc := 6) (v := .ref (aS 0)) C 6 rfl TB_l3 rfl 0 0 rfl (by decide) k120 rfl rfl ?_
      refine J_get (pc := 9) (v := .int (vS 8 0)) C 7 rfl TB_l2 rfl 7 8 rfl (by decide) k154 rfl rfl ?_
      refine J_icmp_ge (pc := 12) (tgt := 47) C 8 rfl rfl (fun c1 => ?_) (fun c1 => ?_)
      · rw [if_pos c1] at h
        refine J_iload_n (pc := 47) C 27 rfl 2 rfl rfl ?_
        cases h
        exact J_iret (pc := 48) C 28 rfl
      · rw [if_neg c1] at h
        refine J_aload_n (pc := 15) C 9 rfl 0 rfl rfl ?_
        refine J_get (pc := 16) (v := .ref (aT 1)) C 10 rfl TB_l3 rfl 0 1 rfl (by decide) k121 rfl rfl ?_
        refine J_iload_n (pc := 19) C 11 rfl 3 rfl rfl ?_
        refine J_iload_n (pc := 20) C 12 rfl 1 rfl rfl ?_
        obtain ⟨q2, hq2, h⟩ := bnd h
        refine J_callSN (pc := 21) (st2 := [.ref (aT 1)]) (st3 := [.int q2, .ref (aT 1)]) (ws2 := (wSeat G aT (aS 0) (vT 1) (vT 2) (vT 3) (vT 4 0) (vT 5 0) (vT 6) (vT 7) (vT 8) ++ (wSch G aS (vS 0) (vS 1) (vS 2) (vS 3) (vS 4) (vS 5) (vS 6) (vS 7) (vS 8 0) (vS 9 0)))) C 13 rfl (c_X4_sittingNumber x3_4 x1_4 hq2) V_X4_sittingNumber (List.mem_of_getElem? (i := 6) rfl) t_X4_sittingNumber rfl rfl ⟨Nat.le_of_ble_eq_true rfl, Nat.le_of_ble_eq_true rfl⟩ (Nat.le_of_ble_eq_true rfl) ⟨Nat.le_refl _, Nat.le_refl _⟩ (isC := []) (isR := [0, 1, 2, 3, 4, 5, 6, 7, 8, 9, 10, 11, 12, 13, 14, 15]) (N := 16) ⟨rfl, by decide +kernel, rfl, by decide +kernel, rfl, ⟨⟨_, rfl, rfl⟩, ⟨⟨_, rfl, rfl⟩, ⟨⟨_, rfl, rfl⟩, ⟨⟨_, rfl, rfl⟩, ⟨⟨_, rfl, rfl⟩, ⟨⟨_, rfl, rfl⟩, ⟨⟨_, rfl, rfl⟩, ⟨⟨_, rfl, rfl⟩, ⟨⟨_, rfl, rfl⟩, ⟨⟨_, rfl, rfl⟩, ⟨⟨_, rfl, rfl⟩, ⟨⟨_, rfl, rfl⟩, ⟨⟨_, rfl, rfl⟩, ⟨⟨_, rfl, rfl⟩, ⟨⟨_, rfl, rfl⟩, ⟨⟨_, rfl, rfl⟩, trivial⟩⟩⟩⟩⟩⟩⟩⟩⟩⟩⟩⟩⟩⟩⟩⟩⟩ rfl ?_
        obtain ⟨g3, h⟩ := gd_some h
        refine J_iald (pc := 24) (f := (vT 1)) (v := ((vT 1) (Int32.toNatClampNeg q2))) C 14 rfl 1 rfl g3 rfl ?_
        refine J_istore (pc := 25) (lv' := [(4, .int ((vT 1) (Int32.toNatClampNeg q2))), (0, .ref (aT 0)), (1, .int x1_4), (2, .int x2_4), (3, .int x3_4)]) C 15 rfl (by decide) rfl ?_
        refine J_iload (pc := 27) C 16 rfl 0 rfl ?_
        refine J_bipush (pc := 29) (v := (-6 : Int32)) C 17 rfl rfl ?_
        refine J_icmp_eq (pc := 31) (tgt := 41) C 18 rfl rfl (fun c4 => ?_) (fun c4 => ?_)
        · rw [if_pos c4] at h
          refine J_iinc (pc := 41) (v := (x3_4 + (1 : Int32))) (lv' := [(3, .int (x3_4 + (1 : Int32))), (4, .int ((vT 1) (Int32.toNatClampNeg q2))), (0, .ref (aT 0)), (1, .int x1_4), (2, .int x2_4)]) C 25 rfl 4 rfl rfl (by decide) rfl ?_
          refine J_goto (pc := 44) (tgt := 4) C 26 rfl rfl ?_
          exact J_sub [2, 3, 4, 0] rfl (ih4 x2_4 (x3_4 + (1 : Int32)) h)
        · rw [if_neg c4] at h
          refine J_iload_n (pc := 34) C 19 rfl 3 rfl rfl ?_
          refine J_iconst (pc := 35) (v := (1 : Int32)) C 20 rfl rfl ?_
          refine J_iload (pc := 36) C 21 rfl 0 rfl ?_
          refine J_ishl (pc := 38) C 22 rfl  ?_
          refine J_ior (pc := 39) C 23 rfl  ?_
          refine J_istore_n (pc := 40) (lv' := [(2, .int (x2_4 ||| ((1 : Int32) <<< (((vT 1) (Int32.toNatClampNeg q2)) &&& 31)))), (4, .int ((vT 1) (Int32.toNatClampNeg q2))), (0, .ref (aT 0)), (1, .int x1_4), (3, .int x3_4)]) C 24 rfl rfl (by decide) rfl ?_
          refine J_iinc (pc := 41) (v := (x3_4 + (1 : Int32))) (lv' := [(3, .int (x3_4 + (1 : Int32))), (2, .int (x2_4 ||| ((1 : Int32) <<< (((vT 1) (Int32.toNatClampNeg q2)) &&& 31)))), (4, .int ((vT 1) (Int32.toNatClampNeg q2))), (0, .ref (aT 0)), (1, .int x1_4)]) C 25 rfl 4 rfl rfl (by decide) rfl ?_
          refine J_goto (pc := 44) (tgt := 4) C 26 rfl rfl ?_
          exact J_sub [3, 4, 1, 0] rfl (ih4 (x2_4 ||| ((1 : Int32) <<< (((vT 1) (Int32.toNatClampNeg q2)) &&& 31))) (x3_4 + (1 : Int32)) h)
  unfold f_X3_hallsOf at h
  refine J_iconst (pc := 0) (v := (0 : Int32)) C 0 rfl rfl ?_
  refine J_istore_n (pc := 1) (lv' := [(2, .int (0 : Int32)), (0, .ref (aT 0)), (1, .int x1)]) C 1 rfl rfl (by decide) rfl ?_
  refine J_iconst (pc := 2) (v := (0 : Int32)) C 2 rfl rfl ?_
  refine J_istore_n (pc := 3) (lv' := [(3, .int (0 : Int32)), (2, .int (0 : Int32)), (0, .ref (aT 0)), (1, .int x1)]) C 3 rfl rfl (by decide) rfl ?_
  exact J_sub [2, 3, 1, 0] rfl (B4 x1 FU (0 : Int32) (0 : Int32) h)
def T_X3_seatedIn : List (Nat × ClassFile.Instr × Nat) := [(0, .iconst 0, 1), (1, .istore_n 2, 1), (2, .iconst 0, 1), (3, .istore_n 3, 1), (4, .iload_n 3, 1), (5, .bipush 96, 2), (7, .if_icmp .ge 22, 3), (10, .aload_n 0, 1), (11, .getfield 18, 3), (14, .iload_n 3, 1), (15, .iaload, 1), (16, .iload_n 1, 1), (17, .if_icmp .ne 6, 3), (20, .iinc 2 1, 3), (23, .iinc 3 1, 3), (26, .goto (-22), 3), (29, .iload_n 2, 1), (30, .ireturn, 1)]
theorem D_X3_seatedIn : ∀ q ∈ T_X3_seatedIn, decode cX3_seatedIn q.1 = .ok q.2 := by decide +kernel
theorem V_X3_seatedIn : Vy yX3_seatedIn cX3_seatedIn 4 (some .int) 1 := ⟨k179, k138, by decide +kernel⟩
theorem i_X3_seatedIn : Cond.instanceMethod yX3_seatedIn ∈ TB := k297
theorem s_X3_seatedIn : Cond.selects yX3_seatedIn.cls yX3_seatedIn yX3_seatedIn ∈ TB := k298
noncomputable def f_X3_seatedIn_b4 (vT : JV) (x1_4 : Int32) (r4 : Int32 → Int32 → Option (Int32)) (x2_4 : Int32) (x3_4 : Int32) : Option (Int32) :=
  (if (96 : Int32) ≤ x3_4 then some x2_4 else gd (inb x3_4 96) ((if ((vT 1) (Int32.toNatClampNeg x3_4)) = x1_4 then r4 (x2_4 + (1 : Int32)) (x3_4 + (1 : Int32)) else r4 x2_4 (x3_4 + (1 : Int32)))))
noncomputable def f_X3_seatedIn_L4 (vT : JV) (x1_4 : Int32) (n : Nat) (x2_4 : Int32) (x3_4 : Int32) : Option (Int32) :=
  lp (fun (rec : Int32 × Int32 → Option (Int32)) a => f_X3_seatedIn_b4 vT x1_4 (fun x2_4 x3_4 => rec (x2_4, x3_4)) a.1 a.2) n (x2_4, x3_4)
noncomputable def f_X3_seatedIn (vT : JV) (x1 : Int32) : Option (Int32) :=
  f_X3_seatedIn_L4 vT x1 FU (0 : Int32) (0 : Int32)
set_option maxRecDepth 100000 in
set_option maxHeartbeats 4000000 in
theorem c_X3_seatedIn {l : Launch} {G : JG} (aT : Nat → Nat) (aS : Nat → Nat) (vT : JV) (x1 : Int32) {Rz : Int32} (h : f_X3_seatedIn vT x1 = some Rz) : JM l G yX3_seatedIn cX3_seatedIn 4 (some .int) 0 0 [.ref (aT 0), .int x1] (wSeat G aT (aS 0) (vT 1) (vT 2) (vT 3) (vT 4 0) (vT 5 0) (vT 6) (vT 7) (vT 8)) (wSeat G aT (aS 0) (vT 1) (vT 2) (vT 3) (vT 4 0) (vT 5 0) (vT 6) (vT 7) (vT 8)) (some (.int Rz)) := by
  refine JM.of (own := RX3) (tb := T_X3_seatedIn) (by decide) (Nat.le_of_ble_eq_true rfl) D_X3_seatedIn rfl (fun X C => ?_)
  refine J_sub (lv' := [(0, .ref (aT 0)), (1, .int x1)]) [0, 1] rfl ?_
  have B4 : ∀ (x1_4 : Int32) (n4 : Nat) (x2_4 : Int32) (x3_4 : Int32), f_X3_seatedIn_L4 vT x1_4 n4 x2_4 x3_4 = some Rz → J l { frames := 0, cells := 0, slots := 0, locals := 0 } G 4 X (QM X G 0 0 (some (.int Rz)) (wSeat G aT (aS 0) (vT 1) (vT 2) (vT 3) (vT 4 0) (vT 5 0) (vT 6) (vT 7) (vT 8))) 0 0 4 [(0, .ref (aT 0)), (1, .int x1_4), (2, .int x2_4), (3, .int x3_4)] [] (wSeat G aT (aS 0) (vT 1) (vT 2) (vT 3) (vT 4 0) (vT 5 0) (vT 6) (vT 7) (vT 8)) := by
    intro x1_4 n4
    induction n4 with
    | zero =>
      intro x2_4 x3_4 h
      exact (no_none rfl h).elim
    | succ n4 ih4 =>
      intro x2_4 x3_4 h
      replace h : f_X3_seatedIn_b4 vT x1_4 (fun x2_4 x3_4 => f_X3_seatedIn_L4 vT x1_4 n4 x2_4 x3_4) x2_4 x3_4 = some Rz := h
      unfold f_X3_seatedIn_b4 at h
      refine J_iload_n (pc := 4) C 4 rfl 3 rfl rfl ?_
      refine J_bipush (pc := 5) (v := (96 : Int32)) C 5 rfl rfl ?_
      refine J_icmp_ge (pc := 7) (tgt := 29) C 6 rfl rfl (fun c1 => ?_) (fun c1 => ?_)
      · rw [if_pos c1] at h
        refine J_iload_n (pc := 29) C 16 rfl 2 rfl rfl ?_
        cases h
        exact J_iret (pc := 30) C 17 rfl
      · rw [if_neg c1] at h
        refine J_aload_n (pc := 10) C 7 rfl 0 rfl rfl ?_
        refine J_get (pc := 11) (v := .ref (aT 1)) C 8 rfl TB_l3 rfl 0 1 rfl (by decide) k121 rfl rfl ?_
        refine J_iload_n (pc := 14) C 9 rfl 3 rfl rfl ?_
        obtain ⟨g2, h⟩ := gd_some h
        refine J_iald (pc := 15) (f := (vT 1)) (v := ((vT 1) (Int32.toNatClampNeg x3_4))) C 10 rfl 1 rfl g2 rfl ?_
        refine J_iload_n (pc := 16) C 11 rfl 1 rfl rfl ?_
        refine J_icmp_ne (pc := 17) (tgt := 23) C 12 rfl rfl (fun c3 => ?_) (fun c3 => ?_)
        · rw [if_neg c3] at h
          refine J_iinc (pc := 23) (v := (x3_4 + (1 : Int32))) (lv' := [(3, .int (x3_4 + (1 : Int32))), (0, .ref (aT 0)), (1, .int x1_4), (2, .int x2_4)]) C 14 rfl 3 rfl rfl (by decide) rfl ?_
          refine J_goto (pc := 26) (tgt := 4) C 15 rfl rfl ?_
          exact J_sub [1, 2, 3, 0] rfl (ih4 x2_4 (x3_4 + (1 : Int32)) h)
        · rw [if_pos c3] at h
          refine J_iinc (pc := 20) (v := (x2_4 + (1 : Int32))) (lv' := [(2, .int (x2_4 + (1 : Int32))), (0, .ref (aT 0)), (1, .int x1_4), (3, .int x3_4)]) C 13 rfl 2 rfl rfl (by decide) rfl ?_
          refine J_iinc (pc := 23) (v := (x3_4 + (1 : Int32))) (lv' := [(3, .int (x3_4 + (1 : Int32))), (2, .int (x2_4 + (1 : Int32))), (0, .ref (aT 0)), (1, .int x1_4)]) C 14 rfl 3 rfl rfl (by decide) rfl ?_
          refine J_goto (pc := 26) (tgt := 4) C 15 rfl rfl ?_
          exact J_sub [2, 3, 1, 0] rfl (ih4 (x2_4 + (1 : Int32)) (x3_4 + (1 : Int32)) h)
  unfold f_X3_seatedIn at h
  refine J_iconst (pc := 0) (v := (0 : Int32)) C 0 rfl rfl ?_
  refine J_istore_n (pc := 1) (lv' := [(2, .int (0 : Int32)), (0, .ref (aT 0)), (1, .int x1)]) C 1 rfl rfl (by decide) rfl ?_
  refine J_iconst (pc := 2) (v := (0 : Int32)) C 2 rfl rfl ?_
  refine J_istore_n (pc := 3) (lv' := [(3, .int (0 : Int32)), (2, .int (0 : Int32)), (0, .ref (aT 0)), (1, .int x1)]) C 3 rfl rfl (by decide) rfl ?_
  exact J_sub [2, 3, 1, 0] rfl (B4 x1 FU (0 : Int32) (0 : Int32) h)
def T_X3_isNow : List (Nat × ClassFile.Instr × Nat) := [(0, .aload_n 0, 1), (1, .getfield 12, 3), (4, .iload_n 1, 1), (5, .bipush 6, 2), (7, .idiv, 1), (8, .iload_n 1, 1), (9, .bipush 6, 2), (11, .irem, 1), (12, .iload_n 2, 1), (13, .invokevirtual 123, 3), (16, .ireturn, 1)]
theorem D_X3_isNow : ∀ q ∈ T_X3_isNow, decode cX3_isNow q.1 = .ok q.2 := by decide +kernel
theorem V_X3_isNow : Vy yX3_isNow cX3_isNow 3 (some .boolean) 2 := ⟨k180, k138, by decide +kernel⟩
theorem i_X3_isNow : Cond.instanceMethod yX3_isNow ∈ TB := k183
theorem s_X3_isNow : Cond.selects yX3_isNow.cls yX3_isNow yX3_isNow ∈ TB := k184
noncomputable def f_X3_isNow (vT : JV) (vS : JV) (x1 : Int32) (x2 : Int32) : Option (Int32) :=
  (f_X2_isSatAt vS (x1 / (6 : Int32)) (x1 - x1 / (6 : Int32) * (6 : Int32)) x2).bind (fun q1 => gd (isb q1) (some q1))
set_option maxRecDepth 100000 in
set_option maxHeartbeats 4000000 in
theorem c_X3_isNow {l : Launch} {G : JG} (aT : Nat → Nat) (aS : Nat → Nat) (vT : JV) (vS : JV) (x1 : Int32) (x2 : Int32) {Rz : Int32} (h : f_X3_isNow vT vS x1 x2 = some Rz) : JM l G yX3_isNow cX3_isNow 3 (some .boolean) 3 67 [.ref (aT 0), .int x1, .int x2] (wSeat G aT (aS 0) (vT 1) (vT 2) (vT 3) (vT 4 0) (vT 5 0) (vT 6) (vT 7) (vT 8) ++ (wSch G aS (vS 0) (vS 1) (vS 2) (vS 3) (vS 4) (vS 5) (vS 6) (vS 7) (vS 8 0) (vS 9 0))) (wSeat G aT (aS 0) (vT 1) (vT 2) (vT 3) (vT 4 0) (vT 5 0) (vT 6) (vT 7) (vT 8) ++ (wSch G aS (vS 0) (vS 1) (vS 2) (vS 3) (vS 4) (vS 5) (vS 6) (vS 7) (vS 8 0) (vS 9 0))) (some (.int Rz)) := by
  refine JM.of (own := RX3) (tb := T_X3_isNow) (by decide) (Nat.le_of_ble_eq_true rfl) D_X3_isNow rfl (fun X C => ?_)
  refine J_sub (lv' := [(0, .ref (aT 0)), (1, .int x1), (2, .int x2)]) [0, 1, 2] rfl ?_
  unfold f_X3_isNow at h
  refine J_aload_n (pc := 0) C 0 rfl 0 rfl rfl ?_
  refine J_get (pc := 1) (v := .ref (aS 0)) C 1 rfl TB_l3 rfl 0 0 rfl (by decide) k120 rfl rfl ?_
  refine J_iload_n (pc := 4) C 2 rfl 1 rfl rfl ?_
  refine J_bipush (pc := 5) (v := (6 : Int32)) C 3 rfl rfl ?_
  refine J_idiv (pc := 7) C 4 rfl (by decide) ?_
  refine J_iload_n (pc := 8) C 5 rfl 1 rfl rfl ?_
  refine J_bipush (pc := 9) (v := (6 : Int32)) C 6 rfl rfl ?_
  refine J_irem (pc := 11) C 7 rfl (by decide) ?_
  refine J_iload_n (pc := 12) C 8 rfl 2 rfl rfl ?_
  obtain ⟨q1, hq1, h⟩ := bnd h
  refine J_callV (pc := 13) (st2 := []) (st3 := [.int q1]) (ws2 := (wSeat G aT (aS 0) (vT 1) (vT 2) (vT 3) (vT 4 0) (vT 5 0) (vT 6) (vT 7) (vT 8) ++ (wSch G aS (vS 0) (vS 1) (vS 2) (vS 3) (vS 4) (vS 5) (vS 6) (vS 7) (vS 8 0) (vS 9 0)))) C 9 rfl (c_X2_isSatAt aS vS (x1 / (6 : Int32)) (x1 - x1 / (6 : Int32) * (6 : Int32)) x2 hq1) V_X2_isSatAt k181 i_X2_isSatAt s_X2_isSatAt rfl rfl ⟨Nat.le_of_ble_eq_true rfl, Nat.le_of_ble_eq_true rfl⟩ (Nat.le_of_ble_eq_true rfl) ⟨Nat.le_refl _, Nat.le_refl _⟩ 7 2 rfl rfl rfl (isC := [7, 8, 9, 10, 11, 12, 13, 14, 15]) (isR := [0, 1, 2, 3, 4, 5, 6]) (N := 16) ⟨rfl, by decide +kernel, rfl, by decide +kernel, rfl, ⟨⟨_, rfl, rfl⟩, ⟨⟨_, rfl, rfl⟩, ⟨⟨_, rfl, rfl⟩, ⟨⟨_, rfl, rfl⟩, ⟨⟨_, rfl, rfl⟩, ⟨⟨_, rfl, rfl⟩, ⟨⟨_, rfl, rfl⟩, trivial⟩⟩⟩⟩⟩⟩⟩⟩ rfl ?_
  obtain ⟨g2, h⟩ := gd_some h
  cases h
  exact J_zret (pc := 16) C 10 rfl g2
def T_X3_takenIn : List (Nat × ClassFile.Instr × Nat) := [(0, .iconst 0, 1), (1, .istore_n 3, 1), (2, .iconst 0, 1), (3, .istore 4, 2), (5, .iload 4, 2), (7, .bipush 96, 2), (9, .if_icmp .ge 33, 3), (12, .aload_n 0, 1), (13, .getfield 18, 3), (16, .iload 4, 2), (18, .iaload, 1), (19, .iload_n 1, 1), (20, .if_icmp .ne 16, 3), (23, .aload_n 0, 1), (24, .iload 4, 2), (26, .iload_n 2, 1), (27, .invokevirtual 120, 3), (30, .ifCond .eq 6, 3), (33, .iinc 3 1, 3), (36, .iinc 4 1, 3), (39, .goto (-34), 3), (42, .iload_n 3, 1), (43, .ireturn, 1)]
theorem D_X3_takenIn : ∀ q ∈ T_X3_takenIn, decode cX3_takenIn q.1 = .ok q.2 := by decide +kernel
theorem V_X3_takenIn : Vy yX3_takenIn cX3_takenIn 5 (some .int) 2 := ⟨k185, k138, by decide +kernel⟩
theorem i_X3_takenIn : Cond.instanceMethod yX3_takenIn ∈ TB := k188
theorem s_X3_takenIn : Cond.selects yX3_takenIn.cls yX3_takenIn yX3_takenIn ∈ TB := k189
noncomputable def f_X3_takenIn_b5 (vT : JV) (vS : JV) (x1_5 : Int32) (x2_5 : Int32) (r5 : Int32 → Int32 → Option (Int32)) (x3_5 : Int32) (x4_5 : Int32) : Option (Int32) :=
  (if (96 : Int32) ≤ x4_5 then some x3_5 else gd (inb x4_5 96) ((if ((vT 1) (Int32.toNatClampNeg x4_5)) = x1_5 then (f_X3_isNow vT vS x4_5 x2_5).bind (fun q4 => (if q4 = 0 then r5 x3_5 (x4_5 + (1 : Int32)) else r5 (x3_5 + (1 : Int32)) (x4_5 + (1 : Int32)))) else r5 x3_5 (x4_5 + (1 : Int32)))))
noncomputable def f_X3_takenIn_L5 (vT : JV) (vS : JV) (x1_5 : Int32) (x2_5 : Int32) (n : Nat) (x3_5 : Int32) (x4_5 : Int32) : Option (Int32) :=
  lp (fun (rec : Int32 × Int32 → Option (Int32)) a => f_X3_takenIn_b5 vT vS x1_5 x2_5 (fun x3_5 x4_5 => rec (x3_5, x4_5)) a.1 a.2) n (x3_5, x4_5)
noncomputable def f_X3_takenIn (vT : JV) (vS : JV) (x1 : Int32) (x2 : Int32) : Option (Int32) :=
  f_X3_takenIn_L5 vT vS x1 x2 FU (0 : Int32) (0 : Int32)
set_option maxRecDepth 100000 in
set_option maxHeartbeats 4000000 in
theorem c_X3_takenIn {l : Launch} {G : JG} (aT : Nat → Nat) (aS : Nat → Nat) (vT : JV) (vS : JV) (x1 : Int32) (x2 : Int32) {Rz : Int32} (h : f_X3_takenIn vT vS x1 x2 = some Rz) : JM l G yX3_takenIn cX3_takenIn 5 (some .int) 4 89 [.ref (aT 0), .int x1, .int x2] (wSeat G aT (aS 0) (vT 1) (vT 2) (vT 3) (vT 4 0) (vT 5 0) (vT 6) (vT 7) (vT 8) ++ (wSch G aS (vS 0) (vS 1) (vS 2) (vS 3) (vS 4) (vS 5) (vS 6) (vS 7) (vS 8 0) (vS 9 0))) (wSeat G aT (aS 0) (vT 1) (vT 2) (vT 3) (vT 4 0) (vT 5 0) (vT 6) (vT 7) (vT 8) ++ (wSch G aS (vS 0) (vS 1) (vS 2) (vS 3) (vS 4) (vS 5) (vS 6) (vS 7) (vS 8 0) (vS 9 0))) (some (.int Rz)) := by
  refine JM.of (own := RX3) (tb := T_X3_takenIn) (by decide) (Nat.le_of_ble_eq_true rfl) D_X3_takenIn rfl (fun X C => ?_)
  refine J_sub (lv' := [(0, .ref (aT 0)), (1, .int x1), (2, .int x2)]) [0, 1, 2] rfl ?_
  have B5 : ∀ (x1_5 : Int32) (x2_5 : Int32) (n5 : Nat) (x3_5 : Int32) (x4_5 : Int32), f_X3_takenIn_L5 vT vS x1_5 x2_5 n5 x3_5 x4_5 = some Rz → J l { frames := 4, cells := 0, slots := 0, locals := 89 } G 5 X (QM X G 0 0 (some (.int Rz)) (wSeat G aT (aS 0) (vT 1) (vT 2) (vT 3) (vT 4 0) (vT 5 0) (vT 6) (vT 7) (vT 8) ++ (wSch G aS (vS 0) (vS 1) (vS 2) (vS 3) (vS 4) (vS 5) (vS 6) (vS 7) (vS 8 0) (vS 9 0)))) 0 0 5 [(0, .ref (aT 0)), (1, .int x1_5), (2, .int x2_5), (3, .int x3_5), (4, .int x4_5)] [] (wSeat G aT (aS 0) (vT 1) (vT 2) (vT 3) (vT 4 0) (vT 5 0) (vT 6) (vT 7) (vT 8) ++ (wSch G aS (vS 0) (vS 1) (vS 2) (vS 3) (vS 4) (vS 5) (vS 6) (vS 7) (vS 8 0) (vS 9 0))) := by
    intro x1_5 x2_5 n5
    induction n5 with
    | zero =>
      intro x3_5 x4_5 h
      exact (no_none rfl h).elim
    | succ n5 ih5 =>
      intro x3_5 x4_5 h
      replace h : f_X3_takenIn_b5 vT vS x1_5 x2_5 (fun x3_5 x4_5 => f_X3_takenIn_L5 vT vS x1_5 x2_5 n5 x3_5 x4_5) x3_5 x4_5 = some Rz := h
      unfold f_X3_takenIn_b5 at h
      refine J_iload (pc := 5) C 4 rfl 4 rfl ?_
      refine J_bipush (pc := 7) (v := (96 : Int32)) C 5 rfl rfl ?_
      refine J_icmp_ge (pc := 9) (tgt := 42) C 6 rfl rfl (fun c1 => ?_) (fun c1 => ?_)
      · rw [if_pos c1] at h
        refine J_iload_n (pc := 42) C 21 rfl 3 rfl rfl ?_
        cases h
        exact J_iret (pc := 43) C 22 rfl
      · rw [if_neg c1] at h
        refine J_aload_n (pc := 12) C 7 rfl 0 rfl rfl ?_
        refine J_get (pc := 13) (v := .ref (aT 1)) C 8 rfl TB_l3 rfl 0 1 rfl (by decide) k121 rfl rfl ?_
        refine J_iload (pc := 16) C 9 rfl 4 rfl ?_
        obtain ⟨g2, h⟩ := gd_some h
        refine J_iald (pc := 18) (f := (vT 1)) (v := ((vT 1) (Int32.toNatClampNeg x4_5))) C 10 rfl 1 rfl g2 rfl ?_
        refine J_iload_n (pc := 19) C 11 rfl 1 rfl rfl ?_
        refine J_icmp_ne (pc := 20) (tgt := 36) C 12 rfl rfl (fun c3 => ?_) (fun c3 => ?_)
        · rw [if_neg c3] at h
          refine J_iinc (pc := 36) (v := (x4_5 + (1 : Int32))) (lv' := [(4, .int (x4_5 + (1 : Int32))), (0, .ref (aT 0)), (1, .int x1_5), (2, .int x2_5), (3, .int x3_5)]) C 19 rfl 4 rfl rfl (by decide) rfl ?_
          refine J_goto (pc := 39) (tgt := 5) C 20 rfl rfl ?_
          exact J_sub [1, 2, 3, 4, 0] rfl (ih5 x3_5 (x4_5 + (1 : Int32)) h)
        · rw [if_pos c3] at h
          refine J_aload_n (pc := 23) C 13 rfl 0 rfl rfl ?_
          refine J_iload (pc := 24) C 14 rfl 4 rfl ?_
          refine J_iload_n (pc := 26) C 15 rfl 2 rfl rfl ?_
          obtain ⟨q4, hq4, h⟩ := bnd h
          refine J_callV (pc := 27) (st2 := []) (st3 := [.int q4]) (ws2 := (wSeat G aT (aS 0) (vT 1) (vT 2) (vT 3) (vT 4 0) (vT 5 0) (vT 6) (vT 7) (vT 8) ++ (wSch G aS (vS 0) (vS 1) (vS 2) (vS 3) (vS 4) (vS 5) (vS 6) (vS 7) (vS 8 0) (vS 9 0)))) C 16 rfl (c_X3_isNow aT aS vT vS x4_5 x2_5 hq4) V_X3_isNow k182 i_X3_isNow s_X3_isNow rfl rfl ⟨Nat.le_of_ble_eq_true rfl, Nat.le_of_ble_eq_true rfl⟩ (Nat.le_of_ble_eq_true rfl) ⟨Nat.le_refl _, Nat.le_refl _⟩ 0 3 rfl rfl rfl (isC := [0, 1, 2, 3, 4, 5, 6, 7, 8, 9, 10, 11, 12, 13, 14, 15]) (isR := []) (N := 16) ⟨rfl, by decide +kernel, rfl, by decide +kernel, rfl, trivial⟩ rfl ?_
          refine J_if_eq (pc := 30) (tgt := 36) C 17 rfl rfl (fun c5 => ?_) (fun c5 => ?_)
          · rw [if_pos c5] at h
            refine J_iinc (pc := 36) (v := (x4_5 + (1 : Int32))) (lv' := [(4, .int (x4_5 + (1 : Int32))), (0, .ref (aT 0)), (1, .int x1_5), (2, .int x2_5), (3, .int x3_5)]) C 19 rfl 4 rfl rfl (by decide) rfl ?_
            refine J_goto (pc := 39) (tgt := 5) C 20 rfl rfl ?_
            exact J_sub [1, 2, 3, 4, 0] rfl (ih5 x3_5 (x4_5 + (1 : Int32)) h)
          · rw [if_neg c5] at h
            refine J_iinc (pc := 33) (v := (x3_5 + (1 : Int32))) (lv' := [(3, .int (x3_5 + (1 : Int32))), (0, .ref (aT 0)), (1, .int x1_5), (2, .int x2_5), (4, .int x4_5)]) C 18 rfl 3 rfl rfl (by decide) rfl ?_
            refine J_iinc (pc := 36) (v := (x4_5 + (1 : Int32))) (lv' := [(4, .int (x4_5 + (1 : Int32))), (3, .int (x3_5 + (1 : Int32))), (0, .ref (aT 0)), (1, .int x1_5), (2, .int x2_5)]) C 19 rfl 4 rfl rfl (by decide) rfl ?_
            refine J_goto (pc := 39) (tgt := 5) C 20 rfl rfl ?_
            exact J_sub [2, 3, 4, 1, 0] rfl (ih5 (x3_5 + (1 : Int32)) (x4_5 + (1 : Int32)) h)
  unfold f_X3_takenIn at h
  refine J_iconst (pc := 0) (v := (0 : Int32)) C 0 rfl rfl ?_
  refine J_istore_n (pc := 1) (lv' := [(3, .int (0 : Int32)), (0, .ref (aT 0)), (1, .int x1), (2, .int x2)]) C 1 rfl rfl (by decide) rfl ?_
  refine J_iconst (pc := 2) (v := (0 : Int32)) C 2 rfl rfl ?_
  refine J_istore (pc := 3) (lv' := [(4, .int (0 : Int32)), (3, .int (0 : Int32)), (0, .ref (aT 0)), (1, .int x1), (2, .int x2)]) C 3 rfl (by decide) rfl ?_
  exact J_sub [2, 3, 4, 1, 0] rfl (B5 x1 x2 FU (0 : Int32) (0 : Int32) h)
def T_X3_mostTakenIn : List (Nat × ClassFile.Instr × Nat) := [(0, .iconst 0, 1), (1, .istore_n 2, 1), (2, .iconst 0, 1), (3, .istore_n 3, 1), (4, .iload_n 3, 1), (5, .bipush 6, 2), (7, .if_icmp .ge 27, 3), (10, .iload_n 2, 1), (11, .aload_n 0, 1), (12, .iload_n 1, 1), (13, .aload_n 0, 1), (14, .getfield 12, 3), (17, .iload_n 3, 1), (18, .invokevirtual 102, 3), (21, .invokevirtual 112, 3), (24, .invokestatic 115, 3), (27, .istore_n 2, 1), (28, .iinc 3 1, 3), (31, .goto (-27), 3), (34, .iload_n 2, 1), (35, .ireturn, 1)]
theorem D_X3_mostTakenIn : ∀ q ∈ T_X3_mostTakenIn, decode cX3_mostTakenIn q.1 = .ok q.2 := by decide +kernel
theorem V_X3_mostTakenIn : Vy yX3_mostTakenIn cX3_mostTakenIn 4 (some .int) 1 := ⟨k190, k138, by decide +kernel⟩
theorem i_X3_mostTakenIn : Cond.instanceMethod yX3_mostTakenIn ∈ TB := k300
theorem s_X3_mostTakenIn : Cond.selects yX3_mostTakenIn.cls yX3_mostTakenIn yX3_mostTakenIn ∈ TB := k301
noncomputable def f_X3_mostTakenIn_b4 (vT : JV) (vS : JV) (x1_4 : Int32) (r4 : Int32 → Int32 → Option (Int32)) (x2_4 : Int32) (x3_4 : Int32) : Option (Int32) :=
  (if (6 : Int32) ≤ x3_4 then some x2_4 else (f_X2_beginOf vS x3_4).bind (fun q2 => (f_X3_takenIn vT vS x1_4 q2).bind (fun q3 => r4 (mx x2_4 q3) (x3_4 + (1 : Int32)))))
noncomputable def f_X3_mostTakenIn_L4 (vT : JV) (vS : JV) (x1_4 : Int32) (n : Nat) (x2_4 : Int32) (x3_4 : Int32) : Option (Int32) :=
  lp (fun (rec : Int32 × Int32 → Option (Int32)) a => f_X3_mostTakenIn_b4 vT vS x1_4 (fun x2_4 x3_4 => rec (x2_4, x3_4)) a.1 a.2) n (x2_4, x3_4)
noncomputable def f_X3_mostTakenIn (vT : JV) (vS : JV) (x1 : Int32) : Option (Int32) :=
  f_X3_mostTakenIn_L4 vT vS x1 FU (0 : Int32) (0 : Int32)
set_option maxRecDepth 100000 in
set_option maxHeartbeats 4000000 in
theorem c_X3_mostTakenIn {l : Launch} {G : JG} (aT : Nat → Nat) (aS : Nat → Nat) (vT : JV) (vS : JV) (x1 : Int32) {Rz : Int32} (h : f_X3_mostTakenIn vT vS x1 = some Rz) : JM l G yX3_mostTakenIn cX3_mostTakenIn 4 (some .int) 5 113 [.ref (aT 0), .int x1] (wSeat G aT (aS 0) (vT 1) (vT 2) (vT 3) (vT 4 0) (vT 5 0) (vT 6) (vT 7) (vT 8) ++ (wSch G aS (vS 0) (vS 1) (vS 2) (vS 3) (vS 4) (vS 5) (vS 6) (vS 7) (vS 8 0) (vS 9 0))) (wSeat G aT (aS 0) (vT 1) (vT 2) (vT 3) (vT 4 0) (vT 5 0) (vT 6) (vT 7) (vT 8) ++ (wSch G aS (vS 0) (vS 1) (vS 2) (vS 3) (vS 4) (vS 5) (vS 6) (vS 7) (vS 8 0) (vS 9 0))) (some (.int Rz)) := by
  refine JM.of (own := RX3) (tb := T_X3_mostTakenIn) (by decide) (Nat.le_of_ble_eq_true rfl) D_X3_mostTakenIn rfl (fun X C => ?_)
  refine J_sub (lv' := [(0, .ref (aT 0)), (1, .int x1)]) [0, 1] rfl ?_
  have B4 : ∀ (x1_4 : Int32) (n4 : Nat) (x2_4 : Int32) (x3_4 : Int32), f_X3_mostTakenIn_L4 vT vS x1_4 n4 x2_4 x3_4 = some Rz → J l { frames := 5, cells := 0, slots := 0, locals := 113 } G 4 X (QM X G 0 0 (some (.int Rz)) (wSeat G aT (aS 0) (vT 1) (vT 2) (vT 3) (vT 4 0) (vT 5 0) (vT 6) (vT 7) (vT 8) ++ (wSch G aS (vS 0) (vS 1) (vS 2) (vS 3) (vS 4) (vS 5) (vS 6) (vS 7) (vS 8 0) (vS 9 0)))) 0 0 4 [(0, .ref (aT 0)), (1, .int x1_4), (2, .int x2_4), (3, .int x3_4)] [] (wSeat G aT (aS 0) (vT 1) (vT 2) (vT 3) (vT 4 0) (vT 5 0) (vT 6) (vT 7) (vT 8) ++ (wSch G aS (vS 0) (vS 1) (vS 2) (vS 3) (vS 4) (vS 5) (vS 6) (vS 7) (vS 8 0) (vS 9 0))) := by
    intro x1_4 n4
    induction n4 with
    | zero =>
      intro x2_4 x3_4 h
      exact (no_none rfl h).elim
    | succ n4 ih4 =>
      intro x2_4 x3_4 h
      replace h : f_X3_mostTakenIn_b4 vT vS x1_4 (fun x2_4 x3_4 => f_X3_mostTakenIn_L4 vT vS x1_4 n4 x2_4 x3_4) x2_4 x3_4 = some Rz := h
      unfold f_X3_mostTakenIn_b4 at h
      refine J_iload_n (pc := 4) C 4 rfl 3 rfl rfl ?_
      refine J_bipush (pc := 5) (v := (6 : Int32)) C 5 rfl rfl ?_
      refine J_icmp_ge (pc := 7) (tgt := 34) C 6 rfl rfl (fun c1 => ?_) (fun c1 => ?_)
      · rw [if_pos c1] at h
        refine J_iload_n (pc := 34) C 19 rfl 2 rfl rfl ?_
        cases h
        exact J_iret (pc := 35) C 20 rfl
      · rw [if_neg c1] at h
        refine J_iload_n (pc := 10) C 7 rfl 2 rfl rfl ?_
        refine J_aload_n (pc := 11) C 8 rfl 0 rfl rfl ?_
        refine J_iload_n (pc := 12) C 9 rfl 1 rfl rfl ?_
        refine J_aload_n (pc := 13) C 10 rfl 0 rfl rfl ?_
        refine J_get (pc := 14) (v := .ref (aS 0)) C 11 rfl TB_l3 rfl 0 0 rfl (by decide) k120 rfl rfl ?_
        refine J_iload_n (pc := 17) C 12 rfl 3 rfl rfl ?_
        obtain ⟨q2, hq2, h⟩ := bnd h
        refine J_callV (pc := 18) (st2 := [.int x1_4, .ref (aT 0), .int x2_4]) (st3 := [.int q2, .int x1_4, .ref (aT 0), .int x2_4]) (ws2 := (wSeat G aT (aS 0) (vT 1) (vT 2) (vT 3) (vT 4 0) (vT 5 0) (vT 6) (vT 7) (vT 8) ++ (wSch G aS (vS 0) (vS 1) (vS 2) (vS 3) (vS 4) (vS 5) (vS 6) (vS 7) (vS 8 0) (vS 9 0)))) C 13 rfl (c_X2_beginOf aS vS x3_4 hq2) V_X2_beginOf k133 i_X2_beginOf s_X2_beginOf rfl rfl ⟨Nat.le_of_ble_eq_true rfl, Nat.le_of_ble_eq_true rfl⟩ (Nat.le_of_ble_eq_true rfl) ⟨Nat.le_refl _, Nat.le_refl _⟩ 7 2 rfl rfl rfl (isC := [7, 8, 9, 10, 11, 12, 13, 14, 15]) (isR := [0, 1, 2, 3, 4, 5, 6]) (N := 16) ⟨rfl, by decide +kernel, rfl, by decide +kernel, rfl, ⟨⟨_, rfl, rfl⟩, ⟨⟨_, rfl, rfl⟩, ⟨⟨_, rfl, rfl⟩, ⟨⟨_, rfl, rfl⟩, ⟨⟨_, rfl, rfl⟩, ⟨⟨_, rfl, rfl⟩, ⟨⟨_, rfl, rfl⟩, trivial⟩⟩⟩⟩⟩⟩⟩⟩ rfl ?_
        obtain ⟨q3, hq3, h⟩ := bnd h
        refine J_callV (pc := 21) (st2 := [.int x2_4]) (st3 := [.int q3, .int x2_4]) (ws2 := (wSeat G aT (aS 0) (vT 1) (vT 2) (vT 3) (vT 4 0) (vT 5 0) (vT 6) (vT 7) (vT 8) ++ (wSch G aS (vS 0) (vS 1) (vS 2) (vS 3) (vS 4) (vS 5) (vS 6) (vS 7) (vS 8 0) (vS 9 0)))) C 14 rfl (c_X3_takenIn aT aS vT vS x1_4 q2 hq3) V_X3_takenIn k187 i_X3_takenIn s_X3_takenIn rfl rfl ⟨Nat.le_of_ble_eq_true rfl, Nat.le_of_ble_eq_true rfl⟩ (Nat.le_of_ble_eq_true rfl) ⟨Nat.le_refl _, Nat.le_refl _⟩ 0 3 rfl rfl rfl (isC := [0, 1, 2, 3, 4, 5, 6, 7, 8, 9, 10, 11, 12, 13, 14, 15]) (isR := []) (N := 16) ⟨rfl, by decide +kernel, rfl, by decide +kernel, rfl, trivial⟩ rfl ?_
        refine J_mmax (pc := 24) C 15 rfl k186 (by decide) (Nat.le_of_ble_eq_true rfl) (Nat.le_refl _) (Nat.le_refl _) ?_
        refine J_istore_n (pc := 27) (lv' := [(2, .int (mx x2_4 q3)), (0, .ref (aT 0)), (1, .int x1_4), (3, .int x3_4)]) C 16 rfl rfl (by decide) rfl ?_
        refine J_iinc (pc := 28) (v := (x3_4 + (1 : Int32))) (lv' := [(3, .int (x3_4 + (1 : Int32))), (2, .int (mx x2_4 q3)), (0, .ref (aT 0)), (1, .int x1_4)]) C 17 rfl 3 rfl rfl (by decide) rfl ?_
        refine J_goto (pc := 31) (tgt := 4) C 18 rfl rfl ?_
        exact J_sub [2, 3, 1, 0] rfl (ih4 (mx x2_4 q3) (x3_4 + (1 : Int32)) h)
  unfold f_X3_mostTakenIn at h
  refine J_iconst (pc := 0) (v := (0 : Int32)) C 0 rfl rfl ?_
  refine J_istore_n (pc := 1) (lv' := [(2, .int (0 : Int32)), (0, .ref (aT 0)), (1, .int x1)]) C 1 rfl rfl (by decide) rfl ?_
  refine J_iconst (pc := 2) (v := (0 : Int32)) C 2 rfl rfl ?_
  refine J_istore_n (pc := 3) (lv' := [(3, .int (0 : Int32)), (2, .int (0 : Int32)), (0, .ref (aT 0)), (1, .int x1)]) C 3 rfl rfl (by decide) rfl ?_
  exact J_sub [2, 3, 1, 0] rfl (B4 x1 FU (0 : Int32) (0 : Int32) h)
def T_X3_sittingAt : List (Nat × ClassFile.Instr × Nat) := [(0, .iconst 0, 1), (1, .istore 4, 2), (3, .iload 4, 2), (5, .bipush 96, 2), (7, .if_icmp .ge 44, 3), (10, .aload_n 0, 1), (11, .getfield 18, 3), (14, .iload 4, 2), (16, .iaload, 1), (17, .iload_n 1, 1), (18, .if_icmp .ne 27, 3), (21, .aload_n 0, 1), (22, .getfield 22, 3), (25, .iload 4, 2), (27, .iaload, 1), (28, .iload_n 2, 1), (29, .if_icmp .ne 16, 3), (32, .aload_n 0, 1), (33, .iload 4, 2), (35, .iload_n 3, 1), (36, .invokevirtual 120, 3), (39, .ifCond .eq 6, 3), (42, .iload 4, 2), (44, .ireturn, 1), (45, .iinc 4 1, 3), (48, .goto (-45), 3), (51, .bipush (-6), 2), (53, .ireturn, 1)]
theorem D_X3_sittingAt : ∀ q ∈ T_X3_sittingAt, decode cX3_sittingAt q.1 = .ok q.2 := by decide +kernel
theorem V_X3_sittingAt : Vy yX3_sittingAt cX3_sittingAt 5 (some .int) 3 := ⟨k191, k138, by decide +kernel⟩
theorem i_X3_sittingAt : Cond.instanceMethod yX3_sittingAt ∈ TB := k322
theorem s_X3_sittingAt : Cond.selects yX3_sittingAt.cls yX3_sittingAt yX3_sittingAt ∈ TB := k323
noncomputable def f_X3_sittingAt_b3 (vT : JV) (vS : JV) (x1_3 : Int32) (x2_3 : Int32) (x3_3 : Int32) (r3 : Int32 → Option (Int32)) (x4_3 : Int32) : Option (Int32) :=
  (if (96 : Int32) ≤ x4_3 then some (-6 : Int32) else gd (inb x4_3 96) ((if ((vT 1) (Int32.toNatClampNeg x4_3)) = x1_3 then gd (inb x4_3 96) ((if ((vT 2) (Int32.toNatClampNeg x4_3)) = x2_3 then (f_X3_isNow vT vS x4_3 x3_3).bind (fun q6 => (if q6 = 0 then r3 (x4_3 + (1 : Int32)) else some x4_3)) else r3 (x4_3 + (1 : Int32)))) else r3 (x4_3 + (1 : Int32)))))
noncomputable def f_X3_sittingAt_L3 (vT : JV) (vS : JV) (x1_3 : Int32) (x2_3 : Int32) (x3_3 : Int32) (n : Nat) (x4_3 : Int32) : Option (Int32) :=
  lp (fun (rec : Int32 → Option (Int32)) a => f_X3_sittingAt_b3 vT vS x1_3 x2_3 x3_3 (fun x4_3 => rec x4_3) a) n x4_3
noncomputable def f_X3_sittingAt (vT : JV) (vS : JV) (x1 : Int32) (x2 : Int32) (x3 : Int32) : Option (Int32) :=
  f_X3_sittingAt_L3 vT vS x1 x2 x3 FU (0 : Int32)
set_option maxRecDepth 100000 in
set_option maxHeartbeats 4000000 in
theorem c_X3_sittingAt {l : Launch} {G : JG} (aT : Nat → Nat) (aS : Nat → Nat) (vT : JV) (vS : JV) (x1 : Int32) (x2 : Int32) (x3 : Int32) {Rz : Int32} (h : f_X3_sittingAt vT vS x1 x2 x3 = some Rz) : JM l G yX3_sittingAt cX3_sittingAt 5 (some .int) 4 89 [.ref (aT 0), .int x1, .int x2, .int x3] (wSeat G aT (aS 0) (vT 1) (vT 2) (vT 3) (vT 4 0) (vT 5 0) (vT 6) (vT 7) (vT 8) ++ (wSch G aS (vS 0) (vS 1) (vS 2) (vS 3) (vS 4) (vS 5) (vS 6) (vS 7) (vS 8 0) (vS 9 0))) (wSeat G aT (aS 0) (vT 1) (vT 2) (vT 3) (vT 4 0) (vT 5 0) (vT 6) (vT 7) (vT 8) ++ (wSch G aS (vS 0) (vS 1) (vS 2) (vS 3) (vS 4) (vS 5) (vS 6) (vS 7) (vS 8 0) (vS 9 0))) (some (.int Rz)) := by
  refine JM.of (own := RX3) (tb := T_X3_sittingAt) (by decide) (Nat.le_of_ble_eq_true rfl) D_X3_sittingAt rfl (fun X C => ?_)
  refine J_sub (lv' := [(0, .ref (aT 0)), (1, .int x1), (2, .int x2), (3, .int x3)]) [0, 1, 2, 3] rfl ?_
  have B3 : ∀ (x1_3 : Int32) (x2_3 : Int32) (x3_3 : Int32) (n3 : Nat) (x4_3 : Int32), f_X3_sittingAt_L3 vT vS x1_3 x2_3 x3_3 n3 x4_3 = some Rz → J l { frames := 4, cells := 0, slots := 0, locals := 89 } G 5 X (QM X G 0 0 (some (.int Rz)) (wSeat G aT (aS 0) (vT 1) (vT 2) (vT 3) (vT 4 0) (vT 5 0) (vT 6) (vT 7) (vT 8) ++ (wSch G aS (vS 0) (vS 1) (vS 2) (vS 3) (vS 4) (vS 5) (vS 6) (vS 7) (vS 8 0) (vS 9 0)))) 0 0 3 [(0, .ref (aT 0)), (1, .int x1_3), (2, .int x2_3), (3, .int x3_3), (4, .int x4_3)] [] (wSeat G aT (aS 0) (vT 1) (vT 2) (vT 3) (vT 4 0) (vT 5 0) (vT 6) (vT 7) (vT 8) ++ (wSch G aS (vS 0) (vS 1) (vS 2) (vS 3) (vS 4) (vS 5) (vS 6) (vS 7) (vS 8 0) (vS 9 0))) := by
    intro x1_3 x2_3 x3_3 n3
    induction n3 with
    | zero =>
      intro x4_3 h
      exact (no_none rfl h).elim
    | succ n3 ih3 =>
      intro x4_3 h
      replace h : f_X3_sittingAt_b3 vT vS x1_3 x2_3 x3_3 (fun x4_3 => f_X3_sittingAt_L3 vT vS x1_3 x2_3 x3_3 n3 x4_3) x4_3 = some Rz := h
      unfold f_X3_sittingAt_b3 at h
      refine J_iload (pc := 3) C 2 rfl 4 rfl ?_
      refine J_bipush (pc := 5) (v := (96 : Int32)) C 3 rfl rfl ?_
      refine J_icmp_ge (pc := 7) (tgt := 51) C 4 rfl rfl (fun c1 => ?_) (fun c1 => ?_)
      · rw [if_pos c1] at h
        refine J_bipush (pc := 51) (v := (-6 : Int32)) C 26 rfl rfl ?_
        cases h
        exact J_iret (pc := 53) C 27 rfl
      · rw [if_neg c1] at h
        refine J_aload_n (pc := 10) C 5 rfl 0 rfl rfl ?_
        refine J_get (pc := 11) (v := .ref (aT 1)) C 6 rfl TB_l3 rfl 0 1 rfl (by decide) k121 rfl rfl ?_
        refine J_iload (pc := 14) C 7 rfl 4 rfl ?_
        obtain ⟨g2, h⟩ := gd_some h
        refine J_iald (pc := 16) (f := (vT 1)) (v := ((vT 1) (Int32.toNatClampNeg x4_3))) C 8 rfl 1 rfl g2 rfl ?_
        refine J_iload_n (pc := 17) C 9 rfl 1 rfl rfl ?_
        refine J_icmp_ne (pc := 18) (tgt := 45) C 10 rfl rfl (fun c3 => ?_) (fun c3 => ?_)
        · rw [if_neg c3] at h
          refine J_iinc (pc := 45) (v := (x4_3 + (1 : Int32))) (lv' := [(4, .int (x4_3 + (1 : Int32))), (0, .ref (aT 0)), (1, .int x1_3), (2, .int x2_3), (3, .int x3_3)]) C 24 rfl 4 rfl rfl (by decide) rfl ?_
          refine J_goto (pc := 48) (tgt := 3) C 25 rfl rfl ?_
          exact J_sub [1, 2, 3, 4, 0] rfl (ih3 (x4_3 + (1 : Int32)) h)
        · rw [if_pos c3] at h
          refine J_aload_n (pc := 21) C 11 rfl 0 rfl rfl ?_
          refine J_get (pc := 22) (v := .ref (aT 2)) C 12 rfl TB_l3 rfl 0 2 rfl (by decide) k122 rfl rfl ?_
          refine J_iload (pc := 25) C 13 rfl 4 rfl ?_
          obtain ⟨g4, h⟩ := gd_some h
          refine J_iald (pc := 27) (f := (vT 2)) (v := ((vT 2) (Int32.toNatClampNeg x4_3))) C 14 rfl 2 rfl g4 rfl ?_
          refine J_iload_n (pc := 28) C 15 rfl 2 rfl rfl ?_
          refine J_icmp_ne (pc := 29) (tgt := 45) C 16 rfl rfl (fun c5 => ?_) (fun c5 => ?_)
          · rw [if_neg c5] at h
            refine J_iinc (pc := 45) (v := (x4_3 + (1 : Int32))) (lv' := [(4, .int (x4_3 + (1 : Int32))), (0, .ref (aT 0)), (1, .int x1_3), (2, .int x2_3), (3, .int x3_3)]) C 24 rfl 4 rfl rfl (by decide) rfl ?_
            refine J_goto (pc := 48) (tgt := 3) C 25 rfl rfl ?_
            exact J_sub [1, 2, 3, 4, 0] rfl (ih3 (x4_3 + (1 : Int32)) h)
          · rw [if_pos c5] at h
            refine J_aload_n (pc := 32) C 17 rfl 0 rfl rfl ?_
            refine J_iload (pc := 33) C 18 rfl 4 rfl ?_
            refine J_iload_n (pc := 35) C 19 rfl 3 rfl rfl ?_
            obtain ⟨q6, hq6, h⟩ := bnd h
            refine J_callV (pc := 36) (st2 := []) (st3 := [.int q6]) (ws2 := (wSeat G aT (aS 0) (vT 1) (vT 2) (vT 3) (vT 4 0) (vT 5 0) (vT 6) (vT 7) (vT 8) ++ (wSch G aS (vS 0) (vS 1) (vS 2) (vS 3) (vS 4) (vS 5) (vS 6) (vS 7) (vS 8 0) (vS 9 0)))) C 20 rfl (c_X3_isNow aT aS vT vS x4_3 x3_3 hq6) V_X3_isNow k182 i_X3_isNow s_X3_isNow rfl rfl ⟨Nat.le_of_ble_eq_true rfl, Nat.le_of_ble_eq_true rfl⟩ (Nat.le_of_ble_eq_true rfl) ⟨Nat.le_refl _, Nat.le_refl _⟩ 0 3 rfl rfl rfl (isC := [0, 1, 2, 3, 4, 5, 6, 7, 8, 9, 10, 11, 12, 13, 14, 15]) (isR := []) (N := 16) ⟨rfl, by decide +kernel, rfl, by decide +kernel, rfl, trivial⟩ rfl ?_
            refine J_if_eq (pc := 39) (tgt := 45) C 21 rfl rfl (fun c7 => ?_) (fun c7 => ?_)
            · rw [if_pos c7] at h
              refine J_iinc (pc := 45) (v := (x4_3 + (1 : Int32))) (lv' := [(4, .int (x4_3 + (1 : Int32))), (0, .ref (aT 0)), (1, .int x1_3), (2, .int x2_3), (3, .int x3_3)]) C 24 rfl 4 rfl rfl (by decide) rfl ?_
              refine J_goto (pc := 48) (tgt := 3) C 25 rfl rfl ?_
              exact J_sub [1, 2, 3, 4, 0] rfl (ih3 (x4_3 + (1 : Int32)) h)
            · rw [if_neg c7] at h
              refine J_iload (pc := 42) C 22 rfl 4 rfl ?_
              cases h
              exact J_iret (pc := 44) C 23 rfl
  unfold f_X3_sittingAt at h
  refine J_iconst (pc := 0) (v := (0 : Int32)) C 0 rfl rfl ?_
  refine J_istore (pc := 1) (lv' := [(4, .int (0 : Int32)), (0, .ref (aT 0)), (1, .int x1), (2, .int x2), (3, .int x3)]) C 1 rfl (by decide) rfl ?_
  exact J_sub [1, 2, 3, 4, 0] rfl (B3 x1 x2 x3 FU (0 : Int32) h)
