def T_X4_set : List (Nat × ClassFile.Instr × Nat) := [(0, .iload_n 1, 1), (1, .iconst 0, 1), (2, .iconst 2, 1), (3, .invokestatic 55, 3), (6, .ifCond .eq 16, 3), (9, .iload_n 2, 1), (10, .iconst 0, 1), (11, .getstatic 59, 3), (14, .iload_n 1, 1), (15, .iaload, 1), (16, .invokestatic 55, 3), (19, .ifCond .ne 6, 3), (22, .bipush (-2), 2), (24, .ireturn, 1), (25, .aload_n 0, 1), (26, .getfield 20, 3), (29, .getfield 63, 3), (32, .iload_n 1, 1), (33, .iaload, 1), (34, .istore_n 3, 1), (35, .aload_n 0, 1), (36, .getfield 37, 3), (39, .aload_n 0, 1), (40, .getfield 20, 3), (43, .invokevirtual 66, 3), (46, .aload_n 0, 1), (47, .getfield 20, 3), (50, .getfield 63, 3), (53, .iload_n 1, 1), (54, .iload_n 2, 1), (55, .iastore, 1), (56, .aload_n 0, 1), (57, .getfield 12, 3), (60, .invokevirtual 52, 3), (63, .iload_n 3, 1), (64, .ireturn, 1)]
theorem D_X4_set : ∀ q ∈ T_X4_set, decode cX4_set q.1 = .ok q.2 := by decide +kernel
theorem V_X4_set : Vy yX4_set cX4_set 4 (some .int) 2 := ⟨k226, k56, by decide +kernel⟩
theorem i_X4_set : Cond.instanceMethod yX4_set ∈ TB := k399
theorem s_X4_set : Cond.selects yX4_set.cls yX4_set yX4_set ∈ TB := k400
noncomputable def f_X4_set (vT : JV) (vS : JV) (hA : Nat → Nat → Nat) (hV : Nat → JV) (hZ : JV) (x1 : Int32) (x2 : Int32) : Option (Int32 × JV × JV × (Nat → Nat → Nat) × (Nat → JV) × JV) :=
  (f_X4_isWithin x1 (0 : Int32) (2 : Int32)).bind (fun q1 => (if q1 = 0 then some ((-2 : Int32), vT, vS, hA, hV, hZ) else gd (inb x1 3) ((f_X4_isWithin x2 (0 : Int32) (hsv (Int32.toNatClampNeg x1))).bind (fun q4 => (if q4 = 0 then some ((-2 : Int32), vT, vS, hA, hV, hZ) else gd (inb x1 3) ((f_X0_remember vS hA hV hZ).bind (fun q7 => gd (inb x1 3) ((f_X3_seatAll vT (up2 vS 0 (Int32.toNatClampNeg x1) x2)).bind (fun q9 => some (((vS 0) (Int32.toNatClampNeg x1)), q9, (up2 vS 0 (Int32.toNatClampNeg x1) x2), (q7.1), (q7.2.1), (q7.2.2)))))))))))
set_option maxRecDepth 100000 in
set_option maxHeartbeats 4000000 in
theorem c_X4_set {l : Launch} {G : JG} (tz : Nat) (aX : Nat) (aT : Nat → Nat) (aS : Nat → Nat) (aT2 : Nat → Nat) (aS2 : Nat → Nat) (aP : Nat → Nat) (aH : Nat → Nat) (aB : Nat) (aU : Nat) (vT : JV) (vS : JV) (hA : Nat → Nat → Nat) (hV : Nat → JV) (hZ : JV) (x1 : Int32) (x2 : Int32) {Rz : Int32 × JV × JV × (Nat → Nat → Nat) × (Nat → JV) × JV} (h : f_X4_set vT vS hA hV hZ x1 x2 = some Rz) : JMZ tz l G yX4_set cX4_set 4 (some .int) 6 141 [.ref aX, .int x1, .int x2] (wEx aX (aT 0) (aT2 0) (aS 0) (aS2 0) (aP 0) (aH 0) aB aU ++ (wSeat G aT (aS 0) (vT 1) (vT 2) (vT 3) (vT 4 0) (vT 5 0) (vT 6) (vT 7) (vT 8) ++ (wSch G aS (vS 0) (vS 1) (vS 2) (vS 3) (vS 4) (vS 5) (vS 6) (vS 7) (vS 8 0) (vS 9 0) ++ (wHis G aH hA hV (hZ 1 0))))) (wEx aX (aT 0) (aT2 0) (aS 0) (aS2 0) (aP 0) (aH 0) aB aU ++ (wSeat G aT (aS 0) ((Rz.2.1) 1) ((Rz.2.1) 2) ((Rz.2.1) 3) ((Rz.2.1) 4 0) ((Rz.2.1) 5 0) ((Rz.2.1) 6) ((Rz.2.1) 7) ((Rz.2.1) 8) ++ (wSch G aS ((Rz.2.2.1) 0) ((Rz.2.2.1) 1) ((Rz.2.2.1) 2) ((Rz.2.2.1) 3) ((Rz.2.2.1) 4) ((Rz.2.2.1) 5) ((Rz.2.2.1) 6) ((Rz.2.2.1) 7) ((Rz.2.2.1) 8 0) ((Rz.2.2.1) 9 0) ++ (wHis G aH (Rz.2.2.2.1) (Rz.2.2.2.2.1) ((Rz.2.2.2.2.2) 1 0))))) (some (.int (Rz.1))) := by
  refine JMZ.of (own := RX4) (tb := T_X4_set) (by decide) (Nat.le_of_ble_eq_true rfl) D_X4_set rfl (fun X C Z => ?_)
  refine J_sub (lv' := [(0, .ref aX), (1, .int x1), (2, .int x2)]) [0, 1, 2] rfl ?_
  unfold f_X4_set at h
  refine J_iload_n (pc := 0) C 0 rfl 1 rfl rfl ?_
  refine J_iconst (pc := 1) (v := (0 : Int32)) C 1 rfl rfl ?_
  refine J_iconst (pc := 2) (v := (2 : Int32)) C 2 rfl rfl ?_
  obtain ⟨q1, hq1, h⟩ := bnd h
  refine J_callS (pc := 3) (st2 := []) (st3 := [.int q1]) (ws2 := (wEx aX (aT 0) (aT2 0) (aS 0) (aS2 0) (aP 0) (aH 0) aB aU ++ (wSeat G aT (aS 0) (vT 1) (vT 2) (vT 3) (vT 4 0) (vT 5 0) (vT 6) (vT 7) (vT 8) ++ (wSch G aS (vS 0) (vS 1) (vS 2) (vS 3) (vS 4) (vS 5) (vS 6) (vS 7) (vS 8 0) (vS 9 0) ++ (wHis G aH hA hV (hZ 1 0)))))) C 3 rfl (c_X4_isWithin x1 (0 : Int32) (2 : Int32) hq1) V_X4_isWithin k221 t_X4_isWithin rfl rfl ⟨Nat.le_of_ble_eq_true rfl, Nat.le_of_ble_eq_true rfl⟩ (Nat.le_of_ble_eq_true rfl) ⟨Nat.le_refl _, Nat.le_refl _⟩ (isC := []) (isR := [0, 1, 2, 3, 4, 5, 6, 7, 8, 9, 10, 11, 12, 13, 14, 15, 16, 17, 18, 19, 20, 21, 22, 23, 24, 25, 26, 27, 28, 29, 30, 31, 32, 33, 34, 35, 36, 37, 38, 39, 40, 41, 42, 43, 44, 45, 46, 47, 48, 49, 50, 51, 52, 53, 54, 55, 56, 57, 58, 59, 60, 61, 62, 63, 64, 65, 66, 67, 68, 69, 70, 71, 72]) (N := 73) ⟨rfl, by decide +kernel, rfl, by decide +kernel, rfl, ⟨⟨_, rfl, rfl⟩, ⟨⟨_, rfl, rfl⟩, ⟨⟨_, rfl, rfl⟩, ⟨⟨_, rfl, rfl⟩, ⟨⟨_, rfl, rfl⟩, ⟨⟨_, rfl, rfl⟩, ⟨⟨_, rfl, rfl⟩, ⟨⟨_, rfl, rfl⟩, ⟨⟨_, rfl, rfl⟩, ⟨⟨_, rfl, rfl⟩, ⟨⟨_, rfl, rfl⟩, ⟨⟨_, rfl, rfl⟩, ⟨⟨_, rfl, rfl⟩, ⟨⟨_, rfl, rfl⟩, ⟨⟨_, rfl, rfl⟩, ⟨⟨_, rfl, rfl⟩, ⟨⟨_, rfl, rfl⟩, ⟨⟨_, rfl, rfl⟩, ⟨⟨_, rfl, rfl⟩, ⟨⟨_, rfl, rfl⟩, ⟨⟨_, rfl, rfl⟩, ⟨⟨_, rfl, rfl⟩, ⟨⟨_, rfl, rfl⟩, ⟨⟨_, rfl, rfl⟩, ⟨⟨_, rfl, rfl⟩, ⟨⟨_, rfl, rfl⟩, ⟨⟨_, rfl, rfl⟩, ⟨⟨_, rfl, rfl⟩, ⟨⟨_, rfl, rfl⟩, ⟨⟨_, rfl, rfl⟩, ⟨⟨_, rfl, rfl⟩, ⟨⟨_, rfl, rfl⟩, ⟨⟨_, rfl, rfl⟩, ⟨⟨_, rfl, rfl⟩, ⟨⟨_, rfl, rfl⟩, ⟨⟨_, rfl, rfl⟩, ⟨⟨_, rfl, rfl⟩, ⟨⟨_, rfl, rfl⟩, ⟨⟨_, rfl, rfl⟩, ⟨⟨_, rfl, rfl⟩, ⟨⟨_, rfl, rfl⟩, ⟨⟨_, rfl, rfl⟩, ⟨⟨_, rfl, rfl⟩, ⟨⟨_, rfl, rfl⟩, ⟨⟨_, rfl, rfl⟩, ⟨⟨_, rfl, rfl⟩, ⟨⟨_, rfl, rfl⟩, ⟨⟨_, rfl, rfl⟩, ⟨⟨_, rfl, rfl⟩, ⟨⟨_, rfl, rfl⟩, ⟨⟨_, rfl, rfl⟩, ⟨⟨_, rfl, rfl⟩, ⟨⟨_, rfl, rfl⟩, ⟨⟨_, rfl, rfl⟩, ⟨⟨_, rfl, rfl⟩, ⟨⟨_, rfl, rfl⟩, ⟨⟨_, rfl, rfl⟩, ⟨⟨_, rfl, rfl⟩, ⟨⟨_, rfl, rfl⟩, ⟨⟨_, rfl, rfl⟩, ⟨⟨_, rfl, rfl⟩, ⟨⟨_, rfl, rfl⟩, ⟨⟨_, rfl, rfl⟩, ⟨⟨_, rfl, rfl⟩, ⟨⟨_, rfl, rfl⟩, ⟨⟨_, rfl, rfl⟩, ⟨⟨_, rfl, rfl⟩, ⟨⟨_, rfl, rfl⟩, ⟨⟨_, rfl, rfl⟩, ⟨⟨_, rfl, rfl⟩, ⟨⟨_, rfl, rfl⟩, ⟨⟨_, rfl, rfl⟩, ⟨⟨_, rfl, rfl⟩, trivial⟩⟩⟩⟩⟩⟩⟩⟩⟩⟩⟩⟩⟩⟩⟩⟩⟩⟩⟩⟩⟩⟩⟩⟩⟩⟩⟩⟩⟩⟩⟩⟩⟩⟩⟩⟩⟩⟩⟩⟩⟩⟩⟩⟩⟩⟩⟩⟩⟩⟩⟩⟩⟩⟩⟩⟩⟩⟩⟩⟩⟩⟩⟩⟩⟩⟩⟩⟩⟩⟩⟩⟩⟩⟩ rfl ?_
  refine J_if_eq (pc := 6) (tgt := 22) C 4 rfl rfl (fun c2 => ?_) (fun c2 => ?_)
  · rw [if_pos c2] at h
    refine J_bipush (pc := 22) (v := (-2 : Int32)) C 12 rfl rfl ?_
    cases h
    exact J_iret (pc := 24) C 13 rfl
  · rw [if_neg c2] at h
    refine J_iload_n (pc := 9) C 5 rfl 2 rfl rfl ?_
    refine J_iconst (pc := 10) (v := (0 : Int32)) C 6 rfl rfl ?_
    refine J_gets (pc := 11) C 7 Z rfl k219 ?_
    refine J_iload_n (pc := 14) C 8 rfl 1 rfl rfl ?_
    obtain ⟨g3, h⟩ := gd_some h
    refine J_tald (pc := 15) C 9 Z rfl g3 ?_
    obtain ⟨q4, hq4, h⟩ := bnd h
    refine J_callS (pc := 16) (st2 := []) (st3 := [.int q4]) (ws2 := (wEx aX (aT 0) (aT2 0) (aS 0) (aS2 0) (aP 0) (aH 0) aB aU ++ (wSeat G aT (aS 0) (vT 1) (vT 2) (vT 3) (vT 4 0) (vT 5 0) (vT 6) (vT 7) (vT 8) ++ (wSch G aS (vS 0) (vS 1) (vS 2) (vS 3) (vS 4) (vS 5) (vS 6) (vS 7) (vS 8 0) (vS 9 0) ++ (wHis G aH hA hV (hZ 1 0)))))) C 10 rfl (c_X4_isWithin x2 (0 : Int32) (hsv (Int32.toNatClampNeg x1)) hq4) V_X4_isWithin k221 t_X4_isWithin rfl rfl ⟨Nat.le_of_ble_eq_true rfl, Nat.le_of_ble_eq_true rfl⟩ (Nat.le_of_ble_eq_true rfl) ⟨Nat.le_refl _, Nat.le_refl _⟩ (isC := []) (isR := [0, 1, 2, 3, 4, 5, 6, 7, 8, 9, 10, 11, 12, 13, 14, 15, 16, 17, 18, 19, 20, 21, 22, 23, 24, 25, 26, 27, 28, 29, 30, 31, 32, 33, 34, 35, 36, 37, 38, 39, 40, 41, 42, 43, 44, 45, 46, 47, 48, 49, 50, 51, 52, 53, 54, 55, 56, 57, 58, 59, 60, 61, 62, 63, 64, 65, 66, 67, 68, 69, 70, 71, 72]) (N := 73) ⟨rfl, by decide +kernel, rfl, by decide +kernel, rfl, ⟨⟨_, rfl, rfl⟩, ⟨⟨_, rfl, rfl⟩, ⟨⟨_, rfl, rfl⟩, ⟨⟨_, rfl, rfl⟩, ⟨⟨_, rfl, rfl⟩, ⟨⟨_, rfl, rfl⟩, ⟨⟨_, rfl, rfl⟩, ⟨⟨_, rfl, rfl⟩, ⟨⟨_, rfl, rfl⟩, ⟨⟨_, rfl, rfl⟩, ⟨⟨_, rfl, rfl⟩, ⟨⟨_, rfl, rfl⟩, ⟨⟨_, rfl, rfl⟩, ⟨⟨_, rfl, rfl⟩, ⟨⟨_, rfl, rfl⟩, ⟨⟨_, rfl, rfl⟩, ⟨⟨_, rfl, rfl⟩, ⟨⟨_, rfl, rfl⟩, ⟨⟨_, rfl, rfl⟩, ⟨⟨_, rfl, rfl⟩, ⟨⟨_, rfl, rfl⟩, ⟨⟨_, rfl, rfl⟩, ⟨⟨_, rfl, rfl⟩, ⟨⟨_, rfl, rfl⟩, ⟨⟨_, rfl, rfl⟩, ⟨⟨_, rfl, rfl⟩, ⟨⟨_, rfl, rfl⟩, ⟨⟨_, rfl, rfl⟩, ⟨⟨_, rfl, rfl⟩, ⟨⟨_, rfl, rfl⟩, ⟨⟨_, rfl, rfl⟩, ⟨⟨_, rfl, rfl⟩, ⟨⟨_, rfl, rfl⟩, ⟨⟨_, rfl, rfl⟩, ⟨⟨_, rfl, rfl⟩, ⟨⟨_, rfl, rfl⟩, ⟨⟨_, rfl, rfl⟩, ⟨⟨_, rfl, rfl⟩, ⟨⟨_, rfl, rfl⟩, ⟨⟨_, rfl, rfl⟩, ⟨⟨_, rfl, rfl⟩, ⟨⟨_, rfl, rfl⟩, ⟨⟨_, rfl, rfl⟩, ⟨⟨_, rfl, rfl⟩, ⟨⟨_, rfl, rfl⟩, ⟨⟨_, rfl, rfl⟩, ⟨⟨_, rfl, rfl⟩, ⟨⟨_, rfl, rfl⟩, ⟨⟨_, rfl, rfl⟩, ⟨⟨_, rfl, rfl⟩, ⟨⟨_, rfl, rfl⟩, ⟨⟨_, rfl, rfl⟩, ⟨⟨_, rfl, rfl⟩, ⟨⟨_, rfl, rfl⟩, ⟨⟨_, rfl, rfl⟩, ⟨⟨_, rfl, rfl⟩, ⟨⟨_, rfl, rfl⟩, ⟨⟨_, rfl, rfl⟩, ⟨⟨_, rfl, rfl⟩, ⟨⟨_, rfl, rfl⟩, ⟨⟨_, rfl, rfl⟩, ⟨⟨_, rfl, rfl⟩, ⟨⟨_, rfl, rfl⟩, ⟨⟨_, rfl, rfl⟩, ⟨⟨_, rfl, rfl⟩, ⟨⟨_, rfl, rfl⟩, ⟨⟨_, rfl, rfl⟩, ⟨⟨_, rfl, rfl⟩, ⟨⟨_, rfl, rfl⟩, ⟨⟨_, rfl, rfl⟩, ⟨⟨_, rfl, rfl⟩, ⟨⟨_, rfl, rfl⟩, ⟨⟨_, rfl, rfl⟩, trivial⟩⟩⟩⟩⟩⟩⟩⟩⟩⟩⟩⟩⟩⟩⟩⟩⟩⟩⟩⟩⟩⟩⟩⟩⟩⟩⟩⟩⟩⟩⟩⟩⟩⟩⟩⟩⟩⟩⟩⟩⟩⟩⟩⟩⟩⟩⟩⟩⟩⟩⟩⟩⟩⟩⟩⟩⟩⟩⟩⟩⟩⟩⟩⟩⟩⟩⟩⟩⟩⟩⟩⟩⟩⟩ rfl ?_
    refine J_if_ne (pc := 19) (tgt := 25) C 11 rfl rfl (fun c5 => ?_) (fun c5 => ?_)
    · rw [if_neg c5] at h
      refine J_aload_n (pc := 25) C 14 rfl 0 rfl rfl ?_
      refine J_get (pc := 26) (v := .ref (aS 0)) C 15 rfl TB_l4 rfl 0 1 rfl (by decide) k197 rfl rfl ?_
      refine J_get (pc := 29) (v := .ref (aS 1)) C 16 rfl TB_l2 rfl 8 0 rfl (by decide) k220 rfl rfl ?_
      refine J_iload_n (pc := 32) C 17 rfl 1 rfl rfl ?_
      obtain ⟨g6, h⟩ := gd_some h
      refine J_iald (pc := 33) (f := (vS 0)) (v := ((vS 0) (Int32.toNatClampNeg x1))) C 18 rfl 9 rfl g6 rfl ?_
      refine J_istore_n (pc := 34) (lv' := [(3, .int ((vS 0) (Int32.toNatClampNeg x1))), (0, .ref aX), (1, .int x1), (2, .int x2)]) C 19 rfl rfl (by decide) rfl ?_
      refine J_aload_n (pc := 35) C 20 rfl 1 rfl rfl ?_
      refine J_get (pc := 36) (v := .ref (aH 0)) C 21 rfl TB_l4 rfl 0 5 rfl (by decide) k206 rfl rfl ?_
      refine J_aload_n (pc := 39) C 22 rfl 1 rfl rfl ?_
      refine J_get (pc := 40) (v := .ref (aS 0)) C 23 rfl TB_l4 rfl 0 1 rfl (by decide) k197 rfl rfl ?_
      obtain ⟨q7, hq7, h⟩ := bnd h
      refine J_callV (pc := 43) (st2 := []) (st3 := []) (ws2 := (wEx aX (aT 0) (aT2 0) (aS 0) (aS2 0) (aP 0) (aH 0) aB aU ++ (wSeat G aT (aS 0) (vT 1) (vT 2) (vT 3) (vT 4 0) (vT 5 0) (vT 6) (vT 7) (vT 8) ++ (wSch G aS (vS 0) (vS 1) (vS 2) (vS 3) (vS 4) (vS 5) (vS 6) (vS 7) (vS 8 0) (vS 9 0) ++ (wHis G aH (q7.1) (q7.2.1) ((q7.2.2) 1 0)))))) C 24 rfl (c_X0_remember aS aH vS hA hV hZ hq7) V_X0_remember k223 i_X0_remember s_X0_remember rfl rfl ⟨Nat.le_of_ble_eq_true rfl, Nat.le_of_ble_eq_true rfl⟩ (Nat.le_of_ble_eq_true rfl) ⟨Nat.le_refl _, Nat.le_refl _⟩ 17 0 rfl rfl rfl (isC := [8, 9, 10, 11, 12, 13, 14, 15, 16, 17, 18, 19, 20, 21, 22, 23, 24, 25, 26, 27, 28, 29, 30, 31, 32, 33, 34, 35, 36, 37, 38, 39, 40, 41, 42, 43, 44, 45, 46, 47, 48, 49, 50, 51, 52, 53, 54, 55, 56, 57, 58, 59, 60, 61, 62, 63, 64, 65, 66, 67, 68, 69, 70, 71, 72]) (isR := [0, 1, 2, 3, 4, 5, 6, 7]) (N := 73) ⟨rfl, by decide +kernel, rfl, by decide +kernel, rfl, ⟨⟨_, rfl, rfl⟩, ⟨⟨_, rfl, rfl⟩, ⟨⟨_, rfl, rfl⟩, ⟨⟨_, rfl, rfl⟩, ⟨⟨_, rfl, rfl⟩, ⟨⟨_, rfl, rfl⟩, ⟨⟨_, rfl, rfl⟩, ⟨⟨_, rfl, rfl⟩, trivial⟩⟩⟩⟩⟩⟩⟩⟩⟩ rfl ?_
      refine J_aload_n (pc := 46) C 25 rfl 1 rfl rfl ?_
      refine J_get (pc := 47) (v := .ref (aS 0)) C 26 rfl TB_l4 rfl 0 1 rfl (by decide) k197 rfl rfl ?_
      refine J_get (pc := 50) (v := .ref (aS 1)) C 27 rfl TB_l2 rfl 8 0 rfl (by decide) k220 rfl rfl ?_
      refine J_iload_n (pc := 53) C 28 rfl 2 rfl rfl ?_
      refine J_iload_n (pc := 54) C 29 rfl 3 rfl rfl ?_
      obtain ⟨g8, h⟩ := gd_some h
      refine J_iast (pc := 55) (f := (vS 0)) (m := (Int32.toNatClampNeg x1)) C 30 (fun mm vv => (wEx aX (aT 0) (aT2 0) (aS 0) (aS2 0) (aP 0) (aH 0) aB aU ++ (wSeat G aT (aS 0) (vT 1) (vT 2) (vT 3) (vT 4 0) (vT 5 0) (vT 6) (vT 7) (vT 8) ++ (wSch G aS (upd (vS 0) mm vv) (vS 1) (vS 2) (vS 3) (vS 4) (vS 5) (vS 6) (vS 7) (vS 8 0) (vS 9 0) ++ (wHis G aH (q7.1) (q7.2.1) ((q7.2.2) 1 0)))))) rfl 9 rfl g8 rfl (fun _ _ => rfl) ?_
      refine J_aload_n (pc := 56) C 31 rfl 1 rfl rfl ?_
      refine J_get (pc := 57) (v := .ref (aT 0)) C 32 rfl TB_l4 rfl 0 0 rfl (by decide) k195 rfl rfl ?_
      obtain ⟨q9, hq9, h⟩ := bnd h
      refine J_callV (pc := 60) (st2 := []) (st3 := []) (ws2 := (wEx aX (aT 0) (aT2 0) (aS 0) (aS2 0) (aP 0) (aH 0) aB aU ++ (wSeat G aT (aS 0) (q9 1) (q9 2) (q9 3) (q9 4 0) (q9 5 0) (q9 6) (q9 7) (q9 8) ++ (wSch G aS (upd (vS 0) (Int32.toNatClampNeg x1) x2) (vS 1) (vS 2) (vS 3) (vS 4) (vS 5) (vS 6) (vS 7) (vS 8 0) (vS 9 0) ++ (wHis G aH (q7.1) (q7.2.1) ((q7.2.2) 1 0)))))) C 33 rfl (c_X3_seatAll aT aS vT (up2 vS 0 (Int32.toNatClampNeg x1) x2) hq9) V_X3_seatAll k214 i_X3_seatAll s_X3_seatAll rfl rfl ⟨Nat.le_of_ble_eq_true rfl, Nat.le_of_ble_eq_true rfl⟩ (Nat.le_of_ble_eq_true rfl) ⟨Nat.le_refl _, Nat.le_refl _⟩ 1 3 rfl rfl rfl (isC := [1, 2, 3, 4, 5, 6, 7, 8, 9, 10, 11, 12, 13, 14, 15, 16]) (isR := [0, 17, 18, 19, 20, 21, 22, 23, 24, 25, 26, 27, 28, 29, 30, 31, 32, 33, 34, 35, 36, 37, 38, 39, 40, 41, 42, 43, 44, 45, 46, 47, 48, 49, 50, 51, 52, 53, 54, 55, 56, 57, 58, 59, 60, 61, 62, 63, 64, 65, 66, 67, 68, 69, 70, 71, 72]) (N := 73) ⟨rfl, by decide +kernel, rfl, by decide +kernel, rfl, ⟨⟨_, rfl, rfl⟩, ⟨⟨_, rfl, rfl⟩, ⟨⟨_, rfl, rfl⟩, ⟨⟨_, rfl, rfl⟩, ⟨⟨_, rfl, rfl⟩, ⟨⟨_, rfl, rfl⟩, ⟨⟨_, rfl, rfl⟩, ⟨⟨_, rfl, rfl⟩, ⟨⟨_, rfl, rfl⟩, ⟨⟨_, rfl, rfl⟩, ⟨⟨_, rfl, rfl⟩, ⟨⟨_, rfl, rfl⟩, ⟨⟨_, rfl, rfl⟩, ⟨⟨_, rfl, rfl⟩, ⟨⟨_, rfl, rfl⟩, ⟨⟨_, rfl, rfl⟩, ⟨⟨_, rfl, rfl⟩, ⟨⟨_, rfl, rfl⟩, ⟨⟨_, rfl, rfl⟩, ⟨⟨_, rfl, rfl⟩, ⟨⟨_, rfl, rfl⟩, ⟨⟨_, rfl, rfl⟩, ⟨⟨_, rfl, rfl⟩, ⟨⟨_, rfl, rfl⟩, ⟨⟨_, rfl, rfl⟩, ⟨⟨_, rfl, rfl⟩, ⟨⟨_, rfl, rfl⟩, ⟨⟨_, rfl, rfl⟩, ⟨⟨_, rfl, rfl⟩, ⟨⟨_, rfl, rfl⟩, ⟨⟨_, rfl, rfl⟩, ⟨⟨_, rfl, rfl⟩, ⟨⟨_, rfl, rfl⟩, ⟨⟨_, rfl, rfl⟩, ⟨⟨_, rfl, rfl⟩, ⟨⟨_, rfl, rfl⟩, ⟨⟨_, rfl, rfl⟩, ⟨⟨_, rfl, rfl⟩, ⟨⟨_, rfl, rfl⟩, ⟨⟨_, rfl, rfl⟩, ⟨⟨_, rfl, rfl⟩, ⟨⟨_, rfl, rfl⟩, ⟨⟨_, rfl, rfl⟩, ⟨⟨_, rfl, rfl⟩, ⟨⟨_, rfl, rfl⟩, ⟨⟨_, rfl, rfl⟩, ⟨⟨_, rfl, rfl⟩, ⟨⟨_, rfl, rfl⟩, ⟨⟨_, rfl, rfl⟩, ⟨⟨_, rfl, rfl⟩, ⟨⟨_, rfl, rfl⟩, ⟨⟨_, rfl, rfl⟩, ⟨⟨_, rfl, rfl⟩, ⟨⟨_, rfl, rfl⟩, ⟨⟨_, rfl, rfl⟩, ⟨⟨_, rfl, rfl⟩, ⟨⟨_, rfl, rfl⟩, trivial⟩⟩⟩⟩⟩⟩⟩⟩⟩⟩⟩⟩⟩⟩⟩⟩⟩⟩⟩⟩⟩⟩⟩⟩⟩⟩⟩⟩⟩⟩⟩⟩⟩⟩⟩⟩⟩⟩⟩⟩⟩⟩⟩⟩⟩⟩⟩⟩⟩⟩⟩⟩⟩⟩⟩⟩⟩⟩ rfl ?_
      refine J_iload_n (pc := 63) C 34 rfl 0 rfl rfl ?_
      cases h
      exact J_iret (pc := 64) C 35 rfl
    · rw [if_pos c5] at h
      refine J_bipush (pc := 22) (v := (-2 : Int32)) C 12 rfl rfl ?_
      cases h
      exact J_iret (pc := 24) C 13 rfl
def T_X4_paper : List (Nat × ClassFile.Instr × Nat) := [(0, .iload_n 1, 1), (1, .invokestatic 70, 3), (4, .ifCond .ne 5, 3), (7, .iconst (-1), 1), (8, .ireturn, 1), (9, .iload_n 2, 1), (10, .invokestatic 74, 3), (13, .ifCond .eq 15, 3), (16, .iload_n 3, 1), (17, .bipush 30, 2), (19, .sipush 180, 3), (22, .invokestatic 55, 3), (25, .ifCond .ne 6, 3), (28, .bipush (-2), 2), (30, .ireturn, 1), (31, .aload_n 0, 1), (32, .getfield 20, 3), (35, .getfield 77, 3), (38, .iload_n 1, 1), (39, .iaload, 1), (40, .istore 4, 2), (42, .aload_n 0, 1), (43, .getfield 37, 3), (46, .aload_n 0, 1), (47, .getfield 20, 3), (50, .invokevirtual 66, 3), (53, .aload_n 0, 1), (54, .getfield 20, 3), (57, .getfield 77, 3), (60, .iload_n 1, 1), (61, .iload_n 2, 1), (62, .iastore, 1), (63, .aload_n 0, 1), (64, .getfield 20, 3), (67, .getfield 80, 3), (70, .iload_n 1, 1), (71, .iload_n 3, 1), (72, .iastore, 1), (73, .aload_n 0, 1), (74, .getfield 12, 3), (77, .invokevirtual 52, 3), (80, .iload 4, 2), (82, .ireturn, 1)]
theorem D_X4_paper : ∀ q ∈ T_X4_paper, decode cX4_paper q.1 = .ok q.2 := by decide +kernel
theorem V_X4_paper : Vy yX4_paper cX4_paper 5 (some .int) 3 := ⟨k235, k56, by decide +kernel⟩
theorem i_X4_paper : Cond.instanceMethod yX4_paper ∈ TB := k390
theorem s_X4_paper : Cond.selects yX4_paper.cls yX4_paper yX4_paper ∈ TB := k391
noncomputable def f_X4_paper (vT : JV) (vS : JV) (hA : Nat → Nat → Nat) (hV : Nat → JV) (hZ : JV) (x1 : Int32) (x2 : Int32) (x3 : Int32) : Option (Int32 × JV × JV × (Nat → Nat → Nat) × (Nat → JV) × JV) :=
  (f_X4_isPaper x1).bind (fun q1 => (if q1 = 0 then some ((-1 : Int32), vT, vS, hA, hV, hZ) else (f_X4_isStart x2).bind (fun q3 => (if q3 = 0 then some ((-2 : Int32), vT, vS, hA, hV, hZ) else (f_X4_isWithin x3 (30 : Int32) (180 : Int32)).bind (fun q5 => (if q5 = 0 then some ((-2 : Int32), vT, vS, hA, hV, hZ) else gd (inb x1 6) ((f_X0_remember vS hA hV hZ).bind (fun q8 => gd (inb x1 6) (gd (inb x1 6) ((f_X3_seatAll vT (up2 (up2 vS 1 (Int32.toNatClampNeg x1) x2) 2 (Int32.toNatClampNeg x1) x3)).bind (fun q11 => some (((vS 1) (Int32.toNatClampNeg x1)), q11, (up2 (up2 vS 1 (Int32.toNatClampNeg x1) x2) 2 (Int32.toNatClampNeg x1) x3), (q8.1), (q8.2.1), (q8.2.2)))))))))))))
set_option maxRecDepth 100000 in
set_option maxHeartbeats 4000000 in
theorem c_X4_paper {l : Launch} {G : JG} (aX : Nat) (aT : Nat → Nat) (aS : Nat → Nat) (aT2 : Nat → Nat) (aS2 : Nat → Nat) (aP : Nat → Nat) (aH : Nat → Nat) (aB : Nat) (aU : Nat) (vT : JV) (vS : JV) (hA : Nat → Nat → Nat) (hV : Nat → JV) (hZ : JV) (x1 : Int32) (x2 : Int32) (x3 : Int32) {Rz : Int32 × JV × JV × (Nat → Nat → Nat) × (Nat → JV) × JV} (h : f_X4_paper vT vS hA hV hZ x1 x2 x3 = some Rz) : JM l G yX4_paper cX4_paper 5 (some .int) 6 141 [.ref aX, .int x1, .int x2, .int x3] (wEx aX (aT 0) (aT2 0) (aS 0) (aS2 0) (aP 0) (aH 0) aB aU ++ (wSeat G aT (aS 0) (vT 1) (vT 2) (vT 3) (vT 4 0) (vT 5 0) (vT 6) (vT 7) (vT 8) ++ (wSch G aS (vS 0) (vS 1) (vS 2) (vS 3) (vS 4) (vS 5) (vS 6) (vS 7) (vS 8 0) (vS 9 0) ++ (wHis G aH hA hV (hZ 1 0))))) (wEx aX (aT 0) (aT2 0) (aS 0) (aS2 0) (aP 0) (aH 0) aB aU ++ (wSeat G aT (aS 0) ((Rz.2.1) 1) ((Rz.2.1) 2) ((Rz.2.1) 3) ((Rz.2.1) 4 0) ((Rz.2.1) 5 0) ((Rz.2.1) 6) ((Rz.2.1) 7) ((Rz.2.1) 8) ++ (wSch G aS ((Rz.2.2.1) 0) ((Rz.2.2.1) 1) ((Rz.2.2.1) 2) ((Rz.2.2.1) 3) ((Rz.2.2.1) 4) ((Rz.2.2.1) 5) ((Rz.2.2.1) 6) ((Rz.2.2.1) 7) ((Rz.2.2.1) 8 0) ((Rz.2.2.1) 9 0) ++ (wHis G aH (Rz.2.2.2.1) (Rz.2.2.2.2.1) ((Rz.2.2.2.2.2) 1 0))))) (some (.int (Rz.1))) := by
  refine JM.of (own := RX4) (tb := T_X4_paper) (by decide) (Nat.le_of_ble_eq_true rfl) D_X4_paper rfl (fun X C => ?_)
  refine J_sub (lv' := [(0, .ref aX), (1, .int x1), (2, .int x2), (3, .int x3)]) [0, 1, 2, 3] rfl ?_
  unfold f_X4_paper at h
  refine J_iload_n (pc := 0) C 0 rfl 1 rfl rfl ?_
  obtain ⟨q1, hq1, h⟩ := bnd h
  refine J_callS (pc := 1) (st2 := []) (st3 := [.int q1]) (ws2 := (wEx aX (aT 0) (aT2 0) (aS 0) (aS2 0) (aP 0) (aH 0) aB aU ++ (wSeat G aT (aS 0) (vT 1) (vT 2) (vT 3) (vT 4 0) (vT 5 0) (vT 6) (vT 7) (vT 8) ++ (wSch G aS (vS 0) (vS 1) (vS 2) (vS 3) (vS 4) (vS 5) (vS 6) (vS 7) (vS 8 0) (vS 9 0) ++ (wHis G aH hA hV (hZ 1 0)))))) C 1 rfl (c_X4_isPaper x1 hq1) V_X4_isPaper k231 t_X4_isPaper rfl rfl ⟨Nat.le_of_ble_eq_true rfl, Nat.le_of_ble_eq_true rfl⟩ (Nat.le_of_ble_eq_true rfl) ⟨Nat.le_refl _, Nat.le_refl _⟩ (isC := []) (isR := [0, 1, 2, 3, 4, 5, 6, 7, 8, 9, 10, 11, 12, 13, 14, 15, 16, 17, 18, 19, 20, 21, 22, 23, 24, 25, 26, 27, 28, 29, 30, 31, 32, 33, 34, 35, 36, 37, 38, 39, 40, 41, 42, 43, 44, 45, 46, 47, 48, 49, 50, 51, 52, 53, 54, 55, 56, 57, 58, 59, 60, 61, 62, 63, 64, 65, 66, 67, 68, 69, 70, 71, 72]) (N := 73) ⟨rfl, by decide +kernel, rfl, by decide +kernel, rfl, ⟨⟨_, rfl, rfl⟩, ⟨⟨_, rfl, rfl⟩, ⟨⟨_, rfl, rfl⟩, ⟨⟨_, rfl, rfl⟩, ⟨⟨_, rfl, rfl⟩, ⟨⟨_, rfl, rfl⟩, ⟨⟨_, rfl, rfl⟩, ⟨⟨_, rfl, rfl⟩, ⟨⟨_, rfl, rfl⟩, ⟨⟨_, rfl, rfl⟩, ⟨⟨_, rfl, rfl⟩, ⟨⟨_, rfl, rfl⟩, ⟨⟨_, rfl, rfl⟩, ⟨⟨_, rfl, rfl⟩, ⟨⟨_, rfl, rfl⟩, ⟨⟨_, rfl, rfl⟩, ⟨⟨_, rfl, rfl⟩, ⟨⟨_, rfl, rfl⟩, ⟨⟨_, rfl, rfl⟩, ⟨⟨_, rfl, rfl⟩, ⟨⟨_, rfl, rfl⟩, ⟨⟨_, rfl, rfl⟩, ⟨⟨_, rfl, rfl⟩, ⟨⟨_, rfl, rfl⟩, ⟨⟨_, rfl, rfl⟩, ⟨⟨_, rfl, rfl⟩, ⟨⟨_, rfl, rfl⟩, ⟨⟨_, rfl, rfl⟩, ⟨⟨_, rfl, rfl⟩, ⟨⟨_, rfl, rfl⟩, ⟨⟨_, rfl, rfl⟩, ⟨⟨_, rfl, rfl⟩, ⟨⟨_, rfl, rfl⟩, ⟨⟨_, rfl, rfl⟩, ⟨⟨_, rfl, rfl⟩, ⟨⟨_, rfl, rfl⟩, ⟨⟨_, rfl, rfl⟩, ⟨⟨_, rfl, rfl⟩, ⟨⟨_, rfl, rfl⟩, ⟨⟨_, rfl, rfl⟩, ⟨⟨_, rfl, rfl⟩, ⟨⟨_, rfl, rfl⟩, ⟨⟨_, rfl, rfl⟩, ⟨⟨_, rfl, rfl⟩, ⟨⟨_, rfl, rfl⟩, ⟨⟨_, rfl, rfl⟩, ⟨⟨_, rfl, rfl⟩, ⟨⟨_, rfl, rfl⟩, ⟨⟨_, rfl, rfl⟩, ⟨⟨_, rfl, rfl⟩, ⟨⟨_, rfl, rfl⟩, ⟨⟨_, rfl, rfl⟩, ⟨⟨_, rfl, rfl⟩, ⟨⟨_, rfl, rfl⟩, ⟨⟨_, rfl, rfl⟩, ⟨⟨_, rfl, rfl⟩, ⟨⟨_, rfl, rfl⟩, ⟨⟨_, rfl, rfl⟩, ⟨⟨_, rfl, rfl⟩, ⟨⟨_, rfl, rfl⟩, ⟨⟨_, rfl, rfl⟩, ⟨⟨_, rfl, rfl⟩, ⟨⟨_, rfl, rfl⟩, ⟨⟨_, rfl, rfl⟩, ⟨⟨_, rfl, rfl⟩, ⟨⟨_, rfl, rfl⟩, ⟨⟨_, rfl, rfl⟩, ⟨⟨_, rfl, rfl⟩, ⟨⟨_, rfl, rfl⟩, ⟨⟨_, rfl, rfl⟩, ⟨⟨_, rfl, rfl⟩, ⟨⟨_, rfl, rfl⟩, ⟨⟨_, rfl, rfl⟩, trivial⟩⟩⟩⟩⟩⟩⟩⟩⟩⟩⟩⟩⟩⟩⟩⟩⟩⟩⟩⟩⟩⟩⟩⟩⟩⟩⟩⟩⟩⟩⟩⟩⟩⟩⟩⟩⟩⟩⟩⟩⟩⟩⟩⟩⟩⟩⟩⟩⟩⟩⟩⟩⟩⟩⟩⟩⟩⟩⟩⟩⟩⟩⟩⟩⟩⟩⟩⟩⟩⟩⟩⟩⟩⟩ rfl ?_
  refine J_if_ne (pc := 4) (tgt := 9) C 2 rfl rfl (fun c2 => ?_) (fun c2 => ?_)
  · rw [if_neg c2] at h
    refine J_iload_n (pc := 9) C 5 rfl 2 rfl rfl ?_
    obtain ⟨q3, hq3, h⟩ := bnd h
    refine J_callS (pc := 10) (st2 := []) (st3 := [.int q3]) (ws2 := (wEx aX (aT 0) (aT2 0) (aS 0) (aS2 0) (aP 0) (aH 0) aB aU ++ (wSeat G aT (aS 0) (vT 1) (vT 2) (vT 3) (vT 4 0) (vT 5 0) (vT 6) (vT 7) (vT 8) ++ (wSch G aS (vS 0) (vS 1) (vS 2) (vS 3) (vS 4) (vS 5) (vS 6) (vS 7) (vS 8 0) (vS 9 0) ++ (wHis G aH hA hV (hZ 1 0)))))) C 6 rfl (c_X4_isStart x2 hq3) V_X4_isStart k233 t_X4_isStart rfl rfl ⟨Nat.le_of_ble_eq_true rfl, Nat.le_of_ble_eq_true rfl⟩ (Nat.le_of_ble_eq_true rfl) ⟨Nat.le_refl _, Nat.le_refl _⟩ (isC := []) (isR := [0, 1, 2, 3, 4, 5, 6, 7, 8, 9, 10, 11, 12, 13, 14, 15, 16, 17, 18, 19, 20, 21, 22, 23, 24, 25, 26, 27, 28, 29, 30, 31, 32, 33, 34, 35, 36, 37, 38, 39, 40, 41, 42, 43, 44, 45, 46, 47, 48, 49, 50, 51, 52, 53, 54, 55, 56, 57, 58, 59, 60, 61, 62, 63, 64, 65, 66, 67, 68, 69, 70, 71, 72]) (N := 73) ⟨rfl, by decide +kernel, rfl, by decide +kernel, rfl, ⟨⟨_, rfl, rfl⟩, ⟨⟨_, rfl, rfl⟩, ⟨⟨_, rfl, rfl⟩, ⟨⟨_, rfl, rfl⟩, ⟨⟨_, rfl, rfl⟩, ⟨⟨_, rfl, rfl⟩, ⟨⟨_, rfl, rfl⟩, ⟨⟨_, rfl, rfl⟩, ⟨⟨_, rfl, rfl⟩, ⟨⟨_, rfl, rfl⟩, ⟨⟨_, rfl, rfl⟩, ⟨⟨_, rfl, rfl⟩, ⟨⟨_, rfl, rfl⟩, ⟨⟨_, rfl, rfl⟩, ⟨⟨_, rfl, rfl⟩, ⟨⟨_, rfl, rfl⟩, ⟨⟨_, rfl, rfl⟩, ⟨⟨_, rfl, rfl⟩, ⟨⟨_, rfl, rfl⟩, ⟨⟨_, rfl, rfl⟩, ⟨⟨_, rfl, rfl⟩, ⟨⟨_, rfl, rfl⟩, ⟨⟨_, rfl, rfl⟩, ⟨⟨_, rfl, rfl⟩, ⟨⟨_, rfl, rfl⟩, ⟨⟨_, rfl, rfl⟩, ⟨⟨_, rfl, rfl⟩, ⟨⟨_, rfl, rfl⟩, ⟨⟨_, rfl, rfl⟩, ⟨⟨_, rfl, rfl⟩, ⟨⟨_, rfl, rfl⟩, ⟨⟨_, rfl, rfl⟩, ⟨⟨_, rfl, rfl⟩, ⟨⟨_, rfl, rfl⟩, ⟨⟨_, rfl, rfl⟩, ⟨⟨_, rfl, rfl⟩, ⟨⟨_, rfl, rfl⟩, ⟨⟨_, rfl, rfl⟩, ⟨⟨_, rfl, rfl⟩, ⟨⟨_, rfl, rfl⟩, ⟨⟨_, rfl, rfl⟩, ⟨⟨_, rfl, rfl⟩, ⟨⟨_, rfl, rfl⟩, ⟨⟨_, rfl, rfl⟩, ⟨⟨_, rfl, rfl⟩, ⟨⟨_, rfl, rfl⟩, ⟨⟨_, rfl, rfl⟩, ⟨⟨_, rfl, rfl⟩, ⟨⟨_, rfl, rfl⟩, ⟨⟨_, rfl, rfl⟩, ⟨⟨_, rfl, rfl⟩, ⟨⟨_, rfl, rfl⟩, ⟨⟨_, rfl, rfl⟩, ⟨⟨_, rfl, rfl⟩, ⟨⟨_, rfl, rfl⟩, ⟨⟨_, rfl, rfl⟩, ⟨⟨_, rfl, rfl⟩, ⟨⟨_, rfl, rfl⟩, ⟨⟨_, rfl, rfl⟩, ⟨⟨_, rfl, rfl⟩, ⟨⟨_, rfl, rfl⟩, ⟨⟨_, rfl, rfl⟩, ⟨⟨_, rfl, rfl⟩, ⟨⟨_, rfl, rfl⟩, ⟨⟨_, rfl, rfl⟩, ⟨⟨_, rfl, rfl⟩, ⟨⟨_, rfl, rfl⟩, ⟨⟨_, rfl, rfl⟩, ⟨⟨_, rfl, rfl⟩, ⟨⟨_, rfl, rfl⟩, ⟨⟨_, rfl, rfl⟩, ⟨⟨_, rfl, rfl⟩, ⟨⟨_, rfl, rfl⟩, trivial⟩⟩⟩⟩⟩⟩⟩⟩⟩⟩⟩⟩⟩⟩⟩⟩⟩⟩⟩⟩⟩⟩⟩⟩⟩⟩⟩⟩⟩⟩⟩⟩⟩⟩⟩⟩⟩⟩⟩⟩⟩⟩⟩⟩⟩⟩⟩⟩⟩⟩⟩⟩⟩⟩⟩⟩⟩⟩⟩⟩⟩⟩⟩⟩⟩⟩⟩⟩⟩⟩⟩⟩⟩⟩ rfl ?_
    refine J_if_eq (pc := 13) (tgt := 28) C 7 rfl rfl (fun c4 => ?_) (fun c4 => ?_)
    · rw [if_pos c4] at h
      refine J_bipush (pc := 28) (v := (-2 : Int32)) C 13 rfl rfl ?_
      cases h
      exact J_iret (pc := 30) C 14 rfl
    · rw [if_neg c4] at h
      refine J_iload_n (pc := 16) C 8 rfl 3 rfl rfl ?_
      refine J_bipush (pc := 17) (v := (30 : Int32)) C 9 rfl rfl ?_
      refine J_sipush (pc := 19) (v := (180 : Int32)) C 10 rfl rfl ?_
      obtain ⟨q5, hq5, h⟩ := bnd h
      refine J_callS (pc := 22) (st2 := []) (st3 := [.int q5]) (ws2 := (wEx aX (aT 0) (aT2 0) (aS 0) (aS2 0) (aP 0) (aH 0) aB aU ++ (wSeat G aT (aS 0) (vT 1) (vT 2) (vT 3) (vT 4 0) (vT 5 0) (vT 6) (vT 7) (vT 8) ++ (wSch G aS (vS 0) (vS 1) (vS 2) (vS 3) (vS 4) (vS 5) (vS 6) (vS 7) (vS 8 0) (vS 9 0) ++ (wHis G aH hA hV (hZ 1 0)))))) C 11 rfl (c_X4_isWithin x3 (30 : Int32) (180 : Int32) hq5) V_X4_isWithin k221 t_X4_isWithin rfl rfl ⟨Nat.le_of_ble_eq_true rfl, Nat.le_of_ble_eq_true rfl⟩ (Nat.le_of_ble_eq_true rfl) ⟨Nat.le_refl _, Nat.le_refl _⟩ (isC := []) (isR := [0, 1, 2, 3, 4, 5, 6, 7, 8, 9, 10, 11, 12, 13, 14, 15, 16, 17, 18, 19, 20, 21, 22, 23, 24, 25, 26, 27, 28, 29, 30, 31, 32, 33, 34, 35, 36, 37, 38, 39, 40, 41, 42, 43, 44, 45, 46, 47, 48, 49, 50, 51, 52, 53, 54, 55, 56, 57, 58, 59, 60, 61, 62, 63, 64, 65, 66, 67, 68, 69, 70, 71, 72]) (N := 73) ⟨rfl, by decide +kernel, rfl, by decide +kernel, rfl, ⟨⟨_, rfl, rfl⟩, ⟨⟨_, rfl, rfl⟩, ⟨⟨_, rfl, rfl⟩, ⟨⟨_, rfl, rfl⟩, ⟨⟨_, rfl, rfl⟩, ⟨⟨_, rfl, rfl⟩, ⟨⟨_, rfl, rfl⟩, ⟨⟨_, rfl, rfl⟩, ⟨⟨_, rfl, rfl⟩, ⟨⟨_, rfl, rfl⟩, ⟨⟨_, rfl, rfl⟩, ⟨⟨_, rfl, rfl⟩, ⟨⟨_, rfl, rfl⟩, ⟨⟨_, rfl, rfl⟩, ⟨⟨_, rfl, rfl⟩, ⟨⟨_, rfl, rfl⟩, ⟨⟨_, rfl, rfl⟩, ⟨⟨_, rfl, rfl⟩, ⟨⟨_, rfl, rfl⟩, ⟨⟨_, rfl, rfl⟩, ⟨⟨_, rfl, rfl⟩, ⟨⟨_, rfl, rfl⟩, ⟨⟨_, rfl, rfl⟩, ⟨⟨_, rfl, rfl⟩, ⟨⟨_, rfl, rfl⟩, ⟨⟨_, rfl, rfl⟩, ⟨⟨_, rfl, rfl⟩, ⟨⟨_, rfl, rfl⟩, ⟨⟨_, rfl, rfl⟩, ⟨⟨_, rfl, rfl⟩, ⟨⟨_, rfl, rfl⟩, ⟨⟨_, rfl, rfl⟩, ⟨⟨_, rfl, rfl⟩, ⟨⟨_, rfl, rfl⟩, ⟨⟨_, rfl, rfl⟩, ⟨⟨_, rfl, rfl⟩, ⟨⟨_, rfl, rfl⟩, ⟨⟨_, rfl, rfl⟩, ⟨⟨_, rfl, rfl⟩, ⟨⟨_, rfl, rfl⟩, ⟨⟨_, rfl, rfl⟩, ⟨⟨_, rfl, rfl⟩, ⟨⟨_, rfl, rfl⟩, ⟨⟨_, rfl, rfl⟩, ⟨⟨_, rfl, rfl⟩, ⟨⟨_, rfl, rfl⟩, ⟨⟨_, rfl, rfl⟩, ⟨⟨_, rfl, rfl⟩, ⟨⟨_, rfl, rfl⟩, ⟨⟨_, rfl, rfl⟩, ⟨⟨_, rfl, rfl⟩, ⟨⟨_, rfl, rfl⟩, ⟨⟨_, rfl, rfl⟩, ⟨⟨_, rfl, rfl⟩, ⟨⟨_, rfl, rfl⟩, ⟨⟨_, rfl, rfl⟩, ⟨⟨_, rfl, rfl⟩, ⟨⟨_, rfl, rfl⟩, ⟨⟨_, rfl, rfl⟩, ⟨⟨_, rfl, rfl⟩, ⟨⟨_, rfl, rfl⟩, ⟨⟨_, rfl, rfl⟩, ⟨⟨_, rfl, rfl⟩, ⟨⟨_, rfl, rfl⟩, ⟨⟨_, rfl, rfl⟩, ⟨⟨_, rfl, rfl⟩, ⟨⟨_, rfl, rfl⟩, ⟨⟨_, rfl, rfl⟩, ⟨⟨_, rfl, rfl⟩, ⟨⟨_, rfl, rfl⟩, ⟨⟨_, rfl, rfl⟩, ⟨⟨_, rfl, rfl⟩, ⟨⟨_, rfl, rfl⟩, trivial⟩⟩⟩⟩⟩⟩⟩⟩⟩⟩⟩⟩⟩⟩⟩⟩⟩⟩⟩⟩⟩⟩⟩⟩⟩⟩⟩⟩⟩⟩⟩⟩⟩⟩⟩⟩⟩⟩⟩⟩⟩⟩⟩⟩⟩⟩⟩⟩⟩⟩⟩⟩⟩⟩⟩⟩⟩⟩⟩⟩⟩⟩⟩⟩⟩⟩⟩⟩⟩⟩⟩⟩⟩⟩ rfl ?_
      refine J_if_ne (pc := 25) (tgt := 31) C 12 rfl rfl (fun c6 => ?_) (fun c6 => ?_)
      · rw [if_neg c6] at h
        refine J_aload_n (pc := 31) C 15 rfl 0 rfl rfl ?_
        refine J_get (pc := 32) (v := .ref (aS 0)) C 16 rfl TB_l4 rfl 0 1 rfl (by decide) k197 rfl rfl ?_
        refine J_get (pc := 35) (v := .ref (aS 2)) C 17 rfl TB_l2 rfl 8 1 rfl (by decide) k229 rfl rfl ?_
        refine J_iload_n (pc := 38) C 18 rfl 1 rfl rfl ?_
        obtain ⟨g7, h⟩ := gd_some h
        refine J_iald (pc := 39) (f := (vS 1)) (v := ((vS 1) (Int32.toNatClampNeg x1))) C 19 rfl 10 rfl g7 rfl ?_
        refine J_istore (pc := 40) (lv' := [(4, .int ((vS 1) (Int32.toNatClampNeg x1))), (0, .ref aX), (1, .int x1), (2, .int x2), (3, .int x3)]) C 20 rfl (by decide) rfl ?_
        refine J_aload_n (pc := 42) C 21 rfl 1 rfl rfl ?_
        refine J_get (pc := 43) (v := .ref (aH 0)) C 22 rfl TB_l4 rfl 0 5 rfl (by decide) k206 rfl rfl ?_
        refine J_aload_n (pc := 46) C 23 rfl 1 rfl rfl ?_
        refine J_get (pc := 47) (v := .ref (aS 0)) C 24 rfl TB_l4 rfl 0 1 rfl (by decide) k197 rfl rfl ?_
        obtain ⟨q8, hq8, h⟩ := bnd h
        refine J_callV (pc := 50) (st2 := []) (st3 := []) (ws2 := (wEx aX (aT 0) (aT2 0) (aS 0) (aS2 0) (aP 0) (aH 0) aB aU ++ (wSeat G aT (aS 0) (vT 1) (vT 2) (vT 3) (vT 4 0) (vT 5 0) (vT 6) (vT 7) (vT 8) ++ (wSch G aS (vS 0) (vS 1) (vS 2) (vS 3) (vS 4) (vS 5) (vS 6) (vS 7) (vS 8 0) (vS 9 0) ++ (wHis G aH (q8.1) (q8.2.1) ((q8.2.2) 1 0)))))) C 25 rfl (c_X0_remember aS aH vS hA hV hZ hq8) V_X0_remember k223 i_X0_remember s_X0_remember rfl rfl ⟨Nat.le_of_ble_eq_true rfl, Nat.le_of_ble_eq_true rfl⟩ (Nat.le_of_ble_eq_true rfl) ⟨Nat.le_refl _, Nat.le_refl _⟩ 17 0 rfl rfl rfl (isC := [8, 9, 10, 11, 12, 13, 14, 15, 16, 17, 18, 19, 20, 21, 22, 23, 24, 25, 26, 27, 28, 29, 30, 31, 32, 33, 34, 35, 36, 37, 38, 39, 40, 41, 42, 43, 44, 45, 46, 47, 48, 49, 50, 51, 52, 53, 54, 55, 56, 57, 58, 59, 60, 61, 62, 63, 64, 65, 66, 67, 68, 69, 70, 71, 72]) (isR := [0, 1, 2, 3, 4, 5, 6, 7]) (N := 73) ⟨rfl, by decide +kernel, rfl, by decide +kernel, rfl, ⟨⟨_, rfl, rfl⟩, ⟨⟨_, rfl, rfl⟩, ⟨⟨_, rfl, rfl⟩, ⟨⟨_, rfl, rfl⟩, ⟨⟨_, rfl, rfl⟩, ⟨⟨_, rfl, rfl⟩, ⟨⟨_, rfl, rfl⟩, ⟨⟨_, rfl, rfl⟩, trivial⟩⟩⟩⟩⟩⟩⟩⟩⟩ rfl ?_
        refine J_aload_n (pc := 53) C 26 rfl 1 rfl rfl ?_
        refine J_get (pc := 54) (v := .ref (aS 0)) C 27 rfl TB_l4 rfl 0 1 rfl (by decide) k197 rfl rfl ?_
        refine J_get (pc := 57) (v := .ref (aS 2)) C 28 rfl TB_l2 rfl 8 1 rfl (by decide) k229 rfl rfl ?_
        refine J_iload_n (pc := 60) C 29 rfl 2 rfl rfl ?_
        refine J_iload_n (pc := 61) C 30 rfl 3 rfl rfl ?_
        obtain ⟨g9, h⟩ := gd_some h
        refine J_iast (pc := 62) (f := (vS 1)) (m := (Int32.toNatClampNeg x1)) C 31 (fun mm vv => (wEx aX (aT 0) (aT2 0) (aS 0) (aS2 0) (aP 0) (aH 0) aB aU ++ (wSeat G aT (aS 0) (vT 1) (vT 2) (vT 3) (vT 4 0) (vT 5 0) (vT 6) (vT 7) (vT 8) ++ (wSch G aS (vS 0) (upd (vS 1) mm vv) (vS 2) (vS 3) (vS 4) (vS 5) (vS 6) (vS 7) (vS 8 0) (vS 9 0) ++ (wHis G aH (q8.1) (q8.2.1) ((q8.2.2) 1 0)))))) rfl 10 rfl g9 rfl (fun _ _ => rfl) ?_
        refine J_aload_n (pc := 63) C 32 rfl 1 rfl rfl ?_
        refine J_get (pc := 64) (v := .ref (aS 0)) C 33 rfl TB_l4 rfl 0 1 rfl (by decide) k197 rfl rfl ?_
        refine J_get (pc := 67) (v := .ref (aS 3)) C 34 rfl TB_l2 rfl 8 2 rfl (by decide) k230 rfl rfl ?_
        refine J_iload_n (pc := 70) C 35 rfl 2 rfl rfl ?_
        refine J_iload_n (pc := 71) C 36 rfl 4 rfl rfl ?_
        obtain ⟨g10, h⟩ := gd_some h
        refine J_iast (pc := 72) (f := (vS 2)) (m := (Int32.toNatClampNeg x1)) C 37 (fun mm vv => (wEx aX (aT 0) (aT2 0) (aS 0) (aS2 0) (aP 0) (aH 0) aB aU ++ (wSeat G aT (aS 0) (vT 1) (vT 2) (vT 3) (vT 4 0) (vT 5 0) (vT 6) (vT 7) (vT 8) ++ (wSch G aS (vS 0) (upd (vS 1) (Int32.toNatClampNeg x1) x2) (upd (vS 2) mm vv) (vS 3) (vS 4) (vS 5) (vS 6) (vS 7) (vS 8 0) (vS 9 0) ++ (wHis G aH (q8.1) (q8.2.1) ((q8.2.2) 1 0)))))) rfl 11 rfl g10 rfl (fun _ _ => rfl) ?_
        refine J_aload_n (pc := 73) C 38 rfl 1 rfl rfl ?_
        refine J_get (pc := 74) (v := .ref (aT 0)) C 39 rfl TB_l4 rfl 0 0 rfl (by decide) k195 rfl rfl ?_
        obtain ⟨q11, hq11, h⟩ := bnd h
        refine J_callV (pc := 77) (st2 := []) (st3 := []) (ws2 := (wEx aX (aT 0) (aT2 0) (aS 0) (aS2 0) (aP 0) (aH 0) aB aU ++ (wSeat G aT (aS 0) (q11 1) (q11 2) (q11 3) (q11 4 0) (q11 5 0) (q11 6) (q11 7) (q11 8) ++ (wSch G aS (vS 0) (upd (vS 1) (Int32.toNatClampNeg x1) x2) (upd (vS 2) (Int32.toNatClampNeg x1) x3) (vS 3) (vS 4) (vS 5) (vS 6) (vS 7) (vS 8 0) (vS 9 0) ++ (wHis G aH (q8.1) (q8.2.1) ((q8.2.2) 1 0)))))) C 40 rfl (c_X3_seatAll aT aS vT (up2 (up2 vS 1 (Int32.toNatClampNeg x1) x2) 2 (Int32.toNatClampNeg x1) x3) hq11) V_X3_seatAll k214 i_X3_seatAll s_X3_seatAll rfl rfl ⟨Nat.le_of_ble_eq_true rfl, Nat.le_of_ble_eq_true rfl⟩ (Nat.le_of_ble_eq_true rfl) ⟨Nat.le_refl _, Nat.le_refl _⟩ 1 3 rfl rfl rfl (isC := [1, 2, 3, 4, 5, 6, 7, 8, 9, 10, 11, 12, 13, 14, 15, 16]) (isR := [0, 17, 18, 19, 20, 21, 22, 23, 24, 25, 26, 27, 28, 29, 30, 31, 32, 33, 34, 35, 36, 37, 38, 39, 40, 41, 42, 43, 44, 45, 46, 47, 48, 49, 50, 51, 52, 53, 54, 55, 56, 57, 58, 59, 60, 61, 62, 63, 64, 65, 66, 67, 68, 69, 70, 71, 72]) (N := 73) ⟨rfl, by decide +kernel, rfl, by decide +kernel, rfl, ⟨⟨_, rfl, rfl⟩, ⟨⟨_, rfl, rfl⟩, ⟨⟨_, rfl, rfl⟩, ⟨⟨_, rfl, rfl⟩, ⟨⟨_, rfl, rfl⟩, ⟨⟨_, rfl, rfl⟩, ⟨⟨_, rfl, rfl⟩, ⟨⟨_, rfl, rfl⟩, ⟨⟨_, rfl, rfl⟩, ⟨⟨_, rfl, rfl⟩, ⟨⟨_, rfl, rfl⟩, ⟨⟨_, rfl, rfl⟩, ⟨⟨_, rfl, rfl⟩, ⟨⟨_, rfl, rfl⟩, ⟨⟨_, rfl, rfl⟩, ⟨⟨_, rfl, rfl⟩, ⟨⟨_, rfl, rfl⟩, ⟨⟨_, rfl, rfl⟩, ⟨⟨_, rfl, rfl⟩, ⟨⟨_, rfl, rfl⟩, ⟨⟨_, rfl, rfl⟩, ⟨⟨_, rfl, rfl⟩, ⟨⟨_, rfl, rfl⟩, ⟨⟨_, rfl, rfl⟩, ⟨⟨_, rfl, rfl⟩, ⟨⟨_, rfl, rfl⟩, ⟨⟨_, rfl, rfl⟩, ⟨⟨_, rfl, rfl⟩, ⟨⟨_, rfl, rfl⟩, ⟨⟨_, rfl, rfl⟩, ⟨⟨_, rfl, rfl⟩, ⟨⟨_, rfl, rfl⟩, ⟨⟨_, rfl, rfl⟩, ⟨⟨_, rfl, rfl⟩, ⟨⟨_, rfl, rfl⟩, ⟨⟨_, rfl, rfl⟩, ⟨⟨_, rfl, rfl⟩, ⟨⟨_, rfl, rfl⟩, ⟨⟨_, rfl, rfl⟩, ⟨⟨_, rfl, rfl⟩, ⟨⟨_, rfl, rfl⟩, ⟨⟨_, rfl, rfl⟩, ⟨⟨_, rfl, rfl⟩, ⟨⟨_, rfl, rfl⟩, ⟨⟨_, rfl, rfl⟩, ⟨⟨_, rfl, rfl⟩, ⟨⟨_, rfl, rfl⟩, ⟨⟨_, rfl, rfl⟩, ⟨⟨_, rfl, rfl⟩, ⟨⟨_, rfl, rfl⟩, ⟨⟨_, rfl, rfl⟩, ⟨⟨_, rfl, rfl⟩, ⟨⟨_, rfl, rfl⟩, ⟨⟨_, rfl, rfl⟩, ⟨⟨_, rfl, rfl⟩, ⟨⟨_, rfl, rfl⟩, ⟨⟨_, rfl, rfl⟩, trivial⟩⟩⟩⟩⟩⟩⟩⟩⟩⟩⟩⟩⟩⟩⟩⟩⟩⟩⟩⟩⟩⟩⟩⟩⟩⟩⟩⟩⟩⟩⟩⟩⟩⟩⟩⟩⟩⟩⟩⟩⟩⟩⟩⟩⟩⟩⟩⟩⟩⟩⟩⟩⟩⟩⟩⟩⟩⟩ rfl ?_
        refine J_iload (pc := 80) C 41 rfl 0 rfl ?_
        cases h
        exact J_iret (pc := 82) C 42 rfl
      · rw [if_pos c6] at h
        refine J_bipush (pc := 28) (v := (-2 : Int32)) C 13 rfl rfl ?_
        cases h
        exact J_iret (pc := 30) C 14 rfl
  · rw [if_pos c2] at h
    refine J_iconst (pc := 7) (v := (-1 : Int32)) C 3 rfl rfl ?_
    cases h
    exact J_iret (pc := 8) C 4 rfl
def T_X4_pupil : List (Nat × ClassFile.Instr × Nat) := [(0, .iload_n 1, 1), (1, .iload_n 2, 1), (2, .invokestatic 83, 3), (5, .ifCond .ne 6, 3), (8, .bipush (-2), 2), (10, .ireturn, 1), (11, .aload_n 0, 1), (12, .getfield 20, 3), (15, .getfield 87, 3), (18, .bipush 16, 2), (20, .if_icmp .lt 6, 3), (23, .bipush (-4), 2), (25, .ireturn, 1), (26, .aload_n 0, 1), (27, .getfield 20, 3), (30, .getfield 87, 3), (33, .istore 4, 2), (35, .aload_n 0, 1), (36, .getfield 37, 3), (39, .aload_n 0, 1), (40, .getfield 20, 3), (43, .invokevirtual 66, 3), (46, .aload_n 0, 1), (47, .getfield 20, 3), (50, .iload_n 1, 1), (51, .iload_n 2, 1), (52, .iload_n 3, 1), (53, .invokevirtual 91, 3), (56, .aload_n 0, 1), (57, .getfield 12, 3), (60, .invokevirtual 52, 3), (63, .iload 4, 2), (65, .ireturn, 1)]
theorem D_X4_pupil : ∀ q ∈ T_X4_pupil, decode cX4_pupil q.1 = .ok q.2 := by decide +kernel
theorem V_X4_pupil : Vy yX4_pupil cX4_pupil 5 (some .int) 3 := ⟨k243, k56, by decide +kernel⟩
theorem i_X4_pupil : Cond.instanceMethod yX4_pupil ∈ TB := k378
theorem s_X4_pupil : Cond.selects yX4_pupil.cls yX4_pupil yX4_pupil ∈ TB := k379
noncomputable def f_X4_pupil (vT : JV) (vS : JV) (hA : Nat → Nat → Nat) (hV : Nat → JV) (hZ : JV) (x1 : Int32) (x2 : Int32) (x3 : Int32) : Option (Int32 × JV × JV × (Nat → Nat → Nat) × (Nat → JV) × JV) :=
  (f_X4_isPupilData x1 x2).bind (fun q1 => (if q1 = 0 then some ((-2 : Int32), vT, vS, hA, hV, hZ) else (if (vS 8 0) < (16 : Int32) then (f_X0_remember vS hA hV hZ).bind (fun q4 => (f_X2_addPupil vS x1 x2 x3).bind (fun q5 => (f_X3_seatAll vT q5).bind (fun q6 => some ((vS 8 0), q6, q5, (q4.1), (q4.2.1), (q4.2.2))))) else some ((-4 : Int32), vT, vS, hA, hV, hZ))))
set_option maxRecDepth 100000 in
set_option maxHeartbeats 4000000 in
theorem c_X4_pupil {l : Launch} {G : JG} (aX : Nat) (aT : Nat → Nat) (aS : Nat → Nat) (aT2 : Nat → Nat) (aS2 : Nat → Nat) (aP : Nat → Nat) (aH : Nat → Nat) (aB : Nat) (aU : Nat) (vT : JV) (vS : JV) (hA : Nat → Nat → Nat) (hV : Nat → JV) (hZ : JV) (x1 : Int32) (x2 : Int32) (x3 : Int32) {Rz : Int32 × JV × JV × (Nat → Nat → Nat) × (Nat → JV) × JV} (h : f_X4_pupil vT vS hA hV hZ x1 x2 x3 = some Rz) : JM l G yX4_pupil cX4_pupil 5 (some .int) 6 141 [.ref aX, .int x1, .int x2, .int x3] (wEx aX (aT 0) (aT2 0) (aS 0) (aS2 0) (aP 0) (aH 0) aB aU ++ (wSeat G aT (aS 0) (vT 1) (vT 2) (vT 3) (vT 4 0) (vT 5 0) (vT 6) (vT 7) (vT 8) ++ (wSch G aS (vS 0) (vS 1) (vS 2) (vS 3) (vS 4) (vS 5) (vS 6) (vS 7) (vS 8 0) (vS 9 0) ++ (wHis G aH hA hV (hZ 1 0))))) (wEx aX (aT 0) (aT2 0) (aS 0) (aS2 0) (aP 0) (aH 0) aB aU ++ (wSeat G aT (aS 0) ((Rz.2.1) 1) ((Rz.2.1) 2) ((Rz.2.1) 3) ((Rz.2.1) 4 0) ((Rz.2.1) 5 0) ((Rz.2.1) 6) ((Rz.2.1) 7) ((Rz.2.1) 8) ++ (wSch G aS ((Rz.2.2.1) 0) ((Rz.2.2.1) 1) ((Rz.2.2.1) 2) ((Rz.2.2.1) 3) ((Rz.2.2.1) 4) ((Rz.2.2.1) 5) ((Rz.2.2.1) 6) ((Rz.2.2.1) 7) ((Rz.2.2.1) 8 0) ((Rz.2.2.1) 9 0) ++ (wHis G aH (Rz.2.2.2.1) (Rz.2.2.2.2.1) ((Rz.2.2.2.2.2) 1 0))))) (some (.int (Rz.1))) := by
  refine JM.of (own := RX4) (tb := T_X4_pupil) (by decide) (Nat.le_of_ble_eq_true rfl) D_X4_pupil rfl (fun X C => ?_)
  refine J_sub (lv' := [(0, .ref aX), (1, .int x1), (2, .int x2), (3, .int x3)]) [0, 1, 2, 3] rfl ?_
  unfold f_X4_pupil at h
  refine J_iload_n (pc := 0) C 0 rfl 1 rfl rfl ?_
  refine J_iload_n (pc := 1) C 1 rfl 2 rfl rfl ?_
  obtain ⟨q1, hq1, h⟩ := bnd h
  refine J_callS (pc := 2) (st2 := []) (st3 := [.int q1]) (ws2 := (wEx aX (aT 0) (aT2 0) (aS 0) (aS2 0) (aP 0) (aH 0) aB aU ++ (wSeat G aT (aS 0) (vT 1) (vT 2) (vT 3) (vT 4 0) (vT 5 0) (vT 6) (vT 7) (vT 8) ++ (wSch G aS (vS 0) (vS 1) (vS 2) (vS 3) (vS 4) (vS 5) (vS 6) (vS 7) (vS 8 0) (vS 9 0) ++ (wHis G aH hA hV (hZ 1 0)))))) C 2 rfl (c_X4_isPupilData x1 x2 hq1) V_X4_isPupilData k238 t_X4_isPupilData rfl rfl ⟨Nat.le_of_ble_eq_true rfl, Nat.le_of_ble_eq_true rfl⟩ (Nat.le_of_ble_eq_true rfl) ⟨Nat.le_refl _, Nat.le_refl _⟩ (isC := []) (isR := [0, 1, 2, 3, 4, 5, 6, 7, 8, 9, 10, 11, 12, 13, 14, 15, 16, 17, 18, 19, 20, 21, 22, 23, 24, 25, 26, 27, 28, 29, 30, 31, 32, 33, 34, 35, 36, 37, 38, 39, 40, 41, 42, 43, 44, 45, 46, 47, 48, 49, 50, 51, 52, 53, 54, 55, 56, 57, 58, 59, 60, 61, 62, 63, 64, 65, 66, 67, 68, 69, 70, 71, 72]) (N := 73) ⟨rfl, by decide +kernel, rfl, by decide +kernel, rfl, ⟨⟨_, rfl, rfl⟩, ⟨⟨_, rfl, rfl⟩, ⟨⟨_, rfl, rfl⟩, ⟨⟨_, rfl, rfl⟩, ⟨⟨_, rfl, rfl⟩, ⟨⟨_, rfl, rfl⟩, ⟨⟨_, rfl, rfl⟩, ⟨⟨_, rfl, rfl⟩, ⟨⟨_, rfl, rfl⟩, ⟨⟨_, rfl, rfl⟩, ⟨⟨_, rfl, rfl⟩, ⟨⟨_, rfl, rfl⟩, ⟨⟨_, rfl, rfl⟩, ⟨⟨_, rfl, rfl⟩, ⟨⟨_, rfl, rfl⟩, ⟨⟨_, rfl, rfl⟩, ⟨⟨_, rfl, rfl⟩, ⟨⟨_, rfl, rfl⟩, ⟨⟨_, rfl, rfl⟩, ⟨⟨_, rfl, rfl⟩, ⟨⟨_, rfl, rfl⟩, ⟨⟨_, rfl, rfl⟩, ⟨⟨_, rfl, rfl⟩, ⟨⟨_, rfl, rfl⟩, ⟨⟨_, rfl, rfl⟩, ⟨⟨_, rfl, rfl⟩, ⟨⟨_, rfl, rfl⟩, ⟨⟨_, rfl, rfl⟩, ⟨⟨_, rfl, rfl⟩, ⟨⟨_, rfl, rfl⟩, ⟨⟨_, rfl, rfl⟩, ⟨⟨_, rfl, rfl⟩, ⟨⟨_, rfl, rfl⟩, ⟨⟨_, rfl, rfl⟩, ⟨⟨_, rfl, rfl⟩, ⟨⟨_, rfl, rfl⟩, ⟨⟨_, rfl, rfl⟩, ⟨⟨_, rfl, rfl⟩, ⟨⟨_, rfl, rfl⟩, ⟨⟨_, rfl, rfl⟩, ⟨⟨_, rfl, rfl⟩, ⟨⟨_, rfl, rfl⟩, ⟨⟨_, rfl, rfl⟩, ⟨⟨_, rfl, rfl⟩, ⟨⟨_, rfl, rfl⟩, ⟨⟨_, rfl, rfl⟩, ⟨⟨_, rfl, rfl⟩, ⟨⟨_, rfl, rfl⟩, ⟨⟨_, rfl, rfl⟩, ⟨⟨_, rfl, rfl⟩, ⟨⟨_, rfl, rfl⟩, ⟨⟨_, rfl, rfl⟩, ⟨⟨_, rfl, rfl⟩, ⟨⟨_, rfl, rfl⟩, ⟨⟨_, rfl, rfl⟩, ⟨⟨_, rfl, rfl⟩, ⟨⟨_, rfl, rfl⟩, ⟨⟨_, rfl, rfl⟩, ⟨⟨_, rfl, rfl⟩, ⟨⟨_, rfl, rfl⟩, ⟨⟨_, rfl, rfl⟩, ⟨⟨_, rfl, rfl⟩, ⟨⟨_, rfl, rfl⟩, ⟨⟨_, rfl, rfl⟩, ⟨⟨_, rfl, rfl⟩, ⟨⟨_, rfl, rfl⟩, ⟨⟨_, rfl, rfl⟩, ⟨⟨_, rfl, rfl⟩, ⟨⟨_, rfl, rfl⟩, ⟨⟨_, rfl, rfl⟩, ⟨⟨_, rfl, rfl⟩, ⟨⟨_, rfl, rfl⟩, ⟨⟨_, rfl, rfl⟩, trivial⟩⟩⟩⟩⟩⟩⟩⟩⟩⟩⟩⟩⟩⟩⟩⟩⟩⟩⟩⟩⟩⟩⟩⟩⟩⟩⟩⟩⟩⟩⟩⟩⟩⟩⟩⟩⟩⟩⟩⟩⟩⟩⟩⟩⟩⟩⟩⟩⟩⟩⟩⟩⟩⟩⟩⟩⟩⟩⟩⟩⟩⟩⟩⟩⟩⟩⟩⟩⟩⟩⟩⟩⟩⟩ rfl ?_
  refine J_if_ne (pc := 5) (tgt := 11) C 3 rfl rfl (fun c2 => ?_) (fun c2 => ?_)
  · rw [if_neg c2] at h
    refine J_aload_n (pc := 11) C 6 rfl 0 rfl rfl ?_
    refine J_get (pc := 12) (v := .ref (aS 0)) C 7 rfl TB_l4 rfl 0 1 rfl (by decide) k197 rfl rfl ?_
    refine J_get (pc := 15) (v := .int (vS 8 0)) C 8 rfl TB_l2 rfl 8 8 rfl (by decide) k237 rfl rfl ?_
    refine J_bipush (pc := 18) (v := (16 : Int32)) C 9 rfl rfl ?_
    refine J_icmp_lt (pc := 20) (tgt := 26) C 10 rfl rfl (fun c3 => ?_) (fun c3 => ?_)
    · rw [if_pos c3] at h
      refine J_aload_n (pc := 26) C 13 rfl 0 rfl rfl ?_
      refine J_get (pc := 27) (v := .ref (aS 0)) C 14 rfl TB_l4 rfl 0 1 rfl (by decide) k197 rfl rfl ?_
      refine J_get (pc := 30) (v := .int (vS 8 0)) C 15 rfl TB_l2 rfl 8 8 rfl (by decide) k237 rfl rfl ?_
      refine J_istore (pc := 33) (lv' := [(4, .int (vS 8 0)), (0, .ref aX), (1, .int x1), (2, .int x2), (3, .int x3)]) C 16 rfl (by decide) rfl ?_
      refine J_aload_n (pc := 35) C 17 rfl 1 rfl rfl ?_
      refine J_get (pc := 36) (v := .ref (aH 0)) C 18 rfl TB_l4 rfl 0 5 rfl (by decide) k206 rfl rfl ?_
      refine J_aload_n (pc := 39) C 19 rfl 1 rfl rfl ?_
      refine J_get (pc := 40) (v := .ref (aS 0)) C 20 rfl TB_l4 rfl 0 1 rfl (by decide) k197 rfl rfl ?_
      obtain ⟨q4, hq4, h⟩ := bnd h
      refine J_callV (pc := 43) (st2 := []) (st3 := []) (ws2 := (wEx aX (aT 0) (aT2 0) (aS 0) (aS2 0) (aP 0) (aH 0) aB aU ++ (wSeat G aT (aS 0) (vT 1) (vT 2) (vT 3) (vT 4 0) (vT 5 0) (vT 6) (vT 7) (vT 8) ++ (wSch G aS (vS 0) (vS 1) (vS 2) (vS 3) (vS 4) (vS 5) (vS 6) (vS 7) (vS 8 0) (vS 9 0) ++ (wHis G aH (q4.1) (q4.2.1) ((q4.2.2) 1 0)))))) C 21 rfl (c_X0_remember aS aH vS hA hV hZ hq4) V_X0_remember k223 i_X0_remember s_X0_remember rfl rfl ⟨Nat.le_of_ble_eq_true rfl, Nat.le_of_ble_eq_true rfl⟩ (Nat.le_of_ble_eq_true rfl) ⟨Nat.le_refl _, Nat.le_refl _⟩ 17 0 rfl rfl rfl (isC := [8, 9, 10, 11, 12, 13, 14, 15, 16, 17, 18, 19, 20, 21, 22, 23, 24, 25, 26, 27, 28, 29, 30, 31, 32, 33, 34, 35, 36, 37, 38, 39, 40, 41, 42, 43, 44, 45, 46, 47, 48, 49, 50, 51, 52, 53, 54, 55, 56, 57, 58, 59, 60, 61, 62, 63, 64, 65, 66, 67, 68, 69, 70, 71, 72]) (isR := [0, 1, 2, 3, 4, 5, 6, 7]) (N := 73) ⟨rfl, by decide +kernel, rfl, by decide +kernel, rfl, ⟨⟨_, rfl, rfl⟩, ⟨⟨_, rfl, rfl⟩, ⟨⟨_, rfl, rfl⟩, ⟨⟨_, rfl, rfl⟩, ⟨⟨_, rfl, rfl⟩, ⟨⟨_, rfl, rfl⟩, ⟨⟨_, rfl, rfl⟩, ⟨⟨_, rfl, rfl⟩, trivial⟩⟩⟩⟩⟩⟩⟩⟩⟩ rfl ?_
      refine J_aload_n (pc := 46) C 22 rfl 1 rfl rfl ?_
      refine J_get (pc := 47) (v := .ref (aS 0)) C 23 rfl TB_l4 rfl 0 1 rfl (by decide) k197 rfl rfl ?_
      refine J_iload_n (pc := 50) C 24 rfl 2 rfl rfl ?_
      refine J_iload_n (pc := 51) C 25 rfl 3 rfl rfl ?_
      refine J_iload_n (pc := 52) C 26 rfl 4 rfl rfl ?_
      obtain ⟨q5, hq5, h⟩ := bnd h
      refine J_callV (pc := 53) (st2 := []) (st3 := []) (ws2 := (wEx aX (aT 0) (aT2 0) (aS 0) (aS2 0) (aP 0) (aH 0) aB aU ++ (wSeat G aT (aS 0) (vT 1) (vT 2) (vT 3) (vT 4 0) (vT 5 0) (vT 6) (vT 7) (vT 8) ++ (wSch G aS (q5 0) (q5 1) (q5 2) (q5 3) (q5 4) (q5 5) (q5 6) (q5 7) (q5 8 0) (q5 9 0) ++ (wHis G aH (q4.1) (q4.2.1) ((q4.2.2) 1 0)))))) C 27 rfl (c_X2_addPupil aS vS x1 x2 x3 hq5) V_X2_addPupil k240 i_X2_addPupil s_X2_addPupil rfl rfl ⟨Nat.le_of_ble_eq_true rfl, Nat.le_of_ble_eq_true rfl⟩ (Nat.le_of_ble_eq_true rfl) ⟨Nat.le_refl _, Nat.le_refl _⟩ 8 2 rfl rfl rfl (isC := [8, 9, 10, 11, 12, 13, 14, 15, 16]) (isR := [0, 1, 2, 3, 4, 5, 6, 7, 17, 18, 19, 20, 21, 22, 23, 24, 25, 26, 27, 28, 29, 30, 31, 32, 33, 34, 35, 36, 37, 38, 39, 40, 41, 42, 43, 44, 45, 46, 47, 48, 49, 50, 51, 52, 53, 54, 55, 56, 57, 58, 59, 60, 61, 62, 63, 64, 65, 66, 67, 68, 69, 70, 71, 72]) (N := 73) ⟨rfl, by decide +kernel, rfl, by decide +kernel, rfl, ⟨⟨_, rfl, rfl⟩, ⟨⟨_, rfl, rfl⟩, ⟨⟨_, rfl, rfl⟩, ⟨⟨_, rfl, rfl⟩, ⟨⟨_, rfl, rfl⟩, ⟨⟨_, rfl, rfl⟩, ⟨⟨_, rfl, rfl⟩, ⟨⟨_, rfl, rfl⟩, ⟨⟨_, rfl, rfl⟩, ⟨⟨_, rfl, rfl⟩, ⟨⟨_, rfl, rfl⟩, ⟨⟨_, rfl, rfl⟩, ⟨⟨_, rfl, rfl⟩, ⟨⟨_, rfl, rfl⟩, ⟨⟨_, rfl, rfl⟩, ⟨⟨_, rfl, rfl⟩, ⟨⟨_, rfl, rfl⟩, ⟨⟨_, rfl, rfl⟩, ⟨⟨_, rfl, rfl⟩, ⟨⟨_, rfl, rfl⟩, ⟨⟨_, rfl, rfl⟩, ⟨⟨_, rfl, rfl⟩, ⟨⟨_, rfl, rfl⟩, ⟨⟨_, rfl, rfl⟩, ⟨⟨_, rfl, rfl⟩, ⟨⟨_, rfl, rfl⟩, ⟨⟨_, rfl, rfl⟩, ⟨⟨_, rfl, rfl⟩, ⟨⟨_, rfl, rfl⟩, ⟨⟨_, rfl, rfl⟩, ⟨⟨_, rfl, rfl⟩, ⟨⟨_, rfl, rfl⟩, ⟨⟨_, rfl, rfl⟩, ⟨⟨_, rfl, rfl⟩, ⟨⟨_, rfl, rfl⟩, ⟨⟨_, rfl, rfl⟩, ⟨⟨_, rfl, rfl⟩, ⟨⟨_, rfl, rfl⟩, ⟨⟨_, rfl, rfl⟩, ⟨⟨_, rfl, rfl⟩, ⟨⟨_, rfl, rfl⟩, ⟨⟨_, rfl, rfl⟩, ⟨⟨_, rfl, rfl⟩, ⟨⟨_, rfl, rfl⟩, ⟨⟨_, rfl, rfl⟩, ⟨⟨_, rfl, rfl⟩, ⟨⟨_, rfl, rfl⟩, ⟨⟨_, rfl, rfl⟩, ⟨⟨_, rfl, rfl⟩, ⟨⟨_, rfl, rfl⟩, ⟨⟨_, rfl, rfl⟩, ⟨⟨_, rfl, rfl⟩, ⟨⟨_, rfl, rfl⟩, ⟨⟨_, rfl, rfl⟩, ⟨⟨_, rfl, rfl⟩, ⟨⟨_, rfl, rfl⟩, ⟨⟨_, rfl, rfl⟩, ⟨⟨_, rfl, rfl⟩, ⟨⟨_, rfl, rfl⟩, ⟨⟨_, rfl, rfl⟩, ⟨⟨_, rfl, rfl⟩, ⟨⟨_, rfl, rfl⟩, ⟨⟨_, rfl, rfl⟩, ⟨⟨_, rfl, rfl⟩, trivial⟩⟩⟩⟩⟩⟩⟩⟩⟩⟩⟩⟩⟩⟩⟩⟩⟩⟩⟩⟩⟩⟩⟩⟩⟩⟩⟩⟩⟩⟩⟩⟩⟩⟩⟩⟩⟩⟩⟩⟩⟩⟩⟩⟩⟩⟩⟩⟩⟩⟩⟩⟩⟩⟩⟩⟩⟩⟩⟩⟩⟩⟩⟩⟩⟩ rfl ?_
      refine J_aload_n (pc := 56) C 28 rfl 1 rfl rfl ?_
      refine J_get (pc := 57) (v := .ref (aT 0)) C 29 rfl TB_l4 rfl 0 0 rfl (by decide) k195 rfl rfl ?_
      obtain ⟨q6, hq6, h⟩ := bnd h
      refine J_callV (pc := 60) (st2 := []) (st3 := []) (ws2 := (wEx aX (aT 0) (aT2 0) (aS 0) (aS2 0) (aP 0) (aH 0) aB aU ++ (wSeat G aT (aS 0) (q6 1) (q6 2) (q6 3) (q6 4 0) (q6 5 0) (q6 6) (q6 7) (q6 8) ++ (wSch G aS (q5 0) (q5 1) (q5 2) (q5 3) (q5 4) (q5 5) (q5 6) (q5 7) (q5 8 0) (q5 9 0) ++ (wHis G aH (q4.1) (q4.2.1) ((q4.2.2) 1 0)))))) C 30 rfl (c_X3_seatAll aT aS vT q5 hq6) V_X3_seatAll k214 i_X3_seatAll s_X3_seatAll rfl rfl ⟨Nat.le_of_ble_eq_true rfl, Nat.le_of_ble_eq_true rfl⟩ (Nat.le_of_ble_eq_true rfl) ⟨Nat.le_refl _, Nat.le_refl _⟩ 1 3 rfl rfl rfl (isC := [1, 2, 3, 4, 5, 6, 7, 8, 9, 10, 11, 12, 13, 14, 15, 16]) (isR := [0, 17, 18, 19, 20, 21, 22, 23, 24, 25, 26, 27, 28, 29, 30, 31, 32, 33, 34, 35, 36, 37, 38, 39, 40, 41, 42, 43, 44, 45, 46, 47, 48, 49, 50, 51, 52, 53, 54, 55, 56, 57, 58, 59, 60, 61, 62, 63, 64, 65, 66, 67, 68, 69, 70, 71, 72]) (N := 73) ⟨rfl, by decide +kernel, rfl, by decide +kernel, rfl, ⟨⟨_, rfl, rfl⟩, ⟨⟨_, rfl, rfl⟩, ⟨⟨_, rfl, rfl⟩, ⟨⟨_, rfl, rfl⟩, ⟨⟨_, rfl, rfl⟩, ⟨⟨_, rfl, rfl⟩, ⟨⟨_, rfl, rfl⟩, ⟨⟨_, rfl, rfl⟩, ⟨⟨_, rfl, rfl⟩, ⟨⟨_, rfl, rfl⟩, ⟨⟨_, rfl, rfl⟩, ⟨⟨_, rfl, rfl⟩, ⟨⟨_, rfl, rfl⟩, ⟨⟨_, rfl, rfl⟩, ⟨⟨_, rfl, rfl⟩, ⟨⟨_, rfl, rfl⟩, ⟨⟨_, rfl, rfl⟩, ⟨⟨_, rfl, rfl⟩, ⟨⟨_, rfl, rfl⟩, ⟨⟨_, rfl, rfl⟩, ⟨⟨_, rfl, rfl⟩, ⟨⟨_, rfl, rfl⟩, ⟨⟨_, rfl, rfl⟩, ⟨⟨_, rfl, rfl⟩, ⟨⟨_, rfl, rfl⟩, ⟨⟨_, rfl, rfl⟩, ⟨⟨_, rfl, rfl⟩, ⟨⟨_, rfl, rfl⟩, ⟨⟨_, rfl, rfl⟩, ⟨⟨_, rfl, rfl⟩, ⟨⟨_, rfl, rfl⟩, ⟨⟨_, rfl, rfl⟩, ⟨⟨_, rfl, rfl⟩, ⟨⟨_, rfl, rfl⟩, ⟨⟨_, rfl, rfl⟩, ⟨⟨_, rfl, rfl⟩, ⟨⟨_, rfl, rfl⟩, ⟨⟨_, rfl, rfl⟩, ⟨⟨_, rfl, rfl⟩, ⟨⟨_, rfl, rfl⟩, ⟨⟨_, rfl, rfl⟩, ⟨⟨_, rfl, rfl⟩, ⟨⟨_, rfl, rfl⟩, ⟨⟨_, rfl, rfl⟩, ⟨⟨_, rfl, rfl⟩, ⟨⟨_, rfl, rfl⟩, ⟨⟨_, rfl, rfl⟩, ⟨⟨_, rfl, rfl⟩, ⟨⟨_, rfl, rfl⟩, ⟨⟨_, rfl, rfl⟩, ⟨⟨_, rfl, rfl⟩, ⟨⟨_, rfl, rfl⟩, ⟨⟨_, rfl, rfl⟩, ⟨⟨_, rfl, rfl⟩, ⟨⟨_, rfl, rfl⟩, ⟨⟨_, rfl, rfl⟩, ⟨⟨_, rfl, rfl⟩, trivial⟩⟩⟩⟩⟩⟩⟩⟩⟩⟩⟩⟩⟩⟩⟩⟩⟩⟩⟩⟩⟩⟩⟩⟩⟩⟩⟩⟩⟩⟩⟩⟩⟩⟩⟩⟩⟩⟩⟩⟩⟩⟩⟩⟩⟩⟩⟩⟩⟩⟩⟩⟩⟩⟩⟩⟩⟩⟩ rfl ?_
      refine J_iload (pc := 63) C 31 rfl 0 rfl ?_
      cases h
      exact J_iret (pc := 65) C 32 rfl
    · rw [if_neg c3] at h
      refine J_bipush (pc := 23) (v := (-4 : Int32)) C 11 rfl rfl ?_
      cases h
      exact J_iret (pc := 25) C 12 rfl
  · rw [if_pos c2] at h
    refine J_bipush (pc := 8) (v := (-2 : Int32)) C 4 rfl rfl ?_
    cases h
    exact J_iret (pc := 10) C 5 rfl
def T_X4_isPupil : List (Nat × ClassFile.Instr × Nat) := [(0, .iload_n 1, 1), (1, .iconst 0, 1), (2, .aload_n 0, 1), (3, .getfield 20, 3), (6, .getfield 87, 3), (9, .iconst 1, 1), (10, .isub, 1), (11, .invokestatic 55, 3), (14, .ireturn, 1)]
theorem D_X4_isPupil : ∀ q ∈ T_X4_isPupil, decode cX4_isPupil q.1 = .ok q.2 := by decide +kernel
theorem V_X4_isPupil : Vy yX4_isPupil cX4_isPupil 2 (some .boolean) 1 := ⟨k244, k56, by decide +kernel⟩
theorem i_X4_isPupil : Cond.instanceMethod yX4_isPupil ∈ TB := k246
theorem s_X4_isPupil : Cond.selects yX4_isPupil.cls yX4_isPupil yX4_isPupil ∈ TB := k247
noncomputable def f_X4_isPupil (vS : JV) (x1 : Int32) : Option (Int32) :=
  (f_X4_isWithin x1 (0 : Int32) ((vS 8 0) - (1 : Int32))).bind (fun q1 => gd (isb q1) (some q1))
set_option maxRecDepth 100000 in
set_option maxHeartbeats 4000000 in
theorem c_X4_isPupil {l : Launch} {G : JG} (aX : Nat) (aT : Nat → Nat) (aS : Nat → Nat) (aT2 : Nat → Nat) (aS2 : Nat → Nat) (aP : Nat → Nat) (aH : Nat → Nat) (aB : Nat) (aU : Nat) (vS : JV) (x1 : Int32) {Rz : Int32} (h : f_X4_isPupil vS x1 = some Rz) : JM l G yX4_isPupil cX4_isPupil 2 (some .boolean) 1 22 [.ref aX, .int x1] (wEx aX (aT 0) (aT2 0) (aS 0) (aS2 0) (aP 0) (aH 0) aB aU ++ (wSch G aS (vS 0) (vS 1) (vS 2) (vS 3) (vS 4) (vS 5) (vS 6) (vS 7) (vS 8 0) (vS 9 0))) (wEx aX (aT 0) (aT2 0) (aS 0) (aS2 0) (aP 0) (aH 0) aB aU ++ (wSch G aS (vS 0) (vS 1) (vS 2) (vS 3) (vS 4) (vS 5) (vS 6) (vS 7) (vS 8 0) (vS 9 0))) (some (.int Rz)) := by
  refine JM.of (own := RX4) (tb := T_X4_isPupil) (by decide) (Nat.le_of_ble_eq_true rfl) D_X4_isPupil rfl (fun X C => ?_)
  refine J_sub (lv' := [(0, .ref aX), (1, .int x1)]) [0, 1] rfl ?_
  unfold f_X4_isPupil at h
  refine J_iload_n (pc := 0) C 0 rfl 1 rfl rfl ?_
  refine J_iconst (pc := 1) (v := (0 : Int32)) C 1 rfl rfl ?_
  refine J_aload_n (pc := 2) C 2 rfl 0 rfl rfl ?_
  refine J_get (pc := 3) (v := .ref (aS 0)) C 3 rfl TB_l4 rfl 0 1 rfl (by decide) k197 rfl rfl ?_
  refine J_get (pc := 6) (v := .int (vS 8 0)) C 4 rfl TB_l2 rfl 1 8 rfl (by decide) k237 rfl rfl ?_
  refine J_iconst (pc := 9) (v := (1 : Int32)) C 5 rfl rfl ?_
  refine J_isub (pc := 10) C 6 rfl  ?_
  obtain ⟨q1, hq1, h⟩ := bnd h
  refine J_callS (pc := 11) (st2 := []) (st3 := [.int q1]) (ws2 := (wEx aX (aT 0) (aT2 0) (aS 0) (aS2 0) (aP 0) (aH 0) aB aU ++ (wSch G aS (vS 0) (vS 1) (vS 2) (vS 3) (vS 4) (vS 5) (vS 6) (vS 7) (vS 8 0) (vS 9 0)))) C 7 rfl (c_X4_isWithin x1 (0 : Int32) ((vS 8 0) - (1 : Int32)) hq1) V_X4_isWithin k221 t_X4_isWithin rfl rfl ⟨Nat.le_of_ble_eq_true rfl, Nat.le_of_ble_eq_true rfl⟩ (Nat.le_of_ble_eq_true rfl) ⟨Nat.le_refl _, Nat.le_refl _⟩ (isC := []) (isR := [0, 1, 2, 3, 4, 5, 6, 7, 8, 9]) (N := 10) ⟨rfl, by decide +kernel, rfl, by decide +kernel, rfl, ⟨⟨_, rfl, rfl⟩, ⟨⟨_, rfl, rfl⟩, ⟨⟨_, rfl, rfl⟩, ⟨⟨_, rfl, rfl⟩, ⟨⟨_, rfl, rfl⟩, ⟨⟨_, rfl, rfl⟩, ⟨⟨_, rfl, rfl⟩, ⟨⟨_, rfl, rfl⟩, ⟨⟨_, rfl, rfl⟩, ⟨⟨_, rfl, rfl⟩, trivial⟩⟩⟩⟩⟩⟩⟩⟩⟩⟩⟩ rfl ?_
  obtain ⟨g2, h⟩ := gd_some h
  cases h
  exact J_zret (pc := 14) C 8 rfl g2
def T_X4_change : List (Nat × ClassFile.Instr × Nat) := [(0, .aload_n 0, 1), (1, .iload_n 1, 1), (2, .invokevirtual 114, 3), (5, .ifCond .ne 5, 3), (8, .iconst (-1), 1), (9, .ireturn, 1), (10, .iload_n 2, 1), (11, .iload_n 3, 1), (12, .invokestatic 83, 3), (15, .ifCond .ne 6, 3), (18, .bipush (-2), 2), (20, .ireturn, 1), (21, .aload_n 0, 1), (22, .getfield 37, 3), (25, .aload_n 0, 1), (26, .getfield 20, 3), (29, .invokevirtual 66, 3), (32, .aload_n 0, 1), (33, .getfield 20, 3), (36, .iload_n 1, 1), (37, .iload_n 2, 1), (38, .iload_n 3, 1), (39, .iload 4, 2), (41, .invokevirtual 117, 3), (44, .aload_n 0, 1), (45, .getfield 12, 3), (48, .invokevirtual 52, 3), (51, .aload_n 0, 1), (52, .getfield 20, 3), (55, .iload_n 1, 1), (56, .invokevirtual 121, 3), (59, .ireturn, 1)]
theorem D_X4_change : ∀ q ∈ T_X4_change, decode cX4_change q.1 = .ok q.2 := by decide +kernel
theorem V_X4_change : Vy yX4_change cX4_change 5 (some .int) 4 := ⟨k250, k56, by decide +kernel⟩
theorem i_X4_change : Cond.instanceMethod yX4_change ∈ TB := k381
theorem s_X4_change : Cond.selects yX4_change.cls yX4_change yX4_change ∈ TB := k382
noncomputable def f_X4_change (vT : JV) (vS : JV) (hA : Nat → Nat → Nat) (hV : Nat → JV) (hZ : JV) (x1 : Int32) (x2 : Int32) (x3 : Int32) (x4 : Int32) : Option (Int32 × JV × JV × (Nat → Nat → Nat) × (Nat → JV) × JV) :=
  (f_X4_isPupil vS x1).bind (fun q1 => (if q1 = 0 then some ((-1 : Int32), vT, vS, hA, hV, hZ) else (f_X4_isPupilData x2 x3).bind (fun q3 => (if q3 = 0 then some ((-2 : Int32), vT, vS, hA, hV, hZ) else (f_X0_remember vS hA hV hZ).bind (fun q5 => (f_X2_writePupil vS x1 x2 x3 x4).bind (fun q6 => (f_X3_seatAll vT q6).bind (fun q7 => (f_X2_clashesOf q6 x1).bind (fun q8 => some (q8, q7, q6, (q5.1), (q5.2.1), (q5.2.2))))))))))
set_option maxRecDepth 100000 in
set_option maxHeartbeats 4000000 in
theorem c_X4_change {l : Launch} {G : JG} (aX : Nat) (aT : Nat → Nat) (aS : Nat → Nat) (aT2 : Nat → Nat) (aS2 : Nat → Nat) (aP : Nat → Nat) (aH : Nat → Nat) (aB : Nat) (aU : Nat) (vT : JV) (vS : JV) (hA : Nat → Nat → Nat) (hV : Nat → JV) (hZ : JV) (x1 : Int32) (x2 : Int32) (x3 : Int32) (x4 : Int32) {Rz : Int32 × JV × JV × (Nat → Nat → Nat) × (Nat → JV) × JV} (h : f_X4_change vT vS hA hV hZ x1 x2 x3 x4 = some Rz) : JM l G yX4_change cX4_change 5 (some .int) 6 141 [.ref aX, .int x1, .int x2, .int x3, .int x4] (wEx aX (aT 0) (aT2 0) (aS 0) (aS2 0) (aP 0) (aH 0) aB aU ++ (wSeat G aT (aS 0) (vT 1) (vT 2) (vT 3) (vT 4 0) (vT 5 0) (vT 6) (vT 7) (vT 8) ++ (wSch G aS (vS 0) (vS 1) (vS 2) (vS 3) (vS 4) (vS 5) (vS 6) (vS 7) (vS 8 0) (vS 9 0) ++ (wHis G aH hA hV (hZ 1 0))))) (wEx aX (aT 0) (aT2 0) (aS 0) (aS2 0) (aP 0) (aH 0) aB aU ++ (wSeat G aT (aS 0) ((Rz.2.1) 1) ((Rz.2.1) 2) ((Rz.2.1) 3) ((Rz.2.1) 4 0) ((Rz.2.1) 5 0) ((Rz.2.1) 6) ((Rz.2.1) 7) ((Rz.2.1) 8) ++ (wSch G aS ((Rz.2.2.1) 0) ((Rz.2.2.1) 1) ((Rz.2.2.1) 2) ((Rz.2.2.1) 3) ((Rz.2.2.1) 4) ((Rz.2.2.1) 5) ((Rz.2.2.1) 6) ((Rz.2.2.1) 7) ((Rz.2.2.1) 8 0) ((Rz.2.2.1) 9 0) ++ (wHis G aH (Rz.2.2.2.1) (Rz.2.2.2.2.1) ((Rz.2.2.2.2.2) 1 0))))) (some (.int (Rz.1))) := by
  refine JM.of (own := RX4) (tb := T_X4_change) (by decide) (Nat.le_of_ble_eq_true rfl) D_X4_change rfl (fun X C => ?_)
  refine J_sub (lv' := [(0, .ref aX), (1, .int x1), (2, .int x2), (3, .int x3), (4, .int x4)]) [0, 1, 2, 3, 4] rfl ?_
  unfold f_X4_change at h
  refine J_aload_n (pc := 0) C 0 rfl 0 rfl rfl ?_
  refine J_iload_n (pc := 1) C 1 rfl 1 rfl rfl ?_
  obtain ⟨q1, hq1, h⟩ := bnd h
  refine J_callV (pc := 2) (st2 := []) (st3 := [.int q1]) (ws2 := (wEx aX (aT 0) (aT2 0) (aS 0) (aS2 0) (aP 0) (aH 0) aB aU ++ (wSeat G aT (aS 0) (vT 1) (vT 2) (vT 3) (vT 4 0) (vT 5 0) (vT 6) (vT 7) (vT 8) ++ (wSch G aS (vS 0) (vS 1) (vS 2) (vS 3) (vS 4) (vS 5) (vS 6) (vS 7) (vS 8 0) (vS 9 0) ++ (wHis G aH hA hV (hZ 1 0)))))) C 2 rfl (c_X4_isPupil aX aT aS aT2 aS2 aP aH aB aU vS x1 hq1) V_X4_isPupil k245 i_X4_isPupil s_X4_isPupil rfl rfl ⟨Nat.le_of_ble_eq_true rfl, Nat.le_of_ble_eq_true rfl⟩ (Nat.le_of_ble_eq_true rfl) ⟨Nat.le_refl _, Nat.le_refl _⟩ 0 4 rfl rfl rfl (isC := [0, 8, 9, 10, 11, 12, 13, 14, 15, 16]) (isR := [1, 2, 3, 4, 5, 6, 7, 17, 18, 19, 20, 21, 22, 23, 24, 25, 26, 27, 28, 29, 30, 31, 32, 33, 34, 35, 36, 37, 38, 39, 40, 41, 42, 43, 44, 45, 46, 47, 48, 49, 50, 51, 52, 53, 54, 55, 56, 57, 58, 59, 60, 61, 62, 63, 64, 65, 66, 67, 68, 69, 70, 71, 72]) (N := 73) ⟨rfl, by decide +kernel, rfl, by decide +kernel, rfl, ⟨⟨_, rfl, rfl⟩, ⟨⟨_, rfl, rfl⟩, ⟨⟨_, rfl, rfl⟩, ⟨⟨_, rfl, rfl⟩, ⟨⟨_, rfl, rfl⟩, ⟨⟨_, rfl, rfl⟩, ⟨⟨_, rfl, rfl⟩, ⟨⟨_, rfl, rfl⟩, ⟨⟨_, rfl, rfl⟩, ⟨⟨_, rfl, rfl⟩, ⟨⟨_, rfl, rfl⟩, ⟨⟨_, rfl, rfl⟩, ⟨⟨_, rfl, rfl⟩, ⟨⟨_, rfl, rfl⟩, ⟨⟨_, rfl, rfl⟩, ⟨⟨_, rfl, rfl⟩, ⟨⟨_, rfl, rfl⟩, ⟨⟨_, rfl, rfl⟩, ⟨⟨_, rfl, rfl⟩, ⟨⟨_, rfl, rfl⟩, ⟨⟨_, rfl, rfl⟩, ⟨⟨_, rfl, rfl⟩, ⟨⟨_, rfl, rfl⟩, ⟨⟨_, rfl, rfl⟩, ⟨⟨_, rfl, rfl⟩, ⟨⟨_, rfl, rfl⟩, ⟨⟨_, rfl, rfl⟩, ⟨⟨_, rfl, rfl⟩, ⟨⟨_, rfl, rfl⟩, ⟨⟨_, rfl, rfl⟩, ⟨⟨_, rfl, rfl⟩, ⟨⟨_, rfl, rfl⟩, ⟨⟨_, rfl, rfl⟩, ⟨⟨_, rfl, rfl⟩, ⟨⟨_, rfl, rfl⟩, ⟨⟨_, rfl, rfl⟩, ⟨⟨_, rfl, rfl⟩, ⟨⟨_, rfl, rfl⟩, ⟨⟨_, rfl, rfl⟩, ⟨⟨_, rfl, rfl⟩, ⟨⟨_, rfl, rfl⟩, ⟨⟨_, rfl, rfl⟩, ⟨⟨_, rfl, rfl⟩, ⟨⟨_, rfl, rfl⟩, ⟨⟨_, rfl, rfl⟩, ⟨⟨_, rfl, rfl⟩, ⟨⟨_, rfl, rfl⟩, ⟨⟨_, rfl, rfl⟩, ⟨⟨_, rfl, rfl⟩, ⟨⟨_, rfl, rfl⟩, ⟨⟨_, rfl, rfl⟩, ⟨⟨_, rfl, rfl⟩, ⟨⟨_, rfl, rfl⟩, ⟨⟨_, rfl, rfl⟩, ⟨⟨_, rfl, rfl⟩, ⟨⟨_, rfl, rfl⟩, ⟨⟨_, rfl, rfl⟩, ⟨⟨_, rfl, rfl⟩, ⟨⟨_, rfl, rfl⟩, ⟨⟨_, rfl, rfl⟩, ⟨⟨_, rfl, rfl⟩, ⟨⟨_, rfl, rfl⟩, ⟨⟨_, rfl, rfl⟩, trivial⟩⟩⟩⟩⟩⟩⟩⟩⟩⟩⟩⟩⟩⟩⟩⟩⟩⟩⟩⟩⟩⟩⟩⟩⟩⟩⟩⟩⟩⟩⟩⟩⟩⟩⟩⟩⟩⟩⟩⟩⟩⟩⟩⟩⟩⟩⟩⟩⟩⟩⟩⟩⟩⟩⟩⟩⟩⟩⟩⟩⟩⟩⟩⟩ rfl ?_
  refine J_if_ne (pc := 5) (tgt := 10) C 3 rfl rfl (fun c2 => ?_) (fun c2 => ?_)
  · rw [if_neg c2] at h
    refine J_iload_n (pc := 10) C 6 rfl 2 rfl rfl ?_
    refine J_iload_n (pc := 11) C 7 rfl 3 rfl rfl ?_
    obtain ⟨q3, hq3, h⟩ := bnd h
    refine J_callS (pc := 12) (st2 := []) (st3 := [.int q3]) (ws2 := (wEx aX (aT 0) (aT2 0) (aS 0) (aS2 0) (aP 0) (aH 0) aB aU ++ (wSeat G aT (aS 0) (vT 1) (vT 2) (vT 3) (vT 4 0) (vT 5 0) (vT 6) (vT 7) (vT 8) ++ (wSch G aS (vS 0) (vS 1) (vS 2) (vS 3) (vS 4) (vS 5) (vS 6) (vS 7) (vS 8 0) (vS 9 0) ++ (wHis G aH hA hV (hZ 1 0)))))) C 8 rfl (c_X4_isPupilData x2 x3 hq3) V_X4_isPupilData k238 t_X4_isPupilData rfl rfl ⟨Nat.le_of_ble_eq_true rfl, Nat.le_of_ble_eq_true rfl⟩ (Nat.le_of_ble_eq_true rfl) ⟨Nat.le_refl _, Nat.le_refl _⟩ (isC := []) (isR := [0, 1, 2, 3, 4, 5, 6, 7, 8, 9, 10, 11, 12, 13, 14, 15, 16, 17, 18, 19, 20, 21, 22, 23, 24, 25, 26, 27, 28, 29, 30, 31, 32, 33, 34, 35, 36, 37, 38, 39, 40, 41, 42, 43, 44, 45, 46, 47, 48, 49, 50, 51, 52, 53, 54, 55, 56, 57, 58, 59, 60, 61, 62, 63, 64, 65, 66, 67, 68, 69, 70, 71, 72]) (N := 73) ⟨rfl, by decide +kernel, rfl, by decide +kernel, rfl, ⟨⟨_, rfl, rfl⟩, ⟨⟨_, rfl, rfl⟩, ⟨⟨_, rfl, rfl⟩, ⟨⟨_, rfl, rfl⟩, ⟨⟨_, rfl, rfl⟩, ⟨⟨_, rfl, rfl⟩, ⟨⟨_, rfl, rfl⟩, ⟨⟨_, rfl, rfl⟩, ⟨⟨_, rfl, rfl⟩, ⟨⟨_, rfl, rfl⟩, ⟨⟨_, rfl, rfl⟩, ⟨⟨_, rfl, rfl⟩, ⟨⟨_, rfl, rfl⟩, ⟨⟨_, rfl, rfl⟩, ⟨⟨_, rfl, rfl⟩, ⟨⟨_, rfl, rfl⟩, ⟨⟨_, rfl, rfl⟩, ⟨⟨_, rfl, rfl⟩, ⟨⟨_, rfl, rfl⟩, ⟨⟨_, rfl, rfl⟩, ⟨⟨_, rfl, rfl⟩, ⟨⟨_, rfl, rfl⟩, ⟨⟨_, rfl, rfl⟩, ⟨⟨_, rfl, rfl⟩, ⟨⟨_, rfl, rfl⟩, ⟨⟨_, rfl, rfl⟩, ⟨⟨_, rfl, rfl⟩, ⟨⟨_, rfl, rfl⟩, ⟨⟨_, rfl, rfl⟩, ⟨⟨_, rfl, rfl⟩, ⟨⟨_, rfl, rfl⟩, ⟨⟨_, rfl, rfl⟩, ⟨⟨_, rfl, rfl⟩, ⟨⟨_, rfl, rfl⟩, ⟨⟨_, rfl, rfl⟩, ⟨⟨_, rfl, rfl⟩, ⟨⟨_, rfl, rfl⟩, ⟨⟨_, rfl, rfl⟩, ⟨⟨_, rfl, rfl⟩, ⟨⟨_, rfl, rfl⟩, ⟨⟨_, rfl, rfl⟩, ⟨⟨_, rfl, rfl⟩, ⟨⟨_, rfl, rfl⟩, ⟨⟨_, rfl, rfl⟩, ⟨⟨_, rfl, rfl⟩, ⟨⟨_, rfl, rfl⟩, ⟨⟨_, rfl, rfl⟩, ⟨⟨_, rfl, rfl⟩, ⟨⟨_, rfl, rfl⟩, ⟨⟨_, rfl, rfl⟩, ⟨⟨_, rfl, rfl⟩, ⟨⟨_, rfl, rfl⟩, ⟨⟨_, rfl, rfl⟩, ⟨⟨_, rfl, rfl⟩, ⟨⟨_, rfl, rfl⟩, ⟨⟨_, rfl, rfl⟩, ⟨⟨_, rfl, rfl⟩, ⟨⟨_, rfl, rfl⟩, ⟨⟨_, rfl, rfl⟩, ⟨⟨_, rfl, rfl⟩, ⟨⟨_, rfl, rfl⟩, ⟨⟨_, rfl, rfl⟩, ⟨⟨_, rfl, rfl⟩, ⟨⟨_, rfl, rfl⟩, ⟨⟨_, rfl, rfl⟩, ⟨⟨_, rfl, rfl⟩, ⟨⟨_, rfl, rfl⟩, ⟨⟨_, rfl, rfl⟩, ⟨⟨_, rfl, rfl⟩, ⟨⟨_, rfl, rfl⟩, ⟨⟨_, rfl, rfl⟩, ⟨⟨_, rfl, rfl⟩, ⟨⟨_, rfl, rfl⟩, trivial⟩⟩⟩⟩⟩⟩⟩⟩⟩⟩⟩⟩⟩⟩⟩⟩⟩⟩⟩⟩⟩⟩⟩⟩⟩⟩⟩⟩⟩⟩⟩⟩⟩⟩⟩⟩⟩⟩⟩⟩⟩⟩⟩⟩⟩⟩⟩⟩⟩⟩⟩⟩⟩⟩⟩⟩⟩⟩⟩⟩⟩⟩⟩⟩⟩⟩⟩⟩⟩⟩⟩⟩⟩⟩ rfl ?_
    refine J_if_ne (pc := 15) (tgt := 21) C 9 rfl rfl (fun c4 => ?_) (fun c4 => ?_)
    · rw [if_neg c4] at h
      refine J_aload_n (pc := 21) C 12 rfl 0 rfl rfl ?_
      refine J_get (pc := 22) (v := .ref (aH 0)) C 13 rfl TB_l4 rfl 0 5 rfl (by decide) k206 rfl rfl ?_
      refine J_aload_n (pc := 25) C 14 rfl 0 rfl rfl ?_
      refine J_get (pc := 26) (v := .ref (aS 0)) C 15 rfl TB_l4 rfl 0 1 rfl (by decide) k197 rfl rfl ?_
      obtain ⟨q5, hq5, h⟩ := bnd h
      refine J_callV (pc := 29) (st2 := []) (st3 := []) (ws2 := (wEx aX (aT 0) (aT2 0) (aS 0) (aS2 0) (aP 0) (aH 0) aB aU ++ (wSeat G aT (aS 0) (vT 1) (vT 2) (vT 3) (vT 4 0) (vT 5 0) (vT 6) (vT 7) (vT 8) ++ (wSch G aS (vS 0) (vS 1) (vS 2) (vS 3) (vS 4) (vS 5) (vS 6) (vS 7) (vS 8 0) (vS 9 0) ++ (wHis G aH (q5.1) (q5.2.1) ((q5.2.2) 1 0)))))) C 16 rfl (c_X0_remember aS aH vS hA hV hZ hq5) V_X0_remember k223 i_X0_remember s_X0_remember rfl rfl ⟨Nat.le_of_ble_eq_true rfl, Nat.le_of_ble_eq_true rfl⟩ (Nat.le_of_ble_eq_true rfl) ⟨Nat.le_refl _, Nat.le_refl _⟩ 17 0 rfl rfl rfl (isC := [8, 9, 10, 11, 12, 13, 14, 15, 16, 17, 18, 19, 20, 21, 22, 23, 24, 25, 26, 27, 28, 29, 30, 31, 32, 33, 34, 35, 36, 37, 38, 39, 40, 41, 42, 43, 44, 45, 46, 47, 48, 49, 50, 51, 52, 53, 54, 55, 56, 57, 58, 59, 60, 61, 62, 63, 64, 65, 66, 67, 68, 69, 70, 71, 72]) (isR := [0, 1, 2, 3, 4, 5, 6, 7]) (N := 73) ⟨rfl, by decide +kernel, rfl, by decide +kernel, rfl, ⟨⟨_, rfl, rfl⟩, ⟨⟨_, rfl, rfl⟩, ⟨⟨_, rfl, rfl⟩, ⟨⟨_, rfl, rfl⟩, ⟨⟨_, rfl, rfl⟩, ⟨⟨_, rfl, rfl⟩, ⟨⟨_, rfl, rfl⟩, ⟨⟨_, rfl, rfl⟩, trivial⟩⟩⟩⟩⟩⟩⟩⟩⟩ rfl ?_
      refine J_aload_n (pc := 32) C 17 rfl 0 rfl rfl ?_
      refine J_get (pc := 33) (v := .ref (aS 0)) C 18 rfl TB_l4 rfl 0 1 rfl (by decide) k197 rfl rfl ?_
      refine J_iload_n (pc := 36) C 19 rfl 1 rfl rfl ?_
      refine J_iload_n (pc := 37) C 20 rfl 2 rfl rfl ?_
      refine J_iload_n (pc := 38) C 21 rfl 3 rfl rfl ?_
      refine J_iload (pc := 39) C 22 rfl 4 rfl ?_
      obtain ⟨q6, hq6, h⟩ := bnd h
      refine J_callV (pc := 41) (st2 := []) (st3 := []) (ws2 := (wEx aX (aT 0) (aT2 0) (aS 0) (aS2 0) (aP 0) (aH 0) aB aU ++ (wSeat G aT (aS 0) (vT 1) (vT 2) (vT 3) (vT 4 0) (vT 5 0) (vT 6) (vT 7) (vT 8) ++ (wSch G aS (q6 0) (q6 1) (q6 2) (q6 3) (q6 4) (q6 5) (q6 6) (q6 7) (q6 8 0) (q6 9 0) ++ (wHis G aH (q5.1) (q5.2.1) ((q5.2.2) 1 0)))))) C 23 rfl (c_X2_writePupil aS vS x1 x2 x3 x4 hq6) V_X2_writePupil k248 i_X2_writePupil s_X2_writePupil rfl rfl ⟨Nat.le_of_ble_eq_true rfl, Nat.le_of_ble_eq_true rfl⟩ (Nat.le_of_ble_eq_true rfl) ⟨Nat.le_refl _, Nat.le_refl _⟩ 8 2 rfl rfl rfl (isC := [8, 9, 10, 11, 12, 13, 14, 15, 16]) (isR := [0, 1, 2, 3, 4, 5, 6, 7, 17, 18, 19, 20, 21, 22, 23, 24, 25, 26, 27, 28, 29, 30, 31, 32, 33, 34, 35, 36, 37, 38, 39, 40, 41, 42, 43, 44, 45, 46, 47, 48, 49, 50, 51, 52, 53, 54, 55, 56, 57, 58, 59, 60, 61, 62, 63, 64, 65, 66, 67, 68, 69, 70, 71, 72]) (N := 73) ⟨rfl, by decide +kernel, rfl, by decide +kernel, rfl, ⟨⟨_, rfl, rfl⟩, ⟨⟨_, rfl, rfl⟩, ⟨⟨_, rfl, rfl⟩, ⟨⟨_, rfl, rfl⟩, ⟨⟨_, rfl, rfl⟩, ⟨⟨_, rfl, rfl⟩, ⟨⟨_, rfl, rfl⟩, ⟨⟨_, rfl, rfl⟩, ⟨⟨_, rfl, rfl⟩, ⟨⟨_, rfl, rfl⟩, ⟨⟨_, rfl, rfl⟩, ⟨⟨_, rfl, rfl⟩, ⟨⟨_, rfl, rfl⟩, ⟨⟨_, rfl, rfl⟩, ⟨⟨_, rfl, rfl⟩, ⟨⟨_, rfl, rfl⟩, ⟨⟨_, rfl, rfl⟩, ⟨⟨_, rfl, rfl⟩, ⟨⟨_, rfl, rfl⟩, ⟨⟨_, rfl, rfl⟩, ⟨⟨_, rfl, rfl⟩, ⟨⟨_, rfl, rfl⟩, ⟨⟨_, rfl, rfl⟩, ⟨⟨_, rfl, rfl⟩, ⟨⟨_, rfl, rfl⟩, ⟨⟨_, rfl, rfl⟩, ⟨⟨_, rfl, rfl⟩, ⟨⟨_, rfl, rfl⟩, ⟨⟨_, rfl, rfl⟩, ⟨⟨_, rfl, rfl⟩, ⟨⟨_, rfl, rfl⟩, ⟨⟨_, rfl, rfl⟩, ⟨⟨_, rfl, rfl⟩, ⟨⟨_, rfl, rfl⟩, ⟨⟨_, rfl, rfl⟩, ⟨⟨_, rfl, rfl⟩, ⟨⟨_, rfl, rfl⟩, ⟨⟨_, rfl, rfl⟩, ⟨⟨_, rfl, rfl⟩, ⟨⟨_, rfl, rfl⟩, ⟨⟨_, rfl, rfl⟩, ⟨⟨_, rfl, rfl⟩, ⟨⟨_, rfl, rfl⟩, ⟨⟨_, rfl, rfl⟩, ⟨⟨_, rfl, rfl⟩, ⟨⟨_, rfl, rfl⟩, ⟨⟨_, rfl, rfl⟩, ⟨⟨_, rfl, rfl⟩, ⟨⟨_, rfl, rfl⟩, ⟨⟨_, rfl, rfl⟩, ⟨⟨_, rfl, rfl⟩, ⟨⟨_, rfl, rfl⟩, ⟨⟨_, rfl, rfl⟩, ⟨⟨_, rfl, rfl⟩, ⟨⟨_, rfl, rfl⟩, ⟨⟨_, rfl, rfl⟩, ⟨⟨_, rfl, rfl⟩, ⟨⟨_, rfl, rfl⟩, ⟨⟨_, rfl, rfl⟩, ⟨⟨_, rfl, rfl⟩, ⟨⟨_, rfl, rfl⟩, ⟨⟨_, rfl, rfl⟩, ⟨⟨_, rfl, rfl⟩, ⟨⟨_, rfl, rfl⟩, trivial⟩⟩⟩⟩⟩⟩⟩⟩⟩⟩⟩⟩⟩⟩⟩⟩⟩⟩⟩⟩⟩⟩⟩⟩⟩⟩⟩⟩⟩⟩⟩⟩⟩⟩⟩⟩⟩⟩⟩⟩⟩⟩⟩⟩⟩⟩⟩⟩⟩⟩⟩⟩⟩⟩⟩⟩⟩⟩⟩⟩⟩⟩⟩⟩⟩ rfl ?_
      refine J_aload_n (pc := 44) C 24 rfl 0 rfl rfl ?_
      refine J_get (pc := 45) (v := .ref (aT 0)) C 25 rfl TB_l4 rfl 0 0 rfl (by decide) k195 rfl rfl ?_
      obtain ⟨q7, hq7, h⟩ := bnd h
      refine J_callV (pc := 48) (st2 := []) (st3 := []) (ws2 := (wEx aX (aT 0) (aT2 0) (aS 0) (aS2 0) (aP 0) (aH 0) aB aU ++ (wSeat G aT (aS 0) (q7 1) (q7 2) (q7 3) (q7 4 0) (q7 5 0) (q7 6) (q7 7) (q7 8) ++ (wSch G aS (q6 0) (q6 1) (q6 2) (q6 3) (q6 4) (q6 5) (q6 6) (q6 7) (q6 8 0) (q6 9 0) ++ (wHis G aH (q5.1) (q5.2.1) ((q5.2.2) 1 0)))))) C 26 rfl (c_X3_seatAll aT aS vT q6 hq7) V_X3_seatAll k214 i_X3_seatAll s_X3_seatAll rfl rfl ⟨Nat.le_of_ble_eq_true rfl, Nat.le_of_ble_eq_true rfl⟩ (Nat.le_of_ble_eq_true rfl) ⟨Nat.le_refl _, Nat.le_refl _⟩ 1 3 rfl rfl rfl (isC := [1, 2, 3, 4, 5, 6, 7, 8, 9, 10, 11, 12, 13, 14, 15, 16]) (isR := [0, 17, 18, 19, 20, 21, 22, 23, 24, 25, 26, 27, 28, 29, 30, 31, 32, 33, 34, 35, 36, 37, 38, 39, 40, 41, 42, 43, 44, 45, 46, 47, 48, 49, 50, 51, 52, 53, 54, 55, 56, 57, 58, 59, 60, 61, 62, 63, 64, 65, 66, 67, 68, 69, 70, 71, 72]) (N := 73) ⟨rfl, by decide +kernel, rfl, by decide +kernel, rfl, ⟨⟨_, rfl, rfl⟩, ⟨⟨_, rfl, rfl⟩, ⟨⟨_, rfl, rfl⟩, ⟨⟨_, rfl, rfl⟩, ⟨⟨_, rfl, rfl⟩, ⟨⟨_, rfl, rfl⟩, ⟨⟨_, rfl, rfl⟩, ⟨⟨_, rfl, rfl⟩, ⟨⟨_, rfl, rfl⟩, ⟨⟨_, rfl, rfl⟩, ⟨⟨_, rfl, rfl⟩, ⟨⟨_, rfl, rfl⟩, ⟨⟨_, rfl, rfl⟩, ⟨⟨_, rfl, rfl⟩, ⟨⟨_, rfl, rfl⟩, ⟨⟨_, rfl, rfl⟩, ⟨⟨_, rfl, rfl⟩, ⟨⟨_, rfl, rfl⟩, ⟨⟨_, rfl, rfl⟩, ⟨⟨_, rfl, rfl⟩, ⟨⟨_, rfl, rfl⟩, ⟨⟨_, rfl, rfl⟩, ⟨⟨_, rfl, rfl⟩, ⟨⟨_, rfl, rfl⟩, ⟨⟨_, rfl, rfl⟩, ⟨⟨_, rfl, rfl⟩, ⟨⟨_, rfl, rfl⟩, ⟨⟨_, rfl, rfl⟩, ⟨⟨_, rfl, rfl⟩, ⟨⟨_, rfl, rfl⟩, ⟨⟨_, rfl, rfl⟩, ⟨⟨_, rfl, rfl⟩, ⟨⟨_, rfl, rfl⟩, ⟨⟨_, rfl, rfl⟩, ⟨⟨_, rfl, rfl⟩, ⟨⟨_, rfl, rfl⟩, ⟨⟨_, rfl, rfl⟩, ⟨⟨_, rfl, rfl⟩, ⟨⟨_, rfl, rfl⟩, ⟨⟨_, rfl, rfl⟩, ⟨⟨_, rfl, rfl⟩, ⟨⟨_, rfl, rfl⟩, ⟨⟨_, rfl, rfl⟩, ⟨⟨_, rfl, rfl⟩, ⟨⟨_, rfl, rfl⟩, ⟨⟨_, rfl, rfl⟩, ⟨⟨_, rfl, rfl⟩, ⟨⟨_, rfl, rfl⟩, ⟨⟨_, rfl, rfl⟩, ⟨⟨_, rfl, rfl⟩, ⟨⟨_, rfl, rfl⟩, ⟨⟨_, rfl, rfl⟩, ⟨⟨_, rfl, rfl⟩, ⟨⟨_, rfl, rfl⟩, ⟨⟨_, rfl, rfl⟩, ⟨⟨_, rfl, rfl⟩, ⟨⟨_, rfl, rfl⟩, trivial⟩⟩⟩⟩⟩⟩⟩⟩⟩⟩⟩⟩⟩⟩⟩⟩⟩⟩⟩⟩⟩⟩⟩⟩⟩⟩⟩⟩⟩⟩⟩⟩⟩⟩⟩⟩⟩⟩⟩⟩⟩⟩⟩⟩⟩⟩⟩⟩⟩⟩⟩⟩⟩⟩⟩⟩⟩⟩ rfl ?_
      refine J_aload_n (pc := 51) C 27 rfl 0 rfl rfl ?_
      refine J_get (pc := 52) (v := .ref (aS 0)) C 28 rfl TB_l4 rfl 0 1 rfl (by decide) k197 rfl rfl ?_
      refine J_iload_n (pc := 55) C 29 rfl 1 rfl rfl ?_
      obtain ⟨q8, hq8, h⟩ := bnd h
      refine J_callV (pc := 56) (st2 := []) (st3 := [.int q8]) (ws2 := (wEx aX (aT 0) (aT2 0) (aS 0) (aS2 0) (aP 0) (aH 0) aB aU ++ (wSeat G aT (aS 0) (q7 1) (q7 2) (q7 3) (q7 4 0) (q7 5 0) (q7 6) (q7 7) (q7 8) ++ (wSch G aS (q6 0) (q6 1) (q6 2) (q6 3) (q6 4) (q6 5) (q6 6) (q6 7) (q6 8 0) (q6 9 0) ++ (wHis G aH (q5.1) (q5.2.1) ((q5.2.2) 1 0)))))) C 30 rfl (c_X2_clashesOf aS q6 x1 hq8) V_X2_clashesOf k249 i_X2_clashesOf s_X2_clashesOf rfl rfl ⟨Nat.le_of_ble_eq_true rfl, Nat.le_of_ble_eq_true rfl⟩ (Nat.le_of_ble_eq_true rfl) ⟨Nat.le_refl _, Nat.le_refl _⟩ 8 2 rfl rfl rfl (isC := [8, 9, 10, 11, 12, 13, 14, 15, 16]) (isR := [0, 1, 2, 3, 4, 5, 6, 7, 17, 18, 19, 20, 21, 22, 23, 24, 25, 26, 27, 28, 29, 30, 31, 32, 33, 34, 35, 36, 37, 38, 39, 40, 41, 42, 43, 44, 45, 46, 47, 48, 49, 50, 51, 52, 53, 54, 55, 56, 57, 58, 59, 60, 61, 62, 63, 64, 65, 66, 67, 68, 69, 70, 71, 72]) (N := 73) ⟨rfl, by decide +kernel, rfl, by decide +kernel, rfl, ⟨⟨_, rfl, rfl⟩, ⟨⟨_, rfl, rfl⟩, ⟨⟨_, rfl, rfl⟩, ⟨⟨_, rfl, rfl⟩, ⟨⟨_, rfl, rfl⟩, ⟨⟨_, rfl, rfl⟩, ⟨⟨_, rfl, rfl⟩, ⟨⟨_, rfl, rfl⟩, ⟨⟨_, rfl, rfl⟩, ⟨⟨_, rfl, rfl⟩, ⟨⟨_, rfl, rfl⟩, ⟨⟨_, rfl, rfl⟩, ⟨⟨_, rfl, rfl⟩, ⟨⟨_, rfl, rfl⟩, ⟨⟨_, rfl, rfl⟩, ⟨⟨_, rfl, rfl⟩, ⟨⟨_, rfl, rfl⟩, ⟨⟨_, rfl, rfl⟩, ⟨⟨_, rfl, rfl⟩, ⟨⟨_, rfl, rfl⟩, ⟨⟨_, rfl, rfl⟩, ⟨⟨_, rfl, rfl⟩, ⟨⟨_, rfl, rfl⟩, ⟨⟨_, rfl, rfl⟩, ⟨⟨_, rfl, rfl⟩, ⟨⟨_, rfl, rfl⟩, ⟨⟨_, rfl, rfl⟩, ⟨⟨_, rfl, rfl⟩, ⟨⟨_, rfl, rfl⟩, ⟨⟨_, rfl, rfl⟩, ⟨⟨_, rfl, rfl⟩, ⟨⟨_, rfl, rfl⟩, ⟨⟨_, rfl, rfl⟩, ⟨⟨_, rfl, rfl⟩, ⟨⟨_, rfl, rfl⟩, ⟨⟨_, rfl, rfl⟩, ⟨⟨_, rfl, rfl⟩, ⟨⟨_, rfl, rfl⟩, ⟨⟨_, rfl, rfl⟩, ⟨⟨_, rfl, rfl⟩, ⟨⟨_, rfl, rfl⟩, ⟨⟨_, rfl, rfl⟩, ⟨⟨_, rfl, rfl⟩, ⟨⟨_, rfl, rfl⟩, ⟨⟨_, rfl, rfl⟩, ⟨⟨_, rfl, rfl⟩, ⟨⟨_, rfl, rfl⟩, ⟨⟨_, rfl, rfl⟩, ⟨⟨_, rfl, rfl⟩, ⟨⟨_, rfl, rfl⟩, ⟨⟨_, rfl, rfl⟩, ⟨⟨_, rfl, rfl⟩, ⟨⟨_, rfl, rfl⟩, ⟨⟨_, rfl, rfl⟩, ⟨⟨_, rfl, rfl⟩, ⟨⟨_, rfl, rfl⟩, ⟨⟨_, rfl, rfl⟩, ⟨⟨_, rfl, rfl⟩, ⟨⟨_, rfl, rfl⟩, ⟨⟨_, rfl, rfl⟩, ⟨⟨_, rfl, rfl⟩, ⟨⟨_, rfl, rfl⟩, ⟨⟨_, rfl, rfl⟩, ⟨⟨_, rfl, rfl⟩, trivial⟩⟩⟩⟩⟩⟩⟩⟩⟩⟩⟩⟩⟩⟩⟩⟩⟩⟩⟩⟩⟩⟩⟩⟩⟩⟩⟩⟩⟩⟩⟩⟩⟩⟩⟩⟩⟩⟩⟩⟩⟩⟩⟩⟩⟩⟩⟩⟩⟩⟩⟩⟩⟩⟩⟩⟩⟩⟩⟩⟩⟩⟩⟩⟩⟩ rfl ?_
      cases h
      exact J_iret (pc := 59) C 31 rfl
    · rw [if_pos c4] at h
      refine J_bipush (pc := 18) (v := (-2 : Int32)) C 10 rfl rfl ?_
      cases h
      exact J_iret (pc := 20) C 11 rfl
  · rw [if_pos c2] at h
    refine J_iconst (pc := 8) (v := (-1 : Int32)) C 4 rfl rfl ?_
    cases h
    exact J_iret (pc := 9) C 5 rfl
def T_X4_leave : List (Nat × ClassFile.Instr × Nat) := [(0, .aload_n 0, 1), (1, .iload_n 1, 1), (2, .invokevirtual 114, 3), (5, .ifCond .ne 5, 3), (8, .iconst (-1), 1), (9, .ireturn, 1), (10, .aload_n 0, 1), (11, .getfield 20, 3), (14, .getfield 125, 3), (17, .iload_n 1, 1), (18, .iaload, 1), (19, .istore_n 2, 1), (20, .aload_n 0, 1), (21, .getfield 37, 3), (24, .aload_n 0, 1), (25, .getfield 20, 3), (28, .invokevirtual 66, 3), (31, .aload_n 0, 1), (32, .getfield 20, 3), (35, .iload_n 1, 1), (36, .invokevirtual 128, 3), (39, .aload_n 0, 1), (40, .getfield 12, 3), (43, .invokevirtual 52, 3), (46, .iload_n 2, 1), (47, .ireturn, 1)]
theorem D_X4_leave : ∀ q ∈ T_X4_leave, decode cX4_leave q.1 = .ok q.2 := by decide +kernel
theorem V_X4_leave : Vy yX4_leave cX4_leave 3 (some .int) 1 := ⟨k255, k56, by decide +kernel⟩
theorem i_X4_leave : Cond.instanceMethod yX4_leave ∈ TB := k384
theorem s_X4_leave : Cond.selects yX4_leave.cls yX4_leave yX4_leave ∈ TB := k385
noncomputable def f_X4_leave (vT : JV) (vS : JV) (hA : Nat → Nat → Nat) (hV : Nat → JV) (hZ : JV) (x1 : Int32) : Option (Int32 × JV × JV × (Nat → Nat → Nat) × (Nat → JV) × JV) :=
  (f_X4_isPupil vS x1).bind (fun q1 => (if q1 = 0 then some ((-1 : Int32), vT, vS, hA, hV, hZ) else gd (inb x1 16) ((f_X0_remember vS hA hV hZ).bind (fun q4 => (f_X2_removePupil vS x1).bind (fun q5 => (f_X3_seatAll vT q5).bind (fun q6 => some (((vS 3) (Int32.toNatClampNeg x1)), q6, q5, (q4.1), (q4.2.1), (q4.2.2))))))))
set_option maxRecDepth 100000 in
set_option maxHeartbeats 4000000 in
theorem c_X4_leave {l : Launch} {G : JG} (aX : Nat) (aT : Nat → Nat) (aS : Nat → Nat) (aT2 : Nat → Nat) (aS2 : Nat → Nat) (aP : Nat → Nat) (aH : Nat → Nat) (aB : Nat) (aU : Nat) (vT : JV) (vS : JV) (hA : Nat → Nat → Nat) (hV : Nat → JV) (hZ : JV) (x1 : Int32) {Rz : Int32 × JV × JV × (Nat → Nat → Nat) × (Nat → JV) × JV} (h : f_X4_leave vT vS hA hV hZ x1 = some Rz) : JM l G yX4_leave cX4_leave 3 (some .int) 6 141 [.ref aX, .int x1] (wEx aX (aT 0) (aT2 0) (aS 0) (aS2 0) (aP 0) (aH 0) aB aU ++ (wSeat G aT (aS 0) (vT 1) (vT 2) (vT 3) (vT 4 0) (vT 5 0) (vT 6) (vT 7) (vT 8) ++ (wSch G aS (vS 0) (vS 1) (vS 2) (vS 3) (vS 4) (vS 5) (vS 6) (vS 7) (vS 8 0) (vS 9 0) ++ (wHis G aH hA hV (hZ 1 0))))) (wEx aX (aT 0) (aT2 0) (aS 0) (aS2 0) (aP 0) (aH 0) aB aU ++ (wSeat G aT (aS 0) ((Rz.2.1) 1) ((Rz.2.1) 2) ((Rz.2.1) 3) ((Rz.2.1) 4 0) ((Rz.2.1) 5 0) ((Rz.2.1) 6) ((Rz.2.1) 7) ((Rz.2.1) 8) ++ (wSch G aS ((Rz.2.2.1) 0) ((Rz.2.2.1) 1) ((Rz.2.2.1) 2) ((Rz.2.2.1) 3) ((Rz.2.2.1) 4) ((Rz.2.2.1) 5) ((Rz.2.2.1) 6) ((Rz.2.2.1) 7) ((Rz.2.2.1) 8 0) ((Rz.2.2.1) 9 0) ++ (wHis G aH (Rz.2.2.2.1) (Rz.2.2.2.2.1) ((Rz.2.2.2.2.2) 1 0))))) (some (.int (Rz.1))) := by
  refine JM.of (own := RX4) (tb := T_X4_leave) (by decide) (Nat.le_of_ble_eq_true rfl) D_X4_leave rfl (fun X C => ?_)
  refine J_sub (lv' := [(0, .ref aX), (1, .int x1)]) [0, 1] rfl ?_
  unfold f_X4_leave at h
  refine J_aload_n (pc := 0) C 0 rfl 0 rfl rfl ?_
  refine J_iload_n (pc := 1) C 1 rfl 1 rfl rfl ?_
  obtain ⟨q1, hq1, h⟩ := bnd h
  refine J_callV (pc := 2) (st2 := []) (st3 := [.int q1]) (ws2 := (wEx aX (aT 0) (aT2 0) (aS 0) (aS2 0) (aP 0) (aH 0) aB aU ++ (wSeat G aT (aS 0) (vT 1) (vT 2) (vT 3) (vT 4 0) (vT 5 0) (vT 6) (vT 7) (vT 8) ++ (wSch G aS (vS 0) (vS 1) (vS 2) (vS 3) (vS 4) (vS 5) (vS 6) (vS 7) (vS 8 0) (vS 9 0) ++ (wHis G aH hA hV (hZ 1 0)))))) C 2 rfl (c_X4_isPupil aX aT aS aT2 aS2 aP aH aB aU vS x1 hq1) V_X4_isPupil k245 i_X4_isPupil s_X4_isPupil rfl rfl ⟨Nat.le_of_ble_eq_true rfl, Nat.le_of_ble_eq_true rfl⟩ (Nat.le_of_ble_eq_true rfl) ⟨Nat.le_refl _, Nat.le_refl _⟩ 0 4 rfl rfl rfl (isC := [0, 8, 9, 10, 11, 12, 13, 14, 15, 16]) (isR := [1, 2, 3, 4, 5, 6, 7, 17, 18, 19, 20, 21, 22, 23, 24, 25, 26, 27, 28, 29, 30, 31, 32, 33, 34, 35, 36, 37, 38, 39, 40, 41, 42, 43, 44, 45, 46, 47, 48, 49, 50, 51, 52, 53, 54, 55, 56, 57, 58, 59, 60, 61, 62, 63, 64, 65, 66, 67, 68, 69, 70, 71, 72]) (N := 73) ⟨rfl, by decide +kernel, rfl, by decide +kernel, rfl, ⟨⟨_, rfl, rfl⟩, ⟨⟨_, rfl, rfl⟩, ⟨⟨_, rfl, rfl⟩, ⟨⟨_, rfl, rfl⟩, ⟨⟨_, rfl, rfl⟩, ⟨⟨_, rfl, rfl⟩, ⟨⟨_, rfl, rfl⟩, ⟨⟨_, rfl, rfl⟩, ⟨⟨_, rfl, rfl⟩, ⟨⟨_, rfl, rfl⟩, ⟨⟨_, rfl, rfl⟩, ⟨⟨_, rfl, rfl⟩, ⟨⟨_, rfl, rfl⟩, ⟨⟨_, rfl, rfl⟩, ⟨⟨_, rfl, rfl⟩, ⟨⟨_, rfl, rfl⟩, ⟨⟨_, rfl, rfl⟩, ⟨⟨_, rfl, rfl⟩, ⟨⟨_, rfl, rfl⟩, ⟨⟨_, rfl, rfl⟩, ⟨⟨_, rfl, rfl⟩, ⟨⟨_, rfl, rfl⟩, ⟨⟨_, rfl, rfl⟩, ⟨⟨_, rfl, rfl⟩, ⟨⟨_, rfl, rfl⟩, ⟨⟨_, rfl, rfl⟩, ⟨⟨_, rfl, rfl⟩, ⟨⟨_, rfl, rfl⟩, ⟨⟨_, rfl, rfl⟩, ⟨⟨_, rfl, rfl⟩, ⟨⟨_, rfl, rfl⟩, ⟨⟨_, rfl, rfl⟩, ⟨⟨_, rfl, rfl⟩, ⟨⟨_, rfl, rfl⟩, ⟨⟨_, rfl, rfl⟩, ⟨⟨_, rfl, rfl⟩, ⟨⟨_, rfl, rfl⟩, ⟨⟨_, rfl, rfl⟩, ⟨⟨_, rfl, rfl⟩, ⟨⟨_, rfl, rfl⟩, ⟨⟨_, rfl, rfl⟩, ⟨⟨_, rfl, rfl⟩, ⟨⟨_, rfl, rfl⟩, ⟨⟨_, rfl, rfl⟩, ⟨⟨_, rfl, rfl⟩, ⟨⟨_, rfl, rfl⟩, ⟨⟨_, rfl, rfl⟩, ⟨⟨_, rfl, rfl⟩, ⟨⟨_, rfl, rfl⟩, ⟨⟨_, rfl, rfl⟩, ⟨⟨_, rfl, rfl⟩, ⟨⟨_, rfl, rfl⟩, ⟨⟨_, rfl, rfl⟩, ⟨⟨_, rfl, rfl⟩, ⟨⟨_, rfl, rfl⟩, ⟨⟨_, rfl, rfl⟩, ⟨⟨_, rfl, rfl⟩, ⟨⟨_, rfl, rfl⟩, ⟨⟨_, rfl, rfl⟩, ⟨⟨_, rfl, rfl⟩, ⟨⟨_, rfl, rfl⟩, ⟨⟨_, rfl, rfl⟩, ⟨⟨_, rfl, rfl⟩, trivial⟩⟩⟩⟩⟩⟩⟩⟩⟩⟩⟩⟩⟩⟩⟩⟩⟩⟩⟩⟩⟩⟩⟩⟩⟩⟩⟩⟩⟩⟩⟩⟩⟩⟩⟩⟩⟩⟩⟩⟩⟩⟩⟩⟩⟩⟩⟩⟩⟩⟩⟩⟩⟩⟩⟩⟩⟩⟩⟩⟩⟩⟩⟩⟩ rfl ?_
  refine J_if_ne (pc := 5) (tgt := 10) C 3 rfl rfl (fun c2 => ?_) (fun c2 => ?_)
  · rw [if_neg c2] at h
    refine J_aload_n (pc := 10) C 6 rfl 0 rfl rfl ?_
    refine J_get (pc := 11) (v := .ref (aS 0)) C 7 rfl TB_l4 rfl 0 1 rfl (by decide) k197 rfl rfl ?_
    refine J_get (pc := 14) (v := .ref (aS 4)) C 8 rfl TB_l2 rfl 8 3 rfl (by decide) k251 rfl rfl ?_
    refine J_iload_n (pc := 17) C 9 rfl 1 rfl rfl ?_
    obtain ⟨g3, h⟩ := gd_some h
    refine J_iald (pc := 18) (f := (vS 3)) (v := ((vS 3) (Int32.toNatClampNeg x1))) C 10 rfl 12 rfl g3 rfl ?_
    refine J_istore_n (pc := 19) (lv' := [(2, .int ((vS 3) (Int32.toNatClampNeg x1))), (0, .ref aX), (1, .int x1)]) C 11 rfl rfl (by decide) rfl ?_
    refine J_aload_n (pc := 20) C 12 rfl 1 rfl rfl ?_
    refine J_get (pc := 21) (v := .ref (aH 0)) C 13 rfl TB_l4 rfl 0 5 rfl (by decide) k206 rfl rfl ?_
    refine J_aload_n (pc := 24) C 14 rfl 1 rfl rfl ?_
    refine J_get (pc := 25) (v := .ref (aS 0)) C 15 rfl TB_l4 rfl 0 1 rfl (by decide) k197 rfl rfl ?_
    obtain ⟨q4, hq4, h⟩ := bnd h
    refine J_callV (pc := 28) (st2 := []) (st3 := []) (ws2 := (wEx aX (aT 0) (aT2 0) (aS 0) (aS2 0) (aP 0) (aH 0) aB aU ++ (wSeat G aT (aS 0) (vT 1) (vT 2) (vT 3) (vT 4 0) (vT 5 0) (vT 6) (vT 7) (vT 8) ++ (wSch G aS (vS 0) (vS 1) (vS 2) (vS 3) (vS 4) (vS 5) (vS 6) (vS 7) (vS 8 0) (vS 9 0) ++ (wHis G aH (q4.1) (q4.2.1) ((q4.2.2) 1 0)))))) C 16 rfl (c_X0_remember aS aH vS hA hV hZ hq4) V_X0_remember k223 i_X0_remember s_X0_remember rfl rfl ⟨Nat.le_of_ble_eq_true rfl, Nat.le_of_ble_eq_true rfl⟩ (Nat.le_of_ble_eq_true rfl) ⟨Nat.le_refl _, Nat.le_refl _⟩ 17 0 rfl rfl rfl (isC := [8, 9, 10, 11, 12, 13, 14, 15, 16, 17, 18, 19, 20, 21, 22, 23, 24, 25, 26, 27, 28, 29, 30, 31, 32, 33, 34, 35, 36, 37, 38, 39, 40, 41, 42, 43, 44, 45, 46, 47, 48, 49, 50, 51, 52, 53, 54, 55, 56, 57, 58, 59, 60, 61, 62, 63, 64, 65, 66, 67, 68, 69, 70, 71, 72]) (isR := [0, 1, 2, 3, 4, 5, 6, 7]) (N := 73) ⟨rfl, by decide +kernel, rfl, by decide +kernel, rfl, ⟨⟨_, rfl, rfl⟩, ⟨⟨_, rfl, rfl⟩, ⟨⟨_, rfl, rfl⟩, ⟨⟨_, rfl, rfl⟩, ⟨⟨_, rfl, rfl⟩, ⟨⟨_, rfl, rfl⟩, ⟨⟨_, rfl, rfl⟩, ⟨⟨_, rfl, rfl⟩, trivial⟩⟩⟩⟩⟩⟩⟩⟩⟩ rfl ?_
    refine J_aload_n (pc := 31) C 17 rfl 1 rfl rfl ?_
    refine J_get (pc := 32) (v := .ref (aS 0)) C 18 rfl TB_l4 rfl 0 1 rfl (by decide) k197 rfl rfl ?_
    refine J_iload_n (pc := 35) C 19 rfl 2 rfl rfl ?_
    obtain ⟨q5, hq5, h⟩ := bnd h
    refine J_callV (pc := 36) (st2 := []) (st3 := []) (ws2 := (wEx aX (aT 0) (aT2 0) (aS 0) (aS2 0) (aP 0) (aH 0) aB aU ++ (wSeat G aT (aS 0) (vT 1) (vT 2) (vT 3) (vT 4 0) (vT 5 0) (vT 6) (vT 7) (vT 8) ++ (wSch G aS (q5 0) (q5 1) (q5 2) (q5 3) (q5 4) (q5 5) (q5 6) (q5 7) (q5 8 0) (q5 9 0) ++ (wHis G aH (q4.1) (q4.2.1) ((q4.2.2) 1 0)))))) C 20 rfl (c_X2_removePupil aS vS x1 hq5) V_X2_removePupil k252 i_X2_removePupil s_X2_removePupil rfl rfl ⟨Nat.le_of_ble_eq_true rfl, Nat.le_of_ble_eq_true rfl⟩ (Nat.le_of_ble_eq_true rfl) ⟨Nat.le_refl _, Nat.le_refl _⟩ 8 2 rfl rfl rfl (isC := [8, 9, 10, 11, 12, 13, 14, 15, 16]) (isR := [0, 1, 2, 3, 4, 5, 6, 7, 17, 18, 19, 20, 21, 22, 23, 24, 25, 26, 27, 28, 29, 30, 31, 32, 33, 34, 35, 36, 37, 38, 39, 40, 41, 42, 43, 44, 45, 46, 47, 48, 49, 50, 51, 52, 53, 54, 55, 56, 57, 58, 59, 60, 61, 62, 63, 64, 65, 66, 67, 68, 69, 70, 71, 72]) (N := 73) ⟨rfl, by decide +kernel, rfl, by decide +kernel, rfl, ⟨⟨_, rfl, rfl⟩, ⟨⟨_, rfl, rfl⟩, ⟨⟨_, rfl, rfl⟩, ⟨⟨_, rfl, rfl⟩, ⟨⟨_, rfl, rfl⟩, ⟨⟨_, rfl, rfl⟩, ⟨⟨_, rfl, rfl⟩, ⟨⟨_, rfl, rfl⟩, ⟨⟨_, rfl, rfl⟩, ⟨⟨_, rfl, rfl⟩, ⟨⟨_, rfl, rfl⟩, ⟨⟨_, rfl, rfl⟩, ⟨⟨_, rfl, rfl⟩, ⟨⟨_, rfl, rfl⟩, ⟨⟨_, rfl, rfl⟩, ⟨⟨_, rfl, rfl⟩, ⟨⟨_, rfl, rfl⟩, ⟨⟨_, rfl, rfl⟩, ⟨⟨_, rfl, rfl⟩, ⟨⟨_, rfl, rfl⟩, ⟨⟨_, rfl, rfl⟩, ⟨⟨_, rfl, rfl⟩, ⟨⟨_, rfl, rfl⟩, ⟨⟨_, rfl, rfl⟩, ⟨⟨_, rfl, rfl⟩, ⟨⟨_, rfl, rfl⟩, ⟨⟨_, rfl, rfl⟩, ⟨⟨_, rfl, rfl⟩, ⟨⟨_, rfl, rfl⟩, ⟨⟨_, rfl, rfl⟩, ⟨⟨_, rfl, rfl⟩, ⟨⟨_, rfl, rfl⟩, ⟨⟨_, rfl, rfl⟩, ⟨⟨_, rfl, rfl⟩, ⟨⟨_, rfl, rfl⟩, ⟨⟨_, rfl, rfl⟩, ⟨⟨_, rfl, rfl⟩, ⟨⟨_, rfl, rfl⟩, ⟨⟨_, rfl, rfl⟩, ⟨⟨_, rfl, rfl⟩, ⟨⟨_, rfl, rfl⟩, ⟨⟨_, rfl, rfl⟩, ⟨⟨_, rfl, rfl⟩, ⟨⟨_, rfl, rfl⟩, ⟨⟨_, rfl, rfl⟩, ⟨⟨_, rfl, rfl⟩, ⟨⟨_, rfl, rfl⟩, ⟨⟨_, rfl, rfl⟩, ⟨⟨_, rfl, rfl⟩, ⟨⟨_, rfl, rfl⟩, ⟨⟨_, rfl, rfl⟩, ⟨⟨_, rfl, rfl⟩, ⟨⟨_, rfl, rfl⟩, ⟨⟨_, rfl, rfl⟩, ⟨⟨_, rfl, rfl⟩, ⟨⟨_, rfl, rfl⟩, ⟨⟨_, rfl, rfl⟩, ⟨⟨_, rfl, rfl⟩, ⟨⟨_, rfl, rfl⟩, ⟨⟨_, rfl, rfl⟩, ⟨⟨_, rfl, rfl⟩, ⟨⟨_, rfl, rfl⟩, ⟨⟨_, rfl, rfl⟩, ⟨⟨_, rfl, rfl⟩, trivial⟩⟩⟩⟩⟩⟩⟩⟩⟩⟩⟩⟩⟩⟩⟩⟩⟩⟩⟩⟩⟩⟩⟩⟩⟩⟩⟩⟩⟩⟩⟩⟩⟩⟩⟩⟩⟩⟩⟩⟩⟩⟩⟩⟩⟩⟩⟩⟩⟩⟩⟩⟩⟩⟩⟩⟩⟩⟩⟩⟩⟩⟩⟩⟩⟩ rfl ?_
    refine J_aload_n (pc := 39) C 21 rfl 1 rfl rfl ?_
    refine J_get (pc := 40) (v := .ref (aT 0)) C 22 rfl TB_l4 rfl 0 0 rfl (by decide) k195 rfl rfl ?_
    obtain ⟨q6, hq6, h⟩ := bnd h
    refine J_callV (pc := 43) (st2 := []) (st3 := []) (ws2 := (wEx aX (aT 0) (aT2 0) (aS 0) (aS2 0) (aP 0) (aH 0) aB aU ++ (wSeat G aT (aS 0) (q6 1) (q6 2) (q6 3) (q6 4 0) (q6 5 0) (q6 6) (q6 7) (q6 8) ++ (wSch G aS (q5 0) (q5 1) (q5 2) (q5 3) (q5 4) (q5 5) (q5 6) (q5 7) (q5 8 0) (q5 9 0) ++ (wHis G aH (q4.1) (q4.2.1) ((q4.2.2) 1 0)))))) C 23 rfl (c_X3_seatAll aT aS vT q5 hq6) V_X3_seatAll k214 i_X3_seatAll s_X3_seatAll rfl rfl ⟨Nat.le_of_ble_eq_true rfl, Nat.le_of_ble_eq_true rfl⟩ (Nat.le_of_ble_eq_true rfl) ⟨Nat.le_refl _, Nat.le_refl _⟩ 1 3 rfl rfl rfl (isC := [1, 2, 3, 4, 5, 6, 7, 8, 9, 10, 11, 12, 13, 14, 15, 16]) (isR := [0, 17, 18, 19, 20, 21, 22, 23, 24, 25, 26, 27, 28, 29, 30, 31, 32, 33, 34, 35, 36, 37, 38, 39, 40, 41, 42, 43, 44, 45, 46, 47, 48, 49, 50, 51, 52, 53, 54, 55, 56, 57, 58, 59, 60, 61, 62, 63, 64, 65, 66, 67, 68, 69, 70, 71, 72]) (N := 73) ⟨rfl, by decide +kernel, rfl, by decide +kernel, rfl, ⟨⟨_, rfl, rfl⟩, ⟨⟨_, rfl, rfl⟩, ⟨⟨_, rfl, rfl⟩, ⟨⟨_, rfl, rfl⟩, ⟨⟨_, rfl, rfl⟩, ⟨⟨_, rfl, rfl⟩, ⟨⟨_, rfl, rfl⟩, ⟨⟨_, rfl, rfl⟩, ⟨⟨_, rfl, rfl⟩, ⟨⟨_, rfl, rfl⟩, ⟨⟨_, rfl, rfl⟩, ⟨⟨_, rfl, rfl⟩, ⟨⟨_, rfl, rfl⟩, ⟨⟨_, rfl, rfl⟩, ⟨⟨_, rfl, rfl⟩, ⟨⟨_, rfl, rfl⟩, ⟨⟨_, rfl, rfl⟩, ⟨⟨_, rfl, rfl⟩, ⟨⟨_, rfl, rfl⟩, ⟨⟨_, rfl, rfl⟩, ⟨⟨_, rfl, rfl⟩, ⟨⟨_, rfl, rfl⟩, ⟨⟨_, rfl, rfl⟩, ⟨⟨_, rfl, rfl⟩, ⟨⟨_, rfl, rfl⟩, ⟨⟨_, rfl, rfl⟩, ⟨⟨_, rfl, rfl⟩, ⟨⟨_, rfl, rfl⟩, ⟨⟨_, rfl, rfl⟩, ⟨⟨_, rfl, rfl⟩, ⟨⟨_, rfl, rfl⟩, ⟨⟨_, rfl, rfl⟩, ⟨⟨_, rfl, rfl⟩, ⟨⟨_, rfl, rfl⟩, ⟨⟨_, rfl, rfl⟩, ⟨⟨_, rfl, rfl⟩, ⟨⟨_, rfl, rfl⟩, ⟨⟨_, rfl, rfl⟩, ⟨⟨_, rfl, rfl⟩, ⟨⟨_, rfl, rfl⟩, ⟨⟨_, rfl, rfl⟩, ⟨⟨_, rfl, rfl⟩, ⟨⟨_, rfl, rfl⟩, ⟨⟨_, rfl, rfl⟩, ⟨⟨_, rfl, rfl⟩, ⟨⟨_, rfl, rfl⟩, ⟨⟨_, rfl, rfl⟩, ⟨⟨_, rfl, rfl⟩, ⟨⟨_, rfl, rfl⟩, ⟨⟨_, rfl, rfl⟩, ⟨⟨_, rfl, rfl⟩, ⟨⟨_, rfl, rfl⟩, ⟨⟨_, rfl, rfl⟩, ⟨⟨_, rfl, rfl⟩, ⟨⟨_, rfl, rfl⟩, ⟨⟨_, rfl, rfl⟩, ⟨⟨_, rfl, rfl⟩, trivial⟩⟩⟩⟩⟩⟩⟩⟩⟩⟩⟩⟩⟩⟩⟩⟩⟩⟩⟩⟩⟩⟩⟩⟩⟩⟩⟩⟩⟩⟩⟩⟩⟩⟩⟩⟩⟩⟩⟩⟩⟩⟩⟩⟩⟩⟩⟩⟩⟩⟩⟩⟩⟩⟩⟩⟩⟩⟩ rfl ?_
    refine J_iload_n (pc := 46) C 24 rfl 0 rfl rfl ?_
    cases h
    exact J_iret (pc := 47) C 25 rfl
  · rw [if_pos c2] at h
    refine J_iconst (pc := 8) (v := (-1 : Int32)) C 4 rfl rfl ?_
    cases h
    exact J_iret (pc := 9) C 5 rfl
def T_X4_hall : List (Nat × ClassFile.Instr × Nat) := [(0, .iload_n 1, 1), (1, .invokestatic 132, 3), (4, .ifCond .ne 5, 3), (7, .iconst (-1), 1), (8, .ireturn, 1), (9, .iload_n 2, 1), (10, .iconst 1, 1), (11, .iconst 4, 1), (12, .invokestatic 55, 3), (15, .ifCond .eq 12, 3), (18, .iload_n 3, 1), (19, .iconst 1, 1), (20, .iconst 4, 1), (21, .invokestatic 55, 3), (24, .ifCond .ne 6, 3), (27, .bipush (-2), 2), (29, .ireturn, 1), (30, .aload_n 0, 1), (31, .getfield 20, 3), (34, .iload_n 1, 1), (35, .invokevirtual 135, 3), (38, .istore 4, 2), (40, .aload_n 0, 1), (41, .getfield 37, 3), (44, .aload_n 0, 1), (45, .getfield 20, 3), (48, .invokevirtual 66, 3), (51, .aload_n 0, 1), (52, .getfield 20, 3), (55, .getfield 138, 3), (58, .iload_n 1, 1), (59, .iload_n 2, 1), (60, .iastore, 1), (61, .aload_n 0, 1), (62, .getfield 20, 3), (65, .getfield 141, 3), (68, .iload_n 1, 1), (69, .iload_n 3, 1), (70, .iastore, 1), (71, .aload_n 0, 1), (72, .getfield 12, 3), (75, .invokevirtual 52, 3), (78, .iload 4, 2), (80, .ireturn, 1)]
theorem D_X4_hall : ∀ q ∈ T_X4_hall, decode cX4_hall q.1 = .ok q.2 := by decide +kernel
theorem V_X4_hall : Vy yX4_hall cX4_hall 5 (some .int) 3 := ⟨k262, k56, by decide +kernel⟩
theorem i_X4_hall : Cond.instanceMethod yX4_hall ∈ TB := k393
theorem s_X4_hall : Cond.selects yX4_hall.cls yX4_hall yX4_hall ∈ TB := k394
noncomputable def f_X4_hall (vT : JV) (vS : JV) (hA : Nat → Nat → Nat) (hV : Nat → JV) (hZ : JV) (x1 : Int32) (x2 : Int32) (x3 : Int32) : Option (Int32 × JV × JV × (Nat → Nat → Nat) × (Nat → JV) × JV) :=
  (f_X4_isHall x1).bind (fun q1 => (if q1 = 0 then some ((-1 : Int32), vT, vS, hA, hV, hZ) else (f_X4_isWithin x2 (1 : Int32) (4 : Int32)).bind (fun q3 => (if q3 = 0 then some ((-2 : Int32), vT, vS, hA, hV, hZ) else (f_X4_isWithin x3 (1 : Int32) (4 : Int32)).bind (fun q5 => (if q5 = 0 then some ((-2 : Int32), vT, vS, hA, hV, hZ) else (f_X2_desksOf vS x1).bind (fun q7 => (f_X0_remember vS hA hV hZ).bind (fun q8 => gd (inb x1 4) (gd (inb x1 4) ((f_X3_seatAll vT (up2 (up2 vS 6 (Int32.toNatClampNeg x1) x2) 7 (Int32.toNatClampNeg x1) x3)).bind (fun q11 => some (q7, q11, (up2 (up2 vS 6 (Int32.toNatClampNeg x1) x2) 7 (Int32.toNatClampNeg x1) x3), (q8.1), (q8.2.1), (q8.2.2)))))))))))))
set_option maxRecDepth 100000 in
set_option maxHeartbeats 4000000 in
theorem c_X4_hall {l : Launch} {G : JG} (aX : Nat) (aT : Nat → Nat) (aS : Nat → Nat) (aT2 : Nat → Nat) (aS2 : Nat → Nat) (aP : Nat → Nat) (aH : Nat → Nat) (aB : Nat) (aU : Nat) (vT : JV) (vS : JV) (hA : Nat → Nat → Nat) (hV : Nat → JV) (hZ : JV) (x1 : Int32) (x2 : Int32) (x3 : Int32) {Rz : Int32 × JV × JV × (Nat → Nat → Nat) × (Nat → JV) × JV} (h : f_X4_hall vT vS hA hV hZ x1 x2 x3 = some Rz) : JM l G yX4_hall cX4_hall 5 (some .int) 6 141 [.ref aX, .int x1, .int x2, .int x3] (wEx aX (aT 0) (aT2 0) (aS 0) (aS2 0) (aP 0) (aH 0) aB aU ++ (wSeat G aT (aS 0) (vT 1) (vT 2) (vT 3) (vT 4 0) (vT 5 0) (vT 6) (vT 7) (vT 8) ++ (wSch G aS (vS 0) (vS 1) (vS 2) (vS 3) (vS 4) (vS 5) (vS 6) (vS 7) (vS 8 0) (vS 9 0) ++ (wHis G aH hA hV (hZ 1 0))))) (wEx aX (aT 0) (aT2 0) (aS 0) (aS2 0) (aP 0) (aH 0) aB aU ++ (wSeat G aT (aS 0) ((Rz.2.1) 1) ((Rz.2.1) 2) ((Rz.2.1) 3) ((Rz.2.1) 4 0) ((Rz.2.1) 5 0) ((Rz.2.1) 6) ((Rz.2.1) 7) ((Rz.2.1) 8) ++ (wSch G aS ((Rz.2.2.1) 0) ((Rz.2.2.1) 1) ((Rz.2.2.1) 2) ((Rz.2.2.1) 3) ((Rz.2.2.1) 4) ((Rz.2.2.1) 5) ((Rz.2.2.1) 6) ((Rz.2.2.1) 7) ((Rz.2.2.1) 8 0) ((Rz.2.2.1) 9 0) ++ (wHis G aH (Rz.2.2.2.1) (Rz.2.2.2.2.1) ((Rz.2.2.2.2.2) 1 0))))) (some (.int (Rz.1))) := by
  refine JM.of (own := RX4) (tb := T_X4_hall) (by decide) (Nat.le_of_ble_eq_true rfl) D_X4_hall rfl (fun X C => ?_)
  refine J_sub (lv' := [(0, .ref aX), (1, .int x1), (2, .int x2), (3, .int x3)]) [0, 1, 2, 3] rfl ?_
  unfold f_X4_hall at h
  refine J_iload_n (pc := 0) C 0 rfl 1 rfl rfl ?_
  obtain ⟨q1, hq1, h⟩ := bnd h
  refine J_callS (pc := 1) (st2 := []) (st3 := [.int q1]) (ws2 := (wEx aX (aT 0) (aT2 0) (aS 0) (aS2 0) (aP 0) (aH 0) aB aU ++ (wSeat G aT (aS 0) (vT 1) (vT 2) (vT 3) (vT 4 0) (vT 5 0) (vT 6) (vT 7) (vT 8) ++ (wSch G aS (vS 0) (vS 1) (vS 2) (vS 3) (vS 4) (vS 5) (vS 6) (vS 7) (vS 8 0) (vS 9 0) ++ (wHis G aH hA hV (hZ 1 0)))))) C 1 rfl (c_X4_isHall x1 hq1) V_X4_isHall k259 t_X4_isHall rfl rfl ⟨Nat.le_of_ble_eq_true rfl, Nat.le_of_ble_eq_true rfl⟩ (Nat.le_of_ble_eq_true rfl) ⟨Nat.le_refl _, Nat.le_refl _⟩ (isC := []) (isR := [0, 1, 2, 3, 4, 5, 6, 7, 8, 9, 10, 11, 12, 13, 14, 15, 16, 17, 18, 19, 20, 21, 22, 23, 24, 25, 26, 27, 28, 29, 30, 31, 32, 33, 34, 35, 36, 37, 38, 39, 40, 41, 42, 43, 44, 45, 46, 47, 48, 49, 50, 51, 52, 53, 54, 55, 56, 57, 58, 59, 60, 61, 62, 63, 64, 65, 66, 67, 68, 69, 70, 71, 72]) (N := 73) ⟨rfl, by decide +kernel, rfl, by decide +kernel, rfl, ⟨⟨_, rfl, rfl⟩, ⟨⟨_, rfl, rfl⟩, ⟨⟨_, rfl, rfl⟩, ⟨⟨_, rfl, rfl⟩, ⟨⟨_, rfl, rfl⟩, ⟨⟨_, rfl, rfl⟩, ⟨⟨_, rfl, rfl⟩, ⟨⟨_, rfl, rfl⟩, ⟨⟨_, rfl, rfl⟩, ⟨⟨_, rfl, rfl⟩, ⟨⟨_, rfl, rfl⟩, ⟨⟨_, rfl, rfl⟩, ⟨⟨_, rfl, rfl⟩, ⟨⟨_, rfl, rfl⟩, ⟨⟨_, rfl, rfl⟩, ⟨⟨_, rfl, rfl⟩, ⟨⟨_, rfl, rfl⟩, ⟨⟨_, rfl, rfl⟩, ⟨⟨_, rfl, rfl⟩, ⟨⟨_, rfl, rfl⟩, ⟨⟨_, rfl, rfl⟩, ⟨⟨_, rfl, rfl⟩, ⟨⟨_, rfl, rfl⟩, ⟨⟨_, rfl, rfl⟩, ⟨⟨_, rfl, rfl⟩, ⟨⟨_, rfl, rfl⟩, ⟨⟨_, rfl, rfl⟩, ⟨⟨_, rfl, rfl⟩, ⟨⟨_, rfl, rfl⟩, ⟨⟨_, rfl, rfl⟩, ⟨⟨_, rfl, rfl⟩, ⟨⟨_, rfl, rfl⟩, ⟨⟨_, rfl, rfl⟩, ⟨⟨_, rfl, rfl⟩, ⟨⟨_, rfl, rfl⟩, ⟨⟨_, rfl, rfl⟩, ⟨⟨_, rfl, rfl⟩, ⟨⟨_, rfl, rfl⟩, ⟨⟨_, rfl, rfl⟩, ⟨⟨_, rfl, rfl⟩, ⟨⟨_, rfl, rfl⟩, ⟨⟨_, rfl, rfl⟩, ⟨⟨_, rfl, rfl⟩, ⟨⟨_, rfl, rfl⟩, ⟨⟨_, rfl, rfl⟩, ⟨⟨_, rfl, rfl⟩, ⟨⟨_, rfl, rfl⟩, ⟨⟨_, rfl, rfl⟩, ⟨⟨_, rfl, rfl⟩, ⟨⟨_, rfl, rfl⟩, ⟨⟨_, rfl, rfl⟩, ⟨⟨_, rfl, rfl⟩, ⟨⟨_, rfl, rfl⟩, ⟨⟨_, rfl, rfl⟩, ⟨⟨_, rfl, rfl⟩, ⟨⟨_, rfl, rfl⟩, ⟨⟨_, rfl, rfl⟩, ⟨⟨_, rfl, rfl⟩, ⟨⟨_, rfl, rfl⟩, ⟨⟨_, rfl, rfl⟩, ⟨⟨_, rfl, rfl⟩, ⟨⟨_, rfl, rfl⟩, ⟨⟨_, rfl, rfl⟩, ⟨⟨_, rfl, rfl⟩, ⟨⟨_, rfl, rfl⟩, ⟨⟨_, rfl, rfl⟩, ⟨⟨_, rfl, rfl⟩, ⟨⟨_, rfl, rfl⟩, ⟨⟨_, rfl, rfl⟩, ⟨⟨_, rfl, rfl⟩, ⟨⟨_, rfl, rfl⟩, ⟨⟨_, rfl, rfl⟩, ⟨⟨_, rfl, rfl⟩, trivial⟩⟩⟩⟩⟩⟩⟩⟩⟩⟩⟩⟩⟩⟩⟩⟩⟩⟩⟩⟩⟩⟩⟩⟩⟩⟩⟩⟩⟩⟩⟩⟩⟩⟩⟩⟩⟩⟩⟩⟩⟩⟩⟩⟩⟩⟩⟩⟩⟩⟩⟩⟩⟩⟩⟩⟩⟩⟩⟩⟩⟩⟩⟩⟩⟩⟩⟩⟩⟩⟩⟩⟩⟩⟩ rfl ?_
  refine J_if_ne (pc := 4) (tgt := 9) C 2 rfl rfl (fun c2 => ?_) (fun c2 => ?_)
  · rw [if_neg c2] at h
    refine J_iload_n (pc := 9) C 5 rfl 2 rfl rfl ?_
    refine J_iconst (pc := 10) (v := (1 : Int32)) C 6 rfl rfl ?_
    refine J_iconst (pc := 11) (v := (4 : Int32)) C 7 rfl rfl ?_
    obtain ⟨q3, hq3, h⟩ := bnd h
    refine J_callS (pc := 12) (st2 := []) (st3 := [.int q3]) (ws2 := (wEx aX (aT 0) (aT2 0) (aS 0) (aS2 0) (aP 0) (aH 0) aB aU ++ (wSeat G aT (aS 0) (vT 1) (vT 2) (vT 3) (vT 4 0) (vT 5 0) (vT 6) (vT 7) (vT 8) ++ (wSch G aS (vS 0) (vS 1) (vS 2) (vS 3) (vS 4) (vS 5) (vS 6) (vS 7) (vS 8 0) (vS 9 0) ++ (wHis G aH hA hV (hZ 1 0)))))) C 8 rfl (c_X4_isWithin x2 (1 : Int32) (4 : Int32) hq3) V_X4_isWithin k221 t_X4_isWithin rfl rfl ⟨Nat.le_of_ble_eq_true rfl, Nat.le_of_ble_eq_true rfl⟩ (Nat.le_of_ble_eq_true rfl) ⟨Nat.le_refl _, Nat.le_refl _⟩ (isC := []) (isR := [0, 1, 2, 3, 4, 5, 6, 7, 8, 9, 10, 11, 12, 13, 14, 15, 16, 17, 18, 19, 20, 21, 22, 23, 24, 25, 26, 27, 28, 29, 30, 31, 32, 33, 34, 35, 36, 37, 38, 39, 40, 41, 42, 43, 44, 45, 46, 47, 48, 49, 50, 51, 52, 53, 54, 55, 56, 57, 58, 59, 60, 61, 62, 63, 64, 65, 66, 67, 68, 69, 70, 71, 72]) (N := 73) ⟨rfl, by decide +kernel, rfl, by decide +kernel, rfl, ⟨⟨_, rfl, rfl⟩, ⟨⟨_, rfl, rfl⟩, ⟨⟨_, rfl, rfl⟩, ⟨⟨_, rfl, rfl⟩, ⟨⟨_, rfl, rfl⟩, ⟨⟨_, rfl, rfl⟩, ⟨⟨_, rfl, rfl⟩, ⟨⟨_, rfl, rfl⟩, ⟨⟨_, rfl, rfl⟩, ⟨⟨_, rfl, rfl⟩, ⟨⟨_, rfl, rfl⟩, ⟨⟨_, rfl, rfl⟩, ⟨⟨_, rfl, rfl⟩, ⟨⟨_, rfl, rfl⟩, ⟨⟨_, rfl, rfl⟩, ⟨⟨_, rfl, rfl⟩, ⟨⟨_, rfl, rfl⟩, ⟨⟨_, rfl, rfl⟩, ⟨⟨_, rfl, rfl⟩, ⟨⟨_, rfl, rfl⟩, ⟨⟨_, rfl, rfl⟩, ⟨⟨_, rfl, rfl⟩, ⟨⟨_, rfl, rfl⟩, ⟨⟨_, rfl, rfl⟩, ⟨⟨_, rfl, rfl⟩, ⟨⟨_, rfl, rfl⟩, ⟨⟨_, rfl, rfl⟩, ⟨⟨_, rfl, rfl⟩, ⟨⟨_, rfl, rfl⟩, ⟨⟨_, rfl, rfl⟩, ⟨⟨_, rfl, rfl⟩, ⟨⟨_, rfl, rfl⟩, ⟨⟨_, rfl, rfl⟩, ⟨⟨_, rfl, rfl⟩, ⟨⟨_, rfl, rfl⟩, ⟨⟨_, rfl, rfl⟩, ⟨⟨_, rfl, rfl⟩, ⟨⟨_, rfl, rfl⟩, ⟨⟨_, rfl, rfl⟩, ⟨⟨_, rfl, rfl⟩, ⟨⟨_, rfl, rfl⟩, ⟨⟨_, rfl, rfl⟩, ⟨⟨_, rfl, rfl⟩, ⟨⟨_, rfl, rfl⟩, ⟨⟨_, rfl, rfl⟩, ⟨⟨_, rfl, rfl⟩, ⟨⟨_, rfl, rfl⟩, ⟨⟨_, rfl, rfl⟩, ⟨⟨_, rfl, rfl⟩, ⟨⟨_, rfl, rfl⟩, ⟨⟨_, rfl, rfl⟩, ⟨⟨_, rfl, rfl⟩, ⟨⟨_, rfl, rfl⟩, ⟨⟨_, rfl, rfl⟩, ⟨⟨_, rfl, rfl⟩, ⟨⟨_, rfl, rfl⟩, ⟨⟨_, rfl, rfl⟩, ⟨⟨_, rfl, rfl⟩, ⟨⟨_, rfl, rfl⟩, ⟨⟨_, rfl, rfl⟩, ⟨⟨_, rfl, rfl⟩, ⟨⟨_, rfl, rfl⟩, ⟨⟨_, rfl, rfl⟩, ⟨⟨_, rfl, rfl⟩, ⟨⟨_, rfl, rfl⟩, ⟨⟨_, rfl, rfl⟩, ⟨⟨_, rfl, rfl⟩, ⟨⟨_, rfl, rfl⟩, ⟨⟨_, rfl, rfl⟩, ⟨⟨_, rfl, rfl⟩, ⟨⟨_, rfl, rfl⟩, ⟨⟨_, rfl, rfl⟩, ⟨⟨_, rfl, rfl⟩, trivial⟩⟩⟩⟩⟩⟩⟩⟩⟩⟩⟩⟩⟩⟩⟩⟩⟩⟩⟩⟩⟩⟩⟩⟩⟩⟩⟩⟩⟩⟩⟩⟩⟩⟩⟩⟩⟩⟩⟩⟩⟩⟩⟩⟩⟩⟩⟩⟩⟩⟩⟩⟩⟩⟩⟩⟩⟩⟩⟩⟩⟩⟩⟩⟩⟩⟩⟩⟩⟩⟩⟩⟩⟩⟩ rfl ?_
    refine J_if_eq (pc := 15) (tgt := 27) C 9 rfl rfl (fun c4 => ?_) (fun c4 => ?_)
    · rw [if_pos c4] at h
      refine J_bipush (pc := 27) (v := (-2 : Int32)) C 15 rfl rfl ?_
      cases h
      exact J_iret (pc := 29) C 16 rfl
    · rw [if_neg c4] at h
      refine J_iload_n (pc := 18) C 10 rfl 3 rfl rfl ?_
      refine J_iconst (pc := 19) (v := (1 : Int32)) C 11 rfl rfl ?_
      refine J_iconst (pc := 20) (v := (4 : Int32)) C 12 rfl rfl ?_
      obtain ⟨q5, hq5, h⟩ := bnd h
      refine J_callS (pc := 21) (st2 := []) (st3 := [.int q5]) (ws2 := (wEx aX (aT 0) (aT2 0) (aS 0) (aS2 0) (aP 0) (aH 0) aB aU ++ (wSeat G aT (aS 0) (vT 1) (vT 2) (vT 3) (vT 4 0) (vT 5 0) (vT 6) (vT 7) (vT 8) ++ (wSch G aS (vS 0) (vS 1) (vS 2) (vS 3) (vS 4) (vS 5) (vS 6) (vS 7) (vS 8 0) (vS 9 0) ++ (wHis G aH hA hV (hZ 1 0)))))) C 13 rfl (c_X4_isWithin x3 (1 : Int32) (4 : Int32) hq5) V_X4_isWithin k221 t_X4_isWithin rfl rfl ⟨Nat.le_of_ble_eq_true rfl, Nat.le_of_ble_eq_true rfl⟩ (Nat.le_of_ble_eq_true rfl) ⟨Nat.le_refl _, Nat.le_refl _⟩ (isC := []) (isR := [0, 1, 2, 3, 4, 5, 6, 7, 8, 9, 10, 11, 12, 13, 14, 15, 16, 17, 18, 19, 20, 21, 22, 23, 24, 25, 26, 27, 28, 29, 30, 31, 32, 33, 34, 35, 36, 37, 38, 39, 40, 41, 42, 43, 44, 45, 46, 47, 48, 49, 50, 51, 52, 53, 54, 55, 56, 57, 58, 59, 60, 61, 62, 63, 64, 65, 66, 67, 68, 69, 70, 71, 72]) (N := 73) ⟨rfl, by decide +kernel, rfl, by decide +kernel, rfl, ⟨⟨_, rfl, rfl⟩, ⟨⟨_, rfl, rfl⟩, ⟨⟨_, rfl, rfl⟩, ⟨⟨_, rfl, rfl⟩, ⟨⟨_, rfl, rfl⟩, ⟨⟨_, rfl, rfl⟩, ⟨⟨_, rfl, rfl⟩, ⟨⟨_, rfl, rfl⟩, ⟨⟨_, rfl, rfl⟩, ⟨⟨_, rfl, rfl⟩, ⟨⟨_, rfl, rfl⟩, ⟨⟨_, rfl, rfl⟩, ⟨⟨_, rfl, rfl⟩, ⟨⟨_, rfl, rfl⟩, ⟨⟨_, rfl, rfl⟩, ⟨⟨_, rfl, rfl⟩, ⟨⟨_, rfl, rfl⟩, ⟨⟨_, rfl, rfl⟩, ⟨⟨_, rfl, rfl⟩, ⟨⟨_, rfl, rfl⟩, ⟨⟨_, rfl, rfl⟩, ⟨⟨_, rfl, rfl⟩, ⟨⟨_, rfl, rfl⟩, ⟨⟨_, rfl, rfl⟩, ⟨⟨_, rfl, rfl⟩, ⟨⟨_, rfl, rfl⟩, ⟨⟨_, rfl, rfl⟩, ⟨⟨_, rfl, rfl⟩, ⟨⟨_, rfl, rfl⟩, ⟨⟨_, rfl, rfl⟩, ⟨⟨_, rfl, rfl⟩, ⟨⟨_, rfl, rfl⟩, ⟨⟨_, rfl, rfl⟩, ⟨⟨_, rfl, rfl⟩, ⟨⟨_, rfl, rfl⟩, ⟨⟨_, rfl, rfl⟩, ⟨⟨_, rfl, rfl⟩, ⟨⟨_, rfl, rfl⟩, ⟨⟨_, rfl, rfl⟩, ⟨⟨_, rfl, rfl⟩, ⟨⟨_, rfl, rfl⟩, ⟨⟨_, rfl, rfl⟩, ⟨⟨_, rfl, rfl⟩, ⟨⟨_, rfl, rfl⟩, ⟨⟨_, rfl, rfl⟩, ⟨⟨_, rfl, rfl⟩, ⟨⟨_, rfl, rfl⟩, ⟨⟨_, rfl, rfl⟩, ⟨⟨_, rfl, rfl⟩, ⟨⟨_, rfl, rfl⟩, ⟨⟨_, rfl, rfl⟩, ⟨⟨_, rfl, rfl⟩, ⟨⟨_, rfl, rfl⟩, ⟨⟨_, rfl, rfl⟩, ⟨⟨_, rfl, rfl⟩, ⟨⟨_, rfl, rfl⟩, ⟨⟨_, rfl, rfl⟩, ⟨⟨_, rfl, rfl⟩, ⟨⟨_, rfl, rfl⟩, ⟨⟨_, rfl, rfl⟩, ⟨⟨_, rfl, rfl⟩, ⟨⟨_, rfl, rfl⟩, ⟨⟨_, rfl, rfl⟩, ⟨⟨_, rfl, rfl⟩, ⟨⟨_, rfl, rfl⟩, ⟨⟨_, rfl, rfl⟩, ⟨⟨_, rfl, rfl⟩, ⟨⟨_, rfl, rfl⟩, ⟨⟨_, rfl, rfl⟩, ⟨⟨_, rfl, rfl⟩, ⟨⟨_, rfl, rfl⟩, ⟨⟨_, rfl, rfl⟩, ⟨⟨_, rfl, rfl⟩, trivial⟩⟩⟩⟩⟩⟩⟩⟩⟩⟩⟩⟩⟩⟩⟩⟩⟩⟩⟩⟩⟩⟩⟩⟩⟩⟩⟩⟩⟩⟩⟩⟩⟩⟩⟩⟩⟩⟩⟩⟩⟩⟩⟩⟩⟩⟩⟩⟩⟩⟩⟩⟩⟩⟩⟩⟩⟩⟩⟩⟩⟩⟩⟩⟩⟩⟩⟩⟩⟩⟩⟩⟩⟩⟩ rfl ?_
      refine J_if_ne (pc := 24) (tgt := 30) C 14 rfl rfl (fun c6 => ?_) (fun c6 => ?_)
      · rw [if_neg c6] at h
        refine J_aload_n (pc := 30) C 17 rfl 0 rfl rfl ?_
        refine J_get (pc := 31) (v := .ref (aS 0)) C 18 rfl TB_l4 rfl 0 1 rfl (by decide) k197 rfl rfl ?_
        refine J_iload_n (pc := 34) C 19 rfl 1 rfl rfl ?_
        obtain ⟨q7, hq7, h⟩ := bnd h
        refine J_callV (pc := 35) (st2 := []) (st3 := [.int q7]) (ws2 := (wEx aX (aT 0) (aT2 0) (aS 0) (aS2 0) (aP 0) (aH 0) aB aU ++ (wSeat G aT (aS 0) (vT 1) (vT 2) (vT 3) (vT 4 0) (vT 5 0) (vT 6) (vT 7) (vT 8) ++ (wSch G aS (vS 0) (vS 1) (vS 2) (vS 3) (vS 4) (vS 5) (vS 6) (vS 7) (vS 8 0) (vS 9 0) ++ (wHis G aH hA hV (hZ 1 0)))))) C 20 rfl (c_X2_desksOf aS vS x1 hq7) V_X2_desksOf k261 i_X2_desksOf s_X2_desksOf rfl rfl ⟨Nat.le_of_ble_eq_true rfl, Nat.le_of_ble_eq_true rfl⟩ (Nat.le_of_ble_eq_true rfl) ⟨Nat.le_refl _, Nat.le_refl _⟩ 8 2 rfl rfl rfl (isC := [8, 9, 10, 11, 12, 13, 14, 15, 16]) (isR := [0, 1, 2, 3, 4, 5, 6, 7, 17, 18, 19, 20, 21, 22, 23, 24, 25, 26, 27, 28, 29, 30, 31, 32, 33, 34, 35, 36, 37, 38, 39, 40, 41, 42, 43, 44, 45, 46, 47, 48, 49, 50, 51, 52, 53, 54, 55, 56, 57, 58, 59, 60, 61, 62, 63, 64, 65, 66, 67, 68, 69, 70, 71, 72]) (N := 73) ⟨rfl, by decide +kernel, rfl, by decide +kernel, rfl, ⟨⟨_, rfl, rfl⟩, ⟨⟨_, rfl, rfl⟩, ⟨⟨_, rfl, rfl⟩, ⟨⟨_, rfl, rfl⟩, ⟨⟨_, rfl, rfl⟩, ⟨⟨_, rfl, rfl⟩, ⟨⟨_, rfl, rfl⟩, ⟨⟨_, rfl, rfl⟩, ⟨⟨_, rfl, rfl⟩, ⟨⟨_, rfl, rfl⟩, ⟨⟨_, rfl, rfl⟩, ⟨⟨_, rfl, rfl⟩, ⟨⟨_, rfl, rfl⟩, ⟨⟨_, rfl, rfl⟩, ⟨⟨_, rfl, rfl⟩, ⟨⟨_, rfl, rfl⟩, ⟨⟨_, rfl, rfl⟩, ⟨⟨_, rfl, rfl⟩, ⟨⟨_, rfl, rfl⟩, ⟨⟨_, rfl, rfl⟩, ⟨⟨_, rfl, rfl⟩, ⟨⟨_, rfl, rfl⟩, ⟨⟨_, rfl, rfl⟩, ⟨⟨_, rfl, rfl⟩, ⟨⟨_, rfl, rfl⟩, ⟨⟨_, rfl, rfl⟩, ⟨⟨_, rfl, rfl⟩, ⟨⟨_, rfl, rfl⟩, ⟨⟨_, rfl, rfl⟩, ⟨⟨_, rfl, rfl⟩, ⟨⟨_, rfl, rfl⟩, ⟨⟨_, rfl, rfl⟩, ⟨⟨_, rfl, rfl⟩, ⟨⟨_, rfl, rfl⟩, ⟨⟨_, rfl, rfl⟩, ⟨⟨_, rfl, rfl⟩, ⟨⟨_, rfl, rfl⟩, ⟨⟨_, rfl, rfl⟩, ⟨⟨_, rfl, rfl⟩, ⟨⟨_, rfl, rfl⟩, ⟨⟨_, rfl, rfl⟩, ⟨⟨_, rfl, rfl⟩, ⟨⟨_, rfl, rfl⟩, ⟨⟨_, rfl, rfl⟩, ⟨⟨_, rfl, rfl⟩, ⟨⟨_, rfl, rfl⟩, ⟨⟨_, rfl, rfl⟩, ⟨⟨_, rfl, rfl⟩, ⟨⟨_, rfl, rfl⟩, ⟨⟨_, rfl, rfl⟩, ⟨⟨_, rfl, rfl⟩, ⟨⟨_, rfl, rfl⟩, ⟨⟨_, rfl, rfl⟩, ⟨⟨_, rfl, rfl⟩, ⟨⟨_, rfl, rfl⟩, ⟨⟨_, rfl, rfl⟩, ⟨⟨_, rfl, rfl⟩, ⟨⟨_, rfl, rfl⟩, ⟨⟨_, rfl, rfl⟩, ⟨⟨_, rfl, rfl⟩, ⟨⟨_, rfl, rfl⟩, ⟨⟨_, rfl, rfl⟩, ⟨⟨_, rfl, rfl⟩, ⟨⟨_, rfl, rfl⟩, trivial⟩⟩⟩⟩⟩⟩⟩⟩⟩⟩⟩⟩⟩⟩⟩⟩⟩⟩⟩⟩⟩⟩⟩⟩⟩⟩⟩⟩⟩⟩⟩⟩⟩⟩⟩⟩⟩⟩⟩⟩⟩⟩⟩⟩⟩⟩⟩⟩⟩⟩⟩⟩⟩⟩⟩⟩⟩⟩⟩⟩⟩⟩⟩⟩⟩ rfl ?_
        refine J_istore (pc := 38) (lv' := [(4, .int q7), (0, .ref aX), (1, .int x1), (2, .int x2), (3, .int x3)]) C 21 rfl (by decide) rfl ?_
        refine J_aload_n (pc := 40) C 22 rfl 1 rfl rfl ?_
        refine J_get (pc := 41) (v := .ref (aH 0)) C 23 rfl TB_l4 rfl 0 5 rfl (by decide) k206 rfl rfl ?_
        refine J_aload_n (pc := 44) C 24 rfl 1 rfl rfl ?_
        refine J_get (pc := 45) (v := .ref (aS 0)) C 25 rfl TB_l4 rfl 0 1 rfl (by decide) k197 rfl rfl ?_
        obtain ⟨q8, hq8, h⟩ := bnd h
        refine J_callV (pc := 48) (st2 := []) (st3 := []) (ws2 := (wEx aX (aT 0) (aT2 0) (aS 0) (aS2 0) (aP 0) (aH 0) aB aU ++ (wSeat G aT (aS 0) (vT 1) (vT 2) (vT 3) (vT 4 0) (vT 5 0) (vT 6) (vT 7) (vT 8) ++ (wSch G aS (vS 0) (vS 1) (vS 2) (vS 3) (vS 4) (vS 5) (vS 6) (vS 7) (vS 8 0) (vS 9 0) ++ (wHis G aH (q8.1) (q8.2.1) ((q8.2.2) 1 0)))))) C 26 rfl (c_X0_remember aS aH vS hA hV hZ hq8) V_X0_remember k223 i_X0_remember s_X0_remember rfl rfl ⟨Nat.le_of_ble_eq_true rfl, Nat.le_of_ble_eq_true rfl⟩ (Nat.le_of_ble_eq_true rfl) ⟨Nat.le_refl _, Nat.le_refl _⟩ 17 0 rfl rfl rfl (isC := [8, 9, 10, 11, 12, 13, 14, 15, 16, 17, 18, 19, 20, 21, 22, 23, 24, 25, 26, 27, 28, 29, 30, 31, 32, 33, 34, 35, 36, 37, 38, 39, 40, 41, 42, 43, 44, 45, 46, 47, 48, 49, 50, 51, 52, 53, 54, 55, 56, 57, 58, 59, 60, 61, 62, 63, 64, 65, 66, 67, 68, 69, 70, 71, 72]) (isR := [0, 1, 2, 3, 4, 5, 6, 7]) (N := 73) ⟨rfl, by decide +kernel, rfl, by decide +kernel, rfl, ⟨⟨_, rfl, rfl⟩, ⟨⟨_, rfl, rfl⟩, ⟨⟨_, rfl, rfl⟩, ⟨⟨_, rfl, rfl⟩, ⟨⟨_, rfl, rfl⟩, ⟨⟨_, rfl, rfl⟩, ⟨⟨_, rfl, rfl⟩, ⟨⟨_, rfl, rfl⟩, trivial⟩⟩⟩⟩⟩⟩⟩⟩⟩ rfl ?_
        refine J_aload_n (pc := 51) C 27 rfl 1 rfl rfl ?_
        refine J_get (pc := 52) (v := .ref (aS 0)) C 28 rfl TB_l4 rfl 0 1 rfl (by decide) k197 rfl rfl ?_
        refine J_get (pc := 55) (v := .ref (aS 7)) C 29 rfl TB_l2 rfl 8 6 rfl (by decide) k257 rfl rfl ?_
        refine J_iload_n (pc := 58) C 30 rfl 2 rfl rfl ?_
        refine J_iload_n (pc := 59) C 31 rfl 3 rfl rfl ?_
        obtain ⟨g9, h⟩ := gd_some h
        refine J_iast (pc := 60) (f := (vS 6)) (m := (Int32.toNatClampNeg x1)) C 32 (fun mm vv => (wEx aX (aT 0) (aT2 0) (aS 0) (aS2 0) (aP 0) (aH 0) aB aU ++ (wSeat G aT (aS 0) (vT 1) (vT 2) (vT 3) (vT 4 0) (vT 5 0) (vT 6) (vT 7) (vT 8) ++ (wSch G aS (vS 0) (vS 1) (vS 2) (vS 3) (vS 4) (vS 5) (upd (vS 6) mm vv) (vS 7) (vS 8 0) (vS 9 0) ++ (wHis G aH (q8.1) (q8.2.1) ((q8.2.2) 1 0)))))) rfl 15 rfl g9 rfl (fun _ _ => rfl) ?_
        refine J_aload_n (pc := 61) C 33 rfl 1 rfl rfl ?_
        refine J_get (pc := 62) (v := .ref (aS 0)) C 34 rfl TB_l4 rfl 0 1 rfl (by decide) k197 rfl rfl ?_
        refine J_get (pc := 65) (v := .ref (aS 8)) C 35 rfl TB_l2 rfl 8 7 rfl (by decide) k258 rfl rfl ?_
        refine J_iload_n (pc := 68) C 36 rfl 2 rfl rfl ?_
        refine J_iload_n (pc := 69) C 37 rfl 4 rfl rfl ?_
        obtain ⟨g10, h⟩ := gd_some h
        refine J_iast (pc := 70) (f := (vS 7)) (m := (Int32.toNatClampNeg x1)) C 38 (fun mm vv => (wEx aX (aT 0) (aT2 0) (aS 0) (aS2 0) (aP 0) (aH 0) aB aU ++ (wSeat G aT (aS 0) (vT 1) (vT 2) (vT 3) (vT 4 0) (vT 5 0) (vT 6) (vT 7) (vT 8) ++ (wSch G aS (vS 0) (vS 1) (vS 2) (vS 3) (vS 4) (vS 5) (upd (vS 6) (Int32.toNatClampNeg x1) x2) (upd (vS 7) mm vv) (vS 8 0) (vS 9 0) ++ (wHis G aH (q8.1) (q8.2.1) ((q8.2.2) 1 0)))))) rfl 16 rfl g10 rfl (fun _ _ => rfl) ?_
        refine J_aload_n (pc := 71) C 39 rfl 1 rfl rfl ?_
        refine J_get (pc := 72) (v := .ref (aT 0)) C 40 rfl TB_l4 rfl 0 0 rfl (by decide) k195 rfl rfl ?_
        obtain ⟨q11, hq11, h⟩ := bnd h
        refine J_callV (pc := 75) (st2 := []) (st3 := []) (ws2 := (wEx aX (aT 0) (aT2 0) (aS 0) (aS2 0) (aP 0) (aH 0) aB aU ++ (wSeat G aT (aS 0) (q11 1) (q11 2) (q11 3) (q11 4 0) (q11 5 0) (q11 6) (q11 7) (q11 8) ++ (wSch G aS (vS 0) (vS 1) (vS 2) (vS 3) (vS 4) (vS 5) (upd (vS 6) (Int32.toNatClampNeg x1) x2) (upd (vS 7) (Int32.toNatClampNeg x1) x3) (vS 8 0) (vS 9 0) ++ (wHis G aH (q8.1) (q8.2.1) ((q8.2.2) 1 0)))))) C 41 rfl (c_X3_seatAll aT aS vT (up2 (up2 vS 6 (Int32.toNatClampNeg x1) x2) 7 (Int32.toNatClampNeg x1) x3) hq11) V_X3_seatAll k214 i_X3_seatAll s_X3_seatAll rfl rfl ⟨Nat.le_of_ble_eq_true rfl, Nat.le_of_ble_eq_true rfl⟩ (Nat.le_of_ble_eq_true rfl) ⟨Nat.le_refl _, Nat.le_refl _⟩ 1 3 rfl rfl rfl (isC := [1, 2, 3, 4, 5, 6, 7, 8, 9, 10, 11, 12, 13, 14, 15, 16]) (isR := [0, 17, 18, 19, 20, 21, 22, 23, 24, 25, 26, 27, 28, 29, 30, 31, 32, 33, 34, 35, 36, 37, 38, 39, 40, 41, 42, 43, 44, 45, 46, 47, 48, 49, 50, 51, 52, 53, 54, 55, 56, 57, 58, 59, 60, 61, 62, 63, 64, 65, 66, 67, 68, 69, 70, 71, 72]) (N := 73) ⟨rfl, by decide +kernel, rfl, by decide +kernel, rfl, ⟨⟨_, rfl, rfl⟩, ⟨⟨_, rfl, rfl⟩, ⟨⟨_, rfl, rfl⟩, ⟨⟨_, rfl, rfl⟩, ⟨⟨_, rfl, rfl⟩, ⟨⟨_, rfl, rfl⟩, ⟨⟨_, rfl, rfl⟩, ⟨⟨_, rfl, rfl⟩, ⟨⟨_, rfl, rfl⟩, ⟨⟨_, rfl, rfl⟩, ⟨⟨_, rfl, rfl⟩, ⟨⟨_, rfl, rfl⟩, ⟨⟨_, rfl, rfl⟩, ⟨⟨_, rfl, rfl⟩, ⟨⟨_, rfl, rfl⟩, ⟨⟨_, rfl, rfl⟩, ⟨⟨_, rfl, rfl⟩, ⟨⟨_, rfl, rfl⟩, ⟨⟨_, rfl, rfl⟩, ⟨⟨_, rfl, rfl⟩, ⟨⟨_, rfl, rfl⟩, ⟨⟨_, rfl, rfl⟩, ⟨⟨_, rfl, rfl⟩, ⟨⟨_, rfl, rfl⟩, ⟨⟨_, rfl, rfl⟩, ⟨⟨_, rfl, rfl⟩, ⟨⟨_, rfl, rfl⟩, ⟨⟨_, rfl, rfl⟩, ⟨⟨_, rfl, rfl⟩, ⟨⟨_, rfl, rfl⟩, ⟨⟨_, rfl, rfl⟩, ⟨⟨_, rfl, rfl⟩, ⟨⟨_, rfl, rfl⟩, ⟨⟨_, rfl, rfl⟩, ⟨⟨_, rfl, rfl⟩, ⟨⟨_, rfl, rfl⟩, ⟨⟨_, rfl, rfl⟩, ⟨⟨_, rfl, rfl⟩, ⟨⟨_, rfl, rfl⟩, ⟨⟨_, rfl, rfl⟩, ⟨⟨_, rfl, rfl⟩, ⟨⟨_, rfl, rfl⟩, ⟨⟨_, rfl, rfl⟩, ⟨⟨_, rfl, rfl⟩, ⟨⟨_, rfl, rfl⟩, ⟨⟨_, rfl, rfl⟩, ⟨⟨_, rfl, rfl⟩, ⟨⟨_, rfl, rfl⟩, ⟨⟨_, rfl, rfl⟩, ⟨⟨_, rfl, rfl⟩, ⟨⟨_, rfl, rfl⟩, ⟨⟨_, rfl, rfl⟩, ⟨⟨_, rfl, rfl⟩, ⟨⟨_, rfl, rfl⟩, ⟨⟨_, rfl, rfl⟩, ⟨⟨_, rfl, rfl⟩, ⟨⟨_, rfl, rfl⟩, trivial⟩⟩⟩⟩⟩⟩⟩⟩⟩⟩⟩⟩⟩⟩⟩⟩⟩⟩⟩⟩⟩⟩⟩⟩⟩⟩⟩⟩⟩⟩⟩⟩⟩⟩⟩⟩⟩⟩⟩⟩⟩⟩⟩⟩⟩⟩⟩⟩⟩⟩⟩⟩⟩⟩⟩⟩⟩⟩ rfl ?_
        refine J_iload (pc := 78) C 42 rfl 0 rfl ?_
        cases h
        exact J_iret (pc := 80) C 43 rfl
      · rw [if_pos c6] at h
        refine J_bipush (pc := 27) (v := (-2 : Int32)) C 15 rfl rfl ?_
        cases h
        exact J_iret (pc := 29) C 16 rfl
  · rw [if_pos c2] at h
    refine J_iconst (pc := 7) (v := (-1 : Int32)) C 3 rfl rfl ?_
    cases h
    exact J_iret (pc := 8) C 4 rfl
def T_X4_open : List (Nat × ClassFile.Instr × Nat) := [(0, .iload_n 1, 1), (1, .invokestatic 132, 3), (4, .ifCond .ne 5, 3), (7, .iconst (-1), 1), (8, .ireturn, 1), (9, .aload_n 0, 1), (10, .getfield 20, 3), (13, .iload_n 1, 1), (14, .invokevirtual 144, 3), (17, .iload_n 2, 1), (18, .if_icmp .ne 6, 3), (21, .bipush (-5), 2), (23, .ireturn, 1), (24, .aload_n 0, 1), (25, .getfield 37, 3), (28, .aload_n 0, 1), (29, .getfield 20, 3), (32, .invokevirtual 66, 3), (35, .aload_n 0, 1), (36, .getfield 20, 3), (39, .dup, 1), (40, .getfield 147, 3), (43, .iconst 1, 1), (44, .iload_n 1, 1), (45, .ishl, 1), (46, .ixor, 1), (47, .putfield 147, 3), (50, .aload_n 0, 1), (51, .getfield 12, 3), (54, .invokevirtual 52, 3), (57, .aload_n 0, 1), (58, .getfield 12, 3), (61, .getfield 150, 3), (64, .ireturn, 1)]
theorem D_X4_open : ∀ q ∈ T_X4_open, decode cX4_open q.1 = .ok q.2 := by decide +kernel
theorem V_X4_open : Vy yX4_open cX4_open 3 (some .int) 2 := ⟨k266, k56, by decide +kernel⟩
theorem i_X4_open : Cond.instanceMethod yX4_open ∈ TB := k396
theorem s_X4_open : Cond.selects yX4_open.cls yX4_open yX4_open ∈ TB := k397
noncomputable def f_X4_open (vT : JV) (vS : JV) (hA : Nat → Nat → Nat) (hV : Nat → JV) (hZ : JV) (x1 : Int32) (x2 : Int32) : Option (Int32 × JV × JV × (Nat → Nat → Nat) × (Nat → JV) × JV) :=
  (f_X4_isHall x1).bind (fun q1 => (if q1 = 0 then some ((-1 : Int32), vT, vS, hA, hV, hZ) else (f_X2_isOpen vS x1).bind (fun q3 => (if q3 = x2 then some ((-5 : Int32), vT, vS, hA, hV, hZ) else (f_X0_remember vS hA hV hZ).bind (fun q5 => (f_X3_seatAll vT (up2 vS 9 0 ((vS 9 0) ^^^ ((1 : Int32) <<< (x1 &&& 31))))).bind (fun q6 => some ((q6 4 0), q6, (up2 vS 9 0 ((vS 9 0) ^^^ ((1 : Int32) <<< (x1 &&& 31)))), (q5.1), (q5.2.1), (q5.2.2))))))))
set_option maxRecDepth 100000 in
set_option maxHeartbeats 4000000 in
theorem c_X4_open {l : Launch} {G : JG} (aX : Nat) (aT : Nat → Nat) (aS : Nat → Nat) (aT2 : Nat → Nat) (aS2 : Nat → Nat) (aP : Nat → Nat) (aH : Nat → Nat) (aB : Nat) (aU : Nat) (vT : JV) (vS : JV) (hA : Nat → Nat → Nat) (hV : Nat → JV) (hZ : JV) (x1 : Int32) (x2 : Int32) {Rz : Int32 × JV × JV × (Nat → Nat → Nat) × (Nat → JV) × JV} (h : f_X4_open vT vS hA hV hZ x1 x2 = some Rz) : JM l G yX4_open cX4_open 3 (some .int) 6 141 [.ref aX, .int x1, .int x2] (wEx aX (aT 0) (aT2 0) (aS 0) (aS2 0) (aP 0) (aH 0) aB aU ++ (wSeat G aT (aS 0) (vT 1) (vT 2) (vT 3) (vT 4 0) (vT 5 0) (vT 6) (vT 7) (vT 8) ++ (wSch G aS (vS 0) (vS 1) (vS 2) (vS 3) (vS 4) (vS 5) (vS 6) (vS 7) (vS 8 0) (vS 9 0) ++ (wHis G aH hA hV (hZ 1 0))))) (wEx aX (aT 0) (aT2 0) (aS 0) (aS2 0) (aP 0) (aH 0) aB aU ++ (wSeat G aT (aS 0) ((Rz.2.1) 1) ((Rz.2.1) 2) ((Rz.2.1) 3) ((Rz.2.1) 4 0) ((Rz.2.1) 5 0) ((Rz.2.1) 6) ((Rz.2.1) 7) ((Rz.2.1) 8) ++ (wSch G aS ((Rz.2.2.1) 0) ((Rz.2.2.1) 1) ((Rz.2.2.1) 2) ((Rz.2.2.1) 3) ((Rz.2.2.1) 4) ((Rz.2.2.1) 5) ((Rz.2.2.1) 6) ((Rz.2.2.1) 7) ((Rz.2.2.1) 8 0) ((Rz.2.2.1) 9 0) ++ (wHis G aH (Rz.2.2.2.1) (Rz.2.2.2.2.1) ((Rz.2.2.2.2.2) 1 0))))) (some (.int (Rz.1))) := by
  refine JM.of (own := RX4) (tb := T_X4_open) (by decide) (Nat.le_of_ble_eq_true rfl) D_X4_open rfl (fun X C => ?_)
  refine J_sub (lv' := [(0, .ref aX), (1, .int x1), (2, .int x2)]) [0, 1, 2] rfl ?_
  unfold f_X4_open at h
  refine J_iload_n (pc := 0) C 0 rfl 1 rfl rfl ?_
  obtain ⟨q1, hq1, h⟩ := bnd h
  refine J_callS (pc := 1) (st2 := []) (st3 := [.int q1]) (ws2 := (wEx aX (aT 0) (aT2 0) (aS 0) (aS2 0) (aP 0) (aH 0) aB aU ++ (wSeat G aT (aS 0) (vT 1) (vT 2) (vT 3) (vT 4 0) (vT 5 0) (vT 6) (vT 7) (vT 8) ++ (wSch G aS (vS 0) (vS 1) (vS 2) (vS 3) (vS 4) (vS 5) (vS 6) (vS 7) (vS 8 0) (vS 9 0) ++ (wHis G aH hA hV (hZ 1 0)))))) C 1 rfl (c_X4_isHall x1 hq1) V_X4_isHall k259 t_X4_isHall rfl rfl ⟨Nat.le_of_ble_eq_true rfl, Nat.le_of_ble_eq_true rfl⟩ (Nat.le_of_ble_eq_true rfl) ⟨Nat.le_refl _, Nat.le_refl _⟩ (isC := []) (isR := [0, 1, 2, 3, 4, 5, 6, 7, 8, 9, 10, 11, 12, 13, 14, 15, 16, 17, 18, 19, 20, 21, 22, 23, 24, 25, 26, 27, 28, 29, 30, 31, 32, 33, 34, 35, 36, 37, 38, 39, 40, 41, 42, 43, 44, 45, 46, 47, 48, 49, 50, 51, 52, 53, 54, 55, 56, 57, 58, 59, 60, 61, 62, 63, 64, 65, 66, 67, 68, 69, 70, 71, 72]) (N := 73) ⟨rfl, by decide +kernel, rfl, by decide +kernel, rfl, ⟨⟨_, rfl, rfl⟩, ⟨⟨_, rfl, rfl⟩, ⟨⟨_, rfl, rfl⟩, ⟨⟨_, rfl, rfl⟩, ⟨⟨_, rfl, rfl⟩, ⟨⟨_, rfl, rfl⟩, ⟨⟨_, rfl, rfl⟩, ⟨⟨_, rfl, rfl⟩, ⟨⟨_, rfl, rfl⟩, ⟨⟨_, rfl, rfl⟩, ⟨⟨_, rfl, rfl⟩, ⟨⟨_, rfl, rfl⟩, ⟨⟨_, rfl, rfl⟩, ⟨⟨_, rfl, rfl⟩, ⟨⟨_, rfl, rfl⟩, ⟨⟨_, rfl, rfl⟩, ⟨⟨_, rfl, rfl⟩, ⟨⟨_, rfl, rfl⟩, ⟨⟨_, rfl, rfl⟩, ⟨⟨_, rfl, rfl⟩, ⟨⟨_, rfl, rfl⟩, ⟨⟨_, rfl, rfl⟩, ⟨⟨_, rfl, rfl⟩, ⟨⟨_, rfl, rfl⟩, ⟨⟨_, rfl, rfl⟩, ⟨⟨_, rfl, rfl⟩, ⟨⟨_, rfl, rfl⟩, ⟨⟨_, rfl, rfl⟩, ⟨⟨_, rfl, rfl⟩, ⟨⟨_, rfl, rfl⟩, ⟨⟨_, rfl, rfl⟩, ⟨⟨_, rfl, rfl⟩, ⟨⟨_, rfl, rfl⟩, ⟨⟨_, rfl, rfl⟩, ⟨⟨_, rfl, rfl⟩, ⟨⟨_, rfl, rfl⟩, ⟨⟨_, rfl, rfl⟩, ⟨⟨_, rfl, rfl⟩, ⟨⟨_, rfl, rfl⟩, ⟨⟨_, rfl, rfl⟩, ⟨⟨_, rfl, rfl⟩, ⟨⟨_, rfl, rfl⟩, ⟨⟨_, rfl, rfl⟩, ⟨⟨_, rfl, rfl⟩, ⟨⟨_, rfl, rfl⟩, ⟨⟨_, rfl, rfl⟩, ⟨⟨_, rfl, rfl⟩, ⟨⟨_, rfl, rfl⟩, ⟨⟨_, rfl, rfl⟩, ⟨⟨_, rfl, rfl⟩, ⟨⟨_, rfl, rfl⟩, ⟨⟨_, rfl, rfl⟩, ⟨⟨_, rfl, rfl⟩, ⟨⟨_, rfl, rfl⟩, ⟨⟨_, rfl, rfl⟩, ⟨⟨_, rfl, rfl⟩, ⟨⟨_, rfl, rfl⟩, ⟨⟨_, rfl, rfl⟩, ⟨⟨_, rfl, rfl⟩, ⟨⟨_, rfl, rfl⟩, ⟨⟨_, rfl, rfl⟩, ⟨⟨_, rfl, rfl⟩, ⟨⟨_, rfl, rfl⟩, ⟨⟨_, rfl, rfl⟩, ⟨⟨_, rfl, rfl⟩, ⟨⟨_, rfl, rfl⟩, ⟨⟨_, rfl, rfl⟩, ⟨⟨_, rfl, rfl⟩, ⟨⟨_, rfl, rfl⟩, ⟨⟨_, rfl, rfl⟩, ⟨⟨_, rfl, rfl⟩, ⟨⟨_, rfl, rfl⟩, ⟨⟨_, rfl, rfl⟩, trivial⟩⟩⟩⟩⟩⟩⟩⟩⟩⟩⟩⟩⟩⟩⟩⟩⟩⟩⟩⟩⟩⟩⟩⟩⟩⟩⟩⟩⟩⟩⟩⟩⟩⟩⟩⟩⟩⟩⟩⟩⟩⟩⟩⟩⟩⟩⟩⟩⟩⟩⟩⟩⟩⟩⟩⟩⟩⟩⟩⟩⟩⟩⟩⟩⟩⟩⟩⟩⟩⟩⟩⟩⟩⟩ rfl ?_
  refine J_if_ne (pc := 4) (tgt := 9) C 2 rfl rfl (fun c2 => ?_) (fun c2 => ?_)
  · rw [if_neg c2] at h
    refine J_aload_n (pc := 9) C 5 rfl 0 rfl rfl ?_
    refine J_get (pc := 10) (v := .ref (aS 0)) C 6 rfl TB_l4 rfl 0 1 rfl (by decide) k197 rfl rfl ?_
    refine J_iload_n (pc := 13) C 7 rfl 1 rfl rfl ?_
    obtain ⟨q3, hq3, h⟩ := bnd h
    refine J_callV (pc := 14) (st2 := []) (st3 := [.int q3]) (ws2 := (wEx aX (aT 0) (aT2 0) (aS 0) (aS2 0) (aP 0) (aH 0) aB aU ++ (wSeat G aT (aS 0) (vT 1) (vT 2) (vT 3) (vT 4 0) (vT 5 0) (vT 6) (vT 7) (vT 8) ++ (wSch G aS (vS 0) (vS 1) (vS 2) (vS 3) (vS 4) (vS 5) (vS 6) (vS 7) (vS 8 0) (vS 9 0) ++ (wHis G aH hA hV (hZ 1 0)))))) C 8 rfl (c_X2_isOpen aS vS x1 hq3) V_X2_isOpen k265 i_X2_isOpen s_X2_isOpen rfl rfl ⟨Nat.le_of_ble_eq_true rfl, Nat.le_of_ble_eq_true rfl⟩ (Nat.le_of_ble_eq_true rfl) ⟨Nat.le_refl _, Nat.le_refl _⟩ 8 2 rfl rfl rfl (isC := [8, 9, 10, 11, 12, 13, 14, 15, 16]) (isR := [0, 1, 2, 3, 4, 5, 6, 7, 17, 18, 19, 20, 21, 22, 23, 24, 25, 26, 27, 28, 29, 30, 31, 32, 33, 34, 35, 36, 37, 38, 39, 40, 41, 42, 43, 44, 45, 46, 47, 48, 49, 50, 51, 52, 53, 54, 55, 56, 57, 58, 59, 60, 61, 62, 63, 64, 65, 66, 67, 68, 69, 70, 71, 72]) (N := 73) ⟨rfl, by decide +kernel, rfl, by decide +kernel, rfl, ⟨⟨_, rfl, rfl⟩, ⟨⟨_, rfl, rfl⟩, ⟨⟨_, rfl, rfl⟩, ⟨⟨_, rfl, rfl⟩, ⟨⟨_, rfl, rfl⟩, ⟨⟨_, rfl, rfl⟩, ⟨⟨_, rfl, rfl⟩, ⟨⟨_, rfl, rfl⟩, ⟨⟨_, rfl, rfl⟩, ⟨⟨_, rfl, rfl⟩, ⟨⟨_, rfl, rfl⟩, ⟨⟨_, rfl, rfl⟩, ⟨⟨_, rfl, rfl⟩, ⟨⟨_, rfl, rfl⟩, ⟨⟨_, rfl, rfl⟩, ⟨⟨_, rfl, rfl⟩, ⟨⟨_, rfl, rfl⟩, ⟨⟨_, rfl, rfl⟩, ⟨⟨_, rfl, rfl⟩, ⟨⟨_, rfl, rfl⟩, ⟨⟨_, rfl, rfl⟩, ⟨⟨_, rfl, rfl⟩, ⟨⟨_, rfl, rfl⟩, ⟨⟨_, rfl, rfl⟩, ⟨⟨_, rfl, rfl⟩, ⟨⟨_, rfl, rfl⟩, ⟨⟨_, rfl, rfl⟩, ⟨⟨_, rfl, rfl⟩, ⟨⟨_, rfl, rfl⟩, ⟨⟨_, rfl, rfl⟩, ⟨⟨_, rfl, rfl⟩, ⟨⟨_, rfl, rfl⟩, ⟨⟨_, rfl, rfl⟩, ⟨⟨_, rfl, rfl⟩, ⟨⟨_, rfl, rfl⟩, ⟨⟨_, rfl, rfl⟩, ⟨⟨_, rfl, rfl⟩, ⟨⟨_, rfl, rfl⟩, ⟨⟨_, rfl, rfl⟩, ⟨⟨_, rfl, rfl⟩, ⟨⟨_, rfl, rfl⟩, ⟨⟨_, rfl, rfl⟩, ⟨⟨_, rfl, rfl⟩, ⟨⟨_, rfl, rfl⟩, ⟨⟨_, rfl, rfl⟩, ⟨⟨_, rfl, rfl⟩, ⟨⟨_, rfl, rfl⟩, ⟨⟨_, rfl, rfl⟩, ⟨⟨_, rfl, rfl⟩, ⟨⟨_, rfl, rfl⟩, ⟨⟨_, rfl, rfl⟩, ⟨⟨_, rfl, rfl⟩, ⟨⟨_, rfl, rfl⟩, ⟨⟨_, rfl, rfl⟩, ⟨⟨_, rfl, rfl⟩, ⟨⟨_, rfl, rfl⟩, ⟨⟨_, rfl, rfl⟩, ⟨⟨_, rfl, rfl⟩, ⟨⟨_, rfl, rfl⟩, ⟨⟨_, rfl, rfl⟩, ⟨⟨_, rfl, rfl⟩, ⟨⟨_, rfl, rfl⟩, ⟨⟨_, rfl, rfl⟩, ⟨⟨_, rfl, rfl⟩, trivial⟩⟩⟩⟩⟩⟩⟩⟩⟩⟩⟩⟩⟩⟩⟩⟩⟩⟩⟩⟩⟩⟩⟩⟩⟩⟩⟩⟩⟩⟩⟩⟩⟩⟩⟩⟩⟩⟩⟩⟩⟩⟩⟩⟩⟩⟩⟩⟩⟩⟩⟩⟩⟩⟩⟩⟩⟩⟩⟩⟩⟩⟩⟩⟩⟩ rfl ?_
    refine J_iload_n (pc := 17) C 9 rfl 2 rfl rfl ?_
    refine J_icmp_ne (pc := 18) (tgt := 24) C 10 rfl rfl (fun c4 => ?_) (fun c4 => ?_)
    · rw [if_neg c4] at h
      refine J_aload_n (pc := 24) C 13 rfl 0 rfl rfl ?_
      refine J_get (pc := 25) (v := .ref (aH 0)) C 14 rfl TB_l4 rfl 0 5 rfl (by decide) k206 rfl rfl ?_
      refine J_aload_n (pc := 28) C 15 rfl 0 rfl rfl ?_
      refine J_get (pc := 29) (v := .ref (aS 0)) C 16 rfl TB_l4 rfl 0 1 rfl (by decide) k197 rfl rfl ?_
      obtain ⟨q5, hq5, h⟩ := bnd h
      refine J_callV (pc := 32) (st2 := []) (st3 := []) (ws2 := (wEx aX (aT 0) (aT2 0) (aS 0) (aS2 0) (aP 0) (aH 0) aB aU ++ (wSeat G aT (aS 0) (vT 1) (vT 2) (vT 3) (vT 4 0) (vT 5 0) (vT 6) (vT 7) (vT 8) ++ (wSch G aS (vS 0) (vS 1) (vS 2) (vS 3) (vS 4) (vS 5) (vS 6) (vS 7) (vS 8 0) (vS 9 0) ++ (wHis G aH (q5.1) (q5.2.1) ((q5.2.2) 1 0)))))) C 17 rfl (c_X0_remember aS aH vS hA hV hZ hq5) V_X0_remember k223 i_X0_remember s_X0_remember rfl rfl ⟨Nat.le_of_ble_eq_true rfl, Nat.le_of_ble_eq_true rfl⟩ (Nat.le_of_ble_eq_true rfl) ⟨Nat.le_refl _, Nat.le_refl _⟩ 17 0 rfl rfl rfl (isC := [8, 9, 10, 11, 12, 13, 14, 15, 16, 17, 18, 19, 20, 21, 22, 23, 24, 25, 26, 27, 28, 29, 30, 31, 32, 33, 34, 35, 36, 37, 38, 39, 40, 41, 42, 43, 44, 45, 46, 47, 48, 49, 50, 51, 52, 53, 54, 55, 56, 57, 58, 59, 60, 61, 62, 63, 64, 65, 66, 67, 68, 69, 70, 71, 72]) (isR := [0, 1, 2, 3, 4, 5, 6, 7]) (N := 73) ⟨rfl, by decide +kernel, rfl, by decide +kernel, rfl, ⟨⟨_, rfl, rfl⟩, ⟨⟨_, rfl, rfl⟩, ⟨⟨_, rfl, rfl⟩, ⟨⟨_, rfl, rfl⟩, ⟨⟨_, rfl, rfl⟩, ⟨⟨_, rfl, rfl⟩, ⟨⟨_, rfl, rfl⟩, ⟨⟨_, rfl, rfl⟩, trivial⟩⟩⟩⟩⟩⟩⟩⟩⟩ rfl ?_
      refine J_aload_n (pc := 35) C 18 rfl 0 rfl rfl ?_
      refine J_get (pc := 36) (v := .ref (aS 0)) C 19 rfl TB_l4 rfl 0 1 rfl (by decide) k197 rfl rfl ?_
      refine J_dup (pc := 39) C 20 rfl rfl ?_
      refine J_get (pc := 40) (v := .int (vS 9 0)) C 21 rfl TB_l2 rfl 8 9 rfl (by decide) k263 rfl rfl ?_
      refine J_iconst (pc := 43) (v := (1 : Int32)) C 22 rfl rfl ?_
      refine J_iload_n (pc := 44) C 23 rfl 1 rfl rfl ?_
      refine J_ishl (pc := 45) C 24 rfl  ?_
      refine J_ixor (pc := 46) C 25 rfl  ?_
      refine J_puti (pc := 47) C 26 (fun vv => (wEx aX (aT 0) (aT2 0) (aS 0) (aS2 0) (aP 0) (aH 0) aB aU ++ (wSeat G aT (aS 0) (vT 1) (vT 2) (vT 3) (vT 4 0) (vT 5 0) (vT 6) (vT 7) (vT 8) ++ (wSch G aS (vS 0) (vS 1) (vS 2) (vS 3) (vS 4) (vS 5) (vS 6) (vS 7) (vS 8 0) vv ++ (wHis G aH (q5.1) (q5.2.1) ((q5.2.2) 1 0)))))) rfl TB_l2 tyX2 tyX2_ok nmX2 rfl 8 9 rfl (by decide) k263 rfl rfl rfl (Nat.le_of_ble_eq_true rfl) (fun _ => rfl) ?_
      refine J_aload_n (pc := 50) C 27 rfl 0 rfl rfl ?_
      refine J_get (pc := 51) (v := .ref (aT 0)) C 28 rfl TB_l4 rfl 0 0 rfl (by decide) k195 rfl rfl ?_
      obtain ⟨q6, hq6, h⟩ := bnd h
      refine J_callV (pc := 54) (st2 := []) (st3 := []) (ws2 := (wEx aX (aT 0) (aT2 0) (aS 0) (aS2 0) (aP 0) (aH 0) aB aU ++ (wSeat G aT (aS 0) (q6 1) (q6 2) (q6 3) (q6 4 0) (q6 5 0) (q6 6) (q6 7) (q6 8) ++ (wSch G aS (vS 0) (vS 1) (vS 2) (vS 3) (vS 4) (vS 5) (vS 6) (vS 7) (vS 8 0) ((vS 9 0) ^^^ ((1 : Int32) <<< (x1 &&& 31))) ++ (wHis G aH (q5.1) (q5.2.1) ((q5.2.2) 1 0)))))) C 29 rfl (c_X3_seatAll aT aS vT (up2 vS 9 0 ((vS 9 0) ^^^ ((1 : Int32) <<< (x1 &&& 31)))) hq6) V_X3_seatAll k214 i_X3_seatAll s_X3_seatAll rfl rfl ⟨Nat.le_of_ble_eq_true rfl, Nat.le_of_ble_eq_true rfl⟩ (Nat.le_of_ble_eq_true rfl) ⟨Nat.le_refl _, Nat.le_refl _⟩ 1 3 rfl rfl rfl (isC := [1, 2, 3, 4, 5, 6, 7, 8, 9, 10, 11, 12, 13, 14, 15, 16]) (isR := [0, 17, 18, 19, 20, 21, 22, 23, 24, 25, 26, 27, 28, 29, 30, 31, 32, 33, 34, 35, 36, 37, 38, 39, 40, 41, 42, 43, 44, 45, 46, 47, 48, 49, 50, 51, 52, 53, 54, 55, 56, 57, 58, 59, 60, 61, 62, 63, 64, 65, 66, 67, 68, 69, 70, 71, 72]) (N := 73) ⟨rfl, by decide +kernel, rfl, by decide +kernel, rfl, ⟨⟨_, rfl, rfl⟩, ⟨⟨_, rfl, rfl⟩, ⟨⟨_, rfl, rfl⟩, ⟨⟨_, rfl, rfl⟩, ⟨⟨_, rfl, rfl⟩, ⟨⟨_, rfl, rfl⟩, ⟨⟨_, rfl, rfl⟩, ⟨⟨_, rfl, rfl⟩, ⟨⟨_, rfl, rfl⟩, ⟨⟨_, rfl, rfl⟩, ⟨⟨_, rfl, rfl⟩, ⟨⟨_, rfl, rfl⟩, ⟨⟨_, rfl, rfl⟩, ⟨⟨_, rfl, rfl⟩, ⟨⟨_, rfl, rfl⟩, ⟨⟨_, rfl, rfl⟩, ⟨⟨_, rfl, rfl⟩, ⟨⟨_, rfl, rfl⟩, ⟨⟨_, rfl, rfl⟩, ⟨⟨_, rfl, rfl⟩, ⟨⟨_, rfl, rfl⟩, ⟨⟨_, rfl, rfl⟩, ⟨⟨_, rfl, rfl⟩, ⟨⟨_, rfl, rfl⟩, ⟨⟨_, rfl, rfl⟩, ⟨⟨_, rfl, rfl⟩, ⟨⟨_, rfl, rfl⟩, ⟨⟨_, rfl, rfl⟩, ⟨⟨_, rfl, rfl⟩, ⟨⟨_, rfl, rfl⟩, ⟨⟨_, rfl, rfl⟩, ⟨⟨_, rfl, rfl⟩, ⟨⟨_, rfl, rfl⟩, ⟨⟨_, rfl, rfl⟩, ⟨⟨_, rfl, rfl⟩, ⟨⟨_, rfl, rfl⟩, ⟨⟨_, rfl, rfl⟩, ⟨⟨_, rfl, rfl⟩, ⟨⟨_, rfl, rfl⟩, ⟨⟨_, rfl, rfl⟩, ⟨⟨_, rfl, rfl⟩, ⟨⟨_, rfl, rfl⟩, ⟨⟨_, rfl, rfl⟩, ⟨⟨_, rfl, rfl⟩, ⟨⟨_, rfl, rfl⟩, ⟨⟨_, rfl, rfl⟩, ⟨⟨_, rfl, rfl⟩, ⟨⟨_, rfl, rfl⟩, ⟨⟨_, rfl, rfl⟩, ⟨⟨_, rfl, rfl⟩, ⟨⟨_, rfl, rfl⟩, ⟨⟨_, rfl, rfl⟩, ⟨⟨_, rfl, rfl⟩, ⟨⟨_, rfl, rfl⟩, ⟨⟨_, rfl, rfl⟩, ⟨⟨_, rfl, rfl⟩, ⟨⟨_, rfl, rfl⟩, trivial⟩⟩⟩⟩⟩⟩⟩⟩⟩⟩⟩⟩⟩⟩⟩⟩⟩⟩⟩⟩⟩⟩⟩⟩⟩⟩⟩⟩⟩⟩⟩⟩⟩⟩⟩⟩⟩⟩⟩⟩⟩⟩⟩⟩⟩⟩⟩⟩⟩⟩⟩⟩⟩⟩⟩⟩⟩⟩ rfl ?_
      refine J_aload_n (pc := 57) C 30 rfl 0 rfl rfl ?_
      refine J_get (pc := 58) (v := .ref (aT 0)) C 31 rfl TB_l4 rfl 0 0 rfl (by decide) k195 rfl rfl ?_
      refine J_get (pc := 61) (v := .int (q6 4 0)) C 32 rfl TB_l3 rfl 1 4 rfl (by decide) k264 rfl rfl ?_
      cases h
      exact J_iret (pc := 64) C 33 rfl
    · rw [if_pos c4] at h
      refine J_bipush (pc := 21) (v := (-5 : Int32)) C 11 rfl rfl ?_
      cases h
      exact J_iret (pc := 23) C 12 rfl
  · rw [if_pos c2] at h
    refine J_iconst (pc := 7) (v := (-1 : Int32)) C 3 rfl rfl ?_
    cases h
    exact J_iret (pc := 8) C 4 rfl
def T_X4_pupilOf : List (Nat × ClassFile.Instr × Nat) := [(0, .aload_n 0, 1), (1, .iload_n 1, 1), (2, .invokevirtual 114, 3), (5, .ifCond .ne 5, 3), (8, .iconst (-1), 1), (9, .ireturn, 1), (10, .iload_n 2, 1), (11, .tableswitch 102 0 5 #[37, 47, 57, 75, 84, 93], 37), (48, .aload_n 0, 1), (49, .getfield 20, 3), (52, .getfield 125, 3), (55, .iload_n 1, 1), (56, .iaload, 1), (57, .ireturn, 1), (58, .aload_n 0, 1), (59, .getfield 20, 3), (62, .getfield 153, 3), (65, .iload_n 1, 1), (66, .iaload, 1), (67, .ireturn, 1), (68, .aload_n 0, 1), (69, .getfield 20, 3), (72, .getfield 156, 3), (75, .iload_n 1, 1), (76, .baload, 1), (77, .ifCond .eq 7, 3), (80, .iconst 1, 1), (81, .goto 4, 3), (84, .iconst 0, 1), (85, .ireturn, 1), (86, .aload_n 0, 1), (87, .getfield 20, 3), (90, .iload_n 1, 1), (91, .invokevirtual 121, 3), (94, .ireturn, 1), (95, .aload_n 0, 1), (96, .getfield 12, 3), (99, .iload_n 1, 1), (100, .invokevirtual 159, 3), (103, .ireturn, 1), (104, .aload_n 0, 1), (105, .getfield 20, 3), (108, .iload_n 1, 1), (109, .invokevirtual 162, 3), (112, .ireturn, 1), (113, .bipush (-2), 2), (115, .ireturn, 1)]
theorem D_X4_pupilOf : ∀ q ∈ T_X4_pupilOf, decode cX4_pupilOf q.1 = .ok q.2 := by decide +kernel
theorem V_X4_pupilOf : Vy yX4_pupilOf cX4_pupilOf 3 (some .int) 2 := ⟨k275, k56, by decide +kernel⟩
theorem i_X4_pupilOf : Cond.instanceMethod yX4_pupilOf ∈ TB := k360
theorem s_X4_pupilOf : Cond.selects yX4_pupilOf.cls yX4_pupilOf yX4_pupilOf ∈ TB := k361
noncomputable def f_X4_pupilOf (vT : JV) (vS : JV) (x1 : Int32) (x2 : Int32) : Option (Int32) :=
  (f_X4_isPupil vS x1).bind (fun q1 => (if q1 = 0 then some (-1 : Int32) else (if x2 = (0 : Int32) then gd (inb x1 16) (some ((vS 3) (Int32.toNatClampNeg x1))) else (if x2 = (1 : Int32) then gd (inb x1 16) (some ((vS 4) (Int32.toNatClampNeg x1))) else (if x2 = (2 : Int32) then gd (inb x1 16) ((if ((vS 5) (Int32.toNatClampNeg x1)) = 0 then some (0 : Int32) else some (1 : Int32))) else (if x2 = (3 : Int32) then (f_X2_clashesOf vS x1).bind (fun q11 => some q11) else (if x2 = (4 : Int32) then (f_X3_unplacedPapersOf vT vS x1).bind (fun q13 => some q13) else (if x2 = (5 : Int32) then (f_X2_minutesOf vS x1).bind (fun q15 => some q15) else some (-2 : Int32)))))))))
set_option maxRecDepth 100000 in
set_option maxHeartbeats 4000000 in
theorem c_X4_pupilOf {l : Launch} {G : JG} (aX : Nat) (aT : Nat → Nat) (aS : Nat → Nat) (aT2 : Nat → Nat) (aS2 : Nat → Nat) (aP : Nat → Nat) (aH : Nat → Nat) (aB : Nat) (aU : Nat) (vT : JV) (vS : JV) (x1 : Int32) (x2 : Int32) {Rz : Int32} (h : f_X4_pupilOf vT vS x1 x2 = some Rz) : JM l G yX4_pupilOf cX4_pupilOf 3 (some .int) 4 91 [.ref aX, .int x1, .int x2] (wEx aX (aT 0) (aT2 0) (aS 0) (aS2 0) (aP 0) (aH 0) aB aU ++ (wSeat G aT (aS 0) (vT 1) (vT 2) (vT 3) (vT 4 0) (vT 5 0) (vT 6) (vT 7) (vT 8) ++ (wSch G aS (vS 0) (vS 1) (vS 2) (vS 3) (vS 4) (vS 5) (vS 6) (vS 7) (vS 8 0) (vS 9 0)))) (wEx aX (aT 0) (aT2 0) (aS 0) (aS2 0) (aP 0) (aH 0) aB aU ++ (wSeat G aT (aS 0) (vT 1) (vT 2) (vT 3) (vT 4 0) (vT 5 0) (vT 6) (vT 7) (vT 8) ++ (wSch G aS (vS 0) (vS 1) (vS 2) (vS 3) (vS 4) (vS 5) (vS 6) (vS 7) (vS 8 0) (vS 9 0)))) (some (.int Rz)) := by
  refine JM.of (own := RX4) (tb := T_X4_pupilOf) (by decide) (Nat.le_of_ble_eq_true rfl) D_X4_pupilOf rfl (fun X C => ?_)
  refine J_sub (lv' := [(0, .ref aX), (1, .int x1), (2, .int x2)]) [0, 1, 2] rfl ?_
  unfold f_X4_pupilOf at h
  refine J_aload_n (pc := 0) C 0 rfl 0 rfl rfl ?_
  refine J_iload_n (pc := 1) C 1 rfl 1 rfl rfl ?_
  obtain ⟨q1, hq1, h⟩ := bnd h
  refine J_callV (pc := 2) (st2 := []) (st3 := [.int q1]) (ws2 := (wEx aX (aT 0) (aT2 0) (aS 0) (aS2 0) (aP 0) (aH 0) aB aU ++ (wSeat G aT (aS 0) (vT 1) (vT 2) (vT 3) (vT 4 0) (vT 5 0) (vT 6) (vT 7) (vT 8) ++ (wSch G aS (vS 0) (vS 1) (vS 2) (vS 3) (vS 4) (vS 5) (vS 6) (vS 7) (vS 8 0) (vS 9 0))))) C 2 rfl (c_X4_isPupil aX aT aS aT2 aS2 aP aH aB aU vS x1 hq1) V_X4_isPupil k245 i_X4_isPupil s_X4_isPupil rfl rfl ⟨Nat.le_of_ble_eq_true rfl, Nat.le_of_ble_eq_true rfl⟩ (Nat.le_of_ble_eq_true rfl) ⟨Nat.le_refl _, Nat.le_refl _⟩ 0 4 rfl rfl rfl (isC := [0, 8, 9, 10, 11, 12, 13, 14, 15, 16]) (isR := [1, 2, 3, 4, 5, 6, 7]) (N := 17) ⟨rfl, by decide +kernel, rfl, by decide +kernel, rfl, ⟨⟨_, rfl, rfl⟩, ⟨⟨_, rfl, rfl⟩, ⟨⟨_, rfl, rfl⟩, ⟨⟨_, rfl, rfl⟩, ⟨⟨_, rfl, rfl⟩, ⟨⟨_, rfl, rfl⟩, ⟨⟨_, rfl, rfl⟩, trivial⟩⟩⟩⟩⟩⟩⟩⟩ rfl ?_
  refine J_if_ne (pc := 5) (tgt := 10) C 3 rfl rfl (fun c2 => ?_) (fun c2 => ?_)
  · rw [if_neg c2] at h
    refine J_iload_n (pc := 10) C 6 rfl 2 rfl rfl ?_
    by_cases c3 : x2 = (0 : Int32)
    · rw [if_pos c3] at h
      refine J_tabIn (pc := 11) (tgt := 48) C 7 rfl (by rw [c3]; decide) (by rw [c3]; decide) (by rw [c3]; rfl) rfl ?_
      refine J_aload_n (pc := 48) C 8 rfl 0 rfl rfl ?_
      refine J_get (pc := 49) (v := .ref (aS 0)) C 9 rfl TB_l4 rfl 0 1 rfl (by decide) k197 rfl rfl ?_
      refine J_get (pc := 52) (v := .ref (aS 4)) C 10 rfl TB_l2 rfl 8 3 rfl (by decide) k251 rfl rfl ?_
      refine J_iload_n (pc := 55) C 11 rfl 1 rfl rfl ?_
      obtain ⟨g4, h⟩ := gd_some h
      refine J_iald (pc := 56) (f := (vS 3)) (v := ((vS 3) (Int32.toNatClampNeg x1))) C 12 rfl 12 rfl g4 rfl ?_
      cases h
      exact J_iret (pc := 57) C 13 rfl
    · rw [if_neg c3] at h
      by_cases c5 : x2 = (1 : Int32)
      · rw [if_pos c5] at h
        refine J_tabIn (pc := 11) (tgt := 58) C 7 rfl (by rw [c5]; decide) (by rw [c5]; decide) (by rw [c5]; rfl) rfl ?_
        refine J_aload_n (pc := 58) C 14 rfl 0 rfl rfl ?_
        refine J_get (pc := 59) (v := .ref (aS 0)) C 15 rfl TB_l4 rfl 0 1 rfl (by decide) k197 rfl rfl ?_
        refine J_get (pc := 62) (v := .ref (aS 5)) C 16 rfl TB_l2 rfl 8 4 rfl (by decide) k267 rfl rfl ?_
        refine J_iload_n (pc := 65) C 17 rfl 1 rfl rfl ?_
        obtain ⟨g6, h⟩ := gd_some h
        refine J_iald (pc := 66) (f := (vS 4)) (v := ((vS 4) (Int32.toNatClampNeg x1))) C 18 rfl 13 rfl g6 rfl ?_
        cases h
        exact J_iret (pc := 67) C 19 rfl
      · rw [if_neg c5] at h
        by_cases c7 : x2 = (2 : Int32)
        · rw [if_pos c7] at h
          refine J_tabIn (pc := 11) (tgt := 68) C 7 rfl (by rw [c7]; decide) (by rw [c7]; decide) (by rw [c7]; rfl) rfl ?_
          refine J_aload_n (pc := 68) C 20 rfl 0 rfl rfl ?_
          refine J_get (pc := 69) (v := .ref (aS 0)) C 21 rfl TB_l4 rfl 0 1 rfl (by decide) k197 rfl rfl ?_
          refine J_get (pc := 72) (v := .ref (aS 6)) C 22 rfl TB_l2 rfl 8 5 rfl (by decide) k268 rfl rfl ?_
          refine J_iload_n (pc := 75) C 23 rfl 1 rfl rfl ?_
          obtain ⟨g8, h⟩ := gd_some h
          refine J_zald (pc := 76) (f := (vS 5)) (v := ((vS 5) (Int32.toNatClampNeg x1))) C 24 rfl 14 rfl g8 rfl ?_
          refine J_if_eq (pc := 77) (tgt := 84) C 25 rfl rfl (fun c9 => ?_) (fun c9 => ?_)
          · rw [if_pos c9] at h
            refine J_iconst (pc := 84) (v := (0 : Int32)) C 28 rfl rfl ?_
            cases h
            exact J_iret (pc := 85) C 29 rfl
          · rw [if_neg c9] at h
            refine J_iconst (pc := 80) (v := (1 : Int32)) C 26 rfl rfl ?_
            refine J_goto (pc := 81) (tgt := 85) C 27 rfl rfl ?_
            cases h
            exact J_iret (pc := 85) C 29 rfl
        · rw [if_neg c7] at h
          by_cases c10 : x2 = (3 : Int32)
          · rw [if_pos c10] at h
            refine J_tabIn (pc := 11) (tgt := 86) C 7 rfl (by rw [c10]; decide) (by rw [c10]; decide) (by rw [c10]; rfl) rfl ?_
            refine J_aload_n (pc := 86) C 30 rfl 0 rfl rfl ?_
            refine J_get (pc := 87) (v := .ref (aS 0)) C 31 rfl TB_l4 rfl 0 1 rfl (by decide) k197 rfl rfl ?_
            refine J_iload_n (pc := 90) C 32 rfl 1 rfl rfl ?_
            obtain ⟨q11, hq11, h⟩ := bnd h
            refine J_callV (pc := 91) (st2 := []) (st3 := [.int q11]) (ws2 := (wEx aX (aT 0) (aT2 0) (aS 0) (aS2 0) (aP 0) (aH 0) aB aU ++ (wSeat G aT (aS 0) (vT 1) (vT 2) (vT 3) (vT 4 0) (vT 5 0) (vT 6) (vT 7) (vT 8) ++ (wSch G aS (vS 0) (vS 1) (vS 2) (vS 3) (vS 4) (vS 5) (vS 6) (vS 7) (vS 8 0) (vS 9 0))))) C 33 rfl (c_X2_clashesOf aS vS x1 hq11) V_X2_clashesOf k249 i_X2_clashesOf s_X2_clashesOf rfl rfl ⟨Nat.le_of_ble_eq_true rfl, Nat.le_of_ble_eq_true rfl⟩ (Nat.le_of_ble_eq_true rfl) ⟨Nat.le_refl _, Nat.le_refl _⟩ 8 2 rfl rfl rfl (isC := [8, 9, 10, 11, 12, 13, 14, 15, 16]) (isR := [0, 1, 2, 3, 4, 5, 6, 7]) (N := 17) ⟨rfl, by decide +kernel, rfl, by decide +kernel, rfl, ⟨⟨_, rfl, rfl⟩, ⟨⟨_, rfl, rfl⟩, ⟨⟨_, rfl, rfl⟩, ⟨⟨_, rfl, rfl⟩, ⟨⟨_, rfl, rfl⟩, ⟨⟨_, rfl, rfl⟩, ⟨⟨_, rfl, rfl⟩, ⟨⟨_, rfl, rfl⟩, trivial⟩⟩⟩⟩⟩⟩⟩⟩⟩ rfl ?_
            cases h
            exact J_iret (pc := 94) C 34 rfl
          · rw [if_neg c10] at h
            by_cases c12 : x2 = (4 : Int32)
            · rw [if_pos c12] at h
              refine J_tabIn (pc := 11) (tgt := 95) C 7 rfl (by rw [c12]; decide) (by rw [c12]; decide) (by rw [c12]; rfl) rfl ?_
              refine J_aload_n (pc := 95) C 35 rfl 0 rfl rfl ?_
              refine J_get (pc := 96) (v := .ref (aT 0)) C 36 rfl TB_l4 rfl 0 0 rfl (by decide) k195 rfl rfl ?_
              refine J_iload_n (pc := 99) C 37 rfl 1 rfl rfl ?_
              obtain ⟨q13, hq13, h⟩ := bnd h
              refine J_callV (pc := 100) (st2 := []) (st3 := [.int q13]) (ws2 := (wEx aX (aT 0) (aT2 0) (aS 0) (aS2 0) (aP 0) (aH 0) aB aU ++ (wSeat G aT (aS 0) (vT 1) (vT 2) (vT 3) (vT 4 0) (vT 5 0) (vT 6) (vT 7) (vT 8) ++ (wSch G aS (vS 0) (vS 1) (vS 2) (vS 3) (vS 4) (vS 5) (vS 6) (vS 7) (vS 8 0) (vS 9 0))))) C 38 rfl (c_X3_unplacedPapersOf aT aS vT vS x1 hq13) V_X3_unplacedPapersOf k269 i_X3_unplacedPapersOf s_X3_unplacedPapersOf rfl rfl ⟨Nat.le_of_ble_eq_true rfl, Nat.le_of_ble_eq_true rfl⟩ (Nat.le_of_ble_eq_true rfl) ⟨Nat.le_refl _, Nat.le_refl _⟩ 1 3 rfl rfl rfl (isC := [1, 2, 3, 4, 5, 6, 7, 8, 9, 10, 11, 12, 13, 14, 15, 16]) (isR := [0]) (N := 17) ⟨rfl, by decide +kernel, rfl, by decide +kernel, rfl, ⟨⟨_, rfl, rfl⟩, trivial⟩⟩ rfl ?_
              cases h
              exact J_iret (pc := 103) C 39 rfl
            · rw [if_neg c12] at h
              by_cases c14 : x2 = (5 : Int32)
              · rw [if_pos c14] at h
                refine J_tabIn (pc := 11) (tgt := 104) C 7 rfl (by rw [c14]; decide) (by rw [c14]; decide) (by rw [c14]; rfl) rfl ?_
                refine J_aload_n (pc := 104) C 40 rfl 0 rfl rfl ?_
                refine J_get (pc := 105) (v := .ref (aS 0)) C 41 rfl TB_l4 rfl 0 1 rfl (by decide) k197 rfl rfl ?_
                refine J_iload_n (pc := 108) C 42 rfl 1 rfl rfl ?_
                obtain ⟨q15, hq15, h⟩ := bnd h
                refine J_callV (pc := 109) (st2 := []) (st3 := [.int q15]) (ws2 := (wEx aX (aT 0) (aT2 0) (aS 0) (aS2 0) (aP 0) (aH 0) aB aU ++ (wSeat G aT (aS 0) (vT 1) (vT 2) (vT 3) (vT 4 0) (vT 5 0) (vT 6) (vT 7) (vT 8) ++ (wSch G aS (vS 0) (vS 1) (vS 2) (vS 3) (vS 4) (vS 5) (vS 6) (vS 7) (vS 8 0) (vS 9 0))))) C 43 rfl (c_X2_minutesOf aS vS x1 hq15) V_X2_minutesOf k272 i_X2_minutesOf s_X2_minutesOf rfl rfl ⟨Nat.le_of_ble_eq_true rfl, Nat.le_of_ble_eq_true rfl⟩ (Nat.le_of_ble_eq_true rfl) ⟨Nat.le_refl _, Nat.le_refl _⟩ 8 2 rfl rfl rfl (isC := [8, 9, 10, 11, 12, 13, 14, 15, 16]) (isR := [0, 1, 2, 3, 4, 5, 6, 7]) (N := 17) ⟨rfl, by decide +kernel, rfl, by decide +kernel, rfl, ⟨⟨_, rfl, rfl⟩, ⟨⟨_, rfl, rfl⟩, ⟨⟨_, rfl, rfl⟩, ⟨⟨_, rfl, rfl⟩, ⟨⟨_, rfl, rfl⟩, ⟨⟨_, rfl, rfl⟩, ⟨⟨_, rfl, rfl⟩, ⟨⟨_, rfl, rfl⟩, trivial⟩⟩⟩⟩⟩⟩⟩⟩⟩ rfl ?_
                cases h
                exact J_iret (pc := 112) C 44 rfl
              · rw [if_neg c14] at h
                have ec3 := lv_neT (a := 0) c3 rfl
                have ec5 := lv_neT (a := 1) c5 rfl
                have ec7 := lv_neT (a := 2) c7 rfl
                have ec10 := lv_neT (a := 3) c10 rfl
                have ec12 := lv_neT (a := 4) c12 rfl
                have ec14 := lv_neT (a := 5) c14 rfl
                refine J_tabOut (pc := 11) (tgt := 113) C 7 rfl (by omega) rfl ?_
                refine J_bipush (pc := 113) (v := (-2 : Int32)) C 45 rfl rfl ?_
                cases h
                exact J_iret (pc := 115) C 46 rfl
  · rw [if_pos c2] at h
    refine J_iconst (pc := 8) (v := (-1 : Int32)) C 4 rfl rfl ?_
    cases h
    exact J_iret (pc := 9) C 5 rfl
def T_X4_paperOf : List (Nat × ClassFile.Instr × Nat) := [(0, .iload_n 1, 1), (1, .invokestatic 70, 3), (4, .ifCond .ne 5, 3), (7, .iconst (-1), 1), (8, .ireturn, 1), (9, .iload_n 2, 1), (10, .tableswitch 94 0 5 #[38, 48, 58, 67, 76, 85], 38), (48, .aload_n 0, 1), (49, .getfield 20, 3), (52, .getfield 77, 3), (55, .iload_n 1, 1), (56, .iaload, 1), (57, .ireturn, 1), (58, .aload_n 0, 1), (59, .getfield 20, 3), (62, .getfield 80, 3), (65, .iload_n 1, 1), (66, .iaload, 1), (67, .ireturn, 1), (68, .aload_n 0, 1), (69, .getfield 20, 3), (72, .iload_n 1, 1), (73, .invokevirtual 165, 3), (76, .ireturn, 1), (77, .aload_n 0, 1), (78, .getfield 20, 3), (81, .iload_n 1, 1), (82, .invokevirtual 168, 3), (85, .ireturn, 1), (86, .aload_n 0, 1), (87, .getfield 12, 3), (90, .iload_n 1, 1), (91, .invokevirtual 171, 3), (94, .ireturn, 1), (95, .aload_n 0, 1), (96, .getfield 12, 3), (99, .iload_n 1, 1), (100, .invokevirtual 174, 3), (103, .ireturn, 1), (104, .bipush (-2), 2), (106, .ireturn, 1)]
theorem D_X4_paperOf : ∀ q ∈ T_X4_paperOf, decode cX4_paperOf q.1 = .ok q.2 := by decide +kernel
theorem V_X4_paperOf : Vy yX4_paperOf cX4_paperOf 3 (some .int) 2 := ⟨k286, k56, by decide +kernel⟩
theorem i_X4_paperOf : Cond.instanceMethod yX4_paperOf ∈ TB := k354
theorem s_X4_paperOf : Cond.selects yX4_paperOf.cls yX4_paperOf yX4_paperOf ∈ TB := k355
noncomputable def f_X4_paperOf (vT : JV) (vS : JV) (x1 : Int32) (x2 : Int32) : Option (Int32) :=
  (f_X4_isPaper x1).bind (fun q1 => (if q1 = 0 then some (-1 : Int32) else (if x2 = (0 : Int32) then gd (inb x1 6) (some ((vS 1) (Int32.toNatClampNeg x1))) else (if x2 = (1 : Int32) then gd (inb x1 6) (some ((vS 2) (Int32.toNatClampNeg x1))) else (if x2 = (2 : Int32) then (f_X2_pupilsOf vS x1).bind (fun q8 => some q8) else (if x2 = (3 : Int32) then (f_X2_lastEndOf vS x1).bind (fun q10 => some q10) else (if x2 = (4 : Int32) then (f_X3_unplacedOf vT vS x1).bind (fun q12 => some q12) else (if x2 = (5 : Int32) then (f_X3_hallsOf vT vS x1).bind (fun q14 => some q14) else some (-2 : Int32)))))))))
set_option maxRecDepth 100000 in
set_option maxHeartbeats 4000000 in
theorem c_X4_paperOf {l : Launch} {G : JG} (aX : Nat) (aT : Nat → Nat) (aS : Nat → Nat) (aT2 : Nat → Nat) (aS2 : Nat → Nat) (aP : Nat → Nat) (aH : Nat → Nat) (aB : Nat) (aU : Nat) (vT : JV) (vS : JV) (x1 : Int32) (x2 : Int32) {Rz : Int32} (h : f_X4_paperOf vT vS x1 x2 = some Rz) : JM l G yX4_paperOf cX4_paperOf 3 (some .int) 4 89 [.ref aX, .int x1, .int x2] (wEx aX (aT 0) (aT2 0) (aS 0) (aS2 0) (aP 0) (aH 0) aB aU ++ (wSeat G aT (aS 0) (vT 1) (vT 2) (vT 3) (vT 4 0) (vT 5 0) (vT 6) (vT 7) (vT 8) ++ (wSch G aS (vS 0) (vS 1) (vS 2) (vS 3) (vS 4) (vS 5) (vS 6) (vS 7) (vS 8 0) (vS 9 0)))) (wEx aX (aT 0) (aT2 0) (aS 0) (aS2 0) (aP 0) (aH 0) aB aU ++ (wSeat G aT (aS 0) (vT 1) (vT 2) (vT 3) (vT 4 0) (vT 5 0) (vT 6) (vT 7) (vT 8) ++ (wSch G aS (vS 0) (vS 1) (vS 2) (vS 3) (vS 4) (vS 5) (vS 6) (vS 7) (vS 8 0) (vS 9 0)))) (some (.int Rz)) := by
  refine JM.of (own := RX4) (tb := T_X4_paperOf) (by decide) (Nat.le_of_ble_eq_true rfl) D_X4_paperOf rfl (fun X C => ?_)
  refine J_sub (lv' := [(0, .ref aX), (1, .int x1), (2, .int x2)]) [0, 1, 2] rfl ?_
  unfold f_X4_paperOf at h
  refine J_iload_n (pc := 0) C 0 rfl 1 rfl rfl ?_
  obtain ⟨q1, hq1, h⟩ := bnd h
  refine J_callS (pc := 1) (st2 := []) (st3 := [.int q1]) (ws2 := (wEx aX (aT 0) (aT2 0) (aS 0) (aS2 0) (aP 0) (aH 0) aB aU ++ (wSeat G aT (aS 0) (vT 1) (vT 2) (vT 3) (vT 4 0) (vT 5 0) (vT 6) (vT 7) (vT 8) ++ (wSch G aS (vS 0) (vS 1) (vS 2) (vS 3) (vS 4) (vS 5) (vS 6) (vS 7) (vS 8 0) (vS 9 0))))) C 1 rfl (c_X4_isPaper x1 hq1) V_X4_isPaper k231 t_X4_isPaper rfl rfl ⟨Nat.le_of_ble_eq_true rfl, Nat.le_of_ble_eq_true rfl⟩ (Nat.le_of_ble_eq_true rfl) ⟨Nat.le_refl _, Nat.le_refl _⟩ (isC := []) (isR := [0, 1, 2, 3, 4, 5, 6, 7, 8, 9, 10, 11, 12, 13, 14, 15, 16]) (N := 17) ⟨rfl, by decide +kernel, rfl, by decide +kernel, rfl, ⟨⟨_, rfl, rfl⟩, ⟨⟨_, rfl, rfl⟩, ⟨⟨_, rfl, rfl⟩, ⟨⟨_, rfl, rfl⟩, ⟨⟨_, rfl, rfl⟩, ⟨⟨_, rfl, rfl⟩, ⟨⟨_, rfl, rfl⟩, ⟨⟨_, rfl, rfl⟩, ⟨⟨_, rfl, rfl⟩, ⟨⟨_, rfl, rfl⟩, ⟨⟨_, rfl, rfl⟩, ⟨⟨_, rfl, rfl⟩, ⟨⟨_, rfl, rfl⟩, ⟨⟨_, rfl, rfl⟩, ⟨⟨_, rfl, rfl⟩, ⟨⟨_, rfl, rfl⟩, ⟨⟨_, rfl, rfl⟩, trivial⟩⟩⟩⟩⟩⟩⟩⟩⟩⟩⟩⟩⟩⟩⟩⟩⟩⟩ rfl ?_
  refine J_if_ne (pc := 4) (tgt := 9) C 2 rfl rfl (fun c2 => ?_) (fun c2 => ?_)
  · rw [if_neg c2] at h
    refine J_iload_n (pc := 9) C 5 rfl 2 rfl rfl ?_
    by_cases c3 : x2 = (0 : Int32)
    · rw [if_pos c3] at h
      refine J_tabIn (pc := 10) (tgt := 48) C 6 rfl (by rw [c3]; decide) (by rw [c3]; decide) (by rw [c3]; rfl) rfl ?_
      refine J_aload_n (pc := 48) C 7 rfl 0 rfl rfl ?_
      refine J_get (pc := 49) (v := .ref (aS 0)) C 8 rfl TB_l4 rfl 0 1 rfl (by decide) k197 rfl rfl ?_
      refine J_get (pc := 52) (v := .ref (aS 2)) C 9 rfl TB_l2 rfl 8 1 rfl (by decide) k229 rfl rfl ?_
      refine J_iload_n (pc := 55) C 10 rfl 1 rfl rfl ?_
      obtain ⟨g4, h⟩ := gd_some h
      refine J_iald (pc := 56) (f := (vS 1)) (v := ((vS 1) (Int32.toNatClampNeg x1))) C 11 rfl 10 rfl g4 rfl ?_
      cases h
      exact J_iret (pc := 57) C 12 rfl
    · rw [if_neg c3] at h
      by_cases c5 : x2 = (1 : Int32)
      · rw [if_pos c5] at h
        refine J_tabIn (pc := 10) (tgt := 58) C 6 rfl (by rw [c5]; decide) (by rw [c5]; decide) (by rw [c5]; rfl) rfl ?_
        refine J_aload_n (pc := 58) C 13 rfl 0 rfl rfl ?_
        refine J_get (pc := 59) (v := .ref (aS 0)) C 14 rfl TB_l4 rfl 0 1 rfl (by decide) k197 rfl rfl ?_
        refine J_get (pc := 62) (v := .ref (aS 3)) C 15 rfl TB_l2 rfl 8 2 rfl (by decide) k230 rfl rfl ?_
        refine J_iload_n (pc := 65) C 16 rfl 1 rfl rfl ?_
        obtain ⟨g6, h⟩ := gd_some h
        refine J_iald (pc := 66) (f := (vS 2)) (v := ((vS 2) (Int32.toNatClampNeg x1))) C 17 rfl 11 rfl g6 rfl ?_
        cases h
        exact J_iret (pc := 67) C 18 rfl
      · rw [if_neg c5] at h
        by_cases c7 : x2 = (2 : Int32)
        · rw [if_pos c7] at h
          refine J_tabIn (pc := 10) (tgt := 68) C 6 rfl (by rw [c7]; decide) (by rw [c7]; decide) (by rw [c7]; rfl) rfl ?_
          refine J_aload_n (pc := 68) C 19 rfl 0 rfl rfl ?_
          refine J_get (pc := 69) (v := .ref (aS 0)) C 20 rfl TB_l4 rfl 0 1 rfl (by decide) k197 rfl rfl ?_
          refine J_iload_n (pc := 72) C 21 rfl 1 rfl rfl ?_
          obtain ⟨q8, hq8, h⟩ := bnd h
          refine J_callV (pc := 73) (st2 := []) (st3 := [.int q8]) (ws2 := (wEx aX (aT 0) (aT2 0) (aS 0) (aS2 0) (aP 0) (aH 0) aB aU ++ (wSeat G aT (aS 0) (vT 1) (vT 2) (vT 3) (vT 4 0) (vT 5 0) (vT 6) (vT 7) (vT 8) ++ (wSch G aS (vS 0) (vS 1) (vS 2) (vS 3) (vS 4) (vS 5) (vS 6) (vS 7) (vS 8 0) (vS 9 0))))) C 22 rfl (c_X2_pupilsOf aS vS x1 hq8) V_X2_pupilsOf k276 i_X2_pupilsOf s_X2_pupilsOf rfl rfl ⟨Nat.le_of_ble_eq_true rfl, Nat.le_of_ble_eq_true rfl⟩ (Nat.le_of_ble_eq_true rfl) ⟨Nat.le_refl _, Nat.le_refl _⟩ 8 2 rfl rfl rfl (isC := [8, 9, 10, 11, 12, 13, 14, 15, 16]) (isR := [0, 1, 2, 3, 4, 5, 6, 7]) (N := 17) ⟨rfl, by decide +kernel, rfl, by decide +kernel, rfl, ⟨⟨_, rfl, rfl⟩, ⟨⟨_, rfl, rfl⟩, ⟨⟨_, rfl, rfl⟩, ⟨⟨_, rfl, rfl⟩, ⟨⟨_, rfl, rfl⟩, ⟨⟨_, rfl, rfl⟩, ⟨⟨_, rfl, rfl⟩, ⟨⟨_, rfl, rfl⟩, trivial⟩⟩⟩⟩⟩⟩⟩⟩⟩ rfl ?_
          cases h
          exact J_iret (pc := 76) C 23 rfl
        · rw [if_neg c7] at h
          by_cases c9 : x2 = (3 : Int32)
          · rw [if_pos c9] at h
            refine J_tabIn (pc := 10) (tgt := 77) C 6 rfl (by rw [c9]; decide) (by rw [c9]; decide) (by rw [c9]; rfl) rfl ?_
            refine J_aload_n (pc := 77) C 24 rfl 0 rfl rfl ?_
            refine J_get (pc := 78) (v := .ref (aS 0)) C 25 rfl TB_l4 rfl 0 1 rfl (by decide) k197 rfl rfl ?_
            refine J_iload_n (pc := 81) C 26 rfl 1 rfl rfl ?_
            obtain ⟨q10, hq10, h⟩ := bnd h
            refine J_callV (pc := 82) (st2 := []) (st3 := [.int q10]) (ws2 := (wEx aX (aT 0) (aT2 0) (aS 0) (aS2 0) (aP 0) (aH 0) aB aU ++ (wSeat G aT (aS 0) (vT 1) (vT 2) (vT 3) (vT 4 0) (vT 5 0) (vT 6) (vT 7) (vT 8) ++ (wSch G aS (vS 0) (vS 1) (vS 2) (vS 3) (vS 4) (vS 5) (vS 6) (vS 7) (vS 8 0) (vS 9 0))))) C 27 rfl (c_X2_lastEndOf aS vS x1 hq10) V_X2_lastEndOf k279 i_X2_lastEndOf s_X2_lastEndOf rfl rfl ⟨Nat.le_of_ble_eq_true rfl, Nat.le_of_ble_eq_true rfl⟩ (Nat.le_of_ble_eq_true rfl) ⟨Nat.le_refl _, Nat.le_refl _⟩ 8 2 rfl rfl rfl (isC := [8, 9, 10, 11, 12, 13, 14, 15, 16]) (isR := [0, 1, 2, 3, 4, 5, 6, 7]) (N := 17) ⟨rfl, by decide +kernel, rfl, by decide +kernel, rfl, ⟨⟨_, rfl, rfl⟩, ⟨⟨_, rfl, rfl⟩, ⟨⟨_, rfl, rfl⟩, ⟨⟨_, rfl, rfl⟩, ⟨⟨_, rfl, rfl⟩, ⟨⟨_, rfl, rfl⟩, ⟨⟨_, rfl, rfl⟩, ⟨⟨_, rfl, rfl⟩, trivial⟩⟩⟩⟩⟩⟩⟩⟩⟩ rfl ?_
            cases h
            exact J_iret (pc := 85) C 28 rfl
          · rw [if_neg c9] at h
            by_cases c11 : x2 = (4 : Int32)
            · rw [if_pos c11] at h
              refine J_tabIn (pc := 10) (tgt := 86) C 6 rfl (by rw [c11]; decide) (by rw [c11]; decide) (by rw [c11]; rfl) rfl ?_
              refine J_aload_n (pc := 86) C 29 rfl 0 rfl rfl ?_
              refine J_get (pc := 87) (v := .ref (aT 0)) C 30 rfl TB_l4 rfl 0 0 rfl (by decide) k195 rfl rfl ?_
              refine J_iload_n (pc := 90) C 31 rfl 1 rfl rfl ?_
              obtain ⟨q12, hq12, h⟩ := bnd h
              refine J_callV (pc := 91) (st2 := []) (st3 := [.int q12]) (ws2 := (wEx aX (aT 0) (aT2 0) (aS 0) (aS2 0) (aP 0) (aH 0) aB aU ++ (wSeat G aT (aS 0) (vT 1) (vT 2) (vT 3) (vT 4 0) (vT 5 0) (vT 6) (vT 7) (vT 8) ++ (wSch G aS (vS 0) (vS 1) (vS 2) (vS 3) (vS 4) (vS 5) (vS 6) (vS 7) (vS 8 0) (vS 9 0))))) C 32 rfl (c_X3_unplacedOf aT aS vT vS x1 hq12) V_X3_unplacedOf k280 i_X3_unplacedOf s_X3_unplacedOf rfl rfl ⟨Nat.le_of_ble_eq_true rfl, Nat.le_of_ble_eq_true rfl⟩ (Nat.le_of_ble_eq_true rfl) ⟨Nat.le_refl _, Nat.le_refl _⟩ 1 3 rfl rfl rfl (isC := [1, 2, 3, 4, 5, 6, 7, 8, 9, 10, 11, 12, 13, 14, 15, 16]) (isR := [0]) (N := 17) ⟨rfl, by decide +kernel, rfl, by decide +kernel, rfl, ⟨⟨_, rfl, rfl⟩, trivial⟩⟩ rfl ?_
              cases h
              exact J_iret (pc := 94) C 33 rfl
            · rw [if_neg c11] at h
              by_cases c13 : x2 = (5 : Int32)
              · rw [if_pos c13] at h
                refine J_tabIn (pc := 10) (tgt := 95) C 6 rfl (by rw [c13]; decide) (by rw [c13]; decide) (by rw [c13]; rfl) rfl ?_
                refine J_aload_n (pc := 95) C 34 rfl 0 rfl rfl ?_
                refine J_get (pc := 96) (v := .ref (aT 0)) C 35 rfl TB_l4 rfl 0 0 rfl (by decide) k195 rfl rfl ?_
                refine J_iload_n (pc := 99) C 36 rfl 1 rfl rfl ?_
                obtain ⟨q14, hq14, h⟩ := bnd h
                refine J_callV (pc := 100) (st2 := []) (st3 := [.int q14]) (ws2 := (wEx aX (aT 0) (aT2 0) (aS 0) (aS2 0) (aP 0) (aH 0) aB aU ++ (wSeat G aT (aS 0) (vT 1) (vT 2) (vT 3) (vT 4 0) (vT 5 0) (vT 6) (vT 7) (vT 8) ++ (wSch G aS (vS 0) (vS 1) (vS 2) (vS 3) (vS 4) (vS 5) (vS 6) (vS 7) (vS 8 0) (vS 9 0))))) C 37 rfl (c_X3_hallsOf aT aS vT vS x1 hq14) V_X3_hallsOf k283 i_X3_hallsOf s_X3_hallsOf rfl rfl ⟨Nat.le_of_ble_eq_true rfl, Nat.le_of_ble_eq_true rfl⟩ (Nat.le_of_ble_eq_true rfl) ⟨Nat.le_refl _, Nat.le_refl _⟩ 1 3 rfl rfl rfl (isC := [1, 2, 3, 4, 5, 6, 7, 8, 9, 10, 11, 12, 13, 14, 15, 16]) (isR := [0]) (N := 17) ⟨rfl, by decide +kernel, rfl, by decide +kernel, rfl, ⟨⟨_, rfl, rfl⟩, trivial⟩⟩ rfl ?_
                cases h
                exact J_iret (pc := 103) C 38 rfl
              · rw [if_neg c13] at h
                have ec3 := lv_neT (a := 0) c3 rfl
                have ec5 := lv_neT (a := 1) c5 rfl
                have ec7 := lv_neT (a := 2) c7 rfl
                have ec9 := lv_neT (a := 3) c9 rfl
                have ec11 := lv_neT (a := 4) c11 rfl
                have ec13 := lv_neT (a := 5) c13 rfl
                refine J_tabOut (pc := 10) (tgt := 104) C 6 rfl (by omega) rfl ?_
                refine J_bipush (pc := 104) (v := (-2 : Int32)) C 39 rfl rfl ?_
                cases h
                exact J_iret (pc := 106) C 40 rfl
  · rw [if_pos c2] at h
    refine J_iconst (pc := 7) (v := (-1 : Int32)) C 3 rfl rfl ?_
    cases h
    exact J_iret (pc := 8) C 4 rfl
def T_X4_sitting : List (Nat × ClassFile.Instr × Nat) := [(0, .aload_n 0, 1), (1, .iload_n 1, 1), (2, .invokevirtual 114, 3), (5, .ifCond .eq 10, 3), (8, .iload_n 2, 1), (9, .invokestatic 70, 3), (12, .ifCond .ne 5, 3), (15, .iconst (-1), 1), (16, .ireturn, 1), (17, .iload_n 3, 1), (18, .iconst 0, 1), (19, .iconst 5, 1), (20, .invokestatic 55, 3), (23, .ifCond .ne 6, 3), (26, .bipush (-2), 2), (28, .ireturn, 1), (29, .aload_n 0, 1), (30, .getfield 20, 3), (33, .iload_n 1, 1), (34, .iload_n 2, 1), (35, .invokevirtual 177, 3), (38, .ifCond .ne 6, 3), (41, .bipush (-5), 2), (43, .ireturn, 1), (44, .iload_n 1, 1), (45, .iload_n 2, 1), (46, .invokestatic 180, 3), (49, .istore 4, 2), (51, .iload_n 3, 1), (52, .tableswitch 88 0 4 #[36, 45, 55, 66, 77], 36), (88, .aload_n 0, 1), (89, .getfield 20, 3), (92, .iload_n 2, 1), (93, .invokevirtual 184, 3), (96, .ireturn, 1), (97, .aload_n 0, 1), (98, .getfield 20, 3), (101, .iload_n 1, 1), (102, .iload_n 2, 1), (103, .invokevirtual 187, 3), (106, .ireturn, 1), (107, .aload_n 0, 1), (108, .getfield 12, 3), (111, .getfield 190, 3), (114, .iload 4, 2), (116, .iaload, 1), (117, .ireturn, 1), (118, .aload_n 0, 1), (119, .getfield 12, 3), (122, .getfield 193, 3), (125, .iload 4, 2), (127, .iaload, 1), (128, .ireturn, 1), (129, .aload_n 0, 1), (130, .getfield 12, 3), (133, .getfield 196, 3), (136, .iload 4, 2), (138, .iaload, 1), (139, .ireturn, 1), (140, .aload_n 0, 1), (141, .getfield 20, 3), (144, .iload_n 1, 1), (145, .iload_n 2, 1), (146, .invokevirtual 199, 3), (149, .ireturn, 1)]
theorem D_X4_sitting : ∀ q ∈ T_X4_sitting, decode cX4_sitting q.1 = .ok q.2 := by decide +kernel
theorem V_X4_sitting : Vy yX4_sitting cX4_sitting 5 (some .int) 3 := ⟨k295, k56, by decide +kernel⟩
theorem i_X4_sitting : Cond.instanceMethod yX4_sitting ∈ TB := k346
theorem s_X4_sitting : Cond.selects yX4_sitting.cls yX4_sitting yX4_sitting ∈ TB := k347
noncomputable def f_X4_sitting (vT : JV) (vS : JV) (x1 : Int32) (x2 : Int32) (x3 : Int32) : Option (Int32) :=
  (f_X4_isPupil vS x1).bind (fun q1 => (if q1 = 0 then some (-1 : Int32) else (f_X4_isPaper x2).bind (fun q3 => (if q3 = 0 then some (-1 : Int32) else (f_X4_isWithin x3 (0 : Int32) (5 : Int32)).bind (fun q5 => (if q5 = 0 then some (-2 : Int32) else (f_X2_sits vS x1 x2).bind (fun q7 => (if q7 = 0 then some (-5 : Int32) else (f_X4_sittingNumber x1 x2).bind (fun q9 => (if x3 = (0 : Int32) then (f_X2_beginOf vS x2).bind (fun q11 => some q11) else (if x3 = (1 : Int32) then (f_X2_endOf vS x1 x2).bind (fun q13 => some q13) else (if x3 = (2 : Int32) then gd (inb q9 96) (some ((vT 1) (Int32.toNatClampNeg q9))) else (if x3 = (3 : Int32) then gd (inb q9 96) (some ((vT 2) (Int32.toNatClampNeg q9))) else (if x3 = (4 : Int32) then gd (inb q9 96) (some ((vT 3) (Int32.toNatClampNeg q9))) else (f_X2_clashingPapers vS x1 x2).bind (fun q20 => some q20)))))))))))))))
set_option maxRecDepth 100000 in
set_option maxHeartbeats 4000000 in
theorem c_X4_sitting {l : Launch} {G : JG} (aX : Nat) (aT : Nat → Nat) (aS : Nat → Nat) (aT2 : Nat → Nat) (aS2 : Nat → Nat) (aP : Nat → Nat) (aH : Nat → Nat) (aB : Nat) (aU : Nat) (vT : JV) (vS : JV) (x1 : Int32) (x2 : Int32) (x3 : Int32) {Rz : Int32} (h : f_X4_sitting vT vS x1 x2 x3 = some Rz) : JM l G yX4_sitting cX4_sitting 5 (some .int) 3 68 [.ref aX, .int x1, .int x2, .int x3] (wEx aX (aT 0) (aT2 0) (aS 0) (aS2 0) (aP 0) (aH 0) aB aU ++ (wSeat G aT (aS 0) (vT 1) (vT 2) (vT 3) (vT 4 0) (vT 5 0) (vT 6) (vT 7) (vT 8) ++ (wSch G aS (vS 0) (vS 1) (vS 2) (vS 3) (vS 4) (vS 5) (vS 6) (vS 7) (vS 8 0) (vS 9 0)))) (wEx aX (aT 0) (aT2 0) (aS 0) (aS2 0) (aP 0) (aH 0) aB aU ++ (wSeat G aT (aS 0) (vT 1) (vT 2) (vT 3) (vT 4 0) (vT 5 0) (vT 6) (vT 7) (vT 8) ++ (wSch G aS (vS 0) (vS 1) (vS 2) (vS 3) (vS 4) (vS 5) (vS 6) (vS 7) (vS 8 0) (vS 9 0)))) (some (.int Rz)) := by
  refine JM.of (own := RX4) (tb := T_X4_sitting) (by decide) (Nat.le_of_ble_eq_true rfl) D_X4_sitting rfl (fun X C => ?_)
  refine J_sub (lv' := [(0, .ref aX), (1, .int x1), (2, .int x2), (3, .int x3)]) [0, 1, 2, 3] rfl ?_
  unfold f_X4_sitting at h
  refine J_aload_n (pc := 0) C 0 rfl 0 rfl rfl ?_
  refine J_iload_n (pc := 1) C 1 rfl 1 rfl rfl ?_
  obtain ⟨q1, hq1, h⟩ := bnd h
  refine J_callV (pc := 2) (st2 := []) (st3 := [.int q1]) (ws2 := (wEx aX (aT 0) (aT2 0) (aS 0) (aS2 0) (aP 0) (aH 0) aB aU ++ (wSeat G aT (aS 0) (vT 1) (vT 2) (vT 3) (vT 4 0) (vT 5 0) (vT 6) (vT 7) (vT 8) ++ (wSch G aS (vS 0) (vS 1) (vS 2) (vS 3) (vS 4) (vS 5) (vS 6) (vS 7) (vS 8 0) (vS 9 0))))) C 2 rfl (c_X4_isPupil aX aT aS aT2 aS2 aP aH aB aU vS x1 hq1) V_X4_isPupil k245 i_X4_isPupil s_X4_isPupil rfl rfl ⟨Nat.le_of_ble_eq_true rfl, Nat.le_of_ble_eq_true rfl⟩ (Nat.le_of_ble_eq_true rfl) ⟨Nat.le_refl _, Nat.le_refl _⟩ 0 4 rfl rfl rfl (isC := [0, 8, 9, 10, 11, 12, 13, 14, 15, 16]) (isR := [1, 2, 3, 4, 5, 6, 7]) (N := 17) ⟨rfl, by decide +kernel, rfl, by decide +kernel, rfl, ⟨⟨_, rfl, rfl⟩, ⟨⟨_, rfl, rfl⟩, ⟨⟨_, rfl, rfl⟩, ⟨⟨_, rfl, rfl⟩, ⟨⟨_, rfl, rfl⟩, ⟨⟨_, rfl, rfl⟩, ⟨⟨_, rfl, rfl⟩, trivial⟩⟩⟩⟩⟩⟩⟩⟩ rfl ?_
  refine J_if_eq (pc := 5) (tgt := 15) C 3 rfl rfl (fun c2 => ?_) (fun c2 => ?_)
  · rw [if_pos c2] at h
    refine J_iconst (pc := 15) (v := (-1 : Int32)) C 7 rfl rfl ?_
    cases h
    exact J_iret (pc := 16) C 8 rfl
  · rw [if_neg c2] at h
    refine J_iload_n (pc := 8) C 4 rfl 2 rfl rfl ?_
    obtain ⟨q3, hq3, h⟩ := bnd h
    refine J_callS (pc := 9) (st2 := []) (st3 := [.int q3]) (ws2 := (wEx aX (aT 0) (aT2 0) (aS 0) (aS2 0) (aP 0) (aH 0) aB aU ++ (wSeat G aT (aS 0) (vT 1) (vT 2) (vT 3) (vT 4 0) (vT 5 0) (vT 6) (vT 7) (vT 8) ++ (wSch G aS (vS 0) (vS 1) (vS 2) (vS 3) (vS 4) (vS 5) (vS 6) (vS 7) (vS 8 0) (vS 9 0))))) C 5 rfl (c_X4_isPaper x2 hq3) V_X4_isPaper k231 t_X4_isPaper rfl rfl ⟨Nat.le_of_ble_eq_true rfl, Nat.le_of_ble_eq_true rfl⟩ (Nat.le_of_ble_eq_true rfl) ⟨Nat.le_refl _, Nat.le_refl _⟩ (isC := []) (isR := [0, 1, 2, 3, 4, 5, 6, 7, 8, 9, 10, 11, 12, 13, 14, 15, 16]) (N := 17) ⟨rfl, by decide +kernel, rfl, by decide +kernel, rfl, ⟨⟨_, rfl, rfl⟩, ⟨⟨_, rfl, rfl⟩, ⟨⟨_, rfl, rfl⟩, ⟨⟨_, rfl, rfl⟩, ⟨⟨_, rfl, rfl⟩, ⟨⟨_, rfl, rfl⟩, ⟨⟨_, rfl, rfl⟩, ⟨⟨_, rfl, rfl⟩, ⟨⟨_, rfl, rfl⟩, ⟨⟨_, rfl, rfl⟩, ⟨⟨_, rfl, rfl⟩, ⟨⟨_, rfl, rfl⟩, ⟨⟨_, rfl, rfl⟩, ⟨⟨_, rfl, rfl⟩, ⟨⟨_, rfl, rfl⟩, ⟨⟨_, rfl, rfl⟩, ⟨⟨_, rfl, rfl⟩, trivial⟩⟩⟩⟩⟩⟩⟩⟩⟩⟩⟩⟩⟩⟩⟩⟩⟩⟩ rfl ?_
    refine J_if_ne (pc := 12) (tgt := 17) C 6 rfl rfl (fun c4 => ?_) (fun c4 => ?_)
    · rw [if_neg c4] at h
      refine J_iload_n (pc := 17) C 9 rfl 3 rfl rfl ?_
      refine J_iconst (pc := 18) (v := (0 : Int32)) C 10 rfl rfl ?_
      refine J_iconst (pc := 19) (v := (5 : Int32)) C 11 rfl rfl ?_
      obtain ⟨q5, hq5, h⟩ := bnd h
      refine J_callS (pc := 20) (st2 := []) (st3 := [.int q5]) (ws2 := (wEx aX (aT 0) (aT2 0) (aS 0) (aS2 0) (aP 0) (aH 0) aB aU ++ (wSeat G aT (aS 0) (vT 1) (vT 2) (vT 3) (vT 4 0) (vT 5 0) (vT 6) (vT 7) (vT 8) ++ (wSch G aS (vS 0) (vS 1) (vS 2) (vS 3) (vS 4) (vS 5) (vS 6) (vS 7) (vS 8 0) (vS 9 0))))) C 12 rfl (c_X4_isWithin x3 (0 : Int32) (5 : Int32) hq5) V_X4_isWithin k221 t_X4_isWithin rfl rfl ⟨Nat.le_of_ble_eq_true rfl, Nat.le_of_ble_eq_true rfl⟩ (Nat.le_of_ble_eq_true rfl) ⟨Nat.le_refl _, Nat.le_refl _⟩ (isC := []) (isR := [0, 1, 2, 3, 4, 5, 6, 7, 8, 9, 10, 11, 12, 13, 14, 15, 16]) (N := 17) ⟨rfl, by decide +kernel, rfl, by decide +kernel, rfl, ⟨⟨_, rfl, rfl⟩, ⟨⟨_, rfl, rfl⟩, ⟨⟨_, rfl, rfl⟩, ⟨⟨_, rfl, rfl⟩, ⟨⟨_, rfl, rfl⟩, ⟨⟨_, rfl, rfl⟩, ⟨⟨_, rfl, rfl⟩, ⟨⟨_, rfl, rfl⟩, ⟨⟨_, rfl, rfl⟩, ⟨⟨_, rfl, rfl⟩, ⟨⟨_, rfl, rfl⟩, ⟨⟨_, rfl, rfl⟩, ⟨⟨_, rfl, rfl⟩, ⟨⟨_, rfl, rfl⟩, ⟨⟨_, rfl, rfl⟩, ⟨⟨_, rfl, rfl⟩, ⟨⟨_, rfl, rfl⟩, trivial⟩⟩⟩⟩⟩⟩⟩⟩⟩⟩⟩⟩⟩⟩⟩⟩⟩⟩ rfl ?_
      refine J_if_ne (pc := 23) (tgt := 29) C 13 rfl rfl (fun c6 => ?_) (fun c6 => ?_)
      · rw [if_neg c6] at h
        refine J_aload_n (pc := 29) C 16 rfl 0 rfl rfl ?_
        refine J_get (pc := 30) (v := .ref (aS 0)) C 17 rfl TB_l4 rfl 0 1 rfl (by decide) k197 rfl rfl ?_
        refine J_iload_n (pc := 33) C 18 rfl 1 rfl rfl ?_
        refine J_iload_n (pc := 34) C 19 rfl 2 rfl rfl ?_
        obtain ⟨q7, hq7, h⟩ := bnd h
        refine J_callV (pc := 35) (st2 := []) (st3 := [.int q7]) (ws2 := (wEx aX (aT 0) (aT2 0) (aS 0) (aS2 0) (aP 0) (aH 0) aB aU ++ (wSeat G aT (aS 0) (vT 1) (vT 2) (vT 3) (vT 4 0) (vT 5 0) (vT 6) (vT 7) (vT 8) ++ (wSch G aS (vS 0) (vS 1) (vS 2) (vS 3) (vS 4) (vS 5) (vS 6) (vS 7) (vS 8 0) (vS 9 0))))) C 20 rfl (c_X2_sits aS vS x1 x2 hq7) V_X2_sits k290 i_X2_sits s_X2_sits rfl rfl ⟨Nat.le_of_ble_eq_true rfl, Nat.le_of_ble_eq_true rfl⟩ (Nat.le_of_ble_eq_true rfl) ⟨Nat.le_refl _, Nat.le_refl _⟩ 8 2 rfl rfl rfl (isC := [8, 9, 10, 11, 12, 13, 14, 15, 16]) (isR := [0, 1, 2, 3, 4, 5, 6, 7]) (N := 17) ⟨rfl, by decide +kernel, rfl, by decide +kernel, rfl, ⟨⟨_, rfl, rfl⟩, ⟨⟨_, rfl, rfl⟩, ⟨⟨_, rfl, rfl⟩, ⟨⟨_, rfl, rfl⟩, ⟨⟨_, rfl, rfl⟩, ⟨⟨_, rfl, rfl⟩, ⟨⟨_, rfl, rfl⟩, ⟨⟨_, rfl, rfl⟩, trivial⟩⟩⟩⟩⟩⟩⟩⟩⟩ rfl ?_
        refine J_if_ne (pc := 38) (tgt := 44) C 21 rfl rfl (fun c8 => ?_) (fun c8 => ?_)
        · rw [if_neg c8] at h
          refine J_iload_n (pc := 44) C 24 rfl 1 rfl rfl ?_
          refine J_iload_n (pc := 45) C 25 rfl 2 rfl rfl ?_
          obtain ⟨q9, hq9, h⟩ := bnd h
          refine J_callS (pc := 46) (st2 := []) (st3 := [.int q9]) (ws2 := (wEx aX (aT 0) (aT2 0) (aS 0) (aS2 0) (aP 0) (aH 0) aB aU ++ (wSeat G aT (aS 0) (vT 1) (vT 2) (vT 3) (vT 4 0) (vT 5 0) (vT 6) (vT 7) (vT 8) ++ (wSch G aS (vS 0) (vS 1) (vS 2) (vS 3) (vS 4) (vS 5) (vS 6) (vS 7) (vS 8 0) (vS 9 0))))) C 26 rfl (c_X4_sittingNumber x1 x2 hq9) V_X4_sittingNumber k291 t_X4_sittingNumber rfl rfl ⟨Nat.le_of_ble_eq_true rfl, Nat.le_of_ble_eq_true rfl⟩ (Nat.le_of_ble_eq_true rfl) ⟨Nat.le_refl _, Nat.le_refl _⟩ (isC := []) (isR := [0, 1, 2, 3, 4, 5, 6, 7, 8, 9, 10, 11, 12, 13, 14, 15, 16]) (N := 17) ⟨rfl, by decide +kernel, rfl, by decide +kernel, rfl, ⟨⟨_, rfl, rfl⟩, ⟨⟨_, rfl, rfl⟩, ⟨⟨_, rfl, rfl⟩, ⟨⟨_, rfl, rfl⟩, ⟨⟨_, rfl, rfl⟩, ⟨⟨_, rfl, rfl⟩, ⟨⟨_, rfl, rfl⟩, ⟨⟨_, rfl, rfl⟩, ⟨⟨_, rfl, rfl⟩, ⟨⟨_, rfl, rfl⟩, ⟨⟨_, rfl, rfl⟩, ⟨⟨_, rfl, rfl⟩, ⟨⟨_, rfl, rfl⟩, ⟨⟨_, rfl, rfl⟩, ⟨⟨_, rfl, rfl⟩, ⟨⟨_, rfl, rfl⟩, ⟨⟨_, rfl, rfl⟩, trivial⟩⟩⟩⟩⟩⟩⟩⟩⟩⟩⟩⟩⟩⟩⟩⟩⟩⟩ rfl ?_
          refine J_istore (pc := 49) (lv' := [(4, .int q9), (0, .ref aX), (1, .int x1), (2, .int x2), (3, .int x3)]) C 27 rfl (by decide) rfl ?_
          refine J_iload_n (pc := 51) C 28 rfl 4 rfl rfl ?_
          by_cases c10 : x3 = (0 : Int32)
          · rw [if_pos c10] at h
            refine J_tabIn (pc := 52) (tgt := 88) C 29 rfl (by rw [c10]; decide) (by rw [c10]; decide) (by rw [c10]; rfl) rfl ?_
            refine J_aload_n (pc := 88) C 30 rfl 1 rfl rfl ?_
            refine J_get (pc := 89) (v := .ref (aS 0)) C 31 rfl TB_l4 rfl 0 1 rfl (by decide) k197 rfl rfl ?_
            refine J_iload_n (pc := 92) C 32 rfl 3 rfl rfl ?_
            obtain ⟨q11, hq11, h⟩ := bnd h
            refine J_callV (pc := 93) (st2 := []) (st3 := [.int q11]) (ws2 := (wEx aX (aT 0) (aT2 0) (aS 0) (aS2 0) (aP 0) (aH 0) aB aU ++ (wSeat G aT (aS 0) (vT 1) (vT 2) (vT 3) (vT 4 0) (vT 5 0) (vT 6) (vT 7) (vT 8) ++ (wSch G aS (vS 0) (vS 1) (vS 2) (vS 3) (vS 4) (vS 5) (vS 6) (vS 7) (vS 8 0) (vS 9 0))))) C 33 rfl (c_X2_beginOf aS vS x2 hq11) V_X2_beginOf k292 i_X2_beginOf s_X2_beginOf rfl rfl ⟨Nat.le_of_ble_eq_true rfl, Nat.le_of_ble_eq_true rfl⟩ (Nat.le_of_ble_eq_true rfl) ⟨Nat.le_refl _, Nat.le_refl _⟩ 8 2 rfl rfl rfl (isC := [8, 9, 10, 11, 12, 13, 14, 15, 16]) (isR := [0, 1, 2, 3, 4, 5, 6, 7]) (N := 17) ⟨rfl, by decide +kernel, rfl, by decide +kernel, rfl, ⟨⟨_, rfl, rfl⟩, ⟨⟨_, rfl, rfl⟩, ⟨⟨_, rfl, rfl⟩, ⟨⟨_, rfl, rfl⟩, ⟨⟨_, rfl, rfl⟩, ⟨⟨_, rfl, rfl⟩, ⟨⟨_, rfl, rfl⟩, ⟨⟨_, rfl, rfl⟩, trivial⟩⟩⟩⟩⟩⟩⟩⟩⟩ rfl ?_
            cases h
            exact J_iret (pc := 96) C 34 rfl
          · rw [if_neg c10] at h
            by_cases c12 : x3 = (1 : Int32)
            · rw [if_pos c12] at h
              refine J_tabIn (pc := 52) (tgt := 97) C 29 rfl (by rw [c12]; decide) (by rw [c12]; decide) (by rw [c12]; rfl) rfl ?_
              refine J_aload_n (pc := 97) C 35 rfl 1 rfl rfl ?_
              refine J_get (pc := 98) (v := .ref (aS 0)) C 36 rfl TB_l4 rfl 0 1 rfl (by decide) k197 rfl rfl ?_
              refine J_iload_n (pc := 101) C 37 rfl 2 rfl rfl ?_
              refine J_iload_n (pc := 102) C 38 rfl 3 rfl rfl ?_
              obtain ⟨q13, hq13, h⟩ := bnd h
              refine J_callV (pc := 103) (st2 := []) (st3 := [.int q13]) (ws2 := (wEx aX (aT 0) (aT2 0) (aS 0) (aS2 0) (aP 0) (aH 0) aB aU ++ (wSeat G aT (aS 0) (vT 1) (vT 2) (vT 3) (vT 4 0) (vT 5 0) (vT 6) (vT 7) (vT 8) ++ (wSch G aS (vS 0) (vS 1) (vS 2) (vS 3) (vS 4) (vS 5) (vS 6) (vS 7) (vS 8 0) (vS 9 0))))) C 39 rfl (c_X2_endOf aS vS x1 x2 hq13) V_X2_endOf k293 i_X2_endOf s_X2_endOf rfl rfl ⟨Nat.le_of_ble_eq_true rfl, Nat.le_of_ble_eq_true rfl⟩ (Nat.le_of_ble_eq_true rfl) ⟨Nat.le_refl _, Nat.le_refl _⟩ 8 2 rfl rfl rfl (isC := [8, 9, 10, 11, 12, 13, 14, 15, 16]) (isR := [0, 1, 2, 3, 4, 5, 6, 7]) (N := 17) ⟨rfl, by decide +kernel, rfl, by decide +kernel, rfl, ⟨⟨_, rfl, rfl⟩, ⟨⟨_, rfl, rfl⟩, ⟨⟨_, rfl, rfl⟩, ⟨⟨_, rfl, rfl⟩, ⟨⟨_, rfl, rfl⟩, ⟨⟨_, rfl, rfl⟩, ⟨⟨_, rfl, rfl⟩, ⟨⟨_, rfl, rfl⟩, trivial⟩⟩⟩⟩⟩⟩⟩⟩⟩ rfl ?_
              cases h
              exact J_iret (pc := 106) C 40 rfl
            · rw [if_neg c12] at h
              by_cases c14 : x3 = (2 : Int32)
              · rw [if_pos c14] at h
                refine J_tabIn (pc := 52) (tgt := 107) C 29 rfl (by rw [c14]; decide) (by rw [c14]; decide) (by rw [c14]; rfl) rfl ?_
                refine J_aload_n (pc := 107) C 41 rfl 1 rfl rfl ?_
                refine J_get (pc := 108) (v := .ref (aT 0)) C 42 rfl TB_l4 rfl 0 0 rfl (by decide) k195 rfl rfl ?_
                refine J_get (pc := 111) (v := .ref (aT 1)) C 43 rfl TB_l3 rfl 1 1 rfl (by decide) k287 rfl rfl ?_
                refine J_iload (pc := 114) C 44 rfl 0 rfl ?_
                obtain ⟨g15, h⟩ := gd_some h
                refine J_iald (pc := 116) (f := (vT 1)) (v := ((vT 1) (Int32.toNatClampNeg q9))) C 45 rfl 2 rfl g15 rfl ?_
                cases h
                exact J_iret (pc := 117) C 46 rfl
              · rw [if_neg c14] at h
                by_cases c16 : x3 = (3 : Int32)
                · rw [if_pos c16] at h
                  refine J_tabIn (pc := 52) (tgt := 118) C 29 rfl (by rw [c16]; decide) (by rw [c16]; decide) (by rw [c16]; rfl) rfl ?_
                  refine J_aload_n (pc := 118) C 47 rfl 1 rfl rfl ?_
                  refine J_get (pc := 119) (v := .ref (aT 0)) C 48 rfl TB_l4 rfl 0 0 rfl (by decide) k195 rfl rfl ?_
                  refine J_get (pc := 122) (v := .ref (aT 2)) C 49 rfl TB_l3 rfl 1 2 rfl (by decide) k288 rfl rfl ?_
                  refine J_iload (pc := 125) C 50 rfl 0 rfl ?_
                  obtain ⟨g17, h⟩ := gd_some h
                  refine J_iald (pc := 127) (f := (vT 2)) (v := ((vT 2) (Int32.toNatClampNeg q9))) C 51 rfl 3 rfl g17 rfl ?_
                  cases h
                  exact J_iret (pc := 128) C 52 rfl
                · rw [if_neg c16] at h
                  by_cases c18 : x3 = (4 : Int32)
                  · rw [if_pos c18] at h
                    refine J_tabIn (pc := 52) (tgt := 129) C 29 rfl (by rw [c18]; decide) (by rw [c18]; decide) (by rw [c18]; rfl) rfl ?_
                    refine J_aload_n (pc := 129) C 53 rfl 1 rfl rfl ?_
                    refine J_get (pc := 130) (v := .ref (aT 0)) C 54 rfl TB_l4 rfl 0 0 rfl (by decide) k195 rfl rfl ?_
                    refine J_get (pc := 133) (v := .ref (aT 3)) C 55 rfl TB_l3 rfl 1 3 rfl (by decide) k289 rfl rfl ?_
                    refine J_iload (pc := 136) C 56 rfl 0 rfl ?_
                    obtain ⟨g19, h⟩ := gd_some h
                    refine J_iald (pc := 138) (f := (vT 3)) (v := ((vT 3) (Int32.toNatClampNeg q9))) C 57 rfl 4 rfl g19 rfl ?_
                    cases h
                    exact J_iret (pc := 139) C 58 rfl
                  · rw [if_neg c18] at h
                    have ec10 := lv_neT (a := 0) c10 rfl
                    have ec12 := lv_neT (a := 1) c12 rfl
                    have ec14 := lv_neT (a := 2) c14 rfl
                    have ec16 := lv_neT (a := 3) c16 rfl
                    have ec18 := lv_neT (a := 4) c18 rfl
                    refine J_tabOut (pc := 52) (tgt := 140) C 29 rfl (by omega) rfl ?_
                    refine J_aload_n (pc := 140) C 59 rfl 1 rfl rfl ?_
                    refine J_get (pc := 141) (v := .ref (aS 0)) C 60 rfl TB_l4 rfl 0 1 rfl (by decide) k197 rfl rfl ?_
                    refine J_iload_n (pc := 144) C 61 rfl 2 rfl rfl ?_
                    refine J_iload_n (pc := 145) C 62 rfl 3 rfl rfl ?_
                    obtain ⟨q20, hq20, h⟩ := bnd h
                    refine J_callV (pc := 146) (st2 := []) (st3 := [.int q20]) (ws2 := (wEx aX (aT 0) (aT2 0) (aS 0) (aS2 0) (aP 0) (aH 0) aB aU ++ (wSeat G aT (aS 0) (vT 1) (vT 2) (vT 3) (vT 4 0) (vT 5 0) (vT 6) (vT 7) (vT 8) ++ (wSch G aS (vS 0) (vS 1) (vS 2) (vS 3) (vS 4) (vS 5) (vS 6) (vS 7) (vS 8 0) (vS 9 0))))) C 63 rfl (c_X2_clashingPapers aS vS x1 x2 hq20) V_X2_clashingPapers k294 i_X2_clashingPapers s_X2_clashingPapers rfl rfl ⟨Nat.le_of_ble_eq_true rfl, Nat.le_of_ble_eq_true rfl⟩ (Nat.le_of_ble_eq_true rfl) ⟨Nat.le_refl _, Nat.le_refl _⟩ 8 2 rfl rfl rfl (isC := [8, 9, 10, 11, 12, 13, 14, 15, 16]) (isR := [0, 1, 2, 3, 4, 5, 6, 7]) (N := 17) ⟨rfl, by decide +kernel, rfl, by decide +kernel, rfl, ⟨⟨_, rfl, rfl⟩, ⟨⟨_, rfl, rfl⟩, ⟨⟨_, rfl, rfl⟩, ⟨⟨_, rfl, rfl⟩, ⟨⟨_, rfl, rfl⟩, ⟨⟨_, rfl, rfl⟩, ⟨⟨_, rfl, rfl⟩, ⟨⟨_, rfl, rfl⟩, trivial⟩⟩⟩⟩⟩⟩⟩⟩⟩ rfl ?_
                    cases h
                    exact J_iret (pc := 149) C 64 rfl
        · rw [if_pos c8] at h
          refine J_bipush (pc := 41) (v := (-5 : Int32)) C 22 rfl rfl ?_
          cases h
          exact J_iret (pc := 43) C 23 rfl
      · rw [if_pos c6] at h
        refine J_bipush (pc := 26) (v := (-2 : Int32)) C 14 rfl rfl ?_
        cases h
        exact J_iret (pc := 28) C 15 rfl
    · rw [if_pos c4] at h
      refine J_iconst (pc := 15) (v := (-1 : Int32)) C 7 rfl rfl ?_
      cases h
      exact J_iret (pc := 16) C 8 rfl
def T_X4_hallOf : List (Nat × ClassFile.Instr × Nat) := [(0, .iload_n 1, 1), (1, .invokestatic 132, 3), (4, .ifCond .ne 5, 3), (7, .iconst (-1), 1), (8, .ireturn, 1), (9, .iload_n 2, 1), (10, .tableswitch 89 0 4 #[34, 44, 54, 71, 80], 34), (44, .aload_n 0, 1), (45, .getfield 20, 3), (48, .getfield 138, 3), (51, .iload_n 1, 1), (52, .iaload, 1), (53, .ireturn, 1), (54, .aload_n 0, 1), (55, .getfield 20, 3), (58, .getfield 141, 3), (61, .iload_n 1, 1), (62, .iaload, 1), (63, .ireturn, 1), (64, .aload_n 0, 1), (65, .getfield 20, 3), (68, .iload_n 1, 1), (69, .invokevirtual 144, 3), (72, .ifCond .eq 7, 3), (75, .iconst 1, 1), (76, .goto 4, 3), (79, .iconst 0, 1), (80, .ireturn, 1), (81, .aload_n 0, 1), (82, .getfield 12, 3), (85, .iload_n 1, 1), (86, .invokevirtual 202, 3), (89, .ireturn, 1), (90, .aload_n 0, 1), (91, .getfield 12, 3), (94, .iload_n 1, 1), (95, .invokevirtual 205, 3), (98, .ireturn, 1), (99, .bipush (-2), 2), (101, .ireturn, 1)]
theorem D_X4_hallOf : ∀ q ∈ T_X4_hallOf, decode cX4_hallOf q.1 = .ok q.2 := by decide +kernel
theorem V_X4_hallOf : Vy yX4_hallOf cX4_hallOf 3 (some .int) 2 := ⟨k302, k56, by decide +kernel⟩
theorem i_X4_hallOf : Cond.instanceMethod yX4_hallOf ∈ TB := k351
theorem s_X4_hallOf : Cond.selects yX4_hallOf.cls yX4_hallOf yX4_hallOf ∈ TB := k352
noncomputable def f_X4_hallOf (vT : JV) (vS : JV) (x1 : Int32) (x2 : Int32) : Option (Int32) :=
  (f_X4_isHall x1).bind (fun q1 => (if q1 = 0 then some (-1 : Int32) else (if x2 = (0 : Int32) then gd (inb x1 4) (some ((vS 6) (Int32.toNatClampNeg x1))) else (if x2 = (1 : Int32) then gd (inb x1 4) (some ((vS 7) (Int32.toNatClampNeg x1))) else (if x2 = (2 : Int32) then (f_X2_isOpen vS x1).bind (fun q8 => (if q8 = 0 then some (0 : Int32) else some (1 : Int32))) else (if x2 = (3 : Int32) then (f_X3_seatedIn vT x1).bind (fun q11 => some q11) else (if x2 = (4 : Int32) then (f_X3_mostTakenIn vT vS x1).bind (fun q13 => some q13) else some (-2 : Int32))))))))
set_option maxRecDepth 100000 in
set_option maxHeartbeats 4000000 in
theorem c_X4_hallOf {l : Launch} {G : JG} (aX : Nat) (aT : Nat → Nat) (aS : Nat → Nat) (aT2 : Nat → Nat) (aS2 : Nat → Nat) (aP : Nat → Nat) (aH : Nat → Nat) (aB : Nat) (aU : Nat) (vT : JV) (vS : JV) (x1 : Int32) (x2 : Int32) {Rz : Int32} (h : f_X4_hallOf vT vS x1 x2 = some Rz) : JM l G yX4_hallOf cX4_hallOf 3 (some .int) 6 136 [.ref aX, .int x1, .int x2] (wEx aX (aT 0) (aT2 0) (aS 0) (aS2 0) (aP 0) (aH 0) aB aU ++ (wSeat G aT (aS 0) (vT 1) (vT 2) (vT 3) (vT 4 0) (vT 5 0) (vT 6) (vT 7) (vT 8) ++ (wSch G aS (vS 0) (vS 1) (vS 2) (vS 3) (vS 4) (vS 5) (vS 6) (vS 7) (vS 8 0) (vS 9 0)))) (wEx aX (aT 0) (aT2 0) (aS 0) (aS2 0) (aP 0) (aH 0) aB aU ++ (wSeat G aT (aS 0) (vT 1) (vT 2) (vT 3) (vT 4 0) (vT 5 0) (vT 6) (vT 7) (vT 8) ++ (wSch G aS (vS 0) (vS 1) (vS 2) (vS 3) (vS 4) (vS 5) (vS 6) (vS 7) (vS 8 0) (vS 9 0)))) (some (.int Rz)) := by
  refine JM.of (own := RX4) (tb := T_X4_hallOf) (by decide) (Nat.le_of_ble_eq_true rfl) D_X4_hallOf rfl (fun X C => ?_)
  refine J_sub (lv' := [(0, .ref aX), (1, .int x1), (2, .int x2)]) [0, 1, 2] rfl ?_
  unfold f_X4_hallOf at h
  refine J_iload_n (pc := 0) C 0 rfl 1 rfl rfl ?_
  obtain ⟨q1, hq1, h⟩ := bnd h
  refine J_callS (pc := 1) (st2 := []) (st3 := [.int q1]) (ws2 := (wEx aX (aT 0) (aT2 0) (aS 0) (aS2 0) (aP 0) (aH 0) aB aU ++ (wSeat G aT (aS 0) (vT 1) (vT 2) (vT 3) (vT 4 0) (vT 5 0) (vT 6) (vT 7) (vT 8) ++ (wSch G aS (vS 0) (vS 1) (vS 2) (vS 3) (vS 4) (vS 5) (vS 6) (vS 7) (vS 8 0) (vS 9 0))))) C 1 rfl (c_X4_isHall x1 hq1) V_X4_isHall k259 t_X4_isHall rfl rfl ⟨Nat.le_of_ble_eq_true rfl, Nat.le_of_ble_eq_true rfl⟩ (Nat.le_of_ble_eq_true rfl) ⟨Nat.le_refl _, Nat.le_refl _⟩ (isC := []) (isR := [0, 1, 2, 3, 4, 5, 6, 7, 8, 9, 10, 11, 12, 13, 14, 15, 16]) (N := 17) ⟨rfl, by decide +kernel, rfl, by decide +kernel, rfl, ⟨⟨_, rfl, rfl⟩, ⟨⟨_, rfl, rfl⟩, ⟨⟨_, rfl, rfl⟩, ⟨⟨_, rfl, rfl⟩, ⟨⟨_, rfl, rfl⟩, ⟨⟨_, rfl, rfl⟩, ⟨⟨_, rfl, rfl⟩, ⟨⟨_, rfl, rfl⟩, ⟨⟨_, rfl, rfl⟩, ⟨⟨_, rfl, rfl⟩, ⟨⟨_, rfl, rfl⟩, ⟨⟨_, rfl, rfl⟩, ⟨⟨_, rfl, rfl⟩, ⟨⟨_, rfl, rfl⟩, ⟨⟨_, rfl, rfl⟩, ⟨⟨_, rfl, rfl⟩, ⟨⟨_, rfl, rfl⟩, trivial⟩⟩⟩⟩⟩⟩⟩⟩⟩⟩⟩⟩⟩⟩⟩⟩⟩⟩ rfl ?_
  refine J_if_ne (pc := 4) (tgt := 9) C 2 rfl rfl (fun c2 => ?_) (fun c2 => ?_)
  · rw [if_neg c2] at h
    refine J_iload_n (pc := 9) C 5 rfl 2 rfl rfl ?_
    by_cases c3 : x2 = (0 : Int32)
    · rw [if_pos c3] at h
      refine J_tabIn (pc := 10) (tgt := 44) C 6 rfl (by rw [c3]; decide) (by rw [c3]; decide) (by rw [c3]; rfl) rfl ?_
      refine J_aload_n (pc := 44) C 7 rfl 0 rfl rfl ?_
      refine J_get (pc := 45) (v := .ref (aS 0)) C 8 rfl TB_l4 rfl 0 1 rfl (by decide) k197 rfl rfl ?_
      refine J_get (pc := 48) (v := .ref (aS 7)) C 9 rfl TB_l2 rfl 8 6 rfl (by decide) k257 rfl rfl ?_
      refine J_iload_n (pc := 51) C 10 rfl 1 rfl rfl ?_
      obtain ⟨g4, h⟩ := gd_some h
      refine J_iald (pc := 52) (f := (vS 6)) (v := ((vS 6) (Int32.toNatClampNeg x1))) C 11 rfl 15 rfl g4 rfl ?_
      cases h
      exact J_iret (pc := 53) C 12 rfl
    · rw [if_neg c3] at h
      by_cases c5 : x2 = (1 : Int32)
      · rw [if_pos c5] at h
        refine J_tabIn (pc := 10) (tgt := 54) C 6 rfl (by rw [c5]; decide) (by rw [c5]; decide) (by rw [c5]; rfl) rfl ?_
        refine J_aload_n (pc := 54) C 13 rfl 0 rfl rfl ?_
        refine J_get (pc := 55) (v := .ref (aS 0)) C 14 rfl TB_l4 rfl 0 1 rfl (by decide) k197 rfl rfl ?_
        refine J_get (pc := 58) (v := .ref (aS 8)) C 15 rfl TB_l2 rfl 8 7 rfl (by decide) k258 rfl rfl ?_
        refine J_iload_n (pc := 61) C 16 rfl 1 rfl rfl ?_
        obtain ⟨g6, h⟩ := gd_some h
        refine J_iald (pc := 62) (f := (vS 7)) (v := ((vS 7) (Int32.toNatClampNeg x1))) C 17 rfl 16 rfl g6 rfl ?_
        cases h
        exact J_iret (pc := 63) C 18 rfl
      · rw [if_neg c5] at h
        by_cases c7 : x2 = (2 : Int32)
        · rw [if_pos c7] at h
          refine J_tabIn (pc := 10) (tgt := 64) C 6 rfl (by rw [c7]; decide) (by rw [c7]; decide) (by rw [c7]; rfl) rfl ?_
          refine J_aload_n (pc := 64) C 19 rfl 0 rfl rfl ?_
          refine J_get (pc := 65) (v := .ref (aS 0)) C 20 rfl TB_l4 rfl 0 1 rfl (by decide) k197 rfl rfl ?_
          refine J_iload_n (pc := 68) C 21 rfl 1 rfl rfl ?_
          obtain ⟨q8, hq8, h⟩ := bnd h
          refine J_callV (pc := 69) (st2 := []) (st3 := [.int q8]) (ws2 := (wEx aX (aT 0) (aT2 0) (aS 0) (aS2 0) (aP 0) (aH 0) aB aU ++ (wSeat G aT (aS 0) (vT 1) (vT 2) (vT 3) (vT 4 0) (vT 5 0) (vT 6) (vT 7) (vT 8) ++ (wSch G aS (vS 0) (vS 1) (vS 2) (vS 3) (vS 4) (vS 5) (vS 6) (vS 7) (vS 8 0) (vS 9 0))))) C 22 rfl (c_X2_isOpen aS vS x1 hq8) V_X2_isOpen k265 i_X2_isOpen s_X2_isOpen rfl rfl ⟨Nat.le_of_ble_eq_true rfl, Nat.le_of_ble_eq_true rfl⟩ (Nat.le_of_ble_eq_true rfl) ⟨Nat.le_refl _, Nat.le_refl _⟩ 8 2 rfl rfl rfl (isC := [8, 9, 10, 11, 12, 13, 14, 15, 16]) (isR := [0, 1, 2, 3, 4, 5, 6, 7]) (N := 17) ⟨rfl, by decide +kernel, rfl, by decide +kernel, rfl, ⟨⟨_, rfl, rfl⟩, ⟨⟨_, rfl, rfl⟩, ⟨⟨_, rfl, rfl⟩, ⟨⟨_, rfl, rfl⟩, ⟨⟨_, rfl, rfl⟩, ⟨⟨_, rfl, rfl⟩, ⟨⟨_, rfl, rfl⟩, ⟨⟨_, rfl, rfl⟩, trivial⟩⟩⟩⟩⟩⟩⟩⟩⟩ rfl ?_
          refine J_if_eq (pc := 72) (tgt := 79) C 23 rfl rfl (fun c9 => ?_) (fun c9 => ?_)
          · rw [if_pos c9] at h
            refine J_iconst (pc := 79) (v := (0 : Int32)) C 26 rfl rfl ?_
            cases h
            exact J_iret (pc := 80) C 27 rfl
          · rw [if_neg c9] at h
            refine J_iconst (pc := 75) (v := (1 : Int32)) C 24 rfl rfl ?_
            refine J_goto (pc := 76) (tgt := 80) C 25 rfl rfl ?_
            cases h
            exact J_iret (pc := 80) C 27 rfl
        · rw [if_neg c7] at h
          by_cases c10 : x2 = (3 : Int32)
          · rw [if_pos c10] at h
            refine J_tabIn (pc := 10) (tgt := 81) C 6 rfl (by rw [c10]; decide) (by rw [c10]; decide) (by rw [c10]; rfl) rfl ?_
            refine J_aload_n (pc := 81) C 28 rfl 0 rfl rfl ?_
            refine J_get (pc := 82) (v := .ref (aT 0)) C 29 rfl TB_l4 rfl 0 0 rfl (by decide) k195 rfl rfl ?_
            refine J_iload_n (pc := 85) C 30 rfl 1 rfl rfl ?_
            obtain ⟨q11, hq11, h⟩ := bnd h
            refine J_callV (pc := 86) (st2 := []) (st3 := [.int q11]) (ws2 := (wEx aX (aT 0) (aT2 0) (aS 0) (aS2 0) (aP 0) (aH 0) aB aU ++ (wSeat G aT (aS 0) (vT 1) (vT 2) (vT 3) (vT 4 0) (vT 5 0) (vT 6) (vT 7) (vT 8) ++ (wSch G aS (vS 0) (vS 1) (vS 2) (vS 3) (vS 4) (vS 5) (vS 6) (vS 7) (vS 8 0) (vS 9 0))))) C 31 rfl (c_X3_seatedIn aT aS vT x1 hq11) V_X3_seatedIn k296 i_X3_seatedIn s_X3_seatedIn rfl rfl ⟨Nat.le_of_ble_eq_true rfl, Nat.le_of_ble_eq_true rfl⟩ (Nat.le_of_ble_eq_true rfl) ⟨Nat.le_refl _, Nat.le_refl _⟩ 1 3 rfl rfl rfl (isC := [1, 2, 3, 4, 5, 6, 7]) (isR := [0, 8, 9, 10, 11, 12, 13, 14, 15, 16]) (N := 17) ⟨rfl, by decide +kernel, rfl, by decide +kernel, rfl, ⟨⟨_, rfl, rfl⟩, ⟨⟨_, rfl, rfl⟩, ⟨⟨_, rfl, rfl⟩, ⟨⟨_, rfl, rfl⟩, ⟨⟨_, rfl, rfl⟩, ⟨⟨_, rfl, rfl⟩, ⟨⟨_, rfl, rfl⟩, ⟨⟨_, rfl, rfl⟩, ⟨⟨_, rfl, rfl⟩, ⟨⟨_, rfl, rfl⟩, trivial⟩⟩⟩⟩⟩⟩⟩⟩⟩⟩⟩ rfl ?_
            cases h
            exact J_iret (pc := 89) C 32 rfl
          · rw [if_neg c10] at h
            by_cases c12 : x2 = (4 : Int32)
            · rw [if_pos c12] at h
              refine J_tabIn (pc := 10) (tgt := 90) C 6 rfl (by rw [c12]; decide) (by rw [c12]; decide) (by rw [c12]; rfl) rfl ?_
              refine J_aload_n (pc := 90) C 33 rfl 0 rfl rfl ?_
              refine J_get (pc := 91) (v := .ref (aT 0)) C 34 rfl TB_l4 rfl 0 0 rfl (by decide) k195 rfl rfl ?_
              refine J_iload_n (pc := 94) C 35 rfl 1 rfl rfl ?_
              obtain ⟨q13, hq13, h⟩ := bnd h
              refine J_callV (pc := 95) (st2 := []) (st3 := [.int q13]) (ws2 := (wEx aX (aT 0) (aT2 0) (aS 0) (aS2 0) (aP 0) (aH 0) aB aU ++ (wSeat G aT (aS 0) (vT 1) (vT 2) (vT 3) (vT 4 0) (vT 5 0) (vT 6) (vT 7) (vT 8) ++ (wSch G aS (vS 0) (vS 1) (vS 2) (vS 3) (vS 4) (vS 5) (vS 6) (vS 7) (vS 8 0) (vS 9 0))))) C 36 rfl (c_X3_mostTakenIn aT aS vT vS x1 hq13) V_X3_mostTakenIn k299 i_X3_mostTakenIn s_X3_mostTakenIn rfl rfl ⟨Nat.le_of_ble_eq_true rfl, Nat.le_of_ble_eq_true rfl⟩ (Nat.le_of_ble_eq_true rfl) ⟨Nat.le_refl _, Nat.le_refl _⟩ 1 3 rfl rfl rfl (isC := [1, 2, 3, 4, 5, 6, 7, 8, 9, 10, 11, 12, 13, 14, 15, 16]) (isR := [0]) (N := 17) ⟨rfl, by decide +kernel, rfl, by decide +kernel, rfl, ⟨⟨_, rfl, rfl⟩, trivial⟩⟩ rfl ?_
              cases h
              exact J_iret (pc := 98) C 37 rfl
            · rw [if_neg c12] at h
              have ec3 := lv_neT (a := 0) c3 rfl
              have ec5 := lv_neT (a := 1) c5 rfl
              have ec7 := lv_neT (a := 2) c7 rfl
              have ec10 := lv_neT (a := 3) c10 rfl
              have ec12 := lv_neT (a := 4) c12 rfl
              refine J_tabOut (pc := 10) (tgt := 99) C 6 rfl (by omega) rfl ?_
              refine J_bipush (pc := 99) (v := (-2 : Int32)) C 38 rfl rfl ?_
              cases h
              exact J_iret (pc := 101) C 39 rfl
  · rw [if_pos c2] at h
    refine J_iconst (pc := 7) (v := (-1 : Int32)) C 3 rfl rfl ?_
    cases h
    exact J_iret (pc := 8) C 4 rfl
def T_X4_count : List (Nat × ClassFile.Instr × Nat) := [(0, .iload_n 1, 1), (1, .tableswitch 157 0 12 #[67, 67, 67, 77, 85, 93, 101, 109, 117, 125, 133, 141, 149], 67), (68, .aload_n 0, 1), (69, .getfield 20, 3), (72, .getfield 63, 3), (75, .iload_n 1, 1), (76, .iaload, 1), (77, .ireturn, 1), (78, .aload_n 0, 1), (79, .getfield 20, 3), (82, .getfield 87, 3), (85, .ireturn, 1), (86, .aload_n 0, 1), (87, .getfield 20, 3), (90, .invokevirtual 208, 3), (93, .ireturn, 1), (94, .aload_n 0, 1), (95, .getfield 12, 3), (98, .getfield 150, 3), (101, .ireturn, 1), (102, .aload_n 0, 1), (103, .getfield 20, 3), (106, .invokevirtual 211, 3), (109, .ireturn, 1), (110, .aload_n 0, 1), (111, .getfield 20, 3), (114, .getfield 147, 3), (117, .ireturn, 1), (118, .aload_n 0, 1), (119, .getfield 20, 3), (122, .invokevirtual 214, 3), (125, .ireturn, 1), (126, .aload_n 0, 1), (127, .getfield 20, 3), (130, .invokevirtual 217, 3), (133, .ireturn, 1), (134, .aload_n 0, 1), (135, .getfield 20, 3), (138, .invokevirtual 220, 3), (141, .ireturn, 1), (142, .aload_n 0, 1), (143, .getfield 30, 3), (146, .getfield 111, 3), (149, .ireturn, 1), (150, .aload_n 0, 1), (151, .getfield 37, 3), (154, .getfield 223, 3), (157, .ireturn, 1), (158, .bipush (-2), 2), (160, .ireturn, 1)]
theorem D_X4_count : ∀ q ∈ T_X4_count, decode cX4_count q.1 = .ok q.2 := by decide +kernel
theorem V_X4_count : Vy yX4_count cX4_count 2 (some .int) 1 := ⟨k320, k56, by decide +kernel⟩
theorem i_X4_count : Cond.instanceMethod yX4_count ∈ TB := k363
theorem s_X4_count : Cond.selects yX4_count.cls yX4_count yX4_count ∈ TB := k364
noncomputable def f_X4_count (vT : JV) (vS : JV) (vP : JV) (hA : Nat → Nat → Nat) (hV : Nat → JV) (hZ : JV) (x1 : Int32) : Option (Int32) :=
  (if x1 = (0 : Int32) then gd (inb x1 3) (some ((vS 0) (Int32.toNatClampNeg x1))) else (if x1 = (1 : Int32) then gd (inb x1 3) (some ((vS 0) (Int32.toNatClampNeg x1))) else (if x1 = (2 : Int32) then gd (inb x1 3) (some ((vS 0) (Int32.toNatClampNeg x1))) else (if x1 = (3 : Int32) then some (vS 8 0) else (if x1 = (4 : Int32) then (f_X2_sittings vS).bind (fun q9 => some q9) else (if x1 = (5 : Int32) then some (vT 4 0) else (if x1 = (6 : Int32) then (f_X2_clashes vS).bind (fun q12 => some q12) else (if x1 = (7 : Int32) then some (vS 9 0) else (if x1 = (8 : Int32) then (f_X2_openDesks vS).bind (fun q15 => some q15) else (if x1 = (9 : Int32) then (f_X2_mostReaders vS).bind (fun q17 => some q17) else (if x1 = (10 : Int32) then (f_X2_lastEnd vS).bind (fun q19 => some q19) else (if x1 = (11 : Int32) then some (vP 1 0) else (if x1 = (12 : Int32) then some (hZ 1 0) else some (-2 : Int32))))))))))))))
set_option maxRecDepth 100000 in
set_option maxHeartbeats 4000000 in
theorem c_X4_count {l : Launch} {G : JG} (aX : Nat) (aT : Nat → Nat) (aS : Nat → Nat) (aT2 : Nat → Nat) (aS2 : Nat → Nat) (aP : Nat → Nat) (aH : Nat → Nat) (aB : Nat) (aU : Nat) (vT : JV) (vS : JV) (vP : JV) (hA : Nat → Nat → Nat) (hV : Nat → JV) (hZ : JV) (x1 : Int32) {Rz : Int32} (h : f_X4_count vT vS vP hA hV hZ x1 = some Rz) : JM l G yX4_count cX4_count 2 (some .int) 5 113 [.ref aX, .int x1] (wEx aX (aT 0) (aT2 0) (aS 0) (aS2 0) (aP 0) (aH 0) aB aU ++ (wSeat G aT (aS 0) (vT 1) (vT 2) (vT 3) (vT 4 0) (vT 5 0) (vT 6) (vT 7) (vT 8) ++ (wSch G aS (vS 0) (vS 1) (vS 2) (vS 3) (vS 4) (vS 5) (vS 6) (vS 7) (vS 8 0) (vS 9 0) ++ (wPad G aP (vP 0) (vP 1 0) (vP 2) (vP 3) (vP 4) (vP 5 0) (vP 6 0) (vP 7 0) (vP 8 0) (vP 9 0) ++ (wHis G aH hA hV (hZ 1 0)))))) (wEx aX (aT 0) (aT2 0) (aS 0) (aS2 0) (aP 0) (aH 0) aB aU ++ (wSeat G aT (aS 0) (vT 1) (vT 2) (vT 3) (vT 4 0) (vT 5 0) (vT 6) (vT 7) (vT 8) ++ (wSch G aS (vS 0) (vS 1) (vS 2) (vS 3) (vS 4) (vS 5) (vS 6) (vS 7) (vS 8 0) (vS 9 0) ++ (wPad G aP (vP 0) (vP 1 0) (vP 2) (vP 3) (vP 4) (vP 5 0) (vP 6 0) (vP 7 0) (vP 8 0) (vP 9 0) ++ (wHis G aH hA hV (hZ 1 0)))))) (some (.int Rz)) := by
  refine JM.of (own := RX4) (tb := T_X4_count) (by decide) (Nat.le_of_ble_eq_true rfl) D_X4_count rfl (fun X C => ?_)
  refine J_sub (lv' := [(0, .ref aX), (1, .int x1)]) [0, 1] rfl ?_
  unfold f_X4_count at h
  refine J_iload_n (pc := 0) C 0 rfl 1 rfl rfl ?_
  by_cases c1 : x1 = (0 : Int32)
  · rw [if_pos c1] at h
    refine J_tabIn (pc := 1) (tgt := 68) C 1 rfl (by rw [c1]; decide) (by rw [c1]; decide) (by rw [c1]; rfl) rfl ?_
    refine J_aload_n (pc := 68) C 2 rfl 0 rfl rfl ?_
    refine J_get (pc := 69) (v := .ref (aS 0)) C 3 rfl TB_l4 rfl 0 1 rfl (by decide) k197 rfl rfl ?_
    refine J_get (pc := 72) (v := .ref (aS 1)) C 4 rfl TB_l2 rfl 8 0 rfl (by decide) k220 rfl rfl ?_
    refine J_iload_n (pc := 75) C 5 rfl 1 rfl rfl ?_
    obtain ⟨g2, h⟩ := gd_some h
    refine J_iald (pc := 76) (f := (vS 0)) (v := ((vS 0) (Int32.toNatClampNeg x1))) C 6 rfl 9 rfl g2 rfl ?_
    cases h
    exact J_iret (pc := 77) C 7 rfl
  · rw [if_neg c1] at h
    by_cases c3 : x1 = (1 : Int32)
    · rw [if_pos c3] at h
      refine J_tabIn (pc := 1) (tgt := 68) C 1 rfl (by rw [c3]; decide) (by rw [c3]; decide) (by rw [c3]; rfl) rfl ?_
      refine J_aload_n (pc := 68) C 2 rfl 0 rfl rfl ?_
      refine J_get (pc := 69) (v := .ref (aS 0)) C 3 rfl TB_l4 rfl 0 1 rfl (by decide) k197 rfl rfl ?_
      refine J_get (pc := 72) (v := .ref (aS 1)) C 4 rfl TB_l2 rfl 8 0 rfl (by decide) k220 rfl rfl ?_
      refine J_iload_n (pc := 75) C 5 rfl 1 rfl rfl ?_
      obtain ⟨g4, h⟩ := gd_some h
      refine J_iald (pc := 76) (f := (vS 0)) (v := ((vS 0) (Int32.toNatClampNeg x1))) C 6 rfl 9 rfl g4 rfl ?_
      cases h
      exact J_iret (pc := 77) C 7 rfl
    · rw [if_neg c3] at h
      by_cases c5 : x1 = (2 : Int32)
      · rw [if_pos c5] at h
        refine J_tabIn (pc := 1) (tgt := 68) C 1 rfl (by rw [c5]; decide) (by rw [c5]; decide) (by rw [c5]; rfl) rfl ?_
        refine J_aload_n (pc := 68) C 2 rfl 0 rfl rfl ?_
        refine J_get (pc := 69) (v := .ref (aS 0)) C 3 rfl TB_l4 rfl 0 1 rfl (by decide) k197 rfl rfl ?_
        refine J_get (pc := 72) (v := .ref (aS 1)) C 4 rfl TB_l2 rfl 8 0 rfl (by decide) k220 rfl rfl ?_
        refine J_iload_n (pc := 75) C 5 rfl 1 rfl rfl ?_
        obtain ⟨g6, h⟩ := gd_some h
        refine J_iald (pc := 76) (f := (vS 0)) (v := ((vS 0) (Int32.toNatClampNeg x1))) C 6 rfl 9 rfl g6 rfl ?_
        cases h
        exact J_iret (pc := 77) C 7 rfl
      · rw [if_neg c5] at h
        by_cases c7 : x1 = (3 : Int32)
        · rw [if_pos c7] at h
          refine J_tabIn (pc := 1) (tgt := 78) C 1 rfl (by rw [c7]; decide) (by rw [c7]; decide) (by rw [c7]; rfl) rfl ?_
          refine J_aload_n (pc := 78) C 8 rfl 0 rfl rfl ?_
          refine J_get (pc := 79) (v := .ref (aS 0)) C 9 rfl TB_l4 rfl 0 1 rfl (by decide) k197 rfl rfl ?_
          refine J_get (pc := 82) (v := .int (vS 8 0)) C 10 rfl TB_l2 rfl 8 8 rfl (by decide) k237 rfl rfl ?_
          cases h
          exact J_iret (pc := 85) C 11 rfl
        · rw [if_neg c7] at h
          by_cases c8 : x1 = (4 : Int32)
          · rw [if_pos c8] at h
            refine J_tabIn (pc := 1) (tgt := 86) C 1 rfl (by rw [c8]; decide) (by rw [c8]; decide) (by rw [c8]; rfl) rfl ?_
            refine J_aload_n (pc := 86) C 12 rfl 0 rfl rfl ?_
            refine J_get (pc := 87) (v := .ref (aS 0)) C 13 rfl TB_l4 rfl 0 1 rfl (by decide) k197 rfl rfl ?_
            obtain ⟨q9, hq9, h⟩ := bnd h
            refine J_callV (pc := 90) (st2 := []) (st3 := [.int q9]) (ws2 := (wEx aX (aT 0) (aT2 0) (aS 0) (aS2 0) (aP 0) (aH 0) aB aU ++ (wSeat G aT (aS 0) (vT 1) (vT 2) (vT 3) (vT 4 0) (vT 5 0) (vT 6) (vT 7) (vT 8) ++ (wSch G aS (vS 0) (vS 1) (vS 2) (vS 3) (vS 4) (vS 5) (vS 6) (vS 7) (vS 8 0) (vS 9 0) ++ (wPad G aP (vP 0) (vP 1 0) (vP 2) (vP 3) (vP 4) (vP 5 0) (vP 6 0) (vP 7 0) (vP 8 0) (vP 9 0) ++ (wHis G aH hA hV (hZ 1 0))))))) C 14 rfl (c_X2_sittings aS vS hq9) V_X2_sittings k305 i_X2_sittings s_X2_sittings rfl rfl ⟨Nat.le_of_ble_eq_true rfl, Nat.le_of_ble_eq_true rfl⟩ (Nat.le_of_ble_eq_true rfl) ⟨Nat.le_refl _, Nat.le_refl _⟩ 8 2 rfl rfl rfl (isC := [8, 9, 10, 11, 12, 13, 14, 15, 16]) (isR := [0, 1, 2, 3, 4, 5, 6, 7, 17, 18, 19, 20, 21, 22, 23, 24, 25, 26, 27, 28, 29, 30, 31, 32, 33, 34, 35, 36, 37, 38, 39, 40, 41, 42, 43, 44, 45, 46, 47, 48, 49, 50, 51, 52, 53, 54, 55, 56, 57, 58, 59, 60, 61, 62, 63, 64, 65, 66, 67, 68, 69, 70, 71, 72, 73, 74, 75, 76, 77]) (N := 78) ⟨rfl, by decide +kernel, rfl, by decide +kernel, rfl, ⟨⟨_, rfl, rfl⟩, ⟨⟨_, rfl, rfl⟩, ⟨⟨_, rfl, rfl⟩, ⟨⟨_, rfl, rfl⟩, ⟨⟨_, rfl, rfl⟩, ⟨⟨_, rfl, rfl⟩, ⟨⟨_, rfl, rfl⟩, ⟨⟨_, rfl, rfl⟩, ⟨⟨_, rfl, rfl⟩, ⟨⟨_, rfl, rfl⟩, ⟨⟨_, rfl, rfl⟩, ⟨⟨_, rfl, rfl⟩, ⟨⟨_, rfl, rfl⟩, ⟨⟨_, rfl, rfl⟩, ⟨⟨_, rfl, rfl⟩, ⟨⟨_, rfl, rfl⟩, ⟨⟨_, rfl, rfl⟩, ⟨⟨_, rfl, rfl⟩, ⟨⟨_, rfl, rfl⟩, ⟨⟨_, rfl, rfl⟩, ⟨⟨_, rfl, rfl⟩, ⟨⟨_, rfl, rfl⟩, ⟨⟨_, rfl, rfl⟩, ⟨⟨_, rfl, rfl⟩, ⟨⟨_, rfl, rfl⟩, ⟨⟨_, rfl, rfl⟩, ⟨⟨_, rfl, rfl⟩, ⟨⟨_, rfl, rfl⟩, ⟨⟨_, rfl, rfl⟩, ⟨⟨_, rfl, rfl⟩, ⟨⟨_, rfl, rfl⟩, ⟨⟨_, rfl, rfl⟩, ⟨⟨_, rfl, rfl⟩, ⟨⟨_, rfl, rfl⟩, ⟨⟨_, rfl, rfl⟩, ⟨⟨_, rfl, rfl⟩, ⟨⟨_, rfl, rfl⟩, ⟨⟨_, rfl, rfl⟩, ⟨⟨_, rfl, rfl⟩, ⟨⟨_, rfl, rfl⟩, ⟨⟨_, rfl, rfl⟩, ⟨⟨_, rfl, rfl⟩, ⟨⟨_, rfl, rfl⟩, ⟨⟨_, rfl, rfl⟩, ⟨⟨_, rfl, rfl⟩, ⟨⟨_, rfl, rfl⟩, ⟨⟨_, rfl, rfl⟩, ⟨⟨_, rfl, rfl⟩, ⟨⟨_, rfl, rfl⟩, ⟨⟨_, rfl, rfl⟩, ⟨⟨_, rfl, rfl⟩, ⟨⟨_, rfl, rfl⟩, ⟨⟨_, rfl, rfl⟩, ⟨⟨_, rfl, rfl⟩, ⟨⟨_, rfl, rfl⟩, ⟨⟨_, rfl, rfl⟩, ⟨⟨_, rfl, rfl⟩, ⟨⟨_, rfl, rfl⟩, ⟨⟨_, rfl, rfl⟩, ⟨⟨_, rfl, rfl⟩, ⟨⟨_, rfl, rfl⟩, ⟨⟨_, rfl, rfl⟩, ⟨⟨_, rfl, rfl⟩, ⟨⟨_, rfl, rfl⟩, ⟨⟨_, rfl, rfl⟩, ⟨⟨_, rfl, rfl⟩, ⟨⟨_, rfl, rfl⟩, ⟨⟨_, rfl, rfl⟩, ⟨⟨_, rfl, rfl⟩, trivial⟩⟩⟩⟩⟩⟩⟩⟩⟩⟩⟩⟩⟩⟩⟩⟩⟩⟩⟩⟩⟩⟩⟩⟩⟩⟩⟩⟩⟩⟩⟩⟩⟩⟩⟩⟩⟩⟩⟩⟩⟩⟩⟩⟩⟩⟩⟩⟩⟩⟩⟩⟩⟩⟩⟩⟩⟩⟩⟩⟩⟩⟩⟩⟩⟩⟩⟩⟩⟩⟩ rfl ?_
            cases h
            exact J_iret (pc := 93) C 15 rfl
          · rw [if_neg c8] at h
            by_cases c10 : x1 = (5 : Int32)
            · rw [if_pos c10] at h
              refine J_tabIn (pc := 1) (tgt := 94) C 1 rfl (by rw [c10]; decide) (by rw [c10]; decide) (by rw [c10]; rfl) rfl ?_
              refine J_aload_n (pc := 94) C 16 rfl 0 rfl rfl ?_
              refine J_get (pc := 95) (v := .ref (aT 0)) C 17 rfl TB_l4 rfl 0 0 rfl (by decide) k195 rfl rfl ?_
              refine J_get (pc := 98) (v := .int (vT 4 0)) C 18 rfl TB_l3 rfl 1 4 rfl (by decide) k264 rfl rfl ?_
              cases h
              exact J_iret (pc := 101) C 19 rfl
            · rw [if_neg c10] at h
              by_cases c11 : x1 = (6 : Int32)
              · rw [if_pos c11] at h
                refine J_tabIn (pc := 1) (tgt := 102) C 1 rfl (by rw [c11]; decide) (by rw [c11]; decide) (by rw [c11]; rfl) rfl ?_
                refine J_aload_n (pc := 102) C 20 rfl 0 rfl rfl ?_
                refine J_get (pc := 103) (v := .ref (aS 0)) C 21 rfl TB_l4 rfl 0 1 rfl (by decide) k197 rfl rfl ?_
                obtain ⟨q12, hq12, h⟩ := bnd h
                refine J_callV (pc := 106) (st2 := []) (st3 := [.int q12]) (ws2 := (wEx aX (aT 0) (aT2 0) (aS 0) (aS2 0) (aP 0) (aH 0) aB aU ++ (wSeat G aT (aS 0) (vT 1) (vT 2) (vT 3) (vT 4 0) (vT 5 0) (vT 6) (vT 7) (vT 8) ++ (wSch G aS (vS 0) (vS 1) (vS 2) (vS 3) (vS 4) (vS 5) (vS 6) (vS 7) (vS 8 0) (vS 9 0) ++ (wPad G aP (vP 0) (vP 1 0) (vP 2) (vP 3) (vP 4) (vP 5 0) (vP 6 0) (vP 7 0) (vP 8 0) (vP 9 0) ++ (wHis G aH hA hV (hZ 1 0))))))) C 22 rfl (c_X2_clashes aS vS hq12) V_X2_clashes k308 i_X2_clashes s_X2_clashes rfl rfl ⟨Nat.le_of_ble_eq_true rfl, Nat.le_of_ble_eq_true rfl⟩ (Nat.le_of_ble_eq_true rfl) ⟨Nat.le_refl _, Nat.le_refl _⟩ 8 2 rfl rfl rfl (isC := [8, 9, 10, 11, 12, 13, 14, 15, 16]) (isR := [0, 1, 2, 3, 4, 5, 6, 7, 17, 18, 19, 20, 21, 22, 23, 24, 25, 26, 27, 28, 29, 30, 31, 32, 33, 34, 35, 36, 37, 38, 39, 40, 41, 42, 43, 44, 45, 46, 47, 48, 49, 50, 51, 52, 53, 54, 55, 56, 57, 58, 59, 60, 61, 62, 63, 64, 65, 66, 67, 68, 69, 70, 71, 72, 73, 74, 75, 76, 77]) (N := 78) ⟨rfl, by decide +kernel, rfl, by decide +kernel, rfl, ⟨⟨_, rfl, rfl⟩, ⟨⟨_, rfl, rfl⟩, ⟨⟨_, rfl, rfl⟩, ⟨⟨_, rfl, rfl⟩, ⟨⟨_, rfl, rfl⟩, ⟨⟨_, rfl, rfl⟩, ⟨⟨_, rfl, rfl⟩, ⟨⟨_, rfl, rfl⟩, ⟨⟨_, rfl, rfl⟩, ⟨⟨_, rfl, rfl⟩, ⟨⟨_, rfl, rfl⟩, ⟨⟨_, rfl, rfl⟩, ⟨⟨_, rfl, rfl⟩, ⟨⟨_, rfl, rfl⟩, ⟨⟨_, rfl, rfl⟩, ⟨⟨_, rfl, rfl⟩, ⟨⟨_, rfl, rfl⟩, ⟨⟨_, rfl, rfl⟩, ⟨⟨_, rfl, rfl⟩, ⟨⟨_, rfl, rfl⟩, ⟨⟨_, rfl, rfl⟩, ⟨⟨_, rfl, rfl⟩, ⟨⟨_, rfl, rfl⟩, ⟨⟨_, rfl, rfl⟩, ⟨⟨_, rfl, rfl⟩, ⟨⟨_, rfl, rfl⟩, ⟨⟨_, rfl, rfl⟩, ⟨⟨_, rfl, rfl⟩, ⟨⟨_, rfl, rfl⟩, ⟨⟨_, rfl, rfl⟩, ⟨⟨_, rfl, rfl⟩, ⟨⟨_, rfl, rfl⟩, ⟨⟨_, rfl, rfl⟩, ⟨⟨_, rfl, rfl⟩, ⟨⟨_, rfl, rfl⟩, ⟨⟨_, rfl, rfl⟩, ⟨⟨_, rfl, rfl⟩, ⟨⟨_, rfl, rfl⟩, ⟨⟨_, rfl, rfl⟩, ⟨⟨_, rfl, rfl⟩, ⟨⟨_, rfl, rfl⟩, ⟨⟨_, rfl, rfl⟩, ⟨⟨_, rfl, rfl⟩, ⟨⟨_, rfl, rfl⟩, ⟨⟨_, rfl, rfl⟩, ⟨⟨_, rfl, rfl⟩, ⟨⟨_, rfl, rfl⟩, ⟨⟨_, rfl, rfl⟩, ⟨⟨_, rfl, rfl⟩, ⟨⟨_, rfl, rfl⟩, ⟨⟨_, rfl, rfl⟩, ⟨⟨_, rfl, rfl⟩, ⟨⟨_, rfl, rfl⟩, ⟨⟨_, rfl, rfl⟩, ⟨⟨_, rfl, rfl⟩, ⟨⟨_, rfl, rfl⟩, ⟨⟨_, rfl, rfl⟩, ⟨⟨_, rfl, rfl⟩, ⟨⟨_, rfl, rfl⟩, ⟨⟨_, rfl, rfl⟩, ⟨⟨_, rfl, rfl⟩, ⟨⟨_, rfl, rfl⟩, ⟨⟨_, rfl, rfl⟩, ⟨⟨_, rfl, rfl⟩, ⟨⟨_, rfl, rfl⟩, ⟨⟨_, rfl, rfl⟩, ⟨⟨_, rfl, rfl⟩, ⟨⟨_, rfl, rfl⟩, ⟨⟨_, rfl, rfl⟩, trivial⟩⟩⟩⟩⟩⟩⟩⟩⟩⟩⟩⟩⟩⟩⟩⟩⟩⟩⟩⟩⟩⟩⟩⟩⟩⟩⟩⟩⟩⟩⟩⟩⟩⟩⟩⟩⟩⟩⟩⟩⟩⟩⟩⟩⟩⟩⟩⟩⟩⟩⟩⟩⟩⟩⟩⟩⟩⟩⟩⟩⟩⟩⟩⟩⟩⟩⟩⟩⟩⟩ rfl ?_
                cases h
                exact J_iret (pc := 109) C 23 rfl
              · rw [if_neg c11] at h
                by_cases c13 : x1 = (7 : Int32)
                · rw [if_pos c13] at h
                  refine J_tabIn (pc := 1) (tgt := 110) C 1 rfl (by rw [c13]; decide) (by rw [c13]; decide) (by rw [c13]; rfl) rfl ?_
                  refine J_aload_n (pc := 110) C 24 rfl 0 rfl rfl ?_
                  refine J_get (pc := 111) (v := .ref (aS 0)) C 25 rfl TB_l4 rfl 0 1 rfl (by decide) k197 rfl rfl ?_
                  refine J_get (pc := 114) (v := .int (vS 9 0)) C 26 rfl TB_l2 rfl 8 9 rfl (by decide) k263 rfl rfl ?_
                  cases h
                  exact J_iret (pc := 117) C 27 rfl
                · rw [if_neg c13] at h
                  by_cases c14 : x1 = (8 : Int32)
                  · rw [if_pos c14] at h
                    refine J_tabIn (pc := 1) (tgt := 118) C 1 rfl (by rw [c14]; decide) (by rw [c14]; decide) (by rw [c14]; rfl) rfl ?_
                    refine J_aload_n (pc := 118) C 28 rfl 0 rfl rfl ?_
                    refine J_get (pc := 119) (v := .ref (aS 0)) C 29 rfl TB_l4 rfl 0 1 rfl (by decide) k197 rfl rfl ?_
                    obtain ⟨q15, hq15, h⟩ := bnd h
                    refine J_callV (pc := 122) (st2 := []) (st3 := [.int q15]) (ws2 := (wEx aX (aT 0) (aT2 0) (aS 0) (aS2 0) (aP 0) (aH 0) aB aU ++ (wSeat G aT (aS 0) (vT 1) (vT 2) (vT 3) (vT 4 0) (vT 5 0) (vT 6) (vT 7) (vT 8) ++ (wSch G aS (vS 0) (vS 1) (vS 2) (vS 3) (vS 4) (vS 5) (vS 6) (vS 7) (vS 8 0) (vS 9 0) ++ (wPad G aP (vP 0) (vP 1 0) (vP 2) (vP 3) (vP 4) (vP 5 0) (vP 6 0) (vP 7 0) (vP 8 0) (vP 9 0) ++ (wHis G aH hA hV (hZ 1 0))))))) C 30 rfl (c_X2_openDesks aS vS hq15) V_X2_openDesks k311 i_X2_openDesks s_X2_openDesks rfl rfl ⟨Nat.le_of_ble_eq_true rfl, Nat.le_of_ble_eq_true rfl⟩ (Nat.le_of_ble_eq_true rfl) ⟨Nat.le_refl _, Nat.le_refl _⟩ 8 2 rfl rfl rfl (isC := [8, 9, 10, 11, 12, 13, 14, 15, 16]) (isR := [0, 1, 2, 3, 4, 5, 6, 7, 17, 18, 19, 20, 21, 22, 23, 24, 25, 26, 27, 28, 29, 30, 31, 32, 33, 34, 35, 36, 37, 38, 39, 40, 41, 42, 43, 44, 45, 46, 47, 48, 49, 50, 51, 52, 53, 54, 55, 56, 57, 58, 59, 60, 61, 62, 63, 64, 65, 66, 67, 68, 69, 70, 71, 72, 73, 74, 75, 76, 77]) (N := 78) ⟨rfl, by decide +kernel, rfl, by decide +kernel, rfl, ⟨⟨_, rfl, rfl⟩, ⟨⟨_, rfl, rfl⟩, ⟨⟨_, rfl, rfl⟩, ⟨⟨_, rfl, rfl⟩, ⟨⟨_, rfl, rfl⟩, ⟨⟨_, rfl, rfl⟩, ⟨⟨_, rfl, rfl⟩, ⟨⟨_, rfl, rfl⟩, ⟨⟨_, rfl, rfl⟩, ⟨⟨_, rfl, rfl⟩, ⟨⟨_, rfl, rfl⟩, ⟨⟨_, rfl, rfl⟩, ⟨⟨_, rfl, rfl⟩, ⟨⟨_, rfl, rfl⟩, ⟨⟨_, rfl, rfl⟩, ⟨⟨_, rfl, rfl⟩, ⟨⟨_, rfl, rfl⟩, ⟨⟨_, rfl, rfl⟩, ⟨⟨_, rfl, rfl⟩, ⟨⟨_, rfl, rfl⟩, ⟨⟨_, rfl, rfl⟩, ⟨⟨_, rfl, rfl⟩, ⟨⟨_, rfl, rfl⟩, ⟨⟨_, rfl, rfl⟩, ⟨⟨_, rfl, rfl⟩, ⟨⟨_, rfl, rfl⟩, ⟨⟨_, rfl, rfl⟩, ⟨⟨_, rfl, rfl⟩, ⟨⟨_, rfl, rfl⟩, ⟨⟨_, rfl, rfl⟩, ⟨⟨_, rfl, rfl⟩, ⟨⟨_, rfl, rfl⟩, ⟨⟨_, rfl, rfl⟩, ⟨⟨_, rfl, rfl⟩, ⟨⟨_, rfl, rfl⟩, ⟨⟨_, rfl, rfl⟩, ⟨⟨_, rfl, rfl⟩, ⟨⟨_, rfl, rfl⟩, ⟨⟨_, rfl, rfl⟩, ⟨⟨_, rfl, rfl⟩, ⟨⟨_, rfl, rfl⟩, ⟨⟨_, rfl, rfl⟩, ⟨⟨_, rfl, rfl⟩, ⟨⟨_, rfl, rfl⟩, ⟨⟨_, rfl, rfl⟩, ⟨⟨_, rfl, rfl⟩, ⟨⟨_, rfl, rfl⟩, ⟨⟨_, rfl, rfl⟩, ⟨⟨_, rfl, rfl⟩, ⟨⟨_, rfl, rfl⟩, ⟨⟨_, rfl, rfl⟩, ⟨⟨_, rfl, rfl⟩, ⟨⟨_, rfl, rfl⟩, ⟨⟨_, rfl, rfl⟩, ⟨⟨_, rfl, rfl⟩, ⟨⟨_, rfl, rfl⟩, ⟨⟨_, rfl, rfl⟩, ⟨⟨_, rfl, rfl⟩, ⟨⟨_, rfl, rfl⟩, ⟨⟨_, rfl, rfl⟩, ⟨⟨_, rfl, rfl⟩, ⟨⟨_, rfl, rfl⟩, ⟨⟨_, rfl, rfl⟩, ⟨⟨_, rfl, rfl⟩, ⟨⟨_, rfl, rfl⟩, ⟨⟨_, rfl, rfl⟩, ⟨⟨_, rfl, rfl⟩, ⟨⟨_, rfl, rfl⟩, ⟨⟨_, rfl, rfl⟩, trivial⟩⟩⟩⟩⟩⟩⟩⟩⟩⟩⟩⟩⟩⟩⟩⟩⟩⟩⟩⟩⟩⟩⟩⟩⟩⟩⟩⟩⟩⟩⟩⟩⟩⟩⟩⟩⟩⟩⟩⟩⟩⟩⟩⟩⟩⟩⟩⟩⟩⟩⟩⟩⟩⟩⟩⟩⟩⟩⟩⟩⟩⟩⟩⟩⟩⟩⟩⟩⟩⟩ rfl ?_
                    cases h
                    exact J_iret (pc := 125) C 31 rfl
                  · rw [if_neg c14] at h
                    by_cases c16 : x1 = (9 : Int32)
                    · rw [if_pos c16] at h
                      refine J_tabIn (pc := 1) (tgt := 126) C 1 rfl (by rw [c16]; decide) (by rw [c16]; decide) (by rw [c16]; rfl) rfl ?_
                      refine J_aload_n (pc := 126) C 32 rfl 0 rfl rfl ?_
                      refine J_get (pc := 127) (v := .ref (aS 0)) C 33 rfl TB_l4 rfl 0 1 rfl (by decide) k197 rfl rfl ?_
                      obtain ⟨q17, hq17, h⟩ := bnd h
                      refine J_callV (pc := 130) (st2 := []) (st3 := [.int q17]) (ws2 := (wEx aX (aT 0) (aT2 0) (aS 0) (aS2 0) (aP 0) (aH 0) aB aU ++ (wSeat G aT (aS 0) (vT 1) (vT 2) (vT 3) (vT 4 0) (vT 5 0) (vT 6) (vT 7) (vT 8) ++ (wSch G aS (vS 0) (vS 1) (vS 2) (vS 3) (vS 4) (vS 5) (vS 6) (vS 7) (vS 8 0) (vS 9 0) ++ (wPad G aP (vP 0) (vP 1 0) (vP 2) (vP 3) (vP 4) (vP 5 0) (vP 6 0) (vP 7 0) (vP 8 0) (vP 9 0) ++ (wHis G aH hA hV (hZ 1 0))))))) C 34 rfl (c_X2_mostReaders aS vS hq17) V_X2_mostReaders k314 i_X2_mostReaders s_X2_mostReaders rfl rfl ⟨Nat.le_of_ble_eq_true rfl, Nat.le_of_ble_eq_true rfl⟩ (Nat.le_of_ble_eq_true rfl) ⟨Nat.le_refl _, Nat.le_refl _⟩ 8 2 rfl rfl rfl (isC := [8, 9, 10, 11, 12, 13, 14, 15, 16]) (isR := [0, 1, 2, 3, 4, 5, 6, 7, 17, 18, 19, 20, 21, 22, 23, 24, 25, 26, 27, 28, 29, 30, 31, 32, 33, 34, 35, 36, 37, 38, 39, 40, 41, 42, 43, 44, 45, 46, 47, 48, 49, 50, 51, 52, 53, 54, 55, 56, 57, 58, 59, 60, 61, 62, 63, 64, 65, 66, 67, 68, 69, 70, 71, 72, 73, 74, 75, 76, 77]) (N := 78) ⟨rfl, by decide +kernel, rfl, by decide +kernel, rfl, ⟨⟨_, rfl, rfl⟩, ⟨⟨_, rfl, rfl⟩, ⟨⟨_, rfl, rfl⟩, ⟨⟨_, rfl, rfl⟩, ⟨⟨_, rfl, rfl⟩, ⟨⟨_, rfl, rfl⟩, ⟨⟨_, rfl, rfl⟩, ⟨⟨_, rfl, rfl⟩, ⟨⟨_, rfl, rfl⟩, ⟨⟨_, rfl, rfl⟩, ⟨⟨_, rfl, rfl⟩, ⟨⟨_, rfl, rfl⟩, ⟨⟨_, rfl, rfl⟩, ⟨⟨_, rfl, rfl⟩, ⟨⟨_, rfl, rfl⟩, ⟨⟨_, rfl, rfl⟩, ⟨⟨_, rfl, rfl⟩, ⟨⟨_, rfl, rfl⟩, ⟨⟨_, rfl, rfl⟩, ⟨⟨_, rfl, rfl⟩, ⟨⟨_, rfl, rfl⟩, ⟨⟨_, rfl, rfl⟩, ⟨⟨_, rfl, rfl⟩, ⟨⟨_, rfl, rfl⟩, ⟨⟨_, rfl, rfl⟩, ⟨⟨_, rfl, rfl⟩, ⟨⟨_, rfl, rfl⟩, ⟨⟨_, rfl, rfl⟩, ⟨⟨_, rfl, rfl⟩, ⟨⟨_, rfl, rfl⟩, ⟨⟨_, rfl, rfl⟩, ⟨⟨_, rfl, rfl⟩, ⟨⟨_, rfl, rfl⟩, ⟨⟨_, rfl, rfl⟩, ⟨⟨_, rfl, rfl⟩, ⟨⟨_, rfl, rfl⟩, ⟨⟨_, rfl, rfl⟩, ⟨⟨_, rfl, rfl⟩, ⟨⟨_, rfl, rfl⟩, ⟨⟨_, rfl, rfl⟩, ⟨⟨_, rfl, rfl⟩, ⟨⟨_, rfl, rfl⟩, ⟨⟨_, rfl, rfl⟩, ⟨⟨_, rfl, rfl⟩, ⟨⟨_, rfl, rfl⟩, ⟨⟨_, rfl, rfl⟩, ⟨⟨_, rfl, rfl⟩, ⟨⟨_, rfl, rfl⟩, ⟨⟨_, rfl, rfl⟩, ⟨⟨_, rfl, rfl⟩, ⟨⟨_, rfl, rfl⟩, ⟨⟨_, rfl, rfl⟩, ⟨⟨_, rfl, rfl⟩, ⟨⟨_, rfl, rfl⟩, ⟨⟨_, rfl, rfl⟩, ⟨⟨_, rfl, rfl⟩, ⟨⟨_, rfl, rfl⟩, ⟨⟨_, rfl, rfl⟩, ⟨⟨_, rfl, rfl⟩, ⟨⟨_, rfl, rfl⟩, ⟨⟨_, rfl, rfl⟩, ⟨⟨_, rfl, rfl⟩, ⟨⟨_, rfl, rfl⟩, ⟨⟨_, rfl, rfl⟩, ⟨⟨_, rfl, rfl⟩, ⟨⟨_, rfl, rfl⟩, ⟨⟨_, rfl, rfl⟩, ⟨⟨_, rfl, rfl⟩, ⟨⟨_, rfl, rfl⟩, trivial⟩⟩⟩⟩⟩⟩⟩⟩⟩⟩⟩⟩⟩⟩⟩⟩⟩⟩⟩⟩⟩⟩⟩⟩⟩⟩⟩⟩⟩⟩⟩⟩⟩⟩⟩⟩⟩⟩⟩⟩⟩⟩⟩⟩⟩⟩⟩⟩⟩⟩⟩⟩⟩⟩⟩⟩⟩⟩⟩⟩⟩⟩⟩⟩⟩⟩⟩⟩⟩⟩ rfl ?_
                      cases h
                      exact J_iret (pc := 133) C 35 rfl
                    · rw [if_neg c16] at h
                      by_cases c18 : x1 = (10 : Int32)
                      · rw [if_pos c18] at h
                        refine J_tabIn (pc := 1) (tgt := 134) C 1 rfl (by rw [c18]; decide) (by rw [c18]; decide) (by rw [c18]; rfl) rfl ?_
                        refine J_aload_n (pc := 134) C 36 rfl 0 rfl rfl ?_
                        refine J_get (pc := 135) (v := .ref (aS 0)) C 37 rfl TB_l4 rfl 0 1 rfl (by decide) k197 rfl rfl ?_
                        obtain ⟨q19, hq19, h⟩ := bnd h
                        refine J_callV (pc := 138) (st2 := []) (st3 := [.int q19]) (ws2 := (wEx aX (aT 0) (aT2 0) (aS 0) (aS2 0) (aP 0) (aH 0) aB aU ++ (wSeat G aT (aS 0) (vT 1) (vT 2) (vT 3) (vT 4 0) (vT 5 0) (vT 6) (vT 7) (vT 8) ++ (wSch G aS (vS 0) (vS 1) (vS 2) (vS 3) (vS 4) (vS 5) (vS 6) (vS 7) (vS 8 0) (vS 9 0) ++ (wPad G aP (vP 0) (vP 1 0) (vP 2) (vP 3) (vP 4) (vP 5 0) (vP 6 0) (vP 7 0) (vP 8 0) (vP 9 0) ++ (wHis G aH hA hV (hZ 1 0))))))) C 38 rfl (c_X2_lastEnd aS vS hq19) V_X2_lastEnd k317 i_X2_lastEnd s_X2_lastEnd rfl rfl ⟨Nat.le_of_ble_eq_true rfl, Nat.le_of_ble_eq_true rfl⟩ (Nat.le_of_ble_eq_true rfl) ⟨Nat.le_refl _, Nat.le_refl _⟩ 8 2 rfl rfl rfl (isC := [8, 9, 10, 11, 12, 13, 14, 15, 16]) (isR := [0, 1, 2, 3, 4, 5, 6, 7, 17, 18, 19, 20, 21, 22, 23, 24, 25, 26, 27, 28, 29, 30, 31, 32, 33, 34, 35, 36, 37, 38, 39, 40, 41, 42, 43, 44, 45, 46, 47, 48, 49, 50, 51, 52, 53, 54, 55, 56, 57, 58, 59, 60, 61, 62, 63, 64, 65, 66, 67, 68, 69, 70, 71, 72, 73, 74, 75, 76, 77]) (N := 78) ⟨rfl, by decide +kernel, rfl, by decide +kernel, rfl, ⟨⟨_, rfl, rfl⟩, ⟨⟨_, rfl, rfl⟩, ⟨⟨_, rfl, rfl⟩, ⟨⟨_, rfl, rfl⟩, ⟨⟨_, rfl, rfl⟩, ⟨⟨_, rfl, rfl⟩, ⟨⟨_, rfl, rfl⟩, ⟨⟨_, rfl, rfl⟩, ⟨⟨_, rfl, rfl⟩, ⟨⟨_, rfl, rfl⟩, ⟨⟨_, rfl, rfl⟩, ⟨⟨_, rfl, rfl⟩, ⟨⟨_, rfl, rfl⟩, ⟨⟨_, rfl, rfl⟩, ⟨⟨_, rfl, rfl⟩, ⟨⟨_, rfl, rfl⟩, ⟨⟨_, rfl, rfl⟩, ⟨⟨_, rfl, rfl⟩, ⟨⟨_, rfl, rfl⟩, ⟨⟨_, rfl, rfl⟩, ⟨⟨_, rfl, rfl⟩, ⟨⟨_, rfl, rfl⟩, ⟨⟨_, rfl, rfl⟩, ⟨⟨_, rfl, rfl⟩, ⟨⟨_, rfl, rfl⟩, ⟨⟨_, rfl, rfl⟩, ⟨⟨_, rfl, rfl⟩, ⟨⟨_, rfl, rfl⟩, ⟨⟨_, rfl, rfl⟩, ⟨⟨_, rfl, rfl⟩, ⟨⟨_, rfl, rfl⟩, ⟨⟨_, rfl, rfl⟩, ⟨⟨_, rfl, rfl⟩, ⟨⟨_, rfl, rfl⟩, ⟨⟨_, rfl, rfl⟩, ⟨⟨_, rfl, rfl⟩, ⟨⟨_, rfl, rfl⟩, ⟨⟨_, rfl, rfl⟩, ⟨⟨_, rfl, rfl⟩, ⟨⟨_, rfl, rfl⟩, ⟨⟨_, rfl, rfl⟩, ⟨⟨_, rfl, rfl⟩, ⟨⟨_, rfl, rfl⟩, ⟨⟨_, rfl, rfl⟩, ⟨⟨_, rfl, rfl⟩, ⟨⟨_, rfl, rfl⟩, ⟨⟨_, rfl, rfl⟩, ⟨⟨_, rfl, rfl⟩, ⟨⟨_, rfl, rfl⟩, ⟨⟨_, rfl, rfl⟩, ⟨⟨_, rfl, rfl⟩, ⟨⟨_, rfl, rfl⟩, ⟨⟨_, rfl, rfl⟩, ⟨⟨_, rfl, rfl⟩, ⟨⟨_, rfl, rfl⟩, ⟨⟨_, rfl, rfl⟩, ⟨⟨_, rfl, rfl⟩, ⟨⟨_, rfl, rfl⟩, ⟨⟨_, rfl, rfl⟩, ⟨⟨_, rfl, rfl⟩, ⟨⟨_, rfl, rfl⟩, ⟨⟨_, rfl, rfl⟩, ⟨⟨_, rfl, rfl⟩, ⟨⟨_, rfl, rfl⟩, ⟨⟨_, rfl, rfl⟩, ⟨⟨_, rfl, rfl⟩, ⟨⟨_, rfl, rfl⟩, ⟨⟨_, rfl, rfl⟩, ⟨⟨_, rfl, rfl⟩, trivial⟩⟩⟩⟩⟩⟩⟩⟩⟩⟩⟩⟩⟩⟩⟩⟩⟩⟩⟩⟩⟩⟩⟩⟩⟩⟩⟩⟩⟩⟩⟩⟩⟩⟩⟩⟩⟩⟩⟩⟩⟩⟩⟩⟩⟩⟩⟩⟩⟩⟩⟩⟩⟩⟩⟩⟩⟩⟩⟩⟩⟩⟩⟩⟩⟩⟩⟩⟩⟩⟩ rfl ?_
                        cases h
                        exact J_iret (pc := 141) C 39 rfl
                      · rw [if_neg c18] at h
                        by_cases c20 : x1 = (11 : Int32)
                        · rw [if_pos c20] at h
                          refine J_tabIn (pc := 1) (tgt := 142) C 1 rfl (by rw [c20]; decide) (by rw [c20]; decide) (by rw [c20]; rfl) rfl ?_
                          refine J_aload_n (pc := 142) C 40 rfl 0 rfl rfl ?_
                          refine J_get (pc := 143) (v := .ref (aP 0)) C 41 rfl TB_l4 rfl 0 4 rfl (by decide) k203 rfl rfl ?_
                          refine J_get (pc := 146) (v := .int (vP 1 0)) C 42 rfl TB_l1 rfl 17 1 rfl (by decide) k303 rfl rfl ?_
                          cases h
                          exact J_iret (pc := 149) C 43 rfl
                        · rw [if_neg c20] at h
                          by_cases c21 : x1 = (12 : Int32)
                          · rw [if_pos c21] at h
                            refine J_tabIn (pc := 1) (tgt := 150) C 1 rfl (by rw [c21]; decide) (by rw [c21]; decide) (by rw [c21]; rfl) rfl ?_
                            refine J_aload_n (pc := 150) C 44 rfl 0 rfl rfl ?_
                            refine J_get (pc := 151) (v := .ref (aH 0)) C 45 rfl TB_l4 rfl 0 5 rfl (by decide) k206 rfl rfl ?_
                            refine J_get (pc := 154) (v := .int (hZ 1 0)) C 46 rfl TB_l0 rfl 22 1 rfl (by decide) k304 rfl rfl ?_
                            cases h
                            exact J_iret (pc := 157) C 47 rfl
                          · rw [if_neg c21] at h
                            have ec1 := lv_neT (a := 0) c1 rfl
                            have ec3 := lv_neT (a := 1) c3 rfl
                            have ec5 := lv_neT (a := 2) c5 rfl
                            have ec7 := lv_neT (a := 3) c7 rfl
                            have ec8 := lv_neT (a := 4) c8 rfl
                            have ec10 := lv_neT (a := 5) c10 rfl
                            have ec11 := lv_neT (a := 6) c11 rfl
                            have ec13 := lv_neT (a := 7) c13 rfl
                            have ec14 := lv_neT (a := 8) c14 rfl
                            have ec16 := lv_neT (a := 9) c16 rfl
                            have ec18 := lv_neT (a := 10) c18 rfl
                            have ec20 := lv_neT (a := 11) c20 rfl
                            have ec21 := lv_neT (a := 12) c21 rfl
                            refine J_tabOut (pc := 1) (tgt := 158) C 1 rfl (by omega) rfl ?_
                            refine J_bipush (pc := 158) (v := (-2 : Int32)) C 48 rfl rfl ?_
                            cases h
                            exact J_iret (pc := 160) C 49 rfl
def T_X4_at : List (Nat × ClassFile.Instr × Nat) := [(0, .iload_n 1, 1), (1, .invokestatic 132, 3), (4, .ifCond .eq 21, 3), (7, .iload_n 2, 1), (8, .iconst 0, 1), (9, .aload_n 0, 1), (10, .getfield 20, 3), (13, .iload_n 1, 1), (14, .invokevirtual 135, 3), (17, .iconst 1, 1), (18, .isub, 1), (19, .invokestatic 55, 3), (22, .ifCond .ne 5, 3), (25, .iconst (-1), 1), (26, .ireturn, 1), (27, .iload_n 3, 1), (28, .ifCond .ge 6, 3), (31, .bipush (-2), 2), (33, .ireturn, 1), (34, .aload_n 0, 1), (35, .getfield 12, 3), (38, .iload_n 1, 1), (39, .iload_n 2, 1), (40, .iload_n 3, 1), (41, .invokevirtual 226, 3), (44, .ireturn, 1)]
theorem D_X4_at : ∀ q ∈ T_X4_at, decode cX4_at q.1 = .ok q.2 := by decide +kernel
theorem V_X4_at : Vy yX4_at cX4_at 4 (some .int) 3 := ⟨k324, k56, by decide +kernel⟩
theorem i_X4_at : Cond.instanceMethod yX4_at ∈ TB := k357
theorem s_X4_at : Cond.selects yX4_at.cls yX4_at yX4_at ∈ TB := k358
noncomputable def f_X4_at (vT : JV) (vS : JV) (x1 : Int32) (x2 : Int32) (x3 : Int32) : Option (Int32) :=
  (f_X4_isHall x1).bind (fun q1 => (if q1 = 0 then some (-1 : Int32) else (f_X2_desksOf vS x1).bind (fun q3 => (f_X4_isWithin x2 (0 : Int32) (q3 - (1 : Int32))).bind (fun q4 => (if q4 = 0 then some (-1 : Int32) else (if 0 ≤ x3 then (f_X3_sittingAt vT vS x1 x2 x3).bind (fun q7 => some q7) else some (-2 : Int32)))))))
set_option maxRecDepth 100000 in
set_option maxHeartbeats 4000000 in
theorem c_X4_at {l : Launch} {G : JG} (aX : Nat) (aT : Nat → Nat) (aS : Nat → Nat) (aT2 : Nat → Nat) (aS2 : Nat → Nat) (aP : Nat → Nat) (aH : Nat → Nat) (aB : Nat) (aU : Nat) (vT : JV) (vS : JV) (x1 : Int32) (x2 : Int32) (x3 : Int32) {Rz : Int32} (h : f_X4_at vT vS x1 x2 x3 = some Rz) : JM l G yX4_at cX4_at 4 (some .int) 5 113 [.ref aX, .int x1, .int x2, .int x3] (wEx aX (aT 0) (aT2 0) (aS 0) (aS2 0) (aP 0) (aH 0) aB aU ++ (wSeat G aT (aS 0) (vT 1) (vT 2) (vT 3) (vT 4 0) (vT 5 0) (vT 6) (vT 7) (vT 8) ++ (wSch G aS (vS 0) (vS 1) (vS 2) (vS 3) (vS 4) (vS 5) (vS 6) (vS 7) (vS 8 0) (vS 9 0)))) (wEx aX (aT 0) (aT2 0) (aS 0) (aS2 0) (aP 0) (aH 0) aB aU ++ (wSeat G aT (aS 0) (vT 1) (vT 2) (vT 3) (vT 4 0) (vT 5 0) (vT 6) (vT 7) (vT 8) ++ (wSch G aS (vS 0) (vS 1) (vS 2) (vS 3) (vS 4) (vS 5) (vS 6) (vS 7) (vS 8 0) (vS 9 0)))) (some (.int Rz)) := by
  refine JM.of (own := RX4) (tb := T_X4_at) (by decide) (Nat.le_of_ble_eq_true rfl) D_X4_at rfl (fun X C => ?_)
  refine J_sub (lv' := [(0, .ref aX), (1, .int x1), (2, .int x2), (3, .int x3)]) [0, 1, 2, 3] rfl ?_
  unfold f_X4_at at h
  refine J_iload_n (pc := 0) C 0 rfl 1 rfl rfl ?_
  obtain ⟨q1, hq1, h⟩ := bnd h
  refine J_callS (pc := 1) (st2 := []) (st3 := [.int q1]) (ws2 := (wEx aX (aT 0) (aT2 0) (aS 0) (aS2 0) (aP 0) (aH 0) aB aU ++ (wSeat G aT (aS 0) (vT 1) (vT 2) (vT 3) (vT 4 0) (vT 5 0) (vT 6) (vT 7) (vT 8) ++ (wSch G aS (vS 0) (vS 1) (vS 2) (vS 3) (vS 4) (vS 5) (vS 6) (vS 7) (vS 8 0) (vS 9 0))))) C 1 rfl (c_X4_isHall x1 hq1) V_X4_isHall k259 t_X4_isHall rfl rfl ⟨Nat.le_of_ble_eq_true rfl, Nat.le_of_ble_eq_true rfl⟩ (Nat.le_of_ble_eq_true rfl) ⟨Nat.le_refl _, Nat.le_refl _⟩ (isC := []) (isR := [0, 1, 2, 3, 4, 5, 6, 7, 8, 9, 10, 11, 12, 13, 14, 15, 16]) (N := 17) ⟨rfl, by decide +kernel, rfl, by decide +kernel, rfl, ⟨⟨_, rfl, rfl⟩, ⟨⟨_, rfl, rfl⟩, ⟨⟨_, rfl, rfl⟩, ⟨⟨_, rfl, rfl⟩, ⟨⟨_, rfl, rfl⟩, ⟨⟨_, rfl, rfl⟩, ⟨⟨_, rfl, rfl⟩, ⟨⟨_, rfl, rfl⟩, ⟨⟨_, rfl, rfl⟩, ⟨⟨_, rfl, rfl⟩, ⟨⟨_, rfl, rfl⟩, ⟨⟨_, rfl, rfl⟩, ⟨⟨_, rfl, rfl⟩, ⟨⟨_, rfl, rfl⟩, ⟨⟨_, rfl, rfl⟩, ⟨⟨_, rfl, rfl⟩, ⟨⟨_, rfl, rfl⟩, trivial⟩⟩⟩⟩⟩⟩⟩⟩⟩⟩⟩⟩⟩⟩⟩⟩⟩⟩ rfl ?_
  refine J_if_eq (pc := 4) (tgt := 25) C 2 rfl rfl (fun c2 => ?_) (fun c2 => ?_)
  · rw [if_pos c2] at h
    refine J_iconst (pc := 25) (v := (-1 : Int32)) C 13 rfl rfl ?_
    cases h
    exact J_iret (pc := 26) C 14 rfl
  · rw [if_neg c2] at h
    refine J_iload_n (pc := 7) C 3 rfl 2 rfl rfl ?_
    refine J_iconst (pc := 8) (v := (0 : Int32)) C 4 rfl rfl ?_
    refine J_aload_n (pc := 9) C 5 rfl 0 rfl rfl ?_
    refine J_get (pc := 10) (v := .ref (aS 0)) C 6 rfl TB_l4 rfl 0 1 rfl (by decide) k197 rfl rfl ?_
    refine J_iload_n (pc := 13) C 7 rfl 1 rfl rfl ?_
    obtain ⟨q3, hq3, h⟩ := bnd h
    refine J_callV (pc := 14) (st2 := [.int (0 : Int32), .int x2]) (st3 := [.int q3, .int (0 : Int32), .int x2]) (ws2 := (wEx aX (aT 0) (aT2 0) (aS 0) (aS2 0) (aP 0) (aH 0) aB aU ++ (wSeat G aT (aS 0) (vT 1) (vT 2) (vT 3) (vT 4 0) (vT 5 0) (vT 6) (vT 7) (vT 8) ++ (wSch G aS (vS 0) (vS 1) (vS 2) (vS 3) (vS 4) (vS 5) (vS 6) (vS 7) (vS 8 0) (vS 9 0))))) C 8 rfl (c_X2_desksOf aS vS x1 hq3) V_X2_desksOf k261 i_X2_desksOf s_X2_desksOf rfl rfl ⟨Nat.le_of_ble_eq_true rfl, Nat.le_of_ble_eq_true rfl⟩ (Nat.le_of_ble_eq_true rfl) ⟨Nat.le_refl _, Nat.le_refl _⟩ 8 2 rfl rfl rfl (isC := [8, 9, 10, 11, 12, 13, 14, 15, 16]) (isR := [0, 1, 2, 3, 4, 5, 6, 7]) (N := 17) ⟨rfl, by decide +kernel, rfl, by decide +kernel, rfl, ⟨⟨_, rfl, rfl⟩, ⟨⟨_, rfl, rfl⟩, ⟨⟨_, rfl, rfl⟩, ⟨⟨_, rfl, rfl⟩, ⟨⟨_, rfl, rfl⟩, ⟨⟨_, rfl, rfl⟩, ⟨⟨_, rfl, rfl⟩, ⟨⟨_, rfl, rfl⟩, trivial⟩⟩⟩⟩⟩⟩⟩⟩⟩ rfl ?_
    refine J_iconst (pc := 17) (v := (1 : Int32)) C 9 rfl rfl ?_
    refine J_isub (pc := 18) C 10 rfl  ?_
    obtain ⟨q4, hq4, h⟩ := bnd h
    refine J_callS (pc := 19) (st2 := []) (st3 := [.int q4]) (ws2 := (wEx aX (aT 0) (aT2 0) (aS 0) (aS2 0) (aP 0) (aH 0) aB aU ++ (wSeat G aT (aS 0) (vT 1) (vT 2) (vT 3) (vT 4 0) (vT 5 0) (vT 6) (vT 7) (vT 8) ++ (wSch G aS (vS 0) (vS 1) (vS 2) (vS 3) (vS 4) (vS 5) (vS 6) (vS 7) (vS 8 0) (vS 9 0))))) C 11 rfl (c_X4_isWithin x2 (0 : Int32) (q3 - (1 : Int32)) hq4) V_X4_isWithin k221 t_X4_isWithin rfl rfl ⟨Nat.le_of_ble_eq_true rfl, Nat.le_of_ble_eq_true rfl⟩ (Nat.le_of_ble_eq_true rfl) ⟨Nat.le_refl _, Nat.le_refl _⟩ (isC := []) (isR := [0, 1, 2, 3, 4, 5, 6, 7, 8, 9, 10, 11, 12, 13, 14, 15, 16]) (N := 17) ⟨rfl, by decide +kernel, rfl, by decide +kernel, rfl, ⟨⟨_, rfl, rfl⟩, ⟨⟨_, rfl, rfl⟩, ⟨⟨_, rfl, rfl⟩, ⟨⟨_, rfl, rfl⟩, ⟨⟨_, rfl, rfl⟩, ⟨⟨_, rfl, rfl⟩, ⟨⟨_, rfl, rfl⟩, ⟨⟨_, rfl, rfl⟩, ⟨⟨_, rfl, rfl⟩, ⟨⟨_, rfl, rfl⟩, ⟨⟨_, rfl, rfl⟩, ⟨⟨_, rfl, rfl⟩, ⟨⟨_, rfl, rfl⟩, ⟨⟨_, rfl, rfl⟩, ⟨⟨_, rfl, rfl⟩, ⟨⟨_, rfl, rfl⟩, ⟨⟨_, rfl, rfl⟩, trivial⟩⟩⟩⟩⟩⟩⟩⟩⟩⟩⟩⟩⟩⟩⟩⟩⟩⟩ rfl ?_
    refine J_if_ne (pc := 22) (tgt := 27) C 12 rfl rfl (fun c5 => ?_) (fun c5 => ?_)
    · rw [if_neg c5] at h
      refine J_iload_n (pc := 27) C 15 rfl 3 rfl rfl ?_
      refine J_if_ge (pc := 28) (tgt := 34) C 16 rfl rfl (fun c6 => ?_) (fun c6 => ?_)
      · rw [if_pos c6] at h
        refine J_aload_n (pc := 34) C 19 rfl 0 rfl rfl ?_
        refine J_get (pc := 35) (v := .ref (aT 0)) C 20 rfl TB_l4 rfl 0 0 rfl (by decide) k195 rfl rfl ?_
        refine J_iload_n (pc := 38) C 21 rfl 1 rfl rfl ?_
        refine J_iload_n (pc := 39) C 22 rfl 2 rfl rfl ?_
        refine J_iload_n (pc := 40) C 23 rfl 3 rfl rfl ?_
        obtain ⟨q7, hq7, h⟩ := bnd h
        refine J_callV (pc := 41) (st2 := []) (st3 := [.int q7]) (ws2 := (wEx aX (aT 0) (aT2 0) (aS 0) (aS2 0) (aP 0) (aH 0) aB aU ++ (wSeat G aT (aS 0) (vT 1) (vT 2) (vT 3) (vT 4 0) (vT 5 0) (vT 6) (vT 7) (vT 8) ++ (wSch G aS (vS 0) (vS 1) (vS 2) (vS 3) (vS 4) (vS 5) (vS 6) (vS 7) (vS 8 0) (vS 9 0))))) C 24 rfl (c_X3_sittingAt aT aS vT vS x1 x2 x3 hq7) V_X3_sittingAt k321 i_X3_sittingAt s_X3_sittingAt rfl rfl ⟨Nat.le_of_ble_eq_true rfl, Nat.le_of_ble_eq_true rfl⟩ (Nat.le_of_ble_eq_true rfl) ⟨Nat.le_refl _, Nat.le_refl _⟩ 1 3 rfl rfl rfl (isC := [1, 2, 3, 4, 5, 6, 7, 8, 9, 10, 11, 12, 13, 14, 15, 16]) (isR := [0]) (N := 17) ⟨rfl, by decide +kernel, rfl, by decide +kernel, rfl, ⟨⟨_, rfl, rfl⟩, trivial⟩⟩ rfl ?_
        cases h
        exact J_iret (pc := 44) C 25 rfl
      · rw [if_neg c6] at h
        refine J_bipush (pc := 31) (v := (-2 : Int32)) C 17 rfl rfl ?_
        cases h
        exact J_iret (pc := 33) C 18 rfl
    · rw [if_pos c5] at h
      refine J_iconst (pc := 25) (v := (-1 : Int32)) C 13 rfl rfl ?_
      cases h
      exact J_iret (pc := 26) C 14 rfl
def T_X4_ifStart : List (Nat × ClassFile.Instr × Nat) := [(0, .iload_n 1, 1), (1, .invokestatic 70, 3), (4, .ifCond .ne 5, 3), (7, .iconst (-1), 1), (8, .ireturn, 1), (9, .iload_n 2, 1), (10, .invokestatic 74, 3), (13, .ifCond .eq 12, 3), (16, .iload_n 3, 1), (17, .iconst 0, 1), (18, .iconst 2, 1), (19, .invokestatic 55, 3), (22, .ifCond .ne 6, 3), (25, .bipush (-2), 2), (27, .ireturn, 1), (28, .aload_n 0, 1), (29, .getfield 24, 3), (32, .aload_n 0, 1), (33, .getfield 20, 3), (36, .invokevirtual 230, 3), (39, .aload_n 0, 1), (40, .getfield 24, 3), (43, .getfield 77, 3), (46, .iload_n 1, 1), (47, .iload_n 2, 1), (48, .iastore, 1), (49, .iload_n 3, 1), (50, .lookupswitch 49 #[(0, 26), (1, 34)], 26), (76, .aload_n 0, 1), (77, .getfield 24, 3), (80, .invokevirtual 211, 3), (83, .ireturn, 1), (84, .aload_n 0, 1), (85, .getfield 21, 3), (88, .invokevirtual 52, 3), (91, .aload_n 0, 1), (92, .getfield 21, 3), (95, .getfield 150, 3), (98, .ireturn, 1), (99, .aload_n 0, 1), (100, .getfield 24, 3), (103, .invokevirtual 220, 3), (106, .ireturn, 1)]
theorem D_X4_ifStart : ∀ q ∈ T_X4_ifStart, decode cX4_ifStart q.1 = .ok q.2 := by decide +kernel
theorem V_X4_ifStart : Vy yX4_ifStart cX4_ifStart 4 (some .int) 3 := ⟨k326, k56, by decide +kernel⟩
theorem i_X4_ifStart : Cond.instanceMethod yX4_ifStart ∈ TB := k387
theorem s_X4_ifStart : Cond.selects yX4_ifStart.cls yX4_ifStart yX4_ifStart ∈ TB := k388
noncomputable def f_X4_ifStart (vS : JV) (vT2 : JV) (vS2 : JV) (x1 : Int32) (x2 : Int32) (x3 : Int32) : Option (Int32 × JV × JV) :=
  (f_X4_isPaper x1).bind (fun q1 => (if q1 = 0 then some ((-1 : Int32), vT2, vS2) else (f_X4_isStart x2).bind (fun q3 => (if q3 = 0 then some ((-2 : Int32), vT2, vS2) else (f_X4_isWithin x3 (0 : Int32) (2 : Int32)).bind (fun q5 => (if q5 = 0 then some ((-2 : Int32), vT2, vS2) else (f_X2_copyFrom vS2 vS).bind (fun q7 => gd (inb x1 6) ((if x3 = (0 : Int32) then (f_X2_clashes (up2 q7 1 (Int32.toNatClampNeg x1) x2)).bind (fun q10 => some (q10, vT2, (up2 q7 1 (Int32.toNatClampNeg x1) x2))) else (if x3 = (1 : Int32) then (f_X3_seatAll vT2 (up2 q7 1 (Int32.toNatClampNeg x1) x2)).bind (fun q12 => some ((q12 4 0), q12, (up2 q7 1 (Int32.toNatClampNeg x1) x2))) else (f_X2_lastEnd (up2 q7 1 (Int32.toNatClampNeg x1) x2)).bind (fun q13 => some (q13, vT2, (up2 q7 1 (Int32.toNatClampNeg x1) x2)))))))))))))
set_option maxRecDepth 100000 in
set_option maxHeartbeats 4000000 in
theorem c_X4_ifStart {l : Launch} {G : JG} (aX : Nat) (aT : Nat → Nat) (aS : Nat → Nat) (aT2 : Nat → Nat) (aS2 : Nat → Nat) (aP : Nat → Nat) (aH : Nat → Nat) (aB : Nat) (aU : Nat) (vS : JV) (vT2 : JV) (vS2 : JV) (x1 : Int32) (x2 : Int32) (x3 : Int32) {Rz : Int32 × JV × JV} (h : f_X4_ifStart vS vT2 vS2 x1 x2 x3 = some Rz) : JM l G yX4_ifStart cX4_ifStart 4 (some .int) 6 141 [.ref aX, .int x1, .int x2, .int x3] (wEx aX (aT 0) (aT2 0) (aS 0) (aS2 0) (aP 0) (aH 0) aB aU ++ (wSch G aS (vS 0) (vS 1) (vS 2) (vS 3) (vS 4) (vS 5) (vS 6) (vS 7) (vS 8 0) (vS 9 0) ++ (wSeat G aT2 (aS2 0) (vT2 1) (vT2 2) (vT2 3) (vT2 4 0) (vT2 5 0) (vT2 6) (vT2 7) (vT2 8) ++ (wSch G aS2 (vS2 0) (vS2 1) (vS2 2) (vS2 3) (vS2 4) (vS2 5) (vS2 6) (vS2 7) (vS2 8 0) (vS2 9 0))))) (wEx aX (aT 0) (aT2 0) (aS 0) (aS2 0) (aP 0) (aH 0) aB aU ++ (wSch G aS (vS 0) (vS 1) (vS 2) (vS 3) (vS 4) (vS 5) (vS 6) (vS 7) (vS 8 0) (vS 9 0) ++ (wSeat G aT2 (aS2 0) ((Rz.2.1) 1) ((Rz.2.1) 2) ((Rz.2.1) 3) ((Rz.2.1) 4 0) ((Rz.2.1) 5 0) ((Rz.2.1) 6) ((Rz.2.1) 7) ((Rz.2.1) 8) ++ (wSch G aS2 ((Rz.2.2) 0) ((Rz.2.2) 1) ((Rz.2.2) 2) ((Rz.2.2) 3) ((Rz.2.2) 4) ((Rz.2.2) 5) ((Rz.2.2) 6) ((Rz.2.2) 7) ((Rz.2.2) 8 0) ((Rz.2.2) 9 0))))) (some (.int (Rz.1))) := by
  refine JM.of (own := RX4) (tb := T_X4_ifStart) (by decide) (Nat.le_of_ble_eq_true rfl) D_X4_ifStart rfl (fun X C => ?_)
  refine J_sub (lv' := [(0, .ref aX), (1, .int x1), (2, .int x2), (3, .int x3)]) [0, 1, 2, 3] rfl ?_
  unfold f_X4_ifStart at h
  refine J_iload_n (pc := 0) C 0 rfl 1 rfl rfl ?_
  obtain ⟨q1, hq1, h⟩ := bnd h
  refine J_callS (pc := 1) (st2 := []) (st3 := [.int q1]) (ws2 := (wEx aX (aT 0) (aT2 0) (aS 0) (aS2 0) (aP 0) (aH 0) aB aU ++ (wSch G aS (vS 0) (vS 1) (vS 2) (vS 3) (vS 4) (vS 5) (vS 6) (vS 7) (vS 8 0) (vS 9 0) ++ (wSeat G aT2 (aS2 0) (vT2 1) (vT2 2) (vT2 3) (vT2 4 0) (vT2 5 0) (vT2 6) (vT2 7) (vT2 8) ++ (wSch G aS2 (vS2 0) (vS2 1) (vS2 2) (vS2 3) (vS2 4) (vS2 5) (vS2 6) (vS2 7) (vS2 8 0) (vS2 9 0)))))) C 1 rfl (c_X4_isPaper x1 hq1) V_X4_isPaper k231 t_X4_isPaper rfl rfl ⟨Nat.le_of_ble_eq_true rfl, Nat.le_of_ble_eq_true rfl⟩ (Nat.le_of_ble_eq_true rfl) ⟨Nat.le_refl _, Nat.le_refl _⟩ (isC := []) (isR := [0, 1, 2, 3, 4, 5, 6, 7, 8, 9, 10, 11, 12, 13, 14, 15, 16, 17, 18, 19, 20, 21, 22, 23, 24, 25]) (N := 26) ⟨rfl, by decide +kernel, rfl, by decide +kernel, rfl, ⟨⟨_, rfl, rfl⟩, ⟨⟨_, rfl, rfl⟩, ⟨⟨_, rfl, rfl⟩, ⟨⟨_, rfl, rfl⟩, ⟨⟨_, rfl, rfl⟩, ⟨⟨_, rfl, rfl⟩, ⟨⟨_, rfl, rfl⟩, ⟨⟨_, rfl, rfl⟩, ⟨⟨_, rfl, rfl⟩, ⟨⟨_, rfl, rfl⟩, ⟨⟨_, rfl, rfl⟩, ⟨⟨_, rfl, rfl⟩, ⟨⟨_, rfl, rfl⟩, ⟨⟨_, rfl, rfl⟩, ⟨⟨_, rfl, rfl⟩, ⟨⟨_, rfl, rfl⟩, ⟨⟨_, rfl, rfl⟩, ⟨⟨_, rfl, rfl⟩, ⟨⟨_, rfl, rfl⟩, ⟨⟨_, rfl, rfl⟩, ⟨⟨_, rfl, rfl⟩, ⟨⟨_, rfl, rfl⟩, ⟨⟨_, rfl, rfl⟩, ⟨⟨_, rfl, rfl⟩, ⟨⟨_, rfl, rfl⟩, ⟨⟨_, rfl, rfl⟩, trivial⟩⟩⟩⟩⟩⟩⟩⟩⟩⟩⟩⟩⟩⟩⟩⟩⟩⟩⟩⟩⟩⟩⟩⟩⟩⟩⟩ rfl ?_
  refine J_if_ne (pc := 4) (tgt := 9) C 2 rfl rfl (fun c2 => ?_) (fun c2 => ?_)
  · rw [if_neg c2] at h
    refine J_iload_n (pc := 9) C 5 rfl 2 rfl rfl ?_
    obtain ⟨q3, hq3, h⟩ := bnd h
    refine J_callS (pc := 10) (st2 := []) (st3 := [.int q3]) (ws2 := (wEx aX (aT 0) (aT2 0) (aS 0) (aS2 0) (aP 0) (aH 0) aB aU ++ (wSch G aS (vS 0) (vS 1) (vS 2) (vS 3) (vS 4) (vS 5) (vS 6) (vS 7) (vS 8 0) (vS 9 0) ++ (wSeat G aT2 (aS2 0) (vT2 1) (vT2 2) (vT2 3) (vT2 4 0) (vT2 5 0) (vT2 6) (vT2 7) (vT2 8) ++ (wSch G aS2 (vS2 0) (vS2 1) (vS2 2) (vS2 3) (vS2 4) (vS2 5) (vS2 6) (vS2 7) (vS2 8 0) (vS2 9 0)))))) C 6 rfl (c_X4_isStart x2 hq3) V_X4_isStart k233 t_X4_isStart rfl rfl ⟨Nat.le_of_ble_eq_true rfl, Nat.le_of_ble_eq_true rfl⟩ (Nat.le_of_ble_eq_true rfl) ⟨Nat.le_refl _, Nat.le_refl _⟩ (isC := []) (isR := [0, 1, 2, 3, 4, 5, 6, 7, 8, 9, 10, 11, 12, 13, 14, 15, 16, 17, 18, 19, 20, 21, 22, 23, 24, 25]) (N := 26) ⟨rfl, by decide +kernel, rfl, by decide +kernel, rfl, ⟨⟨_, rfl, rfl⟩, ⟨⟨_, rfl, rfl⟩, ⟨⟨_, rfl, rfl⟩, ⟨⟨_, rfl, rfl⟩, ⟨⟨_, rfl, rfl⟩, ⟨⟨_, rfl, rfl⟩, ⟨⟨_, rfl, rfl⟩, ⟨⟨_, rfl, rfl⟩, ⟨⟨_, rfl, rfl⟩, ⟨⟨_, rfl, rfl⟩, ⟨⟨_, rfl, rfl⟩, ⟨⟨_, rfl, rfl⟩, ⟨⟨_, rfl, rfl⟩, ⟨⟨_, rfl, rfl⟩, ⟨⟨_, rfl, rfl⟩, ⟨⟨_, rfl, rfl⟩, ⟨⟨_, rfl, rfl⟩, ⟨⟨_, rfl, rfl⟩, ⟨⟨_, rfl, rfl⟩, ⟨⟨_, rfl, rfl⟩, ⟨⟨_, rfl, rfl⟩, ⟨⟨_, rfl, rfl⟩, ⟨⟨_, rfl, rfl⟩, ⟨⟨_, rfl, rfl⟩, ⟨⟨_, rfl, rfl⟩, ⟨⟨_, rfl, rfl⟩, trivial⟩⟩⟩⟩⟩⟩⟩⟩⟩⟩⟩⟩⟩⟩⟩⟩⟩⟩⟩⟩⟩⟩⟩⟩⟩⟩⟩ rfl ?_
    refine J_if_eq (pc := 13) (tgt := 25) C 7 rfl rfl (fun c4 => ?_) (fun c4 => ?_)
    · rw [if_pos c4] at h
      refine J_bipush (pc := 25) (v := (-2 : Int32)) C 13 rfl rfl ?_
      cases h
      exact J_iret (pc := 27) C 14 rfl
    · rw [if_neg c4] at h
      refine J_iload_n (pc := 16) C 8 rfl 3 rfl rfl ?_
      refine J_iconst (pc := 17) (v := (0 : Int32)) C 9 rfl rfl ?_
      refine J_iconst (pc := 18) (v := (2 : Int32)) C 10 rfl rfl ?_
      obtain ⟨q5, hq5, h⟩ := bnd h
      refine J_callS (pc := 19) (st2 := []) (st3 := [.int q5]) (ws2 := (wEx aX (aT 0) (aT2 0) (aS 0) (aS2 0) (aP 0) (aH 0) aB aU ++ (wSch G aS (vS 0) (vS 1) (vS 2) (vS 3) (vS 4) (vS 5) (vS 6) (vS 7) (vS 8 0) (vS 9 0) ++ (wSeat G aT2 (aS2 0) (vT2 1) (vT2 2) (vT2 3) (vT2 4 0) (vT2 5 0) (vT2 6) (vT2 7) (vT2 8) ++ (wSch G aS2 (vS2 0) (vS2 1) (vS2 2) (vS2 3) (vS2 4) (vS2 5) (vS2 6) (vS2 7) (vS2 8 0) (vS2 9 0)))))) C 11 rfl (c_X4_isWithin x3 (0 : Int32) (2 : Int32) hq5) V_X4_isWithin k221 t_X4_isWithin rfl rfl ⟨Nat.le_of_ble_eq_true rfl, Nat.le_of_ble_eq_true rfl⟩ (Nat.le_of_ble_eq_true rfl) ⟨Nat.le_refl _, Nat.le_refl _⟩ (isC := []) (isR := [0, 1, 2, 3, 4, 5, 6, 7, 8, 9, 10, 11, 12, 13, 14, 15, 16, 17, 18, 19, 20, 21, 22, 23, 24, 25]) (N := 26) ⟨rfl, by decide +kernel, rfl, by decide +kernel, rfl, ⟨⟨_, rfl, rfl⟩, ⟨⟨_, rfl, rfl⟩, ⟨⟨_, rfl, rfl⟩, ⟨⟨_, rfl, rfl⟩, ⟨⟨_, rfl, rfl⟩, ⟨⟨_, rfl, rfl⟩, ⟨⟨_, rfl, rfl⟩, ⟨⟨_, rfl, rfl⟩, ⟨⟨_, rfl, rfl⟩, ⟨⟨_, rfl, rfl⟩, ⟨⟨_, rfl, rfl⟩, ⟨⟨_, rfl, rfl⟩, ⟨⟨_, rfl, rfl⟩, ⟨⟨_, rfl, rfl⟩, ⟨⟨_, rfl, rfl⟩, ⟨⟨_, rfl, rfl⟩, ⟨⟨_, rfl, rfl⟩, ⟨⟨_, rfl, rfl⟩, ⟨⟨_, rfl, rfl⟩, ⟨⟨_, rfl, rfl⟩, ⟨⟨_, rfl, rfl⟩, ⟨⟨_, rfl, rfl⟩, ⟨⟨_, rfl, rfl⟩, ⟨⟨_, rfl, rfl⟩, ⟨⟨_, rfl, rfl⟩, ⟨⟨_, rfl, rfl⟩, trivial⟩⟩⟩⟩⟩⟩⟩⟩⟩⟩⟩⟩⟩⟩⟩⟩⟩⟩⟩⟩⟩⟩⟩⟩⟩⟩⟩ rfl ?_
      refine J_if_ne (pc := 22) (tgt := 28) C 12 rfl rfl (fun c6 => ?_) (fun c6 => ?_)
      · rw [if_neg c6] at h
        refine J_aload_n (pc := 28) C 15 rfl 0 rfl rfl ?_
        refine J_get (pc := 29) (v := .ref (aS2 0)) C 16 rfl TB_l4 rfl 0 3 rfl (by decide) k199 rfl rfl ?_
        refine J_aload_n (pc := 32) C 17 rfl 0 rfl rfl ?_
        refine J_get (pc := 33) (v := .ref (aS 0)) C 18 rfl TB_l4 rfl 0 1 rfl (by decide) k197 rfl rfl ?_
        obtain ⟨q7, hq7, h⟩ := bnd h
        refine J_callV (pc := 36) (st2 := []) (st3 := []) (ws2 := (wEx aX (aT 0) (aT2 0) (aS 0) (aS2 0) (aP 0) (aH 0) aB aU ++ (wSch G aS (vS 0) (vS 1) (vS 2) (vS 3) (vS 4) (vS 5) (vS 6) (vS 7) (vS 8 0) (vS 9 0) ++ (wSeat G aT2 (aS2 0) (vT2 1) (vT2 2) (vT2 3) (vT2 4 0) (vT2 5 0) (vT2 6) (vT2 7) (vT2 8) ++ (wSch G aS2 (q7 0) (q7 1) (q7 2) (q7 3) (q7 4) (q7 5) (q7 6) (q7 7) (q7 8 0) (q7 9 0)))))) C 19 rfl (c_X2_copyFrom aS2 aS vS2 vS hq7) V_X2_copyFrom k325 i_X2_copyFrom s_X2_copyFrom rfl rfl ⟨Nat.le_of_ble_eq_true rfl, Nat.le_of_ble_eq_true rfl⟩ (Nat.le_of_ble_eq_true rfl) ⟨Nat.le_refl _, Nat.le_refl _⟩ 17 2 rfl rfl rfl (isC := [17, 18, 19, 20, 21, 22, 23, 24, 25, 1, 2, 3, 4, 5, 6, 7, 8, 9]) (isR := [0, 10, 11, 12, 13, 14, 15, 16]) (N := 26) ⟨rfl, by decide +kernel, rfl, by decide +kernel, rfl, ⟨⟨_, rfl, rfl⟩, ⟨⟨_, rfl, rfl⟩, ⟨⟨_, rfl, rfl⟩, ⟨⟨_, rfl, rfl⟩, ⟨⟨_, rfl, rfl⟩, ⟨⟨_, rfl, rfl⟩, ⟨⟨_, rfl, rfl⟩, ⟨⟨_, rfl, rfl⟩, trivial⟩⟩⟩⟩⟩⟩⟩⟩⟩ rfl ?_
        refine J_aload_n (pc := 39) C 20 rfl 0 rfl rfl ?_
        refine J_get (pc := 40) (v := .ref (aS2 0)) C 21 rfl TB_l4 rfl 0 3 rfl (by decide) k199 rfl rfl ?_
        refine J_get (pc := 43) (v := .ref (aS2 2)) C 22 rfl TB_l2 rfl 17 1 rfl (by decide) k229 rfl rfl ?_
        refine J_iload_n (pc := 46) C 23 rfl 1 rfl rfl ?_
        refine J_iload_n (pc := 47) C 24 rfl 2 rfl rfl ?_
        obtain ⟨g8, h⟩ := gd_some h
        refine J_iast (pc := 48) (f := (q7 1)) (m := (Int32.toNatClampNeg x1)) C 25 (fun mm vv => (wEx aX (aT 0) (aT2 0) (aS 0) (aS2 0) (aP 0) (aH 0) aB aU ++ (wSch G aS (vS 0) (vS 1) (vS 2) (vS 3) (vS 4) (vS 5) (vS 6) (vS 7) (vS 8 0) (vS 9 0) ++ (wSeat G aT2 (aS2 0) (vT2 1) (vT2 2) (vT2 3) (vT2 4 0) (vT2 5 0) (vT2 6) (vT2 7) (vT2 8) ++ (wSch G aS2 (q7 0) (upd (q7 1) mm vv) (q7 2) (q7 3) (q7 4) (q7 5) (q7 6) (q7 7) (q7 8 0) (q7 9 0)))))) rfl 19 rfl g8 rfl (fun _ _ => rfl) ?_
        refine J_iload_n (pc := 49) C 26 rfl 3 rfl rfl ?_
        by_cases c9 : x3 = (0 : Int32)
        · rw [if_pos c9] at h
          refine J_look (pc := 50) (tgt := 76) (off := 26) C 27 rfl (by decide) (by rw [c9]; rfl) rfl ?_
          refine J_aload_n (pc := 76) C 28 rfl 0 rfl rfl ?_
          refine J_get (pc := 77) (v := .ref (aS2 0)) C 29 rfl TB_l4 rfl 0 3 rfl (by decide) k199 rfl rfl ?_
          obtain ⟨q10, hq10, h⟩ := bnd h
          refine J_callV (pc := 80) (st2 := []) (st3 := [.int q10]) (ws2 := (wEx aX (aT 0) (aT2 0) (aS 0) (aS2 0) (aP 0) (aH 0) aB aU ++ (wSch G aS (vS 0) (vS 1) (vS 2) (vS 3) (vS 4) (vS 5) (vS 6) (vS 7) (vS 8 0) (vS 9 0) ++ (wSeat G aT2 (aS2 0) (vT2 1) (vT2 2) (vT2 3) (vT2 4 0) (vT2 5 0) (vT2 6) (vT2 7) (vT2 8) ++ (wSch G aS2 (q7 0) (upd (q7 1) (Int32.toNatClampNeg x1) x2) (q7 2) (q7 3) (q7 4) (q7 5) (q7 6) (q7 7) (q7 8 0) (q7 9 0)))))) C 30 rfl (c_X2_clashes aS2 (up2 q7 1 (Int32.toNatClampNeg x1) x2) hq10) V_X2_clashes k308 i_X2_clashes s_X2_clashes rfl rfl ⟨Nat.le_of_ble_eq_true rfl, Nat.le_of_ble_eq_true rfl⟩ (Nat.le_of_ble_eq_true rfl) ⟨Nat.le_refl _, Nat.le_refl _⟩ 17 2 rfl rfl rfl (isC := [17, 18, 19, 20, 21, 22, 23, 24, 25]) (isR := [0, 1, 2, 3, 4, 5, 6, 7, 8, 9, 10, 11, 12, 13, 14, 15, 16]) (N := 26) ⟨rfl, by decide +kernel, rfl, by decide +kernel, rfl, ⟨⟨_, rfl, rfl⟩, ⟨⟨_, rfl, rfl⟩, ⟨⟨_, rfl, rfl⟩, ⟨⟨_, rfl, rfl⟩, ⟨⟨_, rfl, rfl⟩, ⟨⟨_, rfl, rfl⟩, ⟨⟨_, rfl, rfl⟩, ⟨⟨_, rfl, rfl⟩, ⟨⟨_, rfl, rfl⟩, ⟨⟨_, rfl, rfl⟩, ⟨⟨_, rfl, rfl⟩, ⟨⟨_, rfl, rfl⟩, ⟨⟨_, rfl, rfl⟩, ⟨⟨_, rfl, rfl⟩, ⟨⟨_, rfl, rfl⟩, ⟨⟨_, rfl, rfl⟩, ⟨⟨_, rfl, rfl⟩, trivial⟩⟩⟩⟩⟩⟩⟩⟩⟩⟩⟩⟩⟩⟩⟩⟩⟩⟩ rfl ?_
          cases h
          exact J_iret (pc := 83) C 31 rfl
        · rw [if_neg c9] at h
          by_cases c11 : x3 = (1 : Int32)
          · rw [if_pos c11] at h
            refine J_look (pc := 50) (tgt := 84) (off := 34) C 27 rfl (by decide) (by rw [c11]; rfl) rfl ?_
            refine J_aload_n (pc := 84) C 32 rfl 0 rfl rfl ?_
            refine J_get (pc := 85) (v := .ref (aT2 0)) C 33 rfl TB_l4 rfl 0 2 rfl (by decide) k198 rfl rfl ?_
            obtain ⟨q12, hq12, h⟩ := bnd h
            refine J_callV (pc := 88) (st2 := []) (st3 := []) (ws2 := (wEx aX (aT 0) (aT2 0) (aS 0) (aS2 0) (aP 0) (aH 0) aB aU ++ (wSch G aS (vS 0) (vS 1) (vS 2) (vS 3) (vS 4) (vS 5) (vS 6) (vS 7) (vS 8 0) (vS 9 0) ++ (wSeat G aT2 (aS2 0) (q12 1) (q12 2) (q12 3) (q12 4 0) (q12 5 0) (q12 6) (q12 7) (q12 8) ++ (wSch G aS2 (q7 0) (upd (q7 1) (Int32.toNatClampNeg x1) x2) (q7 2) (q7 3) (q7 4) (q7 5) (q7 6) (q7 7) (q7 8 0) (q7 9 0)))))) C 34 rfl (c_X3_seatAll aT2 aS2 vT2 (up2 q7 1 (Int32.toNatClampNeg x1) x2) hq12) V_X3_seatAll k214 i_X3_seatAll s_X3_seatAll rfl rfl ⟨Nat.le_of_ble_eq_true rfl, Nat.le_of_ble_eq_true rfl⟩ (Nat.le_of_ble_eq_true rfl) ⟨Nat.le_refl _, Nat.le_refl _⟩ 10 3 rfl rfl rfl (isC := [10, 11, 12, 13, 14, 15, 16, 17, 18, 19, 20, 21, 22, 23, 24, 25]) (isR := [0, 1, 2, 3, 4, 5, 6, 7, 8, 9]) (N := 26) ⟨rfl, by decide +kernel, rfl, by decide +kernel, rfl, ⟨⟨_, rfl, rfl⟩, ⟨⟨_, rfl, rfl⟩, ⟨⟨_, rfl, rfl⟩, ⟨⟨_, rfl, rfl⟩, ⟨⟨_, rfl, rfl⟩, ⟨⟨_, rfl, rfl⟩, ⟨⟨_, rfl, rfl⟩, ⟨⟨_, rfl, rfl⟩, ⟨⟨_, rfl, rfl⟩, ⟨⟨_, rfl, rfl⟩, trivial⟩⟩⟩⟩⟩⟩⟩⟩⟩⟩⟩ rfl ?_
            refine J_aload_n (pc := 91) C 35 rfl 0 rfl rfl ?_
            refine J_get (pc := 92) (v := .ref (aT2 0)) C 36 rfl TB_l4 rfl 0 2 rfl (by decide) k198 rfl rfl ?_
            refine J_get (pc := 95) (v := .int (q12 4 0)) C 37 rfl TB_l3 rfl 10 4 rfl (by decide) k264 rfl rfl ?_
            cases h
            exact J_iret (pc := 98) C 38 rfl
          · rw [if_neg c11] at h
            have ec9 := lv_neT (a := 0) c9 rfl
            have ec11 := lv_neT (a := 1) c11 rfl
            refine J_look (pc := 50) (tgt := 99) (off := 49) C 27 rfl (by decide) (by show Op.lookupswitch.offset [(0, 26), (1, 34)] 49 _ = 49; rw [lv_osw (a := 0) c9 rfl]; rw [lv_osw (a := 1) c11 rfl]; rfl) rfl ?_
            refine J_aload_n (pc := 99) C 39 rfl 0 rfl rfl ?_
            refine J_get (pc := 100) (v := .ref (aS2 0)) C 40 rfl TB_l4 rfl 0 3 rfl (by decide) k199 rfl rfl ?_
            obtain ⟨q13, hq13, h⟩ := bnd h
            refine J_callV (pc := 103) (st2 := []) (st3 := [.int q13]) (ws2 := (wEx aX (aT 0) (aT2 0) (aS 0) (aS2 0) (aP 0) (aH 0) aB aU ++ (wSch G aS (vS 0) (vS 1) (vS 2) (vS 3) (vS 4) (vS 5) (vS 6) (vS 7) (vS 8 0) (vS 9 0) ++ (wSeat G aT2 (aS2 0) (vT2 1) (vT2 2) (vT2 3) (vT2 4 0) (vT2 5 0) (vT2 6) (vT2 7) (vT2 8) ++ (wSch G aS2 (q7 0) (upd (q7 1) (Int32.toNatClampNeg x1) x2) (q7 2) (q7 3) (q7 4) (q7 5) (q7 6) (q7 7) (q7 8 0) (q7 9 0)))))) C 41 rfl (c_X2_lastEnd aS2 (up2 q7 1 (Int32.toNatClampNeg x1) x2) hq13) V_X2_lastEnd k317 i_X2_lastEnd s_X2_lastEnd rfl rfl ⟨Nat.le_of_ble_eq_true rfl, Nat.le_of_ble_eq_true rfl⟩ (Nat.le_of_ble_eq_true rfl) ⟨Nat.le_refl _, Nat.le_refl _⟩ 17 2 rfl rfl rfl (isC := [17, 18, 19, 20, 21, 22, 23, 24, 25]) (isR := [0, 1, 2, 3, 4, 5, 6, 7, 8, 9, 10, 11, 12, 13, 14, 15, 16]) (N := 26) ⟨rfl, by decide +kernel, rfl, by decide +kernel, rfl, ⟨⟨_, rfl, rfl⟩, ⟨⟨_, rfl, rfl⟩, ⟨⟨_, rfl, rfl⟩, ⟨⟨_, rfl, rfl⟩, ⟨⟨_, rfl, rfl⟩, ⟨⟨_, rfl, rfl⟩, ⟨⟨_, rfl, rfl⟩, ⟨⟨_, rfl, rfl⟩, ⟨⟨_, rfl, rfl⟩, ⟨⟨_, rfl, rfl⟩, ⟨⟨_, rfl, rfl⟩, ⟨⟨_, rfl, rfl⟩, ⟨⟨_, rfl, rfl⟩, ⟨⟨_, rfl, rfl⟩, ⟨⟨_, rfl, rfl⟩, ⟨⟨_, rfl, rfl⟩, ⟨⟨_, rfl, rfl⟩, trivial⟩⟩⟩⟩⟩⟩⟩⟩⟩⟩⟩⟩⟩⟩⟩⟩⟩⟩ rfl ?_
            cases h
            exact J_iret (pc := 106) C 42 rfl
      · rw [if_pos c6] at h
        refine J_bipush (pc := 25) (v := (-2 : Int32)) C 13 rfl rfl ?_
        cases h
        exact J_iret (pc := 27) C 14 rfl
  · rw [if_pos c2] at h
    refine J_iconst (pc := 7) (v := (-1 : Int32)) C 3 rfl rfl ?_
    cases h
    exact J_iret (pc := 8) C 4 rfl
def T_X4_bestStart : List (Nat × ClassFile.Instr × Nat) := [(0, .iload_n 1, 1), (1, .invokestatic 70, 3), (4, .ifCond .ne 5, 3), (7, .iconst (-1), 1), (8, .ireturn, 1), (9, .iconst 0, 1), (10, .istore_n 2, 1), (11, .sipush 1000, 3), (14, .istore_n 3, 1), (15, .sipush 1000, 3), (18, .istore 4, 2), (20, .aload_n 0, 1), (21, .getfield 24, 3), (24, .aload_n 0, 1), (25, .getfield 20, 3), (28, .invokevirtual 230, 3), (31, .iconst 0, 1), (32, .istore 5, 2), (34, .iload 5, 2), (36, .bipush 20, 2), (38, .if_icmp .ge 78, 3), (41, .aload_n 0, 1), (42, .getfield 24, 3), (45, .getfield 77, 3), (48, .iload_n 1, 1), (49, .iload 5, 2), (51, .iastore, 1), (52, .aload_n 0, 1), (53, .getfield 24, 3), (56, .invokevirtual 211, 3), (59, .istore 6, 2), (61, .iload 6, 2), (63, .iload_n 3, 1), (64, .if_icmp .le 6, 3), (67, .goto 43, 3), (70, .aload_n 0, 1), (71, .getfield 21, 3), (74, .invokevirtual 52, 3), (77, .iload 6, 2), (79, .iload_n 3, 1), (80, .if_icmp .lt 15, 3), (83, .aload_n 0, 1), (84, .getfield 21, 3), (87, .getfield 150, 3), (90, .iload 4, 2), (92, .if_icmp .ge 18, 3), (95, .iload 5, 2), (97, .istore_n 2, 1), (98, .iload 6, 2), (100, .istore_n 3, 1), (101, .aload_n 0, 1), (102, .getfield 21, 3), (105, .getfield 150, 3), (108, .istore 4, 2), (110, .iinc 5 1, 3), (113, .goto (-79), 3), (116, .iload_n 2, 1), (117, .ireturn, 1)]
theorem D_X4_bestStart : ∀ q ∈ T_X4_bestStart, decode cX4_bestStart q.1 = .ok q.2 := by decide +kernel
theorem V_X4_bestStart : Vy yX4_bestStart cX4_bestStart 7 (some .int) 1 := ⟨k327, k56, by decide +kernel⟩
theorem i_X4_bestStart : Cond.instanceMethod yX4_bestStart ∈ TB := k420
theorem s_X4_bestStart : Cond.selects yX4_bestStart.cls yX4_bestStart yX4_bestStart ∈ TB := k421
noncomputable def f_X4_bestStart_b34 (vS : JV) (x1_34 : Int32) (r34 : JV → JV → Int32 → Int32 → Int32 → Int32 → Option (Int32 × JV × JV)) (vT2_34 : JV) (vS2_34 : JV) (x2_34 : Int32) (x3_34 : Int32) (x4_34 : Int32) (x5_34 : Int32) : Option (Int32 × JV × JV) :=
  (if (20 : Int32) ≤ x5_34 then some (x2_34, vT2_34, vS2_34) else gd (inb x1_34 6) ((f_X2_clashes (up2 vS2_34 1 (Int32.toNatClampNeg x1_34) x5_34)).bind (fun q6 => (if q6 ≤ x3_34 then (f_X3_seatAll vT2_34 (up2 vS2_34 1 (Int32.toNatClampNeg x1_34) x5_34)).bind (fun q8 => (if q6 < x3_34 then r34 q8 (up2 vS2_34 1 (Int32.toNatClampNeg x1_34) x5_34) x5_34 q6 (q8 4 0) (x5_34 + (1 : Int32)) else (if x4_34 ≤ (q8 4 0) then r34 q8 (up2 vS2_34 1 (Int32.toNatClampNeg x1_34) x5_34) x2_34 x3_34 x4_34 (x5_34 + (1 : Int32)) else r34 q8 (up2 vS2_34 1 (Int32.toNatClampNeg x1_34) x5_34) x5_34 q6 (q8 4 0) (x5_34 + (1 : Int32))))) else r34 vT2_34 (up2 vS2_34 1 (Int32.toNatClampNeg x1_34) x5_34) x2_34 x3_34 x4_34 (x5_34 + (1 : Int32))))))
noncomputable def f_X4_bestStart_L34 (vS : JV) (x1_34 : Int32) (n : Nat) (vT2_34 : JV) (vS2_34 : JV) (x2_34 : Int32) (x3_34 : Int32) (x4_34 : Int32) (x5_34 : Int32) : Option (Int32 × JV × JV) :=
  lp (fun (rec : JV × JV × Int32 × Int32 × Int32 × Int32 → Option (Int32 × JV × JV)) a => f_X4_bestStart_b34 vS x1_34 (fun vT2_34 vS2_34 x2_34 x3_34 x4_34 x5_34 => rec (vT2_34, vS2_34, x2_34, x3_34, x4_34, x5_34)) a.1 a.2.1 a.2.2.1 a.2.2.2.1 a.2.2.2.2.1 a.2.2.2.2.2) n (vT2_34, vS2_34, x2_34, x3_34, x4_34, x5_34)
noncomputable def f_X4_bestStart (vS : JV) (vT2 : JV) (vS2 : JV) (x1 : Int32) : Option (Int32 × JV × JV) :=
  (f_X4_isPaper x1).bind (fun q1 => (if q1 = 0 then some ((-1 : Int32), vT2, vS2) else (f_X2_copyFrom vS2 vS).bind (fun q3 => f_X4_bestStart_L34 vS x1 FU vT2 q3 (0 : Int32) (1000 : Int32) (1000 : Int32) (0 : Int32))))
set_option maxRecDepth 100000 in
set_option maxHeartbeats 4000000 in
theorem c_X4_bestStart {l : Launch} {G : JG} (aX : Nat) (aT : Nat → Nat) (aS : Nat → Nat) (aT2 : Nat → Nat) (aS2 : Nat → Nat) (aP : Nat → Nat) (aH : Nat → Nat) (aB : Nat) (aU : Nat) (vS : JV) (vT2 : JV) (vS2 : JV) (x1 : Int32) {Rz : Int32 × JV × JV} (h : f_X4_bestStart vS vT2 vS2 x1 = some Rz) : JM l G yX4_bestStart cX4_bestStart 7 (some .int) 6 141 [.ref aX, .int x1] (wEx aX (aT 0) (aT2 0) (aS 0) (aS2 0) (aP 0) (aH 0) aB aU ++ (wSch G aS (vS 0) (vS 1) (vS 2) (vS 3) (vS 4) (vS 5) (vS 6) (vS 7) (vS 8 0) (vS 9 0) ++ (wSeat G aT2 (aS2 0) (vT2 1) (vT2 2) (vT2 3) (vT2 4 0) (vT2 5 0) (vT2 6) (vT2 7) (vT2 8) ++ (wSch G aS2 (vS2 0) (vS2 1) (vS2 2) (vS2 3) (vS2 4) (vS2 5) (vS2 6) (vS2 7) (vS2 8 0) (vS2 9 0))))) (wEx aX (aT 0) (aT2 0) (aS 0) (aS2 0) (aP 0) (aH 0) aB aU ++ (wSch G aS (vS 0) (vS 1) (vS 2) (vS 3) (vS 4) (vS 5) (vS 6) (vS 7) (vS 8 0) (vS 9 0) ++ (wSeat G aT2 (aS2 0) ((Rz.2.1) 1) ((Rz.2.1) 2) ((Rz.2.1) 3) ((Rz.2.1) 4 0) ((Rz.2.1) 5 0) ((Rz.2.1) 6) ((Rz.2.1) 7) ((Rz.2.1) 8) ++ (wSch G aS2 ((Rz.2.2) 0) ((Rz.2.2) 1) ((Rz.2.2) 2) ((Rz.2.2) 3) ((Rz.2.2) 4) ((Rz.2.2) 5) ((Rz.2.2) 6) ((Rz.2.2) 7) ((Rz.2.2) 8 0) ((Rz.2.2) 9 0))))) (some (.int (Rz.1))) := by
  refine JM.of (own := RX4) (tb := T_X4_bestStart) (by decide) (Nat.le_of_ble_eq_true rfl) D_X4_bestStart rfl (fun X C => ?_)
  refine J_sub (lv' := [(0, .ref aX), (1, .int x1)]) [0, 1] rfl ?_
  have B34 : ∀ (x1_34 : Int32) (n34 : Nat) (vT2_34 : JV) (vS2_34 : JV) (x2_34 : Int32) (x3_34 : Int32) (x4_34 : Int32) (x5_34 : Int32), f_X4_bestStart_L34 vS x1_34 n34 vT2_34 vS2_34 x2_34 x3_34 x4_34 x5_34 = some Rz → J l { frames := 6, cells := 0, slots := 0, locals := 141 } G 7 X (QM X G 0 0 (some (.int (Rz.1))) (wEx aX (aT 0) (aT2 0) (aS 0) (aS2 0) (aP 0) (aH 0) aB aU ++ (wSch G aS (vS 0) (vS 1) (vS 2) (vS 3) (vS 4) (vS 5) (vS 6) (vS 7) (vS 8 0) (vS 9 0) ++ (wSeat G aT2 (aS2 0) ((Rz.2.1) 1) ((Rz.2.1) 2) ((Rz.2.1) 3) ((Rz.2.1) 4 0) ((Rz.2.1) 5 0) ((Rz.2.1) 6) ((Rz.2.1) 7) ((Rz.2.1) 8) ++ (wSch G aS2 ((Rz.2.2) 0) ((Rz.2.2) 1) ((Rz.2.2) 2) ((Rz.2.2) 3) ((Rz.2.2) 4) ((Rz.2.2) 5) ((Rz.2.2) 6) ((Rz.2.2) 7) ((Rz.2.2) 8 0) ((Rz.2.2) 9 0)))))) 0 0 34 [(0, .ref aX), (1, .int x1_34), (2, .int x2_34), (3, .int x3_34), (4, .int x4_34), (5, .int x5_34)] [] (wEx aX (aT 0) (aT2 0) (aS 0) (aS2 0) (aP 0) (aH 0) aB aU ++ (wSch G aS (vS 0) (vS 1) (vS 2) (vS 3) (vS 4) (vS 5) (vS 6) (vS 7) (vS 8 0) (vS 9 0) ++ (wSeat G aT2 (aS2 0) (vT2_34 1) (vT2_34 2) (vT2_34 3) (vT2_34 4 0) (vT2_34 5 0) (vT2_34 6) (vT2_34 7) (vT2_34 8) ++ (wSch G aS2 (vS2_34 0) (vS2_34 1) (vS2_34 2) (vS2_34 3) (vS2_34 4) (vS2_34 5) (vS2_34 6) (vS2_34 7) (vS2_34 8 0) (vS2_34 9 0))))) := by
    intro x1_34 n34
    induction n34 with
    | zero =>
      intro vT2_34 vS2_34 x2_34 x3_34 x4_34 x5_34 h
      exact (no_none rfl h).elim
    | succ n34 ih34 =>
      intro vT2_34 vS2_34 x2_34 x3_34 x4_34 x5_34 h
      replace h : f_X4_bestStart_b34 vS x1_34 (fun vT2_34 vS2_34 x2_34 x3_34 x4_34 x5_34 => f_X4_bestStart_L34 vS x1_34 n34 vT2_34 vS2_34 x2_34 x3_34 x4_34 x5_34) vT2_34 vS2_34 x2_34 x3_34 x4_34 x5_34 = some Rz := h
      unfold f_X4_bestStart_b34 at h
      refine J_iload (pc := 34) C 18 rfl 5 rfl ?_
      refine J_bipush (pc := 36) (v := (20 : Int32)) C 19 rfl rfl ?_
      refine J_icmp_ge (pc := 38) (tgt := 116) C 20 rfl rfl (fun c4 => ?_) (fun c4 => ?_)
      · rw [if_pos c4] at h
        refine J_iload_n (pc := 116) C 56 rfl 2 rfl rfl ?_
        cases h
        exact J_iret (pc := 117) C 57 rfl
      · rw [if_neg c4] at h
        refine J_aload_n (pc := 41) C 21 rfl 0 rfl rfl ?_
        refine J_get (pc := 42) (v := .ref (aS2 0)) C 22 rfl TB_l4 rfl 0 3 rfl (by decide) k199 rfl rfl ?_
        refine J_get (pc := 45) (v := .ref (aS2 2)) C 23 rfl TB_l2 rfl 17 1 rfl (by decide) k229 rfl rfl ?_
        refine J_iload_n (pc := 48) C 24 rfl 1 rfl rfl ?_
        refine J_iload (pc := 49) C 25 rfl 5 rfl ?_
        obtain ⟨g5, h⟩ := gd_some h
        refine J_iast (pc := 51) (f := (vS2_34 1)) (m := (Int32.toNatClampNeg x1_34)) C 26 (fun mm vv => (wEx aX (aT 0) (aT2 0) (aS 0) (aS2 0) (aP 0) (aH 0) aB aU ++ (wSch G aS (vS 0) (vS 1) (vS 2) (vS 3) (vS 4) (vS 5) (vS 6) (vS 7) (vS 8 0) (vS 9 0) ++ (wSeat G aT2 (aS2 0) (vT2_34 1) (vT2_34 2) (vT2_34 3) (vT2_34 4 0) (vT2_34 5 0) (vT2_34 6) (vT2_34 7) (vT2_34 8) ++ (wSch G aS2 (vS2_34 0) (upd (vS2_34 1) mm vv) (vS2_34 2) (vS2_34 3) (vS2_34 4) (vS2_34 5) (vS2_34 6) (vS2_34 7) (vS2_34 8 0) (vS2_34 9 0)))))) rfl 19 rfl g5 rfl (fun _ _ => rfl) ?_
        refine J_aload_n (pc := 52) C 27 rfl 0 rfl rfl ?_
        refine J_get (pc := 53) (v := .ref (aS2 0)) C 28 rfl TB_l4 rfl 0 3 rfl (by decide) k199 rfl rfl ?_
        obtain ⟨q6, hq6, h⟩ := bnd h
        refine J_callV (pc := 56) (st2 := []) (st3 := [.int q6]) (ws2 := (wEx aX (aT 0) (aT2 0) (aS 0) (aS2 0) (aP 0) (aH 0) aB aU ++ (wSch G aS (vS 0) (vS 1) (vS 2) (vS 3) (vS 4) (vS 5) (vS 6) (vS 7) (vS 8 0) (vS 9 0) ++ (wSeat G aT2 (aS2 0) (vT2_34 1) (vT2_34 2) (vT2_34 3) (vT2_34 4 0) (vT2_34 5 0) (vT2_34 6) (vT2_34 7) (vT2_34 8) ++ (wSch G aS2 (vS2_34 0) (upd (vS2_34 1) (Int32.toNatClampNeg x1_34) x5_34) (vS2_34 2) (vS2_34 3) (vS2_34 4) (vS2_34 5) (vS2_34 6) (vS2_34 7) (vS2_34 8 0) (vS2_34 9 0)))))) C 29 rfl (c_X2_clashes aS2 (up2 vS2_34 1 (Int32.toNatClampNeg x1_34) x5_34) hq6) V_X2_clashes k308 i_X2_clashes s_X2_clashes rfl rfl ⟨Nat.le_of_ble_eq_true rfl, Nat.le_of_ble_eq_true rfl⟩ (Nat.le_of_ble_eq_true rfl) ⟨Nat.le_refl _, Nat.le_refl _⟩ 17 2 rfl rfl rfl (isC := [17, 18, 19, 20, 21, 22, 23, 24, 25]) (isR := [0, 1, 2, 3, 4, 5, 6, 7, 8, 9, 10, 11, 12, 13, 14, 15, 16]) (N := 26) ⟨rfl, by decide +kernel, rfl, by decide +kernel, rfl, ⟨⟨_, rfl, rfl⟩, ⟨⟨_, rfl, rfl⟩, ⟨⟨_, rfl, rfl⟩, ⟨⟨_, rfl, rfl⟩, ⟨⟨_, rfl, rfl⟩, ⟨⟨_, rfl, rfl⟩, ⟨⟨_, rfl, rfl⟩, ⟨⟨_, rfl, rfl⟩, ⟨⟨_, rfl, rfl⟩, ⟨⟨_, rfl, rfl⟩, ⟨⟨_, rfl, rfl⟩, ⟨⟨_, rfl, rfl⟩, ⟨⟨_, rfl, rfl⟩, ⟨⟨_, rfl, rfl⟩, ⟨⟨_, rfl, rfl⟩, ⟨⟨_, rfl, rfl⟩, ⟨⟨_, rfl, rfl⟩, trivial⟩⟩⟩⟩⟩⟩⟩⟩⟩⟩⟩⟩⟩⟩⟩⟩⟩⟩ rfl ?_
        refine J_istore (pc := 59) (lv' := [(6, .int q6), (0, .ref aX), (1, .int x1_34), (2, .int x2_34), (3, .int x3_34), (4, .int x4_34), (5, .int x5_34)]) C 30 rfl (by decide) rfl ?_
        refine J_iload (pc := 61) C 31 rfl 0 rfl ?_
        refine J_iload_n (pc := 63) C 32 rfl 4 rfl rfl ?_
        refine J_icmp_le (pc := 64) (tgt := 70) C 33 rfl rfl (fun c7 => ?_) (fun c7 => ?_)
        · rw [if_pos c7] at h
          refine J_aload_n (pc := 70) C 35 rfl 1 rfl rfl ?_
          refine J_get (pc := 71) (v := .ref (aT2 0)) C 36 rfl TB_l4 rfl 0 2 rfl (by decide) k198 rfl rfl ?_
          obtain ⟨q8, hq8, h⟩ := bnd h
          refine J_callV (pc := 74) (st2 := []) (st3 := []) (ws2 := (wEx aX (aT 0) (aT2 0) (aS 0) (aS2 0) (aP 0) (aH 0) aB aU ++ (wSch G aS (vS 0) (vS 1) (vS 2) (vS 3) (vS 4) (vS 5) (vS 6) (vS 7) (vS 8 0) (vS 9 0) ++ (wSeat G aT2 (aS2 0) (q8 1) (q8 2) (q8 3) (q8 4 0) (q8 5 0) (q8 6) (q8 7) (q8 8) ++ (wSch G aS2 (vS2_34 0) (upd (vS2_34 1) (Int32.toNatClampNeg x1_34) x5_34) (vS2_34 2) (vS2_34 3) (vS2_34 4) (vS2_34 5) (vS2_34 6) (vS2_34 7) (vS2_34 8 0) (vS2_34 9 0)))))) C 37 rfl (c_X3_seatAll aT2 aS2 vT2_34 (up2 vS2_34 1 (Int32.toNatClampNeg x1_34) x5_34) hq8) V_X3_seatAll k214 i_X3_seatAll s_X3_seatAll rfl rfl ⟨Nat.le_of_ble_eq_true rfl, Nat.le_of_ble_eq_true rfl⟩ (Nat.le_of_ble_eq_true rfl) ⟨Nat.le_refl _, Nat.le_refl _⟩ 10 3 rfl rfl rfl (isC := [10, 11, 12, 13, 14, 15, 16, 17, 18, 19, 20, 21, 22, 23, 24, 25]) (isR := [0, 1, 2, 3, 4, 5, 6, 7, 8, 9]) (N := 26) ⟨rfl, by decide +kernel, rfl, by decide +kernel, rfl, ⟨⟨_, rfl, rfl⟩, ⟨⟨_, rfl, rfl⟩, ⟨⟨_, rfl, rfl⟩, ⟨⟨_, rfl, rfl⟩, ⟨⟨_, rfl, rfl⟩, ⟨⟨_, rfl, rfl⟩, ⟨⟨_, rfl, rfl⟩, ⟨⟨_, rfl, rfl⟩, ⟨⟨_, rfl, rfl⟩, ⟨⟨_, rfl, rfl⟩, trivial⟩⟩⟩⟩⟩⟩⟩⟩⟩⟩⟩ rfl ?_
          refine J_iload (pc := 77) C 38 rfl 0 rfl ?_
          refine J_iload_n (pc := 79) C 39 rfl 4 rfl rfl ?_
          refine J_icmp_lt (pc := 80) (tgt := 95) C 40 rfl rfl (fun c9 => ?_) (fun c9 => ?_)
          · rw [if_pos c9] at h
            refine J_iload (pc := 95) C 46 rfl 6 rfl ?_
            refine J_istore_n (pc := 97) (lv' := [(2, .int x5_34), (6, .int q6), (0, .ref aX), (1, .int x1_34), (3, .int x3_34), (4, .int x4_34), (5, .int x5_34)]) C 47 rfl rfl (by decide) rfl ?_
            refine J_iload (pc := 98) C 48 rfl 1 rfl ?_
            refine J_istore_n (pc := 100) (lv' := [(3, .int q6), (2, .int x5_34), (6, .int q6), (0, .ref aX), (1, .int x1_34), (4, .int x4_34), (5, .int x5_34)]) C 49 rfl rfl (by decide) rfl ?_
            refine J_aload_n (pc := 101) C 50 rfl 3 rfl rfl ?_
            refine J_get (pc := 102) (v := .ref (aT2 0)) C 51 rfl TB_l4 rfl 0 2 rfl (by decide) k198 rfl rfl ?_
            refine J_get (pc := 105) (v := .int (q8 4 0)) C 52 rfl TB_l3 rfl 10 4 rfl (by decide) k264 rfl rfl ?_
            refine J_istore (pc := 108) (lv' := [(4, .int (q8 4 0)), (3, .int q6), (2, .int x5_34), (6, .int q6), (0, .ref aX), (1, .int x1_34), (5, .int x5_34)]) C 53 rfl (by decide) rfl ?_
            refine J_iinc (pc := 110) (v := (x5_34 + (1 : Int32))) (lv' := [(5, .int (x5_34 + (1 : Int32))), (4, .int (q8 4 0)), (3, .int q6), (2, .int x5_34), (6, .int q6), (0, .ref aX), (1, .int x1_34)]) C 54 rfl 6 rfl rfl (by decide) rfl ?_
            refine J_goto (pc := 113) (tgt := 34) C 55 rfl rfl ?_
            exact J_sub [5, 6, 3, 2, 1, 0] rfl (ih34 q8 (up2 vS2_34 1 (Int32.toNatClampNeg x1_34) x5_34) x5_34 q6 (q8 4 0) (x5_34 + (1 : Int32)) h)
          · rw [if_neg c9] at h
            refine J_aload_n (pc := 83) C 41 rfl 1 rfl rfl ?_
            refine J_get (pc := 84) (v := .ref (aT2 0)) C 42 rfl TB_l4 rfl 0 2 rfl (by decide) k198 rfl rfl ?_
            refine J_get (pc := 87) (v := .int (q8 4 0)) C 43 rfl TB_l3 rfl 10 4 rfl (by decide) k264 rfl rfl ?_
            refine J_iload (pc := 90) C 44 rfl 5 rfl ?_
            refine J_icmp_ge (pc := 92) (tgt := 110) C 45 rfl rfl (fun c10 => ?_) (fun c10 => ?_)
            · rw [if_pos c10] at h
              refine J_iinc (pc := 110) (v := (x5_34 + (1 : Int32))) (lv' := [(5, .int (x5_34 + (1 : Int32))), (6, .int q6), (0, .ref aX), (1, .int x1_34), (2, .int x2_34), (3, .int x3_34), (4, .int x4_34)]) C 54 rfl 6 rfl rfl (by decide) rfl ?_
              refine J_goto (pc := 113) (tgt := 34) C 55 rfl rfl ?_
              exact J_sub [2, 3, 4, 5, 6, 0] rfl (ih34 q8 (up2 vS2_34 1 (Int32.toNatClampNeg x1_34) x5_34) x2_34 x3_34 x4_34 (x5_34 + (1 : Int32)) h)
            · rw [if_neg c10] at h
              refine J_iload (pc := 95) C 46 rfl 6 rfl ?_
              refine J_istore_n (pc := 97) (lv' := [(2, .int x5_34), (6, .int q6), (0, .ref aX), (1, .int x1_34), (3, .int x3_34), (4, .int x4_34), (5, .int x5_34)]) C 47 rfl rfl (by decide) rfl ?_
              refine J_iload (pc := 98) C 48 rfl 1 rfl ?_
              refine J_istore_n (pc := 100) (lv' := [(3, .int q6), (2, .int x5_34), (6, .int q6), (0, .ref aX), (1, .int x1_34), (4, .int x4_34), (5, .int x5_34)]) C 49 rfl rfl (by decide) rfl ?_
              refine J_aload_n (pc := 101) C 50 rfl 3 rfl rfl ?_
              refine J_get (pc := 102) (v := .ref (aT2 0)) C 51 rfl TB_l4 rfl 0 2 rfl (by decide) k198 rfl rfl ?_
              refine J_get (pc := 105) (v := .int (q8 4 0)) C 52 rfl TB_l3 rfl 10 4 rfl (by decide) k264 rfl rfl ?_
              refine J_istore (pc := 108) (lv' := [(4, .int (q8 4 0)), (3, .int q6), (2, .int x5_34), (6, .int q6), (0, .ref aX), (1, .int x1_34), (5, .int x5_34)]) C 53 rfl (by decide) rfl ?_
              refine J_iinc (pc := 110) (v := (x5_34 + (1 : Int32))) (lv' := [(5, .int (x5_34 + (1 : Int32))), (4, .int (q8 4 0)), (3, .int q6), (2, .int x5_34), (6, .int q6), (0, .ref aX), (1, .int x1_34)]) C 54 rfl 6 rfl rfl (by decide) rfl ?_
              refine J_goto (pc := 113) (tgt := 34) C 55 rfl rfl ?_
              exact J_sub [5, 6, 3, 2, 1, 0] rfl (ih34 q8 (up2 vS2_34 1 (Int32.toNatClampNeg x1_34) x5_34) x5_34 q6 (q8 4 0) (x5_34 + (1 : Int32)) h)
        · rw [if_neg c7] at h
          refine J_goto (pc := 67) (tgt := 110) C 34 rfl rfl ?_
          refine J_iinc (pc := 110) (v := (x5_34 + (1 : Int32))) (lv' := [(5, .int (x5_34 + (1 : Int32))), (6, .int q6), (0, .ref aX), (1, .int x1_34), (2, .int x2_34), (3, .int x3_34), (4, .int x4_34)]) C 54 rfl 6 rfl rfl (by decide) rfl ?_
          refine J_goto (pc := 113) (tgt := 34) C 55 rfl rfl ?_
          exact J_sub [2, 3, 4, 5, 6, 0] rfl (ih34 vT2_34 (up2 vS2_34 1 (Int32.toNatClampNeg x1_34) x5_34) x2_34 x3_34 x4_34 (x5_34 + (1 : Int32)) h)
  unfold f_X4_bestStart at h
  refine J_iload_n (pc := 0) C 0 rfl 1 rfl rfl ?_
  obtain ⟨q1, hq1, h⟩ := bnd h
  refine J_callS (pc := 1) (st2 := []) (st3 := [.int q1]) (ws2 := (wEx aX (aT 0) (aT2 0) (aS 0) (aS2 0) (aP 0) (aH 0) aB aU ++ (wSch G aS (vS 0) (vS 1) (vS 2) (vS 3) (vS 4) (vS 5) (vS 6) (vS 7) (vS 8 0) (vS 9 0) ++ (wSeat G aT2 (aS2 0) (vT2 1) (vT2 2) (vT2 3) (vT2 4 0) (vT2 5 0) (vT2 6) (vT2 7) (vT2 8) ++ (wSch G aS2 (vS2 0) (vS2 1) (vS2 2) (vS2 3) (vS2 4) (vS2 5) (vS2 6) (vS2 7) (vS2 8 0) (vS2 9 0)))))) C 1 rfl (c_X4_isPaper x1 hq1) V_X4_isPaper k231 t_X4_isPaper rfl rfl ⟨Nat.le_of_ble_eq_true rfl, Nat.le_of_ble_eq_true rfl⟩ (Nat.le_of_ble_eq_true rfl) ⟨Nat.le_refl _, Nat.le_refl _⟩ (isC := []) (isR := [0, 1, 2, 3, 4, 5, 6, 7, 8, 9, 10, 11, 12, 13, 14, 15, 16, 17, 18, 19, 20, 21, 22, 23, 24, 25]) (N := 26) ⟨rfl, by decide +kernel, rfl, by decide +kernel, rfl, ⟨⟨_, rfl, rfl⟩, ⟨⟨_, rfl, rfl⟩, ⟨⟨_, rfl, rfl⟩, ⟨⟨_, rfl, rfl⟩, ⟨⟨_, rfl, rfl⟩, ⟨⟨_, rfl, rfl⟩, ⟨⟨_, rfl, rfl⟩, ⟨⟨_, rfl, rfl⟩, ⟨⟨_, rfl, rfl⟩, ⟨⟨_, rfl, rfl⟩, ⟨⟨_, rfl, rfl⟩, ⟨⟨_, rfl, rfl⟩, ⟨⟨_, rfl, rfl⟩, ⟨⟨_, rfl, rfl⟩, ⟨⟨_, rfl, rfl⟩, ⟨⟨_, rfl, rfl⟩, ⟨⟨_, rfl, rfl⟩, ⟨⟨_, rfl, rfl⟩, ⟨⟨_, rfl, rfl⟩, ⟨⟨_, rfl, rfl⟩, ⟨⟨_, rfl, rfl⟩, ⟨⟨_, rfl, rfl⟩, ⟨⟨_, rfl, rfl⟩, ⟨⟨_, rfl, rfl⟩, ⟨⟨_, rfl, rfl⟩, ⟨⟨_, rfl, rfl⟩, trivial⟩⟩⟩⟩⟩⟩⟩⟩⟩⟩⟩⟩⟩⟩⟩⟩⟩⟩⟩⟩⟩⟩⟩⟩⟩⟩⟩ rfl ?_
  refine J_if_ne (pc := 4) (tgt := 9) C 2 rfl rfl (fun c2 => ?_) (fun c2 => ?_)
  · rw [if_neg c2] at h
    refine J_iconst (pc := 9) (v := (0 : Int32)) C 5 rfl rfl ?_
    refine J_istore_n (pc := 10) (lv' := [(2, .int (0 : Int32)), (0, .ref aX), (1, .int x1)]) C 6 rfl rfl (by decide) rfl ?_
    refine J_sipush (pc := 11) (v := (1000 : Int32)) C 7 rfl rfl ?_
    refine J_istore_n (pc := 14) (lv' := [(3, .int (1000 : Int32)), (2, .int (0 : Int32)), (0, .ref aX), (1, .int x1)]) C 8 rfl rfl (by decide) rfl ?_
    refine J_sipush (pc := 15) (v := (1000 : Int32)) C 9 rfl rfl ?_
    refine J_istore (pc := 18) (lv' := [(4, .int (1000 : Int32)), (3, .int (1000 : Int32)), (2, .int (0 : Int32)), (0, .ref aX), (1, .int x1)]) C 10 rfl (by decide) rfl ?_
    refine J_aload_n (pc := 20) C 11 rfl 3 rfl rfl ?_
    refine J_get (pc := 21) (v := .ref (aS2 0)) C 12 rfl TB_l4 rfl 0 3 rfl (by decide) k199 rfl rfl ?_
    refine J_aload_n (pc := 24) C 13 rfl 3 rfl rfl ?_
    refine J_get (pc := 25) (v := .ref (aS 0)) C 14 rfl TB_l4 rfl 0 1 rfl (by decide) k197 rfl rfl ?_
    obtain ⟨q3, hq3, h⟩ := bnd h
    refine J_callV (pc := 28) (st2 := []) (st3 := []) (ws2 := (wEx aX (aT 0) (aT2 0) (aS 0) (aS2 0) (aP 0) (aH 0) aB aU ++ (wSch G aS (vS 0) (vS 1) (vS 2) (vS 3) (vS 4) (vS 5) (vS 6) (vS 7) (vS 8 0) (vS 9 0) ++ (wSeat G aT2 (aS2 0) (vT2 1) (vT2 2) (vT2 3) (vT2 4 0) (vT2 5 0) (vT2 6) (vT2 7) (vT2 8) ++ (wSch G aS2 (q3 0) (q3 1) (q3 2) (q3 3) (q3 4) (q3 5) (q3 6) (q3 7) (q3 8 0) (q3 9 0)))))) C 15 rfl (c_X2_copyFrom aS2 aS vS2 vS hq3) V_X2_copyFrom k325 i_X2_copyFrom s_X2_copyFrom rfl rfl ⟨Nat.le_of_ble_eq_true rfl, Nat.le_of_ble_eq_true rfl⟩ (Nat.le_of_ble_eq_true rfl) ⟨Nat.le_refl _, Nat.le_refl _⟩ 17 2 rfl rfl rfl (isC := [17, 18, 19, 20, 21, 22, 23, 24, 25, 1, 2, 3, 4, 5, 6, 7, 8, 9]) (isR := [0, 10, 11, 12, 13, 14, 15, 16]) (N := 26) ⟨rfl, by decide +kernel, rfl, by decide +kernel, rfl, ⟨⟨_, rfl, rfl⟩, ⟨⟨_, rfl, rfl⟩, ⟨⟨_, rfl, rfl⟩, ⟨⟨_, rfl, rfl⟩, ⟨⟨_, rfl, rfl⟩, ⟨⟨_, rfl, rfl⟩, ⟨⟨_, rfl, rfl⟩, ⟨⟨_, rfl, rfl⟩, trivial⟩⟩⟩⟩⟩⟩⟩⟩⟩ rfl ?_
    refine J_iconst (pc := 31) (v := (0 : Int32)) C 16 rfl rfl ?_
    refine J_istore (pc := 32) (lv' := [(5, .int (0 : Int32)), (4, .int (1000 : Int32)), (3, .int (1000 : Int32)), (2, .int (0 : Int32)), (0, .ref aX), (1, .int x1)]) C 17 rfl (by decide) rfl ?_
    exact J_sub [4, 5, 3, 2, 1, 0] rfl (B34 x1 FU vT2 q3 (0 : Int32) (1000 : Int32) (1000 : Int32) (0 : Int32) h)
  · rw [if_pos c2] at h
    refine J_iconst (pc := 7) (v := (-1 : Int32)) C 3 rfl rfl ?_
    cases h
    exact J_iret (pc := 8) C 4 rfl
def T_X4_bestHalls : List (Nat × ClassFile.Instr × Nat) := [(0, .iload_n 1, 1), (1, .iconst 0, 1), (2, .iconst 1, 1), (3, .invokestatic 55, 3), (6, .ifCond .ne 6, 3), (9, .bipush (-2), 2), (11, .ireturn, 1), (12, .iconst 0, 1), (13, .istore_n 2, 1), (14, .sipush 1000, 3), (17, .istore_n 3, 1), (18, .sipush 1000, 3), (21, .istore 4, 2), (23, .aload_n 0, 1), (24, .getfield 24, 3), (27, .aload_n 0, 1), (28, .getfield 20, 3), (31, .invokevirtual 230, 3), (34, .iconst 0, 1), (35, .istore 5, 2), (37, .iload 5, 2), (39, .bipush 16, 2), (41, .if_icmp .ge 72, 3), (44, .aload_n 0, 1), (45, .getfield 24, 3), (48, .iload 5, 2), (50, .putfield 147, 3), (53, .aload_n 0, 1), (54, .getfield 21, 3), (57, .invokevirtual 52, 3), (60, .aload_n 0, 1), (61, .getfield 21, 3), (64, .getfield 150, 3), (67, .istore 6, 2), (69, .aload_n 0, 1), (70, .getfield 24, 3), (73, .invokevirtual 214, 3), (76, .istore 7, 2), (78, .iload 6, 2), (80, .iload_n 3, 1), (81, .if_icmp .lt 16, 3), (84, .iload 6, 2), (86, .iload_n 3, 1), (87, .if_icmp .ne 20, 3), (90, .iload 7, 2), (92, .iload 4, 2), (94, .if_icmp .ge 13, 3), (97, .iload 5, 2), (99, .istore_n 2, 1), (100, .iload 6, 2), (102, .istore_n 3, 1), (103, .iload 7, 2), (105, .istore 4, 2), (107, .iinc 5 1, 3), (110, .goto (-73), 3), (113, .iload_n 1, 1), (114, .ifCond .ne 7, 3), (117, .iload_n 2, 1), (118, .goto 4, 3), (121, .iload_n 3, 1), (122, .ireturn, 1)]
theorem D_X4_bestHalls : ∀ q ∈ T_X4_bestHalls, decode cX4_bestHalls q.1 = .ok q.2 := by decide +kernel
theorem V_X4_bestHalls : Vy yX4_bestHalls cX4_bestHalls 8 (some .int) 1 := ⟨k328, k56, by decide +kernel⟩
theorem i_X4_bestHalls : Cond.instanceMethod yX4_bestHalls ∈ TB := k403
theorem s_X4_bestHalls : Cond.selects yX4_bestHalls.cls yX4_bestHalls yX4_bestHalls ∈ TB := k404
noncomputable def f_X4_bestHalls_b37 (vS : JV) (x1_37 : Int32) (r37 : JV → JV → Int32 → Int32 → Int32 → Int32 → Option (Int32 × JV × JV)) (vT2_37 : JV) (vS2_37 : JV) (x2_37 : Int32) (x3_37 : Int32) (x4_37 : Int32) (x5_37 : Int32) : Option (Int32 × JV × JV) :=
  (if (16 : Int32) ≤ x5_37 then (if x1_37 = 0 then some (x2_37, vT2_37, vS2_37) else some (x3_37, vT2_37, vS2_37)) else (f_X3_seatAll vT2_37 (up2 vS2_37 9 0 x5_37)).bind (fun q6 => (f_X2_openDesks (up2 vS2_37 9 0 x5_37)).bind (fun q7 => (if (q6 4 0) < x3_37 then r37 q6 (up2 vS2_37 9 0 x5_37) x5_37 (q6 4 0) q7 (x5_37 + (1 : Int32)) else (if (q6 4 0) = x3_37 then (if x4_37 ≤ q7 then r37 q6 (up2 vS2_37 9 0 x5_37) x2_37 x3_37 x4_37 (x5_37 + (1 : Int32)) else r37 q6 (up2 vS2_37 9 0 x5_37) x5_37 (q6 4 0) q7 (x5_37 + (1 : Int32))) else r37 q6 (up2 vS2_37 9 0 x5_37) x2_37 x3_37 x4_37 (x5_37 + (1 : Int32)))))))
noncomputable def f_X4_bestHalls_L37 (vS : JV) (x1_37 : Int32) (n : Nat) (vT2_37 : JV) (vS2_37 : JV) (x2_37 : Int32) (x3_37 : Int32) (x4_37 : Int32) (x5_37 : Int32) : Option (Int32 × JV × JV) :=
  lp (fun (rec : JV × JV × Int32 × Int32 × Int32 × Int32 → Option (Int32 × JV × JV)) a => f_X4_bestHalls_b37 vS x1_37 (fun vT2_37 vS2_37 x2_37 x3_37 x4_37 x5_37 => rec (vT2_37, vS2_37, x2_37, x3_37, x4_37, x5_37)) a.1 a.2.1 a.2.2.1 a.2.2.2.1 a.2.2.2.2.1 a.2.2.2.2.2) n (vT2_37, vS2_37, x2_37, x3_37, x4_37, x5_37)
noncomputable def f_X4_bestHalls (vS : JV) (vT2 : JV) (vS2 : JV) (x1 : Int32) : Option (Int32 × JV × JV) :=
  (f_X4_isWithin x1 (0 : Int32) (1 : Int32)).bind (fun q1 => (if q1 = 0 then some ((-2 : Int32), vT2, vS2) else (f_X2_copyFrom vS2 vS).bind (fun q3 => f_X4_bestHalls_L37 vS x1 FU vT2 q3 (0 : Int32) (1000 : Int32) (1000 : Int32) (0 : Int32))))
set_option maxRecDepth 100000 in
set_option maxHeartbeats 4000000 in
theorem c_X4_bestHalls {l : Launch} {G : JG} (aX : Nat) (aT : Nat → Nat) (aS : Nat → Nat) (aT2 : Nat → Nat) (aS2 : Nat → Nat) (aP : Nat → Nat) (aH : Nat → Nat) (aB : Nat) (aU : Nat) (vS : JV) (vT2 : JV) (vS2 : JV) (x1 : Int32) {Rz : Int32 × JV × JV} (h : f_X4_bestHalls vS vT2 vS2 x1 = some Rz) : JM l G yX4_bestHalls cX4_bestHalls 8 (some .int) 6 141 [.ref aX, .int x1] (wEx aX (aT 0) (aT2 0) (aS 0) (aS2 0) (aP 0) (aH 0) aB aU ++ (wSch G aS (vS 0) (vS 1) (vS 2) (vS 3) (vS 4) (vS 5) (vS 6) (vS 7) (vS 8 0) (vS 9 0) ++ (wSeat G aT2 (aS2 0) (vT2 1) (vT2 2) (vT2 3) (vT2 4 0) (vT2 5 0) (vT2 6) (vT2 7) (vT2 8) ++ (wSch G aS2 (vS2 0) (vS2 1) (vS2 2) (vS2 3) (vS2 4) (vS2 5) (vS2 6) (vS2 7) (vS2 8 0) (vS2 9 0))))) (wEx aX (aT 0) (aT2 0) (aS 0) (aS2 0) (aP 0) (aH 0) aB aU ++ (wSch G aS (vS 0) (vS 1) (vS 2) (vS 3) (vS 4) (vS 5) (vS 6) (vS 7) (vS 8 0) (vS 9 0) ++ (wSeat G aT2 (aS2 0) ((Rz.2.1) 1) ((Rz.2.1) 2) ((Rz.2.1) 3) ((Rz.2.1) 4 0) ((Rz.2.1) 5 0) ((Rz.2.1) 6) ((Rz.2.1) 7) ((Rz.2.1) 8) ++ (wSch G aS2 ((Rz.2.2) 0) ((Rz.2.2) 1) ((Rz.2.2) 2) ((Rz.2.2) 3) ((Rz.2.2) 4) ((Rz.2.2) 5) ((Rz.2.2) 6) ((Rz.2.2) 7) ((Rz.2.2) 8 0) ((Rz.2.2) 9 0))))) (some (.int (Rz.1))) := by
  refine JM.of (own := RX4) (tb := T_X4_bestHalls) (by decide) (Nat.le_of_ble_eq_true rfl) D_X4_bestHalls rfl (fun X C => ?_)
  refine J_sub (lv' := [(0, .ref aX), (1, .int x1)]) [0, 1] rfl ?_
  have B37 : ∀ (x1_37 : Int32) (n37 : Nat) (vT2_37 : JV) (vS2_37 : JV) (x2_37 : Int32) (x3_37 : Int32) (x4_37 : Int32) (x5_37 : Int32), f_X4_bestHalls_L37 vS x1_37 n37 vT2_37 vS2_37 x2_37 x3_37 x4_37 x5_37 = some Rz → J l { frames := 6, cells := 0, slots := 0, locals := 141 } G 8 X (QM X G 0 0 (some (.int (Rz.1))) (wEx aX (aT 0) (aT2 0) (aS 0) (aS2 0) (aP 0) (aH 0) aB aU ++ (wSch G aS (vS 0) (vS 1) (vS 2) (vS 3) (vS 4) (vS 5) (vS 6) (vS 7) (vS 8 0) (vS 9 0) ++ (wSeat G aT2 (aS2 0) ((Rz.2.1) 1) ((Rz.2.1) 2) ((Rz.2.1) 3) ((Rz.2.1) 4 0) ((Rz.2.1) 5 0) ((Rz.2.1) 6) ((Rz.2.1) 7) ((Rz.2.1) 8) ++ (wSch G aS2 ((Rz.2.2) 0) ((Rz.2.2) 1) ((Rz.2.2) 2) ((Rz.2.2) 3) ((Rz.2.2) 4) ((Rz.2.2) 5) ((Rz.2.2) 6) ((Rz.2.2) 7) ((Rz.2.2) 8 0) ((Rz.2.2) 9 0)))))) 0 0 37 [(0, .ref aX), (1, .int x1_37), (2, .int x2_37), (3, .int x3_37), (4, .int x4_37), (5, .int x5_37)] [] (wEx aX (aT 0) (aT2 0) (aS 0) (aS2 0) (aP 0) (aH 0) aB aU ++ (wSch G aS (vS 0) (vS 1) (vS 2) (vS 3) (vS 4) (vS 5) (vS 6) (vS 7) (vS 8 0) (vS 9 0) ++ (wSeat G aT2 (aS2 0) (vT2_37 1) (vT2_37 2) (vT2_37 3) (vT2_37 4 0) (vT2_37 5 0) (vT2_37 6) (vT2_37 7) (vT2_37 8) ++ (wSch G aS2 (vS2_37 0) (vS2_37 1) (vS2_37 2) (vS2_37 3) (vS2_37 4) (vS2_37 5) (vS2_37 6) (vS2_37 7) (vS2_37 8 0) (vS2_37 9 0))))) := by
    intro x1_37 n37
    induction n37 with
    | zero =>
      intro vT2_37 vS2_37 x2_37 x3_37 x4_37 x5_37 h
      exact (no_none rfl h).elim
    | succ n37 ih37 =>
      intro vT2_37 vS2_37 x2_37 x3_37 x4_37 x5_37 h
      replace h : f_X4_bestHalls_b37 vS x1_37 (fun vT2_37 vS2_37 x2_37 x3_37 x4_37 x5_37 => f_X4_bestHalls_L37 vS x1_37 n37 vT2_37 vS2_37 x2_37 x3_37 x4_37 x5_37) vT2_37 vS2_37 x2_37 x3_37 x4_37 x5_37 = some Rz := h
      unfold f_X4_bestHalls_b37 at h
      refine J_iload (pc := 37) C 20 rfl 5 rfl ?_
      refine J_bipush (pc := 39) (v := (16 : Int32)) C 21 rfl rfl ?_
      refine J_icmp_ge (pc := 41) (tgt := 113) C 22 rfl rfl (fun c4 => ?_) (fun c4 => ?_)
      · rw [if_pos c4] at h
        refine J_iload_n (pc := 113) C 55 rfl 1 rfl rfl ?_
        refine J_if_ne (pc := 114) (tgt := 121) C 56 rfl rfl (fun c5 => ?_) (fun c5 => ?_)
        · rw [if_neg c5] at h
          refine J_iload_n (pc := 121) C 59 rfl 3 rfl rfl ?_
          cases h
          exact J_iret (pc := 122) C 60 rfl
        · rw [if_pos c5] at h
          refine J_iload_n (pc := 117) C 57 rfl 2 rfl rfl ?_
          refine J_goto (pc := 118) (tgt := 122) C 58 rfl rfl ?_
          cases h
          exact J_iret (pc := 122) C 60 rfl
      · rw [if_neg c4] at h
        refine J_aload_n (pc := 44) C 23 rfl 0 rfl rfl ?_
        refine J_get (pc := 45) (v := .ref (aS2 0)) C 24 rfl TB_l4 rfl 0 3 rfl (by decide) k199 rfl rfl ?_
        refine J_iload (pc := 48) C 25 rfl 5 rfl ?_
        refine J_puti (pc := 50) C 26 (fun vv => (wEx aX (aT 0) (aT2 0) (aS 0) (aS2 0) (aP 0) (aH 0) aB aU ++ (wSch G aS (vS 0) (vS 1) (vS 2) (vS 3) (vS 4) (vS 5) (vS 6) (vS 7) (vS 8 0) (vS 9 0) ++ (wSeat G aT2 (aS2 0) (vT2_37 1) (vT2_37 2) (vT2_37 3) (vT2_37 4 0) (vT2_37 5 0) (vT2_37 6) (vT2_37 7) (vT2_37 8) ++ (wSch G aS2 (vS2_37 0) (vS2_37 1) (vS2_37 2) (vS2_37 3) (vS2_37 4) (vS2_37 5) (vS2_37 6) (vS2_37 7) (vS2_37 8 0) vv))))) rfl TB_l2 tyX2 tyX2_ok nmX2 rfl 17 9 rfl (by decide) k263 rfl rfl rfl (Nat.le_of_ble_eq_true rfl) (fun _ => rfl) ?_
        refine J_aload_n (pc := 53) C 27 rfl 0 rfl rfl ?_
        refine J_get (pc := 54) (v := .ref (aT2 0)) C 28 rfl TB_l4 rfl 0 2 rfl (by decide) k198 rfl rfl ?_
        obtain ⟨q6, hq6, h⟩ := bnd h
        refine J_callV (pc := 57) (st2 := []) (st3 := []) (ws2 := (wEx aX (aT 0) (aT2 0) (aS 0) (aS2 0) (aP 0) (aH 0) aB aU ++ (wSch G aS (vS 0) (vS 1) (vS 2) (vS 3) (vS 4) (vS 5) (vS 6) (vS 7) (vS 8 0) (vS 9 0) ++ (wSeat G aT2 (aS2 0) (q6 1) (q6 2) (q6 3) (q6 4 0) (q6 5 0) (q6 6) (q6 7) (q6 8) ++ (wSch G aS2 (vS2_37 0) (vS2_37 1) (vS2_37 2) (vS2_37 3) (vS2_37 4) (vS2_37 5) (vS2_37 6) (vS2_37 7) (vS2_37 8 0) x5_37))))) C 29 rfl (c_X3_seatAll aT2 aS2 vT2_37 (up2 vS2_37 9 0 x5_37) hq6) V_X3_seatAll k214 i_X3_seatAll s_X3_seatAll rfl rfl ⟨Nat.le_of_ble_eq_true rfl, Nat.le_of_ble_eq_true rfl⟩ (Nat.le_of_ble_eq_true rfl) ⟨Nat.le_refl _, Nat.le_refl _⟩ 10 3 rfl rfl rfl (isC := [10, 11, 12, 13, 14, 15, 16, 17, 18, 19, 20, 21, 22, 23, 24, 25]) (isR := [0, 1, 2, 3, 4, 5, 6, 7, 8, 9]) (N := 26) ⟨rfl, by decide +kernel, rfl, by decide +kernel, rfl, ⟨⟨_, rfl, rfl⟩, ⟨⟨_, rfl, rfl⟩, ⟨⟨_, rfl, rfl⟩, ⟨⟨_, rfl, rfl⟩, ⟨⟨_, rfl, rfl⟩, ⟨⟨_, rfl, rfl⟩, ⟨⟨_, rfl, rfl⟩, ⟨⟨_, rfl, rfl⟩, ⟨⟨_, rfl, rfl⟩, ⟨⟨_, rfl, rfl⟩, trivial⟩⟩⟩⟩⟩⟩⟩⟩⟩⟩⟩ rfl ?_
        refine J_aload_n (pc := 60) C 30 rfl 0 rfl rfl ?_
        refine J_get (pc := 61) (v := .ref (aT2 0)) C 31 rfl TB_l4 rfl 0 2 rfl (by decide) k198 rfl rfl ?_
        refine J_get (pc := 64) (v := .int (q6 4 0)) C 32 rfl TB_l3 rfl 10 4 rfl (by decide) k264 rfl rfl ?_
        refine J_istore (pc := 67) (lv' := [(6, .int (q6 4 0)), (0, .ref aX), (1, .int x1_37), (2, .int x2_37), (3, .int x3_37), (4, .int x4_37), (5, .int x5_37)]) C 33 rfl (by decide) rfl ?_
        refine J_aload_n (pc := 69) C 34 rfl 1 rfl rfl ?_
        refine J_get (pc := 70) (v := .ref (aS2 0)) C 35 rfl TB_l4 rfl 0 3 rfl (by decide) k199 rfl rfl ?_
        obtain ⟨q7, hq7, h⟩ := bnd h
        refine J_callV (pc := 73) (st2 := []) (st3 := [.int q7]) (ws2 := (wEx aX (aT 0) (aT2 0) (aS 0) (aS2 0) (aP 0) (aH 0) aB aU ++ (wSch G aS (vS 0) (vS 1) (vS 2) (vS 3) (vS 4) (vS 5) (vS 6) (vS 7) (vS 8 0) (vS 9 0) ++ (wSeat G aT2 (aS2 0) (q6 1) (q6 2) (q6 3) (q6 4 0) (q6 5 0) (q6 6) (q6 7) (q6 8) ++ (wSch G aS2 (vS2_37 0) (vS2_37 1) (vS2_37 2) (vS2_37 3) (vS2_37 4) (vS2_37 5) (vS2_37 6) (vS2_37 7) (vS2_37 8 0) x5_37))))) C 36 rfl (c_X2_openDesks aS2 (up2 vS2_37 9 0 x5_37) hq7) V_X2_openDesks k311 i_X2_openDesks s_X2_openDesks rfl rfl ⟨Nat.le_of_ble_eq_true rfl, Nat.le_of_ble_eq_true rfl⟩ (Nat.le_of_ble_eq_true rfl) ⟨Nat.le_refl _, Nat.le_refl _⟩ 17 2 rfl rfl rfl (isC := [17, 18, 19, 20, 21, 22, 23, 24, 25]) (isR := [0, 1, 2, 3, 4, 5, 6, 7, 8, 9, 10, 11, 12, 13, 14, 15, 16]) (N := 26) ⟨rfl, by decide +kernel, rfl, by decide +kernel, rfl, ⟨⟨_, rfl, rfl⟩, ⟨⟨_, rfl, rfl⟩, ⟨⟨_, rfl, rfl⟩, ⟨⟨_, rfl, rfl⟩, ⟨⟨_, rfl, rfl⟩, ⟨⟨_, rfl, rfl⟩, ⟨⟨_, rfl, rfl⟩, ⟨⟨_, rfl, rfl⟩, ⟨⟨_, rfl, rfl⟩, ⟨⟨_, rfl, rfl⟩, ⟨⟨_, rfl, rfl⟩, ⟨⟨_, rfl, rfl⟩, ⟨⟨_, rfl, rfl⟩, ⟨⟨_, rfl, rfl⟩, ⟨⟨_, rfl, rfl⟩, ⟨⟨_, rfl, rfl⟩, ⟨⟨_, rfl, rfl⟩, trivial⟩⟩⟩⟩⟩⟩⟩⟩⟩⟩⟩⟩⟩⟩⟩⟩⟩⟩ rfl ?_
        refine J_istore (pc := 76) (lv' := [(7, .int q7), (6, .int (q6 4 0)), (0, .ref aX), (1, .int x1_37), (2, .int x2_37), (3, .int x3_37), (4, .int x4_37), (5, .int x5_37)]) C 37 rfl (by decide) rfl ?_
        refine J_iload (pc := 78) C 38 rfl 1 rfl ?_
        refine J_iload_n (pc := 80) C 39 rfl 5 rfl rfl ?_
        refine J_icmp_lt (pc := 81) (tgt := 97) C 40 rfl rfl (fun c8 => ?_) (fun c8 => ?_)
        · rw [if_pos c8] at h
          refine J_iload (pc := 97) C 47 rfl 7 rfl ?_
          refine J_istore_n (pc := 99) (lv' := [(2, .int x5_37), (7, .int q7), (6, .int (q6 4 0)), (0, .ref aX), (1, .int x1_37), (3, .int x3_37), (4, .int x4_37), (5, .int x5_37)]) C 48 rfl rfl (by decide) rfl ?_
          refine J_iload (pc := 100) C 49 rfl 2 rfl ?_
          refine J_istore_n (pc := 102) (lv' := [(3, .int (q6 4 0)), (2, .int x5_37), (7, .int q7), (6, .int (q6 4 0)), (0, .ref aX), (1, .int x1_37), (4, .int x4_37), (5, .int x5_37)]) C 50 rfl rfl (by decide) rfl ?_
          refine J_iload (pc := 103) C 51 rfl 2 rfl ?_
          refine J_istore (pc := 105) (lv' := [(4, .int q7), (3, .int (q6 4 0)), (2, .int x5_37), (7, .int q7), (6, .int (q6 4 0)), (0, .ref aX), (1, .int x1_37), (5, .int x5_37)]) C 52 rfl (by decide) rfl ?_
          refine J_iinc (pc := 107) (v := (x5_37 + (1 : Int32))) (lv' := [(5, .int (x5_37 + (1 : Int32))), (4, .int q7), (3, .int (q6 4 0)), (2, .int x5_37), (7, .int q7), (6, .int (q6 4 0)), (0, .ref aX), (1, .int x1_37)]) C 53 rfl 7 rfl rfl (by decide) rfl ?_
          refine J_goto (pc := 110) (tgt := 37) C 54 rfl rfl ?_
          exact J_sub [6, 7, 3, 2, 1, 0] rfl (ih37 q6 (up2 vS2_37 9 0 x5_37) x5_37 (q6 4 0) q7 (x5_37 + (1 : Int32)) h)
        · rw [if_neg c8] at h
          refine J_iload (pc := 84) C 41 rfl 1 rfl ?_
          refine J_iload_n (pc := 86) C 42 rfl 5 rfl rfl ?_
          refine J_icmp_ne (pc := 87) (tgt := 107) C 43 rfl rfl (fun c9 => ?_) (fun c9 => ?_)
          · rw [if_neg c9] at h
            refine J_iinc (pc := 107) (v := (x5_37 + (1 : Int32))) (lv' := [(5, .int (x5_37 + (1 : Int32))), (7, .int q7), (6, .int (q6 4 0)), (0, .ref aX), (1, .int x1_37), (2, .int x2_37), (3, .int x3_37), (4, .int x4_37)]) C 53 rfl 7 rfl rfl (by decide) rfl ?_
            refine J_goto (pc := 110) (tgt := 37) C 54 rfl rfl ?_
            exact J_sub [3, 4, 5, 6, 7, 0] rfl (ih37 q6 (up2 vS2_37 9 0 x5_37) x2_37 x3_37 x4_37 (x5_37 + (1 : Int32)) h)
          · rw [if_pos c9] at h
            refine J_iload (pc := 90) C 44 rfl 0 rfl ?_
            refine J_iload (pc := 92) C 45 rfl 6 rfl ?_
            refine J_icmp_ge (pc := 94) (tgt := 107) C 46 rfl rfl (fun c10 => ?_) (fun c10 => ?_)
            · rw [if_pos c10] at h
              refine J_iinc (pc := 107) (v := (x5_37 + (1 : Int32))) (lv' := [(5, .int (x5_37 + (1 : Int32))), (7, .int q7), (6, .int (q6 4 0)), (0, .ref aX), (1, .int x1_37), (2, .int x2_37), (3, .int x3_37), (4, .int x4_37)]) C 53 rfl 7 rfl rfl (by decide) rfl ?_
              refine J_goto (pc := 110) (tgt := 37) C 54 rfl rfl ?_
              exact J_sub [3, 4, 5, 6, 7, 0] rfl (ih37 q6 (up2 vS2_37 9 0 x5_37) x2_37 x3_37 x4_37 (x5_37 + (1 : Int32)) h)
            · rw [if_neg c10] at h
              refine J_iload (pc := 97) C 47 rfl 7 rfl ?_
              refine J_istore_n (pc := 99) (lv' := [(2, .int x5_37), (7, .int q7), (6, .int (q6 4 0)), (0, .ref aX), (1, .int x1_37), (3, .int x3_37), (4, .int x4_37), (5, .int x5_37)]) C 48 rfl rfl (by decide) rfl ?_
              refine J_iload (pc := 100) C 49 rfl 2 rfl ?_
              refine J_istore_n (pc := 102) (lv' := [(3, .int (q6 4 0)), (2, .int x5_37), (7, .int q7), (6, .int (q6 4 0)), (0, .ref aX), (1, .int x1_37), (4, .int x4_37), (5, .int x5_37)]) C 50 rfl rfl (by decide) rfl ?_
              refine J_iload (pc := 103) C 51 rfl 2 rfl ?_
              refine J_istore (pc := 105) (lv' := [(4, .int q7), (3, .int (q6 4 0)), (2, .int x5_37), (7, .int q7), (6, .int (q6 4 0)), (0, .ref aX), (1, .int x1_37), (5, .int x5_37)]) C 52 rfl (by decide) rfl ?_
              refine J_iinc (pc := 107) (v := (x5_37 + (1 : Int32))) (lv' := [(5, .int (x5_37 + (1 : Int32))), (4, .int q7), (3, .int (q6 4 0)), (2, .int x5_37), (7, .int q7), (6, .int (q6 4 0)), (0, .ref aX), (1, .int x1_37)]) C 53 rfl 7 rfl rfl (by decide) rfl ?_
              refine J_goto (pc := 110) (tgt := 37) C 54 rfl rfl ?_
              exact J_sub [6, 7, 3, 2, 1, 0] rfl (ih37 q6 (up2 vS2_37 9 0 x5_37) x5_37 (q6 4 0) q7 (x5_37 + (1 : Int32)) h)
  unfold f_X4_bestHalls at h
  refine J_iload_n (pc := 0) C 0 rfl 1 rfl rfl ?_
  refine J_iconst (pc := 1) (v := (0 : Int32)) C 1 rfl rfl ?_
  refine J_iconst (pc := 2) (v := (1 : Int32)) C 2 rfl rfl ?_
  obtain ⟨q1, hq1, h⟩ := bnd h
  refine J_callS (pc := 3) (st2 := []) (st3 := [.int q1]) (ws2 := (wEx aX (aT 0) (aT2 0) (aS 0) (aS2 0) (aP 0) (aH 0) aB aU ++ (wSch G aS (vS 0) (vS 1) (vS 2) (vS 3) (vS 4) (vS 5) (vS 6) (vS 7) (vS 8 0) (vS 9 0) ++ (wSeat G aT2 (aS2 0) (vT2 1) (vT2 2) (vT2 3) (vT2 4 0) (vT2 5 0) (vT2 6) (vT2 7) (vT2 8) ++ (wSch G aS2 (vS2 0) (vS2 1) (vS2 2) (vS2 3) (vS2 4) (vS2 5) (vS2 6) (vS2 7) (vS2 8 0) (vS2 9 0)))))) C 3 rfl (c_X4_isWithin x1 (0 : Int32) (1 : Int32) hq1) V_X4_isWithin k221 t_X4_isWithin rfl rfl ⟨Nat.le_of_ble_eq_true rfl, Nat.le_of_ble_eq_true rfl⟩ (Nat.le_of_ble_eq_true rfl) ⟨Nat.le_refl _, Nat.le_refl _⟩ (isC := []) (isR := [0, 1, 2, 3, 4, 5, 6, 7, 8, 9, 10, 11, 12, 13, 14, 15, 16, 17, 18, 19, 20, 21, 22, 23, 24, 25]) (N := 26) ⟨rfl, by decide +kernel, rfl, by decide +kernel, rfl, ⟨⟨_, rfl, rfl⟩, ⟨⟨_, rfl, rfl⟩, ⟨⟨_, rfl, rfl⟩, ⟨⟨_, rfl, rfl⟩, ⟨⟨_, rfl, rfl⟩, ⟨⟨_, rfl, rfl⟩, ⟨⟨_, rfl, rfl⟩, ⟨⟨_, rfl, rfl⟩, ⟨⟨_, rfl, rfl⟩, ⟨⟨_, rfl, rfl⟩, ⟨⟨_, rfl, rfl⟩, ⟨⟨_, rfl, rfl⟩, ⟨⟨_, rfl, rfl⟩, ⟨⟨_, rfl, rfl⟩, ⟨⟨_, rfl, rfl⟩, ⟨⟨_, rfl, rfl⟩, ⟨⟨_, rfl, rfl⟩, ⟨⟨_, rfl, rfl⟩, ⟨⟨_, rfl, rfl⟩, ⟨⟨_, rfl, rfl⟩, ⟨⟨_, rfl, rfl⟩, ⟨⟨_, rfl, rfl⟩, ⟨⟨_, rfl, rfl⟩, ⟨⟨_, rfl, rfl⟩, ⟨⟨_, rfl, rfl⟩, ⟨⟨_, rfl, rfl⟩, trivial⟩⟩⟩⟩⟩⟩⟩⟩⟩⟩⟩⟩⟩⟩⟩⟩⟩⟩⟩⟩⟩⟩⟩⟩⟩⟩⟩ rfl ?_
  refine J_if_ne (pc := 6) (tgt := 12) C 4 rfl rfl (fun c2 => ?_) (fun c2 => ?_)
  · rw [if_neg c2] at h
    refine J_iconst (pc := 12) (v := (0 : Int32)) C 7 rfl rfl ?_
    refine J_istore_n (pc := 13) (lv' := [(2, .int (0 : Int32)), (0, .ref aX), (1, .int x1)]) C 8 rfl rfl (by decide) rfl ?_
    refine J_sipush (pc := 14) (v := (1000 : Int32)) C 9 rfl rfl ?_
    refine J_istore_n (pc := 17) (lv' := [(3, .int (1000 : Int32)), (2, .int (0 : Int32)), (0, .ref aX), (1, .int x1)]) C 10 rfl rfl (by decide) rfl ?_
    refine J_sipush (pc := 18) (v := (1000 : Int32)) C 11 rfl rfl ?_
    refine J_istore (pc := 21) (lv' := [(4, .int (1000 : Int32)), (3, .int (1000 : Int32)), (2, .int (0 : Int32)), (0, .ref aX), (1, .int x1)]) C 12 rfl (by decide) rfl ?_
    refine J_aload_n (pc := 23) C 13 rfl 3 rfl rfl ?_
    refine J_get (pc := 24) (v := .ref (aS2 0)) C 14 rfl TB_l4 rfl 0 3 rfl (by decide) k199 rfl rfl ?_
    refine J_aload_n (pc := 27) C 15 rfl 3 rfl rfl ?_
    refine J_get (pc := 28) (v := .ref (aS 0)) C 16 rfl TB_l4 rfl 0 1 rfl (by decide) k197 rfl rfl ?_
    obtain ⟨q3, hq3, h⟩ := bnd h
    refine J_callV (pc := 31) (st2 := []) (st3 := []) (ws2 := (wEx aX (aT 0) (aT2 0) (aS 0) (aS2 0) (aP 0) (aH 0) aB aU ++ (wSch G aS (vS 0) (vS 1) (vS 2) (vS 3) (vS 4) (vS 5) (vS 6) (vS 7) (vS 8 0) (vS 9 0) ++ (wSeat G aT2 (aS2 0) (vT2 1) (vT2 2) (vT2 3) (vT2 4 0) (vT2 5 0) (vT2 6) (vT2 7) (vT2 8) ++ (wSch G aS2 (q3 0) (q3 1) (q3 2) (q3 3) (q3 4) (q3 5) (q3 6) (q3 7) (q3 8 0) (q3 9 0)))))) C 17 rfl (c_X2_copyFrom aS2 aS vS2 vS hq3) V_X2_copyFrom k325 i_X2_copyFrom s_X2_copyFrom rfl rfl ⟨Nat.le_of_ble_eq_true rfl, Nat.le_of_ble_eq_true rfl⟩ (Nat.le_of_ble_eq_true rfl) ⟨Nat.le_refl _, Nat.le_refl _⟩ 17 2 rfl rfl rfl (isC := [17, 18, 19, 20, 21, 22, 23, 24, 25, 1, 2, 3, 4, 5, 6, 7, 8, 9]) (isR := [0, 10, 11, 12, 13, 14, 15, 16]) (N := 26) ⟨rfl, by decide +kernel, rfl, by decide +kernel, rfl, ⟨⟨_, rfl, rfl⟩, ⟨⟨_, rfl, rfl⟩, ⟨⟨_, rfl, rfl⟩, ⟨⟨_, rfl, rfl⟩, ⟨⟨_, rfl, rfl⟩, ⟨⟨_, rfl, rfl⟩, ⟨⟨_, rfl, rfl⟩, ⟨⟨_, rfl, rfl⟩, trivial⟩⟩⟩⟩⟩⟩⟩⟩⟩ rfl ?_
    refine J_iconst (pc := 34) (v := (0 : Int32)) C 18 rfl rfl ?_
    refine J_istore (pc := 35) (lv' := [(5, .int (0 : Int32)), (4, .int (1000 : Int32)), (3, .int (1000 : Int32)), (2, .int (0 : Int32)), (0, .ref aX), (1, .int x1)]) C 19 rfl (by decide) rfl ?_
    exact J_sub [4, 5, 3, 2, 1, 0] rfl (B37 x1 FU vT2 q3 (0 : Int32) (1000 : Int32) (1000 : Int32) (0 : Int32) h)
  · rw [if_pos c2] at h
    refine J_bipush (pc := 9) (v := (-2 : Int32)) C 5 rfl rfl ?_
    cases h
    exact J_iret (pc := 11) C 6 rfl
def T_X4_leastRooms : List (Nat × ClassFile.Instr × Nat) := [(0, .aload_n 0, 1), (1, .getfield 24, 3), (4, .aload_n 0, 1), (5, .getfield 20, 3), (8, .invokevirtual 230, 3), (11, .iconst 0, 1), (12, .istore_n 1, 1), (13, .iload_n 1, 1), (14, .bipush 6, 2), (16, .if_icmp .gt 38, 3), (19, .aload_n 0, 1), (20, .getfield 24, 3), (23, .getfield 63, 3), (26, .iconst 1, 1), (27, .iload_n 1, 1), (28, .iastore, 1), (29, .aload_n 0, 1), (30, .getfield 21, 3), (33, .invokevirtual 52, 3), (36, .aload_n 0, 1), (37, .getfield 21, 3), (40, .getfield 233, 3), (43, .ifCond .ne 5, 3), (46, .iload_n 1, 1), (47, .ireturn, 1), (48, .iinc 1 1, 3), (51, .goto (-38), 3), (54, .bipush (-6), 2), (56, .ireturn, 1)]
theorem D_X4_leastRooms : ∀ q ∈ T_X4_leastRooms, decode cX4_leastRooms q.1 = .ok q.2 := by decide +kernel
theorem V_X4_leastRooms : Vy yX4_leastRooms cX4_leastRooms 2 (some .int) 0 := ⟨k330, k56, by decide +kernel⟩
theorem i_X4_leastRooms : Cond.instanceMethod yX4_leastRooms ∈ TB := k406
theorem s_X4_leastRooms : Cond.selects yX4_leastRooms.cls yX4_leastRooms yX4_leastRooms ∈ TB := k407
noncomputable def f_X4_leastRooms_b13 (vS : JV) (r13 : JV → JV → Int32 → Option (Int32 × JV × JV)) (vT2_13 : JV) (vS2_13 : JV) (x1_13 : Int32) : Option (Int32 × JV × JV) :=
  (if (6 : Int32) < x1_13 then some ((-6 : Int32), vT2_13, vS2_13) else (f_X3_seatAll vT2_13 (up2 vS2_13 0 1 x1_13)).bind (fun q3 => (if (q3 5 0) = 0 then some (x1_13, q3, (up2 vS2_13 0 1 x1_13)) else r13 q3 (up2 vS2_13 0 1 x1_13) (x1_13 + (1 : Int32)))))
noncomputable def f_X4_leastRooms_L13 (vS : JV) (n : Nat) (vT2_13 : JV) (vS2_13 : JV) (x1_13 : Int32) : Option (Int32 × JV × JV) :=
  lp (fun (rec : JV × JV × Int32 → Option (Int32 × JV × JV)) a => f_X4_leastRooms_b13 vS (fun vT2_13 vS2_13 x1_13 => rec (vT2_13, vS2_13, x1_13)) a.1 a.2.1 a.2.2) n (vT2_13, vS2_13, x1_13)
noncomputable def f_X4_leastRooms (vS : JV) (vT2 : JV) (vS2 : JV)  : Option (Int32 × JV × JV) :=
  (f_X2_copyFrom vS2 vS).bind (fun q1 => f_X4_leastRooms_L13 vS  FU vT2 q1 (0 : Int32))
set_option maxRecDepth 100000 in
set_option maxHeartbeats 4000000 in
theorem c_X4_leastRooms {l : Launch} {G : JG} (aX : Nat) (aT : Nat → Nat) (aS : Nat → Nat) (aT2 : Nat → Nat) (aS2 : Nat → Nat) (aP : Nat → Nat) (aH : Nat → Nat) (aB : Nat) (aU : Nat) (vS : JV) (vT2 : JV) (vS2 : JV)  {Rz : Int32 × JV × JV} (h : f_X4_leastRooms vS vT2 vS2 = some Rz) : JM l G yX4_leastRooms cX4_leastRooms 2 (some .int) 6 141 [.ref aX] (wEx aX (aT 0) (aT2 0) (aS 0) (aS2 0) (aP 0) (aH 0) aB aU ++ (wSch G aS (vS 0) (vS 1) (vS 2) (vS 3) (vS 4) (vS 5) (vS 6) (vS 7) (vS 8 0) (vS 9 0) ++ (wSeat G aT2 (aS2 0) (vT2 1) (vT2 2) (vT2 3) (vT2 4 0) (vT2 5 0) (vT2 6) (vT2 7) (vT2 8) ++ (wSch G aS2 (vS2 0) (vS2 1) (vS2 2) (vS2 3) (vS2 4) (vS2 5) (vS2 6) (vS2 7) (vS2 8 0) (vS2 9 0))))) (wEx aX (aT 0) (aT2 0) (aS 0) (aS2 0) (aP 0) (aH 0) aB aU ++ (wSch G aS (vS 0) (vS 1) (vS 2) (vS 3) (vS 4) (vS 5) (vS 6) (vS 7) (vS 8 0) (vS 9 0) ++ (wSeat G aT2 (aS2 0) ((Rz.2.1) 1) ((Rz.2.1) 2) ((Rz.2.1) 3) ((Rz.2.1) 4 0) ((Rz.2.1) 5 0) ((Rz.2.1) 6) ((Rz.2.1) 7) ((Rz.2.1) 8) ++ (wSch G aS2 ((Rz.2.2) 0) ((Rz.2.2) 1) ((Rz.2.2) 2) ((Rz.2.2) 3) ((Rz.2.2) 4) ((Rz.2.2) 5) ((Rz.2.2) 6) ((Rz.2.2) 7) ((Rz.2.2) 8 0) ((Rz.2.2) 9 0))))) (some (.int (Rz.1))) := by
  refine JM.of (own := RX4) (tb := T_X4_leastRooms) (by decide) (Nat.le_of_ble_eq_true rfl) D_X4_leastRooms rfl (fun X C => ?_)
  refine J_sub (lv' := [(0, .ref aX)]) [0] rfl ?_
  have B13 : ∀ (n13 : Nat) (vT2_13 : JV) (vS2_13 : JV) (x1_13 : Int32), f_X4_leastRooms_L13 vS n13 vT2_13 vS2_13 x1_13 = some Rz → J l { frames := 6, cells := 0, slots := 0, locals := 141 } G 2 X (QM X G 0 0 (some (.int (Rz.1))) (wEx aX (aT 0) (aT2 0) (aS 0) (aS2 0) (aP 0) (aH 0) aB aU ++ (wSch G aS (vS 0) (vS 1) (vS 2) (vS 3) (vS 4) (vS 5) (vS 6) (vS 7) (vS 8 0) (vS 9 0) ++ (wSeat G aT2 (aS2 0) ((Rz.2.1) 1) ((Rz.2.1) 2) ((Rz.2.1) 3) ((Rz.2.1) 4 0) ((Rz.2.1) 5 0) ((Rz.2.1) 6) ((Rz.2.1) 7) ((Rz.2.1) 8) ++ (wSch G aS2 ((Rz.2.2) 0) ((Rz.2.2) 1) ((Rz.2.2) 2) ((Rz.2.2) 3) ((Rz.2.2) 4) ((Rz.2.2) 5) ((Rz.2.2) 6) ((Rz.2.2) 7) ((Rz.2.2) 8 0) ((Rz.2.2) 9 0)))))) 0 0 13 [(0, .ref aX), (1, .int x1_13)] [] (wEx aX (aT 0) (aT2 0) (aS 0) (aS2 0) (aP 0) (aH 0) aB aU ++ (wSch G aS (vS 0) (vS 1) (vS 2) (vS 3) (vS 4) (vS 5) (vS 6) (vS 7) (vS 8 0) (vS 9 0) ++ (wSeat G aT2 (aS2 0) (vT2_13 1) (vT2_13 2) (vT2_13 3) (vT2_13 4 0) (vT2_13 5 0) (vT2_13 6) (vT2_13 7) (vT2_13 8) ++ (wSch G aS2 (vS2_13 0) (vS2_13 1) (vS2_13 2) (vS2_13 3) (vS2_13 4) (vS2_13 5) (vS2_13 6) (vS2_13 7) (vS2_13 8 0) (vS2_13 9 0))))) := by
    intro  n13
    induction n13 with
    | zero =>
      intro vT2_13 vS2_13 x1_13 h
      exact (no_none rfl h).elim
    | succ n13 ih13 =>
      intro vT2_13 vS2_13 x1_13 h
      replace h : f_X4_leastRooms_b13 vS (fun vT2_13 vS2_13 x1_13 => f_X4_leastRooms_L13 vS n13 vT2_13 vS2_13 x1_13) vT2_13 vS2_13 x1_13 = some Rz := h
      unfold f_X4_leastRooms_b13 at h
      refine J_iload_n (pc := 13) C 7 rfl 1 rfl rfl ?_
      refine J_bipush (pc := 14) (v := (6 : Int32)) C 8 rfl rfl ?_
      refine J_icmp_gt (pc := 16) (tgt := 54) C 9 rfl rfl (fun c2 => ?_) (fun c2 => ?_)
      · rw [if_pos c2] at h
        refine J_bipush (pc := 54) (v := (-6 : Int32)) C 27 rfl rfl ?_
        cases h
        exact J_iret (pc := 56) C 28 rfl
      · rw [if_neg c2] at h
        refine J_aload_n (pc := 19) C 10 rfl 0 rfl rfl ?_
        refine J_get (pc := 20) (v := .ref (aS2 0)) C 11 rfl TB_l4 rfl 0 3 rfl (by decide) k199 rfl rfl ?_
        refine J_get (pc := 23) (v := .ref (aS2 1)) C 12 rfl TB_l2 rfl 17 0 rfl (by decide) k220 rfl rfl ?_
        refine J_iconst (pc := 26) (v := (1 : Int32)) C 13 rfl rfl ?_
        refine J_iload_n (pc := 27) C 14 rfl 1 rfl rfl ?_
        refine J_iast (pc := 28) (f := (vS2_13 0)) (m := 1) C 15 (fun mm vv => (wEx aX (aT 0) (aT2 0) (aS 0) (aS2 0) (aP 0) (aH 0) aB aU ++ (wSch G aS (vS 0) (vS 1) (vS 2) (vS 3) (vS 4) (vS 5) (vS 6) (vS 7) (vS 8 0) (vS 9 0) ++ (wSeat G aT2 (aS2 0) (vT2_13 1) (vT2_13 2) (vT2_13 3) (vT2_13 4 0) (vT2_13 5 0) (vT2_13 6) (vT2_13 7) (vT2_13 8) ++ (wSch G aS2 (upd (vS2_13 0) mm vv) (vS2_13 1) (vS2_13 2) (vS2_13 3) (vS2_13 4) (vS2_13 5) (vS2_13 6) (vS2_13 7) (vS2_13 8 0) (vS2_13 9 0)))))) rfl 18 rfl rfl rfl (fun _ _ => rfl) ?_
        refine J_aload_n (pc := 29) C 16 rfl 0 rfl rfl ?_
        refine J_get (pc := 30) (v := .ref (aT2 0)) C 17 rfl TB_l4 rfl 0 2 rfl (by decide) k198 rfl rfl ?_
        obtain ⟨q3, hq3, h⟩ := bnd h
        refine J_callV (pc := 33) (st2 := []) (st3 := []) (ws2 := (wEx aX (aT 0) (aT2 0) (aS 0) (aS2 0) (aP 0) (aH 0) aB aU ++ (wSch G aS (vS 0) (vS 1) (vS 2) (vS 3) (vS 4) (vS 5) (vS 6) (vS 7) (vS 8 0) (vS 9 0) ++ (wSeat G aT2 (aS2 0) (q3 1) (q3 2) (q3 3) (q3 4 0) (q3 5 0) (q3 6) (q3 7) (q3 8) ++ (wSch G aS2 (upd (vS2_13 0) 1 x1_13) (vS2_13 1) (vS2_13 2) (vS2_13 3) (vS2_13 4) (vS2_13 5) (vS2_13 6) (vS2_13 7) (vS2_13 8 0) (vS2_13 9 0)))))) C 18 rfl (c_X3_seatAll aT2 aS2 vT2_13 (up2 vS2_13 0 1 x1_13) hq3) V_X3_seatAll k214 i_X3_seatAll s_X3_seatAll rfl rfl ⟨Nat.le_of_ble_eq_true rfl, Nat.le_of_ble_eq_true rfl⟩ (Nat.le_of_ble_eq_true rfl) ⟨Nat.le_refl _, Nat.le_refl _⟩ 10 3 rfl rfl rfl (isC := [10, 11, 12, 13, 14, 15, 16, 17, 18, 19, 20, 21, 22, 23, 24, 25]) (isR := [0, 1, 2, 3, 4, 5, 6, 7, 8, 9]) (N := 26) ⟨rfl, by decide +kernel, rfl, by decide +kernel, rfl, ⟨⟨_, rfl, rfl⟩, ⟨⟨_, rfl, rfl⟩, ⟨⟨_, rfl, rfl⟩, ⟨⟨_, rfl, rfl⟩, ⟨⟨_, rfl, rfl⟩, ⟨⟨_, rfl, rfl⟩, ⟨⟨_, rfl, rfl⟩, ⟨⟨_, rfl, rfl⟩, ⟨⟨_, rfl, rfl⟩, ⟨⟨_, rfl, rfl⟩, trivial⟩⟩⟩⟩⟩⟩⟩⟩⟩⟩⟩ rfl ?_
        refine J_aload_n (pc := 36) C 19 rfl 0 rfl rfl ?_
        refine J_get (pc := 37) (v := .ref (aT2 0)) C 20 rfl TB_l4 rfl 0 2 rfl (by decide) k198 rfl rfl ?_
        refine J_get (pc := 40) (v := .int (q3 5 0)) C 21 rfl TB_l3 rfl 10 5 rfl (by decide) k329 rfl rfl ?_
        refine J_if_ne (pc := 43) (tgt := 48) C 22 rfl rfl (fun c4 => ?_) (fun c4 => ?_)
        · rw [if_neg c4] at h
          refine J_iinc (pc := 48) (v := (x1_13 + (1 : Int32))) (lv' := [(1, .int (x1_13 + (1 : Int32))), (0, .ref aX)]) C 25 rfl 1 rfl rfl (by decide) rfl ?_
          refine J_goto (pc := 51) (tgt := 13) C 26 rfl rfl ?_
          exact J_sub [1, 0] rfl (ih13 q3 (up2 vS2_13 0 1 x1_13) (x1_13 + (1 : Int32)) h)
        · rw [if_pos c4] at h
          refine J_iload_n (pc := 46) C 23 rfl 1 rfl rfl ?_
          cases h
          exact J_iret (pc := 47) C 24 rfl
  unfold f_X4_leastRooms at h
  refine J_aload_n (pc := 0) C 0 rfl 0 rfl rfl ?_
  refine J_get (pc := 1) (v := .ref (aS2 0)) C 1 rfl TB_l4 rfl 0 3 rfl (by decide) k199 rfl rfl ?_
  refine J_aload_n (pc := 4) C 2 rfl 0 rfl rfl ?_
  refine J_get (pc := 5) (v := .ref (aS 0)) C 3 rfl TB_l4 rfl 0 1 rfl (by decide) k197 rfl rfl ?_
  obtain ⟨q1, hq1, h⟩ := bnd h
  refine J_callV (pc := 8) (st2 := []) (st3 := []) (ws2 := (wEx aX (aT 0) (aT2 0) (aS 0) (aS2 0) (aP 0) (aH 0) aB aU ++ (wSch G aS (vS 0) (vS 1) (vS 2) (vS 3) (vS 4) (vS 5) (vS 6) (vS 7) (vS 8 0) (vS 9 0) ++ (wSeat G aT2 (aS2 0) (vT2 1) (vT2 2) (vT2 3) (vT2 4 0) (vT2 5 0) (vT2 6) (vT2 7) (vT2 8) ++ (wSch G aS2 (q1 0) (q1 1) (q1 2) (q1 3) (q1 4) (q1 5) (q1 6) (q1 7) (q1 8 0) (q1 9 0)))))) C 4 rfl (c_X2_copyFrom aS2 aS vS2 vS hq1) V_X2_copyFrom k325 i_X2_copyFrom s_X2_copyFrom rfl rfl ⟨Nat.le_of_ble_eq_true rfl, Nat.le_of_ble_eq_true rfl⟩ (Nat.le_of_ble_eq_true rfl) ⟨Nat.le_refl _, Nat.le_refl _⟩ 17 2 rfl rfl rfl (isC := [17, 18, 19, 20, 21, 22, 23, 24, 25, 1, 2, 3, 4, 5, 6, 7, 8, 9]) (isR := [0, 10, 11, 12, 13, 14, 15, 16]) (N := 26) ⟨rfl, by decide +kernel, rfl, by decide +kernel, rfl, ⟨⟨_, rfl, rfl⟩, ⟨⟨_, rfl, rfl⟩, ⟨⟨_, rfl, rfl⟩, ⟨⟨_, rfl, rfl⟩, ⟨⟨_, rfl, rfl⟩, ⟨⟨_, rfl, rfl⟩, ⟨⟨_, rfl, rfl⟩, ⟨⟨_, rfl, rfl⟩, trivial⟩⟩⟩⟩⟩⟩⟩⟩⟩ rfl ?_
  refine J_iconst (pc := 11) (v := (0 : Int32)) C 5 rfl rfl ?_
  refine J_istore_n (pc := 12) (lv' := [(1, .int (0 : Int32)), (0, .ref aX)]) C 6 rfl rfl (by decide) rfl ?_
  exact J_sub [1, 0] rfl (B13  FU vT2 q1 (0 : Int32) h)
def T_X4_undo : List (Nat × ClassFile.Instr × Nat) := [(0, .aload_n 0, 1), (1, .getfield 37, 3), (4, .getfield 223, 3), (7, .ifCond .ne 6, 3), (10, .bipush (-5), 2), (12, .ireturn, 1), (13, .aload_n 0, 1), (14, .getfield 37, 3), (17, .aload_n 0, 1), (18, .getfield 20, 3), (21, .invokevirtual 244, 3), (24, .aload_n 0, 1), (25, .getfield 12, 3), (28, .invokevirtual 52, 3), (31, .aload_n 0, 1), (32, .getfield 37, 3), (35, .getfield 223, 3), (38, .ireturn, 1)]
theorem D_X4_undo : ∀ q ∈ T_X4_undo, decode cX4_undo q.1 = .ok q.2 := by decide +kernel
theorem V_X4_undo : Vy yX4_undo cX4_undo 1 (some .int) 0 := ⟨k334, k56, by decide +kernel⟩
theorem i_X4_undo : Cond.instanceMethod yX4_undo ∈ TB := k414
theorem s_X4_undo : Cond.selects yX4_undo.cls yX4_undo yX4_undo ∈ TB := k415
noncomputable def f_X4_undo (vT : JV) (vS : JV) (hA : Nat → Nat → Nat) (hV : Nat → JV) (hZ : JV)  : Option (Int32 × JV × JV × JV) :=
  (if (hZ 1 0) = 0 then some ((-5 : Int32), vT, vS, hZ) else (f_X0_takeBack vS hA hV hZ).bind (fun q2 => (f_X3_seatAll vT (q2.1)).bind (fun q3 => some (((q2.2) 1 0), q3, (q2.1), (q2.2)))))
set_option maxRecDepth 100000 in
set_option maxHeartbeats 4000000 in
theorem c_X4_undo {l : Launch} {G : JG} (aX : Nat) (aT : Nat → Nat) (aS : Nat → Nat) (aT2 : Nat → Nat) (aS2 : Nat → Nat) (aP : Nat → Nat) (aH : Nat → Nat) (aB : Nat) (aU : Nat) (vT : JV) (vS : JV) (hA : Nat → Nat → Nat) (hV : Nat → JV) (hZ : JV)  {Rz : Int32 × JV × JV × JV} (h : f_X4_undo vT vS hA hV hZ = some Rz) : JM l G yX4_undo cX4_undo 1 (some .int) 6 141 [.ref aX] (wEx aX (aT 0) (aT2 0) (aS 0) (aS2 0) (aP 0) (aH 0) aB aU ++ (wSeat G aT (aS 0) (vT 1) (vT 2) (vT 3) (vT 4 0) (vT 5 0) (vT 6) (vT 7) (vT 8) ++ (wSch G aS (vS 0) (vS 1) (vS 2) (vS 3) (vS 4) (vS 5) (vS 6) (vS 7) (vS 8 0) (vS 9 0) ++ (wHis G aH hA hV (hZ 1 0))))) (wEx aX (aT 0) (aT2 0) (aS 0) (aS2 0) (aP 0) (aH 0) aB aU ++ (wSeat G aT (aS 0) ((Rz.2.1) 1) ((Rz.2.1) 2) ((Rz.2.1) 3) ((Rz.2.1) 4 0) ((Rz.2.1) 5 0) ((Rz.2.1) 6) ((Rz.2.1) 7) ((Rz.2.1) 8) ++ (wSch G aS ((Rz.2.2.1) 0) ((Rz.2.2.1) 1) ((Rz.2.2.1) 2) ((Rz.2.2.1) 3) ((Rz.2.2.1) 4) ((Rz.2.2.1) 5) ((Rz.2.2.1) 6) ((Rz.2.2.1) 7) ((Rz.2.2.1) 8 0) ((Rz.2.2.1) 9 0) ++ (wHis G aH hA hV ((Rz.2.2.2) 1 0))))) (some (.int (Rz.1))) := by
  refine JM.of (own := RX4) (tb := T_X4_undo) (by decide) (Nat.le_of_ble_eq_true rfl) D_X4_undo rfl (fun X C => ?_)
  refine J_sub (lv' := [(0, .ref aX)]) [0] rfl ?_
  unfold f_X4_undo at h
  refine J_aload_n (pc := 0) C 0 rfl 0 rfl rfl ?_
  refine J_get (pc := 1) (v := .ref (aH 0)) C 1 rfl TB_l4 rfl 0 5 rfl (by decide) k206 rfl rfl ?_
  refine J_get (pc := 4) (v := .int (hZ 1 0)) C 2 rfl TB_l0 rfl 17 1 rfl (by decide) k304 rfl rfl ?_
  refine J_if_ne (pc := 7) (tgt := 13) C 3 rfl rfl (fun c1 => ?_) (fun c1 => ?_)
  · rw [if_neg c1] at h
    refine J_aload_n (pc := 13) C 6 rfl 0 rfl rfl ?_
    refine J_get (pc := 14) (v := .ref (aH 0)) C 7 rfl TB_l4 rfl 0 5 rfl (by decide) k206 rfl rfl ?_
    refine J_aload_n (pc := 17) C 8 rfl 0 rfl rfl ?_
    refine J_get (pc := 18) (v := .ref (aS 0)) C 9 rfl TB_l4 rfl 0 1 rfl (by decide) k197 rfl rfl ?_
    obtain ⟨q2, hq2, h⟩ := bnd h
    refine J_callV (pc := 21) (st2 := []) (st3 := []) (ws2 := (wEx aX (aT 0) (aT2 0) (aS 0) (aS2 0) (aP 0) (aH 0) aB aU ++ (wSeat G aT (aS 0) (vT 1) (vT 2) (vT 3) (vT 4 0) (vT 5 0) (vT 6) (vT 7) (vT 8) ++ (wSch G aS ((q2.1) 0) ((q2.1) 1) ((q2.1) 2) ((q2.1) 3) ((q2.1) 4) ((q2.1) 5) ((q2.1) 6) ((q2.1) 7) ((q2.1) 8 0) ((q2.1) 9 0) ++ (wHis G aH hA hV ((q2.2) 1 0)))))) C 10 rfl (c_X0_takeBack aS aH vS hA hV hZ hq2) V_X0_takeBack k331 i_X0_takeBack s_X0_takeBack rfl rfl ⟨Nat.le_of_ble_eq_true rfl, Nat.le_of_ble_eq_true rfl⟩ (Nat.le_of_ble_eq_true rfl) ⟨Nat.le_refl _, Nat.le_refl _⟩ 17 0 rfl rfl rfl (isC := [8, 9, 10, 11, 12, 13, 14, 15, 16, 17, 18, 19, 20, 21, 22, 23, 24, 25, 26, 27, 28, 29, 30, 31, 32, 33, 34, 35, 36, 37, 38, 39, 40, 41, 42, 43, 44, 45, 46, 47, 48, 49, 50, 51, 52, 53, 54, 55, 56, 57, 58, 59, 60, 61, 62, 63, 64, 65, 66, 67, 68, 69, 70, 71, 72]) (isR := [0, 1, 2, 3, 4, 5, 6, 7]) (N := 73) ⟨rfl, by decide +kernel, rfl, by decide +kernel, rfl, ⟨⟨_, rfl, rfl⟩, ⟨⟨_, rfl, rfl⟩, ⟨⟨_, rfl, rfl⟩, ⟨⟨_, rfl, rfl⟩, ⟨⟨_, rfl, rfl⟩, ⟨⟨_, rfl, rfl⟩, ⟨⟨_, rfl, rfl⟩, ⟨⟨_, rfl, rfl⟩, trivial⟩⟩⟩⟩⟩⟩⟩⟩⟩ rfl ?_
    refine J_aload_n (pc := 24) C 11 rfl 0 rfl rfl ?_
    refine J_get (pc := 25) (v := .ref (aT 0)) C 12 rfl TB_l4 rfl 0 0 rfl (by decide) k195 rfl rfl ?_
    obtain ⟨q3, hq3, h⟩ := bnd h
    refine J_callV (pc := 28) (st2 := []) (st3 := []) (ws2 := (wEx aX (aT 0) (aT2 0) (aS 0) (aS2 0) (aP 0) (aH 0) aB aU ++ (wSeat G aT (aS 0) (q3 1) (q3 2) (q3 3) (q3 4 0) (q3 5 0) (q3 6) (q3 7) (q3 8) ++ (wSch G aS ((q2.1) 0) ((q2.1) 1) ((q2.1) 2) ((q2.1) 3) ((q2.1) 4) ((q2.1) 5) ((q2.1) 6) ((q2.1) 7) ((q2.1) 8 0) ((q2.1) 9 0) ++ (wHis G aH hA hV ((q2.2) 1 0)))))) C 13 rfl (c_X3_seatAll aT aS vT (q2.1) hq3) V_X3_seatAll k214 i_X3_seatAll s_X3_seatAll rfl rfl ⟨Nat.le_of_ble_eq_true rfl, Nat.le_of_ble_eq_true rfl⟩ (Nat.le_of_ble_eq_true rfl) ⟨Nat.le_refl _, Nat.le_refl _⟩ 1 3 rfl rfl rfl (isC := [1, 2, 3, 4, 5, 6, 7, 8, 9, 10, 11, 12, 13, 14, 15, 16]) (isR := [0, 17, 18, 19, 20, 21, 22, 23, 24, 25, 26, 27, 28, 29, 30, 31, 32, 33, 34, 35, 36, 37, 38, 39, 40, 41, 42, 43, 44, 45, 46, 47, 48, 49, 50, 51, 52, 53, 54, 55, 56, 57, 58, 59, 60, 61, 62, 63, 64, 65, 66, 67, 68, 69, 70, 71, 72]) (N := 73) ⟨rfl, by decide +kernel, rfl, by decide +kernel, rfl, ⟨⟨_, rfl, rfl⟩, ⟨⟨_, rfl, rfl⟩, ⟨⟨_, rfl, rfl⟩, ⟨⟨_, rfl, rfl⟩, ⟨⟨_, rfl, rfl⟩, ⟨⟨_, rfl, rfl⟩, ⟨⟨_, rfl, rfl⟩, ⟨⟨_, rfl, rfl⟩, ⟨⟨_, rfl, rfl⟩, ⟨⟨_, rfl, rfl⟩, ⟨⟨_, rfl, rfl⟩, ⟨⟨_, rfl, rfl⟩, ⟨⟨_, rfl, rfl⟩, ⟨⟨_, rfl, rfl⟩, ⟨⟨_, rfl, rfl⟩, ⟨⟨_, rfl, rfl⟩, ⟨⟨_, rfl, rfl⟩, ⟨⟨_, rfl, rfl⟩, ⟨⟨_, rfl, rfl⟩, ⟨⟨_, rfl, rfl⟩, ⟨⟨_, rfl, rfl⟩, ⟨⟨_, rfl, rfl⟩, ⟨⟨_, rfl, rfl⟩, ⟨⟨_, rfl, rfl⟩, ⟨⟨_, rfl, rfl⟩, ⟨⟨_, rfl, rfl⟩, ⟨⟨_, rfl, rfl⟩, ⟨⟨_, rfl, rfl⟩, ⟨⟨_, rfl, rfl⟩, ⟨⟨_, rfl, rfl⟩, ⟨⟨_, rfl, rfl⟩, ⟨⟨_, rfl, rfl⟩, ⟨⟨_, rfl, rfl⟩, ⟨⟨_, rfl, rfl⟩, ⟨⟨_, rfl, rfl⟩, ⟨⟨_, rfl, rfl⟩, ⟨⟨_, rfl, rfl⟩, ⟨⟨_, rfl, rfl⟩, ⟨⟨_, rfl, rfl⟩, ⟨⟨_, rfl, rfl⟩, ⟨⟨_, rfl, rfl⟩, ⟨⟨_, rfl, rfl⟩, ⟨⟨_, rfl, rfl⟩, ⟨⟨_, rfl, rfl⟩, ⟨⟨_, rfl, rfl⟩, ⟨⟨_, rfl, rfl⟩, ⟨⟨_, rfl, rfl⟩, ⟨⟨_, rfl, rfl⟩, ⟨⟨_, rfl, rfl⟩, ⟨⟨_, rfl, rfl⟩, ⟨⟨_, rfl, rfl⟩, ⟨⟨_, rfl, rfl⟩, ⟨⟨_, rfl, rfl⟩, ⟨⟨_, rfl, rfl⟩, ⟨⟨_, rfl, rfl⟩, ⟨⟨_, rfl, rfl⟩, ⟨⟨_, rfl, rfl⟩, trivial⟩⟩⟩⟩⟩⟩⟩⟩⟩⟩⟩⟩⟩⟩⟩⟩⟩⟩⟩⟩⟩⟩⟩⟩⟩⟩⟩⟩⟩⟩⟩⟩⟩⟩⟩⟩⟩⟩⟩⟩⟩⟩⟩⟩⟩⟩⟩⟩⟩⟩⟩⟩⟩⟩⟩⟩⟩⟩ rfl ?_
    refine J_aload_n (pc := 31) C 14 rfl 0 rfl rfl ?_
    refine J_get (pc := 32) (v := .ref (aH 0)) C 15 rfl TB_l4 rfl 0 5 rfl (by decide) k206 rfl rfl ?_
    refine J_get (pc := 35) (v := .int ((q2.2) 1 0)) C 16 rfl TB_l0 rfl 17 1 rfl (by decide) k304 rfl rfl ?_
    cases h
    exact J_iret (pc := 38) C 17 rfl
  · rw [if_pos c1] at h
    refine J_bipush (pc := 10) (v := (-5 : Int32)) C 4 rfl rfl ?_
    cases h
    exact J_iret (pc := 12) C 5 rfl
def T_X4_save : List (Nat × ClassFile.Instr × Nat) := [(0, .iload_n 1, 1), (1, .invokestatic 247, 3), (4, .ifCond .ne 6, 3), (7, .bipush (-2), 2), (9, .ireturn, 1), (10, .aload_n 0, 1), (11, .getfield 44, 3), (14, .iload_n 1, 1), (15, .aaload, 1), (16, .aload_n 0, 1), (17, .getfield 20, 3), (20, .invokevirtual 230, 3), (23, .aload_n 0, 1), (24, .getfield 48, 3), (27, .iload_n 1, 1), (28, .iconst 1, 1), (29, .bastore, 1), (30, .aload_n 0, 1), (31, .getfield 20, 3), (34, .getfield 87, 3), (37, .ireturn, 1)]
theorem D_X4_save : ∀ q ∈ T_X4_save, decode cX4_save q.1 = .ok q.2 := by decide +kernel
theorem V_X4_save : Vy yX4_save cX4_save 2 (some .int) 1 := ⟨k338, k56, by decide +kernel⟩
theorem i_X4_save : Cond.instanceMethod yX4_save ∈ TB := k431
theorem s_X4_save : Cond.selects yX4_save.cls yX4_save yX4_save ∈ TB := k432
noncomputable def f_X4_save (vS : JV) (sV : Nat → JV) (vU : JV) (x1 : Int32) : Option (Int32 × (Nat → JV) × JV) :=
  (f_X4_isSlot x1).bind (fun q1 => (if q1 = 0 then some ((-2 : Int32), sV, vU) else gd (inb x1 2) ((if x1 = (0 : Int32) then (f_X2_copyFrom (sV 0) vS).bind (fun q5 => gd (inb x1 2) (some ((vS 8 0), (up1 sV 0 q5), (up2 vU 0 (Int32.toNatClampNeg x1) (1 : Int32))))) else (if x1 = (1 : Int32) then (f_X2_copyFrom (sV 1) vS).bind (fun q8 => gd (inb x1 2) (some ((vS 8 0), (up1 sV 1 q8), (up2 vU 0 (Int32.toNatClampNeg x1) (1 : Int32))))) else none)))))
set_option maxRecDepth 100000 in
set_option maxHeartbeats 4000000 in
theorem c_X4_save {l : Launch} {G : JG} (aX : Nat) (aT : Nat → Nat) (aS : Nat → Nat) (aT2 : Nat → Nat) (aS2 : Nat → Nat) (aP : Nat → Nat) (aH : Nat → Nat) (aB : Nat) (aU : Nat) (sA : Nat → Nat → Nat) (vS : JV) (sV : Nat → JV) (vU : JV) (x1 : Int32) {Rz : Int32 × (Nat → JV) × JV} (h : f_X4_save vS sV vU x1 = some Rz) : JM l G yX4_save cX4_save 2 (some .int) 2 42 [.ref aX, .int x1] (wEx aX (aT 0) (aT2 0) (aS 0) (aS2 0) (aP 0) (aH 0) aB aU ++ (wSch G aS (vS 0) (vS 1) (vS 2) (vS 3) (vS 4) (vS 5) (vS 6) (vS 7) (vS 8 0) (vS 9 0) ++ (wSlots G aB sA sV ++ (wUsed G aU (vU 0))))) (wEx aX (aT 0) (aT2 0) (aS 0) (aS2 0) (aP 0) (aH 0) aB aU ++ (wSch G aS (vS 0) (vS 1) (vS 2) (vS 3) (vS 4) (vS 5) (vS 6) (vS 7) (vS 8 0) (vS 9 0) ++ (wSlots G aB sA (Rz.2.1) ++ (wUsed G aU ((Rz.2.2) 0))))) (some (.int (Rz.1))) := by
  refine JM.of (own := RX4) (tb := T_X4_save) (by decide) (Nat.le_of_ble_eq_true rfl) D_X4_save rfl (fun X C => ?_)
  refine J_sub (lv' := [(0, .ref aX), (1, .int x1)]) [0, 1] rfl ?_
  unfold f_X4_save at h
  refine J_iload_n (pc := 0) C 0 rfl 1 rfl rfl ?_
  obtain ⟨q1, hq1, h⟩ := bnd h
  refine J_callS (pc := 1) (st2 := []) (st3 := [.int q1]) (ws2 := (wEx aX (aT 0) (aT2 0) (aS 0) (aS2 0) (aP 0) (aH 0) aB aU ++ (wSch G aS (vS 0) (vS 1) (vS 2) (vS 3) (vS 4) (vS 5) (vS 6) (vS 7) (vS 8 0) (vS 9 0) ++ (wSlots G aB sA sV ++ (wUsed G aU (vU 0)))))) C 1 rfl (c_X4_isSlot x1 hq1) V_X4_isSlot k336 t_X4_isSlot rfl rfl ⟨Nat.le_of_ble_eq_true rfl, Nat.le_of_ble_eq_true rfl⟩ (Nat.le_of_ble_eq_true rfl) ⟨Nat.le_refl _, Nat.le_refl _⟩ (isC := []) (isR := [0, 1, 2, 3, 4, 5, 6, 7, 8, 9, 10, 11, 12, 13, 14, 15, 16, 17, 18, 19, 20, 21, 22, 23, 24, 25, 26, 27, 28, 29]) (N := 30) ⟨rfl, by decide +kernel, rfl, by decide +kernel, rfl, ⟨⟨_, rfl, rfl⟩, ⟨⟨_, rfl, rfl⟩, ⟨⟨_, rfl, rfl⟩, ⟨⟨_, rfl, rfl⟩, ⟨⟨_, rfl, rfl⟩, ⟨⟨_, rfl, rfl⟩, ⟨⟨_, rfl, rfl⟩, ⟨⟨_, rfl, rfl⟩, ⟨⟨_, rfl, rfl⟩, ⟨⟨_, rfl, rfl⟩, ⟨⟨_, rfl, rfl⟩, ⟨⟨_, rfl, rfl⟩, ⟨⟨_, rfl, rfl⟩, ⟨⟨_, rfl, rfl⟩, ⟨⟨_, rfl, rfl⟩, ⟨⟨_, rfl, rfl⟩, ⟨⟨_, rfl, rfl⟩, ⟨⟨_, rfl, rfl⟩, ⟨⟨_, rfl, rfl⟩, ⟨⟨_, rfl, rfl⟩, ⟨⟨_, rfl, rfl⟩, ⟨⟨_, rfl, rfl⟩, ⟨⟨_, rfl, rfl⟩, ⟨⟨_, rfl, rfl⟩, ⟨⟨_, rfl, rfl⟩, ⟨⟨_, rfl, rfl⟩, ⟨⟨_, rfl, rfl⟩, ⟨⟨_, rfl, rfl⟩, ⟨⟨_, rfl, rfl⟩, ⟨⟨_, rfl, rfl⟩, trivial⟩⟩⟩⟩⟩⟩⟩⟩⟩⟩⟩⟩⟩⟩⟩⟩⟩⟩⟩⟩⟩⟩⟩⟩⟩⟩⟩⟩⟩⟩⟩ rfl ?_
  refine J_if_ne (pc := 4) (tgt := 10) C 2 rfl rfl (fun c2 => ?_) (fun c2 => ?_)
  · rw [if_neg c2] at h
    refine J_aload_n (pc := 10) C 5 rfl 0 rfl rfl ?_
    refine J_get (pc := 11) (v := .ref aB) C 6 rfl TB_l4 rfl 0 6 rfl (by decide) k208 rfl rfl ?_
    refine J_iload_n (pc := 14) C 7 rfl 1 rfl rfl ?_
    obtain ⟨g3, h⟩ := gd_some h
    by_cases c4 : x1 = (0 : Int32)
    · rw [if_pos c4] at h
      refine J_aald (pc := 15) (v := ((sA 0) 0)) (f := fun i => some (sA i 0)) C 8 rfl 10 rfl g3 (by rw [c4]; rfl) ?_
      refine J_aload_n (pc := 16) C 9 rfl 0 rfl rfl ?_
      refine J_get (pc := 17) (v := .ref (aS 0)) C 10 rfl TB_l4 rfl 0 1 rfl (by decide) k197 rfl rfl ?_
      obtain ⟨q5, hq5, h⟩ := bnd h
      refine J_callV (pc := 20) (st2 := []) (st3 := []) (ws2 := (wEx aX (aT 0) (aT2 0) (aS 0) (aS2 0) (aP 0) (aH 0) aB aU ++ (wSch G aS (vS 0) (vS 1) (vS 2) (vS 3) (vS 4) (vS 5) (vS 6) (vS 7) (vS 8 0) (vS 9 0) ++ (wSlots G aB sA (up1 sV 0 q5) ++ (wUsed G aU (vU 0)))))) C 11 rfl (c_X2_copyFrom (sA 0) aS (sV 0) vS hq5) V_X2_copyFrom k325 i_X2_copyFrom s_X2_copyFrom rfl rfl ⟨Nat.le_of_ble_eq_true rfl, Nat.le_of_ble_eq_true rfl⟩ (Nat.le_of_ble_eq_true rfl) ⟨Nat.le_refl _, Nat.le_refl _⟩ 11 2 rfl rfl rfl (isC := [11, 12, 13, 14, 15, 16, 17, 18, 19, 1, 2, 3, 4, 5, 6, 7, 8, 9]) (isR := [0, 10, 20, 21, 22, 23, 24, 25, 26, 27, 28, 29]) (N := 30) ⟨rfl, by decide +kernel, rfl, by decide +kernel, rfl, ⟨⟨_, rfl, rfl⟩, ⟨⟨_, rfl, rfl⟩, ⟨⟨_, rfl, rfl⟩, ⟨⟨_, rfl, rfl⟩, ⟨⟨_, rfl, rfl⟩, ⟨⟨_, rfl, rfl⟩, ⟨⟨_, rfl, rfl⟩, ⟨⟨_, rfl, rfl⟩, ⟨⟨_, rfl, rfl⟩, ⟨⟨_, rfl, rfl⟩, ⟨⟨_, rfl, rfl⟩, ⟨⟨_, rfl, rfl⟩, trivial⟩⟩⟩⟩⟩⟩⟩⟩⟩⟩⟩⟩⟩ rfl ?_
      refine J_aload_n (pc := 23) C 12 rfl 0 rfl rfl ?_
      refine J_get (pc := 24) (v := .ref aU) C 13 rfl TB_l4 rfl 0 7 rfl (by decide) k209 rfl rfl ?_
      refine J_iload_n (pc := 27) C 14 rfl 1 rfl rfl ?_
      refine J_iconst (pc := 28) (v := (1 : Int32)) C 15 rfl rfl ?_
      obtain ⟨g6, h⟩ := gd_some h
      refine J_zast (pc := 29) (f := (vU 0)) (m := (Int32.toNatClampNeg x1)) C 16 (fun mm vv => (wEx aX (aT 0) (aT2 0) (aS 0) (aS2 0) (aP 0) (aH 0) aB aU ++ (wSch G aS (vS 0) (vS 1) (vS 2) (vS 3) (vS 4) (vS 5) (vS 6) (vS 7) (vS 8 0) (vS 9 0) ++ (wSlots G aB sA (up1 sV 0 q5) ++ (wUsed G aU (upd (vU 0) mm vv)))))) rfl 29 rfl g6 rfl rfl (fun _ _ => rfl) ?_
      refine J_aload_n (pc := 30) C 17 rfl 0 rfl rfl ?_
      refine J_get (pc := 31) (v := .ref (aS 0)) C 18 rfl TB_l4 rfl 0 1 rfl (by decide) k197 rfl rfl ?_
      refine J_get (pc := 34) (v := .int (vS 8 0)) C 19 rfl TB_l2 rfl 1 8 rfl (by decide) k237 rfl rfl ?_
      cases h
      exact J_iret (pc := 37) C 20 rfl
    · rw [if_neg c4] at h
      by_cases c7 : x1 = (1 : Int32)
      · rw [if_pos c7] at h
        refine J_aald (pc := 15) (v := ((sA 1) 0)) (f := fun i => some (sA i 0)) C 8 rfl 10 rfl g3 (by rw [c7]; rfl) ?_
        refine J_aload_n (pc := 16) C 9 rfl 0 rfl rfl ?_
        refine J_get (pc := 17) (v := .ref (aS 0)) C 10 rfl TB_l4 rfl 0 1 rfl (by decide) k197 rfl rfl ?_
        obtain ⟨q8, hq8, h⟩ := bnd h
        refine J_callV (pc := 20) (st2 := []) (st3 := []) (ws2 := (wEx aX (aT 0) (aT2 0) (aS 0) (aS2 0) (aP 0) (aH 0) aB aU ++ (wSch G aS (vS 0) (vS 1) (vS 2) (vS 3) (vS 4) (vS 5) (vS 6) (vS 7) (vS 8 0) (vS 9 0) ++ (wSlots G aB sA (up1 sV 1 q8) ++ (wUsed G aU (vU 0)))))) C 11 rfl (c_X2_copyFrom (sA 1) aS (sV 1) vS hq8) V_X2_copyFrom k325 i_X2_copyFrom s_X2_copyFrom rfl rfl ⟨Nat.le_of_ble_eq_true rfl, Nat.le_of_ble_eq_true rfl⟩ (Nat.le_of_ble_eq_true rfl) ⟨Nat.le_refl _, Nat.le_refl _⟩ 20 2 rfl rfl rfl (isC := [20, 21, 22, 23, 24, 25, 26, 27, 28, 1, 2, 3, 4, 5, 6, 7, 8, 9]) (isR := [0, 10, 11, 12, 13, 14, 15, 16, 17, 18, 19, 29]) (N := 30) ⟨rfl, by decide +kernel, rfl, by decide +kernel, rfl, ⟨⟨_, rfl, rfl⟩, ⟨⟨_, rfl, rfl⟩, ⟨⟨_, rfl, rfl⟩, ⟨⟨_, rfl, rfl⟩, ⟨⟨_, rfl, rfl⟩, ⟨⟨_, rfl, rfl⟩, ⟨⟨_, rfl, rfl⟩, ⟨⟨_, rfl, rfl⟩, ⟨⟨_, rfl, rfl⟩, ⟨⟨_, rfl, rfl⟩, ⟨⟨_, rfl, rfl⟩, ⟨⟨_, rfl, rfl⟩, trivial⟩⟩⟩⟩⟩⟩⟩⟩⟩⟩⟩⟩⟩ rfl ?_
        refine J_aload_n (pc := 23) C 12 rfl 0 rfl rfl ?_
        refine J_get (pc := 24) (v := .ref aU) C 13 rfl TB_l4 rfl 0 7 rfl (by decide) k209 rfl rfl ?_
        refine J_iload_n (pc := 27) C 14 rfl 1 rfl rfl ?_
        refine J_iconst (pc := 28) (v := (1 : Int32)) C 15 rfl rfl ?_
        obtain ⟨g9, h⟩ := gd_some h
        refine J_zast (pc := 29) (f := (vU 0)) (m := (Int32.toNatClampNeg x1)) C 16 (fun mm vv => (wEx aX (aT 0) (aT2 0) (aS 0) (aS2 0) (aP 0) (aH 0) aB aU ++ (wSch G aS (vS 0) (vS 1) (vS 2) (vS 3) (vS 4) (vS 5) (vS 6) (vS 7) (vS 8 0) (vS 9 0) ++ (wSlots G aB sA (up1 sV 1 q8) ++ (wUsed G aU (upd (vU 0) mm vv)))))) rfl 29 rfl g9 rfl rfl (fun _ _ => rfl) ?_
        refine J_aload_n (pc := 30) C 17 rfl 0 rfl rfl ?_
        refine J_get (pc := 31) (v := .ref (aS 0)) C 18 rfl TB_l4 rfl 0 1 rfl (by decide) k197 rfl rfl ?_
        refine J_get (pc := 34) (v := .int (vS 8 0)) C 19 rfl TB_l2 rfl 1 8 rfl (by decide) k237 rfl rfl ?_
        cases h
        exact J_iret (pc := 37) C 20 rfl
      · rw [if_neg c7] at h
        cases h
  · rw [if_pos c2] at h
    refine J_bipush (pc := 7) (v := (-2 : Int32)) C 3 rfl rfl ?_
    cases h
    exact J_iret (pc := 9) C 4 rfl
def T_X4_restore : List (Nat × ClassFile.Instr × Nat) := [(0, .iload_n 1, 1), (1, .invokestatic 247, 3), (4, .ifCond .ne 6, 3), (7, .bipush (-2), 2), (9, .ireturn, 1), (10, .aload_n 0, 1), (11, .getfield 48, 3), (14, .iload_n 1, 1), (15, .baload, 1), (16, .ifCond .ne 6, 3), (19, .bipush (-5), 2), (21, .ireturn, 1), (22, .aload_n 0, 1), (23, .getfield 37, 3), (26, .aload_n 0, 1), (27, .getfield 20, 3), (30, .invokevirtual 66, 3), (33, .aload_n 0, 1), (34, .getfield 20, 3), (37, .aload_n 0, 1), (38, .getfield 44, 3), (41, .iload_n 1, 1), (42, .aaload, 1), (43, .invokevirtual 230, 3), (46, .aload_n 0, 1), (47, .getfield 12, 3), (50, .invokevirtual 52, 3), (53, .aload_n 0, 1), (54, .getfield 20, 3), (57, .getfield 87, 3), (60, .ireturn, 1)]
theorem D_X4_restore : ∀ q ∈ T_X4_restore, decode cX4_restore q.1 = .ok q.2 := by decide +kernel
theorem V_X4_restore : Vy yX4_restore cX4_restore 2 (some .int) 1 := ⟨k339, k56, by decide +kernel⟩
theorem i_X4_restore : Cond.instanceMethod yX4_restore ∈ TB := k417
theorem s_X4_restore : Cond.selects yX4_restore.cls yX4_restore yX4_restore ∈ TB := k418
noncomputable def f_X4_restore (vT : JV) (vS : JV) (hA : Nat → Nat → Nat) (hV : Nat → JV) (hZ : JV) (sV : Nat → JV) (vU : JV) (x1 : Int32) : Option (Int32 × JV × JV × (Nat → Nat → Nat) × (Nat → JV) × JV) :=
  (f_X4_isSlot x1).bind (fun q1 => (if q1 = 0 then some ((-2 : Int32), vT, vS, hA, hV, hZ) else gd (inb x1 2) ((if ((vU 0) (Int32.toNatClampNeg x1)) = 0 then some ((-5 : Int32), vT, vS, hA, hV, hZ) else (f_X0_remember vS hA hV hZ).bind (fun q5 => gd (inb x1 2) ((if x1 = (0 : Int32) then (f_X2_copyFrom vS (sV 0)).bind (fun q8 => (f_X3_seatAll vT q8).bind (fun q9 => some ((q8 8 0), q9, q8, (q5.1), (q5.2.1), (q5.2.2)))) else (if x1 = (1 : Int32) then (f_X2_copyFrom vS (sV 1)).bind (fun q11 => (f_X3_seatAll vT q11).bind (fun q12 => some ((q11 8 0), q12, q11, (q5.1), (q5.2.1), (q5.2.2)))) else none))))))))
set_option maxRecDepth 100000 in
set_option maxHeartbeats 4000000 in
theorem c_X4_restore {l : Launch} {G : JG} (aX : Nat) (aT : Nat → Nat) (aS : Nat → Nat) (aT2 : Nat → Nat) (aS2 : Nat → Nat) (aP : Nat → Nat) (aH : Nat → Nat) (aB : Nat) (aU : Nat) (sA : Nat → Nat → Nat) (vT : JV) (vS : JV) (hA : Nat → Nat → Nat) (hV : Nat → JV) (hZ : JV) (sV : Nat → JV) (vU : JV) (x1 : Int32) {Rz : Int32 × JV × JV × (Nat → Nat → Nat) × (Nat → JV) × JV} (h : f_X4_restore vT vS hA hV hZ sV vU x1 = some Rz) : JM l G yX4_restore cX4_restore 2 (some .int) 6 141 [.ref aX, .int x1] (wEx aX (aT 0) (aT2 0) (aS 0) (aS2 0) (aP 0) (aH 0) aB aU ++ (wSeat G aT (aS 0) (vT 1) (vT 2) (vT 3) (vT 4 0) (vT 5 0) (vT 6) (vT 7) (vT 8) ++ (wSch G aS (vS 0) (vS 1) (vS 2) (vS 3) (vS 4) (vS 5) (vS 6) (vS 7) (vS 8 0) (vS 9 0) ++ (wHis G aH hA hV (hZ 1 0) ++ (wSlots G aB sA sV ++ (wUsed G aU (vU 0))))))) (wEx aX (aT 0) (aT2 0) (aS 0) (aS2 0) (aP 0) (aH 0) aB aU ++ (wSeat G aT (aS 0) ((Rz.2.1) 1) ((Rz.2.1) 2) ((Rz.2.1) 3) ((Rz.2.1) 4 0) ((Rz.2.1) 5 0) ((Rz.2.1) 6) ((Rz.2.1) 7) ((Rz.2.1) 8) ++ (wSch G aS ((Rz.2.2.1) 0) ((Rz.2.2.1) 1) ((Rz.2.2.1) 2) ((Rz.2.2.1) 3) ((Rz.2.2.1) 4) ((Rz.2.2.1) 5) ((Rz.2.2.1) 6) ((Rz.2.2.1) 7) ((Rz.2.2.1) 8 0) ((Rz.2.2.1) 9 0) ++ (wHis G aH (Rz.2.2.2.1) (Rz.2.2.2.2.1) ((Rz.2.2.2.2.2) 1 0) ++ (wSlots G aB sA sV ++ (wUsed G aU (vU 0))))))) (some (.int (Rz.1))) := by
  refine JM.of (own := RX4) (tb := T_X4_restore) (by decide) (Nat.le_of_ble_eq_true rfl) D_X4_restore rfl (fun X C => ?_)
  refine J_sub (lv' := [(0, .ref aX), (1, .int x1)]) [0, 1] rfl ?_
  unfold f_X4_restore at h
  refine J_iload_n (pc := 0) C 0 rfl 1 rfl rfl ?_
  obtain ⟨q1, hq1, h⟩ := bnd h
  refine J_callS (pc := 1) (st2 := []) (st3 := [.int q1]) (ws2 := (wEx aX (aT 0) (aT2 0) (aS 0) (aS2 0) (aP 0) (aH 0) aB aU ++ (wSeat G aT (aS 0) (vT 1) (vT 2) (vT 3) (vT 4 0) (vT 5 0) (vT 6) (vT 7) (vT 8) ++ (wSch G aS (vS 0) (vS 1) (vS 2) (vS 3) (vS 4) (vS 5) (vS 6) (vS 7) (vS 8 0) (vS 9 0) ++ (wHis G aH hA hV (hZ 1 0) ++ (wSlots G aB sA sV ++ (wUsed G aU (vU 0)))))))) C 1 rfl (c_X4_isSlot x1 hq1) V_X4_isSlot k336 t_X4_isSlot rfl rfl ⟨Nat.le_of_ble_eq_true rfl, Nat.le_of_ble_eq_true rfl⟩ (Nat.le_of_ble_eq_true rfl) ⟨Nat.le_refl _, Nat.le_refl _⟩ (isC := []) (isR := [0, 1, 2, 3, 4, 5, 6, 7, 8, 9, 10, 11, 12, 13, 14, 15, 16, 17, 18, 19, 20, 21, 22, 23, 24, 25, 26, 27, 28, 29, 30, 31, 32, 33, 34, 35, 36, 37, 38, 39, 40, 41, 42, 43, 44, 45, 46, 47, 48, 49, 50, 51, 52, 53, 54, 55, 56, 57, 58, 59, 60, 61, 62, 63, 64, 65, 66, 67, 68, 69, 70, 71, 72, 73, 74, 75, 76, 77, 78, 79, 80, 81, 82, 83, 84, 85, 86, 87, 88, 89, 90, 91, 92]) (N := 93) ⟨rfl, by decide +kernel, rfl, by decide +kernel, rfl, ⟨⟨_, rfl, rfl⟩, ⟨⟨_, rfl, rfl⟩, ⟨⟨_, rfl, rfl⟩, ⟨⟨_, rfl, rfl⟩, ⟨⟨_, rfl, rfl⟩, ⟨⟨_, rfl, rfl⟩, ⟨⟨_, rfl, rfl⟩, ⟨⟨_, rfl, rfl⟩, ⟨⟨_, rfl, rfl⟩, ⟨⟨_, rfl, rfl⟩, ⟨⟨_, rfl, rfl⟩, ⟨⟨_, rfl, rfl⟩, ⟨⟨_, rfl, rfl⟩, ⟨⟨_, rfl, rfl⟩, ⟨⟨_, rfl, rfl⟩, ⟨⟨_, rfl, rfl⟩, ⟨⟨_, rfl, rfl⟩, ⟨⟨_, rfl, rfl⟩, ⟨⟨_, rfl, rfl⟩, ⟨⟨_, rfl, rfl⟩, ⟨⟨_, rfl, rfl⟩, ⟨⟨_, rfl, rfl⟩, ⟨⟨_, rfl, rfl⟩, ⟨⟨_, rfl, rfl⟩, ⟨⟨_, rfl, rfl⟩, ⟨⟨_, rfl, rfl⟩, ⟨⟨_, rfl, rfl⟩, ⟨⟨_, rfl, rfl⟩, ⟨⟨_, rfl, rfl⟩, ⟨⟨_, rfl, rfl⟩, ⟨⟨_, rfl, rfl⟩, ⟨⟨_, rfl, rfl⟩, ⟨⟨_, rfl, rfl⟩, ⟨⟨_, rfl, rfl⟩, ⟨⟨_, rfl, rfl⟩, ⟨⟨_, rfl, rfl⟩, ⟨⟨_, rfl, rfl⟩, ⟨⟨_, rfl, rfl⟩, ⟨⟨_, rfl, rfl⟩, ⟨⟨_, rfl, rfl⟩, ⟨⟨_, rfl, rfl⟩, ⟨⟨_, rfl, rfl⟩, ⟨⟨_, rfl, rfl⟩, ⟨⟨_, rfl, rfl⟩, ⟨⟨_, rfl, rfl⟩, ⟨⟨_, rfl, rfl⟩, ⟨⟨_, rfl, rfl⟩, ⟨⟨_, rfl, rfl⟩, ⟨⟨_, rfl, rfl⟩, ⟨⟨_, rfl, rfl⟩, ⟨⟨_, rfl, rfl⟩, ⟨⟨_, rfl, rfl⟩, ⟨⟨_, rfl, rfl⟩, ⟨⟨_, rfl, rfl⟩, ⟨⟨_, rfl, rfl⟩, ⟨⟨_, rfl, rfl⟩, ⟨⟨_, rfl, rfl⟩, ⟨⟨_, rfl, rfl⟩, ⟨⟨_, rfl, rfl⟩, ⟨⟨_, rfl, rfl⟩, ⟨⟨_, rfl, rfl⟩, ⟨⟨_, rfl, rfl⟩, ⟨⟨_, rfl, rfl⟩, ⟨⟨_, rfl, rfl⟩, ⟨⟨_, rfl, rfl⟩, ⟨⟨_, rfl, rfl⟩, ⟨⟨_, rfl, rfl⟩, ⟨⟨_, rfl, rfl⟩, ⟨⟨_, rfl, rfl⟩, ⟨⟨_, rfl, rfl⟩, ⟨⟨_, rfl, rfl⟩, ⟨⟨_, rfl, rfl⟩, ⟨⟨_, rfl, rfl⟩, ⟨⟨_, rfl, rfl⟩, ⟨⟨_, rfl, rfl⟩, ⟨⟨_, rfl, rfl⟩, ⟨⟨_, rfl, rfl⟩, ⟨⟨_, rfl, rfl⟩, ⟨⟨_, rfl, rfl⟩, ⟨⟨_, rfl, rfl⟩, ⟨⟨_, rfl, rfl⟩, ⟨⟨_, rfl, rfl⟩, ⟨⟨_, rfl, rfl⟩, ⟨⟨_, rfl, rfl⟩, ⟨⟨_, rfl, rfl⟩, ⟨⟨_, rfl, rfl⟩, ⟨⟨_, rfl, rfl⟩, ⟨⟨_, rfl, rfl⟩, ⟨⟨_, rfl, rfl⟩, ⟨⟨_, rfl, rfl⟩, ⟨⟨_, rfl, rfl⟩, ⟨⟨_, rfl, rfl⟩, ⟨⟨_, rfl, rfl⟩, trivial⟩⟩⟩⟩⟩⟩⟩⟩⟩⟩⟩⟩⟩⟩⟩⟩⟩⟩⟩⟩⟩⟩⟩⟩⟩⟩⟩⟩⟩⟩⟩⟩⟩⟩⟩⟩⟩⟩⟩⟩⟩⟩⟩⟩⟩⟩⟩⟩⟩⟩⟩⟩⟩⟩⟩⟩⟩⟩⟩⟩⟩⟩⟩⟩⟩⟩⟩⟩⟩⟩⟩⟩⟩⟩⟩⟩⟩⟩⟩⟩⟩⟩⟩⟩⟩⟩⟩⟩⟩⟩⟩⟩⟩⟩ rfl ?_
  refine J_if_ne (pc := 4) (tgt := 10) C 2 rfl rfl (fun c2 => ?_) (fun c2 => ?_)
  · rw [if_neg c2] at h
    refine J_aload_n (pc := 10) C 5 rfl 0 rfl rfl ?_
    refine J_get (pc := 11) (v := .ref aU) C 6 rfl TB_l4 rfl 0 7 rfl (by decide) k209 rfl rfl ?_
    refine J_iload_n (pc := 14) C 7 rfl 1 rfl rfl ?_
    obtain ⟨g3, h⟩ := gd_some h
    refine J_zald (pc := 15) (f := (vU 0)) (v := ((vU 0) (Int32.toNatClampNeg x1))) C 8 rfl 92 rfl g3 rfl ?_
    refine J_if_ne (pc := 16) (tgt := 22) C 9 rfl rfl (fun c4 => ?_) (fun c4 => ?_)
    · rw [if_neg c4] at h
      refine J_aload_n (pc := 22) C 12 rfl 0 rfl rfl ?_
      refine J_get (pc := 23) (v := .ref (aH 0)) C 13 rfl TB_l4 rfl 0 5 rfl (by decide) k206 rfl rfl ?_
      refine J_aload_n (pc := 26) C 14 rfl 0 rfl rfl ?_
      refine J_get (pc := 27) (v := .ref (aS 0)) C 15 rfl TB_l4 rfl 0 1 rfl (by decide) k197 rfl rfl ?_
      obtain ⟨q5, hq5, h⟩ := bnd h
      refine J_callV (pc := 30) (st2 := []) (st3 := []) (ws2 := (wEx aX (aT 0) (aT2 0) (aS 0) (aS2 0) (aP 0) (aH 0) aB aU ++ (wSeat G aT (aS 0) (vT 1) (vT 2) (vT 3) (vT 4 0) (vT 5 0) (vT 6) (vT 7) (vT 8) ++ (wSch G aS (vS 0) (vS 1) (vS 2) (vS 3) (vS 4) (vS 5) (vS 6) (vS 7) (vS 8 0) (vS 9 0) ++ (wHis G aH (q5.1) (q5.2.1) ((q5.2.2) 1 0) ++ (wSlots G aB sA sV ++ (wUsed G aU (vU 0)))))))) C 16 rfl (c_X0_remember aS aH vS hA hV hZ hq5) V_X0_remember k223 i_X0_remember s_X0_remember rfl rfl ⟨Nat.le_of_ble_eq_true rfl, Nat.le_of_ble_eq_true rfl⟩ (Nat.le_of_ble_eq_true rfl) ⟨Nat.le_refl _, Nat.le_refl _⟩ 17 0 rfl rfl rfl (isC := [8, 9, 10, 11, 12, 13, 14, 15, 16, 17, 18, 19, 20, 21, 22, 23, 24, 25, 26, 27, 28, 29, 30, 31, 32, 33, 34, 35, 36, 37, 38, 39, 40, 41, 42, 43, 44, 45, 46, 47, 48, 49, 50, 51, 52, 53, 54, 55, 56, 57, 58, 59, 60, 61, 62, 63, 64, 65, 66, 67, 68, 69, 70, 71, 72]) (isR := [0, 1, 2, 3, 4, 5, 6, 7, 73, 74, 75, 76, 77, 78, 79, 80, 81, 82, 83, 84, 85, 86, 87, 88, 89, 90, 91, 92]) (N := 93) ⟨rfl, by decide +kernel, rfl, by decide +kernel, rfl, ⟨⟨_, rfl, rfl⟩, ⟨⟨_, rfl, rfl⟩, ⟨⟨_, rfl, rfl⟩, ⟨⟨_, rfl, rfl⟩, ⟨⟨_, rfl, rfl⟩, ⟨⟨_, rfl, rfl⟩, ⟨⟨_, rfl, rfl⟩, ⟨⟨_, rfl, rfl⟩, ⟨⟨_, rfl, rfl⟩, ⟨⟨_, rfl, rfl⟩, ⟨⟨_, rfl, rfl⟩, ⟨⟨_, rfl, rfl⟩, ⟨⟨_, rfl, rfl⟩, ⟨⟨_, rfl, rfl⟩, ⟨⟨_, rfl, rfl⟩, ⟨⟨_, rfl, rfl⟩, ⟨⟨_, rfl, rfl⟩, ⟨⟨_, rfl, rfl⟩, ⟨⟨_, rfl, rfl⟩, ⟨⟨_, rfl, rfl⟩, ⟨⟨_, rfl, rfl⟩, ⟨⟨_, rfl, rfl⟩, ⟨⟨_, rfl, rfl⟩, ⟨⟨_, rfl, rfl⟩, ⟨⟨_, rfl, rfl⟩, ⟨⟨_, rfl, rfl⟩, ⟨⟨_, rfl, rfl⟩, ⟨⟨_, rfl, rfl⟩, trivial⟩⟩⟩⟩⟩⟩⟩⟩⟩⟩⟩⟩⟩⟩⟩⟩⟩⟩⟩⟩⟩⟩⟩⟩⟩⟩⟩⟩⟩ rfl ?_
      refine J_aload_n (pc := 33) C 17 rfl 0 rfl rfl ?_
      refine J_get (pc := 34) (v := .ref (aS 0)) C 18 rfl TB_l4 rfl 0 1 rfl (by decide) k197 rfl rfl ?_
      refine J_aload_n (pc := 37) C 19 rfl 0 rfl rfl ?_
      refine J_get (pc := 38) (v := .ref aB) C 20 rfl TB_l4 rfl 0 6 rfl (by decide) k208 rfl rfl ?_
      refine J_iload_n (pc := 41) C 21 rfl 1 rfl rfl ?_
      obtain ⟨g6, h⟩ := gd_some h
      by_cases c7 : x1 = (0 : Int32)
      · rw [if_pos c7] at h
        refine J_aald (pc := 42) (v := ((sA 0) 0)) (f := fun i => some (sA i 0)) C 22 rfl 73 rfl g6 (by rw [c7]; rfl) ?_
        obtain ⟨q8, hq8, h⟩ := bnd h
        refine J_callV (pc := 43) (st2 := []) (st3 := []) (ws2 := (wEx aX (aT 0) (aT2 0) (aS 0) (aS2 0) (aP 0) (aH 0) aB aU ++ (wSeat G aT (aS 0) (vT 1) (vT 2) (vT 3) (vT 4 0) (vT 5 0) (vT 6) (vT 7) (vT 8) ++ (wSch G aS (q8 0) (q8 1) (q8 2) (q8 3) (q8 4) (q8 5) (q8 6) (q8 7) (q8 8 0) (q8 9 0) ++ (wHis G aH (q5.1) (q5.2.1) ((q5.2.2) 1 0) ++ (wSlots G aB sA sV ++ (wUsed G aU (vU 0)))))))) C 23 rfl (c_X2_copyFrom aS (sA 0) vS (sV 0) hq8) V_X2_copyFrom k325 i_X2_copyFrom s_X2_copyFrom rfl rfl ⟨Nat.le_of_ble_eq_true rfl, Nat.le_of_ble_eq_true rfl⟩ (Nat.le_of_ble_eq_true rfl) ⟨Nat.le_refl _, Nat.le_refl _⟩ 8 2 rfl rfl rfl (isC := [8, 9, 10, 11, 12, 13, 14, 15, 16, 74, 75, 76, 77, 78, 79, 80, 81, 82]) (isR := [0, 1, 2, 3, 4, 5, 6, 7, 17, 18, 19, 20, 21, 22, 23, 24, 25, 26, 27, 28, 29, 30, 31, 32, 33, 34, 35, 36, 37, 38, 39, 40, 41, 42, 43, 44, 45, 46, 47, 48, 49, 50, 51, 52, 53, 54, 55, 56, 57, 58, 59, 60, 61, 62, 63, 64, 65, 66, 67, 68, 69, 70, 71, 72, 73, 83, 84, 85, 86, 87, 88, 89, 90, 91, 92]) (N := 93) ⟨rfl, by decide +kernel, rfl, by decide +kernel, rfl, ⟨⟨_, rfl, rfl⟩, ⟨⟨_, rfl, rfl⟩, ⟨⟨_, rfl, rfl⟩, ⟨⟨_, rfl, rfl⟩, ⟨⟨_, rfl, rfl⟩, ⟨⟨_, rfl, rfl⟩, ⟨⟨_, rfl, rfl⟩, ⟨⟨_, rfl, rfl⟩, ⟨⟨_, rfl, rfl⟩, ⟨⟨_, rfl, rfl⟩, ⟨⟨_, rfl, rfl⟩, ⟨⟨_, rfl, rfl⟩, ⟨⟨_, rfl, rfl⟩, ⟨⟨_, rfl, rfl⟩, ⟨⟨_, rfl, rfl⟩, ⟨⟨_, rfl, rfl⟩, ⟨⟨_, rfl, rfl⟩, ⟨⟨_, rfl, rfl⟩, ⟨⟨_, rfl, rfl⟩, ⟨⟨_, rfl, rfl⟩, ⟨⟨_, rfl, rfl⟩, ⟨⟨_, rfl, rfl⟩, ⟨⟨_, rfl, rfl⟩, ⟨⟨_, rfl, rfl⟩, ⟨⟨_, rfl, rfl⟩, ⟨⟨_, rfl, rfl⟩, ⟨⟨_, rfl, rfl⟩, ⟨⟨_, rfl, rfl⟩, ⟨⟨_, rfl, rfl⟩, ⟨⟨_, rfl, rfl⟩, ⟨⟨_, rfl, rfl⟩, ⟨⟨_, rfl, rfl⟩, ⟨⟨_, rfl, rfl⟩, ⟨⟨_, rfl, rfl⟩, ⟨⟨_, rfl, rfl⟩, ⟨⟨_, rfl, rfl⟩, ⟨⟨_, rfl, rfl⟩, ⟨⟨_, rfl, rfl⟩, ⟨⟨_, rfl, rfl⟩, ⟨⟨_, rfl, rfl⟩, ⟨⟨_, rfl, rfl⟩, ⟨⟨_, rfl, rfl⟩, ⟨⟨_, rfl, rfl⟩, ⟨⟨_, rfl, rfl⟩, ⟨⟨_, rfl, rfl⟩, ⟨⟨_, rfl, rfl⟩, ⟨⟨_, rfl, rfl⟩, ⟨⟨_, rfl, rfl⟩, ⟨⟨_, rfl, rfl⟩, ⟨⟨_, rfl, rfl⟩, ⟨⟨_, rfl, rfl⟩, ⟨⟨_, rfl, rfl⟩, ⟨⟨_, rfl, rfl⟩, ⟨⟨_, rfl, rfl⟩, ⟨⟨_, rfl, rfl⟩, ⟨⟨_, rfl, rfl⟩, ⟨⟨_, rfl, rfl⟩, ⟨⟨_, rfl, rfl⟩, ⟨⟨_, rfl, rfl⟩, ⟨⟨_, rfl, rfl⟩, ⟨⟨_, rfl, rfl⟩, ⟨⟨_, rfl, rfl⟩, ⟨⟨_, rfl, rfl⟩, ⟨⟨_, rfl, rfl⟩, ⟨⟨_, rfl, rfl⟩, ⟨⟨_, rfl, rfl⟩, ⟨⟨_, rfl, rfl⟩, ⟨⟨_, rfl, rfl⟩, ⟨⟨_, rfl, rfl⟩, ⟨⟨_, rfl, rfl⟩, ⟨⟨_, rfl, rfl⟩, ⟨⟨_, rfl, rfl⟩, ⟨⟨_, rfl, rfl⟩, ⟨⟨_, rfl, rfl⟩, ⟨⟨_, rfl, rfl⟩, trivial⟩⟩⟩⟩⟩⟩⟩⟩⟩⟩⟩⟩⟩⟩⟩⟩⟩⟩⟩⟩⟩⟩⟩⟩⟩⟩⟩⟩⟩⟩⟩⟩⟩⟩⟩⟩⟩⟩⟩⟩⟩⟩⟩⟩⟩⟩⟩⟩⟩⟩⟩⟩⟩⟩⟩⟩⟩⟩⟩⟩⟩⟩⟩⟩⟩⟩⟩⟩⟩⟩⟩⟩⟩⟩⟩⟩ rfl ?_
        refine J_aload_n (pc := 46) C 24 rfl 0 rfl rfl ?_
        refine J_get (pc := 47) (v := .ref (aT 0)) C 25 rfl TB_l4 rfl 0 0 rfl (by decide) k195 rfl rfl ?_
        obtain ⟨q9, hq9, h⟩ := bnd h
        refine J_callV (pc := 50) (st2 := []) (st3 := []) (ws2 := (wEx aX (aT 0) (aT2 0) (aS 0) (aS2 0) (aP 0) (aH 0) aB aU ++ (wSeat G aT (aS 0) (q9 1) (q9 2) (q9 3) (q9 4 0) (q9 5 0) (q9 6) (q9 7) (q9 8) ++ (wSch G aS (q8 0) (q8 1) (q8 2) (q8 3) (q8 4) (q8 5) (q8 6) (q8 7) (q8 8 0) (q8 9 0) ++ (wHis G aH (q5.1) (q5.2.1) ((q5.2.2) 1 0) ++ (wSlots G aB sA sV ++ (wUsed G aU (vU 0)))))))) C 26 rfl (c_X3_seatAll aT aS vT q8 hq9) V_X3_seatAll k214 i_X3_seatAll s_X3_seatAll rfl rfl ⟨Nat.le_of_ble_eq_true rfl, Nat.le_of_ble_eq_true rfl⟩ (Nat.le_of_ble_eq_true rfl) ⟨Nat.le_refl _, Nat.le_refl _⟩ 1 3 rfl rfl rfl (isC := [1, 2, 3, 4, 5, 6, 7, 8, 9, 10, 11, 12, 13, 14, 15, 16]) (isR := [0, 17, 18, 19, 20, 21, 22, 23, 24, 25, 26, 27, 28, 29, 30, 31, 32, 33, 34, 35, 36, 37, 38, 39, 40, 41, 42, 43, 44, 45, 46, 47, 48, 49, 50, 51, 52, 53, 54, 55, 56, 57, 58, 59, 60, 61, 62, 63, 64, 65, 66, 67, 68, 69, 70, 71, 72, 73, 74, 75, 76, 77, 78, 79, 80, 81, 82, 83, 84, 85, 86, 87, 88, 89, 90, 91, 92]) (N := 93) ⟨rfl, by decide +kernel, rfl, by decide +kernel, rfl, ⟨⟨_, rfl, rfl⟩, ⟨⟨_, rfl, rfl⟩, ⟨⟨_, rfl, rfl⟩, ⟨⟨_, rfl, rfl⟩, ⟨⟨_, rfl, rfl⟩, ⟨⟨_, rfl, rfl⟩, ⟨⟨_, rfl, rfl⟩, ⟨⟨_, rfl, rfl⟩, ⟨⟨_, rfl, rfl⟩, ⟨⟨_, rfl, rfl⟩, ⟨⟨_, rfl, rfl⟩, ⟨⟨_, rfl, rfl⟩, ⟨⟨_, rfl, rfl⟩, ⟨⟨_, rfl, rfl⟩, ⟨⟨_, rfl, rfl⟩, ⟨⟨_, rfl, rfl⟩, ⟨⟨_, rfl, rfl⟩, ⟨⟨_, rfl, rfl⟩, ⟨⟨_, rfl, rfl⟩, ⟨⟨_, rfl, rfl⟩, ⟨⟨_, rfl, rfl⟩, ⟨⟨_, rfl, rfl⟩, ⟨⟨_, rfl, rfl⟩, ⟨⟨_, rfl, rfl⟩, ⟨⟨_, rfl, rfl⟩, ⟨⟨_, rfl, rfl⟩, ⟨⟨_, rfl, rfl⟩, ⟨⟨_, rfl, rfl⟩, ⟨⟨_, rfl, rfl⟩, ⟨⟨_, rfl, rfl⟩, ⟨⟨_, rfl, rfl⟩, ⟨⟨_, rfl, rfl⟩, ⟨⟨_, rfl, rfl⟩, ⟨⟨_, rfl, rfl⟩, ⟨⟨_, rfl, rfl⟩, ⟨⟨_, rfl, rfl⟩, ⟨⟨_, rfl, rfl⟩, ⟨⟨_, rfl, rfl⟩, ⟨⟨_, rfl, rfl⟩, ⟨⟨_, rfl, rfl⟩, ⟨⟨_, rfl, rfl⟩, ⟨⟨_, rfl, rfl⟩, ⟨⟨_, rfl, rfl⟩, ⟨⟨_, rfl, rfl⟩, ⟨⟨_, rfl, rfl⟩, ⟨⟨_, rfl, rfl⟩, ⟨⟨_, rfl, rfl⟩, ⟨⟨_, rfl, rfl⟩, ⟨⟨_, rfl, rfl⟩, ⟨⟨_, rfl, rfl⟩, ⟨⟨_, rfl, rfl⟩, ⟨⟨_, rfl, rfl⟩, ⟨⟨_, rfl, rfl⟩, ⟨⟨_, rfl, rfl⟩, ⟨⟨_, rfl, rfl⟩, ⟨⟨_, rfl, rfl⟩, ⟨⟨_, rfl, rfl⟩, ⟨⟨_, rfl, rfl⟩, ⟨⟨_, rfl, rfl⟩, ⟨⟨_, rfl, rfl⟩, ⟨⟨_, rfl, rfl⟩, ⟨⟨_, rfl, rfl⟩, ⟨⟨_, rfl, rfl⟩, ⟨⟨_, rfl, rfl⟩, ⟨⟨_, rfl, rfl⟩, ⟨⟨_, rfl, rfl⟩, ⟨⟨_, rfl, rfl⟩, ⟨⟨_, rfl, rfl⟩, ⟨⟨_, rfl, rfl⟩, ⟨⟨_, rfl, rfl⟩, ⟨⟨_, rfl, rfl⟩, ⟨⟨_, rfl, rfl⟩, ⟨⟨_, rfl, rfl⟩, ⟨⟨_, rfl, rfl⟩, ⟨⟨_, rfl, rfl⟩, ⟨⟨_, rfl, rfl⟩, ⟨⟨_, rfl, rfl⟩, trivial⟩⟩⟩⟩⟩⟩⟩⟩⟩⟩⟩⟩⟩⟩⟩⟩⟩⟩⟩⟩⟩⟩⟩⟩⟩⟩⟩⟩⟩⟩⟩⟩⟩⟩⟩⟩⟩⟩⟩⟩⟩⟩⟩⟩⟩⟩⟩⟩⟩⟩⟩⟩⟩⟩⟩⟩⟩⟩⟩⟩⟩⟩⟩⟩⟩⟩⟩⟩⟩⟩⟩⟩⟩⟩⟩⟩⟩⟩ rfl ?_
        refine J_aload_n (pc := 53) C 27 rfl 0 rfl rfl ?_
        refine J_get (pc := 54) (v := .ref (aS 0)) C 28 rfl TB_l4 rfl 0 1 rfl (by decide) k197 rfl rfl ?_
        refine J_get (pc := 57) (v := .int (q8 8 0)) C 29 rfl TB_l2 rfl 8 8 rfl (by decide) k237 rfl rfl ?_
        cases h
        exact J_iret (pc := 60) C 30 rfl
      · rw [if_neg c7] at h
        by_cases c10 : x1 = (1 : Int32)
        · rw [if_pos c10] at h
          refine J_aald (pc := 42) (v := ((sA 1) 0)) (f := fun i => some (sA i 0)) C 22 rfl 73 rfl g6 (by rw [c10]; rfl) ?_
          obtain ⟨q11, hq11, h⟩ := bnd h
          refine J_callV (pc := 43) (st2 := []) (st3 := []) (ws2 := (wEx aX (aT 0) (aT2 0) (aS 0) (aS2 0) (aP 0) (aH 0) aB aU ++ (wSeat G aT (aS 0) (vT 1) (vT 2) (vT 3) (vT 4 0) (vT 5 0) (vT 6) (vT 7) (vT 8) ++ (wSch G aS (q11 0) (q11 1) (q11 2) (q11 3) (q11 4) (q11 5) (q11 6) (q11 7) (q11 8 0) (q11 9 0) ++ (wHis G aH (q5.1) (q5.2.1) ((q5.2.2) 1 0) ++ (wSlots G aB sA sV ++ (wUsed G aU (vU 0)))))))) C 23 rfl (c_X2_copyFrom aS (sA 1) vS (sV 1) hq11) V_X2_copyFrom k325 i_X2_copyFrom s_X2_copyFrom rfl rfl ⟨Nat.le_of_ble_eq_true rfl, Nat.le_of_ble_eq_true rfl⟩ (Nat.le_of_ble_eq_true rfl) ⟨Nat.le_refl _, Nat.le_refl _⟩ 8 2 rfl rfl rfl (isC := [8, 9, 10, 11, 12, 13, 14, 15, 16, 83, 84, 85, 86, 87, 88, 89, 90, 91]) (isR := [0, 1, 2, 3, 4, 5, 6, 7, 17, 18, 19, 20, 21, 22, 23, 24, 25, 26, 27, 28, 29, 30, 31, 32, 33, 34, 35, 36, 37, 38, 39, 40, 41, 42, 43, 44, 45, 46, 47, 48, 49, 50, 51, 52, 53, 54, 55, 56, 57, 58, 59, 60, 61, 62, 63, 64, 65, 66, 67, 68, 69, 70, 71, 72, 73, 74, 75, 76, 77, 78, 79, 80, 81, 82, 92]) (N := 93) ⟨rfl, by decide +kernel, rfl, by decide +kernel, rfl, ⟨⟨_, rfl, rfl⟩, ⟨⟨_, rfl, rfl⟩, ⟨⟨_, rfl, rfl⟩, ⟨⟨_, rfl, rfl⟩, ⟨⟨_, rfl, rfl⟩, ⟨⟨_, rfl, rfl⟩, ⟨⟨_, rfl, rfl⟩, ⟨⟨_, rfl, rfl⟩, ⟨⟨_, rfl, rfl⟩, ⟨⟨_, rfl, rfl⟩, ⟨⟨_, rfl, rfl⟩, ⟨⟨_, rfl, rfl⟩, ⟨⟨_, rfl, rfl⟩, ⟨⟨_, rfl, rfl⟩, ⟨⟨_, rfl, rfl⟩, ⟨⟨_, rfl, rfl⟩, ⟨⟨_, rfl, rfl⟩, ⟨⟨_, rfl, rfl⟩, ⟨⟨_, rfl, rfl⟩, ⟨⟨_, rfl, rfl⟩, ⟨⟨_, rfl, rfl⟩, ⟨⟨_, rfl, rfl⟩, ⟨⟨_, rfl, rfl⟩, ⟨⟨_, rfl, rfl⟩, ⟨⟨_, rfl, rfl⟩, ⟨⟨_, rfl, rfl⟩, ⟨⟨_, rfl, rfl⟩, ⟨⟨_, rfl, rfl⟩, ⟨⟨_, rfl, rfl⟩, ⟨⟨_, rfl, rfl⟩, ⟨⟨_, rfl, rfl⟩, ⟨⟨_, rfl, rfl⟩, ⟨⟨_, rfl, rfl⟩, ⟨⟨_, rfl, rfl⟩, ⟨⟨_, rfl, rfl⟩, ⟨⟨_, rfl, rfl⟩, ⟨⟨_, rfl, rfl⟩, ⟨⟨_, rfl, rfl⟩, ⟨⟨_, rfl, rfl⟩, ⟨⟨_, rfl, rfl⟩, ⟨⟨_, rfl, rfl⟩, ⟨⟨_, rfl, rfl⟩, ⟨⟨_, rfl, rfl⟩, ⟨⟨_, rfl, rfl⟩, ⟨⟨_, rfl, rfl⟩, ⟨⟨_, rfl, rfl⟩, ⟨⟨_, rfl, rfl⟩, ⟨⟨_, rfl, rfl⟩, ⟨⟨_, rfl, rfl⟩, ⟨⟨_, rfl, rfl⟩, ⟨⟨_, rfl, rfl⟩, ⟨⟨_, rfl, rfl⟩, ⟨⟨_, rfl, rfl⟩, ⟨⟨_, rfl, rfl⟩, ⟨⟨_, rfl, rfl⟩, ⟨⟨_, rfl, rfl⟩, ⟨⟨_, rfl, rfl⟩, ⟨⟨_, rfl, rfl⟩, ⟨⟨_, rfl, rfl⟩, ⟨⟨_, rfl, rfl⟩, ⟨⟨_, rfl, rfl⟩, ⟨⟨_, rfl, rfl⟩, ⟨⟨_, rfl, rfl⟩, ⟨⟨_, rfl, rfl⟩, ⟨⟨_, rfl, rfl⟩, ⟨⟨_, rfl, rfl⟩, ⟨⟨_, rfl, rfl⟩, ⟨⟨_, rfl, rfl⟩, ⟨⟨_, rfl, rfl⟩, ⟨⟨_, rfl, rfl⟩, ⟨⟨_, rfl, rfl⟩, ⟨⟨_, rfl, rfl⟩, ⟨⟨_, rfl, rfl⟩, ⟨⟨_, rfl, rfl⟩, ⟨⟨_, rfl, rfl⟩, trivial⟩⟩⟩⟩⟩⟩⟩⟩⟩⟩⟩⟩⟩⟩⟩⟩⟩⟩⟩⟩⟩⟩⟩⟩⟩⟩⟩⟩⟩⟩⟩⟩⟩⟩⟩⟩⟩⟩⟩⟩⟩⟩⟩⟩⟩⟩⟩⟩⟩⟩⟩⟩⟩⟩⟩⟩⟩⟩⟩⟩⟩⟩⟩⟩⟩⟩⟩⟩⟩⟩⟩⟩⟩⟩⟩⟩ rfl ?_
          refine J_aload_n (pc := 46) C 24 rfl 0 rfl rfl ?_
          refine J_get (pc := 47) (v := .ref (aT 0)) C 25 rfl TB_l4 rfl 0 0 rfl (by decide) k195 rfl rfl ?_
          obtain ⟨q12, hq12, h⟩ := bnd h
          refine J_callV (pc := 50) (st2 := []) (st3 := []) (ws2 := (wEx aX (aT 0) (aT2 0) (aS 0) (aS2 0) (aP 0) (aH 0) aB aU ++ (wSeat G aT (aS 0) (q12 1) (q12 2) (q12 3) (q12 4 0) (q12 5 0) (q12 6) (q12 7) (q12 8) ++ (wSch G aS (q11 0) (q11 1) (q11 2) (q11 3) (q11 4) (q11 5) (q11 6) (q11 7) (q11 8 0) (q11 9 0) ++ (wHis G aH (q5.1) (q5.2.1) ((q5.2.2) 1 0) ++ (wSlots G aB sA sV ++ (wUsed G aU (vU 0)))))))) C 26 rfl (c_X3_seatAll aT aS vT q11 hq12) V_X3_seatAll k214 i_X3_seatAll s_X3_seatAll rfl rfl ⟨Nat.le_of_ble_eq_true rfl, Nat.le_of_ble_eq_true rfl⟩ (Nat.le_of_ble_eq_true rfl) ⟨Nat.le_refl _, Nat.le_refl _⟩ 1 3 rfl rfl rfl (isC := [1, 2, 3, 4, 5, 6, 7, 8, 9, 10, 11, 12, 13, 14, 15, 16]) (isR := [0, 17, 18, 19, 20, 21, 22, 23, 24, 25, 26, 27, 28, 29, 30, 31, 32, 33, 34, 35, 36, 37, 38, 39, 40, 41, 42, 43, 44, 45, 46, 47, 48, 49, 50, 51, 52, 53, 54, 55, 56, 57, 58, 59, 60, 61, 62, 63, 64, 65, 66, 67, 68, 69, 70, 71, 72, 73, 74, 75, 76, 77, 78, 79, 80, 81, 82, 83, 84, 85, 86, 87, 88, 89, 90, 91, 92]) (N := 93) ⟨rfl, by decide +kernel, rfl, by decide +kernel, rfl, ⟨⟨_, rfl, rfl⟩, ⟨⟨_, rfl, rfl⟩, ⟨⟨_, rfl, rfl⟩, ⟨⟨_, rfl, rfl⟩, ⟨⟨_, rfl, rfl⟩, ⟨⟨_, rfl, rfl⟩, ⟨⟨_, rfl, rfl⟩, ⟨⟨_, rfl, rfl⟩, ⟨⟨_, rfl, rfl⟩, ⟨⟨_, rfl, rfl⟩, ⟨⟨_, rfl, rfl⟩, ⟨⟨_, rfl, rfl⟩, ⟨⟨_, rfl, rfl⟩, ⟨⟨_, rfl, rfl⟩, ⟨⟨_, rfl, rfl⟩, ⟨⟨_, rfl, rfl⟩, ⟨⟨_, rfl, rfl⟩, ⟨⟨_, rfl, rfl⟩, ⟨⟨_, rfl, rfl⟩, ⟨⟨_, rfl, rfl⟩, ⟨⟨_, rfl, rfl⟩, ⟨⟨_, rfl, rfl⟩, ⟨⟨_, rfl, rfl⟩, ⟨⟨_, rfl, rfl⟩, ⟨⟨_, rfl, rfl⟩, ⟨⟨_, rfl, rfl⟩, ⟨⟨_, rfl, rfl⟩, ⟨⟨_, rfl, rfl⟩, ⟨⟨_, rfl, rfl⟩, ⟨⟨_, rfl, rfl⟩, ⟨⟨_, rfl, rfl⟩, ⟨⟨_, rfl, rfl⟩, ⟨⟨_, rfl, rfl⟩, ⟨⟨_, rfl, rfl⟩, ⟨⟨_, rfl, rfl⟩, ⟨⟨_, rfl, rfl⟩, ⟨⟨_, rfl, rfl⟩, ⟨⟨_, rfl, rfl⟩, ⟨⟨_, rfl, rfl⟩, ⟨⟨_, rfl, rfl⟩, ⟨⟨_, rfl, rfl⟩, ⟨⟨_, rfl, rfl⟩, ⟨⟨_, rfl, rfl⟩, ⟨⟨_, rfl, rfl⟩, ⟨⟨_, rfl, rfl⟩, ⟨⟨_, rfl, rfl⟩, ⟨⟨_, rfl, rfl⟩, ⟨⟨_, rfl, rfl⟩, ⟨⟨_, rfl, rfl⟩, ⟨⟨_, rfl, rfl⟩, ⟨⟨_, rfl, rfl⟩, ⟨⟨_, rfl, rfl⟩, ⟨⟨_, rfl, rfl⟩, ⟨⟨_, rfl, rfl⟩, ⟨⟨_, rfl, rfl⟩, ⟨⟨_, rfl, rfl⟩, ⟨⟨_, rfl, rfl⟩, ⟨⟨_, rfl, rfl⟩, ⟨⟨_, rfl, rfl⟩, ⟨⟨_, rfl, rfl⟩, ⟨⟨_, rfl, rfl⟩, ⟨⟨_, rfl, rfl⟩, ⟨⟨_, rfl, rfl⟩, ⟨⟨_, rfl, rfl⟩, ⟨⟨_, rfl, rfl⟩, ⟨⟨_, rfl, rfl⟩, ⟨⟨_, rfl, rfl⟩, ⟨⟨_, rfl, rfl⟩, ⟨⟨_, rfl, rfl⟩, ⟨⟨_, rfl, rfl⟩, ⟨⟨_, rfl, rfl⟩, ⟨⟨_, rfl, rfl⟩, ⟨⟨_, rfl, rfl⟩, ⟨⟨_, rfl, rfl⟩, ⟨⟨_, rfl, rfl⟩, ⟨⟨_, rfl, rfl⟩, ⟨⟨_, rfl, rfl⟩, trivial⟩⟩⟩⟩⟩⟩⟩⟩⟩⟩⟩⟩⟩⟩⟩⟩⟩⟩⟩⟩⟩⟩⟩⟩⟩⟩⟩⟩⟩⟩⟩⟩⟩⟩⟩⟩⟩⟩⟩⟩⟩⟩⟩⟩⟩⟩⟩⟩⟩⟩⟩⟩⟩⟩⟩⟩⟩⟩⟩⟩⟩⟩⟩⟩⟩⟩⟩⟩⟩⟩⟩⟩⟩⟩⟩⟩⟩⟩ rfl ?_
          refine J_aload_n (pc := 53) C 27 rfl 0 rfl rfl ?_
          refine J_get (pc := 54) (v := .ref (aS 0)) C 28 rfl TB_l4 rfl 0 1 rfl (by decide) k197 rfl rfl ?_
          refine J_get (pc := 57) (v := .int (q11 8 0)) C 29 rfl TB_l2 rfl 8 8 rfl (by decide) k237 rfl rfl ?_
          cases h
          exact J_iret (pc := 60) C 30 rfl
        · rw [if_neg c10] at h
          cases h
    · rw [if_pos c4] at h
      refine J_bipush (pc := 19) (v := (-5 : Int32)) C 10 rfl rfl ?_
      cases h
      exact J_iret (pc := 21) C 11 rfl
  · rw [if_pos c2] at h
    refine J_bipush (pc := 7) (v := (-2 : Int32)) C 3 rfl rfl ?_
    cases h
    exact J_iret (pc := 9) C 4 rfl
