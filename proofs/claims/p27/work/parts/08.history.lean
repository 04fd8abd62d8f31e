def T_X0_dropOldest : List (Nat × ClassFile.Instr × Nat) := [(0, .aload_n 0, 1), (1, .getfield 11, 3), (4, .iconst 0, 1), (5, .aaload, 1), (6, .astore_n 1, 1), (7, .iconst 0, 1), (8, .istore_n 2, 1), (9, .iload_n 2, 1), (10, .iconst 5, 1), (11, .if_icmp .ge 23, 3), (14, .aload_n 0, 1), (15, .getfield 11, 3), (18, .iload_n 2, 1), (19, .aload_n 0, 1), (20, .getfield 11, 3), (23, .iload_n 2, 1), (24, .iconst 1, 1), (25, .iadd, 1), (26, .aaload, 1), (27, .aastore, 1), (28, .iinc 2 1, 3), (31, .goto (-22), 3), (34, .aload_n 0, 1), (35, .getfield 11, 3), (38, .iconst 5, 1), (39, .aload_n 1, 1), (40, .aastore, 1), (41, .aload_n 0, 1), (42, .dup, 1), (43, .getfield 17, 3), (46, .iconst 1, 1), (47, .isub, 1), (48, .putfield 17, 3), (51, .return_, 1)]
theorem D_X0_dropOldest : ∀ q ∈ T_X0_dropOldest, decode cX0_dropOldest q.1 = .ok q.2 := by decide +kernel
theorem V_X0_dropOldest : Vy yX0_dropOldest cX0_dropOldest 3 none 0 := ⟨k24, k30, by decide +kernel⟩
theorem i_X0_dropOldest : Cond.instanceMethod yX0_dropOldest ∈ TB := k28
theorem s_X0_dropOldest : Cond.selects yX0_dropOldest.cls yX0_dropOldest yX0_dropOldest ∈ TB := k29
noncomputable def f_X0_dropOldest (hA : Nat → Nat → Nat) (hV : Nat → JV) (hZ : JV)  : Option ((Nat → Nat → Nat) × (Nat → JV) × JV) :=
  some ((rot6 hA), (rot6 hV), (up2 hZ 1 0 ((hZ 1 0) - (1 : Int32))))
set_option maxRecDepth 100000 in
set_option maxHeartbeats 4000000 in
theorem c_X0_dropOldest {l : Launch} {G : JG} (aH : Nat → Nat) (hA : Nat → Nat → Nat) (hV : Nat → JV) (hZ : JV)  {Rz : (Nat → Nat → Nat) × (Nat → JV) × JV} (h : f_X0_dropOldest hA hV hZ = some Rz) : JM l G yX0_dropOldest cX0_dropOldest 3 none 0 0 [.ref (aH 0)] (wHis G aH hA hV (hZ 1 0)) (wHis G aH (Rz.1) (Rz.2.1) ((Rz.2.2) 1 0)) none := by
  refine JM.of (own := RX0) (tb := T_X0_dropOldest) (by decide) (Nat.le_of_ble_eq_true rfl) D_X0_dropOldest rfl (fun X C => ?_)
  refine J_sub (lv' := [(0, .ref (aH 0))]) [0] rfl ?_
  have h6 : ∀ i : Nat, i < 6 → (va_up (va_up (va_up (va_up (va_up (va_up (fun i => some (hA i 0)) 0 (some (hA 1 0))) 1 (some (hA 2 0))) 2 (some (hA 3 0))) 3 (some (hA 4 0))) 4 (some (hA 5 0))) 5 (some (hA 0 0))) i = some (rot6 hA i 0) := by
    intro i hi
    rcases (show i = 0 ∨ i = 1 ∨ i = 2 ∨ i = 3 ∨ i = 4 ∨ i = 5 by omega) with rfl | rfl | rfl | rfl | rfl | rfl <;> rfl
  unfold f_X0_dropOldest at h
  refine J_aload_n (pc := 0) C 0 rfl 0 rfl rfl ?_
  refine J_get (pc := 1) (v := .ref (aH 1)) C 1 rfl TB_l0 rfl 0 0 rfl (by decide) k19 rfl rfl ?_
  refine J_iconst (pc := 4) (v := (0 : Int32)) C 2 rfl rfl ?_
  refine J_aald (pc := 5) (v := (hA 0 0)) (f := (fun i => some (hA i 0))) C 3 rfl 1 rfl rfl rfl ?_
  refine J_astore_n (pc := 6) (lv' := [(1, .ref (hA 0 0)), (0, .ref (aH 0))]) C 4 rfl rfl (by decide) rfl ?_
  refine J_iconst (pc := 7) (v := (0 : Int32)) C 5 rfl rfl ?_
  refine J_istore_n (pc := 8) (lv' := [(2, .int (0 : Int32)), (1, .ref (hA 0 0)), (0, .ref (aH 0))]) C 6 rfl rfl (by decide) rfl ?_
  refine J_iload_n (pc := 9) C 7 rfl 0 rfl rfl ?_
  refine J_iconst (pc := 10) (v := (5 : Int32)) C 8 rfl rfl ?_
  refine J_icmp_ge (pc := 11) (tgt := 34) C 9 rfl rfl (fun c1 => absurd c1 (by decide)) (fun c1 => ?_)
  refine J_aload_n (pc := 14) C 10 rfl 2 rfl rfl ?_
  refine J_get (pc := 15) (v := .ref (aH 1)) C 11 rfl TB_l0 rfl 0 0 rfl (by decide) k19 rfl rfl ?_
  refine J_iload_n (pc := 18) C 12 rfl 0 rfl rfl ?_
  refine J_aload_n (pc := 19) C 13 rfl 2 rfl rfl ?_
  refine J_get (pc := 20) (v := .ref (aH 1)) C 14 rfl TB_l0 rfl 0 0 rfl (by decide) k19 rfl rfl ?_
  refine J_iload_n (pc := 23) C 15 rfl 0 rfl rfl ?_
  refine J_iconst (pc := 24) (v := (1 : Int32)) C 16 rfl rfl ?_
  refine J_iadd (pc := 25) C 17 rfl  ?_
  refine J_top (y := (1 : Int32)) rfl ?_
  refine J_aald (pc := 26) (v := (hA 1 0)) (f := (fun i => some (hA i 0))) C 18 rfl 1 rfl rfl rfl ?_
  refine J_aast (pc := 27) (v := (hA 1 0)) (f := (fun i => some (hA i 0))) (ws2 := (wHisX G aH (va_up (fun i => some (hA i 0)) 0 (some (hA 1 0))) hA hV (hZ 1 0))) C 19 rfl 1 11 rfl rfl rfl rfl ?_
  refine J_iinc (pc := 28) (v := (1 : Int32)) (lv' := [(2, .int (1 : Int32)), (1, .ref (hA 0 0)), (0, .ref (aH 0))]) C 20 rfl 0 rfl rfl (by decide) rfl ?_
  refine J_goto (pc := 31) (tgt := 9) C 21 rfl rfl ?_
  refine J_iload_n (pc := 9) C 7 rfl 0 rfl rfl ?_
  refine J_iconst (pc := 10) (v := (5 : Int32)) C 8 rfl rfl ?_
  refine J_icmp_ge (pc := 11) (tgt := 34) C 9 rfl rfl (fun c2 => absurd c2 (by decide)) (fun c2 => ?_)
  refine J_aload_n (pc := 14) C 10 rfl 2 rfl rfl ?_
  refine J_get (pc := 15) (v := .ref (aH 1)) C 11 rfl TB_l0 rfl 0 0 rfl (by decide) k19 rfl rfl ?_
  refine J_iload_n (pc := 18) C 12 rfl 0 rfl rfl ?_
  refine J_aload_n (pc := 19) C 13 rfl 2 rfl rfl ?_
  refine J_get (pc := 20) (v := .ref (aH 1)) C 14 rfl TB_l0 rfl 0 0 rfl (by decide) k19 rfl rfl ?_
  refine J_iload_n (pc := 23) C 15 rfl 0 rfl rfl ?_
  refine J_iconst (pc := 24) (v := (1 : Int32)) C 16 rfl rfl ?_
  refine J_iadd (pc := 25) C 17 rfl  ?_
  refine J_top (y := (2 : Int32)) rfl ?_
  refine J_aald (pc := 26) (v := (hA 2 0)) (f := (va_up (fun i => some (hA i 0)) 0 (some (hA 1 0)))) C 18 rfl 1 rfl rfl rfl ?_
  refine J_aast (pc := 27) (v := (hA 2 0)) (f := (va_up (fun i => some (hA i 0)) 0 (some (hA 1 0)))) (ws2 := (wHisX G aH (va_up (va_up (fun i => some (hA i 0)) 0 (some (hA 1 0))) 1 (some (hA 2 0))) hA hV (hZ 1 0))) C 19 rfl 1 20 rfl rfl rfl rfl ?_
  refine J_iinc (pc := 28) (v := (2 : Int32)) (lv' := [(2, .int (2 : Int32)), (1, .ref (hA 0 0)), (0, .ref (aH 0))]) C 20 rfl 0 rfl rfl (by decide) rfl ?_
  refine J_goto (pc := 31) (tgt := 9) C 21 rfl rfl ?_
  refine J_iload_n (pc := 9) C 7 rfl 0 rfl rfl ?_
  refine J_iconst (pc := 10) (v := (5 : Int32)) C 8 rfl rfl ?_
  refine J_icmp_ge (pc := 11) (tgt := 34) C 9 rfl rfl (fun c3 => absurd c3 (by decide)) (fun c3 => ?_)
  refine J_aload_n (pc := 14) C 10 rfl 2 rfl rfl ?_
  refine J_get (pc := 15) (v := .ref (aH 1)) C 11 rfl TB_l0 rfl 0 0 rfl (by decide) k19 rfl rfl ?_
  refine J_iload_n (pc := 18) C 12 rfl 0 rfl rfl ?_
  refine J_aload_n (pc := 19) C 13 rfl 2 rfl rfl ?_
  refine J_get (pc := 20) (v := .ref (aH 1)) C 14 rfl TB_l0 rfl 0 0 rfl (by decide) k19 rfl rfl ?_
  refine J_iload_n (pc := 23) C 15 rfl 0 rfl rfl ?_
  refine J_iconst (pc := 24) (v := (1 : Int32)) C 16 rfl rfl ?_
  refine J_iadd (pc := 25) C 17 rfl  ?_
  refine J_top (y := (3 : Int32)) rfl ?_
  refine J_aald (pc := 26) (v := (hA 3 0)) (f := (va_up (va_up (fun i => some (hA i 0)) 0 (some (hA 1 0))) 1 (some (hA 2 0)))) C 18 rfl 1 rfl rfl rfl ?_
  refine J_aast (pc := 27) (v := (hA 3 0)) (f := (va_up (va_up (fun i => some (hA i 0)) 0 (some (hA 1 0))) 1 (some (hA 2 0)))) (ws2 := (wHisX G aH (va_up (va_up (va_up (fun i => some (hA i 0)) 0 (some (hA 1 0))) 1 (some (hA 2 0))) 2 (some (hA 3 0))) hA hV (hZ 1 0))) C 19 rfl 1 29 rfl rfl rfl rfl ?_
  refine J_iinc (pc := 28) (v := (3 : Int32)) (lv' := [(2, .int (3 : Int32)), (1, .ref (hA 0 0)), (0, .ref (aH 0))]) C 20 rfl 0 rfl rfl (by decide) rfl ?_
  refine J_goto (pc := 31) (tgt := 9) C 21 rfl rfl ?_
  refine J_iload_n (pc := 9) C 7 rfl 0 rfl rfl ?_
  refine J_iconst (pc := 10) (v := (5 : Int32)) C 8 rfl rfl ?_
  refine J_icmp_ge (pc := 11) (tgt := 34) C 9 rfl rfl (fun c4 => absurd c4 (by decide)) (fun c4 => ?_)
  refine J_aload_n (pc := 14) C 10 rfl 2 rfl rfl ?_
  refine J_get (pc := 15) (v := .ref (aH 1)) C 11 rfl TB_l0 rfl 0 0 rfl (by decide) k19 rfl rfl ?_
  refine J_iload_n (pc := 18) C 12 rfl 0 rfl rfl ?_
  refine J_aload_n (pc := 19) C 13 rfl 2 rfl rfl ?_
  refine J_get (pc := 20) (v := .ref (aH 1)) C 14 rfl TB_l0 rfl 0 0 rfl (by decide) k19 rfl rfl ?_
  refine J_iload_n (pc := 23) C 15 rfl 0 rfl rfl ?_
  refine J_iconst (pc := 24) (v := (1 : Int32)) C 16 rfl rfl ?_
  refine J_iadd (pc := 25) C 17 rfl  ?_
  refine J_top (y := (4 : Int32)) rfl ?_
  refine J_aald (pc := 26) (v := (hA 4 0)) (f := (va_up (va_up (va_up (fun i => some (hA i 0)) 0 (some (hA 1 0))) 1 (some (hA 2 0))) 2 (some (hA 3 0)))) C 18 rfl 1 rfl rfl rfl ?_
  refine J_aast (pc := 27) (v := (hA 4 0)) (f := (va_up (va_up (va_up (fun i => some (hA i 0)) 0 (some (hA 1 0))) 1 (some (hA 2 0))) 2 (some (hA 3 0)))) (ws2 := (wHisX G aH (va_up (va_up (va_up (va_up (fun i => some (hA i 0)) 0 (some (hA 1 0))) 1 (some (hA 2 0))) 2 (some (hA 3 0))) 3 (some (hA 4 0))) hA hV (hZ 1 0))) C 19 rfl 1 38 rfl rfl rfl rfl ?_
  refine J_iinc (pc := 28) (v := (4 : Int32)) (lv' := [(2, .int (4 : Int32)), (1, .ref (hA 0 0)), (0, .ref (aH 0))]) C 20 rfl 0 rfl rfl (by decide) rfl ?_
  refine J_goto (pc := 31) (tgt := 9) C 21 rfl rfl ?_
  refine J_iload_n (pc := 9) C 7 rfl 0 rfl rfl ?_
  refine J_iconst (pc := 10) (v := (5 : Int32)) C 8 rfl rfl ?_
  refine J_icmp_ge (pc := 11) (tgt := 34) C 9 rfl rfl (fun c5 => absurd c5 (by decide)) (fun c5 => ?_)
  refine J_aload_n (pc := 14) C 10 rfl 2 rfl rfl ?_
  refine J_get (pc := 15) (v := .ref (aH 1)) C 11 rfl TB_l0 rfl 0 0 rfl (by decide) k19 rfl rfl ?_
  refine J_iload_n (pc := 18) C 12 rfl 0 rfl rfl ?_
  refine J_aload_n (pc := 19) C 13 rfl 2 rfl rfl ?_
  refine J_get (pc := 20) (v := .ref (aH 1)) C 14 rfl TB_l0 rfl 0 0 rfl (by decide) k19 rfl rfl ?_
  refine J_iload_n (pc := 23) C 15 rfl 0 rfl rfl ?_
  refine J_iconst (pc := 24) (v := (1 : Int32)) C 16 rfl rfl ?_
  refine J_iadd (pc := 25) C 17 rfl  ?_
  refine J_top (y := (5 : Int32)) rfl ?_
  refine J_aald (pc := 26) (v := (hA 5 0)) (f := (va_up (va_up (va_up (va_up (fun i => some (hA i 0)) 0 (some (hA 1 0))) 1 (some (hA 2 0))) 2 (some (hA 3 0))) 3 (some (hA 4 0)))) C 18 rfl 1 rfl rfl rfl ?_
  refine J_aast (pc := 27) (v := (hA 5 0)) (f := (va_up (va_up (va_up (va_up (fun i => some (hA i 0)) 0 (some (hA 1 0))) 1 (some (hA 2 0))) 2 (some (hA 3 0))) 3 (some (hA 4 0)))) (ws2 := (wHisX G aH (va_up (va_up (va_up (va_up (va_up (fun i => some (hA i 0)) 0 (some (hA 1 0))) 1 (some (hA 2 0))) 2 (some (hA 3 0))) 3 (some (hA 4 0))) 4 (some (hA 5 0))) hA hV (hZ 1 0))) C 19 rfl 1 47 rfl rfl rfl rfl ?_
  refine J_iinc (pc := 28) (v := (5 : Int32)) (lv' := [(2, .int (5 : Int32)), (1, .ref (hA 0 0)), (0, .ref (aH 0))]) C 20 rfl 0 rfl rfl (by decide) rfl ?_
  refine J_goto (pc := 31) (tgt := 9) C 21 rfl rfl ?_
  refine J_iload_n (pc := 9) C 7 rfl 0 rfl rfl ?_
  refine J_iconst (pc := 10) (v := (5 : Int32)) C 8 rfl rfl ?_
  refine J_icmp_ge (pc := 11) (tgt := 34) C 9 rfl rfl (fun c6 => ?_) (fun c6 => absurd c6 (by decide))
  refine J_aload_n (pc := 34) C 22 rfl 2 rfl rfl ?_
  refine J_get (pc := 35) (v := .ref (aH 1)) C 23 rfl TB_l0 rfl 0 0 rfl (by decide) k19 rfl rfl ?_
  refine J_iconst (pc := 38) (v := (5 : Int32)) C 24 rfl rfl ?_
  refine J_aload_n (pc := 39) C 25 rfl 1 rfl rfl ?_
  refine J_aast (pc := 40) (v := (hA 0 0)) (f := (va_up (va_up (va_up (va_up (va_up (fun i => some (hA i 0)) 0 (some (hA 1 0))) 1 (some (hA 2 0))) 2 (some (hA 3 0))) 3 (some (hA 4 0))) 4 (some (hA 5 0)))) (ws2 := (wHisX G aH (va_up (va_up (va_up (va_up (va_up (va_up (fun i => some (hA i 0)) 0 (some (hA 1 0))) 1 (some (hA 2 0))) 2 (some (hA 3 0))) 3 (some (hA 4 0))) 4 (some (hA 5 0))) 5 (some (hA 0 0))) hA hV (hZ 1 0))) C 26 rfl 1 2 rfl rfl rfl rfl ?_
  refine J_aload_n (pc := 41) C 27 rfl 2 rfl rfl ?_
  refine J_dup (pc := 42) C 28 rfl rfl ?_
  refine J_get (pc := 43) (v := .int (hZ 1 0)) C 29 rfl TB_l0 rfl 0 1 rfl (by decide) k20 rfl rfl ?_
  refine J_iconst (pc := 46) (v := (1 : Int32)) C 30 rfl rfl ?_
  refine J_isub (pc := 47) C 31 rfl  ?_
  refine J_puti (pc := 48) C 32 (fun vv => (wHisX G aH (va_up (va_up (va_up (va_up (va_up (va_up (fun i => some (hA i 0)) 0 (some (hA 1 0))) 1 (some (hA 2 0))) 2 (some (hA 3 0))) 3 (some (hA 4 0))) 4 (some (hA 5 0))) 5 (some (hA 0 0))) hA hV vv)) rfl TB_l0 tyX0 tyX0_ok nmX0 rfl 0 1 rfl (by decide) k20 rfl rfl rfl (Nat.le_of_ble_eq_true rfl) (fun _ => rfl) ?_
  refine J_aeq (q0 := 1) (ws' := wHisX G aH (fun i => some (rot6 hA i 0)) hA hV ((hZ 1 0) - (1 : Int32))) rfl h6 rfl ?_
  refine J_perm (ws' := wHis G aH (rot6 hA) (rot6 hV) ((hZ 1 0) - (1 : Int32))) [0, 1, 11, 12, 13, 14, 15, 16, 17, 18, 19, 20, 21, 22, 23, 24, 25, 26, 27, 28, 29, 30, 31, 32, 33, 34, 35, 36, 37, 38, 39, 40, 41, 42, 43, 44, 45, 46, 47, 48, 49, 50, 51, 52, 53, 54, 55, 2, 3, 4, 5, 6, 7, 8, 9, 10] (by decide +kernel) rfl ?_
  cases h
  exact J_vret (pc := 51) C 33 rfl
def T_X0_remember : List (Nat × ClassFile.Instr × Nat) := [(0, .aload_n 0, 1), (1, .getfield 17, 3), (4, .bipush 6, 2), (6, .if_icmp .ne 7, 3), (9, .aload_n 0, 1), (10, .invokevirtual 22, 3), (13, .aload_n 0, 1), (14, .getfield 11, 3), (17, .aload_n 0, 1), (18, .getfield 17, 3), (21, .aaload, 1), (22, .aload_n 1, 1), (23, .invokevirtual 25, 3), (26, .aload_n 0, 1), (27, .dup, 1), (28, .getfield 17, 3), (31, .iconst 1, 1), (32, .iadd, 1), (33, .putfield 17, 3), (36, .return_, 1)]
theorem D_X0_remember : ∀ q ∈ T_X0_remember, decode cX0_remember q.1 = .ok q.2 := by decide +kernel
theorem V_X0_remember : Vy yX0_remember cX0_remember 2 none 1 := ⟨k26, k30, by decide +kernel⟩
theorem i_X0_remember : Cond.instanceMethod yX0_remember ∈ TB := k224
theorem s_X0_remember : Cond.selects yX0_remember.cls yX0_remember yX0_remember ∈ TB := k225
noncomputable def f_X0_remember_K13 (vS : JV) (hA_13 : Nat → Nat → Nat) (hV_13 : Nat → JV) (hZ_13 : JV) : Option ((Nat → Nat → Nat) × (Nat → JV) × JV) :=
  gd (inb (hZ_13 1 0) 6) ((if (hZ_13 1 0) = (0 : Int32) then (f_X2_copyFrom (hV_13 0) vS).bind (fun q4 => some (hA_13, (up1 hV_13 0 q4), (up2 hZ_13 1 0 ((hZ_13 1 0) + (1 : Int32))))) else (if (hZ_13 1 0) = (1 : Int32) then (f_X2_copyFrom (hV_13 1) vS).bind (fun q6 => some (hA_13, (up1 hV_13 1 q6), (up2 hZ_13 1 0 ((hZ_13 1 0) + (1 : Int32))))) else (if (hZ_13 1 0) = (2 : Int32) then (f_X2_copyFrom (hV_13 2) vS).bind (fun q8 => some (hA_13, (up1 hV_13 2 q8), (up2 hZ_13 1 0 ((hZ_13 1 0) + (1 : Int32))))) else (if (hZ_13 1 0) = (3 : Int32) then (f_X2_copyFrom (hV_13 3) vS).bind (fun q10 => some (hA_13, (up1 hV_13 3 q10), (up2 hZ_13 1 0 ((hZ_13 1 0) + (1 : Int32))))) else (if (hZ_13 1 0) = (4 : Int32) then (f_X2_copyFrom (hV_13 4) vS).bind (fun q12 => some (hA_13, (up1 hV_13 4 q12), (up2 hZ_13 1 0 ((hZ_13 1 0) + (1 : Int32))))) else (if (hZ_13 1 0) = (5 : Int32) then (f_X2_copyFrom (hV_13 5) vS).bind (fun q14 => some (hA_13, (up1 hV_13 5 q14), (up2 hZ_13 1 0 ((hZ_13 1 0) + (1 : Int32))))) else none)))))))
noncomputable def f_X0_remember (vS : JV) (hA : Nat → Nat → Nat) (hV : Nat → JV) (hZ : JV)  : Option ((Nat → Nat → Nat) × (Nat → JV) × JV) :=
  (if (hZ 1 0) = (6 : Int32) then (f_X0_dropOldest hA hV hZ).bind (fun q15 => f_X0_remember_K13 vS (q15.1) (q15.2.1) (q15.2.2)) else f_X0_remember_K13 vS hA hV hZ)
set_option maxRecDepth 100000 in
set_option maxHeartbeats 4000000 in
theorem c_X0_remember {l : Launch} {G : JG} (aS : Nat → Nat) (aH : Nat → Nat) (vS : JV) (hA : Nat → Nat → Nat) (hV : Nat → JV) (hZ : JV)  {Rz : (Nat → Nat → Nat) × (Nat → JV) × JV} (h : f_X0_remember vS hA hV hZ = some Rz) : JM l G yX0_remember cX0_remember 2 none 1 22 [.ref (aH 0), .ref (aS 0)] (wSch G aS (vS 0) (vS 1) (vS 2) (vS 3) (vS 4) (vS 5) (vS 6) (vS 7) (vS 8 0) (vS 9 0) ++ (wHis G aH hA hV (hZ 1 0))) (wSch G aS (vS 0) (vS 1) (vS 2) (vS 3) (vS 4) (vS 5) (vS 6) (vS 7) (vS 8 0) (vS 9 0) ++ (wHis G aH (Rz.1) (Rz.2.1) ((Rz.2.2) 1 0))) none := by
  refine JM.of (own := RX0) (tb := T_X0_remember) (by decide) (Nat.le_of_ble_eq_true rfl) D_X0_remember rfl (fun X C => ?_)
  refine J_sub (lv' := [(0, .ref (aH 0)), (1, .ref (aS 0))]) [0, 1] rfl ?_
  have B13 : ∀ (hA_13 : Nat → Nat → Nat) (hV_13 : Nat → JV) (hZ_13 : JV), f_X0_remember_K13 vS hA_13 hV_13 hZ_13 = some Rz → J l { frames := 1, cells := 0, slots := 0, locals := 22 } G 2 X (QM X G 0 0 none (wSch G aS (vS 0) (vS 1) (vS 2) (vS 3) (vS 4) (vS 5) (vS 6) (vS 7) (vS 8 0) (vS 9 0) ++ (wHis G aH (Rz.1) (Rz.2.1) ((Rz.2.2) 1 0)))) 0 0 13 [(0, .ref (aH 0)), (1, .ref (aS 0))] [] (wSch G aS (vS 0) (vS 1) (vS 2) (vS 3) (vS 4) (vS 5) (vS 6) (vS 7) (vS 8 0) (vS 9 0) ++ (wHis G aH hA_13 hV_13 (hZ_13 1 0))) := by
    intro hA_13 hV_13 hZ_13 h
    unfold f_X0_remember_K13 at h
    refine J_aload_n (pc := 13) C 6 rfl 0 rfl rfl ?_
    refine J_get (pc := 14) (v := .ref (aH 1)) C 7 rfl TB_l0 rfl 9 0 rfl (by decide) k19 rfl rfl ?_
    refine J_aload_n (pc := 17) C 8 rfl 0 rfl rfl ?_
    refine J_get (pc := 18) (v := .int (hZ_13 1 0)) C 9 rfl TB_l0 rfl 9 1 rfl (by decide) k20 rfl rfl ?_
    obtain ⟨g2, h⟩ := gd_some h
    by_cases c3 : (hZ_13 1 0) = (0 : Int32)
    · rw [if_pos c3] at h
      refine J_aald (pc := 21) (v := (hA_13 0 0)) (f := fun i => some (hA_13 i 0)) C 10 rfl 10 rfl g2 (by rw [c3]; rfl) ?_
      refine J_aload_n (pc := 22) C 11 rfl 1 rfl rfl ?_
      obtain ⟨q4, hq4, h⟩ := bnd h
      refine J_callV (pc := 23) (st2 := []) (st3 := []) (ws2 := (wSch G aS (vS 0) (vS 1) (vS 2) (vS 3) (vS 4) (vS 5) (vS 6) (vS 7) (vS 8 0) (vS 9 0) ++ (wHis G aH hA_13 (up1 hV_13 0 q4) (hZ_13 1 0)))) C 12 rfl (c_X2_copyFrom (hA_13 0) aS (hV_13 0) vS hq4) V_X2_copyFrom k31 i_X2_copyFrom s_X2_copyFrom rfl rfl ⟨Nat.le_of_ble_eq_true rfl, Nat.le_of_ble_eq_true rfl⟩ (Nat.le_of_ble_eq_true rfl) ⟨Nat.le_refl _, Nat.le_refl _⟩ 11 2 rfl rfl rfl (isC := [11, 12, 13, 14, 15, 16, 17, 18, 19, 0, 1, 2, 3, 4, 5, 6, 7, 8]) (isR := [9, 10, 20, 21, 22, 23, 24, 25, 26, 27, 28, 29, 30, 31, 32, 33, 34, 35, 36, 37, 38, 39, 40, 41, 42, 43, 44, 45, 46, 47, 48, 49, 50, 51, 52, 53, 54, 55, 56, 57, 58, 59, 60, 61, 62, 63, 64]) (N := 65) ⟨rfl, by decide +kernel, rfl, by decide +kernel, rfl, ⟨⟨_, rfl, rfl⟩, ⟨⟨_, rfl, rfl⟩, ⟨⟨_, rfl, rfl⟩, ⟨⟨_, rfl, rfl⟩, ⟨⟨_, rfl, rfl⟩, ⟨⟨_, rfl, rfl⟩, ⟨⟨_, rfl, rfl⟩, ⟨⟨_, rfl, rfl⟩, ⟨⟨_, rfl, rfl⟩, ⟨⟨_, rfl, rfl⟩, ⟨⟨_, rfl, rfl⟩, ⟨⟨_, rfl, rfl⟩, ⟨⟨_, rfl, rfl⟩, ⟨⟨_, rfl, rfl⟩, ⟨⟨_, rfl, rfl⟩, ⟨⟨_, rfl, rfl⟩, ⟨⟨_, rfl, rfl⟩, ⟨⟨_, rfl, rfl⟩, ⟨⟨_, rfl, rfl⟩, ⟨⟨_, rfl, rfl⟩, ⟨⟨_, rfl, rfl⟩, ⟨⟨_, rfl, rfl⟩, ⟨⟨_, rfl, rfl⟩, ⟨⟨_, rfl, rfl⟩, ⟨⟨_, rfl, rfl⟩, ⟨⟨_, rfl, rfl⟩, ⟨⟨_, rfl, rfl⟩, ⟨⟨_, rfl, rfl⟩, ⟨⟨_, rfl, rfl⟩, ⟨⟨_, rfl, rfl⟩, ⟨⟨_, rfl, rfl⟩, ⟨⟨_, rfl, rfl⟩, ⟨⟨_, rfl, rfl⟩, ⟨⟨_, rfl, rfl⟩, ⟨⟨_, rfl, rfl⟩, ⟨⟨_, rfl, rfl⟩, ⟨⟨_, rfl, rfl⟩, ⟨⟨_, rfl, rfl⟩, ⟨⟨_, rfl, rfl⟩, ⟨⟨_, rfl, rfl⟩, ⟨⟨_, rfl, rfl⟩, ⟨⟨_, rfl, rfl⟩, ⟨⟨_, rfl, rfl⟩, ⟨⟨_, rfl, rfl⟩, ⟨⟨_, rfl, rfl⟩, ⟨⟨_, rfl, rfl⟩, ⟨⟨_, rfl, rfl⟩, trivial⟩⟩⟩⟩⟩⟩⟩⟩⟩⟩⟩⟩⟩⟩⟩⟩⟩⟩⟩⟩⟩⟩⟩⟩⟩⟩⟩⟩⟩⟩⟩⟩⟩⟩⟩⟩⟩⟩⟩⟩⟩⟩⟩⟩⟩⟩⟩⟩ rfl ?_
      refine J_aload_n (pc := 26) C 13 rfl 0 rfl rfl ?_
      refine J_dup (pc := 27) C 14 rfl rfl ?_
      refine J_get (pc := 28) (v := .int (hZ_13 1 0)) C 15 rfl TB_l0 rfl 9 1 rfl (by decide) k20 rfl rfl ?_
      refine J_iconst (pc := 31) (v := (1 : Int32)) C 16 rfl rfl ?_
      refine J_iadd (pc := 32) C 17 rfl  ?_
      refine J_puti (pc := 33) C 18 (fun vv => (wSch G aS (vS 0) (vS 1) (vS 2) (vS 3) (vS 4) (vS 5) (vS 6) (vS 7) (vS 8 0) (vS 9 0) ++ (wHis G aH hA_13 (up1 hV_13 0 q4) vv))) rfl TB_l0 tyX0 tyX0_ok nmX0 rfl 9 1 rfl (by decide) k20 rfl rfl rfl (Nat.le_of_ble_eq_true rfl) (fun _ => rfl) ?_
      cases h
      exact J_vret (pc := 36) C 19 rfl
    · rw [if_neg c3] at h
      by_cases c5 : (hZ_13 1 0) = (1 : Int32)
      · rw [if_pos c5] at h
        refine J_aald (pc := 21) (v := (hA_13 1 0)) (f := fun i => some (hA_13 i 0)) C 10 rfl 10 rfl g2 (by rw [c5]; rfl) ?_
        refine J_aload_n (pc := 22) C 11 rfl 1 rfl rfl ?_
        obtain ⟨q6, hq6, h⟩ := bnd h
        refine J_callV (pc := 23) (st2 := []) (st3 := []) (ws2 := (wSch G aS (vS 0) (vS 1) (vS 2) (vS 3) (vS 4) (vS 5) (vS 6) (vS 7) (vS 8 0) (vS 9 0) ++ (wHis G aH hA_13 (up1 hV_13 1 q6) (hZ_13 1 0)))) C 12 rfl (c_X2_copyFrom (hA_13 1) aS (hV_13 1) vS hq6) V_X2_copyFrom k31 i_X2_copyFrom s_X2_copyFrom rfl rfl ⟨Nat.le_of_ble_eq_true rfl, Nat.le_of_ble_eq_true rfl⟩ (Nat.le_of_ble_eq_true rfl) ⟨Nat.le_refl _, Nat.le_refl _⟩ 20 2 rfl rfl rfl (isC := [20, 21, 22, 23, 24, 25, 26, 27, 28, 0, 1, 2, 3, 4, 5, 6, 7, 8]) (isR := [9, 10, 11, 12, 13, 14, 15, 16, 17, 18, 19, 29, 30, 31, 32, 33, 34, 35, 36, 37, 38, 39, 40, 41, 42, 43, 44, 45, 46, 47, 48, 49, 50, 51, 52, 53, 54, 55, 56, 57, 58, 59, 60, 61, 62, 63, 64]) (N := 65) ⟨rfl, by decide +kernel, rfl, by decide +kernel, rfl, ⟨⟨_, rfl, rfl⟩, ⟨⟨_, rfl, rfl⟩, ⟨⟨_, rfl, rfl⟩, ⟨⟨_, rfl, rfl⟩, ⟨⟨_, rfl, rfl⟩, ⟨⟨_, rfl, rfl⟩, ⟨⟨_, rfl, rfl⟩, ⟨⟨_, rfl, rfl⟩, ⟨⟨_, rfl, rfl⟩, ⟨⟨_, rfl, rfl⟩, ⟨⟨_, rfl, rfl⟩, ⟨⟨_, rfl, rfl⟩, ⟨⟨_, rfl, rfl⟩, ⟨⟨_, rfl, rfl⟩, ⟨⟨_, rfl, rfl⟩, ⟨⟨_, rfl, rfl⟩, ⟨⟨_, rfl, rfl⟩, ⟨⟨_, rfl, rfl⟩, ⟨⟨_, rfl, rfl⟩, ⟨⟨_, rfl, rfl⟩, ⟨⟨_, rfl, rfl⟩, ⟨⟨_, rfl, rfl⟩, ⟨⟨_, rfl, rfl⟩, ⟨⟨_, rfl, rfl⟩, ⟨⟨_, rfl, rfl⟩, ⟨⟨_, rfl, rfl⟩, ⟨⟨_, rfl, rfl⟩, ⟨⟨_, rfl, rfl⟩, ⟨⟨_, rfl, rfl⟩, ⟨⟨_, rfl, rfl⟩, ⟨⟨_, rfl, rfl⟩, ⟨⟨_, rfl, rfl⟩, ⟨⟨_, rfl, rfl⟩, ⟨⟨_, rfl, rfl⟩, ⟨⟨_, rfl, rfl⟩, ⟨⟨_, rfl, rfl⟩, ⟨⟨_, rfl, rfl⟩, ⟨⟨_, rfl, rfl⟩, ⟨⟨_, rfl, rfl⟩, ⟨⟨_, rfl, rfl⟩, ⟨⟨_, rfl, rfl⟩, ⟨⟨_, rfl, rfl⟩, ⟨⟨_, rfl, rfl⟩, ⟨⟨_, rfl, rfl⟩, ⟨⟨_, rfl, rfl⟩, ⟨⟨_, rfl, rfl⟩, ⟨⟨_, rfl, rfl⟩, trivial⟩⟩⟩⟩⟩⟩⟩⟩⟩⟩⟩⟩⟩⟩⟩⟩⟩⟩⟩⟩⟩⟩⟩⟩⟩⟩⟩⟩⟩⟩⟩⟩⟩⟩⟩⟩⟩⟩⟩⟩⟩⟩⟩⟩⟩⟩⟩⟩ rfl ?_
        refine J_aload_n (pc := 26) C 13 rfl 0 rfl rfl ?_
        refine J_dup (pc := 27) C 14 rfl rfl ?_
        refine J_get (pc := 28) (v := .int (hZ_13 1 0)) C 15 rfl TB_l0 rfl 9 1 rfl (by decide) k20 rfl rfl ?_
        refine J_iconst (pc := 31) (v := (1 : Int32)) C 16 rfl rfl ?_
        refine J_iadd (pc := 32) C 17 rfl  ?_
        refine J_puti (pc := 33) C 18 (fun vv => (wSch G aS (vS 0) (vS 1) (vS 2) (vS 3) (vS 4) (vS 5) (vS 6) (vS 7) (vS 8 0) (vS 9 0) ++ (wHis G aH hA_13 (up1 hV_13 1 q6) vv))) rfl TB_l0 tyX0 tyX0_ok nmX0 rfl 9 1 rfl (by decide) k20 rfl rfl rfl (Nat.le_of_ble_eq_true rfl) (fun _ => rfl) ?_
        cases h
        exact J_vret (pc := 36) C 19 rfl
      · rw [if_neg c5] at h
        by_cases c7 : (hZ_13 1 0) = (2 : Int32)
        · rw [if_pos c7] at h
          refine J_aald (pc := 21) (v := (hA_13 2 0)) (f := fun i => some (hA_13 i 0)) C 10 rfl 10 rfl g2 (by rw [c7]; rfl) ?_
          refine J_aload_n (pc := 22) C 11 rfl 1 rfl rfl ?_
          obtain ⟨q8, hq8, h⟩ := bnd h
          refine J_callV (pc := 23) (st2 := []) (st3 := []) (ws2 := (wSch G aS (vS 0) (vS 1) (vS 2) (vS 3) (vS 4) (vS 5) (vS 6) (vS 7) (vS 8 0) (vS 9 0) ++ (wHis G aH hA_13 (up1 hV_13 2 q8) (hZ_13 1 0)))) C 12 rfl (c_X2_copyFrom (hA_13 2) aS (hV_13 2) vS hq8) V_X2_copyFrom k31 i_X2_copyFrom s_X2_copyFrom rfl rfl ⟨Nat.le_of_ble_eq_true rfl, Nat.le_of_ble_eq_true rfl⟩ (Nat.le_of_ble_eq_true rfl) ⟨Nat.le_refl _, Nat.le_refl _⟩ 29 2 rfl rfl rfl (isC := [29, 30, 31, 32, 33, 34, 35, 36, 37, 0, 1, 2, 3, 4, 5, 6, 7, 8]) (isR := [9, 10, 11, 12, 13, 14, 15, 16, 17, 18, 19, 20, 21, 22, 23, 24, 25, 26, 27, 28, 38, 39, 40, 41, 42, 43, 44, 45, 46, 47, 48, 49, 50, 51, 52, 53, 54, 55, 56, 57, 58, 59, 60, 61, 62, 63, 64]) (N := 65) ⟨rfl, by decide +kernel, rfl, by decide +kernel, rfl, ⟨⟨_, rfl, rfl⟩, ⟨⟨_, rfl, rfl⟩, ⟨⟨_, rfl, rfl⟩, ⟨⟨_, rfl, rfl⟩, ⟨⟨_, rfl, rfl⟩, ⟨⟨_, rfl, rfl⟩, ⟨⟨_, rfl, rfl⟩, ⟨⟨_, rfl, rfl⟩, ⟨⟨_, rfl, rfl⟩, ⟨⟨_, rfl, rfl⟩, ⟨⟨_, rfl, rfl⟩, ⟨⟨_, rfl, rfl⟩, ⟨⟨_, rfl, rfl⟩, ⟨⟨_, rfl, rfl⟩, ⟨⟨_, rfl, rfl⟩, ⟨⟨_, rfl, rfl⟩, ⟨⟨_, rfl, rfl⟩, ⟨⟨_, rfl, rfl⟩, ⟨⟨_, rfl, rfl⟩, ⟨⟨_, rfl, rfl⟩, ⟨⟨_, rfl, rfl⟩, ⟨⟨_, rfl, rfl⟩, ⟨⟨_, rfl, rfl⟩, ⟨⟨_, rfl, rfl⟩, ⟨⟨_, rfl, rfl⟩, ⟨⟨_, rfl, rfl⟩, ⟨⟨_, rfl, rfl⟩, ⟨⟨_, rfl, rfl⟩, ⟨⟨_, rfl, rfl⟩, ⟨⟨_, rfl, rfl⟩, ⟨⟨_, rfl, rfl⟩, ⟨⟨_, rfl, rfl⟩, ⟨⟨_, rfl, rfl⟩, ⟨⟨_, rfl, rfl⟩, ⟨⟨_, rfl, rfl⟩, ⟨⟨_, rfl, rfl⟩, ⟨⟨_, rfl, rfl⟩, ⟨⟨_, rfl, rfl⟩, ⟨⟨_, rfl, rfl⟩, ⟨⟨_, rfl, rfl⟩, ⟨⟨_, rfl, rfl⟩, ⟨⟨_, rfl, rfl⟩, ⟨⟨_, rfl, rfl⟩, ⟨⟨_, rfl, rfl⟩, ⟨⟨_, rfl, rfl⟩, ⟨⟨_, rfl, rfl⟩, ⟨⟨_, rfl, rfl⟩, trivial⟩⟩⟩⟩⟩⟩⟩⟩⟩⟩⟩⟩⟩⟩⟩⟩⟩⟩⟩⟩⟩⟩⟩⟩⟩⟩⟩⟩⟩⟩⟩⟩⟩⟩⟩⟩⟩⟩⟩⟩⟩⟩⟩⟩⟩⟩⟩⟩ rfl ?_
          refine J_aload_n (pc := 26) C 13 rfl 0 rfl rfl ?_
          refine J_dup (pc := 27) C 14 rfl rfl ?_
          refine J_get (pc := 28) (v := .int (hZ_13 1 0)) C 15 rfl TB_l0 rfl 9 1 rfl (by decide) k20 rfl rfl ?_
          refine J_iconst (pc := 31) (v := (1 : Int32)) C 16 rfl rfl ?_
          refine J_iadd (pc := 32) C 17 rfl  ?_
          refine J_puti (pc := 33) C 18 (fun vv => (wSch G aS (vS 0) (vS 1) (vS 2) (vS 3) (vS 4) (vS 5) (vS 6) (vS 7) (vS 8 0) (vS 9 0) ++ (wHis G aH hA_13 (up1 hV_13 2 q8) vv))) rfl TB_l0 tyX0 tyX0_ok nmX0 rfl 9 1 rfl (by decide) k20 rfl rfl rfl (Nat.le_of_ble_eq_true rfl) (fun _ => rfl) ?_
          cases h
          exact J_vret (pc := 36) C 19 rfl
        · rw [if_neg c7] at h
          by_cases c9 : (hZ_13 1 0) = (3 : Int32)
          · rw [if_pos c9] at h
            refine J_aald (pc := 21) (v := (hA_13 3 0)) (f := fun i => some (hA_13 i 0)) C 10 rfl 10 rfl g2 (by rw [c9]; rfl) ?_
            refine J_aload_n (pc := 22) C 11 rfl 1 rfl rfl ?_
            obtain ⟨q10, hq10, h⟩ := bnd h
            refine J_callV (pc := 23) (st2 := []) (st3 := []) (ws2 := (wSch G aS (vS 0) (vS 1) (vS 2) (vS 3) (vS 4) (vS 5) (vS 6) (vS 7) (vS 8 0) (vS 9 0) ++ (wHis G aH hA_13 (up1 hV_13 3 q10) (hZ_13 1 0)))) C 12 rfl (c_X2_copyFrom (hA_13 3) aS (hV_13 3) vS hq10) V_X2_copyFrom k31 i_X2_copyFrom s_X2_copyFrom rfl rfl ⟨Nat.le_of_ble_eq_true rfl, Nat.le_of_ble_eq_true rfl⟩ (Nat.le_of_ble_eq_true rfl) ⟨Nat.le_refl _, Nat.le_refl _⟩ 38 2 rfl rfl rfl (isC := [38, 39, 40, 41, 42, 43, 44, 45, 46, 0, 1, 2, 3, 4, 5, 6, 7, 8]) (isR := [9, 10, 11, 12, 13, 14, 15, 16, 17, 18, 19, 20, 21, 22, 23, 24, 25, 26, 27, 28, 29, 30, 31, 32, 33, 34, 35, 36, 37, 47, 48, 49, 50, 51, 52, 53, 54, 55, 56, 57, 58, 59, 60, 61, 62, 63, 64]) (N := 65) ⟨rfl, by decide +kernel, rfl, by decide +kernel, rfl, ⟨⟨_, rfl, rfl⟩, ⟨⟨_, rfl, rfl⟩, ⟨⟨_, rfl, rfl⟩, ⟨⟨_, rfl, rfl⟩, ⟨⟨_, rfl, rfl⟩, ⟨⟨_, rfl, rfl⟩, ⟨⟨_, rfl, rfl⟩, ⟨⟨_, rfl, rfl⟩, ⟨⟨_, rfl, rfl⟩, ⟨⟨_, rfl, rfl⟩, ⟨⟨_, rfl, rfl⟩, ⟨⟨_, rfl, rfl⟩, ⟨⟨_, rfl, rfl⟩, ⟨⟨_, rfl, rfl⟩, ⟨⟨_, rfl, rfl⟩, ⟨⟨_, rfl, rfl⟩, ⟨⟨_, rfl, rfl⟩, ⟨⟨_, rfl, rfl⟩, ⟨⟨_, rfl, rfl⟩, ⟨⟨_, rfl, rfl⟩, ⟨⟨_, rfl, rfl⟩, ⟨⟨_, rfl, rfl⟩, ⟨⟨_, rfl, rfl⟩, ⟨⟨_, rfl, rfl⟩, ⟨⟨_, rfl, rfl⟩, ⟨⟨_, rfl, rfl⟩, ⟨⟨_, rfl, rfl⟩, ⟨⟨_, rfl, rfl⟩, ⟨⟨_, rfl, rfl⟩, ⟨⟨_, rfl, rfl⟩, ⟨⟨_, rfl, rfl⟩, ⟨⟨_, rfl, rfl⟩, ⟨⟨_, rfl, rfl⟩, ⟨⟨_, rfl, rfl⟩, ⟨⟨_, rfl, rfl⟩, ⟨⟨_, rfl, rfl⟩, ⟨⟨_, rfl, rfl⟩, ⟨⟨_, rfl, rfl⟩, ⟨⟨_, rfl, rfl⟩, ⟨⟨_, rfl, rfl⟩, ⟨⟨_, rfl, rfl⟩, ⟨⟨_, rfl, rfl⟩, ⟨⟨_, rfl, rfl⟩, ⟨⟨_, rfl, rfl⟩, ⟨⟨_, rfl, rfl⟩, ⟨⟨_, rfl, rfl⟩, ⟨⟨_, rfl, rfl⟩, trivial⟩⟩⟩⟩⟩⟩⟩⟩⟩⟩⟩⟩⟩⟩⟩⟩⟩⟩⟩⟩⟩⟩⟩⟩⟩⟩⟩⟩⟩⟩⟩⟩⟩⟩⟩⟩⟩⟩⟩⟩⟩⟩⟩⟩⟩⟩⟩⟩ rfl ?_
            refine J_aload_n (pc := 26) C 13 rfl 0 rfl rfl ?_
            refine J_dup (pc := 27) C 14 rfl rfl ?_
            refine J_get (pc := 28) (v := .int (hZ_13 1 0)) C 15 rfl TB_l0 rfl 9 1 rfl (by decide) k20 rfl rfl ?_
            refine J_iconst (pc := 31) (v := (1 : Int32)) C 16 rfl rfl ?_
            refine J_iadd (pc := 32) C 17 rfl  ?_
            refine J_puti (pc := 33) C 18 (fun vv => (wSch G aS (vS 0) (vS 1) (vS 2) (vS 3) (vS 4) (vS 5) (vS 6) (vS 7) (vS 8 0) (vS 9 0) ++ (wHis G aH hA_13 (up1 hV_13 3 q10) vv))) rfl TB_l0 tyX0 tyX0_ok nmX0 rfl 9 1 rfl (by decide) k20 rfl rfl rfl (Nat.le_of_ble_eq_true rfl) (fun _ => rfl) ?_
            cases h
            exact J_vret (pc := 36) C 19 rfl
          · rw [if_neg c9] at h
            by_cases c11 : (hZ_13 1 0) = (4 : Int32)
            · rw [if_pos c11] at h
              refine J_aald (pc := 21) (v := (hA_13 4 0)) (f := fun i => some (hA_13 i 0)) C 10 rfl 10 rfl g2 (by rw [c11]; rfl) ?_
              refine J_aload_n (pc := 22) C 11 rfl 1 rfl rfl ?_
              obtain ⟨q12, hq12, h⟩ := bnd h
              refine J_callV (pc := 23) (st2 := []) (st3 := []) (ws2 := (wSch G aS (vS 0) (vS 1) (vS 2) (vS 3) (vS 4) (vS 5) (vS 6) (vS 7) (vS 8 0) (vS 9 0) ++ (wHis G aH hA_13 (up1 hV_13 4 q12) (hZ_13 1 0)))) C 12 rfl (c_X2_copyFrom (hA_13 4) aS (hV_13 4) vS hq12) V_X2_copyFrom k31 i_X2_copyFrom s_X2_copyFrom rfl rfl ⟨Nat.le_of_ble_eq_true rfl, Nat.le_of_ble_eq_true rfl⟩ (Nat.le_of_ble_eq_true rfl) ⟨Nat.le_refl _, Nat.le_refl _⟩ 47 2 rfl rfl rfl (isC := [47, 48, 49, 50, 51, 52, 53, 54, 55, 0, 1, 2, 3, 4, 5, 6, 7, 8]) (isR := [9, 10, 11, 12, 13, 14, 15, 16, 17, 18, 19, 20, 21, 22, 23, 24, 25, 26, 27, 28, 29, 30, 31, 32, 33, 34, 35, 36, 37, 38, 39, 40, 41, 42, 43, 44, 45, 46, 56, 57, 58, 59, 60, 61, 62, 63, 64]) (N := 65) ⟨rfl, by decide +kernel, rfl, by decide +kernel, rfl, ⟨⟨_, rfl, rfl⟩, ⟨⟨_, rfl, rfl⟩, ⟨⟨_, rfl, rfl⟩, ⟨⟨_, rfl, rfl⟩, ⟨⟨_, rfl, rfl⟩, ⟨⟨_, rfl, rfl⟩, ⟨⟨_, rfl, rfl⟩, ⟨⟨_, rfl, rfl⟩, ⟨⟨_, rfl, rfl⟩, ⟨⟨_, rfl, rfl⟩, ⟨⟨_, rfl, rfl⟩, ⟨⟨_, rfl, rfl⟩, ⟨⟨_, rfl, rfl⟩, ⟨⟨_, rfl, rfl⟩, ⟨⟨_, rfl, rfl⟩, ⟨⟨_, rfl, rfl⟩, ⟨⟨_, rfl, rfl⟩, ⟨⟨_, rfl, rfl⟩, ⟨⟨_, rfl, rfl⟩, ⟨⟨_, rfl, rfl⟩, ⟨⟨_, rfl, rfl⟩, ⟨⟨_, rfl, rfl⟩, ⟨⟨_, rfl, rfl⟩, ⟨⟨_, rfl, rfl⟩, ⟨⟨_, rfl, rfl⟩, ⟨⟨_, rfl, rfl⟩, ⟨⟨_, rfl, rfl⟩, ⟨⟨_, rfl, rfl⟩, ⟨⟨_, rfl, rfl⟩, ⟨⟨_, rfl, rfl⟩, ⟨⟨_, rfl, rfl⟩, ⟨⟨_, rfl, rfl⟩, ⟨⟨_, rfl, rfl⟩, ⟨⟨_, rfl, rfl⟩, ⟨⟨_, rfl, rfl⟩, ⟨⟨_, rfl, rfl⟩, ⟨⟨_, rfl, rfl⟩, ⟨⟨_, rfl, rfl⟩, ⟨⟨_, rfl, rfl⟩, ⟨⟨_, rfl, rfl⟩, ⟨⟨_, rfl, rfl⟩, ⟨⟨_, rfl, rfl⟩, ⟨⟨_, rfl, rfl⟩, ⟨⟨_, rfl, rfl⟩, ⟨⟨_, rfl, rfl⟩, ⟨⟨_, rfl, rfl⟩, ⟨⟨_, rfl, rfl⟩, trivial⟩⟩⟩⟩⟩⟩⟩⟩⟩⟩⟩⟩⟩⟩⟩⟩⟩⟩⟩⟩⟩⟩⟩⟩⟩⟩⟩⟩⟩⟩⟩⟩⟩⟩⟩⟩⟩⟩⟩⟩⟩⟩⟩⟩⟩⟩⟩⟩ rfl ?_
              refine J_aload_n (pc := 26) C 13 rfl 0 rfl rfl ?_
              refine J_dup (pc := 27) C 14 rfl rfl ?_
              refine J_get (pc := 28) (v := .int (hZ_13 1 0)) C 15 rfl TB_l0 rfl 9 1 rfl (by decide) k20 rfl rfl ?_
              refine J_iconst (pc := 31) (v := (1 : Int32)) C 16 rfl rfl ?_
              refine J_iadd (pc := 32) C 17 rfl  ?_
              refine J_puti (pc := 33) C 18 (fun vv => (wSch G aS (vS 0) (vS 1) (vS 2) (vS 3) (vS 4) (vS 5) (vS 6) (vS 7) (vS 8 0) (vS 9 0) ++ (wHis G aH hA_13 (up1 hV_13 4 q12) vv))) rfl TB_l0 tyX0 tyX0_ok nmX0 rfl 9 1 rfl (by decide) k20 rfl rfl rfl (Nat.le_of_ble_eq_true rfl) (fun _ => rfl) ?_
              cases h
              exact J_vret (pc := 36) C 19 rfl
            · rw [if_neg c11] at h
              by_cases c13 : (hZ_13 1 0) = (5 : Int32)
              · rw [if_pos c13] at h
                refine J_aald (pc := 21) (v := (hA_13 5 0)) (f := fun i => some (hA_13 i 0)) C 10 rfl 10 rfl g2 (by rw [c13]; rfl) ?_
                refine J_aload_n (pc := 22) C 11 rfl 1 rfl rfl ?_
                obtain ⟨q14, hq14, h⟩ := bnd h
                refine J_callV (pc := 23) (st2 := []) (st3 := []) (ws2 := (wSch G aS (vS 0) (vS 1) (vS 2) (vS 3) (vS 4) (vS 5) (vS 6) (vS 7) (vS 8 0) (vS 9 0) ++ (wHis G aH hA_13 (up1 hV_13 5 q14) (hZ_13 1 0)))) C 12 rfl (c_X2_copyFrom (hA_13 5) aS (hV_13 5) vS hq14) V_X2_copyFrom k31 i_X2_copyFrom s_X2_copyFrom rfl rfl ⟨Nat.le_of_ble_eq_true rfl, Nat.le_of_ble_eq_true rfl⟩ (Nat.le_of_ble_eq_true rfl) ⟨Nat.le_refl _, Nat.le_refl _⟩ 56 2 rfl rfl rfl (isC := [56, 57, 58, 59, 60, 61, 62, 63, 64, 0, 1, 2, 3, 4, 5, 6, 7, 8]) (isR := [9, 10, 11, 12, 13, 14, 15, 16, 17, 18, 19, 20, 21, 22, 23, 24, 25, 26, 27, 28, 29, 30, 31, 32, 33, 34, 35, 36, 37, 38, 39, 40, 41, 42, 43, 44, 45, 46, 47, 48, 49, 50, 51, 52, 53, 54, 55]) (N := 65) ⟨rfl, by decide +kernel, rfl, by decide +kernel, rfl, ⟨⟨_, rfl, rfl⟩, ⟨⟨_, rfl, rfl⟩, ⟨⟨_, rfl, rfl⟩, ⟨⟨_, rfl, rfl⟩, ⟨⟨_, rfl, rfl⟩, ⟨⟨_, rfl, rfl⟩, ⟨⟨_, rfl, rfl⟩, ⟨⟨_, rfl, rfl⟩, ⟨⟨_, rfl, rfl⟩, ⟨⟨_, rfl, rfl⟩, ⟨⟨_, rfl, rfl⟩, ⟨⟨_, rfl, rfl⟩, ⟨⟨_, rfl, rfl⟩, ⟨⟨_, rfl, rfl⟩, ⟨⟨_, rfl, rfl⟩, ⟨⟨_, rfl, rfl⟩, ⟨⟨_, rfl, rfl⟩, ⟨⟨_, rfl, rfl⟩, ⟨⟨_, rfl, rfl⟩, ⟨⟨_, rfl, rfl⟩, ⟨⟨_, rfl, rfl⟩, ⟨⟨_, rfl, rfl⟩, ⟨⟨_, rfl, rfl⟩, ⟨⟨_, rfl, rfl⟩, ⟨⟨_, rfl, rfl⟩, ⟨⟨_, rfl, rfl⟩, ⟨⟨_, rfl, rfl⟩, ⟨⟨_, rfl, rfl⟩, ⟨⟨_, rfl, rfl⟩, ⟨⟨_, rfl, rfl⟩, ⟨⟨_, rfl, rfl⟩, ⟨⟨_, rfl, rfl⟩, ⟨⟨_, rfl, rfl⟩, ⟨⟨_, rfl, rfl⟩, ⟨⟨_, rfl, rfl⟩, ⟨⟨_, rfl, rfl⟩, ⟨⟨_, rfl, rfl⟩, ⟨⟨_, rfl, rfl⟩, ⟨⟨_, rfl, rfl⟩, ⟨⟨_, rfl, rfl⟩, ⟨⟨_, rfl, rfl⟩, ⟨⟨_, rfl, rfl⟩, ⟨⟨_, rfl, rfl⟩, ⟨⟨_, rfl, rfl⟩, ⟨⟨_, rfl, rfl⟩, ⟨⟨_, rfl, rfl⟩, ⟨⟨_, rfl, rfl⟩, trivial⟩⟩⟩⟩⟩⟩⟩⟩⟩⟩⟩⟩⟩⟩⟩⟩⟩⟩⟩⟩⟩⟩⟩⟩⟩⟩⟩⟩⟩⟩⟩⟩⟩⟩⟩⟩⟩⟩⟩⟩⟩⟩⟩⟩⟩⟩⟩⟩ rfl ?_
                refine J_aload_n (pc := 26) C 13 rfl 0 rfl rfl ?_
                refine J_dup (pc := 27) C 14 rfl rfl ?_
                refine J_get (pc := 28) (v := .int (hZ_13 1 0)) C 15 rfl TB_l0 rfl 9 1 rfl (by decide) k20 rfl rfl ?_
                refine J_iconst (pc := 31) (v := (1 : Int32)) C 16 rfl rfl ?_
                refine J_iadd (pc := 32) C 17 rfl  ?_
                refine J_puti (pc := 33) C 18 (fun vv => (wSch G aS (vS 0) (vS 1) (vS 2) (vS 3) (vS 4) (vS 5) (vS 6) (vS 7) (vS 8 0) (vS 9 0) ++ (wHis G aH hA_13 (up1 hV_13 5 q14) vv))) rfl TB_l0 tyX0 tyX0_ok nmX0 rfl 9 1 rfl (by decide) k20 rfl rfl rfl (Nat.le_of_ble_eq_true rfl) (fun _ => rfl) ?_
                cases h
                exact J_vret (pc := 36) C 19 rfl
              · rw [if_neg c13] at h
                cases h
  unfold f_X0_remember at h
  refine J_aload_n (pc := 0) C 0 rfl 0 rfl rfl ?_
  refine J_get (pc := 1) (v := .int (hZ 1 0)) C 1 rfl TB_l0 rfl 9 1 rfl (by decide) k20 rfl rfl ?_
  refine J_bipush (pc := 4) (v := (6 : Int32)) C 2 rfl rfl ?_
  refine J_icmp_ne (pc := 6) (tgt := 13) C 3 rfl rfl (fun c1 => ?_) (fun c1 => ?_)
  · rw [if_neg c1] at h
    exact J_sub [0, 1] rfl (B13 hA hV hZ h)
  · rw [if_pos c1] at h
    refine J_aload_n (pc := 9) C 4 rfl 0 rfl rfl ?_
    obtain ⟨q15, hq15, h⟩ := bnd h
    refine J_callV (pc := 10) (st2 := []) (st3 := []) (ws2 := (wSch G aS (vS 0) (vS 1) (vS 2) (vS 3) (vS 4) (vS 5) (vS 6) (vS 7) (vS 8 0) (vS 9 0) ++ (wHis G aH (q15.1) (q15.2.1) ((q15.2.2) 1 0)))) C 5 rfl (c_X0_dropOldest aH hA hV hZ hq15) V_X0_dropOldest k27 i_X0_dropOldest s_X0_dropOldest rfl rfl ⟨Nat.le_of_ble_eq_true rfl, Nat.le_of_ble_eq_true rfl⟩ (Nat.le_of_ble_eq_true rfl) ⟨Nat.le_refl _, Nat.le_refl _⟩ 9 0 rfl rfl rfl (isC := [9, 10, 11, 12, 13, 14, 15, 16, 17, 18, 19, 20, 21, 22, 23, 24, 25, 26, 27, 28, 29, 30, 31, 32, 33, 34, 35, 36, 37, 38, 39, 40, 41, 42, 43, 44, 45, 46, 47, 48, 49, 50, 51, 52, 53, 54, 55, 56, 57, 58, 59, 60, 61, 62, 63, 64]) (isR := [0, 1, 2, 3, 4, 5, 6, 7, 8]) (N := 65) ⟨rfl, by decide +kernel, rfl, by decide +kernel, rfl, ⟨⟨_, rfl, rfl⟩, ⟨⟨_, rfl, rfl⟩, ⟨⟨_, rfl, rfl⟩, ⟨⟨_, rfl, rfl⟩, ⟨⟨_, rfl, rfl⟩, ⟨⟨_, rfl, rfl⟩, ⟨⟨_, rfl, rfl⟩, ⟨⟨_, rfl, rfl⟩, ⟨⟨_, rfl, rfl⟩, trivial⟩⟩⟩⟩⟩⟩⟩⟩⟩⟩ rfl ?_
    exact J_sub [0, 1] rfl (B13 (q15.1) (q15.2.1) (q15.2.2) h)
def T_X0_takeBack : List (Nat × ClassFile.Instr × Nat) := [(0, .aload_n 0, 1), (1, .getfield 17, 3), (4, .ifCond .le 26, 3), (7, .aload_n 0, 1), (8, .dup, 1), (9, .getfield 17, 3), (12, .iconst 1, 1), (13, .isub, 1), (14, .putfield 17, 3), (17, .aload_n 1, 1), (18, .aload_n 0, 1), (19, .getfield 11, 3), (22, .aload_n 0, 1), (23, .getfield 17, 3), (26, .aaload, 1), (27, .invokevirtual 25, 3), (30, .return_, 1)]
theorem D_X0_takeBack : ∀ q ∈ T_X0_takeBack, decode cX0_takeBack q.1 = .ok q.2 := by decide +kernel
theorem V_X0_takeBack : Vy yX0_takeBack cX0_takeBack 2 none 1 := ⟨k34, k30, by decide +kernel⟩
theorem i_X0_takeBack : Cond.instanceMethod yX0_takeBack ∈ TB := k332
theorem s_X0_takeBack : Cond.selects yX0_takeBack.cls yX0_takeBack yX0_takeBack ∈ TB := k333
noncomputable def f_X0_takeBack (vS : JV) (hA : Nat → Nat → Nat) (hV : Nat → JV) (hZ : JV)  : Option (JV × JV) :=
  (if (hZ 1 0) ≤ 0 then some (vS, hZ) else gd (inb ((hZ 1 0) - (1 : Int32)) 6) ((if ((hZ 1 0) - (1 : Int32)) = (0 : Int32) then (f_X2_copyFrom vS (hV 0)).bind (fun q4 => some (q4, (up2 hZ 1 0 ((hZ 1 0) - (1 : Int32))))) else (if ((hZ 1 0) - (1 : Int32)) = (1 : Int32) then (f_X2_copyFrom vS (hV 1)).bind (fun q6 => some (q6, (up2 hZ 1 0 ((hZ 1 0) - (1 : Int32))))) else (if ((hZ 1 0) - (1 : Int32)) = (2 : Int32) then (f_X2_copyFrom vS (hV 2)).bind (fun q8 => some (q8, (up2 hZ 1 0 ((hZ 1 0) - (1 : Int32))))) else (if ((hZ 1 0) - (1 : Int32)) = (3 : Int32) then (f_X2_copyFrom vS (hV 3)).bind (fun q10 => some (q10, (up2 hZ 1 0 ((hZ 1 0) - (1 : Int32))))) else (if ((hZ 1 0) - (1 : Int32)) = (4 : Int32) then (f_X2_copyFrom vS (hV 4)).bind (fun q12 => some (q12, (up2 hZ 1 0 ((hZ 1 0) - (1 : Int32))))) else (if ((hZ 1 0) - (1 : Int32)) = (5 : Int32) then (f_X2_copyFrom vS (hV 5)).bind (fun q14 => some (q14, (up2 hZ 1 0 ((hZ 1 0) - (1 : Int32))))) else none))))))))
set_option maxRecDepth 100000 in
set_option maxHeartbeats 4000000 in
theorem c_X0_takeBack {l : Launch} {G : JG} (aS : Nat → Nat) (aH : Nat → Nat) (vS : JV) (hA : Nat → Nat → Nat) (hV : Nat → JV) (hZ : JV)  {Rz : JV × JV} (h : f_X0_takeBack vS hA hV hZ = some Rz) : JM l G yX0_takeBack cX0_takeBack 2 none 1 22 [.ref (aH 0), .ref (aS 0)] (wSch G aS (vS 0) (vS 1) (vS 2) (vS 3) (vS 4) (vS 5) (vS 6) (vS 7) (vS 8 0) (vS 9 0) ++ (wHis G aH hA hV (hZ 1 0))) (wSch G aS ((Rz.1) 0) ((Rz.1) 1) ((Rz.1) 2) ((Rz.1) 3) ((Rz.1) 4) ((Rz.1) 5) ((Rz.1) 6) ((Rz.1) 7) ((Rz.1) 8 0) ((Rz.1) 9 0) ++ (wHis G aH hA hV ((Rz.2) 1 0))) none := by
  refine JM.of (own := RX0) (tb := T_X0_takeBack) (by decide) (Nat.le_of_ble_eq_true rfl) D_X0_takeBack rfl (fun X C => ?_)
  refine J_sub (lv' := [(0, .ref (aH 0)), (1, .ref (aS 0))]) [0, 1] rfl ?_
  unfold f_X0_takeBack at h
  refine J_aload_n (pc := 0) C 0 rfl 0 rfl rfl ?_
  refine J_get (pc := 1) (v := .int (hZ 1 0)) C 1 rfl TB_l0 rfl 9 1 rfl (by decide) k20 rfl rfl ?_
  refine J_if_le (pc := 4) (tgt := 30) C 2 rfl rfl (fun c1 => ?_) (fun c1 => ?_)
  · rw [if_pos c1] at h
    cases h
    exact J_vret (pc := 30) C 16 rfl
  · rw [if_neg c1] at h
    refine J_aload_n (pc := 7) C 3 rfl 0 rfl rfl ?_
    refine J_dup (pc := 8) C 4 rfl rfl ?_
    refine J_get (pc := 9) (v := .int (hZ 1 0)) C 5 rfl TB_l0 rfl 9 1 rfl (by decide) k20 rfl rfl ?_
    refine J_iconst (pc := 12) (v := (1 : Int32)) C 6 rfl rfl ?_
    refine J_isub (pc := 13) C 7 rfl  ?_
    refine J_puti (pc := 14) C 8 (fun vv => (wSch G aS (vS 0) (vS 1) (vS 2) (vS 3) (vS 4) (vS 5) (vS 6) (vS 7) (vS 8 0) (vS 9 0) ++ (wHis G aH hA hV vv))) rfl TB_l0 tyX0 tyX0_ok nmX0 rfl 9 1 rfl (by decide) k20 rfl rfl rfl (Nat.le_of_ble_eq_true rfl) (fun _ => rfl) ?_
    refine J_aload_n (pc := 17) C 9 rfl 1 rfl rfl ?_
    refine J_aload_n (pc := 18) C 10 rfl 0 rfl rfl ?_
    refine J_get (pc := 19) (v := .ref (aH 1)) C 11 rfl TB_l0 rfl 9 0 rfl (by decide) k19 rfl rfl ?_
    refine J_aload_n (pc := 22) C 12 rfl 0 rfl rfl ?_
    refine J_get (pc := 23) (v := .int ((hZ 1 0) - (1 : Int32))) C 13 rfl TB_l0 rfl 9 1 rfl (by decide) k20 rfl rfl ?_
    obtain ⟨g2, h⟩ := gd_some h
    by_cases c3 : ((hZ 1 0) - (1 : Int32)) = (0 : Int32)
    · rw [if_pos c3] at h
      refine J_aald (pc := 26) (v := (hA 0 0)) (f := fun i => some (hA i 0)) C 14 rfl 10 rfl g2 (by rw [c3]; rfl) ?_
      obtain ⟨q4, hq4, h⟩ := bnd h
      refine J_callV (pc := 27) (st2 := []) (st3 := []) (ws2 := (wSch G aS (q4 0) (q4 1) (q4 2) (q4 3) (q4 4) (q4 5) (q4 6) (q4 7) (q4 8 0) (q4 9 0) ++ (wHis G aH hA hV ((hZ 1 0) - (1 : Int32))))) C 15 rfl (c_X2_copyFrom aS (hA 0) vS (hV 0) hq4) V_X2_copyFrom k31 i_X2_copyFrom s_X2_copyFrom rfl rfl ⟨Nat.le_of_ble_eq_true rfl, Nat.le_of_ble_eq_true rfl⟩ (Nat.le_of_ble_eq_true rfl) ⟨Nat.le_refl _, Nat.le_refl _⟩ 0 2 rfl rfl rfl (isC := [0, 1, 2, 3, 4, 5, 6, 7, 8, 11, 12, 13, 14, 15, 16, 17, 18, 19]) (isR := [9, 10, 20, 21, 22, 23, 24, 25, 26, 27, 28, 29, 30, 31, 32, 33, 34, 35, 36, 37, 38, 39, 40, 41, 42, 43, 44, 45, 46, 47, 48, 49, 50, 51, 52, 53, 54, 55, 56, 57, 58, 59, 60, 61, 62, 63, 64]) (N := 65) ⟨rfl, by decide +kernel, rfl, by decide +kernel, rfl, ⟨⟨_, rfl, rfl⟩, ⟨⟨_, rfl, rfl⟩, ⟨⟨_, rfl, rfl⟩, ⟨⟨_, rfl, rfl⟩, ⟨⟨_, rfl, rfl⟩, ⟨⟨_, rfl, rfl⟩, ⟨⟨_, rfl, rfl⟩, ⟨⟨_, rfl, rfl⟩, ⟨⟨_, rfl, rfl⟩, ⟨⟨_, rfl, rfl⟩, ⟨⟨_, rfl, rfl⟩, ⟨⟨_, rfl, rfl⟩, ⟨⟨_, rfl, rfl⟩, ⟨⟨_, rfl, rfl⟩, ⟨⟨_, rfl, rfl⟩, ⟨⟨_, rfl, rfl⟩, ⟨⟨_, rfl, rfl⟩, ⟨⟨_, rfl, rfl⟩, ⟨⟨_, rfl, rfl⟩, ⟨⟨_, rfl, rfl⟩, ⟨⟨_, rfl, rfl⟩, ⟨⟨_, rfl, rfl⟩, ⟨⟨_, rfl, rfl⟩, ⟨⟨_, rfl, rfl⟩, ⟨⟨_, rfl, rfl⟩, ⟨⟨_, rfl, rfl⟩, ⟨⟨_, rfl, rfl⟩, ⟨⟨_, rfl, rfl⟩, ⟨⟨_, rfl, rfl⟩, ⟨⟨_, rfl, rfl⟩, ⟨⟨_, rfl, rfl⟩, ⟨⟨_, rfl, rfl⟩, ⟨⟨_, rfl, rfl⟩, ⟨⟨_, rfl, rfl⟩, ⟨⟨_, rfl, rfl⟩, ⟨⟨_, rfl, rfl⟩, ⟨⟨_, rfl, rfl⟩, ⟨⟨_, rfl, rfl⟩, ⟨⟨_, rfl, rfl⟩, ⟨⟨_, rfl, rfl⟩, ⟨⟨_, rfl, rfl⟩, ⟨⟨_, rfl, rfl⟩, ⟨⟨_, rfl, rfl⟩, ⟨⟨_, rfl, rfl⟩, ⟨⟨_, rfl, rfl⟩, ⟨⟨_, rfl, rfl⟩, ⟨⟨_, rfl, rfl⟩, trivial⟩⟩⟩⟩⟩⟩⟩⟩⟩⟩⟩⟩⟩⟩⟩⟩⟩⟩⟩⟩⟩⟩⟩⟩⟩⟩⟩⟩⟩⟩⟩⟩⟩⟩⟩⟩⟩⟩⟩⟩⟩⟩⟩⟩⟩⟩⟩⟩ rfl ?_
      cases h
      exact J_vret (pc := 30) C 16 rfl
    · rw [if_neg c3] at h
      by_cases c5 : ((hZ 1 0) - (1 : Int32)) = (1 : Int32)
      · rw [if_pos c5] at h
        refine J_aald (pc := 26) (v := (hA 1 0)) (f := fun i => some (hA i 0)) C 14 rfl 10 rfl g2 (by rw [c5]; rfl) ?_
        obtain ⟨q6, hq6, h⟩ := bnd h
        refine J_callV (pc := 27) (st2 := []) (st3 := []) (ws2 := (wSch G aS (q6 0) (q6 1) (q6 2) (q6 3) (q6 4) (q6 5) (q6 6) (q6 7) (q6 8 0) (q6 9 0) ++ (wHis G aH hA hV ((hZ 1 0) - (1 : Int32))))) C 15 rfl (c_X2_copyFrom aS (hA 1) vS (hV 1) hq6) V_X2_copyFrom k31 i_X2_copyFrom s_X2_copyFrom rfl rfl ⟨Nat.le_of_ble_eq_true rfl, Nat.le_of_ble_eq_true rfl⟩ (Nat.le_of_ble_eq_true rfl) ⟨Nat.le_refl _, Nat.le_refl _⟩ 0 2 rfl rfl rfl (isC := [0, 1, 2, 3, 4, 5, 6, 7, 8, 20, 21, 22, 23, 24, 25, 26, 27, 28]) (isR := [9, 10, 11, 12, 13, 14, 15, 16, 17, 18, 19, 29, 30, 31, 32, 33, 34, 35, 36, 37, 38, 39, 40, 41, 42, 43, 44, 45, 46, 47, 48, 49, 50, 51, 52, 53, 54, 55, 56, 57, 58, 59, 60, 61, 62, 63, 64]) (N := 65) ⟨rfl, by decide +kernel, rfl, by decide +kernel, rfl, ⟨⟨_, rfl, rfl⟩, ⟨⟨_, rfl, rfl⟩, ⟨⟨_, rfl, rfl⟩, ⟨⟨_, rfl, rfl⟩, ⟨⟨_, rfl, rfl⟩, ⟨⟨_, rfl, rfl⟩, ⟨⟨_, rfl, rfl⟩, ⟨⟨_, rfl, rfl⟩, ⟨⟨_, rfl, rfl⟩, ⟨⟨_, rfl, rfl⟩, ⟨⟨_, rfl, rfl⟩, ⟨⟨_, rfl, rfl⟩, ⟨⟨_, rfl, rfl⟩, ⟨⟨_, rfl, rfl⟩, ⟨⟨_, rfl, rfl⟩, ⟨⟨_, rfl, rfl⟩, ⟨⟨_, rfl, rfl⟩, ⟨⟨_, rfl, rfl⟩, ⟨⟨_, rfl, rfl⟩, ⟨⟨_, rfl, rfl⟩, ⟨⟨_, rfl, rfl⟩, ⟨⟨_, rfl, rfl⟩, ⟨⟨_, rfl, rfl⟩, ⟨⟨_, rfl, rfl⟩, ⟨⟨_, rfl, rfl⟩, ⟨⟨_, rfl, rfl⟩, ⟨⟨_, rfl, rfl⟩, ⟨⟨_, rfl, rfl⟩, ⟨⟨_, rfl, rfl⟩, ⟨⟨_, rfl, rfl⟩, ⟨⟨_, rfl, rfl⟩, ⟨⟨_, rfl, rfl⟩, ⟨⟨_, rfl, rfl⟩, ⟨⟨_, rfl, rfl⟩, ⟨⟨_, rfl, rfl⟩, ⟨⟨_, rfl, rfl⟩, ⟨⟨_, rfl, rfl⟩, ⟨⟨_, rfl, rfl⟩, ⟨⟨_, rfl, rfl⟩, ⟨⟨_, rfl, rfl⟩, ⟨⟨_, rfl, rfl⟩, ⟨⟨_, rfl, rfl⟩, ⟨⟨_, rfl, rfl⟩, ⟨⟨_, rfl, rfl⟩, ⟨⟨_, rfl, rfl⟩, ⟨⟨_, rfl, rfl⟩, ⟨⟨_, rfl, rfl⟩, trivial⟩⟩⟩⟩⟩⟩⟩⟩⟩⟩⟩⟩⟩⟩⟩⟩⟩⟩⟩⟩⟩⟩⟩⟩⟩⟩⟩⟩⟩⟩⟩⟩⟩⟩⟩⟩⟩⟩⟩⟩⟩⟩⟩⟩⟩⟩⟩⟩ rfl ?_
        cases h
        exact J_vret (pc := 30) C 16 rfl
      · rw [if_neg c5] at h
        by_cases c7 : ((hZ 1 0) - (1 : Int32)) = (2 : Int32)
        · rw [if_pos c7] at h
          refine J_aald (pc := 26) (v := (hA 2 0)) (f := fun i => some (hA i 0)) C 14 rfl 10 rfl g2 (by rw [c7]; rfl) ?_
          obtain ⟨q8, hq8, h⟩ := bnd h
          refine J_callV (pc := 27) (st2 := []) (st3 := []) (ws2 := (wSch G aS (q8 0) (q8 1) (q8 2) (q8 3) (q8 4) (q8 5) (q8 6) (q8 7) (q8 8 0) (q8 9 0) ++ (wHis G aH hA hV ((hZ 1 0) - (1 : Int32))))) C 15 rfl (c_X2_copyFrom aS (hA 2) vS (hV 2) hq8) V_X2_copyFrom k31 i_X2_copyFrom s_X2_copyFrom rfl rfl ⟨Nat.le_of_ble_eq_true rfl, Nat.le_of_ble_eq_true rfl⟩ (Nat.le_of_ble_eq_true rfl) ⟨Nat.le_refl _, Nat.le_refl _⟩ 0 2 rfl rfl rfl (isC := [0, 1, 2, 3, 4, 5, 6, 7, 8, 29, 30, 31, 32, 33, 34, 35, 36, 37]) (isR := [9, 10, 11, 12, 13, 14, 15, 16, 17, 18, 19, 20, 21, 22, 23, 24, 25, 26, 27, 28, 38, 39, 40, 41, 42, 43, 44, 45, 46, 47, 48, 49, 50, 51, 52, 53, 54, 55, 56, 57, 58, 59, 60, 61, 62, 63, 64]) (N := 65) ⟨rfl, by decide +kernel, rfl, by decide +kernel, rfl, ⟨⟨_, rfl, rfl⟩, ⟨⟨_, rfl, rfl⟩, ⟨⟨_, rfl, rfl⟩, ⟨⟨_, rfl, rfl⟩, ⟨⟨_, rfl, rfl⟩, ⟨⟨_, rfl, rfl⟩, ⟨⟨_, rfl, rfl⟩, ⟨⟨_, rfl, rfl⟩, ⟨⟨_, rfl, rfl⟩, ⟨⟨_, rfl, rfl⟩, ⟨⟨_, rfl, rfl⟩, ⟨⟨_, rfl, rfl⟩, ⟨⟨_, rfl, rfl⟩, ⟨⟨_, rfl, rfl⟩, ⟨⟨_, rfl, rfl⟩, ⟨⟨_, rfl, rfl⟩, ⟨⟨_, rfl, rfl⟩, ⟨⟨_, rfl, rfl⟩, ⟨⟨_, rfl, rfl⟩, ⟨⟨_, rfl, rfl⟩, ⟨⟨_, rfl, rfl⟩, ⟨⟨_, rfl, rfl⟩, ⟨⟨_, rfl, rfl⟩, ⟨⟨_, rfl, rfl⟩, ⟨⟨_, rfl, rfl⟩, ⟨⟨_, rfl, rfl⟩, ⟨⟨_, rfl, rfl⟩, ⟨⟨_, rfl, rfl⟩, ⟨⟨_, rfl, rfl⟩, ⟨⟨_, rfl, rfl⟩, ⟨⟨_, rfl, rfl⟩, ⟨⟨_, rfl, rfl⟩, ⟨⟨_, rfl, rfl⟩, ⟨⟨_, rfl, rfl⟩, ⟨⟨_, rfl, rfl⟩, ⟨⟨_, rfl, rfl⟩, ⟨⟨_, rfl, rfl⟩, ⟨⟨_, rfl, rfl⟩, ⟨⟨_, rfl, rfl⟩, ⟨⟨_, rfl, rfl⟩, ⟨⟨_, rfl, rfl⟩, ⟨⟨_, rfl, rfl⟩, ⟨⟨_, rfl, rfl⟩, ⟨⟨_, rfl, rfl⟩, ⟨⟨_, rfl, rfl⟩, ⟨⟨_, rfl, rfl⟩, ⟨⟨_, rfl, rfl⟩, trivial⟩⟩⟩⟩⟩⟩⟩⟩⟩⟩⟩⟩⟩⟩⟩⟩⟩⟩⟩⟩⟩⟩⟩⟩⟩⟩⟩⟩⟩⟩⟩⟩⟩⟩⟩⟩⟩⟩⟩⟩⟩⟩⟩⟩⟩⟩⟩⟩ rfl ?_
          cases h
          exact J_vret (pc := 30) C 16 rfl
        · rw [if_neg c7] at h
          by_cases c9 : ((hZ 1 0) - (1 : Int32)) = (3 : Int32)
          · rw [if_pos c9] at h
            refine J_aald (pc := 26) (v := (hA 3 0)) (f := fun i => some (hA i 0)) C 14 rfl 10 rfl g2 (by rw [c9]; rfl) ?_
            obtain ⟨q10, hq10, h⟩ := bnd h
            refine J_callV (pc := 27) (st2 := []) (st3 := []) (ws2 := (wSch G aS (q10 0) (q10 1) (q10 2) (q10 3) (q10 4) (q10 5) (q10 6) (q10 7) (q10 8 0) (q10 9 0) ++ (wHis G aH hA hV ((hZ 1 0) - (1 : Int32))))) C 15 rfl (c_X2_copyFrom aS (hA 3) vS (hV 3) hq10) V_X2_copyFrom k31 i_X2_copyFrom s_X2_copyFrom rfl rfl ⟨Nat.le_of_ble_eq_true rfl, Nat.le_of_ble_eq_true rfl⟩ (Nat.le_of_ble_eq_true rfl) ⟨Nat.le_refl _, Nat.le_refl _⟩ 0 2 rfl rfl rfl (isC := [0, 1, 2, 3, 4, 5, 6, 7, 8, 38, 39, 40, 41, 42, 43, 44, 45, 46]) (isR := [9, 10, 11, 12, 13, 14, 15, 16, 17, 18, 19, 20, 21, 22, 23, 24, 25, 26, 27, 28, 29, 30, 31, 32, 33, 34, 35, 36, 37, 47, 48, 49, 50, 51, 52, 53, 54, 55, 56, 57, 58, 59, 60, 61, 62, 63, 64]) (N := 65) ⟨rfl, by decide +kernel, rfl, by decide +kernel, rfl, ⟨⟨_, rfl, rfl⟩, ⟨⟨_, rfl, rfl⟩, ⟨⟨_, rfl, rfl⟩, ⟨⟨_, rfl, rfl⟩, ⟨⟨_, rfl, rfl⟩, ⟨⟨_, rfl, rfl⟩, ⟨⟨_, rfl, rfl⟩, ⟨⟨_, rfl, rfl⟩, ⟨⟨_, rfl, rfl⟩, ⟨⟨_, rfl, rfl⟩, ⟨⟨_, rfl, rfl⟩, ⟨⟨_, rfl, rfl⟩, ⟨⟨_, rfl, rfl⟩, ⟨⟨_, rfl, rfl⟩, ⟨⟨_, rfl, rfl⟩, ⟨⟨_, rfl, rfl⟩, ⟨⟨_, rfl, rfl⟩, ⟨⟨_, rfl, rfl⟩, ⟨⟨_, rfl, rfl⟩, ⟨⟨_, rfl, rfl⟩, ⟨⟨_, rfl, rfl⟩, ⟨⟨_, rfl, rfl⟩, ⟨⟨_, rfl, rfl⟩, ⟨⟨_, rfl, rfl⟩, ⟨⟨_, rfl, rfl⟩, ⟨⟨_, rfl, rfl⟩, ⟨⟨_, rfl, rfl⟩, ⟨⟨_, rfl, rfl⟩, ⟨⟨_, rfl, rfl⟩, ⟨⟨_, rfl, rfl⟩, ⟨⟨_, rfl, rfl⟩, ⟨⟨_, rfl, rfl⟩, ⟨⟨_, rfl, rfl⟩, ⟨⟨_, rfl, rfl⟩, ⟨⟨_, rfl, rfl⟩, ⟨⟨_, rfl, rfl⟩, ⟨⟨_, rfl, rfl⟩, ⟨⟨_, rfl, rfl⟩, ⟨⟨_, rfl, rfl⟩, ⟨⟨_, rfl, rfl⟩, ⟨⟨_, rfl, rfl⟩, ⟨⟨_, rfl, rfl⟩, ⟨⟨_, rfl, rfl⟩, ⟨⟨_, rfl, rfl⟩, ⟨⟨_, rfl, rfl⟩, ⟨⟨_, rfl, rfl⟩, ⟨⟨_, rfl, rfl⟩, trivial⟩⟩⟩⟩⟩⟩⟩⟩⟩⟩⟩⟩⟩⟩⟩⟩⟩⟩⟩⟩⟩⟩⟩⟩⟩⟩⟩⟩⟩⟩⟩⟩⟩⟩⟩⟩⟩⟩⟩⟩⟩⟩⟩⟩⟩⟩⟩⟩ rfl ?_
            cases h
            exact J_vret (pc := 30) C 16 rfl
          · rw [if_neg c9] at h
            by_cases c11 : ((hZ 1 0) - (1 : Int32)) = (4 : Int32)
            · rw [if_pos c11] at h
              refine J_aald (pc := 26) (v := (hA 4 0)) (f := fun i => some (hA i 0)) C 14 rfl 10 rfl g2 (by rw [c11]; rfl) ?_
              obtain ⟨q12, hq12, h⟩ := bnd h
              refine J_callV (pc := 27) (st2 := []) (st3 := []) (ws2 := (wSch G aS (q12 0) (q12 1) (q12 2) (q12 3) (q12 4) (q12 5) (q12 6) (q12 7) (q12 8 0) (q12 9 0) ++ (wHis G aH hA hV ((hZ 1 0) - (1 : Int32))))) C 15 rfl (c_X2_copyFrom aS (hA 4) vS (hV 4) hq12) V_X2_copyFrom k31 i_X2_copyFrom s_X2_copyFrom rfl rfl ⟨Nat.le_of_ble_eq_true rfl, Nat.le_of_ble_eq_true rfl⟩ (Nat.le_of_ble_eq_true rfl) ⟨Nat.le_refl _, Nat.le_refl _⟩ 0 2 rfl rfl rfl (isC := [0, 1, 2, 3, 4, 5, 6, 7, 8, 47, 48, 49, 50, 51, 52, 53, 54, 55]) (isR := [9, 10, 11, 12, 13, 14, 15, 16, 17, 18, 19, 20, 21, 22, 23, 24, 25, 26, 27, 28, 29, 30, 31, 32, 33, 34, 35, 36, 37, 38, 39, 40, 41, 42, 43, 44, 45, 46, 56, 57, 58, 59, 60, 61, 62, 63, 64]) (N := 65) ⟨rfl, by decide +kernel, rfl, by decide +kernel, rfl, ⟨⟨_, rfl, rfl⟩, ⟨⟨_, rfl, rfl⟩, ⟨⟨_, rfl, rfl⟩, ⟨⟨_, rfl, rfl⟩, ⟨⟨_, rfl, rfl⟩, ⟨⟨_, rfl, rfl⟩, ⟨⟨_, rfl, rfl⟩, ⟨⟨_, rfl, rfl⟩, ⟨⟨_, rfl, rfl⟩, ⟨⟨_, rfl, rfl⟩, ⟨⟨_, rfl, rfl⟩, ⟨⟨_, rfl, rfl⟩, ⟨⟨_, rfl, rfl⟩, ⟨⟨_, rfl, rfl⟩, ⟨⟨_, rfl, rfl⟩, ⟨⟨_, rfl, rfl⟩, ⟨⟨_, rfl, rfl⟩, ⟨⟨_, rfl, rfl⟩, ⟨⟨_, rfl, rfl⟩, ⟨⟨_, rfl, rfl⟩, ⟨⟨_, rfl, rfl⟩, ⟨⟨_, rfl, rfl⟩, ⟨⟨_, rfl, rfl⟩, ⟨⟨_, rfl, rfl⟩, ⟨⟨_, rfl, rfl⟩, ⟨⟨_, rfl, rfl⟩, ⟨⟨_, rfl, rfl⟩, ⟨⟨_, rfl, rfl⟩, ⟨⟨_, rfl, rfl⟩, ⟨⟨_, rfl, rfl⟩, ⟨⟨_, rfl, rfl⟩, ⟨⟨_, rfl, rfl⟩, ⟨⟨_, rfl, rfl⟩, ⟨⟨_, rfl, rfl⟩, ⟨⟨_, rfl, rfl⟩, ⟨⟨_, rfl, rfl⟩, ⟨⟨_, rfl, rfl⟩, ⟨⟨_, rfl, rfl⟩, ⟨⟨_, rfl, rfl⟩, ⟨⟨_, rfl, rfl⟩, ⟨⟨_, rfl, rfl⟩, ⟨⟨_, rfl, rfl⟩, ⟨⟨_, rfl, rfl⟩, ⟨⟨_, rfl, rfl⟩, ⟨⟨_, rfl, rfl⟩, ⟨⟨_, rfl, rfl⟩, ⟨⟨_, rfl, rfl⟩, trivial⟩⟩⟩⟩⟩⟩⟩⟩⟩⟩⟩⟩⟩⟩⟩⟩⟩⟩⟩⟩⟩⟩⟩⟩⟩⟩⟩⟩⟩⟩⟩⟩⟩⟩⟩⟩⟩⟩⟩⟩⟩⟩⟩⟩⟩⟩⟩⟩ rfl ?_
              cases h
              exact J_vret (pc := 30) C 16 rfl
            · rw [if_neg c11] at h
              by_cases c13 : ((hZ 1 0) - (1 : Int32)) = (5 : Int32)
              · rw [if_pos c13] at h
                refine J_aald (pc := 26) (v := (hA 5 0)) (f := fun i => some (hA i 0)) C 14 rfl 10 rfl g2 (by rw [c13]; rfl) ?_
                obtain ⟨q14, hq14, h⟩ := bnd h
                refine J_callV (pc := 27) (st2 := []) (st3 := []) (ws2 := (wSch G aS (q14 0) (q14 1) (q14 2) (q14 3) (q14 4) (q14 5) (q14 6) (q14 7) (q14 8 0) (q14 9 0) ++ (wHis G aH hA hV ((hZ 1 0) - (1 : Int32))))) C 15 rfl (c_X2_copyFrom aS (hA 5) vS (hV 5) hq14) V_X2_copyFrom k31 i_X2_copyFrom s_X2_copyFrom rfl rfl ⟨Nat.le_of_ble_eq_true rfl, Nat.le_of_ble_eq_true rfl⟩ (Nat.le_of_ble_eq_true rfl) ⟨Nat.le_refl _, Nat.le_refl _⟩ 0 2 rfl rfl rfl (isC := [0, 1, 2, 3, 4, 5, 6, 7, 8, 56, 57, 58, 59, 60, 61, 62, 63, 64]) (isR := [9, 10, 11, 12, 13, 14, 15, 16, 17, 18, 19, 20, 21, 22, 23, 24, 25, 26, 27, 28, 29, 30, 31, 32, 33, 34, 35, 36, 37, 38, 39, 40, 41, 42, 43, 44, 45, 46, 47, 48, 49, 50, 51, 52, 53, 54, 55]) (N := 65) ⟨rfl, by decide +kernel, rfl, by decide +kernel, rfl, ⟨⟨_, rfl, rfl⟩, ⟨⟨_, rfl, rfl⟩, ⟨⟨_, rfl, rfl⟩, ⟨⟨_, rfl, rfl⟩, ⟨⟨_, rfl, rfl⟩, ⟨⟨_, rfl, rfl⟩, ⟨⟨_, rfl, rfl⟩, ⟨⟨_, rfl, rfl⟩, ⟨⟨_, rfl, rfl⟩, ⟨⟨_, rfl, rfl⟩, ⟨⟨_, rfl, rfl⟩, ⟨⟨_, rfl, rfl⟩, ⟨⟨_, rfl, rfl⟩, ⟨⟨_, rfl, rfl⟩, ⟨⟨_, rfl, rfl⟩, ⟨⟨_, rfl, rfl⟩, ⟨⟨_, rfl, rfl⟩, ⟨⟨_, rfl, rfl⟩, ⟨⟨_, rfl, rfl⟩, ⟨⟨_, rfl, rfl⟩, ⟨⟨_, rfl, rfl⟩, ⟨⟨_, rfl, rfl⟩, ⟨⟨_, rfl, rfl⟩, ⟨⟨_, rfl, rfl⟩, ⟨⟨_, rfl, rfl⟩, ⟨⟨_, rfl, rfl⟩, ⟨⟨_, rfl, rfl⟩, ⟨⟨_, rfl, rfl⟩, ⟨⟨_, rfl, rfl⟩, ⟨⟨_, rfl, rfl⟩, ⟨⟨_, rfl, rfl⟩, ⟨⟨_, rfl, rfl⟩, ⟨⟨_, rfl, rfl⟩, ⟨⟨_, rfl, rfl⟩, ⟨⟨_, rfl, rfl⟩, ⟨⟨_, rfl, rfl⟩, ⟨⟨_, rfl, rfl⟩, ⟨⟨_, rfl, rfl⟩, ⟨⟨_, rfl, rfl⟩, ⟨⟨_, rfl, rfl⟩, ⟨⟨_, rfl, rfl⟩, ⟨⟨_, rfl, rfl⟩, ⟨⟨_, rfl, rfl⟩, ⟨⟨_, rfl, rfl⟩, ⟨⟨_, rfl, rfl⟩, ⟨⟨_, rfl, rfl⟩, ⟨⟨_, rfl, rfl⟩, trivial⟩⟩⟩⟩⟩⟩⟩⟩⟩⟩⟩⟩⟩⟩⟩⟩⟩⟩⟩⟩⟩⟩⟩⟩⟩⟩⟩⟩⟩⟩⟩⟩⟩⟩⟩⟩⟩⟩⟩⟩⟩⟩⟩⟩⟩⟩⟩⟩ rfl ?_
                cases h
                exact J_vret (pc := 30) C 16 rfl
              · rw [if_neg c13] at h
                cases h
