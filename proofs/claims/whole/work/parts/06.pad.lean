def T_X1_append : List (Nat × ClassFile.Instr × Nat) := [(0, .iload_n 3, 1), (1, .iconst 1, 1), (2, .isub, 1), (3, .istore 4, 2), (5, .iload 4, 2), (7, .ifCond .lt 49, 3), (10, .aload_n 0, 1), (11, .getfield 15, 3), (14, .bipush 60, 2), (16, .if_icmp .ge 40, 3), (19, .aload_n 0, 1), (20, .getfield 9, 3), (23, .aload_n 0, 1), (24, .getfield 15, 3), (27, .lload_n 1, 1), (28, .bipush 8, 2), (30, .iload 4, 2), (32, .imul, 1), (33, .lushr, 1), (34, .ldc2_w 45, 3), (37, .land, 1), (38, .l2i, 1), (39, .iastore, 1), (40, .aload_n 0, 1), (41, .dup, 1), (42, .getfield 15, 3), (45, .iconst 1, 1), (46, .iadd, 1), (47, .putfield 15, 3), (50, .iinc 4 (-1), 3), (53, .goto (-48), 3), (56, .return_, 1)]
theorem D_X1_append : ∀ q ∈ T_X1_append, decode cX1_append q.1 = .ok q.2 := by decide +kernel
theorem V_X1_append : Vy yX1_append cX1_append 5 none 2 := ⟨k47, k56, by decide +kernel⟩
theorem i_X1_append : Cond.instanceMethod yX1_append ∈ TB := k384
theorem s_X1_append : Cond.selects yX1_append.cls yX1_append yX1_append ∈ TB := k385
noncomputable def f_X1_append_b5  (x1_5 : Int64) (r5 : JV → Int32 → Option (JV)) (vP_5 : JV) (x4_5 : Int32) : Option (JV) :=
  (if x4_5 < 0 then some vP_5 else (if (60 : Int32) ≤ (vP_5 1 0) then some vP_5 else gd (inb (vP_5 1 0) 60) (r5 (up2 (up2 vP_5 0 (Int32.toNatClampNeg (vP_5 1 0)) (Int64.toInt32 ((UInt64.toInt64 (Int64.toUInt64 x1_5 >>> (Int64.toUInt64 (Int32.toInt64 ((8 : Int32) * x4_5)) &&& Int64.toUInt64 63))) &&& (255 : Int64)))) 1 0 ((vP_5 1 0) + (1 : Int32))) (x4_5 + (-1 : Int32)))))
noncomputable def f_X1_append_L5  (x1_5 : Int64) (n : Nat) (vP_5 : JV) (x4_5 : Int32) : Option (JV) :=
  lp (fun (rec : JV × Int32 → Option (JV)) a => f_X1_append_b5  x1_5 (fun vP_5 x4_5 => rec (vP_5, x4_5)) a.1 a.2) n (vP_5, x4_5)
noncomputable def f_X1_append (vP : JV) (x1 : Int64) (x3 : Int32) : Option (JV) :=
  f_X1_append_L5  x1 FU vP (x3 - (1 : Int32))
set_option maxRecDepth 100000 in
set_option maxHeartbeats 4000000 in
theorem c_X1_append {l : Launch} {G : JG} (aP : Nat → Nat) (vP : JV) (x1 : Int64) (x3 : Int32) {Rz : JV} (h : f_X1_append vP x1 x3 = some Rz) : JM l G yX1_append cX1_append 5 none 0 0 [.ref (aP 0), .long x1, .int x3] (wPad G aP (vP 0) (vP 1 0) (vP 2) (vP 3) (vP 4) (vP 5 0) (vP 6 0) (vP 7 0) (vP 8 0) (vP 9 0)) (wPad G aP (Rz 0) (Rz 1 0) (Rz 2) (Rz 3) (Rz 4) (Rz 5 0) (Rz 6 0) (Rz 7 0) (Rz 8 0) (Rz 9 0)) none := by
  refine JM.of (own := RX1) (tb := T_X1_append) (by decide) (Nat.le_of_ble_eq_true rfl) D_X1_append rfl (fun X C => ?_)
  refine J_sub (lv' := [(0, .ref (aP 0)), (1, .long x1), (3, .int x3)]) [0, 1, 2] rfl ?_
  have B5 : ∀ (x1_5 : Int64) (n5 : Nat) (vP_5 : JV) (x4_5 : Int32), f_X1_append_L5  x1_5 n5 vP_5 x4_5 = some Rz → J l { frames := 0, cells := 0, slots := 0, locals := 0 } G 5 X (QM X G 0 0 none (wPad G aP (Rz 0) (Rz 1 0) (Rz 2) (Rz 3) (Rz 4) (Rz 5 0) (Rz 6 0) (Rz 7 0) (Rz 8 0) (Rz 9 0))) 0 0 5 [(0, .ref (aP 0)), (1, .long x1_5), (4, .int x4_5)] [] (wPad G aP (vP_5 0) (vP_5 1 0) (vP_5 2) (vP_5 3) (vP_5 4) (vP_5 5 0) (vP_5 6 0) (vP_5 7 0) (vP_5 8 0) (vP_5 9 0)) := by
    intro x1_5 n5
    induction n5 with
    | zero =>
      intro vP_5 x4_5 h
      exact (no_none rfl h).elim
    | succ n5 ih5 =>
      intro vP_5 x4_5 h
      replace h : f_X1_append_b5  x1_5 (fun vP_5 x4_5 => f_X1_append_L5  x1_5 n5 vP_5 x4_5) vP_5 x4_5 = some Rz := h
      unfold f_X1_append_b5 at h
      refine J_iload (pc := 5) C 4 rfl 2 rfl ?_
      refine J_if_lt (pc := 7) (tgt := 56) C 5 rfl rfl (fun c1 => ?_) (fun c1 => ?_)
      · rw [if_pos c1] at h
        cases h
        exact J_vret (pc := 56) C 31 rfl
      · rw [if_neg c1] at h
        refine J_aload_n (pc := 10) C 6 rfl 0 rfl rfl ?_
        refine J_get (pc := 11) (v := .int (vP_5 1 0)) C 7 rfl TB_l1 rfl 0 1 rfl (by decide) k38 rfl rfl ?_
        refine J_bipush (pc := 14) (v := (60 : Int32)) C 8 rfl rfl ?_
        refine J_icmp_ge (pc := 16) (tgt := 56) C 9 rfl rfl (fun c2 => ?_) (fun c2 => ?_)
        · rw [if_pos c2] at h
          cases h
          exact J_vret (pc := 56) C 31 rfl
        · rw [if_neg c2] at h
          refine J_aload_n (pc := 19) C 10 rfl 0 rfl rfl ?_
          refine J_get (pc := 20) (v := .ref (aP 1)) C 11 rfl TB_l1 rfl 0 0 rfl (by decide) k37 rfl rfl ?_
          refine J_aload_n (pc := 23) C 12 rfl 0 rfl rfl ?_
          refine J_get (pc := 24) (v := .int (vP_5 1 0)) C 13 rfl TB_l1 rfl 0 1 rfl (by decide) k38 rfl rfl ?_
          refine J_lload_n (pc := 27) C 14 rfl 1 rfl rfl ?_
          refine J_bipush (pc := 28) (v := (8 : Int32)) C 15 rfl rfl ?_
          refine J_iload (pc := 30) C 16 rfl 2 rfl ?_
          refine J_imul (pc := 32) C 17 rfl  ?_
          refine J_lushr (pc := 33) C 18 rfl  ?_
          refine J_ldc2 (pc := 34) (v := (255 : Int64)) C 19 rfl k48 ?_
          refine J_land (pc := 37) C 20 rfl  ?_
          refine J_l2i (pc := 38) C 21 rfl  ?_
          obtain ⟨g3, h⟩ := gd_some h
          refine J_iast (pc := 39) (f := (vP_5 0)) (m := (Int32.toNatClampNeg (vP_5 1 0))) C 22 (fun mm vv => (wPad G aP (upd (vP_5 0) mm vv) (vP_5 1 0) (vP_5 2) (vP_5 3) (vP_5 4) (vP_5 5 0) (vP_5 6 0) (vP_5 7 0) (vP_5 8 0) (vP_5 9 0))) rfl 1 rfl g3 rfl (fun _ _ => rfl) ?_
          refine J_aload_n (pc := 40) C 23 rfl 0 rfl rfl ?_
          refine J_dup (pc := 41) C 24 rfl rfl ?_
          refine J_get (pc := 42) (v := .int (vP_5 1 0)) C 25 rfl TB_l1 rfl 0 1 rfl (by decide) k38 rfl rfl ?_
          refine J_iconst (pc := 45) (v := (1 : Int32)) C 26 rfl rfl ?_
          refine J_iadd (pc := 46) C 27 rfl  ?_
          refine J_puti (pc := 47) C 28 (fun vv => (wPad G aP (upd (vP_5 0) (Int32.toNatClampNeg (vP_5 1 0)) (Int64.toInt32 ((UInt64.toInt64 (Int64.toUInt64 x1_5 >>> (Int64.toUInt64 (Int32.toInt64 ((8 : Int32) * x4_5)) &&& Int64.toUInt64 63))) &&& (255 : Int64)))) vv (vP_5 2) (vP_5 3) (vP_5 4) (vP_5 5 0) (vP_5 6 0) (vP_5 7 0) (vP_5 8 0) (vP_5 9 0))) rfl TB_l1 tyX1 tyX1_ok nmX1 rfl 0 1 rfl (by decide) k38 rfl rfl rfl (Nat.le_of_ble_eq_true rfl) (fun _ => rfl) ?_
          refine J_iinc (pc := 50) (v := (x4_5 + (-1 : Int32))) (lv' := [(4, .int (x4_5 + (-1 : Int32))), (0, .ref (aP 0)), (1, .long x1_5)]) C 29 rfl 2 rfl rfl (by decide) rfl ?_
          refine J_goto (pc := 53) (tgt := 5) C 30 rfl rfl ?_
          exact J_sub [1, 2, 0] rfl (ih5 (up2 (up2 vP_5 0 (Int32.toNatClampNeg (vP_5 1 0)) (Int64.toInt32 ((UInt64.toInt64 (Int64.toUInt64 x1_5 >>> (Int64.toUInt64 (Int32.toInt64 ((8 : Int32) * x4_5)) &&& Int64.toUInt64 63))) &&& (255 : Int64)))) 1 0 ((vP_5 1 0) + (1 : Int32))) (x4_5 + (-1 : Int32)) h)
  unfold f_X1_append at h
  refine J_iload_n (pc := 0) C 0 rfl 2 rfl rfl ?_
  refine J_iconst (pc := 1) (v := (1 : Int32)) C 1 rfl rfl ?_
  refine J_isub (pc := 2) C 2 rfl  ?_
  refine J_istore (pc := 3) (lv' := [(4, .int (x3 - (1 : Int32))), (0, .ref (aP 0)), (1, .long x1), (3, .int x3)]) C 3 rfl (by decide) rfl ?_
  exact J_sub [1, 2, 0] rfl (B5 x1 FU vP (x3 - (1 : Int32)) h)
def T_X1_beginPupil : List (Nat × ClassFile.Instr × Nat) := [(0, .aload_n 0, 1), (1, .iconst 0, 1), (2, .putfield 32, 3), (5, .aload_n 0, 1), (6, .iconst 0, 1), (7, .putfield 35, 3), (10, .aload_n 0, 1), (11, .iconst 0, 1), (12, .putfield 38, 3), (15, .aload_n 0, 1), (16, .iconst 0, 1), (17, .putfield 41, 3), (20, .return_, 1)]
theorem D_X1_beginPupil : ∀ q ∈ T_X1_beginPupil, decode cX1_beginPupil q.1 = .ok q.2 := by decide +kernel
theorem V_X1_beginPupil : Vy yX1_beginPupil cX1_beginPupil 1 none 0 := ⟨k49, k56, by decide +kernel⟩
theorem i_X1_beginPupil : Cond.instanceMethod yX1_beginPupil ∈ TB := k61
theorem s_X1_beginPupil : Cond.selects yX1_beginPupil.cls yX1_beginPupil yX1_beginPupil ∈ TB := k62
noncomputable def f_X1_beginPupil (vP : JV)  : Option (JV) :=
  some (up2 (up2 (up2 (up2 vP 6 0 (0 : Int32)) 7 0 (0 : Int32)) 8 0 (0 : Int32)) 9 0 (0 : Int32))
set_option maxRecDepth 100000 in
set_option maxHeartbeats 4000000 in
theorem c_X1_beginPupil {l : Launch} {G : JG} (aP : Nat → Nat) (vP : JV)  {Rz : JV} (h : f_X1_beginPupil vP = some Rz) : JM l G yX1_beginPupil cX1_beginPupil 1 none 0 0 [.ref (aP 0)] (wPad G aP (vP 0) (vP 1 0) (vP 2) (vP 3) (vP 4) (vP 5 0) (vP 6 0) (vP 7 0) (vP 8 0) (vP 9 0)) (wPad G aP (Rz 0) (Rz 1 0) (Rz 2) (Rz 3) (Rz 4) (Rz 5 0) (Rz 6 0) (Rz 7 0) (Rz 8 0) (Rz 9 0)) none := by
  refine JM.of (own := RX1) (tb := T_X1_beginPupil) (by decide) (Nat.le_of_ble_eq_true rfl) D_X1_beginPupil rfl (fun X C => ?_)
  refine J_sub (lv' := [(0, .ref (aP 0))]) [0] rfl ?_
  unfold f_X1_beginPupil at h
  refine J_aload_n (pc := 0) C 0 rfl 0 rfl rfl ?_
  refine J_iconst (pc := 1) (v := (0 : Int32)) C 1 rfl rfl ?_
  refine J_puti (pc := 2) C 2 (fun vv => (wPad G aP (vP 0) (vP 1 0) (vP 2) (vP 3) (vP 4) (vP 5 0) vv (vP 7 0) (vP 8 0) (vP 9 0))) rfl TB_l1 tyX1 tyX1_ok nmX1 rfl 0 6 rfl (by decide) k43 rfl rfl rfl (Nat.le_of_ble_eq_true rfl) (fun _ => rfl) ?_
  refine J_aload_n (pc := 5) C 3 rfl 0 rfl rfl ?_
  refine J_iconst (pc := 6) (v := (0 : Int32)) C 4 rfl rfl ?_
  refine J_puti (pc := 7) C 5 (fun vv => (wPad G aP (vP 0) (vP 1 0) (vP 2) (vP 3) (vP 4) (vP 5 0) (0 : Int32) vv (vP 8 0) (vP 9 0))) rfl TB_l1 tyX1 tyX1_ok nmX1 rfl 0 7 rfl (by decide) k44 rfl rfl rfl (Nat.le_of_ble_eq_true rfl) (fun _ => rfl) ?_
  refine J_aload_n (pc := 10) C 6 rfl 0 rfl rfl ?_
  refine J_iconst (pc := 11) (v := (0 : Int32)) C 7 rfl rfl ?_
  refine J_puti (pc := 12) C 8 (fun vv => (wPad G aP (vP 0) (vP 1 0) (vP 2) (vP 3) (vP 4) (vP 5 0) (0 : Int32) (0 : Int32) vv (vP 9 0))) rfl TB_l1 tyX1 tyX1_ok nmX1 rfl 0 8 rfl (by decide) k45 rfl rfl rfl (Nat.le_of_ble_eq_true rfl) (fun _ => rfl) ?_
  refine J_aload_n (pc := 15) C 9 rfl 0 rfl rfl ?_
  refine J_iconst (pc := 16) (v := (0 : Int32)) C 10 rfl rfl ?_
  refine J_putz (pc := 17) C 11 (fun vv => (wPad G aP (vP 0) (vP 1 0) (vP 2) (vP 3) (vP 4) (vP 5 0) (0 : Int32) (0 : Int32) (0 : Int32) vv)) rfl rfl TB_l1 tyX1 tyX1_ok nmX1 rfl 0 9 rfl (by decide) k46 rfl rfl rfl (Nat.le_of_ble_eq_true rfl) (fun _ => rfl) ?_
  cases h
  exact J_vret (pc := 20) C 12 rfl
def T_X1_mayEnd : List (Nat × ClassFile.Instr × Nat) := [(0, .aload_n 0, 1), (1, .getfield 32, 3), (4, .ifCond .eq 15, 3), (7, .aload_n 0, 1), (8, .getfield 32, 3), (11, .iconst 2, 1), (12, .if_icmp .eq 7, 3), (15, .iconst 1, 1), (16, .goto 4, 3), (19, .iconst 0, 1), (20, .ireturn, 1)]
theorem D_X1_mayEnd : ∀ q ∈ T_X1_mayEnd, decode cX1_mayEnd q.1 = .ok q.2 := by decide +kernel
theorem V_X1_mayEnd : Vy yX1_mayEnd cX1_mayEnd 1 (some .boolean) 0 := ⟨k50, k56, by decide +kernel⟩
theorem i_X1_mayEnd : Cond.instanceMethod yX1_mayEnd ∈ TB := k54
theorem s_X1_mayEnd : Cond.selects yX1_mayEnd.cls yX1_mayEnd yX1_mayEnd ∈ TB := k55
noncomputable def f_X1_mayEnd (vP : JV)  : Option (Int32) :=
  (if (vP 6 0) = 0 then some (0 : Int32) else (if (vP 6 0) = (2 : Int32) then some (0 : Int32) else some (1 : Int32)))
set_option maxRecDepth 100000 in
set_option maxHeartbeats 4000000 in
theorem c_X1_mayEnd {l : Launch} {G : JG} (aP : Nat → Nat) (vP : JV)  {Rz : Int32} (h : f_X1_mayEnd vP = some Rz) : JM l G yX1_mayEnd cX1_mayEnd 1 (some .boolean) 0 0 [.ref (aP 0)] (wPad G aP (vP 0) (vP 1 0) (vP 2) (vP 3) (vP 4) (vP 5 0) (vP 6 0) (vP 7 0) (vP 8 0) (vP 9 0)) (wPad G aP (vP 0) (vP 1 0) (vP 2) (vP 3) (vP 4) (vP 5 0) (vP 6 0) (vP 7 0) (vP 8 0) (vP 9 0)) (some (.int Rz)) := by
  refine JM.of (own := RX1) (tb := T_X1_mayEnd) (by decide) (Nat.le_of_ble_eq_true rfl) D_X1_mayEnd rfl (fun X C => ?_)
  refine J_sub (lv' := [(0, .ref (aP 0))]) [0] rfl ?_
  unfold f_X1_mayEnd at h
  refine J_aload_n (pc := 0) C 0 rfl 0 rfl rfl ?_
  refine J_get (pc := 1) (v := .int (vP 6 0)) C 1 rfl TB_l1 rfl 0 6 rfl (by decide) k43 rfl rfl ?_
  refine J_if_eq (pc := 4) (tgt := 19) C 2 rfl rfl (fun c1 => ?_) (fun c1 => ?_)
  · rw [if_pos c1] at h
    refine J_iconst (pc := 19) (v := (0 : Int32)) C 9 rfl rfl ?_
    cases h
    exact J_zret (pc := 20) C 10 rfl rfl
  · rw [if_neg c1] at h
    refine J_aload_n (pc := 7) C 3 rfl 0 rfl rfl ?_
    refine J_get (pc := 8) (v := .int (vP 6 0)) C 4 rfl TB_l1 rfl 0 6 rfl (by decide) k43 rfl rfl ?_
    refine J_iconst (pc := 11) (v := (2 : Int32)) C 5 rfl rfl ?_
    refine J_icmp_eq (pc := 12) (tgt := 19) C 6 rfl rfl (fun c2 => ?_) (fun c2 => ?_)
    · rw [if_pos c2] at h
      refine J_iconst (pc := 19) (v := (0 : Int32)) C 9 rfl rfl ?_
      cases h
      exact J_zret (pc := 20) C 10 rfl rfl
    · rw [if_neg c2] at h
      refine J_iconst (pc := 15) (v := (1 : Int32)) C 7 rfl rfl ?_
      refine J_goto (pc := 16) (tgt := 20) C 8 rfl rfl ?_
      cases h
      exact J_zret (pc := 20) C 10 rfl rfl
def T_X1_endPupil : List (Nat × ClassFile.Instr × Nat) := [(0, .aload_n 0, 1), (1, .getfield 29, 3), (4, .bipush 30, 2), (6, .if_icmp .ge 52, 3), (9, .aload_n 0, 1), (10, .getfield 19, 3), (13, .aload_n 0, 1), (14, .getfield 29, 3), (17, .aload_n 0, 1), (18, .getfield 35, 3), (21, .iastore, 1), (22, .aload_n 0, 1), (23, .getfield 22, 3), (26, .aload_n 0, 1), (27, .getfield 29, 3), (30, .aload_n 0, 1), (31, .getfield 38, 3), (34, .iastore, 1), (35, .aload_n 0, 1), (36, .getfield 25, 3), (39, .aload_n 0, 1), (40, .getfield 29, 3), (43, .aload_n 0, 1), (44, .getfield 41, 3), (47, .bastore, 1), (48, .aload_n 0, 1), (49, .dup, 1), (50, .getfield 29, 3), (53, .iconst 1, 1), (54, .iadd, 1), (55, .putfield 29, 3), (58, .return_, 1)]
theorem D_X1_endPupil : ∀ q ∈ T_X1_endPupil, decode cX1_endPupil q.1 = .ok q.2 := by decide +kernel
theorem V_X1_endPupil : Vy yX1_endPupil cX1_endPupil 1 none 0 := ⟨k51, k56, by decide +kernel⟩
theorem i_X1_endPupil : Cond.instanceMethod yX1_endPupil ∈ TB := k58
theorem s_X1_endPupil : Cond.selects yX1_endPupil.cls yX1_endPupil yX1_endPupil ∈ TB := k59
noncomputable def f_X1_endPupil (vP : JV)  : Option (JV) :=
  (if (30 : Int32) ≤ (vP 5 0) then some vP else gd (inb (vP 5 0) 30) (gd (inb (vP 5 0) 30) (gd (inb (vP 5 0) 30) (gd (isb (vP 9 0)) (some (up2 (up2 (up2 (up2 vP 2 (Int32.toNatClampNeg (vP 5 0)) (vP 7 0)) 3 (Int32.toNatClampNeg (vP 5 0)) (vP 8 0)) 4 (Int32.toNatClampNeg (vP 5 0)) (vP 9 0)) 5 0 ((vP 5 0) + (1 : Int32))))))))
set_option maxRecDepth 100000 in
set_option maxHeartbeats 4000000 in
theorem c_X1_endPupil {l : Launch} {G : JG} (aP : Nat → Nat) (vP : JV)  {Rz : JV} (h : f_X1_endPupil vP = some Rz) : JM l G yX1_endPupil cX1_endPupil 1 none 0 0 [.ref (aP 0)] (wPad G aP (vP 0) (vP 1 0) (vP 2) (vP 3) (vP 4) (vP 5 0) (vP 6 0) (vP 7 0) (vP 8 0) (vP 9 0)) (wPad G aP (Rz 0) (Rz 1 0) (Rz 2) (Rz 3) (Rz 4) (Rz 5 0) (Rz 6 0) (Rz 7 0) (Rz 8 0) (Rz 9 0)) none := by
  refine JM.of (own := RX1) (tb := T_X1_endPupil) (by decide) (Nat.le_of_ble_eq_true rfl) D_X1_endPupil rfl (fun X C => ?_)
  refine J_sub (lv' := [(0, .ref (aP 0))]) [0] rfl ?_
  unfold f_X1_endPupil at h
  refine J_aload_n (pc := 0) C 0 rfl 0 rfl rfl ?_
  refine J_get (pc := 1) (v := .int (vP 5 0)) C 1 rfl TB_l1 rfl 0 5 rfl (by decide) k42 rfl rfl ?_
  refine J_bipush (pc := 4) (v := (30 : Int32)) C 2 rfl rfl ?_
  refine J_icmp_ge (pc := 6) (tgt := 58) C 3 rfl rfl (fun c1 => ?_) (fun c1 => ?_)
  · rw [if_pos c1] at h
    cases h
    exact J_vret (pc := 58) C 31 rfl
  · rw [if_neg c1] at h
    refine J_aload_n (pc := 9) C 4 rfl 0 rfl rfl ?_
    refine J_get (pc := 10) (v := .ref (aP 2)) C 5 rfl TB_l1 rfl 0 2 rfl (by decide) k39 rfl rfl ?_
    refine J_aload_n (pc := 13) C 6 rfl 0 rfl rfl ?_
    refine J_get (pc := 14) (v := .int (vP 5 0)) C 7 rfl TB_l1 rfl 0 5 rfl (by decide) k42 rfl rfl ?_
    refine J_aload_n (pc := 17) C 8 rfl 0 rfl rfl ?_
    refine J_get (pc := 18) (v := .int (vP 7 0)) C 9 rfl TB_l1 rfl 0 7 rfl (by decide) k44 rfl rfl ?_
    obtain ⟨g2, h⟩ := gd_some h
    refine J_iast (pc := 21) (f := (vP 2)) (m := (Int32.toNatClampNeg (vP 5 0))) C 10 (fun mm vv => (wPad G aP (vP 0) (vP 1 0) (upd (vP 2) mm vv) (vP 3) (vP 4) (vP 5 0) (vP 6 0) (vP 7 0) (vP 8 0) (vP 9 0))) rfl 2 rfl g2 rfl (fun _ _ => rfl) ?_
    refine J_aload_n (pc := 22) C 11 rfl 0 rfl rfl ?_
    refine J_get (pc := 23) (v := .ref (aP 3)) C 12 rfl TB_l1 rfl 0 3 rfl (by decide) k40 rfl rfl ?_
    refine J_aload_n (pc := 26) C 13 rfl 0 rfl rfl ?_
    refine J_get (pc := 27) (v := .int (vP 5 0)) C 14 rfl TB_l1 rfl 0 5 rfl (by decide) k42 rfl rfl ?_
    refine J_aload_n (pc := 30) C 15 rfl 0 rfl rfl ?_
    refine J_get (pc := 31) (v := .int (vP 8 0)) C 16 rfl TB_l1 rfl 0 8 rfl (by decide) k45 rfl rfl ?_
    obtain ⟨g3, h⟩ := gd_some h
    refine J_iast (pc := 34) (f := (vP 3)) (m := (Int32.toNatClampNeg (vP 5 0))) C 17 (fun mm vv => (wPad G aP (vP 0) (vP 1 0) (upd (vP 2) (Int32.toNatClampNeg (vP 5 0)) (vP 7 0)) (upd (vP 3) mm vv) (vP 4) (vP 5 0) (vP 6 0) (vP 7 0) (vP 8 0) (vP 9 0))) rfl 3 rfl g3 rfl (fun _ _ => rfl) ?_
    refine J_aload_n (pc := 35) C 18 rfl 0 rfl rfl ?_
    refine J_get (pc := 36) (v := .ref (aP 4)) C 19 rfl TB_l1 rfl 0 4 rfl (by decide) k41 rfl rfl ?_
    refine J_aload_n (pc := 39) C 20 rfl 0 rfl rfl ?_
    refine J_get (pc := 40) (v := .int (vP 5 0)) C 21 rfl TB_l1 rfl 0 5 rfl (by decide) k42 rfl rfl ?_
    refine J_aload_n (pc := 43) C 22 rfl 0 rfl rfl ?_
    refine J_get (pc := 44) (v := .int (vP 9 0)) C 23 rfl TB_l1 rfl 0 9 rfl (by decide) k46 rfl rfl ?_
    obtain ⟨g4, h⟩ := gd_some h
    obtain ⟨g5, h⟩ := gd_some h
    refine J_zast (pc := 47) (f := (vP 4)) (m := (Int32.toNatClampNeg (vP 5 0))) C 24 (fun mm vv => (wPad G aP (vP 0) (vP 1 0) (upd (vP 2) (Int32.toNatClampNeg (vP 5 0)) (vP 7 0)) (upd (vP 3) (Int32.toNatClampNeg (vP 5 0)) (vP 8 0)) (upd (vP 4) mm vv) (vP 5 0) (vP 6 0) (vP 7 0) (vP 8 0) (vP 9 0))) rfl 4 rfl g4 g5 rfl (fun _ _ => rfl) ?_
    refine J_aload_n (pc := 48) C 25 rfl 0 rfl rfl ?_
    refine J_dup (pc := 49) C 26 rfl rfl ?_
    refine J_get (pc := 50) (v := .int (vP 5 0)) C 27 rfl TB_l1 rfl 0 5 rfl (by decide) k42 rfl rfl ?_
    refine J_iconst (pc := 53) (v := (1 : Int32)) C 28 rfl rfl ?_
    refine J_iadd (pc := 54) C 29 rfl  ?_
    refine J_puti (pc := 55) C 30 (fun vv => (wPad G aP (vP 0) (vP 1 0) (upd (vP 2) (Int32.toNatClampNeg (vP 5 0)) (vP 7 0)) (upd (vP 3) (Int32.toNatClampNeg (vP 5 0)) (vP 8 0)) (upd (vP 4) (Int32.toNatClampNeg (vP 5 0)) (vP 9 0)) vv (vP 6 0) (vP 7 0) (vP 8 0) (vP 9 0))) rfl TB_l1 tyX1 tyX1_ok nmX1 rfl 0 5 rfl (by decide) k42 rfl rfl rfl (Nat.le_of_ble_eq_true rfl) (fun _ => rfl) ?_
    cases h
    exact J_vret (pc := 58) C 31 rfl
def T_X1_takesSemicolon : List (Nat × ClassFile.Instr × Nat) := [(0, .aload_n 0, 1), (1, .invokevirtual 54, 3), (4, .ifCond .ne 5, 3), (7, .iconst 0, 1), (8, .ireturn, 1), (9, .aload_n 0, 1), (10, .invokevirtual 58, 3), (13, .aload_n 0, 1), (14, .invokevirtual 47, 3), (17, .iconst 1, 1), (18, .ireturn, 1)]
theorem D_X1_takesSemicolon : ∀ q ∈ T_X1_takesSemicolon, decode cX1_takesSemicolon q.1 = .ok q.2 := by decide +kernel
theorem V_X1_takesSemicolon : Vy yX1_takesSemicolon cX1_takesSemicolon 1 (some .boolean) 0 := ⟨k52, k56, by decide +kernel⟩
theorem i_X1_takesSemicolon : Cond.instanceMethod yX1_takesSemicolon ∈ TB := k74
theorem s_X1_takesSemicolon : Cond.selects yX1_takesSemicolon.cls yX1_takesSemicolon yX1_takesSemicolon ∈ TB := k75
noncomputable def f_X1_takesSemicolon (vP : JV)  : Option (Int32 × JV) :=
  (f_X1_mayEnd vP).bind (fun q1 => (if q1 = 0 then some ((0 : Int32), vP) else (f_X1_endPupil vP).bind (fun q3 => (f_X1_beginPupil q3).bind (fun q4 => some ((1 : Int32), q4)))))
set_option maxRecDepth 100000 in
set_option maxHeartbeats 4000000 in
theorem c_X1_takesSemicolon {l : Launch} {G : JG} (aP : Nat → Nat) (vP : JV)  {Rz : Int32 × JV} (h : f_X1_takesSemicolon vP = some Rz) : JM l G yX1_takesSemicolon cX1_takesSemicolon 1 (some .boolean) 1 20 [.ref (aP 0)] (wPad G aP (vP 0) (vP 1 0) (vP 2) (vP 3) (vP 4) (vP 5 0) (vP 6 0) (vP 7 0) (vP 8 0) (vP 9 0)) (wPad G aP ((Rz.2) 0) ((Rz.2) 1 0) ((Rz.2) 2) ((Rz.2) 3) ((Rz.2) 4) ((Rz.2) 5 0) ((Rz.2) 6 0) ((Rz.2) 7 0) ((Rz.2) 8 0) ((Rz.2) 9 0)) (some (.int (Rz.1))) := by
  refine JM.of (own := RX1) (tb := T_X1_takesSemicolon) (by decide) (Nat.le_of_ble_eq_true rfl) D_X1_takesSemicolon rfl (fun X C => ?_)
  refine J_sub (lv' := [(0, .ref (aP 0))]) [0] rfl ?_
  unfold f_X1_takesSemicolon at h
  refine J_aload_n (pc := 0) C 0 rfl 0 rfl rfl ?_
  obtain ⟨q1, hq1, h⟩ := bnd h
  refine J_callV (pc := 1) (st2 := []) (st3 := [.int q1]) (ws2 := (wPad G aP (vP 0) (vP 1 0) (vP 2) (vP 3) (vP 4) (vP 5 0) (vP 6 0) (vP 7 0) (vP 8 0) (vP 9 0))) C 1 rfl (c_X1_mayEnd aP vP hq1) V_X1_mayEnd k53 i_X1_mayEnd s_X1_mayEnd rfl rfl ⟨Nat.le_of_ble_eq_true rfl, Nat.le_of_ble_eq_true rfl⟩ (Nat.le_of_ble_eq_true rfl) ⟨Nat.le_refl _, Nat.le_refl _⟩ 0 1 rfl rfl rfl (isC := [0, 1, 2, 3, 4]) (isR := []) (N := 5) ⟨rfl, by decide +kernel, rfl, by decide +kernel, rfl, trivial⟩ rfl ?_
  refine J_if_ne (pc := 4) (tgt := 9) C 2 rfl rfl (fun c2 => ?_) (fun c2 => ?_)
  · rw [if_neg c2] at h
    refine J_aload_n (pc := 9) C 5 rfl 0 rfl rfl ?_
    obtain ⟨q3, hq3, h⟩ := bnd h
    refine J_callV (pc := 10) (st2 := []) (st3 := []) (ws2 := (wPad G aP (q3 0) (q3 1 0) (q3 2) (q3 3) (q3 4) (q3 5 0) (q3 6 0) (q3 7 0) (q3 8 0) (q3 9 0))) C 6 rfl (c_X1_endPupil aP vP hq3) V_X1_endPupil k57 i_X1_endPupil s_X1_endPupil rfl rfl ⟨Nat.le_of_ble_eq_true rfl, Nat.le_of_ble_eq_true rfl⟩ (Nat.le_of_ble_eq_true rfl) ⟨Nat.le_refl _, Nat.le_refl _⟩ 0 1 rfl rfl rfl (isC := [0, 1, 2, 3, 4]) (isR := []) (N := 5) ⟨rfl, by decide +kernel, rfl, by decide +kernel, rfl, trivial⟩ rfl ?_
    refine J_aload_n (pc := 13) C 7 rfl 0 rfl rfl ?_
    obtain ⟨q4, hq4, h⟩ := bnd h
    refine J_callV (pc := 14) (st2 := []) (st3 := []) (ws2 := (wPad G aP (q4 0) (q4 1 0) (q4 2) (q4 3) (q4 4) (q4 5 0) (q4 6 0) (q4 7 0) (q4 8 0) (q4 9 0))) C 8 rfl (c_X1_beginPupil aP q3 hq4) V_X1_beginPupil k60 i_X1_beginPupil s_X1_beginPupil rfl rfl ⟨Nat.le_of_ble_eq_true rfl, Nat.le_of_ble_eq_true rfl⟩ (Nat.le_of_ble_eq_true rfl) ⟨Nat.le_refl _, Nat.le_refl _⟩ 0 1 rfl rfl rfl (isC := [0, 1, 2, 3, 4]) (isR := []) (N := 5) ⟨rfl, by decide +kernel, rfl, by decide +kernel, rfl, trivial⟩ rfl ?_
    refine J_iconst (pc := 17) (v := (1 : Int32)) C 9 rfl rfl ?_
    cases h
    exact J_zret (pc := 18) C 10 rfl rfl
  · rw [if_pos c2] at h
    refine J_iconst (pc := 7) (v := (0 : Int32)) C 3 rfl rfl ?_
    cases h
    exact J_zret (pc := 8) C 4 rfl rfl
def T_X1_takesPlus : List (Nat × ClassFile.Instr × Nat) := [(0, .aload_n 0, 1), (1, .getfield 32, 3), (4, .iconst 1, 1), (5, .if_icmp .eq 5, 3), (8, .iconst 0, 1), (9, .ireturn, 1), (10, .aload_n 0, 1), (11, .iconst 2, 1), (12, .putfield 32, 3), (15, .iconst 1, 1), (16, .ireturn, 1)]
theorem D_X1_takesPlus : ∀ q ∈ T_X1_takesPlus, decode cX1_takesPlus q.1 = .ok q.2 := by decide +kernel
theorem V_X1_takesPlus : Vy yX1_takesPlus cX1_takesPlus 1 (some .boolean) 0 := ⟨k63, k56, by decide +kernel⟩
theorem i_X1_takesPlus : Cond.instanceMethod yX1_takesPlus ∈ TB := k77
theorem s_X1_takesPlus : Cond.selects yX1_takesPlus.cls yX1_takesPlus yX1_takesPlus ∈ TB := k78
noncomputable def f_X1_takesPlus (vP : JV)  : Option (Int32 × JV) :=
  (if (vP 6 0) = (1 : Int32) then some ((1 : Int32), (up2 vP 6 0 (2 : Int32))) else some ((0 : Int32), vP))
set_option maxRecDepth 100000 in
set_option maxHeartbeats 4000000 in
theorem c_X1_takesPlus {l : Launch} {G : JG} (aP : Nat → Nat) (vP : JV)  {Rz : Int32 × JV} (h : f_X1_takesPlus vP = some Rz) : JM l G yX1_takesPlus cX1_takesPlus 1 (some .boolean) 0 0 [.ref (aP 0)] (wPad G aP (vP 0) (vP 1 0) (vP 2) (vP 3) (vP 4) (vP 5 0) (vP 6 0) (vP 7 0) (vP 8 0) (vP 9 0)) (wPad G aP ((Rz.2) 0) ((Rz.2) 1 0) ((Rz.2) 2) ((Rz.2) 3) ((Rz.2) 4) ((Rz.2) 5 0) ((Rz.2) 6 0) ((Rz.2) 7 0) ((Rz.2) 8 0) ((Rz.2) 9 0)) (some (.int (Rz.1))) := by
  refine JM.of (own := RX1) (tb := T_X1_takesPlus) (by decide) (Nat.le_of_ble_eq_true rfl) D_X1_takesPlus rfl (fun X C => ?_)
  refine J_sub (lv' := [(0, .ref (aP 0))]) [0] rfl ?_
  unfold f_X1_takesPlus at h
  refine J_aload_n (pc := 0) C 0 rfl 0 rfl rfl ?_
  refine J_get (pc := 1) (v := .int (vP 6 0)) C 1 rfl TB_l1 rfl 0 6 rfl (by decide) k43 rfl rfl ?_
  refine J_iconst (pc := 4) (v := (1 : Int32)) C 2 rfl rfl ?_
  refine J_icmp_eq (pc := 5) (tgt := 10) C 3 rfl rfl (fun c1 => ?_) (fun c1 => ?_)
  · rw [if_pos c1] at h
    refine J_aload_n (pc := 10) C 6 rfl 0 rfl rfl ?_
    refine J_iconst (pc := 11) (v := (2 : Int32)) C 7 rfl rfl ?_
    refine J_puti (pc := 12) C 8 (fun vv => (wPad G aP (vP 0) (vP 1 0) (vP 2) (vP 3) (vP 4) (vP 5 0) vv (vP 7 0) (vP 8 0) (vP 9 0))) rfl TB_l1 tyX1 tyX1_ok nmX1 rfl 0 6 rfl (by decide) k43 rfl rfl rfl (Nat.le_of_ble_eq_true rfl) (fun _ => rfl) ?_
    refine J_iconst (pc := 15) (v := (1 : Int32)) C 9 rfl rfl ?_
    cases h
    exact J_zret (pc := 16) C 10 rfl rfl
  · rw [if_neg c1] at h
    refine J_iconst (pc := 8) (v := (0 : Int32)) C 4 rfl rfl ?_
    cases h
    exact J_zret (pc := 9) C 5 rfl rfl
def T_X1_takesReader : List (Nat × ClassFile.Instr × Nat) := [(0, .aload_n 0, 1), (1, .getfield 32, 3), (4, .iconst 1, 1), (5, .if_icmp .eq 13, 3), (8, .aload_n 0, 1), (9, .getfield 32, 3), (12, .iconst 3, 1), (13, .if_icmp .eq 5, 3), (16, .iconst 0, 1), (17, .ireturn, 1), (18, .aload_n 0, 1), (19, .iconst 1, 1), (20, .putfield 41, 3), (23, .aload_n 0, 1), (24, .iconst 4, 1), (25, .putfield 32, 3), (28, .iconst 1, 1), (29, .ireturn, 1)]
theorem D_X1_takesReader : ∀ q ∈ T_X1_takesReader, decode cX1_takesReader q.1 = .ok q.2 := by decide +kernel
theorem V_X1_takesReader : Vy yX1_takesReader cX1_takesReader 1 (some .boolean) 0 := ⟨k64, k56, by decide +kernel⟩
theorem i_X1_takesReader : Cond.instanceMethod yX1_takesReader ∈ TB := k80
theorem s_X1_takesReader : Cond.selects yX1_takesReader.cls yX1_takesReader yX1_takesReader ∈ TB := k81
noncomputable def f_X1_takesReader (vP : JV)  : Option (Int32 × JV) :=
  (if (vP 6 0) = (1 : Int32) then some ((1 : Int32), (up2 (up2 vP 9 0 (1 : Int32)) 6 0 (4 : Int32))) else (if (vP 6 0) = (3 : Int32) then some ((1 : Int32), (up2 (up2 vP 9 0 (1 : Int32)) 6 0 (4 : Int32))) else some ((0 : Int32), vP)))
set_option maxRecDepth 100000 in
set_option maxHeartbeats 4000000 in
theorem c_X1_takesReader {l : Launch} {G : JG} (aP : Nat → Nat) (vP : JV)  {Rz : Int32 × JV} (h : f_X1_takesReader vP = some Rz) : JM l G yX1_takesReader cX1_takesReader 1 (some .boolean) 0 0 [.ref (aP 0)] (wPad G aP (vP 0) (vP 1 0) (vP 2) (vP 3) (vP 4) (vP 5 0) (vP 6 0) (vP 7 0) (vP 8 0) (vP 9 0)) (wPad G aP ((Rz.2) 0) ((Rz.2) 1 0) ((Rz.2) 2) ((Rz.2) 3) ((Rz.2) 4) ((Rz.2) 5 0) ((Rz.2) 6 0) ((Rz.2) 7 0) ((Rz.2) 8 0) ((Rz.2) 9 0)) (some (.int (Rz.1))) := by
  refine JM.of (own := RX1) (tb := T_X1_takesReader) (by decide) (Nat.le_of_ble_eq_true rfl) D_X1_takesReader rfl (fun X C => ?_)
  refine J_sub (lv' := [(0, .ref (aP 0))]) [0] rfl ?_
  unfold f_X1_takesReader at h
  refine J_aload_n (pc := 0) C 0 rfl 0 rfl rfl ?_
  refine J_get (pc := 1) (v := .int (vP 6 0)) C 1 rfl TB_l1 rfl 0 6 rfl (by decide) k43 rfl rfl ?_
  refine J_iconst (pc := 4) (v := (1 : Int32)) C 2 rfl rfl ?_
  refine J_icmp_eq (pc := 5) (tgt := 18) C 3 rfl rfl (fun c1 => ?_) (fun c1 => ?_)
  · rw [if_pos c1] at h
    refine J_aload_n (pc := 18) C 10 rfl 0 rfl rfl ?_
    refine J_iconst (pc := 19) (v := (1 : Int32)) C 11 rfl rfl ?_
    refine J_putz (pc := 20) C 12 (fun vv => (wPad G aP (vP 0) (vP 1 0) (vP 2) (vP 3) (vP 4) (vP 5 0) (vP 6 0) (vP 7 0) (vP 8 0) vv)) rfl rfl TB_l1 tyX1 tyX1_ok nmX1 rfl 0 9 rfl (by decide) k46 rfl rfl rfl (Nat.le_of_ble_eq_true rfl) (fun _ => rfl) ?_
    refine J_aload_n (pc := 23) C 13 rfl 0 rfl rfl ?_
    refine J_iconst (pc := 24) (v := (4 : Int32)) C 14 rfl rfl ?_
    refine J_puti (pc := 25) C 15 (fun vv => (wPad G aP (vP 0) (vP 1 0) (vP 2) (vP 3) (vP 4) (vP 5 0) vv (vP 7 0) (vP 8 0) (1 : Int32))) rfl TB_l1 tyX1 tyX1_ok nmX1 rfl 0 6 rfl (by decide) k43 rfl rfl rfl (Nat.le_of_ble_eq_true rfl) (fun _ => rfl) ?_
    refine J_iconst (pc := 28) (v := (1 : Int32)) C 16 rfl rfl ?_
    cases h
    exact J_zret (pc := 29) C 17 rfl rfl
  · rw [if_neg c1] at h
    refine J_aload_n (pc := 8) C 4 rfl 0 rfl rfl ?_
    refine J_get (pc := 9) (v := .int (vP 6 0)) C 5 rfl TB_l1 rfl 0 6 rfl (by decide) k43 rfl rfl ?_
    refine J_iconst (pc := 12) (v := (3 : Int32)) C 6 rfl rfl ?_
    refine J_icmp_eq (pc := 13) (tgt := 18) C 7 rfl rfl (fun c2 => ?_) (fun c2 => ?_)
    · rw [if_pos c2] at h
      refine J_aload_n (pc := 18) C 10 rfl 0 rfl rfl ?_
      refine J_iconst (pc := 19) (v := (1 : Int32)) C 11 rfl rfl ?_
      refine J_putz (pc := 20) C 12 (fun vv => (wPad G aP (vP 0) (vP 1 0) (vP 2) (vP 3) (vP 4) (vP 5 0) (vP 6 0) (vP 7 0) (vP 8 0) vv)) rfl rfl TB_l1 tyX1 tyX1_ok nmX1 rfl 0 9 rfl (by decide) k46 rfl rfl rfl (Nat.le_of_ble_eq_true rfl) (fun _ => rfl) ?_
      refine J_aload_n (pc := 23) C 13 rfl 0 rfl rfl ?_
      refine J_iconst (pc := 24) (v := (4 : Int32)) C 14 rfl rfl ?_
      refine J_puti (pc := 25) C 15 (fun vv => (wPad G aP (vP 0) (vP 1 0) (vP 2) (vP 3) (vP 4) (vP 5 0) vv (vP 7 0) (vP 8 0) (1 : Int32))) rfl TB_l1 tyX1 tyX1_ok nmX1 rfl 0 6 rfl (by decide) k43 rfl rfl rfl (Nat.le_of_ble_eq_true rfl) (fun _ => rfl) ?_
      refine J_iconst (pc := 28) (v := (1 : Int32)) C 16 rfl rfl ?_
      cases h
      exact J_zret (pc := 29) C 17 rfl rfl
    · rw [if_neg c2] at h
      refine J_iconst (pc := 16) (v := (0 : Int32)) C 8 rfl rfl ?_
      cases h
      exact J_zret (pc := 17) C 9 rfl rfl
def T_X1_takesDigit : List (Nat × ClassFile.Instr × Nat) := [(0, .aload_n 0, 1), (1, .getfield 32, 3), (4, .iconst 2, 1), (5, .if_icmp .eq 13, 3), (8, .aload_n 0, 1), (9, .getfield 32, 3), (12, .iconst 3, 1), (13, .if_icmp .eq 5, 3), (16, .iconst 0, 1), (17, .ireturn, 1), (18, .bipush 10, 2), (20, .aload_n 0, 1), (21, .getfield 38, 3), (24, .imul, 1), (25, .iload_n 1, 1), (26, .iadd, 1), (27, .istore_n 2, 1), (28, .iload_n 2, 1), (29, .iconst 1, 1), (30, .bipush 100, 2), (32, .invokestatic 70, 3), (35, .ifCond .ne 5, 3), (38, .iconst 0, 1), (39, .ireturn, 1), (40, .aload_n 0, 1), (41, .iload_n 2, 1), (42, .putfield 38, 3), (45, .aload_n 0, 1), (46, .iconst 3, 1), (47, .putfield 32, 3), (50, .iconst 1, 1), (51, .ireturn, 1)]
theorem D_X1_takesDigit : ∀ q ∈ T_X1_takesDigit, decode cX1_takesDigit q.1 = .ok q.2 := by decide +kernel
theorem V_X1_takesDigit : Vy yX1_takesDigit cX1_takesDigit 3 (some .boolean) 1 := ⟨k66, k56, by decide +kernel⟩
theorem i_X1_takesDigit : Cond.instanceMethod yX1_takesDigit ∈ TB := k83
theorem s_X1_takesDigit : Cond.selects yX1_takesDigit.cls yX1_takesDigit yX1_takesDigit ∈ TB := k84
noncomputable def f_X1_takesDigit_K18  (vP_18 : JV) (x1_18 : Int32) : Option (Int32 × JV) :=
  (f_X4_isWithin (((10 : Int32) * (vP_18 8 0)) + x1_18) (1 : Int32) (100 : Int32)).bind (fun q2 => (if q2 = 0 then some ((0 : Int32), vP_18) else some ((1 : Int32), (up2 (up2 vP_18 8 0 (((10 : Int32) * (vP_18 8 0)) + x1_18)) 6 0 (3 : Int32)))))
noncomputable def f_X1_takesDigit (vP : JV) (x1 : Int32) : Option (Int32 × JV) :=
  (if (vP 6 0) = (2 : Int32) then f_X1_takesDigit_K18  vP x1 else (if (vP 6 0) = (3 : Int32) then f_X1_takesDigit_K18  vP x1 else some ((0 : Int32), vP)))
set_option maxRecDepth 100000 in
set_option maxHeartbeats 4000000 in
theorem c_X1_takesDigit {l : Launch} {G : JG} (aP : Nat → Nat) (vP : JV) (x1 : Int32) {Rz : Int32 × JV} (h : f_X1_takesDigit vP x1 = some Rz) : JM l G yX1_takesDigit cX1_takesDigit 3 (some .boolean) 1 22 [.ref (aP 0), .int x1] (wPad G aP (vP 0) (vP 1 0) (vP 2) (vP 3) (vP 4) (vP 5 0) (vP 6 0) (vP 7 0) (vP 8 0) (vP 9 0)) (wPad G aP ((Rz.2) 0) ((Rz.2) 1 0) ((Rz.2) 2) ((Rz.2) 3) ((Rz.2) 4) ((Rz.2) 5 0) ((Rz.2) 6 0) ((Rz.2) 7 0) ((Rz.2) 8 0) ((Rz.2) 9 0)) (some (.int (Rz.1))) := by
  refine JM.of (own := RX1) (tb := T_X1_takesDigit) (by decide) (Nat.le_of_ble_eq_true rfl) D_X1_takesDigit rfl (fun X C => ?_)
  refine J_sub (lv' := [(0, .ref (aP 0)), (1, .int x1)]) [0, 1] rfl ?_
  have B18 : ∀ (vP_18 : JV) (x1_18 : Int32), f_X1_takesDigit_K18  vP_18 x1_18 = some Rz → J l { frames := 1, cells := 0, slots := 0, locals := 22 } G 3 X (QM X G 0 0 (some (.int (Rz.1))) (wPad G aP ((Rz.2) 0) ((Rz.2) 1 0) ((Rz.2) 2) ((Rz.2) 3) ((Rz.2) 4) ((Rz.2) 5 0) ((Rz.2) 6 0) ((Rz.2) 7 0) ((Rz.2) 8 0) ((Rz.2) 9 0))) 0 0 18 [(0, .ref (aP 0)), (1, .int x1_18)] [] (wPad G aP (vP_18 0) (vP_18 1 0) (vP_18 2) (vP_18 3) (vP_18 4) (vP_18 5 0) (vP_18 6 0) (vP_18 7 0) (vP_18 8 0) (vP_18 9 0)) := by
    intro vP_18 x1_18 h
    unfold f_X1_takesDigit_K18 at h
    refine J_bipush (pc := 18) (v := (10 : Int32)) C 10 rfl rfl ?_
    refine J_aload_n (pc := 20) C 11 rfl 0 rfl rfl ?_
    refine J_get (pc := 21) (v := .int (vP_18 8 0)) C 12 rfl TB_l1 rfl 0 8 rfl (by decide) k45 rfl rfl ?_
    refine J_imul (pc := 24) C 13 rfl  ?_
    refine J_iload_n (pc := 25) C 14 rfl 1 rfl rfl ?_
    refine J_iadd (pc := 26) C 15 rfl  ?_
    refine J_istore_n (pc := 27) (lv' := [(2, .int (((10 : Int32) * (vP_18 8 0)) + x1_18)), (0, .ref (aP 0)), (1, .int x1_18)]) C 16 rfl rfl (by decide) rfl ?_
    refine J_iload_n (pc := 28) C 17 rfl 0 rfl rfl ?_
    refine J_iconst (pc := 29) (v := (1 : Int32)) C 18 rfl rfl ?_
    refine J_bipush (pc := 30) (v := (100 : Int32)) C 19 rfl rfl ?_
    obtain ⟨q2, hq2, h⟩ := bnd h
    refine J_callSN (pc := 32) (st2 := []) (st3 := [.int q2]) (ws2 := (wPad G aP (vP_18 0) (vP_18 1 0) (vP_18 2) (vP_18 3) (vP_18 4) (vP_18 5 0) (vP_18 6 0) (vP_18 7 0) (vP_18 8 0) (vP_18 9 0))) C 20 rfl (c_X4_isWithin (((10 : Int32) * (vP_18 8 0)) + x1_18) (1 : Int32) (100 : Int32) hq2) V_X4_isWithin (List.mem_of_getElem? (i := 8) rfl) t_X4_isWithin rfl rfl ⟨Nat.le_of_ble_eq_true rfl, Nat.le_of_ble_eq_true rfl⟩ (Nat.le_of_ble_eq_true rfl) ⟨Nat.le_refl _, Nat.le_refl _⟩ (isC := []) (isR := [0, 1, 2, 3, 4]) (N := 5) ⟨rfl, by decide +kernel, rfl, by decide +kernel, rfl, ⟨⟨_, rfl, rfl⟩, ⟨⟨_, rfl, rfl⟩, ⟨⟨_, rfl, rfl⟩, ⟨⟨_, rfl, rfl⟩, ⟨⟨_, rfl, rfl⟩, trivial⟩⟩⟩⟩⟩⟩ rfl ?_
    refine J_if_ne (pc := 35) (tgt := 40) C 21 rfl rfl (fun c3 => ?_) (fun c3 => ?_)
    · rw [if_neg c3] at h
      refine J_aload_n (pc := 40) C 24 rfl 1 rfl rfl ?_
      refine J_iload_n (pc := 41) C 25 rfl 0 rfl rfl ?_
      refine J_puti (pc := 42) C 26 (fun vv => (wPad G aP (vP_18 0) (vP_18 1 0) (vP_18 2) (vP_18 3) (vP_18 4) (vP_18 5 0) (vP_18 6 0) (vP_18 7 0) vv (vP_18 9 0))) rfl TB_l1 tyX1 tyX1_ok nmX1 rfl 0 8 rfl (by decide) k45 rfl rfl rfl (Nat.le_of_ble_eq_true rfl) (fun _ => rfl) ?_
      refine J_aload_n (pc := 45) C 27 rfl 1 rfl rfl ?_
      refine J_iconst (pc := 46) (v := (3 : Int32)) C 28 rfl rfl ?_
      refine J_puti (pc := 47) C 29 (fun vv => (wPad G aP (vP_18 0) (vP_18 1 0) (vP_18 2) (vP_18 3) (vP_18 4) (vP_18 5 0) vv (vP_18 7 0) (((10 : Int32) * (vP_18 8 0)) + x1_18) (vP_18 9 0))) rfl TB_l1 tyX1 tyX1_ok nmX1 rfl 0 6 rfl (by decide) k43 rfl rfl rfl (Nat.le_of_ble_eq_true rfl) (fun _ => rfl) ?_
      refine J_iconst (pc := 50) (v := (1 : Int32)) C 30 rfl rfl ?_
      cases h
      exact J_zret (pc := 51) C 31 rfl rfl
    · rw [if_pos c3] at h
      refine J_iconst (pc := 38) (v := (0 : Int32)) C 22 rfl rfl ?_
      cases h
      exact J_zret (pc := 39) C 23 rfl rfl
  unfold f_X1_takesDigit at h
  refine J_aload_n (pc := 0) C 0 rfl 0 rfl rfl ?_
  refine J_get (pc := 1) (v := .int (vP 6 0)) C 1 rfl TB_l1 rfl 0 6 rfl (by decide) k43 rfl rfl ?_
  refine J_iconst (pc := 4) (v := (2 : Int32)) C 2 rfl rfl ?_
  refine J_icmp_eq (pc := 5) (tgt := 18) C 3 rfl rfl (fun c1 => ?_) (fun c1 => ?_)
  · rw [if_pos c1] at h
    exact J_sub [0, 1] rfl (B18 vP x1 h)
  · rw [if_neg c1] at h
    refine J_aload_n (pc := 8) C 4 rfl 0 rfl rfl ?_
    refine J_get (pc := 9) (v := .int (vP 6 0)) C 5 rfl TB_l1 rfl 0 6 rfl (by decide) k43 rfl rfl ?_
    refine J_iconst (pc := 12) (v := (3 : Int32)) C 6 rfl rfl ?_
    refine J_icmp_eq (pc := 13) (tgt := 18) C 7 rfl rfl (fun c4 => ?_) (fun c4 => ?_)
    · rw [if_pos c4] at h
      exact J_sub [0, 1] rfl (B18 vP x1 h)
    · rw [if_neg c4] at h
      refine J_iconst (pc := 16) (v := (0 : Int32)) C 8 rfl rfl ?_
      cases h
      exact J_zret (pc := 17) C 9 rfl rfl
def T_X1_takesLetter : List (Nat × ClassFile.Instr × Nat) := [(0, .aload_n 0, 1), (1, .getfield 32, 3), (4, .ifCond .eq 13, 3), (7, .aload_n 0, 1), (8, .getfield 32, 3), (11, .iconst 1, 1), (12, .if_icmp .eq 5, 3), (15, .iconst 0, 1), (16, .ireturn, 1), (17, .iload_n 1, 1), (18, .invokestatic 80, 3), (21, .ifCond .eq 12, 3), (24, .aload_n 0, 1), (25, .getfield 35, 3), (28, .iload_n 1, 1), (29, .ishr, 1), (30, .ifCond .eq 5, 3), (33, .iconst 0, 1), (34, .ireturn, 1), (35, .aload_n 0, 1), (36, .dup, 1), (37, .getfield 35, 3), (40, .iconst 1, 1), (41, .iload_n 1, 1), (42, .ishl, 1), (43, .ior, 1), (44, .putfield 35, 3), (47, .aload_n 0, 1), (48, .iconst 1, 1), (49, .putfield 32, 3), (52, .iconst 1, 1), (53, .ireturn, 1)]
theorem D_X1_takesLetter : ∀ q ∈ T_X1_takesLetter, decode cX1_takesLetter q.1 = .ok q.2 := by decide +kernel
theorem V_X1_takesLetter : Vy yX1_takesLetter cX1_takesLetter 2 (some .boolean) 1 := ⟨k71, k56, by decide +kernel⟩
theorem i_X1_takesLetter : Cond.instanceMethod yX1_takesLetter ∈ TB := k86
theorem s_X1_takesLetter : Cond.selects yX1_takesLetter.cls yX1_takesLetter yX1_takesLetter ∈ TB := k87
noncomputable def f_X1_takesLetter_K17  (vP_17 : JV) (x1_17 : Int32) : Option (Int32 × JV) :=
  (f_X4_isPaper x1_17).bind (fun q2 => (if q2 = 0 then some ((0 : Int32), vP_17) else (if ((vP_17 7 0) >>> (x1_17 &&& 31)) = 0 then some ((1 : Int32), (up2 (up2 vP_17 7 0 ((vP_17 7 0) ||| ((1 : Int32) <<< (x1_17 &&& 31)))) 6 0 (1 : Int32))) else some ((0 : Int32), vP_17))))
noncomputable def f_X1_takesLetter (vP : JV) (x1 : Int32) : Option (Int32 × JV) :=
  (if (vP 6 0) = 0 then f_X1_takesLetter_K17  vP x1 else (if (vP 6 0) = (1 : Int32) then f_X1_takesLetter_K17  vP x1 else some ((0 : Int32), vP)))
set_option maxRecDepth 100000 in
set_option maxHeartbeats 4000000 in
theorem c_X1_takesLetter {l : Launch} {G : JG} (aP : Nat → Nat) (vP : JV) (x1 : Int32) {Rz : Int32 × JV} (h : f_X1_takesLetter vP x1 = some Rz) : JM l G yX1_takesLetter cX1_takesLetter 2 (some .boolean) 2 42 [.ref (aP 0), .int x1] (wPad G aP (vP 0) (vP 1 0) (vP 2) (vP 3) (vP 4) (vP 5 0) (vP 6 0) (vP 7 0) (vP 8 0) (vP 9 0)) (wPad G aP ((Rz.2) 0) ((Rz.2) 1 0) ((Rz.2) 2) ((Rz.2) 3) ((Rz.2) 4) ((Rz.2) 5 0) ((Rz.2) 6 0) ((Rz.2) 7 0) ((Rz.2) 8 0) ((Rz.2) 9 0)) (some (.int (Rz.1))) := by
  refine JM.of (own := RX1) (tb := T_X1_takesLetter) (by decide) (Nat.le_of_ble_eq_true rfl) D_X1_takesLetter rfl (fun X C => ?_)
  refine J_sub (lv' := [(0, .ref (aP 0)), (1, .int x1)]) [0, 1] rfl ?_
  have B17 : ∀ (vP_17 : JV) (x1_17 : Int32), f_X1_takesLetter_K17  vP_17 x1_17 = some Rz → J l { frames := 2, cells := 0, slots := 0, locals := 42 } G 2 X (QM X G 0 0 (some (.int (Rz.1))) (wPad G aP ((Rz.2) 0) ((Rz.2) 1 0) ((Rz.2) 2) ((Rz.2) 3) ((Rz.2) 4) ((Rz.2) 5 0) ((Rz.2) 6 0) ((Rz.2) 7 0) ((Rz.2) 8 0) ((Rz.2) 9 0))) 0 0 17 [(0, .ref (aP 0)), (1, .int x1_17)] [] (wPad G aP (vP_17 0) (vP_17 1 0) (vP_17 2) (vP_17 3) (vP_17 4) (vP_17 5 0) (vP_17 6 0) (vP_17 7 0) (vP_17 8 0) (vP_17 9 0)) := by
    intro vP_17 x1_17 h
    unfold f_X1_takesLetter_K17 at h
    refine J_iload_n (pc := 17) C 9 rfl 1 rfl rfl ?_
    obtain ⟨q2, hq2, h⟩ := bnd h
    refine J_callSN (pc := 18) (st2 := []) (st3 := [.int q2]) (ws2 := (wPad G aP (vP_17 0) (vP_17 1 0) (vP_17 2) (vP_17 3) (vP_17 4) (vP_17 5 0) (vP_17 6 0) (vP_17 7 0) (vP_17 8 0) (vP_17 9 0))) C 10 rfl (c_X4_isPaper x1_17 hq2) V_X4_isPaper (List.mem_of_getElem? (i := 9) rfl) t_X4_isPaper rfl rfl ⟨Nat.le_of_ble_eq_true rfl, Nat.le_of_ble_eq_true rfl⟩ (Nat.le_of_ble_eq_true rfl) ⟨Nat.le_refl _, Nat.le_refl _⟩ (isC := []) (isR := [0, 1, 2, 3, 4]) (N := 5) ⟨rfl, by decide +kernel, rfl, by decide +kernel, rfl, ⟨⟨_, rfl, rfl⟩, ⟨⟨_, rfl, rfl⟩, ⟨⟨_, rfl, rfl⟩, ⟨⟨_, rfl, rfl⟩, ⟨⟨_, rfl, rfl⟩, trivial⟩⟩⟩⟩⟩⟩ rfl ?_
    refine J_if_eq (pc := 21) (tgt := 33) C 11 rfl rfl (fun c3 => ?_) (fun c3 => ?_)
    · rw [if_pos c3] at h
      refine J_iconst (pc := 33) (v := (0 : Int32)) C 17 rfl rfl ?_
      cases h
      exact J_zret (pc := 34) C 18 rfl rfl
    · rw [if_neg c3] at h
      refine J_aload_n (pc := 24) C 12 rfl 0 rfl rfl ?_
      refine J_get (pc := 25) (v := .int (vP_17 7 0)) C 13 rfl TB_l1 rfl 0 7 rfl (by decide) k44 rfl rfl ?_
      refine J_iload_n (pc := 28) C 14 rfl 1 rfl rfl ?_
      refine J_ishr (pc := 29) C 15 rfl  ?_
      refine J_if_eq (pc := 30) (tgt := 35) C 16 rfl rfl (fun c4 => ?_) (fun c4 => ?_)
      · rw [if_pos c4] at h
        refine J_aload_n (pc := 35) C 19 rfl 0 rfl rfl ?_
        refine J_dup (pc := 36) C 20 rfl rfl ?_
        refine J_get (pc := 37) (v := .int (vP_17 7 0)) C 21 rfl TB_l1 rfl 0 7 rfl (by decide) k44 rfl rfl ?_
        refine J_iconst (pc := 40) (v := (1 : Int32)) C 22 rfl rfl ?_
        refine J_iload_n (pc := 41) C 23 rfl 1 rfl rfl ?_
        refine J_ishl (pc := 42) C 24 rfl  ?_
        refine J_ior (pc := 43) C 25 rfl  ?_
        refine J_puti (pc := 44) C 26 (fun vv => (wPad G aP (vP_17 0) (vP_17 1 0) (vP_17 2) (vP_17 3) (vP_17 4) (vP_17 5 0) (vP_17 6 0) vv (vP_17 8 0) (vP_17 9 0))) rfl TB_l1 tyX1 tyX1_ok nmX1 rfl 0 7 rfl (by decide) k44 rfl rfl rfl (Nat.le_of_ble_eq_true rfl) (fun _ => rfl) ?_
        refine J_aload_n (pc := 47) C 27 rfl 0 rfl rfl ?_
        refine J_iconst (pc := 48) (v := (1 : Int32)) C 28 rfl rfl ?_
        refine J_puti (pc := 49) C 29 (fun vv => (wPad G aP (vP_17 0) (vP_17 1 0) (vP_17 2) (vP_17 3) (vP_17 4) (vP_17 5 0) vv ((vP_17 7 0) ||| ((1 : Int32) <<< (x1_17 &&& 31))) (vP_17 8 0) (vP_17 9 0))) rfl TB_l1 tyX1 tyX1_ok nmX1 rfl 0 6 rfl (by decide) k43 rfl rfl rfl (Nat.le_of_ble_eq_true rfl) (fun _ => rfl) ?_
        refine J_iconst (pc := 52) (v := (1 : Int32)) C 30 rfl rfl ?_
        cases h
        exact J_zret (pc := 53) C 31 rfl rfl
      · rw [if_neg c4] at h
        refine J_iconst (pc := 33) (v := (0 : Int32)) C 17 rfl rfl ?_
        cases h
        exact J_zret (pc := 34) C 18 rfl rfl
  unfold f_X1_takesLetter at h
  refine J_aload_n (pc := 0) C 0 rfl 0 rfl rfl ?_
  refine J_get (pc := 1) (v := .int (vP 6 0)) C 1 rfl TB_l1 rfl 0 6 rfl (by decide) k43 rfl rfl ?_
  refine J_if_eq (pc := 4) (tgt := 17) C 2 rfl rfl (fun c1 => ?_) (fun c1 => ?_)
  · rw [if_pos c1] at h
    exact J_sub [0, 1] rfl (B17 vP x1 h)
  · rw [if_neg c1] at h
    refine J_aload_n (pc := 7) C 3 rfl 0 rfl rfl ?_
    refine J_get (pc := 8) (v := .int (vP 6 0)) C 4 rfl TB_l1 rfl 0 6 rfl (by decide) k43 rfl rfl ?_
    refine J_iconst (pc := 11) (v := (1 : Int32)) C 5 rfl rfl ?_
    refine J_icmp_eq (pc := 12) (tgt := 17) C 6 rfl rfl (fun c5 => ?_) (fun c5 => ?_)
    · rw [if_pos c5] at h
      exact J_sub [0, 1] rfl (B17 vP x1 h)
    · rw [if_neg c5] at h
      refine J_iconst (pc := 15) (v := (0 : Int32)) C 7 rfl rfl ?_
      cases h
      exact J_zret (pc := 16) C 8 rfl rfl
def T_X1_takes : List (Nat × ClassFile.Instr × Nat) := [(0, .iload_n 1, 1), (1, .bipush 59, 2), (3, .if_icmp .ne 8, 3), (6, .aload_n 0, 1), (7, .invokevirtual 61, 3), (10, .ireturn, 1), (11, .iload_n 1, 1), (12, .bipush 43, 2), (14, .if_icmp .ne 8, 3), (17, .aload_n 0, 1), (18, .invokevirtual 64, 3), (21, .ireturn, 1), (22, .iload_n 1, 1), (23, .bipush 114, 2), (25, .if_icmp .ne 8, 3), (28, .aload_n 0, 1), (29, .invokevirtual 67, 3), (32, .ireturn, 1), (33, .iload_n 1, 1), (34, .bipush 48, 2), (36, .bipush 57, 2), (38, .invokestatic 70, 3), (41, .ifCond .eq 14, 3), (44, .aload_n 0, 1), (45, .iload_n 1, 1), (46, .bipush 48, 2), (48, .isub, 1), (49, .invokevirtual 74, 3), (52, .goto 11, 3), (55, .aload_n 0, 1), (56, .iload_n 1, 1), (57, .bipush 97, 2), (59, .isub, 1), (60, .invokevirtual 77, 3), (63, .ireturn, 1)]
theorem D_X1_takes : ∀ q ∈ T_X1_takes, decode cX1_takes q.1 = .ok q.2 := by decide +kernel
theorem V_X1_takes : Vy yX1_takes cX1_takes 2 (some .boolean) 1 := ⟨k88, k56, by decide +kernel⟩
theorem i_X1_takes : Cond.instanceMethod yX1_takes ∈ TB := k90
theorem s_X1_takes : Cond.selects yX1_takes.cls yX1_takes yX1_takes ∈ TB := k91
noncomputable def f_X1_takes (vP : JV) (x1 : Int32) : Option (Int32 × JV) :=
  (if x1 = (59 : Int32) then (f_X1_takesSemicolon vP).bind (fun q14 => gd (isb (q14.1)) (some ((q14.1), (q14.2)))) else (if x1 = (43 : Int32) then (f_X1_takesPlus vP).bind (fun q12 => gd (isb (q12.1)) (some ((q12.1), (q12.2)))) else (if x1 = (114 : Int32) then (f_X1_takesReader vP).bind (fun q10 => gd (isb (q10.1)) (some ((q10.1), (q10.2)))) else (f_X4_isWithin x1 (48 : Int32) (57 : Int32)).bind (fun q4 => (if q4 = 0 then (f_X1_takesLetter vP (x1 - (97 : Int32))).bind (fun q6 => gd (isb (q6.1)) (some ((q6.1), (q6.2)))) else (f_X1_takesDigit vP (x1 - (48 : Int32))).bind (fun q8 => gd (isb (q8.1)) (some ((q8.1), (q8.2)))))))))
set_option maxRecDepth 100000 in
set_option maxHeartbeats 4000000 in
theorem c_X1_takes {l : Launch} {G : JG} (aP : Nat → Nat) (vP : JV) (x1 : Int32) {Rz : Int32 × JV} (h : f_X1_takes vP x1 = some Rz) : JM l G yX1_takes cX1_takes 2 (some .boolean) 3 63 [.ref (aP 0), .int x1] (wPad G aP (vP 0) (vP 1 0) (vP 2) (vP 3) (vP 4) (vP 5 0) (vP 6 0) (vP 7 0) (vP 8 0) (vP 9 0)) (wPad G aP ((Rz.2) 0) ((Rz.2) 1 0) ((Rz.2) 2) ((Rz.2) 3) ((Rz.2) 4) ((Rz.2) 5 0) ((Rz.2) 6 0) ((Rz.2) 7 0) ((Rz.2) 8 0) ((Rz.2) 9 0)) (some (.int (Rz.1))) := by
  refine JM.of (own := RX1) (tb := T_X1_takes) (by decide) (Nat.le_of_ble_eq_true rfl) D_X1_takes rfl (fun X C => ?_)
  refine J_sub (lv' := [(0, .ref (aP 0)), (1, .int x1)]) [0, 1] rfl ?_
  unfold f_X1_takes at h
  refine J_iload_n (pc := 0) C 0 rfl 1 rfl rfl ?_
  refine J_bipush (pc := 1) (v := (59 : Int32)) C 1 rfl rfl ?_
  refine J_icmp_ne (pc := 3) (tgt := 11) C 2 rfl rfl (fun c1 => ?_) (fun c1 => ?_)
  · rw [if_neg c1] at h
    refine J_iload_n (pc := 11) C 6 rfl 1 rfl rfl ?_
    refine J_bipush (pc := 12) (v := (43 : Int32)) C 7 rfl rfl ?_
    refine J_icmp_ne (pc := 14) (tgt := 22) C 8 rfl rfl (fun c2 => ?_) (fun c2 => ?_)
    · rw [if_neg c2] at h
      refine J_iload_n (pc := 22) C 12 rfl 1 rfl rfl ?_
      refine J_bipush (pc := 23) (v := (114 : Int32)) C 13 rfl rfl ?_
      refine J_icmp_ne (pc := 25) (tgt := 33) C 14 rfl rfl (fun c3 => ?_) (fun c3 => ?_)
      · rw [if_neg c3] at h
        refine J_iload_n (pc := 33) C 18 rfl 1 rfl rfl ?_
        refine J_bipush (pc := 34) (v := (48 : Int32)) C 19 rfl rfl ?_
        refine J_bipush (pc := 36) (v := (57 : Int32)) C 20 rfl rfl ?_
        obtain ⟨q4, hq4, h⟩ := bnd h
        refine J_callSN (pc := 38) (st2 := []) (st3 := [.int q4]) (ws2 := (wPad G aP (vP 0) (vP 1 0) (vP 2) (vP 3) (vP 4) (vP 5 0) (vP 6 0) (vP 7 0) (vP 8 0) (vP 9 0))) C 21 rfl (c_X4_isWithin x1 (48 : Int32) (57 : Int32) hq4) V_X4_isWithin (List.mem_of_getElem? (i := 8) rfl) t_X4_isWithin rfl rfl ⟨Nat.le_of_ble_eq_true rfl, Nat.le_of_ble_eq_true rfl⟩ (Nat.le_of_ble_eq_true rfl) ⟨Nat.le_refl _, Nat.le_refl _⟩ (isC := []) (isR := [0, 1, 2, 3, 4]) (N := 5) ⟨rfl, by decide +kernel, rfl, by decide +kernel, rfl, ⟨⟨_, rfl, rfl⟩, ⟨⟨_, rfl, rfl⟩, ⟨⟨_, rfl, rfl⟩, ⟨⟨_, rfl, rfl⟩, ⟨⟨_, rfl, rfl⟩, trivial⟩⟩⟩⟩⟩⟩ rfl ?_
        refine J_if_eq (pc := 41) (tgt := 55) C 22 rfl rfl (fun c5 => ?_) (fun c5 => ?_)
        · rw [if_pos c5] at h
          refine J_aload_n (pc := 55) C 29 rfl 0 rfl rfl ?_
          refine J_iload_n (pc := 56) C 30 rfl 1 rfl rfl ?_
          refine J_bipush (pc := 57) (v := (97 : Int32)) C 31 rfl rfl ?_
          refine J_isub (pc := 59) C 32 rfl  ?_
          obtain ⟨q6, hq6, h⟩ := bnd h
          refine J_callV (pc := 60) (st2 := []) (st3 := [.int (q6.1)]) (ws2 := (wPad G aP ((q6.2) 0) ((q6.2) 1 0) ((q6.2) 2) ((q6.2) 3) ((q6.2) 4) ((q6.2) 5 0) ((q6.2) 6 0) ((q6.2) 7 0) ((q6.2) 8 0) ((q6.2) 9 0))) C 33 rfl (c_X1_takesLetter aP vP (x1 - (97 : Int32)) hq6) V_X1_takesLetter k85 i_X1_takesLetter s_X1_takesLetter rfl rfl ⟨Nat.le_of_ble_eq_true rfl, Nat.le_of_ble_eq_true rfl⟩ (Nat.le_of_ble_eq_true rfl) ⟨Nat.le_refl _, Nat.le_refl _⟩ 0 1 rfl rfl rfl (isC := [0, 1, 2, 3, 4]) (isR := []) (N := 5) ⟨rfl, by decide +kernel, rfl, by decide +kernel, rfl, trivial⟩ rfl ?_
          obtain ⟨g7, h⟩ := gd_some h
          cases h
          exact J_zret (pc := 63) C 34 rfl g7
        · rw [if_neg c5] at h
          refine J_aload_n (pc := 44) C 23 rfl 0 rfl rfl ?_
          refine J_iload_n (pc := 45) C 24 rfl 1 rfl rfl ?_
          refine J_bipush (pc := 46) (v := (48 : Int32)) C 25 rfl rfl ?_
          refine J_isub (pc := 48) C 26 rfl  ?_
          obtain ⟨q8, hq8, h⟩ := bnd h
          refine J_callV (pc := 49) (st2 := []) (st3 := [.int (q8.1)]) (ws2 := (wPad G aP ((q8.2) 0) ((q8.2) 1 0) ((q8.2) 2) ((q8.2) 3) ((q8.2) 4) ((q8.2) 5 0) ((q8.2) 6 0) ((q8.2) 7 0) ((q8.2) 8 0) ((q8.2) 9 0))) C 27 rfl (c_X1_takesDigit aP vP (x1 - (48 : Int32)) hq8) V_X1_takesDigit k82 i_X1_takesDigit s_X1_takesDigit rfl rfl ⟨Nat.le_of_ble_eq_true rfl, Nat.le_of_ble_eq_true rfl⟩ (Nat.le_of_ble_eq_true rfl) ⟨Nat.le_refl _, Nat.le_refl _⟩ 0 1 rfl rfl rfl (isC := [0, 1, 2, 3, 4]) (isR := []) (N := 5) ⟨rfl, by decide +kernel, rfl, by decide +kernel, rfl, trivial⟩ rfl ?_
          refine J_goto (pc := 52) (tgt := 63) C 28 rfl rfl ?_
          obtain ⟨g9, h⟩ := gd_some h
          cases h
          exact J_zret (pc := 63) C 34 rfl g9
      · rw [if_pos c3] at h
        refine J_aload_n (pc := 28) C 15 rfl 0 rfl rfl ?_
        obtain ⟨q10, hq10, h⟩ := bnd h
        refine J_callV (pc := 29) (st2 := []) (st3 := [.int (q10.1)]) (ws2 := (wPad G aP ((q10.2) 0) ((q10.2) 1 0) ((q10.2) 2) ((q10.2) 3) ((q10.2) 4) ((q10.2) 5 0) ((q10.2) 6 0) ((q10.2) 7 0) ((q10.2) 8 0) ((q10.2) 9 0))) C 16 rfl (c_X1_takesReader aP vP hq10) V_X1_takesReader k79 i_X1_takesReader s_X1_takesReader rfl rfl ⟨Nat.le_of_ble_eq_true rfl, Nat.le_of_ble_eq_true rfl⟩ (Nat.le_of_ble_eq_true rfl) ⟨Nat.le_refl _, Nat.le_refl _⟩ 0 1 rfl rfl rfl (isC := [0, 1, 2, 3, 4]) (isR := []) (N := 5) ⟨rfl, by decide +kernel, rfl, by decide +kernel, rfl, trivial⟩ rfl ?_
        obtain ⟨g11, h⟩ := gd_some h
        cases h
        exact J_zret (pc := 32) C 17 rfl g11
    · rw [if_pos c2] at h
      refine J_aload_n (pc := 17) C 9 rfl 0 rfl rfl ?_
      obtain ⟨q12, hq12, h⟩ := bnd h
      refine J_callV (pc := 18) (st2 := []) (st3 := [.int (q12.1)]) (ws2 := (wPad G aP ((q12.2) 0) ((q12.2) 1 0) ((q12.2) 2) ((q12.2) 3) ((q12.2) 4) ((q12.2) 5 0) ((q12.2) 6 0) ((q12.2) 7 0) ((q12.2) 8 0) ((q12.2) 9 0))) C 10 rfl (c_X1_takesPlus aP vP hq12) V_X1_takesPlus k76 i_X1_takesPlus s_X1_takesPlus rfl rfl ⟨Nat.le_of_ble_eq_true rfl, Nat.le_of_ble_eq_true rfl⟩ (Nat.le_of_ble_eq_true rfl) ⟨Nat.le_refl _, Nat.le_refl _⟩ 0 1 rfl rfl rfl (isC := [0, 1, 2, 3, 4]) (isR := []) (N := 5) ⟨rfl, by decide +kernel, rfl, by decide +kernel, rfl, trivial⟩ rfl ?_
      obtain ⟨g13, h⟩ := gd_some h
      cases h
      exact J_zret (pc := 21) C 11 rfl g13
  · rw [if_pos c1] at h
    refine J_aload_n (pc := 6) C 3 rfl 0 rfl rfl ?_
    obtain ⟨q14, hq14, h⟩ := bnd h
    refine J_callV (pc := 7) (st2 := []) (st3 := [.int (q14.1)]) (ws2 := (wPad G aP ((q14.2) 0) ((q14.2) 1 0) ((q14.2) 2) ((q14.2) 3) ((q14.2) 4) ((q14.2) 5 0) ((q14.2) 6 0) ((q14.2) 7 0) ((q14.2) 8 0) ((q14.2) 9 0))) C 4 rfl (c_X1_takesSemicolon aP vP hq14) V_X1_takesSemicolon k73 i_X1_takesSemicolon s_X1_takesSemicolon rfl rfl ⟨Nat.le_of_ble_eq_true rfl, Nat.le_of_ble_eq_true rfl⟩ (Nat.le_of_ble_eq_true rfl) ⟨Nat.le_refl _, Nat.le_refl _⟩ 0 1 rfl rfl rfl (isC := [0, 1, 2, 3, 4]) (isR := []) (N := 5) ⟨rfl, by decide +kernel, rfl, by decide +kernel, rfl, trivial⟩ rfl ?_
    obtain ⟨g15, h⟩ := gd_some h
    cases h
    exact J_zret (pc := 10) C 5 rfl g15
def T_X1_findFault : List (Nat × ClassFile.Instr × Nat) := [(0, .aload_n 0, 1), (1, .iconst 0, 1), (2, .putfield 29, 3), (5, .aload_n 0, 1), (6, .invokevirtual 47, 3), (9, .iconst 0, 1), (10, .istore_n 1, 1), (11, .iload_n 1, 1), (12, .aload_n 0, 1), (13, .getfield 15, 3), (16, .if_icmp .ge 30, 3), (19, .iload_n 1, 1), (20, .bipush 60, 2), (22, .if_icmp .ge 24, 3), (25, .aload_n 0, 1), (26, .aload_n 0, 1), (27, .getfield 9, 3), (30, .iload_n 1, 1), (31, .iaload, 1), (32, .invokevirtual 50, 3), (35, .ifCond .ne 5, 3), (38, .iload_n 1, 1), (39, .ireturn, 1), (40, .iinc 1 1, 3), (43, .goto (-32), 3), (46, .aload_n 0, 1), (47, .invokevirtual 54, 3), (50, .ifCond .ne 8, 3), (53, .aload_n 0, 1), (54, .getfield 15, 3), (57, .ireturn, 1), (58, .aload_n 0, 1), (59, .invokevirtual 58, 3), (62, .bipush (-6), 2), (64, .ireturn, 1)]
theorem D_X1_findFault : ∀ q ∈ T_X1_findFault, decode cX1_findFault q.1 = .ok q.2 := by decide +kernel
theorem V_X1_findFault : Vy yX1_findFault cX1_findFault 2 (some .int) 0 := ⟨k92, k56, by decide +kernel⟩
theorem i_X1_findFault : Cond.instanceMethod yX1_findFault ∈ TB := k289
theorem s_X1_findFault : Cond.selects yX1_findFault.cls yX1_findFault yX1_findFault ∈ TB := k290
noncomputable def f_X1_findFault_K46  (vP_46 : JV) : Option (Int32 × JV) :=
  (f_X1_mayEnd vP_46).bind (fun q3 => (if q3 = 0 then some ((vP_46 1 0), vP_46) else (f_X1_endPupil vP_46).bind (fun q5 => some ((-6 : Int32), q5))))
noncomputable def f_X1_findFault_b11  (r11 : JV → Int32 → Option (Int32 × JV)) (vP_11 : JV) (x1_11 : Int32) : Option (Int32 × JV) :=
  (if (vP_11 1 0) ≤ x1_11 then f_X1_findFault_K46  vP_11 else (if (60 : Int32) ≤ x1_11 then f_X1_findFault_K46  vP_11 else gd (inb x1_11 60) ((f_X1_takes vP_11 ((vP_11 0) (Int32.toNatClampNeg x1_11))).bind (fun q8 => (if (q8.1) = 0 then some (x1_11, (q8.2)) else r11 (q8.2) (x1_11 + (1 : Int32)))))))
noncomputable def f_X1_findFault_L11  (n : Nat) (vP_11 : JV) (x1_11 : Int32) : Option (Int32 × JV) :=
  lp (fun (rec : JV × Int32 → Option (Int32 × JV)) a => f_X1_findFault_b11  (fun vP_11 x1_11 => rec (vP_11, x1_11)) a.1 a.2) n (vP_11, x1_11)
noncomputable def f_X1_findFault (vP : JV)  : Option (Int32 × JV) :=
  (f_X1_beginPupil (up2 vP 5 0 (0 : Int32))).bind (fun q1 => f_X1_findFault_L11   FU q1 (0 : Int32))
set_option maxRecDepth 100000 in
set_option maxHeartbeats 4000000 in
theorem c_X1_findFault {l : Launch} {G : JG} (aP : Nat → Nat) (vP : JV)  {Rz : Int32 × JV} (h : f_X1_findFault vP = some Rz) : JM l G yX1_findFault cX1_findFault 2 (some .int) 4 84 [.ref (aP 0)] (wPad G aP (vP 0) (vP 1 0) (vP 2) (vP 3) (vP 4) (vP 5 0) (vP 6 0) (vP 7 0) (vP 8 0) (vP 9 0)) (wPad G aP ((Rz.2) 0) ((Rz.2) 1 0) ((Rz.2) 2) ((Rz.2) 3) ((Rz.2) 4) ((Rz.2) 5 0) ((Rz.2) 6 0) ((Rz.2) 7 0) ((Rz.2) 8 0) ((Rz.2) 9 0)) (some (.int (Rz.1))) := by
  refine JM.of (own := RX1) (tb := T_X1_findFault) (by decide) (Nat.le_of_ble_eq_true rfl) D_X1_findFault rfl (fun X C => ?_)
  refine J_sub (lv' := [(0, .ref (aP 0))]) [0] rfl ?_
  have B46 : ∀ (vP_46 : JV), f_X1_findFault_K46  vP_46 = some Rz → J l { frames := 4, cells := 0, slots := 0, locals := 84 } G 2 X (QM X G 0 0 (some (.int (Rz.1))) (wPad G aP ((Rz.2) 0) ((Rz.2) 1 0) ((Rz.2) 2) ((Rz.2) 3) ((Rz.2) 4) ((Rz.2) 5 0) ((Rz.2) 6 0) ((Rz.2) 7 0) ((Rz.2) 8 0) ((Rz.2) 9 0))) 0 0 46 [(0, .ref (aP 0))] [] (wPad G aP (vP_46 0) (vP_46 1 0) (vP_46 2) (vP_46 3) (vP_46 4) (vP_46 5 0) (vP_46 6 0) (vP_46 7 0) (vP_46 8 0) (vP_46 9 0)) := by
    intro vP_46 h
    unfold f_X1_findFault_K46 at h
    refine J_aload_n (pc := 46) C 25 rfl 0 rfl rfl ?_
    obtain ⟨q3, hq3, h⟩ := bnd h
    refine J_callV (pc := 47) (st2 := []) (st3 := [.int q3]) (ws2 := (wPad G aP (vP_46 0) (vP_46 1 0) (vP_46 2) (vP_46 3) (vP_46 4) (vP_46 5 0) (vP_46 6 0) (vP_46 7 0) (vP_46 8 0) (vP_46 9 0))) C 26 rfl (c_X1_mayEnd aP vP_46 hq3) V_X1_mayEnd k53 i_X1_mayEnd s_X1_mayEnd rfl rfl ⟨Nat.le_of_ble_eq_true rfl, Nat.le_of_ble_eq_true rfl⟩ (Nat.le_of_ble_eq_true rfl) ⟨Nat.le_refl _, Nat.le_refl _⟩ 0 1 rfl rfl rfl (isC := [0, 1, 2, 3, 4]) (isR := []) (N := 5) ⟨rfl, by decide +kernel, rfl, by decide +kernel, rfl, trivial⟩ rfl ?_
    refine J_if_ne (pc := 50) (tgt := 58) C 27 rfl rfl (fun c4 => ?_) (fun c4 => ?_)
    · rw [if_neg c4] at h
      refine J_aload_n (pc := 58) C 31 rfl 0 rfl rfl ?_
      obtain ⟨q5, hq5, h⟩ := bnd h
      refine J_callV (pc := 59) (st2 := []) (st3 := []) (ws2 := (wPad G aP (q5 0) (q5 1 0) (q5 2) (q5 3) (q5 4) (q5 5 0) (q5 6 0) (q5 7 0) (q5 8 0) (q5 9 0))) C 32 rfl (c_X1_endPupil aP vP_46 hq5) V_X1_endPupil k57 i_X1_endPupil s_X1_endPupil rfl rfl ⟨Nat.le_of_ble_eq_true rfl, Nat.le_of_ble_eq_true rfl⟩ (Nat.le_of_ble_eq_true rfl) ⟨Nat.le_refl _, Nat.le_refl _⟩ 0 1 rfl rfl rfl (isC := [0, 1, 2, 3, 4]) (isR := []) (N := 5) ⟨rfl, by decide +kernel, rfl, by decide +kernel, rfl, trivial⟩ rfl ?_
      refine J_bipush (pc := 62) (v := (-6 : Int32)) C 33 rfl rfl ?_
      cases h
      exact J_iret (pc := 64) C 34 rfl
    · rw [if_pos c4] at h
      refine J_aload_n (pc := 53) C 28 rfl 0 rfl rfl ?_
      refine J_get (pc := 54) (v := .int (vP_46 1 0)) C 29 rfl TB_l1 rfl 0 1 rfl (by decide) k38 rfl rfl ?_
      cases h
      exact J_iret (pc := 57) C 30 rfl
  have B11 : ∀ (n11 : Nat) (vP_11 : JV) (x1_11 : Int32), f_X1_findFault_L11  n11 vP_11 x1_11 = some Rz → J l { frames := 4, cells := 0, slots := 0, locals := 84 } G 2 X (QM X G 0 0 (some (.int (Rz.1))) (wPad G aP ((Rz.2) 0) ((Rz.2) 1 0) ((Rz.2) 2) ((Rz.2) 3) ((Rz.2) 4) ((Rz.2) 5 0) ((Rz.2) 6 0) ((Rz.2) 7 0) ((Rz.2) 8 0) ((Rz.2) 9 0))) 0 0 11 [(0, .ref (aP 0)), (1, .int x1_11)] [] (wPad G aP (vP_11 0) (vP_11 1 0) (vP_11 2) (vP_11 3) (vP_11 4) (vP_11 5 0) (vP_11 6 0) (vP_11 7 0) (vP_11 8 0) (vP_11 9 0)) := by
    intro  n11
    induction n11 with
    | zero =>
      intro vP_11 x1_11 h
      exact (no_none rfl h).elim
    | succ n11 ih11 =>
      intro vP_11 x1_11 h
      replace h : f_X1_findFault_b11  (fun vP_11 x1_11 => f_X1_findFault_L11  n11 vP_11 x1_11) vP_11 x1_11 = some Rz := h
      unfold f_X1_findFault_b11 at h
      refine J_iload_n (pc := 11) C 7 rfl 1 rfl rfl ?_
      refine J_aload_n (pc := 12) C 8 rfl 0 rfl rfl ?_
      refine J_get (pc := 13) (v := .int (vP_11 1 0)) C 9 rfl TB_l1 rfl 0 1 rfl (by decide) k38 rfl rfl ?_
      refine J_icmp_ge (pc := 16) (tgt := 46) C 10 rfl rfl (fun c2 => ?_) (fun c2 => ?_)
      · rw [if_pos c2] at h
        exact J_sub [0] rfl (B46 vP_11 h)
      · rw [if_neg c2] at h
        refine J_iload_n (pc := 19) C 11 rfl 1 rfl rfl ?_
        refine J_bipush (pc := 20) (v := (60 : Int32)) C 12 rfl rfl ?_
        refine J_icmp_ge (pc := 22) (tgt := 46) C 13 rfl rfl (fun c6 => ?_) (fun c6 => ?_)
        · rw [if_pos c6] at h
          exact J_sub [0] rfl (B46 vP_11 h)
        · rw [if_neg c6] at h
          refine J_aload_n (pc := 25) C 14 rfl 0 rfl rfl ?_
          refine J_aload_n (pc := 26) C 15 rfl 0 rfl rfl ?_
          refine J_get (pc := 27) (v := .ref (aP 1)) C 16 rfl TB_l1 rfl 0 0 rfl (by decide) k37 rfl rfl ?_
          refine J_iload_n (pc := 30) C 17 rfl 1 rfl rfl ?_
          obtain ⟨g7, h⟩ := gd_some h
          refine J_iald (pc := 31) (f := (vP_11 0)) (v := ((vP_11 0) (Int32.toNatClampNeg x1_11))) C 18 rfl 1 rfl g7 rfl ?_
          obtain ⟨q8, hq8, h⟩ := bnd h
          refine J_callV (pc := 32) (st2 := []) (st3 := [.int (q8.1)]) (ws2 := (wPad G aP ((q8.2) 0) ((q8.2) 1 0) ((q8.2) 2) ((q8.2) 3) ((q8.2) 4) ((q8.2) 5 0) ((q8.2) 6 0) ((q8.2) 7 0) ((q8.2) 8 0) ((q8.2) 9 0))) C 19 rfl (c_X1_takes aP vP_11 ((vP_11 0) (Int32.toNatClampNeg x1_11)) hq8) V_X1_takes k89 i_X1_takes s_X1_takes rfl rfl ⟨Nat.le_of_ble_eq_true rfl, Nat.le_of_ble_eq_true rfl⟩ (Nat.le_of_ble_eq_true rfl) ⟨Nat.le_refl _, Nat.le_refl _⟩ 0 1 rfl rfl rfl (isC := [0, 1, 2, 3, 4]) (isR := []) (N := 5) ⟨rfl, by decide +kernel, rfl, by decide +kernel, rfl, trivial⟩ rfl ?_
          refine J_if_ne (pc := 35) (tgt := 40) C 20 rfl rfl (fun c9 => ?_) (fun c9 => ?_)
          · rw [if_neg c9] at h
            refine J_iinc (pc := 40) (v := (x1_11 + (1 : Int32))) (lv' := [(1, .int (x1_11 + (1 : Int32))), (0, .ref (aP 0))]) C 23 rfl 1 rfl rfl (by decide) rfl ?_
            refine J_goto (pc := 43) (tgt := 11) C 24 rfl rfl ?_
            exact J_sub [1, 0] rfl (ih11 (q8.2) (x1_11 + (1 : Int32)) h)
          · rw [if_pos c9] at h
            refine J_iload_n (pc := 38) C 21 rfl 1 rfl rfl ?_
            cases h
            exact J_iret (pc := 39) C 22 rfl
  unfold f_X1_findFault at h
  refine J_aload_n (pc := 0) C 0 rfl 0 rfl rfl ?_
  refine J_iconst (pc := 1) (v := (0 : Int32)) C 1 rfl rfl ?_
  refine J_puti (pc := 2) C 2 (fun vv => (wPad G aP (vP 0) (vP 1 0) (vP 2) (vP 3) (vP 4) vv (vP 6 0) (vP 7 0) (vP 8 0) (vP 9 0))) rfl TB_l1 tyX1 tyX1_ok nmX1 rfl 0 5 rfl (by decide) k42 rfl rfl rfl (Nat.le_of_ble_eq_true rfl) (fun _ => rfl) ?_
  refine J_aload_n (pc := 5) C 3 rfl 0 rfl rfl ?_
  obtain ⟨q1, hq1, h⟩ := bnd h
  refine J_callV (pc := 6) (st2 := []) (st3 := []) (ws2 := (wPad G aP (q1 0) (q1 1 0) (q1 2) (q1 3) (q1 4) (q1 5 0) (q1 6 0) (q1 7 0) (q1 8 0) (q1 9 0))) C 4 rfl (c_X1_beginPupil aP (up2 vP 5 0 (0 : Int32)) hq1) V_X1_beginPupil k60 i_X1_beginPupil s_X1_beginPupil rfl rfl ⟨Nat.le_of_ble_eq_true rfl, Nat.le_of_ble_eq_true rfl⟩ (Nat.le_of_ble_eq_true rfl) ⟨Nat.le_refl _, Nat.le_refl _⟩ 0 1 rfl rfl rfl (isC := [0, 1, 2, 3, 4]) (isR := []) (N := 5) ⟨rfl, by decide +kernel, rfl, by decide +kernel, rfl, trivial⟩ rfl ?_
  refine J_iconst (pc := 9) (v := (0 : Int32)) C 5 rfl rfl ?_
  refine J_istore_n (pc := 10) (lv' := [(1, .int (0 : Int32)), (0, .ref (aP 0))]) C 6 rfl rfl (by decide) rfl ?_
  exact J_sub [1, 0] rfl (B11  FU q1 (0 : Int32) h)
