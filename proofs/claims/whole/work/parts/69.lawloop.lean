/-! ===== the first state: class and reference agree ===== -/
def g00 : Nat → Int := fun k => if k = 0 then 1 else if k = 1 then 1 else if k = 2 then 10 else if k < 4 then 0 else if k < 16 then (if k % 2 = 0 then 0 else 60) else if k < 64 then 0 else if k = 66 then 1 else if (k - 64) % 3 = 2 then 0 else 2
theorem RM_00 : RM (vi_X5 0) g00 := by
  unfold RM
  decide +kernel
theorem RS_00 : RS vi_X2 g00 := by
  refine ⟨?_, ?_, ?_, ?_, ?_, ?_⟩
  · decide +kernel
  · decide +kernel
  · decide +kernel
  · decide +kernel
  · decide +kernel
  · decide +kernel
theorem Bd_00 : Bd g00 := by
  refine Bd_of ?_
  decide +kernel
theorem RI_start : ∃ vT0 : JV, f_X3_seatAll vi_X3 vi_X2 = some vT0 ∧ RI vT0 vi_X2 vi_X1 (fun _ => vi_X2) (fun _ _ => 0) (fun _ => vi_X2) (fun _ _ => 0) vi_X5 := by
  obtain ⟨vT0, t1, t2⟩ := p_seatAll (v := vi_X3) RS_00 Bd_00
  refine ⟨vT0, t1, ⟨g00, Bd_00, RS_00, t2, RM_00, Or.inl rfl⟩, ⟨fun _ => g00, 0, ⟨rfl, by omega, fun j hj => absurd hj (by omega)⟩, ⟨rfl, fun j hj => absurd hj (by omega)⟩, fun j hj => absurd hj (by omega)⟩, fun j hj => Or.inl ⟨rfl, rfl⟩, ⟨0, fun _ => 0, by omega, rfl, rfl, fun i hi => absurd hi (by omega)⟩⟩
set_option maxRecDepth 100000 in
set_option maxHeartbeats 4000000 in
/-- the law, its loop -/
theorem law_loop {l : Launch} {G : JG} {X : JX} {Q : State → Prop} {b L : Nat} {xs : Nat → Int32} (C : Cx G 4 X code RL ret T_law) {tz : Nat} (hSZ : SZ tz X.2.2.2.2.2.2.2.2 X.2.2.1 X.2.2.1.heap) (hX : Scr X b L xs) (hL : L ≤ 2560) {aX : Nat} {aT aS aT2 aS2 aP aH : Nat → Nat} {aB aU : Nat} {sA : Nat → Nat → Nat} {aM : Nat → Nat} (hE : ∀ (lv : List (Nat × Value)) (ws : va_W), J l room_1 G 4 X Q 600000 7302250 930 lv [] ws) : ∀ (n i : Nat), i ≤ L → L + 1 ≤ i + n → ∀ (vT vS vT2 vS2 vP : JV) (hA : Nat → Nat → Nat) (hV : Nat → JV) (hZ : JV) (sV : Nat → JV) (vU vM : JV), RI vT vS vP hV hZ sV vU vM → J l room_1 G 4 X Q 600000 7302250 18 [(0, .ref b), (1, .ref aX), (2, .ref (aM 0)), (3, .int (I (i : Int)))] [] ((wEx aX (aT 0) (aT2 0) (aS 0) (aS2 0) (aP 0) (aH 0) aB aU ++ (wSeat G aT (aS 0) (vT 1) (vT 2) (vT 3) (vT 4 0) (vT 5 0) (vT 6) (vT 7) (vT 8) ++ (wSch G aS (vS 0) (vS 1) (vS 2) (vS 3) (vS 4) (vS 5) (vS 6) (vS 7) (vS 8 0) (vS 9 0) ++ (wSeat G aT2 (aS2 0) (vT2 1) (vT2 2) (vT2 3) (vT2 4 0) (vT2 5 0) (vT2 6) (vT2 7) (vT2 8) ++ (wSch G aS2 (vS2 0) (vS2 1) (vS2 2) (vS2 3) (vS2 4) (vS2 5) (vS2 6) (vS2 7) (vS2 8 0) (vS2 9 0) ++ (wPad G aP (vP 0) (vP 1 0) (vP 2) (vP 3) (vP 4) (vP 5 0) (vP 6 0) (vP 7 0) (vP 8 0) (vP 9 0) ++ (wHis G aH hA hV (hZ 1 0) ++ (wSlots G aB sA sV ++ (wUsed G aU (vU 0)))))))))) ++ wMod G aM (vM 0) (vM 1) (vM 2) (vM 3) (vM 4) (vM 5) (vM 6) (vM 7) (vM 8) (vM 9 0) (vM 10 0) (vM 11 0) (vM 12 0) (vM 13 0)) := by
  intro n
  induction n with
  | zero => intro i h1 h2; exact absurd h2 (by omega)
  | succ n ih =>
    intro i hiL hn vT vS vT2 vS2 vP hA hV hZ sV vU vM h
    refine J_iload_n (pc := 18) C 10 rfl 3 rfl rfl ?_
    refine J_aload_n (pc := 19) C 11 rfl 0 rfl rfl ?_
    refine J_slen (pc := 20) C 12 rfl hX ?_
    refine J_iconst (pc := 21) (v := I 5) C 13 rfl rfl ?_
    refine J_isub (pc := 22) C 14 rfl ?_
    refine J_top (I_sub (L : Int) 5) ?_
    refine J_icmp_gt (pc := 23) (tgt := 930) C 15 rfl rfl (fun _ => hE _ _) (fun c => ?_)
    have hi : i + 4 < L := by
      have e : ¬ ((L : Int) - 5 < (i : Int)) := fun z => c ((I_lt (r0 _) (r0 _)).mpr z)
      omega
    refine J_aload_n (pc := 26) C 16 rfl 0 rfl rfl ?_
    refine J_iload_n (pc := 27) C 17 rfl 3 rfl rfl ?_
    refine J_sld (pc := 28) C 18 rfl hX (show i < L by omega) hL ?_
    refine J_bipush (pc := 29) (v := (31 : Int32)) C 19 rfl rfl ?_
    refine J_iand (pc := 31) C 20 rfl ?_
    generalize xs i &&& (31 : Int32) = op
    have K : ∀ (vT vS vT2 vS2 vP : JV) (hA : Nat → Nat → Nat) (hV : Nat → JV) (hZ : JV) (sV : Nat → JV) (vU vM : JV), RI vT vS vP hV hZ sV vU vM → J l room_1 G 4 X Q 600000 7302250 924 [(0, .ref b), (1, .ref aX), (2, .ref (aM 0)), (3, .int (I (i : Int)))] [] ((wEx aX (aT 0) (aT2 0) (aS 0) (aS2 0) (aP 0) (aH 0) aB aU ++ (wSeat G aT (aS 0) (vT 1) (vT 2) (vT 3) (vT 4 0) (vT 5 0) (vT 6) (vT 7) (vT 8) ++ (wSch G aS (vS 0) (vS 1) (vS 2) (vS 3) (vS 4) (vS 5) (vS 6) (vS 7) (vS 8 0) (vS 9 0) ++ (wSeat G aT2 (aS2 0) (vT2 1) (vT2 2) (vT2 3) (vT2 4 0) (vT2 5 0) (vT2 6) (vT2 7) (vT2 8) ++ (wSch G aS2 (vS2 0) (vS2 1) (vS2 2) (vS2 3) (vS2 4) (vS2 5) (vS2 6) (vS2 7) (vS2 8 0) (vS2 9 0) ++ (wPad G aP (vP 0) (vP 1 0) (vP 2) (vP 3) (vP 4) (vP 5 0) (vP 6 0) (vP 7 0) (vP 8 0) (vP 9 0) ++ (wHis G aH hA hV (hZ 1 0) ++ (wSlots G aB sA sV ++ (wUsed G aU (vU 0)))))))))) ++ wMod G aM (vM 0) (vM 1) (vM 2) (vM 3) (vM 4) (vM 5) (vM 6) (vM 7) (vM 8) (vM 9 0) (vM 10 0) (vM 11 0) (vM 12 0) (vM 13 0)) := by
      intro vT vS vT2 vS2 vP hA hV hZ sV vU vM h
      refine J_iinc (pc := 924) (v := I ((i + 5 : Nat) : Int)) (lv' := [(3, .int (I ((i + 5 : Nat) : Int))), (0, .ref b), (1, .ref aX), (2, .ref (aM 0))]) C 628 rfl 3 rfl (nat_add i 5) (by decide) rfl ?_
      refine J_goto (pc := 927) (tgt := 18) C 629 rfl rfl ?_
      refine J_sub [1, 2, 3, 0] (lv' := [(0, .ref b), (1, .ref aX), (2, .ref (aM 0)), (3, .int (I ((i + 5 : Nat) : Int)))]) rfl ?_
      exact ih (i + 5) (by omega) (by omega) vT vS vT2 vS2 vP hA hV hZ sV vU vM h
    by_cases e0 : op = I 0
    · subst e0
      exact J_tabIn (pc := 32) (off := 112) (tgt := 144) C 21 rfl (by decide +kernel) (by decide +kernel) (by decide +kernel) rfl (lk_set C hSZ hX hL hi h K)
    by_cases e1 : op = I 1
    · subst e1
      exact J_tabIn (pc := 32) (off := 145) (tgt := 177) C 21 rfl (by decide +kernel) (by decide +kernel) (by decide +kernel) rfl (lk_paper C hSZ hX hL hi h K)
    by_cases e2 : op = I 2
    · subst e2
      exact J_tabIn (pc := 32) (off := 188) (tgt := 220) C 21 rfl (by decide +kernel) (by decide +kernel) (by decide +kernel) rfl (lk_pupil C hSZ hX hL hi h K)
    by_cases e3 : op = I 3
    · subst e3
      exact J_tabIn (pc := 32) (off := 247) (tgt := 279) C 21 rfl (by decide +kernel) (by decide +kernel) (by decide +kernel) rfl (lk_read C hSZ hX hL hi h K)
    by_cases e4 : op = I 4
    · subst e4
      exact J_tabIn (pc := 32) (off := 260) (tgt := 292) C 21 rfl (by decide +kernel) (by decide +kernel) (by decide +kernel) rfl (lk_change C hSZ hX hL hi h K)
    by_cases e5 : op = I 5
    · subst e5
      exact J_tabIn (pc := 32) (off := 329) (tgt := 361) C 21 rfl (by decide +kernel) (by decide +kernel) (by decide +kernel) rfl (lk_leave C hSZ hX hL hi h K)
    by_cases e6 : op = I 6
    · subst e6
      exact J_tabIn (pc := 32) (off := 352) (tgt := 384) C 21 rfl (by decide +kernel) (by decide +kernel) (by decide +kernel) rfl (lk_hall C hSZ hX hL hi h K)
    by_cases e7 : op = I 7
    · subst e7
      exact J_tabIn (pc := 32) (off := 395) (tgt := 427) C 21 rfl (by decide +kernel) (by decide +kernel) (by decide +kernel) rfl (lk_open C hSZ hX hL hi h K)
    by_cases e8 : op = I 8
    · subst e8
      exact J_tabIn (pc := 32) (off := 444) (tgt := 476) C 21 rfl (by decide +kernel) (by decide +kernel) (by decide +kernel) rfl (lk_pupilOf C hSZ hX hL hi h K)
    by_cases e9 : op = I 9
    · subst e9
      exact J_tabIn (pc := 32) (off := 477) (tgt := 509) C 21 rfl (by decide +kernel) (by decide +kernel) (by decide +kernel) rfl (lk_paperOf C hSZ hX hL hi h K)
    by_cases e10 : op = I 10
    · subst e10
      exact J_tabIn (pc := 32) (off := 510) (tgt := 542) C 21 rfl (by decide +kernel) (by decide +kernel) (by decide +kernel) rfl (lk_sitting C hSZ hX hL hi h K)
    by_cases e11 : op = I 11
    · subst e11
      exact J_tabIn (pc := 32) (off := 553) (tgt := 585) C 21 rfl (by decide +kernel) (by decide +kernel) (by decide +kernel) rfl (lk_hallOf C hSZ hX hL hi h K)
    by_cases e12 : op = I 12
    · subst e12
      exact J_tabIn (pc := 32) (off := 586) (tgt := 618) C 21 rfl (by decide +kernel) (by decide +kernel) (by decide +kernel) rfl (lk_count C hSZ hX hL hi h K)
    by_cases e13 : op = I 13
    · subst e13
      exact J_tabIn (pc := 32) (off := 609) (tgt := 641) C 21 rfl (by decide +kernel) (by decide +kernel) (by decide +kernel) rfl (lk_at C hSZ hX hL hi h K)
    by_cases e14 : op = I 14
    · subst e14
      exact J_tabIn (pc := 32) (off := 652) (tgt := 684) C 21 rfl (by decide +kernel) (by decide +kernel) (by decide +kernel) rfl (lk_ifStart C hSZ hX hL hi h K)
    by_cases e15 : op = I 15
    · subst e15
      exact J_tabIn (pc := 32) (off := 695) (tgt := 727) C 21 rfl (by decide +kernel) (by decide +kernel) (by decide +kernel) rfl (lk_bestStart C hSZ hX hL hi h K)
    by_cases e16 : op = I 16
    · subst e16
      exact J_tabIn (pc := 32) (off := 718) (tgt := 750) C 21 rfl (by decide +kernel) (by decide +kernel) (by decide +kernel) rfl (lk_bestHalls C hSZ hX hL hi h K)
    by_cases e17 : op = I 17
    · subst e17
      exact J_tabIn (pc := 32) (off := 741) (tgt := 773) C 21 rfl (by decide +kernel) (by decide +kernel) (by decide +kernel) rfl (lk_leastRooms C hSZ hX hL hi h K)
    by_cases e18 : op = I 18
    · subst e18
      exact J_tabIn (pc := 32) (off := 754) (tgt := 786) C 21 rfl (by decide +kernel) (by decide +kernel) (by decide +kernel) rfl (lk_put C hSZ hX hL hi h K)
    by_cases e19 : op = I 19
    · subst e19
      exact J_tabIn (pc := 32) (off := 807) (tgt := 839) C 21 rfl (by decide +kernel) (by decide +kernel) (by decide +kernel) rfl (lk_wipe C hSZ hX hL hi h K)
    by_cases e20 : op = I 20
    · subst e20
      exact J_tabIn (pc := 32) (off := 820) (tgt := 852) C 21 rfl (by decide +kernel) (by decide +kernel) (by decide +kernel) rfl (lk_fault C hSZ hX hL hi h K)
    by_cases e21 : op = I 21
    · subst e21
      exact J_tabIn (pc := 32) (off := 833) (tgt := 865) C 21 rfl (by decide +kernel) (by decide +kernel) (by decide +kernel) rfl (lk_undo C hSZ hX hL hi h K)
    by_cases e22 : op = I 22
    · subst e22
      exact J_tabIn (pc := 32) (off := 846) (tgt := 878) C 21 rfl (by decide +kernel) (by decide +kernel) (by decide +kernel) rfl (lk_save C hSZ hX hL hi h K)
    by_cases e23 : op = I 23
    · subst e23
      exact J_tabIn (pc := 32) (off := 869) (tgt := 901) C 21 rfl (by decide +kernel) (by decide +kernel) (by decide +kernel) rfl (lk_restore C hSZ hX hL hi h K)
    have hout : op.toInt < 0 ∨ 23 < op.toInt := by
      by_cases z : op.toInt < 0 ∨ 23 < op.toInt
      · exact z
      · exfalso
        have hs := I_self op
        rcases (show op.toInt = 0 ∨ op.toInt = 1 ∨ op.toInt = 2 ∨ op.toInt = 3 ∨ op.toInt = 4 ∨ op.toInt = 5 ∨ op.toInt = 6 ∨ op.toInt = 7 ∨ op.toInt = 8 ∨ op.toInt = 9 ∨ op.toInt = 10 ∨ op.toInt = 11 ∨ op.toInt = 12 ∨ op.toInt = 13 ∨ op.toInt = 14 ∨ op.toInt = 15 ∨ op.toInt = 16 ∨ op.toInt = 17 ∨ op.toInt = 18 ∨ op.toInt = 19 ∨ op.toInt = 20 ∨ op.toInt = 21 ∨ op.toInt = 22 ∨ op.toInt = 23 by omega) with q | q | q | q | q | q | q | q | q | q | q | q | q | q | q | q | q | q | q | q | q | q | q | q
        · rw [q] at hs; exact e0 hs.symm
        · rw [q] at hs; exact e1 hs.symm
        · rw [q] at hs; exact e2 hs.symm
        · rw [q] at hs; exact e3 hs.symm
        · rw [q] at hs; exact e4 hs.symm
        · rw [q] at hs; exact e5 hs.symm
        · rw [q] at hs; exact e6 hs.symm
        · rw [q] at hs; exact e7 hs.symm
        · rw [q] at hs; exact e8 hs.symm
        · rw [q] at hs; exact e9 hs.symm
        · rw [q] at hs; exact e10 hs.symm
        · rw [q] at hs; exact e11 hs.symm
        · rw [q] at hs; exact e12 hs.symm
        · rw [q] at hs; exact e13 hs.symm
        · rw [q] at hs; exact e14 hs.symm
        · rw [q] at hs; exact e15 hs.symm
        · rw [q] at hs; exact e16 hs.symm
        · rw [q] at hs; exact e17 hs.symm
        · rw [q] at hs; exact e18 hs.symm
        · rw [q] at hs; exact e19 hs.symm
        · rw [q] at hs; exact e20 hs.symm
        · rw [q] at hs; exact e21 hs.symm
        · rw [q] at hs; exact e22 hs.symm
        · rw [q] at hs; exact e23 hs.symm
    exact J_tabOut (pc := 32) (tgt := 924) C 21 rfl hout rfl (K _ _ _ _ _ _ _ _ _ _ _ h)
