/-! ===== what the tables say at the start ===== -/
theorem SZ_start {s : State} {b : Nat} (hts : ∀ w ∈ lw_tbl, w.before #[Value.ref b] s = true) (hgv : (Jvm.Cond.and given_1 narrow_1).before #[Value.ref b] s = true) : ∃ t : Nat, SZ t (fun q => s.heap.size ≤ q) s s.heap := by
  have hs := flat_of_before _ hgv
  have hA : ∀ a : Nat, a < s.heap.size → ¬ (fun q => s.heap.size ≤ q) a := fun a h => Nat.not_le.mpr h
  obtain ⟨t, ht, hT⟩ := va_Tof (tm := .static "ExamHalls" "HIGHEST_SETTINGS" "[I") (ty := .int) (N := 3) (f := fun j => .int (hsv j)) (A := fun q => s.heap.size ≤ q) (args := #[Value.ref b]) (by decide) (hs _ (by decide +kernel))
    (va_eqv (hs (Cond.eq (Term.length (.static "ExamHalls" "HIGHEST_SETTINGS" "[I")) (.int 3)) (by decide +kernel)) rfl) (fun j hj => by
      match j, hj with
      | 0, _ => exact va_eqv (hs (Cond.eq (Term.elem (.static "ExamHalls" "HIGHEST_SETTINGS" "[I") (.int 0)) (.int 1)) (by decide +kernel)) rfl
      | 1, _ => exact va_eqv (hs (Cond.eq (Term.elem (.static "ExamHalls" "HIGHEST_SETTINGS" "[I") (.int 1)) (.int 6)) (by decide +kernel)) rfl
      | 2, _ => exact va_eqv (hs (Cond.eq (Term.elem (.static "ExamHalls" "HIGHEST_SETTINGS" "[I") (.int 2)) (.int 60)) (by decide +kernel)) rfl) hA
  exact ⟨t, va_Zref (hts (.laysStatic "ExamHalls" "HIGHEST_SETTINGS" "[I") (tb_in3 _ (List.mem_of_getElem? (i := 43) rfl))) (hts (.initialized "ExamHalls") (tb_in1 _ (List.mem_of_getElem? (i := 1) rfl))) ht hA, hT⟩
theorem arr_start {s : State} {b : Nat} {ty : FieldType} (h : (Cond.arrayClass ty).before #[Value.ref b] s = true) : ∃ cA : ClassId, ArrOfT s cA ty ∧ s.vm.findClass ("[" ++ ty.toString) = some cA := by
  obtain ⟨c, k, comp, h1, h2, h3⟩ := Cond.arrayClass_spec h
  exact ⟨c, fun N z => ⟨(fun k h => by cases h), k, h2, comp, h3⟩, h1⟩
theorem KK_start {s : State} {b : Nat} (hts : ∀ w ∈ lw_tbl, w.before #[Value.ref b] s = true) : ∃ G : JG, KK G s := by
  obtain ⟨c0, iS0, hKn0⟩ := u_known (C := RX0) (T := TX0) (N := 2) (n := 2) hts tbx0 (hts (.instantiable RX0 2) (by decide +kernel))
  obtain ⟨c1, iS1, hKn1⟩ := u_known (C := RX1) (T := TX1) (N := 10) (n := 10) hts tbx1 (hts (.instantiable RX1 10) (by decide +kernel))
  obtain ⟨c2, iS2, hKn2⟩ := u_known (C := RX2) (T := TX2) (N := 10) (n := 10) hts tbx2 (hts (.instantiable RX2 10) (by decide +kernel))
  obtain ⟨c3, iS3, hKn3⟩ := u_known (C := RX3) (T := TX3) (N := 9) (n := 9) hts tbx3 (hts (.instantiable RX3 9) (by decide +kernel))
  obtain ⟨c4, iS4, hKn4⟩ := u_known (C := RX4) (T := TX4) (N := 8) (n := 8) hts tbx4 (hts (.instantiable RX4 8) (by decide +kernel))
  obtain ⟨a0, hA0, hF0⟩ := arr_start (hts (.arrayClass .int) (tb_in1 _ (List.mem_of_getElem? (i := 75) rfl)))
  obtain ⟨a1, hA1, hF1⟩ := arr_start (hts (.arrayClass .boolean) (tb_in1 _ (List.mem_of_getElem? (i := 76) rfl)))
  have hao := hts (.arrayOver (.object "ExamHalls$School")) (tb_in1 _ (List.mem_of_getElem? (i := 156) rfl))
  obtain ⟨comp, a3, kA, o1, o2, o3, o4, o5⟩ := Cond.arrayOver_spec hao
  refine ⟨((fun k => if k = 0 then c0 else if k = 1 then c1 else if k = 2 then c2 else if k = 3 then c3 else c4, fun k => if k = 0 then iS0 else if k = 1 then iS1 else if k = 2 then iS2 else if k = 3 then iS3 else iS4), fun k => if k = 0 then a0 else if k = 1 then a1 else if k = 2 then a0 else a3), ⟨fun k q hq => ?_, fun k q hq => ?_⟩, ?_, va_AO.of hao⟩
  · match k, hq with
    | 0, hq => cases hq; exact hKn0
    | 1, hq => cases hq; exact hKn1
    | 2, hq => cases hq; exact hKn2
    | 3, hq => cases hq; exact hKn3
    | 4, hq => cases hq; exact hKn4
    | k + 5, hq => simp [vwCl] at hq
  · match k, hq with
    | 0, hq => cases hq; exact ⟨hA0, hF0⟩
    | 1, hq => cases hq; exact ⟨hA1, hF1⟩
    | 2, hq => cases hq; exact ⟨hA0, hF0⟩
    | 3, hq => cases hq; exact ⟨fun N z => ⟨(fun k h => by cases h), kA, o3, comp, o4⟩, kA, comp, o3, o4, o1, o5⟩
    | k + 4, hq => simp [tysG] at hq
  · intro w hw
    have hin : w ∈ lw_tbl := by
      revert w
      decide +kernel
    refine va_Nw.of ?_ (hts w hin)
    revert w
    decide +kernel
