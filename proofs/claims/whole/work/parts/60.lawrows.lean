/-! ===== rows for the law: the script, the switch, the first world ===== -/
section LAWROWS
variable {l : Launch} {R : Room} {G : JG} {nL : Nat} {X : JX} {Q : State → Prop} {k n pc : Nat} {lv : List (Nat × Value)} {st st2 : List Value} {ws : va_W} {cc : ByteArray} {own : String} {ret : Option FieldType} {tb : List (Nat × ClassFile.Instr × Nat)}
theorem J_widen {k' n' : Nat} (h1 : k ≤ k') (h2 : n ≤ n') (kk : J l R G nL X Q k' n' pc lv st ws) : J l R G nL X Q k n pc lv st ws :=
  fun H locs ls hP hD hS h => W.widen h1 h2 (kk H locs ls hP hD hS h)
/-- the script: L ints xs at the old cell b -/
def Scr (X : JX) (b L : Nat) (xs : Nat → Int32) : Prop := va_X b L xs X.2.2.1 X.2.2.1.heap ∧ b < X.2.2.1.heap.size ∧ ¬ X.2.2.2.2.2.2.2.2 b
theorem J_slen (C : Cx G nL X cc own ret tb) (j : Nat) {b L : Nat} {xs : Nat → Int32} (hd : tb[j]? = some (pc, .arraylength, 1)) (hX : Scr X b L xs) (kk : J l R G nL X Q k n (pc + 1) lv (.int (I (L : Int)) :: st) ws) : J l R G nL X Q k n pc lv (.ref b :: st) ws :=
  fun H locs ls hP hD hS h => va_slen C.1 C.2.1 hX.1 hX.2.1 hX.2.2 hS (C.d j hd) (by
    have e : Int32.ofNat L = I (L : Int) := Int32.ofInt_eq_ofNat.symm
    rw [e]
    exact kk H locs ls hP hD hS h)
theorem J_sld (C : Cx G nL X cc own ret tb) (j : Nat) {b L : Nat} {xs : Nat → Int32} (hd : tb[j]? = some (pc, .iaload, 1)) (hX : Scr X b L xs) {i : Nat} (hi : i < L) (hL : L ≤ 2560) (kk : J l R G nL X Q k n (pc + 1) lv (.int (xs i) :: st) ws) : J l R G nL X Q k n pc lv (.int (I (i : Int)) :: .ref b :: st) ws := by
  intro H locs ls hP hD hS h
  have e : (I (i : Int)).toNatClampNeg = i := I_k (by omega)
  have hv : vp_in (I (i : Int)) L := inb_in (inb_k hi (by omega))
  exact va_sld C.1 C.2.1 hX.1 hX.2.1 hX.2.2 hS hv (C.d j hd) (by
    rw [e]
    exact kk H locs ls hP hD hS h)
/-! a call of what reads the table of the highest settings -/
theorem SZ.calling {t : Nat} {A : Nat → Prop} {U : State} {g : JFrame} {mk : MethodId} {a : Array Value} (h : SZ t A U U.heap) : SZ t A (U.calling g mk a) (U.calling g mk a).heap :=
  ⟨va_Z.moved (u := U) (U := U.calling g mk a) (Vm.Alike.refl U.vm) h.1, va_T.moved (u := U) (U := U.calling g mk a) (Vm.Alike.refl U.vm) h.2⟩
theorem JPcZ_blind {t : Nat} {av : List Value} {sz : Nat} {wc : va_W} : FrameBlind (JPcZ t G av sz wc) := fun a U g mk q => by
  obtain ⟨q0, q1, qP, qK, qD, qZ⟩ := q
  exact ⟨q0, q1, qP, KK.calling qK, qD, SZ.calling qZ⟩
theorem J_coreZ (C : Cx G nL X cc own ret tb) {r : Option Value} {a : Array Value} {wc wc' ws2 : va_W} {isC isR : List Nat} {N : Nat} (hr0 : JRep ws ws2 wc wc' isC isR N) {st3 : List Value} (h3 : r.toList ++ st2 = st3)
    (hr : ∀ (H : Heap) (locs : List Loc) (ls : Array Slot), va_P G.1 vwCl ws H → va_P G.1 vwCl wc H → va_D (fun _ => True) wc → va_S X.2.2.2.2.2.2.2.2 X.2.2.1.heap H locs → (∀ q, va_A wc H.size q → X.2.2.2.2.2.2.2.2 q) → ls.size = nL → va_Run X.1 l X.2.1 R X.2.2.1 X.2.2.2.1 X.2.2.2.2.1 X.2.2.2.2.2.1 X.2.2.2.2.2.2.1 X.2.2.2.2.2.2.2.1 H locs k n 0 0 (F0 X.2.2.2.1 pc ls st) st2 (JQ G r wc' (va_A wc H.size) a) (va_A wc H.size))
    (kk : J l R G nL X Q k n (pc + 3) lv st3 ws2) : J l R G nL X Q k n pc lv st ws := by
  intro H locs ls hP hD hS h T hT XT
  have hPc : va_P G.1 vwCl wc H := by
    intro j q hq
    have hlt : j < isC.length := by rw [hr0.len]; exact (List.getElem?_eq_some_iff.mp hq).1
    exact hP _ q (j_place hr0.1 (List.getElem?_eq_getElem hlt) hq)
  have hDc : va_D X.2.2.2.2.2.2.2.2 wc := hD.sub isC hr0.2.1 hr0.1
  have hF := va_free hD hS C.2.2.2.2.2.2.1 isC hr0.1
  obtain ⟨v, st₀, t, T', L, h0, X', hL, e1, e2, ⟨⟨hv, hP1, hD1⟩, hz, hk⟩, stp⟩ := hr H locs ls hP hPc (hDc.weaken fun _ _ _ _ => trivial) hS hF h.1 T hT XT
  cases hv
  subst h3
  rw [h0] at hz hk
  have hPn : va_P G.1 vwCl ws2 T'.heap := by
    rw [e1]
    exact hr0.P hP hD hP1 hk
  have hDn : va_D X.2.2.2.2.2.2.2.2 ws2 := hr0.D hP hD hF hD1
  obtain ⟨t2, a1, b1⟩ := kk T'.heap (locs ++ L) ls hPn hDn
    ⟨Nat.le_trans hS.1 (by rw [e1]; exact hz), fun q h1 h2 => by rw [e1, hk q (Nat.lt_of_lt_of_le h1 hS.1) (fun z => h2 (hF q z))]; exact hS.2.1 q h1 h2, fun q hq => by
      rcases List.mem_append.mp hq with h | h
      · exact hS.2.2 q h
      · exact hF _ (hL q h)⟩ h T' rfl X'
  exact ⟨t2, stp t2 a1, b1⟩
theorem J_callVZ {t : Nat} {y : MethodName} {bb : ByteArray} {a nc np fr lo index : Nat} {rc : Option FieldType} {As : List Value} {wc wc' ws2 : va_W} {r : Option Value} (C : Cx G nL X cc own ret tb) (hSZ : SZ t X.2.2.2.2.2.2.2.2 X.2.2.1 X.2.2.1.heap) (j : Nat) (hd : tb[j]? = some (pc, .invokevirtual index, 3)) (hM : JMZ t l G y bb nc rc fr lo (.ref a :: As) wc wc' r) (V : Vy y bb nc rc np) (hl : Cond.methodLink own index y ∈ TB) (hi : Cond.instanceMethod y ∈ TB) (hs : Cond.selects y.cls y y ∈ TB)
    (hnp : As.length = np) (hst : st = As.reverse ++ .ref a :: st2) (hR : fr + 1 ≤ R.frames ∧ 8 + (nc + 11) + lo ≤ R.locals) (hcat : (st2.map fun v => v.category).sum ≤ 8) (hkn : k ≤ R.cells ∧ n ≤ R.slots) (q0 ci : Nat) {cq : vw_C} {fs : List Value} (hcl : vwCl[ci]? = some cq) (hcy : cq.1 = y.cls) (hrc : ws[q0]? = some (a, .inr (ci, fs)))
    {isC isR : List Nat} {N : Nat} (hr0 : JRep ws ws2 wc wc' isC isR N) {st3 : List Value} (h3 : r.toList ++ st2 = st3)
    (kk : J l R G nL X Q k n (pc + 3) lv st3 ws2) : J l R G nL X Q k n pc lv st ws := by
  refine J_coreZ C (a := (Value.ref a :: As).toArray) hr0 h3 (fun H locs ls hP hPc hDc hS hF hls => ?_) kk
  have hcell := va_recv C.2.2.2.2.2.1.1 hP hcl hrc
  rw [hcy] at hcell
  have hZ : SZ t (va_A wc H.size) X.2.2.1 H := SZ.kept hSZ (fun q _ h => hF q h) (fun q h1 h2 => hS.2.1 q h1 h2)
  exact va_runV (C := y.cls) (As := As) (rest := st2) ⟨C.1, C.2.1, C.2.2.1, C.2.2.2.1, C.2.2.2.2.1⟩ (hM H.size)
    ⟨callB_of np C.2.2.2.2.1 (TB_in _ _ _ _ V.1) rfl rfl rfl (C.2.2.2.2.1 _ V.2.1) (C.2.2.2.2.1 _ hl) V.2.2 hR, C.2.2.2.2.1 _ hi, C.2.2.2.2.1 _ hs⟩
    ⟨JPcZ_blind, hcell, fun U hU hW => ⟨rfl, by rw [hU], by rw [hU]; exact hPc, KK.warm hW C.2.2.2.2.2.1, hDc, by rw [hU]; exact SZ.warm hW hZ⟩⟩ rfl hnp hls hst (lv_room hcat) (C.d j hd) hkn
end LAWROWS
/-! ===== what the tables say at the start ===== -/
theorem SZ_start {s : State} {b : Nat} (hts : ∀ w ∈ lw_tbl, w.before #[Value.ref b] s = true) (hgv : (Jvm.Cond.and given_1 narrow_1).before #[Value.ref b] s = true) : ∃ t : Nat, SZ t (fun q => s.heap.size ≤ q) s s.heap := by
  have hs := flat_of_before _ hgv
  have hA : ∀ a : Nat, a < s.heap.size → ¬ (fun q => s.heap.size ≤ q) a := fun a h => Nat.not_le.mpr h
  obtain ⟨t, ht, hT⟩ := va_Tof (tm := .static "ExamHalls" "HIGHEST_SETTINGS" "[I") (ty := .int) (N := 3) (f := fun j => .int (hsv j)) (A := fun q => s.heap.size ≤ q) (args := #[Value.ref b]) (by decide) (hs _ (by decide +kernel))
    (va_eqv (hs (Cond.eq (Term.length (.static "ExamHalls" "HIGHEST_SETTINGS" "[I")) (.int 3)) (by decide +kernel)) rfl) (fun j hj => by
      match j, hj with
      | 0, _ => exact va_eqv (hs (Cond.eq (Term.elem (.static "ExamHalls" "HIGHEST_SETTINGS" "[I") (.int 0)) (.int 1)) (by decide +kernel)) rfl
      | 1, _ => exact va_eqv (hs (Cond.eq (Term.elem (.static "ExamHalls" "HIGHEST_SETTINGS" "[I") (.int 1)) (.int 6)) (by decide +kernel)) rfl
      | 2, _ => exact va_eqv (hs (Cond.eq (Term.elem (.static "ExamHalls" "HIGHEST_SETTINGS" "[I") (.int 2)) (.int 60)) (by decide +kernel)) rfl) hA
  exact ⟨t, va_Zref (hts (.laysStatic "ExamHalls" "HIGHEST_SETTINGS" "[I") (tb_in2 _ (List.mem_of_getElem? (i := 26) rfl))) (hts (.initialized "ExamHalls") (tb_in1 _ (List.mem_of_getElem? (i := 1) rfl))) ht hA, hT⟩
theorem arr_start {s : State} {b : Nat} {ty : FieldType} (h : (Cond.arrayClass ty).before #[Value.ref b] s = true) : ∃ cA : ClassId, ArrOfT s cA ty ∧ s.vm.findClass ("[" ++ ty.toString) = some cA := by
  obtain ⟨c, k, comp, h1, h2, h3⟩ := Cond.arrayClass_spec h
  exact ⟨c, fun N z => ⟨(fun k h => by cases h), k, h2, comp, h3⟩, h1⟩
theorem KK_start {s : State} {b : Nat} (hts : ∀ w ∈ lw_tbl, w.before #[Value.ref b] s = true) : ∃ G : JG, KK G s := by
  obtain ⟨c0, iS0, hKn0⟩ := u_known (C := RX0) (T := TX0) (N := 2) (n := 2) hts tbx0 (hts (.instantiable RX0 2) (by decide +kernel))
  obtain ⟨c1, iS1, hKn1⟩ := u_known (C := RX1) (T := TX1) (N := 10) (n := 10) hts tbx1 (hts (.instantiable RX1 10) (by decide +kernel))
  obtain ⟨c2, iS2, hKn2⟩ := u_known (C := RX2) (T := TX2) (N := 10) (n := 10) hts tbx2 (hts (.instantiable RX2 10) (by decide +kernel))
  obtain ⟨c3, iS3, hKn3⟩ := u_known (C := RX3) (T := TX3) (N := 9) (n := 9) hts tbx3 (hts (.instantiable RX3 9) (by decide +kernel))
  obtain ⟨c4, iS4, hKn4⟩ := u_known (C := RX4) (T := TX4) (N := 8) (n := 8) hts tbx4 (hts (.instantiable RX4 8) (by decide +kernel))
  obtain ⟨c5, iS5, hKn5⟩ := u_known (C := RX5) (T := TX5) (N := 14) (n := 14) hts tbx5 (hts (.instantiable RX5 14) (by decide +kernel))
  obtain ⟨a0, hA0, hF0⟩ := arr_start (hts (.arrayClass .int) (tb_in1 _ (List.mem_of_getElem? (i := 76) rfl)))
  obtain ⟨a1, hA1, hF1⟩ := arr_start (hts (.arrayClass .boolean) (tb_in1 _ (List.mem_of_getElem? (i := 77) rfl)))
  obtain ⟨a2, hA2, hF2⟩ := arr_start (hts (.arrayClass .char) (tb_in3 _ (List.mem_of_getElem? (i := 139) rfl)))
  have hao := hts (.arrayOver (.object "ExamHalls$School")) (tb_in1 _ (List.mem_of_getElem? (i := 161) rfl))
  obtain ⟨comp, a3, kA, o1, o2, o3, o4, o5⟩ := Cond.arrayOver_spec hao
  refine ⟨((fun k => if k = 0 then c0 else if k = 1 then c1 else if k = 2 then c2 else if k = 3 then c3 else if k = 4 then c4 else c5, fun k => if k = 0 then iS0 else if k = 1 then iS1 else if k = 2 then iS2 else if k = 3 then iS3 else if k = 4 then iS4 else iS5), fun k => if k = 0 then a0 else if k = 1 then a1 else if k = 2 then a2 else a3), ⟨fun k q hq => ?_, fun k q hq => ?_⟩, ?_, va_AO.of hao⟩
  · match k, hq with
    | 0, hq => cases hq; exact hKn0
    | 1, hq => cases hq; exact hKn1
    | 2, hq => cases hq; exact hKn2
    | 3, hq => cases hq; exact hKn3
    | 4, hq => cases hq; exact hKn4
    | 5, hq => cases hq; exact hKn5
    | k + 6, hq => simp [vwCl] at hq
  · match k, hq with
    | 0, hq => cases hq; exact ⟨hA0, hF0⟩
    | 1, hq => cases hq; exact ⟨hA1, hF1⟩
    | 2, hq => cases hq; exact ⟨hA2, hF2⟩
    | 3, hq => cases hq; exact ⟨fun N z => ⟨(fun k h => by cases h), kA, o3, comp, o4⟩, kA, comp, o3, o4, o1, o5⟩
    | k + 4, hq => simp [tysG] at hq
  · intro w hw
    have hin : w ∈ lw_tbl := by
      revert w
      decide +kernel
    refine va_Nw.of ?_ (hts w hin)
    revert w
    decide +kernel
