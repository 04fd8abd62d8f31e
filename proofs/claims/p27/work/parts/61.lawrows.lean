/-! ===== rows for the law: the script, calls that read the table, calls that make arrays ===== -/
section LAWROWS
variable {l : Launch} {R : Room} {G : JG} {nL : Nat} {X : JX} {Q : State → Prop} {k n pc : Nat} {lv : List (Nat × Value)} {st st2 : List Value} {ws : va_W} {cc : ByteArray} {own : String} {ret : Option FieldType} {tb : List (Nat × ClassFile.Instr × Nat)}
theorem J_widen {k' n' : Nat} (h1 : k ≤ k') (h2 : n ≤ n') (kk : J l R G nL X Q k' n' pc lv st ws) : J l R G nL X Q k n pc lv st ws :=
  fun H locs ls hP hD hS h => W.widen h1 h2 (kk H locs ls hP hD hS h)
/-- the script: L ints xs at the old cell b -/
def Scr (X : JX) (b L : Nat) (xs : Nat → Int32) : Prop := va_X b L xs X.2.2.1 X.2.2.1.heap ∧ b < X.2.2.1.heap.size ∧ ¬ X.2.2.2.2.2.2.2.2 b
theorem J_slen (C : Cx G nL X cc own ret tb) (j : Nat) {b L : Nat} {xs : Nat → Int32} (hd : tb[j]? = some (pc, .arraylength, 1)) (hX : Scr X b L xs) (kk : J l R G nL X Q k n (pc + 1) lv (.int (Int32.ofNat L) :: st) ws) : J l R G nL X Q k n pc lv (.ref b :: st) ws :=
  fun H locs ls hP hD hS h => va_slen C.1 C.2.1 hX.1 hX.2.1 hX.2.2 hS (C.d j hd) (kk H locs ls hP hD hS h)
theorem J_sld (C : Cx G nL X cc own ret tb) (j : Nat) {b L : Nat} {xs : Nat → Int32} {i : Int32} (hd : tb[j]? = some (pc, .iaload, 1)) (hX : Scr X b L xs) (hi : inb i L = true) (kk : J l R G nL X Q k n (pc + 1) lv (.int (xs i.toNatClampNeg) :: st) ws) : J l R G nL X Q k n pc lv (.int i :: .ref b :: st) ws :=
  fun H locs ls hP hD hS h => va_sld C.1 C.2.1 hX.1 hX.2.1 hX.2.2 hS (inb_in hi) (C.d j hd) (kk H locs ls hP hD hS h)
/-! a call of what reads the table of the highest settings -/
theorem SZ.calling {t : Nat} {A : Nat → Prop} {U : State} {g : JFrame} {mk : MethodId} {a : Array Value} (h : SZ t A U U.heap) : SZ t A (U.calling g mk a) (U.calling g mk a).heap :=
  ⟨va_Z.moved (u := U) (U := U.calling g mk a) (Vm.Alike.refl U.vm) h.1, va_T.moved (u := U) (U := U.calling g mk a) (Vm.Alike.refl U.vm) h.2⟩
theorem JPcZ_blind {t : Nat} {av : List Value} {sz : Nat} {wc : va_W} : FrameBlind (JPcZ t G av sz wc) := fun a U g mk q => by
  obtain ⟨q0, q1, qP, qK, qD, qZ⟩ := q
  exact ⟨q0, q1, qP, KK.calling qK, qD, SZ.calling qZ⟩
theorem J_coreZ (C : Cx G nL X cc own ret tb) {mc ms : Nat} {r : Option Value} {a : Array Value} {wc wc' ws2 : va_W} {isC isR : List Nat} {N : Nat} (hr0 : JRep ws ws2 wc wc' isC isR N) {st3 : List Value} (h3 : r.toList ++ st2 = st3)
    (hr : ∀ (H : Heap) (locs : List Loc) (ls : Array Slot), va_P G.1 vwCl ws H → va_P G.1 vwCl wc H → va_D (fun _ => True) wc → va_S X.2.2.2.2.2.2.2.2 X.2.2.1.heap H locs → (∀ q, va_A wc H.size q → X.2.2.2.2.2.2.2.2 q) → ls.size = nL → va_Run X.1 l X.2.1 R X.2.2.1 X.2.2.2.1 X.2.2.2.2.1 X.2.2.2.2.2.1 X.2.2.2.2.2.2.1 X.2.2.2.2.2.2.2.1 H locs k n mc ms (F0 X.2.2.2.1 pc ls st) st2 (JQ G r wc' (va_A wc H.size) a) (va_A wc H.size))
    (kk : J l R G nL X Q (k + mc) (n + ms) (pc + 3) lv st3 ws2) : J l R G nL X Q k n pc lv st ws := by
  intro H locs ls hP hD hS h T hT XT
  have hPc : va_P G.1 vwCl wc H := by
    intro j q hq
    have hlt : j < isC.length := by rw [hr0.len]; exact (List.getElem?_eq_some_iff.mp hq).1
    exact hP _ q (j_place hr0.1 (List.getElem?_eq_getElem hlt) hq)
  have hDc : va_D X.2.2.2.2.2.2.2.2 wc := hD.sub isC hr0.2.1 hr0.1
  have hF := va_free hD hS C.2.2.2.2.2.2.1 isC hr0.1
  obtain ⟨v, st₀, t, T', L, h0, X', hL, e1, e2, ⟨⟨hv, hP1, hD1⟩, hz, hk⟩, stp⟩ := hr H locs ls hP hPc (hDc.weaken fun _ _ _ _ => trivial) hS hF h.1 T hT XT
  cases hv
  subst h3
  rw [h0] at hz hk
  have hPn : va_P G.1 vwCl ws2 T'.heap := by
    rw [e1]
    exact hr0.P hP hD hP1 hk
  have hDn : va_D X.2.2.2.2.2.2.2.2 ws2 := hr0.D hP hD hF hD1
  obtain ⟨t2, a1, b1⟩ := kk T'.heap (locs ++ L) ls hPn hDn
    ⟨Nat.le_trans hS.1 (by rw [e1]; exact hz), fun q h1 h2 => by rw [e1, hk q (Nat.lt_of_lt_of_le h1 hS.1) (fun z => h2 (hF q z))]; exact hS.2.1 q h1 h2, fun q hq => by
      rcases List.mem_append.mp hq with h | h
      · exact hS.2.2 q h
      · exact hF _ (hL q h)⟩ h T' rfl X'
  exact ⟨t2, stp t2 a1, b1⟩
theorem J_callVZ {t : Nat} {y : MethodName} {bb : ByteArray} {a nc np fr lo index : Nat} {rc : Option FieldType} {As : List Value} {wc wc' ws2 : va_W} {r : Option Value} (C : Cx G nL X cc own ret tb) (hSZ : SZ t X.2.2.2.2.2.2.2.2 X.2.2.1 X.2.2.1.heap) (j : Nat) (hd : tb[j]? = some (pc, .invokevirtual index, 3)) (hM : JMZ t l G y bb nc rc fr lo (.ref a :: As) wc wc' r) (V : Vy y bb nc rc np) (hl : Cond.methodLink own index y ∈ TB) (hi : Cond.instanceMethod y ∈ TB) (hs : Cond.selects y.cls y y ∈ TB)
    (hnp : As.length = np) (hst : st = As.reverse ++ .ref a :: st2) (hR : fr + 1 ≤ R.frames ∧ 8 + (nc + 11) + lo ≤ R.locals) (hcat : (st2.map fun v => v.category).sum ≤ 8) (hkn : k ≤ R.cells ∧ n ≤ R.slots) (q0 ci : Nat) {cq : vw_C} {fs : List Value} (hcl : vwCl[ci]? = some cq) (hcy : cq.1 = y.cls) (hrc : ws[q0]? = some (a, .inr (ci, fs)))
    {isC isR : List Nat} {N : Nat} (hr0 : JRep ws ws2 wc wc' isC isR N) {st3 : List Value} (h3 : r.toList ++ st2 = st3)
    (kk : J l R G nL X Q k n (pc + 3) lv st3 ws2) : J l R G nL X Q k n pc lv st ws := by
  refine J_coreZ (mc := 0) (ms := 0) C (a := (Value.ref a :: As).toArray) hr0 h3 (fun H locs ls hP hPc hDc hS hF hls => ?_) kk
  have hcell := va_recv C.2.2.2.2.2.1.1 hP hcl hrc
  rw [hcy] at hcell
  have hZ : SZ t (va_A wc H.size) X.2.2.1 H := SZ.kept hSZ (fun q _ h => hF q h) (fun q h1 h2 => hS.2.1 q h1 h2)
  exact va_runV (C := y.cls) (As := As) (rest := st2) ⟨C.1, C.2.1, C.2.2.1, C.2.2.2.1, C.2.2.2.2.1⟩ (hM H.size)
    ⟨callB_of np C.2.2.2.2.1 (TB_in _ _ _ _ V.1) rfl rfl rfl (C.2.2.2.2.1 _ V.2.1) (C.2.2.2.2.1 _ hl) V.2.2 hR, C.2.2.2.2.1 _ hi, C.2.2.2.2.1 _ hs⟩
    ⟨JPcZ_blind, hcell, fun U hU hW => ⟨rfl, by rw [hU], by rw [hU]; exact hPc, KK.warm hW C.2.2.2.2.2.1, hDc, by rw [hU]; exact SZ.warm hW hZ⟩⟩ rfl hnp hls hst (lv_room hcat) (C.d j hd) hkn
theorem J_callSZ {t : Nat} {y : MethodName} {bb : ByteArray} {nc np fr lo index : Nat} {rc : Option FieldType} {As : List Value} {wc wc' ws2 : va_W} {r : Option Value} (C : Cx G nL X cc own ret tb) (hSZ : SZ t X.2.2.2.2.2.2.2.2 X.2.2.1 X.2.2.1.heap) (j : Nat) (hd : tb[j]? = some (pc, .invokestatic index, 3)) (hM : JMZ t l G y bb nc rc fr lo As wc wc' r) (V : Vy y bb nc rc np) (hl : Cond.methodLink own index y ∈ TB) (hi : Cond.static y ∈ TB)
    (hnp : As.length = np) (hst : st = As.reverse ++ st2) (hR : fr + 1 ≤ R.frames ∧ 8 + (nc + 11) + lo ≤ R.locals) (hcat : (st2.map fun v => v.category).sum ≤ 8) (hkn : k ≤ R.cells ∧ n ≤ R.slots)
    {isC isR : List Nat} {N : Nat} (hr0 : JRep ws ws2 wc wc' isC isR N) {st3 : List Value} (h3 : r.toList ++ st2 = st3)
    (kk : J l R G nL X Q k n (pc + 3) lv st3 ws2) : J l R G nL X Q k n pc lv st ws := by
  refine J_coreZ (mc := 0) (ms := 0) C (a := As.toArray) hr0 h3 (fun H locs ls hP hPc hDc hS hF hls => ?_) kk
  have hZ : SZ t (va_A wc H.size) X.2.2.1 H := SZ.kept hSZ (fun q _ h => hF q h) (fun q h1 h2 => hS.2.1 q h1 h2)
  exact va_runS (As := As) (rest := st2) ⟨C.1, C.2.1, C.2.2.1, C.2.2.2.1, C.2.2.2.2.1⟩ (hM H.size)
    ⟨callB_of np C.2.2.2.2.1 (TB_in _ _ _ _ V.1) rfl rfl rfl (C.2.2.2.2.1 _ V.2.1) (C.2.2.2.2.1 _ hl) V.2.2 hR, C.2.2.2.2.1 _ hi⟩
    ⟨JPcZ_blind, fun U hU hW => ⟨rfl, by rw [hU], by rw [hU]; exact hPc, KK.warm hW C.2.2.2.2.2.1, hDc, by rw [hU]; exact SZ.warm hW hZ⟩⟩ rfl hnp hls hst (lv_room hcat) (C.d j hd) hkn
/-! a method that makes mc cells of ms slots, and leaves its world as it was told -/
def JMN (mc ms : Nat) (l : Launch) (G : JG) (y : MethodName) (b : ByteArray) (nL : Nat) (ret : Option FieldType) (fr lo : Nat) (av : List Value) (ws ws' : va_W) (r : Option Value) : Prop :=
  ∀ sz : Nat, Met l y (.code y b nL ret :: TB) { frames := fr, cells := mc, slots := ms, locals := lo } (JPc G av sz ws) (JQ G r ws' (va_A ws sz)) mc ms (va_A ws sz)
theorem JMN.of {mc ms : Nat} {y : MethodName} {b : ByteArray} {fr lo : Nat} {av : List Value} {ws' : va_W} {r : Option Value} (hy : plainName y.cls = true) (hlen : (lg_sl av).length ≤ nL) (hT : ∀ q ∈ tb, decode b q.1 = .ok q.2) (ho : y.cls = own)
    (body : ∀ X : JX, Cx G nL X b own ret tb → J l { frames := fr, cells := mc, slots := ms, locals := lo } G nL X (QM X G mc ms r ws') 0 0 0 (lv_args 0 av) [] ws) : JMN mc ms l G y b nL ret fr lo av ws ws' r := by
  intro sz
  refine Met.ofW (cc := b) (maxL := nL) (ret := ret) hy rfl ?_
  intro p e s m args below meth c s₁ B hml hv
  obtain ⟨rfl, hsz, hP, hK, hD0⟩ := hv
  have hts := atoms_spec (ws := .code y b nL ret :: TB) B.pre
  have hown : s.vm.findClass y.cls = some m.cls := findClass_of_methodNamed B.named
  rw [ho] at hown
  subst hsz
  have hD := hD0.self (sz := s.heap.size)
  have Z := body (p, e, s, m, av.toArray, below, meth, c, va_A ws s.heap.size) ⟨B.exec, B.bytes, hml, hown, fun w hw => hts w (List.mem_cons_of_mem _ hw), hK, fun q h => Or.inr h, B.notSynchronized, B.returns, hT⟩
  rw [lg_entry_eq]
  exact Z s.heap [] _ hP hD va_S.rf (lv_entry av hlen)
theorem J_callSM {mc ms : Nat} {y : MethodName} {bb : ByteArray} {nc np fr lo index : Nat} {rc : Option FieldType} {As : List Value} {wc wc' ws2 : va_W} {r : Option Value} (C : Cx G nL X cc own ret tb) (j : Nat) (hd : tb[j]? = some (pc, .invokestatic index, 3)) (hM : JMN mc ms l G y bb nc rc fr lo As wc wc' r) (V : Vy y bb nc rc np) (hl : Cond.methodLink own index y ∈ TB) (hi : Cond.static y ∈ TB)
    (hnp : As.length = np) (hst : st = As.reverse ++ st2) (hR : fr + 1 ≤ R.frames ∧ 8 + (nc + 11) + lo ≤ R.locals) (hcat : (st2.map fun v => v.category).sum ≤ 8) (hkn : k + mc ≤ R.cells ∧ n + ms ≤ R.slots)
    {isC isR : List Nat} {N : Nat} (hr0 : JRep ws ws2 wc wc' isC isR N) {st3 : List Value} (h3 : r.toList ++ st2 = st3)
    (kk : J l R G nL X Q (k + mc) (n + ms) (pc + 3) lv st3 ws2) : J l R G nL X Q k n pc lv st ws := by
  refine J_coreZ C (a := As.toArray) hr0 h3 (fun H locs ls hP hPc hDc hS hF hls => ?_) kk
  exact va_runS (As := As) (rest := st2) ⟨C.1, C.2.1, C.2.2.1, C.2.2.2.1, C.2.2.2.2.1⟩ (hM H.size)
    ⟨callB_of np C.2.2.2.2.1 (TB_in _ _ _ _ V.1) rfl rfl rfl (C.2.2.2.2.1 _ V.2.1) (C.2.2.2.2.1 _ hl) V.2.2 hR, C.2.2.2.2.1 _ hi⟩
    ⟨JPc_blind, fun U hU hW => JPc_at C.2.2.2.2.2.1 hPc hDc hU hW⟩ rfl hnp hls hst (lv_room hcat) (C.d j hd) hkn
/-! what reads the script -/
def JPcS (b L : Nat) (xs : Nat → Int32) (G : JG) (av : List Value) (sz : Nat) : Array Value → State → Prop := va_Pc av (fun U => U.heap.size = sz ∧ KK G U ∧ va_X b L xs U U.heap ∧ b < U.heap.size)
def JMS (b L : Nat) (xs : Nat → Int32) (l : Launch) (G : JG) (y : MethodName) (bb : ByteArray) (nL : Nat) (ret : Option FieldType) (fr lo : Nat) (av : List Value) (r : Option Value) : Prop :=
  ∀ sz : Nat, Met l y (.code y bb nL ret :: TB) { frames := fr, cells := 0, slots := 0, locals := lo } (JPcS b L xs G av sz) (JQ G r [] (va_A [] sz)) 0 0 (va_A [] sz)
theorem JMS.of {b L : Nat} {xs : Nat → Int32} {y : MethodName} {bb : ByteArray} {fr lo : Nat} {av : List Value} {r : Option Value} (hy : plainName y.cls = true) (hlen : (lg_sl av).length ≤ nL) (hT : ∀ q ∈ tb, decode bb q.1 = .ok q.2) (ho : y.cls = own)
    (body : ∀ X : JX, Cx G nL X bb own ret tb → Scr X b L xs → J l { frames := fr, cells := 0, slots := 0, locals := lo } G nL X (QM X G 0 0 r []) 0 0 0 (lv_args 0 av) [] []) : JMS b L xs l G y bb nL ret fr lo av r := by
  intro sz
  refine Met.ofW (cc := bb) (maxL := nL) (ret := ret) hy rfl ?_
  intro p e s m args below meth c s₁ B hml hv
  obtain ⟨rfl, hsz, hK, hX, hbl⟩ := hv
  have hts := atoms_spec (ws := .code y bb nL ret :: TB) B.pre
  have hown : s.vm.findClass y.cls = some m.cls := findClass_of_methodNamed B.named
  rw [ho] at hown
  subst hsz
  have Z := body (p, e, s, m, av.toArray, below, meth, c, va_A [] s.heap.size) ⟨B.exec, B.bytes, hml, hown, fun w hw => hts w (List.mem_cons_of_mem _ hw), hK, fun q h => Or.inr h, B.notSynchronized, B.returns, hT⟩ ⟨hX, hbl, fun h => by
    rcases h with ⟨k, e, h⟩ | h
    · simp at h
    · exact absurd hbl (Nat.not_lt.mpr h)⟩
  rw [lg_entry_eq]
  exact Z s.heap [] _ (fun k q h => by simp at h) ⟨fun i j p q h => by simp at h, fun k q h => by simp at h⟩ va_S.rf (lv_entry av hlen)
theorem JPcS_blind {b L : Nat} {xs : Nat → Int32} {av : List Value} {sz : Nat} : FrameBlind (JPcS b L xs G av sz) := fun a U g mk q => by
  obtain ⟨q0, q1, qK, qX, qb⟩ := q
  exact ⟨q0, q1, KK.calling qK, va_X.moved (u := U) (U := U.calling g mk a) (Vm.Alike.refl U.vm) qX, qb⟩
theorem J_callSS {b L : Nat} {xs : Nat → Int32} {y : MethodName} {bb : ByteArray} {nc np fr lo index : Nat} {rc : Option FieldType} {As : List Value} {r : Option Value} (C : Cx G nL X cc own ret tb) (hX : Scr X b L xs) (j : Nat) (hd : tb[j]? = some (pc, .invokestatic index, 3)) (hM : JMS b L xs l G y bb nc rc fr lo As r) (V : Vy y bb nc rc np) (hl : Cond.methodLink own index y ∈ TB) (hi : Cond.static y ∈ TB)
    (hnp : As.length = np) (hst : st = As.reverse ++ st2) (hR : fr + 1 ≤ R.frames ∧ 8 + (nc + 11) + lo ≤ R.locals) (hcat : (st2.map fun v => v.category).sum ≤ 8) (hkn : k ≤ R.cells ∧ n ≤ R.slots)
    {isR : List Nat} {N : Nat} (hr0 : JRep ws ws [] [] [] isR N) {st3 : List Value} (h3 : r.toList ++ st2 = st3)
    (kk : J l R G nL X Q k n (pc + 3) lv st3 ws) : J l R G nL X Q k n pc lv st ws := by
  refine J_coreZ (mc := 0) (ms := 0) C (a := As.toArray) hr0 h3 (fun H locs ls hP hPc hDc hS hF hls => ?_) kk
  exact va_runS (As := As) (rest := st2) ⟨C.1, C.2.1, C.2.2.1, C.2.2.2.1, C.2.2.2.2.1⟩ (hM H.size)
    ⟨callB_of np C.2.2.2.2.1 (TB_in _ _ _ _ V.1) rfl rfl rfl (C.2.2.2.2.1 _ V.2.1) (C.2.2.2.2.1 _ hl) V.2.2 hR, C.2.2.2.2.1 _ hi⟩
    ⟨JPcS_blind, fun U hU hW => ⟨rfl, by rw [hU], KK.warm hW C.2.2.2.2.2.1, by rw [hU]; exact va_X.moved hW.alike (va_X.kept hX.1 (hS.2.1 b hX.2.1 hX.2.2)), by rw [hU]; exact Nat.lt_of_lt_of_le hX.2.1 hS.1⟩⟩ rfl hnp hls hst (lv_room hcat) (C.d j hd) hkn
end LAWROWS
def T_L_cell : List (Nat × ClassFile.Instr × Nat) := [(0, .iload_n 1, 1), (1, .aload_n 0, 1), (2, .arraylength, 1), (3, .if_icmp .ge 9, 3), (6, .aload_n 0, 1), (7, .iload_n 1, 1), (8, .iaload, 1), (9, .goto 11, 3), (12, .ldc 7, 2), (14, .iload_n 1, 1), (15, .imul, 1), (16, .sipush 8183, 3), (19, .iadd, 1), (20, .ldc 8, 2), (22, .iand, 1), (23, .ireturn, 1)]
theorem D_L_cell : ∀ q ∈ T_L_cell, decode cL_cell q.1 = .ok q.2 := by decide +kernel
theorem V_L_cell : Vy yL_cell cL_cell 2 (some .int) 2 := ⟨k341, k368, by decide +kernel⟩
theorem t_L_cell : Cond.static yL_cell ∈ TB := k423
theorem c_L_cell {l : Launch} {G : JG} {b L : Nat} {xs : Nat → Int32} (x1 : Int32) {Rz : Int32} (h : f_L_cell L xs x1 = some Rz) : JMS b L xs l G yL_cell cL_cell 2 (some .int) 0 0 [.ref b, .int x1] (some (.int Rz)) := by
  refine JMS.of (own := RL) (tb := T_L_cell) (by decide) (Nat.le_of_ble_eq_true rfl) D_L_cell rfl (fun X C hX => ?_)
  refine J_sub (lv' := [(0, .ref b), (1, .int x1)]) [0, 1] rfl ?_
  unfold f_L_cell at h
  refine J_iload_n (pc := 0) C 0 rfl 1 rfl rfl ?_
  refine J_aload_n (pc := 1) C 1 rfl 0 rfl rfl ?_
  refine J_slen (pc := 2) C 2 rfl hX ?_
  refine J_icmp_ge (pc := 3) (tgt := 12) C 3 rfl rfl (fun c => ?_) (fun c => ?_)
  · rw [if_pos c] at h
    refine J_ldc (pc := 12) (v := (15485959 : Int32)) C 8 rfl k342 ?_
    refine J_iload_n (pc := 14) C 9 rfl 1 rfl rfl ?_
    refine J_imul (pc := 15) C 10 rfl ?_
    refine J_sipush (pc := 16) (v := (8183 : Int32)) C 11 rfl rfl ?_
    refine J_iadd (pc := 19) C 12 rfl ?_
    refine J_ldc (pc := 20) (v := (2147483647 : Int32)) C 13 rfl k343 ?_
    refine J_iand (pc := 22) C 14 rfl ?_
    cases h
    exact J_iret (pc := 23) C 15 rfl
  · rw [if_neg c] at h
    obtain ⟨g1, h⟩ := gd_some h
    refine J_aload_n (pc := 6) C 4 rfl 0 rfl rfl ?_
    refine J_iload_n (pc := 7) C 5 rfl 1 rfl rfl ?_
    refine J_sld (pc := 8) C 6 rfl hX g1 ?_
    refine J_goto (pc := 9) (tgt := 20) C 7 rfl rfl ?_
    refine J_ldc (pc := 20) (v := (2147483647 : Int32)) C 13 rfl k343 ?_
    refine J_iand (pc := 22) C 14 rfl ?_
    cases h
    exact J_iret (pc := 23) C 15 rfl
def T_L_bits : List (Nat × ClassFile.Instr × Nat) := [(0, .iconst 0, 1), (1, .istore_n 1, 1), (2, .iconst 0, 1), (3, .istore_n 2, 1), (4, .iload_n 2, 1), (5, .bipush 16, 2), (7, .if_icmp .ge 17, 3), (10, .iload_n 1, 1), (11, .iload_n 0, 1), (12, .iload_n 2, 1), (13, .ishr, 1), (14, .iconst 1, 1), (15, .iand, 1), (16, .iadd, 1), (17, .istore_n 1, 1), (18, .iinc 2 1, 3), (21, .goto (-17), 3), (24, .iload_n 1, 1), (25, .ireturn, 1)]
theorem D_L_bits : ∀ q ∈ T_L_bits, decode cL_bits q.1 = .ok q.2 := by decide +kernel
theorem V_L_bits : Vy yL_bits cL_bits 3 (some .int) 1 := ⟨k344, k368, by decide +kernel⟩
theorem t_L_bits : Cond.static yL_bits ∈ TB := k375
set_option maxRecDepth 100000 in
set_option maxHeartbeats 4000000 in
theorem c_L_bits {l : Launch} {G : JG}   (x0 : Int32) {Rz : Int32} (h : f_L_bits x0 = some Rz) : JM l G yL_bits cL_bits 3 (some .int) 0 0 [.int x0] ([] : va_W) ([] : va_W) (some (.int Rz)) := by
  refine JM.of (own := RL) (tb := T_L_bits) (by decide) (Nat.le_of_ble_eq_true rfl) D_L_bits rfl (fun X C => ?_)
  refine J_sub (lv' := [(0, .int x0)]) [0] rfl ?_
  have B4 : ∀ (x0_4 : Int32) (n4 : Nat) (x1_4 : Int32) (x2_4 : Int32), f_L_bits_L4  x0_4 n4 x1_4 x2_4 = some Rz → J l { frames := 0, cells := 0, slots := 0, locals := 0 } G 3 X (QM X G 0 0 (some (.int Rz)) ([] : va_W)) 0 0 4 [(0, .int x0_4), (1, .int x1_4), (2, .int x2_4)] [] ([] : va_W) := by
    intro x0_4 n4
    induction n4 with
    | zero =>
      intro x1_4 x2_4 h
      exact (no_none rfl h).elim
    | succ n4 ih4 =>
      intro x1_4 x2_4 h
      replace h : f_L_bits_b4  x0_4 (fun x1_4 x2_4 => f_L_bits_L4  x0_4 n4 x1_4 x2_4) x1_4 x2_4 = some Rz := h
      unfold f_L_bits_b4 at h
      refine J_iload_n (pc := 4) C 4 rfl 2 rfl rfl ?_
      refine J_bipush (pc := 5) (v := (16 : Int32)) C 5 rfl rfl ?_
      refine J_icmp_ge (pc := 7) (tgt := 24) C 6 rfl rfl (fun c1 => ?_) (fun c1 => ?_)
      · rw [if_pos c1] at h
        refine J_iload_n (pc := 24) C 17 rfl 1 rfl rfl ?_
        cases h
        exact J_iret (pc := 25) C 18 rfl
      · rw [if_neg c1] at h
        refine J_iload_n (pc := 10) C 7 rfl 1 rfl rfl ?_
        refine J_iload_n (pc := 11) C 8 rfl 0 rfl rfl ?_
        refine J_iload_n (pc := 12) C 9 rfl 2 rfl rfl ?_
        refine J_ishr (pc := 13) C 10 rfl  ?_
        refine J_iconst (pc := 14) (v := (1 : Int32)) C 11 rfl rfl ?_
        refine J_iand (pc := 15) C 12 rfl  ?_
        refine J_iadd (pc := 16) C 13 rfl  ?_
        refine J_istore_n (pc := 17) (lv' := [(1, .int (x1_4 + ((x0_4 >>> (x2_4 &&& 31)) &&& (1 : Int32)))), (0, .int x0_4), (2, .int x2_4)]) C 14 rfl rfl (by decide) rfl ?_
        refine J_iinc (pc := 18) (v := (x2_4 + (1 : Int32))) (lv' := [(2, .int (x2_4 + (1 : Int32))), (1, .int (x1_4 + ((x0_4 >>> (x2_4 &&& 31)) &&& (1 : Int32)))), (0, .int x0_4)]) C 15 rfl 2 rfl rfl (by decide) rfl ?_
        refine J_goto (pc := 21) (tgt := 4) C 16 rfl rfl ?_
        exact J_sub [2, 1, 0] rfl (ih4 (x1_4 + ((x0_4 >>> (x2_4 &&& 31)) &&& (1 : Int32))) (x2_4 + (1 : Int32)) h)
  unfold f_L_bits at h
  refine J_iconst (pc := 0) (v := (0 : Int32)) C 0 rfl rfl ?_
  refine J_istore_n (pc := 1) (lv' := [(1, .int (0 : Int32)), (0, .int x0)]) C 1 rfl rfl (by decide) rfl ?_
  refine J_iconst (pc := 2) (v := (0 : Int32)) C 2 rfl rfl ?_
  refine J_istore_n (pc := 3) (lv' := [(2, .int (0 : Int32)), (1, .int (0 : Int32)), (0, .int x0)]) C 3 rfl rfl (by decide) rfl ?_
  exact J_sub [2, 1, 0] rfl (B4 x0 FU (0 : Int32) (0 : Int32) h)
def T_L_at : List (Nat × ClassFile.Instr × Nat) := [(0, .iload_n 2, 1), (1, .bipush 48, 2), (3, .if_icmp .ge 9, 3), (6, .aload_n 0, 1), (7, .iload_n 2, 1), (8, .iaload, 1), (9, .goto 9, 3), (12, .aload_n 1, 1), (13, .iload_n 2, 1), (14, .bipush 48, 2), (16, .isub, 1), (17, .iaload, 1), (18, .ireturn, 1)]
theorem D_L_at : ∀ q ∈ T_L_at, decode cL_at q.1 = .ok q.2 := by decide +kernel
theorem V_L_at : Vy yL_at cL_at 3 (some .int) 3 := ⟨k349, k368, by decide +kernel⟩
theorem t_L_at : Cond.static yL_at ∈ TB := k372
set_option maxRecDepth 100000 in
set_option maxHeartbeats 4000000 in
theorem c_L_at {l : Launch} {G : JG} (aL : Nat) (aH2 : Nat) (vL : JV) (vH : JV) (x2 : Int32) {Rz : Int32} (h : f_L_at vL vH x2 = some Rz) : JM l G yL_at cL_at 3 (some .int) 0 0 [.ref aL, .ref aH2, .int x2] (wArr G aL (vL 0) ++ (wArr G aH2 (vH 0))) (wArr G aL (vL 0) ++ (wArr G aH2 (vH 0))) (some (.int Rz)) := by
  refine JM.of (own := RL) (tb := T_L_at) (by decide) (Nat.le_of_ble_eq_true rfl) D_L_at rfl (fun X C => ?_)
  refine J_sub (lv' := [(0, .ref aL), (1, .ref aH2), (2, .int x2)]) [0, 1, 2] rfl ?_
  unfold f_L_at at h
  refine J_iload_n (pc := 0) C 0 rfl 2 rfl rfl ?_
  refine J_bipush (pc := 1) (v := (48 : Int32)) C 1 rfl rfl ?_
  refine J_icmp_ge (pc := 3) (tgt := 12) C 2 rfl rfl (fun c1 => ?_) (fun c1 => ?_)
  · rw [if_pos c1] at h
    refine J_aload_n (pc := 12) C 7 rfl 1 rfl rfl ?_
    refine J_iload_n (pc := 13) C 8 rfl 2 rfl rfl ?_
    refine J_bipush (pc := 14) (v := (48 : Int32)) C 9 rfl rfl ?_
    refine J_isub (pc := 16) C 10 rfl  ?_
    obtain ⟨g2, h⟩ := gd_some h
    refine J_iald (pc := 17) (f := (vH 0)) (v := ((vH 0) (Int32.toNatClampNeg (x2 - (48 : Int32))))) C 11 rfl 1 rfl g2 rfl ?_
    cases h
    exact J_iret (pc := 18) C 12 rfl
  · rw [if_neg c1] at h
    refine J_aload_n (pc := 6) C 3 rfl 0 rfl rfl ?_
    refine J_iload_n (pc := 7) C 4 rfl 2 rfl rfl ?_
    obtain ⟨g3, h⟩ := gd_some h
    refine J_iald (pc := 8) (f := (vL 0)) (v := ((vL 0) (Int32.toNatClampNeg x2))) C 5 rfl 0 rfl g3 rfl ?_
    refine J_goto (pc := 9) (tgt := 18) C 6 rfl rfl ?_
    cases h
    exact J_iret (pc := 18) C 12 rfl
