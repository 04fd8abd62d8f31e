/-! ===== the worlds ===== -/
def wSch (G : JG) (a : Nat → Nat) (f0 : Nat → Int32) (f1 : Nat → Int32) (f2 : Nat → Int32) (f3 : Nat → Int32) (f4 : Nat → Int32) (f5 : Nat → Int32) (f6 : Nat → Int32) (f7 : Nat → Int32) (f8 : Int32) (f9 : Int32) : va_W := [(a 0, .inr (2, [.ref (a 1), .ref (a 2), .ref (a 3), .ref (a 4), .ref (a 5), .ref (a 6), .ref (a 7), .ref (a 8), .int f8, .int f9])), (a 1, .inl (G.2 0, 3, .inl f0)), (a 2, .inl (G.2 0, 6, .inl f1)), (a 3, .inl (G.2 0, 6, .inl f2)), (a 4, .inl (G.2 0, 16, .inl f3)), (a 5, .inl (G.2 0, 16, .inl f4)), (a 6, .inl (G.2 1, 16, .inl f5)), (a 7, .inl (G.2 0, 4, .inl f6)), (a 8, .inl (G.2 0, 4, .inl f7))]
def wSeat (G : JG) (a : Nat → Nat) (h : Nat) (f1 : Nat → Int32) (f2 : Nat → Int32) (f3 : Nat → Int32) (f4 : Int32) (f5 : Int32) (f6 : Nat → Int32) (f7 : Nat → Int32) (f8 : Nat → Int32) : va_W := [(a 0, .inr (3, [.ref h, .ref (a 1), .ref (a 2), .ref (a 3), .int f4, .int f5, .ref (a 4), .ref (a 5), .ref (a 6)])), (a 1, .inl (G.2 0, 96, .inl f1)), (a 2, .inl (G.2 0, 96, .inl f2)), (a 3, .inl (G.2 0, 96, .inl f3)), (a 4, .inl (G.2 0, 64, .inl f6)), (a 5, .inl (G.2 0, 64, .inl f7)), (a 6, .inl (G.2 0, 6, .inl f8))]
def wPad (G : JG) (a : Nat → Nat) (f0 : Nat → Int32) (f1 : Int32) (f2 : Nat → Int32) (f3 : Nat → Int32) (f4 : Nat → Int32) (f5 : Int32) (f6 : Int32) (f7 : Int32) (f8 : Int32) (f9 : Int32) : va_W := [(a 0, .inr (1, [.ref (a 1), .int f1, .ref (a 2), .ref (a 3), .ref (a 4), .int f5, .int f6, .int f7, .int f8, .int f9])), (a 1, .inl (G.2 0, 60, .inl f0)), (a 2, .inl (G.2 0, 30, .inl f2)), (a 3, .inl (G.2 0, 30, .inl f3)), (a 4, .inl (G.2 1, 30, .inl f4))]
def wSlots (G : JG) (b : Nat) (sa : Nat → Nat → Nat) (sv : Nat → JV) : va_W := (b, .inl (G.2 3, 2, .inr (.inr (.inr (.inr (fun i => some (sa i 0))))))) :: (wSch G (sa 0) (sv 0 0) (sv 0 1) (sv 0 2) (sv 0 3) (sv 0 4) (sv 0 5) (sv 0 6) (sv 0 7) (sv 0 8 0) (sv 0 9 0) ++ wSch G (sa 1) (sv 1 0) (sv 1 1) (sv 1 2) (sv 1 3) (sv 1 4) (sv 1 5) (sv 1 6) (sv 1 7) (sv 1 8 0) (sv 1 9 0))
def wUsed (G : JG) (b : Nat) (s : Nat → Int32) : va_W := [(b, .inl (G.2 1, 2, .inl s))]
def wArr (G : JG) (b : Nat) (s : Nat → Int32) : va_W := [(b, .inl (G.2 0, 48, .inl s))]
def wHisX (G : JG) (h : Nat → Nat) (f : Nat → Option Nat) (ha : Nat → Nat → Nat) (hv : Nat → JV) (hz : Int32) : va_W := (h 0, .inr (0, [.ref (h 1), .int hz])) :: (h 1, .inl (G.2 3, 6, .inr (.inr (.inr (.inr f))))) :: (wSch G (ha 0) (hv 0 0) (hv 0 1) (hv 0 2) (hv 0 3) (hv 0 4) (hv 0 5) (hv 0 6) (hv 0 7) (hv 0 8 0) (hv 0 9 0) ++ (wSch G (ha 1) (hv 1 0) (hv 1 1) (hv 1 2) (hv 1 3) (hv 1 4) (hv 1 5) (hv 1 6) (hv 1 7) (hv 1 8 0) (hv 1 9 0) ++ (wSch G (ha 2) (hv 2 0) (hv 2 1) (hv 2 2) (hv 2 3) (hv 2 4) (hv 2 5) (hv 2 6) (hv 2 7) (hv 2 8 0) (hv 2 9 0) ++ (wSch G (ha 3) (hv 3 0) (hv 3 1) (hv 3 2) (hv 3 3) (hv 3 4) (hv 3 5) (hv 3 6) (hv 3 7) (hv 3 8 0) (hv 3 9 0) ++ (wSch G (ha 4) (hv 4 0) (hv 4 1) (hv 4 2) (hv 4 3) (hv 4 4) (hv 4 5) (hv 4 6) (hv 4 7) (hv 4 8 0) (hv 4 9 0) ++ wSch G (ha 5) (hv 5 0) (hv 5 1) (hv 5 2) (hv 5 3) (hv 5 4) (hv 5 5) (hv 5 6) (hv 5 7) (hv 5 8 0) (hv 5 9 0))))))
def wHis (G : JG) (h : Nat → Nat) (ha : Nat → Nat → Nat) (hv : Nat → JV) (hz : Int32) : va_W := wHisX G h (fun i => some (ha i 0)) ha hv hz
def wEx (x t t2 s s2 p h b u : Nat) : va_W := [(x, .inr (4, [.ref t, .ref s, .ref t2, .ref s2, .ref p, .ref h, .ref b, .ref u]))]

theorem va_at_congr {D : va_G} {cl : List vw_C} {a n : Nat} {c : ClassId} {f g : Nat → Option Nat} {H : Heap} (hfg : ∀ i : Nat, i < n → f i = g i) (h : va_at D cl (a, .inl (c, n, .inr (.inr (.inr (.inr f))))) H) : va_at D cl (a, .inl (c, n, .inr (.inr (.inr (.inr g))))) H := by
  have e : vp_cell c (n, .inr (.inr (.inr (.inr f)))) = vp_cell c (n, .inr (.inr (.inr (.inr g)))) := by
    rw [vp_cell_q, vp_cell_q]
    unfold arrV
    congr 1
    apply Array.ext
    · simp
    · intro i h1 h2
      simp only [Array.size_ofFn] at h1
      simp [hfg i h1]
  show H[a]? = some (vp_cell c (n, .inr (.inr (.inr (.inr g)))))
  rw [← e]
  exact h
def rot6 {α : Type} (f : Nat → α) : Nat → α := fun i => match i with
  | 0 => f 1
  | 1 => f 2
  | 2 => f 3
  | 3 => f 4
  | 4 => f 5
  | 5 => f 0
  | i => f i
section JHIS
variable {l : Launch} {R : Room} {G : JG} {nL : Nat} {X : JX} {Q : State → Prop} {k n pc : Nat} {lv : List (Nat × Value)} {st : List Value} {ws : va_W} {cc : ByteArray} {own : String} {ret : Option FieldType} {tb : List (Nat × ClassFile.Instr × Nat)}
/-- the same world in another order -/
theorem J_perm (ps : List Nat) {ws' : va_W} (hn : va_nd ps = true) (h : ps.map (fun i => ws[i]?) = ws'.map some) (kk : J l R G nL X Q k n pc lv st ws') : J l R G nL X Q k n pc lv st ws := by
  intro H locs ls hP hD hS hl
  refine kk H locs ls (fun j q hq => ?_) (hD.sub ps hn h) hS hl
  have l1 : ps.length = ws'.length := by have := congrArg List.length h; simpa using this
  have hlt : j < ps.length := by rw [l1]; exact (List.getElem?_eq_some_iff.mp hq).1
  exact hP _ q (j_place h (List.getElem?_eq_getElem hlt) hq)
/-- an array of references, told by another function -/
theorem J_aeq (q0 : Nat) {a N : Nat} {f g : Nat → Option Nat} {ws' : va_W} (he : ws[q0]? = some (a, .inl (G.2 3, N, .inr (.inr (.inr (.inr f)))))) (hfg : ∀ i : Nat, i < N → f i = g i) (h2 : ws.set q0 (a, .inl (G.2 3, N, .inr (.inr (.inr (.inr g))))) = ws') (kk : J l R G nL X Q k n pc lv st ws') : J l R G nL X Q k n pc lv st ws := by
  intro H locs ls hP hD hS hl
  subst h2
  exact kk H locs ls (hP.set hD he (va_at_congr hfg (hP q0 _ he)) (fun _ _ => rfl)) (hD.set he) hS hl
end JHIS
/-! ===== the table of the highest settings ===== -/
def hsv (j : Nat) : Int32 := match j with
  | 0 => 1
  | 1 => 6
  | _ => 60
def SZ (t : Nat) (A : Nat → Prop) (U : State) (H : Heap) : Prop := va_Z "ExamHalls" "HIGHEST_SETTINGS" "[I" (.ref t) A U H ∧ va_T .int t 3 (fun j => .int (hsv j)) A U H
theorem va_T_kept {ty : FieldType} {t N : Nat} {f : Nat → Value} {A A1 : Nat → Prop} {U : State} {H H1 : Heap} (h : va_T ty t N f A U H) (hk : H1[t]? = H[t]?) (hA : ¬ A1 t) : va_T ty t N f A1 U H1 := by
  obtain ⟨cell, h1, h2, h3, h4, h5, h6, -⟩ := h
  exact ⟨cell, by rw [hk]; exact h1, h2, h3, h4, h5, h6, hA⟩
theorem SZ.warm {t : Nat} {A : Nat → Prop} {s U : State} {H : Heap} (hW : s.WarmedH U.vm) (h : SZ t A s H) : SZ t A U H := ⟨va_Z.moved hW.alike h.1, va_T.moved hW.alike h.2⟩
theorem SZ.kept {t : Nat} {A A1 : Nat → Prop} {U : State} {H H1 : Heap} (h : SZ t A U H) (hA : ∀ q, q < H.size → A1 q → A q) (hk : ∀ q : Nat, q < H.size → ¬ A q → H1[q]? = H[q]?) : SZ t A1 U H1 := by
  obtain ⟨⟨cf, kf, fi, f, a, cell, h1, h2, h3, h4, h5, h6, h7, h8⟩, ⟨c2, g1, g2, g3, g4, g5, g6, g7⟩⟩ := h
  have la := (Array.getElem?_eq_some_iff.mp h5).1
  have lt := (Array.getElem?_eq_some_iff.mp g1).1
  exact ⟨⟨cf, kf, fi, f, a, cell, h1, h2, h3, h4, by rw [hk a la h8]; exact h5, h6, h7, fun z => h8 (hA a la z)⟩, ⟨c2, by rw [hk t lt g7]; exact g1, g2, g3, g4, g5, g6, fun z => g7 (hA t lt z)⟩⟩
section JSET
variable {l : Launch} {R : Room} {G : JG} {nL : Nat} {X : JX} {Q : State → Prop} {k n pc : Nat} {lv : List (Nat × Value)} {st : List Value} {ws : va_W} {cc : ByteArray} {own : String} {ret : Option FieldType} {tb : List (Nat × ClassFile.Instr × Nat)}
theorem J_gets {t : Nat} (C : Cx G nL X cc own ret tb) (j : Nat) {index : Nat} (Z : SZ t X.2.2.2.2.2.2.2.2 X.2.2.1 X.2.2.1.heap) (hd : tb[j]? = some (pc, .getstatic index, 3)) (hlink : Cond.fieldLink own index "ExamHalls" "HIGHEST_SETTINGS" "[I" ∈ TB) (kk : J l R G nL X Q k n (pc + 3) lv (.ref t :: st) ws) : J l R G nL X Q k n pc lv st ws :=
  fun H locs ls hP hD hS h => va_gets C.1 C.2.1 Z.1 hS C.2.2.2.1 (C.2.2.2.2.1 _ hlink) (fun _ h9 => h9) (C.d j hd) (kk H locs ls hP hD hS h)
theorem J_tald {t : Nat} (C : Cx G nL X cc own ret tb) (j : Nat) {i : Int32} (Z : SZ t X.2.2.2.2.2.2.2.2 X.2.2.1 X.2.2.1.heap) (hd : tb[j]? = some (pc, .iaload, 1)) (hi : inb i 3 = true) (kk : J l R G nL X Q k n (pc + 1) lv (.int (hsv i.toNatClampNeg) :: st) ws) : J l R G nL X Q k n pc lv (.int i :: .ref t :: st) ws :=
  fun H locs ls hP hD hS h => va_ti C.1 C.2.1 Z.2 hS (inb_in hi) rfl (C.d j hd) (kk H locs ls hP hD hS h)
def JPcZ (t : Nat) (G : JG) (av : List Value) (sz : Nat) (ws : va_W) : Array Value → State → Prop := va_Pc av (fun U => U.heap.size = sz ∧ va_P G.1 vwCl ws U.heap ∧ KK G U ∧ va_D (fun _ => True) ws ∧ SZ t (va_A ws sz) U U.heap)
def JMZ (t : Nat) (l : Launch) (G : JG) (y : MethodName) (b : ByteArray) (nL : Nat) (ret : Option FieldType) (fr lo : Nat) (av : List Value) (ws ws' : va_W) (r : Option Value) : Prop :=
  ∀ sz : Nat, Met l y (.code y b nL ret :: TB) { frames := fr, cells := 0, slots := 0, locals := lo } (JPcZ t G av sz ws) (JQ G r ws' (va_A ws sz)) 0 0 (va_A ws sz)
theorem JMZ.of {t : Nat} {y : MethodName} {b : ByteArray} {fr lo : Nat} {av : List Value} {ws' : va_W} {r : Option Value} (hy : plainName y.cls = true) (hlen : (lg_sl av).length ≤ nL) (hT : ∀ q ∈ tb, decode b q.1 = .ok q.2) (ho : y.cls = own)
    (body : ∀ X : JX, Cx G nL X b own ret tb → SZ t X.2.2.2.2.2.2.2.2 X.2.2.1 X.2.2.1.heap → J l { frames := fr, cells := 0, slots := 0, locals := lo } G nL X (QM X G 0 0 r ws') 0 0 0 (lv_args 0 av) [] ws) : JMZ t l G y b nL ret fr lo av ws ws' r := by
  intro sz
  refine Met.ofW (cc := b) (maxL := nL) (ret := ret) hy rfl ?_
  intro p e s m args below meth c s₁ B hml hv
  obtain ⟨rfl, hsz, hP, hK, hD0, hZ⟩ := hv
  have hts := atoms_spec (ws := .code y b nL ret :: TB) B.pre
  have hown : s.vm.findClass y.cls = some m.cls := findClass_of_methodNamed B.named
  rw [ho] at hown
  subst hsz
  have hD := hD0.self (sz := s.heap.size)
  have Z := body (p, e, s, m, av.toArray, below, meth, c, va_A ws s.heap.size) ⟨B.exec, B.bytes, hml, hown, fun w hw => hts w (List.mem_cons_of_mem _ hw), hK, fun q h => Or.inr h, B.notSynchronized, B.returns, hT⟩ hZ
  rw [lg_entry_eq]
  exact Z s.heap [] _ hP hD va_S.rf (lv_entry av hlen)
end JSET

def T_X4_contains : List (Nat × ClassFile.Instr × Nat) := [(0, .iload_n 0, 1), (1, .iload_n 1, 1), (2, .ishr, 1), (3, .iconst 1, 1), (4, .iand, 1), (5, .iconst 1, 1), (6, .if_icmp .ne 7, 3), (9, .iconst 1, 1), (10, .goto 4, 3), (13, .iconst 0, 1), (14, .ireturn, 1)]
theorem D_X4_contains : ∀ q ∈ T_X4_contains, decode cX4_contains q.1 = .ok q.2 := by decide +kernel
theorem V_X4_contains : Vy yX4_contains cX4_contains 2 (some .boolean) 2 := ⟨k53, k56, by decide +kernel⟩
theorem t_X4_contains : Cond.static yX4_contains ∈ TB := k55
noncomputable def f_X4_contains  (x0 : Int32) (x1 : Int32) : Option (Int32) :=
  (if ((x0 >>> (x1 &&& 31)) &&& (1 : Int32)) = (1 : Int32) then some (1 : Int32) else some (0 : Int32))
set_option maxRecDepth 100000 in
set_option maxHeartbeats 4000000 in
theorem c_X4_contains {l : Launch} {G : JG}   (x0 : Int32) (x1 : Int32) {Rz : Int32} (h : f_X4_contains x0 x1 = some Rz) : JM l G yX4_contains cX4_contains 2 (some .boolean) 0 0 [.int x0, .int x1] ([] : va_W) ([] : va_W) (some (.int Rz)) := by
  refine JM.of (own := RX4) (tb := T_X4_contains) (by decide) (Nat.le_of_ble_eq_true rfl) D_X4_contains rfl (fun X C => ?_)
  refine J_sub (lv' := [(0, .int x0), (1, .int x1)]) [0, 1] rfl ?_
  unfold f_X4_contains at h
  refine J_iload_n (pc := 0) C 0 rfl 0 rfl rfl ?_
  refine J_iload_n (pc := 1) C 1 rfl 1 rfl rfl ?_
  refine J_ishr (pc := 2) C 2 rfl  ?_
  refine J_iconst (pc := 3) (v := (1 : Int32)) C 3 rfl rfl ?_
  refine J_iand (pc := 4) C 4 rfl  ?_
  refine J_iconst (pc := 5) (v := (1 : Int32)) C 5 rfl rfl ?_
  refine J_icmp_ne (pc := 6) (tgt := 13) C 6 rfl rfl (fun c1 => ?_) (fun c1 => ?_)
  · rw [if_neg c1] at h
    refine J_iconst (pc := 13) (v := (0 : Int32)) C 9 rfl rfl ?_
    cases h
    exact J_zret (pc := 14) C 10 rfl rfl
  · rw [if_pos c1] at h
    refine J_iconst (pc := 9) (v := (1 : Int32)) C 7 rfl rfl ?_
    refine J_goto (pc := 10) (tgt := 14) C 8 rfl rfl ?_
    cases h
    exact J_zret (pc := 14) C 10 rfl rfl
def T_J6_bitCount_0f7a4 : List (Nat × ClassFile.Instr × Nat) := [(0, .iload_n 0, 1), (1, .iload_n 0, 1), (2, .iconst 1, 1), (3, .iushr, 1), (4, .ldc_w 265, 3), (7, .iand, 1), (8, .isub, 1), (9, .istore_n 0, 1), (10, .iload_n 0, 1), (11, .ldc_w 266, 3), (14, .iand, 1), (15, .iload_n 0, 1), (16, .iconst 2, 1), (17, .iushr, 1), (18, .ldc_w 266, 3), (21, .iand, 1), (22, .iadd, 1), (23, .istore_n 0, 1), (24, .iload_n 0, 1), (25, .iload_n 0, 1), (26, .iconst 4, 1), (27, .iushr, 1), (28, .iadd, 1), (29, .ldc_w 267, 3), (32, .iand, 1), (33, .istore_n 0, 1), (34, .iload_n 0, 1), (35, .iload_n 0, 1), (36, .bipush 8, 2), (38, .iushr, 1), (39, .iadd, 1), (40, .istore_n 0, 1), (41, .iload_n 0, 1), (42, .iload_n 0, 1), (43, .bipush 16, 2), (45, .iushr, 1), (46, .iadd, 1), (47, .istore_n 0, 1), (48, .iload_n 0, 1), (49, .bipush 63, 2), (51, .iand, 1), (52, .ireturn, 1)]
theorem D_J6_bitCount_0f7a4 : ∀ q ∈ T_J6_bitCount_0f7a4, decode cJ6_bitCount_0f7a4 q.1 = .ok q.2 := by decide +kernel
theorem V_J6_bitCount_0f7a4 : Vy yJ6_bitCount_0f7a4 cJ6_bitCount_0f7a4 1 (some .int) 1 := ⟨k70, k77, by decide +kernel⟩
theorem t_J6_bitCount_0f7a4 : Cond.static yJ6_bitCount_0f7a4 ∈ TB := k76
noncomputable def f_J6_bitCount_0f7a4  (x0 : Int32) : Option (Int32) :=
  some ((((((((x0 - ((UInt32.toInt32 (Int32.toUInt32 x0 >>> (Int32.toUInt32 (1 : Int32) &&& Int32.toUInt32 31))) &&& (1431655765 : Int32))) &&& (858993459 : Int32)) + ((UInt32.toInt32 (Int32.toUInt32 (x0 - ((UInt32.toInt32 (Int32.toUInt32 x0 >>> (Int32.toUInt32 (1 : Int32) &&& Int32.toUInt32 31))) &&& (1431655765 : Int32))) >>> (Int32.toUInt32 (2 : Int32) &&& Int32.toUInt32 31))) &&& (858993459 : Int32))) + (UInt32.toInt32 (Int32.toUInt32 (((x0 - ((UInt32.toInt32 (Int32.toUInt32 x0 >>> (Int32.toUInt32 (1 : Int32) &&& Int32.toUInt32 31))) &&& (1431655765 : Int32))) &&& (858993459 : Int32)) + ((UInt32.toInt32 (Int32.toUInt32 (x0 - ((UInt32.toInt32 (Int32.toUInt32 x0 >>> (Int32.toUInt32 (1 : Int32) &&& Int32.toUInt32 31))) &&& (1431655765 : Int32))) >>> (Int32.toUInt32 (2 : Int32) &&& Int32.toUInt32 31))) &&& (858993459 : Int32))) >>> (Int32.toUInt32 (4 : Int32) &&& Int32.toUInt32 31)))) &&& (252645135 : Int32)) + (UInt32.toInt32 (Int32.toUInt32 (((((x0 - ((UInt32.toInt32 (Int32.toUInt32 x0 >>> (Int32.toUInt32 (1 : Int32) &&& Int32.toUInt32 31))) &&& (1431655765 : Int32))) &&& (858993459 : Int32)) + ((UInt32.toInt32 (Int32.toUInt32 (x0 - ((UInt32.toInt32 (Int32.toUInt32 x0 >>> (Int32.toUInt32 (1 : Int32) &&& Int32.toUInt32 31))) &&& (1431655765 : Int32))) >>> (Int32.toUInt32 (2 : Int32) &&& Int32.toUInt32 31))) &&& (858993459 : Int32))) + (UInt32.toInt32 (Int32.toUInt32 (((x0 - ((UInt32.toInt32 (Int32.toUInt32 x0 >>> (Int32.toUInt32 (1 : Int32) &&& Int32.toUInt32 31))) &&& (1431655765 : Int32))) &&& (858993459 : Int32)) + ((UInt32.toInt32 (Int32.toUInt32 (x0 - ((UInt32.toInt32 (Int32.toUInt32 x0 >>> (Int32.toUInt32 (1 : Int32) &&& Int32.toUInt32 31))) &&& (1431655765 : Int32))) >>> (Int32.toUInt32 (2 : Int32) &&& Int32.toUInt32 31))) &&& (858993459 : Int32))) >>> (Int32.toUInt32 (4 : Int32) &&& Int32.toUInt32 31)))) &&& (252645135 : Int32)) >>> (Int32.toUInt32 (8 : Int32) &&& Int32.toUInt32 31)))) + (UInt32.toInt32 (Int32.toUInt32 ((((((x0 - ((UInt32.toInt32 (Int32.toUInt32 x0 >>> (Int32.toUInt32 (1 : Int32) &&& Int32.toUInt32 31))) &&& (1431655765 : Int32))) &&& (858993459 : Int32)) + ((UInt32.toInt32 (Int32.toUInt32 (x0 - ((UInt32.toInt32 (Int32.toUInt32 x0 >>> (Int32.toUInt32 (1 : Int32) &&& Int32.toUInt32 31))) &&& (1431655765 : Int32))) >>> (Int32.toUInt32 (2 : Int32) &&& Int32.toUInt32 31))) &&& (858993459 : Int32))) + (UInt32.toInt32 (Int32.toUInt32 (((x0 - ((UInt32.toInt32 (Int32.toUInt32 x0 >>> (Int32.toUInt32 (1 : Int32) &&& Int32.toUInt32 31))) &&& (1431655765 : Int32))) &&& (858993459 : Int32)) + ((UInt32.toInt32 (Int32.toUInt32 (x0 - ((UInt32.toInt32 (Int32.toUInt32 x0 >>> (Int32.toUInt32 (1 : Int32) &&& Int32.toUInt32 31))) &&& (1431655765 : Int32))) >>> (Int32.toUInt32 (2 : Int32) &&& Int32.toUInt32 31))) &&& (858993459 : Int32))) >>> (Int32.toUInt32 (4 : Int32) &&& Int32.toUInt32 31)))) &&& (252645135 : Int32)) + (UInt32.toInt32 (Int32.toUInt32 (((((x0 - ((UInt32.toInt32 (Int32.toUInt32 x0 >>> (Int32.toUInt32 (1 : Int32) &&& Int32.toUInt32 31))) &&& (1431655765 : Int32))) &&& (858993459 : Int32)) + ((UInt32.toInt32 (Int32.toUInt32 (x0 - ((UInt32.toInt32 (Int32.toUInt32 x0 >>> (Int32.toUInt32 (1 : Int32) &&& Int32.toUInt32 31))) &&& (1431655765 : Int32))) >>> (Int32.toUInt32 (2 : Int32) &&& Int32.toUInt32 31))) &&& (858993459 : Int32))) + (UInt32.toInt32 (Int32.toUInt32 (((x0 - ((UInt32.toInt32 (Int32.toUInt32 x0 >>> (Int32.toUInt32 (1 : Int32) &&& Int32.toUInt32 31))) &&& (1431655765 : Int32))) &&& (858993459 : Int32)) + ((UInt32.toInt32 (Int32.toUInt32 (x0 - ((UInt32.toInt32 (Int32.toUInt32 x0 >>> (Int32.toUInt32 (1 : Int32) &&& Int32.toUInt32 31))) &&& (1431655765 : Int32))) >>> (Int32.toUInt32 (2 : Int32) &&& Int32.toUInt32 31))) &&& (858993459 : Int32))) >>> (Int32.toUInt32 (4 : Int32) &&& Int32.toUInt32 31)))) &&& (252645135 : Int32)) >>> (Int32.toUInt32 (8 : Int32) &&& Int32.toUInt32 31)))) >>> (Int32.toUInt32 (16 : Int32) &&& Int32.toUInt32 31)))) &&& (63 : Int32))
set_option maxRecDepth 100000 in
set_option maxHeartbeats 4000000 in
theorem c_J6_bitCount_0f7a4 {l : Launch} {G : JG}   (x0 : Int32) {Rz : Int32} (h : f_J6_bitCount_0f7a4 x0 = some Rz) : JM l G yJ6_bitCount_0f7a4 cJ6_bitCount_0f7a4 1 (some .int) 0 0 [.int x0] ([] : va_W) ([] : va_W) (some (.int Rz)) := by
  refine JM.of (own := RJ6) (tb := T_J6_bitCount_0f7a4) (by decide) (Nat.le_of_ble_eq_true rfl) D_J6_bitCount_0f7a4 rfl (fun X C => ?_)
  refine J_sub (lv' := [(0, .int x0)]) [0] rfl ?_
  unfold f_J6_bitCount_0f7a4 at h
  refine J_iload_n (pc := 0) C 0 rfl 0 rfl rfl ?_
  refine J_iload_n (pc := 1) C 1 rfl 0 rfl rfl ?_
  refine J_iconst (pc := 2) (v := (1 : Int32)) C 2 rfl rfl ?_
  refine J_iushr (pc := 3) C 3 rfl  ?_
  refine J_ldc_w (pc := 4) (v := (1431655765 : Int32)) C 4 rfl k71 ?_
  refine J_iand (pc := 7) C 5 rfl  ?_
  refine J_isub (pc := 8) C 6 rfl  ?_
  refine J_istore_n (pc := 9) (lv' := [(0, .int (x0 - ((UInt32.toInt32 (Int32.toUInt32 x0 >>> (Int32.toUInt32 (1 : Int32) &&& Int32.toUInt32 31))) &&& (1431655765 : Int32))))]) C 7 rfl rfl (by decide) rfl ?_
  refine J_iload_n (pc := 10) C 8 rfl 0 rfl rfl ?_
  refine J_ldc_w (pc := 11) (v := (858993459 : Int32)) C 9 rfl k72 ?_
  refine J_iand (pc := 14) C 10 rfl  ?_
  refine J_iload_n (pc := 15) C 11 rfl 0 rfl rfl ?_
  refine J_iconst (pc := 16) (v := (2 : Int32)) C 12 rfl rfl ?_
  refine J_iushr (pc := 17) C 13 rfl  ?_
  refine J_ldc_w (pc := 18) (v := (858993459 : Int32)) C 14 rfl k72 ?_
  refine J_iand (pc := 21) C 15 rfl  ?_
  refine J_iadd (pc := 22) C 16 rfl  ?_
  refine J_istore_n (pc := 23) (lv' := [(0, .int (((x0 - ((UInt32.toInt32 (Int32.toUInt32 x0 >>> (Int32.toUInt32 (1 : Int32) &&& Int32.toUInt32 31))) &&& (1431655765 : Int32))) &&& (858993459 : Int32)) + ((UInt32.toInt32 (Int32.toUInt32 (x0 - ((UInt32.toInt32 (Int32.toUInt32 x0 >>> (Int32.toUInt32 (1 : Int32) &&& Int32.toUInt32 31))) &&& (1431655765 : Int32))) >>> (Int32.toUInt32 (2 : Int32) &&& Int32.toUInt32 31))) &&& (858993459 : Int32))))]) C 17 rfl rfl (by decide) rfl ?_
  refine J_iload_n (pc := 24) C 18 rfl 0 rfl rfl ?_
  refine J_iload_n (pc := 25) C 19 rfl 0 rfl rfl ?_
  refine J_iconst (pc := 26) (v := (4 : Int32)) C 20 rfl rfl ?_
  refine J_iushr (pc := 27) C 21 rfl  ?_
  refine J_iadd (pc := 28) C 22 rfl  ?_
  refine J_ldc_w (pc := 29) (v := (252645135 : Int32)) C 23 rfl k73 ?_
  refine J_iand (pc := 32) C 24 rfl  ?_
  refine J_istore_n (pc := 33) (lv' := [(0, .int (((((x0 - ((UInt32.toInt32 (Int32.toUInt32 x0 >>> (Int32.toUInt32 (1 : Int32) &&& Int32.toUInt32 31))) &&& (1431655765 : Int32))) &&& (858993459 : Int32)) + ((UInt32.toInt32 (Int32.toUInt32 (x0 - ((UInt32.toInt32 (Int32.toUInt32 x0 >>> (Int32.toUInt32 (1 : Int32) &&& Int32.toUInt32 31))) &&& (1431655765 : Int32))) >>> (Int32.toUInt32 (2 : Int32) &&& Int32.toUInt32 31))) &&& (858993459 : Int32))) + (UInt32.toInt32 (Int32.toUInt32 (((x0 - ((UInt32.toInt32 (Int32.toUInt32 x0 >>> (Int32.toUInt32 (1 : Int32) &&& Int32.toUInt32 31))) &&& (1431655765 : Int32))) &&& (858993459 : Int32)) + ((UInt32.toInt32 (Int32.toUInt32 (x0 - ((UInt32.toInt32 (Int32.toUInt32 x0 >>> (Int32.toUInt32 (1 : Int32) &&& Int32.toUInt32 31))) &&& (1431655765 : Int32))) >>> (Int32.toUInt32 (2 : Int32) &&& Int32.toUInt32 31))) &&& (858993459 : Int32))) >>> (Int32.toUInt32 (4 : Int32) &&& Int32.toUInt32 31)))) &&& (252645135 : Int32)))]) C 25 rfl rfl (by decide) rfl ?_
  refine J_iload_n (pc := 34) C 26 rfl 0 rfl rfl ?_
  refine J_iload_n (pc := 35) C 27 rfl 0 rfl rfl ?_
  refine J_bipush (pc := 36) (v := (8 : Int32)) C 28 rfl rfl ?_
  refine J_iushr (pc := 38) C 29 rfl  ?_
  refine J_iadd (pc := 39) C 30 rfl  ?_
  refine J_istore_n (pc := 40) (lv' := [(0, .int ((((((x0 - ((UInt32.toInt32 (Int32.toUInt32 x0 >>> (Int32.toUInt32 (1 : Int32) &&& Int32.toUInt32 31))) &&& (1431655765 : Int32))) &&& (858993459 : Int32)) + ((UInt32.toInt32 (Int32.toUInt32 (x0 - ((UInt32.toInt32 (Int32.toUInt32 x0 >>> (Int32.toUInt32 (1 : Int32) &&& Int32.toUInt32 31))) &&& (1431655765 : Int32))) >>> (Int32.toUInt32 (2 : Int32) &&& Int32.toUInt32 31))) &&& (858993459 : Int32))) + (UInt32.toInt32 (Int32.toUInt32 (((x0 - ((UInt32.toInt32 (Int32.toUInt32 x0 >>> (Int32.toUInt32 (1 : Int32) &&& Int32.toUInt32 31))) &&& (1431655765 : Int32))) &&& (858993459 : Int32)) + ((UInt32.toInt32 (Int32.toUInt32 (x0 - ((UInt32.toInt32 (Int32.toUInt32 x0 >>> (Int32.toUInt32 (1 : Int32) &&& Int32.toUInt32 31))) &&& (1431655765 : Int32))) >>> (Int32.toUInt32 (2 : Int32) &&& Int32.toUInt32 31))) &&& (858993459 : Int32))) >>> (Int32.toUInt32 (4 : Int32) &&& Int32.toUInt32 31)))) &&& (252645135 : Int32)) + (UInt32.toInt32 (Int32.toUInt32 (((((x0 - ((UInt32.toInt32 (Int32.toUInt32 x0 >>> (Int32.toUInt32 (1 : Int32) &&& Int32.toUInt32 31))) &&& (1431655765 : Int32))) &&& (858993459 : Int32)) + ((UInt32.toInt32 (Int32.toUInt32 (x0 - ((UInt32.toInt32 (Int32.toUInt32 x0 >>> (Int32.toUInt32 (1 : Int32) &&& Int32.toUInt32 31))) &&& (1431655765 : Int32))) >>> (Int32.toUInt32 (2 : Int32) &&& Int32.toUInt32 31))) &&& (858993459 : Int32))) + (UInt32.toInt32 (Int32.toUInt32 (((x0 - ((UInt32.toInt32 (Int32.toUInt32 x0 >>> (Int32.toUInt32 (1 : Int32) &&& Int32.toUInt32 31))) &&& (1431655765 : Int32))) &&& (858993459 : Int32)) + ((UInt32.toInt32 (Int32.toUInt32 (x0 - ((UInt32.toInt32 (Int32.toUInt32 x0 >>> (Int32.toUInt32 (1 : Int32) &&& Int32.toUInt32 31))) &&& (1431655765 : Int32))) >>> (Int32.toUInt32 (2 : Int32) &&& Int32.toUInt32 31))) &&& (858993459 : Int32))) >>> (Int32.toUInt32 (4 : Int32) &&& Int32.toUInt32 31)))) &&& (252645135 : Int32)) >>> (Int32.toUInt32 (8 : Int32) &&& Int32.toUInt32 31)))))]) C 31 rfl rfl (by decide) rfl ?_
  refine J_iload_n (pc := 41) C 32 rfl 0 rfl rfl ?_
  refine J_iload_n (pc := 42) C 33 rfl 0 rfl rfl ?_
  refine J_bipush (pc := 43) (v := (16 : Int32)) C 34 rfl rfl ?_
  refine J_iushr (pc := 45) C 35 rfl  ?_
  refine J_iadd (pc := 46) C 36 rfl  ?_
  refine J_istore_n (pc := 47) (lv' := [(0, .int (((((((x0 - ((UInt32.toInt32 (Int32.toUInt32 x0 >>> (Int32.toUInt32 (1 : Int32) &&& Int32.toUInt32 31))) &&& (1431655765 : Int32))) &&& (858993459 : Int32)) + ((UInt32.toInt32 (Int32.toUInt32 (x0 - ((UInt32.toInt32 (Int32.toUInt32 x0 >>> (Int32.toUInt32 (1 : Int32) &&& Int32.toUInt32 31))) &&& (1431655765 : Int32))) >>> (Int32.toUInt32 (2 : Int32) &&& Int32.toUInt32 31))) &&& (858993459 : Int32))) + (UInt32.toInt32 (Int32.toUInt32 (((x0 - ((UInt32.toInt32 (Int32.toUInt32 x0 >>> (Int32.toUInt32 (1 : Int32) &&& Int32.toUInt32 31))) &&& (1431655765 : Int32))) &&& (858993459 : Int32)) + ((UInt32.toInt32 (Int32.toUInt32 (x0 - ((UInt32.toInt32 (Int32.toUInt32 x0 >>> (Int32.toUInt32 (1 : Int32) &&& Int32.toUInt32 31))) &&& (1431655765 : Int32))) >>> (Int32.toUInt32 (2 : Int32) &&& Int32.toUInt32 31))) &&& (858993459 : Int32))) >>> (Int32.toUInt32 (4 : Int32) &&& Int32.toUInt32 31)))) &&& (252645135 : Int32)) + (UInt32.toInt32 (Int32.toUInt32 (((((x0 - ((UInt32.toInt32 (Int32.toUInt32 x0 >>> (Int32.toUInt32 (1 : Int32) &&& Int32.toUInt32 31))) &&& (1431655765 : Int32))) &&& (858993459 : Int32)) + ((UInt32.toInt32 (Int32.toUInt32 (x0 - ((UInt32.toInt32 (Int32.toUInt32 x0 >>> (Int32.toUInt32 (1 : Int32) &&& Int32.toUInt32 31))) &&& (1431655765 : Int32))) >>> (Int32.toUInt32 (2 : Int32) &&& Int32.toUInt32 31))) &&& (858993459 : Int32))) + (UInt32.toInt32 (Int32.toUInt32 (((x0 - ((UInt32.toInt32 (Int32.toUInt32 x0 >>> (Int32.toUInt32 (1 : Int32) &&& Int32.toUInt32 31))) &&& (1431655765 : Int32))) &&& (858993459 : Int32)) + ((UInt32.toInt32 (Int32.toUInt32 (x0 - ((UInt32.toInt32 (Int32.toUInt32 x0 >>> (Int32.toUInt32 (1 : Int32) &&& Int32.toUInt32 31))) &&& (1431655765 : Int32))) >>> (Int32.toUInt32 (2 : Int32) &&& Int32.toUInt32 31))) &&& (858993459 : Int32))) >>> (Int32.toUInt32 (4 : Int32) &&& Int32.toUInt32 31)))) &&& (252645135 : Int32)) >>> (Int32.toUInt32 (8 : Int32) &&& Int32.toUInt32 31)))) + (UInt32.toInt32 (Int32.toUInt32 ((((((x0 - ((UInt32.toInt32 (Int32.toUInt32 x0 >>> (Int32.toUInt32 (1 : Int32) &&& Int32.toUInt32 31))) &&& (1431655765 : Int32))) &&& (858993459 : Int32)) + ((UInt32.toInt32 (Int32.toUInt32 (x0 - ((UInt32.toInt32 (Int32.toUInt32 x0 >>> (Int32.toUInt32 (1 : Int32) &&& Int32.toUInt32 31))) &&& (1431655765 : Int32))) >>> (Int32.toUInt32 (2 : Int32) &&& Int32.toUInt32 31))) &&& (858993459 : Int32))) + (UInt32.toInt32 (Int32.toUInt32 (((x0 - ((UInt32.toInt32 (Int32.toUInt32 x0 >>> (Int32.toUInt32 (1 : Int32) &&& Int32.toUInt32 31))) &&& (1431655765 : Int32))) &&& (858993459 : Int32)) + ((UInt32.toInt32 (Int32.toUInt32 (x0 - ((UInt32.toInt32 (Int32.toUInt32 x0 >>> (Int32.toUInt32 (1 : Int32) &&& Int32.toUInt32 31))) &&& (1431655765 : Int32))) >>> (Int32.toUInt32 (2 : Int32) &&& Int32.toUInt32 31))) &&& (858993459 : Int32))) >>> (Int32.toUInt32 (4 : Int32) &&& Int32.toUInt32 31)))) &&& (252645135 : Int32)) + (UInt32.toInt32 (Int32.toUInt32 (((((x0 - ((UInt32.toInt32 (Int32.toUInt32 x0 >>> (Int32.toUInt32 (1 : Int32) &&& Int32.toUInt32 31))) &&& (1431655765 : Int32))) &&& (858993459 : Int32)) + ((UInt32.toInt32 (Int32.toUInt32 (x0 - ((UInt32.toInt32 (Int32.toUInt32 x0 >>> (Int32.toUInt32 (1 : Int32) &&& Int32.toUInt32 31))) &&& (1431655765 : Int32))) >>> (Int32.toUInt32 (2 : Int32) &&& Int32.toUInt32 31))) &&& (858993459 : Int32))) + (UInt32.toInt32 (Int32.toUInt32 (((x0 - ((UInt32.toInt32 (Int32.toUInt32 x0 >>> (Int32.toUInt32 (1 : Int32) &&& Int32.toUInt32 31))) &&& (1431655765 : Int32))) &&& (858993459 : Int32)) + ((UInt32.toInt32 (Int32.toUInt32 (x0 - ((UInt32.toInt32 (Int32.toUInt32 x0 >>> (Int32.toUInt32 (1 : Int32) &&& Int32.toUInt32 31))) &&& (1431655765 : Int32))) >>> (Int32.toUInt32 (2 : Int32) &&& Int32.toUInt32 31))) &&& (858993459 : Int32))) >>> (Int32.toUInt32 (4 : Int32) &&& Int32.toUInt32 31)))) &&& (252645135 : Int32)) >>> (Int32.toUInt32 (8 : Int32) &&& Int32.toUInt32 31)))) >>> (Int32.toUInt32 (16 : Int32) &&& Int32.toUInt32 31)))))]) C 37 rfl rfl (by decide) rfl ?_
  refine J_iload_n (pc := 48) C 38 rfl 0 rfl rfl ?_
  refine J_bipush (pc := 49) (v := (63 : Int32)) C 39 rfl rfl ?_
  refine J_iand (pc := 51) C 40 rfl  ?_
  cases h
  exact J_iret (pc := 52) C 41 rfl
def T_X4_sittingNumber : List (Nat × ClassFile.Instr × Nat) := [(0, .bipush 6, 2), (2, .iload_n 0, 1), (3, .imul, 1), (4, .iload_n 1, 1), (5, .iadd, 1), (6, .ireturn, 1)]
theorem D_X4_sittingNumber : ∀ q ∈ T_X4_sittingNumber, decode cX4_sittingNumber q.1 = .ok q.2 := by decide +kernel
theorem V_X4_sittingNumber : Vy yX4_sittingNumber cX4_sittingNumber 2 (some .int) 2 := ⟨k134, k56, by decide +kernel⟩
theorem t_X4_sittingNumber : Cond.static yX4_sittingNumber ∈ TB := k139
noncomputable def f_X4_sittingNumber  (x0 : Int32) (x1 : Int32) : Option (Int32) :=
  some (((6 : Int32) * x0) + x1)
set_option maxRecDepth 100000 in
set_option maxHeartbeats 4000000 in
theorem c_X4_sittingNumber {l : Launch} {G : JG}   (x0 : Int32) (x1 : Int32) {Rz : Int32} (h : f_X4_sittingNumber x0 x1 = some Rz) : JM l G yX4_sittingNumber cX4_sittingNumber 2 (some .int) 0 0 [.int x0, .int x1] ([] : va_W) ([] : va_W) (some (.int Rz)) := by
  refine JM.of (own := RX4) (tb := T_X4_sittingNumber) (by decide) (Nat.le_of_ble_eq_true rfl) D_X4_sittingNumber rfl (fun X C => ?_)
  refine J_sub (lv' := [(0, .int x0), (1, .int x1)]) [0, 1] rfl ?_
  unfold f_X4_sittingNumber at h
  refine J_bipush (pc := 0) (v := (6 : Int32)) C 0 rfl rfl ?_
  refine J_iload_n (pc := 2) C 1 rfl 0 rfl rfl ?_
  refine J_imul (pc := 3) C 2 rfl  ?_
  refine J_iload_n (pc := 4) C 3 rfl 1 rfl rfl ?_
  refine J_iadd (pc := 5) C 4 rfl  ?_
  cases h
  exact J_iret (pc := 6) C 5 rfl
def T_X4_isWithin : List (Nat × ClassFile.Instr × Nat) := [(0, .iload_n 0, 1), (1, .iload_n 1, 1), (2, .if_icmp .lt 12, 3), (5, .iload_n 0, 1), (6, .iload_n 2, 1), (7, .if_icmp .gt 7, 3), (10, .iconst 1, 1), (11, .goto 4, 3), (14, .iconst 0, 1), (15, .ireturn, 1)]
theorem D_X4_isWithin : ∀ q ∈ T_X4_isWithin, decode cX4_isWithin q.1 = .ok q.2 := by decide +kernel
theorem V_X4_isWithin : Vy yX4_isWithin cX4_isWithin 3 (some .boolean) 3 := ⟨k218, k56, by decide +kernel⟩
theorem t_X4_isWithin : Cond.static yX4_isWithin ∈ TB := k222
noncomputable def f_X4_isWithin  (x0 : Int32) (x1 : Int32) (x2 : Int32) : Option (Int32) :=
  (if x0 < x1 then some (0 : Int32) else (if x2 < x0 then some (0 : Int32) else some (1 : Int32)))
set_option maxRecDepth 100000 in
set_option maxHeartbeats 4000000 in
theorem c_X4_isWithin {l : Launch} {G : JG}   (x0 : Int32) (x1 : Int32) (x2 : Int32) {Rz : Int32} (h : f_X4_isWithin x0 x1 x2 = some Rz) : JM l G yX4_isWithin cX4_isWithin 3 (some .boolean) 0 0 [.int x0, .int x1, .int x2] ([] : va_W) ([] : va_W) (some (.int Rz)) := by
  refine JM.of (own := RX4) (tb := T_X4_isWithin) (by decide) (Nat.le_of_ble_eq_true rfl) D_X4_isWithin rfl (fun X C => ?_)
  refine J_sub (lv' := [(0, .int x0), (1, .int x1), (2, .int x2)]) [0, 1, 2] rfl ?_
  unfold f_X4_isWithin at h
  refine J_iload_n (pc := 0) C 0 rfl 0 rfl rfl ?_
  refine J_iload_n (pc := 1) C 1 rfl 1 rfl rfl ?_
  refine J_icmp_lt (pc := 2) (tgt := 14) C 2 rfl rfl (fun c1 => ?_) (fun c1 => ?_)
  · rw [if_pos c1] at h
    refine J_iconst (pc := 14) (v := (0 : Int32)) C 8 rfl rfl ?_
    cases h
    exact J_zret (pc := 15) C 9 rfl rfl
  · rw [if_neg c1] at h
    refine J_iload_n (pc := 5) C 3 rfl 0 rfl rfl ?_
    refine J_iload_n (pc := 6) C 4 rfl 2 rfl rfl ?_
    refine J_icmp_gt (pc := 7) (tgt := 14) C 5 rfl rfl (fun c2 => ?_) (fun c2 => ?_)
    · rw [if_pos c2] at h
      refine J_iconst (pc := 14) (v := (0 : Int32)) C 8 rfl rfl ?_
      cases h
      exact J_zret (pc := 15) C 9 rfl rfl
    · rw [if_neg c2] at h
      refine J_iconst (pc := 10) (v := (1 : Int32)) C 6 rfl rfl ?_
      refine J_goto (pc := 11) (tgt := 15) C 7 rfl rfl ?_
      cases h
      exact J_zret (pc := 15) C 9 rfl rfl
def T_X4_isPaper : List (Nat × ClassFile.Instr × Nat) := [(0, .iload_n 0, 1), (1, .iconst 0, 1), (2, .iconst 5, 1), (3, .invokestatic 55, 3), (6, .ireturn, 1)]
theorem D_X4_isPaper : ∀ q ∈ T_X4_isPaper, decode cX4_isPaper q.1 = .ok q.2 := by decide +kernel
theorem V_X4_isPaper : Vy yX4_isPaper cX4_isPaper 1 (some .boolean) 1 := ⟨k227, k56, by decide +kernel⟩
theorem t_X4_isPaper : Cond.static yX4_isPaper ∈ TB := k232
noncomputable def f_X4_isPaper  (x0 : Int32) : Option (Int32) :=
  (f_X4_isWithin x0 (0 : Int32) (5 : Int32)).bind (fun q1 => gd (isb q1) (some q1))
set_option maxRecDepth 100000 in
set_option maxHeartbeats 4000000 in
theorem c_X4_isPaper {l : Launch} {G : JG}   (x0 : Int32) {Rz : Int32} (h : f_X4_isPaper x0 = some Rz) : JM l G yX4_isPaper cX4_isPaper 1 (some .boolean) 1 22 [.int x0] ([] : va_W) ([] : va_W) (some (.int Rz)) := by
  refine JM.of (own := RX4) (tb := T_X4_isPaper) (by decide) (Nat.le_of_ble_eq_true rfl) D_X4_isPaper rfl (fun X C => ?_)
  refine J_sub (lv' := [(0, .int x0)]) [0] rfl ?_
  unfold f_X4_isPaper at h
  refine J_iload_n (pc := 0) C 0 rfl 0 rfl rfl ?_
  refine J_iconst (pc := 1) (v := (0 : Int32)) C 1 rfl rfl ?_
  refine J_iconst (pc := 2) (v := (5 : Int32)) C 2 rfl rfl ?_
  obtain ⟨q1, hq1, h⟩ := bnd h
  refine J_callS (pc := 3) (st2 := []) (st3 := [.int q1]) (ws2 := ([] : va_W)) C 3 rfl (c_X4_isWithin x0 (0 : Int32) (5 : Int32) hq1) V_X4_isWithin k221 t_X4_isWithin rfl rfl ⟨Nat.le_of_ble_eq_true rfl, Nat.le_of_ble_eq_true rfl⟩ (Nat.le_of_ble_eq_true rfl) ⟨Nat.le_refl _, Nat.le_refl _⟩ (isC := []) (isR := []) (N := 0) ⟨rfl, by decide +kernel, rfl, by decide +kernel, rfl, trivial⟩ rfl ?_
  obtain ⟨g2, h⟩ := gd_some h
  cases h
  exact J_zret (pc := 6) C 4 rfl g2
def T_X4_isStart : List (Nat × ClassFile.Instr × Nat) := [(0, .iload_n 0, 1), (1, .iconst 0, 1), (2, .bipush 19, 2), (4, .invokestatic 55, 3), (7, .ireturn, 1)]
theorem D_X4_isStart : ∀ q ∈ T_X4_isStart, decode cX4_isStart q.1 = .ok q.2 := by decide +kernel
theorem V_X4_isStart : Vy yX4_isStart cX4_isStart 1 (some .boolean) 1 := ⟨k228, k56, by decide +kernel⟩
theorem t_X4_isStart : Cond.static yX4_isStart ∈ TB := k234
noncomputable def f_X4_isStart  (x0 : Int32) : Option (Int32) :=
  (f_X4_isWithin x0 (0 : Int32) (19 : Int32)).bind (fun q1 => gd (isb q1) (some q1))
set_option maxRecDepth 100000 in
set_option maxHeartbeats 4000000 in
theorem c_X4_isStart {l : Launch} {G : JG}   (x0 : Int32) {Rz : Int32} (h : f_X4_isStart x0 = some Rz) : JM l G yX4_isStart cX4_isStart 1 (some .boolean) 1 22 [.int x0] ([] : va_W) ([] : va_W) (some (.int Rz)) := by
  refine JM.of (own := RX4) (tb := T_X4_isStart) (by decide) (Nat.le_of_ble_eq_true rfl) D_X4_isStart rfl (fun X C => ?_)
  refine J_sub (lv' := [(0, .int x0)]) [0] rfl ?_
  unfold f_X4_isStart at h
  refine J_iload_n (pc := 0) C 0 rfl 0 rfl rfl ?_
  refine J_iconst (pc := 1) (v := (0 : Int32)) C 1 rfl rfl ?_
  refine J_bipush (pc := 2) (v := (19 : Int32)) C 2 rfl rfl ?_
  obtain ⟨q1, hq1, h⟩ := bnd h
  refine J_callS (pc := 4) (st2 := []) (st3 := [.int q1]) (ws2 := ([] : va_W)) C 3 rfl (c_X4_isWithin x0 (0 : Int32) (19 : Int32) hq1) V_X4_isWithin k221 t_X4_isWithin rfl rfl ⟨Nat.le_of_ble_eq_true rfl, Nat.le_of_ble_eq_true rfl⟩ (Nat.le_of_ble_eq_true rfl) ⟨Nat.le_refl _, Nat.le_refl _⟩ (isC := []) (isR := []) (N := 0) ⟨rfl, by decide +kernel, rfl, by decide +kernel, rfl, trivial⟩ rfl ?_
  obtain ⟨g2, h⟩ := gd_some h
  cases h
  exact J_zret (pc := 7) C 4 rfl g2
def T_X4_isPupilData : List (Nat × ClassFile.Instr × Nat) := [(0, .iload_n 0, 1), (1, .iconst 1, 1), (2, .bipush 63, 2), (4, .invokestatic 55, 3), (7, .ifCond .eq 17, 3), (10, .iload_n 1, 1), (11, .iconst 0, 1), (12, .bipush 100, 2), (14, .invokestatic 55, 3), (17, .ifCond .eq 7, 3), (20, .iconst 1, 1), (21, .goto 4, 3), (24, .iconst 0, 1), (25, .ireturn, 1)]
theorem D_X4_isPupilData : ∀ q ∈ T_X4_isPupilData, decode cX4_isPupilData q.1 = .ok q.2 := by decide +kernel
theorem V_X4_isPupilData : Vy yX4_isPupilData cX4_isPupilData 2 (some .boolean) 2 := ⟨k236, k56, by decide +kernel⟩
theorem t_X4_isPupilData : Cond.static yX4_isPupilData ∈ TB := k239
noncomputable def f_X4_isPupilData  (x0 : Int32) (x1 : Int32) : Option (Int32) :=
  (f_X4_isWithin x0 (1 : Int32) (63 : Int32)).bind (fun q1 => (if q1 = 0 then some (0 : Int32) else (f_X4_isWithin x1 (0 : Int32) (100 : Int32)).bind (fun q3 => (if q3 = 0 then some (0 : Int32) else some (1 : Int32)))))
set_option maxRecDepth 100000 in
set_option maxHeartbeats 4000000 in
theorem c_X4_isPupilData {l : Launch} {G : JG}   (x0 : Int32) (x1 : Int32) {Rz : Int32} (h : f_X4_isPupilData x0 x1 = some Rz) : JM l G yX4_isPupilData cX4_isPupilData 2 (some .boolean) 1 22 [.int x0, .int x1] ([] : va_W) ([] : va_W) (some (.int Rz)) := by
  refine JM.of (own := RX4) (tb := T_X4_isPupilData) (by decide) (Nat.le_of_ble_eq_true rfl) D_X4_isPupilData rfl (fun X C => ?_)
  refine J_sub (lv' := [(0, .int x0), (1, .int x1)]) [0, 1] rfl ?_
  unfold f_X4_isPupilData at h
  refine J_iload_n (pc := 0) C 0 rfl 0 rfl rfl ?_
  refine J_iconst (pc := 1) (v := (1 : Int32)) C 1 rfl rfl ?_
  refine J_bipush (pc := 2) (v := (63 : Int32)) C 2 rfl rfl ?_
  obtain ⟨q1, hq1, h⟩ := bnd h
  refine J_callS (pc := 4) (st2 := []) (st3 := [.int q1]) (ws2 := ([] : va_W)) C 3 rfl (c_X4_isWithin x0 (1 : Int32) (63 : Int32) hq1) V_X4_isWithin k221 t_X4_isWithin rfl rfl ⟨Nat.le_of_ble_eq_true rfl, Nat.le_of_ble_eq_true rfl⟩ (Nat.le_of_ble_eq_true rfl) ⟨Nat.le_refl _, Nat.le_refl _⟩ (isC := []) (isR := []) (N := 0) ⟨rfl, by decide +kernel, rfl, by decide +kernel, rfl, trivial⟩ rfl ?_
  refine J_if_eq (pc := 7) (tgt := 24) C 4 rfl rfl (fun c2 => ?_) (fun c2 => ?_)
  · rw [if_pos c2] at h
    refine J_iconst (pc := 24) (v := (0 : Int32)) C 12 rfl rfl ?_
    cases h
    exact J_zret (pc := 25) C 13 rfl rfl
  · rw [if_neg c2] at h
    refine J_iload_n (pc := 10) C 5 rfl 1 rfl rfl ?_
    refine J_iconst (pc := 11) (v := (0 : Int32)) C 6 rfl rfl ?_
    refine J_bipush (pc := 12) (v := (100 : Int32)) C 7 rfl rfl ?_
    obtain ⟨q3, hq3, h⟩ := bnd h
    refine J_callS (pc := 14) (st2 := []) (st3 := [.int q3]) (ws2 := ([] : va_W)) C 8 rfl (c_X4_isWithin x1 (0 : Int32) (100 : Int32) hq3) V_X4_isWithin k221 t_X4_isWithin rfl rfl ⟨Nat.le_of_ble_eq_true rfl, Nat.le_of_ble_eq_true rfl⟩ (Nat.le_of_ble_eq_true rfl) ⟨Nat.le_refl _, Nat.le_refl _⟩ (isC := []) (isR := []) (N := 0) ⟨rfl, by decide +kernel, rfl, by decide +kernel, rfl, trivial⟩ rfl ?_
    refine J_if_eq (pc := 17) (tgt := 24) C 9 rfl rfl (fun c4 => ?_) (fun c4 => ?_)
    · rw [if_pos c4] at h
      refine J_iconst (pc := 24) (v := (0 : Int32)) C 12 rfl rfl ?_
      cases h
      exact J_zret (pc := 25) C 13 rfl rfl
    · rw [if_neg c4] at h
      refine J_iconst (pc := 20) (v := (1 : Int32)) C 10 rfl rfl ?_
      refine J_goto (pc := 21) (tgt := 25) C 11 rfl rfl ?_
      cases h
      exact J_zret (pc := 25) C 13 rfl rfl
def T_X4_isHall : List (Nat × ClassFile.Instr × Nat) := [(0, .iload_n 0, 1), (1, .iconst 0, 1), (2, .iconst 3, 1), (3, .invokestatic 55, 3), (6, .ireturn, 1)]
theorem D_X4_isHall : ∀ q ∈ T_X4_isHall, decode cX4_isHall q.1 = .ok q.2 := by decide +kernel
theorem V_X4_isHall : Vy yX4_isHall cX4_isHall 1 (some .boolean) 1 := ⟨k256, k56, by decide +kernel⟩
theorem t_X4_isHall : Cond.static yX4_isHall ∈ TB := k260
noncomputable def f_X4_isHall  (x0 : Int32) : Option (Int32) :=
  (f_X4_isWithin x0 (0 : Int32) (3 : Int32)).bind (fun q1 => gd (isb q1) (some q1))
set_option maxRecDepth 100000 in
set_option maxHeartbeats 4000000 in
theorem c_X4_isHall {l : Launch} {G : JG}   (x0 : Int32) {Rz : Int32} (h : f_X4_isHall x0 = some Rz) : JM l G yX4_isHall cX4_isHall 1 (some .boolean) 1 22 [.int x0] ([] : va_W) ([] : va_W) (some (.int Rz)) := by
  refine JM.of (own := RX4) (tb := T_X4_isHall) (by decide) (Nat.le_of_ble_eq_true rfl) D_X4_isHall rfl (fun X C => ?_)
  refine J_sub (lv' := [(0, .int x0)]) [0] rfl ?_
  unfold f_X4_isHall at h
  refine J_iload_n (pc := 0) C 0 rfl 0 rfl rfl ?_
  refine J_iconst (pc := 1) (v := (0 : Int32)) C 1 rfl rfl ?_
  refine J_iconst (pc := 2) (v := (3 : Int32)) C 2 rfl rfl ?_
  obtain ⟨q1, hq1, h⟩ := bnd h
  refine J_callS (pc := 3) (st2 := []) (st3 := [.int q1]) (ws2 := ([] : va_W)) C 3 rfl (c_X4_isWithin x0 (0 : Int32) (3 : Int32) hq1) V_X4_isWithin k221 t_X4_isWithin rfl rfl ⟨Nat.le_of_ble_eq_true rfl, Nat.le_of_ble_eq_true rfl⟩ (Nat.le_of_ble_eq_true rfl) ⟨Nat.le_refl _, Nat.le_refl _⟩ (isC := []) (isR := []) (N := 0) ⟨rfl, by decide +kernel, rfl, by decide +kernel, rfl, trivial⟩ rfl ?_
  obtain ⟨g2, h⟩ := gd_some h
  cases h
  exact J_zret (pc := 6) C 4 rfl g2
def T_X4_isSlot : List (Nat × ClassFile.Instr × Nat) := [(0, .iload_n 0, 1), (1, .iconst 0, 1), (2, .iconst 1, 1), (3, .invokestatic 55, 3), (6, .ireturn, 1)]
theorem D_X4_isSlot : ∀ q ∈ T_X4_isSlot, decode cX4_isSlot q.1 = .ok q.2 := by decide +kernel
theorem V_X4_isSlot : Vy yX4_isSlot cX4_isSlot 1 (some .boolean) 1 := ⟨k335, k56, by decide +kernel⟩
theorem t_X4_isSlot : Cond.static yX4_isSlot ∈ TB := k337
noncomputable def f_X4_isSlot  (x0 : Int32) : Option (Int32) :=
  (f_X4_isWithin x0 (0 : Int32) (1 : Int32)).bind (fun q1 => gd (isb q1) (some q1))
set_option maxRecDepth 100000 in
set_option maxHeartbeats 4000000 in
theorem c_X4_isSlot {l : Launch} {G : JG}   (x0 : Int32) {Rz : Int32} (h : f_X4_isSlot x0 = some Rz) : JM l G yX4_isSlot cX4_isSlot 1 (some .boolean) 1 22 [.int x0] ([] : va_W) ([] : va_W) (some (.int Rz)) := by
  refine JM.of (own := RX4) (tb := T_X4_isSlot) (by decide) (Nat.le_of_ble_eq_true rfl) D_X4_isSlot rfl (fun X C => ?_)
  refine J_sub (lv' := [(0, .int x0)]) [0] rfl ?_
  unfold f_X4_isSlot at h
  refine J_iload_n (pc := 0) C 0 rfl 0 rfl rfl ?_
  refine J_iconst (pc := 1) (v := (0 : Int32)) C 1 rfl rfl ?_
  refine J_iconst (pc := 2) (v := (1 : Int32)) C 2 rfl rfl ?_
  obtain ⟨q1, hq1, h⟩ := bnd h
  refine J_callS (pc := 3) (st2 := []) (st3 := [.int q1]) (ws2 := ([] : va_W)) C 3 rfl (c_X4_isWithin x0 (0 : Int32) (1 : Int32) hq1) V_X4_isWithin k221 t_X4_isWithin rfl rfl ⟨Nat.le_of_ble_eq_true rfl, Nat.le_of_ble_eq_true rfl⟩ (Nat.le_of_ble_eq_true rfl) ⟨Nat.le_refl _, Nat.le_refl _⟩ (isC := []) (isR := []) (N := 0) ⟨rfl, by decide +kernel, rfl, by decide +kernel, rfl, trivial⟩ rfl ?_
  obtain ⟨g2, h⟩ := gd_some h
  cases h
  exact J_zret (pc := 6) C 4 rfl g2
