/-! ===== a frame over the kit: the judgement J (heap, locals and their facts hidden), contracts JM ===== -/
abbrev JG : Type := va_G × (Nat → ClassId)
def tysG (G : JG) : List (ClassId × FieldType) := [(G.2 0, .int), (G.2 1, .boolean), (G.2 2, .int), (G.2 3, .object "ExamHalls$School")]
def nestL : List Cond := [.methodLinkNest "ExamHalls" 11 ⟨"ExamHalls$Seating", "<init>", "()V"⟩ "ExamHalls", .methodLinkNest "ExamHalls$Seating" 11 ⟨"ExamHalls$School", "<init>", "()V"⟩ "ExamHalls", .methodLinkNest "ExamHalls" 29 ⟨"ExamHalls$Pad", "<init>", "()V"⟩ "ExamHalls", .methodLinkNest "ExamHalls$History" 21 ⟨"ExamHalls$School", "<init>", "()V"⟩ "ExamHalls", .methodLinkNest "ExamHalls" 43 ⟨"ExamHalls$School", "<init>", "()V"⟩ "ExamHalls", .methodLinkNest "ExamHalls$School" 48 ⟨"ExamHalls", "contains", "(II)Z"⟩ "ExamHalls", .methodLinkNest "ExamHalls$Seating" 78 ⟨"ExamHalls", "sittingNumber", "(II)I"⟩ "ExamHalls", .methodLinkNest "ExamHalls$Seating" 106 ⟨"ExamHalls", "contains", "(II)Z"⟩ "ExamHalls"]
def KK (G : JG) (U : State) : Prop := va_K G.1 vwCl (tysG G) U ∧ (∀ w ∈ nestL, va_Nw w U) ∧ va_AO "ExamHalls$School" U
theorem KK.warm {G : JG} {s U : State} (hW : s.WarmedH U.vm) (h : KK G s) : KK G U := by
  refine ⟨va_K.moved hW.alike h.1, fun w hw => ?_, va_AO.moved hW.alike h.2.2⟩
  have h1 := h.2.1 w hw
  revert h1
  revert w
  unfold nestL
  simp only [List.forall_mem_cons]
  refine ⟨?_, ?_, ?_, ?_, ?_, ?_, ?_, ?_, fun _ h => by cases h⟩ <;> exact fun h => va_Nw.warmM hW h
theorem KK.calling {G : JG} {U : State} {g : JFrame} {mk : MethodId} {a : Array Value} (h : KK G U) : KK G (U.calling g mk a) := by
  refine ⟨va_K.moved (u := U) (U := U.calling g mk a) (Vm.Alike.refl U.vm) h.1, fun w hw => ?_, va_AO.moved (u := U) (U := U.calling g mk a) (Vm.Alike.refl U.vm) h.2.2⟩
  have h1 := h.2.1 w hw
  revert h1
  revert w
  unfold nestL
  simp only [List.forall_mem_cons]
  refine ⟨?_, ?_, ?_, ?_, ?_, ?_, ?_, ?_, fun _ h => by cases h⟩ <;> exact fun h => va_Nw.same rfl (u := U) (U := U.calling g mk a) rfl h
abbrev JX : Type := Program × Env × State × MethodId × Array Value × List Frame × Method × Code × (Nat → Prop)
def J (l : Launch) (R : Room) (G : JG) (nL : Nat) (X : JX) (Q : State → Prop) (k n pc : Nat) (lv : List (Nat × Value)) (st : List Value) (ws : va_W) : Prop :=
  ∀ (H : Heap) (locs : List Loc) (ls : Array Slot), va_P G.1 vwCl ws H → va_D X.2.2.2.2.2.2.2.2 ws → va_S X.2.2.2.2.2.2.2.2 X.2.2.1.heap H locs → lv_has ls nL lv → W X.1 l X.2.1 R X.2.2.1 X.2.2.2.1 X.2.2.2.2.1 X.2.2.2.2.2.1 X.2.2.2.2.2.2.1 X.2.2.2.2.2.2.2.1 H locs k n Q (F0 X.2.2.2.1 pc ls st)
def Cx (G : JG) (nL : Nat) (X : JX) (cc : ByteArray) (own : String) (ret : Option FieldType) (tb : List (Nat × ClassFile.Instr × Nat)) : Prop :=
  X.1.tables.exec = Jvm.exec ∧ X.2.2.2.2.2.2.2.1.code = cc ∧ X.2.2.2.2.2.2.2.1.maxLocals = nL ∧ X.2.2.1.vm.findClass own = some X.2.2.2.1.cls ∧ (∀ w ∈ TB, w.before X.2.2.2.2.1 X.2.2.1 = true) ∧ KK G X.2.2.1 ∧ (∀ q, X.2.2.1.heap.size ≤ q → X.2.2.2.2.2.2.2.2 q) ∧ X.2.2.2.2.2.2.1.locks = false ∧ X.2.2.2.2.2.2.1.sig.returnType = ret ∧ ∀ q ∈ tb, decode cc q.1 = .ok q.2
def gd {α : Type} (b : Bool) (x : Option α) : Option α := if b = true then x else none
theorem gd_some {α : Type} {b : Bool} {x : Option α} {r : α} (h : gd b x = some r) : b = true ∧ x = some r := by
  unfold gd at h
  by_cases hb : b = true
  · rw [if_pos hb] at h; exact ⟨hb, h⟩
  · rw [if_neg hb] at h; cases h
theorem gd_t {α : Type} {b : Bool} {x : Option α} (h : b = true) : gd b x = x := by unfold gd; rw [if_pos h]
theorem bnd {α β : Type} {x : Option α} {f : α → Option β} {b : β} (h : x.bind f = some b) : ∃ a, x = some a ∧ f a = some b := Option.bind_eq_some_iff.mp h
def inb (i : Int32) (n : Nat) : Bool := decide (0 ≤ i) && decide (i.toNatClampNeg < n)
theorem inb_in {i : Int32} {n : Nat} (h : inb i n = true) : vp_in i n := by
  unfold inb at h
  simp only [Bool.and_eq_true, decide_eq_true_eq] at h
  unfold vp_in
  intro q
  rcases q with q | q
  · have h1 := h.1
    rw [Int32.le_iff_toInt_le] at h1
    rw [Int32.lt_iff_toInt_lt] at q
    omega
  · omega
def nz (y : Int32) : Bool := decide (¬ y = 0)
theorem nz_ne {y : Int32} (h : nz y = true) : ¬ y = 0 := of_decide_eq_true h
def isb (x : Int32) : Bool := decide (x = 0) || decide (x = 1)
theorem isb_or {x : Int32} (h : isb x = true) : x = 0 ∨ x = 1 := by
  unfold isb at h
  simpa using h
theorem isb_nar {x : Int32} (h : isb x = true) : narrow .boolean (.int x) = .int x := by
  rcases isb_or h with rfl | rfl <;> rfl
theorem isb_vnar {x : Int32} (h : isb x = true) : vp_nar .boolean x = x := by
  rcases isb_or h with rfl | rfl <;> rfl
theorem isb_fit {x : Int32} (h : isb x = true) : fits .boolean (.int x) = true := by
  rcases isb_or h with rfl | rfl <;> rfl
def isc (x : Int32) : Bool := decide (vp_nar .char x = x)
theorem isc_vnar {x : Int32} (h : isc x = true) : vp_nar .char x = x := of_decide_eq_true h
/-- packed contents: field (or array) k of an object, element i -/
abbrev JV : Type := Nat → Nat → Int32
def up2 (s : JV) (k i : Nat) (v : Int32) : JV := fun a => bif Nat.beq a k then upd (s k) i v else s a
theorem up2_same (s : JV) (k i : Nat) (v : Int32) : up2 s k i v k i = v := by
  unfold up2
  rw [Nat.beq_refl]
  simp [upd]
theorem up2_other (s : JV) (k i : Nat) (v : Int32) {a : Nat} (h : Nat.beq a k = false) : up2 s k i v a = s a := by
  unfold up2
  rw [h]
  rfl
def mx (x y : Int32) : Int32 := if x < y then y else x
section JROWS
variable {l : Launch} {R : Room} {G : JG} {nL : Nat} {X : JX} {Q : State → Prop} {k n pc : Nat} {lv : List (Nat × Value)} {st : List Value} {ws : va_W} {cc : ByteArray} {own : String} {ret : Option FieldType} {tb : List (Nat × ClassFile.Instr × Nat)}
theorem Cx.d (C : Cx G nL X cc own ret tb) (j : Nat) {i : ClassFile.Instr} {len : Nat} (h : tb[j]? = some (pc, i, len)) : decode cc pc = .ok (i, len) := C.2.2.2.2.2.2.2.2.2 (pc, i, len) (List.mem_of_getElem? h)
theorem J_sub (ks : List Nat) {lv' : List (Nat × Value)} (hl : lv_pick lv ks = lv') (kk : J l R G nL X Q k n pc lv' st ws) : J l R G nL X Q k n pc lv st ws :=
  fun H locs ls hP hD hS h => kk H locs ls hP hD hS (lv_sub h ks hl)
theorem J_top {x y : Int32} (e : x = y) (kk : J l R G nL X Q k n pc lv (.int y :: st) ws) : J l R G nL X Q k n pc lv (.int x :: st) ws := e ▸ kk
theorem J_iload (C : Cx G nL X cc own ret tb) (j : Nat) {i : Nat} {x : Int32} (hd : tb[j]? = some (pc, .iload i, 2)) (q : Nat) (hq : lv[q]? = some (i, .int x)) (kk : J l R G nL X Q k n (pc + 2) lv (.int x :: st) ws) : J l R G nL X Q k n pc lv st ws :=
  fun H locs ls hP hD hS h => lv_iload C.1 C.2.1 (C.d j hd) (lv_at h q hq) (kk H locs ls hP hD hS h)
theorem J_iload_n (C : Cx G nL X cc own ret tb) (j : Nat) {v : Fin 4} {i : Nat} {x : Int32} (hd : tb[j]? = some (pc, .iload_n v, 1)) (q : Nat) (hi : (v : Nat) = i) (hq : lv[q]? = some (i, .int x)) (kk : J l R G nL X Q k n (pc + 1) lv (.int x :: st) ws) : J l R G nL X Q k n pc lv st ws :=
  fun H locs ls hP hD hS h => lv_iload_n C.1 C.2.1 (C.d j hd) hi (lv_at h q hq) (kk H locs ls hP hD hS h)
theorem J_aload_n (C : Cx G nL X cc own ret tb) (j : Nat) {v : Fin 4} {i : Nat} {x : Nat} (hd : tb[j]? = some (pc, .aload_n v, 1)) (q : Nat) (hi : (v : Nat) = i) (hq : lv[q]? = some (i, .ref x)) (kk : J l R G nL X Q k n (pc + 1) lv (.ref x :: st) ws) : J l R G nL X Q k n pc lv st ws :=
  fun H locs ls hP hD hS h => lv_aload_n C.1 C.2.1 (C.d j hd) hi (lv_at h q hq) (kk H locs ls hP hD hS h)
theorem J_lload (C : Cx G nL X cc own ret tb) (j : Nat) {i : Nat} {x : Int64} (hd : tb[j]? = some (pc, .lload i, 2)) (q : Nat) (hq : lv[q]? = some (i, .long x)) (kk : J l R G nL X Q k n (pc + 2) lv (.long x :: st) ws) : J l R G nL X Q k n pc lv st ws :=
  fun H locs ls hP hD hS h => lv_lload C.1 C.2.1 (C.d j hd) (lv_at h q hq) (kk H locs ls hP hD hS h)
theorem J_lload_n (C : Cx G nL X cc own ret tb) (j : Nat) {v : Fin 4} {i : Nat} {x : Int64} (hd : tb[j]? = some (pc, .lload_n v, 1)) (q : Nat) (hi : (v : Nat) = i) (hq : lv[q]? = some (i, .long x)) (kk : J l R G nL X Q k n (pc + 1) lv (.long x :: st) ws) : J l R G nL X Q k n pc lv st ws :=
  fun H locs ls hP hD hS h => lv_lload_n C.1 C.2.1 (C.d j hd) hi (lv_at h q hq) (kk H locs ls hP hD hS h)
theorem J_istore (C : Cx G nL X cc own ret tb) (j : Nat) {i : Nat} {x : Int32} {lv' : List (Nat × Value)} (hd : tb[j]? = some (pc, .istore i, 2)) (hi : i < nL) (hl : (i, Value.int x) :: lv.filter (fun q => !(q.1 == i) && !(q.1 + 1 == i && q.2.category == 2)) = lv') (kk : J l R G nL X Q k n (pc + 2) lv' st ws) : J l R G nL X Q k n pc lv (.int x :: st) ws :=
  fun H locs ls hP hD hS h => lv_istore C.1 C.2.1 (C.d j hd) h hi hl (fun ls h => kk H locs ls hP hD hS h)
theorem J_istore_n (C : Cx G nL X cc own ret tb) (j : Nat) {v : Fin 4} {i : Nat} {x : Int32} {lv' : List (Nat × Value)} (hd : tb[j]? = some (pc, .istore_n v, 1)) (hv : (v : Nat) = i) (hi : i < nL) (hl : (i, Value.int x) :: lv.filter (fun q => !(q.1 == i) && !(q.1 + 1 == i && q.2.category == 2)) = lv') (kk : J l R G nL X Q k n (pc + 1) lv' st ws) : J l R G nL X Q k n pc lv (.int x :: st) ws :=
  fun H locs ls hP hD hS h => lv_istore_n C.1 C.2.1 (C.d j hd) hv h hi hl (fun ls h => kk H locs ls hP hD hS h)
theorem J_astore_n (C : Cx G nL X cc own ret tb) (j : Nat) {v : Fin 4} {i : Nat} {x : Nat} {lv' : List (Nat × Value)} (hd : tb[j]? = some (pc, .astore_n v, 1)) (hv : (v : Nat) = i) (hi : i < nL) (hl : (i, Value.ref x) :: lv.filter (fun q => !(q.1 == i) && !(q.1 + 1 == i && q.2.category == 2)) = lv') (kk : J l R G nL X Q k n (pc + 1) lv' st ws) : J l R G nL X Q k n pc lv (.ref x :: st) ws :=
  fun H locs ls hP hD hS h => lv_astore_n C.1 C.2.1 (C.d j hd) hv h hi hl (fun ls h => kk H locs ls hP hD hS h)
theorem J_lstore (C : Cx G nL X cc own ret tb) (j : Nat) {i : Nat} {x : Int64} {lv' : List (Nat × Value)} (hd : tb[j]? = some (pc, .lstore i, 2)) (hi : i + 1 < nL) (hl : (i, Value.long x) :: lv.filter (fun q => !(q.1 == i) && (!(q.1 == i + 1) && !(q.1 + 1 == i && q.2.category == 2))) = lv') (kk : J l R G nL X Q k n (pc + 2) lv' st ws) : J l R G nL X Q k n pc lv (.long x :: st) ws :=
  fun H locs ls hP hD hS h => lv_lstore C.1 C.2.1 (C.d j hd) h hi hl (fun ls h => kk H locs ls hP hD hS h)
theorem J_lstore_n (C : Cx G nL X cc own ret tb) (j : Nat) {v : Fin 4} {i : Nat} {x : Int64} {lv' : List (Nat × Value)} (hd : tb[j]? = some (pc, .lstore_n v, 1)) (hv : (v : Nat) = i) (hi : i + 1 < nL) (hl : (i, Value.long x) :: lv.filter (fun q => !(q.1 == i) && (!(q.1 == i + 1) && !(q.1 + 1 == i && q.2.category == 2))) = lv') (kk : J l R G nL X Q k n (pc + 1) lv' st ws) : J l R G nL X Q k n pc lv (.long x :: st) ws :=
  fun H locs ls hP hD hS h => lv_lstore_n C.1 C.2.1 (C.d j hd) hv h hi hl (fun ls h => kk H locs ls hP hD hS h)
theorem J_iinc (C : Cx G nL X cc own ret tb) (j : Nat) {i : Nat} {z : Int} {x v : Int32} {lv' : List (Nat × Value)} (hd : tb[j]? = some (pc, .iinc i z, 3)) (q : Nat) (hq : lv[q]? = some (i, .int x)) (hv : x + Int32.ofInt z = v) (hi : i < nL) (hl : (i, Value.int v) :: lv.filter (fun q => !(q.1 == i) && !(q.1 + 1 == i && q.2.category == 2)) = lv') (kk : J l R G nL X Q k n (pc + 3) lv' st ws) : J l R G nL X Q k n pc lv st ws :=
  fun H locs ls hP hD hS h => lv_iinc C.1 C.2.1 (C.d j hd) h hq hv hi hl (fun ls h => kk H locs ls hP hD hS h)
theorem J_iconst (C : Cx G nL X cc own ret tb) (j : Nat) {z : Int} {v : Int32} (hd : tb[j]? = some (pc, .iconst z, 1)) (hv : Int32.ofInt z = v) (kk : J l R G nL X Q k n (pc + 1) lv (.int v :: st) ws) : J l R G nL X Q k n pc lv st ws :=
  fun H locs ls hP hD hS h => lv_iconst C.1 C.2.1 (C.d j hd) hv (kk H locs ls hP hD hS h)
theorem J_bipush (C : Cx G nL X cc own ret tb) (j : Nat) {z : Int} {v : Int32} (hd : tb[j]? = some (pc, .bipush z, 2)) (hv : (Int8.ofInt z).toInt32 = v) (kk : J l R G nL X Q k n (pc + 2) lv (.int v :: st) ws) : J l R G nL X Q k n pc lv st ws :=
  fun H locs ls hP hD hS h => lv_bipush C.1 C.2.1 (C.d j hd) hv (kk H locs ls hP hD hS h)
theorem J_sipush (C : Cx G nL X cc own ret tb) (j : Nat) {z : Int} {v : Int32} (hd : tb[j]? = some (pc, .sipush z, 3)) (hv : (Int16.ofInt z).toInt32 = v) (kk : J l R G nL X Q k n (pc + 3) lv (.int v :: st) ws) : J l R G nL X Q k n pc lv st ws :=
  fun H locs ls hP hD hS h => lv_sipush C.1 C.2.1 (C.d j hd) hv (kk H locs ls hP hD hS h)
theorem J_ldc (C : Cx G nL X cc own ret tb) (j : Nat) {i : Nat} {v : Int32} (hd : tb[j]? = some (pc, .ldc i, 2)) (hw : Cond.constant own i v ∈ TB) (kk : J l R G nL X Q k n (pc + 2) lv (.int v :: st) ws) : J l R G nL X Q k n pc lv st ws :=
  fun H locs ls hP hD hS h => W.ldc C.1 C.2.1 C.2.2.2.1 (C.2.2.2.2.1 _ hw) rfl (C.d j hd) (kk H locs ls hP hD hS h)
theorem J_ldc_w (C : Cx G nL X cc own ret tb) (j : Nat) {i : Nat} {v : Int32} (hd : tb[j]? = some (pc, .ldc_w i, 3)) (hw : Cond.constant own i v ∈ TB) (kk : J l R G nL X Q k n (pc + 3) lv (.int v :: st) ws) : J l R G nL X Q k n pc lv st ws :=
  fun H locs ls hP hD hS h => lv_ldcw C.1 C.2.1 C.2.2.2.1 (C.2.2.2.2.1 _ hw) (C.d j hd) (kk H locs ls hP hD hS h)
theorem J_ldc2 (C : Cx G nL X cc own ret tb) (j : Nat) {i : Nat} {v : Int64} (hd : tb[j]? = some (pc, .ldc2_w i, 3)) (hw : Cond.constantLong own i v ∈ TB) (kk : J l R G nL X Q k n (pc + 3) lv (.long v :: st) ws) : J l R G nL X Q k n pc lv st ws :=
  fun H locs ls hP hD hS h => lv_ldc2 C.1 C.2.1 C.2.2.2.1 (C.2.2.2.2.1 _ hw) (C.d j hd) (kk H locs ls hP hD hS h)
theorem J_lconst (C : Cx G nL X cc own ret tb) (j : Nat) {z : Fin 2} {v : Int64} (hd : tb[j]? = some (pc, .lconst z, 1)) (hv : Int64.ofNat (z : Nat) = v) (kk : J l R G nL X Q k n (pc + 1) lv (.long v :: st) ws) : J l R G nL X Q k n pc lv st ws :=
  fun H locs ls hP hD hS h => lv_lconst C.1 C.2.1 (C.d j hd) hv (kk H locs ls hP hD hS h)
theorem J_iadd (C : Cx G nL X cc own ret tb) (j : Nat) {x y : Int32} (hd : tb[j]? = some (pc, .iadd, 1)) (kk : J l R G nL X Q k n (pc + 1) lv (.int (x + y) :: st) ws) : J l R G nL X Q k n pc lv (.int y :: .int x :: st) ws :=
  fun H locs ls hP hD hS h => lv_iadd C.1 C.2.1 (C.d j hd) (kk H locs ls hP hD hS h)
theorem J_isub (C : Cx G nL X cc own ret tb) (j : Nat) {x y : Int32} (hd : tb[j]? = some (pc, .isub, 1)) (kk : J l R G nL X Q k n (pc + 1) lv (.int (x - y) :: st) ws) : J l R G nL X Q k n pc lv (.int y :: .int x :: st) ws :=
  fun H locs ls hP hD hS h => lv_isub C.1 C.2.1 (C.d j hd) (kk H locs ls hP hD hS h)
theorem J_imul (C : Cx G nL X cc own ret tb) (j : Nat) {x y : Int32} (hd : tb[j]? = some (pc, .imul, 1)) (kk : J l R G nL X Q k n (pc + 1) lv (.int (x * y) :: st) ws) : J l R G nL X Q k n pc lv (.int y :: .int x :: st) ws :=
  fun H locs ls hP hD hS h => lv_imul C.1 C.2.1 (C.d j hd) (kk H locs ls hP hD hS h)
theorem J_ishl (C : Cx G nL X cc own ret tb) (j : Nat) {x y : Int32} (hd : tb[j]? = some (pc, .ishl, 1)) (kk : J l R G nL X Q k n (pc + 1) lv (.int (x <<< (y &&& 31)) :: st) ws) : J l R G nL X Q k n pc lv (.int y :: .int x :: st) ws :=
  fun H locs ls hP hD hS h => lv_ishl C.1 C.2.1 (C.d j hd) (kk H locs ls hP hD hS h)
theorem J_ishr (C : Cx G nL X cc own ret tb) (j : Nat) {x y : Int32} (hd : tb[j]? = some (pc, .ishr, 1)) (kk : J l R G nL X Q k n (pc + 1) lv (.int (x >>> (y &&& 31)) :: st) ws) : J l R G nL X Q k n pc lv (.int y :: .int x :: st) ws :=
  fun H locs ls hP hD hS h => lv_ishr C.1 C.2.1 (C.d j hd) (kk H locs ls hP hD hS h)
theorem J_iand (C : Cx G nL X cc own ret tb) (j : Nat) {x y : Int32} (hd : tb[j]? = some (pc, .iand, 1)) (kk : J l R G nL X Q k n (pc + 1) lv (.int (x &&& y) :: st) ws) : J l R G nL X Q k n pc lv (.int y :: .int x :: st) ws :=
  fun H locs ls hP hD hS h => lv_iand C.1 C.2.1 (C.d j hd) (kk H locs ls hP hD hS h)
theorem J_ior (C : Cx G nL X cc own ret tb) (j : Nat) {x y : Int32} (hd : tb[j]? = some (pc, .ior, 1)) (kk : J l R G nL X Q k n (pc + 1) lv (.int (x ||| y) :: st) ws) : J l R G nL X Q k n pc lv (.int y :: .int x :: st) ws :=
  fun H locs ls hP hD hS h => lv_ior C.1 C.2.1 (C.d j hd) (kk H locs ls hP hD hS h)
theorem J_ixor (C : Cx G nL X cc own ret tb) (j : Nat) {x y : Int32} (hd : tb[j]? = some (pc, .ixor, 1)) (kk : J l R G nL X Q k n (pc + 1) lv (.int (x ^^^ y) :: st) ws) : J l R G nL X Q k n pc lv (.int y :: .int x :: st) ws :=
  fun H locs ls hP hD hS h => lv_ixor C.1 C.2.1 (C.d j hd) (kk H locs ls hP hD hS h)
theorem J_land (C : Cx G nL X cc own ret tb) (j : Nat) {x y : Int64} (hd : tb[j]? = some (pc, .land, 1)) (kk : J l R G nL X Q k n (pc + 1) lv (.long (x &&& y) :: st) ws) : J l R G nL X Q k n pc lv (.long y :: .long x :: st) ws :=
  fun H locs ls hP hD hS h => lv_land C.1 C.2.1 (C.d j hd) (kk H locs ls hP hD hS h)
theorem J_lor (C : Cx G nL X cc own ret tb) (j : Nat) {x y : Int64} (hd : tb[j]? = some (pc, .lor, 1)) (kk : J l R G nL X Q k n (pc + 1) lv (.long (x ||| y) :: st) ws) : J l R G nL X Q k n pc lv (.long y :: .long x :: st) ws :=
  fun H locs ls hP hD hS h => lv_lor C.1 C.2.1 (C.d j hd) (kk H locs ls hP hD hS h)
theorem J_lshl (C : Cx G nL X cc own ret tb) (j : Nat) {x : Int64} {y : Int32} (hd : tb[j]? = some (pc, .lshl, 1)) (kk : J l R G nL X Q k n (pc + 1) lv (.long (x <<< (y.toInt64 &&& 63)) :: st) ws) : J l R G nL X Q k n pc lv (.int y :: .long x :: st) ws :=
  fun H locs ls hP hD hS h => lv_lshl C.1 C.2.1 (C.d j hd) rfl (kk H locs ls hP hD hS h)
theorem J_dup2 (C : Cx G nL X cc own ret tb) (j : Nat) {v w : Value} (hd : tb[j]? = some (pc, .dup2, 1)) (hv : v.category = 1) (hw : w.category = 1) (kk : J l R G nL X Q k n (pc + 1) lv (v :: w :: v :: w :: st) ws) : J l R G nL X Q k n pc lv (v :: w :: st) ws :=
  fun H locs ls hP hD hS h => lv_dup2_11 C.1 C.2.1 (C.d j hd) hv hw (kk H locs ls hP hD hS h)
theorem J_idiv (C : Cx G nL X cc own ret tb) (j : Nat) {x y : Int32} (hd : tb[j]? = some (pc, .idiv, 1)) (hy : nz y = true) (kk : J l R G nL X Q k n (pc + 1) lv (.int (x / y) :: st) ws) : J l R G nL X Q k n pc lv (.int y :: .int x :: st) ws :=
  fun H locs ls hP hD hS h => lv_idiv C.1 C.2.1 (C.d j hd) (nz_ne hy) (kk H locs ls hP hD hS h)
theorem J_irem (C : Cx G nL X cc own ret tb) (j : Nat) {x y : Int32} (hd : tb[j]? = some (pc, .irem, 1)) (hy : nz y = true) (kk : J l R G nL X Q k n (pc + 1) lv (.int (x - x / y * y) :: st) ws) : J l R G nL X Q k n pc lv (.int y :: .int x :: st) ws :=
  fun H locs ls hP hD hS h => lv_irem C.1 C.2.1 (C.d j hd) (nz_ne hy) (kk H locs ls hP hD hS h)
theorem J_iushr (C : Cx G nL X cc own ret tb) (j : Nat) {x y : Int32} (hd : tb[j]? = some (pc, .iushr, 1)) (kk : J l R G nL X Q k n (pc + 1) lv (.int (x.toUInt32 >>> (y.toUInt32 &&& Int32.toUInt32 31)).toInt32 :: st) ws) : J l R G nL X Q k n pc lv (.int y :: .int x :: st) ws :=
  fun H locs ls hP hD hS h => lv_iushr C.1 C.2.1 (C.d j hd) rfl (kk H locs ls hP hD hS h)
theorem J_lushr (C : Cx G nL X cc own ret tb) (j : Nat) {x : Int64} {y : Int32} (hd : tb[j]? = some (pc, .lushr, 1)) (kk : J l R G nL X Q k n (pc + 1) lv (.long (x.toUInt64 >>> (y.toInt64.toUInt64 &&& Int64.toUInt64 63)).toInt64 :: st) ws) : J l R G nL X Q k n pc lv (.int y :: .long x :: st) ws :=
  fun H locs ls hP hD hS h => lv_lushr C.1 C.2.1 (C.d j hd) rfl (kk H locs ls hP hD hS h)
theorem J_i2l (C : Cx G nL X cc own ret tb) (j : Nat) {x : Int32} (hd : tb[j]? = some (pc, .i2l, 1)) (kk : J l R G nL X Q k n (pc + 1) lv (.long x.toInt64 :: st) ws) : J l R G nL X Q k n pc lv (.int x :: st) ws :=
  fun H locs ls hP hD hS h => lv_i2l C.1 C.2.1 (C.d j hd) rfl (kk H locs ls hP hD hS h)
theorem J_l2i (C : Cx G nL X cc own ret tb) (j : Nat) {x : Int64} (hd : tb[j]? = some (pc, .l2i, 1)) (kk : J l R G nL X Q k n (pc + 1) lv (.int x.toInt32 :: st) ws) : J l R G nL X Q k n pc lv (.long x :: st) ws :=
  fun H locs ls hP hD hS h => lv_l2i C.1 C.2.1 (C.d j hd) rfl (kk H locs ls hP hD hS h)
theorem J_i2c (C : Cx G nL X cc own ret tb) (j : Nat) {x : Int32} (hd : tb[j]? = some (pc, .i2c, 1)) (kk : J l R G nL X Q k n (pc + 1) lv (.int (x.toUInt32 % 65536).toInt32 :: st) ws) : J l R G nL X Q k n pc lv (.int x :: st) ws :=
  fun H locs ls hP hD hS h => lv_i2c C.1 C.2.1 (C.d j hd) rfl (kk H locs ls hP hD hS h)
theorem J_lcmp (C : Cx G nL X cc own ret tb) (j : Nat) {x y : Int64} (hd : tb[j]? = some (pc, .lcmp, 1)) (kk : J l R G nL X Q k n (pc + 1) lv (.int (lg_cmp x y) :: st) ws) : J l R G nL X Q k n pc lv (.long y :: .long x :: st) ws :=
  fun H locs ls hP hD hS h => W.lcmp C.1 C.2.1 (C.d j hd) (kk H locs ls hP hD hS h)
theorem J_dup (C : Cx G nL X cc own ret tb) (j : Nat) {v : Value} (hd : tb[j]? = some (pc, .dup, 1)) (hv : v.category = 1) (kk : J l R G nL X Q k n (pc + 1) lv (v :: v :: st) ws) : J l R G nL X Q k n pc lv (v :: st) ws :=
  fun H locs ls hP hD hS h => lv_dup C.1 C.2.1 (C.d j hd) hv (kk H locs ls hP hD hS h)
theorem J_pop (C : Cx G nL X cc own ret tb) (j : Nat) {v : Value} (hd : tb[j]? = some (pc, .pop, 1)) (hv : v.category = 1) (kk : J l R G nL X Q k n (pc + 1) lv st ws) : J l R G nL X Q k n pc lv (v :: st) ws :=
  fun H locs ls hP hD hS h => lv_pop C.1 C.2.1 (C.d j hd) hv (kk H locs ls hP hD hS h)
theorem J_goto (C : Cx G nL X cc own ret tb) (j : Nat) {z : Int} {tgt : Nat} (hd : tb[j]? = some (pc, .goto z, 3)) (ht : (pc : Int) + z = (tgt : Int)) (kk : J l R G nL X Q k n tgt lv st ws) : J l R G nL X Q k n pc lv st ws :=
  fun H locs ls hP hD hS h => lv_goto C.1 C.2.1 (C.d j hd) ht (kk H locs ls hP hD hS h)
theorem J_if_eq (C : Cx G nL X cc own ret tb) (j : Nat) {x : Int32} {z : Int} {tgt : Nat} (hd : tb[j]? = some (pc, .ifCond .eq z, 3)) (ht : (pc : Int) + z = (tgt : Int)) (kt : x = 0 → J l R G nL X Q k n tgt lv st ws) (kf : ¬ x = 0 → J l R G nL X Q k n (pc + 3) lv st ws) : J l R G nL X Q k n pc lv (.int x :: st) ws :=
  fun H locs ls hP hD hS h => lv_if_eq C.1 C.2.1 (C.d j hd) ht (fun c => kt c H locs ls hP hD hS h) (fun c => kf c H locs ls hP hD hS h)
theorem J_if_ne (C : Cx G nL X cc own ret tb) (j : Nat) {x : Int32} {z : Int} {tgt : Nat} (hd : tb[j]? = some (pc, .ifCond .ne z, 3)) (ht : (pc : Int) + z = (tgt : Int)) (kt : ¬ x = 0 → J l R G nL X Q k n tgt lv st ws) (kf : x = 0 → J l R G nL X Q k n (pc + 3) lv st ws) : J l R G nL X Q k n pc lv (.int x :: st) ws :=
  fun H locs ls hP hD hS h => lv_if_ne C.1 C.2.1 (C.d j hd) ht (fun c => kt c H locs ls hP hD hS h) (fun c => kf c H locs ls hP hD hS h)
theorem J_if_lt (C : Cx G nL X cc own ret tb) (j : Nat) {x : Int32} {z : Int} {tgt : Nat} (hd : tb[j]? = some (pc, .ifCond .lt z, 3)) (ht : (pc : Int) + z = (tgt : Int)) (kt : x < 0 → J l R G nL X Q k n tgt lv st ws) (kf : ¬ x < 0 → J l R G nL X Q k n (pc + 3) lv st ws) : J l R G nL X Q k n pc lv (.int x :: st) ws :=
  fun H locs ls hP hD hS h => lv_if_lt C.1 C.2.1 (C.d j hd) ht (fun c => kt c H locs ls hP hD hS h) (fun c => kf c H locs ls hP hD hS h)
theorem J_if_ge (C : Cx G nL X cc own ret tb) (j : Nat) {x : Int32} {z : Int} {tgt : Nat} (hd : tb[j]? = some (pc, .ifCond .ge z, 3)) (ht : (pc : Int) + z = (tgt : Int)) (kt : 0 ≤ x → J l R G nL X Q k n tgt lv st ws) (kf : ¬ 0 ≤ x → J l R G nL X Q k n (pc + 3) lv st ws) : J l R G nL X Q k n pc lv (.int x :: st) ws :=
  fun H locs ls hP hD hS h => lv_if_ge C.1 C.2.1 (C.d j hd) ht (fun c => kt c H locs ls hP hD hS h) (fun c => kf c H locs ls hP hD hS h)
theorem J_if_gt (C : Cx G nL X cc own ret tb) (j : Nat) {x : Int32} {z : Int} {tgt : Nat} (hd : tb[j]? = some (pc, .ifCond .gt z, 3)) (ht : (pc : Int) + z = (tgt : Int)) (kt : 0 < x → J l R G nL X Q k n tgt lv st ws) (kf : ¬ 0 < x → J l R G nL X Q k n (pc + 3) lv st ws) : J l R G nL X Q k n pc lv (.int x :: st) ws :=
  fun H locs ls hP hD hS h => lv_if_gt C.1 C.2.1 (C.d j hd) ht (fun c => kt c H locs ls hP hD hS h) (fun c => kf c H locs ls hP hD hS h)
theorem J_if_le (C : Cx G nL X cc own ret tb) (j : Nat) {x : Int32} {z : Int} {tgt : Nat} (hd : tb[j]? = some (pc, .ifCond .le z, 3)) (ht : (pc : Int) + z = (tgt : Int)) (kt : x ≤ 0 → J l R G nL X Q k n tgt lv st ws) (kf : ¬ x ≤ 0 → J l R G nL X Q k n (pc + 3) lv st ws) : J l R G nL X Q k n pc lv (.int x :: st) ws :=
  fun H locs ls hP hD hS h => lv_if_le C.1 C.2.1 (C.d j hd) ht (fun c => kt c H locs ls hP hD hS h) (fun c => kf c H locs ls hP hD hS h)
theorem J_icmp_eq (C : Cx G nL X cc own ret tb) (j : Nat) {x y : Int32} {z : Int} {tgt : Nat} (hd : tb[j]? = some (pc, .if_icmp .eq z, 3)) (ht : (pc : Int) + z = (tgt : Int)) (kt : x = y → J l R G nL X Q k n tgt lv st ws) (kf : ¬ x = y → J l R G nL X Q k n (pc + 3) lv st ws) : J l R G nL X Q k n pc lv (.int y :: .int x :: st) ws :=
  fun H locs ls hP hD hS h => lv_icmp_eq C.1 C.2.1 (C.d j hd) ht (fun c => kt c H locs ls hP hD hS h) (fun c => kf c H locs ls hP hD hS h)
theorem J_icmp_ne (C : Cx G nL X cc own ret tb) (j : Nat) {x y : Int32} {z : Int} {tgt : Nat} (hd : tb[j]? = some (pc, .if_icmp .ne z, 3)) (ht : (pc : Int) + z = (tgt : Int)) (kt : ¬ x = y → J l R G nL X Q k n tgt lv st ws) (kf : x = y → J l R G nL X Q k n (pc + 3) lv st ws) : J l R G nL X Q k n pc lv (.int y :: .int x :: st) ws :=
  fun H locs ls hP hD hS h => lv_icmp_ne C.1 C.2.1 (C.d j hd) ht (fun c => kt c H locs ls hP hD hS h) (fun c => kf c H locs ls hP hD hS h)
theorem J_icmp_lt (C : Cx G nL X cc own ret tb) (j : Nat) {x y : Int32} {z : Int} {tgt : Nat} (hd : tb[j]? = some (pc, .if_icmp .lt z, 3)) (ht : (pc : Int) + z = (tgt : Int)) (kt : x < y → J l R G nL X Q k n tgt lv st ws) (kf : ¬ x < y → J l R G nL X Q k n (pc + 3) lv st ws) : J l R G nL X Q k n pc lv (.int y :: .int x :: st) ws :=
  fun H locs ls hP hD hS h => lv_icmp_lt C.1 C.2.1 (C.d j hd) ht (fun c => kt c H locs ls hP hD hS h) (fun c => kf c H locs ls hP hD hS h)
theorem J_icmp_ge (C : Cx G nL X cc own ret tb) (j : Nat) {x y : Int32} {z : Int} {tgt : Nat} (hd : tb[j]? = some (pc, .if_icmp .ge z, 3)) (ht : (pc : Int) + z = (tgt : Int)) (kt : y ≤ x → J l R G nL X Q k n tgt lv st ws) (kf : ¬ y ≤ x → J l R G nL X Q k n (pc + 3) lv st ws) : J l R G nL X Q k n pc lv (.int y :: .int x :: st) ws :=
  fun H locs ls hP hD hS h => lv_icmp_ge C.1 C.2.1 (C.d j hd) ht (fun c => kt c H locs ls hP hD hS h) (fun c => kf c H locs ls hP hD hS h)
theorem J_icmp_gt (C : Cx G nL X cc own ret tb) (j : Nat) {x y : Int32} {z : Int} {tgt : Nat} (hd : tb[j]? = some (pc, .if_icmp .gt z, 3)) (ht : (pc : Int) + z = (tgt : Int)) (kt : y < x → J l R G nL X Q k n tgt lv st ws) (kf : ¬ y < x → J l R G nL X Q k n (pc + 3) lv st ws) : J l R G nL X Q k n pc lv (.int y :: .int x :: st) ws :=
  fun H locs ls hP hD hS h => lv_icmp_gt C.1 C.2.1 (C.d j hd) ht (fun c => kt c H locs ls hP hD hS h) (fun c => kf c H locs ls hP hD hS h)
theorem J_icmp_le (C : Cx G nL X cc own ret tb) (j : Nat) {x y : Int32} {z : Int} {tgt : Nat} (hd : tb[j]? = some (pc, .if_icmp .le z, 3)) (ht : (pc : Int) + z = (tgt : Int)) (kt : x ≤ y → J l R G nL X Q k n tgt lv st ws) (kf : ¬ x ≤ y → J l R G nL X Q k n (pc + 3) lv st ws) : J l R G nL X Q k n pc lv (.int y :: .int x :: st) ws :=
  fun H locs ls hP hD hS h => lv_icmp_le C.1 C.2.1 (C.d j hd) ht (fun c => kt c H locs ls hP hD hS h) (fun c => kf c H locs ls hP hD hS h)
theorem J_tabIn (C : Cx G nL X cc own ret tb) (j : Nat) {dflt lo hi : Int} {offs : Array Int} {len : Nat} {x : Int32} {off : Int} {tgt : Nat} (hd : tb[j]? = some (pc, .tableswitch dflt lo hi offs, len)) (h1 : ¬ x.toInt < lo) (h2 : ¬ hi < x.toInt) (ho : offs[(x.toInt - lo).toNat]? = some off) (ht : (pc : Int) + off = (tgt : Int)) (kk : J l R G nL X Q k n tgt lv st ws) : J l R G nL X Q k n pc lv (.int x :: st) ws :=
  fun H locs ls hP hD hS h => lv_tableIn C.1 C.2.1 (C.d j hd) h1 h2 ho ht (kk H locs ls hP hD hS h)
theorem J_tabOut (C : Cx G nL X cc own ret tb) (j : Nat) {dflt lo hi : Int} {offs : Array Int} {len : Nat} {x : Int32} {tgt : Nat} (hd : tb[j]? = some (pc, .tableswitch dflt lo hi offs, len)) (h1 : x.toInt < lo ∨ hi < x.toInt) (ht : (pc : Int) + dflt = (tgt : Int)) (kk : J l R G nL X Q k n tgt lv st ws) : J l R G nL X Q k n pc lv (.int x :: st) ws :=
  fun H locs ls hP hD hS h => lv_tableOut C.1 C.2.1 (C.d j hd) h1 ht (kk H locs ls hP hD hS h)
theorem J_look (C : Cx G nL X cc own ret tb) (j : Nat) {dflt : Int} {ps : Array (Int × Int)} {len : Nat} {x : Int32} {off : Int} {tgt : Nat} (hd : tb[j]? = some (pc, .lookupswitch dflt ps, len)) (hp : (ps.toList.zip (ps.toList.drop 1)).all (fun (a, next) => a.1 < next.1) = true) (ho : Op.lookupswitch.offset ps.toList dflt x.toInt = off) (ht : (pc : Int) + off = (tgt : Int)) (kk : J l R G nL X Q k n tgt lv st ws) : J l R G nL X Q k n pc lv (.int x :: st) ws :=
  fun H locs ls hP hD hS h => lv_lookup C.1 C.2.1 (C.d j hd) hp ho ht (kk H locs ls hP hD hS h)
end JROWS
section JMEM
variable {l : Launch} {R : Room} {G : JG} {nL : Nat} {X : JX} {Q : State → Prop} {k n pc : Nat} {lv : List (Nat × Value)} {st : List Value} {ws : va_W} {cc : ByteArray} {own : String} {ret : Option FieldType} {tb : List (Nat × ClassFile.Instr × Nat)}
theorem J_get (C : Cx G nL X cc own ret tb) (j : Nat) {ref Cn : String} {T : u_T} {N ci index a : Nat} {fs : List Value} {v : Value} (hd : tb[j]? = some (pc, .getfield index, 3)) (hin : ∀ w ∈ u_ws Cn T N, w ∈ TB) (hc : vwCl[ci]? = some (Cn, T, N)) (q0 kf : Nat) (he : ws[q0]? = some (a, .inr (ci, fs))) (hk : kf < N) (hlink : Cond.fieldLink own index ref (T kf).2.1 (T kf).2.2.1 ∈ TB) (hsame : (T kf).1 = ref) (hv : fs[kf]? = some v) (kk : J l R G nL X Q k n (pc + 3) lv (v :: st) ws) : J l R G nL X Q k n pc lv (.ref a :: st) ws :=
  fun H locs ls hP hD hS h => va_get C.1 C.2.1 C.2.2.2.2.1 hin C.2.2.2.1 C.2.2.2.2.2.1.1 hP q0 he hc kf hk (C.2.2.2.2.1 _ hlink) (fun x hx => hsame ▸ hx) hv (C.d j hd) (kk H locs ls hP hD hS h)
theorem J_puti (C : Cx G nL X cc own ret tb) (j : Nat) {ref Cn : String} {T : u_T} {N ci index a : Nat} {fs : List Value} {v : Int32} (ws2 : Int32 → va_W) (hd : tb[j]? = some (pc, .putfield index, 3)) (hin : ∀ w ∈ u_ws Cn T N, w ∈ TB) (ty0 : Nat → FieldType) (hty : ∀ k, k < N → parseFieldDescriptor (T k).2.2.1 = some (ty0 k)) (hnm : ∀ a, a < N → ∀ b, b < N → a ≠ b → (T a).2.1 ≠ (T b).2.1) (hc : vwCl[ci]? = some (Cn, T, N)) (q0 kf : Nat) (he : ws[q0]? = some (a, .inr (ci, fs))) (hk : kf < N) (hlink : Cond.fieldLink own index ref (T kf).2.1 (T kf).2.2.1 ∈ TB) (hsame : (T kf).1 = ref) (hfin : (T kf).2.2.2 = false) (hty2 : ty0 kf = .int) (hl : kf < fs.length) (h2 : ∀ v : Int32, ws.set q0 (a, .inr (ci, fs.set kf (.int v))) = ws2 v) (kk : J l R G nL X Q k n (pc + 3) lv st (ws2 v)) : J l R G nL X Q k n pc lv (.int v :: .ref a :: st) ws :=
  fun H locs ls hP hD hS h => va_put C.1 C.2.1 C.2.2.2.2.1 hin ty0 hty hnm C.2.2.2.1 C.2.2.2.2.2.1.1 hP hD hS q0 he hc kf hk (C.2.2.2.2.1 _ hlink) (fun x hx => hsame ▸ hx) hfin (hty2 ▸ hty kf hk) rfl rfl hl (C.d j hd) (fun H1 locs1 hP1 hD1 hS1 => kk H1 locs1 ls (h2 v ▸ hP1) (h2 v ▸ hD1) hS1 h)
theorem J_putz (C : Cx G nL X cc own ret tb) (j : Nat) {ref Cn : String} {T : u_T} {N ci index a : Nat} {fs : List Value} {v : Int32} (ws2 : Int32 → va_W) (hb : isb v = true) (hd : tb[j]? = some (pc, .putfield index, 3)) (hin : ∀ w ∈ u_ws Cn T N, w ∈ TB) (ty0 : Nat → FieldType) (hty : ∀ k, k < N → parseFieldDescriptor (T k).2.2.1 = some (ty0 k)) (hnm : ∀ a, a < N → ∀ b, b < N → a ≠ b → (T a).2.1 ≠ (T b).2.1) (hc : vwCl[ci]? = some (Cn, T, N)) (q0 kf : Nat) (he : ws[q0]? = some (a, .inr (ci, fs))) (hk : kf < N) (hlink : Cond.fieldLink own index ref (T kf).2.1 (T kf).2.2.1 ∈ TB) (hsame : (T kf).1 = ref) (hfin : (T kf).2.2.2 = false) (hty2 : ty0 kf = .boolean) (hl : kf < fs.length) (h2 : ∀ v : Int32, ws.set q0 (a, .inr (ci, fs.set kf (.int v))) = ws2 v) (kk : J l R G nL X Q k n (pc + 3) lv st (ws2 v)) : J l R G nL X Q k n pc lv (.int v :: .ref a :: st) ws :=
  fun H locs ls hP hD hS h => va_put C.1 C.2.1 C.2.2.2.2.1 hin ty0 hty hnm C.2.2.2.1 C.2.2.2.2.2.1.1 hP hD hS q0 he hc kf hk (C.2.2.2.2.1 _ hlink) (fun x hx => hsame ▸ hx) hfin (hty2 ▸ hty kf hk) (isb_nar hb) (isb_fit hb) hl (C.d j hd) (fun H1 locs1 hP1 hD1 hS1 => kk H1 locs1 ls (h2 v ▸ hP1) (h2 v ▸ hD1) hS1 h)
theorem J_iald (C : Cx G nL X cc own ret tb) (j : Nat) {a N : Nat} {f : Nat → Int32} {i v : Int32} (hd : tb[j]? = some (pc, .iaload, 1)) (q0 : Nat) (he : ws[q0]? = some (a, .inl (G.2 0, N, .inl f))) (hi : inb i N = true) (hv : f i.toNatClampNeg = v) (kk : J l R G nL X Q k n (pc + 1) lv (.int v :: st) ws) : J l R G nL X Q k n pc lv (.int i :: .ref a :: st) ws :=
  fun H locs ls hP hD hS h => va_iald C.1 C.2.1 C.2.2.2.2.2.1.1 hP q0 0 he rfl (inb_in hi) (C.d j hd) (by rw [hv]; exact kk H locs ls hP hD hS h)
theorem J_zald (C : Cx G nL X cc own ret tb) (j : Nat) {a N : Nat} {f : Nat → Int32} {i v : Int32} (hd : tb[j]? = some (pc, .baload, 1)) (q0 : Nat) (he : ws[q0]? = some (a, .inl (G.2 1, N, .inl f))) (hi : inb i N = true) (hv : f i.toNatClampNeg = v) (kk : J l R G nL X Q k n (pc + 1) lv (.int v :: st) ws) : J l R G nL X Q k n pc lv (.int i :: .ref a :: st) ws :=
  fun H locs ls hP hD hS h => va_zald C.1 C.2.1 C.2.2.2.2.2.1.1 hP q0 1 he rfl (inb_in hi) (C.d j hd) (by rw [hv]; exact kk H locs ls hP hD hS h)
theorem J_aald (C : Cx G nL X cc own ret tb) (j : Nat) {a N v : Nat} {f : Nat → Option Nat} {i : Int32} (hd : tb[j]? = some (pc, .aaload, 1)) (q0 : Nat) (he : ws[q0]? = some (a, .inl (G.2 3, N, .inr (.inr (.inr (.inr f)))))) (hi : inb i N = true) (hv : f i.toNatClampNeg = some v) (kk : J l R G nL X Q k n (pc + 1) lv (.ref v :: st) ws) : J l R G nL X Q k n pc lv (.int i :: .ref a :: st) ws :=
  fun H locs ls hP hD hS h => va_aldq C.1 C.2.1 C.2.2.2.2.2.1.1 hP q0 3 he rfl (inb_in hi) (C.d j hd) (by rw [hv]; exact kk H locs ls hP hD hS h)
theorem J_iast (C : Cx G nL X cc own ret tb) (j : Nat) {a N : Nat} {f : Nat → Int32} {i x : Int32} {m : Nat} (ws2 : Nat → Int32 → va_W) (hd : tb[j]? = some (pc, .iastore, 1)) (q0 : Nat) (he : ws[q0]? = some (a, .inl (G.2 0, N, .inl f))) (hi : inb i N = true) (hm : i.toNatClampNeg = m) (h2 : ∀ (m : Nat) (x : Int32), ws.set q0 (a, .inl (G.2 0, N, .inl (upd f m x))) = ws2 m x) (kk : J l R G nL X Q k n (pc + 1) lv st (ws2 m x)) : J l R G nL X Q k n pc lv (.int x :: .int i :: .ref a :: st) ws :=
  fun H locs ls hP hD hS h => va_iast C.1 C.2.1 C.2.2.2.2.2.1.1 hP hD hS q0 0 he rfl (inb_in hi) (C.d j hd) (fun H1 locs1 hP1 hD1 hS1 => kk H1 locs1 ls (by rw [hm, h2] at hP1; exact hP1) (by rw [hm, h2] at hD1; exact hD1) hS1 h)
theorem J_zast (C : Cx G nL X cc own ret tb) (j : Nat) {a N : Nat} {f : Nat → Int32} {i x : Int32} {m : Nat} (ws2 : Nat → Int32 → va_W) (hd : tb[j]? = some (pc, .bastore, 1)) (q0 : Nat) (he : ws[q0]? = some (a, .inl (G.2 1, N, .inl f))) (hi : inb i N = true) (hx : isb x = true) (hm : i.toNatClampNeg = m) (h2 : ∀ (m : Nat) (x : Int32), ws.set q0 (a, .inl (G.2 1, N, .inl (upd f m x))) = ws2 m x) (kk : J l R G nL X Q k n (pc + 1) lv st (ws2 m x)) : J l R G nL X Q k n pc lv (.int x :: .int i :: .ref a :: st) ws :=
  fun H locs ls hP hD hS h => va_zast C.1 C.2.1 C.2.2.2.2.2.1.1 hP hD hS q0 1 he rfl (inb_in hi) (C.d j hd) (fun H1 locs1 hP1 hD1 hS1 => kk H1 locs1 ls (by rw [isb_vnar hx, hm, h2] at hP1; exact hP1) (by rw [isb_vnar hx, hm, h2] at hD1; exact hD1) hS1 h)
theorem J_aast (C : Cx G nL X cc own ret tb) (j : Nat) {a N v : Nat} {f : Nat → Option Nat} {i : Int32} {vs : List Value} {ws2 : va_W} (hd : tb[j]? = some (pc, .aastore, 1)) (q0 qk : Nat) (he : ws[q0]? = some (a, .inl (G.2 3, N, .inr (.inr (.inr (.inr f)))))) (hv : ws[qk]? = some (v, .inr (2, vs))) (hi : inb i N = true) (h2 : ws.set q0 (a, .inl (G.2 3, N, .inr (.inr (.inr (.inr (va_up f i.toNatClampNeg (some v))))))) = ws2) (kk : J l R G nL X Q k n (pc + 1) lv st ws2) : J l R G nL X Q k n pc lv (.ref v :: .int i :: .ref a :: st) ws :=
  fun H locs ls hP hD hS h => va_astq (r := (RX2, TX2, 10)) C.1 C.2.1 C.2.2.2.2.2.1.1 hP hD hS q0 3 qk 2 he rfl hv rfl (inb_in hi) (C.d j hd) (fun H1 locs1 hP1 hD1 hS1 => kk H1 locs1 ls (h2 ▸ hP1) (h2 ▸ hD1) hS1 h)
theorem J_alen (C : Cx G nL X cc own ret tb) (j t0 : Nat) {a : Nat} {x : vp_A} {cA : ClassId} {ty : FieldType} {v : Int32} (hd : tb[j]? = some (pc, .arraylength, 1)) (q0 : Nat) (he : ws[q0]? = some (a, .inl (cA, x))) (ht : (tysG G)[t0]? = some (cA, ty)) (hv : Int32.ofNat x.1 = v) (kk : J l R G nL X Q k n (pc + 1) lv (.int v :: st) ws) : J l R G nL X Q k n pc lv (.ref a :: st) ws :=
  fun H locs ls hP hD hS h => va_alen C.1 C.2.1 C.2.2.2.2.2.1.1 hP q0 t0 he ht hv (C.d j hd) (kk H locs ls hP hD hS h)
theorem J_mmax (C : Cx G nL X cc own ret tb) (j : Nat) {index : Nat} {x y : Int32} (hd : tb[j]? = some (pc, .invokestatic index, 3)) (hl : Cond.methodLink own index Lib.Math.max.name ∈ TB) (hf : 1 ≤ R.frames) (hlo : (st.map fun v => v.category).sum + 13 ≤ R.locals) (hk : k ≤ R.cells) (hn : n ≤ R.slots) (kk : J l R G nL X Q k n (pc + 3) lv (.int (mx x y) :: st) ws) : J l R G nL X Q k n pc lv (.int y :: .int x :: st) ws :=
  fun H locs ls hP hD hS h => va_mmax C.1 C.2.1 (C.2.2.1.trans h.1.symm) C.2.2.2.1 (C.2.2.2.2.1 _ hl) (C.2.2.2.2.1 _ k93) (C.2.2.2.2.1 _ k94) (C.2.2.2.2.1 _ k95) hf hlo hk hn (C.d j hd) (kk H locs ls hP hD hS h)
/-- a method's start and end -/
def JPc (G : JG) (av : List Value) (sz : Nat) (ws : va_W) : Array Value → State → Prop := va_Pc av (fun U => U.heap.size = sz ∧ va_P G.1 vwCl ws U.heap ∧ KK G U ∧ va_D (fun _ => True) ws)
def JQ (G : JG) (r : Option Value) (ws' : va_W) (A : Nat → Prop) : Array Value → State → Outcome → State → Prop := fun _ s o t => (o = .returned r ∧ va_P G.1 vwCl ws' t.heap ∧ va_D A ws') ∧ va_F A s t
def QM (X : JX) (G : JG) (k n : Nat) (r : Option Value) (ws' : va_W) : State → Prop := MQ X.2.2.2.2.2.1 (JQ G r ws' X.2.2.2.2.2.2.2.2) X.2.2.2.2.1 X.2.2.1 k n X.2.2.2.2.2.2.2.2
/-- a contract: of a method that makes nothing -/
def JM (l : Launch) (G : JG) (y : MethodName) (b : ByteArray) (nL : Nat) (ret : Option FieldType) (fr lo : Nat) (av : List Value) (ws ws' : va_W) (r : Option Value) : Prop :=
  ∀ sz : Nat, Met l y (.code y b nL ret :: TB) { frames := fr, cells := 0, slots := 0, locals := lo } (JPc G av sz ws) (JQ G r ws' (va_A ws sz)) 0 0 (va_A ws sz)
theorem J_iret (C : Cx G nL X cc own (some .int) tb) (j : Nat) {v : Int32} (hd : tb[j]? = some (pc, .ireturn, 1)) : J l R G nL X (QM X G k n (some (.int v)) ws) k n pc lv [.int v] ws :=
  fun _ _ _ hP hD hS _ => W.iret C.1 C.2.1 C.2.2.2.2.2.2.2.2.1 (fun t ht _ => ⟨⟨rfl, by rw [ht]; exact hP, hD⟩, hS.F ht⟩) hS.2.2 (C.d j hd) C.2.2.2.2.2.2.2.1
theorem J_zret (C : Cx G nL X cc own (some .boolean) tb) (j : Nat) {v : Int32} (hd : tb[j]? = some (pc, .ireturn, 1)) (hv : isb v = true) : J l R G nL X (QM X G k n (some (.int v)) ws) k n pc lv [.int v] ws :=
  fun _ _ _ hP hD hS _ => W.zret C.1 C.2.1 C.2.2.2.2.2.2.2.2.1 (isb_nar hv) (fun t ht _ => ⟨⟨rfl, by rw [ht]; exact hP, hD⟩, hS.F ht⟩) hS.2.2 (C.d j hd) C.2.2.2.2.2.2.2.1
theorem J_vret (C : Cx G nL X cc own none tb) (j : Nat) (hd : tb[j]? = some (pc, .return_, 1)) : J l R G nL X (QM X G k n none ws) k n pc lv [] ws :=
  fun _ _ _ hP hD hS _ => W.vret C.1 C.2.1 C.2.2.2.2.2.2.2.2.1 (fun t ht _ => ⟨⟨rfl, by rw [ht]; exact hP, hD⟩, hS.F ht⟩) hS.2.2 (C.d j hd) C.2.2.2.2.2.2.2.1
theorem TB_in (y : MethodName) (b : ByteArray) (nL : Nat) (ret : Option FieldType) (h : Cond.code y b nL ret ∈ TB) : GoodIn TB (.code y b nL ret :: TB) := by
  intro w hw
  have h1 : w ∈ TB := by
    rcases List.mem_cons.mp hw with rfl | h2
    · exact h
    · exact h2
  exact ⟨h1, good_of_word (List.all_eq_true.mp TB_good w h1)⟩
theorem JM.of {y : MethodName} {b : ByteArray} {fr lo : Nat} {av : List Value} {ws' : va_W} {r : Option Value} (hy : plainName y.cls = true) (hlen : (lg_sl av).length ≤ nL) (hT : ∀ q ∈ tb, decode b q.1 = .ok q.2) (ho : y.cls = own)
    (body : ∀ X : JX, Cx G nL X b own ret tb → J l { frames := fr, cells := 0, slots := 0, locals := lo } G nL X (QM X G 0 0 r ws') 0 0 0 (lv_args 0 av) [] ws) : JM l G y b nL ret fr lo av ws ws' r := by
  intro sz
  refine Met.ofW (cc := b) (maxL := nL) (ret := ret) hy rfl ?_
  intro p e s m args below meth c s₁ B hml hv
  obtain ⟨rfl, hsz, hP, hK, hD0⟩ := hv
  have hts := atoms_spec (ws := .code y b nL ret :: TB) B.pre
  have hown : s.vm.findClass y.cls = some m.cls := findClass_of_methodNamed B.named
  rw [ho] at hown
  subst hsz
  have hD := hD0.self (sz := s.heap.size)
  have Z := body (p, e, s, m, av.toArray, below, meth, c, va_A ws s.heap.size) ⟨B.exec, B.bytes, hml, hown, fun w hw => hts w (List.mem_cons_of_mem _ hw), hK, fun q h => Or.inr h, B.notSynchronized, B.returns, hT⟩
  rw [lg_entry_eq]
  exact Z s.heap [] _ hP hD va_S.rf (lv_entry av hlen)
end JMEM
/-! ===== calls: the callee's cells, at their places, become what it leaves ===== -/
theorem j_place {ws wc : va_W} {isC : List Nat} (hC : isC.map (fun i => ws[i]?) = wc.map some) {j i : Nat} (hj : isC[j]? = some i) {q : Nat × va_E} (hq : wc[j]? = some q) : ws[i]? = some q := by
  have h1 : (isC.map (fun i => ws[i]?))[j]? = (wc.map some)[j]? := by rw [hC]
  rw [List.getElem?_map, List.getElem?_map, hj, hq] at h1
  exact Option.some.inj h1
def JRest (ws ws2 : va_W) : List Nat → Prop
  | [] => True
  | i :: is => (∃ c, ws2[i]? = some c ∧ ws[i]? = some c) ∧ JRest ws ws2 is
theorem JRest.at {ws ws2 : va_W} : ∀ {is : List Nat}, JRest ws ws2 is → ∀ i ∈ is, ws2[i]? = ws[i]?
  | [], _, i, hi => absurd hi List.not_mem_nil
  | j :: is, h, i, hi => by
    rcases List.mem_cons.mp hi with rfl | hi
    · obtain ⟨⟨c, h1, h2⟩, -⟩ := h
      rw [h1, h2]
    · exact JRest.at h.2 i hi
/-- ws2 is ws, with wc' at the places of wc -/
def JRep (ws ws2 wc wc' : va_W) (isC isR : List Nat) (N : Nat) : Prop :=
  isC.map (fun i => ws[i]?) = wc.map some ∧ va_nd isC = true ∧ ws2.length = N ∧ (List.range N).all (fun k => decide (k ∈ isC ++ isR)) = true ∧ isC.map (fun i => ws2[i]?) = wc'.map some ∧ JRest ws ws2 isR
theorem JRep.get {ws ws2 wc wc' : va_W} {isC isR : List Nat} {N : Nat} (h : JRep ws ws2 wc wc' isC isR N) {k : Nat} {q : Nat × va_E} (hk : ws2[k]? = some q) : (∃ j : Nat, isC[j]? = some k ∧ wc'[j]? = some q) ∨ (k ∉ isC ∧ ws[k]? = some q) := by
  obtain ⟨hC, hn, hl, hcov, h1, h2⟩ := h
  by_cases hm : k ∈ isC
  · obtain ⟨j, hj⟩ := List.getElem?_of_mem hm
    refine Or.inl ⟨j, hj, ?_⟩
    have h3 : (isC.map (fun i => ws2[i]?))[j]? = (wc'.map some)[j]? := by rw [h1]
    rw [List.getElem?_map, List.getElem?_map, hj] at h3
    cases hw : wc'[j]? with
    | none => rw [hw] at h3; cases h3
    | some z =>
      rw [hw] at h3
      have h4 : ws2[k]? = some z := Option.some.inj h3
      rw [hk] at h4
      exact h4.symm
  · have hlt : k < N := by rw [← hl]; exact (List.getElem?_eq_some_iff.mp hk).1
    have hm2 := List.all_eq_true.mp hcov k (List.mem_range.mpr hlt)
    rw [decide_eq_true_eq] at hm2
    have hm3 : k ∈ isR := (List.mem_append.mp hm2).resolve_left hm
    have h4 : ws2[k]? = ws[k]? := h2.at k hm3
    exact Or.inr ⟨hm, h4 ▸ hk⟩
theorem JRep.len {ws ws2 wc wc' : va_W} {isC isR : List Nat} {N : Nat} (h : JRep ws ws2 wc wc' isC isR N) : isC.length = wc.length := by
  have := congrArg List.length h.1; simpa using this
theorem JRep.out {A : Nat → Prop} {D : va_G} {cl : List vw_C} {ws ws2 wc wc' : va_W} {isC isR : List Nat} {N : Nat} {H : Heap} (h : JRep ws ws2 wc wc' isC isR N) (hP : va_P D cl ws H) (hD : va_D A ws) {k : Nat} {q : Nat × va_E} (hm : k ∉ isC) (hq : ws[k]? = some q) : q.1 < H.size ∧ ¬ va_A wc H.size q.1 := by
  refine ⟨(hP k q hq).lt, fun hA => ?_⟩
  rcases hA with ⟨k2, e, h3⟩ | h3
  · have hlt : k2 < isC.length := by rw [h.len]; exact (List.getElem?_eq_some_iff.mp h3).1
    have h4 : isC[k2]? = some isC[k2] := List.getElem?_eq_getElem hlt
    have h5 := j_place h.1 h4 h3
    have h6 := hD.1 k isC[k2] q (q.1, e) hq h5 rfl
    exact hm (h6 ▸ List.mem_of_getElem? h4)
  · have h4 := (hP k q hq).lt
    omega
theorem JRep.D {A : Nat → Prop} {D : va_G} {cl : List vw_C} {ws ws2 wc wc' : va_W} {isC isR : List Nat} {N : Nat} {H : Heap} (h : JRep ws ws2 wc wc' isC isR N) (hP : va_P D cl ws H) (hD : va_D A ws) (hF : ∀ q, va_A wc H.size q → A q) (hD1 : va_D (va_A wc H.size) wc') : va_D A ws2 := by
  refine ⟨fun i j x y hi hj hxy => ?_, fun k q hk => ?_⟩
  · rcases h.get hi with ⟨a, a1, a2⟩ | ⟨a1, a2⟩ <;> rcases h.get hj with ⟨b, b1, b2⟩ | ⟨b1, b2⟩
    · have := hD1.1 a b x y a2 b2 hxy
      subst this
      exact Option.some.inj (a1.symm.trans b1)
    · exact absurd (hxy ▸ hD1.2 a x a2) (h.out hP hD b1 b2).2
    · exact absurd (hxy ▸ hD1.2 b y b2) (h.out hP hD a1 a2).2
    · exact hD.1 i j x y a2 b2 hxy
  · rcases h.get hk with ⟨a, a1, a2⟩ | ⟨a1, a2⟩
    · exact hF _ (hD1.2 a q a2)
    · exact hD.2 k q a2
theorem JRep.P {A : Nat → Prop} {D : va_G} {cl : List vw_C} {ws ws2 wc wc' : va_W} {isC isR : List Nat} {N : Nat} {H H1 : Heap} (h : JRep ws ws2 wc wc' isC isR N) (hP : va_P D cl ws H) (hD : va_D A ws) (hP1 : va_P D cl wc' H1) (hk : ∀ q : Nat, q < H.size → ¬ va_A wc H.size q → H1[q]? = H[q]?) : va_P D cl ws2 H1 := by
  intro k q hq
  rcases h.get hq with ⟨j, h1, h2⟩ | ⟨h1, h2⟩
  · exact hP1 j q h2
  · have g := h.out hP hD h1 h2
    exact (hP k q h2).kept (hk q.1 g.1 g.2)
section JCALL
variable {l : Launch} {R : Room} {G : JG} {nL : Nat} {X : JX} {Q : State → Prop} {k n pc : Nat} {lv : List (Nat × Value)} {st st2 : List Value} {ws : va_W} {cc : ByteArray} {own : String} {ret : Option FieldType} {tb : List (Nat × ClassFile.Instr × Nat)}
theorem J_core (C : Cx G nL X cc own ret tb) {r : Option Value} {a : Array Value} {wc wc' ws2 : va_W} {isC isR : List Nat} {N : Nat} (hr0 : JRep ws ws2 wc wc' isC isR N) {st3 : List Value} (h3 : r.toList ++ st2 = st3)
    (hr : ∀ (H : Heap) (locs : List Loc) (ls : Array Slot), va_P G.1 vwCl ws H → va_P G.1 vwCl wc H → va_D (fun _ => True) wc → ls.size = nL → va_Run X.1 l X.2.1 R X.2.2.1 X.2.2.2.1 X.2.2.2.2.1 X.2.2.2.2.2.1 X.2.2.2.2.2.2.1 X.2.2.2.2.2.2.2.1 H locs k n 0 0 (F0 X.2.2.2.1 pc ls st) st2 (JQ G r wc' (va_A wc H.size) a) (va_A wc H.size))
    (kk : J l R G nL X Q k n (pc + 3) lv st3 ws2) : J l R G nL X Q k n pc lv st ws := by
  intro H locs ls hP hD hS h T hT XT
  have hPc : va_P G.1 vwCl wc H := by
    intro j q hq
    have hlt : j < isC.length := by rw [hr0.len]; exact (List.getElem?_eq_some_iff.mp hq).1
    exact hP _ q (j_place hr0.1 (List.getElem?_eq_getElem hlt) hq)
  have hDc : va_D X.2.2.2.2.2.2.2.2 wc := hD.sub isC hr0.2.1 hr0.1
  have hF := va_free hD hS C.2.2.2.2.2.2.1 isC hr0.1
  obtain ⟨v, st₀, t, T', L, h0, X', hL, e1, e2, ⟨⟨hv, hP1, hD1⟩, hz, hk⟩, stp⟩ := hr H locs ls hP hPc (hDc.weaken fun _ _ _ _ => trivial) h.1 T hT XT
  cases hv
  subst h3
  rw [h0] at hz hk
  have hPn : va_P G.1 vwCl ws2 T'.heap := by
    rw [e1]
    exact hr0.P hP hD hP1 hk
  have hDn : va_D X.2.2.2.2.2.2.2.2 ws2 := hr0.D hP hD hF hD1
  obtain ⟨t2, a1, b1⟩ := kk T'.heap (locs ++ L) ls hPn hDn
    ⟨Nat.le_trans hS.1 (by rw [e1]; exact hz), fun q h1 h2 => by rw [e1, hk q (Nat.lt_of_lt_of_le h1 hS.1) (fun z => h2 (hF q z))]; exact hS.2.1 q h1 h2, fun q hq => by
      rcases List.mem_append.mp hq with h | h
      · exact hS.2.2 q h
      · exact hF _ (hL q h)⟩ h T' rfl X'
  exact ⟨t2, stp t2 a1, b1⟩
theorem JPc_blind {av : List Value} {sz : Nat} {wc : va_W} : FrameBlind (JPc G av sz wc) := fun a U g mk q => by
  obtain ⟨q0, q1, qP, qK, qD⟩ := q
  exact ⟨q0, q1, qP, KK.calling qK, qD⟩
theorem JPc_at {s U : State} {av : List Value} {H : Heap} {wc : va_W} (hK : KK G s) (hP : va_P G.1 vwCl wc H) (hD : va_D (fun _ => True) wc) (hU : U.heap = H) (hW : s.WarmedH U.vm) : JPc G av H.size wc av.toArray U :=
  ⟨rfl, by rw [hU], by rw [hU]; exact hP, KK.warm hW hK, hD⟩
variable {y : MethodName} {b : ByteArray} {a nc np fr lo index : Nat} {rc : Option FieldType} {As : List Value} {wc wc' ws2 : va_W} {r : Option Value}
def Vy (y : MethodName) (b : ByteArray) (nc : Nat) (rc : Option FieldType) (np : Nat) : Prop := Cond.code y b nc rc ∈ TB ∧ Cond.initialized y.cls ∈ TB ∧ (y.cls ≠ "java/lang/invoke/MethodHandle" ∧ y.cls ≠ "java/lang/invoke/VarHandle" ∧ (parseMethodDescriptor y.desc).map (fun d => d.parameters.length) = some np)
theorem J_callV (C : Cx G nL X cc own ret tb) (j : Nat) (hd : tb[j]? = some (pc, .invokevirtual index, 3)) (hM : JM l G y b nc rc fr lo (.ref a :: As) wc wc' r) (V : Vy y b nc rc np) (hl : Cond.methodLink own index y ∈ TB) (hi : Cond.instanceMethod y ∈ TB) (hs : Cond.selects y.cls y y ∈ TB)
    (hnp : As.length = np) (hst : st = As.reverse ++ .ref a :: st2) (hR : fr + 1 ≤ R.frames ∧ 8 + (nc + 11) + lo ≤ R.locals) (hcat : (st2.map fun v => v.category).sum ≤ 8) (hkn : k ≤ R.cells ∧ n ≤ R.slots) (q0 ci : Nat) {cq : vw_C} {fs : List Value} (hcl : vwCl[ci]? = some cq) (hcy : cq.1 = y.cls) (hrc : ws[q0]? = some (a, .inr (ci, fs)))
    {isC isR : List Nat} {N : Nat} (hr0 : JRep ws ws2 wc wc' isC isR N) {st3 : List Value} (h3 : r.toList ++ st2 = st3)
    (kk : J l R G nL X Q k n (pc + 3) lv st3 ws2) : J l R G nL X Q k n pc lv st ws := by
  refine J_core C (a := (Value.ref a :: As).toArray) hr0 h3 (fun H locs ls hP hPc hDc hls => ?_) kk
  have hcell := va_recv C.2.2.2.2.2.1.1 hP hcl hrc
  rw [hcy] at hcell
  exact va_runV (C := y.cls) (As := As) (rest := st2) ⟨C.1, C.2.1, C.2.2.1, C.2.2.2.1, C.2.2.2.2.1⟩ (hM H.size)
    ⟨callB_of np C.2.2.2.2.1 (TB_in _ _ _ _ V.1) rfl rfl rfl (C.2.2.2.2.1 _ V.2.1) (C.2.2.2.2.1 _ hl) V.2.2 hR, C.2.2.2.2.1 _ hi, C.2.2.2.2.1 _ hs⟩
    ⟨JPc_blind, hcell, fun U hU hW => JPc_at C.2.2.2.2.2.1 hPc hDc hU hW⟩ rfl hnp hls hst (lv_room hcat) (C.d j hd) hkn
theorem J_callS (C : Cx G nL X cc own ret tb) (j : Nat) (hd : tb[j]? = some (pc, .invokestatic index, 3)) (hM : JM l G y b nc rc fr lo As wc wc' r) (V : Vy y b nc rc np) (hl : Cond.methodLink own index y ∈ TB) (hi : Cond.static y ∈ TB)
    (hnp : As.length = np) (hst : st = As.reverse ++ st2) (hR : fr + 1 ≤ R.frames ∧ 8 + (nc + 11) + lo ≤ R.locals) (hcat : (st2.map fun v => v.category).sum ≤ 8) (hkn : k ≤ R.cells ∧ n ≤ R.slots)
    {isC isR : List Nat} {N : Nat} (hr0 : JRep ws ws2 wc wc' isC isR N) {st3 : List Value} (h3 : r.toList ++ st2 = st3)
    (kk : J l R G nL X Q k n (pc + 3) lv st3 ws2) : J l R G nL X Q k n pc lv st ws := by
  refine J_core C (a := As.toArray) hr0 h3 (fun H locs ls hP hPc hDc hls => ?_) kk
  exact va_runS (As := As) (rest := st2) ⟨C.1, C.2.1, C.2.2.1, C.2.2.2.1, C.2.2.2.2.1⟩ (hM H.size)
    ⟨callB_of np C.2.2.2.2.1 (TB_in _ _ _ _ V.1) rfl rfl rfl (C.2.2.2.2.1 _ V.2.1) (C.2.2.2.2.1 _ hl) V.2.2 hR, C.2.2.2.2.1 _ hi⟩
    ⟨JPc_blind, fun U hU hW => JPc_at C.2.2.2.2.2.1 hPc hDc hU hW⟩ rfl hnp hls hst (lv_room hcat) (C.d j hd) hkn
theorem J_callSN (C : Cx G nL X cc own ret tb) (j : Nat) {host : String} (hd : tb[j]? = some (pc, .invokestatic index, 3)) (hM : JM l G y b nc rc fr lo As wc wc' r) (V : Vy y b nc rc np) (hl : Cond.methodLinkNest own index y host ∈ nestL) (hi : Cond.static y ∈ TB)
    (hnp : As.length = np) (hst : st = As.reverse ++ st2) (hR : fr + 1 ≤ R.frames ∧ 8 + (nc + 11) + lo ≤ R.locals) (hcat : (st2.map fun v => v.category).sum ≤ 8) (hkn : k ≤ R.cells ∧ n ≤ R.slots)
    {isC isR : List Nat} {N : Nat} (hr0 : JRep ws ws2 wc wc' isC isR N) {st3 : List Value} (h3 : r.toList ++ st2 = st3)
    (kk : J l R G nL X Q k n (pc + 3) lv st3 ws2) : J l R G nL X Q k n pc lv st ws := by
  refine J_core C (a := As.toArray) hr0 h3 (fun H locs ls hP hPc hDc hls => ?_) kk
  exact va_runSN (As := As) (rest := st2) ⟨C.1, C.2.1, C.2.2.1, C.2.2.2.1, C.2.2.2.2.1⟩ (hM H.size)
    ⟨va_cnB np C.2.2.2.2.1 (TB_in _ _ _ _ V.1) rfl rfl rfl (C.2.2.2.2.2.1.2.1 _ hl) (C.2.2.2.2.1 _ V.2.1) V.2.2 hR, C.2.2.2.2.1 _ hi, trivial⟩
    ⟨JPc_blind, fun U hU hW => JPc_at C.2.2.2.2.2.1 hPc hDc hU hW⟩ rfl hnp hls hst (lv_room hcat) (C.d j hd) hkn
end JCALL
theorem no_none {α : Type} {x : Option α} {r : α} (h0 : x = none) (h : x = some r) : False := by rw [h0] at h; cases h
/-- a loop by fuel -/
def lp {A S : Type} (F : (A → Option S) → A → Option S) : Nat → A → Option S
  | 0, _ => none
  | n + 1, a => F (lp F n) a
theorem FU_ex : ∃ n : Nat, 4000 ≤ n := ⟨4000, Nat.le_refl _⟩
noncomputable def FU : Nat := Classical.choose FU_ex
theorem FU_ge : 4000 ≤ FU := Classical.choose_spec FU_ex
def up1 {α : Type} (f : Nat → α) (k : Nat) (v : α) : Nat → α := fun i => bif Nat.beq i k then v else f i
