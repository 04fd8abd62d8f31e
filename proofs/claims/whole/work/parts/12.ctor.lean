/-! ===== what makes: constructors ===== -/
def JQC {U : Type} (G : JG) (φ : U → Prop) (W' : U → va_W) (A : Nat → Prop) : Array Value → State → Outcome → State → Prop := fun _ s o t => (∃ u : U, o = .returned none ∧ φ u ∧ va_P G.1 vwCl (W' u) t.heap ∧ va_D A (W' u)) ∧ va_F A s t
def JMC {U : Type} (l : Launch) (G : JG) (y : MethodName) (b : ByteArray) (nL fr lo mc ms h0 ci : Nat) (fs : List Value) (φ : U → Prop) (W' : U → va_W) : Prop :=
  ∀ sz : Nat, Met l y (.code y b nL none :: TB) { frames := fr, cells := mc, slots := ms, locals := lo } (JPc G [.ref h0] sz [(h0, .inr (ci, fs))]) (JQC G φ W' (va_A [(h0, .inr (ci, fs))] sz)) mc ms (va_A [(h0, .inr (ci, fs))] sz)
def QC {U : Type} (X : JX) (G : JG) (k n : Nat) (φ : U → Prop) (W' : U → va_W) : State → Prop := MQ X.2.2.2.2.2.1 (JQC G φ W' X.2.2.2.2.2.2.2.2) X.2.2.2.2.1 X.2.2.1 k n X.2.2.2.2.2.2.2.2
section JINIT
variable {l : Launch} {R : Room} {G : JG} {nL : Nat} {X : JX} {Q : State → Prop} {k n pc : Nat} {lv : List (Nat × Value)} {st st2 : List Value} {ws : va_W} {cc : ByteArray} {own : String} {ret : Option FieldType} {tb : List (Nat × ClassFile.Instr × Nat)}
theorem JMC.of {U : Type} {y : MethodName} {b : ByteArray} {fr lo mc ms h0 ci : Nat} {fs : List Value} {φ : U → Prop} {W' : U → va_W} (hy : plainName y.cls = true) (hlen : 1 ≤ nL) (hT : ∀ q ∈ tb, decode b q.1 = .ok q.2) (ho : y.cls = own) (hi : y.name = "<init>")
    (body : ∀ X : JX, Cx G nL X b own none tb → X.2.2.2.2.2.2.1.name = "<init>" → J l { frames := fr, cells := mc, slots := ms, locals := lo } G nL X (QC X G mc ms φ W') 0 0 0 [(0, .ref h0)] [] [(h0, .inr (ci, fs))]) : JMC l G y b nL fr lo mc ms h0 ci fs φ W' := by
  intro sz
  refine Met.ofW (cc := b) (maxL := nL) (ret := none) hy rfl ?_
  intro p e s m args below meth c s₁ B hml hv
  obtain ⟨rfl, hsz, hP, hK, hD0⟩ := hv
  have hts := atoms_spec (ws := .code y b nL none :: TB) B.pre
  have hown : s.vm.findClass y.cls = some m.cls := findClass_of_methodNamed B.named
  have hnm : meth.name = "<init>" := (name_of_methodNamed B.named B.method).1.trans hi
  rw [ho] at hown
  subst hsz
  have hD := hD0.self (sz := s.heap.size)
  have Z := body (p, e, s, m, ([.ref h0] : List Value).toArray, below, meth, c, va_A [(h0, .inr (ci, fs))] s.heap.size) ⟨B.exec, B.bytes, hml, hown, fun w hw => hts w (List.mem_cons_of_mem _ hw), hK, fun q h => Or.inr h, B.notSynchronized, B.returns, hT⟩ hnm
  rw [lg_entry_eq]
  exact Z s.heap [] _ hP hD va_S.rf (lv_entry [.ref h0] hlen)
theorem J_cret {U : Type} {φ : U → Prop} {W' : U → va_W} (C : Cx G nL X cc own none tb) (j : Nat) (u : U) (hφ : φ u) (hd : tb[j]? = some (pc, .return_, 1)) : J l R G nL X (QC X G k n φ W') k n pc lv [] (W' u) :=
  fun _ _ _ hP hD hS _ => W.vret C.1 C.2.1 C.2.2.2.2.2.2.2.2.1 (fun t ht _ => ⟨⟨u, rfl, hφ, by rw [ht]; exact hP, hD⟩, hS.F ht⟩) hS.2.2 (C.d j hd) C.2.2.2.2.2.2.2.1
theorem J_oinit (C : Cx G nL X cc own ret tb) (j : Nat) {index a : Nat} (hd : tb[j]? = some (pc, .invokespecial index, 3)) (hl : Cond.methodLink own index Lib.objectInit ∈ TB) (hf : 1 ≤ R.frames) (hlo : (st.map fun v => v.category).sum + 12 ≤ R.locals) (kk : J l R G nL X Q k n (pc + 3) lv st ws) : J l R G nL X Q k n pc lv (.ref a :: st) ws :=
  fun H locs ls hP hD hS h => W.objInit C.1 C.2.1 C.2.2.2.1 (C.2.2.2.2.1 _ hl) (C.2.2.2.2.1 _ k2) (C.2.2.2.2.1 _ k3) rfl (h.1.trans C.2.2.1.symm) rfl (C.d j hd) hf (by show 2 * 0 + _ + 12 ≤ _; omega) (kk H locs ls hP hD hS h)
theorem J_new (C : Cx G nL X cc own ret tb) (j : Nat) {Cn : String} {T : u_T} {N ci index : Nat} {fs : List Value} (hd : tb[j]? = some (pc, .new index, 3)) (hin : ∀ w ∈ u_ws Cn T N, w ∈ TB) (ty : Nat → FieldType) (hty : ∀ k, k < N → parseFieldDescriptor (T k).2.2.1 = some (ty k)) (hcl : Cond.classLink own index Cn ∈ TB) (hinst : Cond.instantiable Cn N ∈ TB) (hini : Cond.initialized Cn ∈ TB) (hc : vwCl[ci]? = some (Cn, T, N)) (hfs : ∀ j, j < N → defaultValue (ty j) = vp_V fs j) (hk : k + 1 ≤ R.cells) (hn : n + N ≤ R.slots) (kk : ∀ q : Nat, J l R G nL X Q (k + 1) (n + N) (pc + 3) lv (.ref q :: st) (ws ++ [(q, .inr (ci, fs))])) : J l R G nL X Q k n pc lv st ws :=
  fun H locs ls hP hD hS h => va_new C.1 C.2.1 C.2.2.2.2.1 hin ty hty C.2.2.2.1 (C.2.2.2.2.1 _ hcl) (C.2.2.2.2.1 _ hinst) (C.2.2.2.2.1 _ hini) C.2.2.2.2.2.1.1 hP hD hS C.2.2.2.2.2.2.1 hc hfs hk hn (C.d j hd) (fun q H1 hP1 hD1 hS1 => kk q H1 locs ls hP1 hD1 hS1 h)
theorem J_newaI (C : Cx G nL X cc own ret tb) (j : Nat) {z : Int32} {N : Nat} (hd : tb[j]? = some (pc, .newarray .int, 2)) (harr : Cond.arrayClass .int ∈ TB) (hz : ¬ z < 0) (hN : z.toNatClampNeg = N) (hb : N * 4 ≤ 536870912) (hk : k + 1 ≤ R.cells) (hn : n + N ≤ R.slots) (kk : ∀ q : Nat, J l R G nL X Q (k + 1) (n + N) (pc + 2) lv (.ref q :: st) (ws ++ [(q, .inl (G.2 0, N, .inl (fun _ => 0)))])) : J l R G nL X Q k n pc lv (.int z :: st) ws := by
  intro H locs ls hP hD hS h
  refine va_newa (atype := .int) (a0 := (N, .inl (fun _ => 0))) C.1 C.2.1 (C.2.2.2.2.1 _ harr) (ty := .int) rfl C.2.2.2.2.2.1.1 hP hD hS C.2.2.2.2.2.2.1 (fun cA => rfl) hz hN hb hk hn (C.d j hd) (fun q cA H1 hK1 hP1 hD1 hS1 => ?_)
  have e1 := (hK1.2 4 (cA, .int) rfl).2
  have e2 := (hK1.2 0 (G.2 0, .int) rfl).2
  have e : cA = G.2 0 := Option.some.inj (Eq.trans (Eq.symm e1) e2)
  subst e
  exact kk q H1 locs ls hP1 hD1 hS1 h
theorem J_newaZ (C : Cx G nL X cc own ret tb) (j : Nat) {z : Int32} {N : Nat} (hd : tb[j]? = some (pc, .newarray .boolean, 2)) (harr : Cond.arrayClass .boolean ∈ TB) (hz : ¬ z < 0) (hN : z.toNatClampNeg = N) (hb : N * 1 ≤ 536870912) (hk : k + 1 ≤ R.cells) (hn : n + N ≤ R.slots) (kk : ∀ q : Nat, J l R G nL X Q (k + 1) (n + N) (pc + 2) lv (.ref q :: st) (ws ++ [(q, .inl (G.2 1, N, .inl (fun _ => 0)))])) : J l R G nL X Q k n pc lv (.int z :: st) ws := by
  intro H locs ls hP hD hS h
  refine va_newa (atype := .boolean) (a0 := (N, .inl (fun _ => 0))) C.1 C.2.1 (C.2.2.2.2.1 _ harr) (ty := .boolean) rfl C.2.2.2.2.2.1.1 hP hD hS C.2.2.2.2.2.2.1 (fun cA => rfl) hz hN hb hk hn (C.d j hd) (fun q cA H1 hK1 hP1 hD1 hS1 => ?_)
  have e1 := (hK1.2 4 (cA, .boolean) rfl).2
  have e2 := (hK1.2 1 (G.2 1, .boolean) rfl).2
  have e : cA = G.2 1 := Option.some.inj (Eq.trans (Eq.symm e1) e2)
  subst e
  exact kk q H1 locs ls hP1 hD1 hS1 h
theorem J_newaC (C : Cx G nL X cc own ret tb) (j : Nat) {z : Int32} {N : Nat} (hd : tb[j]? = some (pc, .newarray .char, 2)) (harr : Cond.arrayClass .char ∈ TB) (hz : ¬ z < 0) (hN : z.toNatClampNeg = N) (hb : N * 2 ≤ 536870912) (hk : k + 1 ≤ R.cells) (hn : n + N ≤ R.slots) (kk : ∀ q : Nat, J l R G nL X Q (k + 1) (n + N) (pc + 2) lv (.ref q :: st) (ws ++ [(q, .inl (G.2 2, N, .inl (fun _ => 0)))])) : J l R G nL X Q k n pc lv (.int z :: st) ws := by
  intro H locs ls hP hD hS h
  refine va_newa (atype := .char) (a0 := (N, .inl (fun _ => 0))) C.1 C.2.1 (C.2.2.2.2.1 _ harr) (ty := .char) rfl C.2.2.2.2.2.1.1 hP hD hS C.2.2.2.2.2.2.1 (fun cA => rfl) hz hN hb hk hn (C.d j hd) (fun q cA H1 hK1 hP1 hD1 hS1 => ?_)
  have e1 := (hK1.2 4 (cA, .char) rfl).2
  have e2 := (hK1.2 2 (G.2 2, .char) rfl).2
  have e : cA = G.2 2 := Option.some.inj (Eq.trans (Eq.symm e1) e2)
  subst e
  exact kk q H1 locs ls hP1 hD1 hS1 h
theorem J_anew (C : Cx G nL X cc own ret tb) (j : Nat) {z : Int32} {N index : Nat} (hd : tb[j]? = some (pc, .anewarray index, 3)) (hcl : Cond.classLink own index "ExamHalls$School" ∈ TB) (hz : ¬ z < 0) (hN : z.toNatClampNeg = N) (hb : N * 4 ≤ 536870912) (hk : k + 1 ≤ R.cells) (hn : n + N ≤ R.slots) (kk : ∀ q : Nat, J l R G nL X Q (k + 1) (n + N) (pc + 3) lv (.ref q :: st) (ws ++ [(q, .inl (G.2 3, N, .inr (.inr (.inr (.inr (fun _ => none))))))])) : J l R G nL X Q k n pc lv (.int z :: st) ws := by
  intro H locs ls hP hD hS h
  refine va_newq C.1 C.2.1 C.2.2.2.1 (C.2.2.2.2.1 _ hcl) C.2.2.2.2.2.1.2.2 C.2.2.2.2.2.1.1 hP hD hS C.2.2.2.2.2.2.1 hz hN hb hk hn (C.d j hd) (fun q cA H1 hK1 hP1 hD1 hS1 => ?_)
  obtain ⟨_, _, _, _, _, e1⟩ := (hK1.2 4 (cA, .object "ExamHalls$School") rfl).2
  obtain ⟨_, _, _, _, _, e2⟩ := (hK1.2 3 (G.2 3, .object "ExamHalls$School") rfl).2
  have e : cA = G.2 3 := Option.some.inj (Eq.trans (Eq.symm e1) e2)
  subst e
  exact kk q H1 locs ls hP1 hD1 hS1 h
theorem J_putF (C : Cx G nL X cc own ret tb) (j : Nat) (hin2 : X.2.2.2.2.2.2.1.name = "<init>") {ref Cn : String} {T : u_T} {N ci index a : Nat} {fs : List Value} {v : Value} {ty : FieldType} {ws2 : va_W} (hd : tb[j]? = some (pc, .putfield index, 3)) (hin : ∀ w ∈ u_ws Cn T N, w ∈ TB) (ty0 : Nat → FieldType) (hty : ∀ k, k < N → parseFieldDescriptor (T k).2.2.1 = some (ty0 k)) (hnm : ∀ a, a < N → ∀ b, b < N → a ≠ b → (T a).2.1 ≠ (T b).2.1) (hc : vwCl[ci]? = some (Cn, T, N)) (q0 kf : Nat) (he : ws[q0]? = some (a, .inr (ci, fs))) (hk : kf < N) (hlink : Cond.fieldLink own index ref (T kf).2.1 (T kf).2.2.1 ∈ TB) (hsame : (T kf).1 = ref) (hfin : (T kf).2.2.2 = true) (hdecl : (T kf).1 = own) (hty2 : ty0 kf = ty) (hn : narrow ty v = v) (hfit : fits ty v = true) (hl : kf < fs.length) (h2 : ws.set q0 (a, .inr (ci, fs.set kf v)) = ws2) (kk : J l R G nL X Q k n (pc + 3) lv st ws2) : J l R G nL X Q k n pc lv (v :: .ref a :: st) ws :=
  fun H locs ls hP hD hS h => va_putF C.1 C.2.1 C.2.2.2.2.1 hin ty0 hty hnm C.2.2.2.1 C.2.2.2.2.2.1.1 hP hD hS q0 he hc kf hk (C.2.2.2.2.1 _ hlink) (fun x hx => hsame ▸ hx) hfin hin2 hdecl (hty2 ▸ hty kf hk) hn hfit hl (C.d j hd) (fun H1 locs1 hP1 hD1 hS1 => kk H1 locs1 ls (h2 ▸ hP1) (h2 ▸ hD1) hS1 h)
variable {U : Type} {y : MethodName} {b : ByteArray} {a nc fr lo mc ms ci index : Nat} {fs : List Value} {φ : U → Prop} {W' : U → va_W}
theorem J_coreC (C : Cx G nL X cc own ret tb) {av : Array Value} (q0 : Nat) (hq : ws[q0]? = some (a, .inr (ci, fs))) (isR : List Nat) {wr : va_W} (hR2 : isR.map (fun i => ws[i]?) = wr.map some) (hn : va_nd isR = true) (hdis : ∀ i ∈ isR, i ∉ [q0])
    (hr : ∀ (H : Heap) (locs : List Loc) (ls : Array Slot), va_P G.1 vwCl [(a, .inr (ci, fs))] H → va_D (fun _ => True) [(a, .inr (ci, fs))] → ls.size = nL → va_Run X.1 l X.2.1 R X.2.2.1 X.2.2.2.1 X.2.2.2.2.1 X.2.2.2.2.2.1 X.2.2.2.2.2.2.1 X.2.2.2.2.2.2.2.1 H locs k n mc ms (F0 X.2.2.2.1 pc ls st) st2 (JQC G φ W' (va_A [(a, .inr (ci, fs))] H.size) av) (va_A [(a, .inr (ci, fs))] H.size))
    (kk : ∀ u : U, φ u → J l R G nL X Q (k + mc) (n + ms) (pc + 3) lv st2 (wr ++ W' u)) : J l R G nL X Q k n pc lv st ws := by
  intro H locs ls hP hD hS h T hT XT
  have hC : [q0].map (fun i => ws[i]?) = [(a, .inr (ci, fs))].map some := by simp [hq]
  have hPc : va_P G.1 vwCl [(a, .inr (ci, fs))] H := hP.sub [q0] (by simp [hq])
  have hDc : va_D X.2.2.2.2.2.2.2.2 [(a, .inr (ci, fs))] := hD.sub [q0] rfl hC
  have hF := va_free hD hS C.2.2.2.2.2.2.1 [q0] hC
  obtain ⟨v, st₀, t, T', L, h0, X', hL, e1, e2, ⟨⟨u, hv, hφ, hP1, hD1⟩, hz, hk⟩, stp⟩ := hr H locs ls hPc (hDc.weaken fun _ _ _ _ => trivial) h.1 T hT XT
  cases hv
  rw [h0] at hz hk
  obtain ⟨hPn, hDn⟩ := va_join (wr := wr) (w1 := W' u) hP hD [q0] isR hC hR2 hn hdis hk hF hP1 hD1
  obtain ⟨t2, a1, b1⟩ := kk u hφ T'.heap (locs ++ L) ls (by rw [e1]; exact hPn) hDn
    ⟨Nat.le_trans hS.1 (by rw [e1]; exact hz), fun q h1 h2 => by rw [e1, hk q (Nat.lt_of_lt_of_le h1 hS.1) (fun z => h2 (hF q z))]; exact hS.2.1 q h1 h2, fun q hq => by
      rcases List.mem_append.mp hq with h | h
      · exact hS.2.2 q h
      · exact hF _ (hL q h)⟩ h T' rfl X'
  exact ⟨t2, stp t2 a1, b1⟩
theorem J_callC (C : Cx G nL X cc own ret tb) (j : Nat) (hd : tb[j]? = some (pc, .invokespecial index, 3)) (hM : JMC l G y b nc fr lo mc ms a ci fs φ W') (V : Vy y b nc none 0) (hl : Cond.methodLink own index y ∈ TB) (hi : Cond.instanceMethod y ∈ TB) (hy1 : y.name = "<init>") (hst : st = .ref a :: st2) (hR : fr + 1 ≤ R.frames ∧ 8 + (nc + 11) + lo ≤ R.locals) (hcat : (st2.map fun v => v.category).sum ≤ 8) (hkn : k + mc ≤ R.cells ∧ n + ms ≤ R.slots)
    (q0 : Nat) (hq : ws[q0]? = some (a, .inr (ci, fs))) (isR : List Nat) {wr : va_W} (hR2 : isR.map (fun i => ws[i]?) = wr.map some) (hn : va_nd isR = true) (hdis : ∀ i ∈ isR, i ∉ [q0])
    (kk : ∀ u : U, φ u → J l R G nL X Q (k + mc) (n + ms) (pc + 3) lv st2 (wr ++ W' u)) : J l R G nL X Q k n pc lv st ws := by
  refine J_coreC C (av := [Value.ref a].toArray) q0 hq isR hR2 hn hdis (fun H locs ls hPc hDc hls => ?_) kk
  exact va_runI (As := []) (rest := st2) ⟨C.1, C.2.1, C.2.2.1, C.2.2.2.1, C.2.2.2.2.1⟩ (hM H.size)
    ⟨callB_of 0 C.2.2.2.2.1 (TB_in _ _ _ _ V.1) rfl rfl rfl (C.2.2.2.2.1 _ V.2.1) (C.2.2.2.2.1 _ hl) V.2.2 hR, hy1, C.2.2.2.2.1 _ hi⟩
    ⟨JPc_blind, fun U hU hW => JPc_at C.2.2.2.2.2.1 hPc hDc hU hW⟩ rfl rfl hls hst (lv_room hcat) (C.d j hd) hkn
theorem J_callCN (C : Cx G nL X cc own ret tb) (j : Nat) {host : String} (hd : tb[j]? = some (pc, .invokespecial index, 3)) (hM : JMC l G y b nc fr lo mc ms a ci fs φ W') (V : Vy y b nc none 0) (hl : Cond.methodLinkNest own index y host ∈ nestL) (hi : Cond.instanceMethod y ∈ TB) (hy1 : y.name = "<init>") (hst : st = .ref a :: st2) (hR : fr + 1 ≤ R.frames ∧ 8 + (nc + 11) + lo ≤ R.locals) (hcat : (st2.map fun v => v.category).sum ≤ 8) (hkn : k + mc ≤ R.cells ∧ n + ms ≤ R.slots)
    (q0 : Nat) (hq : ws[q0]? = some (a, .inr (ci, fs))) (isR : List Nat) {wr : va_W} (hR2 : isR.map (fun i => ws[i]?) = wr.map some) (hn : va_nd isR = true) (hdis : ∀ i ∈ isR, i ∉ [q0])
    (kk : ∀ u : U, φ u → J l R G nL X Q (k + mc) (n + ms) (pc + 3) lv st2 (wr ++ W' u)) : J l R G nL X Q k n pc lv st ws := by
  refine J_coreC C (av := [Value.ref a].toArray) q0 hq isR hR2 hn hdis (fun H locs ls hPc hDc hls => ?_) kk
  exact va_runIN (As := []) (rest := st2) ⟨C.1, C.2.1, C.2.2.1, C.2.2.2.1, C.2.2.2.2.1⟩ (hM H.size)
    ⟨va_cnB 0 C.2.2.2.2.1 (TB_in _ _ _ _ V.1) rfl rfl rfl (C.2.2.2.2.2.1.2.1 _ hl) (C.2.2.2.2.1 _ V.2.1) V.2.2 hR, hy1, C.2.2.2.2.1 _ hi⟩
    ⟨JPc_blind, fun U hU hW => JPc_at C.2.2.2.2.2.1 hPc hDc hU hW⟩ rfl rfl hls hst (lv_room hcat) (C.d j hd) hkn
end JINIT

def T_X2_init : List (Nat × ClassFile.Instr × Nat) := [(0, .aload_n 0, 1), (1, .invokespecial 3, 3), (4, .aload_n 0, 1), (5, .iconst 3, 1), (6, .newarray .int, 2), (8, .dup, 1), (9, .iconst 0, 1), (10, .iconst 1, 1), (11, .iastore, 1), (12, .dup, 1), (13, .iconst 1, 1), (14, .iconst 1, 1), (15, .iastore, 1), (16, .dup, 1), (17, .iconst 2, 1), (18, .bipush 10, 2), (20, .iastore, 1), (21, .putfield 9, 3), (24, .aload_n 0, 1), (25, .bipush 6, 2), (27, .newarray .int, 2), (29, .putfield 15, 3), (32, .aload_n 0, 1), (33, .bipush 6, 2), (35, .newarray .int, 2), (37, .dup, 1), (38, .iconst 0, 1), (39, .bipush 60, 2), (41, .iastore, 1), (42, .dup, 1), (43, .iconst 1, 1), (44, .bipush 60, 2), (46, .iastore, 1), (47, .dup, 1), (48, .iconst 2, 1), (49, .bipush 60, 2), (51, .iastore, 1), (52, .dup, 1), (53, .iconst 3, 1), (54, .bipush 60, 2), (56, .iastore, 1), (57, .dup, 1), (58, .iconst 4, 1), (59, .bipush 60, 2), (61, .iastore, 1), (62, .dup, 1), (63, .iconst 5, 1), (64, .bipush 60, 2), (66, .iastore, 1), (67, .putfield 18, 3), (70, .aload_n 0, 1), (71, .bipush 16, 2), (73, .newarray .int, 2), (75, .putfield 21, 3), (78, .aload_n 0, 1), (79, .bipush 16, 2), (81, .newarray .int, 2), (83, .putfield 24, 3), (86, .aload_n 0, 1), (87, .bipush 16, 2), (89, .newarray .boolean, 2), (91, .putfield 27, 3), (94, .aload_n 0, 1), (95, .iconst 4, 1), (96, .newarray .int, 2), (98, .dup, 1), (99, .iconst 0, 1), (100, .iconst 2, 1), (101, .iastore, 1), (102, .dup, 1), (103, .iconst 1, 1), (104, .iconst 2, 1), (105, .iastore, 1), (106, .dup, 1), (107, .iconst 2, 1), (108, .iconst 2, 1), (109, .iastore, 1), (110, .dup, 1), (111, .iconst 3, 1), (112, .iconst 2, 1), (113, .iastore, 1), (114, .putfield 31, 3), (117, .aload_n 0, 1), (118, .iconst 4, 1), (119, .newarray .int, 2), (121, .dup, 1), (122, .iconst 0, 1), (123, .iconst 2, 1), (124, .iastore, 1), (125, .dup, 1), (126, .iconst 1, 1), (127, .iconst 2, 1), (128, .iastore, 1), (129, .dup, 1), (130, .iconst 2, 1), (131, .iconst 2, 1), (132, .iastore, 1), (133, .dup, 1), (134, .iconst 3, 1), (135, .iconst 2, 1), (136, .iastore, 1), (137, .putfield 34, 3), (140, .aload_n 0, 1), (141, .iconst 0, 1), (142, .putfield 37, 3), (145, .aload_n 0, 1), (146, .iconst 1, 1), (147, .putfield 41, 3), (150, .return_, 1)]
theorem D_X2_init : ∀ q ∈ T_X2_init, decode cX2_init q.1 = .ok q.2 := by decide +kernel
theorem V_X2_init : Vy yX2_init cX2_init 1 none 0 := ⟨k0, k22, by decide +kernel⟩
def vi_X2 : JV := fun k => match k with
  | 0 => (upd (upd (upd (fun _ => 0) 0 (1 : Int32)) 1 (1 : Int32)) 2 (10 : Int32))
  | 1 => (fun _ => 0)
  | 2 => (upd (upd (upd (upd (upd (upd (fun _ => 0) 0 (60 : Int32)) 1 (60 : Int32)) 2 (60 : Int32)) 3 (60 : Int32)) 4 (60 : Int32)) 5 (60 : Int32))
  | 3 => (fun _ => 0)
  | 4 => (fun _ => 0)
  | 5 => (fun _ => 0)
  | 6 => (upd (upd (upd (upd (fun _ => 0) 0 (2 : Int32)) 1 (2 : Int32)) 2 (2 : Int32)) 3 (2 : Int32))
  | 7 => (upd (upd (upd (upd (fun _ => 0) 0 (2 : Int32)) 1 (2 : Int32)) 2 (2 : Int32)) 3 (2 : Int32))
  | 8 => (fun _ => (0 : Int32))
  | 9 => (fun _ => (1 : Int32))
  | _ => (fun _ => 0)
set_option maxRecDepth 100000 in
set_option maxHeartbeats 4000000 in
theorem c_X2_init {l : Launch} {G : JG} {h0 : Nat} : JMC (U := Nat → Nat) l G yX2_init cX2_init 1 1 12 8 71 h0 2 [.null, .null, .null, .null, .null, .null, .null, .null, .int 0, .int 0] (fun u => u 0 = h0) (fun u => wSch G u (vi_X2 0) (vi_X2 1) (vi_X2 2) (vi_X2 3) (vi_X2 4) (vi_X2 5) (vi_X2 6) (vi_X2 7) (vi_X2 8 0) (vi_X2 9 0)) := by
  refine JMC.of (own := RX2) (tb := T_X2_init) (by decide) (Nat.le_of_ble_eq_true rfl) D_X2_init rfl rfl (fun X C hin => ?_)
  refine J_aload_n (pc := 0) C 0 rfl 0 rfl rfl ?_
  refine J_oinit (pc := 1) C 1 rfl k1 (by decide) (Nat.le_of_ble_eq_true rfl) ?_
  refine J_aload_n (pc := 4) C 2 rfl 0 rfl rfl ?_
  refine J_iconst (pc := 5) (v := (3 : Int32)) C 3 rfl rfl ?_
  refine J_newaI (pc := 6) (N := 3) C 4 rfl k4 (by decide) rfl (Nat.le_of_ble_eq_true rfl) (Nat.le_of_ble_eq_true rfl) (Nat.le_of_ble_eq_true rfl) (fun q1 => ?_)
  refine J_dup (pc := 8) C 5 rfl rfl ?_
  refine J_iconst (pc := 9) (v := (0 : Int32)) C 6 rfl rfl ?_
  refine J_iconst (pc := 10) (v := (1 : Int32)) C 7 rfl rfl ?_
  refine J_iast (pc := 11) (f := (fun _ => 0)) (m := 0) C 8 (fun mm vv => ([(h0, .inr (2, [.null, .null, .null, .null, .null, .null, .null, .null, .int 0, .int 0])), (q1, .inl (G.2 0, 3, .inl (upd (fun _ => 0) mm vv)))] : va_W)) rfl 1 rfl rfl rfl (fun _ _ => rfl) ?_
  refine J_dup (pc := 12) C 9 rfl rfl ?_
  refine J_iconst (pc := 13) (v := (1 : Int32)) C 10 rfl rfl ?_
  refine J_iconst (pc := 14) (v := (1 : Int32)) C 11 rfl rfl ?_
  refine J_iast (pc := 15) (f := (upd (fun _ => 0) 0 (1 : Int32))) (m := 1) C 12 (fun mm vv => ([(h0, .inr (2, [.null, .null, .null, .null, .null, .null, .null, .null, .int 0, .int 0])), (q1, .inl (G.2 0, 3, .inl (upd (upd (fun _ => 0) 0 (1 : Int32)) mm vv)))] : va_W)) rfl 1 rfl rfl rfl (fun _ _ => rfl) ?_
  refine J_dup (pc := 16) C 13 rfl rfl ?_
  refine J_iconst (pc := 17) (v := (2 : Int32)) C 14 rfl rfl ?_
  refine J_bipush (pc := 18) (v := (10 : Int32)) C 15 rfl rfl ?_
  refine J_iast (pc := 20) (f := (upd (upd (fun _ => 0) 0 (1 : Int32)) 1 (1 : Int32))) (m := 2) C 16 (fun mm vv => ([(h0, .inr (2, [.null, .null, .null, .null, .null, .null, .null, .null, .int 0, .int 0])), (q1, .inl (G.2 0, 3, .inl (upd (upd (upd (fun _ => 0) 0 (1 : Int32)) 1 (1 : Int32)) mm vv)))] : va_W)) rfl 1 rfl rfl rfl (fun _ _ => rfl) ?_
  refine J_putF (pc := 21) (ws2 := ([(h0, .inr (2, [.ref q1, .null, .null, .null, .null, .null, .null, .null, .int 0, .int 0])), (q1, .inl (G.2 0, 3, .inl (upd (upd (upd (fun _ => 0) 0 (1 : Int32)) 1 (1 : Int32)) 2 (10 : Int32))))] : va_W)) C 17 hin rfl TB_l2 tyX2 tyX2_ok nmX2 rfl 0 0 rfl (by decide) k5 rfl rfl rfl rfl rfl rfl (Nat.le_of_ble_eq_true rfl) rfl ?_
  refine J_aload_n (pc := 24) C 18 rfl 0 rfl rfl ?_
  refine J_bipush (pc := 25) (v := (6 : Int32)) C 19 rfl rfl ?_
  refine J_newaI (pc := 27) (N := 6) C 20 rfl k4 (by decide) rfl (Nat.le_of_ble_eq_true rfl) (Nat.le_of_ble_eq_true rfl) (Nat.le_of_ble_eq_true rfl) (fun q2 => ?_)
  refine J_putF (pc := 29) (ws2 := ([(h0, .inr (2, [.ref q1, .ref q2, .null, .null, .null, .null, .null, .null, .int 0, .int 0])), (q1, .inl (G.2 0, 3, .inl (upd (upd (upd (fun _ => 0) 0 (1 : Int32)) 1 (1 : Int32)) 2 (10 : Int32)))), (q2, .inl (G.2 0, 6, .inl (fun _ => 0)))] : va_W)) C 21 hin rfl TB_l2 tyX2 tyX2_ok nmX2 rfl 0 1 rfl (by decide) k6 rfl rfl rfl rfl rfl rfl (Nat.le_of_ble_eq_true rfl) rfl ?_
  refine J_aload_n (pc := 32) C 22 rfl 0 rfl rfl ?_
  refine J_bipush (pc := 33) (v := (6 : Int32)) C 23 rfl rfl ?_
  refine J_newaI (pc := 35) (N := 6) C 24 rfl k4 (by decide) rfl (Nat.le_of_ble_eq_true rfl) (Nat.le_of_ble_eq_true rfl) (Nat.le_of_ble_eq_true rfl) (fun q3 => ?_)
  refine J_dup (pc := 37) C 25 rfl rfl ?_
  refine J_iconst (pc := 38) (v := (0 : Int32)) C 26 rfl rfl ?_
  refine J_bipush (pc := 39) (v := (60 : Int32)) C 27 rfl rfl ?_
  refine J_iast (pc := 41) (f := (fun _ => 0)) (m := 0) C 28 (fun mm vv => ([(h0, .inr (2, [.ref q1, .ref q2, .null, .null, .null, .null, .null, .null, .int 0, .int 0])), (q1, .inl (G.2 0, 3, .inl (upd (upd (upd (fun _ => 0) 0 (1 : Int32)) 1 (1 : Int32)) 2 (10 : Int32)))), (q2, .inl (G.2 0, 6, .inl (fun _ => 0))), (q3, .inl (G.2 0, 6, .inl (upd (fun _ => 0) mm vv)))] : va_W)) rfl 3 rfl rfl rfl (fun _ _ => rfl) ?_
  refine J_dup (pc := 42) C 29 rfl rfl ?_
  refine J_iconst (pc := 43) (v := (1 : Int32)) C 30 rfl rfl ?_
  refine J_bipush (pc := 44) (v := (60 : Int32)) C 31 rfl rfl ?_
  refine J_iast (pc := 46) (f := (upd (fun _ => 0) 0 (60 : Int32))) (m := 1) C 32 (fun mm vv => ([(h0, .inr (2, [.ref q1, .ref q2, .null, .null, .null, .null, .null, .null, .int 0, .int 0])), (q1, .inl (G.2 0, 3, .inl (upd (upd (upd (fun _ => 0) 0 (1 : Int32)) 1 (1 : Int32)) 2 (10 : Int32)))), (q2, .inl (G.2 0, 6, .inl (fun _ => 0))), (q3, .inl (G.2 0, 6, .inl (upd (upd (fun _ => 0) 0 (60 : Int32)) mm vv)))] : va_W)) rfl 3 rfl rfl rfl (fun _ _ => rfl) ?_
  refine J_dup (pc := 47) C 33 rfl rfl ?_
  refine J_iconst (pc := 48) (v := (2 : Int32)) C 34 rfl rfl ?_
  refine J_bipush (pc := 49) (v := (60 : Int32)) C 35 rfl rfl ?_
  refine J_iast (pc := 51) (f := (upd (upd (fun _ => 0) 0 (60 : Int32)) 1 (60 : Int32))) (m := 2) C 36 (fun mm vv => ([(h0, .inr (2, [.ref q1, .ref q2, .null, .null, .null, .null, .null, .null, .int 0, .int 0])), (q1, .inl (G.2 0, 3, .inl (upd (upd (upd (fun _ => 0) 0 (1 : Int32)) 1 (1 : Int32)) 2 (10 : Int32)))), (q2, .inl (G.2 0, 6, .inl (fun _ => 0))), (q3, .inl (G.2 0, 6, .inl (upd (upd (upd (fun _ => 0) 0 (60 : Int32)) 1 (60 : Int32)) mm vv)))] : va_W)) rfl 3 rfl rfl rfl (fun _ _ => rfl) ?_
  refine J_dup (pc := 52) C 37 rfl rfl ?_
  refine J_iconst (pc := 53) (v := (3 : Int32)) C 38 rfl rfl ?_
  refine J_bipush (pc := 54) (v := (60 : Int32)) C 39 rfl rfl ?_
  refine J_iast (pc := 56) (f := (upd (upd (upd (fun _ => 0) 0 (60 : Int32)) 1 (60 : Int32)) 2 (60 : Int32))) (m := 3) C 40 (fun mm vv => ([(h0, .inr (2, [.ref q1, .ref q2, .null, .null, .null, .null, .null, .null, .int 0, .int 0])), (q1, .inl (G.2 0, 3, .inl (upd (upd (upd (fun _ => 0) 0 (1 : Int32)) 1 (1 : Int32)) 2 (10 : Int32)))), (q2, .inl (G.2 0, 6, .inl (fun _ => 0))), (q3, .inl (G.2 0, 6, .inl (upd (upd (upd (upd (fun _ => 0) 0 (60 : Int32)) 1 (60 : Int32)) 2 (60 : Int32)) mm vv)))] : va_W)) rfl 3 rfl rfl rfl (fun _ _ => rfl) ?_
  refine J_dup (pc := 57) C 41 rfl rfl ?_
  refine J_iconst (pc := 58) (v := (4 : Int32)) C 42 rfl rfl ?_
  refine J_bipush (pc := 59) (v := (60 : Int32)) C 43 rfl rfl ?_
  refine J_iast (pc := 61) (f := (upd (upd (upd (upd (fun _ => 0) 0 (60 : Int32)) 1 (60 : Int32)) 2 (60 : Int32)) 3 (60 : Int32))) (m := 4) C 44 (fun mm vv => ([(h0, .inr (2, [.ref q1, .ref q2, .null, .null, .null, .null, .null, .null, .int 0, .int 0])), (q1, .inl (G.2 0, 3, .inl (upd (upd (upd (fun _ => 0) 0 (1 : Int32)) 1 (1 : Int32)) 2 (10 : Int32)))), (q2, .inl (G.2 0, 6, .inl (fun _ => 0))), (q3, .inl (G.2 0, 6, .inl (upd (upd (upd (upd (upd (fun _ => 0) 0 (60 : Int32)) 1 (60 : Int32)) 2 (60 : Int32)) 3 (60 : Int32)) mm vv)))] : va_W)) rfl 3 rfl rfl rfl (fun _ _ => rfl) ?_
  refine J_dup (pc := 62) C 45 rfl rfl ?_
  refine J_iconst (pc := 63) (v := (5 : Int32)) C 46 rfl rfl ?_
  refine J_bipush (pc := 64) (v := (60 : Int32)) C 47 rfl rfl ?_
  refine J_iast (pc := 66) (f := (upd (upd (upd (upd (upd (fun _ => 0) 0 (60 : Int32)) 1 (60 : Int32)) 2 (60 : Int32)) 3 (60 : Int32)) 4 (60 : Int32))) (m := 5) C 48 (fun mm vv => ([(h0, .inr (2, [.ref q1, .ref q2, .null, .null, .null, .null, .null, .null, .int 0, .int 0])), (q1, .inl (G.2 0, 3, .inl (upd (upd (upd (fun _ => 0) 0 (1 : Int32)) 1 (1 : Int32)) 2 (10 : Int32)))), (q2, .inl (G.2 0, 6, .inl (fun _ => 0))), (q3, .inl (G.2 0, 6, .inl (upd (upd (upd (upd (upd (upd (fun _ => 0) 0 (60 : Int32)) 1 (60 : Int32)) 2 (60 : Int32)) 3 (60 : Int32)) 4 (60 : Int32)) mm vv)))] : va_W)) rfl 3 rfl rfl rfl (fun _ _ => rfl) ?_
  refine J_putF (pc := 67) (ws2 := ([(h0, .inr (2, [.ref q1, .ref q2, .ref q3, .null, .null, .null, .null, .null, .int 0, .int 0])), (q1, .inl (G.2 0, 3, .inl (upd (upd (upd (fun _ => 0) 0 (1 : Int32)) 1 (1 : Int32)) 2 (10 : Int32)))), (q2, .inl (G.2 0, 6, .inl (fun _ => 0))), (q3, .inl (G.2 0, 6, .inl (upd (upd (upd (upd (upd (upd (fun _ => 0) 0 (60 : Int32)) 1 (60 : Int32)) 2 (60 : Int32)) 3 (60 : Int32)) 4 (60 : Int32)) 5 (60 : Int32))))] : va_W)) C 49 hin rfl TB_l2 tyX2 tyX2_ok nmX2 rfl 0 2 rfl (by decide) k7 rfl rfl rfl rfl rfl rfl (Nat.le_of_ble_eq_true rfl) rfl ?_
  refine J_aload_n (pc := 70) C 50 rfl 0 rfl rfl ?_
  refine J_bipush (pc := 71) (v := (16 : Int32)) C 51 rfl rfl ?_
  refine J_newaI (pc := 73) (N := 16) C 52 rfl k4 (by decide) rfl (Nat.le_of_ble_eq_true rfl) (Nat.le_of_ble_eq_true rfl) (Nat.le_of_ble_eq_true rfl) (fun q4 => ?_)
  refine J_putF (pc := 75) (ws2 := ([(h0, .inr (2, [.ref q1, .ref q2, .ref q3, .ref q4, .null, .null, .null, .null, .int 0, .int 0])), (q1, .inl (G.2 0, 3, .inl (upd (upd (upd (fun _ => 0) 0 (1 : Int32)) 1 (1 : Int32)) 2 (10 : Int32)))), (q2, .inl (G.2 0, 6, .inl (fun _ => 0))), (q3, .inl (G.2 0, 6, .inl (upd (upd (upd (upd (upd (upd (fun _ => 0) 0 (60 : Int32)) 1 (60 : Int32)) 2 (60 : Int32)) 3 (60 : Int32)) 4 (60 : Int32)) 5 (60 : Int32)))), (q4, .inl (G.2 0, 16, .inl (fun _ => 0)))] : va_W)) C 53 hin rfl TB_l2 tyX2 tyX2_ok nmX2 rfl 0 3 rfl (by decide) k8 rfl rfl rfl rfl rfl rfl (Nat.le_of_ble_eq_true rfl) rfl ?_
  refine J_aload_n (pc := 78) C 54 rfl 0 rfl rfl ?_
  refine J_bipush (pc := 79) (v := (16 : Int32)) C 55 rfl rfl ?_
  refine J_newaI (pc := 81) (N := 16) C 56 rfl k4 (by decide) rfl (Nat.le_of_ble_eq_true rfl) (Nat.le_of_ble_eq_true rfl) (Nat.le_of_ble_eq_true rfl) (fun q5 => ?_)
  refine J_putF (pc := 83) (ws2 := ([(h0, .inr (2, [.ref q1, .ref q2, .ref q3, .ref q4, .ref q5, .null, .null, .null, .int 0, .int 0])), (q1, .inl (G.2 0, 3, .inl (upd (upd (upd (fun _ => 0) 0 (1 : Int32)) 1 (1 : Int32)) 2 (10 : Int32)))), (q2, .inl (G.2 0, 6, .inl (fun _ => 0))), (q3, .inl (G.2 0, 6, .inl (upd (upd (upd (upd (upd (upd (fun _ => 0) 0 (60 : Int32)) 1 (60 : Int32)) 2 (60 : Int32)) 3 (60 : Int32)) 4 (60 : Int32)) 5 (60 : Int32)))), (q4, .inl (G.2 0, 16, .inl (fun _ => 0))), (q5, .inl (G.2 0, 16, .inl (fun _ => 0)))] : va_W)) C 57 hin rfl TB_l2 tyX2 tyX2_ok nmX2 rfl 0 4 rfl (by decide) k9 rfl rfl rfl rfl rfl rfl (Nat.le_of_ble_eq_true rfl) rfl ?_
  refine J_aload_n (pc := 86) C 58 rfl 0 rfl rfl ?_
  refine J_bipush (pc := 87) (v := (16 : Int32)) C 59 rfl rfl ?_
  refine J_newaZ (pc := 89) (N := 16) C 60 rfl k10 (by decide) rfl (Nat.le_of_ble_eq_true rfl) (Nat.le_of_ble_eq_true rfl) (Nat.le_of_ble_eq_true rfl) (fun q6 => ?_)
  refine J_putF (pc := 91) (ws2 := ([(h0, .inr (2, [.ref q1, .ref q2, .ref q3, .ref q4, .ref q5, .ref q6, .null, .null, .int 0, .int 0])), (q1, .inl (G.2 0, 3, .inl (upd (upd (upd (fun _ => 0) 0 (1 : Int32)) 1 (1 : Int32)) 2 (10 : Int32)))), (q2, .inl (G.2 0, 6, .inl (fun _ => 0))), (q3, .inl (G.2 0, 6, .inl (upd (upd (upd (upd (upd (upd (fun _ => 0) 0 (60 : Int32)) 1 (60 : Int32)) 2 (60 : Int32)) 3 (60 : Int32)) 4 (60 : Int32)) 5 (60 : Int32)))), (q4, .inl (G.2 0, 16, .inl (fun _ => 0))), (q5, .inl (G.2 0, 16, .inl (fun _ => 0))), (q6, .inl (G.2 1, 16, .inl (fun _ => 0)))] : va_W)) C 61 hin rfl TB_l2 tyX2 tyX2_ok nmX2 rfl 0 5 rfl (by decide) k11 rfl rfl rfl rfl rfl rfl (Nat.le_of_ble_eq_true rfl) rfl ?_
  refine J_aload_n (pc := 94) C 62 rfl 0 rfl rfl ?_
  refine J_iconst (pc := 95) (v := (4 : Int32)) C 63 rfl rfl ?_
  refine J_newaI (pc := 96) (N := 4) C 64 rfl k4 (by decide) rfl (Nat.le_of_ble_eq_true rfl) (Nat.le_of_ble_eq_true rfl) (Nat.le_of_ble_eq_true rfl) (fun q7 => ?_)
  refine J_dup (pc := 98) C 65 rfl rfl ?_
  refine J_iconst (pc := 99) (v := (0 : Int32)) C 66 rfl rfl ?_
  refine J_iconst (pc := 100) (v := (2 : Int32)) C 67 rfl rfl ?_
  refine J_iast (pc := 101) (f := (fun _ => 0)) (m := 0) C 68 (fun mm vv => ([(h0, .inr (2, [.ref q1, .ref q2, .ref q3, .ref q4, .ref q5, .ref q6, .null, .null, .int 0, .int 0])), (q1, .inl (G.2 0, 3, .inl (upd (upd (upd (fun _ => 0) 0 (1 : Int32)) 1 (1 : Int32)) 2 (10 : Int32)))), (q2, .inl (G.2 0, 6, .inl (fun _ => 0))), (q3, .inl (G.2 0, 6, .inl (upd (upd (upd (upd (upd (upd (fun _ => 0) 0 (60 : Int32)) 1 (60 : Int32)) 2 (60 : Int32)) 3 (60 : Int32)) 4 (60 : Int32)) 5 (60 : Int32)))), (q4, .inl (G.2 0, 16, .inl (fun _ => 0))), (q5, .inl (G.2 0, 16, .inl (fun _ => 0))), (q6, .inl (G.2 1, 16, .inl (fun _ => 0))), (q7, .inl (G.2 0, 4, .inl (upd (fun _ => 0) mm vv)))] : va_W)) rfl 7 rfl rfl rfl (fun _ _ => rfl) ?_
  refine J_dup (pc := 102) C 69 rfl rfl ?_
  refine J_iconst (pc := 103) (v := (1 : Int32)) C 70 rfl rfl ?_
  refine J_iconst (pc := 104) (v := (2 : Int32)) C 71 rfl rfl ?_
  refine J_iast (pc := 105) (f := (upd (fun _ => 0) 0 (2 : Int32))) (m := 1) C 72 (fun mm vv => ([(h0, .inr (2, [.ref q1, .ref q2, .ref q3, .ref q4, .ref q5, .ref q6, .null, .null, .int 0, .int 0])), (q1, .inl (G.2 0, 3, .inl (upd (upd (upd (fun _ => 0) 0 (1 : Int32)) 1 (1 : Int32)) 2 (10 : Int32)))), (q2, .inl (G.2 0, 6, .inl (fun _ => 0))), (q3, .inl (G.2 0, 6, .inl (upd (upd (upd (upd (upd (upd (fun _ => 0) 0 (60 : Int32)) 1 (60 : Int32)) 2 (60 : Int32)) 3 (60 : Int32)) 4 (60 : Int32)) 5 (60 : Int32)))), (q4, .inl (G.2 0, 16, .inl (fun _ => 0))), (q5, .inl (G.2 0, 16, .inl (fun _ => 0))), (q6, .inl (G.2 1, 16, .inl (fun _ => 0))), (q7, .inl (G.2 0, 4, .inl (upd (upd (fun _ => 0) 0 (2 : Int32)) mm vv)))] : va_W)) rfl 7 rfl rfl rfl (fun _ _ => rfl) ?_
  refine J_dup (pc := 106) C 73 rfl rfl ?_
  refine J_iconst (pc := 107) (v := (2 : Int32)) C 74 rfl rfl ?_
  refine J_iconst (pc := 108) (v := (2 : Int32)) C 75 rfl rfl ?_
  refine J_iast (pc := 109) (f := (upd (upd (fun _ => 0) 0 (2 : Int32)) 1 (2 : Int32))) (m := 2) C 76 (fun mm vv => ([(h0, .inr (2, [.ref q1, .ref q2, .ref q3, .ref q4, .ref q5, .ref q6, .null, .null, .int 0, .int 0])), (q1, .inl (G.2 0, 3, .inl (upd (upd (upd (fun _ => 0) 0 (1 : Int32)) 1 (1 : Int32)) 2 (10 : Int32)))), (q2, .inl (G.2 0, 6, .inl (fun _ => 0))), (q3, .inl (G.2 0, 6, .inl (upd (upd (upd (upd (upd (upd (fun _ => 0) 0 (60 : Int32)) 1 (60 : Int32)) 2 (60 : Int32)) 3 (60 : Int32)) 4 (60 : Int32)) 5 (60 : Int32)))), (q4, .inl (G.2 0, 16, .inl (fun _ => 0))), (q5, .inl (G.2 0, 16, .inl (fun _ => 0))), (q6, .inl (G.2 1, 16, .inl (fun _ => 0))), (q7, .inl (G.2 0, 4, .inl (upd (upd (upd (fun _ => 0) 0 (2 : Int32)) 1 (2 : Int32)) mm vv)))] : va_W)) rfl 7 rfl rfl rfl (fun _ _ => rfl) ?_
  refine J_dup (pc := 110) C 77 rfl rfl ?_
  refine J_iconst (pc := 111) (v := (3 : Int32)) C 78 rfl rfl ?_
  refine J_iconst (pc := 112) (v := (2 : Int32)) C 79 rfl rfl ?_
  refine J_iast (pc := 113) (f := (upd (upd (upd (fun _ => 0) 0 (2 : Int32)) 1 (2 : Int32)) 2 (2 : Int32))) (m := 3) C 80 (fun mm vv => ([(h0, .inr (2, [.ref q1, .ref q2, .ref q3, .ref q4, .ref q5, .ref q6, .null, .null, .int 0, .int 0])), (q1, .inl (G.2 0, 3, .inl (upd (upd (upd (fun _ => 0) 0 (1 : Int32)) 1 (1 : Int32)) 2 (10 : Int32)))), (q2, .inl (G.2 0, 6, .inl (fun _ => 0))), (q3, .inl (G.2 0, 6, .inl (upd (upd (upd (upd (upd (upd (fun _ => 0) 0 (60 : Int32)) 1 (60 : Int32)) 2 (60 : Int32)) 3 (60 : Int32)) 4 (60 : Int32)) 5 (60 : Int32)))), (q4, .inl (G.2 0, 16, .inl (fun _ => 0))), (q5, .inl (G.2 0, 16, .inl (fun _ => 0))), (q6, .inl (G.2 1, 16, .inl (fun _ => 0))), (q7, .inl (G.2 0, 4, .inl (upd (upd (upd (upd (fun _ => 0) 0 (2 : Int32)) 1 (2 : Int32)) 2 (2 : Int32)) mm vv)))] : va_W)) rfl 7 rfl rfl rfl (fun _ _ => rfl) ?_
  refine J_putF (pc := 114) (ws2 := ([(h0, .inr (2, [.ref q1, .ref q2, .ref q3, .ref q4, .ref q5, .ref q6, .ref q7, .null, .int 0, .int 0])), (q1, .inl (G.2 0, 3, .inl (upd (upd (upd (fun _ => 0) 0 (1 : Int32)) 1 (1 : Int32)) 2 (10 : Int32)))), (q2, .inl (G.2 0, 6, .inl (fun _ => 0))), (q3, .inl (G.2 0, 6, .inl (upd (upd (upd (upd (upd (upd (fun _ => 0) 0 (60 : Int32)) 1 (60 : Int32)) 2 (60 : Int32)) 3 (60 : Int32)) 4 (60 : Int32)) 5 (60 : Int32)))), (q4, .inl (G.2 0, 16, .inl (fun _ => 0))), (q5, .inl (G.2 0, 16, .inl (fun _ => 0))), (q6, .inl (G.2 1, 16, .inl (fun _ => 0))), (q7, .inl (G.2 0, 4, .inl (upd (upd (upd (upd (fun _ => 0) 0 (2 : Int32)) 1 (2 : Int32)) 2 (2 : Int32)) 3 (2 : Int32))))] : va_W)) C 81 hin rfl TB_l2 tyX2 tyX2_ok nmX2 rfl 0 6 rfl (by decide) k12 rfl rfl rfl rfl rfl rfl (Nat.le_of_ble_eq_true rfl) rfl ?_
  refine J_aload_n (pc := 117) C 82 rfl 0 rfl rfl ?_
  refine J_iconst (pc := 118) (v := (4 : Int32)) C 83 rfl rfl ?_
  refine J_newaI (pc := 119) (N := 4) C 84 rfl k4 (by decide) rfl (Nat.le_of_ble_eq_true rfl) (Nat.le_of_ble_eq_true rfl) (Nat.le_of_ble_eq_true rfl) (fun q8 => ?_)
  refine J_dup (pc := 121) C 85 rfl rfl ?_
  refine J_iconst (pc := 122) (v := (0 : Int32)) C 86 rfl rfl ?_
  refine J_iconst (pc := 123) (v := (2 : Int32)) C 87 rfl rfl ?_
  refine J_iast (pc := 124) (f := (fun _ => 0)) (m := 0) C 88 (fun mm vv => ([(h0, .inr (2, [.ref q1, .ref q2, .ref q3, .ref q4, .ref q5, .ref q6, .ref q7, .null, .int 0, .int 0])), (q1, .inl (G.2 0, 3, .inl (upd (upd (upd (fun _ => 0) 0 (1 : Int32)) 1 (1 : Int32)) 2 (10 : Int32)))), (q2, .inl (G.2 0, 6, .inl (fun _ => 0))), (q3, .inl (G.2 0, 6, .inl (upd (upd (upd (upd (upd (upd (fun _ => 0) 0 (60 : Int32)) 1 (60 : Int32)) 2 (60 : Int32)) 3 (60 : Int32)) 4 (60 : Int32)) 5 (60 : Int32)))), (q4, .inl (G.2 0, 16, .inl (fun _ => 0))), (q5, .inl (G.2 0, 16, .inl (fun _ => 0))), (q6, .inl (G.2 1, 16, .inl (fun _ => 0))), (q7, .inl (G.2 0, 4, .inl (upd (upd (upd (upd (fun _ => 0) 0 (2 : Int32)) 1 (2 : Int32)) 2 (2 : Int32)) 3 (2 : Int32)))), (q8, .inl (G.2 0, 4, .inl (upd (fun _ => 0) mm vv)))] : va_W)) rfl 8 rfl rfl rfl (fun _ _ => rfl) ?_
  refine J_dup (pc := 125) C 89 rfl rfl ?_
  refine J_iconst (pc := 126) (v := (1 : Int32)) C 90 rfl rfl ?_
  refine J_iconst (pc := 127) (v := (2 : Int32)) C 91 rfl rfl ?_
  refine J_iast (pc := 128) (f := (upd (fun _ => 0) 0 (2 : Int32))) (m := 1) C 92 (fun mm vv => ([(h0, .inr (2, [.ref q1, .ref q2, .ref q3, .ref q4, .ref q5, .ref q6, .ref q7, .null, .int 0, .int 0])), (q1, .inl (G.2 0, 3, .inl (upd (upd (upd (fun _ => 0) 0 (1 : Int32)) 1 (1 : Int32)) 2 (10 : Int32)))), (q2, .inl (G.2 0, 6, .inl (fun _ => 0))), (q3, .inl (G.2 0, 6, .inl (upd (upd (upd (upd (upd (upd (fun _ => 0) 0 (60 : Int32)) 1 (60 : Int32)) 2 (60 : Int32)) 3 (60 : Int32)) 4 (60 : Int32)) 5 (60 : Int32)))), (q4, .inl (G.2 0, 16, .inl (fun _ => 0))), (q5, .inl (G.2 0, 16, .inl (fun _ => 0))), (q6, .inl (G.2 1, 16, .inl (fun _ => 0))), (q7, .inl (G.2 0, 4, .inl (upd (upd (upd (upd (fun _ => 0) 0 (2 : Int32)) 1 (2 : Int32)) 2 (2 : Int32)) 3 (2 : Int32)))), (q8, .inl (G.2 0, 4, .inl (upd (upd (fun _ => 0) 0 (2 : Int32)) mm vv)))] : va_W)) rfl 8 rfl rfl rfl (fun _ _ => rfl) ?_
  refine J_dup (pc := 129) C 93 rfl rfl ?_
  refine J_iconst (pc := 130) (v := (2 : Int32)) C 94 rfl rfl ?_
  refine J_iconst (pc := 131) (v := (2 : Int32)) C 95 rfl rfl ?_
  refine J_iast (pc := 132) (f := (upd (upd (fun _ => 0) 0 (2 : Int32)) 1 (2 : Int32))) (m := 2) C 96 (fun mm vv => ([(h0, .inr (2, [.ref q1, .ref q2, .ref q3, .ref q4, .ref q5, .ref q6, .ref q7, .null, .int 0, .int 0])), (q1, .inl (G.2 0, 3, .inl (upd (upd (upd (fun _ => 0) 0 (1 : Int32)) 1 (1 : Int32)) 2 (10 : Int32)))), (q2, .inl (G.2 0, 6, .inl (fun _ => 0))), (q3, .inl (G.2 0, 6, .inl (upd (upd (upd (upd (upd (upd (fun _ => 0) 0 (60 : Int32)) 1 (60 : Int32)) 2 (60 : Int32)) 3 (60 : Int32)) 4 (60 : Int32)) 5 (60 : Int32)))), (q4, .inl (G.2 0, 16, .inl (fun _ => 0))), (q5, .inl (G.2 0, 16, .inl (fun _ => 0))), (q6, .inl (G.2 1, 16, .inl (fun _ => 0))), (q7, .inl (G.2 0, 4, .inl (upd (upd (upd (upd (fun _ => 0) 0 (2 : Int32)) 1 (2 : Int32)) 2 (2 : Int32)) 3 (2 : Int32)))), (q8, .inl (G.2 0, 4, .inl (upd (upd (upd (fun _ => 0) 0 (2 : Int32)) 1 (2 : Int32)) mm vv)))] : va_W)) rfl 8 rfl rfl rfl (fun _ _ => rfl) ?_
  refine J_dup (pc := 133) C 97 rfl rfl ?_
  refine J_iconst (pc := 134) (v := (3 : Int32)) C 98 rfl rfl ?_
  refine J_iconst (pc := 135) (v := (2 : Int32)) C 99 rfl rfl ?_
  refine J_iast (pc := 136) (f := (upd (upd (upd (fun _ => 0) 0 (2 : Int32)) 1 (2 : Int32)) 2 (2 : Int32))) (m := 3) C 100 (fun mm vv => ([(h0, .inr (2, [.ref q1, .ref q2, .ref q3, .ref q4, .ref q5, .ref q6, .ref q7, .null, .int 0, .int 0])), (q1, .inl (G.2 0, 3, .inl (upd (upd (upd (fun _ => 0) 0 (1 : Int32)) 1 (1 : Int32)) 2 (10 : Int32)))), (q2, .inl (G.2 0, 6, .inl (fun _ => 0))), (q3, .inl (G.2 0, 6, .inl (upd (upd (upd (upd (upd (upd (fun _ => 0) 0 (60 : Int32)) 1 (60 : Int32)) 2 (60 : Int32)) 3 (60 : Int32)) 4 (60 : Int32)) 5 (60 : Int32)))), (q4, .inl (G.2 0, 16, .inl (fun _ => 0))), (q5, .inl (G.2 0, 16, .inl (fun _ => 0))), (q6, .inl (G.2 1, 16, .inl (fun _ => 0))), (q7, .inl (G.2 0, 4, .inl (upd (upd (upd (upd (fun _ => 0) 0 (2 : Int32)) 1 (2 : Int32)) 2 (2 : Int32)) 3 (2 : Int32)))), (q8, .inl (G.2 0, 4, .inl (upd (upd (upd (upd (fun _ => 0) 0 (2 : Int32)) 1 (2 : Int32)) 2 (2 : Int32)) mm vv)))] : va_W)) rfl 8 rfl rfl rfl (fun _ _ => rfl) ?_
  refine J_putF (pc := 137) (ws2 := ([(h0, .inr (2, [.ref q1, .ref q2, .ref q3, .ref q4, .ref q5, .ref q6, .ref q7, .ref q8, .int 0, .int 0])), (q1, .inl (G.2 0, 3, .inl (upd (upd (upd (fun _ => 0) 0 (1 : Int32)) 1 (1 : Int32)) 2 (10 : Int32)))), (q2, .inl (G.2 0, 6, .inl (fun _ => 0))), (q3, .inl (G.2 0, 6, .inl (upd (upd (upd (upd (upd (upd (fun _ => 0) 0 (60 : Int32)) 1 (60 : Int32)) 2 (60 : Int32)) 3 (60 : Int32)) 4 (60 : Int32)) 5 (60 : Int32)))), (q4, .inl (G.2 0, 16, .inl (fun _ => 0))), (q5, .inl (G.2 0, 16, .inl (fun _ => 0))), (q6, .inl (G.2 1, 16, .inl (fun _ => 0))), (q7, .inl (G.2 0, 4, .inl (upd (upd (upd (upd (fun _ => 0) 0 (2 : Int32)) 1 (2 : Int32)) 2 (2 : Int32)) 3 (2 : Int32)))), (q8, .inl (G.2 0, 4, .inl (upd (upd (upd (upd (fun _ => 0) 0 (2 : Int32)) 1 (2 : Int32)) 2 (2 : Int32)) 3 (2 : Int32))))] : va_W)) C 101 hin rfl TB_l2 tyX2 tyX2_ok nmX2 rfl 0 7 rfl (by decide) k13 rfl rfl rfl rfl rfl rfl (Nat.le_of_ble_eq_true rfl) rfl ?_
  refine J_aload_n (pc := 140) C 102 rfl 0 rfl rfl ?_
  refine J_iconst (pc := 141) (v := (0 : Int32)) C 103 rfl rfl ?_
  refine J_puti (pc := 142) C 104 (fun vv => ([(h0, .inr (2, [.ref q1, .ref q2, .ref q3, .ref q4, .ref q5, .ref q6, .ref q7, .ref q8, .int vv, .int 0])), (q1, .inl (G.2 0, 3, .inl (upd (upd (upd (fun _ => 0) 0 (1 : Int32)) 1 (1 : Int32)) 2 (10 : Int32)))), (q2, .inl (G.2 0, 6, .inl (fun _ => 0))), (q3, .inl (G.2 0, 6, .inl (upd (upd (upd (upd (upd (upd (fun _ => 0) 0 (60 : Int32)) 1 (60 : Int32)) 2 (60 : Int32)) 3 (60 : Int32)) 4 (60 : Int32)) 5 (60 : Int32)))), (q4, .inl (G.2 0, 16, .inl (fun _ => 0))), (q5, .inl (G.2 0, 16, .inl (fun _ => 0))), (q6, .inl (G.2 1, 16, .inl (fun _ => 0))), (q7, .inl (G.2 0, 4, .inl (upd (upd (upd (upd (fun _ => 0) 0 (2 : Int32)) 1 (2 : Int32)) 2 (2 : Int32)) 3 (2 : Int32)))), (q8, .inl (G.2 0, 4, .inl (upd (upd (upd (upd (fun _ => 0) 0 (2 : Int32)) 1 (2 : Int32)) 2 (2 : Int32)) 3 (2 : Int32))))] : va_W)) rfl TB_l2 tyX2 tyX2_ok nmX2 rfl 0 8 rfl (by decide) k14 rfl rfl rfl (Nat.le_of_ble_eq_true rfl) (fun _ => rfl) ?_
  refine J_aload_n (pc := 145) C 105 rfl 0 rfl rfl ?_
  refine J_iconst (pc := 146) (v := (1 : Int32)) C 106 rfl rfl ?_
  refine J_puti (pc := 147) C 107 (fun vv => ([(h0, .inr (2, [.ref q1, .ref q2, .ref q3, .ref q4, .ref q5, .ref q6, .ref q7, .ref q8, .int (0 : Int32), .int vv])), (q1, .inl (G.2 0, 3, .inl (upd (upd (upd (fun _ => 0) 0 (1 : Int32)) 1 (1 : Int32)) 2 (10 : Int32)))), (q2, .inl (G.2 0, 6, .inl (fun _ => 0))), (q3, .inl (G.2 0, 6, .inl (upd (upd (upd (upd (upd (upd (fun _ => 0) 0 (60 : Int32)) 1 (60 : Int32)) 2 (60 : Int32)) 3 (60 : Int32)) 4 (60 : Int32)) 5 (60 : Int32)))), (q4, .inl (G.2 0, 16, .inl (fun _ => 0))), (q5, .inl (G.2 0, 16, .inl (fun _ => 0))), (q6, .inl (G.2 1, 16, .inl (fun _ => 0))), (q7, .inl (G.2 0, 4, .inl (upd (upd (upd (upd (fun _ => 0) 0 (2 : Int32)) 1 (2 : Int32)) 2 (2 : Int32)) 3 (2 : Int32)))), (q8, .inl (G.2 0, 4, .inl (upd (upd (upd (upd (fun _ => 0) 0 (2 : Int32)) 1 (2 : Int32)) 2 (2 : Int32)) 3 (2 : Int32))))] : va_W)) rfl TB_l2 tyX2 tyX2_ok nmX2 rfl 0 9 rfl (by decide) k15 rfl rfl rfl (Nat.le_of_ble_eq_true rfl) (fun _ => rfl) ?_
  exact J_cret (pc := 150) C 108 (fun i => [h0, q1, q2, q3, q4, q5, q6, q7, q8].getD i 0) rfl rfl
def T_X1_init : List (Nat × ClassFile.Instr × Nat) := [(0, .aload_n 0, 1), (1, .invokespecial 3, 3), (4, .aload_n 0, 1), (5, .bipush 60, 2), (7, .newarray .int, 2), (9, .putfield 9, 3), (12, .aload_n 0, 1), (13, .iconst 0, 1), (14, .putfield 15, 3), (17, .aload_n 0, 1), (18, .bipush 30, 2), (20, .newarray .int, 2), (22, .putfield 19, 3), (25, .aload_n 0, 1), (26, .bipush 30, 2), (28, .newarray .int, 2), (30, .putfield 22, 3), (33, .aload_n 0, 1), (34, .bipush 30, 2), (36, .newarray .boolean, 2), (38, .putfield 25, 3), (41, .aload_n 0, 1), (42, .iconst 0, 1), (43, .putfield 29, 3), (46, .aload_n 0, 1), (47, .iconst 0, 1), (48, .putfield 32, 3), (51, .aload_n 0, 1), (52, .iconst 0, 1), (53, .putfield 35, 3), (56, .aload_n 0, 1), (57, .iconst 0, 1), (58, .putfield 38, 3), (61, .aload_n 0, 1), (62, .iconst 0, 1), (63, .putfield 41, 3), (66, .return_, 1)]
theorem D_X1_init : ∀ q ∈ T_X1_init, decode cX1_init q.1 = .ok q.2 := by decide +kernel
theorem V_X1_init : Vy yX1_init cX1_init 1 none 0 := ⟨k35, k56, by decide +kernel⟩
def vi_X1 : JV := fun k => match k with
  | 0 => (fun _ => 0)
  | 1 => (fun _ => (0 : Int32))
  | 2 => (fun _ => 0)
  | 3 => (fun _ => 0)
  | 4 => (fun _ => 0)
  | 5 => (fun _ => (0 : Int32))
  | 6 => (fun _ => (0 : Int32))
  | 7 => (fun _ => (0 : Int32))
  | 8 => (fun _ => (0 : Int32))
  | 9 => (fun _ => (0 : Int32))
  | _ => (fun _ => 0)
set_option maxRecDepth 100000 in
set_option maxHeartbeats 4000000 in
theorem c_X1_init {l : Launch} {G : JG} {h0 : Nat} : JMC (U := Nat → Nat) l G yX1_init cX1_init 1 1 12 4 150 h0 1 [.null, .int 0, .null, .null, .null, .int 0, .int 0, .int 0, .int 0, .int 0] (fun u => u 0 = h0) (fun u => wPad G u (vi_X1 0) (vi_X1 1 0) (vi_X1 2) (vi_X1 3) (vi_X1 4) (vi_X1 5 0) (vi_X1 6 0) (vi_X1 7 0) (vi_X1 8 0) (vi_X1 9 0)) := by
  refine JMC.of (own := RX1) (tb := T_X1_init) (by decide) (Nat.le_of_ble_eq_true rfl) D_X1_init rfl rfl (fun X C hin => ?_)
  refine J_aload_n (pc := 0) C 0 rfl 0 rfl rfl ?_
  refine J_oinit (pc := 1) C 1 rfl k36 (by decide) (Nat.le_of_ble_eq_true rfl) ?_
  refine J_aload_n (pc := 4) C 2 rfl 0 rfl rfl ?_
  refine J_bipush (pc := 5) (v := (60 : Int32)) C 3 rfl rfl ?_
  refine J_newaI (pc := 7) (N := 60) C 4 rfl k4 (by decide) rfl (Nat.le_of_ble_eq_true rfl) (Nat.le_of_ble_eq_true rfl) (Nat.le_of_ble_eq_true rfl) (fun q1 => ?_)
  refine J_putF (pc := 9) (ws2 := ([(h0, .inr (1, [.ref q1, .int 0, .null, .null, .null, .int 0, .int 0, .int 0, .int 0, .int 0])), (q1, .inl (G.2 0, 60, .inl (fun _ => 0)))] : va_W)) C 5 hin rfl TB_l1 tyX1 tyX1_ok nmX1 rfl 0 0 rfl (by decide) k37 rfl rfl rfl rfl rfl rfl (Nat.le_of_ble_eq_true rfl) rfl ?_
  refine J_aload_n (pc := 12) C 6 rfl 0 rfl rfl ?_
  refine J_iconst (pc := 13) (v := (0 : Int32)) C 7 rfl rfl ?_
  refine J_puti (pc := 14) C 8 (fun vv => ([(h0, .inr (1, [.ref q1, .int vv, .null, .null, .null, .int 0, .int 0, .int 0, .int 0, .int 0])), (q1, .inl (G.2 0, 60, .inl (fun _ => 0)))] : va_W)) rfl TB_l1 tyX1 tyX1_ok nmX1 rfl 0 1 rfl (by decide) k38 rfl rfl rfl (Nat.le_of_ble_eq_true rfl) (fun _ => rfl) ?_
  refine J_aload_n (pc := 17) C 9 rfl 0 rfl rfl ?_
  refine J_bipush (pc := 18) (v := (30 : Int32)) C 10 rfl rfl ?_
  refine J_newaI (pc := 20) (N := 30) C 11 rfl k4 (by decide) rfl (Nat.le_of_ble_eq_true rfl) (Nat.le_of_ble_eq_true rfl) (Nat.le_of_ble_eq_true rfl) (fun q2 => ?_)
  refine J_putF (pc := 22) (ws2 := ([(h0, .inr (1, [.ref q1, .int (0 : Int32), .ref q2, .null, .null, .int 0, .int 0, .int 0, .int 0, .int 0])), (q1, .inl (G.2 0, 60, .inl (fun _ => 0))), (q2, .inl (G.2 0, 30, .inl (fun _ => 0)))] : va_W)) C 12 hin rfl TB_l1 tyX1 tyX1_ok nmX1 rfl 0 2 rfl (by decide) k39 rfl rfl rfl rfl rfl rfl (Nat.le_of_ble_eq_true rfl) rfl ?_
  refine J_aload_n (pc := 25) C 13 rfl 0 rfl rfl ?_
  refine J_bipush (pc := 26) (v := (30 : Int32)) C 14 rfl rfl ?_
  refine J_newaI (pc := 28) (N := 30) C 15 rfl k4 (by decide) rfl (Nat.le_of_ble_eq_true rfl) (Nat.le_of_ble_eq_true rfl) (Nat.le_of_ble_eq_true rfl) (fun q3 => ?_)
  refine J_putF (pc := 30) (ws2 := ([(h0, .inr (1, [.ref q1, .int (0 : Int32), .ref q2, .ref q3, .null, .int 0, .int 0, .int 0, .int 0, .int 0])), (q1, .inl (G.2 0, 60, .inl (fun _ => 0))), (q2, .inl (G.2 0, 30, .inl (fun _ => 0))), (q3, .inl (G.2 0, 30, .inl (fun _ => 0)))] : va_W)) C 16 hin rfl TB_l1 tyX1 tyX1_ok nmX1 rfl 0 3 rfl (by decide) k40 rfl rfl rfl rfl rfl rfl (Nat.le_of_ble_eq_true rfl) rfl ?_
  refine J_aload_n (pc := 33) C 17 rfl 0 rfl rfl ?_
  refine J_bipush (pc := 34) (v := (30 : Int32)) C 18 rfl rfl ?_
  refine J_newaZ (pc := 36) (N := 30) C 19 rfl k10 (by decide) rfl (Nat.le_of_ble_eq_true rfl) (Nat.le_of_ble_eq_true rfl) (Nat.le_of_ble_eq_true rfl) (fun q4 => ?_)
  refine J_putF (pc := 38) (ws2 := ([(h0, .inr (1, [.ref q1, .int (0 : Int32), .ref q2, .ref q3, .ref q4, .int 0, .int 0, .int 0, .int 0, .int 0])), (q1, .inl (G.2 0, 60, .inl (fun _ => 0))), (q2, .inl (G.2 0, 30, .inl (fun _ => 0))), (q3, .inl (G.2 0, 30, .inl (fun _ => 0))), (q4, .inl (G.2 1, 30, .inl (fun _ => 0)))] : va_W)) C 20 hin rfl TB_l1 tyX1 tyX1_ok nmX1 rfl 0 4 rfl (by decide) k41 rfl rfl rfl rfl rfl rfl (Nat.le_of_ble_eq_true rfl) rfl ?_
  refine J_aload_n (pc := 41) C 21 rfl 0 rfl rfl ?_
  refine J_iconst (pc := 42) (v := (0 : Int32)) C 22 rfl rfl ?_
  refine J_puti (pc := 43) C 23 (fun vv => ([(h0, .inr (1, [.ref q1, .int (0 : Int32), .ref q2, .ref q3, .ref q4, .int vv, .int 0, .int 0, .int 0, .int 0])), (q1, .inl (G.2 0, 60, .inl (fun _ => 0))), (q2, .inl (G.2 0, 30, .inl (fun _ => 0))), (q3, .inl (G.2 0, 30, .inl (fun _ => 0))), (q4, .inl (G.2 1, 30, .inl (fun _ => 0)))] : va_W)) rfl TB_l1 tyX1 tyX1_ok nmX1 rfl 0 5 rfl (by decide) k42 rfl rfl rfl (Nat.le_of_ble_eq_true rfl) (fun _ => rfl) ?_
  refine J_aload_n (pc := 46) C 24 rfl 0 rfl rfl ?_
  refine J_iconst (pc := 47) (v := (0 : Int32)) C 25 rfl rfl ?_
  refine J_puti (pc := 48) C 26 (fun vv => ([(h0, .inr (1, [.ref q1, .int (0 : Int32), .ref q2, .ref q3, .ref q4, .int (0 : Int32), .int vv, .int 0, .int 0, .int 0])), (q1, .inl (G.2 0, 60, .inl (fun _ => 0))), (q2, .inl (G.2 0, 30, .inl (fun _ => 0))), (q3, .inl (G.2 0, 30, .inl (fun _ => 0))), (q4, .inl (G.2 1, 30, .inl (fun _ => 0)))] : va_W)) rfl TB_l1 tyX1 tyX1_ok nmX1 rfl 0 6 rfl (by decide) k43 rfl rfl rfl (Nat.le_of_ble_eq_true rfl) (fun _ => rfl) ?_
  refine J_aload_n (pc := 51) C 27 rfl 0 rfl rfl ?_
  refine J_iconst (pc := 52) (v := (0 : Int32)) C 28 rfl rfl ?_
  refine J_puti (pc := 53) C 29 (fun vv => ([(h0, .inr (1, [.ref q1, .int (0 : Int32), .ref q2, .ref q3, .ref q4, .int (0 : Int32), .int (0 : Int32), .int vv, .int 0, .int 0])), (q1, .inl (G.2 0, 60, .inl (fun _ => 0))), (q2, .inl (G.2 0, 30, .inl (fun _ => 0))), (q3, .inl (G.2 0, 30, .inl (fun _ => 0))), (q4, .inl (G.2 1, 30, .inl (fun _ => 0)))] : va_W)) rfl TB_l1 tyX1 tyX1_ok nmX1 rfl 0 7 rfl (by decide) k44 rfl rfl rfl (Nat.le_of_ble_eq_true rfl) (fun _ => rfl) ?_
  refine J_aload_n (pc := 56) C 30 rfl 0 rfl rfl ?_
  refine J_iconst (pc := 57) (v := (0 : Int32)) C 31 rfl rfl ?_
  refine J_puti (pc := 58) C 32 (fun vv => ([(h0, .inr (1, [.ref q1, .int (0 : Int32), .ref q2, .ref q3, .ref q4, .int (0 : Int32), .int (0 : Int32), .int (0 : Int32), .int vv, .int 0])), (q1, .inl (G.2 0, 60, .inl (fun _ => 0))), (q2, .inl (G.2 0, 30, .inl (fun _ => 0))), (q3, .inl (G.2 0, 30, .inl (fun _ => 0))), (q4, .inl (G.2 1, 30, .inl (fun _ => 0)))] : va_W)) rfl TB_l1 tyX1 tyX1_ok nmX1 rfl 0 8 rfl (by decide) k45 rfl rfl rfl (Nat.le_of_ble_eq_true rfl) (fun _ => rfl) ?_
  refine J_aload_n (pc := 61) C 33 rfl 0 rfl rfl ?_
  refine J_iconst (pc := 62) (v := (0 : Int32)) C 34 rfl rfl ?_
  refine J_putz (pc := 63) C 35 (fun vv => ([(h0, .inr (1, [.ref q1, .int (0 : Int32), .ref q2, .ref q3, .ref q4, .int (0 : Int32), .int (0 : Int32), .int (0 : Int32), .int (0 : Int32), .int vv])), (q1, .inl (G.2 0, 60, .inl (fun _ => 0))), (q2, .inl (G.2 0, 30, .inl (fun _ => 0))), (q3, .inl (G.2 0, 30, .inl (fun _ => 0))), (q4, .inl (G.2 1, 30, .inl (fun _ => 0)))] : va_W)) rfl rfl TB_l1 tyX1 tyX1_ok nmX1 rfl 0 9 rfl (by decide) k46 rfl rfl rfl (Nat.le_of_ble_eq_true rfl) (fun _ => rfl) ?_
  exact J_cret (pc := 66) C 36 (fun i => [h0, q1, q2, q3, q4].getD i 0) rfl rfl
def T_X5_init : List (Nat × ClassFile.Instr × Nat) := [(0, .aload_n 0, 1), (1, .invokespecial 1, 3), (4, .aload_n 0, 1), (5, .bipush 76, 2), (7, .newarray .int, 2), (9, .putfield 7, 3), (12, .aload_n 0, 1), (13, .bipush 76, 2), (15, .newarray .int, 2), (17, .putfield 13, 3), (20, .aload_n 0, 1), (21, .bipush 76, 2), (23, .newarray .int, 2), (25, .putfield 16, 3), (28, .aload_n 0, 1), (29, .sipush 456, 3), (32, .newarray .int, 2), (34, .putfield 19, 3), (37, .aload_n 0, 1), (38, .sipush 152, 3), (41, .newarray .int, 2), (43, .putfield 22, 3), (46, .aload_n 0, 1), (47, .iconst 2, 1), (48, .newarray .boolean, 2), (50, .putfield 25, 3), (53, .aload_n 0, 1), (54, .bipush 96, 2), (56, .newarray .int, 2), (58, .putfield 29, 3), (61, .aload_n 0, 1), (62, .bipush 96, 2), (64, .newarray .int, 2), (66, .putfield 32, 3), (69, .aload_n 0, 1), (70, .bipush 60, 2), (72, .newarray .char, 2), (74, .putfield 35, 3), (77, .aload_n 0, 1), (78, .getfield 7, 3), (81, .iconst 0, 1), (82, .iconst 1, 1), (83, .iastore, 1), (84, .aload_n 0, 1), (85, .getfield 7, 3), (88, .iconst 1, 1), (89, .iconst 1, 1), (90, .iastore, 1), (91, .aload_n 0, 1), (92, .getfield 7, 3), (95, .iconst 2, 1), (96, .bipush 10, 2), (98, .iastore, 1), (99, .iconst 0, 1), (100, .istore_n 1, 1), (101, .iload_n 1, 1), (102, .bipush 6, 2), (104, .if_icmp .ge 23, 3), (107, .aload_n 0, 1), (108, .getfield 7, 3), (111, .iconst 4, 1), (112, .iconst 2, 1), (113, .iload_n 1, 1), (114, .imul, 1), (115, .iadd, 1), (116, .iconst 1, 1), (117, .iadd, 1), (118, .bipush 60, 2), (120, .iastore, 1), (121, .iinc 1 1, 3), (124, .goto (-23), 3), (127, .iconst 0, 1), (128, .istore_n 1, 1), (129, .iload_n 1, 1), (130, .iconst 4, 1), (131, .if_icmp .ge 37, 3), (134, .aload_n 0, 1), (135, .getfield 7, 3), (138, .bipush 64, 2), (140, .iconst 3, 1), (141, .iload_n 1, 1), (142, .imul, 1), (143, .iadd, 1), (144, .iconst 0, 1), (145, .iadd, 1), (146, .iconst 2, 1), (147, .iastore, 1), (148, .aload_n 0, 1), (149, .getfield 7, 3), (152, .bipush 64, 2), (154, .iconst 3, 1), (155, .iload_n 1, 1), (156, .imul, 1), (157, .iadd, 1), (158, .iconst 1, 1), (159, .iadd, 1), (160, .iconst 2, 1), (161, .iastore, 1), (162, .iinc 1 1, 3), (165, .goto (-36), 3), (168, .aload_n 0, 1), (169, .getfield 7, 3), (172, .bipush 66, 2), (174, .iconst 1, 1), (175, .iastore, 1), (176, .return_, 1)]
theorem D_X5_init : ∀ q ∈ T_X5_init, decode cX5_init q.1 = .ok q.2 := by decide +kernel
theorem V_X5_init : Vy yX5_init cX5_init 2 none 0 := ⟨k397, k415, by decide +kernel⟩
def vi_X5 : JV := fun k => match k with
  | 0 => (upd (upd (upd (upd (upd (upd (upd (upd (upd (upd (upd (upd (upd (upd (upd (upd (upd (upd (fun _ => 0) 0 (1 : Int32)) 1 (1 : Int32)) 2 (10 : Int32)) 5 (60 : Int32)) 7 (60 : Int32)) 9 (60 : Int32)) 11 (60 : Int32)) 13 (60 : Int32)) 15 (60 : Int32)) 64 (2 : Int32)) 65 (2 : Int32)) 67 (2 : Int32)) 68 (2 : Int32)) 70 (2 : Int32)) 71 (2 : Int32)) 73 (2 : Int32)) 74 (2 : Int32)) 66 (1 : Int32))
  | 1 => (fun _ => 0)
  | 2 => (fun _ => 0)
  | 3 => (fun _ => 0)
  | 4 => (fun _ => 0)
  | 5 => (fun _ => 0)
  | 6 => (fun _ => 0)
  | 7 => (fun _ => 0)
  | 8 => (fun _ => 0)
  | 9 => (fun _ => 0)
  | 10 => (fun _ => 0)
  | 11 => (fun _ => 0)
  | 12 => (fun _ => 0)
  | 13 => (fun _ => 0)
  | _ => (fun _ => 0)
set_option maxRecDepth 100000 in
set_option maxHeartbeats 4000000 in
theorem c_X5_init {l : Launch} {G : JG} {h0 : Nat} : JMC (U := Nat → Nat) l G yX5_init cX5_init 2 1 12 9 1090 h0 5 [.null, .null, .null, .null, .null, .null, .null, .null, .null, .int 0, .int 0, .int 0, .int 0, .int 0] (fun u => u 0 = h0) (fun u => wMod G u (vi_X5 0) (vi_X5 1) (vi_X5 2) (vi_X5 3) (vi_X5 4) (vi_X5 5) (vi_X5 6) (vi_X5 7) (vi_X5 8) (vi_X5 9 0) (vi_X5 10 0) (vi_X5 11 0) (vi_X5 12 0) (vi_X5 13 0)) := by
  refine JMC.of (own := RX5) (tb := T_X5_init) (by decide) (Nat.le_of_ble_eq_true rfl) D_X5_init rfl rfl (fun X C hin => ?_)
  refine J_aload_n (pc := 0) C 0 rfl 0 rfl rfl ?_
  refine J_oinit (pc := 1) C 1 rfl k398 (by decide) (Nat.le_of_ble_eq_true rfl) ?_
  refine J_aload_n (pc := 4) C 2 rfl 0 rfl rfl ?_
  refine J_bipush (pc := 5) (v := (76 : Int32)) C 3 rfl rfl ?_
  refine J_newaI (pc := 7) (N := 76) C 4 rfl k4 (by decide) rfl (Nat.le_of_ble_eq_true rfl) (Nat.le_of_ble_eq_true rfl) (Nat.le_of_ble_eq_true rfl) (fun q1 => ?_)
  refine J_putF (pc := 9) (ws2 := ([(h0, .inr (5, [.ref q1, .null, .null, .null, .null, .null, .null, .null, .null, .int 0, .int 0, .int 0, .int 0, .int 0])), (q1, .inl (G.2 0, 76, .inl (fun _ => 0)))] : va_W)) C 5 hin rfl TB_l5 tyX5 tyX5_ok nmX5 rfl 0 0 rfl (by decide) k399 rfl rfl rfl rfl rfl rfl (Nat.le_of_ble_eq_true rfl) rfl ?_
  refine J_aload_n (pc := 12) C 6 rfl 0 rfl rfl ?_
  refine J_bipush (pc := 13) (v := (76 : Int32)) C 7 rfl rfl ?_
  refine J_newaI (pc := 15) (N := 76) C 8 rfl k4 (by decide) rfl (Nat.le_of_ble_eq_true rfl) (Nat.le_of_ble_eq_true rfl) (Nat.le_of_ble_eq_true rfl) (fun q2 => ?_)
  refine J_putF (pc := 17) (ws2 := ([(h0, .inr (5, [.ref q1, .ref q2, .null, .null, .null, .null, .null, .null, .null, .int 0, .int 0, .int 0, .int 0, .int 0])), (q1, .inl (G.2 0, 76, .inl (fun _ => 0))), (q2, .inl (G.2 0, 76, .inl (fun _ => 0)))] : va_W)) C 9 hin rfl TB_l5 tyX5 tyX5_ok nmX5 rfl 0 1 rfl (by decide) k400 rfl rfl rfl rfl rfl rfl (Nat.le_of_ble_eq_true rfl) rfl ?_
  refine J_aload_n (pc := 20) C 10 rfl 0 rfl rfl ?_
  refine J_bipush (pc := 21) (v := (76 : Int32)) C 11 rfl rfl ?_
  refine J_newaI (pc := 23) (N := 76) C 12 rfl k4 (by decide) rfl (Nat.le_of_ble_eq_true rfl) (Nat.le_of_ble_eq_true rfl) (Nat.le_of_ble_eq_true rfl) (fun q3 => ?_)
  refine J_putF (pc := 25) (ws2 := ([(h0, .inr (5, [.ref q1, .ref q2, .ref q3, .null, .null, .null, .null, .null, .null, .int 0, .int 0, .int 0, .int 0, .int 0])), (q1, .inl (G.2 0, 76, .inl (fun _ => 0))), (q2, .inl (G.2 0, 76, .inl (fun _ => 0))), (q3, .inl (G.2 0, 76, .inl (fun _ => 0)))] : va_W)) C 13 hin rfl TB_l5 tyX5 tyX5_ok nmX5 rfl 0 2 rfl (by decide) k401 rfl rfl rfl rfl rfl rfl (Nat.le_of_ble_eq_true rfl) rfl ?_
  refine J_aload_n (pc := 28) C 14 rfl 0 rfl rfl ?_
  refine J_sipush (pc := 29) (v := (456 : Int32)) C 15 rfl rfl ?_
  refine J_newaI (pc := 32) (N := 456) C 16 rfl k4 (by decide) rfl (Nat.le_of_ble_eq_true rfl) (Nat.le_of_ble_eq_true rfl) (Nat.le_of_ble_eq_true rfl) (fun q4 => ?_)
  refine J_putF (pc := 34) (ws2 := ([(h0, .inr (5, [.ref q1, .ref q2, .ref q3, .ref q4, .null, .null, .null, .null, .null, .int 0, .int 0, .int 0, .int 0, .int 0])), (q1, .inl (G.2 0, 76, .inl (fun _ => 0))), (q2, .inl (G.2 0, 76, .inl (fun _ => 0))), (q3, .inl (G.2 0, 76, .inl (fun _ => 0))), (q4, .inl (G.2 0, 456, .inl (fun _ => 0)))] : va_W)) C 17 hin rfl TB_l5 tyX5 tyX5_ok nmX5 rfl 0 3 rfl (by decide) k402 rfl rfl rfl rfl rfl rfl (Nat.le_of_ble_eq_true rfl) rfl ?_
  refine J_aload_n (pc := 37) C 18 rfl 0 rfl rfl ?_
  refine J_sipush (pc := 38) (v := (152 : Int32)) C 19 rfl rfl ?_
  refine J_newaI (pc := 41) (N := 152) C 20 rfl k4 (by decide) rfl (Nat.le_of_ble_eq_true rfl) (Nat.le_of_ble_eq_true rfl) (Nat.le_of_ble_eq_true rfl) (fun q5 => ?_)
  refine J_putF (pc := 43) (ws2 := ([(h0, .inr (5, [.ref q1, .ref q2, .ref q3, .ref q4, .ref q5, .null, .null, .null, .null, .int 0, .int 0, .int 0, .int 0, .int 0])), (q1, .inl (G.2 0, 76, .inl (fun _ => 0))), (q2, .inl (G.2 0, 76, .inl (fun _ => 0))), (q3, .inl (G.2 0, 76, .inl (fun _ => 0))), (q4, .inl (G.2 0, 456, .inl (fun _ => 0))), (q5, .inl (G.2 0, 152, .inl (fun _ => 0)))] : va_W)) C 21 hin rfl TB_l5 tyX5 tyX5_ok nmX5 rfl 0 4 rfl (by decide) k403 rfl rfl rfl rfl rfl rfl (Nat.le_of_ble_eq_true rfl) rfl ?_
  refine J_aload_n (pc := 46) C 22 rfl 0 rfl rfl ?_
  refine J_iconst (pc := 47) (v := (2 : Int32)) C 23 rfl rfl ?_
  refine J_newaZ (pc := 48) (N := 2) C 24 rfl k10 (by decide) rfl (Nat.le_of_ble_eq_true rfl) (Nat.le_of_ble_eq_true rfl) (Nat.le_of_ble_eq_true rfl) (fun q6 => ?_)
  refine J_putF (pc := 50) (ws2 := ([(h0, .inr (5, [.ref q1, .ref q2, .ref q3, .ref q4, .ref q5, .ref q6, .null, .null, .null, .int 0, .int 0, .int 0, .int 0, .int 0])), (q1, .inl (G.2 0, 76, .inl (fun _ => 0))), (q2, .inl (G.2 0, 76, .inl (fun _ => 0))), (q3, .inl (G.2 0, 76, .inl (fun _ => 0))), (q4, .inl (G.2 0, 456, .inl (fun _ => 0))), (q5, .inl (G.2 0, 152, .inl (fun _ => 0))), (q6, .inl (G.2 1, 2, .inl (fun _ => 0)))] : va_W)) C 25 hin rfl TB_l5 tyX5 tyX5_ok nmX5 rfl 0 5 rfl (by decide) k404 rfl rfl rfl rfl rfl rfl (Nat.le_of_ble_eq_true rfl) rfl ?_
  refine J_aload_n (pc := 53) C 26 rfl 0 rfl rfl ?_
  refine J_bipush (pc := 54) (v := (96 : Int32)) C 27 rfl rfl ?_
  refine J_newaI (pc := 56) (N := 96) C 28 rfl k4 (by decide) rfl (Nat.le_of_ble_eq_true rfl) (Nat.le_of_ble_eq_true rfl) (Nat.le_of_ble_eq_true rfl) (fun q7 => ?_)
  refine J_putF (pc := 58) (ws2 := ([(h0, .inr (5, [.ref q1, .ref q2, .ref q3, .ref q4, .ref q5, .ref q6, .ref q7, .null, .null, .int 0, .int 0, .int 0, .int 0, .int 0])), (q1, .inl (G.2 0, 76, .inl (fun _ => 0))), (q2, .inl (G.2 0, 76, .inl (fun _ => 0))), (q3, .inl (G.2 0, 76, .inl (fun _ => 0))), (q4, .inl (G.2 0, 456, .inl (fun _ => 0))), (q5, .inl (G.2 0, 152, .inl (fun _ => 0))), (q6, .inl (G.2 1, 2, .inl (fun _ => 0))), (q7, .inl (G.2 0, 96, .inl (fun _ => 0)))] : va_W)) C 29 hin rfl TB_l5 tyX5 tyX5_ok nmX5 rfl 0 6 rfl (by decide) k405 rfl rfl rfl rfl rfl rfl (Nat.le_of_ble_eq_true rfl) rfl ?_
  refine J_aload_n (pc := 61) C 30 rfl 0 rfl rfl ?_
  refine J_bipush (pc := 62) (v := (96 : Int32)) C 31 rfl rfl ?_
  refine J_newaI (pc := 64) (N := 96) C 32 rfl k4 (by decide) rfl (Nat.le_of_ble_eq_true rfl) (Nat.le_of_ble_eq_true rfl) (Nat.le_of_ble_eq_true rfl) (fun q8 => ?_)
  refine J_putF (pc := 66) (ws2 := ([(h0, .inr (5, [.ref q1, .ref q2, .ref q3, .ref q4, .ref q5, .ref q6, .ref q7, .ref q8, .null, .int 0, .int 0, .int 0, .int 0, .int 0])), (q1, .inl (G.2 0, 76, .inl (fun _ => 0))), (q2, .inl (G.2 0, 76, .inl (fun _ => 0))), (q3, .inl (G.2 0, 76, .inl (fun _ => 0))), (q4, .inl (G.2 0, 456, .inl (fun _ => 0))), (q5, .inl (G.2 0, 152, .inl (fun _ => 0))), (q6, .inl (G.2 1, 2, .inl (fun _ => 0))), (q7, .inl (G.2 0, 96, .inl (fun _ => 0))), (q8, .inl (G.2 0, 96, .inl (fun _ => 0)))] : va_W)) C 33 hin rfl TB_l5 tyX5 tyX5_ok nmX5 rfl 0 7 rfl (by decide) k406 rfl rfl rfl rfl rfl rfl (Nat.le_of_ble_eq_true rfl) rfl ?_
  refine J_aload_n (pc := 69) C 34 rfl 0 rfl rfl ?_
  refine J_bipush (pc := 70) (v := (60 : Int32)) C 35 rfl rfl ?_
  refine J_newaC (pc := 72) (N := 60) C 36 rfl k407 (by decide) rfl (Nat.le_of_ble_eq_true rfl) (Nat.le_of_ble_eq_true rfl) (Nat.le_of_ble_eq_true rfl) (fun q9 => ?_)
  refine J_putF (pc := 74) (ws2 := ([(h0, .inr (5, [.ref q1, .ref q2, .ref q3, .ref q4, .ref q5, .ref q6, .ref q7, .ref q8, .ref q9, .int 0, .int 0, .int 0, .int 0, .int 0])), (q1, .inl (G.2 0, 76, .inl (fun _ => 0))), (q2, .inl (G.2 0, 76, .inl (fun _ => 0))), (q3, .inl (G.2 0, 76, .inl (fun _ => 0))), (q4, .inl (G.2 0, 456, .inl (fun _ => 0))), (q5, .inl (G.2 0, 152, .inl (fun _ => 0))), (q6, .inl (G.2 1, 2, .inl (fun _ => 0))), (q7, .inl (G.2 0, 96, .inl (fun _ => 0))), (q8, .inl (G.2 0, 96, .inl (fun _ => 0))), (q9, .inl (G.2 2, 60, .inl (fun _ => 0)))] : va_W)) C 37 hin rfl TB_l5 tyX5 tyX5_ok nmX5 rfl 0 8 rfl (by decide) k408 rfl rfl rfl rfl rfl rfl (Nat.le_of_ble_eq_true rfl) rfl ?_
  refine J_aload_n (pc := 77) C 38 rfl 0 rfl rfl ?_
  refine J_get (pc := 78) (v := .ref q1) C 39 rfl TB_l5 rfl 0 0 rfl (by decide) k399 rfl rfl ?_
  refine J_iconst (pc := 81) (v := (0 : Int32)) C 40 rfl rfl ?_
  refine J_iconst (pc := 82) (v := (1 : Int32)) C 41 rfl rfl ?_
  refine J_iast (pc := 83) (f := (fun _ => 0)) (m := 0) C 42 (fun mm vv => ([(h0, .inr (5, [.ref q1, .ref q2, .ref q3, .ref q4, .ref q5, .ref q6, .ref q7, .ref q8, .ref q9, .int 0, .int 0, .int 0, .int 0, .int 0])), (q1, .inl (G.2 0, 76, .inl (upd (fun _ => 0) mm vv))), (q2, .inl (G.2 0, 76, .inl (fun _ => 0))), (q3, .inl (G.2 0, 76, .inl (fun _ => 0))), (q4, .inl (G.2 0, 456, .inl (fun _ => 0))), (q5, .inl (G.2 0, 152, .inl (fun _ => 0))), (q6, .inl (G.2 1, 2, .inl (fun _ => 0))), (q7, .inl (G.2 0, 96, .inl (fun _ => 0))), (q8, .inl (G.2 0, 96, .inl (fun _ => 0))), (q9, .inl (G.2 2, 60, .inl (fun _ => 0)))] : va_W)) rfl 1 rfl rfl rfl (fun _ _ => rfl) ?_
  refine J_aload_n (pc := 84) C 43 rfl 0 rfl rfl ?_
  refine J_get (pc := 85) (v := .ref q1) C 44 rfl TB_l5 rfl 0 0 rfl (by decide) k399 rfl rfl ?_
  refine J_iconst (pc := 88) (v := (1 : Int32)) C 45 rfl rfl ?_
  refine J_iconst (pc := 89) (v := (1 : Int32)) C 46 rfl rfl ?_
  refine J_iast (pc := 90) (f := (upd (fun _ => 0) 0 (1 : Int32))) (m := 1) C 47 (fun mm vv => ([(h0, .inr (5, [.ref q1, .ref q2, .ref q3, .ref q4, .ref q5, .ref q6, .ref q7, .ref q8, .ref q9, .int 0, .int 0, .int 0, .int 0, .int 0])), (q1, .inl (G.2 0, 76, .inl (upd (upd (fun _ => 0) 0 (1 : Int32)) mm vv))), (q2, .inl (G.2 0, 76, .inl (fun _ => 0))), (q3, .inl (G.2 0, 76, .inl (fun _ => 0))), (q4, .inl (G.2 0, 456, .inl (fun _ => 0))), (q5, .inl (G.2 0, 152, .inl (fun _ => 0))), (q6, .inl (G.2 1, 2, .inl (fun _ => 0))), (q7, .inl (G.2 0, 96, .inl (fun _ => 0))), (q8, .inl (G.2 0, 96, .inl (fun _ => 0))), (q9, .inl (G.2 2, 60, .inl (fun _ => 0)))] : va_W)) rfl 1 rfl rfl rfl (fun _ _ => rfl) ?_
  refine J_aload_n (pc := 91) C 48 rfl 0 rfl rfl ?_
  refine J_get (pc := 92) (v := .ref q1) C 49 rfl TB_l5 rfl 0 0 rfl (by decide) k399 rfl rfl ?_
  refine J_iconst (pc := 95) (v := (2 : Int32)) C 50 rfl rfl ?_
  refine J_bipush (pc := 96) (v := (10 : Int32)) C 51 rfl rfl ?_
  refine J_iast (pc := 98) (f := (upd (upd (fun _ => 0) 0 (1 : Int32)) 1 (1 : Int32))) (m := 2) C 52 (fun mm vv => ([(h0, .inr (5, [.ref q1, .ref q2, .ref q3, .ref q4, .ref q5, .ref q6, .ref q7, .ref q8, .ref q9, .int 0, .int 0, .int 0, .int 0, .int 0])), (q1, .inl (G.2 0, 76, .inl (upd (upd (upd (fun _ => 0) 0 (1 : Int32)) 1 (1 : Int32)) mm vv))), (q2, .inl (G.2 0, 76, .inl (fun _ => 0))), (q3, .inl (G.2 0, 76, .inl (fun _ => 0))), (q4, .inl (G.2 0, 456, .inl (fun _ => 0))), (q5, .inl (G.2 0, 152, .inl (fun _ => 0))), (q6, .inl (G.2 1, 2, .inl (fun _ => 0))), (q7, .inl (G.2 0, 96, .inl (fun _ => 0))), (q8, .inl (G.2 0, 96, .inl (fun _ => 0))), (q9, .inl (G.2 2, 60, .inl (fun _ => 0)))] : va_W)) rfl 1 rfl rfl rfl (fun _ _ => rfl) ?_
  refine J_iconst (pc := 99) (v := (0 : Int32)) C 53 rfl rfl ?_
  refine J_istore_n (pc := 100) (lv' := [(1, .int (0 : Int32)), (0, .ref h0)]) C 54 rfl rfl (by decide) rfl ?_
  refine J_iload_n (pc := 101) C 55 rfl 0 rfl rfl ?_
  refine J_bipush (pc := 102) (v := (6 : Int32)) C 56 rfl rfl ?_
  refine J_icmp_ge (pc := 104) (tgt := 127) C 57 rfl rfl (fun c10 => absurd c10 (by decide)) (fun c10 => ?_)
  refine J_aload_n (pc := 107) C 58 rfl 1 rfl rfl ?_
  refine J_get (pc := 108) (v := .ref q1) C 59 rfl TB_l5 rfl 0 0 rfl (by decide) k399 rfl rfl ?_
  refine J_iconst (pc := 111) (v := (4 : Int32)) C 60 rfl rfl ?_
  refine J_iconst (pc := 112) (v := (2 : Int32)) C 61 rfl rfl ?_
  refine J_iload_n (pc := 113) C 62 rfl 0 rfl rfl ?_
  refine J_imul (pc := 114) C 63 rfl  ?_
  refine J_top (y := (0 : Int32)) rfl ?_
  refine J_iadd (pc := 115) C 64 rfl  ?_
  refine J_top (y := (4 : Int32)) rfl ?_
  refine J_iconst (pc := 116) (v := (1 : Int32)) C 65 rfl rfl ?_
  refine J_iadd (pc := 117) C 66 rfl  ?_
  refine J_top (y := (5 : Int32)) rfl ?_
  refine J_bipush (pc := 118) (v := (60 : Int32)) C 67 rfl rfl ?_
  refine J_iast (pc := 120) (f := (upd (upd (upd (fun _ => 0) 0 (1 : Int32)) 1 (1 : Int32)) 2 (10 : Int32))) (m := 5) C 68 (fun mm vv => ([(h0, .inr (5, [.ref q1, .ref q2, .ref q3, .ref q4, .ref q5, .ref q6, .ref q7, .ref q8, .ref q9, .int 0, .int 0, .int 0, .int 0, .int 0])), (q1, .inl (G.2 0, 76, .inl (upd (upd (upd (upd (fun _ => 0) 0 (1 : Int32)) 1 (1 : Int32)) 2 (10 : Int32)) mm vv))), (q2, .inl (G.2 0, 76, .inl (fun _ => 0))), (q3, .inl (G.2 0, 76, .inl (fun _ => 0))), (q4, .inl (G.2 0, 456, .inl (fun _ => 0))), (q5, .inl (G.2 0, 152, .inl (fun _ => 0))), (q6, .inl (G.2 1, 2, .inl (fun _ => 0))), (q7, .inl (G.2 0, 96, .inl (fun _ => 0))), (q8, .inl (G.2 0, 96, .inl (fun _ => 0))), (q9, .inl (G.2 2, 60, .inl (fun _ => 0)))] : va_W)) rfl 1 rfl rfl rfl (fun _ _ => rfl) ?_
  refine J_iinc (pc := 121) (v := (1 : Int32)) (lv' := [(1, .int (1 : Int32)), (0, .ref h0)]) C 69 rfl 0 rfl rfl (by decide) rfl ?_
  refine J_goto (pc := 124) (tgt := 101) C 70 rfl rfl ?_
  refine J_iload_n (pc := 101) C 55 rfl 0 rfl rfl ?_
  refine J_bipush (pc := 102) (v := (6 : Int32)) C 56 rfl rfl ?_
  refine J_icmp_ge (pc := 104) (tgt := 127) C 57 rfl rfl (fun c11 => absurd c11 (by decide)) (fun c11 => ?_)
  refine J_aload_n (pc := 107) C 58 rfl 1 rfl rfl ?_
  refine J_get (pc := 108) (v := .ref q1) C 59 rfl TB_l5 rfl 0 0 rfl (by decide) k399 rfl rfl ?_
  refine J_iconst (pc := 111) (v := (4 : Int32)) C 60 rfl rfl ?_
  refine J_iconst (pc := 112) (v := (2 : Int32)) C 61 rfl rfl ?_
  refine J_iload_n (pc := 113) C 62 rfl 0 rfl rfl ?_
  refine J_imul (pc := 114) C 63 rfl  ?_
  refine J_top (y := (2 : Int32)) rfl ?_
  refine J_iadd (pc := 115) C 64 rfl  ?_
  refine J_top (y := (6 : Int32)) rfl ?_
  refine J_iconst (pc := 116) (v := (1 : Int32)) C 65 rfl rfl ?_
  refine J_iadd (pc := 117) C 66 rfl  ?_
  refine J_top (y := (7 : Int32)) rfl ?_
  refine J_bipush (pc := 118) (v := (60 : Int32)) C 67 rfl rfl ?_
  refine J_iast (pc := 120) (f := (upd (upd (upd (upd (fun _ => 0) 0 (1 : Int32)) 1 (1 : Int32)) 2 (10 : Int32)) 5 (60 : Int32))) (m := 7) C 68 (fun mm vv => ([(h0, .inr (5, [.ref q1, .ref q2, .ref q3, .ref q4, .ref q5, .ref q6, .ref q7, .ref q8, .ref q9, .int 0, .int 0, .int 0, .int 0, .int 0])), (q1, .inl (G.2 0, 76, .inl (upd (upd (upd (upd (upd (fun _ => 0) 0 (1 : Int32)) 1 (1 : Int32)) 2 (10 : Int32)) 5 (60 : Int32)) mm vv))), (q2, .inl (G.2 0, 76, .inl (fun _ => 0))), (q3, .inl (G.2 0, 76, .inl (fun _ => 0))), (q4, .inl (G.2 0, 456, .inl (fun _ => 0))), (q5, .inl (G.2 0, 152, .inl (fun _ => 0))), (q6, .inl (G.2 1, 2, .inl (fun _ => 0))), (q7, .inl (G.2 0, 96, .inl (fun _ => 0))), (q8, .inl (G.2 0, 96, .inl (fun _ => 0))), (q9, .inl (G.2 2, 60, .inl (fun _ => 0)))] : va_W)) rfl 1 rfl rfl rfl (fun _ _ => rfl) ?_
  refine J_iinc (pc := 121) (v := (2 : Int32)) (lv' := [(1, .int (2 : Int32)), (0, .ref h0)]) C 69 rfl 0 rfl rfl (by decide) rfl ?_
  refine J_goto (pc := 124) (tgt := 101) C 70 rfl rfl ?_
  refine J_iload_n (pc := 101) C 55 rfl 0 rfl rfl ?_
  refine J_bipush (pc := 102) (v := (6 : Int32)) C 56 rfl rfl ?_
  refine J_icmp_ge (pc := 104) (tgt := 127) C 57 rfl rfl (fun c12 => absurd c12 (by decide)) (fun c12 => ?_)
  refine J_aload_n (pc := 107) C 58 rfl 1 rfl rfl ?_
  refine J_get (pc := 108) (v := .ref q1) C 59 rfl TB_l5 rfl 0 0 rfl (by decide) k399 rfl rfl ?_
  refine J_iconst (pc := 111) (v := (4 : Int32)) C 60 rfl rfl ?_
  refine J_iconst (pc := 112) (v := (2 : Int32)) C 61 rfl rfl ?_
  refine J_iload_n (pc := 113) C 62 rfl 0 rfl rfl ?_
  refine J_imul (pc := 114) C 63 rfl  ?_
  refine J_top (y := (4 : Int32)) rfl ?_
  refine J_iadd (pc := 115) C 64 rfl  ?_
  refine J_top (y := (8 : Int32)) rfl ?_
  refine J_iconst (pc := 116) (v := (1 : Int32)) C 65 rfl rfl ?_
  refine J_iadd (pc := 117) C 66 rfl  ?_
  refine J_top (y := (9 : Int32)) rfl ?_
  refine J_bipush (pc := 118) (v := (60 : Int32)) C 67 rfl rfl ?_
  refine J_iast (pc := 120) (f := (upd (upd (upd (upd (upd (fun _ => 0) 0 (1 : Int32)) 1 (1 : Int32)) 2 (10 : Int32)) 5 (60 : Int32)) 7 (60 : Int32))) (m := 9) C 68 (fun mm vv => ([(h0, .inr (5, [.ref q1, .ref q2, .ref q3, .ref q4, .ref q5, .ref q6, .ref q7, .ref q8, .ref q9, .int 0, .int 0, .int 0, .int 0, .int 0])), (q1, .inl (G.2 0, 76, .inl (upd (upd (upd (upd (upd (upd (fun _ => 0) 0 (1 : Int32)) 1 (1 : Int32)) 2 (10 : Int32)) 5 (60 : Int32)) 7 (60 : Int32)) mm vv))), (q2, .inl (G.2 0, 76, .inl (fun _ => 0))), (q3, .inl (G.2 0, 76, .inl (fun _ => 0))), (q4, .inl (G.2 0, 456, .inl (fun _ => 0))), (q5, .inl (G.2 0, 152, .inl (fun _ => 0))), (q6, .inl (G.2 1, 2, .inl (fun _ => 0))), (q7, .inl (G.2 0, 96, .inl (fun _ => 0))), (q8, .inl (G.2 0, 96, .inl (fun _ => 0))), (q9, .inl (G.2 2, 60, .inl (fun _ => 0)))] : va_W)) rfl 1 rfl rfl rfl (fun _ _ => rfl) ?_
  refine J_iinc (pc := 121) (v := (3 : Int32)) (lv' := [(1, .int (3 : Int32)), (0, .ref h0)]) C 69 rfl 0 rfl rfl (by decide) rfl ?_
  refine J_goto (pc := 124) (tgt := 101) C 70 rfl rfl ?_
  refine J_iload_n (pc := 101) C 55 rfl 0 rfl rfl ?_
  refine J_bipush (pc := 102) (v := (6 : Int32)) C 56 rfl rfl ?_
  refine J_icmp_ge (pc := 104) (tgt := 127) C 57 rfl rfl (fun c13 => absurd c13 (by decide)) (fun c13 => ?_)
  refine J_aload_n (pc := 107) C 58 rfl 1 rfl rfl ?_
  refine J_get (pc := 108) (v := .ref q1) C 59 rfl TB_l5 rfl 0 0 rfl (by decide) k399 rfl rfl ?_
  refine J_iconst (pc := 111) (v := (4 : Int32)) C 60 rfl rfl ?_
  refine J_iconst (pc := 112) (v := (2 : Int32)) C 61 rfl rfl ?_
  refine J_iload_n (pc := 113) C 62 rfl 0 rfl rfl ?_
  refine J_imul (pc := 114) C 63 rfl  ?_
  refine J_top (y := (6 : Int32)) rfl ?_
  refine J_iadd (pc := 115) C 64 rfl  ?_
  refine J_top (y := (10 : Int32)) rfl ?_
  refine J_iconst (pc := 116) (v := (1 : Int32)) C 65 rfl rfl ?_
  refine J_iadd (pc := 117) C 66 rfl  ?_
  refine J_top (y := (11 : Int32)) rfl ?_
  refine J_bipush (pc := 118) (v := (60 : Int32)) C 67 rfl rfl ?_
  refine J_iast (pc := 120) (f := (upd (upd (upd (upd (upd (upd (fun _ => 0) 0 (1 : Int32)) 1 (1 : Int32)) 2 (10 : Int32)) 5 (60 : Int32)) 7 (60 : Int32)) 9 (60 : Int32))) (m := 11) C 68 (fun mm vv => ([(h0, .inr (5, [.ref q1, .ref q2, .ref q3, .ref q4, .ref q5, .ref q6, .ref q7, .ref q8, .ref q9, .int 0, .int 0, .int 0, .int 0, .int 0])), (q1, .inl (G.2 0, 76, .inl (upd (upd (upd (upd (upd (upd (upd (fun _ => 0) 0 (1 : Int32)) 1 (1 : Int32)) 2 (10 : Int32)) 5 (60 : Int32)) 7 (60 : Int32)) 9 (60 : Int32)) mm vv))), (q2, .inl (G.2 0, 76, .inl (fun _ => 0))), (q3, .inl (G.2 0, 76, .inl (fun _ => 0))), (q4, .inl (G.2 0, 456, .inl (fun _ => 0))), (q5, .inl (G.2 0, 152, .inl (fun _ => 0))), (q6, .inl (G.2 1, 2, .inl (fun _ => 0))), (q7, .inl (G.2 0, 96, .inl (fun _ => 0))), (q8, .inl (G.2 0, 96, .inl (fun _ => 0))), (q9, .inl (G.2 2, 60, .inl (fun _ => 0)))] : va_W)) rfl 1 rfl rfl rfl (fun _ _ => rfl) ?_
  refine J_iinc (pc := 121) (v := (4 : Int32)) (lv' := [(1, .int (4 : Int32)), (0, .ref h0)]) C 69 rfl 0 rfl rfl (by decide) rfl ?_
  refine J_goto (pc := 124) (tgt := 101) C 70 rfl rfl ?_
  refine J_iload_n (pc := 101) C 55 rfl 0 rfl rfl ?_
  refine J_bipush (pc := 102) (v := (6 : Int32)) C 56 rfl rfl ?_
  refine J_icmp_ge (pc := 104) (tgt := 127) C 57 rfl rfl (fun c14 => absurd c14 (by decide)) (fun c14 => ?_)
  refine J_aload_n (pc := 107) C 58 rfl 1 rfl rfl ?_
  refine J_get (pc := 108) (v := .ref q1) C 59 rfl TB_l5 rfl 0 0 rfl (by decide) k399 rfl rfl ?_
  refine J_iconst (pc := 111) (v := (4 : Int32)) C 60 rfl rfl ?_
  refine J_iconst (pc := 112) (v := (2 : Int32)) C 61 rfl rfl ?_
  refine J_iload_n (pc := 113) C 62 rfl 0 rfl rfl ?_
  refine J_imul (pc := 114) C 63 rfl  ?_
  refine J_top (y := (8 : Int32)) rfl ?_
  refine J_iadd (pc := 115) C 64 rfl  ?_
  refine J_top (y := (12 : Int32)) rfl ?_
  refine J_iconst (pc := 116) (v := (1 : Int32)) C 65 rfl rfl ?_
  refine J_iadd (pc := 117) C 66 rfl  ?_
  refine J_top (y := (13 : Int32)) rfl ?_
  refine J_bipush (pc := 118) (v := (60 : Int32)) C 67 rfl rfl ?_
  refine J_iast (pc := 120) (f := (upd (upd (upd (upd (upd (upd (upd (fun _ => 0) 0 (1 : Int32)) 1 (1 : Int32)) 2 (10 : Int32)) 5 (60 : Int32)) 7 (60 : Int32)) 9 (60 : Int32)) 11 (60 : Int32))) (m := 13) C 68 (fun mm vv => ([(h0, .inr (5, [.ref q1, .ref q2, .ref q3, .ref q4, .ref q5, .ref q6, .ref q7, .ref q8, .ref q9, .int 0, .int 0, .int 0, .int 0, .int 0])), (q1, .inl (G.2 0, 76, .inl (upd (upd (upd (upd (upd (upd (upd (upd (fun _ => 0) 0 (1 : Int32)) 1 (1 : Int32)) 2 (10 : Int32)) 5 (60 : Int32)) 7 (60 : Int32)) 9 (60 : Int32)) 11 (60 : Int32)) mm vv))), (q2, .inl (G.2 0, 76, .inl (fun _ => 0))), (q3, .inl (G.2 0, 76, .inl (fun _ => 0))), (q4, .inl (G.2 0, 456, .inl (fun _ => 0))), (q5, .inl (G.2 0, 152, .inl (fun _ => 0))), (q6, .inl (G.2 1, 2, .inl (fun _ => 0))), (q7, .inl (G.2 0, 96, .inl (fun _ => 0))), (q8, .inl (G.2 0, 96, .inl (fun _ => 0))), (q9, .inl (G.2 2, 60, .inl (fun _ => 0)))] : va_W)) rfl 1 rfl rfl rfl (fun _ _ => rfl) ?_
  refine J_iinc (pc := 121) (v := (5 : Int32)) (lv' := [(1, .int (5 : Int32)), (0, .ref h0)]) C 69 rfl 0 rfl rfl (by decide) rfl ?_
  refine J_goto (pc := 124) (tgt := 101) C 70 rfl rfl ?_
  refine J_iload_n (pc := 101) C 55 rfl 0 rfl rfl ?_
  refine J_bipush (pc := 102) (v := (6 : Int32)) C 56 rfl rfl ?_
  refine J_icmp_ge (pc := 104) (tgt := 127) C 57 rfl rfl (fun c15 => absurd c15 (by decide)) (fun c15 => ?_)
  refine J_aload_n (pc := 107) C 58 rfl 1 rfl rfl ?_
  refine J_get (pc := 108) (v := .ref q1) C 59 rfl TB_l5 rfl 0 0 rfl (by decide) k399 rfl rfl ?_
  refine J_iconst (pc := 111) (v := (4 : Int32)) C 60 rfl rfl ?_
  refine J_iconst (pc := 112) (v := (2 : Int32)) C 61 rfl rfl ?_
  refine J_iload_n (pc := 113) C 62 rfl 0 rfl rfl ?_
  refine J_imul (pc := 114) C 63 rfl  ?_
  refine J_top (y := (10 : Int32)) rfl ?_
  refine J_iadd (pc := 115) C 64 rfl  ?_
  refine J_top (y := (14 : Int32)) rfl ?_
  refine J_iconst (pc := 116) (v := (1 : Int32)) C 65 rfl rfl ?_
  refine J_iadd (pc := 117) C 66 rfl  ?_
  refine J_top (y := (15 : Int32)) rfl ?_
  refine J_bipush (pc := 118) (v := (60 : Int32)) C 67 rfl rfl ?_
  refine J_iast (pc := 120) (f := (upd (upd (upd (upd (upd (upd (upd (upd (fun _ => 0) 0 (1 : Int32)) 1 (1 : Int32)) 2 (10 : Int32)) 5 (60 : Int32)) 7 (60 : Int32)) 9 (60 : Int32)) 11 (60 : Int32)) 13 (60 : Int32))) (m := 15) C 68 (fun mm vv => ([(h0, .inr (5, [.ref q1, .ref q2, .ref q3, .ref q4, .ref q5, .ref q6, .ref q7, .ref q8, .ref q9, .int 0, .int 0, .int 0, .int 0, .int 0])), (q1, .inl (G.2 0, 76, .inl (upd (upd (upd (upd (upd (upd (upd (upd (upd (fun _ => 0) 0 (1 : Int32)) 1 (1 : Int32)) 2 (10 : Int32)) 5 (60 : Int32)) 7 (60 : Int32)) 9 (60 : Int32)) 11 (60 : Int32)) 13 (60 : Int32)) mm vv))), (q2, .inl (G.2 0, 76, .inl (fun _ => 0))), (q3, .inl (G.2 0, 76, .inl (fun _ => 0))), (q4, .inl (G.2 0, 456, .inl (fun _ => 0))), (q5, .inl (G.2 0, 152, .inl (fun _ => 0))), (q6, .inl (G.2 1, 2, .inl (fun _ => 0))), (q7, .inl (G.2 0, 96, .inl (fun _ => 0))), (q8, .inl (G.2 0, 96, .inl (fun _ => 0))), (q9, .inl (G.2 2, 60, .inl (fun _ => 0)))] : va_W)) rfl 1 rfl rfl rfl (fun _ _ => rfl) ?_
  refine J_iinc (pc := 121) (v := (6 : Int32)) (lv' := [(1, .int (6 : Int32)), (0, .ref h0)]) C 69 rfl 0 rfl rfl (by decide) rfl ?_
  refine J_goto (pc := 124) (tgt := 101) C 70 rfl rfl ?_
  refine J_iload_n (pc := 101) C 55 rfl 0 rfl rfl ?_
  refine J_bipush (pc := 102) (v := (6 : Int32)) C 56 rfl rfl ?_
  refine J_icmp_ge (pc := 104) (tgt := 127) C 57 rfl rfl (fun c16 => ?_) (fun c16 => absurd c16 (by decide))
  refine J_iconst (pc := 127) (v := (0 : Int32)) C 71 rfl rfl ?_
  refine J_istore_n (pc := 128) (lv' := [(1, .int (0 : Int32)), (0, .ref h0)]) C 72 rfl rfl (by decide) rfl ?_
  refine J_iload_n (pc := 129) C 73 rfl 0 rfl rfl ?_
  refine J_iconst (pc := 130) (v := (4 : Int32)) C 74 rfl rfl ?_
  refine J_icmp_ge (pc := 131) (tgt := 168) C 75 rfl rfl (fun c17 => absurd c17 (by decide)) (fun c17 => ?_)
  refine J_aload_n (pc := 134) C 76 rfl 1 rfl rfl ?_
  refine J_get (pc := 135) (v := .ref q1) C 77 rfl TB_l5 rfl 0 0 rfl (by decide) k399 rfl rfl ?_
  refine J_bipush (pc := 138) (v := (64 : Int32)) C 78 rfl rfl ?_
  refine J_iconst (pc := 140) (v := (3 : Int32)) C 79 rfl rfl ?_
  refine J_iload_n (pc := 141) C 80 rfl 0 rfl rfl ?_
  refine J_imul (pc := 142) C 81 rfl  ?_
  refine J_top (y := (0 : Int32)) rfl ?_
  refine J_iadd (pc := 143) C 82 rfl  ?_
  refine J_top (y := (64 : Int32)) rfl ?_
  refine J_iconst (pc := 144) (v := (0 : Int32)) C 83 rfl rfl ?_
  refine J_iadd (pc := 145) C 84 rfl  ?_
  refine J_top (y := (64 : Int32)) rfl ?_
  refine J_iconst (pc := 146) (v := (2 : Int32)) C 85 rfl rfl ?_
  refine J_iast (pc := 147) (f := (upd (upd (upd (upd (upd (upd (upd (upd (upd (fun _ => 0) 0 (1 : Int32)) 1 (1 : Int32)) 2 (10 : Int32)) 5 (60 : Int32)) 7 (60 : Int32)) 9 (60 : Int32)) 11 (60 : Int32)) 13 (60 : Int32)) 15 (60 : Int32))) (m := 64) C 86 (fun mm vv => ([(h0, .inr (5, [.ref q1, .ref q2, .ref q3, .ref q4, .ref q5, .ref q6, .ref q7, .ref q8, .ref q9, .int 0, .int 0, .int 0, .int 0, .int 0])), (q1, .inl (G.2 0, 76, .inl (upd (upd (upd (upd (upd (upd (upd (upd (upd (upd (fun _ => 0) 0 (1 : Int32)) 1 (1 : Int32)) 2 (10 : Int32)) 5 (60 : Int32)) 7 (60 : Int32)) 9 (60 : Int32)) 11 (60 : Int32)) 13 (60 : Int32)) 15 (60 : Int32)) mm vv))), (q2, .inl (G.2 0, 76, .inl (fun _ => 0))), (q3, .inl (G.2 0, 76, .inl (fun _ => 0))), (q4, .inl (G.2 0, 456, .inl (fun _ => 0))), (q5, .inl (G.2 0, 152, .inl (fun _ => 0))), (q6, .inl (G.2 1, 2, .inl (fun _ => 0))), (q7, .inl (G.2 0, 96, .inl (fun _ => 0))), (q8, .inl (G.2 0, 96, .inl (fun _ => 0))), (q9, .inl (G.2 2, 60, .inl (fun _ => 0)))] : va_W)) rfl 1 rfl rfl rfl (fun _ _ => rfl) ?_
  refine J_aload_n (pc := 148) C 87 rfl 1 rfl rfl ?_
  refine J_get (pc := 149) (v := .ref q1) C 88 rfl TB_l5 rfl 0 0 rfl (by decide) k399 rfl rfl ?_
  refine J_bipush (pc := 152) (v := (64 : Int32)) C 89 rfl rfl ?_
  refine J_iconst (pc := 154) (v := (3 : Int32)) C 90 rfl rfl ?_
  refine J_iload_n (pc := 155) C 91 rfl 0 rfl rfl ?_
  refine J_imul (pc := 156) C 92 rfl  ?_
  refine J_top (y := (0 : Int32)) rfl ?_
  refine J_iadd (pc := 157) C 93 rfl  ?_
  refine J_top (y := (64 : Int32)) rfl ?_
  refine J_iconst (pc := 158) (v := (1 : Int32)) C 94 rfl rfl ?_
  refine J_iadd (pc := 159) C 95 rfl  ?_
  refine J_top (y := (65 : Int32)) rfl ?_
  refine J_iconst (pc := 160) (v := (2 : Int32)) C 96 rfl rfl ?_
  refine J_iast (pc := 161) (f := (upd (upd (upd (upd (upd (upd (upd (upd (upd (upd (fun _ => 0) 0 (1 : Int32)) 1 (1 : Int32)) 2 (10 : Int32)) 5 (60 : Int32)) 7 (60 : Int32)) 9 (60 : Int32)) 11 (60 : Int32)) 13 (60 : Int32)) 15 (60 : Int32)) 64 (2 : Int32))) (m := 65) C 97 (fun mm vv => ([(h0, .inr (5, [.ref q1, .ref q2, .ref q3, .ref q4, .ref q5, .ref q6, .ref q7, .ref q8, .ref q9, .int 0, .int 0, .int 0, .int 0, .int 0])), (q1, .inl (G.2 0, 76, .inl (upd (upd (upd (upd (upd (upd (upd (upd (upd (upd (upd (fun _ => 0) 0 (1 : Int32)) 1 (1 : Int32)) 2 (10 : Int32)) 5 (60 : Int32)) 7 (60 : Int32)) 9 (60 : Int32)) 11 (60 : Int32)) 13 (60 : Int32)) 15 (60 : Int32)) 64 (2 : Int32)) mm vv))), (q2, .inl (G.2 0, 76, .inl (fun _ => 0))), (q3, .inl (G.2 0, 76, .inl (fun _ => 0))), (q4, .inl (G.2 0, 456, .inl (fun _ => 0))), (q5, .inl (G.2 0, 152, .inl (fun _ => 0))), (q6, .inl (G.2 1, 2, .inl (fun _ => 0))), (q7, .inl (G.2 0, 96, .inl (fun _ => 0))), (q8, .inl (G.2 0, 96, .inl (fun _ => 0))), (q9, .inl (G.2 2, 60, .inl (fun _ => 0)))] : va_W)) rfl 1 rfl rfl rfl (fun _ _ => rfl) ?_
  refine J_iinc (pc := 162) (v := (1 : Int32)) (lv' := [(1, .int (1 : Int32)), (0, .ref h0)]) C 98 rfl 0 rfl rfl (by decide) rfl ?_
  refine J_goto (pc := 165) (tgt := 129) C 99 rfl rfl ?_
  refine J_iload_n (pc := 129) C 73 rfl 0 rfl rfl ?_
  refine J_iconst (pc := 130) (v := (4 : Int32)) C 74 rfl rfl ?_
  refine J_icmp_ge (pc := 131) (tgt := 168) C 75 rfl rfl (fun c18 => absurd c18 (by decide)) (fun c18 => ?_)
  refine J_aload_n (pc := 134) C 76 rfl 1 rfl rfl ?_
  refine J_get (pc := 135) (v := .ref q1) C 77 rfl TB_l5 rfl 0 0 rfl (by decide) k399 rfl rfl ?_
  refine J_bipush (pc := 138) (v := (64 : Int32)) C 78 rfl rfl ?_
  refine J_iconst (pc := 140) (v := (3 : Int32)) C 79 rfl rfl ?_
  refine J_iload_n (pc := 141) C 80 rfl 0 rfl rfl ?_
  refine J_imul (pc := 142) C 81 rfl  ?_
  refine J_top (y := (3 : Int32)) rfl ?_
  refine J_iadd (pc := 143) C 82 rfl  ?_
  refine J_top (y := (67 : Int32)) rfl ?_
  refine J_iconst (pc := 144) (v := (0 : Int32)) C 83 rfl rfl ?_
  refine J_iadd (pc := 145) C 84 rfl  ?_
  refine J_top (y := (67 : Int32)) rfl ?_
  refine J_iconst (pc := 146) (v := (2 : Int32)) C 85 rfl rfl ?_
  refine J_iast (pc := 147) (f := (upd (upd (upd (upd (upd (upd (upd (upd (upd (upd (upd (fun _ => 0) 0 (1 : Int32)) 1 (1 : Int32)) 2 (10 : Int32)) 5 (60 : Int32)) 7 (60 : Int32)) 9 (60 : Int32)) 11 (60 : Int32)) 13 (60 : Int32)) 15 (60 : Int32)) 64 (2 : Int32)) 65 (2 : Int32))) (m := 67) C 86 (fun mm vv => ([(h0, .inr (5, [.ref q1, .ref q2, .ref q3, .ref q4, .ref q5, .ref q6, .ref q7, .ref q8, .ref q9, .int 0, .int 0, .int 0, .int 0, .int 0])), (q1, .inl (G.2 0, 76, .inl (upd (upd (upd (upd (upd (upd (upd (upd (upd (upd (upd (upd (fun _ => 0) 0 (1 : Int32)) 1 (1 : Int32)) 2 (10 : Int32)) 5 (60 : Int32)) 7 (60 : Int32)) 9 (60 : Int32)) 11 (60 : Int32)) 13 (60 : Int32)) 15 (60 : Int32)) 64 (2 : Int32)) 65 (2 : Int32)) mm vv))), (q2, .inl (G.2 0, 76, .inl (fun _ => 0))), (q3, .inl (G.2 0, 76, .inl (fun _ => 0))), (q4, .inl (G.2 0, 456, .inl (fun _ => 0))), (q5, .inl (G.2 0, 152, .inl (fun _ => 0))), (q6, .inl (G.2 1, 2, .inl (fun _ => 0))), (q7, .inl (G.2 0, 96, .inl (fun _ => 0))), (q8, .inl (G.2 0, 96, .inl (fun _ => 0))), (q9, .inl (G.2 2, 60, .inl (fun _ => 0)))] : va_W)) rfl 1 rfl rfl rfl (fun _ _ => rfl) ?_
  refine J_aload_n (pc := 148) C 87 rfl 1 rfl rfl ?_
  refine J_get (pc := 149) (v := .ref q1) C 88 rfl TB_l5 rfl 0 0 rfl (by decide) k399 rfl rfl ?_
  refine J_bipush (pc := 152) (v := (64 : Int32)) C 89 rfl rfl ?_
  refine J_iconst (pc := 154) (v := (3 : Int32)) C 90 rfl rfl ?_
  refine J_iload_n (pc := 155) C 91 rfl 0 rfl rfl ?_
  refine J_imul (pc := 156) C 92 rfl  ?_
  refine J_top (y := (3 : Int32)) rfl ?_
  refine J_iadd (pc := 157) C 93 rfl  ?_
  refine J_top (y := (67 : Int32)) rfl ?_
  refine J_iconst (pc := 158) (v := (1 : Int32)) C 94 rfl rfl ?_
  refine J_iadd (pc := 159) C 95 rfl  ?_
  refine J_top (y := (68 : Int32)) rfl ?_
  refine J_iconst (pc := 160) (v := (2 : Int32)) C 96 rfl rfl ?_
  refine J_iast (pc := 161) (f := (upd (upd (upd (upd (upd (upd (upd (upd (upd (upd (upd (upd (fun _ => 0) 0 (1 : Int32)) 1 (1 : Int32)) 2 (10 : Int32)) 5 (60 : Int32)) 7 (60 : Int32)) 9 (60 : Int32)) 11 (60 : Int32)) 13 (60 : Int32)) 15 (60 : Int32)) 64 (2 : Int32)) 65 (2 : Int32)) 67 (2 : Int32))) (m := 68) C 97 (fun mm vv => ([(h0, .inr (5, [.ref q1, .ref q2, .ref q3, .ref q4, .ref q5, .ref q6, .ref q7, .ref q8, .ref q9, .int 0, .int 0, .int 0, .int 0, .int 0])), (q1, .inl (G.2 0, 76, .inl (upd (upd (upd (upd (upd (upd (upd (upd (upd (upd (upd (upd (upd (fun _ => 0) 0 (1 : Int32)) 1 (1 : Int32)) 2 (10 : Int32)) 5 (60 : Int32)) 7 (60 : Int32)) 9 (60 : Int32)) 11 (60 : Int32)) 13 (60 : Int32)) 15 (60 : Int32)) 64 (2 : Int32)) 65 (2 : Int32)) 67 (2 : Int32)) mm vv))), (q2, .inl (G.2 0, 76, .inl (fun _ => 0))), (q3, .inl (G.2 0, 76, .inl (fun _ => 0))), (q4, .inl (G.2 0, 456, .inl (fun _ => 0))), (q5, .inl (G.2 0, 152, .inl (fun _ => 0))), (q6, .inl (G.2 1, 2, .inl (fun _ => 0))), (q7, .inl (G.2 0, 96, .inl (fun _ => 0))), (q8, .inl (G.2 0, 96, .inl (fun _ => 0))), (q9, .inl (G.2 2, 60, .inl (fun _ => 0)))] : va_W)) rfl 1 rfl rfl rfl (fun _ _ => rfl) ?_
  refine J_iinc (pc := 162) (v := (2 : Int32)) (lv' := [(1, .int (2 : Int32)), (0, .ref h0)]) C 98 rfl 0 rfl rfl (by decide) rfl ?_
  refine J_goto (pc := 165) (tgt := 129) C 99 rfl rfl ?_
  refine J_iload_n (pc := 129) C 73 rfl 0 rfl rfl ?_
  refine J_iconst (pc := 130) (v := (4 : Int32)) C 74 rfl rfl ?_
  refine J_icmp_ge (pc := 131) (tgt := 168) C 75 rfl rfl (fun c19 => absurd c19 (by decide)) (fun c19 => ?_)
  refine J_aload_n (pc := 134) C 76 rfl 1 rfl rfl ?_
  refine J_get (pc := 135) (v := .ref q1) C 77 rfl TB_l5 rfl 0 0 rfl (by decide) k399 rfl rfl ?_
  refine J_bipush (pc := 138) (v := (64 : Int32)) C 78 rfl rfl ?_
  refine J_iconst (pc := 140) (v := (3 : Int32)) C 79 rfl rfl ?_
  refine J_iload_n (pc := 141) C 80 rfl 0 rfl rfl ?_
  refine J_imul (pc := 142) C 81 rfl  ?_
  refine J_top (y := (6 : Int32)) rfl ?_
  refine J_iadd (pc := 143) C 82 rfl  ?_
  refine J_top (y := (70 : Int32)) rfl ?_
  refine J_iconst (pc := 144) (v := (0 : Int32)) C 83 rfl rfl ?_
  refine J_iadd (pc := 145) C 84 rfl  ?_
  refine J_top (y := (70 : Int32)) rfl ?_
  refine J_iconst (pc := 146) (v := (2 : Int32)) C 85 rfl rfl ?_
  refine J_iast (pc := 147) (f := (upd (upd (upd (upd (upd (upd (upd (upd (upd (upd (upd (upd (upd (fun _ => 0) 0 (1 : Int32)) 1 (1 : Int32)) 2 (10 : Int32)) 5 (60 : Int32)) 7 (60 : Int32)) 9 (60 : Int32)) 11 (60 : Int32)) 13 (60 : Int32)) 15 (60 : Int32)) 64 (2 : Int32)) 65 (2 : Int32)) 67 (2 : Int32)) 68 (2 : Int32))) (m := 70) C 86 (fun mm vv => ([(h0, .inr (5, [.ref q1, .ref q2, .ref q3, .ref q4, .ref q5, .ref q6, .ref q7, .ref q8, .ref q9, .int 0, .int 0, .int 0, .int 0, .int 0])), (q1, .inl (G.2 0, 76, .inl (upd (upd (upd (upd (upd (upd (upd (upd (upd (upd (upd (upd (upd (upd (fun _ => 0) 0 (1 : Int32)) 1 (1 : Int32)) 2 (10 : Int32)) 5 (60 : Int32)) 7 (60 : Int32)) 9 (60 : Int32)) 11 (60 : Int32)) 13 (60 : Int32)) 15 (60 : Int32)) 64 (2 : Int32)) 65 (2 : Int32)) 67 (2 : Int32)) 68 (2 : Int32)) mm vv))), (q2, .inl (G.2 0, 76, .inl (fun _ => 0))), (q3, .inl (G.2 0, 76, .inl (fun _ => 0))), (q4, .inl (G.2 0, 456, .inl (fun _ => 0))), (q5, .inl (G.2 0, 152, .inl (fun _ => 0))), (q6, .inl (G.2 1, 2, .inl (fun _ => 0))), (q7, .inl (G.2 0, 96, .inl (fun _ => 0))), (q8, .inl (G.2 0, 96, .inl (fun _ => 0))), (q9, .inl (G.2 2, 60, .inl (fun _ => 0)))] : va_W)) rfl 1 rfl rfl rfl (fun _ _ => rfl) ?_
  refine J_aload_n (pc := 148) C 87 rfl 1 rfl rfl ?_
  refine J_get (pc := 149) (v := .ref q1) C 88 rfl TB_l5 rfl 0 0 rfl (by decide) k399 rfl rfl ?_
  refine J_bipush (pc := 152) (v := (64 : Int32)) C 89 rfl rfl ?_
  refine J_iconst (pc := 154) (v := (3 : Int32)) C 90 rfl rfl ?_
  refine J_iload_n (pc := 155) C 91 rfl 0 rfl rfl ?_
  refine J_imul (pc := 156) C 92 rfl  ?_
  refine J_top (y := (6 : Int32)) rfl ?_
  refine J_iadd (pc := 157) C 93 rfl  ?_
  refine J_top (y := (70 : Int32)) rfl ?_
  refine J_iconst (pc := 158) (v := (1 : Int32)) C 94 rfl rfl ?_
  refine J_iadd (pc := 159) C 95 rfl  ?_
  refine J_top (y := (71 : Int32)) rfl ?_
  refine J_iconst (pc := 160) (v := (2 : Int32)) C 96 rfl rfl ?_
  refine J_iast (pc := 161) (f := (upd (upd (upd (upd (upd (upd (upd (upd (upd (upd (upd (upd (upd (upd (fun _ => 0) 0 (1 : Int32)) 1 (1 : Int32)) 2 (10 : Int32)) 5 (60 : Int32)) 7 (60 : Int32)) 9 (60 : Int32)) 11 (60 : Int32)) 13 (60 : Int32)) 15 (60 : Int32)) 64 (2 : Int32)) 65 (2 : Int32)) 67 (2 : Int32)) 68 (2 : Int32)) 70 (2 : Int32))) (m := 71) C 97 (fun mm vv => ([(h0, .inr (5, [.ref q1, .ref q2, .ref q3, .ref q4, .ref q5, .ref q6, .ref q7, .ref q8, .ref q9, .int 0, .int 0, .int 0, .int 0, .int 0])), (q1, .inl (G.2 0, 76, .inl (upd (upd (upd (upd (upd (upd (upd (upd (upd (upd (upd (upd (upd (upd (upd (fun _ => 0) 0 (1 : Int32)) 1 (1 : Int32)) 2 (10 : Int32)) 5 (60 : Int32)) 7 (60 : Int32)) 9 (60 : Int32)) 11 (60 : Int32)) 13 (60 : Int32)) 15 (60 : Int32)) 64 (2 : Int32)) 65 (2 : Int32)) 67 (2 : Int32)) 68 (2 : Int32)) 70 (2 : Int32)) mm vv))), (q2, .inl (G.2 0, 76, .inl (fun _ => 0))), (q3, .inl (G.2 0, 76, .inl (fun _ => 0))), (q4, .inl (G.2 0, 456, .inl (fun _ => 0))), (q5, .inl (G.2 0, 152, .inl (fun _ => 0))), (q6, .inl (G.2 1, 2, .inl (fun _ => 0))), (q7, .inl (G.2 0, 96, .inl (fun _ => 0))), (q8, .inl (G.2 0, 96, .inl (fun _ => 0))), (q9, .inl (G.2 2, 60, .inl (fun _ => 0)))] : va_W)) rfl 1 rfl rfl rfl (fun _ _ => rfl) ?_
  refine J_iinc (pc := 162) (v := (3 : Int32)) (lv' := [(1, .int (3 : Int32)), (0, .ref h0)]) C 98 rfl 0 rfl rfl (by decide) rfl ?_
  refine J_goto (pc := 165) (tgt := 129) C 99 rfl rfl ?_
  refine J_iload_n (pc := 129) C 73 rfl 0 rfl rfl ?_
  refine J_iconst (pc := 130) (v := (4 : Int32)) C 74 rfl rfl ?_
  refine J_icmp_ge (pc := 131) (tgt := 168) C 75 rfl rfl (fun c20 => absurd c20 (by decide)) (fun c20 => ?_)
  refine J_aload_n (pc := 134) C 76 rfl 1 rfl rfl ?_
  refine J_get (pc := 135) (v := .ref q1) C 77 rfl TB_l5 rfl 0 0 rfl (by decide) k399 rfl rfl ?_
  refine J_bipush (pc := 138) (v := (64 : Int32)) C 78 rfl rfl ?_
  refine J_iconst (pc := 140) (v := (3 : Int32)) C 79 rfl rfl ?_
  refine J_iload_n (pc := 141) C 80 rfl 0 rfl rfl ?_
  refine J_imul (pc := 142) C 81 rfl  ?_
  refine J_top (y := (9 : Int32)) rfl ?_
  refine J_iadd (pc := 143) C 82 rfl  ?_
  refine J_top (y := (73 : Int32)) rfl ?_
  refine J_iconst (pc := 144) (v := (0 : Int32)) C 83 rfl rfl ?_
  refine J_iadd (pc := 145) C 84 rfl  ?_
  refine J_top (y := (73 : Int32)) rfl ?_
  refine J_iconst (pc := 146) (v := (2 : Int32)) C 85 rfl rfl ?_
  refine J_iast (pc := 147) (f := (upd (upd (upd (upd (upd (upd (upd (upd (upd (upd (upd (upd (upd (upd (upd (fun _ => 0) 0 (1 : Int32)) 1 (1 : Int32)) 2 (10 : Int32)) 5 (60 : Int32)) 7 (60 : Int32)) 9 (60 : Int32)) 11 (60 : Int32)) 13 (60 : Int32)) 15 (60 : Int32)) 64 (2 : Int32)) 65 (2 : Int32)) 67 (2 : Int32)) 68 (2 : Int32)) 70 (2 : Int32)) 71 (2 : Int32))) (m := 73) C 86 (fun mm vv => ([(h0, .inr (5, [.ref q1, .ref q2, .ref q3, .ref q4, .ref q5, .ref q6, .ref q7, .ref q8, .ref q9, .int 0, .int 0, .int 0, .int 0, .int 0])), (q1, .inl (G.2 0, 76, .inl (upd (upd (upd (upd (upd (upd (upd (upd (upd (upd (upd (upd (upd (upd (upd (upd (fun _ => 0) 0 (1 : Int32)) 1 (1 : Int32)) 2 (10 : Int32)) 5 (60 : Int32)) 7 (60 : Int32)) 9 (60 : Int32)) 11 (60 : Int32)) 13 (60 : Int32)) 15 (60 : Int32)) 64 (2 : Int32)) 65 (2 : Int32)) 67 (2 : Int32)) 68 (2 : Int32)) 70 (2 : Int32)) 71 (2 : Int32)) mm vv))), (q2, .inl (G.2 0, 76, .inl (fun _ => 0))), (q3, .inl (G.2 0, 76, .inl (fun _ => 0))), (q4, .inl (G.2 0, 456, .inl (fun _ => 0))), (q5, .inl (G.2 0, 152, .inl (fun _ => 0))), (q6, .inl (G.2 1, 2, .inl (fun _ => 0))), (q7, .inl (G.2 0, 96, .inl (fun _ => 0))), (q8, .inl (G.2 0, 96, .inl (fun _ => 0))), (q9, .inl (G.2 2, 60, .inl (fun _ => 0)))] : va_W)) rfl 1 rfl rfl rfl (fun _ _ => rfl) ?_
  refine J_aload_n (pc := 148) C 87 rfl 1 rfl rfl ?_
  refine J_get (pc := 149) (v := .ref q1) C 88 rfl TB_l5 rfl 0 0 rfl (by decide) k399 rfl rfl ?_
  refine J_bipush (pc := 152) (v := (64 : Int32)) C 89 rfl rfl ?_
  refine J_iconst (pc := 154) (v := (3 : Int32)) C 90 rfl rfl ?_
  refine J_iload_n (pc := 155) C 91 rfl 0 rfl rfl ?_
  refine J_imul (pc := 156) C 92 rfl  ?_
  refine J_top (y := (9 : Int32)) rfl ?_
  refine J_iadd (pc := 157) C 93 rfl  ?_
  refine J_top (y := (73 : Int32)) rfl ?_
  refine J_iconst (pc := 158) (v := (1 : Int32)) C 94 rfl rfl ?_
  refine J_iadd (pc := 159) C 95 rfl  ?_
  refine J_top (y := (74 : Int32)) rfl ?_
  refine J_iconst (pc := 160) (v := (2 : Int32)) C 96 rfl rfl ?_
  refine J_iast (pc := 161) (f := (upd (upd (upd (upd (upd (upd (upd (upd (upd (upd (upd (upd (upd (upd (upd (upd (fun _ => 0) 0 (1 : Int32)) 1 (1 : Int32)) 2 (10 : Int32)) 5 (60 : Int32)) 7 (60 : Int32)) 9 (60 : Int32)) 11 (60 : Int32)) 13 (60 : Int32)) 15 (60 : Int32)) 64 (2 : Int32)) 65 (2 : Int32)) 67 (2 : Int32)) 68 (2 : Int32)) 70 (2 : Int32)) 71 (2 : Int32)) 73 (2 : Int32))) (m := 74) C 97 (fun mm vv => ([(h0, .inr (5, [.ref q1, .ref q2, .ref q3, .ref q4, .ref q5, .ref q6, .ref q7, .ref q8, .ref q9, .int 0, .int 0, .int 0, .int 0, .int 0])), (q1, .inl (G.2 0, 76, .inl (upd (upd (upd (upd (upd (upd (upd (upd (upd (upd (upd (upd (upd (upd (upd (upd (upd (fun _ => 0) 0 (1 : Int32)) 1 (1 : Int32)) 2 (10 : Int32)) 5 (60 : Int32)) 7 (60 : Int32)) 9 (60 : Int32)) 11 (60 : Int32)) 13 (60 : Int32)) 15 (60 : Int32)) 64 (2 : Int32)) 65 (2 : Int32)) 67 (2 : Int32)) 68 (2 : Int32)) 70 (2 : Int32)) 71 (2 : Int32)) 73 (2 : Int32)) mm vv))), (q2, .inl (G.2 0, 76, .inl (fun _ => 0))), (q3, .inl (G.2 0, 76, .inl (fun _ => 0))), (q4, .inl (G.2 0, 456, .inl (fun _ => 0))), (q5, .inl (G.2 0, 152, .inl (fun _ => 0))), (q6, .inl (G.2 1, 2, .inl (fun _ => 0))), (q7, .inl (G.2 0, 96, .inl (fun _ => 0))), (q8, .inl (G.2 0, 96, .inl (fun _ => 0))), (q9, .inl (G.2 2, 60, .inl (fun _ => 0)))] : va_W)) rfl 1 rfl rfl rfl (fun _ _ => rfl) ?_
  refine J_iinc (pc := 162) (v := (4 : Int32)) (lv' := [(1, .int (4 : Int32)), (0, .ref h0)]) C 98 rfl 0 rfl rfl (by decide) rfl ?_
  refine J_goto (pc := 165) (tgt := 129) C 99 rfl rfl ?_
  refine J_iload_n (pc := 129) C 73 rfl 0 rfl rfl ?_
  refine J_iconst (pc := 130) (v := (4 : Int32)) C 74 rfl rfl ?_
  refine J_icmp_ge (pc := 131) (tgt := 168) C 75 rfl rfl (fun c21 => ?_) (fun c21 => absurd c21 (by decide))
  refine J_aload_n (pc := 168) C 100 rfl 1 rfl rfl ?_
  refine J_get (pc := 169) (v := .ref q1) C 101 rfl TB_l5 rfl 0 0 rfl (by decide) k399 rfl rfl ?_
  refine J_bipush (pc := 172) (v := (66 : Int32)) C 102 rfl rfl ?_
  refine J_iconst (pc := 174) (v := (1 : Int32)) C 103 rfl rfl ?_
  refine J_iast (pc := 175) (f := (upd (upd (upd (upd (upd (upd (upd (upd (upd (upd (upd (upd (upd (upd (upd (upd (upd (fun _ => 0) 0 (1 : Int32)) 1 (1 : Int32)) 2 (10 : Int32)) 5 (60 : Int32)) 7 (60 : Int32)) 9 (60 : Int32)) 11 (60 : Int32)) 13 (60 : Int32)) 15 (60 : Int32)) 64 (2 : Int32)) 65 (2 : Int32)) 67 (2 : Int32)) 68 (2 : Int32)) 70 (2 : Int32)) 71 (2 : Int32)) 73 (2 : Int32)) 74 (2 : Int32))) (m := 66) C 104 (fun mm vv => ([(h0, .inr (5, [.ref q1, .ref q2, .ref q3, .ref q4, .ref q5, .ref q6, .ref q7, .ref q8, .ref q9, .int 0, .int 0, .int 0, .int 0, .int 0])), (q1, .inl (G.2 0, 76, .inl (upd (upd (upd (upd (upd (upd (upd (upd (upd (upd (upd (upd (upd (upd (upd (upd (upd (upd (fun _ => 0) 0 (1 : Int32)) 1 (1 : Int32)) 2 (10 : Int32)) 5 (60 : Int32)) 7 (60 : Int32)) 9 (60 : Int32)) 11 (60 : Int32)) 13 (60 : Int32)) 15 (60 : Int32)) 64 (2 : Int32)) 65 (2 : Int32)) 67 (2 : Int32)) 68 (2 : Int32)) 70 (2 : Int32)) 71 (2 : Int32)) 73 (2 : Int32)) 74 (2 : Int32)) mm vv))), (q2, .inl (G.2 0, 76, .inl (fun _ => 0))), (q3, .inl (G.2 0, 76, .inl (fun _ => 0))), (q4, .inl (G.2 0, 456, .inl (fun _ => 0))), (q5, .inl (G.2 0, 152, .inl (fun _ => 0))), (q6, .inl (G.2 1, 2, .inl (fun _ => 0))), (q7, .inl (G.2 0, 96, .inl (fun _ => 0))), (q8, .inl (G.2 0, 96, .inl (fun _ => 0))), (q9, .inl (G.2 2, 60, .inl (fun _ => 0)))] : va_W)) rfl 1 rfl rfl rfl (fun _ _ => rfl) ?_
  exact J_cret (pc := 176) C 105 (fun i => [h0, q1, q2, q3, q4, q5, q6, q7, q8, q9].getD i 0) rfl rfl
def T_X3_init : List (Nat × ClassFile.Instr × Nat) := [(0, .aload_n 0, 1), (1, .invokespecial 3, 3), (4, .aload_n 0, 1), (5, .new 9, 3), (8, .dup, 1), (9, .invokespecial 11, 3), (12, .putfield 12, 3), (15, .aload_n 0, 1), (16, .bipush 96, 2), (18, .newarray .int, 2), (20, .putfield 18, 3), (23, .aload_n 0, 1), (24, .bipush 96, 2), (26, .newarray .int, 2), (28, .putfield 22, 3), (31, .aload_n 0, 1), (32, .bipush 96, 2), (34, .newarray .int, 2), (36, .putfield 25, 3), (39, .aload_n 0, 1), (40, .iconst 0, 1), (41, .putfield 28, 3), (44, .aload_n 0, 1), (45, .iconst 0, 1), (46, .putfield 32, 3), (49, .aload_n 0, 1), (50, .bipush 64, 2), (52, .newarray .int, 2), (54, .putfield 35, 3), (57, .aload_n 0, 1), (58, .bipush 64, 2), (60, .newarray .int, 2), (62, .putfield 38, 3), (65, .aload_n 0, 1), (66, .bipush 6, 2), (68, .newarray .int, 2), (70, .putfield 41, 3), (73, .return_, 1)]
theorem D_X3_init : ∀ q ∈ T_X3_init, decode cX3_init q.1 = .ok q.2 := by decide +kernel
theorem V_X3_init : Vy yX3_init cX3_init 1 none 0 := ⟨k174, k183, by decide +kernel⟩
def vi_X3 : JV := fun k => match k with
  | 1 => (fun _ => 0)
  | 2 => (fun _ => 0)
  | 3 => (fun _ => 0)
  | 4 => (fun _ => (0 : Int32))
  | 5 => (fun _ => (0 : Int32))
  | 6 => (fun _ => 0)
  | 7 => (fun _ => 0)
  | 8 => (fun _ => 0)
  | _ => (fun _ => 0)
set_option maxRecDepth 100000 in
set_option maxHeartbeats 4000000 in
theorem c_X3_init {l : Launch} {G : JG} {h0 : Nat} : JMC (U := (Nat → Nat) × (Nat → Nat)) l G yX3_init cX3_init 1 2 32 15 503 h0 3 [.null, .null, .null, .null, .int 0, .int 0, .null, .null, .null] (fun u => u.1 0 = h0) (fun u => wSeat G u.1 (u.2 0) (vi_X3 1) (vi_X3 2) (vi_X3 3) (vi_X3 4 0) (vi_X3 5 0) (vi_X3 6) (vi_X3 7) (vi_X3 8) ++ wSch G u.2 (vi_X2 0) (vi_X2 1) (vi_X2 2) (vi_X2 3) (vi_X2 4) (vi_X2 5) (vi_X2 6) (vi_X2 7) (vi_X2 8 0) (vi_X2 9 0)) := by
  refine JMC.of (own := RX3) (tb := T_X3_init) (by decide) (Nat.le_of_ble_eq_true rfl) D_X3_init rfl rfl (fun X C hin => ?_)
  refine J_aload_n (pc := 0) C 0 rfl 0 rfl rfl ?_
  refine J_oinit (pc := 1) C 1 rfl k163 (by decide) (Nat.le_of_ble_eq_true rfl) ?_
  refine J_aload_n (pc := 4) C 2 rfl 0 rfl rfl ?_
  refine J_new (pc := 5) (fs := [.null, .null, .null, .null, .null, .null, .null, .null, .int 0, .int 0]) (ci := 2) C 3 rfl TB_l2 tyX2 tyX2_ok k164 k21 k22 rfl (fun j hj => by rcases (show j = 0 ∨ j = 1 ∨ j = 2 ∨ j = 3 ∨ j = 4 ∨ j = 5 ∨ j = 6 ∨ j = 7 ∨ j = 8 ∨ j = 9 by omega) with rfl | rfl | rfl | rfl | rfl | rfl | rfl | rfl | rfl | rfl <;> rfl) (Nat.le_of_ble_eq_true rfl) (Nat.le_of_ble_eq_true rfl) (fun q1 => ?_)
  refine J_dup (pc := 8) C 4 rfl rfl ?_
  refine J_callCN (pc := 9) C 5 rfl (c_X2_init (h0 := q1)) V_X2_init (List.mem_of_getElem? (i := 1) rfl) k23 rfl rfl ⟨Nat.le_of_ble_eq_true rfl, Nat.le_of_ble_eq_true rfl⟩ (Nat.le_of_ble_eq_true rfl) ⟨Nat.le_of_ble_eq_true rfl, Nat.le_of_ble_eq_true rfl⟩ 1 rfl [0] (wr := ([(h0, .inr (3, [.null, .null, .null, .null, .int 0, .int 0, .null, .null, .null]))] : va_W)) rfl (by decide +kernel) (by decide +kernel) (fun u2 hu => ?_)
  subst hu
  refine J_putF (pc := 12) (ws2 := ([(h0, .inr (3, [.ref (u2 0), .null, .null, .null, .int 0, .int 0, .null, .null, .null]))] ++ (wSch G u2 (vi_X2 0) (vi_X2 1) (vi_X2 2) (vi_X2 3) (vi_X2 4) (vi_X2 5) (vi_X2 6) (vi_X2 7) (vi_X2 8 0) (vi_X2 9 0)) : va_W)) C 6 hin rfl TB_l3 tyX3 tyX3_ok nmX3 rfl 0 0 rfl (by decide) k165 rfl rfl rfl rfl rfl rfl (Nat.le_of_ble_eq_true rfl) rfl ?_
  refine J_aload_n (pc := 15) C 7 rfl 0 rfl rfl ?_
  refine J_bipush (pc := 16) (v := (96 : Int32)) C 8 rfl rfl ?_
  refine J_newaI (pc := 18) (N := 96) C 9 rfl k4 (by decide) rfl (Nat.le_of_ble_eq_true rfl) (Nat.le_of_ble_eq_true rfl) (Nat.le_of_ble_eq_true rfl) (fun q3 => ?_)
  refine J_putF (pc := 20) (ws2 := ([(h0, .inr (3, [.ref (u2 0), .ref q3, .null, .null, .int 0, .int 0, .null, .null, .null]))] ++ (wSch G u2 (vi_X2 0) (vi_X2 1) (vi_X2 2) (vi_X2 3) (vi_X2 4) (vi_X2 5) (vi_X2 6) (vi_X2 7) (vi_X2 8 0) (vi_X2 9 0) ++ ([(q3, .inl (G.2 0, 96, .inl (fun _ => 0)))])) : va_W)) C 10 hin rfl TB_l3 tyX3 tyX3_ok nmX3 rfl 0 1 rfl (by decide) k166 rfl rfl rfl rfl rfl rfl (Nat.le_of_ble_eq_true rfl) rfl ?_
  refine J_aload_n (pc := 23) C 11 rfl 0 rfl rfl ?_
  refine J_bipush (pc := 24) (v := (96 : Int32)) C 12 rfl rfl ?_
  refine J_newaI (pc := 26) (N := 96) C 13 rfl k4 (by decide) rfl (Nat.le_of_ble_eq_true rfl) (Nat.le_of_ble_eq_true rfl) (Nat.le_of_ble_eq_true rfl) (fun q4 => ?_)
  refine J_putF (pc := 28) (ws2 := ([(h0, .inr (3, [.ref (u2 0), .ref q3, .ref q4, .null, .int 0, .int 0, .null, .null, .null]))] ++ (wSch G u2 (vi_X2 0) (vi_X2 1) (vi_X2 2) (vi_X2 3) (vi_X2 4) (vi_X2 5) (vi_X2 6) (vi_X2 7) (vi_X2 8 0) (vi_X2 9 0) ++ ([(q3, .inl (G.2 0, 96, .inl (fun _ => 0))), (q4, .inl (G.2 0, 96, .inl (fun _ => 0)))])) : va_W)) C 14 hin rfl TB_l3 tyX3 tyX3_ok nmX3 rfl 0 2 rfl (by decide) k167 rfl rfl rfl rfl rfl rfl (Nat.le_of_ble_eq_true rfl) rfl ?_
  refine J_aload_n (pc := 31) C 15 rfl 0 rfl rfl ?_
  refine J_bipush (pc := 32) (v := (96 : Int32)) C 16 rfl rfl ?_
  refine J_newaI (pc := 34) (N := 96) C 17 rfl k4 (by decide) rfl (Nat.le_of_ble_eq_true rfl) (Nat.le_of_ble_eq_true rfl) (Nat.le_of_ble_eq_true rfl) (fun q5 => ?_)
  refine J_putF (pc := 36) (ws2 := ([(h0, .inr (3, [.ref (u2 0), .ref q3, .ref q4, .ref q5, .int 0, .int 0, .null, .null, .null]))] ++ (wSch G u2 (vi_X2 0) (vi_X2 1) (vi_X2 2) (vi_X2 3) (vi_X2 4) (vi_X2 5) (vi_X2 6) (vi_X2 7) (vi_X2 8 0) (vi_X2 9 0) ++ ([(q3, .inl (G.2 0, 96, .inl (fun _ => 0))), (q4, .inl (G.2 0, 96, .inl (fun _ => 0))), (q5, .inl (G.2 0, 96, .inl (fun _ => 0)))])) : va_W)) C 18 hin rfl TB_l3 tyX3 tyX3_ok nmX3 rfl 0 3 rfl (by decide) k168 rfl rfl rfl rfl rfl rfl (Nat.le_of_ble_eq_true rfl) rfl ?_
  refine J_aload_n (pc := 39) C 19 rfl 0 rfl rfl ?_
  refine J_iconst (pc := 40) (v := (0 : Int32)) C 20 rfl rfl ?_
  refine J_puti (pc := 41) C 21 (fun vv => ([(h0, .inr (3, [.ref (u2 0), .ref q3, .ref q4, .ref q5, .int vv, .int 0, .null, .null, .null]))] ++ (wSch G u2 (vi_X2 0) (vi_X2 1) (vi_X2 2) (vi_X2 3) (vi_X2 4) (vi_X2 5) (vi_X2 6) (vi_X2 7) (vi_X2 8 0) (vi_X2 9 0) ++ ([(q3, .inl (G.2 0, 96, .inl (fun _ => 0))), (q4, .inl (G.2 0, 96, .inl (fun _ => 0))), (q5, .inl (G.2 0, 96, .inl (fun _ => 0)))])) : va_W)) rfl TB_l3 tyX3 tyX3_ok nmX3 rfl 0 4 rfl (by decide) k169 rfl rfl rfl (Nat.le_of_ble_eq_true rfl) (fun _ => rfl) ?_
  refine J_aload_n (pc := 44) C 22 rfl 0 rfl rfl ?_
  refine J_iconst (pc := 45) (v := (0 : Int32)) C 23 rfl rfl ?_
  refine J_puti (pc := 46) C 24 (fun vv => ([(h0, .inr (3, [.ref (u2 0), .ref q3, .ref q4, .ref q5, .int (0 : Int32), .int vv, .null, .null, .null]))] ++ (wSch G u2 (vi_X2 0) (vi_X2 1) (vi_X2 2) (vi_X2 3) (vi_X2 4) (vi_X2 5) (vi_X2 6) (vi_X2 7) (vi_X2 8 0) (vi_X2 9 0) ++ ([(q3, .inl (G.2 0, 96, .inl (fun _ => 0))), (q4, .inl (G.2 0, 96, .inl (fun _ => 0))), (q5, .inl (G.2 0, 96, .inl (fun _ => 0)))])) : va_W)) rfl TB_l3 tyX3 tyX3_ok nmX3 rfl 0 5 rfl (by decide) k170 rfl rfl rfl (Nat.le_of_ble_eq_true rfl) (fun _ => rfl) ?_
  refine J_aload_n (pc := 49) C 25 rfl 0 rfl rfl ?_
  refine J_bipush (pc := 50) (v := (64 : Int32)) C 26 rfl rfl ?_
  refine J_newaI (pc := 52) (N := 64) C 27 rfl k4 (by decide) rfl (Nat.le_of_ble_eq_true rfl) (Nat.le_of_ble_eq_true rfl) (Nat.le_of_ble_eq_true rfl) (fun q6 => ?_)
  refine J_putF (pc := 54) (ws2 := ([(h0, .inr (3, [.ref (u2 0), .ref q3, .ref q4, .ref q5, .int (0 : Int32), .int (0 : Int32), .ref q6, .null, .null]))] ++ (wSch G u2 (vi_X2 0) (vi_X2 1) (vi_X2 2) (vi_X2 3) (vi_X2 4) (vi_X2 5) (vi_X2 6) (vi_X2 7) (vi_X2 8 0) (vi_X2 9 0) ++ ([(q3, .inl (G.2 0, 96, .inl (fun _ => 0))), (q4, .inl (G.2 0, 96, .inl (fun _ => 0))), (q5, .inl (G.2 0, 96, .inl (fun _ => 0))), (q6, .inl (G.2 0, 64, .inl (fun _ => 0)))])) : va_W)) C 28 hin rfl TB_l3 tyX3 tyX3_ok nmX3 rfl 0 6 rfl (by decide) k171 rfl rfl rfl rfl rfl rfl (Nat.le_of_ble_eq_true rfl) rfl ?_
  refine J_aload_n (pc := 57) C 29 rfl 0 rfl rfl ?_
  refine J_bipush (pc := 58) (v := (64 : Int32)) C 30 rfl rfl ?_
  refine J_newaI (pc := 60) (N := 64) C 31 rfl k4 (by decide) rfl (Nat.le_of_ble_eq_true rfl) (Nat.le_of_ble_eq_true rfl) (Nat.le_of_ble_eq_true rfl) (fun q7 => ?_)
  refine J_putF (pc := 62) (ws2 := ([(h0, .inr (3, [.ref (u2 0), .ref q3, .ref q4, .ref q5, .int (0 : Int32), .int (0 : Int32), .ref q6, .ref q7, .null]))] ++ (wSch G u2 (vi_X2 0) (vi_X2 1) (vi_X2 2) (vi_X2 3) (vi_X2 4) (vi_X2 5) (vi_X2 6) (vi_X2 7) (vi_X2 8 0) (vi_X2 9 0) ++ ([(q3, .inl (G.2 0, 96, .inl (fun _ => 0))), (q4, .inl (G.2 0, 96, .inl (fun _ => 0))), (q5, .inl (G.2 0, 96, .inl (fun _ => 0))), (q6, .inl (G.2 0, 64, .inl (fun _ => 0))), (q7, .inl (G.2 0, 64, .inl (fun _ => 0)))])) : va_W)) C 32 hin rfl TB_l3 tyX3 tyX3_ok nmX3 rfl 0 7 rfl (by decide) k172 rfl rfl rfl rfl rfl rfl (Nat.le_of_ble_eq_true rfl) rfl ?_
  refine J_aload_n (pc := 65) C 33 rfl 0 rfl rfl ?_
  refine J_bipush (pc := 66) (v := (6 : Int32)) C 34 rfl rfl ?_
  refine J_newaI (pc := 68) (N := 6) C 35 rfl k4 (by decide) rfl (Nat.le_of_ble_eq_true rfl) (Nat.le_of_ble_eq_true rfl) (Nat.le_of_ble_eq_true rfl) (fun q8 => ?_)
  refine J_putF (pc := 70) (ws2 := ([(h0, .inr (3, [.ref (u2 0), .ref q3, .ref q4, .ref q5, .int (0 : Int32), .int (0 : Int32), .ref q6, .ref q7, .ref q8]))] ++ (wSch G u2 (vi_X2 0) (vi_X2 1) (vi_X2 2) (vi_X2 3) (vi_X2 4) (vi_X2 5) (vi_X2 6) (vi_X2 7) (vi_X2 8 0) (vi_X2 9 0) ++ ([(q3, .inl (G.2 0, 96, .inl (fun _ => 0))), (q4, .inl (G.2 0, 96, .inl (fun _ => 0))), (q5, .inl (G.2 0, 96, .inl (fun _ => 0))), (q6, .inl (G.2 0, 64, .inl (fun _ => 0))), (q7, .inl (G.2 0, 64, .inl (fun _ => 0))), (q8, .inl (G.2 0, 6, .inl (fun _ => 0)))])) : va_W)) C 36 hin rfl TB_l3 tyX3 tyX3_ok nmX3 rfl 0 8 rfl (by decide) k173 rfl rfl rfl rfl rfl rfl (Nat.le_of_ble_eq_true rfl) rfl ?_
  refine J_perm (ws' := (wSeat G (fun i => [h0, q3, q4, q5, q6, q7, q8].getD i 0) (u2 0) (vi_X3 1) (vi_X3 2) (vi_X3 3) (vi_X3 4 0) (vi_X3 5 0) (vi_X3 6) (vi_X3 7) (vi_X3 8) ++ wSch G u2 (vi_X2 0) (vi_X2 1) (vi_X2 2) (vi_X2 3) (vi_X2 4) (vi_X2 5) (vi_X2 6) (vi_X2 7) (vi_X2 8 0) (vi_X2 9 0))) [0, 10, 11, 12, 13, 14, 15, 1, 2, 3, 4, 5, 6, 7, 8, 9] (by decide +kernel) rfl ?_
  exact J_cret (pc := 73) C 37 ((fun i => [h0, q3, q4, q5, q6, q7, q8].getD i 0), u2) rfl rfl
def T_X0_init : List (Nat × ClassFile.Instr × Nat) := [(0, .aload_n 0, 1), (1, .invokespecial 3, 3), (4, .aload_n 0, 1), (5, .bipush 6, 2), (7, .anewarray 9, 3), (10, .putfield 11, 3), (13, .aload_n 0, 1), (14, .iconst 0, 1), (15, .putfield 17, 3), (18, .iconst 0, 1), (19, .istore_n 1, 1), (20, .iload_n 1, 1), (21, .bipush 6, 2), (23, .if_icmp .ge 22, 3), (26, .aload_n 0, 1), (27, .getfield 11, 3), (30, .iload_n 1, 1), (31, .new 9, 3), (34, .dup, 1), (35, .invokespecial 21, 3), (38, .aastore, 1), (39, .iinc 1 1, 3), (42, .goto (-22), 3), (45, .return_, 1)]
theorem D_X0_init : ∀ q ∈ T_X0_init, decode cX0_init q.1 = .ok q.2 := by decide +kernel
theorem V_X0_init : Vy yX0_init cX0_init 2 none 0 := ⟨k16, k30, by decide +kernel⟩
set_option maxRecDepth 100000 in
set_option maxHeartbeats 4000000 in
theorem c_X0_init {l : Launch} {G : JG} {h0 : Nat} : JMC (U := (Nat → Nat) × (Nat → Nat → Nat)) l G yX0_init cX0_init 2 2 32 55 492 h0 0 [.null, .int 0] (fun u => u.1 0 = h0) (fun u => wHis G u.1 u.2 (fun _ => vi_X2) 0) := by
  refine JMC.of (own := RX0) (tb := T_X0_init) (by decide) (Nat.le_of_ble_eq_true rfl) D_X0_init rfl rfl (fun X C hin => ?_)
  refine J_aload_n (pc := 0) C 0 rfl 0 rfl rfl ?_
  refine J_oinit (pc := 1) C 1 rfl k17 (by decide) (Nat.le_of_ble_eq_true rfl) ?_
  refine J_aload_n (pc := 4) C 2 rfl 0 rfl rfl ?_
  refine J_bipush (pc := 5) (v := (6 : Int32)) C 3 rfl rfl ?_
  refine J_anew (pc := 7) (N := 6) C 4 rfl k18 (by decide) rfl (Nat.le_of_ble_eq_true rfl) (Nat.le_of_ble_eq_true rfl) (Nat.le_of_ble_eq_true rfl) (fun q1 => ?_)
  refine J_putF (pc := 10) (ws2 := ([(h0, .inr (0, [.ref q1, .int 0])), (q1, .inl (G.2 3, 6, .inr (.inr (.inr (.inr (fun _ => none))))))] : va_W)) C 5 hin rfl TB_l0 tyX0 tyX0_ok nmX0 rfl 0 0 rfl (by decide) k19 rfl rfl rfl rfl rfl rfl (Nat.le_of_ble_eq_true rfl) rfl ?_
  refine J_aload_n (pc := 13) C 6 rfl 0 rfl rfl ?_
  refine J_iconst (pc := 14) (v := (0 : Int32)) C 7 rfl rfl ?_
  refine J_puti (pc := 15) C 8 (fun vv => ([(h0, .inr (0, [.ref q1, .int vv])), (q1, .inl (G.2 3, 6, .inr (.inr (.inr (.inr (fun _ => none))))))] : va_W)) rfl TB_l0 tyX0 tyX0_ok nmX0 rfl 0 1 rfl (by decide) k20 rfl rfl rfl (Nat.le_of_ble_eq_true rfl) (fun _ => rfl) ?_
  refine J_iconst (pc := 18) (v := (0 : Int32)) C 9 rfl rfl ?_
  refine J_istore_n (pc := 19) (lv' := [(1, .int (0 : Int32)), (0, .ref h0)]) C 10 rfl rfl (by decide) rfl ?_
  refine J_iload_n (pc := 20) C 11 rfl 0 rfl rfl ?_
  refine J_bipush (pc := 21) (v := (6 : Int32)) C 12 rfl rfl ?_
  refine J_icmp_ge (pc := 23) (tgt := 45) C 13 rfl rfl (fun c2 => absurd c2 (by decide)) (fun c2 => ?_)
  refine J_aload_n (pc := 26) C 14 rfl 1 rfl rfl ?_
  refine J_get (pc := 27) (v := .ref q1) C 15 rfl TB_l0 rfl 0 0 rfl (by decide) k19 rfl rfl ?_
  refine J_iload_n (pc := 30) C 16 rfl 0 rfl rfl ?_
  refine J_new (pc := 31) (fs := [.null, .null, .null, .null, .null, .null, .null, .null, .int 0, .int 0]) (ci := 2) C 17 rfl TB_l2 tyX2 tyX2_ok k18 k21 k22 rfl (fun j hj => by rcases (show j = 0 ∨ j = 1 ∨ j = 2 ∨ j = 3 ∨ j = 4 ∨ j = 5 ∨ j = 6 ∨ j = 7 ∨ j = 8 ∨ j = 9 by omega) with rfl | rfl | rfl | rfl | rfl | rfl | rfl | rfl | rfl | rfl <;> rfl) (Nat.le_of_ble_eq_true rfl) (Nat.le_of_ble_eq_true rfl) (fun q3 => ?_)
  refine J_dup (pc := 34) C 18 rfl rfl ?_
  refine J_callCN (pc := 35) C 19 rfl (c_X2_init (h0 := q3)) V_X2_init (List.mem_of_getElem? (i := 3) rfl) k23 rfl rfl ⟨Nat.le_of_ble_eq_true rfl, Nat.le_of_ble_eq_true rfl⟩ (Nat.le_of_ble_eq_true rfl) ⟨Nat.le_of_ble_eq_true rfl, Nat.le_of_ble_eq_true rfl⟩ 2 rfl [0, 1] (wr := ([(h0, .inr (0, [.ref q1, .int (0 : Int32)])), (q1, .inl (G.2 3, 6, .inr (.inr (.inr (.inr (fun _ => none))))))] : va_W)) rfl (by decide +kernel) (by decide +kernel) (fun u4 hu => ?_)
  subst hu
  refine J_aast (pc := 38) (v := (u4 0)) (f := (fun _ => none)) (ws2 := ([(h0, .inr (0, [.ref q1, .int (0 : Int32)])), (q1, .inl (G.2 3, 6, .inr (.inr (.inr (.inr (va_up (fun _ => none) 0 (some (u4 0))))))))] ++ (wSch G u4 (vi_X2 0) (vi_X2 1) (vi_X2 2) (vi_X2 3) (vi_X2 4) (vi_X2 5) (vi_X2 6) (vi_X2 7) (vi_X2 8 0) (vi_X2 9 0)) : va_W)) C 20 rfl 1 2 rfl rfl rfl rfl ?_
  refine J_iinc (pc := 39) (v := (1 : Int32)) (lv' := [(1, .int (1 : Int32)), (0, .ref h0)]) C 21 rfl 0 rfl rfl (by decide) rfl ?_
  refine J_goto (pc := 42) (tgt := 20) C 22 rfl rfl ?_
  refine J_iload_n (pc := 20) C 11 rfl 0 rfl rfl ?_
  refine J_bipush (pc := 21) (v := (6 : Int32)) C 12 rfl rfl ?_
  refine J_icmp_ge (pc := 23) (tgt := 45) C 13 rfl rfl (fun c5 => absurd c5 (by decide)) (fun c5 => ?_)
  refine J_aload_n (pc := 26) C 14 rfl 1 rfl rfl ?_
  refine J_get (pc := 27) (v := .ref q1) C 15 rfl TB_l0 rfl 0 0 rfl (by decide) k19 rfl rfl ?_
  refine J_iload_n (pc := 30) C 16 rfl 0 rfl rfl ?_
  refine J_new (pc := 31) (fs := [.null, .null, .null, .null, .null, .null, .null, .null, .int 0, .int 0]) (ci := 2) C 17 rfl TB_l2 tyX2 tyX2_ok k18 k21 k22 rfl (fun j hj => by rcases (show j = 0 ∨ j = 1 ∨ j = 2 ∨ j = 3 ∨ j = 4 ∨ j = 5 ∨ j = 6 ∨ j = 7 ∨ j = 8 ∨ j = 9 by omega) with rfl | rfl | rfl | rfl | rfl | rfl | rfl | rfl | rfl | rfl <;> rfl) (Nat.le_of_ble_eq_true rfl) (Nat.le_of_ble_eq_true rfl) (fun q6 => ?_)
  refine J_dup (pc := 34) C 18 rfl rfl ?_
  refine J_callCN (pc := 35) C 19 rfl (c_X2_init (h0 := q6)) V_X2_init (List.mem_of_getElem? (i := 3) rfl) k23 rfl rfl ⟨Nat.le_of_ble_eq_true rfl, Nat.le_of_ble_eq_true rfl⟩ (Nat.le_of_ble_eq_true rfl) ⟨Nat.le_of_ble_eq_true rfl, Nat.le_of_ble_eq_true rfl⟩ 11 rfl [0, 1, 2, 3, 4, 5, 6, 7, 8, 9, 10] (wr := ([(h0, .inr (0, [.ref q1, .int (0 : Int32)])), (q1, .inl (G.2 3, 6, .inr (.inr (.inr (.inr (va_up (fun _ => none) 0 (some (u4 0))))))))] ++ (wSch G u4 (vi_X2 0) (vi_X2 1) (vi_X2 2) (vi_X2 3) (vi_X2 4) (vi_X2 5) (vi_X2 6) (vi_X2 7) (vi_X2 8 0) (vi_X2 9 0)) : va_W)) rfl (by decide +kernel) (by decide +kernel) (fun u7 hu => ?_)
  subst hu
  refine J_aast (pc := 38) (v := (u7 0)) (f := (va_up (fun _ => none) 0 (some (u4 0)))) (ws2 := ([(h0, .inr (0, [.ref q1, .int (0 : Int32)])), (q1, .inl (G.2 3, 6, .inr (.inr (.inr (.inr (va_up (va_up (fun _ => none) 0 (some (u4 0))) 1 (some (u7 0))))))))] ++ (wSch G u4 (vi_X2 0) (vi_X2 1) (vi_X2 2) (vi_X2 3) (vi_X2 4) (vi_X2 5) (vi_X2 6) (vi_X2 7) (vi_X2 8 0) (vi_X2 9 0) ++ (wSch G u7 (vi_X2 0) (vi_X2 1) (vi_X2 2) (vi_X2 3) (vi_X2 4) (vi_X2 5) (vi_X2 6) (vi_X2 7) (vi_X2 8 0) (vi_X2 9 0))) : va_W)) C 20 rfl 1 11 rfl rfl rfl rfl ?_
  refine J_iinc (pc := 39) (v := (2 : Int32)) (lv' := [(1, .int (2 : Int32)), (0, .ref h0)]) C 21 rfl 0 rfl rfl (by decide) rfl ?_
  refine J_goto (pc := 42) (tgt := 20) C 22 rfl rfl ?_
  refine J_iload_n (pc := 20) C 11 rfl 0 rfl rfl ?_
  refine J_bipush (pc := 21) (v := (6 : Int32)) C 12 rfl rfl ?_
  refine J_icmp_ge (pc := 23) (tgt := 45) C 13 rfl rfl (fun c8 => absurd c8 (by decide)) (fun c8 => ?_)
  refine J_aload_n (pc := 26) C 14 rfl 1 rfl rfl ?_
  refine J_get (pc := 27) (v := .ref q1) C 15 rfl TB_l0 rfl 0 0 rfl (by decide) k19 rfl rfl ?_
  refine J_iload_n (pc := 30) C 16 rfl 0 rfl rfl ?_
  refine J_new (pc := 31) (fs := [.null, .null, .null, .null, .null, .null, .null, .null, .int 0, .int 0]) (ci := 2) C 17 rfl TB_l2 tyX2 tyX2_ok k18 k21 k22 rfl (fun j hj => by rcases (show j = 0 ∨ j = 1 ∨ j = 2 ∨ j = 3 ∨ j = 4 ∨ j = 5 ∨ j = 6 ∨ j = 7 ∨ j = 8 ∨ j = 9 by omega) with rfl | rfl | rfl | rfl | rfl | rfl | rfl | rfl | rfl | rfl <;> rfl) (Nat.le_of_ble_eq_true rfl) (Nat.le_of_ble_eq_true rfl) (fun q9 => ?_)
  refine J_dup (pc := 34) C 18 rfl rfl ?_
  refine J_callCN (pc := 35) C 19 rfl (c_X2_init (h0 := q9)) V_X2_init (List.mem_of_getElem? (i := 3) rfl) k23 rfl rfl ⟨Nat.le_of_ble_eq_true rfl, Nat.le_of_ble_eq_true rfl⟩ (Nat.le_of_ble_eq_true rfl) ⟨Nat.le_of_ble_eq_true rfl, Nat.le_of_ble_eq_true rfl⟩ 20 rfl [0, 1, 2, 3, 4, 5, 6, 7, 8, 9, 10, 11, 12, 13, 14, 15, 16, 17, 18, 19] (wr := ([(h0, .inr (0, [.ref q1, .int (0 : Int32)])), (q1, .inl (G.2 3, 6, .inr (.inr (.inr (.inr (va_up (va_up (fun _ => none) 0 (some (u4 0))) 1 (some (u7 0))))))))] ++ (wSch G u4 (vi_X2 0) (vi_X2 1) (vi_X2 2) (vi_X2 3) (vi_X2 4) (vi_X2 5) (vi_X2 6) (vi_X2 7) (vi_X2 8 0) (vi_X2 9 0) ++ (wSch G u7 (vi_X2 0) (vi_X2 1) (vi_X2 2) (vi_X2 3) (vi_X2 4) (vi_X2 5) (vi_X2 6) (vi_X2 7) (vi_X2 8 0) (vi_X2 9 0))) : va_W)) rfl (by decide +kernel) (by decide +kernel) (fun u10 hu => ?_)
  subst hu
  refine J_aast (pc := 38) (v := (u10 0)) (f := (va_up (va_up (fun _ => none) 0 (some (u4 0))) 1 (some (u7 0)))) (ws2 := ([(h0, .inr (0, [.ref q1, .int (0 : Int32)])), (q1, .inl (G.2 3, 6, .inr (.inr (.inr (.inr (va_up (va_up (va_up (fun _ => none) 0 (some (u4 0))) 1 (some (u7 0))) 2 (some (u10 0))))))))] ++ (wSch G u4 (vi_X2 0) (vi_X2 1) (vi_X2 2) (vi_X2 3) (vi_X2 4) (vi_X2 5) (vi_X2 6) (vi_X2 7) (vi_X2 8 0) (vi_X2 9 0) ++ (wSch G u7 (vi_X2 0) (vi_X2 1) (vi_X2 2) (vi_X2 3) (vi_X2 4) (vi_X2 5) (vi_X2 6) (vi_X2 7) (vi_X2 8 0) (vi_X2 9 0) ++ (wSch G u10 (vi_X2 0) (vi_X2 1) (vi_X2 2) (vi_X2 3) (vi_X2 4) (vi_X2 5) (vi_X2 6) (vi_X2 7) (vi_X2 8 0) (vi_X2 9 0)))) : va_W)) C 20 rfl 1 20 rfl rfl rfl rfl ?_
  refine J_iinc (pc := 39) (v := (3 : Int32)) (lv' := [(1, .int (3 : Int32)), (0, .ref h0)]) C 21 rfl 0 rfl rfl (by decide) rfl ?_
  refine J_goto (pc := 42) (tgt := 20) C 22 rfl rfl ?_
  refine J_iload_n (pc := 20) C 11 rfl 0 rfl rfl ?_
  refine J_bipush (pc := 21) (v := (6 : Int32)) C 12 rfl rfl ?_
  refine J_icmp_ge (pc := 23) (tgt := 45) C 13 rfl rfl (fun c11 => absurd c11 (by decide)) (fun c11 => ?_)
  refine J_aload_n (pc := 26) C 14 rfl 1 rfl rfl ?_
  refine J_get (pc := 27) (v := .ref q1) C 15 rfl TB_l0 rfl 0 0 rfl (by decide) k19 rfl rfl ?_
  refine J_iload_n (pc := 30) C 16 rfl 0 rfl rfl ?_
  refine J_new (pc := 31) (fs := [.null, .null, .null, .null, .null, .null, .null, .null, .int 0, .int 0]) (ci := 2) C 17 rfl TB_l2 tyX2 tyX2_ok k18 k21 k22 rfl (fun j hj => by rcases (show j = 0 ∨ j = 1 ∨ j = 2 ∨ j = 3 ∨ j = 4 ∨ j = 5 ∨ j = 6 ∨ j = 7 ∨ j = 8 ∨ j = 9 by omega) with rfl | rfl | rfl | rfl | rfl | rfl | rfl | rfl | rfl | rfl <;> rfl) (Nat.le_of_ble_eq_true rfl) (Nat.le_of_ble_eq_true rfl) (fun q12 => ?_)
  refine J_dup (pc := 34) C 18 rfl rfl ?_
  refine J_callCN (pc := 35) C 19 rfl (c_X2_init (h0 := q12)) V_X2_init (List.mem_of_getElem? (i := 3) rfl) k23 rfl rfl ⟨Nat.le_of_ble_eq_true rfl, Nat.le_of_ble_eq_true rfl⟩ (Nat.le_of_ble_eq_true rfl) ⟨Nat.le_of_ble_eq_true rfl, Nat.le_of_ble_eq_true rfl⟩ 29 rfl [0, 1, 2, 3, 4, 5, 6, 7, 8, 9, 10, 11, 12, 13, 14, 15, 16, 17, 18, 19, 20, 21, 22, 23, 24, 25, 26, 27, 28] (wr := ([(h0, .inr (0, [.ref q1, .int (0 : Int32)])), (q1, .inl (G.2 3, 6, .inr (.inr (.inr (.inr (va_up (va_up (va_up (fun _ => none) 0 (some (u4 0))) 1 (some (u7 0))) 2 (some (u10 0))))))))] ++ (wSch G u4 (vi_X2 0) (vi_X2 1) (vi_X2 2) (vi_X2 3) (vi_X2 4) (vi_X2 5) (vi_X2 6) (vi_X2 7) (vi_X2 8 0) (vi_X2 9 0) ++ (wSch G u7 (vi_X2 0) (vi_X2 1) (vi_X2 2) (vi_X2 3) (vi_X2 4) (vi_X2 5) (vi_X2 6) (vi_X2 7) (vi_X2 8 0) (vi_X2 9 0) ++ (wSch G u10 (vi_X2 0) (vi_X2 1) (vi_X2 2) (vi_X2 3) (vi_X2 4) (vi_X2 5) (vi_X2 6) (vi_X2 7) (vi_X2 8 0) (vi_X2 9 0)))) : va_W)) rfl (by decide +kernel) (by decide +kernel) (fun u13 hu => ?_)
  subst hu
  refine J_aast (pc := 38) (v := (u13 0)) (f := (va_up (va_up (va_up (fun _ => none) 0 (some (u4 0))) 1 (some (u7 0))) 2 (some (u10 0)))) (ws2 := ([(h0, .inr (0, [.ref q1, .int (0 : Int32)])), (q1, .inl (G.2 3, 6, .inr (.inr (.inr (.inr (va_up (va_up (va_up (va_up (fun _ => none) 0 (some (u4 0))) 1 (some (u7 0))) 2 (some (u10 0))) 3 (some (u13 0))))))))] ++ (wSch G u4 (vi_X2 0) (vi_X2 1) (vi_X2 2) (vi_X2 3) (vi_X2 4) (vi_X2 5) (vi_X2 6) (vi_X2 7) (vi_X2 8 0) (vi_X2 9 0) ++ (wSch G u7 (vi_X2 0) (vi_X2 1) (vi_X2 2) (vi_X2 3) (vi_X2 4) (vi_X2 5) (vi_X2 6) (vi_X2 7) (vi_X2 8 0) (vi_X2 9 0) ++ (wSch G u10 (vi_X2 0) (vi_X2 1) (vi_X2 2) (vi_X2 3) (vi_X2 4) (vi_X2 5) (vi_X2 6) (vi_X2 7) (vi_X2 8 0) (vi_X2 9 0) ++ (wSch G u13 (vi_X2 0) (vi_X2 1) (vi_X2 2) (vi_X2 3) (vi_X2 4) (vi_X2 5) (vi_X2 6) (vi_X2 7) (vi_X2 8 0) (vi_X2 9 0))))) : va_W)) C 20 rfl 1 29 rfl rfl rfl rfl ?_
  refine J_iinc (pc := 39) (v := (4 : Int32)) (lv' := [(1, .int (4 : Int32)), (0, .ref h0)]) C 21 rfl 0 rfl rfl (by decide) rfl ?_
  refine J_goto (pc := 42) (tgt := 20) C 22 rfl rfl ?_
  refine J_iload_n (pc := 20) C 11 rfl 0 rfl rfl ?_
  refine J_bipush (pc := 21) (v := (6 : Int32)) C 12 rfl rfl ?_
  refine J_icmp_ge (pc := 23) (tgt := 45) C 13 rfl rfl (fun c14 => absurd c14 (by decide)) (fun c14 => ?_)
  refine J_aload_n (pc := 26) C 14 rfl 1 rfl rfl ?_
  refine J_get (pc := 27) (v := .ref q1) C 15 rfl TB_l0 rfl 0 0 rfl (by decide) k19 rfl rfl ?_
  refine J_iload_n (pc := 30) C 16 rfl 0 rfl rfl ?_
  refine J_new (pc := 31) (fs := [.null, .null, .null, .null, .null, .null, .null, .null, .int 0, .int 0]) (ci := 2) C 17 rfl TB_l2 tyX2 tyX2_ok k18 k21 k22 rfl (fun j hj => by rcases (show j = 0 ∨ j = 1 ∨ j = 2 ∨ j = 3 ∨ j = 4 ∨ j = 5 ∨ j = 6 ∨ j = 7 ∨ j = 8 ∨ j = 9 by omega) with rfl | rfl | rfl | rfl | rfl | rfl | rfl | rfl | rfl | rfl <;> rfl) (Nat.le_of_ble_eq_true rfl) (Nat.le_of_ble_eq_true rfl) (fun q15 => ?_)
  refine J_dup (pc := 34) C 18 rfl rfl ?_
  refine J_callCN (pc := 35) C 19 rfl (c_X2_init (h0 := q15)) V_X2_init (List.mem_of_getElem? (i := 3) rfl) k23 rfl rfl ⟨Nat.le_of_ble_eq_true rfl, Nat.le_of_ble_eq_true rfl⟩ (Nat.le_of_ble_eq_true rfl) ⟨Nat.le_of_ble_eq_true rfl, Nat.le_of_ble_eq_true rfl⟩ 38 rfl [0, 1, 2, 3, 4, 5, 6, 7, 8, 9, 10, 11, 12, 13, 14, 15, 16, 17, 18, 19, 20, 21, 22, 23, 24, 25, 26, 27, 28, 29, 30, 31, 32, 33, 34, 35, 36, 37] (wr := ([(h0, .inr (0, [.ref q1, .int (0 : Int32)])), (q1, .inl (G.2 3, 6, .inr (.inr (.inr (.inr (va_up (va_up (va_up (va_up (fun _ => none) 0 (some (u4 0))) 1 (some (u7 0))) 2 (some (u10 0))) 3 (some (u13 0))))))))] ++ (wSch G u4 (vi_X2 0) (vi_X2 1) (vi_X2 2) (vi_X2 3) (vi_X2 4) (vi_X2 5) (vi_X2 6) (vi_X2 7) (vi_X2 8 0) (vi_X2 9 0) ++ (wSch G u7 (vi_X2 0) (vi_X2 1) (vi_X2 2) (vi_X2 3) (vi_X2 4) (vi_X2 5) (vi_X2 6) (vi_X2 7) (vi_X2 8 0) (vi_X2 9 0) ++ (wSch G u10 (vi_X2 0) (vi_X2 1) (vi_X2 2) (vi_X2 3) (vi_X2 4) (vi_X2 5) (vi_X2 6) (vi_X2 7) (vi_X2 8 0) (vi_X2 9 0) ++ (wSch G u13 (vi_X2 0) (vi_X2 1) (vi_X2 2) (vi_X2 3) (vi_X2 4) (vi_X2 5) (vi_X2 6) (vi_X2 7) (vi_X2 8 0) (vi_X2 9 0))))) : va_W)) rfl (by decide +kernel) (by decide +kernel) (fun u16 hu => ?_)
  subst hu
  refine J_aast (pc := 38) (v := (u16 0)) (f := (va_up (va_up (va_up (va_up (fun _ => none) 0 (some (u4 0))) 1 (some (u7 0))) 2 (some (u10 0))) 3 (some (u13 0)))) (ws2 := ([(h0, .inr (0, [.ref q1, .int (0 : Int32)])), (q1, .inl (G.2 3, 6, .inr (.inr (.inr (.inr (va_up (va_up (va_up (va_up (va_up (fun _ => none) 0 (some (u4 0))) 1 (some (u7 0))) 2 (some (u10 0))) 3 (some (u13 0))) 4 (some (u16 0))))))))] ++ (wSch G u4 (vi_X2 0) (vi_X2 1) (vi_X2 2) (vi_X2 3) (vi_X2 4) (vi_X2 5) (vi_X2 6) (vi_X2 7) (vi_X2 8 0) (vi_X2 9 0) ++ (wSch G u7 (vi_X2 0) (vi_X2 1) (vi_X2 2) (vi_X2 3) (vi_X2 4) (vi_X2 5) (vi_X2 6) (vi_X2 7) (vi_X2 8 0) (vi_X2 9 0) ++ (wSch G u10 (vi_X2 0) (vi_X2 1) (vi_X2 2) (vi_X2 3) (vi_X2 4) (vi_X2 5) (vi_X2 6) (vi_X2 7) (vi_X2 8 0) (vi_X2 9 0) ++ (wSch G u13 (vi_X2 0) (vi_X2 1) (vi_X2 2) (vi_X2 3) (vi_X2 4) (vi_X2 5) (vi_X2 6) (vi_X2 7) (vi_X2 8 0) (vi_X2 9 0) ++ (wSch G u16 (vi_X2 0) (vi_X2 1) (vi_X2 2) (vi_X2 3) (vi_X2 4) (vi_X2 5) (vi_X2 6) (vi_X2 7) (vi_X2 8 0) (vi_X2 9 0)))))) : va_W)) C 20 rfl 1 38 rfl rfl rfl rfl ?_
  refine J_iinc (pc := 39) (v := (5 : Int32)) (lv' := [(1, .int (5 : Int32)), (0, .ref h0)]) C 21 rfl 0 rfl rfl (by decide) rfl ?_
  refine J_goto (pc := 42) (tgt := 20) C 22 rfl rfl ?_
  refine J_iload_n (pc := 20) C 11 rfl 0 rfl rfl ?_
  refine J_bipush (pc := 21) (v := (6 : Int32)) C 12 rfl rfl ?_
  refine J_icmp_ge (pc := 23) (tgt := 45) C 13 rfl rfl (fun c17 => absurd c17 (by decide)) (fun c17 => ?_)
  refine J_aload_n (pc := 26) C 14 rfl 1 rfl rfl ?_
  refine J_get (pc := 27) (v := .ref q1) C 15 rfl TB_l0 rfl 0 0 rfl (by decide) k19 rfl rfl ?_
  refine J_iload_n (pc := 30) C 16 rfl 0 rfl rfl ?_
  refine J_new (pc := 31) (fs := [.null, .null, .null, .null, .null, .null, .null, .null, .int 0, .int 0]) (ci := 2) C 17 rfl TB_l2 tyX2 tyX2_ok k18 k21 k22 rfl (fun j hj => by rcases (show j = 0 ∨ j = 1 ∨ j = 2 ∨ j = 3 ∨ j = 4 ∨ j = 5 ∨ j = 6 ∨ j = 7 ∨ j = 8 ∨ j = 9 by omega) with rfl | rfl | rfl | rfl | rfl | rfl | rfl | rfl | rfl | rfl <;> rfl) (Nat.le_of_ble_eq_true rfl) (Nat.le_of_ble_eq_true rfl) (fun q18 => ?_)
  refine J_dup (pc := 34) C 18 rfl rfl ?_
  refine J_callCN (pc := 35) C 19 rfl (c_X2_init (h0 := q18)) V_X2_init (List.mem_of_getElem? (i := 3) rfl) k23 rfl rfl ⟨Nat.le_of_ble_eq_true rfl, Nat.le_of_ble_eq_true rfl⟩ (Nat.le_of_ble_eq_true rfl) ⟨Nat.le_of_ble_eq_true rfl, Nat.le_of_ble_eq_true rfl⟩ 47 rfl [0, 1, 2, 3, 4, 5, 6, 7, 8, 9, 10, 11, 12, 13, 14, 15, 16, 17, 18, 19, 20, 21, 22, 23, 24, 25, 26, 27, 28, 29, 30, 31, 32, 33, 34, 35, 36, 37, 38, 39, 40, 41, 42, 43, 44, 45, 46] (wr := ([(h0, .inr (0, [.ref q1, .int (0 : Int32)])), (q1, .inl (G.2 3, 6, .inr (.inr (.inr (.inr (va_up (va_up (va_up (va_up (va_up (fun _ => none) 0 (some (u4 0))) 1 (some (u7 0))) 2 (some (u10 0))) 3 (some (u13 0))) 4 (some (u16 0))))))))] ++ (wSch G u4 (vi_X2 0) (vi_X2 1) (vi_X2 2) (vi_X2 3) (vi_X2 4) (vi_X2 5) (vi_X2 6) (vi_X2 7) (vi_X2 8 0) (vi_X2 9 0) ++ (wSch G u7 (vi_X2 0) (vi_X2 1) (vi_X2 2) (vi_X2 3) (vi_X2 4) (vi_X2 5) (vi_X2 6) (vi_X2 7) (vi_X2 8 0) (vi_X2 9 0) ++ (wSch G u10 (vi_X2 0) (vi_X2 1) (vi_X2 2) (vi_X2 3) (vi_X2 4) (vi_X2 5) (vi_X2 6) (vi_X2 7) (vi_X2 8 0) (vi_X2 9 0) ++ (wSch G u13 (vi_X2 0) (vi_X2 1) (vi_X2 2) (vi_X2 3) (vi_X2 4) (vi_X2 5) (vi_X2 6) (vi_X2 7) (vi_X2 8 0) (vi_X2 9 0) ++ (wSch G u16 (vi_X2 0) (vi_X2 1) (vi_X2 2) (vi_X2 3) (vi_X2 4) (vi_X2 5) (vi_X2 6) (vi_X2 7) (vi_X2 8 0) (vi_X2 9 0)))))) : va_W)) rfl (by decide +kernel) (by decide +kernel) (fun u19 hu => ?_)
  subst hu
  refine J_aast (pc := 38) (v := (u19 0)) (f := (va_up (va_up (va_up (va_up (va_up (fun _ => none) 0 (some (u4 0))) 1 (some (u7 0))) 2 (some (u10 0))) 3 (some (u13 0))) 4 (some (u16 0)))) (ws2 := ([(h0, .inr (0, [.ref q1, .int (0 : Int32)])), (q1, .inl (G.2 3, 6, .inr (.inr (.inr (.inr (va_up (va_up (va_up (va_up (va_up (va_up (fun _ => none) 0 (some (u4 0))) 1 (some (u7 0))) 2 (some (u10 0))) 3 (some (u13 0))) 4 (some (u16 0))) 5 (some (u19 0))))))))] ++ (wSch G u4 (vi_X2 0) (vi_X2 1) (vi_X2 2) (vi_X2 3) (vi_X2 4) (vi_X2 5) (vi_X2 6) (vi_X2 7) (vi_X2 8 0) (vi_X2 9 0) ++ (wSch G u7 (vi_X2 0) (vi_X2 1) (vi_X2 2) (vi_X2 3) (vi_X2 4) (vi_X2 5) (vi_X2 6) (vi_X2 7) (vi_X2 8 0) (vi_X2 9 0) ++ (wSch G u10 (vi_X2 0) (vi_X2 1) (vi_X2 2) (vi_X2 3) (vi_X2 4) (vi_X2 5) (vi_X2 6) (vi_X2 7) (vi_X2 8 0) (vi_X2 9 0) ++ (wSch G u13 (vi_X2 0) (vi_X2 1) (vi_X2 2) (vi_X2 3) (vi_X2 4) (vi_X2 5) (vi_X2 6) (vi_X2 7) (vi_X2 8 0) (vi_X2 9 0) ++ (wSch G u16 (vi_X2 0) (vi_X2 1) (vi_X2 2) (vi_X2 3) (vi_X2 4) (vi_X2 5) (vi_X2 6) (vi_X2 7) (vi_X2 8 0) (vi_X2 9 0) ++ (wSch G u19 (vi_X2 0) (vi_X2 1) (vi_X2 2) (vi_X2 3) (vi_X2 4) (vi_X2 5) (vi_X2 6) (vi_X2 7) (vi_X2 8 0) (vi_X2 9 0))))))) : va_W)) C 20 rfl 1 47 rfl rfl rfl rfl ?_
  refine J_iinc (pc := 39) (v := (6 : Int32)) (lv' := [(1, .int (6 : Int32)), (0, .ref h0)]) C 21 rfl 0 rfl rfl (by decide) rfl ?_
  refine J_goto (pc := 42) (tgt := 20) C 22 rfl rfl ?_
  refine J_iload_n (pc := 20) C 11 rfl 0 rfl rfl ?_
  refine J_bipush (pc := 21) (v := (6 : Int32)) C 12 rfl rfl ?_
  refine J_icmp_ge (pc := 23) (tgt := 45) C 13 rfl rfl (fun c20 => ?_) (fun c20 => absurd c20 (by decide))
  have h6 : ∀ i : Nat, i < 6 → (va_up (va_up (va_up (va_up (va_up (va_up (fun _ => none) 0 (some (u4 0))) 1 (some (u7 0))) 2 (some (u10 0))) 3 (some (u13 0))) 4 (some (u16 0))) 5 (some (u19 0))) i = some ((fun i => [u4, u7, u10, u13, u16, u19].getD i (fun _ => 0)) i 0) := by
    intro i hi
    rcases (show i = 0 ∨ i = 1 ∨ i = 2 ∨ i = 3 ∨ i = 4 ∨ i = 5 by omega) with rfl | rfl | rfl | rfl | rfl | rfl <;> rfl
  refine J_aeq (q0 := 1) (ws' := ([(h0, .inr (0, [.ref q1, .int (0 : Int32)])), (q1, .inl (G.2 3, 6, .inr (.inr (.inr (.inr (fun i => some ((fun i => [u4, u7, u10, u13, u16, u19].getD i (fun _ => 0)) i 0)))))))] ++ (wSch G u4 (vi_X2 0) (vi_X2 1) (vi_X2 2) (vi_X2 3) (vi_X2 4) (vi_X2 5) (vi_X2 6) (vi_X2 7) (vi_X2 8 0) (vi_X2 9 0) ++ (wSch G u7 (vi_X2 0) (vi_X2 1) (vi_X2 2) (vi_X2 3) (vi_X2 4) (vi_X2 5) (vi_X2 6) (vi_X2 7) (vi_X2 8 0) (vi_X2 9 0) ++ (wSch G u10 (vi_X2 0) (vi_X2 1) (vi_X2 2) (vi_X2 3) (vi_X2 4) (vi_X2 5) (vi_X2 6) (vi_X2 7) (vi_X2 8 0) (vi_X2 9 0) ++ (wSch G u13 (vi_X2 0) (vi_X2 1) (vi_X2 2) (vi_X2 3) (vi_X2 4) (vi_X2 5) (vi_X2 6) (vi_X2 7) (vi_X2 8 0) (vi_X2 9 0) ++ (wSch G u16 (vi_X2 0) (vi_X2 1) (vi_X2 2) (vi_X2 3) (vi_X2 4) (vi_X2 5) (vi_X2 6) (vi_X2 7) (vi_X2 8 0) (vi_X2 9 0) ++ (wSch G u19 (vi_X2 0) (vi_X2 1) (vi_X2 2) (vi_X2 3) (vi_X2 4) (vi_X2 5) (vi_X2 6) (vi_X2 7) (vi_X2 8 0) (vi_X2 9 0))))))) : va_W)) rfl h6 rfl ?_
  refine J_perm (ws' := (wHis G (fun i => [h0, q1].getD i 0) (fun i => [u4, u7, u10, u13, u16, u19].getD i (fun _ => 0)) (fun _ => vi_X2) 0)) [0, 1, 2, 3, 4, 5, 6, 7, 8, 9, 10, 11, 12, 13, 14, 15, 16, 17, 18, 19, 20, 21, 22, 23, 24, 25, 26, 27, 28, 29, 30, 31, 32, 33, 34, 35, 36, 37, 38, 39, 40, 41, 42, 43, 44, 45, 46, 47, 48, 49, 50, 51, 52, 53, 54, 55] (by decide +kernel) rfl ?_
  exact J_cret (pc := 45) C 23 ((fun i => [h0, q1].getD i 0), (fun i => [u4, u7, u10, u13, u16, u19].getD i (fun _ => 0))) rfl rfl
def T_X4_init : List (Nat × ClassFile.Instr × Nat) := [(0, .aload_n 0, 1), (1, .invokespecial 3, 3), (4, .aload_n 0, 1), (5, .new 9, 3), (8, .dup, 1), (9, .invokespecial 11, 3), (12, .putfield 12, 3), (15, .aload_n 0, 1), (16, .aload_n 0, 1), (17, .getfield 12, 3), (20, .getfield 16, 3), (23, .putfield 20, 3), (26, .aload_n 0, 1), (27, .new 9, 3), (30, .dup, 1), (31, .invokespecial 11, 3), (34, .putfield 21, 3), (37, .aload_n 0, 1), (38, .aload_n 0, 1), (39, .getfield 21, 3), (42, .getfield 16, 3), (45, .putfield 24, 3), (48, .aload_n 0, 1), (49, .new 27, 3), (52, .dup, 1), (53, .invokespecial 29, 3), (56, .putfield 30, 3), (59, .aload_n 0, 1), (60, .new 34, 3), (63, .dup, 1), (64, .invokespecial 36, 3), (67, .putfield 37, 3), (70, .aload_n 0, 1), (71, .iconst 2, 1), (72, .anewarray 41, 3), (75, .dup, 1), (76, .iconst 0, 1), (77, .new 41, 3), (80, .dup, 1), (81, .invokespecial 43, 3), (84, .aastore, 1), (85, .dup, 1), (86, .iconst 1, 1), (87, .new 41, 3), (90, .dup, 1), (91, .invokespecial 43, 3), (94, .aastore, 1), (95, .putfield 44, 3), (98, .aload_n 0, 1), (99, .iconst 2, 1), (100, .newarray .boolean, 2), (102, .putfield 48, 3), (105, .aload_n 0, 1), (106, .getfield 12, 3), (109, .invokevirtual 52, 3), (112, .return_, 1)]
theorem D_X4_init : ∀ q ∈ T_X4_init, decode cX4_init q.1 = .ok q.2 := by decide +kernel
theorem V_X4_init : Vy yX4_init cX4_init 1 none 0 := ⟨k261, k68, by decide +kernel⟩
set_option maxRecDepth 100000 in
set_option maxHeartbeats 4000000 in
theorem c_X4_init {l : Launch} {G : JG} {h0 : Nat} (vT0 : JV) (hv0 : f_X3_seatAll vi_X3 vi_X2 = some vT0) : JMC (U := Nat × (Nat → Nat) × (Nat → Nat) × (Nat → Nat) × (Nat → Nat) × (Nat → Nat) × (Nat → Nat) × (Nat → Nat → Nat) × Nat × (Nat → Nat → Nat) × Nat) l G yX4_init cX4_init 1 6 141 113 1844 h0 4 [.null, .null, .null, .null, .null, .null, .null, .null] (fun u => u.1 = h0) (fun u => wEx u.1 (u.2.1 0) (u.2.2.2.1 0) (u.2.2.1 0) (u.2.2.2.2.1 0) (u.2.2.2.2.2.1 0) (u.2.2.2.2.2.2.1 0) u.2.2.2.2.2.2.2.2.1 u.2.2.2.2.2.2.2.2.2.2 ++ (wSeat G u.2.1 (u.2.2.1 0) (vT0 1) (vT0 2) (vT0 3) (vT0 4 0) (vT0 5 0) (vT0 6) (vT0 7) (vT0 8) ++ (wSch G u.2.2.1 (vi_X2 0) (vi_X2 1) (vi_X2 2) (vi_X2 3) (vi_X2 4) (vi_X2 5) (vi_X2 6) (vi_X2 7) (vi_X2 8 0) (vi_X2 9 0) ++ (wSeat G u.2.2.2.1 (u.2.2.2.2.1 0) (vi_X3 1) (vi_X3 2) (vi_X3 3) (vi_X3 4 0) (vi_X3 5 0) (vi_X3 6) (vi_X3 7) (vi_X3 8) ++ (wSch G u.2.2.2.2.1 (vi_X2 0) (vi_X2 1) (vi_X2 2) (vi_X2 3) (vi_X2 4) (vi_X2 5) (vi_X2 6) (vi_X2 7) (vi_X2 8 0) (vi_X2 9 0) ++ (wPad G u.2.2.2.2.2.1 (vi_X1 0) (vi_X1 1 0) (vi_X1 2) (vi_X1 3) (vi_X1 4) (vi_X1 5 0) (vi_X1 6 0) (vi_X1 7 0) (vi_X1 8 0) (vi_X1 9 0) ++ (wHis G u.2.2.2.2.2.2.1 u.2.2.2.2.2.2.2.1 (fun _ => vi_X2) 0 ++ (wSlots G u.2.2.2.2.2.2.2.2.1 u.2.2.2.2.2.2.2.2.2.1 (fun _ => vi_X2) ++ wUsed G u.2.2.2.2.2.2.2.2.2.2 (fun _ => 0))))))))) := by
  refine JMC.of (own := RX4) (tb := T_X4_init) (by decide) (Nat.le_of_ble_eq_true rfl) D_X4_init rfl rfl (fun X C hin => ?_)
  refine J_aload_n (pc := 0) C 0 rfl 0 rfl rfl ?_
  refine J_oinit (pc := 1) C 1 rfl k237 (by decide) (Nat.le_of_ble_eq_true rfl) ?_
  refine J_aload_n (pc := 4) C 2 rfl 0 rfl rfl ?_
  refine J_new (pc := 5) (fs := [.null, .null, .null, .null, .int 0, .int 0, .null, .null, .null]) (ci := 3) C 3 rfl TB_l3 tyX3 tyX3_ok k238 k239 k183 rfl (fun j hj => by rcases (show j = 0 ∨ j = 1 ∨ j = 2 ∨ j = 3 ∨ j = 4 ∨ j = 5 ∨ j = 6 ∨ j = 7 ∨ j = 8 by omega) with rfl | rfl | rfl | rfl | rfl | rfl | rfl | rfl | rfl <;> rfl) (Nat.le_of_ble_eq_true rfl) (Nat.le_of_ble_eq_true rfl) (fun q1 => ?_)
  refine J_dup (pc := 8) C 4 rfl rfl ?_
  refine J_callCN (pc := 9) C 5 rfl (c_X3_init (h0 := q1)) V_X3_init (List.mem_of_getElem? (i := 0) rfl) k254 rfl rfl ⟨Nat.le_of_ble_eq_true rfl, Nat.le_of_ble_eq_true rfl⟩ (Nat.le_of_ble_eq_true rfl) ⟨Nat.le_of_ble_eq_true rfl, Nat.le_of_ble_eq_true rfl⟩ 1 rfl [0] (wr := ([(h0, .inr (4, [.null, .null, .null, .null, .null, .null, .null, .null]))] : va_W)) rfl (by decide +kernel) (by decide +kernel) (fun u2 hu => ?_)
  subst hu
  refine J_putF (pc := 12) (ws2 := ([(h0, .inr (4, [.ref (u2.1 0), .null, .null, .null, .null, .null, .null, .null]))] ++ ((wSeat G u2.1 (u2.2 0) (vi_X3 1) (vi_X3 2) (vi_X3 3) (vi_X3 4 0) (vi_X3 5 0) (vi_X3 6) (vi_X3 7) (vi_X3 8) ++ wSch G u2.2 (vi_X2 0) (vi_X2 1) (vi_X2 2) (vi_X2 3) (vi_X2 4) (vi_X2 5) (vi_X2 6) (vi_X2 7) (vi_X2 8 0) (vi_X2 9 0))) : va_W)) C 6 hin rfl TB_l4 tyX4 tyX4_ok nmX4 rfl 0 0 rfl (by decide) k240 rfl rfl rfl rfl rfl rfl (Nat.le_of_ble_eq_true rfl) rfl ?_
  refine J_aload_n (pc := 15) C 7 rfl 0 rfl rfl ?_
  refine J_aload_n (pc := 16) C 8 rfl 0 rfl rfl ?_
  refine J_get (pc := 17) (v := .ref (u2.1 0)) C 9 rfl TB_l4 rfl 0 0 rfl (by decide) k240 rfl rfl ?_
  refine J_get (pc := 20) (v := .ref (u2.2 0)) C 10 rfl TB_l3 rfl 1 0 rfl (by decide) k241 rfl rfl ?_
  refine J_putF (pc := 23) (ws2 := ([(h0, .inr (4, [.ref (u2.1 0), .ref (u2.2 0), .null, .null, .null, .null, .null, .null]))] ++ ((wSeat G u2.1 (u2.2 0) (vi_X3 1) (vi_X3 2) (vi_X3 3) (vi_X3 4 0) (vi_X3 5 0) (vi_X3 6) (vi_X3 7) (vi_X3 8) ++ wSch G u2.2 (vi_X2 0) (vi_X2 1) (vi_X2 2) (vi_X2 3) (vi_X2 4) (vi_X2 5) (vi_X2 6) (vi_X2 7) (vi_X2 8 0) (vi_X2 9 0))) : va_W)) C 11 hin rfl TB_l4 tyX4 tyX4_ok nmX4 rfl 0 1 rfl (by decide) k242 rfl rfl rfl rfl rfl rfl (Nat.le_of_ble_eq_true rfl) rfl ?_
  refine J_aload_n (pc := 26) C 12 rfl 0 rfl rfl ?_
  refine J_new (pc := 27) (fs := [.null, .null, .null, .null, .int 0, .int 0, .null, .null, .null]) (ci := 3) C 13 rfl TB_l3 tyX3 tyX3_ok k238 k239 k183 rfl (fun j hj => by rcases (show j = 0 ∨ j = 1 ∨ j = 2 ∨ j = 3 ∨ j = 4 ∨ j = 5 ∨ j = 6 ∨ j = 7 ∨ j = 8 by omega) with rfl | rfl | rfl | rfl | rfl | rfl | rfl | rfl | rfl <;> rfl) (Nat.le_of_ble_eq_true rfl) (Nat.le_of_ble_eq_true rfl) (fun q3 => ?_)
  refine J_dup (pc := 30) C 14 rfl rfl ?_
  refine J_callCN (pc := 31) C 15 rfl (c_X3_init (h0 := q3)) V_X3_init (List.mem_of_getElem? (i := 0) rfl) k254 rfl rfl ⟨Nat.le_of_ble_eq_true rfl, Nat.le_of_ble_eq_true rfl⟩ (Nat.le_of_ble_eq_true rfl) ⟨Nat.le_of_ble_eq_true rfl, Nat.le_of_ble_eq_true rfl⟩ 17 rfl [0, 1, 2, 3, 4, 5, 6, 7, 8, 9, 10, 11, 12, 13, 14, 15, 16] (wr := ([(h0, .inr (4, [.ref (u2.1 0), .ref (u2.2 0), .null, .null, .null, .null, .null, .null]))] ++ ((wSeat G u2.1 (u2.2 0) (vi_X3 1) (vi_X3 2) (vi_X3 3) (vi_X3 4 0) (vi_X3 5 0) (vi_X3 6) (vi_X3 7) (vi_X3 8) ++ wSch G u2.2 (vi_X2 0) (vi_X2 1) (vi_X2 2) (vi_X2 3) (vi_X2 4) (vi_X2 5) (vi_X2 6) (vi_X2 7) (vi_X2 8 0) (vi_X2 9 0))) : va_W)) rfl (by decide +kernel) (by decide +kernel) (fun u4 hu => ?_)
  subst hu
  refine J_putF (pc := 34) (ws2 := ([(h0, .inr (4, [.ref (u2.1 0), .ref (u2.2 0), .ref (u4.1 0), .null, .null, .null, .null, .null]))] ++ ((wSeat G u2.1 (u2.2 0) (vi_X3 1) (vi_X3 2) (vi_X3 3) (vi_X3 4 0) (vi_X3 5 0) (vi_X3 6) (vi_X3 7) (vi_X3 8) ++ wSch G u2.2 (vi_X2 0) (vi_X2 1) (vi_X2 2) (vi_X2 3) (vi_X2 4) (vi_X2 5) (vi_X2 6) (vi_X2 7) (vi_X2 8 0) (vi_X2 9 0)) ++ ((wSeat G u4.1 (u4.2 0) (vi_X3 1) (vi_X3 2) (vi_X3 3) (vi_X3 4 0) (vi_X3 5 0) (vi_X3 6) (vi_X3 7) (vi_X3 8) ++ wSch G u4.2 (vi_X2 0) (vi_X2 1) (vi_X2 2) (vi_X2 3) (vi_X2 4) (vi_X2 5) (vi_X2 6) (vi_X2 7) (vi_X2 8 0) (vi_X2 9 0)))) : va_W)) C 16 hin rfl TB_l4 tyX4 tyX4_ok nmX4 rfl 0 2 rfl (by decide) k243 rfl rfl rfl rfl rfl rfl (Nat.le_of_ble_eq_true rfl) rfl ?_
  refine J_aload_n (pc := 37) C 17 rfl 0 rfl rfl ?_
  refine J_aload_n (pc := 38) C 18 rfl 0 rfl rfl ?_
  refine J_get (pc := 39) (v := .ref (u4.1 0)) C 19 rfl TB_l4 rfl 0 2 rfl (by decide) k243 rfl rfl ?_
  refine J_get (pc := 42) (v := .ref (u4.2 0)) C 20 rfl TB_l3 rfl 17 0 rfl (by decide) k241 rfl rfl ?_
  refine J_putF (pc := 45) (ws2 := ([(h0, .inr (4, [.ref (u2.1 0), .ref (u2.2 0), .ref (u4.1 0), .ref (u4.2 0), .null, .null, .null, .null]))] ++ ((wSeat G u2.1 (u2.2 0) (vi_X3 1) (vi_X3 2) (vi_X3 3) (vi_X3 4 0) (vi_X3 5 0) (vi_X3 6) (vi_X3 7) (vi_X3 8) ++ wSch G u2.2 (vi_X2 0) (vi_X2 1) (vi_X2 2) (vi_X2 3) (vi_X2 4) (vi_X2 5) (vi_X2 6) (vi_X2 7) (vi_X2 8 0) (vi_X2 9 0)) ++ ((wSeat G u4.1 (u4.2 0) (vi_X3 1) (vi_X3 2) (vi_X3 3) (vi_X3 4 0) (vi_X3 5 0) (vi_X3 6) (vi_X3 7) (vi_X3 8) ++ wSch G u4.2 (vi_X2 0) (vi_X2 1) (vi_X2 2) (vi_X2 3) (vi_X2 4) (vi_X2 5) (vi_X2 6) (vi_X2 7) (vi_X2 8 0) (vi_X2 9 0)))) : va_W)) C 21 hin rfl TB_l4 tyX4 tyX4_ok nmX4 rfl 0 3 rfl (by decide) k244 rfl rfl rfl rfl rfl rfl (Nat.le_of_ble_eq_true rfl) rfl ?_
  refine J_aload_n (pc := 48) C 22 rfl 0 rfl rfl ?_
  refine J_new (pc := 49) (fs := [.null, .int 0, .null, .null, .null, .int 0, .int 0, .int 0, .int 0, .int 0]) (ci := 1) C 23 rfl TB_l1 tyX1 tyX1_ok k245 k246 k56 rfl (fun j hj => by rcases (show j = 0 ∨ j = 1 ∨ j = 2 ∨ j = 3 ∨ j = 4 ∨ j = 5 ∨ j = 6 ∨ j = 7 ∨ j = 8 ∨ j = 9 by omega) with rfl | rfl | rfl | rfl | rfl | rfl | rfl | rfl | rfl | rfl <;> rfl) (Nat.le_of_ble_eq_true rfl) (Nat.le_of_ble_eq_true rfl) (fun q5 => ?_)
  refine J_dup (pc := 52) C 24 rfl rfl ?_
  refine J_callCN (pc := 53) C 25 rfl (c_X1_init (h0 := q5)) V_X1_init (List.mem_of_getElem? (i := 2) rfl) k255 rfl rfl ⟨Nat.le_of_ble_eq_true rfl, Nat.le_of_ble_eq_true rfl⟩ (Nat.le_of_ble_eq_true rfl) ⟨Nat.le_of_ble_eq_true rfl, Nat.le_of_ble_eq_true rfl⟩ 33 rfl [0, 1, 2, 3, 4, 5, 6, 7, 8, 9, 10, 11, 12, 13, 14, 15, 16, 17, 18, 19, 20, 21, 22, 23, 24, 25, 26, 27, 28, 29, 30, 31, 32] (wr := ([(h0, .inr (4, [.ref (u2.1 0), .ref (u2.2 0), .ref (u4.1 0), .ref (u4.2 0), .null, .null, .null, .null]))] ++ ((wSeat G u2.1 (u2.2 0) (vi_X3 1) (vi_X3 2) (vi_X3 3) (vi_X3 4 0) (vi_X3 5 0) (vi_X3 6) (vi_X3 7) (vi_X3 8) ++ wSch G u2.2 (vi_X2 0) (vi_X2 1) (vi_X2 2) (vi_X2 3) (vi_X2 4) (vi_X2 5) (vi_X2 6) (vi_X2 7) (vi_X2 8 0) (vi_X2 9 0)) ++ ((wSeat G u4.1 (u4.2 0) (vi_X3 1) (vi_X3 2) (vi_X3 3) (vi_X3 4 0) (vi_X3 5 0) (vi_X3 6) (vi_X3 7) (vi_X3 8) ++ wSch G u4.2 (vi_X2 0) (vi_X2 1) (vi_X2 2) (vi_X2 3) (vi_X2 4) (vi_X2 5) (vi_X2 6) (vi_X2 7) (vi_X2 8 0) (vi_X2 9 0)))) : va_W)) rfl (by decide +kernel) (by decide +kernel) (fun u6 hu => ?_)
  subst hu
  refine J_putF (pc := 56) (ws2 := ([(h0, .inr (4, [.ref (u2.1 0), .ref (u2.2 0), .ref (u4.1 0), .ref (u4.2 0), .ref (u6 0), .null, .null, .null]))] ++ ((wSeat G u2.1 (u2.2 0) (vi_X3 1) (vi_X3 2) (vi_X3 3) (vi_X3 4 0) (vi_X3 5 0) (vi_X3 6) (vi_X3 7) (vi_X3 8) ++ wSch G u2.2 (vi_X2 0) (vi_X2 1) (vi_X2 2) (vi_X2 3) (vi_X2 4) (vi_X2 5) (vi_X2 6) (vi_X2 7) (vi_X2 8 0) (vi_X2 9 0)) ++ ((wSeat G u4.1 (u4.2 0) (vi_X3 1) (vi_X3 2) (vi_X3 3) (vi_X3 4 0) (vi_X3 5 0) (vi_X3 6) (vi_X3 7) (vi_X3 8) ++ wSch G u4.2 (vi_X2 0) (vi_X2 1) (vi_X2 2) (vi_X2 3) (vi_X2 4) (vi_X2 5) (vi_X2 6) (vi_X2 7) (vi_X2 8 0) (vi_X2 9 0)) ++ (wPad G u6 (vi_X1 0) (vi_X1 1 0) (vi_X1 2) (vi_X1 3) (vi_X1 4) (vi_X1 5 0) (vi_X1 6 0) (vi_X1 7 0) (vi_X1 8 0) (vi_X1 9 0)))) : va_W)) C 26 hin rfl TB_l4 tyX4 tyX4_ok nmX4 rfl 0 4 rfl (by decide) k247 rfl rfl rfl rfl rfl rfl (Nat.le_of_ble_eq_true rfl) rfl ?_
  refine J_aload_n (pc := 59) C 27 rfl 0 rfl rfl ?_
  refine J_new (pc := 60) (fs := [.null, .int 0]) (ci := 0) C 28 rfl TB_l0 tyX0 tyX0_ok k248 k249 k30 rfl (fun j hj => by rcases (show j = 0 ∨ j = 1 by omega) with rfl | rfl <;> rfl) (Nat.le_of_ble_eq_true rfl) (Nat.le_of_ble_eq_true rfl) (fun q7 => ?_)
  refine J_dup (pc := 63) C 29 rfl rfl ?_
  refine J_callC (pc := 64) C 30 rfl (c_X0_init (h0 := q7)) V_X0_init k256 k257 rfl rfl ⟨Nat.le_of_ble_eq_true rfl, Nat.le_of_ble_eq_true rfl⟩ (Nat.le_of_ble_eq_true rfl) ⟨Nat.le_of_ble_eq_true rfl, Nat.le_of_ble_eq_true rfl⟩ 38 rfl [0, 1, 2, 3, 4, 5, 6, 7, 8, 9, 10, 11, 12, 13, 14, 15, 16, 17, 18, 19, 20, 21, 22, 23, 24, 25, 26, 27, 28, 29, 30, 31, 32, 33, 34, 35, 36, 37] (wr := ([(h0, .inr (4, [.ref (u2.1 0), .ref (u2.2 0), .ref (u4.1 0), .ref (u4.2 0), .ref (u6 0), .null, .null, .null]))] ++ ((wSeat G u2.1 (u2.2 0) (vi_X3 1) (vi_X3 2) (vi_X3 3) (vi_X3 4 0) (vi_X3 5 0) (vi_X3 6) (vi_X3 7) (vi_X3 8) ++ wSch G u2.2 (vi_X2 0) (vi_X2 1) (vi_X2 2) (vi_X2 3) (vi_X2 4) (vi_X2 5) (vi_X2 6) (vi_X2 7) (vi_X2 8 0) (vi_X2 9 0)) ++ ((wSeat G u4.1 (u4.2 0) (vi_X3 1) (vi_X3 2) (vi_X3 3) (vi_X3 4 0) (vi_X3 5 0) (vi_X3 6) (vi_X3 7) (vi_X3 8) ++ wSch G u4.2 (vi_X2 0) (vi_X2 1) (vi_X2 2) (vi_X2 3) (vi_X2 4) (vi_X2 5) (vi_X2 6) (vi_X2 7) (vi_X2 8 0) (vi_X2 9 0)) ++ (wPad G u6 (vi_X1 0) (vi_X1 1 0) (vi_X1 2) (vi_X1 3) (vi_X1 4) (vi_X1 5 0) (vi_X1 6 0) (vi_X1 7 0) (vi_X1 8 0) (vi_X1 9 0)))) : va_W)) rfl (by decide +kernel) (by decide +kernel) (fun u8 hu => ?_)
  subst hu
  refine J_putF (pc := 67) (ws2 := ([(h0, .inr (4, [.ref (u2.1 0), .ref (u2.2 0), .ref (u4.1 0), .ref (u4.2 0), .ref (u6 0), .ref (u8.1 0), .null, .null]))] ++ ((wSeat G u2.1 (u2.2 0) (vi_X3 1) (vi_X3 2) (vi_X3 3) (vi_X3 4 0) (vi_X3 5 0) (vi_X3 6) (vi_X3 7) (vi_X3 8) ++ wSch G u2.2 (vi_X2 0) (vi_X2 1) (vi_X2 2) (vi_X2 3) (vi_X2 4) (vi_X2 5) (vi_X2 6) (vi_X2 7) (vi_X2 8 0) (vi_X2 9 0)) ++ ((wSeat G u4.1 (u4.2 0) (vi_X3 1) (vi_X3 2) (vi_X3 3) (vi_X3 4 0) (vi_X3 5 0) (vi_X3 6) (vi_X3 7) (vi_X3 8) ++ wSch G u4.2 (vi_X2 0) (vi_X2 1) (vi_X2 2) (vi_X2 3) (vi_X2 4) (vi_X2 5) (vi_X2 6) (vi_X2 7) (vi_X2 8 0) (vi_X2 9 0)) ++ (wPad G u6 (vi_X1 0) (vi_X1 1 0) (vi_X1 2) (vi_X1 3) (vi_X1 4) (vi_X1 5 0) (vi_X1 6 0) (vi_X1 7 0) (vi_X1 8 0) (vi_X1 9 0) ++ ((wHis G u8.1 u8.2 (fun _ => vi_X2) 0))))) : va_W)) C 31 hin rfl TB_l4 tyX4 tyX4_ok nmX4 rfl 0 5 rfl (by decide) k250 rfl rfl rfl rfl rfl rfl (Nat.le_of_ble_eq_true rfl) rfl ?_
  refine J_aload_n (pc := 70) C 32 rfl 0 rfl rfl ?_
  refine J_iconst (pc := 71) (v := (2 : Int32)) C 33 rfl rfl ?_
  refine J_anew (pc := 72) (N := 2) C 34 rfl k251 (by decide) rfl (Nat.le_of_ble_eq_true rfl) (Nat.le_of_ble_eq_true rfl) (Nat.le_of_ble_eq_true rfl) (fun q9 => ?_)
  refine J_dup (pc := 75) C 35 rfl rfl ?_
  refine J_iconst (pc := 76) (v := (0 : Int32)) C 36 rfl rfl ?_
  refine J_new (pc := 77) (fs := [.null, .null, .null, .null, .null, .null, .null, .null, .int 0, .int 0]) (ci := 2) C 37 rfl TB_l2 tyX2 tyX2_ok k251 k21 k22 rfl (fun j hj => by rcases (show j = 0 ∨ j = 1 ∨ j = 2 ∨ j = 3 ∨ j = 4 ∨ j = 5 ∨ j = 6 ∨ j = 7 ∨ j = 8 ∨ j = 9 by omega) with rfl | rfl | rfl | rfl | rfl | rfl | rfl | rfl | rfl | rfl <;> rfl) (Nat.le_of_ble_eq_true rfl) (Nat.le_of_ble_eq_true rfl) (fun q10 => ?_)
  refine J_dup (pc := 80) C 38 rfl rfl ?_
  refine J_callCN (pc := 81) C 39 rfl (c_X2_init (h0 := q10)) V_X2_init (List.mem_of_getElem? (i := 4) rfl) k23 rfl rfl ⟨Nat.le_of_ble_eq_true rfl, Nat.le_of_ble_eq_true rfl⟩ (Nat.le_of_ble_eq_true rfl) ⟨Nat.le_of_ble_eq_true rfl, Nat.le_of_ble_eq_true rfl⟩ 95 rfl [0, 1, 2, 3, 4, 5, 6, 7, 8, 9, 10, 11, 12, 13, 14, 15, 16, 17, 18, 19, 20, 21, 22, 23, 24, 25, 26, 27, 28, 29, 30, 31, 32, 33, 34, 35, 36, 37, 38, 39, 40, 41, 42, 43, 44, 45, 46, 47, 48, 49, 50, 51, 52, 53, 54, 55, 56, 57, 58, 59, 60, 61, 62, 63, 64, 65, 66, 67, 68, 69, 70, 71, 72, 73, 74, 75, 76, 77, 78, 79, 80, 81, 82, 83, 84, 85, 86, 87, 88, 89, 90, 91, 92, 93, 94] (wr := ([(h0, .inr (4, [.ref (u2.1 0), .ref (u2.2 0), .ref (u4.1 0), .ref (u4.2 0), .ref (u6 0), .ref (u8.1 0), .null, .null]))] ++ ((wSeat G u2.1 (u2.2 0) (vi_X3 1) (vi_X3 2) (vi_X3 3) (vi_X3 4 0) (vi_X3 5 0) (vi_X3 6) (vi_X3 7) (vi_X3 8) ++ wSch G u2.2 (vi_X2 0) (vi_X2 1) (vi_X2 2) (vi_X2 3) (vi_X2 4) (vi_X2 5) (vi_X2 6) (vi_X2 7) (vi_X2 8 0) (vi_X2 9 0)) ++ ((wSeat G u4.1 (u4.2 0) (vi_X3 1) (vi_X3 2) (vi_X3 3) (vi_X3 4 0) (vi_X3 5 0) (vi_X3 6) (vi_X3 7) (vi_X3 8) ++ wSch G u4.2 (vi_X2 0) (vi_X2 1) (vi_X2 2) (vi_X2 3) (vi_X2 4) (vi_X2 5) (vi_X2 6) (vi_X2 7) (vi_X2 8 0) (vi_X2 9 0)) ++ (wPad G u6 (vi_X1 0) (vi_X1 1 0) (vi_X1 2) (vi_X1 3) (vi_X1 4) (vi_X1 5 0) (vi_X1 6 0) (vi_X1 7 0) (vi_X1 8 0) (vi_X1 9 0) ++ ((wHis G u8.1 u8.2 (fun _ => vi_X2) 0) ++ ([(q9, .inl (G.2 3, 2, .inr (.inr (.inr (.inr (fun _ => none))))))]))))) : va_W)) rfl (by decide +kernel) (by decide +kernel) (fun u11 hu => ?_)
  subst hu
  refine J_aast (pc := 84) (v := (u11 0)) (f := (fun _ => none)) (ws2 := ([(h0, .inr (4, [.ref (u2.1 0), .ref (u2.2 0), .ref (u4.1 0), .ref (u4.2 0), .ref (u6 0), .ref (u8.1 0), .null, .null]))] ++ ((wSeat G u2.1 (u2.2 0) (vi_X3 1) (vi_X3 2) (vi_X3 3) (vi_X3 4 0) (vi_X3 5 0) (vi_X3 6) (vi_X3 7) (vi_X3 8) ++ wSch G u2.2 (vi_X2 0) (vi_X2 1) (vi_X2 2) (vi_X2 3) (vi_X2 4) (vi_X2 5) (vi_X2 6) (vi_X2 7) (vi_X2 8 0) (vi_X2 9 0)) ++ ((wSeat G u4.1 (u4.2 0) (vi_X3 1) (vi_X3 2) (vi_X3 3) (vi_X3 4 0) (vi_X3 5 0) (vi_X3 6) (vi_X3 7) (vi_X3 8) ++ wSch G u4.2 (vi_X2 0) (vi_X2 1) (vi_X2 2) (vi_X2 3) (vi_X2 4) (vi_X2 5) (vi_X2 6) (vi_X2 7) (vi_X2 8 0) (vi_X2 9 0)) ++ (wPad G u6 (vi_X1 0) (vi_X1 1 0) (vi_X1 2) (vi_X1 3) (vi_X1 4) (vi_X1 5 0) (vi_X1 6 0) (vi_X1 7 0) (vi_X1 8 0) (vi_X1 9 0) ++ ((wHis G u8.1 u8.2 (fun _ => vi_X2) 0) ++ ([(q9, .inl (G.2 3, 2, .inr (.inr (.inr (.inr (va_up (fun _ => none) 0 (some (u11 0))))))))] ++ (wSch G u11 (vi_X2 0) (vi_X2 1) (vi_X2 2) (vi_X2 3) (vi_X2 4) (vi_X2 5) (vi_X2 6) (vi_X2 7) (vi_X2 8 0) (vi_X2 9 0))))))) : va_W)) C 40 rfl 94 95 rfl rfl rfl rfl ?_
  refine J_dup (pc := 85) C 41 rfl rfl ?_
  refine J_iconst (pc := 86) (v := (1 : Int32)) C 42 rfl rfl ?_
  refine J_new (pc := 87) (fs := [.null, .null, .null, .null, .null, .null, .null, .null, .int 0, .int 0]) (ci := 2) C 43 rfl TB_l2 tyX2 tyX2_ok k251 k21 k22 rfl (fun j hj => by rcases (show j = 0 ∨ j = 1 ∨ j = 2 ∨ j = 3 ∨ j = 4 ∨ j = 5 ∨ j = 6 ∨ j = 7 ∨ j = 8 ∨ j = 9 by omega) with rfl | rfl | rfl | rfl | rfl | rfl | rfl | rfl | rfl | rfl <;> rfl) (Nat.le_of_ble_eq_true rfl) (Nat.le_of_ble_eq_true rfl) (fun q12 => ?_)
  refine J_dup (pc := 90) C 44 rfl rfl ?_
  refine J_callCN (pc := 91) C 45 rfl (c_X2_init (h0 := q12)) V_X2_init (List.mem_of_getElem? (i := 4) rfl) k23 rfl rfl ⟨Nat.le_of_ble_eq_true rfl, Nat.le_of_ble_eq_true rfl⟩ (Nat.le_of_ble_eq_true rfl) ⟨Nat.le_of_ble_eq_true rfl, Nat.le_of_ble_eq_true rfl⟩ 104 rfl [0, 1, 2, 3, 4, 5, 6, 7, 8, 9, 10, 11, 12, 13, 14, 15, 16, 17, 18, 19, 20, 21, 22, 23, 24, 25, 26, 27, 28, 29, 30, 31, 32, 33, 34, 35, 36, 37, 38, 39, 40, 41, 42, 43, 44, 45, 46, 47, 48, 49, 50, 51, 52, 53, 54, 55, 56, 57, 58, 59, 60, 61, 62, 63, 64, 65, 66, 67, 68, 69, 70, 71, 72, 73, 74, 75, 76, 77, 78, 79, 80, 81, 82, 83, 84, 85, 86, 87, 88, 89, 90, 91, 92, 93, 94, 95, 96, 97, 98, 99, 100, 101, 102, 103] (wr := ([(h0, .inr (4, [.ref (u2.1 0), .ref (u2.2 0), .ref (u4.1 0), .ref (u4.2 0), .ref (u6 0), .ref (u8.1 0), .null, .null]))] ++ ((wSeat G u2.1 (u2.2 0) (vi_X3 1) (vi_X3 2) (vi_X3 3) (vi_X3 4 0) (vi_X3 5 0) (vi_X3 6) (vi_X3 7) (vi_X3 8) ++ wSch G u2.2 (vi_X2 0) (vi_X2 1) (vi_X2 2) (vi_X2 3) (vi_X2 4) (vi_X2 5) (vi_X2 6) (vi_X2 7) (vi_X2 8 0) (vi_X2 9 0)) ++ ((wSeat G u4.1 (u4.2 0) (vi_X3 1) (vi_X3 2) (vi_X3 3) (vi_X3 4 0) (vi_X3 5 0) (vi_X3 6) (vi_X3 7) (vi_X3 8) ++ wSch G u4.2 (vi_X2 0) (vi_X2 1) (vi_X2 2) (vi_X2 3) (vi_X2 4) (vi_X2 5) (vi_X2 6) (vi_X2 7) (vi_X2 8 0) (vi_X2 9 0)) ++ (wPad G u6 (vi_X1 0) (vi_X1 1 0) (vi_X1 2) (vi_X1 3) (vi_X1 4) (vi_X1 5 0) (vi_X1 6 0) (vi_X1 7 0) (vi_X1 8 0) (vi_X1 9 0) ++ ((wHis G u8.1 u8.2 (fun _ => vi_X2) 0) ++ ([(q9, .inl (G.2 3, 2, .inr (.inr (.inr (.inr (va_up (fun _ => none) 0 (some (u11 0))))))))] ++ (wSch G u11 (vi_X2 0) (vi_X2 1) (vi_X2 2) (vi_X2 3) (vi_X2 4) (vi_X2 5) (vi_X2 6) (vi_X2 7) (vi_X2 8 0) (vi_X2 9 0))))))) : va_W)) rfl (by decide +kernel) (by decide +kernel) (fun u13 hu => ?_)
  subst hu
  refine J_aast (pc := 94) (v := (u13 0)) (f := (va_up (fun _ => none) 0 (some (u11 0)))) (ws2 := ([(h0, .inr (4, [.ref (u2.1 0), .ref (u2.2 0), .ref (u4.1 0), .ref (u4.2 0), .ref (u6 0), .ref (u8.1 0), .null, .null]))] ++ ((wSeat G u2.1 (u2.2 0) (vi_X3 1) (vi_X3 2) (vi_X3 3) (vi_X3 4 0) (vi_X3 5 0) (vi_X3 6) (vi_X3 7) (vi_X3 8) ++ wSch G u2.2 (vi_X2 0) (vi_X2 1) (vi_X2 2) (vi_X2 3) (vi_X2 4) (vi_X2 5) (vi_X2 6) (vi_X2 7) (vi_X2 8 0) (vi_X2 9 0)) ++ ((wSeat G u4.1 (u4.2 0) (vi_X3 1) (vi_X3 2) (vi_X3 3) (vi_X3 4 0) (vi_X3 5 0) (vi_X3 6) (vi_X3 7) (vi_X3 8) ++ wSch G u4.2 (vi_X2 0) (vi_X2 1) (vi_X2 2) (vi_X2 3) (vi_X2 4) (vi_X2 5) (vi_X2 6) (vi_X2 7) (vi_X2 8 0) (vi_X2 9 0)) ++ (wPad G u6 (vi_X1 0) (vi_X1 1 0) (vi_X1 2) (vi_X1 3) (vi_X1 4) (vi_X1 5 0) (vi_X1 6 0) (vi_X1 7 0) (vi_X1 8 0) (vi_X1 9 0) ++ ((wHis G u8.1 u8.2 (fun _ => vi_X2) 0) ++ ([(q9, .inl (G.2 3, 2, .inr (.inr (.inr (.inr (va_up (va_up (fun _ => none) 0 (some (u11 0))) 1 (some (u13 0))))))))] ++ (wSch G u11 (vi_X2 0) (vi_X2 1) (vi_X2 2) (vi_X2 3) (vi_X2 4) (vi_X2 5) (vi_X2 6) (vi_X2 7) (vi_X2 8 0) (vi_X2 9 0) ++ (wSch G u13 (vi_X2 0) (vi_X2 1) (vi_X2 2) (vi_X2 3) (vi_X2 4) (vi_X2 5) (vi_X2 6) (vi_X2 7) (vi_X2 8 0) (vi_X2 9 0)))))))) : va_W)) C 46 rfl 94 104 rfl rfl rfl rfl ?_
  refine J_putF (pc := 95) (ws2 := ([(h0, .inr (4, [.ref (u2.1 0), .ref (u2.2 0), .ref (u4.1 0), .ref (u4.2 0), .ref (u6 0), .ref (u8.1 0), .ref q9, .null]))] ++ ((wSeat G u2.1 (u2.2 0) (vi_X3 1) (vi_X3 2) (vi_X3 3) (vi_X3 4 0) (vi_X3 5 0) (vi_X3 6) (vi_X3 7) (vi_X3 8) ++ wSch G u2.2 (vi_X2 0) (vi_X2 1) (vi_X2 2) (vi_X2 3) (vi_X2 4) (vi_X2 5) (vi_X2 6) (vi_X2 7) (vi_X2 8 0) (vi_X2 9 0)) ++ ((wSeat G u4.1 (u4.2 0) (vi_X3 1) (vi_X3 2) (vi_X3 3) (vi_X3 4 0) (vi_X3 5 0) (vi_X3 6) (vi_X3 7) (vi_X3 8) ++ wSch G u4.2 (vi_X2 0) (vi_X2 1) (vi_X2 2) (vi_X2 3) (vi_X2 4) (vi_X2 5) (vi_X2 6) (vi_X2 7) (vi_X2 8 0) (vi_X2 9 0)) ++ (wPad G u6 (vi_X1 0) (vi_X1 1 0) (vi_X1 2) (vi_X1 3) (vi_X1 4) (vi_X1 5 0) (vi_X1 6 0) (vi_X1 7 0) (vi_X1 8 0) (vi_X1 9 0) ++ ((wHis G u8.1 u8.2 (fun _ => vi_X2) 0) ++ ([(q9, .inl (G.2 3, 2, .inr (.inr (.inr (.inr (va_up (va_up (fun _ => none) 0 (some (u11 0))) 1 (some (u13 0))))))))] ++ (wSch G u11 (vi_X2 0) (vi_X2 1) (vi_X2 2) (vi_X2 3) (vi_X2 4) (vi_X2 5) (vi_X2 6) (vi_X2 7) (vi_X2 8 0) (vi_X2 9 0) ++ (wSch G u13 (vi_X2 0) (vi_X2 1) (vi_X2 2) (vi_X2 3) (vi_X2 4) (vi_X2 5) (vi_X2 6) (vi_X2 7) (vi_X2 8 0) (vi_X2 9 0)))))))) : va_W)) C 47 hin rfl TB_l4 tyX4 tyX4_ok nmX4 rfl 0 6 rfl (by decide) k252 rfl rfl rfl rfl rfl rfl (Nat.le_of_ble_eq_true rfl) rfl ?_
  refine J_aload_n (pc := 98) C 48 rfl 0 rfl rfl ?_
  refine J_iconst (pc := 99) (v := (2 : Int32)) C 49 rfl rfl ?_
  refine J_newaZ (pc := 100) (N := 2) C 50 rfl k10 (by decide) rfl (Nat.le_of_ble_eq_true rfl) (Nat.le_of_ble_eq_true rfl) (Nat.le_of_ble_eq_true rfl) (fun q14 => ?_)
  refine J_putF (pc := 102) (ws2 := ([(h0, .inr (4, [.ref (u2.1 0), .ref (u2.2 0), .ref (u4.1 0), .ref (u4.2 0), .ref (u6 0), .ref (u8.1 0), .ref q9, .ref q14]))] ++ ((wSeat G u2.1 (u2.2 0) (vi_X3 1) (vi_X3 2) (vi_X3 3) (vi_X3 4 0) (vi_X3 5 0) (vi_X3 6) (vi_X3 7) (vi_X3 8) ++ wSch G u2.2 (vi_X2 0) (vi_X2 1) (vi_X2 2) (vi_X2 3) (vi_X2 4) (vi_X2 5) (vi_X2 6) (vi_X2 7) (vi_X2 8 0) (vi_X2 9 0)) ++ ((wSeat G u4.1 (u4.2 0) (vi_X3 1) (vi_X3 2) (vi_X3 3) (vi_X3 4 0) (vi_X3 5 0) (vi_X3 6) (vi_X3 7) (vi_X3 8) ++ wSch G u4.2 (vi_X2 0) (vi_X2 1) (vi_X2 2) (vi_X2 3) (vi_X2 4) (vi_X2 5) (vi_X2 6) (vi_X2 7) (vi_X2 8 0) (vi_X2 9 0)) ++ (wPad G u6 (vi_X1 0) (vi_X1 1 0) (vi_X1 2) (vi_X1 3) (vi_X1 4) (vi_X1 5 0) (vi_X1 6 0) (vi_X1 7 0) (vi_X1 8 0) (vi_X1 9 0) ++ ((wHis G u8.1 u8.2 (fun _ => vi_X2) 0) ++ ([(q9, .inl (G.2 3, 2, .inr (.inr (.inr (.inr (va_up (va_up (fun _ => none) 0 (some (u11 0))) 1 (some (u13 0))))))))] ++ (wSch G u11 (vi_X2 0) (vi_X2 1) (vi_X2 2) (vi_X2 3) (vi_X2 4) (vi_X2 5) (vi_X2 6) (vi_X2 7) (vi_X2 8 0) (vi_X2 9 0) ++ (wSch G u13 (vi_X2 0) (vi_X2 1) (vi_X2 2) (vi_X2 3) (vi_X2 4) (vi_X2 5) (vi_X2 6) (vi_X2 7) (vi_X2 8 0) (vi_X2 9 0) ++ ([(q14, .inl (G.2 1, 2, .inl (fun _ => 0)))])))))))) : va_W)) C 51 hin rfl TB_l4 tyX4 tyX4_ok nmX4 rfl 0 7 rfl (by decide) k253 rfl rfl rfl rfl rfl rfl (Nat.le_of_ble_eq_true rfl) rfl ?_
  refine J_aload_n (pc := 105) C 52 rfl 0 rfl rfl ?_
  refine J_get (pc := 106) (v := .ref (u2.1 0)) C 53 rfl TB_l4 rfl 0 0 rfl (by decide) k240 rfl rfl ?_
  refine J_callV (pc := 109) (st2 := []) (st3 := []) (ws2 := ([(h0, .inr (4, [.ref (u2.1 0), .ref (u2.2 0), .ref (u4.1 0), .ref (u4.2 0), .ref (u6 0), .ref (u8.1 0), .ref q9, .ref q14]))] ++ (wSeat G u2.1 (u2.2 0) (vT0 1) (vT0 2) (vT0 3) (vT0 4 0) (vT0 5 0) (vT0 6) (vT0 7) (vT0 8) ++ wSch G u2.2 (vi_X2 0) (vi_X2 1) (vi_X2 2) (vi_X2 3) (vi_X2 4) (vi_X2 5) (vi_X2 6) (vi_X2 7) (vi_X2 8 0) (vi_X2 9 0) ++ ((wSeat G u4.1 (u4.2 0) (vi_X3 1) (vi_X3 2) (vi_X3 3) (vi_X3 4 0) (vi_X3 5 0) (vi_X3 6) (vi_X3 7) (vi_X3 8) ++ wSch G u4.2 (vi_X2 0) (vi_X2 1) (vi_X2 2) (vi_X2 3) (vi_X2 4) (vi_X2 5) (vi_X2 6) (vi_X2 7) (vi_X2 8 0) (vi_X2 9 0)) ++ (wPad G u6 (vi_X1 0) (vi_X1 1 0) (vi_X1 2) (vi_X1 3) (vi_X1 4) (vi_X1 5 0) (vi_X1 6 0) (vi_X1 7 0) (vi_X1 8 0) (vi_X1 9 0) ++ ((wHis G u8.1 u8.2 (fun _ => vi_X2) 0) ++ ([(q9, .inl (G.2 3, 2, .inr (.inr (.inr (.inr (va_up (va_up (fun _ => none) 0 (some (u11 0))) 1 (some (u13 0))))))))] ++ (wSch G u11 (vi_X2 0) (vi_X2 1) (vi_X2 2) (vi_X2 3) (vi_X2 4) (vi_X2 5) (vi_X2 6) (vi_X2 7) (vi_X2 8 0) (vi_X2 9 0) ++ (wSch G u13 (vi_X2 0) (vi_X2 1) (vi_X2 2) (vi_X2 3) (vi_X2 4) (vi_X2 5) (vi_X2 6) (vi_X2 7) (vi_X2 8 0) (vi_X2 9 0) ++ ([(q14, .inl (G.2 1, 2, .inl (fun _ => 0)))])))))))) : va_W)) C 54 rfl (c_X3_seatAll u2.1 u2.2 vi_X3 vi_X2 hv0) V_X3_seatAll k258 i_X3_seatAll s_X3_seatAll rfl rfl ⟨Nat.le_of_ble_eq_true rfl, Nat.le_of_ble_eq_true rfl⟩ (Nat.le_of_ble_eq_true rfl) ⟨Nat.le_refl _, Nat.le_refl _⟩ 1 3 rfl rfl rfl (isC := [1, 2, 3, 4, 5, 6, 7, 8, 9, 10, 11, 12, 13, 14, 15, 16]) (isR := [0, 17, 18, 19, 20, 21, 22, 23, 24, 25, 26, 27, 28, 29, 30, 31, 32, 33, 34, 35, 36, 37, 38, 39, 40, 41, 42, 43, 44, 45, 46, 47, 48, 49, 50, 51, 52, 53, 54, 55, 56, 57, 58, 59, 60, 61, 62, 63, 64, 65, 66, 67, 68, 69, 70, 71, 72, 73, 74, 75, 76, 77, 78, 79, 80, 81, 82, 83, 84, 85, 86, 87, 88, 89, 90, 91, 92, 93, 94, 95, 96, 97, 98, 99, 100, 101, 102, 103, 104, 105, 106, 107, 108, 109, 110, 111, 112, 113]) (N := 114) ⟨rfl, by decide +kernel, rfl, by decide +kernel, rfl, ⟨⟨_, rfl, rfl⟩, ⟨⟨_, rfl, rfl⟩, ⟨⟨_, rfl, rfl⟩, ⟨⟨_, rfl, rfl⟩, ⟨⟨_, rfl, rfl⟩, ⟨⟨_, rfl, rfl⟩, ⟨⟨_, rfl, rfl⟩, ⟨⟨_, rfl, rfl⟩, ⟨⟨_, rfl, rfl⟩, ⟨⟨_, rfl, rfl⟩, ⟨⟨_, rfl, rfl⟩, ⟨⟨_, rfl, rfl⟩, ⟨⟨_, rfl, rfl⟩, ⟨⟨_, rfl, rfl⟩, ⟨⟨_, rfl, rfl⟩, ⟨⟨_, rfl, rfl⟩, ⟨⟨_, rfl, rfl⟩, ⟨⟨_, rfl, rfl⟩, ⟨⟨_, rfl, rfl⟩, ⟨⟨_, rfl, rfl⟩, ⟨⟨_, rfl, rfl⟩, ⟨⟨_, rfl, rfl⟩, ⟨⟨_, rfl, rfl⟩, ⟨⟨_, rfl, rfl⟩, ⟨⟨_, rfl, rfl⟩, ⟨⟨_, rfl, rfl⟩, ⟨⟨_, rfl, rfl⟩, ⟨⟨_, rfl, rfl⟩, ⟨⟨_, rfl, rfl⟩, ⟨⟨_, rfl, rfl⟩, ⟨⟨_, rfl, rfl⟩, ⟨⟨_, rfl, rfl⟩, ⟨⟨_, rfl, rfl⟩, ⟨⟨_, rfl, rfl⟩, ⟨⟨_, rfl, rfl⟩, ⟨⟨_, rfl, rfl⟩, ⟨⟨_, rfl, rfl⟩, ⟨⟨_, rfl, rfl⟩, ⟨⟨_, rfl, rfl⟩, ⟨⟨_, rfl, rfl⟩, ⟨⟨_, rfl, rfl⟩, ⟨⟨_, rfl, rfl⟩, ⟨⟨_, rfl, rfl⟩, ⟨⟨_, rfl, rfl⟩, ⟨⟨_, rfl, rfl⟩, ⟨⟨_, rfl, rfl⟩, ⟨⟨_, rfl, rfl⟩, ⟨⟨_, rfl, rfl⟩, ⟨⟨_, rfl, rfl⟩, ⟨⟨_, rfl, rfl⟩, ⟨⟨_, rfl, rfl⟩, ⟨⟨_, rfl, rfl⟩, ⟨⟨_, rfl, rfl⟩, ⟨⟨_, rfl, rfl⟩, ⟨⟨_, rfl, rfl⟩, ⟨⟨_, rfl, rfl⟩, ⟨⟨_, rfl, rfl⟩, ⟨⟨_, rfl, rfl⟩, ⟨⟨_, rfl, rfl⟩, ⟨⟨_, rfl, rfl⟩, ⟨⟨_, rfl, rfl⟩, ⟨⟨_, rfl, rfl⟩, ⟨⟨_, rfl, rfl⟩, ⟨⟨_, rfl, rfl⟩, ⟨⟨_, rfl, rfl⟩, ⟨⟨_, rfl, rfl⟩, ⟨⟨_, rfl, rfl⟩, ⟨⟨_, rfl, rfl⟩, ⟨⟨_, rfl, rfl⟩, ⟨⟨_, rfl, rfl⟩, ⟨⟨_, rfl, rfl⟩, ⟨⟨_, rfl, rfl⟩, ⟨⟨_, rfl, rfl⟩, ⟨⟨_, rfl, rfl⟩, ⟨⟨_, rfl, rfl⟩, ⟨⟨_, rfl, rfl⟩, ⟨⟨_, rfl, rfl⟩, ⟨⟨_, rfl, rfl⟩, ⟨⟨_, rfl, rfl⟩, ⟨⟨_, rfl, rfl⟩, ⟨⟨_, rfl, rfl⟩, ⟨⟨_, rfl, rfl⟩, ⟨⟨_, rfl, rfl⟩, ⟨⟨_, rfl, rfl⟩, ⟨⟨_, rfl, rfl⟩, ⟨⟨_, rfl, rfl⟩, ⟨⟨_, rfl, rfl⟩, ⟨⟨_, rfl, rfl⟩, ⟨⟨_, rfl, rfl⟩, ⟨⟨_, rfl, rfl⟩, ⟨⟨_, rfl, rfl⟩, ⟨⟨_, rfl, rfl⟩, ⟨⟨_, rfl, rfl⟩, ⟨⟨_, rfl, rfl⟩, ⟨⟨_, rfl, rfl⟩, ⟨⟨_, rfl, rfl⟩, ⟨⟨_, rfl, rfl⟩, ⟨⟨_, rfl, rfl⟩, trivial⟩⟩⟩⟩⟩⟩⟩⟩⟩⟩⟩⟩⟩⟩⟩⟩⟩⟩⟩⟩⟩⟩⟩⟩⟩⟩⟩⟩⟩⟩⟩⟩⟩⟩⟩⟩⟩⟩⟩⟩⟩⟩⟩⟩⟩⟩⟩⟩⟩⟩⟩⟩⟩⟩⟩⟩⟩⟩⟩⟩⟩⟩⟩⟩⟩⟩⟩⟩⟩⟩⟩⟩⟩⟩⟩⟩⟩⟩⟩⟩⟩⟩⟩⟩⟩⟩⟩⟩⟩⟩⟩⟩⟩⟩⟩⟩⟩⟩⟩ rfl ?_
  have h6 : ∀ i : Nat, i < 2 → (va_up (va_up (fun _ => none) 0 (some (u11 0))) 1 (some (u13 0))) i = some ((fun i => [u11, u13].getD i (fun _ => 0)) i 0) := by
    intro i hi
    rcases (show i = 0 ∨ i = 1 by omega) with rfl | rfl <;> rfl
  refine J_aeq (q0 := 94) (ws' := ([(h0, .inr (4, [.ref (u2.1 0), .ref (u2.2 0), .ref (u4.1 0), .ref (u4.2 0), .ref (u6 0), .ref (u8.1 0), .ref q9, .ref q14]))] ++ (wSeat G u2.1 (u2.2 0) (vT0 1) (vT0 2) (vT0 3) (vT0 4 0) (vT0 5 0) (vT0 6) (vT0 7) (vT0 8) ++ wSch G u2.2 (vi_X2 0) (vi_X2 1) (vi_X2 2) (vi_X2 3) (vi_X2 4) (vi_X2 5) (vi_X2 6) (vi_X2 7) (vi_X2 8 0) (vi_X2 9 0) ++ ((wSeat G u4.1 (u4.2 0) (vi_X3 1) (vi_X3 2) (vi_X3 3) (vi_X3 4 0) (vi_X3 5 0) (vi_X3 6) (vi_X3 7) (vi_X3 8) ++ wSch G u4.2 (vi_X2 0) (vi_X2 1) (vi_X2 2) (vi_X2 3) (vi_X2 4) (vi_X2 5) (vi_X2 6) (vi_X2 7) (vi_X2 8 0) (vi_X2 9 0)) ++ (wPad G u6 (vi_X1 0) (vi_X1 1 0) (vi_X1 2) (vi_X1 3) (vi_X1 4) (vi_X1 5 0) (vi_X1 6 0) (vi_X1 7 0) (vi_X1 8 0) (vi_X1 9 0) ++ ((wHis G u8.1 u8.2 (fun _ => vi_X2) 0) ++ ([(q9, .inl (G.2 3, 2, .inr (.inr (.inr (.inr (fun i => some ((fun i => [u11, u13].getD i (fun _ => 0)) i 0)))))))] ++ (wSch G u11 (vi_X2 0) (vi_X2 1) (vi_X2 2) (vi_X2 3) (vi_X2 4) (vi_X2 5) (vi_X2 6) (vi_X2 7) (vi_X2 8 0) (vi_X2 9 0) ++ (wSch G u13 (vi_X2 0) (vi_X2 1) (vi_X2 2) (vi_X2 3) (vi_X2 4) (vi_X2 5) (vi_X2 6) (vi_X2 7) (vi_X2 8 0) (vi_X2 9 0) ++ ([(q14, .inl (G.2 1, 2, .inl (fun _ => 0)))])))))))) : va_W)) rfl h6 rfl ?_
  refine J_perm (ws' := ((fun u : Nat × (Nat → Nat) × (Nat → Nat) × (Nat → Nat) × (Nat → Nat) × (Nat → Nat) × (Nat → Nat) × (Nat → Nat → Nat) × Nat × (Nat → Nat → Nat) × Nat => wEx u.1 (u.2.1 0) (u.2.2.2.1 0) (u.2.2.1 0) (u.2.2.2.2.1 0) (u.2.2.2.2.2.1 0) (u.2.2.2.2.2.2.1 0) u.2.2.2.2.2.2.2.2.1 u.2.2.2.2.2.2.2.2.2.2 ++ (wSeat G u.2.1 (u.2.2.1 0) (vT0 1) (vT0 2) (vT0 3) (vT0 4 0) (vT0 5 0) (vT0 6) (vT0 7) (vT0 8) ++ (wSch G u.2.2.1 (vi_X2 0) (vi_X2 1) (vi_X2 2) (vi_X2 3) (vi_X2 4) (vi_X2 5) (vi_X2 6) (vi_X2 7) (vi_X2 8 0) (vi_X2 9 0) ++ (wSeat G u.2.2.2.1 (u.2.2.2.2.1 0) (vi_X3 1) (vi_X3 2) (vi_X3 3) (vi_X3 4 0) (vi_X3 5 0) (vi_X3 6) (vi_X3 7) (vi_X3 8) ++ (wSch G u.2.2.2.2.1 (vi_X2 0) (vi_X2 1) (vi_X2 2) (vi_X2 3) (vi_X2 4) (vi_X2 5) (vi_X2 6) (vi_X2 7) (vi_X2 8 0) (vi_X2 9 0) ++ (wPad G u.2.2.2.2.2.1 (vi_X1 0) (vi_X1 1 0) (vi_X1 2) (vi_X1 3) (vi_X1 4) (vi_X1 5 0) (vi_X1 6 0) (vi_X1 7 0) (vi_X1 8 0) (vi_X1 9 0) ++ (wHis G u.2.2.2.2.2.2.1 u.2.2.2.2.2.2.2.1 (fun _ => vi_X2) 0 ++ (wSlots G u.2.2.2.2.2.2.2.2.1 u.2.2.2.2.2.2.2.2.2.1 (fun _ => vi_X2) ++ wUsed G u.2.2.2.2.2.2.2.2.2.2 (fun _ => 0))))))))) (h0, u2.1, u2.2, u4.1, u4.2, u6, u8.1, u8.2, q9, (fun i => [u11, u13].getD i (fun _ => 0)), q14))) [0, 1, 2, 3, 4, 5, 6, 7, 8, 9, 10, 11, 12, 13, 14, 15, 16, 17, 18, 19, 20, 21, 22, 23, 24, 25, 26, 27, 28, 29, 30, 31, 32, 33, 34, 35, 36, 37, 38, 39, 40, 41, 42, 43, 44, 45, 46, 47, 48, 49, 50, 51, 52, 53, 54, 55, 56, 57, 58, 59, 60, 61, 62, 63, 64, 65, 66, 67, 68, 69, 70, 71, 72, 73, 74, 75, 76, 77, 78, 79, 80, 81, 82, 83, 84, 85, 86, 87, 88, 89, 90, 91, 92, 93, 94, 95, 96, 97, 98, 99, 100, 101, 102, 103, 104, 105, 106, 107, 108, 109, 110, 111, 112, 113] (by decide +kernel) rfl ?_
  exact J_cret (pc := 112) C 55 (h0, u2.1, u2.2, u4.1, u4.2, u6, u8.1, u8.2, q9, (fun i => [u11, u13].getD i (fun _ => 0)), q14) rfl rfl
