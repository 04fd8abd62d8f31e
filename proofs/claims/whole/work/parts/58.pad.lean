/-! ===== the pad is read, whole: fault and read ===== -/
def TPb (t : Int × Int × Int) : Prop := (1 ≤ t.1 ∧ t.1 ≤ 63) ∧ (0 ≤ t.2.1 ∧ t.2.1 ≤ 100) ∧ (0 ≤ t.2.2 ∧ t.2.2 ≤ 1)
def FRes (v0 u0 : JV) (R S : Int32 × JV) : Prop := R.2 0 = v0 0 ∧ R.2 1 = v0 1 ∧ (∀ f : Nat, f ≠ 7 → f ≠ 12 → f ≠ 13 → S.2 f = u0 f) ∧ ((R.1 = I (-6) ∧ S.1 = I (-1) ∧ ∃ (k : Nat) (T : TR), k ≤ 30 ∧ R.2 5 0 = I (k : Int) ∧ S.2 12 0 = I (k : Int) ∧ (∀ j : Nat, j < k → TPb (T j)) ∧ (∀ j : Nat, j < k → R.2 2 j = I (T j).1 ∧ R.2 3 j = I (T j).2.1 ∧ R.2 4 j = I (T j).2.2) ∧ ∀ j : Nat, j < k → S.2 7 (3 * j) = I (T j).1 ∧ S.2 7 (3 * j + 1) = I (T j).2.1 ∧ S.2 7 (3 * j + 2) = I (T j).2.2) ∨ ∃ f : Nat, f ≤ 60 ∧ R.1 = I (f : Int) ∧ S.1 = I (f : Int))
theorem head_go {u0 v0 : JV} {L : Nat} {c : Nat → Int} (hTu : Ux u0 L c) (hTv : Tx v0 L c) : ∀ (d b k q pp ex : Nat) (r : Bool) (T : TR) (u v : JV), L - b ≤ d → b ≤ L → 2 * k + 1 ≤ b → UV u u0 b (k + 1) T → CV v v0 q pp ex r k T → (q = 1 ∨ q = 3 ∨ q = 4) → T k = ((pp : Int), (ex : Int), B1 r) → (∀ j : Nat, j < k + 1 → TPb (T j)) → (b < L → c b ≠ 59 → f_X1_takes v (I (c b)) = some (I 0, v)) → ∀ n m : Nat, L - b < n → L - b < m →
    ∃ R S : Int32 × JV, f_X1_findFault_L11 m v (I (b : Int)) = some R ∧ f_X5_faultOf_L15 n u (1 : Int32) = some S ∧ FRes v0 u0 R S := by
  have hL60 := hTu.1
  intro d
  induction d with
  | zero =>
    intro b k q pp ex r T u v hd hb hkb hU hC hq hTk hTB hrej n m hn hm
    obtain ⟨n, rfl⟩ : ∃ n' : Nat, n = n' + 1 := ⟨n - 1, by omega⟩
    obtain ⟨m, rfl⟩ : ∃ m' : Nat, m = m' + 1 := ⟨m - 1, by omega⟩
    have e : b = L := by omega
    subst e
    obtain ⟨w, w1, w2⟩ := p_endPupil (show k < 30 by omega) hC hTk
    refine ⟨(I (-6), w), (I (-1), u), ?_, ?_, w2.1, w2.2.1, hU.1, Or.inl ⟨rfl, rfl, k + 1, T, by omega, w2.2.2.2.2.2.2.1, hU.2.2.1, hTB, w2.2.2.2.2.2.2.2, hU.2.2.2⟩⟩
    · rw [L_end hTv hC.2.1]
      unfold f_X1_findFault_K46
      rw [p_mayEnd (by omega) hC]
      simp only [Option.bind_some]
      rw [ite_B1, if_pos (by rcases hq with rfl | rfl | rfl <;> decide), w1]
      rfl
    · show f_X5_faultOf_b15 (fun x y => f_X5_faultOf_L15 n x y) u (1 : Int32) = _
      unfold f_X5_faultOf_b15 f_X5_faultOf_K55
      rw [if_neg (show ¬ (1 : Int32) = 0 by decide), hU.1 10 (by omega) (by omega) (by omega), hTu.2.1, hU.2.1, k_le (by omega) (by omega), if_pos (Nat.le_refl _), if_neg (show ¬ (1 : Int32) = 0 by decide)]
      rfl
  | succ d ih =>
    intro b k q pp ex r T u v hd hb hkb hU hC hq hTk hTB hrej n m hn hm
    obtain ⟨n, rfl⟩ : ∃ n' : Nat, n = n' + 1 := ⟨n - 1, by omega⟩
    obtain ⟨m, rfl⟩ : ∃ m' : Nat, m = m' + 1 := ⟨m - 1, by omega⟩
    by_cases hbL : b < L
    · have ev : f_X5_faultOf_L15 (n + 1) u (1 : Int32) = (f_X5_accepts u (59 : Int32)).bind (fun q5 => (if (q5.1) = 0 then f_X5_faultOf_L15 n (q5.2) (0 : Int32) else (f_X5_readsPupil (q5.2)).bind (fun q7 => (if (q7.1) = 0 then f_X5_faultOf_L15 n (q7.2) (0 : Int32) else f_X5_faultOf_L15 n (q7.2) (1 : Int32))))) := by
        show f_X5_faultOf_b15 (fun x y => f_X5_faultOf_L15 n x y) u (1 : Int32) = _
        unfold f_X5_faultOf_b15
        rw [if_neg (show ¬ (1 : Int32) = 0 by decide), hU.1 10 (by omega) (by omega) (by omega), hTu.2.1, hU.2.1, k_le (by omega) (by omega), if_neg (by omega)]
      have ev0 : ∀ y : JV, f_X5_faultOf_L15 n y (0 : Int32) = some (y 13 0, y) := by
        intro y
        obtain ⟨n', rfl⟩ : ∃ n' : Nat, n = n' + 1 := ⟨n - 1, by omega⟩
        show f_X5_faultOf_b15 (fun x y => f_X5_faultOf_L15 n' x y) y (0 : Int32) = _
        unfold f_X5_faultOf_b15 f_X5_faultOf_K55
        rw [if_pos rfl, if_pos rfl]
      rw [ev, show f_X5_accepts u (59 : Int32) = _ from m_accepts hTu hU hb (s := 59) (r0 59)]
      by_cases c1 : c b = 59
      · rw [if_pos ⟨hbL, c1⟩]
        simp only [Option.bind_some]
        rw [if_neg (show ¬ I 1 = 0 by decide)]
        obtain ⟨v1, t1, t2⟩ := t_semi hq (show k < 30 by omega) hC hTk
        rw [← c1] at t1
        have hgo := Go.step hTv hC.1 hC.2.1 hbL t1
        rcases rp_go hTu hTv (hU.at (b + 1)) t2 (by omega) (by omega) with ⟨f, u', w, p1, p2, p3, p4, p5, p6, p7⟩ | ⟨b', q', pp', ex', r', u', v', p1, p2, p3, p4, p5, p6, p7, p8, p9, p10⟩
        · rw [p1]
          simp only [Option.bind_some]
          rw [if_pos (show I 0 = 0 from rfl), ev0]
          refine ⟨(I (f : Int), w), _, ?_, rfl, p5, p6, p2.1, Or.inr ⟨f, by omega, rfl, p2.2.1⟩⟩
          obtain ⟨m', hm'⟩ : ∃ m' : Nat, m = m' + 1 + (f - (b + 1)) := ⟨m - 1 - (f - (b + 1)), by omega⟩
          have g2 := hgo.2 m
          rw [show m + (b + 1 - b) = m + 1 by omega] at g2
          rw [g2, hm']
          exact p7 m'
        · rw [p1]
          simp only [Option.bind_some]
          rw [if_neg (show ¬ I 1 = 0 by decide)]
          have hT' : ∀ j : Nat, j < k + 1 + 1 → TPb (upT T (k + 1) (pp' : Int) (ex' : Int) (B1 r') j) := by
            intro j hj
            unfold upT
            by_cases e : j = k + 1
            · rw [if_pos e]
              exact ⟨⟨by dsimp only; omega, by dsimp only; omega⟩, ⟨by dsimp only; omega, by dsimp only; omega⟩, B1_bd r'⟩
            · rw [if_neg e]; exact hTB j (by omega)
          have g2 := (hgo.trans p5).2 (m + 1 - (b' - b))
          rw [show m + 1 - (b' - b) + (b' - b) = m + 1 by omega] at g2
          rw [g2]
          exact ih b' (k + 1) q' pp' ex' r' _ u' v' (by omega) p4 (by omega) p2 p6 p7 (if_pos rfl) hT' p10 n _ (by omega) (by omega)
      · rw [if_neg (fun z => c1 z.2)]
        simp only [Option.bind_some]
        rw [if_pos (show I 0 = 0 from rfl), ev0]
        refine ⟨(I (b : Int), v), _, L_stop hTv hC.1 hC.2.1 hbL (hrej hbL c1) m, rfl, hC.1, hC.2.1, (hU.at b).1, Or.inr ⟨b, by omega, rfl, (hU.at b).2.1⟩⟩
    · exact ih b k q pp ex r T u v (by omega) hb hkb hU hC hq hTk hTB hrej (n + 1) (m + 1) (by omega) (by omega)
theorem pad_go {u0 v0 : JV} {L : Nat} {c : Nat → Int} (hTu : Ux u0 L c) (hTv : Tx v0 L c) : ∃ R S : Int32 × JV, f_X1_findFault v0 = some R ∧ f_X5_faultOf u0 = some S ∧ FRes v0 u0 R S := by
  have hL60 := hTu.1
  have hFU := FU_ge
  let T : TR := fun _ => (0, 0, 0)
  have hU : UV (up2 (up2 u0 13 0 (0 : Int32)) 12 0 (0 : Int32)) u0 0 0 T := by
    refine ⟨fun f f7 f12 f13 => ?_, ?_, ?_, fun j hj => absurd hj (by omega)⟩
    · rw [up2_ne _ _ _ f12, up2_ne _ _ _ f13]
    · rw [up2_v (show (13 : Nat) ≠ 12 by omega), up2_if, if_pos rfl]; rfl
    · rw [up2_if, if_pos rfl]; rfl
  obtain ⟨v, v1, v2⟩ := p_beginPupil (v := up2 v0 5 0 (0 : Int32)) (v0 := v0) (k := 0) (T := T) (up2_ne _ _ _ (by omega)) (up2_ne _ _ _ (by omega)) (by rw [up2_if, if_pos rfl]; rfl) (fun j hj => absurd hj (by omega))
  unfold f_X1_findFault f_X5_faultOf
  rw [v1]
  simp only [Option.bind_some]
  rcases rp_go hTu hTv hU v2 (by omega) (by omega) with ⟨f, u', w, p1, p2, p3, p4, p5, p6, p7⟩ | ⟨b', q', pp', ex', r', u', v', p1, p2, p3, p4, p5, p6, p7, p8, p9, p10⟩
  · rw [p1]
    simp only [Option.bind_some]
    obtain ⟨m', hm'⟩ : ∃ m' : Nat, FU = m' + 1 + (f - 0) := ⟨FU - 1 - f, by omega⟩
    obtain ⟨n', hn'⟩ : ∃ n' : Nat, FU = n' + 1 := ⟨FU - 1, by omega⟩
    refine ⟨(I (f : Int), w), (u' 13 0, u'), ?_, ?_, p5, p6, p2.1, Or.inr ⟨f, by omega, rfl, p2.2.1⟩⟩
    · have := p7 m'
      rw [← hm'] at this
      exact this
    · rw [hn']
      show f_X5_faultOf_b15 (fun x y => f_X5_faultOf_L15 n' x y) u' (0 : Int32) = _
      unfold f_X5_faultOf_b15 f_X5_faultOf_K55
      rw [if_pos rfl, if_pos rfl]
  · rw [p1]
    simp only [Option.bind_some]
    have hT' : ∀ j : Nat, j < 0 + 1 → TPb (upT T 0 (pp' : Int) (ex' : Int) (B1 r') j) := by
      intro j hj
      unfold upT
      rw [if_pos (by omega)]
      exact ⟨⟨by dsimp only; omega, by dsimp only; omega⟩, ⟨by dsimp only; omega, by dsimp only; omega⟩, B1_bd r'⟩
    have g2 := p5.2 (FU - b')
    rw [show FU - b' + (b' - 0) = FU by omega] at g2
    rw [show f_X1_findFault_L11 FU v (0 : Int32) = _ from g2]
    exact head_go hTu hTv (L - b') b' 0 q' pp' ex' r' _ u' v' (by omega) p4 (by omega) p2 p6 p7 (if_pos rfl) hT' p10 FU _ (by omega) (by omega)
theorem e_fault {vT vS vP : JV} {hV : Nat → JV} {hZ : JV} {sV : Nat → JV} {vU vM : JV} (h : RI vT vS vP hV hZ sV vU vM) :
    ∃ (Rz : Int32 × JV) (m : Int32 × JV), f_X4_fault vP = some Rz ∧ f_X5_fault vM = some m ∧ m.1 = Rz.1 ∧ RI vT vS Rz.2 hV hZ sV vU m.2 := by
  obtain ⟨-, -, -, ⟨L, cc, hL, p1, p2, p3⟩⟩ := id h
  obtain ⟨R, S, r1, s1, f1, f2, f3, f4⟩ := pad_go (u0 := vM) (v0 := vP) (L := L) (c := cc) ⟨hL, p2, fun i hi => ⟨(p3 i hi).1, (p3 i hi).2.2⟩⟩ ⟨hL, p1, fun i hi => ⟨(p3 i hi).1, (p3 i hi).2.1⟩⟩
  have hp : RP R.2 S.2 := ⟨L, cc, hL, by rw [f2]; exact p1, by rw [f3 10 (by omega) (by omega) (by omega)]; exact p2, fun i hi => ⟨(p3 i hi).1, by rw [f1]; exact (p3 i hi).2.1, by rw [f3 8 (by omega) (by omega) (by omega)]; exact (p3 i hi).2.2⟩⟩
  have hri := h.pad hp (fun a a7 _ _ a12 a13 => f3 a a7 a12 a13)
  unfold f_X4_fault f_X5_fault
  rw [r1, s1]
  simp only [Option.bind_some]
  rcases f4 with ⟨q1, q2, -⟩ | ⟨f, hf, q1, q2⟩
  · rw [q2, if_neg (show ¬ 0 ≤ I (-1) by decide)]
    exact ⟨_, _, rfl, rfl, q1.symm, hri⟩
  · rw [q2, show (if 0 ≤ I (f : Int) then some (I (f : Int), S.2) else some ((-6 : Int32), S.2)) = _ from ite_le (a := 0) (r0 0) (r0 _), if_pos (by omega)]
    exact ⟨_, _, rfl, rfl, q1.symm, hri⟩
/-! the pupils of the pad come -/
def gadd (g : Nat → Int) (T : TR) : Nat → Nat → Int
  | 0 => g
  | i + 1 => gu (gp (gadd g T i) (np g + i) (T i).1 (T i).2.1 (T i).2.2) 3 ((np g + i + 1 : Nat) : Int)
theorem gadd_3 {g : Nat → Int} (hB : Bd g) (T : TR) : ∀ i : Nat, gadd g T i 3 = ((np g + i : Nat) : Int)
  | 0 => (np_le hB).2.symm
  | i + 1 => gu_at _ _ _
theorem Bd_gadd {g : Nat → Int} (hB : Bd g) {T : TR} : ∀ i : Nat, np g + i ≤ 16 → (∀ j : Nat, j < i → TPb (T j)) → Bd (gadd g T i)
  | 0, _, _ => hB
  | i + 1, h, hT => by
    have ht := hT i (by omega)
    have ih := Bd_gadd hB (T := T) i (by omega) (fun j hj => hT j (by omega))
    exact Bd_gu (Bd_gp ih (by omega) ⟨by have := ht.1; omega, ht.1.2⟩ ht.2.1 ht.2.2) 3 (by show (0 : Int) ≤ _; omega) (by show _ ≤ (16 : Int); omega)
theorem up2_cong {u v : JV} {k : Nat} (h : u k = v k) (i : Nat) (x : Int32) : up2 u k i x k = up2 v k i x k := by
  funext j
  rw [up2_at, up2_at, h]
theorem p_readL {vT vS vP : JV} {hA : Nat → Nat → Nat} {hV : Nat → JV} {hZ : JV} {g : Nat → Int} {k : Nat} {T : TR} (hS : RS vS g) (hB : Bd g) (hk : np g + k ≤ 16) (h5 : vP 5 0 = I (k : Int)) (hT : ∀ j : Nat, j < k → TPb (T j)) (hl : ∀ j : Nat, j < k → vP 2 j = I (T j).1 ∧ vP 3 j = I (T j).2.1 ∧ vP 4 j = I (T j).2.2) :
    ∃ vS' : JV, RS vS' (gadd g T k) ∧ f_X4_read_L51 FU vT vS vP hA hV hZ (0 : Int32) = f_X4_read_K108 vT vS' vP hA hV hZ := by
  unfold f_X4_read_L51
  refine Exists.elim (lp_inv (P := Unit) (fun _ (rec : JV × JV × JV × (Nat → Nat → Nat) × (Nat → JV) × JV × Int32 → Option (Int32 × JV × JV × JV × (Nat → Nat → Nat) × (Nat → JV) × JV)) a => f_X4_read_b51 (fun vT_51 vS_51 vP_51 hA_51 hV_51 hZ_51 x1_51 => rec (vT_51, vS_51, vP_51, hA_51, hV_51, hZ_51, x1_51)) a.1 a.2.1 a.2.2.1 a.2.2.2.1 a.2.2.2.2.1 a.2.2.2.2.2.1 a.2.2.2.2.2.2) (fun i a => a.1 = vT ∧ RS a.2.1 (gadd g T i) ∧ a.2.2 = (vP, hA, hV, hZ, I (i : Int))) k (fun _ a => f_X4_read_K108 vT a.2.1 vP hA hV hZ) (fun i a hi ha => ?_) (fun a _ rec ha => ?_) FU (by have := FU_ge; omega) (vT, vS, vP, hA, hV, hZ, (0 : Int32)) ⟨rfl, hS, rfl⟩) (fun a1 h12 => ?_)
  · obtain ⟨t, s, x⟩ := a
    obtain ⟨ht, hs, hx⟩ := ha
    dsimp only at ht hs hx
    subst hx
    subst ht
    have hti := hT i hi
    have h8 := hs.2.2.2.2.1
    rw [gadd_3 hB] at h8
    have hli := hl i hi
    refine ⟨(t, up2 (up2 (up2 (up2 s 3 (np g + i) (I (T i).1)) 4 (np g + i) (I (T i).2.1)) 5 (np g + i) (I (T i).2.2)) 8 0 (I ((np g + i + 1 : Nat) : Int)), vP, hA, hV, hZ, I ((i + 1 : Nat) : Int)), ⟨rfl, RS_num (RS_pup hs (by omega) _ _ _) _, rfl⟩, fun _ rec => ?_⟩
    show f_X4_read_b51 (fun vT_51 vS_51 vP_51 hA_51 hV_51 hZ_51 x1_51 => rec (vT_51, vS_51, vP_51, hA_51, hV_51, hZ_51, x1_51)) t s vP hA hV hZ (I (i : Int)) = _
    unfold f_X4_read_b51
    rw [h5, k_le (by omega) (by omega), if_neg (by omega), show (16 : Int32) = I ((16 : Nat) : Int) from rfl, k_le (by omega) (by omega), if_neg (by omega)]
    simp only [gd_t (inb_k (show i < 30 by omega) (show 30 < 1000000 by omega))]
    rw [I_k (by omega), hli.1, hli.2.1, hli.2.2, one_add]
    have ea : f_X2_addPupil s (I (T i).1) (I (T i).2.1) (I (T i).2.2) = some (up2 (up2 (up2 (up2 s 3 (np g + i) (I (T i).1)) 4 (np g + i) (I (T i).2.1)) 5 (np g + i) (I (T i).2.2)) 8 0 (I ((np g + i + 1 : Nat) : Int))) := by
      unfold f_X2_addPupil
      rw [h8, show (16 : Int32) = I ((16 : Nat) : Int) from rfl, k_le (by omega) (by omega), if_neg (by omega), p_writePupil s (show np g + i < 16 by omega) _ _ (isb_01 hti.2.2.1 hti.2.2.2)]
      simp only [Option.bind_some]
      rw [up2_v (show (8 : Nat) ≠ 5 by omega), up2_v (show (8 : Nat) ≠ 4 by omega), up2_v (show (8 : Nat) ≠ 3 by omega), h8, one_add]
    rw [ea]
    rfl
  · obtain ⟨t, s, x⟩ := a
    obtain ⟨ht, hs, hx⟩ := ha
    dsimp only at ht hs hx ⊢
    subst hx
    subst ht
    show f_X4_read_b51 (fun vT_51 vS_51 vP_51 hA_51 hV_51 hZ_51 x1_51 => rec (vT_51, vS_51, vP_51, hA_51, hV_51, hZ_51, x1_51)) t s vP hA hV hZ (I (k : Int)) = _
    unfold f_X4_read_b51
    rw [h5, k_le (by omega) (by omega), if_pos (Nat.le_refl _)]
  · obtain ⟨⟨h1, h2, h3⟩, h4⟩ := h12
    exact ⟨a1.2.1, h2, h4 ()⟩
theorem m_readL {v : JV} {g : Nat → Int} {k : Nat} {T : TR} (hM : RM (v 0) g) (hB : Bd g) (hk : np g + k ≤ 16) (h12 : v 12 0 = I (k : Int)) (hl : ∀ j : Nat, j < k → v 7 (3 * j) = I (T j).1 ∧ v 7 (3 * j + 1) = I (T j).2.1 ∧ v 7 (3 * j + 2) = I (T j).2.2) :
    ∃ w : JV, RM (w 0) (gadd g T k) ∧ (∀ a : Nat, a ≠ 0 → w a = v a) ∧ f_X5_read_L35 FU v (0 : Int32) = (f_X5_recorded (up2 w 10 0 (0 : Int32)) (w 0 3)).bind (fun q6 => some ((q6.1), (q6.2))) := by
  unfold f_X5_read_L35
  refine Exists.elim (lp_inv (P := Unit) (fun _ (rec : JV × Int32 → Option (Int32 × JV)) a => f_X5_read_b35 (fun x y => rec (x, y)) a.1 a.2) (fun i a => a.2 = I (i : Int) ∧ RM (a.1 0) (gadd g T i) ∧ ∀ b : Nat, b ≠ 0 → a.1 b = v b) k (fun _ a => (f_X5_recorded (up2 a.1 10 0 (0 : Int32)) (a.1 0 3)).bind (fun q6 => some ((q6.1), (q6.2)))) (fun i a hi ha => ?_) (fun a _ rec ha => ?_) FU (by have := FU_ge; omega) (v, (0 : Int32)) ⟨rfl, hM, fun _ _ => rfl⟩) (fun a1 h12 => ?_)
  · obtain ⟨u, x⟩ := a
    obtain ⟨hx, hu, hf⟩ := ha
    dsimp only at hx hu hf
    subst hx
    have hli := hl i hi
    have h3 := hu 3 (by omega)
    rw [gadd_3 hB] at h3
    refine ⟨(up2 (up2 (up2 (up2 u 0 (16 + 3 * (np g + i)) (I (T i).1)) 0 (17 + 3 * (np g + i)) (I (T i).2.1)) 0 (18 + 3 * (np g + i)) (I (T i).2.2)) 0 3 (I ((np g + i + 1 : Nat) : Int)), I ((i + 1 : Nat) : Int)), ⟨rfl, RM_gu (RM_gp hu _ _ _ _) 3 _, fun b hb => ?_⟩, fun _ rec => ?_⟩
    · show up2 (up2 (up2 (up2 u 0 (16 + 3 * (np g + i)) (I (T i).1)) 0 (17 + 3 * (np g + i)) (I (T i).2.1)) 0 (18 + 3 * (np g + i)) (I (T i).2.2)) 0 3 (I ((np g + i + 1 : Nat) : Int)) b = _
      rw [up2_ne _ _ _ hb, up2_ne _ _ _ hb, up2_ne _ _ _ hb, up2_ne _ _ _ hb]
      exact hf b hb
    · show f_X5_read_b35 (fun x y => rec (x, y)) u (I (i : Int)) = _
      unfold f_X5_read_b35
      rw [hf 12 (by omega), hf 7 (by omega), h12, k_le (by omega) (by omega), if_neg (by omega), show (3 : Int32) * I (i : Int) = I ((3 * i : Nat) : Int) from by rw [show (3 : Int32) = I ((3 : Nat) : Int) from rfl, nat_mul], show I ((3 * i : Nat) : Int) + (1 : Int32) = I ((3 * i + 1 : Nat) : Int) from one_add _, show I ((3 * i : Nat) : Int) + (2 : Int32) = I ((3 * i + 2 : Nat) : Int) from by rw [show (2 : Int32) = I ((2 : Nat) : Int) from rfl, nat_add]]
      simp only [gd_t (inb_k (show 3 * i < 96 by omega) (show 96 < 1000000 by omega)), gd_t (inb_k (show 3 * i + 1 < 96 by omega) (show 96 < 1000000 by omega)), gd_t (inb_k (show 3 * i + 2 < 96 by omega) (show 96 < 1000000 by omega))]
      rw [I_k (by omega), I_k (by omega), I_k (by omega), hli.1, hli.2.1, hli.2.2, h3, m_puts u (show np g + i < 16 by omega)]
      simp only [Option.bind_some]
      rw [up2_if, if_neg (by omega), up2_if, if_neg (by omega), up2_if, if_neg (by omega), h3, one_add, one_add]
  · obtain ⟨u, x⟩ := a
    obtain ⟨hx, hu, hf⟩ := ha
    dsimp only at hx hf ⊢
    subst hx
    unfold f_X5_read_b35
    rw [hf 12 (by omega), h12, k_le (by omega) (by omega), if_pos (Nat.le_refl _)]
  · obtain ⟨⟨-, h2, h3⟩, h4⟩ := h12
    exact ⟨a1.1, h2, h3, h4 ()⟩
theorem e_read {vT vS vP : JV} {hV : Nat → JV} {hZ : JV} {sV : Nat → JV} {vU vM : JV} (hA : Nat → Nat → Nat) (h : RI vT vS vP hV hZ sV vU vM) :
    ∃ (Rz : Int32 × JV × JV × JV × (Nat → Nat → Nat) × (Nat → JV) × JV) (m : Int32 × JV), f_X4_read vT vS vP hA hV hZ = some Rz ∧ f_X5_read vM = some m ∧ m.1 = Rz.1 ∧ RI Rz.2.1 Rz.2.2.1 Rz.2.2.2.1 Rz.2.2.2.2.2.1 Rz.2.2.2.2.2.2 sV vU m.2 := by
  obtain ⟨⟨g, hg⟩, -, -, ⟨L, cc, hL, p1, p2, p3⟩⟩ := id h
  obtain ⟨R, S, e1, s1, f1, f2, f3, f4⟩ := pad_go (u0 := vM) (v0 := vP) (L := L) (c := cc) ⟨hL, p2, fun i hi => ⟨(p3 i hi).1, (p3 i hi).2.2⟩⟩ ⟨hL, p1, fun i hi => ⟨(p3 i hi).1, (p3 i hi).2.1⟩⟩
  have hp : RP R.2 S.2 := ⟨L, cc, hL, by rw [f2]; exact p1, by rw [f3 10 (by omega) (by omega) (by omega)]; exact p2, fun i hi => ⟨(p3 i hi).1, by rw [f1]; exact (p3 i hi).2.1, by rw [f3 8 (by omega) (by omega) (by omega)]; exact (p3 i hi).2.2⟩⟩
  have hri := h.pad hp (fun a a7 _ _ a12 a13 => f3 a a7 a12 a13)
  unfold f_X4_read f_X5_read
  rw [e1, s1]
  simp only [Option.bind_some]
  rcases f4 with ⟨q1, q2, k, T, hk, k1, k2, k3, k4, k5⟩ | ⟨f, hf, q1, q2⟩
  · rw [q1, q2, if_pos (show I (-6) = (-6 : Int32) from rfl), if_pos (show I (-1) < 0 by decide)]
    have hn := np_le hg.1
    have hM0 : RM (S.2 0) g := by rw [f3 0 (by omega) (by omega) (by omega)]; exact hg.2.2.2.1
    rw [k1, k2, hg.2.1.2.2.2.2.1, hM0 3 (by omega), ← hn.2, nat_add, show (16 : Int32) = I ((16 : Nat) : Int) from rfl, k_le (by omega) (by omega), k_le (by omega) (by omega)]
    by_cases c : np g + k ≤ 16
    · rw [if_pos c, if_pos c]
      obtain ⟨w, w1, w2, w3, w4, w5⟩ := hold_ex hM0
      have hMw : RM (w 0) g := by rw [w2]; exact hM0
      obtain ⟨y, y1, y2, y3⟩ := m_readL hMw hg.1 c (by rw [w5 12 (by omega) (by omega)]; exact k2) (fun j hj => by rw [w5 7 (by omega) (by omega)]; exact k5 j hj)
      have hB' := Bd_gadd hg.1 (T := T) k c k3
      have hp1 : RP (up2 R.2 1 0 (0 : Int32)) (up2 S.2 10 0 (0 : Int32)) := ⟨0, cc, by omega, by rw [up2_if, if_pos rfl]; rfl, by rw [up2_if, if_pos rfl]; rfl, fun i hi => absurd hi (by omega)⟩
      have h2 := hri.pad hp1 (fun a _ _ a10 _ _ => up2_ne _ _ _ a10)
      have hg2 : RG vT vS (up2 S.2 10 0 (0 : Int32)) g := by
        obtain ⟨g1, g2, g3, g4, g5⟩ := hg
        refine ⟨g1, g2, g3, ?_, ?_⟩
        · rw [up2_ne _ _ _ (show (0 : Nat) ≠ 10 by omega)]; exact hM0
        · unfold Sd RZ at g5 ⊢
          rw [up2_ne _ _ _ (show (9 : Nat) ≠ 10 by omega), up2_ne _ _ _ (show (6 : Nat) ≠ 10 by omega), f3 9 (by omega) (by omega) (by omega), f3 6 (by omega) (by omega) (by omega)]
          exact g5
      obtain ⟨vS', z1, z2⟩ := p_readL (vT := vT) (hA := hA) (hV := hV) (hZ := hZ) hg.2.1 hg.1 c k1 k3 k4
      obtain ⟨Q, vT', v', r1, r2, r3, r4, r5⟩ := chg2 hA h2 hg2 z1 hB' (w := up2 y 10 0 (0 : Int32)) (by rw [up2_ne _ _ _ (show (1 : Nat) ≠ 10 by omega), y2 1 (by omega)]; exact w3) (fun a a0 a1 _ a9 => by
        by_cases e : a = 10
        · subst e
          exact up2_cong (by rw [y2 10 (by omega), w5 10 (by omega) (by omega)]) 0 0
        · rw [up2_ne _ _ _ e, up2_ne _ _ _ e, y2 a a0, w5 a a1 a9]) (by rw [up2_ne _ _ _ (show (0 : Nat) ≠ 10 by omega)]; exact y1) (Or.inl (by rw [up2_v (show (9 : Nat) ≠ 10 by omega), y2 9 (by omega)]; exact w4))
      obtain ⟨vS2, z3, z4⟩ := p_readL (vT := vT) (hA := Q.1) (hV := Q.2.1) (hZ := Q.2.2) hg.2.1 hg.1 c k1 k3 k4
      obtain ⟨Q', vT2, v2, o1, o2, o3, o4, o5⟩ := chg2 hA h2 hg2 z3 hB' (w := up2 y 10 0 (0 : Int32)) (by rw [up2_ne _ _ _ (show (1 : Nat) ≠ 10 by omega), y2 1 (by omega)]; exact w3) (fun a a0 a1 _ a9 => by
        by_cases e : a = 10
        · subst e
          exact up2_cong (by rw [y2 10 (by omega), w5 10 (by omega) (by omega)]) 0 0
        · rw [up2_ne _ _ _ e, up2_ne _ _ _ e, y2 a a0, w5 a a1 a9]) (by rw [up2_ne _ _ _ (show (0 : Nat) ≠ 10 by omega)]; exact y1) (Or.inl (by rw [up2_v (show (9 : Nat) ≠ 10 by omega), y2 9 (by omega)]; exact w4))
      have eQ : Q' = Q := by
        rw [r1] at o1
        exact (Option.some.inj o1).symm
      subst eQ
      refine ⟨(vS2 8 0, vT2, vS2, up2 R.2 1 0 (0 : Int32), Q'.1, Q'.2.1, Q'.2.2), (vS2 8 0, v2), ?_, ?_, rfl, o4⟩
      · rw [r1]
        simp only [Option.bind_some]
        rw [z4]
        unfold f_X4_read_K108
        rw [o2]
        rfl
      · rw [w1]
        simp only [Option.bind_some]
        rw [y3, o3, y1 3 (by omega), ← z3.2.2.2.2.1]
        rfl
    · rw [if_neg c, if_neg c]
      exact ⟨_, _, rfl, rfl, rfl, hri⟩
  · rw [q1, q2, if_neg (show ¬ I (f : Int) = (-6 : Int32) from I_eqn (r0 _) (-6) (r0 (-6)) (by omega)), show (if I (f : Int) < 0 then _ else some ((-3 : Int32), S.2)) = _ from ite_lt (b := 0) (r0 _) (r0 0), if_neg (by omega)]
    exact ⟨_, _, rfl, rfl, rfl, hri⟩
