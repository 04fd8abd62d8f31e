/-! ===== (from the parts of whole) ===== -/
def HC (hV : Nat → JV) (hZ : JV) (hs : Nat → Nat → Int) (n : Nat) : Prop := hZ 1 0 = I (n : Int) ∧ n ≤ 6 ∧ ∀ j : Nat, j < n → RS (hV j) (hs j)
def HM (v : JV) (hs : Nat → Nat → Int) (n : Nat) : Prop := v 11 0 = I (n : Int) ∧ ∀ j : Nat, j < n → ∀ k : Nat, k < 76 → v 3 (76 * j + k) = I (hs j k)
def HB (hs : Nat → Nat → Int) (n : Nat) : Prop := ∀ j : Nat, j < n → Bd (hs j)
def psh (hs : Nat → Nat → Int) (n : Nat) (g : Nat → Int) : Nat → Nat → Int := fun j => if n = 6 then (if j = 5 then g else hs (j + 1)) else (if j = n then g else hs j)
def psn (n : Nat) : Nat := if n = 6 then 6 else n + 1
theorem up1_if {α : Type} (f : Nat → α) (k : Nat) (v : α) (i : Nat) : up1 f k v i = if i = k then v else f i := by
  unfold up1
  by_cases c : i = k
  · rw [if_pos c, c, Nat.beq_refl]; rfl
  · rw [if_neg c]
    have h : Nat.beq i k = false := by
      cases hb : Nat.beq i k
      · rfl
      · exact absurd (Nat.eq_of_beq_eq_true hb) c
    rw [h]; rfl
theorem p_remK {vS : JV} {hA : Nat → Nat → Nat} {hV : Nat → JV} {hZ : JV} {hs : Nat → Nat → Int} {n : Nat} {g : Nat → Int} (hS : RS vS g) (hB : Bd g) (hn : n < 6) (h : HC hV hZ hs n) : ∃ R : (Nat → Nat → Nat) × (Nat → JV) × JV, f_X0_remember_K13 vS hA hV hZ = some R ∧ HC R.2.1 R.2.2 (fun j => if j = n then g else hs j) (n + 1) := by
  obtain ⟨h1, h2, h3⟩ := h
  obtain ⟨q, e1, e2⟩ := p_copyFrom (v := hV n) hS hB
  refine ⟨(hA, up1 hV n q, up2 hZ 1 0 (I ((n + 1 : Nat) : Int))), ?_, ?_, by omega, fun j hj => ?_⟩
  · unfold f_X0_remember_K13
    rw [h1, gd_t (inb_k hn (by omega)), one_add]
    match n, hn, e1 with
    | 0, _, e1 => rw [if_pos (show I ((0 : Nat) : Int) = (0 : Int32) from rfl), e1]; rfl
    | 1, _, e1 => rw [if_neg (show ¬ I ((1 : Nat) : Int) = (0 : Int32) by decide), if_pos (show I ((1 : Nat) : Int) = (1 : Int32) from rfl), e1]; rfl
    | 2, _, e1 => rw [if_neg (show ¬ I ((2 : Nat) : Int) = (0 : Int32) by decide), if_neg (show ¬ I ((2 : Nat) : Int) = (1 : Int32) by decide), if_pos (show I ((2 : Nat) : Int) = (2 : Int32) from rfl), e1]; rfl
    | 3, _, e1 => rw [if_neg (show ¬ I ((3 : Nat) : Int) = (0 : Int32) by decide), if_neg (show ¬ I ((3 : Nat) : Int) = (1 : Int32) by decide), if_neg (show ¬ I ((3 : Nat) : Int) = (2 : Int32) by decide), if_pos (show I ((3 : Nat) : Int) = (3 : Int32) from rfl), e1]; rfl
    | 4, _, e1 => rw [if_neg (show ¬ I ((4 : Nat) : Int) = (0 : Int32) by decide), if_neg (show ¬ I ((4 : Nat) : Int) = (1 : Int32) by decide), if_neg (show ¬ I ((4 : Nat) : Int) = (2 : Int32) by decide), if_neg (show ¬ I ((4 : Nat) : Int) = (3 : Int32) by decide), if_pos (show I ((4 : Nat) : Int) = (4 : Int32) from rfl), e1]; rfl
    | 5, _, e1 => rw [if_neg (show ¬ I ((5 : Nat) : Int) = (0 : Int32) by decide), if_neg (show ¬ I ((5 : Nat) : Int) = (1 : Int32) by decide), if_neg (show ¬ I ((5 : Nat) : Int) = (2 : Int32) by decide), if_neg (show ¬ I ((5 : Nat) : Int) = (3 : Int32) by decide), if_neg (show ¬ I ((5 : Nat) : Int) = (4 : Int32) by decide), if_pos (show I ((5 : Nat) : Int) = (5 : Int32) from rfl), e1]; rfl
  · dsimp only
    rw [up2_if, if_pos rfl]
  · dsimp only
    rw [up1_if]
    by_cases c : j = n
    · rw [if_pos c, if_pos c]; exact e2
    · rw [if_neg c, if_neg c]; exact h3 j (by omega)
theorem rot6_lt {α : Type} (f : Nat → α) {j : Nat} (hj : j < 5) : rot6 f j = f (j + 1) := by
  match j, hj with
  | 0, _ => rfl
  | 1, _ => rfl
  | 2, _ => rfl
  | 3, _ => rfl
  | 4, _ => rfl
theorem p_remember {vS : JV} {hA : Nat → Nat → Nat} {hV : Nat → JV} {hZ : JV} {hs : Nat → Nat → Int} {n : Nat} {g : Nat → Int} (hS : RS vS g) (hB : Bd g) (h : HC hV hZ hs n) : ∃ R : (Nat → Nat → Nat) × (Nat → JV) × JV, f_X0_remember vS hA hV hZ = some R ∧ HC R.2.1 R.2.2 (psh hs n g) (psn n) := by
  obtain ⟨h1, h2, h3⟩ := h
  unfold f_X0_remember f_X0_dropOldest
  simp only [Option.bind_some]
  rw [h1, show (6 : Int32) = I ((6 : Nat) : Int) from rfl, k_inj (by omega) (by omega)]
  by_cases c : n = 6
  · rw [if_pos c]
    have hh : HC (rot6 hV) (up2 hZ 1 0 (I ((n : Nat) : Int) - (1 : Int32))) (fun j => hs (j + 1)) 5 := by
      refine ⟨?_, by omega, fun j hj => ?_⟩
      · rw [up2_if, if_pos rfl, c]; rfl
      · rw [rot6_lt hV hj]; exact h3 (j + 1) (by omega)
    obtain ⟨R, r1, r2⟩ := p_remK (hA := rot6 hA) hS hB (by omega) hh
    refine ⟨R, r1, ?_⟩
    have e1 : psh hs n g = fun j => if j = 5 then g else hs (j + 1) := by unfold psh; funext j; rw [if_pos c]
    have e2 : psn n = 6 := by unfold psn; rw [if_pos c]
    rw [e1, e2]
    exact r2
  · rw [if_neg c]
    obtain ⟨R, r1, r2⟩ := p_remK (hA := hA) hS hB (show n < 6 by omega) ⟨h1, h2, h3⟩
    refine ⟨R, r1, ?_⟩
    have e1 : psh hs n g = fun j => if j = n then g else hs j := by unfold psh; funext j; rw [if_neg c]
    have e2 : psn n = n + 1 := by unfold psn; rw [if_neg c]
    rw [e1, e2]
    exact r2
theorem p_takeBack {vS : JV} {hA : Nat → Nat → Nat} {hV : Nat → JV} {hZ : JV} {hs : Nat → Nat → Int} {n : Nat} (hB : HB hs (n + 1)) (h : HC hV hZ hs (n + 1)) : ∃ R : JV × JV, f_X0_takeBack vS hA hV hZ = some R ∧ RS R.1 (hs n) ∧ HC hV R.2 hs n := by
  obtain ⟨h1, h2, h3⟩ := h
  obtain ⟨q, e1, e2⟩ := p_copyFrom (v := vS) (h3 n (by omega)) (hB n (by omega))
  have hm : I ((n + 1 : Nat) : Int) - (1 : Int32) = I (n : Int) := by
    rw [show (1 : Int32) = I 1 from rfl, I_sub]; congr 1; omega
  refine ⟨(q, up2 hZ 1 0 (I (n : Int))), ?_, e2, ?_, by omega, fun j hj => h3 j (by omega)⟩
  · unfold f_X0_takeBack
    rw [h1, hm, show (0 : Int32) = I ((0 : Nat) : Int) from rfl, k_le (by omega) (by omega), if_neg (by omega), gd_t (inb_k (by omega) (by omega))]
    match n, h2, e1 with
    | 0, _, e1 => rw [if_pos (show I ((0 : Nat) : Int) = I ((0 : Nat) : Int) from rfl), e1]; rfl
    | 1, _, e1 => rw [if_neg (show ¬ I ((1 : Nat) : Int) = I ((0 : Nat) : Int) by decide), if_pos (show I ((1 : Nat) : Int) = (1 : Int32) from rfl), e1]; rfl
    | 2, _, e1 => rw [if_neg (show ¬ I ((2 : Nat) : Int) = I ((0 : Nat) : Int) by decide), if_neg (show ¬ I ((2 : Nat) : Int) = (1 : Int32) by decide), if_pos (show I ((2 : Nat) : Int) = (2 : Int32) from rfl), e1]; rfl
    | 3, _, e1 => rw [if_neg (show ¬ I ((3 : Nat) : Int) = I ((0 : Nat) : Int) by decide), if_neg (show ¬ I ((3 : Nat) : Int) = (1 : Int32) by decide), if_neg (show ¬ I ((3 : Nat) : Int) = (2 : Int32) by decide), if_pos (show I ((3 : Nat) : Int) = (3 : Int32) from rfl), e1]; rfl
    | 4, _, e1 => rw [if_neg (show ¬ I ((4 : Nat) : Int) = I ((0 : Nat) : Int) by decide), if_neg (show ¬ I ((4 : Nat) : Int) = (1 : Int32) by decide), if_neg (show ¬ I ((4 : Nat) : Int) = (2 : Int32) by decide), if_neg (show ¬ I ((4 : Nat) : Int) = (3 : Int32) by decide), if_pos (show I ((4 : Nat) : Int) = (4 : Int32) from rfl), e1]; rfl
    | 5, _, e1 => rw [if_neg (show ¬ I ((5 : Nat) : Int) = I ((0 : Nat) : Int) by decide), if_neg (show ¬ I ((5 : Nat) : Int) = (1 : Int32) by decide), if_neg (show ¬ I ((5 : Nat) : Int) = (2 : Int32) by decide), if_neg (show ¬ I ((5 : Nat) : Int) = (3 : Int32) by decide), if_neg (show ¬ I ((5 : Nat) : Int) = (4 : Int32) by decide), if_pos (show I ((5 : Nat) : Int) = (5 : Int32) from rfl), e1]; rfl
    | n + 6, hn, _ => exact absurd hn (by omega)
  · dsimp only
    rw [up2_if, if_pos rfl]
/-! the reference records -/
def vsh (v : JV) : Nat → JV
  | 0 => v
  | i + 1 => up2 (vsh v i) 3 i (vsh v i 3 (76 + i))
theorem vsh_ne (v : JV) {a : Nat} (h : a ≠ 3) : ∀ n : Nat, vsh v n a = v a
  | 0 => rfl
  | n + 1 => by
    show up2 (vsh v n) 3 n _ a = _
    rw [up2_ne _ _ _ h]
    exact vsh_ne v h n
theorem vsh_3 (v : JV) : ∀ (n j : Nat), vsh v n 3 j = if j < n then v 3 (76 + j) else v 3 j
  | 0, j => by rw [if_neg (by omega)]; rfl
  | n + 1, j => by
    show up2 (vsh v n) 3 n (vsh v n 3 (76 + n)) 3 j = _
    rw [up2_if]
    by_cases c : j = n
    · rw [if_pos c, if_pos (by omega), vsh_3 v n (76 + n), if_neg (by omega), c]
    · rw [if_neg c, vsh_3 v n j]
      by_cases d : j < n
      · rw [if_pos d, if_pos (by omega)]
      · rw [if_neg d, if_neg (by omega)]
