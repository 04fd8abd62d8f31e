/-! ===== (from the parts of whole) ===== -/
theorem isb_01 {x : Int} (h0 : 0 ≤ x) (h1 : x ≤ 1) : isb (I x) = true := by
  by_cases c : x = 0
  · rw [c]; rfl
  · rw [show x = 1 by omega]; rfl
def RS0 (v : JV) (g : Nat → Int) : Prop := ∀ i : Nat, i < 3 → v 0 i = I (g i)
def RS1 (v : JV) (g : Nat → Int) (n : Nat) : Prop := ∀ p : Nat, p < n → v 1 p = I (g (4 + 2 * p)) ∧ v 2 p = I (g (5 + 2 * p))
def RS2 (v : JV) (g : Nat → Int) (n : Nat) : Prop := ∀ i : Nat, i < n → v 3 i = I (g (16 + 3 * i)) ∧ v 4 i = I (g (17 + 3 * i)) ∧ v 5 i = I (g (18 + 3 * i))
def RS3 (v : JV) (g : Nat → Int) (n : Nat) : Prop := ∀ h : Nat, h < n → v 6 h = I (g (64 + 3 * h)) ∧ v 7 h = I (g (65 + 3 * h))
theorem p_copyFrom {v w : JV} {g : Nat → Int} (hS : RS w g) (hB : Bd g) : ∃ v' : JV, f_X2_copyFrom v w = some v' ∧ RS v' g := by
  unfold f_X2_copyFrom f_X2_copyFrom_L2
  refine Exists.elim (lp_inv (P := Unit) (fun _ (rec : JV × Int32 → Option (JV)) a => f_X2_copyFrom_b2 w (fun x y => rec (x, y)) a.1 a.2) (fun i a => a.2 = I (i : Int) ∧ ∀ k : Nat, k < i → a.1 0 k = I (g k)) 3 (fun _ a => f_X2_copyFrom_L27 w FU a.1 (0 : Int32)) (fun i a hi ha => ?_) (fun a _ rec ha => ?_) FU (by have := FU_ge; omega) (v, (0 : Int32)) ⟨rfl, fun k hk => by omega⟩) (fun a1 h1 => ?_)
  · obtain ⟨u, x⟩ := a
    obtain ⟨hx, hw⟩ := ha
    dsimp only at hx hw
    subst hx
    refine ⟨(up2 u 0 i (I (g i)), I ((i + 1 : Nat) : Int)), ⟨rfl, fun k hk => ?_⟩, fun _ rec => ?_⟩
    · dsimp only
      rw [up2_if]
      by_cases c : k = i
      · rw [if_pos c, c]
      · rw [if_neg c]; exact hw k (by omega)
    · show f_X2_copyFrom_b2 w (fun x y => rec (x, y)) u (I (i : Int)) = _
      unfold f_X2_copyFrom_b2
      rw [show (3 : Int32) = I ((3 : Nat) : Int) from rfl, k_le (by omega) (by omega), if_neg (by omega), gd_t (inb_k hi (by omega)), gd_t (inb_k hi (by omega)), I_k (by omega), hS.1 i hi, one_add]
  · obtain ⟨u, x⟩ := a
    obtain ⟨hx, hw⟩ := ha
    dsimp only at hx hw ⊢
    subst hx
    unfold f_X2_copyFrom_b2
    rw [show (3 : Int32) = I ((3 : Nat) : Int) from rfl, k_le (by omega) (by omega), if_pos (by omega)]
  obtain ⟨⟨-, H0⟩, e0⟩ := h1
  refine Exists.elim (lp_inv (P := Unit) (fun _ (rec : JV × Int32 → Option (JV)) a => f_X2_copyFrom_b27 w (fun x y => rec (x, y)) a.1 a.2) (fun i a => a.2 = I (i : Int) ∧ RS0 a.1 g ∧ RS1 a.1 g i) 6 (fun _ a => f_X2_copyFrom_L65 w FU a.1 (0 : Int32)) (fun i a hi ha => ?_) (fun a _ rec ha => ?_) FU (by have := FU_ge; omega) (a1.1, (0 : Int32)) ⟨rfl, H0, fun k hk => by omega⟩) (fun a2 h2 => ?_)
  · obtain ⟨u, x⟩ := a
    obtain ⟨hx, hw0, hw⟩ := ha
    dsimp only at hx hw hw0
    subst hx
    refine ⟨(up2 (up2 u 1 i (I (g (4 + 2 * i)))) 2 i (I (g (5 + 2 * i))), I ((i + 1 : Nat) : Int)), ⟨rfl, fun k hk => ?_, fun k hk => ?_⟩, fun _ rec => ?_⟩
    · dsimp only
      rw [up2_v (show (0 : Nat) ≠ 2 by omega), up2_v (show (0 : Nat) ≠ 1 by omega)]
      exact hw0 k hk
    · dsimp only
      rw [up2_v (show (1 : Nat) ≠ 2 by omega), up2_if, up2_if]
      by_cases c : k = i
      · rw [if_pos c, if_pos c, c]; exact ⟨rfl, rfl⟩
      · rw [if_neg c, if_neg c, up2_v (show (2 : Nat) ≠ 1 by omega)]; exact hw k (by omega)
    · show f_X2_copyFrom_b27 w (fun x y => rec (x, y)) u (I (i : Int)) = _
      unfold f_X2_copyFrom_b27
      rw [c6, k_le (by omega) (by omega), if_neg (by omega), gd_t (inb_k hi (by omega)), gd_t (inb_k hi (by omega)), gd_t (inb_k hi (by omega)), gd_t (inb_k hi (by omega)), I_k (by omega), (hS.2.1 i hi).1, (hS.2.1 i hi).2, one_add]
  · obtain ⟨u, x⟩ := a
    obtain ⟨hx, hw⟩ := ha
    dsimp only at hx hw ⊢
    subst hx
    unfold f_X2_copyFrom_b27
    rw [c6, k_le (by omega) (by omega), if_pos (by omega)]
  obtain ⟨⟨-, H0, H1⟩, e1⟩ := h2
  refine Exists.elim (lp_inv (P := Unit) (fun _ (rec : JV × Int32 → Option (JV)) a => f_X2_copyFrom_b65 w (fun x y => rec (x, y)) a.1 a.2) (fun i a => a.2 = I (i : Int) ∧ RS0 a.1 g ∧ RS1 a.1 g 6 ∧ RS2 a.1 g i) 16 (fun _ a => f_X2_copyFrom_L115 w FU a.1 (0 : Int32)) (fun i a hi ha => ?_) (fun a _ rec ha => ?_) FU (by have := FU_ge; omega) (a2.1, (0 : Int32)) ⟨rfl, H0, H1, fun k hk => by omega⟩) (fun a3 h3 => ?_)
  · obtain ⟨u, x⟩ := a
    obtain ⟨hx, hw0, hw1, hw⟩ := ha
    dsimp only at hx hw hw0 hw1
    subst hx
    have hr := (hB.2.2.2.2.2.1 i hi).2.2
    refine ⟨(up2 (up2 (up2 u 3 i (I (g (16 + 3 * i)))) 4 i (I (g (17 + 3 * i)))) 5 i (I (g (18 + 3 * i))), I ((i + 1 : Nat) : Int)), ⟨rfl, fun k hk => ?_, fun k hk => ?_, fun k hk => ?_⟩, fun _ rec => ?_⟩
    · dsimp only
      rw [up2_v (show (0 : Nat) ≠ 5 by omega), up2_v (show (0 : Nat) ≠ 4 by omega), up2_v (show (0 : Nat) ≠ 3 by omega)]
      exact hw0 k hk
    · dsimp only
      rw [up2_v (show (1 : Nat) ≠ 5 by omega), up2_v (show (1 : Nat) ≠ 4 by omega), up2_v (show (1 : Nat) ≠ 3 by omega), up2_v (show (2 : Nat) ≠ 5 by omega), up2_v (show (2 : Nat) ≠ 4 by omega), up2_v (show (2 : Nat) ≠ 3 by omega)]
      exact hw1 k hk
    · dsimp only
      rw [up2_v (show (3 : Nat) ≠ 5 by omega), up2_v (show (3 : Nat) ≠ 4 by omega), up2_v (show (4 : Nat) ≠ 5 by omega), up2_if, up2_if, up2_if]
      by_cases c : k = i
      · rw [if_pos c, if_pos c, if_pos c, c]; exact ⟨rfl, rfl, rfl⟩
      · rw [if_neg c, if_neg c, if_neg c, up2_v (show (4 : Nat) ≠ 3 by omega), up2_v (show (5 : Nat) ≠ 4 by omega), up2_v (show (5 : Nat) ≠ 3 by omega)]; exact hw k (by omega)
    · show f_X2_copyFrom_b65 w (fun x y => rec (x, y)) u (I (i : Int)) = _
      unfold f_X2_copyFrom_b65
      rw [show (16 : Int32) = I ((16 : Nat) : Int) from rfl, k_le (by omega) (by omega), if_neg (by omega), gd_t (inb_k hi (by omega)), gd_t (inb_k hi (by omega)), gd_t (inb_k hi (by omega)), gd_t (inb_k hi (by omega)), gd_t (inb_k hi (by omega)), gd_t (inb_k hi (by omega)), I_k (by omega), (hS.2.2.1 i hi).1, (hS.2.2.1 i hi).2.1, (hS.2.2.1 i hi).2.2, gd_t (isb_01 hr.1 hr.2), one_add]
  · obtain ⟨u, x⟩ := a
    obtain ⟨hx, hw⟩ := ha
    dsimp only at hx hw ⊢
    subst hx
    unfold f_X2_copyFrom_b65
    rw [show (16 : Int32) = I ((16 : Nat) : Int) from rfl, k_le (by omega) (by omega), if_pos (by omega)]
  obtain ⟨⟨-, H0, H1, H2⟩, e2⟩ := h3
  refine Exists.elim (lp_inv (P := Unit) (fun _ (rec : JV × Int32 → Option (JV)) a => f_X2_copyFrom_b115 w (fun x y => rec (x, y)) a.1 a.2) (fun i a => a.2 = I (i : Int) ∧ RS0 a.1 g ∧ RS1 a.1 g 6 ∧ RS2 a.1 g 16 ∧ RS3 a.1 g i) 4 (fun _ a => some (up2 (up2 a.1 8 0 (w 8 0)) 9 0 (w 9 0))) (fun i a hi ha => ?_) (fun a _ rec ha => ?_) FU (by have := FU_ge; omega) (a3.1, (0 : Int32)) ⟨rfl, H0, H1, H2, fun k hk => by omega⟩) (fun a4 h4 => ?_)
  · obtain ⟨u, x⟩ := a
    obtain ⟨hx, hw0, hw1, hw2, hw⟩ := ha
    dsimp only at hx hw hw0 hw1 hw2
    subst hx
    refine ⟨(up2 (up2 u 6 i (I (g (64 + 3 * i)))) 7 i (I (g (65 + 3 * i))), I ((i + 1 : Nat) : Int)), ⟨rfl, fun k hk => ?_, fun k hk => ?_, fun k hk => ?_, fun k hk => ?_⟩, fun _ rec => ?_⟩
    · dsimp only
      rw [up2_v (show (0 : Nat) ≠ 7 by omega), up2_v (show (0 : Nat) ≠ 6 by omega)]
      exact hw0 k hk
    · dsimp only
      rw [up2_v (show (1 : Nat) ≠ 7 by omega), up2_v (show (1 : Nat) ≠ 6 by omega), up2_v (show (2 : Nat) ≠ 7 by omega), up2_v (show (2 : Nat) ≠ 6 by omega)]
      exact hw1 k hk
    · dsimp only
      rw [up2_v (show (3 : Nat) ≠ 7 by omega), up2_v (show (3 : Nat) ≠ 6 by omega), up2_v (show (4 : Nat) ≠ 7 by omega), up2_v (show (4 : Nat) ≠ 6 by omega), up2_v (show (5 : Nat) ≠ 7 by omega), up2_v (show (5 : Nat) ≠ 6 by omega)]
      exact hw2 k hk
    · dsimp only
      rw [up2_v (show (6 : Nat) ≠ 7 by omega), up2_if, up2_if]
      by_cases c : k = i
      · rw [if_pos c, if_pos c, c]; exact ⟨rfl, rfl⟩
      · rw [if_neg c, if_neg c, up2_v (show (7 : Nat) ≠ 6 by omega)]; exact hw k (by omega)
    · show f_X2_copyFrom_b115 w (fun x y => rec (x, y)) u (I (i : Int)) = _
      unfold f_X2_copyFrom_b115
      rw [show (4 : Int32) = I ((4 : Nat) : Int) from rfl, k_le (by omega) (by omega), if_neg (by omega), gd_t (inb_k hi (by omega)), gd_t (inb_k hi (by omega)), gd_t (inb_k hi (by omega)), gd_t (inb_k hi (by omega)), I_k (by omega), (hS.2.2.2.1 i hi).1, (hS.2.2.2.1 i hi).2, one_add]
  · obtain ⟨u, x⟩ := a
    obtain ⟨hx, hw⟩ := ha
    dsimp only at hx hw ⊢
    subst hx
    unfold f_X2_copyFrom_b115
    rw [show (4 : Int32) = I ((4 : Nat) : Int) from rfl, k_le (by omega) (by omega), if_pos (by omega)]
  obtain ⟨⟨-, H0, H1, H2, H3⟩, e3⟩ := h4
  refine ⟨_, ((((e0 ()).trans (e1 ())).trans (e2 ())).trans (e3 ())), ?_, ?_, ?_, ?_, ?_, ?_⟩
  · intro i hi
    rw [up2_v (show (0 : Nat) ≠ 9 by omega), up2_v (show (0 : Nat) ≠ 8 by omega)]
    exact H0 i hi
  · intro i hi
    rw [up2_v (show (1 : Nat) ≠ 9 by omega), up2_v (show (1 : Nat) ≠ 8 by omega), up2_v (show (2 : Nat) ≠ 9 by omega), up2_v (show (2 : Nat) ≠ 8 by omega)]
    exact H1 i hi
  · intro i hi
    rw [up2_v (show (3 : Nat) ≠ 9 by omega), up2_v (show (3 : Nat) ≠ 8 by omega), up2_v (show (4 : Nat) ≠ 9 by omega), up2_v (show (4 : Nat) ≠ 8 by omega), up2_v (show (5 : Nat) ≠ 9 by omega), up2_v (show (5 : Nat) ≠ 8 by omega)]
    exact H2 i hi
  · intro i hi
    rw [up2_v (show (6 : Nat) ≠ 9 by omega), up2_v (show (6 : Nat) ≠ 8 by omega), up2_v (show (7 : Nat) ≠ 9 by omega), up2_v (show (7 : Nat) ≠ 8 by omega)]
    exact H3 i hi
  · rw [up2_v (show (8 : Nat) ≠ 9 by omega), up2_if, if_pos rfl]
    exact hS.2.2.2.2.1
  · rw [up2_if, if_pos rfl]
    exact hS.2.2.2.2.2
/-! the reference's copies of its row -/
/-- field b gets f i at m + i for i < n -/
def vcp (v : JV) (b m : Nat) (f : Nat → Int32) : Nat → JV
  | 0 => v
  | i + 1 => up2 (vcp v b m f i) b (m + i) (f i)
theorem vcp_ne (v : JV) {b m : Nat} {f : Nat → Int32} {a : Nat} (h : a ≠ b) : ∀ n : Nat, vcp v b m f n a = v a
  | 0 => rfl
  | n + 1 => by
    show up2 (vcp v b m f n) b (m + n) (f n) a = _
    rw [up2_ne _ _ _ h]
    exact vcp_ne v h n
theorem vcp_in (v : JV) {b m : Nat} {f : Nat → Int32} : ∀ (n k : Nat), k < n → vcp v b m f n b (m + k) = f k
  | 0, k, h => by omega
  | n + 1, k, h => by
    show up2 (vcp v b m f n) b (m + n) (f n) b (m + k) = _
    rw [up2_if]
    by_cases c : k = n
    · rw [if_pos (by omega), c]
    · rw [if_neg (by omega)]; exact vcp_in v n k (by omega)
theorem vcp_out (v : JV) {b m : Nat} {f : Nat → Int32} {j : Nat} : ∀ (n : Nat), (∀ k : Nat, k < n → j ≠ m + k) → vcp v b m f n b j = v b j
  | 0, _ => rfl
  | n + 1, h => by
    show up2 (vcp v b m f n) b (m + n) (f n) b j = _
    rw [up2_if, if_neg (h n (by omega))]
    exact vcp_out v n (fun k hk => h k (by omega))
