/-! ===== searches ===== -/
def allB (P : Nat → Bool) : Nat → Bool
  | 0 => true
  | n + 1 => allB P n && P n
def anyB (P : Nat → Bool) : Nat → Bool
  | 0 => false
  | n + 1 => anyB P n || P n
theorem allB_iff {P : Nat → Bool} : ∀ {n : Nat}, allB P n = true ↔ ∀ i : Nat, i < n → P i = true
  | 0 => by simp [allB]
  | n + 1 => by
    simp only [allB, Bool.and_eq_true, allB_iff (n := n)]
    constructor
    · rintro ⟨h1, h2⟩ i hi
      by_cases c : i = n
      · rw [c]; exact h2
      · exact h1 i (by omega)
    · intro h
      exact ⟨fun i hi => h i (by omega), h n (by omega)⟩
theorem anyB_iff {P : Nat → Bool} : ∀ {n : Nat}, anyB P n = true ↔ ∃ i : Nat, i < n ∧ P i = true
  | 0 => by simp [anyB]
  | n + 1 => by
    simp only [anyB, Bool.or_eq_true, anyB_iff (n := n)]
    constructor
    · rintro (⟨i, h1, h2⟩ | h)
      · exact ⟨i, by omega, h2⟩
      · exact ⟨n, by omega, h⟩
    · rintro ⟨i, h1, h2⟩
      by_cases c : i = n
      · rw [c] at h2; exact Or.inr h2
      · exact Or.inl ⟨i, by omega, h2⟩
/-- the first below n, or n -/
def ff (P : Nat → Bool) : Nat → Nat
  | 0 => 0
  | n + 1 => if ff P n < n then ff P n else if P n then n else n + 1
theorem ff_le (P : Nat → Bool) : ∀ n : Nat, ff P n ≤ n
  | 0 => Nat.le_refl _
  | n + 1 => by
    have h := ff_le P n
    unfold ff
    split
    · omega
    · split <;> omega
theorem ff_lo (P : Nat → Bool) : ∀ n i : Nat, i < ff P n → P i = false
  | 0, i, h => by unfold ff at h; omega
  | n + 1, i, h => by
    have hl := ff_le P n
    unfold ff at h
    split at h
    · exact ff_lo P n i h
    · split at h
      · exact ff_lo P n i (by omega)
      · by_cases c : i = n
        · subst c; rename_i h2; simpa using h2
        · exact ff_lo P n i (by omega)
theorem ff_hi (P : Nat → Bool) : ∀ n : Nat, ff P n < n → P (ff P n) = true
  | 0, h => by omega
  | n + 1, h => by
    unfold ff at h ⊢
    split
    · rename_i c; exact ff_hi P n c
    · rename_i c
      rw [if_neg c] at h
      split
      · rename_i c2; exact c2
      · rename_i c2; rw [if_neg c2] at h; omega
theorem ff_of {P : Nat → Bool} {n i : Nat} (h1 : i < n) (h2 : P i = true) (h3 : ∀ j : Nat, j < i → P j = false) : ff P n = i := by
  have a := ff_le P n
  by_cases c : ff P n < i
  · have b := ff_hi P n (by omega)
    rw [h3 _ c] at b
    cases b
  · by_cases c2 : i < ff P n
    · rw [ff_lo P n i c2] at h2
      cases h2
    · omega
theorem ff_none {P : Nat → Bool} {n : Nat} (h : ∀ j : Nat, j < n → P j = false) : ff P n = n := by
  have a := ff_le P n
  by_cases c : ff P n < n
  · have b := ff_hi P n c
    rw [h _ c] at b
    cases b
  · omega
theorem ff_congr {P P' : Nat → Bool} {n : Nat} (h : ∀ i : Nat, i < n → P i = P' i) : ff P n = ff P' n := by
  have a := ff_le P' n
  by_cases c : ff P' n < n
  · exact ff_of c (by rw [h _ c]; exact ff_hi P' n c) (fun j hj => by rw [h j (by omega)]; exact ff_lo P' n j hj)
  · rw [ff_none (P := P) (fun j hj => by rw [h j hj]; exact ff_lo P' n j (by omega))]
    omega
/-- a loop that looks for the first -/
theorem lp_ff {A S : Type} (F : (A → Option S) → A → Option S) (s : Nat → A) (P : Nat → Bool) (N : Nat) (res : Nat → Option S) (hs : ∀ (rec : A → Option S) (i : Nat), i < N → P i = false → F rec (s i) = rec (s (i + 1))) (hf : ∀ (rec : A → Option S) (i : Nat), i < N → P i = true → F rec (s i) = res i) (he : ∀ rec : A → Option S, F rec (s N) = res N) (n : Nat) (hn : N < n) : lp F n (s 0) = res (ff P N) := by
  have hl := ff_le P N
  refine lp_run F s (ff P N) _ (fun rec i hi => hs rec i (by omega) (ff_lo P N i hi)) (fun rec => ?_) n (by omega)
  by_cases c : ff P N < N
  · exact hf rec _ c (ff_hi P N c)
  · have e : ff P N = N := by omega
    rw [e]
    exact he rec
/-! ===== the reference's searches, over the seats z ===== -/
def RZ (v : JV) (z : Nat → Int) : Prop := ∀ k : Nat, k < 96 → v 6 k = I (z k)
def Zb (z : Nat → Int) : Prop := ∀ k : Nat, -6 ≤ z k ∧ z k ≤ 69
def apart (g : Nat → Int) (o k : Nat) : Bool := decide (ek g o + g 2 ≤ bk g k) || decide (ek g k + g 2 ≤ bk g o)
def okO (g z : Nat → Int) (q : Int) (k o : Nat) : Bool := !(z o == q) || apart g o k
def fre (g z : Nat → Int) (q : Int) (k : Nat) : Bool := allB (okO g z q k) 96
theorem m_isFree {v : JV} {g z : Nat → Int} (hM : RM (v 0) g) (hB : Bd g) (hZ : RZ v z) (hz : Zb z) {q : Int} {k : Nat} (hq : 0 ≤ q ∧ q ≤ 1000) (hk : k < 96) : f_X5_isFree v (I q) (I (k : Int)) = some (I (B1 (fre g z q k))) := by
  have hg := hB.2.2.1
  have k1 := bk_bd hB hk
  have k2 := ek_bd hB hk
  have K : ∀ (r : Int32 → Int32 → Option Int32) (b : Bool) (o : Nat) (y : Bool), o < 96 → f_X5_isFree_K59 v r (I q) (I (k : Int)) (I (B1 b)) (I (o : Int)) (I (B1 y)) = r (I (B1 (b && (!(z o == q) || y)))) (I ((o + 1 : Nat) : Int)) := by
    intro r b o y ho
    have hzo := hz o
    unfold f_X5_isFree_K59
    rw [one_add, ite_B1, ite_B1, gd_t (inb_k ho (by omega)), I_k (by omega), hZ o ho, ite_eq (rng_of (by omega) (by omega)) (rng_of (by omega) (by omega))]
    by_cases c : z o = q
    · rw [if_pos c, show (z o == q) = true by simpa using c]
      cases b <;> cases y <;> rfl
    · rw [if_neg c, show (z o == q) = false by simpa using c]
      cases b <;> cases y <;> rfl
  unfold f_X5_isFree f_X5_isFree_L5
  refine lp_run _ (fun o => (I (B1 (allB (okO g z q k) o)), I (o : Int))) 96 _ (fun rec o ho => ?_) (fun rec => ?_) FU (by have := FU_ge; omega)
  · show f_X5_isFree_b5 v (I q) (I (k : Int)) (fun x y => rec (x, y)) (I (B1 (allB (okO g z q k) o))) (I (o : Int)) = rec (I (B1 (allB (okO g z q k) o && okO g z q k o)), I ((o + 1 : Nat) : Int))
    have o1 := bk_bd hB ho
    have o2 := ek_bd hB ho
    unfold f_X5_isFree_b5 f_X5_isFree_K54
    rw [m_ends hM hB ho, m_begins hM hk, m_begins hM ho, m_ends hM hB hk]
    simp only [Option.bind_some]
    rw [show (96 : Int32) = I ((96 : Nat) : Int) from rfl, k_le (by omega) (by omega), if_neg (by omega), hM 2 (by omega), I_add, I_add, ite_le (rng_of (by omega) (by omega)) (rng_of (by omega) (by omega)), ite_lt (rng_of (by omega) (by omega)) (rng_of (by omega) (by omega)), show (1 : Int32) = I (B1 true) from rfl, show (0 : Int32) = I (B1 false) from rfl, K _ _ o true ho, K _ _ o false ho]
    unfold okO apart
    by_cases c1 : ek g o + g 2 ≤ bk g k
    · rw [if_pos c1, decide_eq_true c1]; rfl
    · rw [if_neg c1, decide_eq_false c1]
      by_cases c2 : bk g o < ek g k + g 2
      · rw [if_pos c2, decide_eq_false (show ¬ ek g k + g 2 ≤ bk g o by omega)]; rfl
      · rw [if_neg c2, decide_eq_true (show ek g k + g 2 ≤ bk g o by omega)]; rfl
  · show f_X5_isFree_b5 v (I q) (I (k : Int)) (fun x y => rec (x, y)) (I (B1 (allB (okO g z q k) 96))) (I ((96 : Nat) : Int)) = _
    unfold f_X5_isFree_b5
    rw [show (96 : Int32) = I ((96 : Nat) : Int) from rfl, k_le (by omega) (by omega), if_pos (by omega), gd_t (B1_isb _)]
    rfl
