/-! ===== (from the parts of whole) ===== -/
def allB (P : Nat → Bool) : Nat → Bool
  | 0 => true
  | n + 1 => allB P n && P n
def anyB (P : Nat → Bool) : Nat → Bool
  | 0 => false
  | n + 1 => anyB P n || P n
theorem allB_iff {P : Nat → Bool} : ∀ {n : Nat}, allB P n = true ↔ ∀ i : Nat, i < n → P i = true
  | 0 => by simp [allB]
  | n + 1 => by
    simp only [allB, Bool.and_eq_true, allB_iff (n := n)]
    constructor
    · rintro ⟨h1, h2⟩ i hi
      by_cases c : i = n
      · rw [c]; exact h2
      · exact h1 i (by omega)
    · intro h
      exact ⟨fun i hi => h i (by omega), h n (by omega)⟩
theorem anyB_iff {P : Nat → Bool} : ∀ {n : Nat}, anyB P n = true ↔ ∃ i : Nat, i < n ∧ P i = true
  | 0 => by simp [anyB]
  | n + 1 => by
    simp only [anyB, Bool.or_eq_true, anyB_iff (n := n)]
    constructor
    · rintro (⟨i, h1, h2⟩ | h)
      · exact ⟨i, by omega, h2⟩
      · exact ⟨n, by omega, h⟩
    · rintro ⟨i, h1, h2⟩
      by_cases c : i = n
      · rw [c] at h2; exact Or.inr h2
      · exact Or.inl ⟨i, by omega, h2⟩
/-- the first below n, or n -/
def ff (P : Nat → Bool) : Nat → Nat
  | 0 => 0
  | n + 1 => if ff P n < n then ff P n else if P n then n else n + 1
theorem ff_le (P : Nat → Bool) : ∀ n : Nat, ff P n ≤ n
  | 0 => Nat.le_refl _
  | n + 1 => by
    have h := ff_le P n
    unfold ff
    split
    · omega
    · split <;> omega
theorem ff_lo (P : Nat → Bool) : ∀ n i : Nat, i < ff P n → P i = false
  | 0, i, h => by unfold ff at h; omega
  | n + 1, i, h => by
    have hl := ff_le P n
    unfold ff at h
    split at h
    · exact ff_lo P n i h
    · split at h
      · exact ff_lo P n i (by omega)
      · by_cases c : i = n
        · subst c; rename_i h2; simpa using h2
        · exact ff_lo P n i (by omega)
theorem ff_hi (P : Nat → Bool) : ∀ n : Nat, ff P n < n → P (ff P n) = true
  | 0, h => by omega
  | n + 1, h => by
    unfold ff at h ⊢
    split
    · rename_i c; exact ff_hi P n c
    · rename_i c
      rw [if_neg c] at h
      split
      · rename_i c2; exact c2
      · rename_i c2; rw [if_neg c2] at h; omega
theorem ff_of {P : Nat → Bool} {n i : Nat} (h1 : i < n) (h2 : P i = true) (h3 : ∀ j : Nat, j < i → P j = false) : ff P n = i := by
  have a := ff_le P n
  by_cases c : ff P n < i
  · have b := ff_hi P n (by omega)
    rw [h3 _ c] at b
    cases b
  · by_cases c2 : i < ff P n
    · rw [ff_lo P n i c2] at h2
      cases h2
    · omega
theorem ff_none {P : Nat → Bool} {n : Nat} (h : ∀ j : Nat, j < n → P j = false) : ff P n = n := by
  have a := ff_le P n
  by_cases c : ff P n < n
  · have b := ff_hi P n c
    rw [h _ c] at b
    cases b
  · omega
theorem ff_congr {P P' : Nat → Bool} {n : Nat} (h : ∀ i : Nat, i < n → P i = P' i) : ff P n = ff P' n := by
  have a := ff_le P' n
  by_cases c : ff P' n < n
  · exact ff_of c (by rw [h _ c]; exact ff_hi P' n c) (fun j hj => by rw [h j (by omega)]; exact ff_lo P' n j hj)
  · rw [ff_none (P := P) (fun j hj => by rw [h j hj]; exact ff_lo P' n j (by omega))]
    omega
/-- a loop that looks for the first -/
theorem lp_ff {A S : Type} (F : (A → Option S) → A → Option S) (s : Nat → A) (P : Nat → Bool) (N : Nat) (res : Nat → Option S) (hs : ∀ (rec : A → Option S) (i : Nat), i < N → P i = false → F rec (s i) = rec (s (i + 1))) (hf : ∀ (rec : A → Option S) (i : Nat), i < N → P i = true → F rec (s i) = res i) (he : ∀ rec : A → Option S, F rec (s N) = res N) (n : Nat) (hn : N < n) : lp F n (s 0) = res (ff P N) := by
  have hl := ff_le P N
  refine lp_run F s (ff P N) _ (fun rec i hi => hs rec i (by omega) (ff_lo P N i hi)) (fun rec => ?_) n (by omega)
  by_cases c : ff P N < N
  · exact hf rec _ c (ff_hi P N c)
  · have e : ff P N = N := by omega
    rw [e]
    exact he rec
def Zb (z : Nat → Int) : Prop := ∀ k : Nat, -6 ≤ z k ∧ z k ≤ 69
def apart (g : Nat → Int) (o k : Nat) : Bool := decide (ek g o + g 2 ≤ bk g k) || decide (ek g k + g 2 ≤ bk g o)
def okO (g z : Nat → Int) (q : Int) (k o : Nat) : Bool := !(z o == q) || apart g o k
def fre (g z : Nat → Int) (q : Int) (k : Nat) : Bool := allB (okO g z q k) 96
