/-! ===== (from the parts of whole) ===== -/
def hallOf (x : Int) : Int := if 0 ≤ x ∧ x < 64 then x / 16 else -6
def deskOf (x : Int) : Int := if 0 ≤ x ∧ x < 64 then x % 16 else -6
def roomOf (x : Int) : Int := if 64 ≤ x then x - 64 else -6
def TS (v : JV) (g z : Nat → Int) (c cr : Nat) : Prop :=
  (∀ k : Nat, k < 96 → v 1 k = I (hallOf (z k)) ∧ v 2 k = I (deskOf (z k)) ∧ v 3 k = I (roomOf (z k))) ∧
  (∀ q : Nat, q < 64 → ∃ x : Int, v 6 q = I x ∧ Last g z (q : Int) x) ∧ PM (v 7) z ∧
  (∀ r : Nat, r < 6 → ∃ x : Int, v 8 r = I x ∧ Last g z ((64 + r : Nat) : Int) x) ∧ v 4 0 = I (c : Int) ∧ v 5 0 = I (cr : Int)
theorem open_raw : ∀ a b c d : Fin 2, ∀ h : Fin 4, (((I ((a.val : Int) + 2 * (b.val : Int) + 4 * (c.val : Int) + 8 * (d.val : Int)) >>> (I (h.val : Int) &&& 31)) &&& 1) = I (B1 (decide ((if h.val = 0 then a.val else if h.val = 1 then b.val else if h.val = 2 then c.val else d.val) = 1)))) := by decide +kernel
theorem open_bit {g : Nat → Int} (hB : Bd g) {h : Nat} (hh : h < 4) : ((I (opn g) >>> (I (h : Int) &&& 31)) &&& 1) = I (B1 (decide (g (66 + 3 * h) = 1))) := by
  have b0 : 0 ≤ g 66 ∧ g 66 ≤ 1 := (hB.2.2.2.2.2.2 0 (by omega)).2.2
  have b1 : 0 ≤ g 69 ∧ g 69 ≤ 1 := (hB.2.2.2.2.2.2 1 (by omega)).2.2
  have b2 : 0 ≤ g 72 ∧ g 72 ≤ 1 := (hB.2.2.2.2.2.2 2 (by omega)).2.2
  have b3 : 0 ≤ g 75 ∧ g 75 ≤ 1 := (hB.2.2.2.2.2.2 3 (by omega)).2.2
  have h1 := open_raw ⟨(g 66).toNat, by omega⟩ ⟨(g 69).toNat, by omega⟩ ⟨(g 72).toNat, by omega⟩ ⟨(g 75).toNat, by omega⟩ ⟨h, hh⟩
  simp only [Int.toNat_of_nonneg b0.1, Int.toNat_of_nonneg b1.1, Int.toNat_of_nonneg b2.1, Int.toNat_of_nonneg b3.1] at h1
  unfold opn
  rw [h1]
  congr 2
  rcases (show h = 0 ∨ h = 1 ∨ h = 2 ∨ h = 3 by omega) with rfl | rfl | rfl | rfl
  · simp only [if_true]
    by_cases c : g 66 = 1
    · rw [decide_eq_true c, decide_eq_true (by omega)]
    · rw [decide_eq_false c, decide_eq_false (by omega)]
  · simp only [if_true, if_neg (show ¬ (1 : Nat) = 0 by omega)]
    by_cases c : g 69 = 1
    · rw [decide_eq_true c, decide_eq_true (by omega)]
    · rw [decide_eq_false c, decide_eq_false (by omega)]
  · simp only [if_true, if_neg (show ¬ (2 : Nat) = 0 by omega), if_neg (show ¬ (2 : Nat) = 1 by omega)]
    by_cases c : g 72 = 1
    · rw [decide_eq_true c, decide_eq_true (by omega)]
    · rw [decide_eq_false c, decide_eq_false (by omega)]
  · simp only [if_neg (show ¬ (3 : Nat) = 0 by omega), if_neg (show ¬ (3 : Nat) = 1 by omega), if_neg (show ¬ (3 : Nat) = 2 by omega)]
    by_cases c : g 75 = 1
    · rw [decide_eq_true c, decide_eq_true (by omega)]
    · rw [decide_eq_false c, decide_eq_false (by omega)]
theorem p_isOpen {vS : JV} {g : Nat → Int} (hS : RS vS g) (hB : Bd g) {h : Nat} (hh : h < 4) : f_X2_isOpen vS (I (h : Int)) = some (I (B1 (decide (g (66 + 3 * h) = 1)))) := by
  unfold f_X2_isOpen f_X4_contains
  rw [hS.2.2.2.2.2, open_bit hB hh]
  cases decide (g (66 + 3 * h) = 1) <;> rfl
theorem p_sittingNumber (i p : Nat) : f_X4_sittingNumber (I (i : Int)) (I (p : Int)) = some (I ((6 * i + p : Nat) : Int)) := by
  unfold f_X4_sittingNumber
  rw [c6, nat_mul, nat_add]
theorem or_raw2 : ∀ m : Fin 64, ∀ p : Fin 6, (I (m.val : Int) ||| ((1 : Int32) <<< (I (p.val : Int) &&& 31))) = I ((m.val ||| 2 ^ p.val : Nat) : Int) ∧ m.val ||| 2 ^ p.val < 64 ∧ ∀ q : Fin 6, bt ((m.val ||| 2 ^ p.val : Nat) : Int) q.val = (bt (m.val : Int) q.val || decide (q.val = p.val)) := by decide +kernel
theorem zset_at {z : Nat → Int} {k : Nat} {x : Int} : zset z k x k = x := by unfold zset; rw [if_pos rfl]
theorem zset_ne {z : Nat → Int} {k o : Nat} {x : Int} (h : o ≠ k) : zset z k x o = z o := by unfold zset; rw [if_neg h]
theorem hasB_set {z : Nat → Int} {k : Nat} {x q : Int} {p : Nat} (hk : k < 96) (hp : p < 6) (hx : 0 ≤ q) (hz : z k = -6) : hasB (zset z k x) q p = (hasB z q p || (decide (x = q) && decide (p = k % 6))) := by
  have e : hasB (zset z k x) q p = true ↔ (hasB z q p = true ∨ (x = q ∧ p = k % 6)) := by
    unfold hasB
    rw [anyB_iff, anyB_iff]
    constructor
    · rintro ⟨j, h1, h2⟩
      simp only [beq_iff_eq] at h2
      by_cases c : 6 * j + p = k
      · rw [c, zset_at] at h2
        exact Or.inr ⟨h2, by omega⟩
      · rw [zset_ne c] at h2
        exact Or.inl ⟨j, h1, by simpa using h2⟩
    · rintro (⟨j, h1, h2⟩ | ⟨h1, h2⟩)
      · simp only [beq_iff_eq] at h2
        have c : 6 * j + p ≠ k := fun c => by rw [c, hz] at h2; omega
        exact ⟨j, h1, by rw [zset_ne c]; simpa using h2⟩
      · exact ⟨k / 6, by omega, by rw [show 6 * (k / 6) + p = k by omega, zset_at]; simpa using h1⟩
  cases h1 : hasB z q p
  · rw [h1] at e
    rw [Bool.false_or]
    by_cases c : x = q ∧ p = k % 6
    · rw [e.mpr (Or.inr c), decide_eq_true c.1, decide_eq_true c.2]; rfl
    · cases h2 : hasB (zset z k x) q p
      · by_cases c1 : x = q
        · rw [decide_eq_true c1, decide_eq_false (fun c2 => c ⟨c1, c2⟩)]; rfl
        · rw [decide_eq_false c1]; rfl
      · rcases e.mp h2 with h | h
        · cases h
        · exact absurd h c
  · rw [h1] at e
    rw [e.mpr (Or.inl rfl)]; rfl
theorem last_other {g z : Nat → Int} {k : Nat} {x q y : Int} (hz : z k = -6) (hq : 0 ≤ q) (hne : x ≠ q) (h : Last g z q y) : Last g (zset z k x) q y := by
  rcases h with ⟨h1, h2⟩ | ⟨⟨o, h1, h2, h3⟩, h4⟩
  · refine Or.inl ⟨h1, fun o ho => ?_⟩
    by_cases c : o = k
    · rw [c, zset_at]; exact hne
    · rw [zset_ne c]; exact h2 o ho
  · have c : o ≠ k := fun c => by rw [c, hz] at h2; omega
    refine Or.inr ⟨⟨o, h1, by rw [zset_ne c]; exact h2, h3⟩, fun o2 ho2 hz2 => ?_⟩
    by_cases c2 : o2 = k
    · rw [c2, zset_at] at hz2; exact absurd hz2 hne
    · rw [zset_ne c2] at hz2; exact h4 o2 ho2 hz2
theorem last_self {g z : Nat → Int} (hB : Bd g) {k : Nat} {q : Int} (hk : k < 96) (hf : fre g z q k = true) (hp : ∀ o : Nat, o < 96 → z o = q → bk g o ≤ bk g k) : Last g (zset z k q) q (ek g k) := by
  refine Or.inr ⟨⟨k, hk, zset_at, rfl⟩, fun o ho hz => ?_⟩
  by_cases c : o = k
  · rw [c]; omega
  · rw [zset_ne c] at hz
    unfold fre at hf
    rw [allB_iff] at hf
    have h1 := hf o ho
    have h2 := hp o ho hz
    have k1 := bk_bd hB hk
    have k2 := ek_bd hB hk
    have hg := hB.2.2.1
    unfold okO apart at h1
    rw [show (z o == q) = true by simpa using hz] at h1
    simp only [Bool.not_true, Bool.false_or, Bool.or_eq_true, decide_eq_true_eq] at h1
    omega
theorem zset_m6 {z : Nat → Int} {k : Nat} (hz : z k = -6) : zset z k (-6) = z := by
  funext o
  unfold zset
  split
  · rename_i c; rw [c, hz]
  · rfl
