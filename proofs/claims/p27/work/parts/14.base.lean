/-! ===== (from the parts of whole) ===== -/
def Bd (g : Nat → Int) : Prop :=
  (0 ≤ g 0 ∧ g 0 ≤ 1) ∧ (0 ≤ g 1 ∧ g 1 ≤ 6) ∧ (0 ≤ g 2 ∧ g 2 ≤ 60) ∧ (0 ≤ g 3 ∧ g 3 ≤ 16) ∧
  (∀ p : Nat, p < 6 → (0 ≤ g (4 + 2 * p) ∧ g (4 + 2 * p) ≤ 19) ∧ (30 ≤ g (5 + 2 * p) ∧ g (5 + 2 * p) ≤ 180)) ∧
  (∀ i : Nat, i < 16 → (0 ≤ g (16 + 3 * i) ∧ g (16 + 3 * i) ≤ 63) ∧ (0 ≤ g (17 + 3 * i) ∧ g (17 + 3 * i) ≤ 100) ∧ (0 ≤ g (18 + 3 * i) ∧ g (18 + 3 * i) ≤ 1)) ∧
  (∀ h : Nat, h < 4 → (1 ≤ g (64 + 3 * h) ∧ g (64 + 3 * h) ≤ 4) ∧ (1 ≤ g (65 + 3 * h) ∧ g (65 + 3 * h) ≤ 4) ∧ (0 ≤ g (66 + 3 * h) ∧ g (66 + 3 * h) ≤ 1))
def opn (g : Nat → Int) : Int := g 66 + 2 * g 69 + 4 * g 72 + 8 * g 75
/-- the class's School -/
def RS (v : JV) (g : Nat → Int) : Prop :=
  (∀ i : Nat, i < 3 → v 0 i = I (g i)) ∧ (∀ p : Nat, p < 6 → v 1 p = I (g (4 + 2 * p)) ∧ v 2 p = I (g (5 + 2 * p))) ∧
  (∀ i : Nat, i < 16 → v 3 i = I (g (16 + 3 * i)) ∧ v 4 i = I (g (17 + 3 * i)) ∧ v 5 i = I (g (18 + 3 * i))) ∧
  (∀ h : Nat, h < 4 → v 6 h = I (g (64 + 3 * h)) ∧ v 7 h = I (g (65 + 3 * h))) ∧ v 8 0 = I (g 3) ∧ v 9 0 = I (opn g)
def bt (x : Int) (p : Nat) : Bool := (x / 2 ^ p) % 2 == 1
def bg (g : Nat → Int) (p : Nat) : Int := 30 * g (4 + 2 * p)
def mn (g : Nat → Int) (i p : Nat) : Int := (g (5 + 2 * p) * (100 + g (17 + 3 * i)) + 99) / 100
def en (g : Nat → Int) (i p : Nat) : Int := bg g p + mn g i p
def B1 (b : Bool) : Int := if b then 1 else 0
theorem rng_of {a : Int} (h1 : -1000000 ≤ a) (h2 : a ≤ 1000000) : rng a := by unfold rng; omega
theorem bit_raw : ∀ x : Fin 64, ∀ p : Fin 6, ((I (x.val : Int) >>> (I (p.val : Int) &&& 31)) &&& 1) = I (B1 (bt (x.val : Int) p.val)) := by decide +kernel
theorem bit_I {x : Int} {p : Nat} (h0 : 0 ≤ x) (h1 : x ≤ 63) (hp : p < 6) : ((I x >>> (I (p : Int) &&& 31)) &&& 1) = I (B1 (bt x p)) := by
  have h := bit_raw ⟨x.toNat, by omega⟩ ⟨p, hp⟩
  simp only [Int.toNat_of_nonneg h0] at h
  exact h
theorem nn (k : Nat) : ((k : Int)).toNat = k := Int.toNat_natCast k
theorem I_k {k : Nat} (h : k < 1000000) : (I (k : Int)).toNatClampNeg = k := by
  rw [I_nat (rng_of (by omega) (by omega)), nn]
theorem inb_k {k n : Nat} (h : k < n) (hn : n < 1000000) : inb (I (k : Int)) n = true := inb_t (by omega) (by omega) (by omega)
theorem B1_isb (b : Bool) : isb (I (B1 b)) = true := by cases b <;> rfl
theorem B1_1 (b : Bool) : (I (B1 b) = 1) = (b = true) := by cases b <;> simp [B1] <;> decide
theorem B1_0 (b : Bool) : (I (B1 b) = 0) = (b = false) := by cases b <;> simp [B1] <;> decide
theorem p_contains {x : Int} {p : Nat} (h0 : 0 ≤ x) (h1 : x ≤ 63) (hp : p < 6) : f_X4_contains (I x) (I (p : Int)) = some (I (B1 (bt x p))) := by
  unfold f_X4_contains
  rw [bit_I h0 h1 hp]
  cases bt x p <;> rfl
theorem p_sits {v : JV} {g : Nat → Int} (hS : RS v g) (hB : Bd g) {i p : Nat} (hi : i < 16) (hp : p < 6) : f_X2_sits v (I (i : Int)) (I (p : Int)) = some (I (B1 (bt (g (16 + 3 * i)) p))) := by
  unfold f_X2_sits
  have hb := hB.2.2.2.2.2.1 i hi
  rw [gd_t (inb_k hi (by omega)), I_k (by omega), (hS.2.2.1 i hi).1, p_contains hb.1.1 hb.1.2 hp]
  simp only [Option.bind_some]
  rw [gd_t (B1_isb _)]
theorem p_beginOf {v : JV} {g : Nat → Int} (hS : RS v g) {p : Nat} (hp : p < 6) : f_X2_beginOf v (I (p : Int)) = some (I (bg g p)) := by
  unfold f_X2_beginOf
  rw [gd_t (inb_k hp (by omega)), I_k (by omega), (hS.2.1 p hp).1]
  show some (I 30 * _) = _
  rw [I_mul]
  rfl
theorem mn_bd {g : Nat → Int} (hB : Bd g) {i p : Nat} (hi : i < 16) (hp : p < 6) : 0 ≤ g (5 + 2 * p) * (100 + g (17 + 3 * i)) ∧ g (5 + 2 * p) * (100 + g (17 + 3 * i)) ≤ 36000 ∧ 30 ≤ mn g i p ∧ mn g i p ≤ 361 := by
  have h1 := (hB.2.2.2.2.1 p hp).2
  have h2 := (hB.2.2.2.2.2.1 i hi).2.1
  have h3 : 30 * 100 ≤ g (5 + 2 * p) * (100 + g (17 + 3 * i)) := Int.mul_le_mul h1.1 (by omega) (by omega) (by omega)
  have h4 : g (5 + 2 * p) * (100 + g (17 + 3 * i)) ≤ 180 * 200 := Int.mul_le_mul h1.2 (by omega) (by omega) (by omega)
  unfold mn
  omega
theorem bg_bd {g : Nat → Int} (hB : Bd g) {p : Nat} (hp : p < 6) : 0 ≤ bg g p ∧ bg g p ≤ 570 := by
  have h1 := (hB.2.2.2.2.1 p hp).1
  unfold bg
  omega
theorem en_bd {g : Nat → Int} (hB : Bd g) {i p : Nat} (hi : i < 16) (hp : p < 6) : bg g p + 30 ≤ en g i p ∧ en g i p ≤ 931 := by
  have h1 := mn_bd hB hi hp
  have h2 := bg_bd hB hp
  unfold en
  omega
theorem p_lengthOf {v : JV} {g : Nat → Int} (hS : RS v g) (hB : Bd g) {i p : Nat} (hi : i < 16) (hp : p < 6) : f_X2_lengthOf v (I (i : Int)) (I (p : Int)) = some (I (mn g i p)) := by
  unfold f_X2_lengthOf
  have hm := mn_bd hB hi hp
  rw [gd_t (inb_k hp (by omega)), gd_t (inb_k hi (by omega)), I_k (by omega), I_k (by omega), (hS.2.1 p hp).2, (hS.2.2.1 i hi).2.1]
  show some ((_ * (I 100 + _) + I 99) / I 100) = _
  rw [I_add, I_mul, I_add, I_div (by omega) (by omega) (by omega) (by omega)]
  rfl
theorem p_endOf {v : JV} {g : Nat → Int} (hS : RS v g) (hB : Bd g) {i p : Nat} (hi : i < 16) (hp : p < 6) : f_X2_endOf v (I (i : Int)) (I (p : Int)) = some (I (en g i p)) := by
  unfold f_X2_endOf
  rw [p_beginOf hS hp, p_lengthOf hS hB hi hp]
  show some (_ + _) = _
  rw [I_add]
  rfl
