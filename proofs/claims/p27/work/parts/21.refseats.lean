/-! ===== (from the parts of whole) ===== -/
def kn (n : Nat) : Nat := n % 16 * 6 + n % 96 / 16
theorem kn_bd (n : Nat) : kn n < 96 ∧ kn n % 6 = n % 96 / 16 ∧ kn n / 6 = n % 16 := by unfold kn; omega
def plc (g z : Nat → Int) (k : Nat) : Int := if rd g k then roomS g z k else deskS g z k
def zset (z : Nat → Int) (k : Nat) (x : Int) : Nat → Int := fun o => if o = k then x else z o
def due (g : Nat → Int) (n : Nat) : Bool := decide (g (4 + 2 * (kn n % 6)) = ((n / 96 : Nat) : Int)) && st g (kn n)
def zN (g : Nat → Int) : Nat → Nat → Int
  | 0 => fun _ => -6
  | n + 1 => if due g n then zset (zN g n) (kn n) (plc g (zN g n) (kn n)) else zN g n
def seatOf (g : Nat → Int) : Nat → Int := zN g 1920
theorem roomS_bd {g : Nat → Int} (hB : Bd g) (z : Nat → Int) (k : Nat) : -6 ≤ roomS g z k ∧ roomS g z k ≤ 69 := by
  have h1 := hB.2.1
  unfold roomS
  split
  · rename_i c
    have : nr g ≤ 6 := by unfold nr; omega
    omega
  · omega
theorem deskS_bd {g : Nat → Int} (hB : Bd g) (z : Nat → Int) (k : Nat) : -6 ≤ deskS g z k ∧ deskS g z k ≤ 63 := by
  unfold deskS
  split
  · rename_i c
    have h1 := nd_le hB c
    have h2 : ff (dP g z k (ff (hQ g z k) 4)) (nd g (ff (hQ g z k) 4)) < nd g (ff (hQ g z k) 4) := of_decide_eq_true (ff_hi _ _ c)
    omega
  · omega
theorem plc_bd {g : Nat → Int} (hB : Bd g) (z : Nat → Int) (k : Nat) : -6 ≤ plc g z k ∧ plc g z k ≤ 69 := by
  have h1 := roomS_bd hB z k
  have h2 := deskS_bd hB z k
  unfold plc
  split <;> omega
theorem zN_bd {g : Nat → Int} (hB : Bd g) : ∀ n : Nat, Zb (zN g n)
  | 0 => fun k => by show -6 ≤ (-6 : Int) ∧ (-6 : Int) ≤ 69; omega
  | n + 1 => fun k => by
    have h1 := zN_bd hB n k
    have h2 := plc_bd hB (zN g n) (kn n)
    unfold zN
    split
    · unfold zset
      split <;> omega
    · exact h1
theorem up2_at (v : JV) (k i : Nat) (x : Int32) (j : Nat) : up2 v k i x k j = if j = i then x else v k j := by
  unfold up2
  rw [Nat.beq_refl]
  rfl
theorem up2_ne (v : JV) {k a : Nat} (i : Nat) (x : Int32) (h : a ≠ k) : up2 v k i x a = v a := up2_other v k i x (by
  cases hb : Nat.beq a k
  · rfl
  · exact absurd (Nat.eq_of_beq_eq_true hb) h)
/-- the row of seats cleared -/
def vcl (v : JV) : Nat → JV
  | 0 => up2 v 9 0 1
  | i + 1 => up2 (vcl v i) 6 i (-6)
theorem vcl_ne (v : JV) {a : Nat} (h6 : a ≠ 6) : ∀ i : Nat, vcl v i a = up2 v 9 0 1 a
  | 0 => rfl
  | i + 1 => by
    show up2 (vcl v i) 6 i (-6) a = _
    rw [up2_ne _ _ _ h6]
    exact vcl_ne v h6 i
theorem vcl_6 (v : JV) : ∀ i k : Nat, k < i → vcl v i 6 k = I (-6)
  | 0, k, h => by omega
  | i + 1, k, h => by
    show up2 (vcl v i) 6 i (-6) 6 k = _
    rw [up2_at]
    by_cases c : k = i
    · rw [if_pos c]; rfl
    · rw [if_neg c]; exact vcl_6 v i k (by omega)
def vse (g : Nat → Int) (v : JV) : Nat → JV
  | 0 => vcl v 96
  | n + 1 => if due g n then up2 (vse g v n) 6 (kn n) (I (plc g (zN g n) (kn n))) else vse g v n
theorem vse_ne (g : Nat → Int) (v : JV) {a : Nat} (h6 : a ≠ 6) : ∀ n : Nat, vse g v n a = up2 v 9 0 1 a
  | 0 => vcl_ne v h6 96
  | n + 1 => by
    unfold vse
    split
    · rw [up2_ne _ _ _ h6]; exact vse_ne g v h6 n
    · exact vse_ne g v h6 n
