/-! ===== all seats, by the reference ===== -/
def kn (n : Nat) : Nat := n % 16 * 6 + n % 96 / 16
theorem kn_bd (n : Nat) : kn n < 96 ∧ kn n % 6 = n % 96 / 16 ∧ kn n / 6 = n % 16 := by unfold kn; omega
def plc (g z : Nat → Int) (k : Nat) : Int := if rd g k then roomS g z k else deskS g z k
def zset (z : Nat → Int) (k : Nat) (x : Int) : Nat → Int := fun o => if o = k then x else z o
def due (g : Nat → Int) (n : Nat) : Bool := decide (g (4 + 2 * (kn n % 6)) = ((n / 96 : Nat) : Int)) && st g (kn n)
def zN (g : Nat → Int) : Nat → Nat → Int
  | 0 => fun _ => -6
  | n + 1 => if due g n then zset (zN g n) (kn n) (plc g (zN g n) (kn n)) else zN g n
def seatOf (g : Nat → Int) : Nat → Int := zN g 1920
theorem roomS_bd {g : Nat → Int} (hB : Bd g) (z : Nat → Int) (k : Nat) : -6 ≤ roomS g z k ∧ roomS g z k ≤ 69 := by
  have h1 := hB.2.1
  unfold roomS
  split
  · rename_i c
    have : nr g ≤ 6 := by unfold nr; omega
    omega
  · omega
theorem deskS_bd {g : Nat → Int} (hB : Bd g) (z : Nat → Int) (k : Nat) : -6 ≤ deskS g z k ∧ deskS g z k ≤ 63 := by
  unfold deskS
  split
  · rename_i c
    have h1 := nd_le hB c
    have h2 : ff (dP g z k (ff (hQ g z k) 4)) (nd g (ff (hQ g z k) 4)) < nd g (ff (hQ g z k) 4) := of_decide_eq_true (ff_hi _ _ c)
    omega
  · omega
theorem plc_bd {g : Nat → Int} (hB : Bd g) (z : Nat → Int) (k : Nat) : -6 ≤ plc g z k ∧ plc g z k ≤ 69 := by
  have h1 := roomS_bd hB z k
  have h2 := deskS_bd hB z k
  unfold plc
  split <;> omega
theorem zN_bd {g : Nat → Int} (hB : Bd g) : ∀ n : Nat, Zb (zN g n)
  | 0 => fun k => by show -6 ≤ (-6 : Int) ∧ (-6 : Int) ≤ 69; omega
  | n + 1 => fun k => by
    have h1 := zN_bd hB n k
    have h2 := plc_bd hB (zN g n) (kn n)
    unfold zN
    split
    · unfold zset
      split <;> omega
    · exact h1
theorem up2_at (v : JV) (k i : Nat) (x : Int32) (j : Nat) : up2 v k i x k j = if j = i then x else v k j := by
  unfold up2
  rw [Nat.beq_refl]
  rfl
theorem up2_ne (v : JV) {k a : Nat} (i : Nat) (x : Int32) (h : a ≠ k) : up2 v k i x a = v a := up2_other v k i x (by
  cases hb : Nat.beq a k
  · rfl
  · exact absurd (Nat.eq_of_beq_eq_true hb) h)
/-- the row of seats cleared -/
def vcl (v : JV) : Nat → JV
  | 0 => up2 v 9 0 1
  | i + 1 => up2 (vcl v i) 6 i (-6)
theorem vcl_ne (v : JV) {a : Nat} (h6 : a ≠ 6) : ∀ i : Nat, vcl v i a = up2 v 9 0 1 a
  | 0 => rfl
  | i + 1 => by
    show up2 (vcl v i) 6 i (-6) a = _
    rw [up2_ne _ _ _ h6]
    exact vcl_ne v h6 i
theorem vcl_6 (v : JV) : ∀ i k : Nat, k < i → vcl v i 6 k = I (-6)
  | 0, k, h => by omega
  | i + 1, k, h => by
    show up2 (vcl v i) 6 i (-6) 6 k = _
    rw [up2_at]
    by_cases c : k = i
    · rw [if_pos c]; rfl
    · rw [if_neg c]; exact vcl_6 v i k (by omega)
def vse (g : Nat → Int) (v : JV) : Nat → JV
  | 0 => vcl v 96
  | n + 1 => if due g n then up2 (vse g v n) 6 (kn n) (I (plc g (zN g n) (kn n))) else vse g v n
theorem vse_ne (g : Nat → Int) (v : JV) {a : Nat} (h6 : a ≠ 6) : ∀ n : Nat, vse g v n a = up2 v 9 0 1 a
  | 0 => vcl_ne v h6 96
  | n + 1 => by
    unfold vse
    split
    · rw [up2_ne _ _ _ h6]; exact vse_ne g v h6 n
    · exact vse_ne g v h6 n
theorem vse_6 (g : Nat → Int) (v : JV) : ∀ n : Nat, RZ (vse g v n) (zN g n)
  | 0 => fun k hk => vcl_6 v 96 k hk
  | n + 1 => fun k hk => by
    have h1 := vse_6 g v n k hk
    show (if due g n then up2 (vse g v n) 6 (kn n) (I (plc g (zN g n) (kn n))) else vse g v n) 6 k = I ((if due g n then zset (zN g n) (kn n) (plc g (zN g n) (kn n)) else zN g n) k)
    split
    · rw [up2_at]
      unfold zset
      by_cases c : k = kn n
      · rw [if_pos c, if_pos c]
      · rw [if_neg c, if_neg c]; exact h1
    · exact h1
theorem m_seats0 {v : JV} {g : Nat → Int} (hM : RM (v 0) g) (hB : Bd g) (h9 : v 9 0 = 0) : f_X5_seats v = some (vse g v 1920) := by
  unfold f_X5_seats f_X5_seats_L15
  rw [if_pos h9]
  refine lp_run _ (fun i => (vcl v i, I (i : Int))) 96 _ (fun rec i hi => ?_) (fun rec => ?_) FU (by have := FU_ge; omega)
  · show f_X5_seats_b15 (fun x y => rec (x, y)) (vcl v i) (I (i : Int)) = rec (up2 (vcl v i) 6 i (-6), I ((i + 1 : Nat) : Int))
    unfold f_X5_seats_b15
    rw [show (96 : Int32) = I ((96 : Nat) : Int) from rfl, k_le (by omega) (by omega), if_neg (by omega), gd_t (inb_k hi (by omega)), I_k (by omega), one_add]
  · show f_X5_seats_b15 (fun x y => rec (x, y)) (vcl v 96) (I ((96 : Nat) : Int)) = _
    unfold f_X5_seats_b15
    rw [show (96 : Int32) = I ((96 : Nat) : Int) from rfl, k_le (by omega) (by omega), if_pos (by omega)]
    unfold f_X5_seats_L37
    refine lp_run _ (fun n => (vse g v n, I (n : Int))) 1920 _ (fun rec n hn => ?_) (fun rec => ?_) FU (by have := FU_ge; omega)
    · have hk := kn_bd n
      have hMn : RM (vse g v n 0) g := fun k hk => by
        rw [vse_ne g v (by omega) n, up2_ne _ _ _ (by omega)]
        exact hM k hk
      have hZn := vse_6 g v n
      have hz := zN_bd hB n
      have hs := (hB.2.2.2.2.1 (kn n % 6) (by omega)).1
      show f_X5_seats_b37 (fun x y => rec (x, y)) (vse g v n) (I (n : Int)) = rec ((if due g n then up2 (vse g v n) 6 (kn n) (I (plc g (zN g n) (kn n))) else vse g v n), I ((n + 1 : Nat) : Int))
      have e1 : ((I (n : Int) - I (n : Int) / (16 : Int32) * (16 : Int32)) * (6 : Int32)) + ((I (n : Int) - I (n : Int) / (96 : Int32) * (96 : Int32)) / (16 : Int32)) = I (kn n : Int) := by
        rw [show (16 : Int32) = I ((16 : Nat) : Int) from rfl, show (96 : Int32) = I ((96 : Nat) : Int) from rfl, kmod (by omega) (by omega) (by omega), kmod (by omega) (by omega) (by omega), c6, nat_mul, I_div (by omega) (by omega) (by omega) (by omega), I_add]
        congr 1
      have e2 : I (n : Int) / (96 : Int32) = I ((n / 96 : Nat) : Int) := by
        rw [show (96 : Int32) = I ((96 : Nat) : Int) from rfl, I_div (by omega) (by omega) (by omega) (by omega)]
        rfl
      unfold f_X5_seats_b37
      rw [e1, e2, k6m (by omega), show (1920 : Int32) = I ((1920 : Nat) : Int) from rfl, k_le (by omega) (by omega), if_neg (by omega), show (4 : Int32) = I ((4 : Nat) : Int) from rfl, show (2 : Int32) = I ((2 : Nat) : Int) from rfl, nat_mul, nat_add, gd_t (inb_k (by omega) (by omega)), I_k (by omega), hMn _ (by omega), m_isSitting hMn hB hk.1, m_needsReader hMn hB hk.1, m_deskFor hMn hB hZn hz hk.1, m_roomFor hMn hB hZn hz hk.1, ite_eq (rng_of (by omega) (by omega)) (rng_of (by omega) (by omega))]
      simp only [Option.bind_some, one_add]
      rw [ite_B1, ite_B1, gd_t (inb_k hk.1 (by omega)), gd_t (inb_k hk.1 (by omega)), I_k (by omega)]
      unfold due plc
      by_cases c1 : g (4 + 2 * (kn n % 6)) = ((n / 96 : Nat) : Int)
      · rw [if_pos c1, decide_eq_true c1]
        cases st g (kn n) <;> cases rd g (kn n) <;> rfl
      · rw [if_neg c1, decide_eq_false c1]
        rfl
    · rfl
theorem m_seats {v : JV} {g : Nat → Int} (hM : RM (v 0) g) (hB : Bd g) (h9 : v 9 0 = 0 ∨ (v 9 0 = 1 ∧ RZ v (seatOf g))) : ∃ v' : JV, f_X5_seats v = some v' ∧ RZ v' (seatOf g) ∧ v' 9 0 = 1 ∧ ∀ a : Nat, a ≠ 6 → a ≠ 9 → v' a = v a := by
  rcases h9 with h9 | ⟨h9, hz⟩
  · refine ⟨_, m_seats0 hM hB h9, vse_6 g v 1920, ?_, fun a h6 h9 => ?_⟩
    · rw [vse_ne g v (by omega) 1920, up2_at]
      rfl
    · rw [vse_ne g v h6 1920, up2_ne _ _ _ h9]
  · refine ⟨v, ?_, hz, h9, fun _ _ _ => rfl⟩
    unfold f_X5_seats
    rw [if_neg (by rw [h9]; decide)]
