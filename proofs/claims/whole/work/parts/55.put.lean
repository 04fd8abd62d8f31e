/-! ===== put and wipe ===== -/
theorem u64_nat {m : Nat} (h : m < 18446744073709551616) : (UInt64.ofNat m).toNat = m := by
  show m % 2 ^ 64 = m
  exact Nat.mod_eq_of_lt h
def shI (x : Int64) (i : Nat) : UInt64 := UInt64.ofNat (x.toUInt64.toNat / 256 ^ i)
def cb (x : Int64) (i : Nat) : Nat := x.toUInt64.toNat / 256 ^ i % 256
theorem cb_lt (x : Int64) (i : Nat) : cb x i < 256 := Nat.mod_lt _ (by omega)
theorem x_lt (x : Int64) (i : Nat) : x.toUInt64.toNat / 256 ^ i < 18446744073709551616 := Nat.lt_of_le_of_lt (Nat.div_le_self _ _) x.toUInt64.toNat_lt
theorem sh_raw : ∀ i : Fin 8, (Int64.toUInt64 (Int32.toInt64 ((8 : Int32) * I (i.val : Int))) &&& Int64.toUInt64 63) = UInt64.ofNat (8 * i.val) := by decide +kernel
theorem sh_k (x : Int64) {i : Nat} (hi : i < 8) : Int64.toUInt64 x >>> (Int64.toUInt64 (Int32.toInt64 ((8 : Int32) * I (i : Int))) &&& Int64.toUInt64 63) = shI x i := by
  rw [sh_raw ⟨i, hi⟩]
  apply UInt64.toNat_inj.mp
  unfold shI
  rw [UInt64.toNat_shiftRight, u64_nat (by omega), u64_nat (x_lt x i), Nat.shiftRight_eq_div_pow, Nat.mod_eq_of_lt (show 8 * i < 64 by omega), show (256 : Nat) = 2 ^ 8 from rfl, Nat.pow_mul]
theorem sh_step (x : Int64) (i : Nat) : shI x i >>> (Int64.toUInt64 (Int32.toInt64 (8 : Int32)) &&& Int64.toUInt64 63) = shI x (i + 1) := by
  rw [show (Int64.toUInt64 (Int32.toInt64 (8 : Int32)) &&& Int64.toUInt64 63) = UInt64.ofNat 8 from by decide +kernel]
  apply UInt64.toNat_inj.mp
  unfold shI
  rw [UInt64.toNat_shiftRight, u64_nat (x_lt x i), u64_nat (show 8 < 18446744073709551616 by omega), u64_nat (x_lt x (i + 1)), Nat.shiftRight_eq_div_pow]
  exact Nat.div_div_eq_div_mul _ (256 ^ i) 256
theorem sh_0 (x : Int64) : (shI x 0).toInt64 = x := by
  have h : shI x 0 = x.toUInt64 := by
    apply UInt64.toNat_inj.mp
    unfold shI
    rw [u64_nat (x_lt x 0), Nat.pow_zero, Nat.div_one]
  rw [h]
  rfl
theorem sh_255 (x : Int64) (i : Nat) : (shI x i).toInt64 &&& (255 : Int64) = (UInt64.ofNat (cb x i)).toInt64 := by
  rw [show (255 : Int64) = (UInt64.ofNat 255).toInt64 from rfl, ← UInt64.toInt64_and]
  congr 1
  apply UInt64.toNat_inj.mp
  unfold shI
  rw [UInt64.toNat_and, u64_nat (x_lt x i), u64_nat (by omega), u64_nat (by have := cb_lt x i; omega), show (255 : Nat) = 2 ^ 8 - 1 from rfl, Nat.and_two_pow_sub_one_eq_mod]
  rfl
theorem lg_0 (x : Int64) : (lg_cmp x 0 = 0) = (x = 0) := by
  apply propext
  unfold lg_cmp
  constructor
  · intro h
    by_cases c : x > 0
    · rw [if_pos c] at h; exact absurd h (by decide)
    · rw [if_neg c] at h
      by_cases d : x = 0
      · exact d
      · rw [if_neg d] at h; exact absurd h (by decide)
  · intro h
    subst h
    decide
def stp (x : Int64) (i : Nat) : Bool := decide (x.toUInt64.toNat / 256 ^ i = 0)
theorem sh_zero (x : Int64) (i : Nat) : (lg_cmp (shI x i).toInt64 0 = 0) = (stp x i = true) := by
  rw [lg_0]
  apply propext
  unfold stp
  rw [decide_eq_true_eq]
  constructor
  · intro h
    have h2 := congrArg (fun y : Int64 => y.toUInt64.toNat) h
    have h3 : (shI x i).toNat = 0 := h2
    unfold shI at h3
    rw [u64_nat (x_lt x i)] at h3
    exact h3
  · intro h
    unfold shI
    rw [h]
    rfl
theorem by_raw : ∀ c : Fin 256, Int64.toInt32 ((UInt64.ofNat c.val).toInt64) = I (c.val : Int) ∧ (lg_cmp ((UInt64.ofNat c.val).toInt64) 33 < 0 ↔ c.val < 33) ∧ (lg_cmp ((UInt64.ofNat c.val).toInt64) 126 ≤ 0 ↔ c.val ≤ 126) ∧ UInt32.toInt32 (Int32.toUInt32 (I (c.val : Int)) % 65536) = I (c.val : Int) ∧ isc (I (c.val : Int)) = true := by decide +kernel
theorem by_k (x : Int64) (i : Nat) : Int64.toInt32 ((UInt64.ofNat (cb x i)).toInt64) = I (cb x i : Int) ∧ (lg_cmp ((UInt64.ofNat (cb x i)).toInt64) 33 < 0 ↔ cb x i < 33) ∧ (lg_cmp ((UInt64.ofNat (cb x i)).toInt64) 126 ≤ 0 ↔ cb x i ≤ 126) ∧ UInt32.toInt32 (Int32.toUInt32 (I (cb x i : Int)) % 65536) = I (cb x i : Int) ∧ isc (I (cb x i : Int)) = true := by_raw ⟨cb x i, cb_lt x i⟩
def gdc (x : Int64) (i : Nat) : Bool := wi 33 126 (cb x i : Int)
def endc (x : Int64) (i : Nat) : Bool := stp x i || !gdc x i
def chN (x : Int64) : Nat := if ff (endc x) 8 < 8 then (if stp x (ff (endc x) 8) then ff (endc x) 8 else 0) else 8
theorem chN_le (x : Int64) : chN x ≤ 8 := by
  unfold chN
  split
  · split <;> omega
  · omega
theorem chN_gd (x : Int64) {i : Nat} (h : i < chN x) : 33 ≤ cb x i ∧ cb x i ≤ 126 := by
  have hl := ff_le (endc x) 8
  have hi : i < ff (endc x) 8 := by
    unfold chN at h
    split at h
    · split at h <;> omega
    · omega
  have q := ff_lo (endc x) 8 i hi
  unfold endc at q
  rw [Bool.or_eq_false_iff] at q
  have q2 : gdc x i = true := by simpa using q.2
  have := wi_iff.mp q2
  omega
theorem p_charactersIn (x : Int64) : f_X4_charactersIn x = some (I (chN x : Int)) := by
  unfold f_X4_charactersIn f_X4_charactersIn_L2
  have key : ∀ (r : Int32 → Option Int32) (i : Nat), i < 8 → f_X4_charactersIn_b2 x r (I (i : Int)) = if stp x i then some (I (i : Int)) else if gdc x i then r (I ((i + 1 : Nat) : Int)) else some (0 : Int32) := by
    intro r i hi
    have hc := cb_lt x i
    unfold f_X4_charactersIn_b2
    rw [show (if (8 : Int32) ≤ I (i : Int) then some (8 : Int32) else _) = _ from k_le (a := 8) (by omega) (by omega), if_neg (by omega), sh_k x hi, sh_255, (by_k x i).1]
    simp only [sh_zero]
    rw [show f_X4_isWithin (I (cb x i : Int)) (33 : Int32) (126 : Int32) = _ from p_wi (r0 _) 33 126 (r0 33) (r0 126)]
    simp only [Option.bind_some]
    rw [ite_B1, one_add]
    rfl
  refine (lp_ff _ (fun i => I (i : Int)) (endc x) 8 (fun i => some (I (if i < 8 then (if stp x i then (i : Int) else 0) else 8))) (fun rec i hi hP => ?_) (fun rec i hi hP => ?_) (fun rec => ?_) FU (by have := FU_ge; omega)).trans ?_
  · refine (key (fun x => rec x) i hi).trans ?_
    unfold endc at hP
    rw [Bool.or_eq_false_iff] at hP
    rw [hP.1, if_neg Bool.false_ne_true, if_pos (by simpa using hP.2)]
  · refine (key (fun x => rec x) i hi).trans ?_
    unfold endc at hP
    rw [if_pos hi]
    cases hs : stp x i
    · rw [hs, Bool.false_or] at hP
      rw [if_neg Bool.false_ne_true, if_neg (by intro z; rw [z] at hP; exact absurd hP (by decide)), if_neg Bool.false_ne_true]
      rfl
    · rw [if_pos rfl, if_pos rfl]
  · rfl
  · unfold chN
    by_cases c : ff (endc x) 8 < 8
    · rw [if_pos c, if_pos c]
      cases stp x (ff (endc x) 8) <;> rfl
    · rw [if_neg c, if_neg c]
      rfl
theorem m_putC (v : JV) (x : Int64) : f_X5_put v x = f_X5_put_K60 v x (I (chN x : Int)) := by
  unfold f_X5_put
  rw [show f_X5_put_L5 x FU v (0 : Int32) x = f_X5_put_L5 x FU v (0 : Int32) (shI x 0).toInt64 from by rw [sh_0]]
  unfold f_X5_put_L5
  have key : ∀ (r : JV → Int32 → Int64 → Option (Int32 × JV)) (i : Nat), i < 8 → f_X5_put_b5 x r v (I (i : Int)) (shI x i).toInt64 = if stp x i then f_X5_put_K60 v x (I (i : Int)) else if gdc x i then r v (I ((i + 1 : Nat) : Int)) (shI x (i + 1)).toInt64 else some ((-2 : Int32), v) := by
    intro r i hi
    have hc := cb_lt x i
    have hb := by_k x i
    unfold f_X5_put_b5
    rw [show (if (8 : Int32) ≤ I (i : Int) then f_X5_put_K60 v x (I (i : Int)) else _) = _ from k_le (a := 8) (by omega) (by omega), if_neg (by omega), sh_255, one_add, show Int64.toUInt64 (shI x i).toInt64 = shI x i from rfl, sh_step]
    simp only [sh_zero, hb.2.1, hb.2.2.1]
    unfold gdc wi
    by_cases c1 : cb x i < 33
    · rw [if_pos c1, decide_eq_false (show ¬ (33 : Int) ≤ (cb x i : Int) by omega), Bool.false_and, if_neg Bool.false_ne_true]
    · rw [if_neg c1, decide_eq_true (show (33 : Int) ≤ (cb x i : Int) by omega), Bool.true_and]
      by_cases c2 : cb x i ≤ 126
      · rw [if_pos c2, decide_eq_true (show (cb x i : Int) ≤ 126 by omega), if_pos rfl]
      · rw [if_neg c2, decide_eq_false (show ¬ (cb x i : Int) ≤ 126 by omega), if_neg Bool.false_ne_true]
  have K0 : f_X5_put_K60 v x (I ((0 : Nat) : Int)) = some ((-2 : Int32), v) := by
    unfold f_X5_put_K60
    rw [if_pos (show I ((0 : Nat) : Int) = (0 : Int32) from rfl)]
  refine (lp_ff _ (fun i => (v, I (i : Int), (shI x i).toInt64)) (endc x) 8 (fun i => f_X5_put_K60 v x (I (((if i < 8 then (if stp x i then i else 0) else 8 : Nat)) : Int))) (fun rec i hi hP => ?_) (fun rec i hi hP => ?_) (fun rec => ?_) FU (by have := FU_ge; omega)).trans ?_
  · refine (key (fun x y z => rec (x, y, z)) i hi).trans ?_
    unfold endc at hP
    rw [Bool.or_eq_false_iff] at hP
    rw [hP.1, if_neg Bool.false_ne_true, if_pos (by simpa using hP.2)]
  · refine (key (fun x y z => rec (x, y, z)) i hi).trans ?_
    unfold endc at hP
    rw [if_pos hi]
    cases hs : stp x i
    · rw [hs, Bool.false_or] at hP
      rw [if_neg Bool.false_ne_true, if_neg (by intro z; rw [z] at hP; exact absurd hP (by decide)), if_neg Bool.false_ne_true, K0]
    · rw [if_pos rfl, if_pos rfl]
  · rfl
  · rfl
/-- the pad with m characters more -/
def apT (L m : Nat) (cc : Nat → Int) (x : Int64) : Nat → Int := fun j => if j < L then cc j else (cb x (m - 1 - (j - L)) : Int)
theorem p_append {v : JV} {x : Int64} {L m : Nat} {cc : Nat → Int} (hL : L + m ≤ 60) (hm : m ≤ 8) (h1 : v 1 0 = I (L : Int)) (h0 : ∀ j : Nat, j < L → v 0 j = I (cc j)) : ∃ w : JV, f_X1_append v x (I (m : Int)) = some w ∧ w 1 0 = I ((L + m : Nat) : Int) ∧ ∀ j : Nat, j < L + m → w 0 j = I (apT L m cc x j) := by
  unfold f_X1_append f_X1_append_L5
  have e0 : I (m : Int) - (1 : Int32) = I ((m : Int) - 1 - ((0 : Nat) : Int)) := by rw [show (1 : Int32) = I 1 from rfl, I_sub]; congr 1; omega
  rw [e0]
  refine Exists.elim (lp_inv (P := Unit) (fun _ (rec : JV × Int32 → Option (JV)) a => f_X1_append_b5 x (fun x y => rec (x, y)) a.1 a.2) (fun t a => a.2 = I ((m : Int) - 1 - (t : Int)) ∧ a.1 1 0 = I ((L + t : Nat) : Int) ∧ ∀ j : Nat, j < L + t → a.1 0 j = I (apT L m cc x j)) m (fun _ a => some a.1) (fun t a ht ha => ?_) (fun a _ rec ha => ?_) FU (by have := FU_ge; omega) (v, I ((m : Int) - 1 - ((0 : Nat) : Int))) ⟨rfl, h1, fun j hj => ?_⟩) (fun a1 h12 => ?_)
  · obtain ⟨u, y⟩ := a
    obtain ⟨hx, hu1, hu0⟩ := ha
    dsimp only at hx hu1 hu0
    subst hx
    have em : (m : Int) - 1 - (t : Int) = ((m - 1 - t : Nat) : Int) := by omega
    refine ⟨(up2 (up2 u 0 (L + t) (I (cb x (m - 1 - t) : Int))) 1 0 (I ((L + t + 1 : Nat) : Int)), I ((m : Int) - 1 - ((t + 1 : Nat) : Int))), ⟨rfl, ?_, fun j hj => ?_⟩, fun _ rec => ?_⟩
    · show up2 (up2 u 0 (L + t) (I (cb x (m - 1 - t) : Int))) 1 0 (I ((L + t + 1 : Nat) : Int)) 1 0 = _
      rw [up2_if, if_pos rfl]
      rfl
    · show up2 (up2 u 0 (L + t) (I (cb x (m - 1 - t) : Int))) 1 0 (I ((L + t + 1 : Nat) : Int)) 0 j = _
      rw [up2_v (show (0 : Nat) ≠ 1 by omega), up2_if]
      by_cases c : j = L + t
      · rw [if_pos c, c]
        unfold apT
        rw [if_neg (by omega), show L + t - L = t by omega]
      · rw [if_neg c]
        exact hu0 j (by omega)
    · show f_X1_append_b5 x (fun x y => rec (x, y)) u (I ((m : Int) - 1 - (t : Int))) = _
      have en : I ((m - 1 - t : Nat) : Int) + (-1 : Int32) = I ((m : Int) - 1 - ((t + 1 : Nat) : Int)) := by
        rw [show (-1 : Int32) = I (-1) from rfl, I_add]; congr 1; omega
      rw [em]
      unfold f_X1_append_b5
      rw [show (if I ((m - 1 - t : Nat) : Int) < 0 then some u else _) = _ from ite_lt (b := 0) (r0 _) (r0 0), if_neg (by omega), hu1, show (60 : Int32) = I ((60 : Nat) : Int) from rfl, k_le (by omega) (by omega), if_neg (by omega), gd_t (inb_k (by omega) (by omega)), I_k (by omega), sh_k x (by omega), sh_255, (by_k x _).1, one_add, en]
  · obtain ⟨u, y⟩ := a
    obtain ⟨hx, hu⟩ := ha
    dsimp only at hx ⊢
    subst hx
    unfold f_X1_append_b5
    rw [show (m : Int) - 1 - ((m : Nat) : Int) = -1 by omega, show (if I (-1) < 0 then some u else _) = _ from ite_lt (b := 0) (r0 (-1)) (r0 0), if_pos (by omega)]
  · show v 0 j = _
    rw [h0 j hj]
    unfold apT
    rw [if_pos (show j < L from hj)]
  · obtain ⟨⟨-, h2, h3⟩, h4⟩ := h12
    exact ⟨a1.1, h4 (), h2, h3⟩
theorem m_putL {v : JV} {x : Int64} {L m : Nat} {cc : Nat → Int} (hL : L + m ≤ 60) (hm : m ≤ 8) (h1 : v 10 0 = I (L : Int)) (h0 : ∀ j : Nat, j < L → v 8 j = I (cc j)) : ∃ w : JV, f_X5_put_L86 x FU v (I (m : Int) - (1 : Int32)) = some (I ((L + m : Nat) : Int), w) ∧ w 10 0 = I ((L + m : Nat) : Int) ∧ (∀ j : Nat, j < L + m → w 8 j = I (apT L m cc x j)) ∧ ∀ a : Nat, a ≠ 8 → a ≠ 10 → w a = v a := by
  unfold f_X5_put_L86
  have e0 : I (m : Int) - (1 : Int32) = I ((m : Int) - 1 - ((0 : Nat) : Int)) := by rw [show (1 : Int32) = I 1 from rfl, I_sub]; congr 1; omega
  rw [e0]
  refine Exists.elim (lp_inv (P := Unit) (fun _ (rec : JV × Int32 → Option (Int32 × JV)) a => f_X5_put_b86 x (fun x y => rec (x, y)) a.1 a.2) (fun t a => a.2 = I ((m : Int) - 1 - (t : Int)) ∧ a.1 10 0 = I ((L + t : Nat) : Int) ∧ (∀ j : Nat, j < L + t → a.1 8 j = I (apT L m cc x j)) ∧ ∀ b : Nat, b ≠ 8 → b ≠ 10 → a.1 b = v b) m (fun _ a => some (a.1 10 0, a.1)) (fun t a ht ha => ?_) (fun a _ rec ha => ?_) FU (by have := FU_ge; omega) (v, I ((m : Int) - 1 - ((0 : Nat) : Int))) ⟨rfl, h1, fun j hj => ?_, fun _ _ _ => rfl⟩) (fun a1 h12 => ?_)
  · obtain ⟨u, y⟩ := a
    obtain ⟨hx, hu1, hu0, huf⟩ := ha
    dsimp only at hx hu1 hu0 huf
    subst hx
    have em : (m : Int) - 1 - (t : Int) = ((m - 1 - t : Nat) : Int) := by omega
    refine ⟨(up2 (up2 u 8 (L + t) (I (cb x (m - 1 - t) : Int))) 10 0 (I ((L + t + 1 : Nat) : Int)), I ((m : Int) - 1 - ((t + 1 : Nat) : Int))), ⟨rfl, ?_, fun j hj => ?_, fun b b8 b10 => ?_⟩, fun _ rec => ?_⟩
    · show up2 (up2 u 8 (L + t) (I (cb x (m - 1 - t) : Int))) 10 0 (I ((L + t + 1 : Nat) : Int)) 10 0 = _
      rw [up2_if, if_pos rfl]
      rfl
    · show up2 (up2 u 8 (L + t) (I (cb x (m - 1 - t) : Int))) 10 0 (I ((L + t + 1 : Nat) : Int)) 8 j = _
      rw [up2_v (show (8 : Nat) ≠ 10 by omega), up2_if]
      by_cases c : j = L + t
      · rw [if_pos c, c]
        unfold apT
        rw [if_neg (by omega), show L + t - L = t by omega]
      · rw [if_neg c]
        exact hu0 j (by omega)
    · show up2 (up2 u 8 (L + t) (I (cb x (m - 1 - t) : Int))) 10 0 (I ((L + t + 1 : Nat) : Int)) b = v b
      rw [up2_ne _ _ _ b10, up2_ne _ _ _ b8]
      exact huf b b8 b10
    · show f_X5_put_b86 x (fun x y => rec (x, y)) u (I ((m : Int) - 1 - (t : Int))) = _
      have en : I ((m - 1 - t : Nat) : Int) + (-1 : Int32) = I ((m : Int) - 1 - ((t + 1 : Nat) : Int)) := by
        rw [show (-1 : Int32) = I (-1) from rfl, I_add]; congr 1; omega
      have hb := by_k x (m - 1 - t)
      rw [em]
      unfold f_X5_put_b86
      rw [show (if I ((m - 1 - t : Nat) : Int) < 0 then some (u 10 0, u) else _) = _ from ite_lt (b := 0) (r0 _) (r0 0), if_neg (by omega), hu1, gd_t (inb_k (by omega) (by omega)), I_k (by omega), sh_k x (by omega), sh_255, hb.1, hb.2.2.2.1, gd_t hb.2.2.2.2, one_add, en]
  · obtain ⟨u, y⟩ := a
    obtain ⟨hx, hu⟩ := ha
    dsimp only at hx ⊢
    subst hx
    unfold f_X5_put_b86
    rw [show (m : Int) - 1 - ((m : Nat) : Int) = -1 by omega, show (if I (-1) < 0 then some (u 10 0, u) else _) = _ from ite_lt (b := 0) (r0 (-1)) (r0 0), if_pos (by omega)]
  · show v 8 j = _
    rw [h0 j hj]
    unfold apT
    rw [if_pos (show j < L from hj)]
  · obtain ⟨⟨-, h2, h3, h5⟩, h4⟩ := h12
    refine ⟨a1.1, ?_, h2, h3, h5⟩
    have := h4 ()
    rw [h2] at this
    exact this
theorem RI.pad {vT vS vP vP' : JV} {hV : Nat → JV} {hZ : JV} {sV : Nat → JV} {vU v w : JV} (h : RI vT vS vP hV hZ sV vU v) (hp : RP vP' w) (hf : ∀ a : Nat, a ≠ 7 → a ≠ 8 → a ≠ 10 → a ≠ 12 → a ≠ 13 → w a = v a) : RI vT vS vP' hV hZ sV vU w := by
  obtain ⟨⟨g, g1, g2, g3, g4, g5⟩, hh, hl, -⟩ := h
  refine ⟨⟨g, g1, g2, g3, ?_, ?_⟩, hh.fr (hf 3 (by omega) (by omega) (by omega) (by omega) (by omega)) (hf 11 (by omega) (by omega) (by omega) (by omega) (by omega)), hl.fr (hf 4 (by omega) (by omega) (by omega) (by omega) (by omega)) (hf 5 (by omega) (by omega) (by omega) (by omega) (by omega)), hp⟩
  · rw [hf 0 (by omega) (by omega) (by omega) (by omega) (by omega)]; exact g4
  · unfold Sd RZ at g5 ⊢
    rw [hf 9 (by omega) (by omega) (by omega) (by omega) (by omega), hf 6 (by omega) (by omega) (by omega) (by omega) (by omega)]
    exact g5
theorem e_put {vT vS vP : JV} {hV : Nat → JV} {hZ : JV} {sV : Nat → JV} {vU vM : JV} (h : RI vT vS vP hV hZ sV vU vM) (x : Int64) :
    ∃ (Rz : Int32 × JV) (m : Int32 × JV), f_X4_put vP x = some Rz ∧ f_X5_put vM x = some m ∧ m.1 = Rz.1 ∧ RI vT vS Rz.2 hV hZ sV vU m.2 := by
  obtain ⟨-, -, -, ⟨L, cc, hL, p1, p2, p3⟩⟩ := id h
  have hm := chN_le x
  rw [m_putC]
  unfold f_X4_put f_X5_put_K60
  rw [p_charactersIn]
  simp only [Option.bind_some]
  by_cases c0 : chN x = 0
  · rw [c0, if_pos (show I ((0 : Nat) : Int) = (0 : Int32) from rfl), if_pos (show I ((0 : Nat) : Int) = (0 : Int32) from rfl)]
    exact ⟨_, _, rfl, rfl, rfl, h⟩
  · have n0 : ¬ I (chN x : Int) = (0 : Int32) := I_eqn (r0 _) 0 (r0 0) (by omega)
    rw [if_neg n0, if_neg n0, p1, p2, nat_add, show (60 : Int32) = I ((60 : Nat) : Int) from rfl, k_le (by omega) (by omega), k_le (by omega) (by omega)]
    by_cases c1 : L + chN x ≤ 60
    · rw [if_pos c1, if_pos c1]
      obtain ⟨w, w1, w2, w3⟩ := p_append (v := vP) (x := x) (cc := cc) c1 hm p1 (fun j hj => (p3 j hj).2.1)
      obtain ⟨u, u1, u2, u3, u4⟩ := m_putL (v := vM) (x := x) (cc := cc) c1 hm p2 (fun j hj => (p3 j hj).2.2)
      rw [w1, u1]
      simp only [Option.bind_some]
      refine ⟨_, _, rfl, rfl, w2.symm, h.pad ⟨L + chN x, apT L (chN x) cc x, c1, w2, u2, fun i hi => ⟨?_, w3 i hi, u3 i hi⟩⟩ (fun a _ a8 a10 _ _ => u4 a a8 a10)⟩
      unfold apT
      by_cases d : i < L
      · rw [if_pos d]; exact (p3 i d).1
      · rw [if_neg d]
        have := chN_gd x (i := chN x - 1 - (i - L)) (by omega)
        omega
    · rw [if_neg c1, if_neg c1]
      exact ⟨_, _, rfl, rfl, rfl, h⟩
theorem e_wipe {vT vS vP : JV} {hV : Nat → JV} {hZ : JV} {sV : Nat → JV} {vU vM : JV} (h : RI vT vS vP hV hZ sV vU vM) :
    ∃ (Rz : Int32 × JV) (m : Int32 × JV), f_X4_wipe vP = some Rz ∧ f_X5_wipe vM = some m ∧ m.1 = Rz.1 ∧ RI vT vS Rz.2 hV hZ sV vU m.2 := by
  obtain ⟨-, -, -, ⟨L, cc, hL, p1, p2, p3⟩⟩ := id h
  refine ⟨_, _, rfl, rfl, ?_, h.pad ⟨0, cc, by omega, ?_, ?_, fun i hi => absurd hi (by omega)⟩ (fun a _ _ a10 _ _ => up2_ne _ _ _ a10)⟩
  · show vM 10 0 = vP 1 0
    rw [p1, p2]
  · show up2 vP 1 0 (0 : Int32) 1 0 = _
    rw [up2_if, if_pos rfl]
    rfl
  · show up2 vM 10 0 (0 : Int32) 10 0 = _
    rw [up2_if, if_pos rfl]
    rfl
