/-! ===== sums of sums ===== -/
theorem sm_s (f : Nat → Nat) (n : Nat) : sm f (n + 1) = sm f n + f n := rfl
theorem sm_add (f f' : Nat → Nat) : ∀ n : Nat, sm (fun k => f k + f' k) n = sm f n + sm f' n
  | 0 => rfl
  | n + 1 => by
    rw [sm_s, sm_s, sm_s, sm_add f f' n]
    omega
theorem sm_zero : ∀ n : Nat, sm (fun _ => 0) n = 0
  | 0 => rfl
  | n + 1 => by rw [sm_s, sm_zero n]
theorem sm_swap (f : Nat → Nat → Nat) (m : Nat) : ∀ n : Nat, sm (fun i => sm (f i) m) n = sm (fun j => sm (fun i => f i j) n) m
  | 0 => by
    show 0 = sm (fun _ => 0) m
    rw [sm_zero]
  | n + 1 => by
    rw [sm_s, sm_swap f m n]
    exact (sm_add (fun j => sm (fun i => f i j) n) (f n) m).symm
theorem sm_ge {f : Nat → Nat} {i : Nat} : ∀ {n : Nat}, i < n → f i ≤ sm f n
  | 0, h => absurd h (by omega)
  | n + 1, h => by
    rw [sm_s]
    by_cases c : i = n
    · rw [c]; omega
    · have := sm_ge (f := f) (i := i) (n := n) (by omega)
      omega
theorem sm_one {P : Nat → Bool} (hu : ∀ o k : Nat, P o = true → P k = true → o = k) : ∀ n : Nat, sm (fun k => b1 (P k)) n ≤ 1
  | 0 => by show 0 ≤ 1; omega
  | n + 1 => by
    rw [sm_s]
    by_cases c : P n = true
    · have h0 : sm (fun k => b1 (P k)) n = sm (fun _ => 0) n := sm_congr (fun k hk => by
        have : P k = false := by
          rw [← Bool.not_eq_true]
          intro d
          have := hu k n d c
          omega
        rw [this]
        rfl)
      rw [h0, sm_zero]
      have := b1_le (P n)
      omega
    · have h1 := sm_one hu n
      rw [(Bool.not_eq_true _).mp c]
      exact h1
theorem inH_desk {g : Nat → Int} (hB : Bd g) {h k : Nat} (hh : h < 4) (hi : inH (seatOf g) h k = true) : ∃ d : Nat, d < nd g h ∧ d < 16 ∧ seatOf g k = ((16 * h + d : Nat) : Int) := by
  unfold inH at hi
  rw [Bool.and_eq_true, decide_eq_true_eq, decide_eq_true_eq] at hi
  obtain ⟨-, q⟩ := seat_where (g := g) hB (k := k) (by omega)
  rcases q with ⟨-, r, -, -, e⟩ | ⟨-, a, d, ha, hd, hd6, e⟩
  · omega
  · have q1 : a = h := by omega
    rw [q1] at hd e
    exact ⟨d, hd, hd6, e⟩
theorem tkn_desks {g : Nat → Int} (hB : Bd g) {h : Nat} (hh : h < 4) (t : Int) : tkn g (seatOf g) h t ≤ nd g h := by
  have h1 : tkn g (seatOf g) h t ≤ sm (fun k => sm (fun d => b1 (atB g (seatOf g) ((16 * h + d : Nat) : Int) t k)) (nd g h)) 96 := by
    unfold tkn
    refine sm_mono (fun k hk => ?_)
    by_cases c : (inH (seatOf g) h k && ovr g t k) = true
    · rw [c]
      obtain ⟨c1, c2⟩ := (Bool.and_eq_true _ _).mp c
      obtain ⟨d, d1, d2, e⟩ := inH_desk hB hh c1
      have e1 : b1 (atB g (seatOf g) ((16 * h + d : Nat) : Int) t k) = 1 := by
        unfold atB
        rw [c2, decide_eq_true e]
        rfl
      have := sm_ge (f := fun d => b1 (atB g (seatOf g) ((16 * h + d : Nat) : Int) t k)) d1
      have e2 : b1 true = 1 := rfl
      try dsimp only at this
      rw [e1] at this
      rw [e2]
      exact this
    · rw [(Bool.not_eq_true _).mp c]
      exact Nat.zero_le _
  rw [sm_swap] at h1
  have h2 : sm (fun d => sm (fun k => b1 (atB g (seatOf g) ((16 * h + d : Nat) : Int) t k)) 96) (nd g h) ≤ 1 * nd g h := sm_bd (fun d hd => sm_one (fun o k => atB_one hB (by omega)) 96)
  omega
theorem mostS_bd {g : Nat → Int} (hB : Bd g) {h : Nat} (hh : h < 4) : 0 ≤ mostS g (tkn g (seatOf g) h) ∧ mostS g (tkn g (seatOf g) h) ≤ ((nd g h : Nat) : Int) := by
  unfold mostS
  refine li_bd ⟨by omega, by omega⟩ (fun k hk _ => ?_)
  have := tkn_desks hB hh (bk g k)
  try dsimp only
  omega
theorem nd_rc {g : Nat → Int} (h : Nat) : nd g h ≤ rw_ g h * cw_ g h := by
  unfold nd
  split <;> omega
theorem most_zero {g : Nat → Int} (hB : Bd g) {h : Nat} (hh : h < 4) : (sm (fun k => b1 (inH (seatOf g) h k)) 96 = 0) ↔ (mostS g (tkn g (seatOf g) h) = 0) := by
  obtain ⟨l1, l2, l3⟩ := li_spec (st g) (fun k => ((tkn g (seatOf g) h (bk g k) : Nat) : Int)) 0 96
  have lm : mostS g (tkn g (seatOf g) h) = li (st g) (fun k => ((tkn g (seatOf g) h (bk g k) : Nat) : Int)) 0 96 := rfl
  constructor
  · intro h0
    rcases l3 with e | ⟨k, hk, hs, e⟩
    · rw [lm, e]
    · rw [lm, e]
      by_cases c : 0 < tkn g (seatOf g) h (bk g k)
      · obtain ⟨o, ho, hp⟩ := sm_pos c
        have hi : inH (seatOf g) h o = true := by
          by_cases d : inH (seatOf g) h o = true
          · exact d
          · rw [(Bool.not_eq_true _).mp d, Bool.false_and] at hp
            exact absurd hp (by decide)
        have := sm_ge (f := fun k => b1 (inH (seatOf g) h k)) ho
        try dsimp only at this
        rw [hi, show b1 true = 1 from rfl] at this
        omega
      · have : tkn g (seatOf g) h (bk g k) = 0 := by omega
        try dsimp only
        rw [this]
        rfl
  · intro h0
    by_cases c : 0 < sm (fun k => b1 (inH (seatOf g) h k)) 96
    · exfalso
      obtain ⟨k, hk, hp⟩ := sm_pos c
      have hi : inH (seatOf g) h k = true := by
        by_cases d : inH (seatOf g) h k = true
        · exact d
        · rw [(Bool.not_eq_true _).mp d] at hp
          exact absurd hp (by decide)
      have hs : st g k = true := inH_st (seat_gap g) hi
      have h3 := l2 k hk hs
      have he := ek_bd hB hk
      have ho : ovr g (bk g k) k = true := by
        unfold ovr
        rw [Bool.and_eq_true, decide_eq_true_eq, decide_eq_true_eq]
        omega
      have h4 := sm_ge (f := fun o => b1 (inH (seatOf g) h o && ovr g (bk g k) o)) hk
      try dsimp only at h4
      rw [hi, ho, show b1 (true && true) = 1 from rfl] at h4
      have h5 : tkn g (seatOf g) h (bk g k) = sm (fun o => b1 (inH (seatOf g) h o && ovr g (bk g k) o)) 96 := rfl
      try dsimp only at h3
      rw [lm] at h0
      omega
    · omega
/-- with a reader, in a room -/
def rdr (g : Nat → Int) (k : Nat) : Bool := st g k && (rd g k && decide (0 ≤ roomOf (seatOf g k)))
theorem tot_all {g : Nat → Int} (hB : Bd g) : sm (fun h => sm (fun k => b1 (inH (seatOf g) h k)) 96) 4 + sm (fun k => b1 (rdr g k)) 96 + wo g (fun _ => true) = nsit g := by
  rw [sm_swap]
  unfold wo nsit
  rw [← sm_add, ← sm_add]
  refine sm_congr (fun k hk => ?_)
  have h4 : sm (fun h => b1 (inH (seatOf g) h k)) 4 = b1 (inH (seatOf g) 0 k) + b1 (inH (seatOf g) 1 k) + b1 (inH (seatOf g) 2 k) + b1 (inH (seatOf g) 3 k) := by
    show 0 + b1 (inH (seatOf g) 0 k) + b1 (inH (seatOf g) 1 k) + b1 (inH (seatOf g) 2 k) + b1 (inH (seatOf g) 3 k) = _
    omega
  show sm (fun h => b1 (inH (seatOf g) h k)) 4 + b1 (rdr g k) + b1 (st g k && (true && (seatOf g k == -6))) = b1 (st g k)
  rw [h4]
  unfold rdr
  by_cases c : seatOf g k = -6
  · have z : ∀ h : Nat, inH (seatOf g) h k = false := fun h => by
      unfold inH
      rw [c, decide_eq_false (show ¬ 16 * (h : Int) ≤ -6 by omega), Bool.false_and]
    rw [z, z, z, z, c, show decide (0 ≤ roomOf (-6)) = false from rfl, Bool.and_false, Bool.and_false, show ((-6 : Int) == -6) = true from rfl, Bool.true_and, Bool.and_true]
    show 0 + 0 + 0 + 0 + 0 + _ = _
    omega
  · have hs : st g k = true := by
      rcases seat_gap g k with h | h
      · exact absurd h c
      · exact h.2
    rw [hs, show (seatOf g k == -6) = false from beq_eq_false_iff_ne.mpr c]
    obtain ⟨-, q⟩ := seat_where hB c
    rcases q with ⟨r1, r, -, r6, e⟩ | ⟨r1, a, d, ha, -, hd6, e⟩
    · have z : ∀ h : Nat, h < 4 → inH (seatOf g) h k = false := fun h hh => by
        unfold inH
        rw [e, decide_eq_false (show ¬ ((64 + r : Nat) : Int) ≤ 16 * (h : Int) + 15 by omega), Bool.and_false]
      have e2 : decide (0 ≤ roomOf (((64 + r : Nat) : Int))) = true := by
        unfold roomOf
        rw [if_pos (by omega)]
        exact decide_eq_true (by omega)
      rw [z 0 (by omega), z 1 (by omega), z 2 (by omega), z 3 (by omega), r1, e, e2]
      rfl
    · have z : ∀ h : Nat, inH (seatOf g) h k = decide (h = a) := fun h => by
        unfold inH
        rw [e]
        by_cases q : h = a
        · rw [decide_eq_true q, decide_eq_true (show 16 * (h : Int) ≤ ((16 * a + d : Nat) : Int) by omega), decide_eq_true (show ((16 * a + d : Nat) : Int) ≤ 16 * (h : Int) + 15 by omega)]
          rfl
        · rw [decide_eq_false q]
          by_cases q2 : h < a
          · rw [decide_eq_false (show ¬ ((16 * a + d : Nat) : Int) ≤ 16 * (h : Int) + 15 by omega), Bool.and_false]
          · rw [decide_eq_false (show ¬ 16 * (h : Int) ≤ ((16 * a + d : Nat) : Int) by omega), Bool.false_and]
      rw [z, z, z, z, r1]
      rcases (show a = 0 ∨ a = 1 ∨ a = 2 ∨ a = 3 by omega) with rfl | rfl | rfl | rfl <;> rfl
theorem lost_all {g : Nat → Int} : sm (upO g) 6 = wo g (fun _ => true) := by
  show sm (fun p => sm (fun i => b1 (unpz g (seatOf g) (6 * i + p))) 16) 6 = _
  rw [sm_swap (fun p i => b1 (unpz g (seatOf g) (6 * i + p))) 16 6, ← sm_six (fun k => b1 (unpz g (seatOf g) k)) 16]
  unfold wo
  refine sm_congr (fun k hk => ?_)
  unfold unpz
  rw [Bool.true_and]
  by_cases c : seatOf g k = -6
  · rw [c]; rfl
  · rw [decide_eq_false c, show (seatOf g k == -6) = false from beq_eq_false_iff_ne.mpr c]
/-- over the pupils there are -/
theorem over_np {g : Nat → Int} (hB : Bd g) (P : Nat → Bool) (hP : ∀ k : Nat, P k = true → st g k = true) : sm (fun i => sm (fun b => b1 (P (6 * i + b))) 6) (np g) = sm (fun k => b1 (P k)) 96 := by
  have hn := np_le hB
  have e := sm_cut (f := fun i => sm (fun b => b1 (P (6 * i + b))) 6) (n := np g) (16 - np g) (fun i h1 h2 => by
    have : sm (fun b => b1 (P (6 * i + b))) 6 = sm (fun _ => 0) 6 := sm_congr (fun b hb => by
      have : P (6 * i + b) = false := by
        rw [← Bool.not_eq_true]
        intro c
        have h3 := hP _ c
        rw [st_ip hb, Bool.and_eq_true, decide_eq_true_eq] at h3
        omega
      rw [this]
      rfl)
    rw [this, sm_zero])
  rw [show np g + (16 - np g) = 16 by omega] at e
  rw [← e, ← sm_six (fun k => b1 (P k)) 16]
theorem without_np {g : Nat → Int} (hB : Bd g) : sm (fun i => sm (fun b => b1 (unpz g (seatOf g) (6 * i + b))) 6) (np g) = wo g (fun _ => true) := by
  rw [over_np hB (unpz g (seatOf g)) (fun k h => ((Bool.and_eq_true _ _).mp h).1), ← lost_all]
  show _ = sm (fun p => sm (fun i => b1 (unpz g (seatOf g) (6 * i + p))) 16) 6
  rw [sm_swap (fun p i => b1 (unpz g (seatOf g) (6 * i + p))) 16 6, ← sm_six (fun k => b1 (unpz g (seatOf g) k)) 16]
theorem readers_np {g : Nat → Int} (hB : Bd g) : sm (fun i => sm (fun b => b1 (rdr g (6 * i + b))) 6) (np g) = sm (fun k => b1 (rdr g k)) 96 := over_np hB (rdr g) (fun k h => ((Bool.and_eq_true _ _).mp h).1)
/-! ===== bits ===== -/
theorem msk_raw : ∀ a b c d e f : Bool, ∀ p : Fin 6, bt ((msk (fun k => if k = 0 then a else if k = 1 then b else if k = 2 then c else if k = 3 then d else if k = 4 then e else f) 6 : Nat) : Int) p.val = (if p.val = 0 then a else if p.val = 1 then b else if p.val = 2 then c else if p.val = 3 then d else if p.val = 4 then e else f) := by decide +kernel
theorem msk_congr {P P' : Nat → Bool} : ∀ {n : Nat}, (∀ i : Nat, i < n → P i = P' i) → msk P n = msk P' n
  | 0, _ => rfl
  | n + 1, h => by
    have h1 := msk_congr (P := P) (P' := P') (n := n) (fun i hi => h i (by omega))
    unfold msk
    rw [h1, h n (by omega)]
theorem msk_bt (P : Nat → Bool) {p : Nat} (hp : p < 6) : bt ((msk P 6 : Nat) : Int) p = P p := by
  have e : ∀ i : Nat, i < 6 → P i = (fun k => if k = 0 then P 0 else if k = 1 then P 1 else if k = 2 then P 2 else if k = 3 then P 3 else if k = 4 then P 4 else P 5) i := by
    intro i hi
    rcases (show i = 0 ∨ i = 1 ∨ i = 2 ∨ i = 3 ∨ i = 4 ∨ i = 5 by omega) with rfl | rfl | rfl | rfl | rfl | rfl <;> rfl
  rw [msk_congr e]
  refine (msk_raw (P 0) (P 1) (P 2) (P 3) (P 4) (P 5) ⟨p, hp⟩).trans ?_
  exact (e p hp).symm
theorem om_msk (P : Nat → Bool) : ∀ n : Nat, n ≤ 6 → om P n = I ((msk P n : Nat) : Int)
  | 0, _ => rfl
  | n + 1, h => by
    have h1 := om_msk P n (by omega)
    have h2 := or_I (m := msk P n) (b := n) (by omega) (msk_lt P n)
    unfold om msk
    rw [h1]
    by_cases c : P n = true
    · rw [if_pos c, if_pos c, h2]
    · rw [if_neg c, if_neg c, Nat.add_zero]
theorem bit16_raw : ∀ x : Fin 64, ∀ p : Fin 16, ((I (x.val : Int) >>> (I (p.val : Int) &&& 31)) &&& 1) = I (B1 (decide (p.val < 6) && bt (x.val : Int) p.val)) := by decide +kernel
theorem l_bits {x0 : Int32} {P : Nat → Bool} (h : ∀ i : Nat, i < 16 → ((x0 >>> (I (i : Int) &&& 31)) &&& (1 : Int32)) = I (B1 (P i))) : f_L_bits x0 = some (I ((sm (fun i => b1 (P i)) 16 : Nat) : Int)) := by
  unfold f_L_bits f_L_bits_L4
  refine lp_run _ (fun i => (I ((sm (fun i => b1 (P i)) i : Nat) : Int), I (i : Int))) 16 _ (fun rec i hi => ?_) (fun rec => ?_) FU (by have := FU_ge; omega)
  · show f_L_bits_b4 x0 (fun x y => rec (x, y)) (I ((sm (fun i => b1 (P i)) i : Nat) : Int)) (I (i : Int)) = rec (I ((sm (fun i => b1 (P i)) i + b1 (P i) : Nat) : Int), I ((i + 1 : Nat) : Int))
    unfold f_L_bits_b4
    rw [show (16 : Int32) = I ((16 : Nat) : Int) from rfl, k_le (by omega) (by omega), if_neg (by omega), h i hi, one_add, show I (B1 (P i)) = I ((b1 (P i) : Nat) : Int) from by cases P i <;> rfl, nat_add]
  · show f_L_bits_b4 x0 (fun x y => rec (x, y)) (I ((sm (fun i => b1 (P i)) 16 : Nat) : Int)) (I ((16 : Nat) : Int)) = _
    unfold f_L_bits_b4
    rw [show (16 : Int32) = I ((16 : Nat) : Int) from rfl, k_le (by omega) (by omega), if_pos (by omega)]
theorem l_bits_I {a : Int} (h0 : 0 ≤ a) (h1 : a ≤ 63) : f_L_bits (I a) = some (I ((sm (fun b => b1 (bt a b)) 6 : Nat) : Int)) := by
  rw [l_bits (x0 := I a) (P := fun p => decide (p < 6) && bt a p) (fun i hi => by
    have h := bit16_raw ⟨a.toNat, by omega⟩ ⟨i, hi⟩
    simp only [Int.toNat_of_nonneg h0] at h
    exact h)]
  congr 3
theorem l_bits_msk (P : Nat → Bool) : f_L_bits (I ((msk P 6 : Nat) : Int)) = some (I ((sm (fun b => b1 (P b)) 6 : Nat) : Int)) := by
  have h := msk_lt P 6
  rw [l_bits_I (by omega) (by omega)]
  congr 3
  exact sm_congr (fun i hi => by rw [msk_bt P hi])
theorem hmO_bits {z : Nat → Int} (hz : Zb z) (p : Nat) : ∀ n : Nat, ∃ m : Nat, m < 64 ∧ hmO z p n = I (m : Int) ∧ ∀ h : Nat, h < 4 → bt (m : Int) h = anyB (fun i => inH z h (6 * i + p)) n
  | 0 => ⟨0, by omega, rfl, fun h _ => by
      unfold anyB bt
      simp⟩
  | n + 1 => by
    obtain ⟨m, m1, m2, m3⟩ := hmO_bits hz p n
    have hzk := hz (6 * n + p)
    have e : hmO z p (n + 1) = hst z (6 * n + p) (hmO z p n) := rfl
    rw [e, m2]
    unfold hst
    by_cases c : (decide (0 ≤ z (6 * n + p)) && decide (z (6 * n + p) ≤ 63)) = true
    · rw [if_pos c]
      rw [Bool.and_eq_true, decide_eq_true_eq, decide_eq_true_eq] at c
      obtain ⟨q, hq⟩ := I_nex (show 0 ≤ z (6 * n + p) / 16 by omega)
      have r := or_raw2 ⟨m, m1⟩ ⟨q, by omega⟩
      try dsimp only at r
      refine ⟨m ||| 2 ^ q, r.2.1, by rw [hq]; exact r.1, fun h hh => ?_⟩
      have r3 := r.2.2 ⟨h, by omega⟩
      try dsimp only at r3
      rw [r3, m3 h hh]
      show _ = (anyB (fun i => inH z h (6 * i + p)) n || inH z h (6 * n + p))
      congr 1
      unfold inH
      by_cases d : h = q
      · rw [decide_eq_true d, decide_eq_true (show 16 * (h : Int) ≤ z (6 * n + p) by omega), decide_eq_true (show z (6 * n + p) ≤ 16 * (h : Int) + 15 by omega)]
        rfl
      · rw [decide_eq_false d]
        by_cases d2 : h < q
        · rw [decide_eq_false (show ¬ z (6 * n + p) ≤ 16 * (h : Int) + 15 by omega), Bool.and_false]
        · rw [decide_eq_false (show ¬ 16 * (h : Int) ≤ z (6 * n + p) by omega), Bool.false_and]
    · rw [if_neg c]
      refine ⟨m, m1, rfl, fun h hh => ?_⟩
      rw [m3 h hh]
      show _ = (anyB (fun i => inH z h (6 * i + p)) n || inH z h (6 * n + p))
      have : inH z h (6 * n + p) = false := by
        rw [← Bool.not_eq_true]
        intro d
        apply c
        unfold inH at d
        rw [Bool.and_eq_true, decide_eq_true_eq, decide_eq_true_eq] at d ⊢
        omega
      rw [this, Bool.or_false]
/-- the halls of a paper hold the hall of its sitting -/
theorem haO_bit {g : Nat → Int} (hB : Bd g) {k h : Nat} (hk : k < 96) (hh : h < 4) (hi : inH (seatOf g) h k = true) : ((haO g (k % 6) >>> (I (h : Int) &&& 31)) &&& 1) = (1 : Int32) := by
  obtain ⟨m, m1, m2, m3⟩ := hmO_bits (seat_bd hB) (k % 6) 16
  unfold haO
  rw [m2, bit_I (by omega) (by omega) (by omega), m3 h hh, anyB_iff.mpr ⟨k / 6, by omega, by
    show inH (seatOf g) h (6 * (k / 6) + k % 6) = true
    rw [show 6 * (k / 6) + k % 6 = k by omega]
    exact hi⟩]
  rfl
