/-! ===== the pad is read: the class's steps ===== -/
abbrev TR : Type := Nat → Int × Int × Int
def CV (v v0 : JV) (q pp ex : Nat) (r : Bool) (k : Nat) (T : TR) : Prop :=
  v 0 = v0 0 ∧ v 1 = v0 1 ∧ v 6 0 = I (q : Int) ∧ v 7 0 = I (pp : Int) ∧ v 8 0 = I (ex : Int) ∧ v 9 0 = I (B1 r) ∧ v 5 0 = I (k : Int) ∧ ∀ j : Nat, j < k → v 2 j = I (T j).1 ∧ v 3 j = I (T j).2.1 ∧ v 4 j = I (T j).2.2
theorem t_plus {v v0 : JV} {pp ex : Nat} {r : Bool} {k : Nat} {T : TR} (h : CV v v0 1 pp ex r k T) : ∃ w : JV, f_X1_takes v (I 43) = some (I 1, w) ∧ CV w v0 2 pp ex r k T := by
  obtain ⟨h0, h1, h6, h7, h8, h9, h5, hl⟩ := h
  refine ⟨up2 v 6 0 (2 : Int32), ?_, ?_, ?_, ?_, ?_, ?_, ?_, ?_, fun j hj => ?_⟩
  · unfold f_X1_takes f_X1_takesPlus
    rw [if_neg (show ¬ I 43 = (59 : Int32) by decide), if_pos (show I 43 = (43 : Int32) from rfl), h6, if_pos (show I ((1 : Nat) : Int) = (1 : Int32) from rfl)]
    rfl
  · rw [up2_ne _ _ _ (show (0 : Nat) ≠ 6 by omega)]; exact h0
  · rw [up2_ne _ _ _ (show (1 : Nat) ≠ 6 by omega)]; exact h1
  · rw [up2_if, if_pos rfl]; rfl
  · rw [up2_v (show (7 : Nat) ≠ 6 by omega)]; exact h7
  · rw [up2_v (show (8 : Nat) ≠ 6 by omega)]; exact h8
  · rw [up2_v (show (9 : Nat) ≠ 6 by omega)]; exact h9
  · rw [up2_v (show (5 : Nat) ≠ 6 by omega)]; exact h5
  · rw [up2_v (show (2 : Nat) ≠ 6 by omega), up2_v (show (3 : Nat) ≠ 6 by omega), up2_v (show (4 : Nat) ≠ 6 by omega)]; exact hl j hj
theorem t_reader {v v0 : JV} {q pp ex : Nat} {r : Bool} {k : Nat} {T : TR} (hq : q = 1 ∨ q = 3) (h : CV v v0 q pp ex r k T) : ∃ w : JV, f_X1_takes v (I 114) = some (I 1, w) ∧ CV w v0 4 pp ex true k T := by
  obtain ⟨h0, h1, h6, h7, h8, h9, h5, hl⟩ := h
  refine ⟨up2 (up2 v 9 0 (1 : Int32)) 6 0 (4 : Int32), ?_, ?_, ?_, ?_, ?_, ?_, ?_, ?_, fun j hj => ?_⟩
  · unfold f_X1_takes f_X1_takesReader
    rw [if_neg (show ¬ I 114 = (59 : Int32) by decide), if_neg (show ¬ I 114 = (43 : Int32) by decide), if_pos (show I 114 = (114 : Int32) from rfl), h6]
    rcases hq with rfl | rfl
    · rw [if_pos (show I ((1 : Nat) : Int) = (1 : Int32) from rfl)]
      rfl
    · rw [if_neg (show ¬ I ((3 : Nat) : Int) = (1 : Int32) by decide), if_pos (show I ((3 : Nat) : Int) = (3 : Int32) from rfl)]
      rfl
  · rw [up2_ne _ _ _ (show (0 : Nat) ≠ 6 by omega), up2_ne _ _ _ (show (0 : Nat) ≠ 9 by omega)]; exact h0
  · rw [up2_ne _ _ _ (show (1 : Nat) ≠ 6 by omega), up2_ne _ _ _ (show (1 : Nat) ≠ 9 by omega)]; exact h1
  · rw [up2_if, if_pos rfl]; rfl
  · rw [up2_v (show (7 : Nat) ≠ 6 by omega), up2_v (show (7 : Nat) ≠ 9 by omega)]; exact h7
  · rw [up2_v (show (8 : Nat) ≠ 6 by omega), up2_v (show (8 : Nat) ≠ 9 by omega)]; exact h8
  · rw [up2_v (show (9 : Nat) ≠ 6 by omega), up2_if, if_pos rfl]; rfl
  · rw [up2_v (show (5 : Nat) ≠ 6 by omega), up2_v (show (5 : Nat) ≠ 9 by omega)]; exact h5
  · rw [up2_v (show (2 : Nat) ≠ 6 by omega), up2_v (show (3 : Nat) ≠ 6 by omega), up2_v (show (4 : Nat) ≠ 6 by omega), up2_v (show (2 : Nat) ≠ 9 by omega), up2_v (show (3 : Nat) ≠ 9 by omega), up2_v (show (4 : Nat) ≠ 9 by omega)]; exact hl j hj
/-- takes, for a sign that is none of the three -/
theorem t_split {v : JV} {z : Int} (hz : rng z) (h1 : z ≠ 59) (h2 : z ≠ 43) (h3 : z ≠ 114) : f_X1_takes v (I z) = if wi 48 57 z = true then (f_X1_takesDigit v (I (z - 48))).bind (fun q8 => gd (isb (q8.1)) (some ((q8.1), (q8.2)))) else (f_X1_takesLetter v (I (z - 97))).bind (fun q6 => gd (isb (q6.1)) (some ((q6.1), (q6.2)))) := by
  unfold f_X1_takes
  rw [if_neg (show ¬ I z = (59 : Int32) from I_eqn hz 59 (r0 59) h1), if_neg (show ¬ I z = (43 : Int32) from I_eqn hz 43 (r0 43) h2), if_neg (show ¬ I z = (114 : Int32) from I_eqn hz 114 (r0 114) h3), show f_X4_isWithin (I z) (48 : Int32) (57 : Int32) = _ from p_wi hz 48 57 (r0 48) (r0 57)]
  simp only [Option.bind_some]
  rw [ite_B1, show I z - (48 : Int32) = I (z - 48) from I_sub z 48, show I z - (97 : Int32) = I (z - 97) from I_sub z 97]
theorem t_digit {v v0 : JV} {q pp ex : Nat} {r : Bool} {k : Nat} {T : TR} {d : Nat} (hq : q = 2 ∨ q = 3) (hd : d ≤ 9) (h : CV v v0 q pp ex r k T) : f_X1_takes v (I ((48 + d : Nat) : Int)) = (if 1 ≤ 10 * ex + d ∧ 10 * ex + d ≤ 100 then some (I 1, up2 (up2 v 8 0 (I ((10 * ex + d : Nat) : Int))) 6 0 (3 : Int32)) else some (I 0, v)) ∨ 1000 < ex := by
  by_cases hex : 1000 < ex
  · exact Or.inr hex
  refine Or.inl ?_
  obtain ⟨h0, h1, h6, h7, h8, h9, h5, hl⟩ := h
  rw [t_split (r0 _) (by omega) (by omega) (by omega), if_pos (wi_iff.mpr ⟨by omega, by omega⟩), show ((48 + d : Nat) : Int) - 48 = (d : Int) by omega]
  have K : f_X1_takesDigit v (I (d : Int)) = f_X1_takesDigit_K18 v (I (d : Int)) := by
    unfold f_X1_takesDigit
    rw [h6]
    rcases hq with rfl | rfl
    · rw [if_pos (show I ((2 : Nat) : Int) = (2 : Int32) from rfl)]
    · rw [if_neg (show ¬ I ((3 : Nat) : Int) = (2 : Int32) by decide), if_pos (show I ((3 : Nat) : Int) = (3 : Int32) from rfl)]
  rw [K]
  unfold f_X1_takesDigit_K18
  rw [h8, show (10 : Int32) = I ((10 : Nat) : Int) from rfl, nat_mul, nat_add, show f_X4_isWithin (I ((10 * ex + d : Nat) : Int)) (1 : Int32) (100 : Int32) = _ from p_wi (r0 _) 1 100 (r0 1) (r0 100)]
  simp only [Option.bind_some]
  rw [ite_B1]
  by_cases c : 1 ≤ 10 * ex + d ∧ 10 * ex + d ≤ 100
  · rw [if_pos (wi_iff.mpr ⟨by omega, by omega⟩), if_pos c]
    rfl
  · rw [if_neg (fun z => c (by have := wi_iff.mp z; omega)), if_neg c]
    rfl
theorem CV_digit {v v0 : JV} {q pp ex : Nat} {r : Bool} {k : Nat} {T : TR} {n : Nat} (h : CV v v0 q pp ex r k T) : CV (up2 (up2 v 8 0 (I (n : Int))) 6 0 (3 : Int32)) v0 3 pp n r k T := by
  obtain ⟨h0, h1, h6, h7, h8, h9, h5, hl⟩ := h
  refine ⟨?_, ?_, ?_, ?_, ?_, ?_, ?_, fun j hj => ?_⟩
  · rw [up2_ne _ _ _ (show (0 : Nat) ≠ 6 by omega), up2_ne _ _ _ (show (0 : Nat) ≠ 8 by omega)]; exact h0
  · rw [up2_ne _ _ _ (show (1 : Nat) ≠ 6 by omega), up2_ne _ _ _ (show (1 : Nat) ≠ 8 by omega)]; exact h1
  · rw [up2_if, if_pos rfl]; rfl
  · rw [up2_v (show (7 : Nat) ≠ 6 by omega), up2_v (show (7 : Nat) ≠ 8 by omega)]; exact h7
  · rw [up2_v (show (8 : Nat) ≠ 6 by omega), up2_if, if_pos rfl]
  · rw [up2_v (show (9 : Nat) ≠ 6 by omega), up2_v (show (9 : Nat) ≠ 8 by omega)]; exact h9
  · rw [up2_v (show (5 : Nat) ≠ 6 by omega), up2_v (show (5 : Nat) ≠ 8 by omega)]; exact h5
  · rw [up2_v (show (2 : Nat) ≠ 6 by omega), up2_v (show (3 : Nat) ≠ 6 by omega), up2_v (show (4 : Nat) ≠ 6 by omega), up2_v (show (2 : Nat) ≠ 8 by omega), up2_v (show (3 : Nat) ≠ 8 by omega), up2_v (show (4 : Nat) ≠ 8 by omega)]; exact hl j hj
theorem shr_raw : ∀ s : Fin 64, ∀ p : Fin 6, (I (s.val : Int) >>> (I (p.val : Int) &&& 31) = 0 ↔ s.val < 2 ^ p.val) ∧ (((1 : Int32) <<< (I (p.val : Int) &&& 31)) ≤ I (s.val : Int) ↔ 2 ^ p.val ≤ s.val) := by decide +kernel
theorem or_k {m p : Nat} (hm : m < 64) (hp : p < 6) : (I (m : Int) ||| ((1 : Int32) <<< (I (p : Int) &&& 31))) = I ((m ||| 2 ^ p : Nat) : Int) ∧ m ||| 2 ^ p < 64 := ⟨(or_raw2 ⟨m, hm⟩ ⟨p, hp⟩).1, (or_raw2 ⟨m, hm⟩ ⟨p, hp⟩).2.1⟩
theorem t_letter {v v0 : JV} {q pp ex : Nat} {r : Bool} {k : Nat} {T : TR} {p : Nat} (hq : q = 0 ∨ q = 1) (hp : p < 6) (hpp : pp < 64) (h : CV v v0 q pp ex r k T) : f_X1_takes v (I ((97 + p : Nat) : Int)) = (if pp < 2 ^ p then some (I 1, up2 (up2 v 7 0 (I ((pp ||| 2 ^ p : Nat) : Int))) 6 0 (1 : Int32)) else some (I 0, v)) := by
  obtain ⟨h0, h1, h6, h7, h8, h9, h5, hl⟩ := h
  rw [t_split (r0 _) (by omega) (by omega) (by omega), if_neg (fun z => by have := wi_iff.mp z; omega), show ((97 + p : Nat) : Int) - 97 = (p : Int) by omega]
  have K : f_X1_takesLetter v (I (p : Int)) = f_X1_takesLetter_K17 v (I (p : Int)) := by
    unfold f_X1_takesLetter
    rw [h6]
    rcases hq with rfl | rfl
    · rw [if_pos (show I ((0 : Nat) : Int) = (0 : Int32) from rfl)]
    · rw [if_neg (show ¬ I ((1 : Nat) : Int) = (0 : Int32) by decide), if_pos (show I ((1 : Nat) : Int) = (1 : Int32) from rfl)]
  rw [K]
  unfold f_X1_takesLetter_K17
  rw [p_isPaper (r0 _)]
  simp only [Option.bind_some]
  have hs := (shr_raw ⟨pp, hpp⟩ ⟨p, hp⟩).1
  dsimp only at hs
  rw [ite_B1, if_pos (wi_iff.mpr ⟨by omega, by omega⟩), h7, (or_k hpp hp).1]
  by_cases c : pp < 2 ^ p
  · rw [if_pos (hs.mpr c), if_pos c]
    rfl
  · rw [if_neg (fun z => c (hs.mp z)), if_neg c]
    rfl
theorem CV_letter {v v0 : JV} {q pp ex : Nat} {r : Bool} {k : Nat} {T : TR} {n : Nat} (h : CV v v0 q pp ex r k T) : CV (up2 (up2 v 7 0 (I (n : Int))) 6 0 (1 : Int32)) v0 1 n ex r k T := by
  obtain ⟨h0, h1, h6, h7, h8, h9, h5, hl⟩ := h
  refine ⟨?_, ?_, ?_, ?_, ?_, ?_, ?_, fun j hj => ?_⟩
  · rw [up2_ne _ _ _ (show (0 : Nat) ≠ 6 by omega), up2_ne _ _ _ (show (0 : Nat) ≠ 7 by omega)]; exact h0
  · rw [up2_ne _ _ _ (show (1 : Nat) ≠ 6 by omega), up2_ne _ _ _ (show (1 : Nat) ≠ 7 by omega)]; exact h1
  · rw [up2_if, if_pos rfl]; rfl
  · rw [up2_v (show (7 : Nat) ≠ 6 by omega), up2_if, if_pos rfl]
  · rw [up2_v (show (8 : Nat) ≠ 6 by omega), up2_v (show (8 : Nat) ≠ 7 by omega)]; exact h8
  · rw [up2_v (show (9 : Nat) ≠ 6 by omega), up2_v (show (9 : Nat) ≠ 7 by omega)]; exact h9
  · rw [up2_v (show (5 : Nat) ≠ 6 by omega), up2_v (show (5 : Nat) ≠ 7 by omega)]; exact h5
  · rw [up2_v (show (2 : Nat) ≠ 6 by omega), up2_v (show (3 : Nat) ≠ 6 by omega), up2_v (show (4 : Nat) ≠ 6 by omega), up2_v (show (2 : Nat) ≠ 7 by omega), up2_v (show (3 : Nat) ≠ 7 by omega), up2_v (show (4 : Nat) ≠ 7 by omega)]; exact hl j hj
theorem p_mayEnd {v v0 : JV} {q pp ex : Nat} {r : Bool} {k : Nat} {T : TR} (hq5 : q < 5) (h : CV v v0 q pp ex r k T) : f_X1_mayEnd v = some (I (B1 (!(q == 0) && !(q == 2)))) := by
  have h6 := h.2.2.1
  unfold f_X1_mayEnd
  rw [h6]
  rcases (show q = 0 ∨ q = 1 ∨ q = 2 ∨ q = 3 ∨ q = 4 by omega) with rfl | rfl | rfl | rfl | rfl <;> rfl
theorem p_endPupil {v v0 : JV} {q pp ex : Nat} {r : Bool} {k : Nat} {T : TR} (hk : k < 30) (h : CV v v0 q pp ex r k T) (hT : T k = ((pp : Int), (ex : Int), B1 r)) : ∃ w : JV, f_X1_endPupil v = some w ∧ CV w v0 q pp ex r (k + 1) T := by
  obtain ⟨h0, h1, h6, h7, h8, h9, h5, hl⟩ := h
  refine ⟨up2 (up2 (up2 (up2 v 2 k (I (pp : Int))) 3 k (I (ex : Int))) 4 k (I (B1 r))) 5 0 (I ((k + 1 : Nat) : Int)), ?_, ?_, ?_, ?_, ?_, ?_, ?_, ?_, fun j hj => ?_⟩
  · unfold f_X1_endPupil
    rw [h5, h7, h8, h9, show (30 : Int32) = I ((30 : Nat) : Int) from rfl, k_le (by omega) (by omega), if_neg (by omega), gd_t (inb_k hk (by omega)), gd_t (inb_k hk (by omega)), gd_t (inb_k hk (by omega)), gd_t (B1_isb r), I_k (by omega), one_add]
  · rw [up2_ne _ _ _ (show (0 : Nat) ≠ 5 by omega), up2_ne _ _ _ (show (0 : Nat) ≠ 4 by omega), up2_ne _ _ _ (show (0 : Nat) ≠ 3 by omega), up2_ne _ _ _ (show (0 : Nat) ≠ 2 by omega)]; exact h0
  · rw [up2_ne _ _ _ (show (1 : Nat) ≠ 5 by omega), up2_ne _ _ _ (show (1 : Nat) ≠ 4 by omega), up2_ne _ _ _ (show (1 : Nat) ≠ 3 by omega), up2_ne _ _ _ (show (1 : Nat) ≠ 2 by omega)]; exact h1
  · rw [up2_v (show (6 : Nat) ≠ 5 by omega), up2_v (show (6 : Nat) ≠ 4 by omega), up2_v (show (6 : Nat) ≠ 3 by omega), up2_v (show (6 : Nat) ≠ 2 by omega)]; exact h6
  · rw [up2_v (show (7 : Nat) ≠ 5 by omega), up2_v (show (7 : Nat) ≠ 4 by omega), up2_v (show (7 : Nat) ≠ 3 by omega), up2_v (show (7 : Nat) ≠ 2 by omega)]; exact h7
  · rw [up2_v (show (8 : Nat) ≠ 5 by omega), up2_v (show (8 : Nat) ≠ 4 by omega), up2_v (show (8 : Nat) ≠ 3 by omega), up2_v (show (8 : Nat) ≠ 2 by omega)]; exact h8
  · rw [up2_v (show (9 : Nat) ≠ 5 by omega), up2_v (show (9 : Nat) ≠ 4 by omega), up2_v (show (9 : Nat) ≠ 3 by omega), up2_v (show (9 : Nat) ≠ 2 by omega)]; exact h9
  · rw [up2_if, if_pos rfl]
  · rw [up2_v (show (2 : Nat) ≠ 5 by omega), up2_v (show (2 : Nat) ≠ 4 by omega), up2_v (show (2 : Nat) ≠ 3 by omega), up2_v (show (3 : Nat) ≠ 5 by omega), up2_v (show (3 : Nat) ≠ 4 by omega), up2_v (show (4 : Nat) ≠ 5 by omega), up2_if, up2_if, up2_if]
    by_cases c : j = k
    · rw [if_pos c, if_pos c, if_pos c, c, hT]
      exact ⟨rfl, rfl, rfl⟩
    · rw [if_neg c, if_neg c, if_neg c, up2_v (show (3 : Nat) ≠ 2 by omega), up2_v (show (4 : Nat) ≠ 3 by omega), up2_v (show (4 : Nat) ≠ 2 by omega)]
      exact hl j (by omega)
theorem p_beginPupil {v v0 : JV} {k : Nat} {T : TR} (h0 : v 0 = v0 0) (h1 : v 1 = v0 1) (h5 : v 5 0 = I (k : Int)) (hl : ∀ j : Nat, j < k → v 2 j = I (T j).1 ∧ v 3 j = I (T j).2.1 ∧ v 4 j = I (T j).2.2) : ∃ w : JV, f_X1_beginPupil v = some w ∧ CV w v0 0 0 0 false k T := by
  refine ⟨_, rfl, ?_, ?_, ?_, ?_, ?_, ?_, ?_, fun j hj => ?_⟩
  · rw [up2_ne _ _ _ (show (0 : Nat) ≠ 9 by omega), up2_ne _ _ _ (show (0 : Nat) ≠ 8 by omega), up2_ne _ _ _ (show (0 : Nat) ≠ 7 by omega), up2_ne _ _ _ (show (0 : Nat) ≠ 6 by omega)]; exact h0
  · rw [up2_ne _ _ _ (show (1 : Nat) ≠ 9 by omega), up2_ne _ _ _ (show (1 : Nat) ≠ 8 by omega), up2_ne _ _ _ (show (1 : Nat) ≠ 7 by omega), up2_ne _ _ _ (show (1 : Nat) ≠ 6 by omega)]; exact h1
  · rw [up2_v (show (6 : Nat) ≠ 9 by omega), up2_v (show (6 : Nat) ≠ 8 by omega), up2_v (show (6 : Nat) ≠ 7 by omega), up2_if, if_pos rfl]; rfl
  · rw [up2_v (show (7 : Nat) ≠ 9 by omega), up2_v (show (7 : Nat) ≠ 8 by omega), up2_if, if_pos rfl]; rfl
  · rw [up2_v (show (8 : Nat) ≠ 9 by omega), up2_if, if_pos rfl]; rfl
  · rw [up2_if, if_pos rfl]; rfl
  · rw [up2_v (show (5 : Nat) ≠ 9 by omega), up2_v (show (5 : Nat) ≠ 8 by omega), up2_v (show (5 : Nat) ≠ 7 by omega), up2_v (show (5 : Nat) ≠ 6 by omega)]; exact h5
  · rw [up2_v (show (2 : Nat) ≠ 9 by omega), up2_v (show (2 : Nat) ≠ 8 by omega), up2_v (show (2 : Nat) ≠ 7 by omega), up2_v (show (2 : Nat) ≠ 6 by omega), up2_v (show (3 : Nat) ≠ 9 by omega), up2_v (show (3 : Nat) ≠ 8 by omega), up2_v (show (3 : Nat) ≠ 7 by omega), up2_v (show (3 : Nat) ≠ 6 by omega), up2_v (show (4 : Nat) ≠ 9 by omega), up2_v (show (4 : Nat) ≠ 8 by omega), up2_v (show (4 : Nat) ≠ 7 by omega), up2_v (show (4 : Nat) ≠ 6 by omega)]
    exact hl j hj
theorem t_semi {v v0 : JV} {q pp ex : Nat} {r : Bool} {k : Nat} {T : TR} (hq : q = 1 ∨ q = 3 ∨ q = 4) (hk : k < 30) (h : CV v v0 q pp ex r k T) (hT : T k = ((pp : Int), (ex : Int), B1 r)) : ∃ w : JV, f_X1_takes v (I 59) = some (I 1, w) ∧ CV w v0 0 0 0 false (k + 1) T := by
  obtain ⟨w, w1, w2⟩ := p_endPupil hk h hT
  obtain ⟨u, u1, u2⟩ := p_beginPupil (v := w) w2.1 w2.2.1 w2.2.2.2.2.2.2.1 w2.2.2.2.2.2.2.2
  refine ⟨u, ?_, u2⟩
  unfold f_X1_takes f_X1_takesSemicolon
  rw [if_pos (show I 59 = (59 : Int32) from rfl), p_mayEnd (by omega) h]
  simp only [Option.bind_some]
  rw [ite_B1, if_pos (by rcases hq with rfl | rfl | rfl <;> rfl), w1]
  simp only [Option.bind_some]
  rw [u1]
  rfl
/-- a sign that is not taken -/
theorem t_rej {v v0 : JV} {q pp ex : Nat} {r : Bool} {k : Nat} {T : TR} {z : Int} (hz : 33 ≤ z ∧ z ≤ 126) (hq5 : q < 5) (hpp : pp < 64) (hex : ex ≤ 100) (h : CV v v0 q pp ex r k T)
    (h59 : z = 59 → q = 0 ∨ q = 2) (h43 : z = 43 → q ≠ 1) (h114 : z = 114 → q ≠ 1 ∧ q ≠ 3) (hdig : ∀ d : Nat, d ≤ 9 → z = ((48 + d : Nat) : Int) → (q = 2 ∨ q = 3) → ¬ (1 ≤ 10 * ex + d ∧ 10 * ex + d ≤ 100)) (hlet : ∀ p : Nat, p < 6 → z = ((97 + p : Nat) : Int) → (q = 0 ∨ q = 1) → ¬ pp < 2 ^ p) : f_X1_takes v (I z) = some (I 0, v) := by
  have h6 := h.2.2.1
  by_cases e59 : z = 59
  · subst e59
    unfold f_X1_takes f_X1_takesSemicolon
    rw [if_pos (show I 59 = (59 : Int32) from rfl), p_mayEnd hq5 h]
    rcases h59 rfl with rfl | rfl <;> rfl
  by_cases e43 : z = 43
  · subst e43
    have := h43 rfl
    unfold f_X1_takes f_X1_takesPlus
    rw [if_neg (show ¬ I 43 = (59 : Int32) by decide), if_pos (show I 43 = (43 : Int32) from rfl), h6, if_neg (show ¬ I (q : Int) = (1 : Int32) from I_eqn (r0 _) 1 (r0 1) (by omega))]
    rfl
  by_cases e114 : z = 114
  · subst e114
    have := h114 rfl
    unfold f_X1_takes f_X1_takesReader
    rw [if_neg (show ¬ I 114 = (59 : Int32) by decide), if_neg (show ¬ I 114 = (43 : Int32) by decide), if_pos (show I 114 = (114 : Int32) from rfl), h6, if_neg (show ¬ I (q : Int) = (1 : Int32) from I_eqn (r0 _) 1 (r0 1) (by omega)), if_neg (show ¬ I (q : Int) = (3 : Int32) from I_eqn (r0 _) 3 (r0 3) (by omega))]
    rfl
  by_cases cd : wi 48 57 z = true
  · have cz := wi_iff.mp cd
    obtain ⟨d, hd⟩ : ∃ d : Nat, z = ((48 + d : Nat) : Int) := ⟨(z - 48).toNat, by omega⟩
    by_cases q23 : q = 2 ∨ q = 3
    · rcases t_digit (d := d) q23 (by omega) h with e | e
      · rw [hd, e, if_neg (hdig d (by omega) hd q23)]
      · omega
    · rw [t_split (r0 _) e59 e43 e114, if_pos cd]
      unfold f_X1_takesDigit
      rw [h6, if_neg (show ¬ I (q : Int) = (2 : Int32) from I_eqn (r0 _) 2 (r0 2) (by omega)), if_neg (show ¬ I (q : Int) = (3 : Int32) from I_eqn (r0 _) 3 (r0 3) (by omega))]
      rfl
  · by_cases q01 : q = 0 ∨ q = 1
    · by_cases cl : wi 0 5 (z - 97) = true
      · have cz := wi_iff.mp cl
        obtain ⟨p, hp⟩ : ∃ p : Nat, z = ((97 + p : Nat) : Int) := ⟨(z - 97).toNat, by omega⟩
        rw [hp, t_letter q01 (by omega) hpp h, if_neg (hlet p (by omega) hp q01)]
      · rw [t_split (r0 _) e59 e43 e114, if_neg cd]
        have K : f_X1_takesLetter v (I (z - 97)) = f_X1_takesLetter_K17 v (I (z - 97)) := by
          unfold f_X1_takesLetter
          rw [h6]
          rcases q01 with rfl | rfl
          · rw [if_pos (show I ((0 : Nat) : Int) = (0 : Int32) from rfl)]
          · rw [if_neg (show ¬ I ((1 : Nat) : Int) = (0 : Int32) by decide), if_pos (show I ((1 : Nat) : Int) = (1 : Int32) from rfl)]
        rw [K]
        unfold f_X1_takesLetter_K17
        rw [p_isPaper (r0 _)]
        simp only [Option.bind_some]
        rw [ite_B1, if_neg cl]
        rfl
    · rw [t_split (r0 _) e59 e43 e114, if_neg cd]
      unfold f_X1_takesLetter
      rw [h6, show (if I (q : Int) = 0 then f_X1_takesLetter_K17 v (I (z - 97)) else _) = _ from if_neg (show ¬ I (q : Int) = (0 : Int32) from I_eqn (r0 _) 0 (r0 0) (by omega)), if_neg (show ¬ I (q : Int) = (1 : Int32) from I_eqn (r0 _) 1 (r0 1) (by omega))]
      rfl
/-! the class's loop goes on -/
def Tx (v0 : JV) (L : Nat) (c : Nat → Int) : Prop := L ≤ 60 ∧ v0 1 0 = I (L : Int) ∧ ∀ i : Nat, i < L → (33 ≤ c i ∧ c i ≤ 126) ∧ v0 0 i = I (c i)
def Go (v : JV) (i : Nat) (w : JV) (j : Nat) : Prop := i ≤ j ∧ ∀ n : Nat, f_X1_findFault_L11 (n + (j - i)) v (I (i : Int)) = f_X1_findFault_L11 n w (I (j : Int))
theorem Go.refl (v : JV) (i : Nat) : Go v i v i := ⟨Nat.le_refl _, fun n => by rw [Nat.sub_self, Nat.add_zero]⟩
theorem Go.trans {v w u : JV} {i j k : Nat} (h1 : Go v i w j) (h2 : Go w j u k) : Go v i u k := by
  refine ⟨Nat.le_trans h1.1 h2.1, fun n => ?_⟩
  have a := h1.1
  have b := h2.1
  rw [show n + (k - i) = (n + (k - j)) + (j - i) by omega, h1.2, h2.2]
theorem Go.step {v v0 w : JV} {L i : Nat} {c : Nat → Int} (hT : Tx v0 L c) (h0 : v 0 = v0 0) (h1 : v 1 = v0 1) (hi : i < L) (ht : f_X1_takes v (I (c i)) = some (I 1, w)) : Go v i w (i + 1) := by
  obtain ⟨hL, t1, t0⟩ := hT
  refine ⟨by omega, fun n => ?_⟩
  rw [show n + (i + 1 - i) = n + 1 by omega]
  show f_X1_findFault_b11 (fun x y => f_X1_findFault_L11 n x y) v (I (i : Int)) = _
  unfold f_X1_findFault_b11
  rw [h1, h0, t1, k_le (by omega) (by omega), if_neg (by omega), show (60 : Int32) = I ((60 : Nat) : Int) from rfl, k_le (by omega) (by omega), if_neg (by omega), gd_t (inb_k (by omega) (by omega)), I_k (by omega), (t0 i hi).2, ht]
  simp only [Option.bind_some]
  rw [if_neg (show ¬ I 1 = 0 by decide), one_add]
theorem L_stop {v v0 w : JV} {L i : Nat} {c : Nat → Int} (hT : Tx v0 L c) (h0 : v 0 = v0 0) (h1 : v 1 = v0 1) (hi : i < L) (ht : f_X1_takes v (I (c i)) = some (I 0, w)) (n : Nat) : f_X1_findFault_L11 (n + 1) v (I (i : Int)) = some (I (i : Int), w) := by
  obtain ⟨hL, t1, t0⟩ := hT
  show f_X1_findFault_b11 (fun x y => f_X1_findFault_L11 n x y) v (I (i : Int)) = _
  unfold f_X1_findFault_b11
  rw [h1, h0, t1, k_le (by omega) (by omega), if_neg (by omega), show (60 : Int32) = I ((60 : Nat) : Int) from rfl, k_le (by omega) (by omega), if_neg (by omega), gd_t (inb_k (by omega) (by omega)), I_k (by omega), (t0 i hi).2, ht]
  simp only [Option.bind_some]
  rw [if_pos (show I 0 = 0 from rfl)]
theorem L_end {v v0 : JV} {L : Nat} {c : Nat → Int} (hT : Tx v0 L c) (h1 : v 1 = v0 1) (n : Nat) : f_X1_findFault_L11 (n + 1) v (I (L : Int)) = f_X1_findFault_K46 v := by
  obtain ⟨hL, t1, t0⟩ := hT
  show f_X1_findFault_b11 (fun x y => f_X1_findFault_L11 n x y) v (I (L : Int)) = _
  unfold f_X1_findFault_b11
  rw [h1, t1, k_le (by omega) (by omega), if_pos (by omega)]
