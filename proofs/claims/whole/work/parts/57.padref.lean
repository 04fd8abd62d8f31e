/-! ===== the pad is read: the reference beside the class ===== -/
def UV (u u0 : JV) (a k : Nat) (T : TR) : Prop := (∀ f : Nat, f ≠ 7 → f ≠ 12 → f ≠ 13 → u f = u0 f) ∧ u 13 0 = I (a : Int) ∧ u 12 0 = I (k : Int) ∧ ∀ j : Nat, j < k → u 7 (3 * j) = I (T j).1 ∧ u 7 (3 * j + 1) = I (T j).2.1 ∧ u 7 (3 * j + 2) = I (T j).2.2
def Ux (u0 : JV) (L : Nat) (c : Nat → Int) : Prop := L ≤ 60 ∧ u0 10 0 = I (L : Int) ∧ ∀ i : Nat, i < L → (33 ≤ c i ∧ c i ≤ 126) ∧ u0 8 i = I (c i)
theorem UV.at {u u0 : JV} {a k : Nat} {T : TR} (h : UV u u0 a k T) (b : Nat) : UV (up2 u 13 0 (I (b : Int))) u0 b k T := by
  obtain ⟨h1, h2, h3, h4⟩ := h
  refine ⟨fun f f7 f12 f13 => ?_, ?_, ?_, fun j hj => ?_⟩
  · rw [up2_ne _ _ _ f13]; exact h1 f f7 f12 f13
  · rw [up2_if, if_pos rfl]
  · rw [up2_v (show (12 : Nat) ≠ 13 by omega)]; exact h3
  · rw [up2_v (show (7 : Nat) ≠ 13 by omega), up2_v (show (7 : Nat) ≠ 13 by omega), up2_v (show (7 : Nat) ≠ 13 by omega)]; exact h4 j hj
theorem m_isSign {u u0 : JV} {a k L : Nat} {T : TR} {c : Nat → Int} (hT : Ux u0 L c) (h : UV u u0 a k T) (ha : a ≤ L) {lo hi : Int} (hlo : rng lo) (hhi : rng hi) : f_X5_isSign u (I lo) (I hi) = some (I (B1 (decide (a < L) && wi lo hi (c a)))) := by
  obtain ⟨hL, t1, t0⟩ := hT
  obtain ⟨h1, h2, h3, h4⟩ := h
  unfold f_X5_isSign
  rw [h1 10 (by omega) (by omega) (by omega), h1 8 (by omega) (by omega) (by omega), h2, t1, k_le (by omega) (by omega)]
  by_cases c1 : a < L
  · have hc := (t0 a c1).1
    rw [if_neg (by omega), decide_eq_true c1, Bool.true_and]
    simp only [gd_t (inb_k (show a < 60 by omega) (show 60 < 1000000 by omega))]
    rw [I_k (by omega), (t0 a c1).2, ite_lt (r0 _) hlo, ite_lt hhi (r0 _)]
    unfold wi
    by_cases c2 : c a < lo
    · rw [if_pos c2, decide_eq_false (by omega), Bool.false_and]; rfl
    · rw [if_neg c2, decide_eq_true (by omega), Bool.true_and]
      by_cases c3 : hi < c a
      · rw [if_pos c3, decide_eq_false (by omega)]; rfl
      · rw [if_neg c3, decide_eq_true (by omega)]; rfl
  · rw [if_pos (by omega), decide_eq_false c1, Bool.false_and]; rfl
theorem m_accepts {u u0 : JV} {a k L : Nat} {T : TR} {c : Nat → Int} (hT : Ux u0 L c) (h : UV u u0 a k T) (ha : a ≤ L) {s : Int} (hs : rng s) : f_X5_accepts u (I s) = (if a < L ∧ c a = s then some (I 1, up2 u 13 0 (I ((a + 1 : Nat) : Int))) else some (I 0, up2 u 13 0 (I (a : Int)))) := by
  unfold f_X5_accepts
  rw [m_isSign hT h ha hs hs]
  simp only [Option.bind_some]
  rw [ite_B1, gd_t (B1_isb _), gd_t (B1_isb _), h.2.1, one_add, show I (a : Int) + (0 : Int32) = I (a : Int) from by rw [show (0 : Int32) = I ((0 : Nat) : Int) from rfl, nat_add]; rfl]
  unfold wi
  by_cases c1 : a < L ∧ c a = s
  · rw [if_pos c1, decide_eq_true c1.1, decide_eq_true (show s ≤ c a by omega), decide_eq_true (show c a ≤ s by omega)]
    rfl
  · rw [if_neg c1]
    have : (decide (a < L) && (decide (s ≤ c a) && decide (c a ≤ s))) = false := by
      by_cases d : a < L
      · by_cases e : s ≤ c a
        · rw [decide_eq_false (show ¬ c a ≤ s by omega), Bool.and_false, Bool.and_false]
        · rw [decide_eq_false e, Bool.false_and, Bool.and_false]
      · rw [decide_eq_false d, Bool.false_and]
    rw [this]
    rfl
theorem pow_le32 {p : Nat} (hp : p < 6) : 1 ≤ 2 ^ p ∧ 2 ^ p ≤ 32 := by
  rcases (show p = 0 ∨ p = 1 ∨ p = 2 ∨ p = 3 ∨ p = 4 ∨ p = 5 by omega) with rfl | rfl | rfl | rfl | rfl | rfl <;> decide
theorem or_gt_raw : ∀ s : Fin 64, ∀ p : Fin 6, s.val < 2 ^ p.val → s.val < s.val ||| 2 ^ p.val := by decide +kernel
theorem or_gt {s p : Nat} (hs : s < 64) (hp : p < 6) (h : s < 2 ^ p) : s < s ||| 2 ^ p := or_gt_raw ⟨s, hs⟩ ⟨p, hp⟩ h
def qs (s : Nat) : Nat := if s = 0 then 0 else 1
theorem let_go {u0 v0 : JV} {L k : Nat} {T : TR} {c : Nat → Int} (hTu : Ux u0 L c) (hTv : Tx v0 L c) : ∀ (d a s : Nat) (u v : JV), L - a = d → a ≤ L → s < 64 → UV u u0 a k T → CV v v0 (qs s) s 0 false k T → ∀ n : Nat, d < n →
    ∃ (b s' : Nat) (u' v' : JV), f_X5_letters_L2 n u (I (s : Int)) = some (I (s' : Int), u') ∧ UV u' u0 b k T ∧ a ≤ b ∧ b ≤ L ∧ s' < 64 ∧ s ≤ s' ∧ (s < s' → a < b) ∧ Go v a v' b ∧ CV v' v0 (qs s') s' 0 false k T ∧ (b < L → ∀ p : Nat, p < 6 → c b = ((97 + p : Nat) : Int) → ¬ s' < 2 ^ p) := by
  intro d
  induction d with
  | zero =>
    intro a s u v hd ha hs hU hC n hn
    obtain ⟨n, rfl⟩ : ∃ n' : Nat, n = n' + 1 := ⟨n - 1, by omega⟩
    refine ⟨a, s, u, v, ?_, hU, Nat.le_refl _, ha, hs, Nat.le_refl _, fun h => absurd h (by omega), Go.refl v a, hC, fun h => absurd h (by omega)⟩
    show f_X5_letters_b2 (fun x y => f_X5_letters_L2 n x y) u (I (s : Int)) = _
    unfold f_X5_letters_b2
    rw [show f_X5_isSign u (97 : Int32) (102 : Int32) = _ from m_isSign (lo := 97) (hi := 102) hTu hU ha (r0 97) (r0 102), decide_eq_false (show ¬ a < L by omega), Bool.false_and]
    rfl
  | succ d ih =>
    intro a s u v hd ha hs hU hC n hn
    obtain ⟨n, rfl⟩ : ∃ n' : Nat, n = n' + 1 := ⟨n - 1, by omega⟩
    have haL : a < L := by omega
    have hca := (hTu.2.2 a haL).1
    have ev : f_X5_letters_L2 (n + 1) u (I (s : Int)) = f_X5_letters_b2 (fun x y => f_X5_letters_L2 n x y) u (I (s : Int)) := rfl
    by_cases c1 : wi 97 102 (c a) = true
    · have cw := wi_iff.mp c1
      obtain ⟨p, hp⟩ : ∃ p : Nat, c a = ((97 + p : Nat) : Int) := ⟨(c a - 97).toNat, by omega⟩
      have hp6 : p < 6 := by omega
      have hraw := (shr_raw ⟨s, hs⟩ ⟨p, hp6⟩).2
      dsimp only at hraw
      have ep : I (c a) - (97 : Int32) = I (p : Int) := by rw [show (97 : Int32) = I 97 from rfl, I_sub, hp]; congr 1; omega
      have ev2 : f_X5_letters_L2 (n + 1) u (I (s : Int)) = if 2 ^ p ≤ s then some (I (s : Int), u) else f_X5_letters_L2 n (up2 u 13 0 (I ((a + 1 : Nat) : Int))) (I ((s ||| 2 ^ p : Nat) : Int)) := by
        rw [ev]
        unfold f_X5_letters_b2
        rw [show f_X5_isSign u (97 : Int32) (102 : Int32) = _ from m_isSign (lo := 97) (hi := 102) hTu hU ha (r0 97) (r0 102), decide_eq_true haL, c1]
        simp only [Option.bind_some]
        rw [if_neg (show ¬ I (B1 (true && true)) = 0 by decide), hU.2.1]
        simp only [gd_t (inb_k (show a < 60 by have := hTu.1; omega) (show 60 < 1000000 by omega))]
        rw [I_k (by have := hTu.1; omega), hU.1 8 (by omega) (by omega) (by omega), (hTu.2.2 a haL).2, ep, (or_k hs hp6).1, one_add]
        by_cases e : 2 ^ p ≤ s
        · rw [if_pos (hraw.mpr e), if_pos e]
        · rw [if_neg (fun z => e (hraw.mp z)), if_neg e]
      by_cases e : 2 ^ p ≤ s
      · refine ⟨a, s, u, v, by rw [ev2, if_pos e], hU, Nat.le_refl _, ha, hs, Nat.le_refl _, fun h => absurd h (by omega), Go.refl v a, hC, fun _ p' hp' hcp => ?_⟩
        have : p' = p := by omega
        rw [this]
        omega
      · have hlt : s < 2 ^ p := by omega
        have ht := t_letter (p := p) (by unfold qs; split <;> omega) hp6 hs hC
        rw [if_pos hlt, ← hp] at ht
        have hCn := CV_letter (n := s ||| 2 ^ p) hC
        have hgt := or_gt hs hp6 hlt
        have hq : qs (s ||| 2 ^ p) = 1 := by unfold qs; rw [if_neg (by omega)]
        have hgo := Go.step hTv hC.1 hC.2.1 haL ht
        obtain ⟨b, s', u', v', r1, r2, r3, r4, r5, r6, r7, r8, r9, r10⟩ := ih (a + 1) (s ||| 2 ^ p) _ _ (by omega) (by omega) (or_k hs hp6).2 (hU.at (a + 1)) (by rw [hq]; exact hCn) n (by omega)
        exact ⟨b, s', u', v', by rw [ev2, if_neg e, r1], r2, by omega, r4, r5, by omega, fun _ => by omega, hgo.trans r8, r9, r10⟩
    · refine ⟨a, s, u, v, ?_, hU, Nat.le_refl _, ha, hs, Nat.le_refl _, fun h => absurd h (by omega), Go.refl v a, hC, fun _ p hp hcp => absurd (wi_iff.mpr ⟨by omega, by omega⟩) c1⟩
      rw [ev]
      unfold f_X5_letters_b2
      rw [show f_X5_isSign u (97 : Int32) (102 : Int32) = _ from m_isSign (lo := 97) (hi := 102) hTu hU ha (r0 97) (r0 102), decide_eq_true haL, (Bool.not_eq_true _).mp c1]
      rfl
def qe (e : Nat) : Nat := if e = 0 then 2 else 3
theorem num_go {u0 v0 : JV} {L k pp : Nat} {T : TR} {c : Nat → Int} (hTu : Ux u0 L c) (hTv : Tx v0 L c) : ∀ (d a e : Nat) (u v : JV), L - a = d → a ≤ L → e ≤ 100 → UV u u0 a k T → CV v v0 (qe e) pp e false k T → ∀ n : Nat, d < n →
    ∃ (b e' : Nat) (u' v' : JV), f_X5_number_L2 n u (I (e : Int)) = some (I (e' : Int), u') ∧ UV u' u0 b k T ∧ a ≤ b ∧ b ≤ L ∧ e' ≤ 100 ∧ Go v a v' b ∧ CV v' v0 (qe e') pp e' false k T ∧ (b < L → ∀ x : Nat, x ≤ 9 → c b = ((48 + x : Nat) : Int) → ¬ (1 ≤ 10 * e' + x ∧ 10 * e' + x ≤ 100)) := by
  intro d
  induction d with
  | zero =>
    intro a e u v hd ha he hU hC n hn
    obtain ⟨n, rfl⟩ : ∃ n' : Nat, n = n' + 1 := ⟨n - 1, by omega⟩
    refine ⟨a, e, u, v, ?_, hU, Nat.le_refl _, ha, he, Go.refl v a, hC, fun h => absurd h (by omega)⟩
    show f_X5_number_b2 (fun x y => f_X5_number_L2 n x y) u (I (e : Int)) = _
    unfold f_X5_number_b2 f_X5_number_K14
    rw [show f_X5_isSign u (49 : Int32) (57 : Int32) = _ from m_isSign (lo := 49) (hi := 57) hTu hU ha (r0 49) (r0 57), show f_X5_isSign u (48 : Int32) (57 : Int32) = _ from m_isSign (lo := 48) (hi := 57) hTu hU ha (r0 48) (r0 57), decide_eq_false (show ¬ a < L by omega), Bool.false_and, Bool.false_and]
    split <;> rfl
  | succ d ih =>
    intro a e u v hd ha he hU hC n hn
    obtain ⟨n, rfl⟩ : ∃ n' : Nat, n = n' + 1 := ⟨n - 1, by omega⟩
    have haL : a < L := by omega
    have hca := (hTu.2.2 a haL).1
    have ev : f_X5_number_L2 (n + 1) u (I (e : Int)) = if wi (if e = 0 then 49 else 48) 57 (c a) = true then (if 100 < 10 * (e : Int) + c a - 48 then some (I (e : Int), u) else f_X5_number_L2 n (up2 u 13 0 (I ((a + 1 : Nat) : Int))) (I (10 * (e : Int) + c a - 48))) else some (I (e : Int), u) := by
      show f_X5_number_b2 (fun x y => f_X5_number_L2 n x y) u (I (e : Int)) = _
      have K : ∀ y : Int, rng y → f_X5_number_K14 (fun x y => f_X5_number_L2 n x y) u (I (e : Int)) (I y) = if wi y 57 (c a) = true then (if 100 < 10 * (e : Int) + c a - 48 then some (I (e : Int), u) else f_X5_number_L2 n (up2 u 13 0 (I ((a + 1 : Nat) : Int))) (I (10 * (e : Int) + c a - 48))) else some (I (e : Int), u) := by
        intro y hy
        unfold f_X5_number_K14
        rw [show f_X5_isSign u (I y) (57 : Int32) = _ from m_isSign (lo := y) (hi := 57) hTu hU ha hy (r0 57), decide_eq_true haL, Bool.true_and]
        simp only [Option.bind_some]
        rw [ite_B1, hU.2.1]
        simp only [gd_t (inb_k (show a < 60 by have := hTu.1; omega) (show 60 < 1000000 by omega))]
        rw [I_k (by have := hTu.1; omega), hU.1 8 (by omega) (by omega) (by omega), (hTu.2.2 a haL).2, show (10 : Int32) = I 10 from rfl, I_mul, I_add, show (48 : Int32) = I 48 from rfl, I_sub, one_add, show (100 : Int32) = I 100 from rfl, ite_lt (r0 100) (r0 _)]
      unfold f_X5_number_b2
      by_cases e0 : e = 0
      · subst e0
        rw [if_pos (show I ((0 : Nat) : Int) = (0 : Int32) from rfl), show f_X5_number_K14 (fun x y => f_X5_number_L2 n x y) u (I ((0 : Nat) : Int)) (49 : Int32) = _ from K 49 (r0 49), if_pos rfl]
      · rw [if_neg (show ¬ I (e : Int) = (0 : Int32) from I_eqn (r0 _) 0 (r0 0) (by omega)), show f_X5_number_K14 (fun x y => f_X5_number_L2 n x y) u (I (e : Int)) (48 : Int32) = _ from K 48 (r0 48), if_neg e0]
    by_cases c1 : wi (if e = 0 then 49 else 48) 57 (c a) = true
    · have cw := wi_iff.mp c1
      have cw48 : 48 ≤ c a := by
        have := cw.1
        split at this <;> omega
      obtain ⟨x, hx⟩ : ∃ x : Nat, c a = ((48 + x : Nat) : Int) := ⟨(c a - 48).toNat, by omega⟩
      have hx9 : x ≤ 9 := by omega
      have h1x : 1 ≤ 10 * e + x := by
        have := cw.1
        split at this <;> omega
      by_cases c2 : 100 < 10 * (e : Int) + c a - 48
      · refine ⟨a, e, u, v, by rw [ev, if_pos c1, if_pos c2], hU, Nat.le_refl _, ha, he, Go.refl v a, hC, fun _ x' hx' hcx => ?_⟩
        omega
      · have ht := t_digit (d := x) (by unfold qe; split <;> omega) hx9 hC
        have ht2 : f_X1_takes v (I (c a)) = some (I 1, up2 (up2 v 8 0 (I ((10 * e + x : Nat) : Int))) 6 0 (3 : Int32)) := by
          rcases ht with ht | ht
          · rw [hx, ht, if_pos ⟨h1x, by omega⟩]
          · omega
        have hCn := CV_digit (n := 10 * e + x) hC
        have hq : qe (10 * e + x) = 3 := by unfold qe; rw [if_neg (by omega)]
        have hgo := Go.step hTv hC.1 hC.2.1 haL ht2
        obtain ⟨b, e', u', v', r1, r2, r3, r4, r5, r6, r7, r8⟩ := ih (a + 1) (10 * e + x) _ _ (by omega) (by omega) (by omega) (hU.at (a + 1)) (by rw [hq]; exact hCn) n (by omega)
        exact ⟨b, e', u', v', by rw [ev, if_pos c1, if_neg c2, show 10 * (e : Int) + c a - 48 = ((10 * e + x : Nat) : Int) by omega, r1], r2, by omega, r4, r5, hgo.trans r6, r7, r8⟩
    · refine ⟨a, e, u, v, by rw [ev, if_neg c1], hU, Nat.le_refl _, ha, he, Go.refl v a, hC, fun _ x hx hcx hy => ?_⟩
      apply c1
      rw [wi_iff]
      split <;> omega
theorem CV.tr {v v0 : JV} {q pp ex : Nat} {r : Bool} {k : Nat} {T T' : TR} (h : CV v v0 q pp ex r k T) (hT : ∀ j : Nat, j < k → T' j = T j) : CV v v0 q pp ex r k T' := by
  obtain ⟨h0, h1, h6, h7, h8, h9, h5, hl⟩ := h
  exact ⟨h0, h1, h6, h7, h8, h9, h5, fun j hj => by rw [hT j hj]; exact hl j hj⟩
def upT (T : TR) (k : Nat) (x y z : Int) : TR := fun j => if j = k then (x, y, z) else T j
theorem k33_go {u0 v0 : JV} {L k q s e b : Nat} {T : TR} {c : Nat → Int} (hTu : Ux u0 L c) (hTv : Tx v0 L c) {u v : JV} (hU : UV u u0 b k T) (hC : CV v v0 q s e false k T) (hq : q = 1 ∨ q = 3) (hk : k < 30) (hb : b ≤ L) :
    ∃ (b' q' : Nat) (r : Bool) (u' v' : JV), f_X5_readsPupil_K33 u (I (s : Int)) (I (e : Int)) = some (I 1, u') ∧ UV u' u0 b' (k + 1) (upT T k (s : Int) (e : Int) (B1 r)) ∧ b ≤ b' ∧ b' ≤ L ∧ Go v b v' b' ∧ CV v' v0 q' s e r k (upT T k (s : Int) (e : Int) (B1 r)) ∧ (q' = 4 ∨ (q' = q ∧ b' = b ∧ (b < L → c b ≠ 114))) := by
  have e1 : (3 : Int32) * u 12 0 = I ((3 * k : Nat) : Int) := by rw [hU.2.2.1, show (3 : Int32) = I ((3 : Nat) : Int) from rfl, nat_mul]
  have hW : ∀ w : JV, w = up2 (up2 u 7 (3 * k) (I (s : Int))) 7 (3 * k + 1) (I (e : Int)) → UV w u0 b k T ∧ w 7 (3 * k) = I (s : Int) ∧ w 7 (3 * k + 1) = I (e : Int) := by
    intro w hw
    obtain ⟨h1, h2, h3, h4⟩ := hU
    refine ⟨⟨fun f f7 f12 f13 => ?_, ?_, ?_, fun j hj => ?_⟩, ?_, ?_⟩
    · rw [hw, up2_ne _ _ _ f7, up2_ne _ _ _ f7]; exact h1 f f7 f12 f13
    · rw [hw, up2_v (show (13 : Nat) ≠ 7 by omega), up2_v (show (13 : Nat) ≠ 7 by omega)]; exact h2
    · rw [hw, up2_v (show (12 : Nat) ≠ 7 by omega), up2_v (show (12 : Nat) ≠ 7 by omega)]; exact h3
    · rw [hw, up2_if, if_neg (by omega), up2_if, if_neg (by omega), up2_if, if_neg (by omega), up2_if, if_neg (by omega), up2_if, if_neg (by omega), up2_if, if_neg (by omega)]
      exact h4 j hj
    · rw [hw, up2_if, if_neg (by omega), up2_if, if_pos rfl]
    · rw [hw, up2_if, if_pos rfl]
  obtain ⟨w, hw⟩ : ∃ w : JV, w = up2 (up2 u 7 (3 * k) (I (s : Int))) 7 (3 * k + 1) (I (e : Int)) := ⟨_, rfl⟩
  obtain ⟨hW1, hW2, hW3⟩ := hW w hw
  have fin : ∀ (b' : Nat) (r : Bool) (y : JV), y = up2 (up2 (up2 w 13 0 (I (b' : Int))) 7 (3 * k + 2) (I (B1 r))) 12 0 (I ((k + 1 : Nat) : Int)) → UV y u0 b' (k + 1) (upT T k (s : Int) (e : Int) (B1 r)) := by
    intro b' r y hy
    obtain ⟨h1, h2, h3, h4⟩ := hW1
    refine ⟨fun f f7 f12 f13 => ?_, ?_, ?_, fun j hj => ?_⟩
    · rw [hy, up2_ne _ _ _ f12, up2_ne _ _ _ f7, up2_ne _ _ _ f13]; exact h1 f f7 f12 f13
    · rw [hy, up2_v (show (13 : Nat) ≠ 12 by omega), up2_v (show (13 : Nat) ≠ 7 by omega), up2_if, if_pos rfl]
    · rw [hy, up2_if, if_pos rfl]
    · by_cases d : j = k
      · subst d
        rw [show upT T j (s : Int) (e : Int) (B1 r) j = ((s : Int), (e : Int), B1 r) from if_pos rfl]
        refine ⟨?_, ?_, ?_⟩
        · rw [hy, up2_v (show (7 : Nat) ≠ 12 by omega), up2_if, if_neg (by omega), up2_v (show (7 : Nat) ≠ 13 by omega)]
          exact hW2
        · rw [hy, up2_v (show (7 : Nat) ≠ 12 by omega), up2_if, if_neg (by omega), up2_v (show (7 : Nat) ≠ 13 by omega)]
          exact hW3
        · rw [hy, up2_v (show (7 : Nat) ≠ 12 by omega), up2_if, if_pos rfl]
      · rw [show upT T k (s : Int) (e : Int) (B1 r) j = T j from if_neg d]
        have q := h4 j (by omega)
        refine ⟨?_, ?_, ?_⟩
        · rw [hy, up2_v (show (7 : Nat) ≠ 12 by omega), up2_if, if_neg (by omega), up2_v (show (7 : Nat) ≠ 13 by omega)]
          exact q.1
        · rw [hy, up2_v (show (7 : Nat) ≠ 12 by omega), up2_if, if_neg (by omega), up2_v (show (7 : Nat) ≠ 13 by omega)]
          exact q.2.1
        · rw [hy, up2_v (show (7 : Nat) ≠ 12 by omega), up2_if, if_neg (by omega), up2_v (show (7 : Nat) ≠ 13 by omega)]
          exact q.2.2
  have hc12 : ∀ (b' : Nat), up2 w 13 0 (I (b' : Int)) 12 0 = I (k : Int) := fun b' => by rw [up2_v (show (12 : Nat) ≠ 13 by omega)]; exact hW1.2.2.1
  have hac := m_accepts hTu hW1 hb (s := 114) (r0 114)
  have eU : f_X5_readsPupil_K33 u (I (s : Int)) (I (e : Int)) = (f_X5_accepts w (I 114)).bind (fun q7 => (if (q7.1) = 0 then some ((1 : Int32), (up2 (up2 (q7.2) 7 (3 * k + 2) (0 : Int32)) 12 0 (((q7.2) 12 0) + (1 : Int32)))) else some ((1 : Int32), (up2 (up2 (q7.2) 7 (3 * k + 2) (1 : Int32)) 12 0 (((q7.2) 12 0) + (1 : Int32)))))) := by
    unfold f_X5_readsPupil_K33
    rw [e1, show I ((3 * k : Nat) : Int) + (1 : Int32) = I ((3 * k + 1 : Nat) : Int) from one_add _, show I ((3 * k : Nat) : Int) + (2 : Int32) = I ((3 * k + 2 : Nat) : Int) from by rw [show (2 : Int32) = I ((2 : Nat) : Int) from rfl, nat_add]]
    simp only [gd_t (inb_k (show 3 * k < 96 by omega) (show 96 < 1000000 by omega)), gd_t (inb_k (show 3 * k + 1 < 96 by omega) (show 96 < 1000000 by omega)), gd_t (inb_k (show 3 * k + 2 < 96 by omega) (show 96 < 1000000 by omega))]
    rw [I_k (by omega), I_k (by omega), I_k (by omega), ← hw]
    rfl
  by_cases d : b < L ∧ c b = 114
  · rw [if_pos d] at hac
    obtain ⟨v', t1, t2⟩ := t_reader hq hC
    rw [← d.2] at t1
    have hgo := Go.step hTv hC.1 hC.2.1 d.1 t1
    refine ⟨b + 1, 4, true, _, v', ?_, fin (b + 1) true _ rfl, by omega, by omega, hgo, t2.tr (fun j hj => by unfold upT; rw [if_neg (by omega)]), Or.inl rfl⟩
    rw [eU, hac]
    simp only [Option.bind_some]
    rw [if_neg (show ¬ I 1 = 0 by decide), hc12, one_add]
    rfl
  · rw [if_neg d] at hac
    refine ⟨b, q, false, _, v, ?_, fin b false _ rfl, by omega, by omega, Go.refl v b, hC.tr (fun j hj => by unfold upT; rw [if_neg (by omega)]), Or.inr ⟨rfl, rfl, fun hbL z => d ⟨hbL, z⟩⟩⟩
    rw [eU, hac]
    simp only [Option.bind_some]
    rw [if_pos (show I 0 = 0 from rfl), hc12, one_add]
    rfl
/-- the class finds its fault at b -/
theorem f_end {v v0 : JV} {q pp ex : Nat} {r : Bool} {k L b : Nat} {T : TR} {c : Nat → Int} (hTv : Tx v0 L c) (hC : CV v v0 q pp ex r k T) (hq : q = 0 ∨ q = 2) (hb : b ≤ L) (hr : b < L → f_X1_takes v (I (c b)) = some (I 0, v)) (n : Nat) : f_X1_findFault_L11 (n + 1) v (I (b : Int)) = some (I (b : Int), v) := by
  by_cases d : b < L
  · exact L_stop hTv hC.1 hC.2.1 d (hr d) n
  · have e : b = L := by omega
    rw [e, L_end hTv hC.2.1]
    unfold f_X1_findFault_K46
    rw [p_mayEnd (by omega) hC]
    simp only [Option.bind_some]
    rw [ite_B1, if_neg (by rcases hq with rfl | rfl <;> decide), hC.2.1, hTv.2.1]
theorem rp_go {u0 v0 : JV} {L k a : Nat} {T : TR} {c : Nat → Int} (hTu : Ux u0 L c) (hTv : Tx v0 L c) {u v : JV} (hU : UV u u0 a k T) (hC : CV v v0 0 0 0 false k T) (ha : a ≤ L) (hka : 2 * k ≤ a) :
    (∃ (f : Nat) (u' w : JV), f_X5_readsPupil u = some (I 0, u') ∧ UV u' u0 f k T ∧ a ≤ f ∧ f ≤ L ∧ w 0 = v0 0 ∧ w 1 = v0 1 ∧ ∀ n : Nat, f_X1_findFault_L11 (n + 1 + (f - a)) v (I (a : Int)) = some (I (f : Int), w)) ∨
    (∃ (b q pp ex : Nat) (r : Bool) (u' v' : JV), f_X5_readsPupil u = some (I 1, u') ∧ UV u' u0 b (k + 1) (upT T k (pp : Int) (ex : Int) (B1 r)) ∧ a < b ∧ b ≤ L ∧ Go v a v' b ∧ CV v' v0 q pp ex r k (upT T k (pp : Int) (ex : Int) (B1 r)) ∧ (q = 1 ∨ q = 3 ∨ q = 4) ∧ (1 ≤ pp ∧ pp ≤ 63) ∧ ex ≤ 100 ∧ (b < L → c b ≠ 59 → f_X1_takes v' (I (c b)) = some (I 0, v'))) := by
  have hL60 := hTu.1
  have hFU := FU_ge
  obtain ⟨b, s, u1, v1, l1, l2, l3, l4, l5, l6, l7, l8, l9, l10⟩ := let_go hTu hTv (L - a) a 0 u v rfl ha (by omega) hU hC FU (by omega)
  unfold f_X5_readsPupil f_X5_letters
  rw [show f_X5_letters_L2 FU u (0 : Int32) = _ from l1]
  simp only [Option.bind_some]
  by_cases c0 : s = 0
  · subst c0
    refine Or.inl ⟨b, u1, v1, ?_, l2, l3, l4, l9.1, l9.2.1, fun n => ?_⟩
    · rw [if_pos (show I ((0 : Nat) : Int) = (0 : Int32) from rfl)]
      rfl
    · rw [l8.2]
      exact f_end hTv l9 (Or.inl rfl) l4 (fun hbL => t_rej (hTu.2.2 b hbL).1 (by decide) (by omega) (by omega) l9 (fun _ => Or.inl rfl) (fun _ => by decide) (fun _ => by decide) (fun _ _ _ z => absurd z (by decide)) (fun p hp hcp _ => l10 hbL p hp hcp)) n
  · have hab := l7 (by omega)
    have hk30 : k < 30 := by omega
    have hqs : qs s = 1 := by unfold qs; rw [if_neg c0]
    rw [hqs] at l9
    rw [if_neg (show ¬ I (s : Int) = (0 : Int32) from I_eqn (r0 _) 0 (r0 0) (by omega)), show f_X5_accepts u1 (43 : Int32) = _ from m_accepts hTu l2 l4 (s := 43) (r0 43)]
    by_cases c1 : b < L ∧ c b = 43
    · rw [if_pos c1]
      simp only [Option.bind_some]
      rw [if_neg (show ¬ I 1 = 0 by decide)]
      obtain ⟨v2, t1, t2⟩ := t_plus l9
      rw [← c1.2] at t1
      have hgo2 := l8.trans (Go.step hTv l9.1 l9.2.1 c1.1 t1)
      obtain ⟨f, e, u3, v3, n1, n2, n3, n4, n5, n6, n7, n8⟩ := num_go hTu hTv (L - (b + 1)) (b + 1) 0 _ v2 rfl (by omega) (by omega) (l2.at (b + 1)) t2 FU (by omega)
      unfold f_X5_number
      rw [show f_X5_number_L2 FU (up2 u1 13 0 (I ((b + 1 : Nat) : Int))) (0 : Int32) = _ from n1]
      simp only [Option.bind_some]
      have hgo3 := hgo2.trans n6
      by_cases ce : e = 0
      · subst ce
        refine Or.inl ⟨f, u3, v3, ?_, n2, by omega, n4, n7.1, n7.2.1, fun n => ?_⟩
        · rw [if_pos (show I ((0 : Nat) : Int) = (0 : Int32) from rfl)]
          rfl
        · rw [hgo3.2]
          exact f_end hTv n7 (Or.inr rfl) n4 (fun hbL => t_rej (hTu.2.2 f hbL).1 (by decide) l5 (by omega) n7 (fun _ => Or.inr rfl) (fun _ => by decide) (fun _ => by decide) (fun x hx hcx _ => n8 hbL x hx hcx) (fun _ _ _ z => absurd z (by decide))) n
      · rw [if_neg (show ¬ I (e : Int) = (0 : Int32) from I_eqn (r0 _) 0 (r0 0) (by omega))]
        have hqe : qe e = 3 := by unfold qe; rw [if_neg ce]
        rw [hqe] at n7
        obtain ⟨b', q', r, u4, v4, k1, k2, k3, k4, k5, k6, k7⟩ := k33_go hTu hTv n2 n7 (Or.inr rfl) hk30 n4
        refine Or.inr ⟨b', q', s, e, r, u4, v4, k1, k2, by omega, k4, hgo3.trans k5, k6, by omega, ⟨by omega, by omega⟩, n5, fun hbL h59 => ?_⟩
        rcases k7 with rfl | ⟨rfl, rfl, k7⟩
        · exact t_rej (hTu.2.2 b' hbL).1 (by decide) l5 n5 k6 (fun z => absurd z h59) (fun _ => by decide) (fun _ => by decide) (fun _ _ _ z => absurd z (by decide)) (fun _ _ _ z => absurd z (by decide))
        · exact t_rej (hTu.2.2 b' hbL).1 (by decide) l5 n5 k6 (fun z => absurd z h59) (fun _ => by decide) (fun z => absurd z (k7 hbL)) (fun x hx hcx _ => n8 hbL x hx hcx) (fun _ _ _ z => absurd z (by decide))
    · rw [if_neg c1]
      simp only [Option.bind_some]
      rw [if_pos (show I 0 = 0 from rfl)]
      obtain ⟨b', q', r, u4, v4, k1, k2, k3, k4, k5, k6, k7⟩ := k33_go hTu hTv (l2.at b) l9 (Or.inl rfl) hk30 l4
      refine Or.inr ⟨b', q', s, 0, r, u4, v4, k1, k2, by omega, k4, l8.trans k5, k6, by omega, ⟨by omega, by omega⟩, by omega, fun hbL h59 => ?_⟩
      rcases k7 with rfl | ⟨rfl, rfl, k7⟩
      · exact t_rej (hTu.2.2 b' hbL).1 (by decide) l5 (by omega) k6 (fun z => absurd z h59) (fun _ => by decide) (fun _ => by decide) (fun _ _ _ z => absurd z (by decide)) (fun _ _ _ z => absurd z (by decide))
      · exact t_rej (hTu.2.2 b' hbL).1 (by decide) l5 (by omega) k6 (fun z => absurd z h59) (fun z => absurd ⟨hbL, z⟩ c1) (fun z => absurd z (k7 hbL)) (fun _ _ _ z => absurd z (by decide)) (fun p hp hcp _ => l10 hbL p hp hcp)
