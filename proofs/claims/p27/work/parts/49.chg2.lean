/-! ===== (from the parts of whole) ===== -/
def gp (g : Nat → Int) (i : Nat) (x y z : Int) : Nat → Int := gu (gu (gu g (16 + 3 * i) x) (17 + 3 * i) y) (18 + 3 * i) z
theorem Bd_gp {g : Nat → Int} (hB : Bd g) {i : Nat} (hi : i < 16) {x y z : Int} (hx : 0 ≤ x ∧ x ≤ 63) (hy : 0 ≤ y ∧ y ≤ 100) (hz : 0 ≤ z ∧ z ≤ 1) : Bd (gp g i x y z) := by
  unfold gp
  refine Bd_gu (Bd_gu (Bd_gu hB _ ?_ ?_) _ ?_ ?_) _ ?_ ?_
  · unfold loB; (repeat' split) <;> omega
  · unfold hiB; (repeat' split) <;> omega
  · unfold loB; (repeat' split) <;> omega
  · unfold hiB; (repeat' split) <;> omega
  · unfold loB; (repeat' split) <;> omega
  · unfold hiB; (repeat' split) <;> omega
theorem B1_bd (b : Bool) : 0 ≤ B1 b ∧ B1 b ≤ 1 := by cases b <;> decide
theorem p_writePupil (v : JV) {i : Nat} (hi : i < 16) (x y : Int32) {z : Int32} (hz : isb z = true) : f_X2_writePupil v (I (i : Int)) x y z = some (up2 (up2 (up2 v 3 i x) 4 i y) 5 i z) := by
  unfold f_X2_writePupil
  simp only [gd_t (inb_k hi (show 16 < 1000000 by omega))]
  rw [gd_t hz, I_k (by omega)]
theorem p_isPupilData {a b : Int} (ha : rng a) (hb : rng b) : f_X4_isPupilData (I a) (I b) = some (I (B1 (wi 1 63 a && wi 0 100 b))) := by
  unfold f_X4_isPupilData
  rw [show f_X4_isWithin (I a) (1 : Int32) (63 : Int32) = _ from p_wi ha 1 63 (r0 1) (r0 63), show f_X4_isWithin (I b) (0 : Int32) (100 : Int32) = _ from p_wi hb 0 100 (r0 0) (r0 100)]
  simp only [Option.bind_some]
  rw [ite_B1, ite_B1]
  cases wi 1 63 a <;> cases wi 0 100 b <;> rfl
theorem m1_np {g : Nat → Int} (hB : Bd g) : I (g 3) - (1 : Int32) = I (g 3 - 1) := by rw [show (1 : Int32) = I 1 from rfl, I_sub]
theorem p_isPupil {v : JV} {g : Nat → Int} (hS : RS v g) (hB : Bd g) {a : Int} (ha : rng a) : f_X4_isPupil v (I a) = some (I (B1 (wi 0 (g 3 - 1) a))) := by
  have h3 := hB.2.2.2.1
  unfold f_X4_isPupil
  rw [hS.2.2.2.2.1, m1_np hB, show f_X4_isWithin (I a) (0 : Int32) (I (g 3 - 1)) = _ from p_wi ha 0 (g 3 - 1) (r0 0) (r0 _)]
  simp only [Option.bind_some]
  rw [gd_t (B1_isb _)]
theorem gp_3 (g : Nat → Int) (i : Nat) (x y z : Int) : gp g i x y z 3 = g 3 := by
  unfold gp
  rw [gu_ne _ z (by omega), gu_ne _ y (by omega), gu_ne _ x (by omega)]
/-! a pupil leaves: those behind it move up -/
def gl (g : Nat → Int) (lo hi : Nat) : Nat → Int := fun k => if lo ≤ k ∧ k < hi then g (k + 3) else g k
theorem gl_self (g : Nat → Int) (lo : Nat) : gl g lo lo = g := by
  funext k
  unfold gl
  rw [if_neg (by omega)]
theorem gl_out (g : Nat → Int) {lo hi k : Nat} (h : ¬ (lo ≤ k ∧ k < hi)) : gl g lo hi k = g k := if_neg h
theorem Bd_gl {g : Nat → Int} (hB : Bd g) {lo hi : Nat} (hlo : 16 ≤ lo) (hhi : hi ≤ 61) : Bd (gl g lo hi) := by
  refine Bd_of (fun k hk => ?_)
  unfold gl
  by_cases c : lo ≤ k ∧ k < hi
  · rw [if_pos c]
    have h := Bd_to hB (k := k + 3) (by omega)
    have e1 : loB (k + 3) = loB k := by unfold loB; (repeat' split) <;> omega
    have e2 : hiB (k + 3) = hiB k := by unfold hiB; (repeat' split) <;> omega
    rw [e1, e2] at h
    exact h
  · rw [if_neg c]
    exact Bd_to hB hk
theorem gl_gp {g : Nat → Int} {lo j : Nat} (h : lo ≤ 16 + 3 * j) : gp (gl g lo (16 + 3 * j)) j (g (16 + 3 * (j + 1))) (g (17 + 3 * (j + 1))) (g (18 + 3 * (j + 1))) = gl g lo (16 + 3 * (j + 1)) := by
  funext k
  unfold gp gu gl
  by_cases c2 : k = 18 + 3 * j
  · rw [if_pos c2, if_pos (by omega), c2]
    congr 1
  rw [if_neg c2]
  by_cases c1 : k = 17 + 3 * j
  · rw [if_pos c1, if_pos (by omega), c1]
    congr 1
  rw [if_neg c1]
  by_cases c0 : k = 16 + 3 * j
  · rw [if_pos c0, if_pos (by omega), c0]
    congr 1
  rw [if_neg c0]
  by_cases d : lo ≤ k ∧ k < 16 + 3 * j
  · rw [if_pos d, if_pos (by omega)]
  · rw [if_neg d, if_neg (by omega)]
theorem p_removePupil {v : JV} {g : Nat → Int} (hS : RS v g) (hB : Bd g) {i : Nat} (hi : i < np g) : ∃ v' : JV, f_X2_removePupil v (I (i : Int)) = some v' ∧ RS v' (gu (gl g (16 + 3 * i) (16 + 3 * (np g - 1))) 3 ((np g - 1 : Nat) : Int)) := by
  have hn := np_le hB
  have e8 : ∀ (u : JV) (j : Nat), RS u (gl g (16 + 3 * i) j) → u 8 0 - (1 : Int32) = I ((np g - 1 : Nat) : Int) := by
    intro u j hu
    rw [hu.2.2.2.2.1, gl_out g (by omega), show (1 : Int32) = I 1 from rfl, I_sub, ← hn.2]
    congr 1
    omega
  unfold f_X2_removePupil f_X2_removePupil_L2
  refine Exists.elim (lp_inv (P := Unit) (fun _ (rec : JV × Int32 → Option (JV)) a => f_X2_removePupil_b2 (fun x y => rec (x, y)) a.1 a.2) (fun d a => a.2 = I ((i + d : Nat) : Int) ∧ RS a.1 (gl g (16 + 3 * i) (16 + 3 * (i + d)))) (np g - 1 - i) (fun _ a => some (up2 a.1 8 0 (I ((np g - 1 : Nat) : Int)))) (fun d a hd ha => ?_) (fun a _ rec ha => ?_) FU (by have := FU_ge; omega) (v, I (i : Int)) ⟨rfl, by rw [Nat.add_zero, gl_self]; exact hS⟩) (fun a1 h1 => ?_)
  · obtain ⟨u, x⟩ := a
    obtain ⟨hx, hu⟩ := ha
    dsimp only at hx hu
    subst hx
    have hj : i + d + 1 < 16 := by omega
    have hr := (hB.2.2.2.2.2.1 (i + d + 1) hj).2.2
    have q := hu.2.2.1 (i + d + 1) hj
    rw [gl_out g (by omega), gl_out g (by omega), gl_out g (by omega)] at q
    refine ⟨(up2 (up2 (up2 u 3 (i + d) (I (g (16 + 3 * (i + d + 1))))) 4 (i + d) (I (g (17 + 3 * (i + d + 1))))) 5 (i + d) (I (g (18 + 3 * (i + d + 1)))), I ((i + d + 1 : Nat) : Int)), ⟨rfl, ?_⟩, fun _ rec => ?_⟩
    · have := RS_pup hu (show i + d < 16 by omega) (g (16 + 3 * (i + d + 1))) (g (17 + 3 * (i + d + 1))) (g (18 + 3 * (i + d + 1)))
      have e := gl_gp (g := g) (lo := 16 + 3 * i) (j := i + d) (by omega)
      unfold gp at e
      rw [e] at this
      exact this
    · show f_X2_removePupil_b2 (fun x y => rec (x, y)) u (I ((i + d : Nat) : Int)) = _
      unfold f_X2_removePupil_b2
      rw [e8 u _ hu, k_le (by omega) (by omega), if_neg (by omega), one_add]
      simp only [gd_t (inb_k hj (show 16 < 1000000 by omega))]
      rw [I_k (by omega), q.1, q.2.1, q.2.2, p_writePupil u (show i + d < 16 by omega) _ _ (isb_01 hr.1 hr.2)]
      rfl
  · obtain ⟨u, x⟩ := a
    obtain ⟨hx, hu⟩ := ha
    dsimp only at hx hu ⊢
    subst hx
    unfold f_X2_removePupil_b2
    rw [e8 u _ hu, k_le (by omega) (by omega), if_pos (by omega)]
  · obtain ⟨⟨-, h2⟩, h3⟩ := h1
    refine ⟨_, h3 (), ?_⟩
    rw [show i + (np g - 1 - i) = np g - 1 by omega] at h2
    exact RS_num h2 _
def vgl (v : JV) (lo : Nat) : Nat → JV
  | 0 => v
  | d + 1 => up2 (vgl v lo d) 0 (lo + d) (vgl v lo d 0 (lo + d + 3))
theorem vgl_ne (v : JV) (lo : Nat) {a : Nat} (h : a ≠ 0) : ∀ d : Nat, vgl v lo d a = v a
  | 0 => rfl
  | d + 1 => by
    show up2 (vgl v lo d) 0 (lo + d) _ a = _
    rw [up2_ne _ _ _ h]
    exact vgl_ne v lo h d
