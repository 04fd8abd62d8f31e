/-! ===== the law: an act ===== -/
section PLACTS
variable {g : Nat → Int} {n : Nat} {vT vS : JV} {hV : Nat → JV} {hZ : JV} {vP : JV} {hA : Nat → Nat → Nat}
/-- nothing behind the row -/
def Z76 (g : Nat → Int) : Prop := ∀ k : Nat, 76 ≤ k → g k = 0
theorem Z76_gu (h : Z76 g) {k : Nat} (hk : k < 76) (x : Int) : Z76 (gu g k x) := fun j hj => by rw [gu_ne g x (by omega)]; exact h j hj
theorem Z76_gp (h : Z76 g) {i : Nat} (hi : i < 16) (x y z : Int) : Z76 (gp g i x y z) := Z76_gu (Z76_gu (Z76_gu h (by omega) x) (by omega) y) (by omega) z
theorem Z76_gl (h : Z76 g) {lo hi : Nat} (hh : hi ≤ 70) : Z76 (gl g lo hi) := fun j hj => by rw [gl_out g (by omega)]; exact h j hj
def nn0 (z : Int) : Prop := 0 ≤ z ∧ z < 2147483648
theorem sh_ex {z : Int} (hz : nn0 z) (s : Int32) (k : Nat) (hs : (s.toBitVec.smod 32).toNat = k) : ∃ w : Int, nn0 w ∧ I z >>> s = I w := by
  unfold nn0 at hz
  have e : (I z >>> s).toInt = z / ((2 ^ k : Nat) : Int) := by
    rw [pk_shr _ _ k hs, I_toInt (by unfold rng; omega), Int.shiftRight_eq_div_pow]
  have hp : (0 : Int) ≤ ((2 ^ k : Nat) : Int) := by
    generalize 2 ^ k = q
    omega
  have h0 : 0 ≤ z / ((2 ^ k : Nat) : Int) := Int.ediv_nonneg hz.1 hp
  have h1 : z / ((2 ^ k : Nat) : Int) ≤ z := Int.ediv_le_self _ hz.1
  refine ⟨z / ((2 ^ k : Nat) : Int), ⟨h0, by omega⟩, ?_⟩
  rw [← e]
  exact (I_self _).symm
theorem md_ex {z m : Int} {M : Int32} (hM : M = I m) (hz : nn0 z) (hm : 0 < m ∧ m < 1000000) : ∃ w : Nat, (w : Int) < m ∧ I z - I z / M * M = I (w : Int) := by
  subst hM
  unfold nn0 at hz
  have h0 := Int.emod_nonneg z (show m ≠ 0 by omega)
  have h1 := Int.emod_lt_of_pos z hm.1
  refine ⟨(z % m).toNat, by omega, ?_⟩
  rw [I_div hz.1 hz.2 hm.1 (by omega), I_mul, I_sub, Int.toNat_of_nonneg h0]
  congr 1
  have := Int.emod_def z m
  rw [this, Int.mul_comm]
theorem smd {z : Int} (hz : nn0 z) (s : Int32) (k : Nat) (hs : (s.toBitVec.smod 32).toNat = k) {m : Int} {M : Int32} (hM : M = I m) (hm : 0 < m ∧ m < 1000000) : ∃ w : Nat, (w : Int) < m ∧ (I z >>> s) - (I z >>> s) / M * M = I (w : Int) := by
  obtain ⟨v, hv, e⟩ := sh_ex hz s k hs
  rw [e]
  exact md_ex hM hv hm
/-- what an act leaves -/
abbrev R8 : Type := Int32 × JV × JV × JV × JV × (Nat → Nat → Nat) × (Nat → JV) × JV
def AR (R : Option R8) : Prop := ∃ (Rz : R8) (g' : Nat → Int) (n' : Nat), R = some Rz ∧ Rz.1 = (1 : Int32) ∧ CI g' n' Rz.2.1 Rz.2.2.1 Rz.2.2.2.2.2.2.1 Rz.2.2.2.2.2.2.2 ∧ Z76 g'
theorem AR.mk {R : Option R8} {vT vS vT2 vS2 : JV} {hA : Nat → Nat → Nat} {hV : Nat → JV} {hZ : JV} {g' : Nat → Int} {n' : Nat} (e : R = some ((1 : Int32), vT, vS, vT2, vS2, hA, hV, hZ)) (h : CI g' n' vT vS hV hZ) (hz : Z76 g') : AR R := ⟨_, g', n', e, rfl, h, hz⟩
theorem np_num (x : Nat) (f : Nat → Int) : np (gu f 3 (x : Int)) = x := by
  unfold np
  rw [gu_at]
  exact Int.toNat_natCast x
/-- a pupil comes -/
theorem a_pupil (h : CI g n vT vS hV hZ) (hz : Z76 g) (vT2 vS2 : JV) {a b : Int} (o : Bool) (ca : 1 ≤ a ∧ a ≤ 63) (cb : 0 ≤ b ∧ b ≤ 100) : AR (f_L_acts_K136 vP vT vS vT2 vS2 hA hV hZ (I ((np g : Nat) : Int)) (I a) (I b) (I (B1 o))) := by
  have hn := np_le h.1
  unfold f_L_acts_K136
  by_cases c : np g = 16
  · rw [q_pupilN hA h c ca cb]
    simp only [Option.bind_some]
    rw [c, if_pos (by decide), if_pos (by decide)]
    exact AR.mk rfl h hz
  · obtain ⟨Rz, r1, r2, r3⟩ := q_pupil hA h (show np g < 16 by omega) (o := o) ca cb
    have hnn : np (gu (gp g (np g) a b (B1 o)) 3 ((np g + 1 : Nat) : Int)) = np g + 1 := np_num _ _
    rw [r1]
    simp only [Option.bind_some]
    rw [r2, show (16 : Int32) = I ((16 : Nat) : Int) from rfl, k_inj (by omega) (by omega), if_neg c, if_pos rfl, q_po0 r3 (by omega), q_po1 r3 (by omega), q_po2 r3 (by omega)]
    simp only [Option.bind_some]
    have e0 : gu (gp g (np g) a b (B1 o)) 3 ((np g + 1 : Nat) : Int) (16 + 3 * np g) = a := by
      rw [gu_ne _ _ (by omega)]
      unfold gp
      rw [gu_ne _ _ (by omega), gu_ne _ _ (by omega), gu_at]
    have e1 : gu (gp g (np g) a b (B1 o)) 3 ((np g + 1 : Nat) : Int) (17 + 3 * np g) = b := by
      rw [gu_ne _ _ (by omega)]
      unfold gp
      rw [gu_ne _ _ (by omega), gu_at]
    have e2 : gu (gp g (np g) a b (B1 o)) 3 ((np g + 1 : Nat) : Int) (18 + 3 * np g) = B1 o := by
      rw [gu_ne _ _ (by omega)]
      unfold gp
      rw [gu_at]
    rw [e0, e1, e2, if_pos rfl, if_pos rfl, ite_B1]
    unfold f_L_acts_K216
    have hz' : Z76 (gu (gp g (np g) a b (B1 o)) 3 ((np g + 1 : Nat) : Int)) := Z76_gu (Z76_gp hz (by omega) _ _ _) (by omega) _
    cases o
    · rw [if_neg (by decide), if_pos (by rfl)]
      exact AR.mk rfl r3 hz'
    · rw [if_pos rfl, if_pos (by rfl)]
      exact AR.mk rfl r3 hz'
/-- a pupil leaves, or not -/
theorem a_leave (h : CI g n vT vS hV hZ) (hz : Z76 g) (vT2 vS2 : JV) {i : Nat} (hi : i < np g ∨ (np g = 0 ∧ i = 0)) {y : Int32} (hy : np g ≠ 0 → y = I (g (16 + 3 * i))) (x : Int32) : AR (f_L_acts_K306 vP vT vS vT2 vS2 hA hV hZ (I ((np g : Nat) : Int)) (I (i : Int)) y x) := by
  have hn := np_le h.1
  unfold f_L_acts_K306
  by_cases cx : x = 0
  · rw [if_pos cx]
    exact AR.mk rfl h hz
  · rw [if_neg cx]
    by_cases c : np g = 0
    · rw [c, if_pos (by rfl), show (0 : Int32) = I ((0 : Nat) : Int) from rfl, q_leaveN hA h (i := 0) (by omega) (by omega)]
      simp only [Option.bind_some]
      rw [if_pos (by rfl)]
      exact AR.mk rfl h hz
    · have hi2 : i < np g := by omega
      obtain ⟨Rz, r1, r2, r3⟩ := q_leave hA h hi2
      have hnn : np (gu (gl g (16 + 3 * i) (16 + 3 * (np g - 1))) 3 ((np g - 1 : Nat) : Int)) = np g - 1 := np_num _ _
      have c0 : ¬ I ((np g : Nat) : Int) = (0 : Int32) := I_eqn (r0 _) 0 (r0 0) (by omega)
      rw [if_neg c0, r1]
      simp only [Option.bind_some]
      rw [r2, hy c, if_pos rfl, q_c3 r3]
      simp only [Option.bind_some]
      rw [hnn, show I ((np g : Nat) : Int) - (1 : Int32) = I ((np g - 1 : Nat) : Int) from by rw [show (1 : Int32) = I 1 from rfl, I_sub]; congr 1; omega, if_pos rfl]
      exact AR.mk rfl r3 (Z76_gu (Z76_gl hz (by omega)) (by omega) _)
/-- a hall is opened or closed -/
theorem a_open (h : CI g n vT vS hV hZ) (hz : Z76 g) (vT2 vS2 : JV) {p : Nat} (hp : p < 4) (o : Bool) : AR (f_L_acts_K608 vP vT vS vT2 vS2 hA hV hZ (I (p : Int)) (I (B1 (opB g p))) (I (B1 o))) := by
  unfold f_L_acts_K608
  by_cases c : opB g p = o
  · rw [q_openN hA h hp c]
    simp only [Option.bind_some]
    rw [B1_eq, if_pos c.symm, if_pos (by rfl)]
    exact AR.mk rfl h hz
  · obtain ⟨Rz, r1, r2, r3⟩ := q_open hA h hp c
    rw [r1]
    simp only [Option.bind_some]
    rw [B1_eq, if_neg (fun q => c q.symm), r2, q_c5 r3]
    simp only [Option.bind_some]
    rw [if_pos trivial, q_ho2 r3 hp]
    simp only [Option.bind_some]
    have eo : opB (gu g (66 + 3 * p) (B1 o)) p = o := by
      unfold opB
      rw [gu_at]
      cases o <;> rfl
    rw [eo, ite_B1]
    unfold f_L_acts_K669
    have hz' : Z76 (gu g (66 + 3 * p) (B1 o)) := Z76_gu hz (by omega) _
    cases o
    · rw [if_neg (by decide), if_pos (by rfl)]
      exact AR.mk rfl r3 hz'
    · rw [if_pos rfl, if_pos (by rfl)]
      exact AR.mk rfl r3 hz'
/-- a setting -/
theorem a_set (h : CI g n vT vS hV hZ) (hz : Z76 g) (vT2 vS2 : JV) {k : Nat} (hk : k < 3) {b : Int} (hb : 0 ≤ b ∧ b ≤ hiB k) : AR (f_L_acts_K722 vP vT vS vT2 vS2 hA hV hZ (I (k : Int)) (I b)) := by
  obtain ⟨Rz, r1, r2, r3⟩ := q_set hA h hk hb
  unfold f_L_acts_K722
  rw [q_ct h hk, r1]
  simp only [Option.bind_some]
  rw [r2, if_pos rfl, q_ct r3 hk]
  simp only [Option.bind_some]
  rw [gu_at, if_pos rfl]
  exact AR.mk rfl r3 (Z76_gu hz (by omega) _)
theorem gu_eq {f : Nat → Int} {k : Nat} {x : Int} (hx : f k = x) : gu f k x = f := by
  funext j
  unfold gu
  by_cases c : j = k
  · rw [if_pos c, c, hx]
  · rw [if_neg c]
theorem a_K67 (h : CI g n vT vS hV hZ) (hz : Z76 g) (vT2 vS2 : JV) {z : Int} (hz0 : nn0 z) {i : Nat} (hi : i < np g ∨ (np g = 0 ∧ i = 0)) {a b : Int} (o : Bool) (ca : 1 ≤ a ∧ a ≤ 63) (cb : 0 ≤ b ∧ b ≤ 100) : AR (f_L_acts_K67 vP vT vS vT2 vS2 hA hV hZ (I z) (I ((np g : Nat) : Int)) (I (i : Int)) (I a) (I b) (I (B1 o))) := by
  have hn := np_le h.1
  unfold f_L_acts_K67
  by_cases c0 : I z - I z / (9 : Int32) * (9 : Int32) = (0 : Int32)
  · rw [if_pos c0]
    exact a_pupil h hz vT2 vS2 o ca cb
  rw [if_neg c0]
  by_cases c1 : I z - I z / (9 : Int32) * (9 : Int32) = (1 : Int32)
  · rw [if_pos c1]
    exact a_pupil h hz vT2 vS2 o ca cb
  rw [if_neg c1]
  by_cases c2 : I z - I z / (9 : Int32) * (9 : Int32) = (2 : Int32)
  · rw [if_pos c2]
    exact a_pupil h hz vT2 vS2 o ca cb
  rw [if_neg c2]
  by_cases c3 : I z - I z / (9 : Int32) * (9 : Int32) = (3 : Int32)
  · rw [if_pos c3]
    by_cases c : np g = 0
    · rw [q_changeN hA h (i := i) (by omega) (by omega)]
      simp only [Option.bind_some]
      rw [c, if_pos (by rfl), if_pos (by rfl)]
      exact AR.mk rfl h hz
    · have hi2 : i < np g := by omega
      obtain ⟨Rz, r1, r2, r3⟩ := q_change hA h hi2 (o := o) ca cb
      have hnn : np (gp g i a b (B1 o)) = np g := by unfold np; rw [gp_3]
      rw [r1]
      simp only [Option.bind_some]
      have c0 : ¬ I ((np g : Nat) : Int) = (0 : Int32) := I_eqn (r0 _) 0 (r0 0) (by omega)
      rw [if_neg c0, q_po3 r3 (by omega), q_po0 r3 (by omega)]
      simp only [Option.bind_some]
      rw [r2, if_pos rfl]
      have e0 : gp g i a b (B1 o) (16 + 3 * i) = a := by
        unfold gp
        rw [gu_ne _ _ (by omega), gu_ne _ _ (by omega), gu_at]
      rw [e0, if_pos rfl]
      exact AR.mk rfl r3 (Z76_gp hz (by omega) _ _ _)
  rw [if_neg c3]
  by_cases c4 : I z - I z / (9 : Int32) * (9 : Int32) = (4 : Int32)
  · rw [if_pos c4]
    by_cases c : np g = 0
    · rw [q_poN h (i := i) (by omega) (by omega)]
      simp only [Option.bind_some]
      split
      · exact a_leave h hz vT2 vS2 hi (fun q => absurd c q) _
      · exact a_leave h hz vT2 vS2 hi (fun q => absurd c q) _
    · rw [q_po0 h (i := i) (by omega)]
      simp only [Option.bind_some]
      split
      · exact a_leave h hz vT2 vS2 hi (fun _ => rfl) _
      · exact a_leave h hz vT2 vS2 hi (fun _ => rfl) _
  rw [if_neg c4]
  by_cases c5 : I z - I z / (9 : Int32) * (9 : Int32) = (5 : Int32)
  · rw [if_pos c5]
    obtain ⟨p, p1, p2⟩ := smd hz0 ((4 : Int32) &&& 31) 4 (by decide) (m := 6) (M := (6 : Int32)) rfl (by omega)
    obtain ⟨s, s1, s2⟩ := smd hz0 ((7 : Int32) &&& 31) 7 (by decide) (m := 5) (M := (5 : Int32)) rfl (by omega)
    obtain ⟨m, m1, m2⟩ := smd hz0 ((10 : Int32) &&& 31) 10 (by decide) (m := 151) (M := (151 : Int32)) rfl (by omega)
    rw [p2, s2, m2, show (30 : Int32) = I 30 from rfl, I_add]
    have hp : p < 6 := by omega
    have hs : (0 : Int) ≤ (s : Int) ∧ (s : Int) ≤ 19 := by omega
    have hm : (30 : Int) ≤ 30 + (m : Int) ∧ 30 + (m : Int) ≤ 180 := by omega
    have hL := (h.1.2.2.2.2.1 p hp).2
    obtain ⟨A0, a1, a2⟩ := q_ifStart h vT2 vS2 hp hs (t := 0) (by omega)
    obtain ⟨A1, b1, b2⟩ := q_ifStart h A0.2.1 A0.2.2 hp hs (t := 1) (by omega)
    obtain ⟨A2, d1, d2⟩ := q_ifStart h A1.2.1 A1.2.2 hp hs (t := 2) (by omega)
    obtain ⟨Q, q1, q2, q3⟩ := q_paper hA h hp hs hL
    have eg : gu (gu g (4 + 2 * p) (s : Int)) (5 + 2 * p) (g (5 + 2 * p)) = gu g (4 + 2 * p) (s : Int) := gu_eq (gu_ne g _ (by omega))
    rw [eg] at q3
    obtain ⟨P, t1, t2, t3⟩ := q_paper Q.2.2.2.1 q3 hp hs hm
    rw [show f_X4_ifStart vS vT2 vS2 (I (p : Int)) (I (s : Int)) (0 : Int32) = _ from a1]
    simp only [Option.bind_some]
    rw [show f_X4_ifStart vS A0.2.1 A0.2.2 (I (p : Int)) (I (s : Int)) (1 : Int32) = _ from b1]
    simp only [Option.bind_some]
    rw [show f_X4_ifStart vS A1.2.1 A1.2.2 (I (p : Int)) (I (s : Int)) (2 : Int32) = _ from d1]
    simp only [Option.bind_some]
    rw [q_pa0 h hp, q_pa1 h hp]
    simp only [Option.bind_some]
    rw [q1]
    simp only [Option.bind_some]
    rw [q2, if_pos rfl, q_c6 q3]
    simp only [Option.bind_some]
    rw [a2, show ifA (gu g (4 + 2 * p) (s : Int)) 0 = (cps (gu g (4 + 2 * p) (s : Int)) (np (gu g (4 + 2 * p) (s : Int))) : Int) from rfl, if_pos rfl, q_c5 q3]
    simp only [Option.bind_some]
    rw [b2, show ifA (gu g (4 + 2 * p) (s : Int)) 1 = (wo (gu g (4 + 2 * p) (s : Int)) (fun _ => true) : Int) from rfl, if_pos rfl, q_c10 q3]
    simp only [Option.bind_some]
    rw [d2, show ifA (gu g (4 + 2 * p) (s : Int)) 2 = lastE (gu g (4 + 2 * p) (s : Int)) from rfl, if_pos rfl, t1]
    simp only [Option.bind_some]
    rw [t2, gu_at, if_pos rfl, q_pa1 t3 hp]
    simp only [Option.bind_some]
    rw [gu_at, if_pos rfl]
    exact AR.mk rfl t3 (Z76_gu (Z76_gu (Z76_gu hz (by omega) _) (by omega) _) (by omega) _)
  rw [if_neg c5]
  by_cases c6 : I z - I z / (9 : Int32) * (9 : Int32) = (6 : Int32)
  · rw [if_pos c6]
    obtain ⟨p, p1, p2⟩ := smd hz0 ((4 : Int32) &&& 31) 4 (by decide) (m := 4) (M := (4 : Int32)) rfl (by omega)
    obtain ⟨s, s1, s2⟩ := smd hz0 ((7 : Int32) &&& 31) 7 (by decide) (m := 4) (M := (4 : Int32)) rfl (by omega)
    obtain ⟨m, m1, m2⟩ := smd hz0 ((9 : Int32) &&& 31) 9 (by decide) (m := 4) (M := (4 : Int32)) rfl (by omega)
    have i1 : ∀ x : Nat, (1 : Int32) + I (x : Int) = I (1 + (x : Int)) := fun x => I_add 1 (x : Int)
    rw [p2, s2, m2, i1, i1]
    have hp : p < 4 := by omega
    have hrc := rc_bd h.1 hp
    obtain ⟨Q, q1, q2, q3⟩ := q_hall hA h hp (b := 1 + (s : Int)) (c := 1 + (m : Int)) (by omega) (by omega)
    rw [q_ho0 h hp, q_ho1 h hp]
    simp only [Option.bind_some]
    rw [q1]
    simp only [Option.bind_some]
    rw [q2, hrc.2.2.1, hrc.2.2.2, nat_mul, if_pos rfl, q_ho0 q3 hp]
    simp only [Option.bind_some]
    rw [gu_ne _ _ (by omega), gu_at, if_pos rfl]
    exact AR.mk rfl q3 (Z76_gu (Z76_gu hz (by omega) _) (by omega) _)
  rw [if_neg c6]
  by_cases c7 : I z - I z / (9 : Int32) * (9 : Int32) = (7 : Int32)
  · rw [if_pos c7]
    obtain ⟨p, p1, p2⟩ := smd hz0 ((4 : Int32) &&& 31) 4 (by decide) (m := 4) (M := (4 : Int32)) rfl (by omega)
    have hp : p < 4 := by omega
    rw [p2, q_ho2 h hp]
    simp only [Option.bind_some]
    have K : AR (f_L_acts_K592 vP vT vS vT2 vS2 hA hV hZ (I z) (I (p : Int)) (I (B1 (opB g p)))) := by
      unfold f_L_acts_K592
      split
      · exact a_open h hz vT2 vS2 hp false
      · exact a_open h hz vT2 vS2 hp true
    cases ho : opB g p
    · rw [ho] at K
      rw [if_neg (by decide)]
      exact K
    · rw [ho] at K
      rw [if_pos (by decide)]
      exact K
  rw [if_neg c7]
  obtain ⟨p, p1, p2⟩ := smd hz0 ((4 : Int32) &&& 31) 4 (by decide) (m := 3) (M := (3 : Int32)) rfl (by omega)
  obtain ⟨s, s1, s2⟩ := smd hz0 ((8 : Int32) &&& 31) 8 (by decide) (m := 2) (M := (2 : Int32)) rfl (by omega)
  obtain ⟨t, t1, t2⟩ := smd hz0 ((8 : Int32) &&& 31) 8 (by decide) (m := 7) (M := (7 : Int32)) rfl (by omega)
  obtain ⟨m, m1, m2⟩ := smd hz0 ((8 : Int32) &&& 31) 8 (by decide) (m := 61) (M := (61 : Int32)) rfl (by omega)
  rw [p2, s2, t2, m2]
  rcases (show p = 0 ∨ p = 1 ∨ p = 2 by omega) with rfl | rfl | rfl
  · rw [if_pos (by decide)]
    exact a_set h hz vT2 vS2 (by omega) (by show (0 : Int) ≤ _ ∧ _ ≤ (1 : Int); omega)
  · rw [if_neg (by decide), if_pos (by decide)]
    exact a_set h hz vT2 vS2 (by omega) (by show (0 : Int) ≤ _ ∧ _ ≤ (6 : Int); omega)
  · rw [if_neg (by decide), if_neg (by decide)]
    exact a_set h hz vT2 vS2 (by omega) (by show (0 : Int) ≤ _ ∧ _ ≤ (60 : Int); omega)
/-- any act goes as the law asks -/
theorem l_acts (h : CI g n vT vS hV hZ) (hz : Z76 g) (vT2 vS2 : JV) {z : Int} (hz0 : nn0 z) : AR (f_L_acts vT vS vT2 vS2 vP hA hV hZ (I z)) := by
  have hn := np_le h.1
  obtain ⟨a, a1, a2⟩ := smd hz0 ((6 : Int32) &&& 31) 6 (by decide) (m := 63) (M := (63 : Int32)) rfl (by omega)
  obtain ⟨b, b1, b2⟩ := smd hz0 ((14 : Int32) &&& 31) 14 (by decide) (m := 101) (M := (101 : Int32)) rfl (by omega)
  have i1 : (1 : Int32) + I (a : Int) = I (1 + (a : Int)) := I_add 1 (a : Int)
  have K51 : ∀ (i : Nat) (y : Int), (i < np g ∨ (np g = 0 ∧ i = 0)) → (0 ≤ y ∧ y ≤ 100) → AR (f_L_acts_K51 vP vT vS vT2 vS2 hA hV hZ (I z) (I ((np g : Nat) : Int)) (I (i : Int)) (I (1 + (a : Int))) (I y)) := by
    intro i y hi hy
    unfold f_L_acts_K51
    split
    · exact a_K67 h hz vT2 vS2 hz0 hi true (by omega) hy
    · exact a_K67 h hz vT2 vS2 hz0 hi false (by omega) hy
  have K19 : ∀ i : Nat, (i < np g ∨ (np g = 0 ∧ i = 0)) → AR (f_L_acts_K19 vP vT vS vT2 vS2 hA hV hZ (I z) (I ((np g : Nat) : Int)) (I (i : Int))) := by
    intro i hi
    unfold f_L_acts_K19
    rw [a2, b2, i1]
    split
    · exact K51 i (b : Int) hi (by omega)
    · exact K51 i 0 hi (by omega)
  unfold f_L_acts
  rw [q_c3 h]
  simp only [Option.bind_some]
  by_cases c : np g = 0
  · rw [if_pos (by rw [c]; rfl)]
    exact K19 0 (Or.inr ⟨c, rfl⟩)
  · have c0 : ¬ I ((np g : Nat) : Int) = (0 : Int32) := I_eqn (r0 _) 0 (r0 0) (by omega)
    obtain ⟨p, p1, p2⟩ := smd hz0 ((4 : Int32) &&& 31) 4 (by decide) (m := ((np g : Nat) : Int)) (M := I ((np g : Nat) : Int)) rfl (by omega)
    rw [if_neg c0, gd_t (show nz (I ((np g : Nat) : Int)) = true from decide_eq_true c0), p2]
    exact K19 p (Or.inl (by omega))
end PLACTS
