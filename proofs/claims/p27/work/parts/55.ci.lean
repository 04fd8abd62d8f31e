/-! ===== the class by itself: its state holds g, its history n states ===== -/
def CI (g : Nat → Int) (n : Nat) (vT vS : JV) (hV : Nat → JV) (hZ : JV) : Prop := Bd g ∧ RS vS g ∧ TN vT g 1920 ∧ ∃ hs : Nat → Nat → Int, HC hV hZ hs n ∧ HB hs n
theorem CI.ts {g : Nat → Int} {n : Nat} {vT vS : JV} {hV : Nat → JV} {hZ : JV} (h : CI g n vT vS hV hZ) : TS vT g (seatOf g) (unN g 1920) (urN g 1920) := h.2.2.1
theorem seat_bd {g : Nat → Int} (hB : Bd g) : Zb (seatOf g) := zN_bd hB 1920
theorem seat_gap (g : Nat → Int) : Gap g (seatOf g) := zN_gap g 1920
theorem qchg {g g' : Nat → Int} {n : Nat} {vT vS vS' : JV} {hA : Nat → Nat → Nat} {hV : Nat → JV} {hZ : JV} (h : CI g n vT vS hV hZ) (hS' : RS vS' g') (hB' : Bd g') :
    ∃ (R : (Nat → Nat → Nat) × (Nat → JV) × JV) (vT' : JV), f_X0_remember vS hA hV hZ = some R ∧ f_X3_seatAll vT vS' = some vT' ∧ CI g' (psn n) vT' vS' R.2.1 R.2.2 := by
  obtain ⟨hB, hS, hT, hs, a, c⟩ := h
  obtain ⟨R, r1, r2⟩ := p_remember (hA := hA) hS hB a
  obtain ⟨vT', t1, t2⟩ := p_seatAll (v := vT) hS' hB'
  refine ⟨R, vT', r1, t1, hB', hS', t2, psh hs n g, r2, fun j hj => ?_⟩
  unfold psh
  unfold psn at hj
  by_cases d : n = 6
  · rw [if_pos d] at hj ⊢
    by_cases f : j = 5
    · rw [if_pos f]; exact hB
    · rw [if_neg f]; exact c (j + 1) (by omega)
  · rw [if_neg d] at hj ⊢
    by_cases f : j = n
    · rw [if_pos f]; exact hB
    · rw [if_neg f]; exact c j (by omega)
abbrev R6 : Type := Int32 × JV × JV × (Nat → Nat → Nat) × (Nat → JV) × JV
theorem q_set {g : Nat → Int} {n : Nat} {vT vS : JV} {hV : Nat → JV} {hZ : JV} (hA : Nat → Nat → Nat) (h : CI g n vT vS hV hZ) {k : Nat} (hk : k < 3) {b : Int} (hb : 0 ≤ b ∧ b ≤ hiB k) :
    ∃ Rz : R6, f_X4_set vT vS hA hV hZ (I (k : Int)) (I b) = some Rz ∧ Rz.1 = I (g k) ∧ CI (gu g k b) (psn n) Rz.2.1 Rz.2.2.1 Rz.2.2.2.2.1 Rz.2.2.2.2.2 := by
  have hh := hi3 hk
  have hbr : rng b := r0 b
  have q1 : f_X4_isWithin (I (k : Int)) (0 : Int32) (2 : Int32) = _ := p_wi (r0 (k : Int)) 0 2 (r0 0) (r0 2)
  have q2 : f_X4_isWithin (I b) (0 : Int32) (I (hiB k)) = _ := p_wi hbr 0 (hiB k) (r0 0) (r0 _)
  obtain ⟨R, vT', r1, r2, r3⟩ := qchg (hA := hA) h (RS_set h.2.1 hk b) (Bd_gu h.1 k (by omega) hb.2)
  refine ⟨(vS 0 k, vT', up2 vS 0 k (I b), R.1, R.2.1, R.2.2), ?_, h.2.1.1 k hk, r3⟩
  unfold f_X4_set
  rw [q1]
  simp only [Option.bind_some]
  rw [ite_B1, if_pos (wi_iff.mpr ⟨by omega, by omega⟩), I_k (by omega), hsv_hi hk, q2]
  simp only [Option.bind_some, gd_t (inb_k hk (show 3 < 1000000 by omega))]
  rw [ite_B1, if_pos (wi_iff.mpr hb), r1]
  simp only [Option.bind_some]
  rw [r2]
  rfl
theorem q_paper {g : Nat → Int} {n : Nat} {vT vS : JV} {hV : Nat → JV} {hZ : JV} (hA : Nat → Nat → Nat) (h : CI g n vT vS hV hZ) {p : Nat} (hp : p < 6) {b c : Int} (hb : 0 ≤ b ∧ b ≤ 19) (hc : 30 ≤ c ∧ c ≤ 180) :
    ∃ Rz : R6, f_X4_paper vT vS hA hV hZ (I (p : Int)) (I b) (I c) = some Rz ∧ Rz.1 = I (g (4 + 2 * p)) ∧ CI (gu (gu g (4 + 2 * p) b) (5 + 2 * p) c) (psn n) Rz.2.1 Rz.2.2.1 Rz.2.2.2.2.1 Rz.2.2.2.2.2 := by
  have q3 : f_X4_isWithin (I c) (30 : Int32) (180 : Int32) = _ := p_wi (r0 c) 30 180 (r0 30) (r0 180)
  obtain ⟨R, vT', r1, r2, r3⟩ := qchg (hA := hA) h (RS_min (RS_start h.2.1 hp b) hp c) (Bd_gu (Bd_gu h.1 (4 + 2 * p) (by unfold loB; (repeat' split) <;> omega) (by unfold hiB; (repeat' split) <;> omega)) (5 + 2 * p) (by unfold loB; (repeat' split) <;> omega) (by unfold hiB; (repeat' split) <;> omega))
  refine ⟨(vS 1 p, vT', up2 (up2 vS 1 p (I b)) 2 p (I c), R.1, R.2.1, R.2.2), ?_, (h.2.1.2.1 p hp).1, r3⟩
  unfold f_X4_paper
  rw [p_isPaper (r0 (p : Int))]
  simp only [Option.bind_some]
  rw [ite_B1, if_pos (wi_iff.mpr ⟨by omega, by omega⟩), p_isStart (r0 b)]
  simp only [Option.bind_some]
  rw [ite_B1, if_pos (wi_iff.mpr hb), q3]
  simp only [Option.bind_some]
  rw [ite_B1, if_pos (wi_iff.mpr hc)]
  simp only [gd_t (inb_k hp (show 6 < 1000000 by omega))]
  rw [r1]
  simp only [Option.bind_some]
  rw [I_k (by omega), r2]
  rfl
theorem q_hall {g : Nat → Int} {n : Nat} {vT vS : JV} {hV : Nat → JV} {hZ : JV} (hA : Nat → Nat → Nat) (h : CI g n vT vS hV hZ) {p : Nat} (hp : p < 4) {b c : Int} (hb : 1 ≤ b ∧ b ≤ 4) (hc : 1 ≤ c ∧ c ≤ 4) :
    ∃ Rz : R6, f_X4_hall vT vS hA hV hZ (I (p : Int)) (I b) (I c) = some Rz ∧ Rz.1 = I ((rw_ g p * cw_ g p : Nat) : Int) ∧ CI (gu (gu g (64 + 3 * p) b) (65 + 3 * p) c) (psn n) Rz.2.1 Rz.2.2.1 Rz.2.2.2.2.1 Rz.2.2.2.2.2 := by
  have q2 : f_X4_isWithin (I b) (1 : Int32) (4 : Int32) = _ := p_wi (r0 b) 1 4 (r0 1) (r0 4)
  have q3 : f_X4_isWithin (I c) (1 : Int32) (4 : Int32) = _ := p_wi (r0 c) 1 4 (r0 1) (r0 4)
  obtain ⟨R, vT', r1, r2, r3⟩ := qchg (hA := hA) h (RS_hal h.2.1 hp b c) (Bd_gu (Bd_gu h.1 (64 + 3 * p) (by unfold loB; (repeat' split) <;> omega) (by unfold hiB; (repeat' split) <;> omega)) (65 + 3 * p) (by unfold loB; (repeat' split) <;> omega) (by unfold hiB; (repeat' split) <;> omega))
  refine ⟨(I ((rw_ g p * cw_ g p : Nat) : Int), vT', up2 (up2 vS 6 p (I b)) 7 p (I c), R.1, R.2.1, R.2.2), ?_, rfl, r3⟩
  unfold f_X4_hall
  rw [p_isHall (r0 (p : Int))]
  simp only [Option.bind_some]
  rw [ite_B1, if_pos (wi_iff.mpr ⟨by omega, by omega⟩), q2]
  simp only [Option.bind_some]
  rw [ite_B1, if_pos (wi_iff.mpr hb), q3]
  simp only [Option.bind_some]
  rw [ite_B1, if_pos (wi_iff.mpr hc)]
  simp only [gd_t (inb_k hp (show 4 < 1000000 by omega))]
  rw [p_desksOf h.2.1 h.1 hp]
  simp only [Option.bind_some]
  rw [r1]
  simp only [Option.bind_some]
  rw [I_k (by omega), r2]
  rfl
theorem q_open {g : Nat → Int} {n : Nat} {vT vS : JV} {hV : Nat → JV} {hZ : JV} (hA : Nat → Nat → Nat) (h : CI g n vT vS hV hZ) {p : Nat} (hp : p < 4) {o : Bool} (ho : opB g p ≠ o) :
    ∃ Rz : R6, f_X4_open vT vS hA hV hZ (I (p : Int)) (I (B1 o)) = some Rz ∧ Rz.1 = I ((wo (gu g (66 + 3 * p) (B1 o)) (fun _ => true) : Nat) : Int) ∧ CI (gu g (66 + 3 * p) (B1 o)) (psn n) Rz.2.1 Rz.2.2.1 Rz.2.2.2.2.1 Rz.2.2.2.2.2 := by
  have hgo : g (66 + 3 * p) = B1 (opB g p) := (opB_g h.1 hp).symm
  have hx : 1 - g (66 + 3 * p) = B1 o := by rw [hgo]; cases hq : opB g p <;> cases o <;> simp [hq] at ho <;> rfl
  have hB1 := B1_bd o
  have hB' : Bd (gu g (66 + 3 * p) (B1 o)) := Bd_gu h.1 _ (by unfold loB; (repeat' split) <;> omega) (by unfold hiB; (repeat' split) <;> omega)
  have hS' : RS (up2 vS 9 0 (I (opn (gu g (66 + 3 * p) (B1 o))))) (gu g (66 + 3 * p) (B1 o)) := RS_opn h.2.1 (fun k hk => gu_ne g _ (by omega))
  obtain ⟨R, vT', r1, r2, r3⟩ := qchg (hA := hA) h hS' hB'
  refine ⟨(vT' 4 0, vT', up2 vS 9 0 (I (opn (gu g (66 + 3 * p) (B1 o)))), R.1, R.2.1, R.2.2), ?_, (TN_wo hB' r3.2.2.1).1, r3⟩
  have e2 : decide (g (66 + 3 * p) = 1) = opB g p := rfl
  unfold f_X4_open
  rw [p_isHall (r0 (p : Int))]
  simp only [Option.bind_some]
  rw [ite_B1, if_pos (wi_iff.mpr ⟨by omega, by omega⟩), p_isOpen h.2.1 h.1 hp]
  simp only [Option.bind_some]
  rw [e2, B1_eq, if_neg ho, r1]
  simp only [Option.bind_some]
  rw [h.2.1.2.2.2.2.2, xor_opn h.1 hp, hx, r2]
  rfl
theorem q_openN {g : Nat → Int} {n : Nat} {vT vS : JV} {hV : Nat → JV} {hZ : JV} (hA : Nat → Nat → Nat) (h : CI g n vT vS hV hZ) {p : Nat} (hp : p < 4) {o : Bool} (ho : opB g p = o) :
    f_X4_open vT vS hA hV hZ (I (p : Int)) (I (B1 o)) = some (I (-5), vT, vS, hA, hV, hZ) := by
  have e2 : decide (g (66 + 3 * p) = 1) = opB g p := rfl
  unfold f_X4_open
  rw [p_isHall (r0 (p : Int))]
  simp only [Option.bind_some]
  rw [ite_B1, if_pos (wi_iff.mpr ⟨by omega, by omega⟩), p_isOpen h.2.1 h.1 hp]
  simp only [Option.bind_some]
  rw [e2, B1_eq, if_pos ho]
  rfl
theorem q_pupil {g : Nat → Int} {n : Nat} {vT vS : JV} {hV : Nat → JV} {hZ : JV} (hA : Nat → Nat → Nat) (h : CI g n vT vS hV hZ) (hi : np g < 16) {a b : Int} {o : Bool} (ca : 1 ≤ a ∧ a ≤ 63) (cb : 0 ≤ b ∧ b ≤ 100) :
    ∃ Rz : R6, f_X4_pupil vT vS hA hV hZ (I a) (I b) (I (B1 o)) = some Rz ∧ Rz.1 = I ((np g : Nat) : Int) ∧ CI (gu (gp g (np g) a b (B1 o)) 3 ((np g + 1 : Nat) : Int)) (psn n) Rz.2.1 Rz.2.2.1 Rz.2.2.2.2.1 Rz.2.2.2.2.2 := by
  have hn := np_le h.1
  have hB1 : Bd (gp g (np g) a b (B1 o)) := Bd_gp h.1 hi ⟨by omega, ca.2⟩ cb (B1_bd o)
  have hB' : Bd (gu (gp g (np g) a b (B1 o)) 3 ((np g + 1 : Nat) : Int)) := Bd_gu hB1 3 (by show (0 : Int) ≤ _; omega) (by show _ ≤ (16 : Int); omega)
  obtain ⟨R, vT', r1, r2, r3⟩ := qchg (hA := hA) h (RS_num (RS_pup h.2.1 hi a b (B1 o)) ((np g + 1 : Nat) : Int)) hB'
  refine ⟨(I ((np g : Nat) : Int), vT', up2 (up2 (up2 (up2 vS 3 (np g) (I a)) 4 (np g) (I b)) 5 (np g) (I (B1 o))) 8 0 (I ((np g + 1 : Nat) : Int)), R.1, R.2.1, R.2.2), ?_, rfl, r3⟩
  unfold f_X4_pupil
  rw [p_isPupilData (r0 a) (r0 b)]
  simp only [Option.bind_some]
  rw [ite_B1, wi_iff.mpr ca, wi_iff.mpr cb, show (true && true) = true from rfl, if_pos rfl, h.2.1.2.2.2.2.1, ← hn.2]
  rw [show (16 : Int32) = I ((16 : Nat) : Int) from rfl, ite_lt (rng_of (by omega) (by omega)) (rng_of (by omega) (by omega)), if_pos (by omega), r1]
  simp only [Option.bind_some]
  unfold f_X2_addPupil
  rw [h.2.1.2.2.2.2.1, ← hn.2, show (16 : Int32) = I ((16 : Nat) : Int) from rfl, k_le (by omega) (by omega), if_neg (by omega), p_writePupil vS hi _ _ (B1_isb o)]
  simp only [Option.bind_some]
  rw [up2_v (show (8 : Nat) ≠ 5 by omega), up2_v (show (8 : Nat) ≠ 4 by omega), up2_v (show (8 : Nat) ≠ 3 by omega), h.2.1.2.2.2.2.1, ← hn.2, one_add, r2]
  rfl
theorem q_pupilN {g : Nat → Int} {n : Nat} {vT vS : JV} {hV : Nat → JV} {hZ : JV} (hA : Nat → Nat → Nat) (h : CI g n vT vS hV hZ) (hi : np g = 16) {a b : Int} {o : Bool} (ca : 1 ≤ a ∧ a ≤ 63) (cb : 0 ≤ b ∧ b ≤ 100) :
    f_X4_pupil vT vS hA hV hZ (I a) (I b) (I (B1 o)) = some (I (-4), vT, vS, hA, hV, hZ) := by
  have hn := np_le h.1
  unfold f_X4_pupil
  rw [p_isPupilData (r0 a) (r0 b)]
  simp only [Option.bind_some]
  rw [ite_B1, wi_iff.mpr ca, wi_iff.mpr cb, show (true && true) = true from rfl, if_pos rfl, h.2.1.2.2.2.2.1, ← hn.2]
  rw [show (16 : Int32) = I ((16 : Nat) : Int) from rfl, ite_lt (rng_of (by omega) (by omega)) (rng_of (by omega) (by omega)), if_neg (by omega)]
  rfl
theorem q_isPupil {g : Nat → Int} {n : Nat} {vT vS : JV} {hV : Nat → JV} {hZ : JV} (h : CI g n vT vS hV hZ) {i : Nat} (hi : i < np g) : f_X4_isPupil vS (I (i : Int)) = some (I (B1 true)) := by
  have hn := np_le h.1
  rw [p_isPupil h.2.1 h.1 (r0 (i : Int)), wi_iff.mpr ⟨by omega, by omega⟩]
theorem q_isPupilN {g : Nat → Int} {n : Nat} {vT vS : JV} {hV : Nat → JV} {hZ : JV} (h : CI g n vT vS hV hZ) {i : Nat} (hi : np g ≤ i) (h2 : i < 1000) : f_X4_isPupil vS (I (i : Int)) = some (I (B1 false)) := by
  have hn := np_le h.1
  have e : wi 0 (g 3 - 1) (i : Int) = false := by
    rw [← Bool.not_eq_true]
    intro z
    have := wi_iff.mp z
    omega
  rw [p_isPupil h.2.1 h.1 (r0 (i : Int)), e]
theorem q_change {g : Nat → Int} {n : Nat} {vT vS : JV} {hV : Nat → JV} {hZ : JV} (hA : Nat → Nat → Nat) (h : CI g n vT vS hV hZ) {i : Nat} (hi : i < np g) {a b : Int} {o : Bool} (ca : 1 ≤ a ∧ a ≤ 63) (cb : 0 ≤ b ∧ b ≤ 100) :
    ∃ Rz : R6, f_X4_change vT vS hA hV hZ (I (i : Int)) (I a) (I b) (I (B1 o)) = some Rz ∧ Rz.1 = I ((cp (gp g i a b (B1 o)) i : Nat) : Int) ∧ CI (gp g i a b (B1 o)) (psn n) Rz.2.1 Rz.2.2.1 Rz.2.2.2.2.1 Rz.2.2.2.2.2 := by
  have hn := np_le h.1
  have hi6 : i < 16 := by omega
  have hB1 : Bd (gp g i a b (B1 o)) := Bd_gp h.1 hi6 ⟨by omega, ca.2⟩ cb (B1_bd o)
  have hS1 : RS (up2 (up2 (up2 vS 3 i (I a)) 4 i (I b)) 5 i (I (B1 o))) (gp g i a b (B1 o)) := RS_pup h.2.1 hi6 a b (B1 o)
  obtain ⟨R, vT', r1, r2, r3⟩ := qchg (hA := hA) h hS1 hB1
  refine ⟨(I ((cp (gp g i a b (B1 o)) i : Nat) : Int), vT', up2 (up2 (up2 vS 3 i (I a)) 4 i (I b)) 5 i (I (B1 o)), R.1, R.2.1, R.2.2), ?_, rfl, r3⟩
  unfold f_X4_change
  rw [q_isPupil h hi]
  simp only [Option.bind_some]
  rw [ite_B1, if_pos rfl, p_isPupilData (r0 a) (r0 b)]
  simp only [Option.bind_some]
  rw [ite_B1, wi_iff.mpr ca, wi_iff.mpr cb, show (true && true) = true from rfl, if_pos rfl, r1]
  simp only [Option.bind_some]
  rw [p_writePupil vS hi6 _ _ (B1_isb o)]
  simp only [Option.bind_some]
  rw [r2]
  simp only [Option.bind_some]
  rw [p_clashesOf hS1 hB1 hi6]
  rfl
theorem q_changeN {g : Nat → Int} {n : Nat} {vT vS : JV} {hV : Nat → JV} {hZ : JV} (hA : Nat → Nat → Nat) (h : CI g n vT vS hV hZ) {i : Nat} (hi : np g ≤ i) (h2 : i < 1000) (x y z : Int32) :
    f_X4_change vT vS hA hV hZ (I (i : Int)) x y z = some (I (-1), vT, vS, hA, hV, hZ) := by
  unfold f_X4_change
  rw [q_isPupilN h hi h2]
  rfl
theorem q_leave {g : Nat → Int} {n : Nat} {vT vS : JV} {hV : Nat → JV} {hZ : JV} (hA : Nat → Nat → Nat) (h : CI g n vT vS hV hZ) {i : Nat} (hi : i < np g) :
    ∃ Rz : R6, f_X4_leave vT vS hA hV hZ (I (i : Int)) = some Rz ∧ Rz.1 = I (g (16 + 3 * i)) ∧ CI (gu (gl g (16 + 3 * i) (16 + 3 * (np g - 1))) 3 ((np g - 1 : Nat) : Int)) (psn n) Rz.2.1 Rz.2.2.1 Rz.2.2.2.2.1 Rz.2.2.2.2.2 := by
  have hn := np_le h.1
  have hi6 : i < 16 := by omega
  obtain ⟨vS', s1, s2⟩ := p_removePupil h.2.1 h.1 hi
  have hB1 : Bd (gl g (16 + 3 * i) (16 + 3 * (np g - 1))) := Bd_gl h.1 (by omega) (by omega)
  have hB' : Bd (gu (gl g (16 + 3 * i) (16 + 3 * (np g - 1))) 3 ((np g - 1 : Nat) : Int)) := Bd_gu hB1 3 (by show (0 : Int) ≤ _; omega) (by show _ ≤ (16 : Int); omega)
  obtain ⟨R, vT', r1, r2, r3⟩ := qchg (hA := hA) h s2 hB'
  refine ⟨(vS 3 i, vT', vS', R.1, R.2.1, R.2.2), ?_, (h.2.1.2.2.1 i hi6).1, r3⟩
  unfold f_X4_leave
  rw [q_isPupil h hi]
  simp only [Option.bind_some]
  rw [ite_B1, if_pos rfl, gd_t (inb_k hi6 (by omega)), r1]
  simp only [Option.bind_some]
  rw [s1]
  simp only [Option.bind_some]
  rw [r2, I_k (by omega)]
  rfl
theorem q_leaveN {g : Nat → Int} {n : Nat} {vT vS : JV} {hV : Nat → JV} {hZ : JV} (hA : Nat → Nat → Nat) (h : CI g n vT vS hV hZ) {i : Nat} (hi : np g ≤ i) (h2 : i < 1000) :
    f_X4_leave vT vS hA hV hZ (I (i : Int)) = some (I (-1), vT, vS, hA, hV, hZ) := by
  unfold f_X4_leave
  rw [q_isPupilN h hi h2]
  rfl
theorem q_undo {g : Nat → Int} {n : Nat} {vT vS : JV} {hV : Nat → JV} {hZ : JV} (hA : Nat → Nat → Nat) (h : CI g (n + 1) vT vS hV hZ) :
    ∃ (Rz : Int32 × JV × JV × JV) (g' : Nat → Int), f_X4_undo vT vS hA hV hZ = some Rz ∧ Rz.1 = I (n : Int) ∧ CI g' n Rz.2.1 Rz.2.2.1 hV Rz.2.2.2 := by
  obtain ⟨hB, hS, hT, hs, hc, hb⟩ := h
  have hn6 := hc.2.1
  obtain ⟨Q, q1, q2, q3⟩ := p_takeBack (vS := vS) (hA := hA) hb hc
  have hB' : Bd (hs n) := hb n (by omega)
  obtain ⟨vT', t1, t2⟩ := p_seatAll (v := vT) q2 hB'
  refine ⟨(Q.2 1 0, vT', Q.1, Q.2), hs n, ?_, q3.1, hB', q2, t2, hs, q3, fun j hj => hb j (by omega)⟩
  unfold f_X4_undo
  have c0 : ¬ I ((n + 1 : Nat) : Int) = (0 : Int32) := I_eqn (r0 _) 0 (r0 0) (by omega)
  rw [hc.1, if_neg c0, q1]
  simp only [Option.bind_some]
  rw [t1]
  rfl
theorem q_undoN {g : Nat → Int} {vT vS : JV} {hV : Nat → JV} {hZ : JV} (hA : Nat → Nat → Nat) (h : CI g 0 vT vS hV hZ) : f_X4_undo vT vS hA hV hZ = some (I (-5), vT, vS, hZ) := by
  obtain ⟨hB, hS, hT, hs, hc, hb⟩ := h
  unfold f_X4_undo
  rw [hc.1, if_pos (show I ((0 : Nat) : Int) = (0 : Int32) from rfl)]
  rfl
theorem q_save {g : Nat → Int} {n : Nat} {vT vS : JV} {hV : Nat → JV} {hZ : JV} (sV : Nat → JV) (vU : JV) (h : CI g n vT vS hV hZ) :
    ∃ (Rz : Int32 × (Nat → JV) × JV), f_X4_save vS sV vU (1 : Int32) = some Rz ∧ Rz.1 = I (g 3) ∧ RS (Rz.2.1 1) g ∧ Rz.2.2 0 1 = 1 := by
  obtain ⟨q, e1, e2⟩ := p_copyFrom (v := sV 1) h.2.1 h.1
  refine ⟨(vS 8 0, up1 sV 1 q, up2 vU 0 1 (1 : Int32)), ?_, h.2.1.2.2.2.2.1, e2, ?_⟩
  · unfold f_X4_save
    rw [show f_X4_isSlot (1 : Int32) = _ from p_isSlot (r0 1)]
    simp only [Option.bind_some]
    rw [ite_B1, if_pos (wi_iff.mpr ⟨by omega, by omega⟩)]
    rw [show inb (1 : Int32) 2 = true from rfl, gd_t rfl, if_neg (by decide), if_pos (by decide), e1]
    rfl
  · show up2 vU 0 1 (1 : Int32) 0 1 = 1
    rw [up2_if, if_pos rfl]
theorem q_restore {g g' : Nat → Int} {n : Nat} {vT vS : JV} {hV : Nat → JV} {hZ : JV} (hA : Nat → Nat → Nat) {sV : Nat → JV} {vU : JV} (h : CI g n vT vS hV hZ) (hB' : Bd g') (hS' : RS (sV 1) g') (hU : vU 0 1 = 1) :
    ∃ Rz : R6, f_X4_restore vT vS hA hV hZ sV vU (1 : Int32) = some Rz ∧ Rz.1 = I (g' 3) ∧ CI g' (psn n) Rz.2.1 Rz.2.2.1 Rz.2.2.2.2.1 Rz.2.2.2.2.2 := by
  obtain ⟨q, e1, e2⟩ := p_copyFrom (v := vS) hS' hB'
  obtain ⟨R, vT', r1, r2, r3⟩ := qchg (hA := hA) h e2 hB'
  refine ⟨(q 8 0, vT', q, R.1, R.2.1, R.2.2), ?_, e2.2.2.2.2.1, r3⟩
  unfold f_X4_restore
  rw [show f_X4_isSlot (1 : Int32) = _ from p_isSlot (r0 1)]
  simp only [Option.bind_some]
  rw [ite_B1, if_pos (wi_iff.mpr ⟨by omega, by omega⟩)]
  rw [show inb (1 : Int32) 2 = true from rfl]
  simp only [gd_t rfl]
  rw [show vU 0 (Int32.toNatClampNeg 1) = 1 from hU, if_neg (by decide), r1]
  simp only [Option.bind_some]
  rw [if_neg (by decide), if_pos (by decide), e1]
  simp only [Option.bind_some]
  rw [r2]
  rfl
theorem q_restoreN {vT vS : JV} {hV : Nat → JV} {hZ : JV} (hA : Nat → Nat → Nat) {sV : Nat → JV} {vU : JV} (hU : vU 0 0 = 0) :
    f_X4_restore vT vS hA hV hZ sV vU (0 : Int32) = some (I (-5), vT, vS, hA, hV, hZ) := by
  unfold f_X4_restore
  rw [show f_X4_isSlot (0 : Int32) = _ from p_isSlot (r0 0)]
  simp only [Option.bind_some]
  rw [ite_B1, if_pos (wi_iff.mpr ⟨by omega, by omega⟩)]
  rw [show inb (0 : Int32) 2 = true from rfl]
  simp only [gd_t rfl]
  rw [show vU 0 (Int32.toNatClampNeg 0) = 0 from hU, if_pos rfl]
  rfl
