/-! ===== the class's answers, in words of g ===== -/
section CQ
variable {g : Nat → Int} {n : Nat} {vT vS : JV} {hV : Nat → JV} {hZ : JV}
theorem q_po0 (h : CI g n vT vS hV hZ) {i : Nat} (hi : i < np g) : f_X4_pupilOf vT vS (I (i : Int)) (0 : Int32) = some (I (g (16 + 3 * i))) := by
  have hn := np_le h.1
  unfold f_X4_pupilOf
  rw [q_isPupil h hi]
  simp only [Option.bind_some]
  rw [ite_B1, if_pos (by decide), if_pos (by decide), gd_t (inb_k (by omega) (by omega)), I_k (by omega), (h.2.1.2.2.1 i (by omega)).1]
theorem q_po1 (h : CI g n vT vS hV hZ) {i : Nat} (hi : i < np g) : f_X4_pupilOf vT vS (I (i : Int)) (1 : Int32) = some (I (g (17 + 3 * i))) := by
  have hn := np_le h.1
  unfold f_X4_pupilOf
  rw [q_isPupil h hi]
  simp only [Option.bind_some]
  rw [ite_B1, if_pos (by decide), if_neg (by decide), if_pos (by decide), gd_t (inb_k (by omega) (by omega)), I_k (by omega), (h.2.1.2.2.1 i (by omega)).2.1]
theorem q_po2 (h : CI g n vT vS hV hZ) {i : Nat} (hi : i < np g) : f_X4_pupilOf vT vS (I (i : Int)) (2 : Int32) = some (I (g (18 + 3 * i))) := by
  have hn := np_le h.1
  have hr := (h.1.2.2.2.2.2.1 i (by omega)).2.2
  unfold f_X4_pupilOf
  rw [q_isPupil h hi]
  simp only [Option.bind_some]
  rw [ite_B1, if_pos (by decide), if_neg (by decide), if_neg (by decide), if_pos (by decide), gd_t (inb_k (by omega) (by omega)), I_k (by omega), (h.2.1.2.2.1 i (by omega)).2.2]
  by_cases c : g (18 + 3 * i) = 0
  · rw [c]; rfl
  · rw [show g (18 + 3 * i) = 1 by omega]; rfl
theorem q_po3 (h : CI g n vT vS hV hZ) {i : Nat} (hi : i < np g) : f_X4_pupilOf vT vS (I (i : Int)) (3 : Int32) = some (I ((cp g i : Nat) : Int)) := by
  have hn := np_le h.1
  unfold f_X4_pupilOf
  rw [q_isPupil h hi]
  simp only [Option.bind_some]
  rw [ite_B1, if_pos (by decide), if_neg (by decide), if_neg (by decide), if_neg (by decide), if_pos (by decide), p_clashesOf h.2.1 h.1 (by omega)]
  rfl
theorem q_po4 (h : CI g n vT vS hV hZ) {i : Nat} (hi : i < np g) : f_X4_pupilOf vT vS (I (i : Int)) (4 : Int32) = some (om (fun b => unpz g (seatOf g) (6 * i + b)) 6) := by
  have hn := np_le h.1
  unfold f_X4_pupilOf
  rw [q_isPupil h hi]
  simp only [Option.bind_some]
  rw [ite_B1, if_pos (by decide), if_neg (by decide), if_neg (by decide), if_neg (by decide), if_neg (by decide), if_pos (by decide), p_unplacedPapersOf h.2.1 h.1 h.ts (seat_bd h.1) (seat_gap g) (by omega) (by omega)]
  rfl
theorem q_po5 (h : CI g n vT vS hV hZ) {i : Nat} (hi : i < np g) : f_X4_pupilOf vT vS (I (i : Int)) (5 : Int32) = some (I (mnS g i)) := by
  have hn := np_le h.1
  unfold f_X4_pupilOf
  rw [q_isPupil h hi]
  simp only [Option.bind_some]
  rw [ite_B1, if_pos (by decide), if_neg (by decide), if_neg (by decide), if_neg (by decide), if_neg (by decide), if_neg (by decide), if_pos (by decide), p_minutesOf h.2.1 h.1 (by omega)]
  rfl
theorem q_poN (h : CI g n vT vS hV hZ) {i : Nat} (hi : np g ≤ i) (h2 : i < 1000) (x : Int32) : f_X4_pupilOf vT vS (I (i : Int)) x = some (I (-1)) := by
  unfold f_X4_pupilOf
  rw [q_isPupilN h hi h2]
  rfl
theorem q_isP {p : Nat} (hp : p < 6) : f_X4_isPaper (I (p : Int)) = some (I (B1 true)) := by
  rw [p_isPaper (r0 (p : Int)), wi_iff.mpr ⟨by omega, by omega⟩]
theorem q_isH {a : Nat} (ha : a < 4) : f_X4_isHall (I (a : Int)) = some (I (B1 true)) := by
  rw [p_isHall (r0 (a : Int)), wi_iff.mpr ⟨by omega, by omega⟩]
theorem q_pa0 (h : CI g n vT vS hV hZ) {p : Nat} (hp : p < 6) : f_X4_paperOf vT vS (I (p : Int)) (0 : Int32) = some (I (g (4 + 2 * p))) := by
  unfold f_X4_paperOf
  rw [q_isP hp]
  simp only [Option.bind_some]
  rw [ite_B1, if_pos (by decide), if_pos (by decide), gd_t (inb_k hp (by omega)), I_k (by omega), (h.2.1.2.1 p hp).1]
theorem q_pa1 (h : CI g n vT vS hV hZ) {p : Nat} (hp : p < 6) : f_X4_paperOf vT vS (I (p : Int)) (1 : Int32) = some (I (g (5 + 2 * p))) := by
  unfold f_X4_paperOf
  rw [q_isP hp]
  simp only [Option.bind_some]
  rw [ite_B1, if_pos (by decide), if_neg (by decide), if_pos (by decide), gd_t (inb_k hp (by omega)), I_k (by omega), (h.2.1.2.1 p hp).2]
theorem q_pa3 (h : CI g n vT vS hV hZ) {p : Nat} (hp : p < 6) : f_X4_paperOf vT vS (I (p : Int)) (3 : Int32) = some (I (lePa g p)) := by
  unfold f_X4_paperOf
  rw [q_isP hp]
  simp only [Option.bind_some]
  rw [ite_B1, if_pos (by decide), if_neg (by decide), if_neg (by decide), if_neg (by decide), if_pos (by decide), p_lastEndOf h.2.1 h.1 hp]
  rfl
theorem q_pa4 (h : CI g n vT vS hV hZ) {p : Nat} (hp : p < 6) : f_X4_paperOf vT vS (I (p : Int)) (4 : Int32) = some (I ((upO g p : Nat) : Int)) := by
  unfold f_X4_paperOf
  rw [q_isP hp]
  simp only [Option.bind_some]
  rw [ite_B1, if_pos (by decide), if_neg (by decide), if_neg (by decide), if_neg (by decide), if_neg (by decide), if_pos (by decide), p_unplacedOf h.2.1 h.1 h.ts (seat_bd h.1) (seat_gap g) hp]
  rfl
theorem q_pa5 (h : CI g n vT vS hV hZ) {p : Nat} (hp : p < 6) : f_X4_paperOf vT vS (I (p : Int)) (5 : Int32) = some (haO g p) := by
  unfold f_X4_paperOf
  rw [q_isP hp]
  simp only [Option.bind_some]
  rw [ite_B1, if_pos (by decide), if_neg (by decide), if_neg (by decide), if_neg (by decide), if_neg (by decide), if_neg (by decide), if_pos (by decide), p_hallsOf h.2.1 h.1 h.ts (seat_bd h.1) (seat_gap g) hp]
  rfl
def sitA (g : Nat → Int) (i p t : Nat) : Int := if bts g i p then (if t = 0 then bg g p else if t = 1 then en g i p else if t = 2 then hallOf (seatOf g (6 * i + p)) else if t = 3 then deskOf (seatOf g (6 * i + p)) else if t = 4 then roomOf (seatOf g (6 * i + p)) else ((msk (pcw g i p) 6 : Nat) : Int)) else -5
theorem q_sit (h : CI g n vT vS hV hZ) {i p t : Nat} (hi : i < np g) (hp : p < 6) (ht : t < 6) : f_X4_sitting vT vS (I (i : Int)) (I (p : Int)) (I (t : Int)) = some (I (sitA g i p t)) := by
  have hn := np_le h.1
  have hi6 : i < 16 := by omega
  have hk : 6 * i + p < 96 := by omega
  have hTk := h.ts.1 (6 * i + p) hk
  unfold f_X4_sitting
  rw [q_isPupil h hi, q_isP hp, show f_X4_isWithin (I (t : Int)) (0 : Int32) (5 : Int32) = _ from p_wi (r0 (t : Int)) 0 5 (r0 0) (r0 5)]
  simp only [Option.bind_some]
  rw [ite_B1, if_pos (by decide), ite_B1, if_pos (by decide), ite_B1, if_pos (wi_iff.mpr ⟨by omega, by omega⟩), p_sits h.2.1 h.1 hi6 hp]
  simp only [Option.bind_some]
  rw [ite_B1]
  unfold sitA bts
  by_cases c3 : bt (g (16 + 3 * i)) p = true
  · rw [if_pos c3, if_pos c3, p_sittingNumber]
    simp only [Option.bind_some, gd_t (inb_k hk (show 96 < 1000000 by omega))]
    rw [I_k (by omega), hTk.1, hTk.2.1, hTk.2.2, p_beginOf h.2.1 hp, p_endOf h.2.1 h.1 hi6 hp, p_clashingPapers h.2.1 h.1 hi6 hp]
    rcases (show t = 0 ∨ t = 1 ∨ t = 2 ∨ t = 3 ∨ t = 4 ∨ t = 5 by omega) with rfl | rfl | rfl | rfl | rfl | rfl <;> rfl
  · rw [if_neg c3, if_neg c3]
    rfl
theorem q_ho0 (h : CI g n vT vS hV hZ) {a : Nat} (ha : a < 4) : f_X4_hallOf vT vS (I (a : Int)) (0 : Int32) = some (I (g (64 + 3 * a))) := by
  unfold f_X4_hallOf
  rw [q_isH ha]
  simp only [Option.bind_some]
  rw [ite_B1, if_pos (by decide), if_pos (by decide), gd_t (inb_k ha (by omega)), I_k (by omega), (h.2.1.2.2.2.1 a ha).1]
theorem q_ho1 (h : CI g n vT vS hV hZ) {a : Nat} (ha : a < 4) : f_X4_hallOf vT vS (I (a : Int)) (1 : Int32) = some (I (g (65 + 3 * a))) := by
  unfold f_X4_hallOf
  rw [q_isH ha]
  simp only [Option.bind_some]
  rw [ite_B1, if_pos (by decide), if_neg (by decide), if_pos (by decide), gd_t (inb_k ha (by omega)), I_k (by omega), (h.2.1.2.2.2.1 a ha).2]
theorem q_ho2 (h : CI g n vT vS hV hZ) {a : Nat} (ha : a < 4) : f_X4_hallOf vT vS (I (a : Int)) (2 : Int32) = some (I (B1 (opB g a))) := by
  unfold f_X4_hallOf
  rw [q_isH ha]
  simp only [Option.bind_some]
  rw [ite_B1, if_pos (by decide), if_neg (by decide), if_neg (by decide), if_pos (by decide), p_isOpen h.2.1 h.1 ha]
  simp only [Option.bind_some]
  show (if I (B1 (opB g a)) = 0 then some (0 : Int32) else some (1 : Int32)) = _
  cases opB g a <;> rfl
theorem q_ho3 (h : CI g n vT vS hV hZ) {a : Nat} (ha : a < 4) : f_X4_hallOf vT vS (I (a : Int)) (3 : Int32) = some (I ((sm (fun k => b1 (inH (seatOf g) a k)) 96 : Nat) : Int)) := by
  unfold f_X4_hallOf
  rw [q_isH ha]
  simp only [Option.bind_some]
  rw [ite_B1, if_pos (by decide), if_neg (by decide), if_neg (by decide), if_neg (by decide), if_pos (by decide), p_seatedIn h.ts (seat_bd h.1) ha]
  rfl
theorem q_ho4 (h : CI g n vT vS hV hZ) {a : Nat} (ha : a < 4) : f_X4_hallOf vT vS (I (a : Int)) (4 : Int32) = some (I (mostS g (tkn g (seatOf g) a))) := by
  unfold f_X4_hallOf
  rw [q_isH ha]
  simp only [Option.bind_some]
  rw [ite_B1, if_pos (by decide), if_neg (by decide), if_neg (by decide), if_neg (by decide), if_neg (by decide), if_pos (by decide), p_mostTakenIn h.2.1 h.1 h.ts (seat_bd h.1) (seat_gap g) ha]
  rfl
variable {vP : JV} {hA : Nat → Nat → Nat}
theorem q_ct (h : CI g n vT vS hV hZ) {k : Nat} (hk : k < 3) : f_X4_count vT vS vP hA hV hZ (I (k : Int)) = some (I (g k)) := by
  unfold f_X4_count
  rw [gd_t (inb_k hk (by omega)), I_k (by omega), h.2.1.1 k hk]
  rcases (show k = 0 ∨ k = 1 ∨ k = 2 by omega) with rfl | rfl | rfl <;> rfl
theorem q_c3 (h : CI g n vT vS hV hZ) : f_X4_count vT vS vP hA hV hZ (3 : Int32) = some (I ((np g : Nat) : Int)) := by
  unfold f_X4_count
  rw [if_neg (by decide), if_neg (by decide), if_neg (by decide), if_pos (by decide), h.2.1.2.2.2.2.1, ← (np_le h.1).2]
theorem q_c4 (h : CI g n vT vS hV hZ) : f_X4_count vT vS vP hA hV hZ (4 : Int32) = some (I ((nsit g : Nat) : Int)) := by
  unfold f_X4_count
  rw [if_neg (by decide), if_neg (by decide), if_neg (by decide), if_neg (by decide), if_pos (by decide), p_sittings h.2.1 h.1]
  rfl
theorem q_c5 (h : CI g n vT vS hV hZ) : f_X4_count vT vS vP hA hV hZ (5 : Int32) = some (I ((wo g (fun _ => true) : Nat) : Int)) := by
  unfold f_X4_count
  rw [if_neg (by decide), if_neg (by decide), if_neg (by decide), if_neg (by decide), if_neg (by decide), if_pos (by decide), (TN_wo h.1 h.2.2.1).1]
theorem q_c6 (h : CI g n vT vS hV hZ) : f_X4_count vT vS vP hA hV hZ (6 : Int32) = some (I ((cps g (np g) : Nat) : Int)) := by
  unfold f_X4_count
  rw [if_neg (by decide), if_neg (by decide), if_neg (by decide), if_neg (by decide), if_neg (by decide), if_neg (by decide), if_pos (by decide), p_clashes h.2.1 h.1]
  rfl
theorem q_c7 (h : CI g n vT vS hV hZ) : f_X4_count vT vS vP hA hV hZ (7 : Int32) = some (I (opn g)) := by
  unfold f_X4_count
  rw [if_neg (by decide), if_neg (by decide), if_neg (by decide), if_neg (by decide), if_neg (by decide), if_neg (by decide), if_neg (by decide), if_pos (by decide), h.2.1.2.2.2.2.2]
theorem q_c8 (h : CI g n vT vS hV hZ) : f_X4_count vT vS vP hA hV hZ (8 : Int32) = some (I ((odk g : Nat) : Int)) := by
  unfold f_X4_count
  rw [if_neg (by decide), if_neg (by decide), if_neg (by decide), if_neg (by decide), if_neg (by decide), if_neg (by decide), if_neg (by decide), if_neg (by decide), if_pos (by decide), p_openDesks h.2.1 h.1]
  rfl
theorem q_c10 (h : CI g n vT vS hV hZ) : f_X4_count vT vS vP hA hV hZ (10 : Int32) = some (I (lastE g)) := by
  unfold f_X4_count
  rw [if_neg (by decide), if_neg (by decide), if_neg (by decide), if_neg (by decide), if_neg (by decide), if_neg (by decide), if_neg (by decide), if_neg (by decide), if_neg (by decide), if_neg (by decide), if_pos (by decide), p_lastEnd h.2.1 h.1]
  rfl
theorem q_at (h : CI g n vT vS hV hZ) {a d : Nat} (ha : a < 4) (hd : d < rw_ g a * cw_ g a) {t : Int} (ht : 0 ≤ t ∧ t ≤ 1000000) : f_X4_at vT vS (I (a : Int)) (I (d : Int)) (I t) = some (I (atR g (seatOf g) (16 * (a : Int) + (d : Int)) t)) := by
  have hrc := rc_mul h.1 ha
  unfold f_X4_at
  rw [q_isH ha, p_desksOf h.2.1 h.1 ha]
  simp only [Option.bind_some]
  have e1 : I ((rw_ g a * cw_ g a : Nat) : Int) - (1 : Int32) = I (((rw_ g a * cw_ g a : Nat) : Int) - 1) := by rw [show (1 : Int32) = I 1 from rfl, I_sub]
  generalize rw_ g a * cw_ g a = q at hrc e1 hd ⊢
  rw [ite_B1, if_pos (by decide), e1, show f_X4_isWithin (I (d : Int)) (0 : Int32) (I ((q : Nat) - 1 : Int)) = _ from p_wi (r0 (d : Int)) 0 ((q : Int) - 1) (r0 0) (r0 _)]
  simp only [Option.bind_some]
  rw [ite_B1, if_pos (wi_iff.mpr ⟨by omega, by omega⟩), show (0 : Int32) = I 0 from rfl, ite_le (r0 0) (r0 t), if_pos ht.1, p_sittingAt h.2.1 h.1 h.ts (seat_bd h.1) ha (by omega) (r0 t)]
  rfl
/-! what if -/
theorem q_ifStart (h : CI g n vT vS hV hZ) (vT2 vS2 : JV) {p : Nat} (hp : p < 6) {b : Int} (cb : 0 ≤ b ∧ b ≤ 19) {t : Nat} (ht : t < 3) : ∃ Rz : Int32 × JV × JV, f_X4_ifStart vS vT2 vS2 (I (p : Int)) (I b) (I (t : Int)) = some Rz ∧ Rz.1 = I (ifA (gu g (4 + 2 * p) b) t) := by
  have hB1 := Bd_st h.1 hp cb
  obtain ⟨q, q1, q2⟩ := p_copyFrom (v := vS2) h.2.1 h.1
  have hS1 := RS_start q2 hp b
  obtain ⟨vT', t1, t2⟩ := p_seatAll (v := vT2) hS1 hB1
  have key : ∃ vT3 : JV, f_X4_ifStart vS vT2 vS2 (I (p : Int)) (I b) (I (t : Int)) = some (I (ifA (gu g (4 + 2 * p) b) t), vT3, up2 q 1 p (I b)) := by
    unfold f_X4_ifStart
    rw [q_isP hp, p_isStart (r0 b), show f_X4_isWithin (I (t : Int)) (0 : Int32) (2 : Int32) = _ from p_wi (r0 (t : Int)) 0 2 (r0 0) (r0 2)]
    simp only [Option.bind_some]
    rw [ite_B1, if_pos (by decide), ite_B1, if_pos (wi_iff.mpr cb), ite_B1, if_pos (wi_iff.mpr ⟨by omega, by omega⟩), q1]
    simp only [Option.bind_some]
    rw [gd_t (inb_k hp (by omega)), I_k (show p < 1000000 by omega), p_clashes hS1 hB1, t1, p_lastEnd hS1 hB1]
    simp only [Option.bind_some]
    rw [(TN_wo hB1 t2).1]
    rcases (show t = 0 ∨ t = 1 ∨ t = 2 by omega) with rfl | rfl | rfl
    · exact ⟨vT2, rfl⟩
    · exact ⟨vT', rfl⟩
    · exact ⟨vT2, rfl⟩
  obtain ⟨vT3, k1⟩ := key
  exact ⟨_, k1, rfl⟩
theorem q_bestHalls (h : CI g n vT vS hV hZ) (vT2 vS2 : JV) {a : Int} (ca : 0 ≤ a ∧ a ≤ 1) : ∃ Rz : Int32 × JV × JV, f_X4_bestHalls vS vT2 vS2 (I a) = some Rz ∧ Rz.1 = I (if a = 0 then ((bsf (bhU g) (bhD g) 16).1 : Int) else ((bsf (bhU g) (bhD g) 16).2.1 : Int)) := by
  obtain ⟨q, e1, e2⟩ := p_copyFrom (v := vS2) h.2.1 h.1
  obtain ⟨vT3, vS3, t1⟩ := p_bestHalls (vS := vS) (vT2 := vT2) e2 h.1 ca
  refine ⟨(I (if a = 0 then ((bsf (bhU g) (bhD g) 16).1 : Int) else ((bsf (bhU g) (bhD g) 16).2.1 : Int)), vT3, vS3), ?_, rfl⟩
  unfold f_X4_bestHalls
  rw [show f_X4_isWithin (I a) (0 : Int32) (1 : Int32) = _ from p_wi (r0 a) 0 1 (r0 0) (r0 1)]
  simp only [Option.bind_some]
  rw [ite_B1, if_pos (wi_iff.mpr ca), e1]
  exact t1
theorem q_leastRooms (h : CI g n vT vS hV hZ) (vT2 vS2 : JV) : ∃ Rz : Int32 × JV × JV, f_X4_leastRooms vS vT2 vS2 = some Rz ∧ Rz.1 = I (frP (lrP g) 7) := by
  obtain ⟨q, e1, e2⟩ := p_copyFrom (v := vS2) h.2.1 h.1
  obtain ⟨vT3, vS3, t1⟩ := p_leastRooms (vS := vS) (vT2 := vT2) e2 h.1
  refine ⟨(I (frP (lrP g) 7), vT3, vS3), ?_, rfl⟩
  unfold f_X4_leastRooms
  rw [e1]
  exact t1
theorem q_bestStart (h : CI g n vT vS hV hZ) (vT2 vS2 : JV) {p : Nat} (hp : p < 6) : ∃ Rz : Int32 × JV × JV, f_X4_bestStart vS vT2 vS2 (I (p : Int)) = some Rz ∧ Rz.1 = I ((bsf (bcC g p) (bcU g p) 20).1 : Int) := by
  obtain ⟨q, q1, q2⟩ := p_copyFrom (v := vS2) h.2.1 h.1
  obtain ⟨vT3, vS3, t1⟩ := p_bestStart (vS := vS) (vT2 := vT2) q2 h.1 hp
  refine ⟨(I ((bsf (bcC g p) (bcU g p) 20).1 : Int), vT3, vS3), ?_, rfl⟩
  unfold f_X4_bestStart
  rw [q_isP hp]
  simp only [Option.bind_some]
  rw [ite_B1, if_pos (by decide), q1]
  exact t1
end CQ
