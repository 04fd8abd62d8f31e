/-! ===== (from the parts of whole) ===== -/
def RH (hV : Nat → JV) (hZ vM : JV) : Prop := ∃ (hs : Nat → Nat → Int) (n : Nat), HC hV hZ hs n ∧ HM vM hs n ∧ HB hs n
def SLj (sV : Nat → JV) (vU vM : JV) (j : Nat) : Prop := (vU 0 j = 0 ∧ vM 5 j = 0) ∨ (vU 0 j = 1 ∧ vM 5 j = 1 ∧ ∃ g : Nat → Int, Bd g ∧ RS (sV j) g ∧ ∀ k : Nat, k < 76 → vM 4 (76 * j + k) = I (g k))
def RSl (sV : Nat → JV) (vU vM : JV) : Prop := ∀ j : Nat, j < 2 → SLj sV vU vM j
def PDc (vP vM : JV) (L : Nat) (c : Nat → Int) : Prop := L ≤ 60 ∧ vP 1 0 = I (L : Int) ∧ vM 10 0 = I (L : Int) ∧ ∀ i : Nat, i < L → (33 ≤ c i ∧ c i ≤ 126) ∧ vP 0 i = I (c i) ∧ vM 8 i = I (c i)
def RP (vP vM : JV) : Prop := ∃ (L : Nat) (c : Nat → Int), PDc vP vM L c
theorem RH.fr {hV : Nat → JV} {hZ v w : JV} (h : RH hV hZ v) (h3 : w 3 = v 3) (h11 : w 11 = v 11) : RH hV hZ w := by
  obtain ⟨hs, n, a, b, c⟩ := h
  exact ⟨hs, n, a, ⟨by rw [h11]; exact b.1, fun j hj k hk => by rw [h3]; exact b.2 j hj k hk⟩, c⟩
theorem RSl.fr {sV : Nat → JV} {vU v w : JV} (h : RSl sV vU v) (h4 : w 4 = v 4) (h5 : w 5 = v 5) : RSl sV vU w := by
  intro j hj
  have h1 := h j hj
  unfold SLj at h1 ⊢
  rw [h4, h5]
  exact h1
theorem RP.fr {vP v w : JV} (h : RP vP v) (h8 : w 8 = v 8) (h10 : w 10 = v 10) : RP vP w := by
  obtain ⟨L, c, h⟩ := h
  refine ⟨L, c, ?_⟩
  unfold PDc at h ⊢
  rw [h8, h10]
  exact h
/-! one place of g changed -/
def gu (g : Nat → Int) (k : Nat) (x : Int) : Nat → Int := fun j => if j = k then x else g j
theorem gu_at (g : Nat → Int) (k : Nat) (x : Int) : gu g k x k = x := if_pos rfl
theorem gu_ne (g : Nat → Int) {k j : Nat} (x : Int) (h : j ≠ k) : gu g k x j = g j := if_neg h
def loB (k : Nat) : Int := if k < 4 then 0 else if k < 16 then (if k % 2 = 0 then 0 else 30) else if k < 64 then 0 else if (k - 64) % 3 = 2 then 0 else 1
def hiB (k : Nat) : Int := if k = 0 then 1 else if k = 1 then 6 else if k = 2 then 60 else if k = 3 then 16 else if k < 16 then (if k % 2 = 0 then 19 else 180) else if k < 64 then (if k % 3 = 1 then 63 else if k % 3 = 2 then 100 else 1) else if (k - 64) % 3 = 2 then 1 else 4
theorem Bd_of {g : Nat → Int} (h : ∀ k : Nat, k < 76 → loB k ≤ g k ∧ g k ≤ hiB k) : Bd g := by
  unfold loB hiB at h
  refine ⟨?_, ?_, ?_, ?_, fun p hp => ⟨?_, ?_⟩, fun i hi => ⟨?_, ?_, ?_⟩, fun a ha => ⟨?_, ?_, ?_⟩⟩
  · exact h 0 (by omega)
  · exact h 1 (by omega)
  · exact h 2 (by omega)
  · exact h 3 (by omega)
  · have q := h (4 + 2 * p) (by omega); (repeat' split at q) <;> omega
  · have q := h (5 + 2 * p) (by omega); (repeat' split at q) <;> omega
  · have q := h (16 + 3 * i) (by omega); (repeat' split at q) <;> omega
  · have q := h (17 + 3 * i) (by omega); (repeat' split at q) <;> omega
  · have q := h (18 + 3 * i) (by omega); (repeat' split at q) <;> omega
  · have q := h (64 + 3 * a) (by omega); (repeat' split at q) <;> omega
  · have q := h (65 + 3 * a) (by omega); (repeat' split at q) <;> omega
  · have q := h (66 + 3 * a) (by omega); (repeat' split at q) <;> omega
theorem Bd_to {g : Nat → Int} (hB : Bd g) {k : Nat} (hk : k < 76) : loB k ≤ g k ∧ g k ≤ hiB k := by
  obtain ⟨b0, b1, b2, b3, bp, bi, bh⟩ := hB
  unfold loB hiB
  by_cases c0 : k = 0
  · rw [c0]; exact b0
  by_cases c1 : k = 1
  · rw [c1]; exact b1
  by_cases c2 : k = 2
  · rw [c2]; exact b2
  by_cases c3 : k = 3
  · rw [c3]; exact b3
  by_cases c4 : k < 16
  · have q := bp ((k - 4) / 2) (by omega)
    by_cases d : k % 2 = 0
    · rw [show 4 + 2 * ((k - 4) / 2) = k by omega] at q
      (repeat' split) <;> omega
    · rw [show 5 + 2 * ((k - 4) / 2) = k by omega] at q
      (repeat' split) <;> omega
  by_cases c5 : k < 64
  · have q := bi ((k - 16) / 3) (by omega)
    by_cases d : k % 3 = 1
    · rw [show 16 + 3 * ((k - 16) / 3) = k by omega] at q
      (repeat' split) <;> omega
    by_cases d2 : k % 3 = 2
    · rw [show 17 + 3 * ((k - 16) / 3) = k by omega] at q
      (repeat' split) <;> omega
    · rw [show 18 + 3 * ((k - 16) / 3) = k by omega] at q
      (repeat' split) <;> omega
  · have q := bh ((k - 64) / 3) (by omega)
    by_cases d : (k - 64) % 3 = 0
    · rw [show 64 + 3 * ((k - 64) / 3) = k by omega] at q
      (repeat' split) <;> omega
    by_cases d2 : (k - 64) % 3 = 1
    · rw [show 65 + 3 * ((k - 64) / 3) = k by omega] at q
      (repeat' split) <;> omega
    · rw [show 66 + 3 * ((k - 64) / 3) = k by omega] at q
      (repeat' split) <;> omega
theorem Bd_gu {g : Nat → Int} (hB : Bd g) (k : Nat) {x : Int} (h0 : loB k ≤ x) (h1 : x ≤ hiB k) : Bd (gu g k x) := by
  refine Bd_of (fun j hj => ?_)
  unfold gu
  by_cases c : j = k
  · rw [if_pos c, c]; exact ⟨h0, h1⟩
  · rw [if_neg c]; exact Bd_to hB hj
theorem opn_gu {g : Nat → Int} {k : Nat} {x : Int} (h0 : 66 ≠ k) (h1 : 69 ≠ k) (h2 : 72 ≠ k) (h3 : 75 ≠ k) : opn (gu g k x) = opn g := by
  unfold opn
  rw [gu_ne g x h0, gu_ne g x h1, gu_ne g x h2, gu_ne g x h3]
theorem RS_set {v : JV} {g : Nat → Int} (h : RS v g) {i : Nat} (hi : i < 3) (x : Int) : RS (up2 v 0 i (I x)) (gu g i x) := by
  refine ⟨fun j hj => ?_, fun p hp => ?_, fun j hj => ?_, fun a ha => ?_, ?_, ?_⟩
  · rw [up2_if]
    unfold gu
    by_cases c : j = i
    · rw [if_pos c, if_pos c]
    · rw [if_neg c, if_neg c]; exact h.1 j hj
  · rw [up2_v (show (1 : Nat) ≠ 0 by omega), up2_v (show (2 : Nat) ≠ 0 by omega), gu_ne g x (by omega), gu_ne g x (by omega)]
    exact h.2.1 p hp
  · rw [up2_v (show (3 : Nat) ≠ 0 by omega), up2_v (show (4 : Nat) ≠ 0 by omega), up2_v (show (5 : Nat) ≠ 0 by omega), gu_ne g x (by omega), gu_ne g x (by omega), gu_ne g x (by omega)]
    exact h.2.2.1 j hj
  · rw [up2_v (show (6 : Nat) ≠ 0 by omega), up2_v (show (7 : Nat) ≠ 0 by omega), gu_ne g x (by omega), gu_ne g x (by omega)]
    exact h.2.2.2.1 a ha
  · rw [up2_v (show (8 : Nat) ≠ 0 by omega), gu_ne g x (by omega)]
    exact h.2.2.2.2.1
  · rw [up2_v (show (9 : Nat) ≠ 0 by omega), opn_gu (by omega) (by omega) (by omega) (by omega)]
    exact h.2.2.2.2.2
theorem RS_start {v : JV} {g : Nat → Int} (h : RS v g) {p0 : Nat} (hp0 : p0 < 6) (x : Int) : RS (up2 v 1 p0 (I x)) (gu g (4 + 2 * p0) x) := by
  refine ⟨fun j hj => ?_, fun p hp => ?_, fun j hj => ?_, fun a ha => ?_, ?_, ?_⟩
  · rw [up2_v (show (0 : Nat) ≠ 1 by omega), gu_ne g x (by omega)]
    exact h.1 j hj
  · rw [up2_v (show (2 : Nat) ≠ 1 by omega), gu_ne g x (show 5 + 2 * p ≠ 4 + 2 * p0 by omega), up2_if]
    unfold gu
    by_cases c : p = p0
    · rw [if_pos c, if_pos (by omega)]
      exact ⟨rfl, (h.2.1 p hp).2⟩
    · rw [if_neg c, if_neg (by omega)]
      exact h.2.1 p hp
  · rw [up2_v (show (3 : Nat) ≠ 1 by omega), up2_v (show (4 : Nat) ≠ 1 by omega), up2_v (show (5 : Nat) ≠ 1 by omega), gu_ne g x (by omega), gu_ne g x (by omega), gu_ne g x (by omega)]
    exact h.2.2.1 j hj
  · rw [up2_v (show (6 : Nat) ≠ 1 by omega), up2_v (show (7 : Nat) ≠ 1 by omega), gu_ne g x (by omega), gu_ne g x (by omega)]
    exact h.2.2.2.1 a ha
  · rw [up2_v (show (8 : Nat) ≠ 1 by omega), gu_ne g x (by omega)]
    exact h.2.2.2.2.1
  · rw [up2_v (show (9 : Nat) ≠ 1 by omega), opn_gu (by omega) (by omega) (by omega) (by omega)]
    exact h.2.2.2.2.2
theorem RS_min {v : JV} {g : Nat → Int} (h : RS v g) {p0 : Nat} (hp0 : p0 < 6) (x : Int) : RS (up2 v 2 p0 (I x)) (gu g (5 + 2 * p0) x) := by
  refine ⟨fun j hj => ?_, fun p hp => ?_, fun j hj => ?_, fun a ha => ?_, ?_, ?_⟩
  · rw [up2_v (show (0 : Nat) ≠ 2 by omega), gu_ne g x (by omega)]
    exact h.1 j hj
  · rw [up2_v (show (1 : Nat) ≠ 2 by omega), gu_ne g x (show 4 + 2 * p ≠ 5 + 2 * p0 by omega), up2_if]
    unfold gu
    by_cases c : p = p0
    · rw [if_pos c, if_pos (by omega)]
      exact ⟨(h.2.1 p hp).1, rfl⟩
    · rw [if_neg c, if_neg (by omega)]
      exact h.2.1 p hp
  · rw [up2_v (show (3 : Nat) ≠ 2 by omega), up2_v (show (4 : Nat) ≠ 2 by omega), up2_v (show (5 : Nat) ≠ 2 by omega), gu_ne g x (by omega), gu_ne g x (by omega), gu_ne g x (by omega)]
    exact h.2.2.1 j hj
  · rw [up2_v (show (6 : Nat) ≠ 2 by omega), up2_v (show (7 : Nat) ≠ 2 by omega), gu_ne g x (by omega), gu_ne g x (by omega)]
    exact h.2.2.2.1 a ha
  · rw [up2_v (show (8 : Nat) ≠ 2 by omega), gu_ne g x (by omega)]
    exact h.2.2.2.2.1
  · rw [up2_v (show (9 : Nat) ≠ 2 by omega), opn_gu (by omega) (by omega) (by omega) (by omega)]
    exact h.2.2.2.2.2
theorem RS_pup {v : JV} {g : Nat → Int} (h : RS v g) {i : Nat} (hi : i < 16) (x y z : Int) : RS (up2 (up2 (up2 v 3 i (I x)) 4 i (I y)) 5 i (I z)) (gu (gu (gu g (16 + 3 * i) x) (17 + 3 * i) y) (18 + 3 * i) z) := by
  refine ⟨fun j hj => ?_, fun p hp => ?_, fun j hj => ?_, fun a ha => ?_, ?_, ?_⟩
  · rw [up2_v (show (0 : Nat) ≠ 5 by omega), up2_v (show (0 : Nat) ≠ 4 by omega), up2_v (show (0 : Nat) ≠ 3 by omega), gu_ne _ z (by omega), gu_ne _ y (by omega), gu_ne _ x (by omega)]
    exact h.1 j hj
  · rw [up2_v (show (1 : Nat) ≠ 5 by omega), up2_v (show (1 : Nat) ≠ 4 by omega), up2_v (show (1 : Nat) ≠ 3 by omega), up2_v (show (2 : Nat) ≠ 5 by omega), up2_v (show (2 : Nat) ≠ 4 by omega), up2_v (show (2 : Nat) ≠ 3 by omega), gu_ne _ z (by omega), gu_ne _ y (by omega), gu_ne _ x (by omega), gu_ne _ z (by omega), gu_ne _ y (by omega), gu_ne _ x (by omega)]
    exact h.2.1 p hp
  · rw [up2_v (show (3 : Nat) ≠ 5 by omega), up2_v (show (3 : Nat) ≠ 4 by omega), up2_v (show (4 : Nat) ≠ 5 by omega), up2_if, up2_if, up2_if, up2_v (show (4 : Nat) ≠ 3 by omega), up2_v (show (5 : Nat) ≠ 4 by omega), up2_v (show (5 : Nat) ≠ 3 by omega)]
    unfold gu
    by_cases c : j = i
    · rw [if_pos c, if_pos c, if_pos c, c, if_neg (by omega), if_neg (by omega), if_pos rfl, if_neg (by omega), if_pos rfl, if_pos rfl]
      exact ⟨rfl, rfl, rfl⟩
    · rw [if_neg c, if_neg c, if_neg c, if_neg (by omega), if_neg (by omega), if_neg (by omega), if_neg (by omega), if_neg (by omega), if_neg (by omega), if_neg (by omega), if_neg (by omega), if_neg (by omega)]
      exact h.2.2.1 j hj
  · rw [up2_v (show (6 : Nat) ≠ 5 by omega), up2_v (show (6 : Nat) ≠ 4 by omega), up2_v (show (6 : Nat) ≠ 3 by omega), up2_v (show (7 : Nat) ≠ 5 by omega), up2_v (show (7 : Nat) ≠ 4 by omega), up2_v (show (7 : Nat) ≠ 3 by omega), gu_ne _ z (by omega), gu_ne _ y (by omega), gu_ne _ x (by omega), gu_ne _ z (by omega), gu_ne _ y (by omega), gu_ne _ x (by omega)]
    exact h.2.2.2.1 a ha
  · rw [up2_v (show (8 : Nat) ≠ 5 by omega), up2_v (show (8 : Nat) ≠ 4 by omega), up2_v (show (8 : Nat) ≠ 3 by omega), gu_ne _ z (by omega), gu_ne _ y (by omega), gu_ne _ x (by omega)]
    exact h.2.2.2.2.1
  · rw [up2_v (show (9 : Nat) ≠ 5 by omega), up2_v (show (9 : Nat) ≠ 4 by omega), up2_v (show (9 : Nat) ≠ 3 by omega), opn_gu (by omega) (by omega) (by omega) (by omega), opn_gu (by omega) (by omega) (by omega) (by omega), opn_gu (by omega) (by omega) (by omega) (by omega)]
    exact h.2.2.2.2.2
theorem RS_hal {v : JV} {g : Nat → Int} (h : RS v g) {b : Nat} (hb : b < 4) (x y : Int) : RS (up2 (up2 v 6 b (I x)) 7 b (I y)) (gu (gu g (64 + 3 * b) x) (65 + 3 * b) y) := by
  refine ⟨fun j hj => ?_, fun p hp => ?_, fun j hj => ?_, fun a ha => ?_, ?_, ?_⟩
  · rw [up2_v (show (0 : Nat) ≠ 7 by omega), up2_v (show (0 : Nat) ≠ 6 by omega), gu_ne _ y (by omega), gu_ne _ x (by omega)]
    exact h.1 j hj
  · rw [up2_v (show (1 : Nat) ≠ 7 by omega), up2_v (show (1 : Nat) ≠ 6 by omega), up2_v (show (2 : Nat) ≠ 7 by omega), up2_v (show (2 : Nat) ≠ 6 by omega), gu_ne _ y (by omega), gu_ne _ x (by omega), gu_ne _ y (by omega), gu_ne _ x (by omega)]
    exact h.2.1 p hp
  · rw [up2_v (show (3 : Nat) ≠ 7 by omega), up2_v (show (3 : Nat) ≠ 6 by omega), up2_v (show (4 : Nat) ≠ 7 by omega), up2_v (show (4 : Nat) ≠ 6 by omega), up2_v (show (5 : Nat) ≠ 7 by omega), up2_v (show (5 : Nat) ≠ 6 by omega), gu_ne _ y (by omega), gu_ne _ x (by omega), gu_ne _ y (by omega), gu_ne _ x (by omega), gu_ne _ y (by omega), gu_ne _ x (by omega)]
    exact h.2.2.1 j hj
  · rw [up2_v (show (6 : Nat) ≠ 7 by omega), up2_if, up2_if, up2_v (show (7 : Nat) ≠ 6 by omega)]
    unfold gu
    by_cases c : a = b
    · rw [if_pos c, if_pos c, c, if_neg (by omega), if_pos rfl, if_pos rfl]
      exact ⟨rfl, rfl⟩
    · rw [if_neg c, if_neg c, if_neg (by omega), if_neg (by omega), if_neg (by omega), if_neg (by omega)]
      exact h.2.2.2.1 a ha
  · rw [up2_v (show (8 : Nat) ≠ 7 by omega), up2_v (show (8 : Nat) ≠ 6 by omega), gu_ne _ y (by omega), gu_ne _ x (by omega)]
    exact h.2.2.2.2.1
  · rw [up2_v (show (9 : Nat) ≠ 7 by omega), up2_v (show (9 : Nat) ≠ 6 by omega), opn_gu (by omega) (by omega) (by omega) (by omega), opn_gu (by omega) (by omega) (by omega) (by omega)]
    exact h.2.2.2.2.2
theorem RS_num {v : JV} {g : Nat → Int} (h : RS v g) (x : Int) : RS (up2 v 8 0 (I x)) (gu g 3 x) := by
  refine ⟨fun j hj => ?_, fun p hp => ?_, fun j hj => ?_, fun a ha => ?_, ?_, ?_⟩
  · rw [up2_v (show (0 : Nat) ≠ 8 by omega), gu_ne _ x (by omega)]
    exact h.1 j hj
  · rw [up2_v (show (1 : Nat) ≠ 8 by omega), up2_v (show (2 : Nat) ≠ 8 by omega), gu_ne _ x (by omega), gu_ne _ x (by omega)]
    exact h.2.1 p hp
  · rw [up2_v (show (3 : Nat) ≠ 8 by omega), up2_v (show (4 : Nat) ≠ 8 by omega), up2_v (show (5 : Nat) ≠ 8 by omega), gu_ne _ x (by omega), gu_ne _ x (by omega), gu_ne _ x (by omega)]
    exact h.2.2.1 j hj
  · rw [up2_v (show (6 : Nat) ≠ 8 by omega), up2_v (show (7 : Nat) ≠ 8 by omega), gu_ne _ x (by omega), gu_ne _ x (by omega)]
    exact h.2.2.2.1 a ha
  · rw [up2_if, if_pos rfl, gu_at]
  · rw [up2_v (show (9 : Nat) ≠ 8 by omega), opn_gu (by omega) (by omega) (by omega) (by omega)]
    exact h.2.2.2.2.2
/-- halls opened and closed: any place from 66 on by threes, with the bits told anew -/
theorem RS_opn {v : JV} {g g' : Nat → Int} (h : RS v g) (hg : ∀ k : Nat, k < 66 ∨ (k - 66) % 3 ≠ 0 → g' k = g k) : RS (up2 v 9 0 (I (opn g'))) g' := by
  refine ⟨fun j hj => ?_, fun p hp => ?_, fun j hj => ?_, fun a ha => ?_, ?_, ?_⟩
  · rw [up2_v (show (0 : Nat) ≠ 9 by omega), hg _ (by omega)]
    exact h.1 j hj
  · rw [up2_v (show (1 : Nat) ≠ 9 by omega), up2_v (show (2 : Nat) ≠ 9 by omega), hg _ (by omega), hg _ (by omega)]
    exact h.2.1 p hp
  · rw [up2_v (show (3 : Nat) ≠ 9 by omega), up2_v (show (4 : Nat) ≠ 9 by omega), up2_v (show (5 : Nat) ≠ 9 by omega), hg _ (by omega), hg _ (by omega), hg _ (by omega)]
    exact h.2.2.1 j hj
  · rw [up2_v (show (6 : Nat) ≠ 9 by omega), up2_v (show (7 : Nat) ≠ 9 by omega), hg _ (by omega), hg _ (by omega)]
    exact h.2.2.2.1 a ha
  · rw [up2_v (show (8 : Nat) ≠ 9 by omega), hg _ (by omega)]
    exact h.2.2.2.2.1
  · rw [up2_if, if_pos rfl]
