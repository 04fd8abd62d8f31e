/-! ===== what the seating keeps ===== -/
theorem plc_place {g z : Nat → Int} {k : Nat} (h : plc g z k ≠ -6) :
    (rd g k = true ∧ ∃ r : Nat, r < nr g ∧ plc g z k = ((64 + r : Nat) : Int)) ∨ (rd g k = false ∧ ∃ a d : Nat, a < 4 ∧ d < nd g a ∧ plc g z k = ((16 * a + d : Nat) : Int) ∧ (decide (g 0 = 0) || aloneB g z a d (k % 6)) = true) := by
  unfold plc at h ⊢
  by_cases c : rd g k = true
  · left
    rw [if_pos c] at h ⊢
    unfold roomS at h ⊢
    by_cases d : ff (rP g z k) (nr g) < nr g
    · rw [if_pos d]
      exact ⟨c, _, d, rfl⟩
    · rw [if_neg d] at h; exact absurd rfl h
  · right
    rw [if_neg c] at h ⊢
    unfold deskS at h ⊢
    by_cases d : ff (hQ g z k) 4 < 4
    · rw [if_pos d]
      have h2 : ff (dP g z k (ff (hQ g z k) 4)) (nd g (ff (hQ g z k) 4)) < nd g (ff (hQ g z k) 4) := of_decide_eq_true (ff_hi _ _ d)
      exact ⟨(Bool.not_eq_true _).mp c, _, _, d, h2, rfl, ((Bool.and_eq_true _ _).mp (ff_hi _ _ h2)).2⟩
    · rw [if_neg d] at h; exact absurd rfl h
theorem zN_plc {g : Nat → Int} : ∀ (n k : Nat), zN g n k ≠ -6 → ∃ m : Nat, m < n ∧ due g m = true ∧ kn m = k ∧ zN g n k = plc g (zN g m) k
  | 0, k, h => absurd rfl h
  | n + 1, k, h => by
    by_cases hd : due g n = true
    · have e : zN g (n + 1) = zset (zN g n) (kn n) (plc g (zN g n) (kn n)) := by show (if due g n then _ else _) = _; rw [if_pos hd]
      rw [e] at h ⊢
      by_cases c : k = kn n
      · exact ⟨n, by omega, hd, c.symm, by rw [c, zset_at]⟩
      · rw [zset_ne c] at h ⊢
        obtain ⟨m, h1, h2, h3, h4⟩ := zN_plc n k h
        exact ⟨m, by omega, h2, h3, h4⟩
    · have e : zN g (n + 1) = zN g n := by show (if due g n then _ else _) = _; rw [if_neg hd]
      rw [e] at h ⊢
      obtain ⟨m, h1, h2, h3, h4⟩ := zN_plc n k h
      exact ⟨m, by omega, h2, h3, h4⟩
theorem zN_where {g : Nat → Int} (n k : Nat) (h : zN g n k ≠ -6) :
    k < 96 ∧ ((rd g k = true ∧ ∃ r : Nat, r < nr g ∧ zN g n k = ((64 + r : Nat) : Int)) ∨ (rd g k = false ∧ ∃ a d : Nat, a < 4 ∧ d < nd g a ∧ zN g n k = ((16 * a + d : Nat) : Int))) := by
  obtain ⟨m, h1, h2, h3, h4⟩ := zN_plc n k h
  refine ⟨by rw [← h3]; exact (kn_bd m).1, ?_⟩
  rw [h4] at h
  rcases plc_place h with ⟨c, r, hr, e⟩ | ⟨c, a, d, ha, hd, e, -⟩
  · exact Or.inl ⟨c, r, hr, by rw [h4]; exact e⟩
  · exact Or.inr ⟨c, a, d, ha, hd, by rw [h4]; exact e⟩
theorem seat_where {g : Nat → Int} (hB : Bd g) {k : Nat} (h : seatOf g k ≠ -6) :
    k < 96 ∧ ((rd g k = true ∧ ∃ r : Nat, r < nr g ∧ r < 6 ∧ seatOf g k = ((64 + r : Nat) : Int)) ∨ (rd g k = false ∧ ∃ a d : Nat, a < 4 ∧ d < nd g a ∧ d < 16 ∧ seatOf g k = ((16 * a + d : Nat) : Int))) := by
  obtain ⟨h1, h2⟩ := zN_where (g := g) 1920 k h
  have hr6 := hB.2.1
  refine ⟨h1, ?_⟩
  rcases h2 with ⟨c, r, hr, e⟩ | ⟨c, a, d, ha, hd, e⟩
  · exact Or.inl ⟨c, r, hr, by unfold nr at hr; omega, e⟩
  · exact Or.inr ⟨c, a, d, ha, hd, by have := nd_le hB ha; omega, e⟩
/-- desks d and e of a hall of c columns are beside one another -/
def Bes (c d e : Nat) : Prop := (d / c = e / c ∧ (d = e + 1 ∨ e = d + 1)) ∨ d = e + c ∨ e = d + c
theorem Bes.sym {c d e : Nat} (h : Bes c d e) : Bes c e d := by
  unfold Bes at h ⊢
  rcases h with ⟨h1, h2⟩ | h | h
  · exact Or.inl ⟨h1.symm, h2.symm⟩
  · exact Or.inr (Or.inr h)
  · exact Or.inr (Or.inl h)
theorem hasB_no {z : Nat → Int} {q : Int} {p o : Nat} (h : hasB z q p = false) (ho : o < 96) (hp : o % 6 = p) : z o ≠ q := by
  intro e
  have : hasB z q p = true := anyB_iff.mpr ⟨o / 6, by omega, by
    show (z (6 * (o / 6) + p) == q) = true
    rw [show 6 * (o / 6) + p = o by omega, e]
    simp⟩
  rw [h] at this
  cases this
theorem alone_no {g z : Nat → Int} (hB : Bd g) {a d e o : Nat} (ha : a < 4) (hd : d < nd g a) (he : e < nd g a) (h : aloneB g z a d (o % 6) = true) (ho : o < 96) (hz : z o = ((16 * a + e : Nat) : Int)) (hb : Bes (cw_ g a) d e) : False := by
  have hc := rc_bd hB ha
  have hnd : nd g a = rw_ g a * cw_ g a := by
    unfold nd at hd ⊢
    by_cases q : g (66 + 3 * a) = 1
    · rw [if_pos q]
    · rw [if_neg q] at hd; omega
  rw [hnd] at hd he
  unfold aloneB at h
  rw [Bool.and_eq_true, Bool.and_eq_true, Bool.and_eq_true, Bool.not_eq_true', Bool.not_eq_true', Bool.not_eq_true', Bool.not_eq_true'] at h
  obtain ⟨h1, h2, h3, h4⟩ := h
  unfold Bes at hb
  have hcp : 0 < cw_ g a := hc.2.1.1
  have md := Nat.div_add_mod d (cw_ g a)
  have me := Nat.div_add_mod e (cw_ g a)
  have ld := Nat.mod_lt d hcp
  have le := Nat.mod_lt e hcp
  rcases hb with ⟨b1, b2 | b2⟩ | b2 | b2
  · rw [← b1] at me
    rw [decide_eq_true (show 0 < d % cw_ g a by omega), Bool.true_and] at h1
    exact hasB_no h1 ho rfl (by rw [hz]; omega)
  · rw [← b1] at me
    rw [decide_eq_true (show d % cw_ g a + 1 < cw_ g a by omega), Bool.true_and] at h2
    exact hasB_no h2 ho rfl (by rw [hz]; omega)
  · rw [decide_eq_true (show cw_ g a ≤ d by omega), Bool.true_and] at h3
    exact hasB_no h3 ho rfl (by rw [hz]; omega)
  · rw [decide_eq_true (show d + cw_ g a < cw_ g a * rw_ g a by rw [Nat.mul_comm]; omega), Bool.true_and] at h4
    exact hasB_no h4 ho rfl (by rw [hz]; omega)
theorem zN_beside {g : Nat → Int} (hB : Bd g) (h0 : g 0 ≠ 0) {a d e : Nat} (ha : a < 4) (hd : d < 16) (he : e < 16) (hb : Bes (cw_ g a) d e) : ∀ (n o k : Nat), o ≠ k → o % 6 = k % 6 → zN g n o = ((16 * a + d : Nat) : Int) → zN g n k = ((16 * a + e : Nat) : Int) → False
  | 0, o, k, _, _, h, _ => by
    have e : (-6 : Int) = ((16 * a + d : Nat) : Int) := h
    omega
  | n + 1, o, k, hne, h6, ho, hk => by
    by_cases hD : due g n = true
    · have e1 : zN g (n + 1) = zset (zN g n) (kn n) (plc g (zN g n) (kn n)) := by show (if due g n then _ else _) = _; rw [if_pos hD]
      rw [e1] at ho hk
      have key : ∀ (x : Nat) (u v : Nat), u < 16 → v < 16 → Bes (cw_ g a) u v → x ≠ kn n → x % 6 = kn n % 6 → plc g (zN g n) (kn n) = ((16 * a + u : Nat) : Int) → zN g n x = ((16 * a + v : Nat) : Int) → False := by
        intro x u v hu hv hbs hx hx6 hp hz
        obtain ⟨x1, x2⟩ := zN_where (g := g) n x (by omega)
        have hvn : v < nd g a := by
          rcases x2 with ⟨-, r, -, e⟩ | ⟨-, a2, d2, ha2, hd2, e⟩
          · omega
          · have : nd g a2 ≤ 16 := nd_le hB ha2
            have q1 : a2 = a := by omega
            have q2 : d2 = v := by omega
            rw [q1, q2] at hd2
            exact hd2
        rcases plc_place (g := g) (z := zN g n) (k := kn n) (by omega) with ⟨-, r, -, e⟩ | ⟨-, a2, d2, ha2, hd2, e, hal⟩
        · omega
        · have : nd g a2 ≤ 16 := nd_le hB ha2
          have q1 : a2 = a := by omega
          have q2 : d2 = u := by omega
          rw [q1, q2, decide_eq_false h0, Bool.false_or, ← hx6] at hal
          rw [q1, q2] at hd2
          exact alone_no hB ha hd2 hvn hal x1 hz hbs
      by_cases c1 : o = kn n
      · have c2 : k ≠ kn n := fun c => hne (by rw [c1, c])
        rw [c1, zset_at] at ho
        rw [zset_ne c2] at hk
        exact key k d e hd he hb c2 (by rw [← c1]; exact h6.symm) ho hk
      · rw [zset_ne c1] at ho
        by_cases c2 : k = kn n
        · rw [c2, zset_at] at hk
          exact key o e d he hd hb.sym c1 (by rw [← c2]; exact h6) hk ho
        · rw [zset_ne c2] at hk
          exact zN_beside hB h0 ha hd he hb n o k hne h6 ho hk
    · have e1 : zN g (n + 1) = zN g n := by show (if due g n then _ else _) = _; rw [if_neg hD]
      rw [e1] at ho hk
      exact zN_beside hB h0 ha hd he hb n o k hne h6 ho hk
/-! readers' rooms don't depend on the halls -/
theorem allB_congr {P P' : Nat → Bool} : ∀ {n : Nat}, (∀ i : Nat, i < n → P i = P' i) → allB P n = allB P' n
  | 0, _ => rfl
  | n + 1, h => by
    show (allB P n && P n) = (allB P' n && P' n)
    rw [allB_congr (n := n) (fun i hi => h i (by omega)), h n (by omega)]
theorem zN_halls {g g' : Nat → Int} (hB : Bd g) (hB' : Bd g') (hag : ∀ k : Nat, (k < 66 ∨ (k - 66) % 3 ≠ 0) → g' k = g k) : ∀ n k : Nat, rd g k = true → k < 96 → zN g' n k = zN g n k := by
  have hrd : ∀ k : Nat, k < 96 → rd g' k = rd g k := fun k hk => by unfold rd; rw [hag _ (by omega)]
  have hbk : ∀ k : Nat, bk g' k = bk g k := fun k => by unfold bk bg; rw [hag _ (by omega)]
  have hek : ∀ k : Nat, k < 96 → ek g' k = ek g k := fun k hk => by unfold ek en mn bg; rw [hag _ (by omega), hag _ (by omega), hag _ (by omega)]
  have hst : ∀ k : Nat, k < 96 → st g' k = st g k := fun k hk => by unfold st; rw [hag 3 (by omega), hag _ (by omega)]
  have hnr : nr g' = nr g := by unfold nr; rw [hag 1 (by omega)]
  have hdue : ∀ n : Nat, due g' n = due g n := fun n => by
    have := kn_bd n
    unfold due
    rw [hst _ (by omega), hag _ (by omega)]
  intro n
  induction n with
  | zero => intro k _ _; rfl
  | succ n ih =>
    intro k hk hk6
    have e1 : zN g' (n + 1) = if due g' n then zset (zN g' n) (kn n) (plc g' (zN g' n) (kn n)) else zN g' n := rfl
    have e2 : zN g (n + 1) = if due g n then zset (zN g n) (kn n) (plc g (zN g n) (kn n)) else zN g n := rfl
    rw [e1, e2, hdue]
    by_cases hd : due g n = true
    · rw [if_pos hd, if_pos hd]
      by_cases c : k = kn n
      · rw [← c, zset_at, zset_at]
        unfold plc
        rw [if_pos hk, if_pos (by rw [hrd k hk6]; exact hk)]
        have hP : ∀ r : Nat, rP g' (zN g' n) k r = rP g (zN g n) k r := by
          intro r
          have hO : ∀ o : Nat, o < 96 → okO g' (zN g' n) ((64 + r : Nat) : Int) k o = okO g (zN g n) ((64 + r : Nat) : Int) k o := by
            intro o ho
            have hap : apart g' o k = apart g o k := by
              unfold apart
              rw [hek o ho, hbk, hek k hk6, hbk, hag 2 (by omega)]
            unfold okO
            rw [hap]
            congr 2
            by_cases hr : rd g o = true
            · rw [ih o hr ho]
            · have z1 : ∀ f : Nat → Int, Bd f → rd f o = false → (zN f n o == ((64 + r : Nat) : Int)) = false := by
                intro f hBf hf
                rw [beq_eq_false_iff_ne]
                intro he
                obtain ⟨-, q⟩ := zN_where (g := f) n o (by omega)
                rcases q with ⟨q1, -⟩ | ⟨-, a, d, ha, hd2, e⟩
                · rw [hf] at q1; cases q1
                · have h16 := nd_le hBf ha
                  omega
              rw [z1 g hB ((Bool.not_eq_true _).mp hr), z1 g' hB' (by rw [hrd o ho]; exact (Bool.not_eq_true _).mp hr)]
          unfold rP fre
          exact allB_congr hO
        unfold roomS
        rw [hnr, show rP g' (zN g' n) k = rP g (zN g n) k from funext hP]
      · rw [zset_ne c, zset_ne c]
        exact ih k hk hk6
    · rw [if_neg hd, if_neg hd]
      exact ih k hk hk6
theorem wo_rd_halls {g g' : Nat → Int} (hB : Bd g) (hB' : Bd g') (hag : ∀ k : Nat, (k < 66 ∨ (k - 66) % 3 ≠ 0) → g' k = g k) : wo g' (rd g') = wo g (rd g) := by
  unfold wo
  refine sm_congr (fun k hk => ?_)
  have hrd : rd g' k = rd g k := by unfold rd; rw [hag _ (by omega)]
  have hst : st g' k = st g k := by unfold st; rw [hag 3 (by omega), hag _ (by omega)]
  rw [hrd, hst]
  by_cases c : rd g k = true
  · have e : seatOf g' k = seatOf g k := zN_halls hB hB' hag 1920 k c hk
    rw [e]
  · rw [(Bool.not_eq_true _).mp c, Bool.false_and, Bool.false_and]
/-! at a desk, at a minute: one sitting -/
theorem at_self {g : Nat → Int} (hB : Bd g) {k : Nat} (hk : k < 96) {q : Int} (hq : 0 ≤ q) (hz : seatOf g k = q) : atR g (seatOf g) q (bk g k) = (k : Int) := by
  have h1 : atB g (seatOf g) q (bk g k) k = true := by
    have := ek_bd hB hk
    unfold atB ovr
    rw [Bool.and_eq_true, Bool.and_eq_true, decide_eq_true_eq, decide_eq_true_eq, decide_eq_true_eq]
    exact ⟨hz, by omega, by omega⟩
  have h2 : ff (atB g (seatOf g) q (bk g k)) 96 = k := ff_of hk h1 (fun j hj => by
    rw [← Bool.not_eq_true]
    intro c
    have := atB_one hB hq c h1
    omega)
  unfold atR
  rw [h2, if_pos hk]
