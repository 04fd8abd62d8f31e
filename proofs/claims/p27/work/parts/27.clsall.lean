/-! ===== (from the parts of whole) ===== -/
theorem lp_inv {P A S : Type} (F : P → (A → Option S) → A → Option S) (Inv : Nat → A → Prop) (N : Nat) (E : P → A → Option S) (hs : ∀ (i : Nat) (a : A), i < N → Inv i a → ∃ a' : A, Inv (i + 1) a' ∧ ∀ (ρ : P) (rec : A → Option S), F ρ rec a = rec a') (he : ∀ (a : A) (ρ : P) (rec : A → Option S), Inv N a → F ρ rec a = E ρ a) (n : Nat) (hn : N < n) (a : A) (h0 : Inv 0 a) : ∃ a' : A, Inv N a' ∧ ∀ ρ : P, lp (F ρ) n a = E ρ a' := by
  have key : ∀ (d i n : Nat), i + d = N → d < n → ∀ a : A, Inv i a → ∃ a' : A, Inv N a' ∧ ∀ ρ : P, lp (F ρ) n a = E ρ a' := by
    intro d
    induction d with
    | zero =>
      intro i n hi hn a ha
      have hi : i = N := by omega
      subst hi
      match n, hn with
      | n + 1, _ => exact ⟨a, ha, fun ρ => he a ρ (lp (F ρ) n) ha⟩
    | succ d ih =>
      intro i n hi hn a ha
      match n, hn with
      | n + 1, hn =>
        obtain ⟨a1, h1, h2⟩ := hs i a (by omega) ha
        obtain ⟨a2, h3, h4⟩ := ih (i + 1) n (by omega) (by omega) a1 h1
        exact ⟨a2, h3, fun ρ => (h2 ρ (lp (F ρ) n)).trans (h4 ρ)⟩
  exact key N 0 n (by omega) hn a h0
def unN (g : Nat → Int) : Nat → Nat
  | 0 => 0
  | n + 1 => unN g n + if due g n then m6 (plc g (zN g n) (kn n)) else 0
def urN (g : Nat → Int) : Nat → Nat
  | 0 => 0
  | n + 1 => urN g n + if due g n && rd g (kn n) then m6 (plc g (zN g n) (kn n)) else 0
theorem zN_from {g : Nat → Int} : ∀ (n o : Nat), zN g n o ≠ -6 → ∃ m : Nat, m < n ∧ due g m = true ∧ kn m = o
  | 0, o, h => absurd rfl h
  | n + 1, o, h => by
    by_cases hd : due g n = true
    · by_cases c : o = kn n
      · exact ⟨n, by omega, hd, c.symm⟩
      · have h2 : zN g n o ≠ -6 := by
          have e : zN g (n + 1) = zset (zN g n) (kn n) (plc g (zN g n) (kn n)) := by show (if due g n then _ else _) = _; rw [if_pos hd]
          rw [e, zset_ne c] at h
          exact h
        obtain ⟨m, h3, h4, h5⟩ := zN_from n o h2
        exact ⟨m, by omega, h4, h5⟩
    · have e : zN g (n + 1) = zN g n := by show (if due g n then _ else _) = _; rw [if_neg hd]
      rw [e] at h
      obtain ⟨m, h3, h4, h5⟩ := zN_from n o h
      exact ⟨m, by omega, h4, h5⟩
theorem due_start {g : Nat → Int} {n : Nat} (h : due g n = true) : g (4 + 2 * (kn n % 6)) = ((n / 96 : Nat) : Int) := by
  unfold due at h
  rw [Bool.and_eq_true] at h
  exact of_decide_eq_true h.1
theorem zN_free {g : Nat → Int} {n : Nat} (h : due g n = true) : zN g n (kn n) = -6 := by
  by_cases c : zN g n (kn n) = -6
  · exact c
  · exfalso
    obtain ⟨m, h1, h2, h3⟩ := zN_from n _ c
    have a1 := due_start h
    have a2 := due_start h2
    rw [h3] at a2
    have a3 := kn_bd n
    have a4 := kn_bd m
    rw [h3] at a4
    omega
theorem zN_past {g : Nat → Int} {n o : Nat} (h : due g n = true) (hz : zN g n o ≠ -6) : bk g o ≤ bk g (kn n) := by
  obtain ⟨m, h1, h2, h3⟩ := zN_from n _ hz
  have a1 := due_start h
  have a2 := due_start h2
  rw [h3] at a2
  unfold bk bg
  omega
theorem zN_skip {g : Nat → Int} {a : Nat} : ∀ d : Nat, (∀ m : Nat, a ≤ m → m < a + d → due g m = false) → zN g (a + d) = zN g a ∧ unN g (a + d) = unN g a ∧ urN g (a + d) = urN g a
  | 0, _ => ⟨rfl, rfl, rfl⟩
  | d + 1, h => by
    obtain ⟨h1, h2, h3⟩ := zN_skip d (fun m a b => h m a (by omega))
    have hd := h (a + d) (by omega) (by omega)
    refine ⟨?_, ?_, ?_⟩
    · show (if due g (a + d) then _ else zN g (a + d)) = _
      rw [hd]; exact h1
    · show unN g (a + d) + (if due g (a + d) then _ else 0) = _
      rw [hd]; exact h2
    · show urN g (a + d) + (if due g (a + d) && _ then _ else 0) = _
      rw [hd]; exact h3
def TN (v : JV) (g : Nat → Int) (n : Nat) : Prop := TS v g (zN g n) (unN g n) (urN g n)
theorem kn_ix {t p i : Nat} (hp : p < 6) (hi : i < 16) : kn (t * 96 + p * 16 + i) = 6 * i + p ∧ (t * 96 + p * 16 + i) / 96 = t := by unfold kn; omega
theorem p_seatPupils {v vS : JV} {g : Nat → Int} {t p : Nat} (hS : RS vS g) (hB : Bd g) (hp : p < 6) (hs : g (4 + 2 * p) = (t : Int)) (hT : TN v g (t * 96 + p * 16)) : ∃ v' : JV, f_X3_seatPupils v vS (I (p : Int)) = some v' ∧ TN v' g (t * 96 + (p + 1) * 16) := by
  have hn := np_le hB
  unfold f_X3_seatPupils f_X3_seatPupils_L2
  refine Exists.elim (lp_inv (P := Unit) (fun _ (rec : JV × Int32 → Option (JV)) a => f_X3_seatPupils_b2 vS (I (p : Int)) (fun vT_2 x2_2 => rec (vT_2, x2_2)) a.1 a.2) (fun i a => a.2 = I (i : Int) ∧ TN a.1 g (t * 96 + p * 16 + i)) (np g) (fun _ a => some a.1) (fun i a hi ha => ?_) (fun a _ rec ha => ?_) FU (by have := FU_ge; omega) (v, (0 : Int32)) ⟨rfl, hT⟩) (fun a' h12 => ?_)
  · obtain ⟨w, x⟩ := a
    obtain ⟨hx, hw⟩ := ha
    dsimp only at hx hw
    subst hx
    have hk := kn_ix (t := t) hp (show i < 16 by omega)
    have hk2 := kn_bd (t * 96 + p * 16 + i)
    have hrd := (hB.2.2.2.2.2.1 i (by omega)).2.2
    generalize hN : t * 96 + p * 16 + i = n at hk hk2 hw ⊢
    have e6 : kn n / 6 = i ∧ kn n % 6 = p := by omega
    have hdu : due g n = bts g i p := by
      unfold due
      rw [hk.1, st_ip hp, show (6 * i + p) % 6 = p by omega, decide_eq_true (show g (4 + 2 * p) = ((n / 96 : Nat) : Int) by rw [hk.2]; exact hs), decide_eq_true (show (i : Int) < g 3 by omega)]
      rfl
    have ev : ∀ (rec : JV × Int32 → Option (JV)), f_X3_seatPupils_b2 vS (I (p : Int)) (fun vT_2 x2_2 => rec (vT_2, x2_2)) w (I (i : Int)) = (if bts g i p then (if rd g (kn n) then (f_X3_seatInRoom w vS (I (i : Int)) (I (p : Int))).bind (fun q7 => rec (q7, I ((i + 1 : Nat) : Int))) else (f_X3_seatAtDesk w vS (I (i : Int)) (I (p : Int))).bind (fun q6 => rec (q6, I ((i + 1 : Nat) : Int)))) else rec (w, I ((i + 1 : Nat) : Int))) := by
      intro rec
      unfold f_X3_seatPupils_b2
      rw [hS.2.2.2.2.1, ← hn.2, k_le (by omega) (by omega), if_neg (by omega), p_sits hS hB (by omega) hp, one_add]
      simp only [Option.bind_some]
      rw [ite_B1, gd_t (inb_k (by omega) (by omega)), I_k (by omega), (hS.2.2.1 i (by omega)).2.2, show (if I (g (18 + 3 * i)) = 0 then (f_X3_seatAtDesk w vS (I (i : Int)) (I (p : Int))).bind (fun q6 => rec (q6, I ((i + 1 : Nat) : Int))) else (f_X3_seatInRoom w vS (I (i : Int)) (I (p : Int))).bind (fun q7 => rec (q7, I ((i + 1 : Nat) : Int)))) = _ from ite_eq (a := g (18 + 3 * i)) (b := 0) (rng_of (by omega) (by omega)) (rng_of (by omega) (by omega))]
      unfold bts rd
      rw [e6.1]
      cases bt (g (16 + 3 * i)) p
      · rfl
      · rw [if_pos rfl, if_pos rfl]
        by_cases c : g (18 + 3 * i) = 0
        · rw [if_pos c, show (g (18 + 3 * i) == 1) = false by rw [c]; rfl]
          rfl
        · rw [if_neg c, show (g (18 + 3 * i) == 1) = true by simp; omega]
          rfl
    have hz1 : zN g (n + 1) = if due g n then zset (zN g n) (kn n) (plc g (zN g n) (kn n)) else zN g n := rfl
    have hu1 : unN g (n + 1) = unN g n + if due g n then m6 (plc g (zN g n) (kn n)) else 0 := rfl
    have hr1 : urN g (n + 1) = urN g n + if due g n && rd g (kn n) then m6 (plc g (zN g n) (kn n)) else 0 := rfl
    have en1 : t * 96 + p * 16 + (i + 1) = n + 1 := by omega
    by_cases cb : bts g i p = true
    · have hd : due g n = true := by rw [hdu]; exact cb
      have hfree := zN_free hd
      have hpast : ∀ o : Nat, o < 96 → zN g n o ≠ -6 → bk g o ≤ bk g (kn n) := fun o _ h => zN_past hd h
      by_cases cr : rd g (kn n) = true
      · obtain ⟨w', hw1, hw2⟩ := p_seatInRoom hS hB hw hk2.1 hfree hpast
        rw [e6.1, e6.2] at hw1
        refine ⟨(w', I ((i + 1 : Nat) : Int)), ⟨rfl, ?_⟩, fun _ rec => ?_⟩
        · rw [en1]
          unfold TN
          rw [hz1, hu1, hr1, hd, cr, if_pos rfl, if_pos rfl, show (true && true) = true from rfl, if_pos rfl, show plc g (zN g n) (kn n) = roomS g (zN g n) (kn n) by unfold plc; rw [if_pos cr]]
          exact hw2
        · refine (ev rec).trans ?_
          rw [if_pos cb, if_pos cr, hw1]
          rfl
      · obtain ⟨w', hw1, hw2⟩ := p_seatAtDesk hS hB hw hk2.1 hfree hpast
        rw [e6.1, e6.2] at hw1
        refine ⟨(w', I ((i + 1 : Nat) : Int)), ⟨rfl, ?_⟩, fun _ rec => ?_⟩
        · rw [en1]
          unfold TN
          rw [hz1, hu1, hr1, hd, show rd g (kn n) = false by simpa using cr, if_pos rfl, if_pos rfl, show (true && false) = false from rfl, if_neg Bool.false_ne_true, show plc g (zN g n) (kn n) = deskS g (zN g n) (kn n) by unfold plc; rw [if_neg cr]]
          exact hw2
        · refine (ev rec).trans ?_
          rw [if_pos cb, if_neg cr, hw1]
          rfl
    · have hd : due g n = false := by rw [hdu]; simpa using cb
      refine ⟨(w, I ((i + 1 : Nat) : Int)), ⟨rfl, ?_⟩, fun _ rec => ?_⟩
      · rw [en1]
        unfold TN
        rw [hz1, hu1, hr1, hd]
        exact hw
      · refine (ev rec).trans ?_
        rw [if_neg cb]
  · obtain ⟨w, x⟩ := a
    obtain ⟨hx, hw⟩ := ha
    dsimp only at hx hw ⊢
    subst hx
    unfold f_X3_seatPupils_b2
    rw [hS.2.2.2.2.1, ← hn.2, k_le (by omega) (by omega), if_pos (by omega)]
  · obtain ⟨h1, h2⟩ := h12
    refine ⟨a'.1, h2 (), ?_⟩
    have h3 := zN_skip (g := g) (a := t * 96 + p * 16 + np g) (16 - np g) (fun m ha hb => by
      have hk := kn_ix (t := t) hp (show m - (t * 96 + p * 16) < 16 by omega)
      rw [show t * 96 + p * 16 + (m - (t * 96 + p * 16)) = m by omega] at hk
      unfold due
      rw [hk.1, st_ip hp, decide_eq_false (show ¬ ((m - (t * 96 + p * 16) : Nat) : Int) < g 3 by omega), Bool.false_and, Bool.and_false])
    rw [show t * 96 + p * 16 + np g + (16 - np g) = t * 96 + (p + 1) * 16 by omega] at h3
    unfold TN
    rw [h3.1, h3.2.1, h3.2.2]
    exact h1.2
