-- @deps 28.bits 29.frame 30.names 31.laws 32.days
/-! a day: boarding -/
/-- the rules under which days go by -/
def SG (c m : g_M) (b room k : Nat) : Prop :=
  b ≤ 1 ∧ room ≤ 99 ∧ k ≤ 5 ∧ c.1 53 0 = nI room ∧ m.1 0 53 = nI k ∧
  ((k = 3 ∧ room = 99) ∨ (k ≠ 3 ∧ m.1 0 55 = -1 ∧ m.1 2 5 = nI room) ∨ (k ≠ 3 ∧ ¬ m.1 0 55 = -1 ∧ m.1 0 55 = nI room)) ∧
  c.1 53 1 = (if k = 4 then nI 1 else nI 0) ∧
  ((k = 2 ∧ c.1 53 2 = m.1 0 54) ∨ (k ≠ 2 ∧ c.1 53 2 = -1)) ∧
  c.1 53 5 = (if k = 1 then nI 2 else if b = 0 then nI 1 else nI 0)
theorem SG_fr {c m c' m' : g_M} {b room k t f : Nat} (h : SG c m b room k) (ht : isS t) (hc : fcD c c' t) (hm : fmD m m' f) : SG c' m' b room k := by
  have hl := isS_le ht
  have e0 : c'.1 53 0 = c.1 53 0 := hc.2 53 0 (by omega) (by omega) (by omega)
  have e1 : c'.1 53 1 = c.1 53 1 := hc.2 53 1 (by omega) (by omega) (by omega)
  have e2 : c'.1 53 2 = c.1 53 2 := hc.2 53 2 (by omega) (by omega) (by omega)
  have e5 : c'.1 53 5 = c.1 53 5 := hc.2 53 5 (by omega) (by omega) (by omega)
  have q : ∀ j, j ≠ 38 → j ≠ 56 → m'.1 0 j = m.1 0 j := fun j h1 h2 => hm.2 0 j (by omega) (fun z => by have := z.1; omega)
  have q2 : m'.1 2 = m.1 2 := hm.two (by omega) (by omega)
  unfold SG at h ⊢
  rw [e0, e1, e2, e5, q 53 (by omega) (by omega), q 54 (by omega) (by omega), q 55 (by omega) (by omega), q2]
  exact h
section B
variable {F : Nat} {c0 m0 c m : g_M} {T t f : Nat} {A : Nat → Bool}
theorem DY_aboard (h : DY c0 m0 c m T t f A) {i : Nat} (hi : i < 25) (ha : A i = false) : DY c0 m0 (g_sI (g_sI c 54 i (nI 1)) 53 7 (c.1 53 7 + nI 1)) (g_sI m 0 56 (m.1 0 56 ||| (nI 1 <<< (nI i &&& 31)))) T t f (fun j => A j || decide (j = i)) := by
  obtain ⟨h1, h2, h3, h4, h5⟩ := h
  have ht := isS_le h1.2.1
  have hlt := isTS h1.1 h1.2.1
  refine ⟨TS_fr h1 rfl (fun o h1 h2 => by rw [sI_o (by omega), sI_o (by omega)]) (fun o k h1 h2 => by rw [sI_o (by omega), sI_o (by omega)]) (fun o h1 h2 => sI_o (by omega)) (fun o k h1 h2 => by rw [sI_o (by omega)]), h2, ⟨fun j hj => ?_, ?_, ?_⟩, (h4.sI (by omega)).sI (by omega), h5.sI (by omega)⟩
  · rw [sI_o (by omega), sI_at]
    by_cases e : j = i
    · rw [if_pos e, if_pos (by simp [e])]
    · rw [if_neg e, h3.1 j hj]; simp [e]
  · rw [sI_eq, h3.2.1, bits_set A (by omega) hi]
  · rw [sI_eq, h3.2.2, nI_add, cnt_set A hi ha]
theorem and1 {d : Nat} (hd : d ≤ 10000) : nI d &&& nI 1 = nI (d % 2) := by
  rw [pk_andN (by omega) 1 (by decide)]
theorem rem2 {d : Nat} (hd : d ≤ 10000) : nI d - nI d / nI 2 * nI 2 = nI (d % 2) := pk_rem (by omega) (by omega) (by omega)
/-- one sending -/
theorem d_board (hF : 5000 < F) (h : DY c0 m0 c m T t f A) {b room k : Nat} (hS : SG c m b room k) {n left : Nat} (hn : n < vl m 27 f) (hl : left ≤ 99) :
    ∃ left' c' m' A', (∀ sf, f0_fillBoat_b7_body F sf (nI left) (nI n) c = sf (nI left') (nI (n + 1)) c') ∧ (∀ sf, f11_loads_b37_body F (nI f) sf (nI left) (nI n) m = sf (nI left') (nI (n + 1)) m') ∧ DY c0 m0 c' m' T t f A' ∧ left' ≤ 99 ∧ m'.1 27 = m.1 27 ∧ m'.1 24 = m.1 24 := by
  have hTS := h.1
  have hA := h.2.1
  have hB := h.2.2.1
  obtain ⟨hT, ht, hf, hp0, hW, hR, hWS, hRS⟩ := id hTS
  obtain ⟨⟨⟨vP, bP⟩, ⟨vS, bS⟩, ⟨vD, bD⟩, ⟨vN, bN⟩, ⟨vW, bW⟩, ⟨vRoom, bRoom⟩, bRoom1, ⟨vStorm, bStorm⟩, ⟨vSeed, bSeed⟩, ⟨vK, bK⟩⟩, wPence, wSort, wDeed, wSend, wWant, wLaw⟩ := id hW
  obtain ⟨⟨⟨vDay, bDay⟩, ⟨vLast, bLast⟩, ⟨vSends, bSends⟩⟩, sPence, sHL, sPerm1, sPerm2, sSend, sWant, sOwn⟩ := id hWS
  obtain ⟨rCnt, rMan, rSort, rDeed, ⟨rT6, rT8, rT10, rT11, rT12, rT93⟩, rSent, rWanted, rLaw, rCode⟩ := id hR
  obtain ⟨⟨eDay, eLast, eStorms, eSends⟩, ePence, eHL, eSend, eWant⟩ := id hRS
  have e0 := rCnt 0 (by omega)
  have e1 := rCnt 1 (by omega)
  have e2 := rCnt 2 (by omega)
  have gd := fun {α : Type} {k : Nat → Option α} => g_drT (k := k) hp0 hT
  have gt := fun {α : Type} {k : Nat → Option α} => g_drT (k := k) hA.2 hT
  have gs := fun {α : Type} {k : Nat → Option α} => g_drS (k := k) hA.1 ht
  obtain ⟨⟨v32, b32⟩, l32, ⟨v33, b33⟩, l33, ⟨v34, b34⟩, ⟨v35, b35⟩⟩ := sSend n hn
  obtain ⟨r0, r1, r2, r3⟩ := eSend n hn
  generalize hp : vl m 32 (12 * f + n) = p at *
  generalize hs : vl m 33 (12 * f + n) = s at *
  have a0 : f7_sendingAt F t (nI n) (nI 0) c = some (nI p) := by rw [q_sendingAt hTS (by omega) (by omega)]; show some (c.1 (t + 4) (4 * n)) = _; rw [r0]; exact congrArg some v32
  have a1 : f7_sendingAt F t (nI n) (nI 1) c = some (nI s) := by rw [q_sendingAt hTS (by omega) (by omega), r1]; exact congrArg some v33
  have a2 := q_isDue (F := F) hTS hn
  have a3 := r_isDue (F := F) hWS hf (n := n) (by omega)
  obtain ⟨⟨vz, bz⟩, bz1, ⟨vr, br⟩⟩ := wSort s l33
  have q4 : c.1 (T + 4) s = nI (vl m 6 s) := by rw [(rSort s l33).2.1]; exact vz
  have n10 : ¬ nI 1 = nI 0 := by decide
  obtain ⟨S1, S2, S3, S4, S5, S6, S7, S8, S9⟩ := id hS
  -- both go on as they were
  have skip : (∀ sf, f0_fillBoat_b7_body F sf (nI left) (nI n) c = sf (nI left) (nI (n + 1)) c) → (∀ sf, f11_loads_b37_body F (nI f) sf (nI left) (nI n) m = sf (nI left) (nI (n + 1)) m) → ∃ left' c' m' A', (∀ sf, f0_fillBoat_b7_body F sf (nI left) (nI n) c = sf (nI left') (nI (n + 1)) c') ∧ (∀ sf, f11_loads_b37_body F (nI f) sf (nI left) (nI n) m = sf (nI left') (nI (n + 1)) m') ∧ DY c0 m0 c' m' T t f A' ∧ left' ≤ 99 ∧ m'.1 27 = m.1 27 ∧ m'.1 24 = m.1 24 :=
    fun x y => ⟨left, c, m, A, x, y, h, hl, rfl, rfl⟩
  by_cases hdue : isDueP m f n = true
  · rw [if_pos hdue] at a2 a3
    by_cases hsil : k = 2 ∧ nI p = m.1 0 54
    · -- silent
      have x1 : nI p = c.1 53 2 := by
        rcases S8 with ⟨_, e⟩ | ⟨e, _⟩
        · rw [e]; exact hsil.2
        · exact absurd hsil.1 e
      have x2 : m.1 0 53 = nI 2 := by rw [S5, hsil.1]
      have x1' : (nI p = c.1 53 2) = True := eq_true x1
      have x3' : (nI p = m.1 0 54) = True := eq_true hsil.2
      refine skip (fun sf => ?_) (fun sf => ?_)
      · simp (disch := omega) only [g_let, g_bs, g_l0, g_l1, g_l2, g_l3, g_l4, g_l5, g_l6, g_l7, g_l8, g_l9, g_l10, g_l11, g_l12, g_l15, g_l20, g_l24, g_l25, g_l30, g_l40, g_l99, g_l100, g_ckN, g_clN, g_ltN, g_leN, g_eqN, pk_mul, nI_add, if_true, if_false, Nat.reduceLT, Nat.reduceLeDiff, Nat.reduceEqDiff, Nat.lt_irrefl, f0_fillBoat_b7_body, f0_fillBoat_b105, gs, gt, eSends, vSends, hn, a0, a1, a2, n10, x1']
      · simp (disch := omega) only [g_let, g_bs, g_l0, g_l1, g_l2, g_l3, g_l4, g_l5, g_l6, g_l7, g_l8, g_l9, g_l10, g_l11, g_l12, g_l15, g_l20, g_l24, g_l25, g_l30, g_l40, g_l99, g_l100, g_ckN, g_clN, g_ltN, g_leN, g_eqN, pk_mul, nI_add, if_true, if_false, Nat.reduceLT, Nat.reduceLeDiff, Nat.reduceEqDiff, Nat.lt_irrefl, f11_loads_b37_body, f11_loads_b229, vSends, hn, v32, v33, a3, n10, x2, x3']
    · have y1 : ¬ nI p = c.1 53 2 := by
        intro z
        rcases S8 with ⟨e, e2⟩ | ⟨_, e2⟩
        · exact hsil ⟨e, by rw [z, e2]⟩
        · rw [e2] at z
          have : ∀ p : Nat, p < 5 → ¬ nI p = (-1 : Int32) := by
            intro p hp
            rcases (show p = 0 ∨ p = 1 ∨ p = 2 ∨ p = 3 ∨ p = 4 by omega) with rfl | rfl | rfl | rfl | rfl <;> decide
          exact this p (by omega) z
      -- so far the reference
      have eM : ∀ sf, f11_loads_b37_body F (nI f) sf (nI left) (nI n) m = f11_loads_b99 F (nI f) sf (nI left) (nI n) (nI p) (nI s) m := by
        intro sf
        by_cases z : k = 2
        · have x2 : m.1 0 53 = nI 2 := by rw [S5, z]
          have x3 : ¬ nI p = m.1 0 54 := fun e => hsil ⟨z, e⟩
          simp (disch := omega) only [g_let, g_bs, g_l0, g_l1, g_l2, g_l3, g_l4, g_l5, g_l6, g_l7, g_l8, g_l9, g_l10, g_l11, g_l12, g_l15, g_l20, g_l24, g_l25, g_l30, g_l40, g_l99, g_l100, g_ckN, g_clN, g_ltN, g_leN, g_eqN, pk_mul, nI_add, if_true, if_false, Nat.reduceLT, Nat.reduceLeDiff, Nat.reduceEqDiff, Nat.lt_irrefl, f11_loads_b37_body, vSends, hn, v32, v33, a3, n10, x2, x3]
        · have x2 : ¬ nI k = nI 2 := fun e => z ((g_eqN (by omega) (by omega)).mp e)
          simp (disch := omega) only [g_let, g_bs, g_l0, g_l1, g_l2, g_l3, g_l4, g_l5, g_l6, g_l7, g_l8, g_l9, g_l10, g_l11, g_l12, g_l15, g_l20, g_l24, g_l25, g_l30, g_l40, g_l99, g_l100, g_ckN, g_clN, g_ltN, g_leN, g_eqN, pk_mul, nI_add, if_true, if_false, Nat.reduceLT, Nat.reduceLeDiff, Nat.reduceEqDiff, Nat.lt_irrefl, f11_loads_b37_body, vSends, hn, v32, v33, a3, n10, S5, z]
      have hps : 5 * p + s < 25 := by omega
      have e30 := (sHL (5 * p + s) hps).2
      obtain ⟨v30, b30⟩ := e30
      have q30 : c.1 (t + 3) (5 * p + s) = nI (vl m 30 (25 * f + (5 * p + s))) := by rw [(eHL (5 * p + s) hps).2]; exact v30
      have hb54 := hB.1 (5 * p + s) hps
      have hbit := shr_bits A (n := 25) (k := 5 * p + s) (by omega) (by omega)
      rw [show decide (5 * p + s < 25) = true from decide_eq_true hps, Bool.true_and, ← hB.2.1] at hbit
      have ix : (25 * f + 5 * p) + s = 25 * f + (5 * p + s) := by omega
      have hd1 := and1 bDay
      have hd2 := rem2 bDay
      -- so far the class
      by_cases hz : vl m 6 s ≤ left
      · have eC : ∀ sf, f0_fillBoat_b7_body F sf (nI left) (nI n) c = (f0_boards F (nI p) (nI s) c).bind (fun r15 => if r15.1 = (0 : Int32) then f0_fillBoat_b105 F sf (nI left) (nI n) r15.2 else (g_dr yC 69 (r15.2.2.2 53 4) 9 (fun q17 => g_ck (nI s) 5 (g_let ((nI left - (r15.2.1 (q17 + 4) (nI s).toNatClampNeg))) (fun x19 => g_dr yC 69 (r15.2.2.2 53 3) 7 (fun q20 => (f7_setSending F q20 (nI n) (3 : Int32) (1 : Int32) r15.2).bind (fun r21 => f0_fillBoat_b105 F sf x19 (nI n) r21))))))) := by
          intro sf
          simp (disch := omega) only [g_let, g_bs, g_l0, g_l1, g_l2, g_l3, g_l4, g_l5, g_l6, g_l7, g_l8, g_l9, g_l10, g_l11, g_l12, g_l15, g_l20, g_l24, g_l25, g_l30, g_l40, g_l99, g_l100, g_ckN, g_clN, g_ltN, g_leN, g_eqN, pk_mul, nI_add, if_true, if_false, Nat.reduceLT, Nat.reduceLeDiff, Nat.reduceEqDiff, Nat.lt_irrefl, f0_fillBoat_b7_body, gs, gt, eSends, vSends, hn, a0, a1, a2, n10, y1, q4, hz]
        by_cases hat : vl m 30 (25 * f + (5 * p + s)) = vl m 24 f % 2
        · by_cases hab : A (5 * p + s) = true
          · -- aboard already
            rw [if_pos hab] at hb54 hbit
            refine skip (fun sf => ?_) (fun sf => ?_)
            · rw [eC]
              simp (disch := omega) only [g_let, g_bs, g_l0, g_l1, g_l2, g_l3, g_l4, g_l5, g_l6, g_l7, g_l8, g_l9, g_l10, g_l11, g_l12, g_l15, g_l20, g_l24, g_l25, g_l30, g_l40, g_l99, g_l100, g_ckN, g_clN, g_ltN, g_leN, g_eqN, pk_mul, nI_add, if_true, if_false, Nat.reduceLT, Nat.reduceLeDiff, Nat.reduceEqDiff, Nat.lt_irrefl, f0_boards, f0_fillBoat_b105, gs, Nat.mul_comm p 5, q30, eDay, vDay, hd1, hat, hb54, n10]
            · rw [eM]
              simp (disch := omega) only [g_let, g_bs, g_l0, g_l1, g_l2, g_l3, g_l4, g_l5, g_l6, g_l7, g_l8, g_l9, g_l10, g_l11, g_l12, g_l15, g_l20, g_l24, g_l25, g_l30, g_l40, g_l99, g_l100, g_ckN, g_clN, g_ltN, g_leN, g_eqN, pk_mul, nI_add, if_true, if_false, Nat.reduceLT, Nat.reduceLeDiff, Nat.reduceEqDiff, Nat.lt_irrefl, f11_loads_b99, f11_isAtBoat, f11_loads_b229, ix, v30, vDay, hd2, hat, hbit, n10]
          · have hab' : A (5 * p + s) = false := by simpa using hab
            rw [if_neg hab] at hb54 hbit
            have n01 : ¬ nI 0 = nI 1 := by decide
            have hz' : ¬ left < vl m 6 s := by omega
            -- the fare
            have fare : ∃ c1 m1 w, (w ≤ 999) ∧ flC c c1 ∧ flM m m1 ∧ f0_boards F (nI p) (nI s) c = f0_boards_b67 F (nI p) (nI s) (nI (5 * p + s)) (nI w) c1 ∧ f11_fareOf F (nI f) (nI p) (nI s) m = some (nI w, m1) := by
              by_cases hfr : k = 4
              · have x1 : c.1 53 1 = nI 1 := by rw [S7, if_pos hfr]
                have x2 : m.1 0 53 = nI 4 := by rw [S5, hfr]
                refine ⟨c, m, 0, by omega, flC.rfl' c, flM.rfl' m, ?_, ?_⟩
                · simp (disch := omega) only [g_let, g_bs, g_l0, g_l1, g_l2, g_l3, g_l4, g_l5, g_l6, g_l7, g_l8, g_l9, g_l10, g_l11, g_l12, g_l15, g_l20, g_l24, g_l25, g_l30, g_l40, g_l99, g_l100, g_ckN, g_clN, g_ltN, g_leN, g_eqN, pk_mul, nI_add, if_true, if_false, Nat.reduceLT, Nat.reduceLeDiff, Nat.reduceEqDiff, Nat.lt_irrefl, f0_boards, gs, Nat.mul_comm p 5, q30, eDay, vDay, hd1, hat, hb54, x1, n10]
                · simp (disch := omega) only [g_let, g_bs, g_l0, g_l1, g_l2, g_l3, g_l4, g_l5, g_l6, g_l7, g_l8, g_l9, g_l10, g_l11, g_l12, g_l15, g_l20, g_l24, g_l25, g_l30, g_l40, g_l99, g_l100, g_ckN, g_clN, g_ltN, g_leN, g_eqN, pk_mul, nI_add, if_true, if_false, Nat.reduceLT, Nat.reduceLeDiff, Nat.reduceEqDiff, Nat.lt_irrefl, f11_fareOf, x2]
              · have x1 : c.1 53 1 = nI 0 := by rw [S7, if_neg hfr]
                obtain ⟨c1, v, m1, g1, g2, g3, g4, g5, g6⟩ := d_fare hF hTS hA hB l32 l33
                have hW1 : WT m1 := (TS_fl hTS g2 g5).2.2.2.2.1
                obtain ⟨w, m2, w1, w2, w3, w4⟩ := LW_within (F := F) hW1 (by omega) g6 (o := vl m 7 s) (by omega) c1
                refine ⟨c1, m2, w, w1, g2, g5.trans w4, ?_, ?_⟩
                · have gt1 := fun {α : Type} {k : Nat → Option α} => g_drT (k := k) (AT_fl hA g2).2 hT
                  have q5 : c1.1 (T + 5) s = nI (vl m 7 s) := by rw [g2.1, (rSort s l33).2.2]; exact vr
                  simp (disch := omega) only [g_let, g_bs, g_l0, g_l1, g_l2, g_l3, g_l4, g_l5, g_l6, g_l7, g_l8, g_l9, g_l10, g_l11, g_l12, g_l15, g_l20, g_l24, g_l25, g_l30, g_l40, g_l99, g_l100, g_ckN, g_clN, g_ltN, g_leN, g_eqN, pk_mul, nI_add, if_true, if_false, Nat.reduceLT, Nat.reduceLeDiff, Nat.reduceEqDiff, Nat.lt_irrefl, f0_boards, gs, Nat.mul_comm p 5, q30, eDay, vDay, hd1, hat, hb54, x1, g1, gt1, q5, w2]
                · have q7 : m1.1 7 s = nI (vl m 7 s) := by rw [g5.o (by omega)]; exact vr
                  have w3' : f11_within F (nI 0) (999 : Int32) (nI (vl m 7 s)) m1 = some (nI w, m2) := w3
                  have x2 : ¬ nI k = nI 4 := fun e => hfr ((g_eqN (by omega) (by omega)).mp e)
                  simp (disch := omega) only [g_let, g_bs, g_l0, g_l1, g_l2, g_l3, g_l4, g_l5, g_l6, g_l7, g_l8, g_l9, g_l10, g_l11, g_l12, g_l15, g_l20, g_l24, g_l25, g_l30, g_l40, g_l99, g_l100, g_ckN, g_clN, g_ltN, g_leN, g_eqN, pk_mul, nI_add, if_true, if_false, Nat.reduceLT, Nat.reduceLeDiff, Nat.reduceEqDiff, Nat.lt_irrefl, f11_fareOf, S5, hfr, g3, g4, q7, w3']
            obtain ⟨c1, m1, w, w1, g2, g5, g6, g7⟩ := fare
            have h1 := h.fl g2 g5
            obtain ⟨hT1, ht1, hf1, hp1, hW1, hR1, hWS1, hRS1⟩ := id h1.1
            have ev : vl m1 2 0 = vl m 2 0 := by unfold vl; rw [g5.o (by omega)]
            obtain ⟨vp, bp⟩ := hWS1.2.1 p (by rw [ev]; exact l32)
            have ep : c1.1 (t + 1) p = nI (vl m1 28 (5 * f + p)) := by rw [hRS1.2.1 p (by rw [ev]; exact l32)]; exact vp
            have gt1 := fun {α : Type} {k : Nat → Option α} => g_drT (k := k) h1.2.1.2 hT
            have gs1 := fun {α : Type} {k : Nat → Option α} => g_drS (k := k) h1.2.1.1 ht
            have e27 : m1.1 27 = m.1 27 := g5.o (by omega)
            by_cases hpay : vl m1 28 (5 * f + p) < w
            · -- too dear
              refine ⟨left, c1, m1, A, fun sf => ?_, fun sf => ?_, h1, hl, e27, g5.o (by omega)⟩
              · rw [eC, g6]
                simp (disch := omega) only [g_let, g_bs, g_l0, g_l1, g_l2, g_l3, g_l4, g_l5, g_l6, g_l7, g_l8, g_l9, g_l10, g_l11, g_l12, g_l15, g_l20, g_l24, g_l25, g_l30, g_l40, g_l99, g_l100, g_ckN, g_clN, g_ltN, g_leN, g_eqN, pk_mul, nI_add, if_true, if_false, Nat.reduceLT, Nat.reduceLeDiff, Nat.reduceEqDiff, Nat.lt_irrefl, f0_boards_b67, f0_fillBoat_b105, gs1, ep, hpay]
              · rw [eM]
                simp (disch := omega) only [g_let, g_bs, g_l0, g_l1, g_l2, g_l3, g_l4, g_l5, g_l6, g_l7, g_l8, g_l9, g_l10, g_l11, g_l12, g_l15, g_l20, g_l24, g_l25, g_l30, g_l40, g_l99, g_l100, g_ckN, g_clN, g_ltN, g_leN, g_eqN, pk_mul, nI_add, if_true, if_false, Nat.reduceLT, Nat.reduceLeDiff, Nat.reduceEqDiff, Nat.lt_irrefl, f11_loads_b99, f11_isAtBoat, f11_loads_b229, ix, v30, vDay, hd2, hat, hbit, n10, n01, vz, hz', g7, vp, hpay]
            · have hsub : nI (vl m1 28 (5 * f + p)) - nI w = nI (vl m1 28 (5 * f + p) - w) := g_subN (by omega)
              have h2 := DY_pence h1 (p := p) (v := vl m1 28 (5 * f + p) - w) (by rw [ev]; exact l32) (by omega)
              have h3 := DY_aboard h2 hps hab'
              have h4 := DY_how h3 (n := n) (v := 1) (by omega) (by omega)
              have z6 : m1.1 6 s = nI (vl m 6 s) := by rw [g5.o (by omega)]; exact vz
              have z4 : c1.1 (T + 4) s = nI (vl m 6 s) := by rw [g2.1]; exact q4
              have hlt := isTS hT ht
              have hle := isS_le ht
              have hsl : nI left - nI (vl m 6 s) = nI (left - vl m 6 s) := g_subN (by omega)
              refine ⟨left - vl m 6 s, _, _, _, fun sf => ?_, fun sf => ?_, h4, by omega, ?_, ?_⟩
              · rw [eC, g6]
                have z4' : (g_sI (g_sI (g_sI c1 (t + 1) p (nI (vl m1 28 (5 * f + p) - w))) 54 (5 * p + s) (nI 1)) 53 7 ((g_sI (g_sI c1 (t + 1) p (nI (vl m1 28 (5 * f + p) - w))) 54 (5 * p + s) (nI 1)).1 53 7 + nI 1)).1 (T + 4) s = nI (vl m 6 s) := by rw [sI_o (by omega), sI_o (by omega), sI_o (by omega)]; exact z4
                have z7 : (g_sI (g_sI c1 (t + 1) p (nI (vl m1 28 (5 * f + p) - w))) 54 (5 * p + s) (nI 1)).1 53 7 = (g_sI c1 (t + 1) p (nI (vl m1 28 (5 * f + p) - w))).1 53 7 := by rw [sI_o (by omega)]
                rw [z7] at z4'
                unfold f0_boards_b67
                simp (disch := omega) only [g_let, g_bs, g_l0, g_l1, g_l2, g_l3, g_l4, g_l5, g_l6, g_l7, g_l8, g_l9, g_l10, g_l11, g_l12, g_l15, g_l20, g_l24, g_l25, g_l30, g_l40, g_l99, g_l100, g_ckN, g_clN, g_ltN, g_leN, g_eqN, pk_mul, nI_add, if_true, if_false, Nat.reduceLT, Nat.reduceLeDiff, Nat.reduceEqDiff, Nat.lt_irrefl, gs1, ep, hpay, hsub, z7, n10]
                have gt2 := fun {α : Type} {k : Nat → Option α} => g_drT (k := k) h3.2.1.2 hT
                have gs2 := fun {α : Type} {k : Nat → Option α} => g_drS (k := k) h3.2.1.1 ht
                simp (disch := omega) only [g_let, g_bs, g_l0, g_l1, g_l2, g_l3, g_l4, g_l5, g_l6, g_l7, g_l8, g_l9, g_l10, g_l11, g_l12, g_l15, g_l20, g_l24, g_l25, g_l30, g_l40, g_l99, g_l100, g_ckN, g_clN, g_ltN, g_leN, g_eqN, pk_mul, nI_add, if_true, if_false, Nat.reduceLT, Nat.reduceLeDiff, Nat.reduceEqDiff, Nat.lt_irrefl, gt2, gs2, z4', hsl, f7_setSending, f0_fillBoat_b105, Nat.mul_comm n 4]
              · rw [eM]
                have z1 : (g_sI m1 28 (5 * f + p) (nI (vl m1 28 (5 * f + p) - w))).1 6 s = nI (vl m 6 s) := by rw [sI_o (by omega)]; exact z6
                simp (disch := omega) only [g_let, g_bs, g_l0, g_l1, g_l2, g_l3, g_l4, g_l5, g_l6, g_l7, g_l8, g_l9, g_l10, g_l11, g_l12, g_l15, g_l20, g_l24, g_l25, g_l30, g_l40, g_l99, g_l100, g_ckN, g_clN, g_ltN, g_leN, g_eqN, pk_mul, nI_add, if_true, if_false, Nat.reduceLT, Nat.reduceLeDiff, Nat.reduceEqDiff, Nat.lt_irrefl, f11_loads_b99, f11_isAtBoat, f11_loads_b229, ix, v30, vDay, hd2, hat, hbit, n10, n01, vz, hz', g7, vp, hpay, hsub, z1, hsl]
              · rw [sI_o (by omega), sI_o (by omega), sI_o (by omega)]; exact e27
              · rw [sI_o (by omega), sI_o (by omega), sI_o (by omega)]; exact g5.o (by omega)
        · -- not at the boat
          refine skip (fun sf => ?_) (fun sf => ?_)
          · rw [eC]
            simp (disch := omega) only [g_let, g_bs, g_l0, g_l1, g_l2, g_l3, g_l4, g_l5, g_l6, g_l7, g_l8, g_l9, g_l10, g_l11, g_l12, g_l15, g_l20, g_l24, g_l25, g_l30, g_l40, g_l99, g_l100, g_ckN, g_clN, g_ltN, g_leN, g_eqN, pk_mul, nI_add, if_true, if_false, Nat.reduceLT, Nat.reduceLeDiff, Nat.reduceEqDiff, Nat.lt_irrefl, f0_boards, f0_fillBoat_b105, gs, Nat.mul_comm p 5, q30, eDay, vDay, hd1, hat]
          · rw [eM]
            simp (disch := omega) only [g_let, g_bs, g_l0, g_l1, g_l2, g_l3, g_l4, g_l5, g_l6, g_l7, g_l8, g_l9, g_l10, g_l11, g_l12, g_l15, g_l20, g_l24, g_l25, g_l30, g_l40, g_l99, g_l100, g_ckN, g_clN, g_ltN, g_leN, g_eqN, pk_mul, nI_add, if_true, if_false, Nat.reduceLT, Nat.reduceLeDiff, Nat.reduceEqDiff, Nat.lt_irrefl, f11_loads_b99, f11_isAtBoat, f11_loads_b229, ix, v30, vDay, hd2, hat]
      · -- too large
        have hz' : left < vl m 6 s := by omega
        refine skip (fun sf => ?_) (fun sf => ?_)
        · simp (disch := omega) only [g_let, g_bs, g_l0, g_l1, g_l2, g_l3, g_l4, g_l5, g_l6, g_l7, g_l8, g_l9, g_l10, g_l11, g_l12, g_l15, g_l20, g_l24, g_l25, g_l30, g_l40, g_l99, g_l100, g_ckN, g_clN, g_ltN, g_leN, g_eqN, pk_mul, nI_add, if_true, if_false, Nat.reduceLT, Nat.reduceLeDiff, Nat.reduceEqDiff, Nat.lt_irrefl, f0_fillBoat_b7_body, f0_fillBoat_b105, gs, gt, eSends, vSends, hn, a0, a1, a2, n10, y1, q4, hz]
        · rw [eM]
          by_cases hat : vl m 30 (25 * f + (5 * p + s)) = vl m 24 f % 2
          · by_cases hab : A (5 * p + s) = true
            · rw [if_pos hab] at hbit
              simp (disch := omega) only [g_let, g_bs, g_l0, g_l1, g_l2, g_l3, g_l4, g_l5, g_l6, g_l7, g_l8, g_l9, g_l10, g_l11, g_l12, g_l15, g_l20, g_l24, g_l25, g_l30, g_l40, g_l99, g_l100, g_ckN, g_clN, g_ltN, g_leN, g_eqN, pk_mul, nI_add, if_true, if_false, Nat.reduceLT, Nat.reduceLeDiff, Nat.reduceEqDiff, Nat.lt_irrefl, f11_loads_b99, f11_isAtBoat, f11_loads_b229, ix, v30, vDay, hd2, hat, hbit, n10]
            · rw [if_neg hab] at hbit
              have n01 : ¬ nI 0 = nI 1 := by decide
              simp (disch := omega) only [g_let, g_bs, g_l0, g_l1, g_l2, g_l3, g_l4, g_l5, g_l6, g_l7, g_l8, g_l9, g_l10, g_l11, g_l12, g_l15, g_l20, g_l24, g_l25, g_l30, g_l40, g_l99, g_l100, g_ckN, g_clN, g_ltN, g_leN, g_eqN, pk_mul, nI_add, if_true, if_false, Nat.reduceLT, Nat.reduceLeDiff, Nat.reduceEqDiff, Nat.lt_irrefl, f11_loads_b99, f11_isAtBoat, f11_loads_b229, ix, v30, vDay, hd2, hat, hbit, n10, n01, vz, hz']
          · simp (disch := omega) only [g_let, g_bs, g_l0, g_l1, g_l2, g_l3, g_l4, g_l5, g_l6, g_l7, g_l8, g_l9, g_l10, g_l11, g_l12, g_l15, g_l20, g_l24, g_l25, g_l30, g_l40, g_l99, g_l100, g_ckN, g_clN, g_ltN, g_leN, g_eqN, pk_mul, nI_add, if_true, if_false, Nat.reduceLT, Nat.reduceLeDiff, Nat.reduceEqDiff, Nat.lt_irrefl, f11_loads_b99, f11_isAtBoat, f11_loads_b229, ix, v30, vDay, hd2, hat]
  · rw [if_neg hdue] at a2 a3
    refine skip (fun sf => ?_) (fun sf => ?_)
    · simp (disch := omega) only [g_let, g_bs, g_l0, g_l1, g_l2, g_l3, g_l4, g_l5, g_l6, g_l7, g_l8, g_l9, g_l10, g_l11, g_l12, g_l15, g_l20, g_l24, g_l25, g_l30, g_l40, g_l99, g_l100, g_ckN, g_clN, g_ltN, g_leN, g_eqN, pk_mul, nI_add, if_true, if_false, Nat.reduceLT, Nat.reduceLeDiff, Nat.reduceEqDiff, Nat.lt_irrefl, f0_fillBoat_b7_body, f0_fillBoat_b105, gs, eSends, vSends, hn, a0, a1, a2]
    · simp (disch := omega) only [g_let, g_bs, g_l0, g_l1, g_l2, g_l3, g_l4, g_l5, g_l6, g_l7, g_l8, g_l9, g_l10, g_l11, g_l12, g_l15, g_l20, g_l24, g_l25, g_l30, g_l40, g_l99, g_l100, g_ckN, g_clN, g_ltN, g_leN, g_eqN, pk_mul, nI_add, if_true, if_false, Nat.reduceLT, Nat.reduceLeDiff, Nat.reduceEqDiff, Nat.lt_irrefl, f11_loads_b37_body, f11_loads_b229, vSends, hn, a3]
end B
