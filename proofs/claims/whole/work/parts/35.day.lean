/-! a day: mixing, landing, the whole -/
section Y
variable {F : Nat} {c0 m0 c m : g_M} {T t f : Nat} {A : Nat → Bool}
theorem bit_cell (hB : AB c m A) {i : Nat} (hi : i < 25) : c.1 54 i = (if A i = true then nI 1 else nI 0) ∧ ((m.1 0 56 >>> (nI i &&& 31)) &&& nI 1) = (if A i = true then nI 1 else nI 0) := by
  refine ⟨hB.1 i hi, ?_⟩
  rw [hB.2.1, shr_bits A (by omega) (by omega), show decide (i < 25) = true from decide_eq_true hi, Bool.true_and]
/-- two of a sort -/
theorem d_two (hF : 5000 < F) (h : DY c0 m0 c m T t f A) {s : Nat} (hs : s < vl m 2 1) : ∃ c' m', f0_mixTwo F (nI s) c = some c' ∧ f11_mixes_b41 F (nI f) (nI s) m = some m' ∧ DY c0 m0 c' m' T t f A ∧ m'.1 24 = m.1 24 := by
  have hTS := h.1
  have hA := h.2.1
  have hB := h.2.2.1
  obtain ⟨hT, ht, hf, hp0, hW, hR, hWS, hRS⟩ := id hTS
  obtain ⟨⟨⟨vP, bP⟩, ⟨vS, bS⟩, ⟨vD, bD⟩, ⟨vN, bN⟩, ⟨vW, bW⟩, ⟨vRoom, bRoom⟩, bRoom1, ⟨vStorm, bStorm⟩, ⟨vSeed, bSeed⟩, ⟨vK, bK⟩⟩, wPence, wSort, wDeed, wSend, wWant, wLaw⟩ := id hW
  obtain ⟨⟨⟨vDay, bDay⟩, ⟨vLast, bLast⟩, ⟨vSends, bSends⟩⟩, sPence, sHL, sPerm1, sPerm2, sSend, sWant, sOwn⟩ := id hWS
  obtain ⟨rCnt, rMan, rSort, rDeed, ⟨rT6, rT8, rT10, rT11, rT12, rT93⟩, rSent, rWanted, rLaw, rCode⟩ := id hR
  obtain ⟨⟨eDay, eLast, eStorms, eSends⟩, ePence, eHL, eSend, eWant⟩ := id hRS
  have e0 := rCnt 0 (by omega)
  have e1 := rCnt 1 (by omega)
  have e2 := rCnt 2 (by omega)
  have gd := fun {α : Type} {k : Nat → Option α} => g_drT (k := k) hp0 hT
  have gt := fun {α : Type} {k : Nat → Option α} => g_drT (k := k) hA.2 hT
  have gs := fun {α : Type} {k : Nat → Option α} => g_drS (k := k) hA.1 ht
  unfold f0_mixTwo f11_mixes_b41 f0_mixTwo_b4 f11_mixes_b46
  have n10 : ¬ nI 1 = nI 0 := by decide
  have main := g_for2x
    (b := fun sf (x : Int32 × Int32 × g_M) => f0_mixTwo_b4_body F (nI s) (fun v2 v3 mem => sf (v2, v3, mem)) x.1 x.2.1 x.2.2)
    (b' := fun sf (x : Int32 × Int32 × g_M) => f11_mixes_b46_body F (nI f) (nI s) (fun v3 v4 mem => sf (v3, v4, mem)) x.1 x.2.1 x.2.2)
    (fun i x u => x = (u.1, nI i, c) ∧ u.2.1 = nI i ∧ u.2.2 = m ∧ (u.1 = -1 ∨ ∃ p, p < i ∧ u.1 = nI p))
    (vl m 2 0)
    (fun x y => ∃ c' m', x = some c' ∧ y = some m' ∧ DY c0 m0 c' m' T t f A ∧ m'.1 24 = m.1 24)
    ?step ?fin (s := (-1, 0, c)) (t := (-1, 0, m)) ⟨rfl, rfl, rfl, Or.inl rfl⟩ (F := F) (by omega)
  case fin =>
    rintro x ⟨u1, u2, m1⟩ ⟨h1, h2, h3, h4⟩
    simp only at h1 h2 h3 h4
    subst h1; subst h2; subst h3
    refine ⟨some c, some m1, ⟨c, m1, rfl, rfl, h, rfl⟩, fun sf => ?_, fun sf => ?_⟩
    · simp (disch := omega) only [g_let, g_bs, g_l0, g_l1, g_l2, g_l3, g_l4, g_l5, g_l6, g_l7, g_l8, g_l9, g_l10, g_l11, g_l12, g_l15, g_l20, g_l24, g_l25, g_l30, g_l40, g_l99, g_l100, g_ckN, g_clN, g_ltN, g_leN, g_eqN, pk_mul, nI_add, if_true, if_false, Nat.reduceLT, Nat.reduceLeDiff, Nat.reduceEqDiff, Nat.lt_irrefl, f0_mixTwo_b4_body, gt, e0, vP]
    · simp (disch := omega) only [g_let, g_bs, g_l0, g_l1, g_l2, g_l3, g_l4, g_l5, g_l6, g_l7, g_l8, g_l9, g_l10, g_l11, g_l12, g_l15, g_l20, g_l24, g_l25, g_l30, g_l40, g_l99, g_l100, g_ckN, g_clN, g_ltN, g_leN, g_eqN, pk_mul, nI_add, if_true, if_false, Nat.reduceLT, Nat.reduceLeDiff, Nat.reduceEqDiff, Nat.lt_irrefl, f11_mixes_b46_body, vP]
  case step =>
    rintro i x ⟨u1, u2, m1⟩ hi ⟨h1, h2, h3, h4⟩
    simp only at h1 h2 h3 h4
    subst h1; subst h2; subst h3
    obtain ⟨k1, k2⟩ := bit_cell hB (i := 5 * i + s) (by omega)
    by_cases ha : A (5 * i + s) = true
    · rw [if_pos ha] at k1 k2
      rcases h4 with h4 | ⟨p, hp, h4⟩
      · -- the first
        left
        have h4' : (u1 = -nI 1) = True := eq_true h4
        refine ⟨(nI i, nI (i + 1), c), (nI i, nI (i + 1), m1), ⟨rfl, rfl, rfl, Or.inr ⟨i, by omega, rfl⟩⟩, fun sf => ?_, fun sf => ?_⟩
        · simp (disch := omega) only [g_let, g_bs, g_l0, g_l1, g_l2, g_l3, g_l4, g_l5, g_l6, g_l7, g_l8, g_l9, g_l10, g_l11, g_l12, g_l15, g_l20, g_l24, g_l25, g_l30, g_l40, g_l99, g_l100, g_ckN, g_clN, g_ltN, g_leN, g_eqN, pk_mul, nI_add, if_true, if_false, Nat.reduceLT, Nat.reduceLeDiff, Nat.reduceEqDiff, Nat.lt_irrefl, f0_mixTwo_b4_body, f0_mixTwo_b48, gt, e0, vP, hi, Nat.mul_comm i 5, k1, n10, h4']
        · simp (disch := omega) only [g_let, g_bs, g_l0, g_l1, g_l2, g_l3, g_l4, g_l5, g_l6, g_l7, g_l8, g_l9, g_l10, g_l11, g_l12, g_l15, g_l20, g_l24, g_l25, g_l30, g_l40, g_l99, g_l100, g_ckN, g_clN, g_ltN, g_leN, g_eqN, pk_mul, nI_add, if_true, if_false, Nat.reduceLT, Nat.reduceLeDiff, Nat.reduceEqDiff, Nat.lt_irrefl, f11_mixes_b46_body, f11_mixes_b145, vP, hi, k2, n10, h4']
      · -- the second
        right
        have h5 : ¬ u1 = -nI 1 := by
          rw [h4]
          have : ∀ p : Nat, p < 5 → ¬ nI p = (-1 : Int32) := by
            intro p hp
            rcases (show p = 0 ∨ p = 1 ∨ p = 2 ∨ p = 3 ∨ p = 4 by omega) with rfl | rfl | rfl | rfl | rfl <;> decide
          exact this p (by omega)
        have h6 := DY_hold h (p := p) (q := i) (s := s) (by omega) hi hs
        subst h4
        have ix1 : (25 * f + 5 * p) + s = 25 * f + (5 * p + s) := by omega
        have ix2 : (25 * f + 5 * i) + s = 25 * f + (5 * i + s) := by omega
        refine ⟨_, _, ⟨_, _, rfl, rfl, h6, by rw [sI_o (by omega), sI_o (by omega)]⟩, fun sf => ?_, fun sf => ?_⟩
        · simp (disch := omega) only [g_let, g_bs, g_l0, g_l1, g_l2, g_l3, g_l4, g_l5, g_l6, g_l7, g_l8, g_l9, g_l10, g_l11, g_l12, g_l15, g_l20, g_l24, g_l25, g_l30, g_l40, g_l99, g_l100, g_ckN, g_clN, g_ltN, g_leN, g_eqN, pk_mul, nI_add, if_true, if_false, Nat.reduceLT, Nat.reduceLeDiff, Nat.reduceEqDiff, Nat.lt_irrefl, f0_mixTwo_b4_body, gt, gs, e0, vP, hi, Nat.mul_comm i 5, Nat.mul_comm p 5, k1, n10, h5, f7_exchange]
        · simp (disch := omega) only [g_let, g_bs, g_l0, g_l1, g_l2, g_l3, g_l4, g_l5, g_l6, g_l7, g_l8, g_l9, g_l10, g_l11, g_l12, g_l15, g_l20, g_l24, g_l25, g_l30, g_l40, g_l99, g_l100, g_ckN, g_clN, g_ltN, g_leN, g_eqN, pk_mul, nI_add, if_true, if_false, Nat.reduceLT, Nat.reduceLeDiff, Nat.reduceEqDiff, Nat.lt_irrefl, f11_mixes_b46_body, vP, hi, k2, n10, h5, ix1, ix2]
    · rw [if_neg ha] at k1 k2
      left
      refine ⟨(u1, nI (i + 1), c), (u1, nI (i + 1), m1), ⟨rfl, rfl, rfl, ?_⟩, fun sf => ?_, fun sf => ?_⟩
      · rcases h4 with h4 | ⟨p, hp, h4⟩
        · exact Or.inl h4
        · exact Or.inr ⟨p, by omega, h4⟩
      · simp (disch := omega) only [g_let, g_bs, g_l0, g_l1, g_l2, g_l3, g_l4, g_l5, g_l6, g_l7, g_l8, g_l9, g_l10, g_l11, g_l12, g_l15, g_l20, g_l24, g_l25, g_l30, g_l40, g_l99, g_l100, g_ckN, g_clN, g_ltN, g_leN, g_eqN, pk_mul, nI_add, if_true, if_false, Nat.reduceLT, Nat.reduceLeDiff, Nat.reduceEqDiff, Nat.lt_irrefl, f0_mixTwo_b4_body, f0_mixTwo_b48, gt, e0, vP, hi, Nat.mul_comm i 5, k1]
      · simp (disch := omega) only [g_let, g_bs, g_l0, g_l1, g_l2, g_l3, g_l4, g_l5, g_l6, g_l7, g_l8, g_l9, g_l10, g_l11, g_l12, g_l15, g_l20, g_l24, g_l25, g_l30, g_l40, g_l99, g_l100, g_ckN, g_clN, g_ltN, g_leN, g_eqN, pk_mul, nI_add, if_true, if_false, Nat.reduceLT, Nat.reduceLeDiff, Nat.reduceEqDiff, Nat.lt_irrefl, f11_mixes_b46_body, f11_mixes_b145, vP, hi, k2]
  exact main
/-- one sort in a storm -/
theorem d_mixes (hF : 5000 < F) (h : DY c0 m0 c m T t f A) {s : Nat} (hs : s < vl m 2 1) : ∃ c' m', (∀ sf, f0_mixAll_b2_body F sf (nI s) c = sf (nI (s + 1)) c') ∧ f11_mixes F (nI f) (nI s) m = some m' ∧ DY c0 m0 c' m' T t f A ∧ m'.1 24 = m.1 24 := by
  have hTS := h.1
  have hA := h.2.1
  have hB := h.2.2.1
  obtain ⟨hT, ht, hf, hp0, hW, hR, hWS, hRS⟩ := id hTS
  obtain ⟨⟨⟨vP, bP⟩, ⟨vS, bS⟩, ⟨vD, bD⟩, ⟨vN, bN⟩, ⟨vW, bW⟩, ⟨vRoom, bRoom⟩, bRoom1, ⟨vStorm, bStorm⟩, ⟨vSeed, bSeed⟩, ⟨vK, bK⟩⟩, wPence, wSort, wDeed, wSend, wWant, wLaw⟩ := id hW
  obtain ⟨⟨⟨vDay, bDay⟩, ⟨vLast, bLast⟩, ⟨vSends, bSends⟩⟩, sPence, sHL, sPerm1, sPerm2, sSend, sWant, sOwn⟩ := id hWS
  obtain ⟨rCnt, rMan, rSort, rDeed, ⟨rT6, rT8, rT10, rT11, rT12, rT93⟩, rSent, rWanted, rLaw, rCode⟩ := id hR
  obtain ⟨⟨eDay, eLast, eStorms, eSends⟩, ePence, eHL, eSend, eWant⟩ := id hRS
  have e0 := rCnt 0 (by omega)
  have e1 := rCnt 1 (by omega)
  have e2 := rCnt 2 (by omega)
  have gd := fun {α : Type} {k : Nat → Option α} => g_drT (k := k) hp0 hT
  have gt := fun {α : Type} {k : Nat → Option α} => g_drT (k := k) hA.2 hT
  obtain ⟨c1, v, m1, g1, g2, g3, g4, g5, g6⟩ := d_mix hF hTS hA hB hs rfl
  generalize cntP (fun p => A (5 * p + s)) (vl m 2 0) = a at *
  have h1 := h.fl g2 g5
  have hW1 := h1.1.2.2.2.2.1
  have hv : vl m1 2 1 = vl m 2 1 := by unfold vl; rw [g5.o (by omega)]
  have hl := r_hasLaw (F := F) hW1 (r := 2) (by omega)
  have eC : ∀ sf, f0_mixAll_b2_body F sf (nI s) c = if v = 0 then sf (nI (s + 1)) c1 else (f0_mixTwo F (nI s) c1).bind (fun r7 => sf (nI (s + 1)) r7) := by
    intro sf
    simp (disch := omega) only [g_let, g_bs, g_l0, g_l1, g_l2, g_l3, g_l4, g_l5, g_l6, g_l7, g_l8, g_l9, g_l10, g_l11, g_l12, g_l15, g_l20, g_l24, g_l25, g_l30, g_l40, g_l99, g_l100, g_ckN, g_clN, g_ltN, g_leN, g_eqN, pk_mul, nI_add, if_true, if_false, Nat.reduceLT, Nat.reduceLeDiff, Nat.reduceEqDiff, Nat.lt_irrefl, f0_mixAll_b2_body, f0_mixAll_b30, gt, e1, vS, hs, g1, lc_eq, lc_eqN]
  have eM : f11_mixes F (nI f) (nI s) m = (f11_hasLaw F (nI 2) m1).bind (fun r17 => if r17 = (0 : Int32) then (f11_mixes_b41 F (nI f) (nI s) m1) else ((f11_goes F (nI 2) m1).bind (fun r19 => if r19.1 = (0 : Int32) then (f11_mixes_b41 F (nI f) (nI s) r19.2) else (g_ck (0 : Int32) 64 (if (lg_cmp (r19.2.2.1 23 (0 : Int32).toNatClampNeg) (0 : Int64)) = (0 : Int32) then (some r19.2) else (f11_mixes_b41 F (nI f) (nI s) r19.2)))))) := by
    have g4' : f11_calls F (nI f) (-1 : Int32) (nI s) (nI a) (0 : Int32) m = some m1 := g4
    unfold f11_mixes
    rw [g3, g_bs, g4', g_bs]
    rfl
  have mnz : ¬ ((-9223372036854775808 : Int64) = 0) := by decide
  rw [eM, hl, g_bs]
  rcases g6 with ⟨q1, q2⟩ | ⟨q1, ok, m2, q2, q3, q4⟩
  · obtain ⟨c2, m2, t1, t2, t3, t4⟩ := d_two hF h1 (s := s) (by rw [hv]; exact hs)
    rw [if_neg q1, if_pos nI00]
    refine ⟨c2, m2, fun sf => ?_, t2, t3, t4.trans (g5.o (by omega))⟩
    rw [eC, q2, if_neg mnz, t1, g_bs]
  · rw [if_pos q1, if_neg nI10, q2, g_bs]
    have h2 := h1.fl (flC.rfl' c1) q3
    have hv2 : vl m2 2 1 = vl m 2 1 := by rw [← hv]; unfold vl; rw [q3.o (by omega)]
    obtain ⟨c3, m3, t1, t2, t3, t4⟩ := d_two hF h2 (s := s) (by rw [hv2]; exact hs)
    rcases q4 with ⟨q5, q6⟩ | ⟨q5, q6, q7⟩
    · subst q5
      rw [if_pos nI00]
      refine ⟨c3, m3, fun sf => ?_, t2, t3, t4.trans ((q3.o (by omega)).trans (g5.o (by omega)))⟩
      rw [eC, q6, if_neg mnz, t1, g_bs]
    · subst q5
      rw [if_neg nI10, g_ck0]
      simp only [lc_eq, show (0 : Int32).toNatClampNeg = 0 from rfl, ← q6]
      by_cases hz : v = 0
      · rw [if_pos hz]
        exact ⟨c1, m2, fun sf => by rw [eC, if_pos hz], rfl, h2, (q3.o (by omega)).trans (g5.o (by omega))⟩
      · rw [if_neg hz]
        exact ⟨c3, m3, fun sf => by rw [eC, if_neg hz, t1, g_bs], t2, t3, t4.trans ((q3.o (by omega)).trans (g5.o (by omega)))⟩
/-- all sorts -/
theorem d_all (hF : 5000 < F) (h : DY c0 m0 c m T t f A) (a2 : Int32) : ∃ c' m', f0_mixAll F c = some c' ∧ f11_passes_b70 F (nI f) a2 (nI 0) m = f11_passes_b92 F (nI f) a2 m' ∧ DY c0 m0 c' m' T t f A ∧ m'.1 24 = m.1 24 := by
  have hTS := h.1
  obtain ⟨hT, ht, hf, hp0, hW, hR, hWS, hRS⟩ := id hTS
  obtain ⟨⟨⟨vP, bP⟩, ⟨vS, bS⟩, ⟨vD, bD⟩, ⟨vN, bN⟩, ⟨vW, bW⟩, ⟨vRoom, bRoom⟩, bRoom1, ⟨vStorm, bStorm⟩, ⟨vSeed, bSeed⟩, ⟨vK, bK⟩⟩, wPence, wSort, wDeed, wSend, wWant, wLaw⟩ := id hW
  obtain ⟨⟨⟨vDay, bDay⟩, ⟨vLast, bLast⟩, ⟨vSends, bSends⟩⟩, sPence, sHL, sPerm1, sPerm2, sSend, sWant, sOwn⟩ := id hWS
  obtain ⟨rCnt, rMan, rSort, rDeed, ⟨rT6, rT8, rT10, rT11, rT12, rT93⟩, rSent, rWanted, rLaw, rCode⟩ := id hR
  obtain ⟨⟨eDay, eLast, eStorms, eSends⟩, ePence, eHL, eSend, eWant⟩ := id hRS
  have e0 := rCnt 0 (by omega)
  have e1 := rCnt 1 (by omega)
  have e2 := rCnt 2 (by omega)
  have gd := fun {α : Type} {k : Nat → Option α} => g_drT (k := k) hp0 hT
  unfold f0_mixAll f0_mixAll_b2 f11_passes_b70
  have main := g_for2
    (b := fun sf (x : Int32 × g_M) => f0_mixAll_b2_body F (fun v1 mem => sf (v1, mem)) x.1 x.2)
    (b' := fun sf (x : Int32 × g_M) => f11_passes_b70_body F (nI f) a2 (fun v3 mem => sf (v3, mem)) x.1 x.2)
    (fun i s u => s.1 = nI i ∧ u.1 = nI i ∧ DY c0 m0 s.2 u.2 T t f A ∧ u.2.1 24 = m.1 24)
    (vl m 2 1) ?step (s := (0, c)) (t := (nI 0, m)) ⟨rfl, rfl, h, rfl⟩ (F := F) (by omega)
  case step =>
    rintro i ⟨s1, c1⟩ ⟨u1, m1⟩ hi ⟨h1, h2, h3, h4⟩
    simp only at h1 h2 h3 h4
    subst h1; subst h2
    have hv : vl m1 2 1 = vl m 2 1 := by rw [h3.m2, h.m2]
    obtain ⟨c', m', g1, g2, g3, g4⟩ := d_mixes hF h3 (s := i) (by rw [hv]; exact hi)
    have v1 : m1.1 2 1 = nI (vl m 2 1) := by rw [← hv]; exact h3.1.2.2.2.2.1.1.2.1.1
    refine ⟨(nI (i + 1), c'), (nI (i + 1), m'), ⟨rfl, rfl, g3, g4.trans h4⟩, fun sf => g1 _, fun sf => ?_⟩
    simp (disch := omega) only [g_let, g_bs, g_l0, g_l1, g_l2, g_l3, g_l4, g_l5, g_l6, g_l7, g_l8, g_l9, g_l10, g_l11, g_l12, g_l15, g_l20, g_l24, g_l25, g_l30, g_l40, g_l99, g_l100, g_ckN, g_clN, g_ltN, g_leN, g_eqN, pk_mul, nI_add, if_true, if_false, Nat.reduceLT, Nat.reduceLeDiff, Nat.reduceEqDiff, Nat.lt_irrefl, f11_passes_b70_body, v1, hi, g2]
  obtain ⟨⟨s1, c1⟩, ⟨u1, m1⟩, ⟨h1, h2, h3, h4⟩, ⟨sf, e1'⟩, ⟨sf', e2'⟩⟩ := main
  simp only at h1 h2 h3 h4
  subst h1; subst h2
  have hv : vl m1 2 1 = vl m 2 1 := by rw [h3.m2, h.m2]
  have v1 : m1.1 2 1 = nI (vl m 2 1) := by rw [← hv]; exact h3.1.2.2.2.2.1.1.2.1.1
  have v2 : c1.1 (T + 1) 1 = nI (vl m 2 1) := by rw [h3.1.2.2.2.2.2.1.1 1 (by omega)]; exact v1
  have gt := fun {α : Type} {k : Nat → Option α} => g_drT (k := k) h3.2.1.2 hT
  refine ⟨c1, m1, ?_, ?_, h3, h4⟩
  · rw [e1']
    simp (disch := omega) only [g_let, g_bs, g_l0, g_l1, g_l2, g_l3, g_l4, g_l5, g_l6, g_l7, g_l8, g_l9, g_l10, g_l11, g_l12, g_l15, g_l20, g_l24, g_l25, g_l30, g_l40, g_l99, g_l100, g_ckN, g_clN, g_ltN, g_leN, g_eqN, pk_mul, nI_add, if_true, if_false, Nat.reduceLT, Nat.reduceLeDiff, Nat.reduceEqDiff, Nat.lt_irrefl, f0_mixAll_b2_body, gt, v2]
  · rw [e2']
    simp (disch := omega) only [g_let, g_bs, g_l0, g_l1, g_l2, g_l3, g_l4, g_l5, g_l6, g_l7, g_l8, g_l9, g_l10, g_l11, g_l12, g_l15, g_l20, g_l24, g_l25, g_l30, g_l40, g_l99, g_l100, g_ckN, g_clN, g_ltN, g_leN, g_eqN, pk_mul, nI_add, if_true, if_false, Nat.reduceLT, Nat.reduceLeDiff, Nat.reduceEqDiff, Nat.lt_irrefl, f11_passes_b70_body, v1]
theorem one_sub {v : Nat} (hv : v ≤ 1) : nI 1 - nI v = nI (1 - v) := g_subN hv
/-- nobody aboard any more -/
theorem DY_off {c' m' : g_M} (h1 : TS c m T t f) (h2 : AT c T t) (h4 : fcD c0 c t) (h5 : fmD m0 m f) (hc : c' = g_sI c 53 7 (nI 0) ∨ (c' = c ∧ c.1 53 7 = nI 0)) (h0 : ∀ i, i < 25 → c.1 54 i = nI 0) (hm : m' = g_sI m 0 56 (nI 0)) : DY c0 m0 c' m' T t f (fun _ => false) := by
  have ht := isS_le h1.2.1
  have hlt := isTS h1.1 h1.2.1
  subst hm
  have hm1 : ∀ o, 2 ≤ o → (g_sI m 0 56 (nI 0)).1 o = m.1 o := fun o ho => sI_o (by omega)
  have ab2 : (g_sI m 0 56 (nI 0)).1 0 56 = bitsP (fun _ => false) 25 := by rw [sI_eq, bits_all0]
  rcases hc with rfl | ⟨rfl, h7⟩
  · refine ⟨TS_fr h1 rfl (fun o h1 h2 => sI_o (by omega)) (fun o k h1 h2 => by rw [sI_o (by omega)]) (fun o h1 h2 => hm1 o h1) (fun o k h1 h2 => by rw [hm1 o (by omega)]), h2, ⟨fun i hi => ?_, ab2, ?_⟩, h4.sI (by omega), h5.sI (by omega)⟩
    · rw [sI_o (by omega)]; exact h0 i hi
    · rw [sI_eq, cnt_all0]
  · refine ⟨TS_fr h1 rfl (fun _ _ _ => rfl) (fun _ _ _ _ => rfl) (fun o h1 h2 => hm1 o h1) (fun o k h1 h2 => by rw [hm1 o (by omega)]), h2, ⟨fun i hi => h0 i hi, ab2, ?_⟩, h4, h5.sI (by omega)⟩
    rw [h7, cnt_all0]
/-- the boat comes in, and the day ends -/
theorem d_land (hF : 5000 < F) (h : DY c0 m0 c m T t f A) (hd : vl m 24 f < 10000) (a2 : Int32) : ∃ c' m', (∀ a1 sf j, f0_pass_b39 F a1 sf (nI j) c = sf (nI (j + 1)) c') ∧ f11_passes_b92 F (nI f) a2 m = some m' ∧ DY c0 m0 c' m' T t f (fun _ => false) ∧ vl m' 24 f = vl m 24 f + 1 := by
  have hTS := h.1
  have hA := h.2.1
  have hB := h.2.2.1
  obtain ⟨hT, ht, hf, hp0, hW, hR, hWS, hRS⟩ := id hTS
  obtain ⟨⟨⟨vP, bP⟩, ⟨vS, bS⟩, ⟨vD, bD⟩, ⟨vN, bN⟩, ⟨vW, bW⟩, ⟨vRoom, bRoom⟩, bRoom1, ⟨vStorm, bStorm⟩, ⟨vSeed, bSeed⟩, ⟨vK, bK⟩⟩, wPence, wSort, wDeed, wSend, wWant, wLaw⟩ := id hW
  obtain ⟨⟨⟨vDay, bDay⟩, ⟨vLast, bLast⟩, ⟨vSends, bSends⟩⟩, sPence, sHL, sPerm1, sPerm2, sSend, sWant, sOwn⟩ := id hWS
  obtain ⟨rCnt, rMan, rSort, rDeed, ⟨rT6, rT8, rT10, rT11, rT12, rT93⟩, rSent, rWanted, rLaw, rCode⟩ := id hR
  obtain ⟨⟨eDay, eLast, eStorms, eSends⟩, ePence, eHL, eSend, eWant⟩ := id hRS
  have e0 := rCnt 0 (by omega)
  have e1 := rCnt 1 (by omega)
  have e2 := rCnt 2 (by omega)
  have gd := fun {α : Type} {k : Nat → Option α} => g_drT (k := k) hp0 hT
  have hle := isS_le ht
  have hlt := isTS hT ht
  have n10 : ¬ nI 1 = nI 0 := by decide
  have n01 : ¬ nI 0 = nI 1 := by decide
  -- the end of the day
  have fin : ∀ c1 m1, DY c0 m0 c1 (g_sI m1 0 56 (nI 0)) T t f (fun _ => false) → m1.1 24 f = m.1 24 f → ∃ c' m', (∀ a1 sf j, f0_pass_b50 F a1 sf (nI j) c1 = sf (nI (j + 1)) c') ∧ (∀ sf', f11_passes_b94_body F (nI f) a2 sf' (nI 25) m1 = some m') ∧ DY c0 m0 c' m' T t f (fun _ => false) ∧ vl m' 24 f = vl m 24 f + 1 := by
    intro c1 m1 h1 hm24
    obtain ⟨hT1, ht1, hf1, hp1, hW1, hR1, hWS1, hRS1⟩ := id h1.1
    have gs := fun {α : Type} {k : Nat → Option α} => g_drS (k := k) h1.2.1.1 ht
    have x0 : (g_sI m1 0 56 (nI 0)).1 24 f = nI (vl m 24 f) := by rw [sI_o (by omega), hm24]; exact vDay
    have x1 : c1.1 t 1 = nI (vl m 24 f) := by rw [hRS1.1.1]; exact x0
    have x2 := hWS1.1.2.1
    have h2 : DY c0 m0 (g_sI c1 t 1 (nI (vl m 24 f + 1))) (g_sI (g_sI m1 0 56 (nI 0)) 24 f (nI (vl m 24 f + 1))) T t f (fun _ => false) :=
      DY_day h1 (d := vl m 24 f + 1) (l := vl (g_sI m1 0 56 (nI 0)) 25 f) (s := (g_sI m1 0 56 (nI 0)).1 26 f) (by omega) x2.2 rfl (fun o k hk => sI_ne (fun z => hk ⟨z.1, by omega⟩)) ⟨sI_eq, by rw [sI_ne (by omega), hRS1.1.2.1]; exact x2.1, by rw [sI_ne (by omega), hRS1.1.2.2.1]⟩ rfl (fun o k hk => sI_ne (fun z => hk ⟨by omega, z.2⟩)) ⟨sI_eq, by rw [sI_o (by omega)]; exact x2.1, by rw [sI_o (by omega)]⟩
    refine ⟨_, _, fun a1 sf j => ?_, fun sf' => ?_, h2, vl_of sI_eq (by omega)⟩
    · simp (disch := omega) only [g_let, g_bs, g_l0, g_l1, g_l2, g_l3, g_l4, g_l5, g_l6, g_l7, g_l8, g_l9, g_l10, g_l11, g_l12, g_l15, g_l20, g_l24, g_l25, g_l30, g_l40, g_l99, g_l100, g_ckN, g_clN, g_ltN, g_leN, g_eqN, pk_mul, nI_add, if_true, if_false, Nat.reduceLT, Nat.reduceLeDiff, Nat.reduceEqDiff, Nat.lt_irrefl, f0_pass_b50, gs, x1]
    · simp (disch := omega) only [g_let, g_bs, g_l0, g_l1, g_l2, g_l3, g_l4, g_l5, g_l6, g_l7, g_l8, g_l9, g_l10, g_l11, g_l12, g_l15, g_l20, g_l24, g_l25, g_l30, g_l40, g_l99, g_l100, g_ckN, g_clN, g_ltN, g_leN, g_eqN, pk_mul, nI_add, if_true, if_false, Nat.reduceLT, Nat.reduceLeDiff, Nat.reduceEqDiff, Nat.lt_irrefl, f11_passes_b94_body, x0]
  unfold f11_passes_b92 f11_passes_b94
  by_cases hcn : cntP A 25 = 0
  · -- nobody
    have hal := (cnt_zero A 25).mp hcn
    have h7 : c.1 53 7 = nI 0 := by rw [hB.2.2, hcn]
    have h1 := DY_off (m' := g_sI m 0 56 (nI 0)) hTS hA h.2.2.2.1 h.2.2.2.2 (Or.inr ⟨rfl, h7⟩) (fun i hi => by rw [hB.1 i hi, hal i hi]; rfl) rfl
    obtain ⟨c', m', g1, g2, g3⟩ := fin c m h1 rfl
    refine ⟨c', m', fun a1 sf j => ?_, ?_, g3⟩
    · unfold f0_pass_b39
      rw [if_neg (by rw [h7]; decide)]; exact g1 a1 sf j
    · refine g_for (fun i => (nI i, m)) 25 (fun i hi sf => ?_) (by omega) (fun sf => g2 _)
      have k2 := (bit_cell hB hi).2
      rw [hal i hi, if_neg (by decide)] at k2
      simp (disch := omega) only [g_let, g_bs, g_l0, g_l1, g_l2, g_l3, g_l4, g_l5, g_l6, g_l7, g_l8, g_l9, g_l10, g_l11, g_l12, g_l15, g_l20, g_l24, g_l25, g_l30, g_l40, g_l99, g_l100, g_ckN, g_clN, g_ltN, g_leN, g_eqN, pk_mul, nI_add, if_true, if_false, Nat.reduceLT, Nat.reduceLeDiff, Nat.reduceEqDiff, Nat.lt_irrefl, f11_passes_b94_body, f11_passes_b136, hi, k2, n01]
  · -- some
    have hpos : (0 : Int32) < c.1 53 7 := by
      rw [hB.2.2, g_l0, g_ltN (by omega) (by have := cnt25 A; omega)]; omega
    have main := g_for2
      (b := fun sf (x : Int32 × g_M) => f0_land_b2_body F (fun v1 mem => sf (v1, mem)) x.1 x.2)
      (b' := fun sf (x : Int32 × g_M) => f11_passes_b94_body F (nI f) a2 (fun v3 mem => sf (v3, mem)) x.1 x.2)
      (fun i s u => s.1 = nI i ∧ u.1 = nI i ∧ TS s.2 u.2 T t f ∧ AT s.2 T t ∧ fcD c0 s.2 t ∧ fmD m0 u.2 f ∧ (∀ q, q < 25 → s.2.1 54 q = (if (decide (i ≤ q) && A q) = true then nI 1 else nI 0)) ∧ u.2.1 0 56 = bitsP A 25 ∧ u.2.1 24 f = m.1 24 f)
      25 ?step (s := (0, c)) (t := (0, m)) ⟨rfl, rfl, hTS, hA, h.2.2.2.1, h.2.2.2.2, fun q hq => by rw [hB.1 q hq]; simp, hB.2.1, rfl⟩ (F := F) (by omega)
    case step =>
      rintro i ⟨s1, c1⟩ ⟨u1, m1⟩ hi ⟨h1, h2, h3, h4, h5, h6, h7, h8, h9⟩
      simp only at h1 h2 h3 h4 h5 h6 h7 h8 h9
      subst h1; subst h2
      have k1 := h7 i hi
      have k2 : ((m1.1 0 56 >>> (nI i &&& 31)) &&& nI 1) = (if A i = true then nI 1 else nI 0) := by
        rw [h8, shr_bits A (by omega) (by omega), show decide (i < 25) = true from decide_eq_true hi, Bool.true_and]
      simp only [Nat.le_refl, decide_true, Bool.true_and] at k1
      have gs := fun {α : Type} {k : Nat → Option α} => g_drS (k := k) h4.1 ht
      by_cases ha : A i = true
      · rw [if_pos ha] at k1 k2
        obtain ⟨v30, b30⟩ := (h3.2.2.2.2.2.2.1.2.2.1 i hi).2
        have q30 : c1.1 (t + 3) i = nI (vl m1 30 (25 * f + i)) := by rw [(h3.2.2.2.2.2.2.2.2.2.1 i hi).2]; exact v30
        have hsu := one_sub b30
        have h3' := TS_port (v := 1 - vl m1 30 (25 * f + i)) h3 hi (by omega) (c' := g_sI c1 (t + 3) i (nI (1 - vl m1 30 (25 * f + i)))) (m' := g_sI m1 30 (25 * f + i) (nI (1 - vl m1 30 (25 * f + i)))) rfl (fun o ho => sI_o ho) (fun k => sI_at) (fun o ho => sI_o ho) (fun k => sI_at)
        refine ⟨(nI (i + 1), g_sI (g_sI c1 (t + 3) i (nI (1 - vl m1 30 (25 * f + i)))) 54 i (nI 0)), (nI (i + 1), g_sI m1 30 (25 * f + i) (nI (1 - vl m1 30 (25 * f + i)))), ⟨rfl, rfl, ?_, h4, (h5.sI (by omega)).sI (by omega), h6.sI (Or.inr (in30 hi)), fun q hq => ?_, ?_, ?_⟩, fun sf => ?_, fun sf => ?_⟩
        · exact TS_fr h3' rfl (fun o h1 h2 => sI_o (by omega)) (fun o k h1 h2 => by rw [sI_o (by omega)]) (fun _ _ _ => rfl) (fun _ _ _ _ => rfl)
        · rw [sI_at]
          by_cases e : q = i
          · subst e
            rw [if_pos rfl, if_neg (by simp; omega)]
          · rw [if_neg e, sI_o (by omega), h7 q hq]
            have : decide (i ≤ q) = decide (i + 1 ≤ q) := by apply decide_eq_decide.mpr; omega
            rw [this]
        · rw [sI_o (by omega)]; exact h8
        · rw [sI_o (by omega)]; exact h9
        · simp (disch := omega) only [g_let, g_bs, g_l0, g_l1, g_l2, g_l3, g_l4, g_l5, g_l6, g_l7, g_l8, g_l9, g_l10, g_l11, g_l12, g_l15, g_l20, g_l24, g_l25, g_l30, g_l40, g_l99, g_l100, g_ckN, g_clN, g_ltN, g_leN, g_eqN, pk_mul, nI_add, if_true, if_false, Nat.reduceLT, Nat.reduceLeDiff, Nat.reduceEqDiff, Nat.lt_irrefl, f0_land_b2_body, f0_land_b47, hi, k1, n10, gs, q30, hsu]
        · simp (disch := omega) only [g_let, g_bs, g_l0, g_l1, g_l2, g_l3, g_l4, g_l5, g_l6, g_l7, g_l8, g_l9, g_l10, g_l11, g_l12, g_l15, g_l20, g_l24, g_l25, g_l30, g_l40, g_l99, g_l100, g_ckN, g_clN, g_ltN, g_leN, g_eqN, pk_mul, nI_add, if_true, if_false, Nat.reduceLT, Nat.reduceLeDiff, Nat.reduceEqDiff, Nat.lt_irrefl, f11_passes_b94_body, f11_passes_b136, hi, k2, v30, hsu]
      · rw [if_neg ha] at k1 k2
        refine ⟨(nI (i + 1), c1), (nI (i + 1), m1), ⟨rfl, rfl, h3, h4, h5, h6, fun q hq => ?_, h8, h9⟩, fun sf => ?_, fun sf => ?_⟩
        · rw [h7 q hq]
          by_cases e : q = i
          · subst e; simp [ha]
          · have : decide (i ≤ q) = decide (i + 1 ≤ q) := by apply decide_eq_decide.mpr; omega
            rw [this]
        · simp (disch := omega) only [g_let, g_bs, g_l0, g_l1, g_l2, g_l3, g_l4, g_l5, g_l6, g_l7, g_l8, g_l9, g_l10, g_l11, g_l12, g_l15, g_l20, g_l24, g_l25, g_l30, g_l40, g_l99, g_l100, g_ckN, g_clN, g_ltN, g_leN, g_eqN, pk_mul, nI_add, if_true, if_false, Nat.reduceLT, Nat.reduceLeDiff, Nat.reduceEqDiff, Nat.lt_irrefl, f0_land_b2_body, f0_land_b47, hi, k1]
        · simp (disch := omega) only [g_let, g_bs, g_l0, g_l1, g_l2, g_l3, g_l4, g_l5, g_l6, g_l7, g_l8, g_l9, g_l10, g_l11, g_l12, g_l15, g_l20, g_l24, g_l25, g_l30, g_l40, g_l99, g_l100, g_ckN, g_clN, g_ltN, g_leN, g_eqN, pk_mul, nI_add, if_true, if_false, Nat.reduceLT, Nat.reduceLeDiff, Nat.reduceEqDiff, Nat.lt_irrefl, f11_passes_b94_body, f11_passes_b136, hi, k2, n01]
    obtain ⟨⟨s1, c1⟩, ⟨u1, m1⟩, ⟨h1, h2, h3, h4, h5, h6, h7, h8, h9⟩, ⟨sf1, e1'⟩, ⟨sf', e2'⟩⟩ := main
    simp only at h1 h2 h3 h4 h5 h6 h7 h8 h9
    subst h1; subst h2
    have h0 : ∀ i, i < 25 → c1.1 54 i = nI 0 := fun i hi => by rw [h7 i hi, if_neg (by simp; omega)]
    have hoff := DY_off (c' := g_sI c1 53 7 (nI 0)) (m' := g_sI m1 0 56 (nI 0)) h3 h4 h5 h6 (Or.inl rfl) h0 rfl
    obtain ⟨c', m', g1, g2, g3⟩ := fin (g_sI c1 53 7 (nI 0)) m1 hoff h9
    refine ⟨c', m', fun a1 sf j => ?_, ?_, g3⟩
    · have e3 : f0_land F c = some (g_sI c1 53 7 (nI 0)) := by
        unfold f0_land f0_land_b2
        rw [e1']
        simp (disch := omega) only [g_let, g_bs, g_l0, g_l1, g_l2, g_l3, g_l4, g_l5, g_l6, g_l7, g_l8, g_l9, g_l10, g_l11, g_l12, g_l15, g_l20, g_l24, g_l25, g_l30, g_l40, g_l99, g_l100, g_ckN, g_clN, g_ltN, g_leN, g_eqN, pk_mul, nI_add, if_true, if_false, Nat.reduceLT, Nat.reduceLeDiff, Nat.reduceEqDiff, Nat.lt_irrefl, f0_land_b2_body]
      unfold f0_pass_b39
      rw [if_pos hpos, e3, g_bs]
      exact g1 a1 sf j
    · have e2'' := e2'
      show g_fix _ F ((0 : Int32), m) = _
      rw [e2'']
      exact g2 _
end Y
