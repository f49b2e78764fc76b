/-! queries of people: mixed, lost, halves, swaps, together, cheap -/
theorem cnt_not (P : Nat → Bool) (n : Nat) : cntP (fun i => !P i) n + cntP P n = n := by
  induction n with
  | zero => rfl
  | succ n ih => unfold cntP; cases h : P n <;> simp <;> omega
theorem cnt_zero (P : Nat → Bool) (n : Nat) : cntP P n = 0 ↔ ∀ i, i < n → P i = false := by
  induction n with
  | zero => simp [cntP]
  | succ n ih =>
    unfold cntP
    constructor
    · intro h i hi
      have h1 : cntP P n = 0 := by omega
      by_cases e : i = n
      · subst e; cases hP : P i with
        | false => rfl
        | true => rw [hP] at h; simp at h
      · exact ih.mp h1 i (by omega)
    · intro h
      rw [ih.mpr (fun i hi => h i (by omega)), h n (by omega)]
      rfl
theorem sumN_congr {g g' : Nat → Nat} {n : Nat} (h : ∀ i, i < n → g i = g' i) : sumN g n = sumN g' n := by
  induction n with
  | zero => rfl
  | succ n ih => unfold sumN; rw [ih (fun i hi => h i (by omega)), h n (by omega)]
theorem sumN_not (P : Nat → Nat → Bool) (n k : Nat) : sumN (fun p => cntP (fun s => !P p s) k) n = n * k - sumN (fun p => cntP (P p) k) n := by
  induction n with
  | zero => simp [sumN]
  | succ n ih =>
    have h1 := cnt_not (P n) k
    have h2 := sumN_le (fun p => cntP (P p) k) k n (fun i _ => cntP_le _ _)
    have h3 := cntP_le (P n) k
    unfold sumN
    rw [ih, Nat.succ_mul]
    omega
section Q3
variable {F : Nat} {c m : g_M} {T t f : Nat}
theorem r_mixedMany (hF : 5000 < F) (hW : WT m) (hf : f < 23) : f11_mixedMany F (nI f) m = some (nI (sumN (fun p => cntP (fun s => !ownP m f p s) (vl m 2 1)) (vl m 2 0))) := by
  obtain ⟨⟨⟨vP, bP⟩, ⟨vS, bS⟩, ⟨vD, bD⟩, ⟨vN, bN⟩, ⟨vW, bW⟩, ⟨vRoom, bRoom⟩, bRoom1, ⟨vStorm, bStorm⟩, ⟨vSeed, bSeed⟩, ⟨vK, bK⟩⟩, wPence, wSort, wDeed, wSend, wWant, wLaw⟩ := id hW
  unfold f11_mixedMany f11_mixedMany_b4
  refine g_for (fun i => (nI (sumN (fun p => cntP (fun s => !ownP m f p s) (vl m 2 1)) i), nI i)) (vl m 2 0) (fun i hi sf => ?_) (by omega) (fun sf => ?_)
  · simp (disch := omega) only [g_let, g_bs, g_l0, g_l1, g_l2, g_l3, g_l4, g_l5, g_l6, g_l7, g_l8, g_l9, g_l10, g_l11, g_l12, g_l15, g_l20, g_l24, g_l25, g_l30, g_l40, g_l99, g_l100, g_ckN, g_clN, g_ltN, g_leN, g_eqN, pk_mul, nI_add, if_true, if_false, Nat.reduceLT, Nat.reduceLeDiff, Nat.reduceEqDiff, Nat.lt_irrefl, f11_mixedMany_b4_body, vP, hi]
    unfold f11_mixedMany_b17
    refine g_for (fun j => (nI (sumN (fun p => cntP (fun s => !ownP m f p s) (vl m 2 1)) i + cntP (fun s => !ownP m f i s) j), nI i, nI j)) (vl m 2 1) (fun j hj sf2 => ?_) (by omega) (fun sf2 => ?_)
    · simp (disch := omega) only [g_let, g_bs, g_l0, g_l1, g_l2, g_l3, g_l4, g_l5, g_l6, g_l7, g_l8, g_l9, g_l10, g_l11, g_l12, g_l15, g_l20, g_l24, g_l25, g_l30, g_l40, g_l99, g_l100, g_ckN, g_clN, g_ltN, g_leN, g_eqN, pk_mul, nI_add, if_true, if_false, Nat.reduceLT, Nat.reduceLeDiff, Nat.reduceEqDiff, Nat.lt_irrefl, f11_mixedMany_b17_body, f11_mixedMany_b54, vS, hj, Nat.add_assoc, cntP, ownP]
      by_cases a : m.1 29 (25 * f + (5 * i + j)) = nI i <;> simp [a]
    · simp (disch := omega) only [g_let, g_bs, g_l0, g_l1, g_l2, g_l3, g_l4, g_l5, g_l6, g_l7, g_l8, g_l9, g_l10, g_l11, g_l12, g_l15, g_l20, g_l24, g_l25, g_l30, g_l40, g_l99, g_l100, g_ckN, g_clN, g_ltN, g_leN, g_eqN, pk_mul, nI_add, if_true, if_false, Nat.reduceLT, Nat.reduceLeDiff, Nat.reduceEqDiff, Nat.lt_irrefl, f11_mixedMany_b17_body, vS, Nat.lt_irrefl]
      rfl
  · simp (disch := omega) only [g_let, g_bs, g_l0, g_l1, g_l2, g_l3, g_l4, g_l5, g_l6, g_l7, g_l8, g_l9, g_l10, g_l11, g_l12, g_l15, g_l20, g_l24, g_l25, g_l30, g_l40, g_l99, g_l100, g_ckN, g_clN, g_ltN, g_leN, g_eqN, pk_mul, nI_add, if_true, if_false, Nat.reduceLT, Nat.reduceLeDiff, Nat.reduceEqDiff, Nat.lt_irrefl, f11_mixedMany_b4_body, vP, Nat.lt_irrefl]
theorem q_mixed2 (hF : 5000 < F) (h : TS c m T t f) : f7_mixed F t c = f11_mixedMany F (nI f) m := by
  rw [q_mixed hF h, r_mixedMany hF h.2.2.2.2.1 h.2.2.1, sumN_not]
def lostP (m : g_M) (p : Nat) : Bool := decide (0 < vl m 2 1) && !decide (fstP (ownP m 0 p) (vl m 2 1) < vl m 2 1)
theorem own_zero (hW : WT m) {p : Nat} : bitsP (ownP m f p) (vl m 2 1) = nI 0 ↔ ¬ fstP (ownP m f p) (vl m 2 1) < vl m 2 1 := by
  obtain ⟨⟨⟨vP, bP⟩, ⟨vS, bS⟩, ⟨vD, bD⟩, ⟨vN, bN⟩, ⟨vW, bW⟩, ⟨vRoom, bRoom⟩, bRoom1, ⟨vStorm, bStorm⟩, ⟨vSeed, bSeed⟩, ⟨vK, bK⟩⟩, wPence, wSort, wDeed, wSend, wWant, wLaw⟩ := id hW
  rw [bits_zero _ bS]
  constructor
  · intro h1 h2
    have := fstP_yes _ _ h2
    rw [h1 _ h2] at this; cases this
  · intro h1 s hs
    exact fstP_no _ (vl m 2 1) s (by omega)
theorem q_lost (hF : 5000 < F) (h : TS c m T 35 0) : f7_lost F 35 c = some (bitsP (lostP m) (vl m 2 0)) := by
  have h0 := h
  obtain ⟨hT, ht, hf, hp0, hW, hR, hWS, hRS⟩ := id h
  obtain ⟨⟨⟨vP, bP⟩, ⟨vS, bS⟩, ⟨vD, bD⟩, ⟨vN, bN⟩, ⟨vW, bW⟩, ⟨vRoom, bRoom⟩, bRoom1, ⟨vStorm, bStorm⟩, ⟨vSeed, bSeed⟩, ⟨vK, bK⟩⟩, wPence, wSort, wDeed, wSend, wWant, wLaw⟩ := id hW
  obtain ⟨⟨⟨vDay, bDay⟩, ⟨vLast, bLast⟩, ⟨vSends, bSends⟩⟩, sPence, sHL, sPerm1, sPerm2, sSend, sWant, sOwn⟩ := id hWS
  obtain ⟨rCnt, rMan, rSort, rDeed, ⟨rT6, rT8, rT10, rT11, rT12, rT93⟩, rSent, rWanted, rLaw, rCode⟩ := id hR
  obtain ⟨⟨eDay, eLast, eStorms, eSends⟩, ePence, eHL, eSend, eWant⟩ := id hRS
  have e0 := rCnt 0 (by omega)
  have e1 := rCnt 1 (by omega)
  have e2 := rCnt 2 (by omega)
  have gd := fun {α : Type} {k : Nat → Option α} => g_drT (k := k) hp0 hT
  unfold f7_lost f7_lost_b4
  refine g_for (fun i => (bitsP (lostP m) i, nI i)) (vl m 2 0) (fun i hi sf => ?_) (by omega) (fun sf => ?_)
  · have g1 := q_ownSorts hF h0 hi
    have g2 : bitsP (fun s => decide (m.1 29 (25 * 0 + (5 * i + s)) = nI i)) (vl m 2 1) = bitsP (ownP m 0 i) (vl m 2 1) := rfl
    have g3 := own_zero (f := 0) hW (p := i)
    simp (disch := omega) only [g_let, g_bs, g_l0, g_l1, g_l2, g_l3, g_l4, g_l5, g_l6, g_l7, g_l8, g_l9, g_l10, g_l11, g_l12, g_l15, g_l20, g_l24, g_l25, g_l30, g_l40, g_l99, g_l100, g_ckN, g_clN, g_ltN, g_leN, g_eqN, pk_mul, nI_add, if_true, if_false, Nat.reduceLT, Nat.reduceLeDiff, Nat.reduceEqDiff, Nat.lt_irrefl, f7_lost_b4_body, f7_lost_b43, gd, e0, e1, vP, vS, hi, g1, g2, bitsP, lostP, Bool.and_eq_true, decide_eq_true_eq, Bool.not_eq_true', decide_eq_false_iff_not, g3]
    by_cases a : 0 < vl m 2 1
    · by_cases b : fstP (ownP m 0 i) (vl m 2 1) < vl m 2 1 <;> simp [a, b]
    · simp [a]
  · simp (disch := omega) only [g_let, g_bs, g_l0, g_l1, g_l2, g_l3, g_l4, g_l5, g_l6, g_l7, g_l8, g_l9, g_l10, g_l11, g_l12, g_l15, g_l20, g_l24, g_l25, g_l30, g_l40, g_l99, g_l100, g_ckN, g_clN, g_ltN, g_leN, g_eqN, pk_mul, nI_add, if_true, if_false, Nat.reduceLT, Nat.reduceLeDiff, Nat.reduceEqDiff, Nat.lt_irrefl, f7_lost_b4_body, gd, e0, vP, Nat.lt_irrefl]
def halfP (m : g_M) (p : Nat) : Bool := decide (0 < cntP (fun s => decide (m.1 30 (25 * 0 + (5 * p + s)) = nI 1)) (vl m 2 1)) && decide (cntP (fun s => decide (m.1 30 (25 * 0 + (5 * p + s)) = nI 1)) (vl m 2 1) < vl m 2 1)
theorem half_bits (hW : WT m) (hWS : WS m 0) {p : Nat} (hp : p < vl m 2 0) : (¬ bitsP (fun s => decide (m.1 30 (25 * 0 + (5 * p + s)) = nI 0)) (vl m 2 1) = nI 0 ∧ ¬ bitsP (fun s => decide (m.1 30 (25 * 0 + (5 * p + s)) = nI 1)) (vl m 2 1) = nI 0) ↔ halfP m p = true := by
  obtain ⟨⟨⟨vP, bP⟩, ⟨vS, bS⟩, ⟨vD, bD⟩, ⟨vN, bN⟩, ⟨vW, bW⟩, ⟨vRoom, bRoom⟩, bRoom1, ⟨vStorm, bStorm⟩, ⟨vSeed, bSeed⟩, ⟨vK, bK⟩⟩, wPence, wSort, wDeed, wSend, wWant, wLaw⟩ := id hW
  rw [bits_zero _ bS, bits_zero _ bS, ← cnt_zero, ← cnt_zero]
  have h1 : cntP (fun s => decide (m.1 30 (25 * 0 + (5 * p + s)) = nI 0)) (vl m 2 1) = cntP (fun s => !decide (m.1 30 (25 * 0 + (5 * p + s)) = nI 1)) (vl m 2 1) := by
    refine cntP_congr (fun i hi => ?_)
    have h2 := port01 hWS (p := p) (s := i) (by omega) (by omega) (o := 1) (by omega)
    have h3 : (1 : Int32) - nI 1 = nI 0 := by decide
    rw [h3] at h2
    by_cases b : m.1 30 (25 * 0 + (5 * p + i)) = nI 1
    · rw [decide_eq_false (fun z => h2.mp z b), decide_eq_true b]; rfl
    · rw [decide_eq_true (h2.mpr b), decide_eq_false b]; rfl
  have h4 := cnt_not (fun s => decide (m.1 30 (25 * 0 + (5 * p + s)) = nI 1)) (vl m 2 1)
  rw [h1]
  unfold halfP
  simp only [Bool.and_eq_true, decide_eq_true_eq]
  omega
theorem q_halves (hF : 5000 < F) (h : TS c m T 35 0) : f7_halves F 35 c = some (bitsP (halfP m) (vl m 2 0)) := by
  have h0 := h
  obtain ⟨hT, ht, hf, hp0, hW, hR, hWS, hRS⟩ := id h
  obtain ⟨⟨⟨vP, bP⟩, ⟨vS, bS⟩, ⟨vD, bD⟩, ⟨vN, bN⟩, ⟨vW, bW⟩, ⟨vRoom, bRoom⟩, bRoom1, ⟨vStorm, bStorm⟩, ⟨vSeed, bSeed⟩, ⟨vK, bK⟩⟩, wPence, wSort, wDeed, wSend, wWant, wLaw⟩ := id hW
  obtain ⟨⟨⟨vDay, bDay⟩, ⟨vLast, bLast⟩, ⟨vSends, bSends⟩⟩, sPence, sHL, sPerm1, sPerm2, sSend, sWant, sOwn⟩ := id hWS
  obtain ⟨rCnt, rMan, rSort, rDeed, ⟨rT6, rT8, rT10, rT11, rT12, rT93⟩, rSent, rWanted, rLaw, rCode⟩ := id hR
  obtain ⟨⟨eDay, eLast, eStorms, eSends⟩, ePence, eHL, eSend, eWant⟩ := id hRS
  have e0 := rCnt 0 (by omega)
  have e1 := rCnt 1 (by omega)
  have e2 := rCnt 2 (by omega)
  have gd := fun {α : Type} {k : Nat → Option α} => g_drT (k := k) hp0 hT
  unfold f7_halves f7_halves_b4
  refine g_for (fun i => (bitsP (halfP m) i, nI i)) (vl m 2 0) (fun i hi sf => ?_) (by omega) (fun sf => ?_)
  · have g1 := q_sortsAt hF h0 hi (nI 0)
    have g2 := q_sortsAt hF h0 hi (nI 1)
    have g3 := half_bits hW hWS hi
    simp (disch := omega) only [g_let, g_bs, g_l0, g_l1, g_l2, g_l3, g_l4, g_l5, g_l6, g_l7, g_l8, g_l9, g_l10, g_l11, g_l12, g_l15, g_l20, g_l24, g_l25, g_l30, g_l40, g_l99, g_l100, g_ckN, g_clN, g_ltN, g_leN, g_eqN, pk_mul, nI_add, if_true, if_false, Nat.reduceLT, Nat.reduceLeDiff, Nat.reduceEqDiff, Nat.lt_irrefl, f7_halves_b4_body, f7_halves_b41, gd, e0, vP, hi, g1, g2, bitsP]
    by_cases a : bitsP (fun s => decide (m.1 30 (25 * 0 + (5 * i + s)) = nI 0)) (vl m 2 1) = nI 0
    · rw [if_pos a, if_neg (fun z => (g3.mpr z).1 a)]
    · rw [if_neg a]
      by_cases b : bitsP (fun s => decide (m.1 30 (25 * 0 + (5 * i + s)) = nI 1)) (vl m 2 1) = nI 0
      · rw [if_pos b, if_neg (fun z => (g3.mpr z).2 b)]
      · rw [if_neg b, if_pos (g3.mp ⟨a, b⟩)]
  · simp (disch := omega) only [g_let, g_bs, g_l0, g_l1, g_l2, g_l3, g_l4, g_l5, g_l6, g_l7, g_l8, g_l9, g_l10, g_l11, g_l12, g_l15, g_l20, g_l24, g_l25, g_l30, g_l40, g_l99, g_l100, g_ckN, g_clN, g_ltN, g_leN, g_eqN, pk_mul, nI_add, if_true, if_false, Nat.reduceLT, Nat.reduceLeDiff, Nat.reduceEqDiff, Nat.lt_irrefl, f7_halves_b4_body, gd, e0, vP, Nat.lt_irrefl]
theorem or_0 (x : Int32) : x ||| nI 0 = x := by simp [nI_0]
theorem r_those01 (hF : 5000 < F) (hW : WT m) (hWS : WS m 0) {a : Nat} (ha : a < 2) : f11_those_b20 F (nI a) (nI 0) (nI 0) m = some (bitsP (fun p => if a = 0 then lostP m p else halfP m p) (vl m 2 0), m) := by
  obtain ⟨⟨⟨vP, bP⟩, ⟨vS, bS⟩, ⟨vD, bD⟩, ⟨vN, bN⟩, ⟨vW, bW⟩, ⟨vRoom, bRoom⟩, bRoom1, ⟨vStorm, bStorm⟩, ⟨vSeed, bSeed⟩, ⟨vK, bK⟩⟩, wPence, wSort, wDeed, wSend, wWant, wLaw⟩ := id hW
  obtain ⟨⟨⟨vDay, bDay⟩, ⟨vLast, bLast⟩, ⟨vSends, bSends⟩⟩, sPence, sHL, sPerm1, sPerm2, sSend, sWant, sOwn⟩ := id hWS
  unfold f11_those_b20
  refine g_for (fun i => (bitsP (fun p => if a = 0 then lostP m p else halfP m p) i, nI i, m)) (vl m 2 0) (fun i hi sf => ?_) (by omega) (fun sf => ?_)
  · have g1 := r_awayOf (F := F) hF hW hWS (by omega) hi
    have g2 := r_isLost (F := F) hF hW hi
    have g3 := cntP_le (fun s => decide (m.1 30 (25 * 0 + (5 * i + s)) = nI 1)) (vl m 2 1)
    rcases (show a = 0 ∨ a = 1 by omega) with rfl | rfl
    · simp (disch := omega) only [g_let, g_bs, g_l0, g_l1, g_l2, g_l3, g_l4, g_l5, g_l6, g_l7, g_l8, g_l9, g_l10, g_l11, g_l12, g_l15, g_l20, g_l24, g_l25, g_l30, g_l40, g_l99, g_l100, g_ckN, g_clN, g_ltN, g_leN, g_eqN, pk_mul, nI_add, if_true, if_false, Nat.reduceLT, Nat.reduceLeDiff, Nat.reduceEqDiff, Nat.lt_irrefl, f11_those_b20_body, f11_those_b76, f11_those_b91, vP, hi, g1, g2, bitsP]
      simp only [lostP, Bool.and_eq_true, decide_eq_true_eq, Bool.not_eq_true', decide_eq_false_iff_not]
      by_cases x : fstP (ownP m 0 i) (vl m 2 1) < vl m 2 1
      · rw [if_pos x, if_pos rfl, or_0, if_neg (fun z => z.2 x)]
      · rw [if_neg x]
        by_cases y : 0 < vl m 2 1
        · rw [if_pos y, if_neg (by decide), if_pos ⟨y, x⟩]
        · rw [if_neg y, if_pos rfl, or_0, if_neg (fun z => y z.1)]
    · simp (disch := omega) only [g_let, g_bs, g_l0, g_l1, g_l2, g_l3, g_l4, g_l5, g_l6, g_l7, g_l8, g_l9, g_l10, g_l11, g_l12, g_l15, g_l20, g_l24, g_l25, g_l30, g_l40, g_l99, g_l100, g_ckN, g_clN, g_ltN, g_leN, g_eqN, pk_mul, nI_add, if_true, if_false, Nat.reduceLT, Nat.reduceLeDiff, Nat.reduceEqDiff, Nat.lt_irrefl, f11_those_b20_body, f11_those_b76, f11_those_b75, f11_those_b91, vP, vS, hi, g1, bitsP]
      have g5 : halfP m i = true ↔ (0 < cntP (fun s => decide (m.1 30 (25 * 0 + (5 * i + s)) = nI 1)) (vl m 2 1) ∧ cntP (fun s => decide (m.1 30 (25 * 0 + (5 * i + s)) = nI 1)) (vl m 2 1) < vl m 2 1) := by simp only [halfP, Bool.and_eq_true, decide_eq_true_eq]
      by_cases x : 0 < cntP (fun s => decide (m.1 30 (25 * 0 + (5 * i + s)) = nI 1)) (vl m 2 1)
      · rw [if_pos x]
        by_cases y : cntP (fun s => decide (m.1 30 (25 * 0 + (5 * i + s)) = nI 1)) (vl m 2 1) < vl m 2 1
        · rw [if_pos y]
          simp only [Nat.one_ne_zero, if_false, g5.mpr ⟨x, y⟩, if_true]
        · rw [if_neg y, or_0]
          try simp only [Nat.one_ne_zero, if_false]
          rw [if_neg (fun z => y (g5.mp z).2)]
      · rw [if_neg x, or_0]
        try simp only [Nat.one_ne_zero, if_false]
        rw [if_neg (fun z => x (g5.mp z).1)]
  · have g4 : g_fix (fun sf x => f11_those_b101_body F (nI a) (fun v2 v3 mem => sf (v2, v3, mem)) x.1 x.2.1 x.2.2) F (bitsP (fun p => if a = 0 then lostP m p else halfP m p) (vl m 2 0), nI 0, m) = some (bitsP (fun p => if a = 0 then lostP m p else halfP m p) (vl m 2 0), m) := by
      rw [g_fix_p (by omega)]
      rcases (show a = 0 ∨ a = 1 by omega) with rfl | rfl
      · simp (disch := omega) only [g_let, g_bs, g_l0, g_l1, g_l2, g_l3, g_l4, g_l5, g_l6, g_l7, g_l8, g_l9, g_l10, g_l11, g_l12, g_l15, g_l20, g_l24, g_l25, g_l30, g_l40, g_l99, g_l100, g_ckN, g_clN, g_ltN, g_leN, g_eqN, pk_mul, nI_add, if_true, if_false, Nat.reduceLT, Nat.reduceLeDiff, Nat.reduceEqDiff, Nat.lt_irrefl, f11_those_b101_body, vSends]
        simp
      · simp (disch := omega) only [g_let, g_bs, g_l0, g_l1, g_l2, g_l3, g_l4, g_l5, g_l6, g_l7, g_l8, g_l9, g_l10, g_l11, g_l12, g_l15, g_l20, g_l24, g_l25, g_l30, g_l40, g_l99, g_l100, g_ckN, g_clN, g_ltN, g_leN, g_eqN, pk_mul, nI_add, if_true, if_false, Nat.reduceLT, Nat.reduceLeDiff, Nat.reduceEqDiff, Nat.lt_irrefl, f11_those_b101_body, vSends]
        simp
    simp (disch := omega) only [g_let, g_bs, g_l0, g_l1, g_l2, g_l3, g_l4, g_l5, g_l6, g_l7, g_l8, g_l9, g_l10, g_l11, g_l12, g_l15, g_l20, g_l24, g_l25, g_l30, g_l40, g_l99, g_l100, g_ckN, g_clN, g_ltN, g_leN, g_eqN, pk_mul, nI_add, if_true, if_false, Nat.reduceLT, Nat.reduceLeDiff, Nat.reduceEqDiff, Nat.lt_irrefl, f11_those_b20_body, f11_those_b99, f11_those_b101, vP, Nat.lt_irrefl]
    exact g4
theorem r_those2 (hF : 5000 < F) (hWS : WS m 0) (hW : WT m) : f11_those_b20 F (nI 2) (nI 0) (nI 0) m = some (bitsP (isDueP m 0) (vl m 27 0), m) := by
  obtain ⟨⟨⟨vP, bP⟩, ⟨vS, bS⟩, ⟨vD, bD⟩, ⟨vN, bN⟩, ⟨vW, bW⟩, ⟨vRoom, bRoom⟩, bRoom1, ⟨vStorm, bStorm⟩, ⟨vSeed, bSeed⟩, ⟨vK, bK⟩⟩, wPence, wSort, wDeed, wSend, wWant, wLaw⟩ := id hW
  obtain ⟨⟨⟨vDay, bDay⟩, ⟨vLast, bLast⟩, ⟨vSends, bSends⟩⟩, sPence, sHL, sPerm1, sPerm2, sSend, sWant, sOwn⟩ := id hWS
  have g4 : f11_those_b99 F (nI 2) (nI 0) m = some (bitsP (isDueP m 0) (vl m 27 0), m) := by
    unfold f11_those_b99 f11_those_b101
    refine g_for (fun i => (bitsP (isDueP m 0) i, nI i, m)) (vl m 27 0) (fun i hi sf => ?_) (by omega) (fun sf => ?_)
    · have g1 := r_isDue (F := F) hWS (by omega) (n := i) (by omega)
      simp (disch := omega) only [g_let, g_bs, g_l0, g_l1, g_l2, g_l3, g_l4, g_l5, g_l6, g_l7, g_l8, g_l9, g_l10, g_l11, g_l12, g_l15, g_l20, g_l24, g_l25, g_l30, g_l40, g_l99, g_l100, g_ckN, g_clN, g_ltN, g_leN, g_eqN, pk_mul, nI_add, if_true, if_false, Nat.reduceLT, Nat.reduceLeDiff, Nat.reduceEqDiff, Nat.lt_irrefl, f11_those_b101_body, f11_those_b133, vSends, hi, g1, bitsP]
      by_cases x : isDueP m 0 i = true
      · simp only [x, if_true]
        rw [if_neg (by decide)]
      · simp only [x, if_false, if_true]
        simp [or_0]
    · simp (disch := omega) only [g_let, g_bs, g_l0, g_l1, g_l2, g_l3, g_l4, g_l5, g_l6, g_l7, g_l8, g_l9, g_l10, g_l11, g_l12, g_l15, g_l20, g_l24, g_l25, g_l30, g_l40, g_l99, g_l100, g_ckN, g_clN, g_ltN, g_leN, g_eqN, pk_mul, nI_add, if_true, if_false, Nat.reduceLT, Nat.reduceLeDiff, Nat.reduceEqDiff, Nat.lt_irrefl, f11_those_b101_body, vSends, Nat.lt_irrefl]
  unfold f11_those_b20
  rw [g_fix_p (by omega)]
  simp (disch := omega) only [g_let, g_bs, g_l0, g_l1, g_l2, g_l3, g_l4, g_l5, g_l6, g_l7, g_l8, g_l9, g_l10, g_l11, g_l12, g_l15, g_l20, g_l24, g_l25, g_l30, g_l40, g_l99, g_l100, g_ckN, g_clN, g_ltN, g_leN, g_eqN, pk_mul, nI_add, if_true, if_false, Nat.reduceLT, Nat.reduceLeDiff, Nat.reduceEqDiff, Nat.lt_irrefl, f11_those_b20_body, vP]
  rw [g4]
  split <;> rfl
end Q3
