/-! queries of a State: what both sides answer -/
/-- bits by a property, counts, sums, from 0 on -/
def bitsP (P : Nat → Bool) : Nat → Int32
  | 0 => nI 0
  | n + 1 => if P n = true then bitsP P n ||| (nI 1 <<< (nI n &&& 31)) else bitsP P n
def cntP (P : Nat → Bool) : Nat → Nat
  | 0 => 0
  | n + 1 => cntP P n + (if P n = true then 1 else 0)
def sumI (g : Nat → Int32) : Nat → Int32
  | 0 => nI 0
  | n + 1 => sumI g n + g n
theorem cntP_le (P : Nat → Bool) : ∀ n, cntP P n ≤ n := by
  intro n
  induction n with
  | zero => exact Nat.le_refl 0
  | succ n ih => unfold cntP; split <;> omega
theorem bitsP_congr {P Q : Nat → Bool} {n : Nat} (h : ∀ i, i < n → P i = Q i) : bitsP P n = bitsP Q n := by
  induction n with
  | zero => rfl
  | succ n ih => unfold bitsP; rw [ih (fun i hi => h i (by omega)), h n (by omega)]
theorem cntP_congr {P Q : Nat → Bool} {n : Nat} (h : ∀ i, i < n → P i = Q i) : cntP P n = cntP Q n := by
  induction n with
  | zero => rfl
  | succ n ih => unfold cntP; rw [ih (fun i hi => h i (by omega)), h n (by omega)]
def jb (a0 : Int32) : Int32 :=
  let x1 := a0 - ((a0.toUInt32 >>> ((1 : Int32).toUInt32 &&& Int32.toUInt32 31)).toInt32 &&& (1431655765 : Int32))
  let x2 := (x1 &&& (858993459 : Int32)) + ((x1.toUInt32 >>> ((2 : Int32).toUInt32 &&& Int32.toUInt32 31)).toInt32 &&& (858993459 : Int32))
  let x3 := (x2 + (x2.toUInt32 >>> ((4 : Int32).toUInt32 &&& Int32.toUInt32 31)).toInt32) &&& (252645135 : Int32)
  let x4 := x3 + (x3.toUInt32 >>> ((8 : Int32).toUInt32 &&& Int32.toUInt32 31)).toInt32
  let x5 := x4 + (x4.toUInt32 >>> ((16 : Int32).toUInt32 &&& Int32.toUInt32 31)).toInt32
  x5 &&& (63 : Int32)
theorem jbc_eq (F : Nat) (a : Int32) (c : g_M) : fjbc F a c = some (jb a) := rfl
theorem jb_bits (P : Nat → Bool) : ∀ n, n ≤ 5 → jb (bitsP P n) = nI (cntP P n) := by
  have key : ∀ b0 b1 b2 b3 b4 : Bool, ∀ n, n ≤ 5 → jb (bitsP (fun i => if i = 0 then b0 else if i = 1 then b1 else if i = 2 then b2 else if i = 3 then b3 else b4) n) = nI (cntP (fun i => if i = 0 then b0 else if i = 1 then b1 else if i = 2 then b2 else if i = 3 then b3 else b4) n) := by decide +kernel
  intro n hn
  have h : ∀ i, i < n → P i = (fun i => if i = 0 then P 0 else if i = 1 then P 1 else if i = 2 then P 2 else if i = 3 then P 3 else P 4) i := by
    intro i hi
    rcases (show i = 0 ∨ i = 1 ∨ i = 2 ∨ i = 3 ∨ i = 4 by omega) with rfl | rfl | rfl | rfl | rfl <;> rfl
  rw [bitsP_congr h, cntP_congr h]
  exact key _ _ _ _ _ n hn
section Q
variable {F : Nat} {c m : g_M} {T t f : Nat}
theorem q_sortsAt (hF : 5000 < F) (h : TS c m T t f) {p : Nat} (hp : p < vl m 2 0) (v : Int32) : f7_sortsAt F t (nI p) v c = some (bitsP (fun s => decide (m.1 30 (25 * f + (5 * p + s)) = v)) (vl m 2 1)) := by
  obtain ⟨hT, ht, hf, hp0, hW, hR, hWS, hRS⟩ := id h
  obtain ⟨⟨⟨vP, bP⟩, ⟨vS, bS⟩, ⟨vD, bD⟩, ⟨vN, bN⟩, ⟨vW, bW⟩, ⟨vRoom, bRoom⟩, bRoom1, ⟨vStorm, bStorm⟩, ⟨vSeed, bSeed⟩, ⟨vK, bK⟩⟩, wPence, wSort, wDeed, wSend, wWant, wLaw⟩ := id hW
  obtain ⟨⟨⟨vDay, bDay⟩, ⟨vLast, bLast⟩, ⟨vSends, bSends⟩⟩, sPence, sHL, sPerm1, sPerm2, sSend, sWant, sOwn⟩ := id hWS
  obtain ⟨rCnt, rMan, rSort, rDeed, ⟨rT6, rT8, rT10, rT11, rT12, rT93⟩, rSent, rWanted, rLaw, rCode⟩ := id hR
  obtain ⟨⟨eDay, eLast, eStorms, eSends⟩, ePence, eHL, eSend, eWant⟩ := id hRS
  have e0 := rCnt 0 (by omega)
  have e1 := rCnt 1 (by omega)
  have e2 := rCnt 2 (by omega)
  have gd := fun {α : Type} {k : Nat → Option α} => g_drT (k := k) hp0 hT
  unfold f7_sortsAt f7_sortsAt_b5
  refine g_for (fun i => (bitsP (fun s => decide (m.1 30 (25 * f + (5 * p + s)) = v)) i, nI i)) (vl m 2 1) (fun i hi sf => ?_) (by omega) (fun sf => ?_)
  · have h3 := (eHL (5 * p + i) (by omega)).2
    simp (disch := omega) only [g_let, g_bs, g_l0, g_l1, g_l2, g_l3, g_l4, g_l5, g_l6, g_l7, g_l8, g_l9, g_l10, g_l11, g_l12, g_l15, g_l20, g_l24, g_l25, g_l30, g_l40, g_l99, g_l100, g_ckN, g_clN, g_ltN, g_leN, g_eqN, pk_mul, nI_add, if_true, if_false, Nat.reduceLT, Nat.reduceLeDiff, Nat.reduceEqDiff, Nat.lt_irrefl, f7_sortsAt_b5_body, f7_sortsAt_b41, gd, e1, vS, hi, Nat.mul_comm p 5, h3, bitsP, decide_eq_true_eq]
    split <;> rfl
  · simp (disch := omega) only [g_let, g_bs, g_l0, g_l1, g_l2, g_l3, g_l4, g_l5, g_l6, g_l7, g_l8, g_l9, g_l10, g_l11, g_l12, g_l15, g_l20, g_l24, g_l25, g_l30, g_l40, g_l99, g_l100, g_ckN, g_clN, g_ltN, g_leN, g_eqN, pk_mul, nI_add, if_true, if_false, Nat.reduceLT, Nat.reduceLeDiff, Nat.reduceEqDiff, Nat.lt_irrefl, f7_sortsAt_b5_body, gd, e1, vS, Nat.lt_irrefl]
theorem q_ownSorts (hF : 5000 < F) (h : TS c m T t f) {p : Nat} (hp : p < vl m 2 0) : f7_ownSorts F t (nI p) c = some (bitsP (fun s => decide (m.1 29 (25 * f + (5 * p + s)) = nI p)) (vl m 2 1)) := by
  obtain ⟨hT, ht, hf, hp0, hW, hR, hWS, hRS⟩ := id h
  obtain ⟨⟨⟨vP, bP⟩, ⟨vS, bS⟩, ⟨vD, bD⟩, ⟨vN, bN⟩, ⟨vW, bW⟩, ⟨vRoom, bRoom⟩, bRoom1, ⟨vStorm, bStorm⟩, ⟨vSeed, bSeed⟩, ⟨vK, bK⟩⟩, wPence, wSort, wDeed, wSend, wWant, wLaw⟩ := id hW
  obtain ⟨⟨⟨vDay, bDay⟩, ⟨vLast, bLast⟩, ⟨vSends, bSends⟩⟩, sPence, sHL, sPerm1, sPerm2, sSend, sWant, sOwn⟩ := id hWS
  obtain ⟨rCnt, rMan, rSort, rDeed, ⟨rT6, rT8, rT10, rT11, rT12, rT93⟩, rSent, rWanted, rLaw, rCode⟩ := id hR
  obtain ⟨⟨eDay, eLast, eStorms, eSends⟩, ePence, eHL, eSend, eWant⟩ := id hRS
  have e0 := rCnt 0 (by omega)
  have e1 := rCnt 1 (by omega)
  have e2 := rCnt 2 (by omega)
  have gd := fun {α : Type} {k : Nat → Option α} => g_drT (k := k) hp0 hT
  unfold f7_ownSorts f7_ownSorts_b4
  refine g_for (fun i => (bitsP (fun s => decide (m.1 29 (25 * f + (5 * p + s)) = nI p)) i, nI i)) (vl m 2 1) (fun i hi sf => ?_) (by omega) (fun sf => ?_)
  · have h3 := (eHL (5 * p + i) (by omega)).1 (by omega)
    simp (disch := omega) only [g_let, g_bs, g_l0, g_l1, g_l2, g_l3, g_l4, g_l5, g_l6, g_l7, g_l8, g_l9, g_l10, g_l11, g_l12, g_l15, g_l20, g_l24, g_l25, g_l30, g_l40, g_l99, g_l100, g_ckN, g_clN, g_ltN, g_leN, g_eqN, pk_mul, nI_add, if_true, if_false, Nat.reduceLT, Nat.reduceLeDiff, Nat.reduceEqDiff, Nat.lt_irrefl, f7_ownSorts_b4_body, f7_ownSorts_b37, gd, e1, vS, hi, Nat.mul_comm p 5, h3, bitsP, decide_eq_true_eq]
    split <;> rfl
  · simp (disch := omega) only [g_let, g_bs, g_l0, g_l1, g_l2, g_l3, g_l4, g_l5, g_l6, g_l7, g_l8, g_l9, g_l10, g_l11, g_l12, g_l15, g_l20, g_l24, g_l25, g_l30, g_l40, g_l99, g_l100, g_ckN, g_clN, g_ltN, g_leN, g_eqN, pk_mul, nI_add, if_true, if_false, Nat.reduceLT, Nat.reduceLeDiff, Nat.reduceEqDiff, Nat.lt_irrefl, f7_ownSorts_b4_body, gd, e1, vS, Nat.lt_irrefl]
theorem q_sendingAt (h : TS c m T t f) {n k : Nat} (hn : n < 12) (hk : k < 4) : f7_sendingAt F t (nI n) (nI k) c = some (c.1 (t + 4) (4 * n + k)) := by
  simp (disch := omega) only [g_let, g_bs, g_l0, g_l1, g_l2, g_l3, g_l4, g_l5, g_l6, g_l7, g_l8, g_l9, g_l10, g_l11, g_l12, g_l15, g_l20, g_l24, g_l25, g_l30, g_l40, g_l99, g_l100, g_ckN, g_clN, g_ltN, g_leN, g_eqN, pk_mul, nI_add, if_true, if_false, Nat.reduceLT, Nat.reduceLeDiff, Nat.reduceEqDiff, Nat.lt_irrefl, f7_sendingAt, Nat.mul_comm n 4]
theorem q_wantAt {n k : Nat} (hn : n < 8) (hk : k < 5) : f9_wantAt F T (nI n) (nI k) c = some (c.1 (T + 8) (5 * n + k)) := by
  simp (disch := omega) only [g_let, g_bs, g_l0, g_l1, g_l2, g_l3, g_l4, g_l5, g_l6, g_l7, g_l8, g_l9, g_l10, g_l11, g_l12, g_l15, g_l20, g_l24, g_l25, g_l30, g_l40, g_l99, g_l100, g_ckN, g_clN, g_ltN, g_leN, g_eqN, pk_mul, nI_add, if_true, if_false, Nat.reduceLT, Nat.reduceLeDiff, Nat.reduceEqDiff, Nat.lt_irrefl, f9_wantAt, Nat.mul_comm n 5]
def isDueP (m : g_M) (f n : Nat) : Bool := decide (m.1 35 (12 * f + n) = nI 0) && decide (m.1 34 (12 * f + n) ≤ m.1 24 f)
theorem q_isDue (h : TS c m T t f) {n : Nat} (hn : n < vl m 27 f) : f7_isDue F t (nI n) c = some (if isDueP m f n = true then nI 1 else nI 0) := by
  have h0 := h
  obtain ⟨hT, ht, hf, hp0, hW, hR, hWS, hRS⟩ := id h
  obtain ⟨⟨⟨vP, bP⟩, ⟨vS, bS⟩, ⟨vD, bD⟩, ⟨vN, bN⟩, ⟨vW, bW⟩, ⟨vRoom, bRoom⟩, bRoom1, ⟨vStorm, bStorm⟩, ⟨vSeed, bSeed⟩, ⟨vK, bK⟩⟩, wPence, wSort, wDeed, wSend, wWant, wLaw⟩ := id hW
  obtain ⟨⟨⟨vDay, bDay⟩, ⟨vLast, bLast⟩, ⟨vSends, bSends⟩⟩, sPence, sHL, sPerm1, sPerm2, sSend, sWant, sOwn⟩ := id hWS
  obtain ⟨rCnt, rMan, rSort, rDeed, ⟨rT6, rT8, rT10, rT11, rT12, rT93⟩, rSent, rWanted, rLaw, rCode⟩ := id hR
  obtain ⟨⟨eDay, eLast, eStorms, eSends⟩, ePence, eHL, eSend, eWant⟩ := id hRS
  have e0 := rCnt 0 (by omega)
  have e1 := rCnt 1 (by omega)
  have e2 := rCnt 2 (by omega)
  have gd := fun {α : Type} {k : Nat → Option α} => g_drT (k := k) hp0 hT
  have h1 := eSend n hn
  have g1 := q_sendingAt (F := F) h0 (n := n) (k := 3) (by omega) (by omega)
  have g2 := q_sendingAt (F := F) h0 (n := n) (k := 2) (by omega) (by omega)
  simp (disch := omega) only [g_let, g_bs, g_l0, g_l1, g_l2, g_l3, g_l4, g_l5, g_l6, g_l7, g_l8, g_l9, g_l10, g_l11, g_l12, g_l15, g_l20, g_l24, g_l25, g_l30, g_l40, g_l99, g_l100, g_ckN, g_clN, g_ltN, g_leN, g_eqN, pk_mul, nI_add, if_true, if_false, Nat.reduceLT, Nat.reduceLeDiff, Nat.reduceEqDiff, Nat.lt_irrefl, f7_isDue, g1, g2, h1.2.2.1, h1.2.2.2, eDay, isDueP, Bool.and_eq_true, decide_eq_true_eq]
  by_cases a : m.1 35 (12 * f + n) = nI 0
  · by_cases b : m.1 34 (12 * f + n) ≤ m.1 24 f <;> simp [a, b]
  · simp [a]
theorem q_dueSendings (hF : 5000 < F) (h : TS c m T t f) : f7_dueSendings F t c = some (bitsP (isDueP m f) (vl m 27 f)) := by
  have h0 := h
  obtain ⟨hT, ht, hf, hp0, hW, hR, hWS, hRS⟩ := id h
  obtain ⟨⟨⟨vP, bP⟩, ⟨vS, bS⟩, ⟨vD, bD⟩, ⟨vN, bN⟩, ⟨vW, bW⟩, ⟨vRoom, bRoom⟩, bRoom1, ⟨vStorm, bStorm⟩, ⟨vSeed, bSeed⟩, ⟨vK, bK⟩⟩, wPence, wSort, wDeed, wSend, wWant, wLaw⟩ := id hW
  obtain ⟨⟨⟨vDay, bDay⟩, ⟨vLast, bLast⟩, ⟨vSends, bSends⟩⟩, sPence, sHL, sPerm1, sPerm2, sSend, sWant, sOwn⟩ := id hWS
  obtain ⟨rCnt, rMan, rSort, rDeed, ⟨rT6, rT8, rT10, rT11, rT12, rT93⟩, rSent, rWanted, rLaw, rCode⟩ := id hR
  obtain ⟨⟨eDay, eLast, eStorms, eSends⟩, ePence, eHL, eSend, eWant⟩ := id hRS
  have e0 := rCnt 0 (by omega)
  have e1 := rCnt 1 (by omega)
  have e2 := rCnt 2 (by omega)
  have gd := fun {α : Type} {k : Nat → Option α} => g_drT (k := k) hp0 hT
  unfold f7_dueSendings f7_dueSendings_b4
  refine g_for (fun i => (bitsP (isDueP m f) i, nI i)) (vl m 27 f) (fun i hi sf => ?_) (by omega) (fun sf => ?_)
  · have g1 := q_isDue (F := F) h0 hi
    simp (disch := omega) only [g_let, g_bs, g_l0, g_l1, g_l2, g_l3, g_l4, g_l5, g_l6, g_l7, g_l8, g_l9, g_l10, g_l11, g_l12, g_l15, g_l20, g_l24, g_l25, g_l30, g_l40, g_l99, g_l100, g_ckN, g_clN, g_ltN, g_leN, g_eqN, pk_mul, nI_add, if_true, if_false, Nat.reduceLT, Nat.reduceLeDiff, Nat.reduceEqDiff, Nat.lt_irrefl, f7_dueSendings_b4_body, f7_dueSendings_b26, eSends, vSends, hi, g1, bitsP]
    by_cases a : isDueP m f i = true
    · simp only [a, if_true]
      rw [if_neg (by decide)]
    · simp only [a, if_true, if_false]
      rfl
  · simp (disch := omega) only [g_let, g_bs, g_l0, g_l1, g_l2, g_l3, g_l4, g_l5, g_l6, g_l7, g_l8, g_l9, g_l10, g_l11, g_l12, g_l15, g_l20, g_l24, g_l25, g_l30, g_l40, g_l99, g_l100, g_ckN, g_clN, g_ltN, g_leN, g_eqN, pk_mul, nI_add, if_true, if_false, Nat.reduceLT, Nat.reduceLeDiff, Nat.reduceEqDiff, Nat.lt_irrefl, f7_dueSendings_b4_body, eSends, vSends, Nat.lt_irrefl]
theorem q_sendingsGone (hF : 5000 < F) (h : TS c m T t f) : f7_sendingsGone F t c = some (nI (cntP (fun n => decide (m.1 35 (12 * f + n) = nI 1)) (vl m 27 f))) := by
  have h0 := h
  obtain ⟨hT, ht, hf, hp0, hW, hR, hWS, hRS⟩ := id h
  obtain ⟨⟨⟨vP, bP⟩, ⟨vS, bS⟩, ⟨vD, bD⟩, ⟨vN, bN⟩, ⟨vW, bW⟩, ⟨vRoom, bRoom⟩, bRoom1, ⟨vStorm, bStorm⟩, ⟨vSeed, bSeed⟩, ⟨vK, bK⟩⟩, wPence, wSort, wDeed, wSend, wWant, wLaw⟩ := id hW
  obtain ⟨⟨⟨vDay, bDay⟩, ⟨vLast, bLast⟩, ⟨vSends, bSends⟩⟩, sPence, sHL, sPerm1, sPerm2, sSend, sWant, sOwn⟩ := id hWS
  obtain ⟨rCnt, rMan, rSort, rDeed, ⟨rT6, rT8, rT10, rT11, rT12, rT93⟩, rSent, rWanted, rLaw, rCode⟩ := id hR
  obtain ⟨⟨eDay, eLast, eStorms, eSends⟩, ePence, eHL, eSend, eWant⟩ := id hRS
  have e0 := rCnt 0 (by omega)
  have e1 := rCnt 1 (by omega)
  have e2 := rCnt 2 (by omega)
  have gd := fun {α : Type} {k : Nat → Option α} => g_drT (k := k) hp0 hT
  unfold f7_sendingsGone f7_sendingsGone_b4
  refine g_for (fun i => (nI (cntP (fun n => decide (m.1 35 (12 * f + n) = nI 1)) i), nI i)) (vl m 27 f) (fun i hi sf => ?_) (by omega) (fun sf => ?_)
  · have g1 := q_sendingAt (F := F) h0 (n := i) (k := 3) (by omega) (by omega)
    have h1 := eSend i hi
    simp (disch := omega) only [g_let, g_bs, g_l0, g_l1, g_l2, g_l3, g_l4, g_l5, g_l6, g_l7, g_l8, g_l9, g_l10, g_l11, g_l12, g_l15, g_l20, g_l24, g_l25, g_l30, g_l40, g_l99, g_l100, g_ckN, g_clN, g_ltN, g_leN, g_eqN, pk_mul, nI_add, if_true, if_false, Nat.reduceLT, Nat.reduceLeDiff, Nat.reduceEqDiff, Nat.lt_irrefl, f7_sendingsGone_b4_body, f7_sendingsGone_b28, eSends, vSends, hi, g1, h1.2.2.2, cntP, decide_eq_true_eq]
    split <;> rfl
  · simp (disch := omega) only [g_let, g_bs, g_l0, g_l1, g_l2, g_l3, g_l4, g_l5, g_l6, g_l7, g_l8, g_l9, g_l10, g_l11, g_l12, g_l15, g_l20, g_l24, g_l25, g_l30, g_l40, g_l99, g_l100, g_ckN, g_clN, g_ltN, g_leN, g_eqN, pk_mul, nI_add, if_true, if_false, Nat.reduceLT, Nat.reduceLeDiff, Nat.reduceEqDiff, Nat.lt_irrefl, f7_sendingsGone_b4_body, eSends, vSends, Nat.lt_irrefl]
theorem q_wantsThatAre (hF : 5000 < F) (h : TS c m T t f) (v : Int32) : f7_wantsThatAre F t v c = some (nI (cntP (fun w => decide (m.1 31 (8 * f + w) = v)) (vl m 2 4))) := by
  obtain ⟨hT, ht, hf, hp0, hW, hR, hWS, hRS⟩ := id h
  obtain ⟨⟨⟨vP, bP⟩, ⟨vS, bS⟩, ⟨vD, bD⟩, ⟨vN, bN⟩, ⟨vW, bW⟩, ⟨vRoom, bRoom⟩, bRoom1, ⟨vStorm, bStorm⟩, ⟨vSeed, bSeed⟩, ⟨vK, bK⟩⟩, wPence, wSort, wDeed, wSend, wWant, wLaw⟩ := id hW
  obtain ⟨⟨⟨vDay, bDay⟩, ⟨vLast, bLast⟩, ⟨vSends, bSends⟩⟩, sPence, sHL, sPerm1, sPerm2, sSend, sWant, sOwn⟩ := id hWS
  obtain ⟨rCnt, rMan, rSort, rDeed, ⟨rT6, rT8, rT10, rT11, rT12, rT93⟩, rSent, rWanted, rLaw, rCode⟩ := id hR
  obtain ⟨⟨eDay, eLast, eStorms, eSends⟩, ePence, eHL, eSend, eWant⟩ := id hRS
  have e0 := rCnt 0 (by omega)
  have e1 := rCnt 1 (by omega)
  have e2 := rCnt 2 (by omega)
  have gd := fun {α : Type} {k : Nat → Option α} => g_drT (k := k) hp0 hT
  unfold f7_wantsThatAre f7_wantsThatAre_b4
  refine g_for (fun i => (nI (cntP (fun w => decide (m.1 31 (8 * f + w) = v)) i), nI i)) (vl m 2 4) (fun i hi sf => ?_) (by omega) (fun sf => ?_)
  · have h1 := eWant i (by omega)
    simp (disch := omega) only [g_let, g_bs, g_l0, g_l1, g_l2, g_l3, g_l4, g_l5, g_l6, g_l7, g_l8, g_l9, g_l10, g_l11, g_l12, g_l15, g_l20, g_l24, g_l25, g_l30, g_l40, g_l99, g_l100, g_ckN, g_clN, g_ltN, g_leN, g_eqN, pk_mul, nI_add, if_true, if_false, Nat.reduceLT, Nat.reduceLeDiff, Nat.reduceEqDiff, Nat.lt_irrefl, f7_wantsThatAre_b4_body, f7_wantsThatAre_b31, gd, rT8, vW, hi, h1, cntP, decide_eq_true_eq]
    split <;> rfl
  · simp (disch := omega) only [g_let, g_bs, g_l0, g_l1, g_l2, g_l3, g_l4, g_l5, g_l6, g_l7, g_l8, g_l9, g_l10, g_l11, g_l12, g_l15, g_l20, g_l24, g_l25, g_l30, g_l40, g_l99, g_l100, g_ckN, g_clN, g_ltN, g_leN, g_eqN, pk_mul, nI_add, if_true, if_false, Nat.reduceLT, Nat.reduceLeDiff, Nat.reduceEqDiff, Nat.lt_irrefl, f7_wantsThatAre_b4_body, gd, rT8, vW, Nat.lt_irrefl]
theorem q_wantsOf (hF : 5000 < F) (h : TS c m T t f) (p v : Int32) : f7_wantsOf F t p v c = some (nI (cntP (fun w => decide (m.1 13 w = p) && decide (m.1 31 (8 * f + w) = v)) (vl m 2 4))) := by
  obtain ⟨hT, ht, hf, hp0, hW, hR, hWS, hRS⟩ := id h
  obtain ⟨⟨⟨vP, bP⟩, ⟨vS, bS⟩, ⟨vD, bD⟩, ⟨vN, bN⟩, ⟨vW, bW⟩, ⟨vRoom, bRoom⟩, bRoom1, ⟨vStorm, bStorm⟩, ⟨vSeed, bSeed⟩, ⟨vK, bK⟩⟩, wPence, wSort, wDeed, wSend, wWant, wLaw⟩ := id hW
  obtain ⟨⟨⟨vDay, bDay⟩, ⟨vLast, bLast⟩, ⟨vSends, bSends⟩⟩, sPence, sHL, sPerm1, sPerm2, sSend, sWant, sOwn⟩ := id hWS
  obtain ⟨rCnt, rMan, rSort, rDeed, ⟨rT6, rT8, rT10, rT11, rT12, rT93⟩, rSent, rWanted, rLaw, rCode⟩ := id hR
  obtain ⟨⟨eDay, eLast, eStorms, eSends⟩, ePence, eHL, eSend, eWant⟩ := id hRS
  have e0 := rCnt 0 (by omega)
  have e1 := rCnt 1 (by omega)
  have e2 := rCnt 2 (by omega)
  have gd := fun {α : Type} {k : Nat → Option α} => g_drT (k := k) hp0 hT
  unfold f7_wantsOf f7_wantsOf_b5
  refine g_for (fun i => (nI (cntP (fun w => decide (m.1 13 w = p) && decide (m.1 31 (8 * f + w) = v)) i), nI i)) (vl m 2 4) (fun i hi sf => ?_) (by omega) (fun sf => ?_)
  · have h1 := eWant i (by omega)
    have h2 := (rWanted i hi).1
    have g1 := q_wantAt (F := F) (c := c) (T := T) (n := i) (k := 0) (by omega) (by omega)
    simp only [Nat.add_zero, h2] at g1
    simp (disch := omega) only [g_let, g_bs, g_l0, g_l1, g_l2, g_l3, g_l4, g_l5, g_l6, g_l7, g_l8, g_l9, g_l10, g_l11, g_l12, g_l15, g_l20, g_l24, g_l25, g_l30, g_l40, g_l99, g_l100, g_ckN, g_clN, g_ltN, g_leN, g_eqN, pk_mul, nI_add, if_true, if_false, Nat.reduceLT, Nat.reduceLeDiff, Nat.reduceEqDiff, Nat.lt_irrefl, f7_wantsOf_b5_body, f7_wantsOf_b48, f7_wantsOf_b47, gd, rT8, vW, hi, g1, h1, cntP, Bool.and_eq_true, decide_eq_true_eq]
    by_cases a : m.1 13 i = p
    · by_cases b : m.1 31 (8 * f + i) = v <;> simp [a, b]
    · simp [a]
  · simp (disch := omega) only [g_let, g_bs, g_l0, g_l1, g_l2, g_l3, g_l4, g_l5, g_l6, g_l7, g_l8, g_l9, g_l10, g_l11, g_l12, g_l15, g_l20, g_l24, g_l25, g_l30, g_l40, g_l99, g_l100, g_ckN, g_clN, g_ltN, g_leN, g_eqN, pk_mul, nI_add, if_true, if_false, Nat.reduceLT, Nat.reduceLeDiff, Nat.reduceEqDiff, Nat.lt_irrefl, f7_wantsOf_b5_body, gd, rT8, vW, Nat.lt_irrefl]
theorem q_allPence (hF : 5000 < F) (h : TS c m T t f) : f7_allPence F t c = some (sumI (fun p => m.1 28 (5 * f + p)) (vl m 2 0)) := by
  obtain ⟨hT, ht, hf, hp0, hW, hR, hWS, hRS⟩ := id h
  obtain ⟨⟨⟨vP, bP⟩, ⟨vS, bS⟩, ⟨vD, bD⟩, ⟨vN, bN⟩, ⟨vW, bW⟩, ⟨vRoom, bRoom⟩, bRoom1, ⟨vStorm, bStorm⟩, ⟨vSeed, bSeed⟩, ⟨vK, bK⟩⟩, wPence, wSort, wDeed, wSend, wWant, wLaw⟩ := id hW
  obtain ⟨⟨⟨vDay, bDay⟩, ⟨vLast, bLast⟩, ⟨vSends, bSends⟩⟩, sPence, sHL, sPerm1, sPerm2, sSend, sWant, sOwn⟩ := id hWS
  obtain ⟨rCnt, rMan, rSort, rDeed, ⟨rT6, rT8, rT10, rT11, rT12, rT93⟩, rSent, rWanted, rLaw, rCode⟩ := id hR
  obtain ⟨⟨eDay, eLast, eStorms, eSends⟩, ePence, eHL, eSend, eWant⟩ := id hRS
  have e0 := rCnt 0 (by omega)
  have e1 := rCnt 1 (by omega)
  have e2 := rCnt 2 (by omega)
  have gd := fun {α : Type} {k : Nat → Option α} => g_drT (k := k) hp0 hT
  unfold f7_allPence f7_allPence_b4
  refine g_for (fun i => (sumI (fun p => m.1 28 (5 * f + p)) i, nI i)) (vl m 2 0) (fun i hi sf => ?_) (by omega) (fun sf => ?_)
  · have h1 := ePence i hi
    simp (disch := omega) only [g_let, g_bs, g_l0, g_l1, g_l2, g_l3, g_l4, g_l5, g_l6, g_l7, g_l8, g_l9, g_l10, g_l11, g_l12, g_l15, g_l20, g_l24, g_l25, g_l30, g_l40, g_l99, g_l100, g_ckN, g_clN, g_ltN, g_leN, g_eqN, pk_mul, nI_add, if_true, if_false, Nat.reduceLT, Nat.reduceLeDiff, Nat.reduceEqDiff, Nat.lt_irrefl, f7_allPence_b4_body, gd, e0, vP, hi, h1, sumI]
  · simp (disch := omega) only [g_let, g_bs, g_l0, g_l1, g_l2, g_l3, g_l4, g_l5, g_l6, g_l7, g_l8, g_l9, g_l10, g_l11, g_l12, g_l15, g_l20, g_l24, g_l25, g_l30, g_l40, g_l99, g_l100, g_ckN, g_clN, g_ltN, g_leN, g_eqN, pk_mul, nI_add, if_true, if_false, Nat.reduceLT, Nat.reduceLeDiff, Nat.reduceEqDiff, Nat.lt_irrefl, f7_allPence_b4_body, gd, e0, vP, Nat.lt_irrefl]
theorem q_away (hF : 5000 < F) (h : TS c m T t f) {p : Nat} (hp : p < vl m 2 0) : f7_away F t (nI p) c = some (nI (cntP (fun s => decide (m.1 30 (25 * f + (5 * p + s)) = nI 1)) (vl m 2 1))) := by
  have g1 := q_sortsAt hF h hp (nI 1)
  obtain ⟨hT, ht, hf, hp0, hW, hR, hWS, hRS⟩ := id h
  obtain ⟨⟨⟨vP, bP⟩, ⟨vS, bS⟩, ⟨vD, bD⟩, ⟨vN, bN⟩, ⟨vW, bW⟩, ⟨vRoom, bRoom⟩, bRoom1, ⟨vStorm, bStorm⟩, ⟨vSeed, bSeed⟩, ⟨vK, bK⟩⟩, wPence, wSort, wDeed, wSend, wWant, wLaw⟩ := id hW
  obtain ⟨⟨⟨vDay, bDay⟩, ⟨vLast, bLast⟩, ⟨vSends, bSends⟩⟩, sPence, sHL, sPerm1, sPerm2, sSend, sWant, sOwn⟩ := id hWS
  obtain ⟨rCnt, rMan, rSort, rDeed, ⟨rT6, rT8, rT10, rT11, rT12, rT93⟩, rSent, rWanted, rLaw, rCode⟩ := id hR
  obtain ⟨⟨eDay, eLast, eStorms, eSends⟩, ePence, eHL, eSend, eWant⟩ := id hRS
  have e0 := rCnt 0 (by omega)
  have e1 := rCnt 1 (by omega)
  have e2 := rCnt 2 (by omega)
  have gd := fun {α : Type} {k : Nat → Option α} => g_drT (k := k) hp0 hT
  simp (disch := omega) only [g_let, g_bs, g_l0, g_l1, g_l2, g_l3, g_l4, g_l5, g_l6, g_l7, g_l8, g_l9, g_l10, g_l11, g_l12, g_l15, g_l20, g_l24, g_l25, g_l30, g_l40, g_l99, g_l100, g_ckN, g_clN, g_ltN, g_leN, g_eqN, pk_mul, nI_add, if_true, if_false, Nat.reduceLT, Nat.reduceLeDiff, Nat.reduceEqDiff, Nat.lt_irrefl, f7_away, g1, jbc_eq, jb_bits _ _ bS]
theorem q_lacks (hF : 5000 < F) (h : TS c m T t f) {p d : Nat} (hp : p < vl m 2 0) (hd : d < vl m 2 2) (o : Int32) : f7_lacks F t (nI p) (nI d) o c = some (m.1 9 d &&& bitsP (fun s => decide (m.1 30 (25 * f + (5 * p + s)) = (1 : Int32) - o)) (vl m 2 1)) := by
  have g1 := q_sortsAt hF h hp ((1 : Int32) - o)
  obtain ⟨hT, ht, hf, hp0, hW, hR, hWS, hRS⟩ := id h
  obtain ⟨⟨⟨vP, bP⟩, ⟨vS, bS⟩, ⟨vD, bD⟩, ⟨vN, bN⟩, ⟨vW, bW⟩, ⟨vRoom, bRoom⟩, bRoom1, ⟨vStorm, bStorm⟩, ⟨vSeed, bSeed⟩, ⟨vK, bK⟩⟩, wPence, wSort, wDeed, wSend, wWant, wLaw⟩ := id hW
  obtain ⟨⟨⟨vDay, bDay⟩, ⟨vLast, bLast⟩, ⟨vSends, bSends⟩⟩, sPence, sHL, sPerm1, sPerm2, sSend, sWant, sOwn⟩ := id hWS
  obtain ⟨rCnt, rMan, rSort, rDeed, ⟨rT6, rT8, rT10, rT11, rT12, rT93⟩, rSent, rWanted, rLaw, rCode⟩ := id hR
  obtain ⟨⟨eDay, eLast, eStorms, eSends⟩, ePence, eHL, eSend, eWant⟩ := id hRS
  have e0 := rCnt 0 (by omega)
  have e1 := rCnt 1 (by omega)
  have e2 := rCnt 2 (by omega)
  have gd := fun {α : Type} {k : Nat → Option α} => g_drT (k := k) hp0 hT
  have h1 := (rDeed d hd).2
  simp (disch := omega) only [f7_lacks, gd, g_ckN, g1, g_bs, g_clN, h1]
/-! the same in the reference -/
theorem r_awayOf (hF : 5000 < F) (hW : WT m) (hWS : WS m f) (hf : f < 23) {p : Nat} (hp : p < vl m 2 0) : f11_awayOf F (nI f) (nI p) m = some (nI (cntP (fun s => decide (m.1 30 (25 * f + (5 * p + s)) = nI 1)) (vl m 2 1))) := by
  obtain ⟨⟨⟨vP, bP⟩, ⟨vS, bS⟩, ⟨vD, bD⟩, ⟨vN, bN⟩, ⟨vW, bW⟩, ⟨vRoom, bRoom⟩, bRoom1, ⟨vStorm, bStorm⟩, ⟨vSeed, bSeed⟩, ⟨vK, bK⟩⟩, wPence, wSort, wDeed, wSend, wWant, wLaw⟩ := id hW
  obtain ⟨⟨⟨vDay, bDay⟩, ⟨vLast, bLast⟩, ⟨vSends, bSends⟩⟩, sPence, sHL, sPerm1, sPerm2, sSend, sWant, sOwn⟩ := id hWS
  unfold f11_awayOf f11_awayOf_b5
  refine g_for (fun i => (nI (cntP (fun s => decide (m.1 30 (25 * f + (5 * p + s)) = nI 1)) i), nI i)) (vl m 2 1) (fun i hi sf => ?_) (by omega) (fun sf => ?_)
  · have h1 := (sHL (5 * p + i) (by omega)).2
    have h2 := h1.2
    rcases (show vl m 30 (25 * f + (5 * p + i)) = 0 ∨ vl m 30 (25 * f + (5 * p + i)) = 1 by omega) with h3 | h3
    · have h4 := h1.1
      rw [h3] at h4
      simp (disch := omega) only [g_let, g_bs, g_l0, g_l1, g_l2, g_l3, g_l4, g_l5, g_l6, g_l7, g_l8, g_l9, g_l10, g_l11, g_l12, g_l15, g_l20, g_l24, g_l25, g_l30, g_l40, g_l99, g_l100, g_ckN, g_clN, g_ltN, g_leN, g_eqN, pk_mul, nI_add, if_true, if_false, Nat.reduceLT, Nat.reduceLeDiff, Nat.reduceEqDiff, Nat.lt_irrefl, f11_awayOf_b5_body, vS, hi, cntP, decide_eq_true_eq, Nat.add_assoc, h4]
    · have h4 := h1.1
      rw [h3] at h4
      simp (disch := omega) only [g_let, g_bs, g_l0, g_l1, g_l2, g_l3, g_l4, g_l5, g_l6, g_l7, g_l8, g_l9, g_l10, g_l11, g_l12, g_l15, g_l20, g_l24, g_l25, g_l30, g_l40, g_l99, g_l100, g_ckN, g_clN, g_ltN, g_leN, g_eqN, pk_mul, nI_add, if_true, if_false, Nat.reduceLT, Nat.reduceLeDiff, Nat.reduceEqDiff, Nat.lt_irrefl, f11_awayOf_b5_body, vS, hi, cntP, decide_eq_true_eq, Nat.add_assoc, h4]
  · simp (disch := omega) only [g_let, g_bs, g_l0, g_l1, g_l2, g_l3, g_l4, g_l5, g_l6, g_l7, g_l8, g_l9, g_l10, g_l11, g_l12, g_l15, g_l20, g_l24, g_l25, g_l30, g_l40, g_l99, g_l100, g_ckN, g_clN, g_ltN, g_leN, g_eqN, pk_mul, nI_add, if_true, if_false, Nat.reduceLT, Nat.reduceLeDiff, Nat.reduceEqDiff, Nat.lt_irrefl, f11_awayOf_b5_body, vS, Nat.lt_irrefl]
theorem r_outcomes (hF : 5000 < F) (hW : WT m) (hf : f < 23) (v : Int32) : f11_outcomes F (nI f) v m = some (nI (cntP (fun w => decide (m.1 31 (8 * f + w) = v)) (vl m 2 4))) := by
  obtain ⟨⟨⟨vP, bP⟩, ⟨vS, bS⟩, ⟨vD, bD⟩, ⟨vN, bN⟩, ⟨vW, bW⟩, ⟨vRoom, bRoom⟩, bRoom1, ⟨vStorm, bStorm⟩, ⟨vSeed, bSeed⟩, ⟨vK, bK⟩⟩, wPence, wSort, wDeed, wSend, wWant, wLaw⟩ := id hW
  unfold f11_outcomes f11_outcomes_b5
  refine g_for (fun i => (nI (cntP (fun w => decide (m.1 31 (8 * f + w) = v)) i), nI i)) (vl m 2 4) (fun i hi sf => ?_) (by omega) (fun sf => ?_)
  · simp (disch := omega) only [g_let, g_bs, g_l0, g_l1, g_l2, g_l3, g_l4, g_l5, g_l6, g_l7, g_l8, g_l9, g_l10, g_l11, g_l12, g_l15, g_l20, g_l24, g_l25, g_l30, g_l40, g_l99, g_l100, g_ckN, g_clN, g_ltN, g_leN, g_eqN, pk_mul, nI_add, if_true, if_false, Nat.reduceLT, Nat.reduceLeDiff, Nat.reduceEqDiff, Nat.lt_irrefl, f11_outcomes_b5_body, f11_outcomes_b38, vW, hi, cntP, decide_eq_true_eq]
    split <;> rfl
  · simp (disch := omega) only [g_let, g_bs, g_l0, g_l1, g_l2, g_l3, g_l4, g_l5, g_l6, g_l7, g_l8, g_l9, g_l10, g_l11, g_l12, g_l15, g_l20, g_l24, g_l25, g_l30, g_l40, g_l99, g_l100, g_ckN, g_clN, g_ltN, g_leN, g_eqN, pk_mul, nI_add, if_true, if_false, Nat.reduceLT, Nat.reduceLeDiff, Nat.reduceEqDiff, Nat.lt_irrefl, f11_outcomes_b5_body, vW, Nat.lt_irrefl]
theorem r_goneMany (hF : 5000 < F) (hWS : WS m f) (hf : f < 23) : f11_goneMany F (nI f) m = some (nI (cntP (fun n => decide (m.1 35 (12 * f + n) = nI 1)) (vl m 27 f))) := by
  obtain ⟨⟨⟨vDay, bDay⟩, ⟨vLast, bLast⟩, ⟨vSends, bSends⟩⟩, sPence, sHL, sPerm1, sPerm2, sSend, sWant, sOwn⟩ := id hWS
  unfold f11_goneMany f11_goneMany_b4
  refine g_for (fun i => (nI (cntP (fun n => decide (m.1 35 (12 * f + n) = nI 1)) i), nI i)) (vl m 27 f) (fun i hi sf => ?_) (by omega) (fun sf => ?_)
  · simp (disch := omega) only [g_let, g_bs, g_l0, g_l1, g_l2, g_l3, g_l4, g_l5, g_l6, g_l7, g_l8, g_l9, g_l10, g_l11, g_l12, g_l15, g_l20, g_l24, g_l25, g_l30, g_l40, g_l99, g_l100, g_ckN, g_clN, g_ltN, g_leN, g_eqN, pk_mul, nI_add, if_true, if_false, Nat.reduceLT, Nat.reduceLeDiff, Nat.reduceEqDiff, Nat.lt_irrefl, f11_goneMany_b4_body, f11_goneMany_b35, vSends, hi, cntP, decide_eq_true_eq]
    split <;> rfl
  · simp (disch := omega) only [g_let, g_bs, g_l0, g_l1, g_l2, g_l3, g_l4, g_l5, g_l6, g_l7, g_l8, g_l9, g_l10, g_l11, g_l12, g_l15, g_l20, g_l24, g_l25, g_l30, g_l40, g_l99, g_l100, g_ckN, g_clN, g_ltN, g_leN, g_eqN, pk_mul, nI_add, if_true, if_false, Nat.reduceLT, Nat.reduceLeDiff, Nat.reduceEqDiff, Nat.lt_irrefl, f11_goneMany_b4_body, vSends, Nat.lt_irrefl]
theorem r_penceAll (hF : 5000 < F) (hW : WT m) (hf : f < 23) : f11_penceAll F (nI f) m = some (sumI (fun p => m.1 28 (5 * f + p)) (vl m 2 0)) := by
  obtain ⟨⟨⟨vP, bP⟩, ⟨vS, bS⟩, ⟨vD, bD⟩, ⟨vN, bN⟩, ⟨vW, bW⟩, ⟨vRoom, bRoom⟩, bRoom1, ⟨vStorm, bStorm⟩, ⟨vSeed, bSeed⟩, ⟨vK, bK⟩⟩, wPence, wSort, wDeed, wSend, wWant, wLaw⟩ := id hW
  unfold f11_penceAll f11_penceAll_b4
  refine g_for (fun i => (sumI (fun p => m.1 28 (5 * f + p)) i, nI i)) (vl m 2 0) (fun i hi sf => ?_) (by omega) (fun sf => ?_)
  · simp (disch := omega) only [g_let, g_bs, g_l0, g_l1, g_l2, g_l3, g_l4, g_l5, g_l6, g_l7, g_l8, g_l9, g_l10, g_l11, g_l12, g_l15, g_l20, g_l24, g_l25, g_l30, g_l40, g_l99, g_l100, g_ckN, g_clN, g_ltN, g_leN, g_eqN, pk_mul, nI_add, if_true, if_false, Nat.reduceLT, Nat.reduceLeDiff, Nat.reduceEqDiff, Nat.lt_irrefl, f11_penceAll_b4_body, vP, hi, sumI]
  · simp (disch := omega) only [g_let, g_bs, g_l0, g_l1, g_l2, g_l3, g_l4, g_l5, g_l6, g_l7, g_l8, g_l9, g_l10, g_l11, g_l12, g_l15, g_l20, g_l24, g_l25, g_l30, g_l40, g_l99, g_l100, g_ckN, g_clN, g_ltN, g_leN, g_eqN, pk_mul, nI_add, if_true, if_false, Nat.reduceLT, Nat.reduceLeDiff, Nat.reduceEqDiff, Nat.lt_irrefl, f11_penceAll_b4_body, vP, Nat.lt_irrefl]
theorem r_wantsOf (hF : 5000 < F) (hW : WT m) (p v : Int32) : f11_wantsOf F p v m = some (nI (cntP (fun w => decide (m.1 13 w = p) && decide (m.1 31 (8 * 0 + w) = v)) (vl m 2 4))) := by
  obtain ⟨⟨⟨vP, bP⟩, ⟨vS, bS⟩, ⟨vD, bD⟩, ⟨vN, bN⟩, ⟨vW, bW⟩, ⟨vRoom, bRoom⟩, bRoom1, ⟨vStorm, bStorm⟩, ⟨vSeed, bSeed⟩, ⟨vK, bK⟩⟩, wPence, wSort, wDeed, wSend, wWant, wLaw⟩ := id hW
  unfold f11_wantsOf f11_wantsOf_b5
  refine g_for (fun i => (nI (cntP (fun w => decide (m.1 13 w = p) && decide (m.1 31 (8 * 0 + w) = v)) i), nI i)) (vl m 2 4) (fun i hi sf => ?_) (by omega) (fun sf => ?_)
  · simp (disch := omega) only [g_let, g_bs, g_l0, g_l1, g_l2, g_l3, g_l4, g_l5, g_l6, g_l7, g_l8, g_l9, g_l10, g_l11, g_l12, g_l15, g_l20, g_l24, g_l25, g_l30, g_l40, g_l99, g_l100, g_ckN, g_clN, g_ltN, g_leN, g_eqN, pk_mul, nI_add, if_true, if_false, Nat.reduceLT, Nat.reduceLeDiff, Nat.reduceEqDiff, Nat.lt_irrefl, f11_wantsOf_b5_body, f11_wantsOf_b44, f11_wantsOf_b43, vW, hi, cntP, Bool.and_eq_true, decide_eq_true_eq, Nat.mul_zero, Nat.zero_add]
    by_cases a : m.1 13 i = p
    · by_cases b : m.1 31 i = v <;> simp [a, b]
    · simp [a]
  · simp (disch := omega) only [g_let, g_bs, g_l0, g_l1, g_l2, g_l3, g_l4, g_l5, g_l6, g_l7, g_l8, g_l9, g_l10, g_l11, g_l12, g_l15, g_l20, g_l24, g_l25, g_l30, g_l40, g_l99, g_l100, g_ckN, g_clN, g_ltN, g_leN, g_eqN, pk_mul, nI_add, if_true, if_false, Nat.reduceLT, Nat.reduceLeDiff, Nat.reduceEqDiff, Nat.lt_irrefl, f11_wantsOf_b5_body, vW, Nat.lt_irrefl]
theorem r_isDue (hWS : WS m f) (hf : f < 23) {n : Nat} (hn : n < 12) : f11_isDue F (nI f) (nI n) m = some (if isDueP m f n = true then nI 1 else nI 0) := by
  simp (disch := omega) only [g_let, g_bs, g_l0, g_l1, g_l2, g_l3, g_l4, g_l5, g_l6, g_l7, g_l8, g_l9, g_l10, g_l11, g_l12, g_l15, g_l20, g_l24, g_l25, g_l30, g_l40, g_l99, g_l100, g_ckN, g_clN, g_ltN, g_leN, g_eqN, pk_mul, nI_add, if_true, if_false, Nat.reduceLT, Nat.reduceLeDiff, Nat.reduceEqDiff, Nat.lt_irrefl, f11_isDue, isDueP, Bool.and_eq_true, decide_eq_true_eq]
  by_cases a : m.1 35 (12 * f + n) = nI 0
  · by_cases b : m.1 34 (12 * f + n) ≤ m.1 24 f <;> simp [a, b]
  · simp [a]
end Q
