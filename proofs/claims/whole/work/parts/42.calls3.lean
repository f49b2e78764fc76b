/-! cheap, together, rests -/
section A
variable {F : Nat} {c m : g_M} {T S : Nat}
def chV (m : g_M) (P : Nat → Bool) : Nat → Int32
  | 0 => nI 0
  | n + 1 => chV m P n + (if P n = true then m.1 7 n else nI 0)
theorem i_1mul (x : Int32) : nI 1 * x = x := by show (1 : Int32) * x = x; exact Int32.one_mul x
theorem i_0mul (x : Int32) : nI 0 * x = nI 0 := by show (0 : Int32) * x = 0; exact Int32.zero_mul
theorem s_cheap (hF : 5000 < F) (h : INV c m) (a b d : Int32) : ASK (f10_cheap F a b d c) (f11_cheap F a b d m) c := by
  refine ask_of h (fun T S m1 h1 hTW hG => ?_)
  obtain ⟨hTS, h02⟩ := id hG
  obtain ⟨hT, ht, hf, hp0, hW, hR, hWS, hRS⟩ := id hTS
  obtain ⟨⟨⟨vP, bP⟩, ⟨vS, bS⟩, ⟨vD, bD⟩, ⟨vN, bN⟩, ⟨vW, bW⟩, ⟨vRoom, bRoom⟩, bRoom1, ⟨vStorm, bStorm⟩, ⟨vSeed, bSeed⟩, ⟨vK, bK⟩⟩, wPence, wSort, wDeed, wSend, wWant, wLaw⟩ := id hW
  obtain ⟨⟨⟨vDay, bDay⟩, ⟨vLast, bLast⟩, ⟨vSends, bSends⟩⟩, sPence, sHL, sPerm1, sPerm2, sSend, sWant, sOwn⟩ := id hWS
  obtain ⟨rCnt, rMan, rSort, rDeed, ⟨rT6, rT8, rT10, rT11, rT12, rT93⟩, rSent, rWanted, rLaw, rCode⟩ := id hR
  obtain ⟨⟨eDay, eLast, eStorms, eSends⟩, ePence, eHL, eSend, eWant⟩ := id hRS
  have e0 := rCnt 0 (by omega)
  have e1 := rCnt 1 (by omega)
  have e2 := rCnt 2 (by omega)
  have gd := fun {α : Type} {k : Nat → Option α} => g_drT (k := k) hp0 hT
  have gt := fun {α : Type} {k : Nat → Option α} => g_drT (k := k) h02 hT
  unfold f10_cheap
  by_cases ha : okI a (vl m1 2 0) ∧ okI b (vl m1 2 2) ∧ okI d 2
  · obtain ⟨⟨p, hp, rfl⟩, ⟨q, hq, rfl⟩, ⟨o, ho, rfl⟩⟩ := ha
    rw [q_task1 hG hp hq ho, r_task1 hW hp hq ho, g_bs, g_bs, if_neg nI10, if_neg nI10, q_lacks2 hF hTS hp hq ho, g_bs]
    have hn := r_needsOf hF hW hp hq (nI o)
    generalize hP : canP m1 0 p q (nI o) = P at *
    refine ⟨chV m1 P (vl m1 2 1), ?_, ?_⟩
    · unfold f10_cheap_b30
      refine g_for (fun i => (bitsP P (vl m1 2 1), chV m1 P i, nI i)) (vl m1 2 1) (fun i hi sf => ?_) (by omega) (fun sf => ?_)
      · have h1 := bits_test P bS hi
        have h2 := (rSort i hi).2.2
        simp (disch := omega) only [g_let, g_bs, g_l0, g_l1, g_l2, g_l3, g_l4, g_l5, g_l6, g_l7, g_l8, g_l9, g_l10, g_l11, g_l12, g_l15, g_l20, g_l24, g_l25, g_l30, g_l40, g_l99, g_l100, g_ckN, g_clN, g_ltN, g_leN, g_eqN, pk_mul, nI_add, if_true, if_false, Nat.reduceLT, Nat.reduceLeDiff, Nat.reduceEqDiff, Nat.lt_irrefl, f10_cheap_b30_body, gt, e1, vS, hi, h1, h2]
        have e : chV m1 P (i + 1) = chV m1 P i + (if P i = true then m1.1 7 i else nI 0) := rfl
        rw [e]
        by_cases hp : P i = true
        · rw [if_pos hp, if_pos hp, i_1mul]
        · rw [if_neg hp, if_neg hp, i_0mul]
      · simp (disch := omega) only [g_let, g_bs, g_l0, g_l1, g_l2, g_l3, g_l4, g_l5, g_l6, g_l7, g_l8, g_l9, g_l10, g_l11, g_l12, g_l15, g_l20, g_l24, g_l25, g_l30, g_l40, g_l99, g_l100, g_ckN, g_clN, g_ltN, g_leN, g_eqN, pk_mul, nI_add, if_true, if_false, Nat.reduceLT, Nat.reduceLeDiff, Nat.reduceEqDiff, Nat.lt_irrefl, f10_cheap_b30_body, gt, e1, vS]
    · unfold f11_cheap_b23
      refine g_for (fun i => (chV m1 P i, nI i, m1)) (vl m1 2 1) (fun i hi sf => ?_) (by omega) (fun sf => ?_)
      · have h1 := bits_test P bS hi
        have n01 : ¬ nI 0 = nI 1 := by decide
        have e : chV m1 P (i + 1) = chV m1 P i + (if P i = true then m1.1 7 i else nI 0) := rfl
        rw [e]
        by_cases hp : P i = true
        · rw [if_pos hp] at h1 ⊢
          simp (disch := omega) only [g_let, g_bs, g_l0, g_l1, g_l2, g_l3, g_l4, g_l5, g_l6, g_l7, g_l8, g_l9, g_l10, g_l11, g_l12, g_l15, g_l20, g_l24, g_l25, g_l30, g_l40, g_l99, g_l100, g_ckN, g_clN, g_ltN, g_leN, g_eqN, pk_mul, nI_add, if_true, if_false, Nat.reduceLT, Nat.reduceLeDiff, Nat.reduceEqDiff, Nat.lt_irrefl, f11_cheap_b23_body, f11_cheap_b63, vS, hi, hn, h1]
        · rw [if_neg hp] at h1 ⊢
          simp (disch := omega) only [g_let, g_bs, g_l0, g_l1, g_l2, g_l3, g_l4, g_l5, g_l6, g_l7, g_l8, g_l9, g_l10, g_l11, g_l12, g_l15, g_l20, g_l24, g_l25, g_l30, g_l40, g_l99, g_l100, g_ckN, g_clN, g_ltN, g_leN, g_eqN, pk_mul, nI_add, if_true, if_false, Nat.reduceLT, Nat.reduceLeDiff, Nat.reduceEqDiff, Nat.lt_irrefl, f11_cheap_b23_body, f11_cheap_b63, vS, hi, hn, h1, n01]
      · simp (disch := omega) only [g_let, g_bs, g_l0, g_l1, g_l2, g_l3, g_l4, g_l5, g_l6, g_l7, g_l8, g_l9, g_l10, g_l11, g_l12, g_l15, g_l20, g_l24, g_l25, g_l30, g_l40, g_l99, g_l100, g_ckN, g_clN, g_ltN, g_leN, g_eqN, pk_mul, nI_add, if_true, if_false, Nat.reduceLT, Nat.reduceLeDiff, Nat.reduceEqDiff, Nat.lt_irrefl, f11_cheap_b23_body, vS]
  · rw [q_task0 hG ha, r_task0 hW ha, g_bs, g_bs, if_pos nI00, if_pos nI00]
    exact ⟨_, rfl, rfl⟩
def togP (m : g_M) (p q o d : Nat) : Bool := decide (cntP (fun s => canP m 0 p d (nI o) s && canP m 0 q d (nI o) s) (vl m 2 1) = 0)
theorem cnt01 (P : Nat → Bool) (n : Nat) : (if cntP P (n + 1) = 0 then nI 1 else nI 0) = (if cntP P n = 0 then nI 1 else nI 0) &&& (if P n = true then nI 0 else nI 1) := by
  rw [cntP_s]
  by_cases h : cntP P n = 0
  · by_cases g : P n = true
    · rw [if_pos g, if_pos g, if_pos h, if_neg (by omega)]; decide
    · rw [if_neg g, if_neg g, if_pos h, if_pos (by omega)]; decide
  · rw [if_neg h, if_neg (by omega)]
    split <;> decide
theorem s_together (hF : 5000 < F) (h : INV c m) (a b d : Int32) : ASK (f10_together F a b d c) (f11_together F a b d m) c := by
  refine ask_of h (fun T S m1 h1 hTW hG => ?_)
  obtain ⟨hTS, h02⟩ := id hG
  obtain ⟨hT, ht, hf, hp0, hW, hR, hWS, hRS⟩ := id hTS
  obtain ⟨⟨⟨vP, bP⟩, ⟨vS, bS⟩, ⟨vD, bD⟩, ⟨vN, bN⟩, ⟨vW, bW⟩, ⟨vRoom, bRoom⟩, bRoom1, ⟨vStorm, bStorm⟩, ⟨vSeed, bSeed⟩, ⟨vK, bK⟩⟩, wPence, wSort, wDeed, wSend, wWant, wLaw⟩ := id hW
  obtain ⟨⟨⟨vDay, bDay⟩, ⟨vLast, bLast⟩, ⟨vSends, bSends⟩⟩, sPence, sHL, sPerm1, sPerm2, sSend, sWant, sOwn⟩ := id hWS
  obtain ⟨rCnt, rMan, rSort, rDeed, ⟨rT6, rT8, rT10, rT11, rT12, rT93⟩, rSent, rWanted, rLaw, rCode⟩ := id hR
  obtain ⟨⟨eDay, eLast, eStorms, eSends⟩, ePence, eHL, eSend, eWant⟩ := id hRS
  have e0 := rCnt 0 (by omega)
  have e1 := rCnt 1 (by omega)
  have e2 := rCnt 2 (by omega)
  have gd := fun {α : Type} {k : Nat → Option α} => g_drT (k := k) hp0 hT
  have gt := fun {α : Type} {k : Nat → Option α} => g_drT (k := k) h02 hT
  unfold f10_together
  by_cases ha : okI a (vl m1 2 0)
  rotate_left
  · rw [r_man0 hW ha, g_bs, if_pos nI00]
    refine ⟨_, ?_, rfl⟩
    by_cases hab : a = b
    · rw [if_pos hab]
    · rw [if_neg hab, q_man0 hG ha, g_bs, if_pos nI00]
  obtain ⟨p, hp, rfl⟩ := ha
  rw [r_man1 hW hp, g_bs, if_neg nI10]
  by_cases hb : okI b (vl m1 2 0)
  rotate_left
  · rw [r_man0 hW hb, g_bs, if_pos nI00]
    refine ⟨_, ?_, rfl⟩
    by_cases hab : nI p = b
    · rw [if_pos hab]
    · rw [if_neg hab, q_man1 hG hp, g_bs, if_neg nI10, q_man0 hG hb, g_bs, if_pos nI00]
  obtain ⟨q, hq, rfl⟩ := hb
  rw [r_man1 hW hq, g_bs, if_neg nI10]
  by_cases hab : nI p = nI q
  · rw [if_pos hab, if_pos hab]; exact ⟨_, rfl, rfl⟩
  rw [if_neg hab, if_neg hab, q_man1 hG hp, g_bs, if_neg nI10, q_man1 hG hq, g_bs, if_neg nI10]
  by_cases hd : okI d 2
  rotate_left
  · rw [q_port0 hd, r_port0 hd, g_bs, g_bs, if_pos nI00, if_pos nI00]; exact ⟨_, rfl, rfl⟩
  obtain ⟨o, ho, rfl⟩ := hd
  rw [q_port1 ho, r_port1 ho, g_bs, g_bs, if_neg nI10, if_neg nI10]
  refine ⟨bitsP (togP m1 p q o) (vl m1 2 2), ?_, ?_⟩
  · unfold f10_together_b36
    refine g_for (fun i => (bitsP (togP m1 p q o) i, nI i)) (vl m1 2 2) (fun i hi sf => ?_) (by omega) (fun sf => ?_)
    · have l1 := q_lacks2 hF hTS hp hi ho
      have l2 := q_lacks2 hF hTS hq hi ho
      have l3 := bits_and2 (canP m1 0 p i (nI o)) (canP m1 0 q i (nI o)) bS
      have l4 : (bitsP (fun s => canP m1 0 p i (nI o) s && canP m1 0 q i (nI o) s) (vl m1 2 1) = nI 0) ↔ togP m1 p q o i = true := by
        unfold togP
        rw [bits_zero _ bS, decide_eq_true_eq, cnt_zero]
      have hb := bitsP_s (togP m1 p q o) i
      by_cases ht : togP m1 p q o i = true
      · rw [if_pos ht] at hb
        simp (disch := omega) only [g_let, g_bs, g_l0, g_l1, g_l2, g_l3, g_l4, g_l5, g_l6, g_l7, g_l8, g_l9, g_l10, g_l11, g_l12, g_l15, g_l20, g_l24, g_l25, g_l30, g_l40, g_l99, g_l100, g_ckN, g_clN, g_ltN, g_leN, g_eqN, pk_mul, nI_add, if_true, if_false, Nat.reduceLT, Nat.reduceLeDiff, Nat.reduceEqDiff, Nat.lt_irrefl, f10_together_b36_body, f10_together_b85, gt, e2, vD, hi, l1, l2, l3, l4, ht, hb]
      · rw [if_neg ht] at hb
        have l5 : ¬ bitsP (fun s => canP m1 0 p i (nI o) s && canP m1 0 q i (nI o) s) (vl m1 2 1) = nI 0 := fun z => ht (l4.mp z)
        simp (disch := omega) only [g_let, g_bs, g_l0, g_l1, g_l2, g_l3, g_l4, g_l5, g_l6, g_l7, g_l8, g_l9, g_l10, g_l11, g_l12, g_l15, g_l20, g_l24, g_l25, g_l30, g_l40, g_l99, g_l100, g_ckN, g_clN, g_ltN, g_leN, g_eqN, pk_mul, nI_add, if_true, if_false, Nat.reduceLT, Nat.reduceLeDiff, Nat.reduceEqDiff, Nat.lt_irrefl, f10_together_b36_body, f10_together_b85, gt, e2, vD, hi, l1, l2, l3, l5, hb]
    · simp (disch := omega) only [g_let, g_bs, g_l0, g_l1, g_l2, g_l3, g_l4, g_l5, g_l6, g_l7, g_l8, g_l9, g_l10, g_l11, g_l12, g_l15, g_l20, g_l24, g_l25, g_l30, g_l40, g_l99, g_l100, g_ckN, g_clN, g_ltN, g_leN, g_eqN, pk_mul, nI_add, if_true, if_false, Nat.reduceLT, Nat.reduceLeDiff, Nat.reduceEqDiff, Nat.lt_irrefl, f10_together_b36_body, gt, e2, vD]
  · unfold f11_together_b41
    refine g_for (fun i => (bitsP (togP m1 p q o) i, nI i, m1)) (vl m1 2 2) (fun i hi sf => ?_) (by omega) (fun sf => ?_)
    · have inner : f11_together_b58 F (nI p) (nI q) (nI o) (fun v4 v5 mem => sf (v4, v5, mem)) (bitsP (togP m1 p q o) i) (nI i) (nI 1) (nI 0) m1 = sf (bitsP (togP m1 p q o) (i + 1), nI (i + 1), m1) := by
        unfold f11_together_b58
        generalize hPP : (fun s => canP m1 0 p i (nI o) s && canP m1 0 q i (nI o) s) = PP
        refine g_for (fun s => (bitsP (togP m1 p q o) i, nI i, (if cntP PP s = 0 then nI 1 else nI 0), nI s, m1)) (vl m1 2 1) (fun s hs sg => ?_) (by omega) (fun sg => ?_)
        · rw [cnt01]
          have hd := (wDeed i hi)
          obtain ⟨v9, b9⟩ := hd
          have k1 := bitK_01 (k := vl m1 9 i) (s := s) (by omega) (by omega)
          have hPs : PP s = (canP m1 0 p i (nI o) s && canP m1 0 q i (nI o) s) := by rw [← hPP]
          unfold canP at hPs
          rw [v9] at hPs
          simp only [Nat.mul_zero, Nat.zero_add] at hPs
          by_cases g1 : bitK (nI (vl m1 9 i)) s = false
          · have g2 := k1.mpr g1
            rw [g1] at hPs
            simp only [Bool.false_and] at hPs
            simp (disch := omega) only [g_let, g_bs, g_l0, g_l1, g_l2, g_l3, g_l4, g_l5, g_l6, g_l7, g_l8, g_l9, g_l10, g_l11, g_l12, g_l15, g_l20, g_l24, g_l25, g_l30, g_l40, g_l99, g_l100, g_ckN, g_clN, g_ltN, g_leN, g_eqN, pk_mul, nI_add, if_true, if_false, Nat.reduceLT, Nat.reduceLeDiff, Nat.reduceEqDiff, Nat.lt_irrefl, f11_together_b58_body, f11_together_b116, f11_together_b121, vS, hs, v9, g2, hPs]
            simp
          · have g2 : ¬ ((nI (vl m1 9 i) >>> (nI s &&& 31)) &&& nI 1) = nI 0 := fun z => g1 (k1.mp z)
            have g3 : bitK (nI (vl m1 9 i)) s = true := by simpa using g1
            rw [g3] at hPs
            by_cases h3 : m1.1 30 (5 * p + s) = nI o
            · have hPs2 : PP s = false := by rw [hPs]; simp [h3]
              simp (disch := omega) only [g_let, g_bs, g_l0, g_l1, g_l2, g_l3, g_l4, g_l5, g_l6, g_l7, g_l8, g_l9, g_l10, g_l11, g_l12, g_l15, g_l20, g_l24, g_l25, g_l30, g_l40, g_l99, g_l100, g_ckN, g_clN, g_ltN, g_leN, g_eqN, pk_mul, nI_add, if_true, if_false, Nat.reduceLT, Nat.reduceLeDiff, Nat.reduceEqDiff, Nat.lt_irrefl, f11_together_b58_body, f11_together_b116, f11_together_b121, vS, hs, v9, g2, h3, hPs2]
              simp
            · by_cases h4 : m1.1 30 (5 * q + s) = nI o
              · have hPs2 : PP s = false := by rw [hPs]; simp [h4]
                simp (disch := omega) only [g_let, g_bs, g_l0, g_l1, g_l2, g_l3, g_l4, g_l5, g_l6, g_l7, g_l8, g_l9, g_l10, g_l11, g_l12, g_l15, g_l20, g_l24, g_l25, g_l30, g_l40, g_l99, g_l100, g_ckN, g_clN, g_ltN, g_leN, g_eqN, pk_mul, nI_add, if_true, if_false, Nat.reduceLT, Nat.reduceLeDiff, Nat.reduceEqDiff, Nat.lt_irrefl, f11_together_b58_body, f11_together_b116, f11_together_b121, vS, hs, v9, g2, h3, h4, hPs2]
                simp
              · have hPs2 : PP s = true := by rw [hPs]; simp [h3, h4]
                simp (disch := omega) only [g_let, g_bs, g_l0, g_l1, g_l2, g_l3, g_l4, g_l5, g_l6, g_l7, g_l8, g_l9, g_l10, g_l11, g_l12, g_l15, g_l20, g_l24, g_l25, g_l30, g_l40, g_l99, g_l100, g_ckN, g_clN, g_ltN, g_leN, g_eqN, pk_mul, nI_add, if_true, if_false, Nat.reduceLT, Nat.reduceLeDiff, Nat.reduceEqDiff, Nat.lt_irrefl, f11_together_b58_body, f11_together_b116, f11_together_b121, vS, hs, v9, g2, h3, h4, hPs2]
        · have ht : togP m1 p q o i = decide (cntP PP (vl m1 2 1) = 0) := by unfold togP; rw [hPP]
          rw [bitsP_s, ht]
          have n10 : ¬ nI 1 = nI 0 := by decide
          by_cases g : cntP PP (vl m1 2 1) = 0
          · rw [if_pos g]
            simp (disch := omega) only [g_let, g_bs, g_l0, g_l1, g_l2, g_l3, g_l4, g_l5, g_l6, g_l7, g_l8, g_l9, g_l10, g_l11, g_l12, g_l15, g_l20, g_l24, g_l25, g_l30, g_l40, g_l99, g_l100, g_ckN, g_clN, g_ltN, g_leN, g_eqN, pk_mul, nI_add, if_true, if_false, Nat.reduceLT, Nat.reduceLeDiff, Nat.reduceEqDiff, Nat.lt_irrefl, f11_together_b58_body, f11_together_b145, vS, n10, g, decide_true]
          · rw [if_neg g]
            simp (disch := omega) only [g_let, g_bs, g_l0, g_l1, g_l2, g_l3, g_l4, g_l5, g_l6, g_l7, g_l8, g_l9, g_l10, g_l11, g_l12, g_l15, g_l20, g_l24, g_l25, g_l30, g_l40, g_l99, g_l100, g_ckN, g_clN, g_ltN, g_leN, g_eqN, pk_mul, nI_add, if_true, if_false, Nat.reduceLT, Nat.reduceLeDiff, Nat.reduceEqDiff, Nat.lt_irrefl, f11_together_b58_body, f11_together_b145, vS, g, decide_false, or_0]
            simp
      simp (disch := omega) only [g_let, g_bs, g_l0, g_l1, g_l2, g_l3, g_l4, g_l5, g_l6, g_l7, g_l8, g_l9, g_l10, g_l11, g_l12, g_l15, g_l20, g_l24, g_l25, g_l30, g_l40, g_l99, g_l100, g_ckN, g_clN, g_ltN, g_leN, g_eqN, pk_mul, nI_add, if_true, if_false, Nat.reduceLT, Nat.reduceLeDiff, Nat.reduceEqDiff, Nat.lt_irrefl, f11_together_b41_body, vD, hi, inner]
    · simp (disch := omega) only [g_let, g_bs, g_l0, g_l1, g_l2, g_l3, g_l4, g_l5, g_l6, g_l7, g_l8, g_l9, g_l10, g_l11, g_l12, g_l15, g_l20, g_l24, g_l25, g_l30, g_l40, g_l99, g_l100, g_ckN, g_clN, g_ltN, g_leN, g_eqN, pk_mul, nI_add, if_true, if_false, Nat.reduceLT, Nat.reduceLeDiff, Nat.reduceEqDiff, Nat.lt_irrefl, f11_together_b41_body, vD]
/-- what one gains by a boat -/
def mgV (m : g_M) (p s : Nat) (a3 a4 : Int32) : Int32 :=
  (if a3 = a4 then m.1 7 s / (3 : Int32) else m.1 7 s) + (if a3 = 0 then nI (awN m 0 p) else nI 0)
theorem i_add0 (x : Int32) : x + nI 0 = x := by show x + (0 : Int32) = x; exact Int32.add_zero x
theorem q_meet (hF : 5000 < F) (hG : G c m T) {p s : Nat} (hp : p < vl m 2 0) (hs : s < vl m 2 1) (a3 a4 : Int32) : f10_meetGain F (nI p) (nI s) a3 a4 c = some (mgV m p s a3 a4) := by
  obtain ⟨hTS, h02⟩ := hG
  obtain ⟨hT, ht, hf, hp0, hW, hR, hWS, hRS⟩ := id hTS
  obtain ⟨⟨⟨vP, bP⟩, ⟨vS, bS⟩, ⟨vD, bD⟩, ⟨vN, bN⟩, ⟨vW, bW⟩, ⟨vRoom, bRoom⟩, bRoom1, ⟨vStorm, bStorm⟩, ⟨vSeed, bSeed⟩, ⟨vK, bK⟩⟩, wPence, wSort, wDeed, wSend, wWant, wLaw⟩ := id hW
  obtain ⟨⟨⟨vDay, bDay⟩, ⟨vLast, bLast⟩, ⟨vSends, bSends⟩⟩, sPence, sHL, sPerm1, sPerm2, sSend, sWant, sOwn⟩ := id hWS
  obtain ⟨rCnt, rMan, rSort, rDeed, ⟨rT6, rT8, rT10, rT11, rT12, rT93⟩, rSent, rWanted, rLaw, rCode⟩ := id hR
  obtain ⟨⟨eDay, eLast, eStorms, eSends⟩, ePence, eHL, eSend, eWant⟩ := id hRS
  have e0 := rCnt 0 (by omega)
  have e1 := rCnt 1 (by omega)
  have e2 := rCnt 2 (by omega)
  have gd := fun {α : Type} {k : Nat → Option α} => g_drT (k := k) hp0 hT
  have gt := fun {α : Type} {k : Nat → Option α} => g_drT (k := k) h02 hT
  have q5 := (rSort s hs).2.2
  have hA := q_away hF hTS hp
  unfold f10_meetGain f10_meetGain_b29 mgV
  by_cases e : a3 = a4
  · rw [if_pos e, if_pos e, gt, g_ckN (by omega) (by omega), g_clN (by omega), q5]
    by_cases z : a3 = 0
    · rw [if_pos z, if_pos z, hA, g_bs]; rfl
    · rw [if_neg z, if_neg z, i_add0]
  · rw [if_neg e, if_neg e, gt, g_ckN (by omega) (by omega), g_clN (by omega), q5]
    by_cases z : a3 = 0
    · rw [if_pos z, if_pos z, hA, g_bs]; rfl
    · rw [if_neg z, if_neg z, i_add0]
theorem r_hasOf (hF : 5000 < F) (hW : WT m) (hWS : WS m 0) {p s : Nat} (hp : p < vl m 2 0) (hs : s < vl m 2 1) (a3 a4 : Int32) : f11_hasOf F (nI p) (nI s) a3 a4 m = some (mgV m p s a3 a4) := by
  obtain ⟨⟨⟨vP, bP⟩, ⟨vS, bS⟩, ⟨vD, bD⟩, ⟨vN, bN⟩, ⟨vW, bW⟩, ⟨vRoom, bRoom⟩, bRoom1, ⟨vStorm, bStorm⟩, ⟨vSeed, bSeed⟩, ⟨vK, bK⟩⟩, wPence, wSort, wDeed, wSend, wWant, wLaw⟩ := id hW
  have hA : f11_awayOf F (0 : Int32) (nI p) m = _ := r_awayOf hF hW hWS (by omega) hp
  unfold f11_hasOf f11_hasOf_b23 mgV
  by_cases e : a3 = a4
  · rw [if_pos e, if_pos e, g_ckN (by omega) (by omega), g_clN (by omega)]
    by_cases z : a3 = 0
    · rw [if_pos z, if_pos z, hA, g_bs]; rfl
    · rw [if_neg z, if_neg z, i_add0]
  · rw [if_neg e, if_neg e, g_ckN (by omega) (by omega), g_clN (by omega)]
    by_cases z : a3 = 0
    · rw [if_pos z, if_pos z, hA, g_bs]; rfl
    · rw [if_neg z, if_neg z, i_add0]
def reP (m : g_M) (p q s i : Nat) : Bool := decide (mgV m p s (nI (1 - i / 2)) (nI (i % 2)) ≤ mgV m p s (nI (i / 2)) (nI (i % 2))) && decide (mgV m q s (nI (1 - i % 2)) (nI (i / 2)) ≤ mgV m q s (nI (i % 2)) (nI (i / 2)))
theorem q_isRest (hF : 5000 < F) (hG : G c m T) {p q s i : Nat} (hp : p < vl m 2 0) (hq : q < vl m 2 0) (hs : s < vl m 2 1) (hi : i < 4) : f10_isRest F (nI p) (nI q) (nI s) (nI i) c = some (if reP m p q s i = true then nI 1 else nI 0) := by
  have h1 : nI i >>> ((1 : Int32) &&& 31) = nI (i / 2) ∧ nI i &&& (1 : Int32) = nI (i % 2) ∧ (1 : Int32) - nI (i / 2) = nI (1 - i / 2) ∧ (1 : Int32) - nI (i % 2) = nI (1 - i % 2) := by
    rcases (show i = 0 ∨ i = 1 ∨ i = 2 ∨ i = 3 by omega) with rfl | rfl | rfl | rfl <;> decide
  obtain ⟨z1, z2, z3, z4⟩ := h1
  unfold f10_isRest reP
  rw [z1, z2]
  simp only [g_let, z3, z4]
  rw [q_meet hF hG hp hs, q_meet hF hG hp hs, q_meet hF hG hq hs, q_meet hF hG hq hs]
  simp only [g_bs, Bool.and_eq_true, decide_eq_true_eq]
  by_cases x : mgV m p s (nI (1 - i / 2)) (nI (i % 2)) ≤ mgV m p s (nI (i / 2)) (nI (i % 2))
  · rw [if_pos x]
    by_cases y : mgV m q s (nI (1 - i % 2)) (nI (i / 2)) ≤ mgV m q s (nI (i % 2)) (nI (i / 2))
    · rw [if_pos y, if_pos ⟨x, y⟩]; rfl
    · rw [if_neg y, if_neg (fun z => y z.2)]; rfl
  · rw [if_neg x, if_neg (fun z => x z.1)]; rfl
theorem r_isRest (hF : 5000 < F) (hW : WT m) (hWS : WS m 0) {p q s i : Nat} (hp : p < vl m 2 0) (hq : q < vl m 2 0) (hs : s < vl m 2 1) (hi : i < 4) : f11_isRest F (nI p) (nI q) (nI s) (nI i) m = some (if reP m p q s i = true then nI 1 else nI 0) := by
  have h1 : nI i / (2 : Int32) = nI (i / 2) ∧ nI i - nI (i / 2) * (2 : Int32) = nI (i % 2) ∧ (1 : Int32) - nI (i / 2) = nI (1 - i / 2) ∧ (1 : Int32) - nI (i % 2) = nI (1 - i % 2) := by
    rcases (show i = 0 ∨ i = 1 ∨ i = 2 ∨ i = 3 by omega) with rfl | rfl | rfl | rfl <;> decide
  obtain ⟨z1, z2, z3, z4⟩ := h1
  unfold f11_isRest reP
  rw [z1, z2]
  simp only [g_let, z3, z4]
  rw [r_hasOf hF hW hWS hp hs, r_hasOf hF hW hWS hp hs, r_hasOf hF hW hWS hq hs, r_hasOf hF hW hWS hq hs]
  simp only [g_bs, Bool.and_eq_true, decide_eq_true_eq]
  by_cases x : mgV m p s (nI (1 - i / 2)) (nI (i % 2)) ≤ mgV m p s (nI (i / 2)) (nI (i % 2))
  · rw [if_pos x]
    by_cases y : mgV m q s (nI (1 - i % 2)) (nI (i / 2)) ≤ mgV m q s (nI (i % 2)) (nI (i / 2))
    · rw [if_pos y, if_pos ⟨x, y⟩]; rfl
    · rw [if_neg y, if_neg (fun z => y z.2)]; rfl
  · rw [if_neg x, if_neg (fun z => x z.1)]; rfl
theorem r_two1 (hW : WT m) {p q s : Nat} (hp : p < vl m 2 0) (hq : q < vl m 2 0) (hs : s < vl m 2 1) (hne : ¬ nI p = nI q) : f11_areTwo F (nI p) (nI q) (nI s) m = some (nI 1) := by
  unfold f11_areTwo
  rw [r_man1 hW hp, g_bs, if_neg nI10, r_man1 hW hq, g_bs, if_neg nI10, if_neg hne, r_sort1 hW hs, g_bs, if_neg nI10]; rfl
theorem r_two0 (hW : WT m) {a b d : Int32} (h : ¬ (okI a (vl m 2 0) ∧ okI b (vl m 2 0) ∧ ¬ a = b ∧ okI d (vl m 2 1))) : f11_areTwo F a b d m = some (nI 0) := by
  unfold f11_areTwo
  by_cases ha : okI a (vl m 2 0)
  rotate_left
  · rw [r_man0 hW ha, g_bs, if_pos nI00]; rfl
  obtain ⟨p, hp, rfl⟩ := id ha
  rw [r_man1 hW hp, g_bs, if_neg nI10]
  by_cases hb : okI b (vl m 2 0)
  rotate_left
  · rw [r_man0 hW hb, g_bs, if_pos nI00]; rfl
  obtain ⟨q, hq, rfl⟩ := id hb
  rw [r_man1 hW hq, g_bs, if_neg nI10]
  by_cases e : nI p = nI q
  · rw [if_pos e]; rfl
  · rw [if_neg e, r_sort0 hW (fun z => h ⟨ha, hb, e, z⟩), g_bs, if_pos nI00]; rfl
/-- the guard of two, in the class -/
theorem q_two0 {α : Type} (hG : G c m T) {a b d : Int32} (h : ¬ (okI a (vl m 2 0) ∧ okI b (vl m 2 0) ∧ ¬ a = b ∧ okI d (vl m 2 1))) (x y : Option α) : (if a = b then x else ((f10_isPart F a d c).bind (fun r7 => if r7 = (0 : Int32) then x else ((f10_isPart F b d c).bind (fun r9 => if r9 = (0 : Int32) then x else y))))) = x := by
  by_cases e : a = b
  · rw [if_pos e]
  rw [if_neg e]
  by_cases h1 : okI a (vl m 2 0) ∧ okI d (vl m 2 1)
  · obtain ⟨⟨p, hp, rfl⟩, ⟨s, hs, rfl⟩⟩ := id h1
    rw [q_part1 hG hp hs, g_bs, if_neg nI10, q_part0 hG (fun z => h ⟨h1.1, z.1, e, h1.2⟩), g_bs, if_pos nI00]
  · rw [q_part0 hG h1, g_bs, if_pos nI00]
theorem q_two1 {α : Type} (hG : G c m T) {p q s : Nat} (hp : p < vl m 2 0) (hq : q < vl m 2 0) (hs : s < vl m 2 1) (e : ¬ nI p = nI q) (x y : Option α) : (if nI p = nI q then x else ((f10_isPart F (nI p) (nI s) c).bind (fun r7 => if r7 = (0 : Int32) then x else ((f10_isPart F (nI q) (nI s) c).bind (fun r9 => if r9 = (0 : Int32) then x else y))))) = y := by
  rw [if_neg e, q_part1 hG hp hs, g_bs, if_neg nI10, q_part1 hG hq hs, g_bs, if_neg nI10]
theorem m1_ne {n : Nat} (h : n < 100) : ¬ nI n = -nI 1 := by
  intro z
  have : (nI n).toInt = (-1 : Int) := by rw [z]; decide
  rw [nI_toInt (by omega)] at this
  omega
theorem s_rests (hF : 5000 < F) (h : INV c m) (a b d : Int32) : ASK (f10_rests F a b d c) (f11_rests F a b d m) c := by
  refine ask_of h (fun T S m1 h1 hTW hG => ?_)
  obtain ⟨hTS, h02⟩ := id hG
  have hW := hTS.2.2.2.2.1
  have hWS := hTS.2.2.2.2.2.2.1
  unfold f10_rests
  by_cases hg : okI a (vl m1 2 0) ∧ okI b (vl m1 2 0) ∧ ¬ a = b ∧ okI d (vl m1 2 1)
  · obtain ⟨⟨p, hp, rfl⟩, ⟨q, hq, rfl⟩, e, ⟨s, hs, rfl⟩⟩ := hg
    rw [q_two1 hG hp hq hs e, r_two1 hW hp hq hs e, g_bs, if_neg nI10]
    have hc := cntP_le (reP m1 p q s)
    refine ⟨nI (cntP (reP m1 p q s) 4), ?_, ?_⟩
    · unfold f10_rests_b31
      refine g_for (fun i => (nI (cntP (reP m1 p q s) i), nI i)) 4 (fun i hi sf => ?_) (by omega) (fun sf => ?_)
      · have hr := q_isRest hF hG hp hq hs hi
        rw [cntP_s]
        have n10 : ¬ nI 1 = nI 0 := by decide
        by_cases g : reP m1 p q s i = true
        · rw [if_pos g] at hr ⊢
          simp (disch := omega) only [g_let, g_bs, g_l0, g_l1, g_l2, g_l3, g_l4, g_l5, g_l6, g_l7, g_l8, g_l9, g_l10, g_l11, g_l12, g_l15, g_l20, g_l24, g_l25, g_l30, g_l40, g_l99, g_l100, g_ckN, g_clN, g_ltN, g_leN, g_eqN, pk_mul, nI_add, if_true, if_false, Nat.reduceLT, Nat.reduceLeDiff, Nat.reduceEqDiff, Nat.lt_irrefl, f10_rests_b31_body, f10_rests_b56, hi, hr, n10]
        · rw [if_neg g] at hr ⊢
          simp (disch := omega) only [g_let, g_bs, g_l0, g_l1, g_l2, g_l3, g_l4, g_l5, g_l6, g_l7, g_l8, g_l9, g_l10, g_l11, g_l12, g_l15, g_l20, g_l24, g_l25, g_l30, g_l40, g_l99, g_l100, g_ckN, g_clN, g_ltN, g_leN, g_eqN, pk_mul, nI_add, if_true, if_false, Nat.reduceLT, Nat.reduceLeDiff, Nat.reduceEqDiff, Nat.lt_irrefl, f10_rests_b31_body, f10_rests_b56, hi, hr]
      · simp (disch := omega) only [g_let, g_bs, g_l0, g_l1, g_l2, g_l3, g_l4, g_l5, g_l6, g_l7, g_l8, g_l9, g_l10, g_l11, g_l12, g_l15, g_l20, g_l24, g_l25, g_l30, g_l40, g_l99, g_l100, g_ckN, g_clN, g_ltN, g_leN, g_eqN, pk_mul, nI_add, if_true, if_false, Nat.reduceLT, Nat.reduceLeDiff, Nat.reduceEqDiff, Nat.lt_irrefl, f10_rests_b31_body]
    · have e2 : f11_restOf F (nI p) (nI q) (nI s) (-1 : Int32) m1 = some (nI (cntP (reP m1 p q s) 4)) := by
        unfold f11_restOf f11_restOf_b6
        refine g_for (fun i => (nI (cntP (reP m1 p q s) i), nI i)) 4 (fun i hi sf => ?_) (by omega) (fun sf => ?_)
        · have hr := r_isRest hF hW hWS hp hq hs hi
          have hm := m1_ne (n := cntP (reP m1 p q s) i) (by have := hc i; omega)
          rw [cntP_s]
          have n10 : ¬ nI 1 = nI 0 := by decide
          by_cases g : reP m1 p q s i = true
          · rw [if_pos g] at hr ⊢
            simp (disch := omega) only [g_let, g_bs, g_l0, g_l1, g_l2, g_l3, g_l4, g_l5, g_l6, g_l7, g_l8, g_l9, g_l10, g_l11, g_l12, g_l15, g_l20, g_l24, g_l25, g_l30, g_l40, g_l99, g_l100, g_ckN, g_clN, g_ltN, g_leN, g_eqN, pk_mul, nI_add, if_true, if_false, Nat.reduceLT, Nat.reduceLeDiff, Nat.reduceEqDiff, Nat.lt_irrefl, f11_restOf_b6_body, f11_restOf_b50, hi, hr, n10, hm]
          · rw [if_neg g] at hr ⊢
            simp (disch := omega) only [g_let, g_bs, g_l0, g_l1, g_l2, g_l3, g_l4, g_l5, g_l6, g_l7, g_l8, g_l9, g_l10, g_l11, g_l12, g_l15, g_l20, g_l24, g_l25, g_l30, g_l40, g_l99, g_l100, g_ckN, g_clN, g_ltN, g_leN, g_eqN, pk_mul, nI_add, if_true, if_false, Nat.reduceLT, Nat.reduceLeDiff, Nat.reduceEqDiff, Nat.lt_irrefl, f11_restOf_b6_body, f11_restOf_b50, hi, hr]
            rfl
        · simp (disch := omega) only [g_let, g_bs, g_l0, g_l1, g_l2, g_l3, g_l4, g_l5, g_l6, g_l7, g_l8, g_l9, g_l10, g_l11, g_l12, g_l15, g_l20, g_l24, g_l25, g_l30, g_l40, g_l99, g_l100, g_ckN, g_clN, g_ltN, g_leN, g_eqN, pk_mul, nI_add, if_true, if_false, Nat.reduceLT, Nat.reduceLeDiff, Nat.reduceEqDiff, Nat.lt_irrefl, f11_restOf_b6_body]
      rw [e2, g_bs]
  · rw [q_two0 hG hg, r_two0 hW hg, g_bs, if_pos nI00]
    exact ⟨_, rfl, rfl⟩
theorem s_rest (hF : 5000 < F) (h : INV c m) (a b d k : Int32) : ASK (f10_rest F a b d k c) (f11_rest F a b d k m) c := by
  refine ask_of h (fun T S m1 h1 hTW hG => ?_)
  obtain ⟨hTS, h02⟩ := id hG
  have hW := hTS.2.2.2.2.1
  have hWS := hTS.2.2.2.2.2.2.1
  unfold f10_rest
  by_cases hg : okI a (vl m1 2 0) ∧ okI b (vl m1 2 0) ∧ ¬ a = b ∧ okI d (vl m1 2 1)
  rotate_left
  · rw [r_two0 hW hg, g_bs, if_pos nI00, q_two0 hG hg]
    refine ⟨-1, ?_, rfl⟩
    split <;> rfl
  obtain ⟨⟨p, hp, rfl⟩, ⟨q, hq, rfl⟩, e, ⟨s, hs, rfl⟩⟩ := hg
  rw [q_two1 hG hp hq hs e, r_two1 hW hp hq hs e, g_bs, if_neg nI10]
  rcases i_cases k with z | ⟨k, hk, rfl⟩
  · rw [if_neg (show ¬ (0 : Int32) ≤ k from neg_nle z), if_neg (show ¬ (0 : Int32) ≤ k from neg_nle z)]
    exact ⟨_, rfl, rfl⟩
  rw [if_pos (nI_ge0 hk), if_pos (nI_ge0 hk)]
  have main : ∃ r, f10_rest_b37 F (nI p) (nI q) (nI s) (nI k) c (nI k) (nI 0) = some r ∧ f11_restOf F (nI p) (nI q) (nI s) (nI k) m1 = some r := by
    unfold f10_rest_b37 f11_restOf f11_restOf_b6
    refine g_for2x
      (b := fun sf (x : Int32 × Int32) => f10_rest_b37_body F (nI p) (nI q) (nI s) (nI k) (fun v5 v6 => sf (v5, v6)) c x.1 x.2)
      (b' := fun sf (x : Int32 × Int32) => f11_restOf_b6_body F (nI p) (nI q) (nI s) (nI k) (fun v5 v6 => sf (v5, v6)) m1 x.1 x.2)
      (fun i x u => ∃ n, n ≤ i ∧ n ≤ k ∧ x = (nI (k - n), nI i) ∧ u = (nI n, nI i)) 4
      (fun x y => ∃ r, x = some r ∧ y = some r) ?_ ?_ (s := (nI k, nI 0)) (t := (0, 0)) ⟨0, by omega, by omega, rfl, rfl⟩ (F := F) (by omega)
    · rintro i x u hi ⟨n, n1, n2, rfl, rfl⟩
      have hr := r_isRest hF hW hWS hp hq hs hi
      have hr2 := q_isRest hF hG hp hq hs hi
      have i4 : nI i < (4 : Int32) := (g_ltN (a := i) (b := 4) (by omega) (by omega)).mpr hi
      by_cases g : reP m1 p q s i = true
      · rw [if_pos g] at hr hr2
        by_cases hnk : n = k
        · right
          subst hnk
          refine ⟨some (nI (10 * (i / 2) + i % 2)), some (nI (10 * (i / 2) + i % 2)), ⟨_, rfl, rfl⟩, fun sf => ?_, fun sf => ?_⟩
          · have h1 : (nI i >>> ((1 : Int32) &&& 31)) * (10 : Int32) + (nI i &&& (1 : Int32)) = nI (10 * (i / 2) + i % 2) := by
              rcases (show i = 0 ∨ i = 1 ∨ i = 2 ∨ i = 3 by omega) with rfl | rfl | rfl | rfl <;> decide
            unfold f10_rest_b37_body
            rw [Nat.sub_self, if_pos i4, hr2, g_bs, if_neg nI10, if_pos nI00, h1]
          · have h1 : (10 : Int32) * (nI i / (2 : Int32)) + (nI i - nI i / (2 : Int32) * (2 : Int32)) = nI (10 * (i / 2) + i % 2) := by
              rcases (show i = 0 ∨ i = 1 ∨ i = 2 ∨ i = 3 by omega) with rfl | rfl | rfl | rfl <;> decide
            unfold f11_restOf_b6_body
            rw [if_pos i4, hr, g_bs, if_neg nI10, if_pos rfl, h1]
        · left
          obtain ⟨j, hj⟩ : ∃ j, k - n = j + 1 := ⟨k - n - 1, by omega⟩
          have hj0 : ¬ nI (j + 1) = nI 0 := by rw [g_eqN (by omega) (by omega)]; omega
          have hnk' : ¬ nI n = nI k := by rw [g_eqN (by omega) (by omega)]; exact hnk
          refine ⟨(nI (k - (n + 1)), nI (i + 1)), (nI (n + 1), nI (i + 1)), ⟨n + 1, by omega, by omega, rfl, rfl⟩, fun sf => ?_, fun sf => ?_⟩
          · have e3 : k - (n + 1) = j := by omega
            rw [e3]
            show f10_rest_b37_body F (nI p) (nI q) (nI s) (nI k) (fun v5 v6 => sf (v5, v6)) c (nI (k - n)) (nI i) = _
            rw [hj]
            unfold f10_rest_b37_body
            rw [if_pos i4, hr2, g_bs, if_neg nI10, if_neg (show ¬ nI (j + 1) = (0 : Int32) from hj0), pk_m1]
            simp only [g_let, f10_rest_b76, g_l1, nI_add]
          · unfold f11_restOf_b6_body
            rw [if_pos i4, hr, g_bs, if_neg nI10, if_neg hnk']
            simp only [g_let, f11_restOf_b50, g_l1, nI_add]
      · rw [if_neg g] at hr hr2
        left
        refine ⟨(nI (k - n), nI (i + 1)), (nI n, nI (i + 1)), ⟨n, by omega, by omega, rfl, rfl⟩, fun sf => ?_, fun sf => ?_⟩
        · unfold f10_rest_b37_body
          rw [if_pos i4, hr2, g_bs, if_pos nI00]
          simp only [g_let, f10_rest_b76, g_l1, nI_add]
        · unfold f11_restOf_b6_body
          rw [if_pos i4, hr, g_bs, if_pos nI00]
          simp only [g_let, f11_restOf_b50, g_l1, nI_add]
    · rintro x u ⟨n, n1, n2, rfl, rfl⟩
      have hkm : ¬ nI k = (-1 : Int32) := by
        intro z
        have : (nI k).toInt = (-1 : Int) := by rw [z]; decide
        rw [nI_toInt (by omega)] at this
        omega
      have i4 : ¬ nI 4 < (4 : Int32) := by decide
      refine ⟨some (-2), some (-2), ⟨_, rfl, rfl⟩, fun sf => ?_, fun sf => ?_⟩
      · unfold f10_rest_b37_body
        rw [if_neg i4]
      · unfold f11_restOf_b6_body
        rw [if_neg i4, if_neg hkm]
  obtain ⟨r, m1', m2'⟩ := main
  exact ⟨r, m1', by rw [m2', g_bs]⟩
end A
