/-! more calls that only ask -/
section A
variable {F : Nat} {c m : g_M} {T S : Nat}
theorem fstP_congr {P Q : Nat → Bool} {n : Nat} (h : ∀ i, i < n → P i = Q i) : fstP P n = fstP Q n := by
  rcases Nat.lt_or_ge (fstP P n) n with h1 | h1
  · refine (fstP_eq Q n _ h1 ?_ (fun i hi => ?_)).symm
    · rw [← h _ h1]; exact fstP_yes P n h1
    · rw [← h i (by omega)]; exact fstP_no P n i hi
  · have h2 : fstP P n = n := by have := fstP_le P n; omega
    rw [h2]
    refine (fstP_all Q n (fun i hi => ?_)).symm
    rw [← h i hi]; exact fstP_no P n i (by omega)
theorem s_named (hF : 5000 < F) (h : INV c m) (a b : Int32) : ASK (f10_named F a b c) (f11_named F a b m) c := by
  refine ask_of h (fun T S m1 h1 hTW hG => ?_)
  obtain ⟨hTS, h02⟩ := id hG
  obtain ⟨hT, ht, hf, hp0, hW, hR, hWS, hRS⟩ := id hTS
  obtain ⟨⟨⟨vP, bP⟩, ⟨vS, bS⟩, ⟨vD, bD⟩, ⟨vN, bN⟩, ⟨vW, bW⟩, ⟨vRoom, bRoom⟩, bRoom1, ⟨vStorm, bStorm⟩, ⟨vSeed, bSeed⟩, ⟨vK, bK⟩⟩, wPence, wSort, wDeed, wSend, wWant, wLaw⟩ := id hW
  obtain ⟨⟨⟨vDay, bDay⟩, ⟨vLast, bLast⟩, ⟨vSends, bSends⟩⟩, sPence, sHL, sPerm1, sPerm2, sSend, sWant, sOwn⟩ := id hWS
  obtain ⟨rCnt, rMan, rSort, rDeed, ⟨rT6, rT8, rT10, rT11, rT12, rT93⟩, rSent, rWanted, rLaw, rCode⟩ := id hR
  obtain ⟨⟨eDay, eLast, eStorms, eSends⟩, ePence, eHL, eSend, eWant⟩ := id hRS
  have e0 := rCnt 0 (by omega)
  have e1 := rCnt 1 (by omega)
  have e2 := rCnt 2 (by omega)
  have gd := fun {α : Type} {k : Nat → Option α} => g_drT (k := k) hp0 hT
  have gt := fun {α : Type} {k : Nat → Option α} => g_drT (k := k) h02 hT
  have n10 : ¬ nI 1 = nI 0 := by decide
  have n20 : ¬ nI 2 = nI 0 := by decide
  have n21 : ¬ nI 2 = nI 1 := by decide
  have l20 : ¬ nI 2 < nI 0 := by decide
  have l21 : ¬ nI 2 < nI 1 := by decide
  have k0 : nI 0 ≤ nI 1 := by decide
  have k1 : nI 0 ≤ nI 2 := by decide
  have k00 : nI 0 ≤ nI 0 := by decide
  have l22 : ¬ nI 2 < nI 2 := by decide
  by_cases ha : okI a 3
  · obtain ⟨k, hk, rfl⟩ := ha
    have hq := q_find hF hTS hk b
    have main : ∀ o, (k = 0 ∧ o = 3) ∨ (k = 1 ∧ o = 5) ∨ (k = 2 ∧ o = 8) → f11_found F o (nI 0) (nI (vl m1 2 k)) b m1 = f9_find F T (nI k) b c := by
      intro o ho
      have hn : vl m1 2 k ≤ 5 := by rcases ho with ⟨rfl, _⟩ | ⟨rfl, _⟩ | ⟨rfl, _⟩ <;> omega
      have hL : (yM.1 o).2 = 10 := by rcases ho with ⟨_, rfl⟩ | ⟨_, rfl⟩ | ⟨_, rfl⟩ <;> rfl
      rw [r_found hF (L := 10) hL (by omega) (by omega), hq]
      have e : fstP (fun i => decide (m1.1 o (0 + i) = b)) (vl m1 2 k) = fstP (fun i => decide (c.1 (T + 2) (5 * k + i) = b)) (vl m1 2 k) := by
        refine fstP_congr (fun i hi => ?_)
        have : c.1 (T + 2) (5 * k + i) = m1.1 o (0 + i) := by
          rw [Nat.zero_add]
          rcases ho with ⟨rfl, rfl⟩ | ⟨rfl, rfl⟩ | ⟨rfl, rfl⟩
          · rw [show 5 * 0 + i = i by omega]; exact (rMan i hi).1
          · exact (rSort i hi).1
          · exact (rDeed i hi).1
        show decide (m1.1 o (0 + i) = b) = decide (c.1 (T + 2) (5 * k + i) = b)
        rw [this]
      rw [e]
    obtain ⟨v, hv⟩ : ∃ v, f9_find F T (nI k) b c = some v := ⟨_, hq⟩
    clear hq
    refine ⟨v, ?_, ?_⟩
    · rcases (show k = 0 ∨ k = 1 ∨ k = 2 by omega) with rfl | rfl | rfl
      · simp (disch := omega) only [g_let, g_bs, g_l0, g_l1, g_l2, g_l3, g_l4, g_l5, g_l6, g_l7, g_l8, g_l9, g_l10, g_l11, g_l12, g_l15, g_l20, g_l24, g_l25, g_l30, g_l40, g_l99, g_l100, g_ckN, g_clN, g_ltN, g_leN, g_eqN, pk_mul, nI_add, if_true, if_false, Nat.reduceLT, Nat.reduceLeDiff, Nat.reduceEqDiff, Nat.lt_irrefl, f10_named, k00, l20, gt, hv]
      · simp (disch := omega) only [g_let, g_bs, g_l0, g_l1, g_l2, g_l3, g_l4, g_l5, g_l6, g_l7, g_l8, g_l9, g_l10, g_l11, g_l12, g_l15, g_l20, g_l24, g_l25, g_l30, g_l40, g_l99, g_l100, g_ckN, g_clN, g_ltN, g_leN, g_eqN, pk_mul, nI_add, if_true, if_false, Nat.reduceLT, Nat.reduceLeDiff, Nat.reduceEqDiff, Nat.lt_irrefl, f10_named, k0, l21, gt, hv]
      · simp (disch := omega) only [g_let, g_bs, g_l0, g_l1, g_l2, g_l3, g_l4, g_l5, g_l6, g_l7, g_l8, g_l9, g_l10, g_l11, g_l12, g_l15, g_l20, g_l24, g_l25, g_l30, g_l40, g_l99, g_l100, g_ckN, g_clN, g_ltN, g_leN, g_eqN, pk_mul, nI_add, if_true, if_false, Nat.reduceLT, Nat.reduceLeDiff, Nat.reduceEqDiff, Nat.lt_irrefl, f10_named, k1, l22, gt, hv]
    · rcases (show k = 0 ∨ k = 1 ∨ k = 2 by omega) with rfl | rfl | rfl
      · have e := (main 3 (by omega)).trans hv
        simp (disch := omega) only [g_let, g_bs, g_l0, g_l1, g_l2, g_l3, g_l4, g_l5, g_l6, g_l7, g_l8, g_l9, g_l10, g_l11, g_l12, g_l15, g_l20, g_l24, g_l25, g_l30, g_l40, g_l99, g_l100, g_ckN, g_clN, g_ltN, g_leN, g_eqN, pk_mul, nI_add, if_true, if_false, Nat.reduceLT, Nat.reduceLeDiff, Nat.reduceEqDiff, Nat.lt_irrefl, vP, e]
      · have e := (main 5 (by omega)).trans hv
        simp (disch := omega) only [g_let, g_bs, g_l0, g_l1, g_l2, g_l3, g_l4, g_l5, g_l6, g_l7, g_l8, g_l9, g_l10, g_l11, g_l12, g_l15, g_l20, g_l24, g_l25, g_l30, g_l40, g_l99, g_l100, g_ckN, g_clN, g_ltN, g_leN, g_eqN, pk_mul, nI_add, if_true, if_false, Nat.reduceLT, Nat.reduceLeDiff, Nat.reduceEqDiff, Nat.lt_irrefl, n10, vS, e]
      · have e := (main 8 (by omega)).trans hv
        simp (disch := omega) only [g_let, g_bs, g_l0, g_l1, g_l2, g_l3, g_l4, g_l5, g_l6, g_l7, g_l8, g_l9, g_l10, g_l11, g_l12, g_l15, g_l20, g_l24, g_l25, g_l30, g_l40, g_l99, g_l100, g_ckN, g_clN, g_ltN, g_leN, g_eqN, pk_mul, nI_add, if_true, if_false, Nat.reduceLT, Nat.reduceLeDiff, Nat.reduceEqDiff, Nat.lt_irrefl, n20, n21, vD, e]
  · have a0 : ¬ a = nI 0 := fun z => ha ⟨0, by omega, z⟩
    have a1 : ¬ a = nI 1 := fun z => ha ⟨1, by omega, z⟩
    have a2 : ¬ a = nI 2 := fun z => ha ⟨2, by omega, z⟩
    refine ⟨-1, ?_, ?_⟩
    · rcases i_cases a with z | ⟨k, hk, rfl⟩
      · have := neg_nle z
        simp (disch := omega) only [g_let, g_bs, g_l0, g_l1, g_l2, g_l3, g_l4, g_l5, g_l6, g_l7, g_l8, g_l9, g_l10, g_l11, g_l12, g_l15, g_l20, g_l24, g_l25, g_l30, g_l40, g_l99, g_l100, g_ckN, g_clN, g_ltN, g_leN, g_eqN, pk_mul, nI_add, if_true, if_false, Nat.reduceLT, Nat.reduceLeDiff, Nat.reduceEqDiff, Nat.lt_irrefl, f10_named, this]
      · have hk3 : 2 < k := by
          rcases Nat.lt_or_ge 2 k with z | z
          · exact z
          · exact absurd ⟨k, by omega, rfl⟩ ha
        simp (disch := omega) only [g_let, g_bs, g_l0, g_l1, g_l2, g_l3, g_l4, g_l5, g_l6, g_l7, g_l8, g_l9, g_l10, g_l11, g_l12, g_l15, g_l20, g_l24, g_l25, g_l30, g_l40, g_l99, g_l100, g_ckN, g_clN, g_ltN, g_leN, g_eqN, pk_mul, nI_add, if_true, if_false, Nat.reduceLT, Nat.reduceLeDiff, Nat.reduceEqDiff, Nat.lt_irrefl, f10_named, Nat.zero_le, hk3]
    · simp (disch := omega) only [g_let, g_bs, g_l0, g_l1, g_l2, g_l3, g_l4, g_l5, g_l6, g_l7, g_l8, g_l9, g_l10, g_l11, g_l12, g_l15, g_l20, g_l24, g_l25, g_l30, g_l40, g_l99, g_l100, g_ckN, g_clN, g_ltN, g_leN, g_eqN, pk_mul, nI_add, if_true, if_false, Nat.reduceLT, Nat.reduceLeDiff, Nat.reduceEqDiff, Nat.lt_irrefl, a0, a1, a2]
theorem s_sending (h : INV c m) (a b : Int32) : ASK (f10_sending F a b c) (f11_sending F a b m) c := by
  refine ask_of h (fun T S m1 h1 hTW hG => ?_)
  obtain ⟨hTS, h02⟩ := id hG
  obtain ⟨hT, ht, hf, hp0, hW, hR, hWS, hRS⟩ := id hTS
  obtain ⟨⟨⟨vP, bP⟩, ⟨vS, bS⟩, ⟨vD, bD⟩, ⟨vN, bN⟩, ⟨vW, bW⟩, ⟨vRoom, bRoom⟩, bRoom1, ⟨vStorm, bStorm⟩, ⟨vSeed, bSeed⟩, ⟨vK, bK⟩⟩, wPence, wSort, wDeed, wSend, wWant, wLaw⟩ := id hW
  obtain ⟨⟨⟨vDay, bDay⟩, ⟨vLast, bLast⟩, ⟨vSends, bSends⟩⟩, sPence, sHL, sPerm1, sPerm2, sSend, sWant, sOwn⟩ := id hWS
  obtain ⟨rCnt, rMan, rSort, rDeed, ⟨rT6, rT8, rT10, rT11, rT12, rT93⟩, rSent, rWanted, rLaw, rCode⟩ := id hR
  obtain ⟨⟨eDay, eLast, eStorms, eSends⟩, ePence, eHL, eSend, eWant⟩ := id hRS
  have e0 := rCnt 0 (by omega)
  have e1 := rCnt 1 (by omega)
  have e2 := rCnt 2 (by omega)
  have gd := fun {α : Type} {k : Nat → Option α} => g_drT (k := k) hp0 hT
  unfold f10_sending
  by_cases ha : okI a (vl m1 27 0)
  · obtain ⟨n, hn, rfl⟩ := ha
    obtain ⟨r0, r1, r2, r3⟩ := eSend n hn
    simp only [Nat.mul_zero, Nat.zero_add] at r0 r1 r2 r3
    rw [q_send1 hG hn, r_send1 hWS hn, g_bs, g_bs, if_neg nI10, if_neg nI10]
    by_cases hb : okI b 4
    · obtain ⟨k, hk, rfl⟩ := hb
      have hq := q_sendingAt (F := F) hTS (n := n) (k := k) (by omega) hk
      have b1 : (0 : Int32) ≤ nI k := nI_ge0 (by omega)
      have b2 : ¬ (4 : Int32) ≤ nI k := fun z => by have := (g_leN (a := 4) (b := k) (by omega) (by omega)).mp z; omega
      rw [if_pos b1, if_neg b2, hq, g_bs]
      refine ⟨_, rfl, ?_⟩
      have n10 : ¬ nI 1 = nI 0 := by decide
      have n20 : ¬ nI 2 = nI 0 := by decide
      have n21 : ¬ nI 2 = nI 1 := by decide
      have n30 : ¬ nI 3 = nI 0 := by decide
      have n31 : ¬ nI 3 = nI 1 := by decide
      have n32 : ¬ nI 3 = nI 2 := by decide
      rcases (show k = 0 ∨ k = 1 ∨ k = 2 ∨ k = 3 by omega) with rfl | rfl | rfl | rfl
      · rw [show 4 * n + 0 = 4 * n from rfl, r0]
        simp (disch := omega) only [g_let, g_bs, g_l0, g_l1, g_l2, g_l3, g_l4, g_l5, g_l6, g_l7, g_l8, g_l9, g_l10, g_l11, g_l12, g_l15, g_l20, g_l24, g_l25, g_l30, g_l40, g_l99, g_l100, g_ckN, g_clN, g_ltN, g_leN, g_eqN, pk_mul, nI_add, if_true, if_false, Nat.reduceLT, Nat.reduceLeDiff, Nat.reduceEqDiff, Nat.lt_irrefl]
      · rw [r1]
        simp (disch := omega) only [g_let, g_bs, g_l0, g_l1, g_l2, g_l3, g_l4, g_l5, g_l6, g_l7, g_l8, g_l9, g_l10, g_l11, g_l12, g_l15, g_l20, g_l24, g_l25, g_l30, g_l40, g_l99, g_l100, g_ckN, g_clN, g_ltN, g_leN, g_eqN, pk_mul, nI_add, if_true, if_false, Nat.reduceLT, Nat.reduceLeDiff, Nat.reduceEqDiff, Nat.lt_irrefl, n10]
      · rw [r2]
        simp (disch := omega) only [g_let, g_bs, g_l0, g_l1, g_l2, g_l3, g_l4, g_l5, g_l6, g_l7, g_l8, g_l9, g_l10, g_l11, g_l12, g_l15, g_l20, g_l24, g_l25, g_l30, g_l40, g_l99, g_l100, g_ckN, g_clN, g_ltN, g_leN, g_eqN, pk_mul, nI_add, if_true, if_false, Nat.reduceLT, Nat.reduceLeDiff, Nat.reduceEqDiff, Nat.lt_irrefl, n20, n21]
      · rw [r3]
        simp (disch := omega) only [g_let, g_bs, g_l0, g_l1, g_l2, g_l3, g_l4, g_l5, g_l6, g_l7, g_l8, g_l9, g_l10, g_l11, g_l12, g_l15, g_l20, g_l24, g_l25, g_l30, g_l40, g_l99, g_l100, g_ckN, g_clN, g_ltN, g_leN, g_eqN, pk_mul, nI_add, if_true, if_false, Nat.reduceLT, Nat.reduceLeDiff, Nat.reduceEqDiff, Nat.lt_irrefl, n30, n31, n32]
    · have a0 : ¬ b = nI 0 := fun z => hb ⟨0, by omega, z⟩
      have a1 : ¬ b = nI 1 := fun z => hb ⟨1, by omega, z⟩
      have a2 : ¬ b = nI 2 := fun z => hb ⟨2, by omega, z⟩
      have a3 : ¬ b = nI 3 := fun z => hb ⟨3, by omega, z⟩
      refine ⟨-1, ?_, ?_⟩
      · rcases i_cases b with z | ⟨k, hk, rfl⟩
        · rw [if_neg (show ¬ (0 : Int32) ≤ b from neg_nle z)]
        · have hk3 : 4 ≤ k := by
            rcases Nat.lt_or_ge k 4 with z | z
            · exact absurd ⟨k, z, rfl⟩ hb
            · exact z
          rw [if_pos (nI_ge0 hk), if_pos (show (4 : Int32) ≤ nI k from (g_leN (a := 4) (by omega) hk).mpr hk3)]
      · simp (disch := omega) only [g_let, g_bs, g_l0, g_l1, g_l2, g_l3, g_l4, g_l5, g_l6, g_l7, g_l8, g_l9, g_l10, g_l11, g_l12, g_l15, g_l20, g_l24, g_l25, g_l30, g_l40, g_l99, g_l100, g_ckN, g_clN, g_ltN, g_leN, g_eqN, pk_mul, nI_add, if_true, if_false, Nat.reduceLT, Nat.reduceLeDiff, Nat.reduceEqDiff, Nat.lt_irrefl, a0, a1, a2, a3]
  · rw [q_send0 hG ha, r_send0 hWS ha, g_bs, g_bs, if_pos nI00, if_pos nI00]
    exact ⟨_, rfl, rfl⟩
theorem s_want (h : INV c m) (a b : Int32) : ASK (f10_want F a b c) (f11_want F a b m) c := by
  refine ask_of h (fun T S m1 h1 hTW hG => ?_)
  obtain ⟨hTS, h02⟩ := id hG
  obtain ⟨hT, ht, hf, hp0, hW, hR, hWS, hRS⟩ := id hTS
  obtain ⟨⟨⟨vP, bP⟩, ⟨vS, bS⟩, ⟨vD, bD⟩, ⟨vN, bN⟩, ⟨vW, bW⟩, ⟨vRoom, bRoom⟩, bRoom1, ⟨vStorm, bStorm⟩, ⟨vSeed, bSeed⟩, ⟨vK, bK⟩⟩, wPence, wSort, wDeed, wSend, wWant, wLaw⟩ := id hW
  obtain ⟨⟨⟨vDay, bDay⟩, ⟨vLast, bLast⟩, ⟨vSends, bSends⟩⟩, sPence, sHL, sPerm1, sPerm2, sSend, sWant, sOwn⟩ := id hWS
  obtain ⟨rCnt, rMan, rSort, rDeed, ⟨rT6, rT8, rT10, rT11, rT12, rT93⟩, rSent, rWanted, rLaw, rCode⟩ := id hR
  obtain ⟨⟨eDay, eLast, eStorms, eSends⟩, ePence, eHL, eSend, eWant⟩ := id hRS
  have e0 := rCnt 0 (by omega)
  have e1 := rCnt 1 (by omega)
  have e2 := rCnt 2 (by omega)
  have gd := fun {α : Type} {k : Nat → Option α} => g_drT (k := k) hp0 hT
  have gt := fun {α : Type} {k : Nat → Option α} => g_drT (k := k) h02 hT
  unfold f10_want
  by_cases ha : okI a (vl m1 2 4)
  · obtain ⟨n, hn, rfl⟩ := ha
    obtain ⟨r0, r1, r2, r3, r4⟩ := rWanted n hn
    have r5 := eWant n (by omega)
    rw [show 8 * 0 + n = n by omega] at r5
    have hle : ¬ vl m1 2 4 ≤ n := by omega
    rw [q_want1 hG hn, g_bs, if_neg nI10]
    by_cases hb : okI b 6
    · obtain ⟨k, hk, rfl⟩ := hb
      have b1 : (0 : Int32) ≤ nI k := nI_ge0 (by omega)
      have b2 : ¬ (5 : Int32) < nI k := fun z => by have := (g_ltN (a := 5) (b := k) (by omega) (by omega)).mp z; omega
      rw [if_pos b1, if_neg b2]
      by_cases h5 : k = 5
      · subst h5
        refine ⟨m1.1 31 n, ?_, ?_⟩
        · rw [if_pos (by rfl), g_ckN (by omega) (by omega), g_clN (by omega)]; exact congrArg some r5
        · have n50 : ¬ nI 5 = nI 0 := by decide
          have n51 : ¬ nI 5 = nI 1 := by decide
          have n52 : ¬ nI 5 = nI 2 := by decide
          have n53 : ¬ nI 5 = nI 3 := by decide
          have n54 : ¬ nI 5 = nI 4 := by decide
          simp (disch := omega) only [g_let, g_bs, g_l0, g_l1, g_l2, g_l3, g_l4, g_l5, g_l6, g_l7, g_l8, g_l9, g_l10, g_l11, g_l12, g_l15, g_l20, g_l24, g_l25, g_l30, g_l40, g_l99, g_l100, g_ckN, g_clN, g_ltN, g_leN, g_eqN, pk_mul, nI_add, if_true, if_false, Nat.reduceLT, Nat.reduceLeDiff, Nat.reduceEqDiff, Nat.lt_irrefl, Nat.zero_le, vW, hle, n50, n51, n52, n53, n54]
      · have hq := q_wantAt (F := F) (T := T) (c := c) (n := n) (k := k) (by omega) (by omega)
        have b5 : ¬ nI k = (5 : Int32) := fun z => h5 ((g_eqN (a := k) (b := 5) (by omega) (by omega)).mp z)
        rw [if_neg b5, gt, hq, g_bs]
        refine ⟨_, rfl, ?_⟩
        have n10 : ¬ nI 1 = nI 0 := by decide
        have n20 : ¬ nI 2 = nI 0 := by decide
        have n21 : ¬ nI 2 = nI 1 := by decide
        have n30 : ¬ nI 3 = nI 0 := by decide
        have n31 : ¬ nI 3 = nI 1 := by decide
        have n32 : ¬ nI 3 = nI 2 := by decide
        have n40 : ¬ nI 4 = nI 0 := by decide
        have n41 : ¬ nI 4 = nI 1 := by decide
        have n42 : ¬ nI 4 = nI 2 := by decide
        have n43 : ¬ nI 4 = nI 3 := by decide
        rcases (show k = 0 ∨ k = 1 ∨ k = 2 ∨ k = 3 ∨ k = 4 by omega) with rfl | rfl | rfl | rfl | rfl
        · rw [show 5 * n + 0 = 5 * n from rfl, r0]
          simp (disch := omega) only [g_let, g_bs, g_l0, g_l1, g_l2, g_l3, g_l4, g_l5, g_l6, g_l7, g_l8, g_l9, g_l10, g_l11, g_l12, g_l15, g_l20, g_l24, g_l25, g_l30, g_l40, g_l99, g_l100, g_ckN, g_clN, g_ltN, g_leN, g_eqN, pk_mul, nI_add, if_true, if_false, Nat.reduceLT, Nat.reduceLeDiff, Nat.reduceEqDiff, Nat.lt_irrefl, Nat.zero_le, vW, hle]
        · rw [r1]
          simp (disch := omega) only [g_let, g_bs, g_l0, g_l1, g_l2, g_l3, g_l4, g_l5, g_l6, g_l7, g_l8, g_l9, g_l10, g_l11, g_l12, g_l15, g_l20, g_l24, g_l25, g_l30, g_l40, g_l99, g_l100, g_ckN, g_clN, g_ltN, g_leN, g_eqN, pk_mul, nI_add, if_true, if_false, Nat.reduceLT, Nat.reduceLeDiff, Nat.reduceEqDiff, Nat.lt_irrefl, Nat.zero_le, vW, hle, n10]
        · rw [r2]
          simp (disch := omega) only [g_let, g_bs, g_l0, g_l1, g_l2, g_l3, g_l4, g_l5, g_l6, g_l7, g_l8, g_l9, g_l10, g_l11, g_l12, g_l15, g_l20, g_l24, g_l25, g_l30, g_l40, g_l99, g_l100, g_ckN, g_clN, g_ltN, g_leN, g_eqN, pk_mul, nI_add, if_true, if_false, Nat.reduceLT, Nat.reduceLeDiff, Nat.reduceEqDiff, Nat.lt_irrefl, Nat.zero_le, vW, hle, n20, n21]
        · rw [r3]
          simp (disch := omega) only [g_let, g_bs, g_l0, g_l1, g_l2, g_l3, g_l4, g_l5, g_l6, g_l7, g_l8, g_l9, g_l10, g_l11, g_l12, g_l15, g_l20, g_l24, g_l25, g_l30, g_l40, g_l99, g_l100, g_ckN, g_clN, g_ltN, g_leN, g_eqN, pk_mul, nI_add, if_true, if_false, Nat.reduceLT, Nat.reduceLeDiff, Nat.reduceEqDiff, Nat.lt_irrefl, Nat.zero_le, vW, hle, n30, n31, n32]
        · rw [r4]
          simp (disch := omega) only [g_let, g_bs, g_l0, g_l1, g_l2, g_l3, g_l4, g_l5, g_l6, g_l7, g_l8, g_l9, g_l10, g_l11, g_l12, g_l15, g_l20, g_l24, g_l25, g_l30, g_l40, g_l99, g_l100, g_ckN, g_clN, g_ltN, g_leN, g_eqN, pk_mul, nI_add, if_true, if_false, Nat.reduceLT, Nat.reduceLeDiff, Nat.reduceEqDiff, Nat.lt_irrefl, Nat.zero_le, vW, hle, n40, n41, n42, n43]
    · have a0 : ¬ b = nI 0 := fun z => hb ⟨0, by omega, z⟩
      have a1 : ¬ b = nI 1 := fun z => hb ⟨1, by omega, z⟩
      have a2 : ¬ b = nI 2 := fun z => hb ⟨2, by omega, z⟩
      have a3 : ¬ b = nI 3 := fun z => hb ⟨3, by omega, z⟩
      have a4 : ¬ b = nI 4 := fun z => hb ⟨4, by omega, z⟩
      have a5 : ¬ b = nI 5 := fun z => hb ⟨5, by omega, z⟩
      refine ⟨-1, ?_, ?_⟩
      · rcases i_cases b with z | ⟨k, hk, rfl⟩
        · rw [if_neg (show ¬ (0 : Int32) ≤ b from neg_nle z)]
        · have hk3 : 5 < k := by
            rcases Nat.lt_or_ge 5 k with z | z
            · exact z
            · exact absurd ⟨k, by omega, rfl⟩ hb
          rw [if_pos (nI_ge0 hk), if_pos (show (5 : Int32) < nI k from (g_ltN (a := 5) (by omega) hk).mpr hk3)]
      · simp (disch := omega) only [g_let, g_bs, g_l0, g_l1, g_l2, g_l3, g_l4, g_l5, g_l6, g_l7, g_l8, g_l9, g_l10, g_l11, g_l12, g_l15, g_l20, g_l24, g_l25, g_l30, g_l40, g_l99, g_l100, g_ckN, g_clN, g_ltN, g_leN, g_eqN, pk_mul, nI_add, if_true, if_false, Nat.reduceLT, Nat.reduceLeDiff, Nat.reduceEqDiff, Nat.lt_irrefl, Nat.zero_le, vW, hle, a0, a1, a2, a3, a4, a5]
  · rw [q_want0 hG ha, g_bs, if_pos nI00]
    refine ⟨_, rfl, ?_⟩
    rcases not_okI (by omega) ha with z | ⟨z1, z2⟩
    · rw [if_neg (show ¬ (0 : Int32) ≤ a from z)]
    · rw [if_pos (show (0 : Int32) ≤ a from z1), g_l4, g_ckN (by omega) (by omega), g_clN (by omega), vW, if_pos (Int32.not_lt.mp z2)]
theorem s_count (hF : 5000 < F) (h : INV c m) (a : Int32) : ASK (f10_count F a c) (f11_count F a m) c := by
  refine ask_of h (fun T S m1 h1 hTW hG => ?_)
  obtain ⟨hTS, h02⟩ := id hG
  obtain ⟨hT, ht, hf, hp0, hW, hR, hWS, hRS⟩ := id hTS
  obtain ⟨⟨⟨vP, bP⟩, ⟨vS, bS⟩, ⟨vD, bD⟩, ⟨vN, bN⟩, ⟨vW, bW⟩, ⟨vRoom, bRoom⟩, bRoom1, ⟨vStorm, bStorm⟩, ⟨vSeed, bSeed⟩, ⟨vK, bK⟩⟩, wPence, wSort, wDeed, wSend, wWant, wLaw⟩ := id hW
  obtain ⟨⟨⟨vDay, bDay⟩, ⟨vLast, bLast⟩, ⟨vSends, bSends⟩⟩, sPence, sHL, sPerm1, sPerm2, sSend, sWant, sOwn⟩ := id hWS
  obtain ⟨rCnt, rMan, rSort, rDeed, ⟨rT6, rT8, rT10, rT11, rT12, rT93⟩, rSent, rWanted, rLaw, rCode⟩ := id hR
  obtain ⟨⟨eDay, eLast, eStorms, eSends⟩, ePence, eHL, eSend, eWant⟩ := id hRS
  have e0 := rCnt 0 (by omega)
  have e1 := rCnt 1 (by omega)
  have e2 := rCnt 2 (by omega)
  have gd := fun {α : Type} {k : Nat → Option α} => g_drT (k := k) hp0 hT
  obtain ⟨_, _, _, _, _, _, _, _, _, _, _, _, ⟨n, n1, n2, n3, n4, _, _⟩, ⟨u, u1, u2, u3, _⟩, _⟩ := h1
  have gt := fun {α : Type} {k : Nat → Option α} => g_drT (k := k) h02 hT
  unfold f10_count
  have z1 := q_wantsThatAre hF hTS (1 : Int32)
  have z2 := q_wantsThatAre hF hTS (2 : Int32)
  have y1 : f11_outcomes F (0 : Int32) (1 : Int32) m1 = _ := r_outcomes hF hW hf (1 : Int32)
  have y2 : f11_outcomes F (0 : Int32) (2 : Int32) m1 = _ := r_outcomes hF hW hf (2 : Int32)
  have y3 : f11_goneMany F (0 : Int32) m1 = _ := r_goneMany hF hWS hf
  have y4 : f11_penceAll F (0 : Int32) m1 = _ := r_penceAll hF hW hf
  have y5 : f11_mixedMany F (0 : Int32) m1 = _ := r_mixedMany hF hW hf
  have y6 : f7_mixed F 35 c = _ := (q_mixed2 hF hTS).trans (r_mixedMany hF hW hf)
  by_cases a0 : a = 0
  · subst a0
    refine ⟨m1.1 2 0, ?_, ?_⟩
    · rw [if_pos rfl, gt, g_l0, g_ckN (by omega) (by omega), g_clN (by omega), e0]
    · rw [if_pos rfl, g_l0, g_ckN (by omega) (by omega), g_clN (by omega)]
  rw [if_neg a0, if_neg a0]
  by_cases a1 : a = 1
  · subst a1
    refine ⟨m1.1 2 1, ?_, ?_⟩
    · rw [if_pos rfl, gt, g_l1, g_ckN (by omega) (by omega), g_clN (by omega), e1]
    · rw [if_pos rfl, g_l1, g_ckN (by omega) (by omega), g_clN (by omega)]
  rw [if_neg a1, if_neg a1]
  by_cases a2 : a = 2
  · subst a2
    refine ⟨m1.1 2 2, ?_, ?_⟩
    · rw [if_pos rfl, gt, g_l2, g_ckN (by omega) (by omega), g_clN (by omega), e2]
    · rw [if_pos rfl, g_l2, g_ckN (by omega) (by omega), g_clN (by omega)]
  rw [if_neg a2, if_neg a2]
  by_cases a3 : a = 3
  · exact ⟨m1.1 27 0, by rw [if_pos a3, eSends], by rw [if_pos a3, g_l0, g_ckN (by omega) (by omega), g_clN (by omega)]⟩
  rw [if_neg a3, if_neg a3]
  by_cases a4 : a = 4
  · exact ⟨m1.1 2 4, by rw [if_pos a4, gt, rT8], by rw [if_pos a4, g_l4, g_ckN (by omega) (by omega), g_clN (by omega)]⟩
  rw [if_neg a4, if_neg a4]
  by_cases a5 : a = 5
  · exact ⟨m1.1 2 8, by rw [if_pos a5, gt, rT93], by rw [if_pos a5, g_l8, g_ckN (by omega) (by omega), g_clN (by omega)]⟩
  rw [if_neg a5, if_neg a5]
  by_cases a6 : a = 6
  · exact ⟨m1.1 24 0, by rw [if_pos a6, eDay], by rw [if_pos a6, g_l0, g_ckN (by omega) (by omega), g_clN (by omega)]⟩
  rw [if_neg a6, if_neg a6]
  by_cases a7 : a = 7
  · exact ⟨_, by rw [if_pos a7, z1, g_bs], by rw [if_pos a7, y1, g_bs]⟩
  rw [if_neg a7, if_neg a7]
  by_cases a8 : a = 8
  · exact ⟨_, by rw [if_pos a8, z2, g_bs], by rw [if_pos a8, y2, g_bs]⟩
  rw [if_neg a8, if_neg a8]
  by_cases a9 : a = 9
  · exact ⟨_, by rw [if_pos a9, q_sendingsGone hF hTS, g_bs], by rw [if_pos a9, y3, g_bs]⟩
  rw [if_neg a9, if_neg a9]
  by_cases a10 : a = 10
  · exact ⟨_, by rw [if_pos a10, q_allPence hF hTS, g_bs], by rw [if_pos a10, y4, g_bs]⟩
  rw [if_neg a10, if_neg a10]
  by_cases a11 : a = 11
  · exact ⟨_, by rw [if_pos a11, y6, g_bs], by rw [if_pos a11, y5, g_bs]⟩
  rw [if_neg a11, if_neg a11]
  by_cases a12 : a = 12
  · exact ⟨m1.1 26 0, by rw [if_pos a12, eStorms], by rw [if_pos a12, g_l0, g_ckN (by omega) (by omega), g_clN (by omega)]⟩
  rw [if_neg a12, if_neg a12]
  by_cases a13 : a = 13
  · exact ⟨nI n, by rw [if_pos a13, n2], by rw [if_pos a13, n3]⟩
  rw [if_neg a13, if_neg a13]
  by_cases a14 : a = 14
  · rw [if_pos a14, if_pos a14]
    unfold f6_limit f11_knownMany
    rw [n4, n2, n3]
    by_cases k : m1.1 0 66 = -1
    · rw [if_pos k]; exact ⟨_, rfl, rfl⟩
    · rw [if_neg k]; exact ⟨_, rfl, rfl⟩
  rw [if_neg a14, if_neg a14]
  by_cases a15 : a = 15
  · exact ⟨nI u, by rw [if_pos a15, u2], by rw [if_pos a15, u3]⟩
  rw [if_neg a15, if_neg a15]
  exact ⟨_, rfl, rfl⟩
end A
