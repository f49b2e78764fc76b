/-! calls that only ask -/
def th0 (m : g_M) : g_M := g_sI m 0 0 (nI 0)
section A
variable {F : Nat} {c m : g_M} {T S : Nat}
theorem INV_thr (h : INV c m) (v : Int32) : INV c (g_sI m 0 0 v) := by
  have hA := h
  obtain ⟨T, S, _, _, _, _, _, _, _, _, _, hAB, _⟩ := hA
  exact INV_fr h (fun _ _ _ => rfl) (fun _ _ _ => rfl) (fun o k hr => sI_ne (fun z => by obtain ⟨z1, z2⟩ := z; subst z1; subst z2; unfold relM at hr; omega)) ⟨hAB.1, by rw [sI_ne (by omega)]; exact hAB.2.1, hAB.2.2⟩
theorem neg_ne {x : Int32} (h : x < 0) {j : Nat} (hj : j < 2147483648) : ¬ x = nI j := fun z => by
  rw [z] at h
  exact absurd h (Int32.not_lt.mpr (nI_ge0 hj))
theorem neg_nle {x : Int32} (h : x < 0) : ¬ nI 0 ≤ x := Int32.not_le.mpr h
def okI (a : Int32) (n : Nat) : Prop := ∃ k, k < n ∧ a = nI k
theorem not_okI {a : Int32} {n : Nat} (hn : n < 1000) (h : ¬ okI a n) : ¬ nI 0 ≤ a ∨ (nI 0 ≤ a ∧ ¬ a < nI n) := by
  rcases i_cases a with z | ⟨k, hk, rfl⟩
  · exact Or.inl (neg_nle z)
  · right
    refine ⟨nI_ge0 hk, fun z => h ⟨k, (g_ltN hk (by omega)).mp z, rfl⟩⟩
/-- what the simple guards see -/
def G (c m : g_M) (T : Nat) : Prop := TS c m T 35 0 ∧ c.2.2 0 2 = some T
theorem q_man1 (h : G c m T) {k : Nat} (hk : k < vl m 2 0) : f10_isMan F (nI k) c = some (nI 1) := by
  obtain ⟨hTS, h02⟩ := h
  obtain ⟨hT, ht, hf, hp0, hW, hR, hWS, hRS⟩ := id hTS
  obtain ⟨⟨⟨vP, bP⟩, ⟨vS, bS⟩, ⟨vD, bD⟩, ⟨vN, bN⟩, ⟨vW, bW⟩, ⟨vRoom, bRoom⟩, bRoom1, ⟨vStorm, bStorm⟩, ⟨vSeed, bSeed⟩, ⟨vK, bK⟩⟩, wPence, wSort, wDeed, wSend, wWant, wLaw⟩ := id hW
  obtain ⟨⟨⟨vDay, bDay⟩, ⟨vLast, bLast⟩, ⟨vSends, bSends⟩⟩, sPence, sHL, sPerm1, sPerm2, sSend, sWant, sOwn⟩ := id hWS
  obtain ⟨rCnt, rMan, rSort, rDeed, ⟨rT6, rT8, rT10, rT11, rT12, rT93⟩, rSent, rWanted, rLaw, rCode⟩ := id hR
  obtain ⟨⟨eDay, eLast, eStorms, eSends⟩, ePence, eHL, eSend, eWant⟩ := id hRS
  have e0 := rCnt 0 (by omega)
  have e1 := rCnt 1 (by omega)
  have e2 := rCnt 2 (by omega)
  have gd := fun {α : Type} {k : Nat → Option α} => g_drT (k := k) hp0 hT
  have gt := fun {α : Type} {k : Nat → Option α} => g_drT (k := k) h02 hT
  have z := nI_ge0 (show k < 2147483648 by omega)
  simp (disch := omega) only [g_let, g_bs, g_l0, g_l1, g_l2, g_l3, g_l4, g_l5, g_l6, g_l7, g_l8, g_l9, g_l10, g_l11, g_l12, g_l15, g_l20, g_l24, g_l25, g_l30, g_l40, g_l99, g_l100, g_ckN, g_clN, g_ltN, g_leN, g_eqN, pk_mul, nI_add, if_true, if_false, Nat.reduceLT, Nat.reduceLeDiff, Nat.reduceEqDiff, Nat.lt_irrefl, f10_isMan, gt, e0, vP, hk, Nat.zero_le]
theorem q_man0 (h : G c m T) {a : Int32} (ha : ¬ okI a (vl m 2 0)) : f10_isMan F a c = some (nI 0) := by
  obtain ⟨hTS, h02⟩ := h
  obtain ⟨hT, ht, hf, hp0, hW, hR, hWS, hRS⟩ := id hTS
  obtain ⟨⟨⟨vP, bP⟩, ⟨vS, bS⟩, ⟨vD, bD⟩, ⟨vN, bN⟩, ⟨vW, bW⟩, ⟨vRoom, bRoom⟩, bRoom1, ⟨vStorm, bStorm⟩, ⟨vSeed, bSeed⟩, ⟨vK, bK⟩⟩, wPence, wSort, wDeed, wSend, wWant, wLaw⟩ := id hW
  obtain ⟨⟨⟨vDay, bDay⟩, ⟨vLast, bLast⟩, ⟨vSends, bSends⟩⟩, sPence, sHL, sPerm1, sPerm2, sSend, sWant, sOwn⟩ := id hWS
  obtain ⟨rCnt, rMan, rSort, rDeed, ⟨rT6, rT8, rT10, rT11, rT12, rT93⟩, rSent, rWanted, rLaw, rCode⟩ := id hR
  obtain ⟨⟨eDay, eLast, eStorms, eSends⟩, ePence, eHL, eSend, eWant⟩ := id hRS
  have e0 := rCnt 0 (by omega)
  have e1 := rCnt 1 (by omega)
  have e2 := rCnt 2 (by omega)
  have gd := fun {α : Type} {k : Nat → Option α} => g_drT (k := k) hp0 hT
  have gt := fun {α : Type} {k : Nat → Option α} => g_drT (k := k) h02 hT
  rcases not_okI (by omega) ha with z | ⟨z1, z2⟩
  · simp (disch := omega) only [g_let, g_bs, g_l0, g_l1, g_l2, g_l3, g_l4, g_l5, g_l6, g_l7, g_l8, g_l9, g_l10, g_l11, g_l12, g_l15, g_l20, g_l24, g_l25, g_l30, g_l40, g_l99, g_l100, g_ckN, g_clN, g_ltN, g_leN, g_eqN, pk_mul, nI_add, if_true, if_false, Nat.reduceLT, Nat.reduceLeDiff, Nat.reduceEqDiff, Nat.lt_irrefl, f10_isMan, z]
  · simp (disch := omega) only [g_let, g_bs, g_l0, g_l1, g_l2, g_l3, g_l4, g_l5, g_l6, g_l7, g_l8, g_l9, g_l10, g_l11, g_l12, g_l15, g_l20, g_l24, g_l25, g_l30, g_l40, g_l99, g_l100, g_ckN, g_clN, g_ltN, g_leN, g_eqN, pk_mul, nI_add, if_true, if_false, Nat.reduceLT, Nat.reduceLeDiff, Nat.reduceEqDiff, Nat.lt_irrefl, f10_isMan, gt, e0, vP, z1, z2]
theorem q_sort1 (h : G c m T) {k : Nat} (hk : k < vl m 2 1) : f10_isSort F (nI k) c = some (nI 1) := by
  obtain ⟨hTS, h02⟩ := h
  obtain ⟨hT, ht, hf, hp0, hW, hR, hWS, hRS⟩ := id hTS
  obtain ⟨⟨⟨vP, bP⟩, ⟨vS, bS⟩, ⟨vD, bD⟩, ⟨vN, bN⟩, ⟨vW, bW⟩, ⟨vRoom, bRoom⟩, bRoom1, ⟨vStorm, bStorm⟩, ⟨vSeed, bSeed⟩, ⟨vK, bK⟩⟩, wPence, wSort, wDeed, wSend, wWant, wLaw⟩ := id hW
  obtain ⟨⟨⟨vDay, bDay⟩, ⟨vLast, bLast⟩, ⟨vSends, bSends⟩⟩, sPence, sHL, sPerm1, sPerm2, sSend, sWant, sOwn⟩ := id hWS
  obtain ⟨rCnt, rMan, rSort, rDeed, ⟨rT6, rT8, rT10, rT11, rT12, rT93⟩, rSent, rWanted, rLaw, rCode⟩ := id hR
  obtain ⟨⟨eDay, eLast, eStorms, eSends⟩, ePence, eHL, eSend, eWant⟩ := id hRS
  have e0 := rCnt 0 (by omega)
  have e1 := rCnt 1 (by omega)
  have e2 := rCnt 2 (by omega)
  have gd := fun {α : Type} {k : Nat → Option α} => g_drT (k := k) hp0 hT
  have gt := fun {α : Type} {k : Nat → Option α} => g_drT (k := k) h02 hT
  simp (disch := omega) only [g_let, g_bs, g_l0, g_l1, g_l2, g_l3, g_l4, g_l5, g_l6, g_l7, g_l8, g_l9, g_l10, g_l11, g_l12, g_l15, g_l20, g_l24, g_l25, g_l30, g_l40, g_l99, g_l100, g_ckN, g_clN, g_ltN, g_leN, g_eqN, pk_mul, nI_add, if_true, if_false, Nat.reduceLT, Nat.reduceLeDiff, Nat.reduceEqDiff, Nat.lt_irrefl, f10_isSort, gt, e1, vS, hk, Nat.zero_le]
theorem q_sort0 (h : G c m T) {a : Int32} (ha : ¬ okI a (vl m 2 1)) : f10_isSort F a c = some (nI 0) := by
  obtain ⟨hTS, h02⟩ := h
  obtain ⟨hT, ht, hf, hp0, hW, hR, hWS, hRS⟩ := id hTS
  obtain ⟨⟨⟨vP, bP⟩, ⟨vS, bS⟩, ⟨vD, bD⟩, ⟨vN, bN⟩, ⟨vW, bW⟩, ⟨vRoom, bRoom⟩, bRoom1, ⟨vStorm, bStorm⟩, ⟨vSeed, bSeed⟩, ⟨vK, bK⟩⟩, wPence, wSort, wDeed, wSend, wWant, wLaw⟩ := id hW
  obtain ⟨⟨⟨vDay, bDay⟩, ⟨vLast, bLast⟩, ⟨vSends, bSends⟩⟩, sPence, sHL, sPerm1, sPerm2, sSend, sWant, sOwn⟩ := id hWS
  obtain ⟨rCnt, rMan, rSort, rDeed, ⟨rT6, rT8, rT10, rT11, rT12, rT93⟩, rSent, rWanted, rLaw, rCode⟩ := id hR
  obtain ⟨⟨eDay, eLast, eStorms, eSends⟩, ePence, eHL, eSend, eWant⟩ := id hRS
  have e0 := rCnt 0 (by omega)
  have e1 := rCnt 1 (by omega)
  have e2 := rCnt 2 (by omega)
  have gd := fun {α : Type} {k : Nat → Option α} => g_drT (k := k) hp0 hT
  have gt := fun {α : Type} {k : Nat → Option α} => g_drT (k := k) h02 hT
  rcases not_okI (by omega) ha with z | ⟨z1, z2⟩
  · simp (disch := omega) only [g_let, g_bs, g_l0, g_l1, g_l2, g_l3, g_l4, g_l5, g_l6, g_l7, g_l8, g_l9, g_l10, g_l11, g_l12, g_l15, g_l20, g_l24, g_l25, g_l30, g_l40, g_l99, g_l100, g_ckN, g_clN, g_ltN, g_leN, g_eqN, pk_mul, nI_add, if_true, if_false, Nat.reduceLT, Nat.reduceLeDiff, Nat.reduceEqDiff, Nat.lt_irrefl, f10_isSort, z]
  · simp (disch := omega) only [g_let, g_bs, g_l0, g_l1, g_l2, g_l3, g_l4, g_l5, g_l6, g_l7, g_l8, g_l9, g_l10, g_l11, g_l12, g_l15, g_l20, g_l24, g_l25, g_l30, g_l40, g_l99, g_l100, g_ckN, g_clN, g_ltN, g_leN, g_eqN, pk_mul, nI_add, if_true, if_false, Nat.reduceLT, Nat.reduceLeDiff, Nat.reduceEqDiff, Nat.lt_irrefl, f10_isSort, gt, e1, vS, z1, z2]
theorem q_deed1 (h : G c m T) {k : Nat} (hk : k < vl m 2 2) : f10_isDeed F (nI k) c = some (nI 1) := by
  obtain ⟨hTS, h02⟩ := h
  obtain ⟨hT, ht, hf, hp0, hW, hR, hWS, hRS⟩ := id hTS
  obtain ⟨⟨⟨vP, bP⟩, ⟨vS, bS⟩, ⟨vD, bD⟩, ⟨vN, bN⟩, ⟨vW, bW⟩, ⟨vRoom, bRoom⟩, bRoom1, ⟨vStorm, bStorm⟩, ⟨vSeed, bSeed⟩, ⟨vK, bK⟩⟩, wPence, wSort, wDeed, wSend, wWant, wLaw⟩ := id hW
  obtain ⟨⟨⟨vDay, bDay⟩, ⟨vLast, bLast⟩, ⟨vSends, bSends⟩⟩, sPence, sHL, sPerm1, sPerm2, sSend, sWant, sOwn⟩ := id hWS
  obtain ⟨rCnt, rMan, rSort, rDeed, ⟨rT6, rT8, rT10, rT11, rT12, rT93⟩, rSent, rWanted, rLaw, rCode⟩ := id hR
  obtain ⟨⟨eDay, eLast, eStorms, eSends⟩, ePence, eHL, eSend, eWant⟩ := id hRS
  have e0 := rCnt 0 (by omega)
  have e1 := rCnt 1 (by omega)
  have e2 := rCnt 2 (by omega)
  have gd := fun {α : Type} {k : Nat → Option α} => g_drT (k := k) hp0 hT
  have gt := fun {α : Type} {k : Nat → Option α} => g_drT (k := k) h02 hT
  simp (disch := omega) only [g_let, g_bs, g_l0, g_l1, g_l2, g_l3, g_l4, g_l5, g_l6, g_l7, g_l8, g_l9, g_l10, g_l11, g_l12, g_l15, g_l20, g_l24, g_l25, g_l30, g_l40, g_l99, g_l100, g_ckN, g_clN, g_ltN, g_leN, g_eqN, pk_mul, nI_add, if_true, if_false, Nat.reduceLT, Nat.reduceLeDiff, Nat.reduceEqDiff, Nat.lt_irrefl, f10_isDeed, gt, e2, vD, hk, Nat.zero_le]
theorem q_deed0 (h : G c m T) {a : Int32} (ha : ¬ okI a (vl m 2 2)) : f10_isDeed F a c = some (nI 0) := by
  obtain ⟨hTS, h02⟩ := h
  obtain ⟨hT, ht, hf, hp0, hW, hR, hWS, hRS⟩ := id hTS
  obtain ⟨⟨⟨vP, bP⟩, ⟨vS, bS⟩, ⟨vD, bD⟩, ⟨vN, bN⟩, ⟨vW, bW⟩, ⟨vRoom, bRoom⟩, bRoom1, ⟨vStorm, bStorm⟩, ⟨vSeed, bSeed⟩, ⟨vK, bK⟩⟩, wPence, wSort, wDeed, wSend, wWant, wLaw⟩ := id hW
  obtain ⟨⟨⟨vDay, bDay⟩, ⟨vLast, bLast⟩, ⟨vSends, bSends⟩⟩, sPence, sHL, sPerm1, sPerm2, sSend, sWant, sOwn⟩ := id hWS
  obtain ⟨rCnt, rMan, rSort, rDeed, ⟨rT6, rT8, rT10, rT11, rT12, rT93⟩, rSent, rWanted, rLaw, rCode⟩ := id hR
  obtain ⟨⟨eDay, eLast, eStorms, eSends⟩, ePence, eHL, eSend, eWant⟩ := id hRS
  have e0 := rCnt 0 (by omega)
  have e1 := rCnt 1 (by omega)
  have e2 := rCnt 2 (by omega)
  have gd := fun {α : Type} {k : Nat → Option α} => g_drT (k := k) hp0 hT
  have gt := fun {α : Type} {k : Nat → Option α} => g_drT (k := k) h02 hT
  rcases not_okI (by omega) ha with z | ⟨z1, z2⟩
  · simp (disch := omega) only [g_let, g_bs, g_l0, g_l1, g_l2, g_l3, g_l4, g_l5, g_l6, g_l7, g_l8, g_l9, g_l10, g_l11, g_l12, g_l15, g_l20, g_l24, g_l25, g_l30, g_l40, g_l99, g_l100, g_ckN, g_clN, g_ltN, g_leN, g_eqN, pk_mul, nI_add, if_true, if_false, Nat.reduceLT, Nat.reduceLeDiff, Nat.reduceEqDiff, Nat.lt_irrefl, f10_isDeed, z]
  · simp (disch := omega) only [g_let, g_bs, g_l0, g_l1, g_l2, g_l3, g_l4, g_l5, g_l6, g_l7, g_l8, g_l9, g_l10, g_l11, g_l12, g_l15, g_l20, g_l24, g_l25, g_l30, g_l40, g_l99, g_l100, g_ckN, g_clN, g_ltN, g_leN, g_eqN, pk_mul, nI_add, if_true, if_false, Nat.reduceLT, Nat.reduceLeDiff, Nat.reduceEqDiff, Nat.lt_irrefl, f10_isDeed, gt, e2, vD, z1, z2]
theorem q_send1 (h : G c m T) {k : Nat} (hk : k < vl m 27 0) : f10_isSending F (nI k) c = some (nI 1) := by
  obtain ⟨hTS, h02⟩ := h
  obtain ⟨hT, ht, hf, hp0, hW, hR, hWS, hRS⟩ := id hTS
  obtain ⟨⟨⟨vP, bP⟩, ⟨vS, bS⟩, ⟨vD, bD⟩, ⟨vN, bN⟩, ⟨vW, bW⟩, ⟨vRoom, bRoom⟩, bRoom1, ⟨vStorm, bStorm⟩, ⟨vSeed, bSeed⟩, ⟨vK, bK⟩⟩, wPence, wSort, wDeed, wSend, wWant, wLaw⟩ := id hW
  obtain ⟨⟨⟨vDay, bDay⟩, ⟨vLast, bLast⟩, ⟨vSends, bSends⟩⟩, sPence, sHL, sPerm1, sPerm2, sSend, sWant, sOwn⟩ := id hWS
  obtain ⟨rCnt, rMan, rSort, rDeed, ⟨rT6, rT8, rT10, rT11, rT12, rT93⟩, rSent, rWanted, rLaw, rCode⟩ := id hR
  obtain ⟨⟨eDay, eLast, eStorms, eSends⟩, ePence, eHL, eSend, eWant⟩ := id hRS
  have e0 := rCnt 0 (by omega)
  have e1 := rCnt 1 (by omega)
  have e2 := rCnt 2 (by omega)
  have gd := fun {α : Type} {k : Nat → Option α} => g_drT (k := k) hp0 hT
  simp (disch := omega) only [g_let, g_bs, g_l0, g_l1, g_l2, g_l3, g_l4, g_l5, g_l6, g_l7, g_l8, g_l9, g_l10, g_l11, g_l12, g_l15, g_l20, g_l24, g_l25, g_l30, g_l40, g_l99, g_l100, g_ckN, g_clN, g_ltN, g_leN, g_eqN, pk_mul, nI_add, if_true, if_false, Nat.reduceLT, Nat.reduceLeDiff, Nat.reduceEqDiff, Nat.lt_irrefl, f10_isSending, eSends, vSends, hk, Nat.zero_le]
theorem q_send0 (h : G c m T) {a : Int32} (ha : ¬ okI a (vl m 27 0)) : f10_isSending F a c = some (nI 0) := by
  obtain ⟨hTS, h02⟩ := h
  obtain ⟨hT, ht, hf, hp0, hW, hR, hWS, hRS⟩ := id hTS
  obtain ⟨⟨⟨vP, bP⟩, ⟨vS, bS⟩, ⟨vD, bD⟩, ⟨vN, bN⟩, ⟨vW, bW⟩, ⟨vRoom, bRoom⟩, bRoom1, ⟨vStorm, bStorm⟩, ⟨vSeed, bSeed⟩, ⟨vK, bK⟩⟩, wPence, wSort, wDeed, wSend, wWant, wLaw⟩ := id hW
  obtain ⟨⟨⟨vDay, bDay⟩, ⟨vLast, bLast⟩, ⟨vSends, bSends⟩⟩, sPence, sHL, sPerm1, sPerm2, sSend, sWant, sOwn⟩ := id hWS
  obtain ⟨rCnt, rMan, rSort, rDeed, ⟨rT6, rT8, rT10, rT11, rT12, rT93⟩, rSent, rWanted, rLaw, rCode⟩ := id hR
  obtain ⟨⟨eDay, eLast, eStorms, eSends⟩, ePence, eHL, eSend, eWant⟩ := id hRS
  have e0 := rCnt 0 (by omega)
  have e1 := rCnt 1 (by omega)
  have e2 := rCnt 2 (by omega)
  have gd := fun {α : Type} {k : Nat → Option α} => g_drT (k := k) hp0 hT
  rcases not_okI (by omega) ha with z | ⟨z1, z2⟩
  · simp (disch := omega) only [g_let, g_bs, g_l0, g_l1, g_l2, g_l3, g_l4, g_l5, g_l6, g_l7, g_l8, g_l9, g_l10, g_l11, g_l12, g_l15, g_l20, g_l24, g_l25, g_l30, g_l40, g_l99, g_l100, g_ckN, g_clN, g_ltN, g_leN, g_eqN, pk_mul, nI_add, if_true, if_false, Nat.reduceLT, Nat.reduceLeDiff, Nat.reduceEqDiff, Nat.lt_irrefl, f10_isSending, z]
  · simp (disch := omega) only [g_let, g_bs, g_l0, g_l1, g_l2, g_l3, g_l4, g_l5, g_l6, g_l7, g_l8, g_l9, g_l10, g_l11, g_l12, g_l15, g_l20, g_l24, g_l25, g_l30, g_l40, g_l99, g_l100, g_ckN, g_clN, g_ltN, g_leN, g_eqN, pk_mul, nI_add, if_true, if_false, Nat.reduceLT, Nat.reduceLeDiff, Nat.reduceEqDiff, Nat.lt_irrefl, f10_isSending, eSends, vSends, z1, z2]
theorem q_want1 (h : G c m T) {k : Nat} (hk : k < vl m 2 4) : f10_isWant F (nI k) c = some (nI 1) := by
  obtain ⟨hTS, h02⟩ := h
  obtain ⟨hT, ht, hf, hp0, hW, hR, hWS, hRS⟩ := id hTS
  obtain ⟨⟨⟨vP, bP⟩, ⟨vS, bS⟩, ⟨vD, bD⟩, ⟨vN, bN⟩, ⟨vW, bW⟩, ⟨vRoom, bRoom⟩, bRoom1, ⟨vStorm, bStorm⟩, ⟨vSeed, bSeed⟩, ⟨vK, bK⟩⟩, wPence, wSort, wDeed, wSend, wWant, wLaw⟩ := id hW
  obtain ⟨⟨⟨vDay, bDay⟩, ⟨vLast, bLast⟩, ⟨vSends, bSends⟩⟩, sPence, sHL, sPerm1, sPerm2, sSend, sWant, sOwn⟩ := id hWS
  obtain ⟨rCnt, rMan, rSort, rDeed, ⟨rT6, rT8, rT10, rT11, rT12, rT93⟩, rSent, rWanted, rLaw, rCode⟩ := id hR
  obtain ⟨⟨eDay, eLast, eStorms, eSends⟩, ePence, eHL, eSend, eWant⟩ := id hRS
  have e0 := rCnt 0 (by omega)
  have e1 := rCnt 1 (by omega)
  have e2 := rCnt 2 (by omega)
  have gd := fun {α : Type} {k : Nat → Option α} => g_drT (k := k) hp0 hT
  have gt := fun {α : Type} {k : Nat → Option α} => g_drT (k := k) h02 hT
  simp (disch := omega) only [g_let, g_bs, g_l0, g_l1, g_l2, g_l3, g_l4, g_l5, g_l6, g_l7, g_l8, g_l9, g_l10, g_l11, g_l12, g_l15, g_l20, g_l24, g_l25, g_l30, g_l40, g_l99, g_l100, g_ckN, g_clN, g_ltN, g_leN, g_eqN, pk_mul, nI_add, if_true, if_false, Nat.reduceLT, Nat.reduceLeDiff, Nat.reduceEqDiff, Nat.lt_irrefl, f10_isWant, gt, rT8, vW, hk, Nat.zero_le]
theorem q_want0 (h : G c m T) {a : Int32} (ha : ¬ okI a (vl m 2 4)) : f10_isWant F a c = some (nI 0) := by
  obtain ⟨hTS, h02⟩ := h
  obtain ⟨hT, ht, hf, hp0, hW, hR, hWS, hRS⟩ := id hTS
  obtain ⟨⟨⟨vP, bP⟩, ⟨vS, bS⟩, ⟨vD, bD⟩, ⟨vN, bN⟩, ⟨vW, bW⟩, ⟨vRoom, bRoom⟩, bRoom1, ⟨vStorm, bStorm⟩, ⟨vSeed, bSeed⟩, ⟨vK, bK⟩⟩, wPence, wSort, wDeed, wSend, wWant, wLaw⟩ := id hW
  obtain ⟨⟨⟨vDay, bDay⟩, ⟨vLast, bLast⟩, ⟨vSends, bSends⟩⟩, sPence, sHL, sPerm1, sPerm2, sSend, sWant, sOwn⟩ := id hWS
  obtain ⟨rCnt, rMan, rSort, rDeed, ⟨rT6, rT8, rT10, rT11, rT12, rT93⟩, rSent, rWanted, rLaw, rCode⟩ := id hR
  obtain ⟨⟨eDay, eLast, eStorms, eSends⟩, ePence, eHL, eSend, eWant⟩ := id hRS
  have e0 := rCnt 0 (by omega)
  have e1 := rCnt 1 (by omega)
  have e2 := rCnt 2 (by omega)
  have gd := fun {α : Type} {k : Nat → Option α} => g_drT (k := k) hp0 hT
  have gt := fun {α : Type} {k : Nat → Option α} => g_drT (k := k) h02 hT
  rcases not_okI (by omega) ha with z | ⟨z1, z2⟩
  · simp (disch := omega) only [g_let, g_bs, g_l0, g_l1, g_l2, g_l3, g_l4, g_l5, g_l6, g_l7, g_l8, g_l9, g_l10, g_l11, g_l12, g_l15, g_l20, g_l24, g_l25, g_l30, g_l40, g_l99, g_l100, g_ckN, g_clN, g_ltN, g_leN, g_eqN, pk_mul, nI_add, if_true, if_false, Nat.reduceLT, Nat.reduceLeDiff, Nat.reduceEqDiff, Nat.lt_irrefl, f10_isWant, z]
  · simp (disch := omega) only [g_let, g_bs, g_l0, g_l1, g_l2, g_l3, g_l4, g_l5, g_l6, g_l7, g_l8, g_l9, g_l10, g_l11, g_l12, g_l15, g_l20, g_l24, g_l25, g_l30, g_l40, g_l99, g_l100, g_ckN, g_clN, g_ltN, g_leN, g_eqN, pk_mul, nI_add, if_true, if_false, Nat.reduceLT, Nat.reduceLeDiff, Nat.reduceEqDiff, Nat.lt_irrefl, f10_isWant, gt, rT8, vW, z1, z2]
theorem r_man1 (h : WT m) {k : Nat} (hk : k < vl m 2 0) : f11_isMan F (nI k) m = some (nI 1) := by
  obtain ⟨⟨⟨vP, bP⟩, ⟨vS, bS⟩, ⟨vD, bD⟩, ⟨vN, bN⟩, ⟨vW, bW⟩, ⟨vRoom, bRoom⟩, bRoom1, ⟨vStorm, bStorm⟩, ⟨vSeed, bSeed⟩, ⟨vK, bK⟩⟩, wPence, wSort, wDeed, wSend, wWant, wLaw⟩ := id h
  simp (disch := omega) only [g_let, g_bs, g_l0, g_l1, g_l2, g_l3, g_l4, g_l5, g_l6, g_l7, g_l8, g_l9, g_l10, g_l11, g_l12, g_l15, g_l20, g_l24, g_l25, g_l30, g_l40, g_l99, g_l100, g_ckN, g_clN, g_ltN, g_leN, g_eqN, pk_mul, nI_add, if_true, if_false, Nat.reduceLT, Nat.reduceLeDiff, Nat.reduceEqDiff, Nat.lt_irrefl, f11_isMan, vP, hk, Nat.zero_le]
theorem r_man0 (h : WT m) {a : Int32} (ha : ¬ okI a (vl m 2 0)) : f11_isMan F a m = some (nI 0) := by
  obtain ⟨⟨⟨vP, bP⟩, ⟨vS, bS⟩, ⟨vD, bD⟩, ⟨vN, bN⟩, ⟨vW, bW⟩, ⟨vRoom, bRoom⟩, bRoom1, ⟨vStorm, bStorm⟩, ⟨vSeed, bSeed⟩, ⟨vK, bK⟩⟩, wPence, wSort, wDeed, wSend, wWant, wLaw⟩ := id h
  rcases not_okI (by omega) ha with z | ⟨z1, z2⟩
  · simp (disch := omega) only [g_let, g_bs, g_l0, g_l1, g_l2, g_l3, g_l4, g_l5, g_l6, g_l7, g_l8, g_l9, g_l10, g_l11, g_l12, g_l15, g_l20, g_l24, g_l25, g_l30, g_l40, g_l99, g_l100, g_ckN, g_clN, g_ltN, g_leN, g_eqN, pk_mul, nI_add, if_true, if_false, Nat.reduceLT, Nat.reduceLeDiff, Nat.reduceEqDiff, Nat.lt_irrefl, f11_isMan, z]
  · simp (disch := omega) only [g_let, g_bs, g_l0, g_l1, g_l2, g_l3, g_l4, g_l5, g_l6, g_l7, g_l8, g_l9, g_l10, g_l11, g_l12, g_l15, g_l20, g_l24, g_l25, g_l30, g_l40, g_l99, g_l100, g_ckN, g_clN, g_ltN, g_leN, g_eqN, pk_mul, nI_add, if_true, if_false, Nat.reduceLT, Nat.reduceLeDiff, Nat.reduceEqDiff, Nat.lt_irrefl, f11_isMan, vP, z1, z2]
theorem r_sort1 (h : WT m) {k : Nat} (hk : k < vl m 2 1) : f11_isSort F (nI k) m = some (nI 1) := by
  obtain ⟨⟨⟨vP, bP⟩, ⟨vS, bS⟩, ⟨vD, bD⟩, ⟨vN, bN⟩, ⟨vW, bW⟩, ⟨vRoom, bRoom⟩, bRoom1, ⟨vStorm, bStorm⟩, ⟨vSeed, bSeed⟩, ⟨vK, bK⟩⟩, wPence, wSort, wDeed, wSend, wWant, wLaw⟩ := id h
  simp (disch := omega) only [g_let, g_bs, g_l0, g_l1, g_l2, g_l3, g_l4, g_l5, g_l6, g_l7, g_l8, g_l9, g_l10, g_l11, g_l12, g_l15, g_l20, g_l24, g_l25, g_l30, g_l40, g_l99, g_l100, g_ckN, g_clN, g_ltN, g_leN, g_eqN, pk_mul, nI_add, if_true, if_false, Nat.reduceLT, Nat.reduceLeDiff, Nat.reduceEqDiff, Nat.lt_irrefl, f11_isSort, vS, hk, Nat.zero_le]
theorem r_sort0 (h : WT m) {a : Int32} (ha : ¬ okI a (vl m 2 1)) : f11_isSort F a m = some (nI 0) := by
  obtain ⟨⟨⟨vP, bP⟩, ⟨vS, bS⟩, ⟨vD, bD⟩, ⟨vN, bN⟩, ⟨vW, bW⟩, ⟨vRoom, bRoom⟩, bRoom1, ⟨vStorm, bStorm⟩, ⟨vSeed, bSeed⟩, ⟨vK, bK⟩⟩, wPence, wSort, wDeed, wSend, wWant, wLaw⟩ := id h
  rcases not_okI (by omega) ha with z | ⟨z1, z2⟩
  · simp (disch := omega) only [g_let, g_bs, g_l0, g_l1, g_l2, g_l3, g_l4, g_l5, g_l6, g_l7, g_l8, g_l9, g_l10, g_l11, g_l12, g_l15, g_l20, g_l24, g_l25, g_l30, g_l40, g_l99, g_l100, g_ckN, g_clN, g_ltN, g_leN, g_eqN, pk_mul, nI_add, if_true, if_false, Nat.reduceLT, Nat.reduceLeDiff, Nat.reduceEqDiff, Nat.lt_irrefl, f11_isSort, z]
  · simp (disch := omega) only [g_let, g_bs, g_l0, g_l1, g_l2, g_l3, g_l4, g_l5, g_l6, g_l7, g_l8, g_l9, g_l10, g_l11, g_l12, g_l15, g_l20, g_l24, g_l25, g_l30, g_l40, g_l99, g_l100, g_ckN, g_clN, g_ltN, g_leN, g_eqN, pk_mul, nI_add, if_true, if_false, Nat.reduceLT, Nat.reduceLeDiff, Nat.reduceEqDiff, Nat.lt_irrefl, f11_isSort, vS, z1, z2]
theorem r_deed1 (h : WT m) {k : Nat} (hk : k < vl m 2 2) : f11_isDeed F (nI k) m = some (nI 1) := by
  obtain ⟨⟨⟨vP, bP⟩, ⟨vS, bS⟩, ⟨vD, bD⟩, ⟨vN, bN⟩, ⟨vW, bW⟩, ⟨vRoom, bRoom⟩, bRoom1, ⟨vStorm, bStorm⟩, ⟨vSeed, bSeed⟩, ⟨vK, bK⟩⟩, wPence, wSort, wDeed, wSend, wWant, wLaw⟩ := id h
  simp (disch := omega) only [g_let, g_bs, g_l0, g_l1, g_l2, g_l3, g_l4, g_l5, g_l6, g_l7, g_l8, g_l9, g_l10, g_l11, g_l12, g_l15, g_l20, g_l24, g_l25, g_l30, g_l40, g_l99, g_l100, g_ckN, g_clN, g_ltN, g_leN, g_eqN, pk_mul, nI_add, if_true, if_false, Nat.reduceLT, Nat.reduceLeDiff, Nat.reduceEqDiff, Nat.lt_irrefl, f11_isDeed, vD, hk, Nat.zero_le]
theorem r_deed0 (h : WT m) {a : Int32} (ha : ¬ okI a (vl m 2 2)) : f11_isDeed F a m = some (nI 0) := by
  obtain ⟨⟨⟨vP, bP⟩, ⟨vS, bS⟩, ⟨vD, bD⟩, ⟨vN, bN⟩, ⟨vW, bW⟩, ⟨vRoom, bRoom⟩, bRoom1, ⟨vStorm, bStorm⟩, ⟨vSeed, bSeed⟩, ⟨vK, bK⟩⟩, wPence, wSort, wDeed, wSend, wWant, wLaw⟩ := id h
  rcases not_okI (by omega) ha with z | ⟨z1, z2⟩
  · simp (disch := omega) only [g_let, g_bs, g_l0, g_l1, g_l2, g_l3, g_l4, g_l5, g_l6, g_l7, g_l8, g_l9, g_l10, g_l11, g_l12, g_l15, g_l20, g_l24, g_l25, g_l30, g_l40, g_l99, g_l100, g_ckN, g_clN, g_ltN, g_leN, g_eqN, pk_mul, nI_add, if_true, if_false, Nat.reduceLT, Nat.reduceLeDiff, Nat.reduceEqDiff, Nat.lt_irrefl, f11_isDeed, z]
  · simp (disch := omega) only [g_let, g_bs, g_l0, g_l1, g_l2, g_l3, g_l4, g_l5, g_l6, g_l7, g_l8, g_l9, g_l10, g_l11, g_l12, g_l15, g_l20, g_l24, g_l25, g_l30, g_l40, g_l99, g_l100, g_ckN, g_clN, g_ltN, g_leN, g_eqN, pk_mul, nI_add, if_true, if_false, Nat.reduceLT, Nat.reduceLeDiff, Nat.reduceEqDiff, Nat.lt_irrefl, f11_isDeed, vD, z1, z2]
theorem r_send1 (h : WS m 0) {k : Nat} (hk : k < vl m 27 0) : f11_isSending F (nI k) m = some (nI 1) := by
  obtain ⟨⟨⟨vDay, bDay⟩, ⟨vLast, bLast⟩, ⟨vSends, bSends⟩⟩, sPence, sHL, sPerm1, sPerm2, sSend, sWant, sOwn⟩ := id h
  simp (disch := omega) only [g_let, g_bs, g_l0, g_l1, g_l2, g_l3, g_l4, g_l5, g_l6, g_l7, g_l8, g_l9, g_l10, g_l11, g_l12, g_l15, g_l20, g_l24, g_l25, g_l30, g_l40, g_l99, g_l100, g_ckN, g_clN, g_ltN, g_leN, g_eqN, pk_mul, nI_add, if_true, if_false, Nat.reduceLT, Nat.reduceLeDiff, Nat.reduceEqDiff, Nat.lt_irrefl, f11_isSending, vSends, hk, Nat.zero_le]
theorem r_send0 (h : WS m 0) {a : Int32} (ha : ¬ okI a (vl m 27 0)) : f11_isSending F a m = some (nI 0) := by
  obtain ⟨⟨⟨vDay, bDay⟩, ⟨vLast, bLast⟩, ⟨vSends, bSends⟩⟩, sPence, sHL, sPerm1, sPerm2, sSend, sWant, sOwn⟩ := id h
  rcases not_okI (by omega) ha with z | ⟨z1, z2⟩
  · simp (disch := omega) only [g_let, g_bs, g_l0, g_l1, g_l2, g_l3, g_l4, g_l5, g_l6, g_l7, g_l8, g_l9, g_l10, g_l11, g_l12, g_l15, g_l20, g_l24, g_l25, g_l30, g_l40, g_l99, g_l100, g_ckN, g_clN, g_ltN, g_leN, g_eqN, pk_mul, nI_add, if_true, if_false, Nat.reduceLT, Nat.reduceLeDiff, Nat.reduceEqDiff, Nat.lt_irrefl, f11_isSending, z]
  · simp (disch := omega) only [g_let, g_bs, g_l0, g_l1, g_l2, g_l3, g_l4, g_l5, g_l6, g_l7, g_l8, g_l9, g_l10, g_l11, g_l12, g_l15, g_l20, g_l24, g_l25, g_l30, g_l40, g_l99, g_l100, g_ckN, g_clN, g_ltN, g_leN, g_eqN, pk_mul, nI_add, if_true, if_false, Nat.reduceLT, Nat.reduceLeDiff, Nat.reduceEqDiff, Nat.lt_irrefl, f11_isSending, vSends, z1, z2]
theorem q_part1 (h : G c m T) {p s : Nat} (hp : p < vl m 2 0) (hs : s < vl m 2 1) : f10_isPart F (nI p) (nI s) c = some (nI 1) := by
  have z := nI10
  unfold f10_isPart
  rw [q_man1 h hp, g_bs, if_neg nI10, q_sort1 h hs, g_bs, if_neg nI10]
  rfl
theorem q_part0 (h : G c m T) {a b : Int32} (hab : ¬ (okI a (vl m 2 0) ∧ okI b (vl m 2 1))) : f10_isPart F a b c = some (nI 0) := by
  unfold f10_isPart
  by_cases ha : okI a (vl m 2 0)
  · obtain ⟨p, hp, rfl⟩ := id ha
    rw [q_man1 h hp, g_bs, if_neg nI10, q_sort0 h (fun z => hab ⟨ha, z⟩), g_bs, if_pos nI00]
    rfl
  · rw [q_man0 h ha, g_bs, if_pos nI00]
    rfl
theorem q_port1 {o : Nat} (ho : o < 2) : f10_isPort F (nI o) c = some (nI 1) := by
  rcases (show o = 0 ∨ o = 1 by omega) with rfl | rfl
  · unfold f10_isPort; rw [if_pos nI00]; rfl
  · unfold f10_isPort; rw [if_neg nI10, if_pos (by rfl)]; rfl
theorem q_port0 {a : Int32} (ha : ¬ okI a 2) : f10_isPort F a c = some (nI 0) := by
  unfold f10_isPort
  rw [if_neg (show ¬ a = (0 : Int32) from fun z => ha ⟨0, by omega, z⟩), if_neg (show ¬ a = (1 : Int32) from fun z => ha ⟨1, by omega, z⟩)]
  rfl
theorem r_port1 {o : Nat} (ho : o < 2) : f11_isPort F (nI o) m = some (nI 1) := by
  rcases (show o = 0 ∨ o = 1 by omega) with rfl | rfl
  · unfold f11_isPort; rw [if_pos nI00]; rfl
  · unfold f11_isPort; rw [if_neg nI10, if_pos (by rfl)]; rfl
theorem r_port0 {a : Int32} (ha : ¬ okI a 2) : f11_isPort F a m = some (nI 0) := by
  unfold f11_isPort
  rw [if_neg (show ¬ a = (0 : Int32) from fun z => ha ⟨0, by omega, z⟩), if_neg (show ¬ a = (1 : Int32) from fun z => ha ⟨1, by omega, z⟩)]
  rfl
theorem q_task1 (h : G c m T) {p d o : Nat} (hp : p < vl m 2 0) (hd : d < vl m 2 2) (ho : o < 2) : f10_isTask F (nI p) (nI d) (nI o) c = some (nI 1) := by
  unfold f10_isTask
  rw [q_man1 h hp, g_bs, if_neg nI10, q_deed1 h hd, g_bs, if_neg nI10, q_port1 ho, g_bs, if_neg nI10]
  rfl
theorem q_task0 (h : G c m T) {a b d : Int32} (hab : ¬ (okI a (vl m 2 0) ∧ okI b (vl m 2 2) ∧ okI d 2)) : f10_isTask F a b d c = some (nI 0) := by
  unfold f10_isTask
  by_cases ha : okI a (vl m 2 0)
  · obtain ⟨p, hp, rfl⟩ := id ha
    rw [q_man1 h hp, g_bs, if_neg nI10]
    by_cases hb : okI b (vl m 2 2)
    · obtain ⟨q, hq, rfl⟩ := id hb
      rw [q_deed1 h hq, g_bs, if_neg nI10, q_port0 (fun z => hab ⟨ha, hb, z⟩), g_bs, if_pos nI00]
      rfl
    · rw [q_deed0 h hb, g_bs, if_pos nI00]; rfl
  · rw [q_man0 h ha, g_bs, if_pos nI00]; rfl
theorem r_task1 (h : WT m) {p d o : Nat} (hp : p < vl m 2 0) (hd : d < vl m 2 2) (ho : o < 2) : f11_areThese F (nI p) (nI d) (nI o) m = some (nI 1) := by
  unfold f11_areThese
  rw [r_man1 h hp, g_bs, if_neg nI10, r_deed1 h hd, g_bs, if_neg nI10, r_port1 ho, g_bs, if_neg nI10]
  rfl
theorem r_task0 (h : WT m) {a b d : Int32} (hab : ¬ (okI a (vl m 2 0) ∧ okI b (vl m 2 2) ∧ okI d 2)) : f11_areThese F a b d m = some (nI 0) := by
  unfold f11_areThese
  by_cases ha : okI a (vl m 2 0)
  · obtain ⟨p, hp, rfl⟩ := id ha
    rw [r_man1 h hp, g_bs, if_neg nI10]
    by_cases hb : okI b (vl m 2 2)
    · obtain ⟨q, hq, rfl⟩ := id hb
      rw [r_deed1 h hq, g_bs, if_neg nI10, r_port0 (fun z => hab ⟨ha, hb, z⟩), g_bs, if_pos nI00]
      rfl
    · rw [r_deed0 h hb, g_bs, if_pos nI00]; rfl
  · rw [r_man0 h ha, g_bs, if_pos nI00]; rfl
/-- a call that only asks -/
def ASK (x : Option Int32) (y : Option (Int32 × g_M)) (c : g_M) : Prop := ∃ r m', x = some r ∧ y = some (r, m') ∧ INV c m'
/-- thrown is 0; the rest -/
theorem ask_of {x : Option Int32} {c m : g_M} {y : g_M → Option (Int32 × g_M)} (h : INV c m) (hk : ∀ T S m1, INV c m1 → TW T S → G c m1 T → ∃ r, x = some r ∧ y m1 = some (r, m1)) : ASK x (g_let (g_sI m 0 0 (0 : Int32)) y) c := by
  have h1 : INV c (g_sI m 0 0 (0 : Int32)) := INV_thr h _
  obtain ⟨T, S, hTW, r2, r3, hTS, _⟩ := id h1
  obtain ⟨r, e1, e2⟩ := hk T S _ h1 hTW ⟨hTS, r2⟩
  exact ⟨r, _, e1, e2, h1⟩
theorem s_fault (h : INV c m) (a : Int32) : ASK (f10_fault F a c) (f11_fault F a m) c := by
  refine ask_of h (fun T S m1 h1 hTW hG => ?_)
  obtain ⟨_, _, _, _, _, _, _, _, _, hF, _⟩ := h1
  unfold f10_fault
  rw [hF.1, hF.2]
  by_cases h0 : a = 0
  · exact ⟨_, by rw [if_pos h0], by rw [if_pos h0]⟩
  · by_cases h2 : a = 1
    · exact ⟨_, by rw [if_neg h0, if_pos h2], by rw [if_neg h0, if_pos h2]⟩
    · exact ⟨_, by rw [if_neg h0, if_neg h2], by rw [if_neg h0, if_neg h2]⟩
theorem s_sort (h : INV c m) (a b : Int32) : ASK (f10_sort F a b c) (f11_sort F a b m) c := by
  refine ask_of h (fun T S m1 h1 hTW hG => ?_)
  obtain ⟨hTS, h02⟩ := id hG
  obtain ⟨hT, ht, hf, hp0, hW, hR, hWS, hRS⟩ := id hTS
  obtain ⟨⟨⟨vP, bP⟩, ⟨vS, bS⟩, ⟨vD, bD⟩, ⟨vN, bN⟩, ⟨vW, bW⟩, ⟨vRoom, bRoom⟩, bRoom1, ⟨vStorm, bStorm⟩, ⟨vSeed, bSeed⟩, ⟨vK, bK⟩⟩, wPence, wSort, wDeed, wSend, wWant, wLaw⟩ := id hW
  obtain ⟨⟨⟨vDay, bDay⟩, ⟨vLast, bLast⟩, ⟨vSends, bSends⟩⟩, sPence, sHL, sPerm1, sPerm2, sSend, sWant, sOwn⟩ := id hWS
  obtain ⟨rCnt, rMan, rSort, rDeed, ⟨rT6, rT8, rT10, rT11, rT12, rT93⟩, rSent, rWanted, rLaw, rCode⟩ := id hR
  obtain ⟨⟨eDay, eLast, eStorms, eSends⟩, ePence, eHL, eSend, eWant⟩ := id hRS
  have e0 := rCnt 0 (by omega)
  have e1 := rCnt 1 (by omega)
  have e2 := rCnt 2 (by omega)
  have gd := fun {α : Type} {k : Nat → Option α} => g_drT (k := k) hp0 hT
  have gt := fun {α : Type} {k : Nat → Option α} => g_drT (k := k) h02 hT
  unfold f10_sort
  by_cases ha : okI a (vl m1 2 1)
  · obtain ⟨k, hk, rfl⟩ := ha
    rw [q_sort1 hG hk, r_sort1 hW hk, g_bs, g_bs, if_neg nI10, if_neg nI10]
    obtain ⟨_, q2, q3⟩ := rSort k hk
    by_cases h0 : b = 0
    · refine ⟨m1.1 6 k, ?_, ?_⟩
      · rw [if_pos h0, gt, g_ckN (by omega) (by omega), g_clN (by omega), q2]
      · rw [if_pos h0, g_ckN (by omega) (by omega), g_clN (by omega)]
    · by_cases h2 : b = 1
      · refine ⟨m1.1 7 k, ?_, ?_⟩
        · rw [if_neg h0, if_pos h2, gt, g_ckN (by omega) (by omega), g_clN (by omega), q3]
        · rw [if_neg h0, if_pos h2, g_ckN (by omega) (by omega), g_clN (by omega)]
      · exact ⟨_, by rw [if_neg h0, if_neg h2], by rw [if_neg h0, if_neg h2]⟩
  · rw [q_sort0 hG ha, r_sort0 hW ha, g_bs, g_bs, if_pos nI00, if_pos nI00]
    exact ⟨_, rfl, rfl⟩
theorem s_deed (h : INV c m) (a : Int32) : ASK (f10_deed F a c) (f11_deed F a m) c := by
  refine ask_of h (fun T S m1 h1 hTW hG => ?_)
  obtain ⟨hTS, h02⟩ := id hG
  obtain ⟨hT, ht, hf, hp0, hW, hR, hWS, hRS⟩ := id hTS
  obtain ⟨⟨⟨vP, bP⟩, ⟨vS, bS⟩, ⟨vD, bD⟩, ⟨vN, bN⟩, ⟨vW, bW⟩, ⟨vRoom, bRoom⟩, bRoom1, ⟨vStorm, bStorm⟩, ⟨vSeed, bSeed⟩, ⟨vK, bK⟩⟩, wPence, wSort, wDeed, wSend, wWant, wLaw⟩ := id hW
  obtain ⟨⟨⟨vDay, bDay⟩, ⟨vLast, bLast⟩, ⟨vSends, bSends⟩⟩, sPence, sHL, sPerm1, sPerm2, sSend, sWant, sOwn⟩ := id hWS
  obtain ⟨rCnt, rMan, rSort, rDeed, ⟨rT6, rT8, rT10, rT11, rT12, rT93⟩, rSent, rWanted, rLaw, rCode⟩ := id hR
  obtain ⟨⟨eDay, eLast, eStorms, eSends⟩, ePence, eHL, eSend, eWant⟩ := id hRS
  have e0 := rCnt 0 (by omega)
  have e1 := rCnt 1 (by omega)
  have e2 := rCnt 2 (by omega)
  have gd := fun {α : Type} {k : Nat → Option α} => g_drT (k := k) hp0 hT
  have gt := fun {α : Type} {k : Nat → Option α} => g_drT (k := k) h02 hT
  unfold f10_deed
  by_cases ha : okI a (vl m1 2 2)
  · obtain ⟨k, hk, rfl⟩ := ha
    rw [q_deed1 hG hk, r_deed1 hW hk, g_bs, g_bs, if_neg nI10, if_neg nI10]
    refine ⟨m1.1 9 k, ?_, ?_⟩
    · rw [gt, g_ckN (by omega) (by omega), g_clN (by omega), (rDeed k hk).2]
    · rw [g_ckN (by omega) (by omega), g_clN (by omega)]
  · rw [q_deed0 hG ha, r_deed0 hW ha, g_bs, g_bs, if_pos nI00, if_pos nI00]
    exact ⟨_, rfl, rfl⟩
theorem s_holds (h : INV c m) (a b : Int32) : ASK (f10_holds F a b c) (f11_holds F a b m) c := by
  refine ask_of h (fun T S m1 h1 hTW hG => ?_)
  obtain ⟨hTS, h02⟩ := id hG
  obtain ⟨hT, ht, hf, hp0, hW, hR, hWS, hRS⟩ := id hTS
  obtain ⟨⟨⟨vP, bP⟩, ⟨vS, bS⟩, ⟨vD, bD⟩, ⟨vN, bN⟩, ⟨vW, bW⟩, ⟨vRoom, bRoom⟩, bRoom1, ⟨vStorm, bStorm⟩, ⟨vSeed, bSeed⟩, ⟨vK, bK⟩⟩, wPence, wSort, wDeed, wSend, wWant, wLaw⟩ := id hW
  obtain ⟨⟨⟨vDay, bDay⟩, ⟨vLast, bLast⟩, ⟨vSends, bSends⟩⟩, sPence, sHL, sPerm1, sPerm2, sSend, sWant, sOwn⟩ := id hWS
  obtain ⟨rCnt, rMan, rSort, rDeed, ⟨rT6, rT8, rT10, rT11, rT12, rT93⟩, rSent, rWanted, rLaw, rCode⟩ := id hR
  obtain ⟨⟨eDay, eLast, eStorms, eSends⟩, ePence, eHL, eSend, eWant⟩ := id hRS
  have e0 := rCnt 0 (by omega)
  have e1 := rCnt 1 (by omega)
  have e2 := rCnt 2 (by omega)
  have gd := fun {α : Type} {k : Nat → Option α} => g_drT (k := k) hp0 hT
  unfold f10_holds
  by_cases ha : okI a (vl m1 2 0)
  · obtain ⟨p, hp, rfl⟩ := id ha
    rw [r_man1 hW hp, g_bs, if_neg nI10]
    by_cases hb : okI b (vl m1 2 1)
    · obtain ⟨s, hs, rfl⟩ := hb
      rw [q_part1 hG hp hs, g_bs, if_neg nI10, r_sort1 hW hs, g_bs, if_neg nI10]
      have q := (eHL (5 * p + s) (by omega)).1 (by omega)
      rw [show 25 * 0 + (5 * p + s) = 5 * p + s by omega] at q
      refine ⟨m1.1 29 (5 * p + s), ?_, ?_⟩
      · rw [g_l5, pk_mul, nI_add, Nat.mul_comm p 5, g_ckN (by omega) (by omega), g_clN (by omega)]; exact congrArg some q
      · rw [g_l5, pk_mul, nI_add, g_ckN (by omega) (by omega), g_clN (by omega)]
    · rw [q_part0 hG (fun z => hb z.2), g_bs, if_pos nI00, r_sort0 hW hb, g_bs, if_pos nI00]
      exact ⟨_, rfl, rfl⟩
  · rw [q_part0 hG (fun z => ha z.1), g_bs, if_pos nI00, r_man0 hW ha, g_bs, if_pos nI00]
    exact ⟨_, rfl, rfl⟩
theorem s_port (h : INV c m) (a b : Int32) : ASK (f10_port F a b c) (f11_port F a b m) c := by
  refine ask_of h (fun T S m1 h1 hTW hG => ?_)
  obtain ⟨hTS, h02⟩ := id hG
  obtain ⟨hT, ht, hf, hp0, hW, hR, hWS, hRS⟩ := id hTS
  obtain ⟨⟨⟨vP, bP⟩, ⟨vS, bS⟩, ⟨vD, bD⟩, ⟨vN, bN⟩, ⟨vW, bW⟩, ⟨vRoom, bRoom⟩, bRoom1, ⟨vStorm, bStorm⟩, ⟨vSeed, bSeed⟩, ⟨vK, bK⟩⟩, wPence, wSort, wDeed, wSend, wWant, wLaw⟩ := id hW
  obtain ⟨⟨⟨vDay, bDay⟩, ⟨vLast, bLast⟩, ⟨vSends, bSends⟩⟩, sPence, sHL, sPerm1, sPerm2, sSend, sWant, sOwn⟩ := id hWS
  obtain ⟨rCnt, rMan, rSort, rDeed, ⟨rT6, rT8, rT10, rT11, rT12, rT93⟩, rSent, rWanted, rLaw, rCode⟩ := id hR
  obtain ⟨⟨eDay, eLast, eStorms, eSends⟩, ePence, eHL, eSend, eWant⟩ := id hRS
  have e0 := rCnt 0 (by omega)
  have e1 := rCnt 1 (by omega)
  have e2 := rCnt 2 (by omega)
  have gd := fun {α : Type} {k : Nat → Option α} => g_drT (k := k) hp0 hT
  unfold f10_port
  by_cases ha : okI a (vl m1 2 0)
  · obtain ⟨p, hp, rfl⟩ := id ha
    rw [r_man1 hW hp, g_bs, if_neg nI10]
    by_cases hb : okI b (vl m1 2 1)
    · obtain ⟨s, hs, rfl⟩ := hb
      rw [q_part1 hG hp hs, g_bs, if_neg nI10, r_sort1 hW hs, g_bs, if_neg nI10]
      have q := (eHL (5 * p + s) (by omega)).2
      rw [show 25 * 0 + (5 * p + s) = 5 * p + s by omega] at q
      refine ⟨m1.1 30 (5 * p + s), ?_, ?_⟩
      · rw [g_l5, pk_mul, nI_add, Nat.mul_comm p 5, g_ckN (by omega) (by omega), g_clN (by omega)]; exact congrArg some q
      · rw [g_l5, pk_mul, nI_add, g_ckN (by omega) (by omega), g_clN (by omega)]
    · rw [q_part0 hG (fun z => hb z.2), g_bs, if_pos nI00, r_sort0 hW hb, g_bs, if_pos nI00]
      exact ⟨_, rfl, rfl⟩
  · rw [q_part0 hG (fun z => ha z.1), g_bs, if_pos nI00, r_man0 hW ha, g_bs, if_pos nI00]
    exact ⟨_, rfl, rfl⟩
theorem s_can (hF : 5000 < F) (h : INV c m) (a b d : Int32) : ASK (f10_can F a b d c) (f11_can F a b d m) c := by
  refine ask_of h (fun T S m1 h1 hTW hG => ?_)
  obtain ⟨hTS, h02⟩ := id hG
  obtain ⟨hT, ht, hf, hp0, hW, hR, hWS, hRS⟩ := id hTS
  obtain ⟨⟨⟨vP, bP⟩, ⟨vS, bS⟩, ⟨vD, bD⟩, ⟨vN, bN⟩, ⟨vW, bW⟩, ⟨vRoom, bRoom⟩, bRoom1, ⟨vStorm, bStorm⟩, ⟨vSeed, bSeed⟩, ⟨vK, bK⟩⟩, wPence, wSort, wDeed, wSend, wWant, wLaw⟩ := id hW
  obtain ⟨⟨⟨vDay, bDay⟩, ⟨vLast, bLast⟩, ⟨vSends, bSends⟩⟩, sPence, sHL, sPerm1, sPerm2, sSend, sWant, sOwn⟩ := id hWS
  obtain ⟨rCnt, rMan, rSort, rDeed, ⟨rT6, rT8, rT10, rT11, rT12, rT93⟩, rSent, rWanted, rLaw, rCode⟩ := id hR
  obtain ⟨⟨eDay, eLast, eStorms, eSends⟩, ePence, eHL, eSend, eWant⟩ := id hRS
  have e0 := rCnt 0 (by omega)
  have e1 := rCnt 1 (by omega)
  have e2 := rCnt 2 (by omega)
  have gd := fun {α : Type} {k : Nat → Option α} => g_drT (k := k) hp0 hT
  unfold f10_can
  by_cases ha : okI a (vl m1 2 0) ∧ okI b (vl m1 2 2) ∧ okI d 2
  · obtain ⟨⟨p, hp, rfl⟩, ⟨q, hq, rfl⟩, ⟨o, ho, rfl⟩⟩ := ha
    rw [q_task1 hG hp hq ho, r_task1 hW hp hq ho, g_bs, g_bs, if_neg nI10, if_neg nI10, q_lacks2 hF hTS hp hq ho, g_bs]
    have hc := r_canDo hF hW hf hp hq (nI o)
    have hi := can_iff (f := 0) hW (p := p) (d := q) (nI o)
    have hc' : f11_canDo F (0 : Int32) (nI p) (nI q) (nI o) m1 = some (if fstP (canP m1 0 p q (nI o)) (vl m1 2 1) < vl m1 2 1 then nI 0 else nI 1) := hc
    rw [hc', g_bs]
    by_cases hk : fstP (canP m1 0 p q (nI o)) (vl m1 2 1) < vl m1 2 1
    · exact ⟨0, by rw [if_neg (show ¬ bitsP (canP m1 0 p q (nI o)) (vl m1 2 1) = (0 : Int32) from fun z => hi.mp z hk)], by rw [if_pos hk, if_pos nI00]⟩
    · exact ⟨1, by rw [if_pos (show bitsP (canP m1 0 p q (nI o)) (vl m1 2 1) = (0 : Int32) from hi.mpr hk)], by rw [if_neg hk, if_neg nI10]⟩
  · rw [q_task0 hG ha, r_task0 hW ha, g_bs, g_bs, if_pos nI00, if_pos nI00]
    exact ⟨_, rfl, rfl⟩
theorem s_needs (hF : 5000 < F) (h : INV c m) (a b d : Int32) : ASK (f10_needs F a b d c) (f11_needs F a b d m) c := by
  refine ask_of h (fun T S m1 h1 hTW hG => ?_)
  obtain ⟨hTS, h02⟩ := id hG
  obtain ⟨hT, ht, hf, hp0, hW, hR, hWS, hRS⟩ := id hTS
  obtain ⟨⟨⟨vP, bP⟩, ⟨vS, bS⟩, ⟨vD, bD⟩, ⟨vN, bN⟩, ⟨vW, bW⟩, ⟨vRoom, bRoom⟩, bRoom1, ⟨vStorm, bStorm⟩, ⟨vSeed, bSeed⟩, ⟨vK, bK⟩⟩, wPence, wSort, wDeed, wSend, wWant, wLaw⟩ := id hW
  obtain ⟨⟨⟨vDay, bDay⟩, ⟨vLast, bLast⟩, ⟨vSends, bSends⟩⟩, sPence, sHL, sPerm1, sPerm2, sSend, sWant, sOwn⟩ := id hWS
  obtain ⟨rCnt, rMan, rSort, rDeed, ⟨rT6, rT8, rT10, rT11, rT12, rT93⟩, rSent, rWanted, rLaw, rCode⟩ := id hR
  obtain ⟨⟨eDay, eLast, eStorms, eSends⟩, ePence, eHL, eSend, eWant⟩ := id hRS
  have e0 := rCnt 0 (by omega)
  have e1 := rCnt 1 (by omega)
  have e2 := rCnt 2 (by omega)
  have gd := fun {α : Type} {k : Nat → Option α} => g_drT (k := k) hp0 hT
  unfold f10_needs
  by_cases ha : okI a (vl m1 2 0) ∧ okI b (vl m1 2 2) ∧ okI d 2
  · obtain ⟨⟨p, hp, rfl⟩, ⟨q, hq, rfl⟩, ⟨o, ho, rfl⟩⟩ := ha
    rw [q_task1 hG hp hq ho, r_task1 hW hp hq ho, g_bs, g_bs, if_neg nI10, if_neg nI10, q_lacks2 hF hTS hp hq ho, r_needsOf hF hW hp hq (nI o), g_bs, g_bs]
    exact ⟨_, rfl, rfl⟩
  · rw [q_task0 hG ha, r_task0 hW ha, g_bs, g_bs, if_pos nI00, if_pos nI00]
    exact ⟨_, rfl, rfl⟩
theorem s_whose (hF : 5000 < F) (h : INV c m) (a b : Int32) : ASK (f10_whose F a b c) (f11_whose F a b m) c := by
  refine ask_of h (fun T S m1 h1 hTW hG => ?_)
  obtain ⟨hTS, h02⟩ := id hG
  obtain ⟨hT, ht, hf, hp0, hW, hR, hWS, hRS⟩ := id hTS
  obtain ⟨⟨⟨vP, bP⟩, ⟨vS, bS⟩, ⟨vD, bD⟩, ⟨vN, bN⟩, ⟨vW, bW⟩, ⟨vRoom, bRoom⟩, bRoom1, ⟨vStorm, bStorm⟩, ⟨vSeed, bSeed⟩, ⟨vK, bK⟩⟩, wPence, wSort, wDeed, wSend, wWant, wLaw⟩ := id hW
  obtain ⟨⟨⟨vDay, bDay⟩, ⟨vLast, bLast⟩, ⟨vSends, bSends⟩⟩, sPence, sHL, sPerm1, sPerm2, sSend, sWant, sOwn⟩ := id hWS
  obtain ⟨rCnt, rMan, rSort, rDeed, ⟨rT6, rT8, rT10, rT11, rT12, rT93⟩, rSent, rWanted, rLaw, rCode⟩ := id hR
  obtain ⟨⟨eDay, eLast, eStorms, eSends⟩, ePence, eHL, eSend, eWant⟩ := id hRS
  have e0 := rCnt 0 (by omega)
  have e1 := rCnt 1 (by omega)
  have e2 := rCnt 2 (by omega)
  have gd := fun {α : Type} {k : Nat → Option α} => g_drT (k := k) hp0 hT
  unfold f10_whose
  by_cases ha : okI a (vl m1 2 0)
  · obtain ⟨p, hp, rfl⟩ := id ha
    rw [r_man1 hW hp, g_bs, if_neg nI10]
    by_cases hb : okI b (vl m1 2 1)
    · obtain ⟨s, hs, rfl⟩ := hb
      rw [q_part1 hG hp hs, g_bs, if_neg nI10, r_sort1 hW hs, g_bs, if_neg nI10, q_holderOf hF hTS hs, r_holderOf hF hW hs, g_bs, g_bs]
      refine ⟨_, rfl, ?_⟩
      rw [fst_lst]
      intro i j hi hj h1 h2
      have h1' := of_decide_eq_true h1
      have h2' := of_decide_eq_true h2
      refine sPerm2 s i j (by omega) hi hj ?_
      unfold vl; rw [h1', h2']
    · rw [q_part0 hG (fun z => hb z.2), g_bs, if_pos nI00, r_sort0 hW hb, g_bs, if_pos nI00]
      exact ⟨_, rfl, rfl⟩
  · rw [q_part0 hG (fun z => ha z.1), g_bs, if_pos nI00, r_man0 hW ha, g_bs, if_pos nI00]
    exact ⟨_, rfl, rfl⟩
theorem s_those (hF : 5000 < F) (h : INV c m) (a : Int32) : ASK (f10_those F a c) (f11_those F a m) c := by
  refine ask_of h (fun T S m1 h1 hTW hG => ?_)
  obtain ⟨hTS, h02⟩ := id hG
  obtain ⟨hT, ht, hf, hp0, hW, hR, hWS, hRS⟩ := id hTS
  obtain ⟨⟨⟨vP, bP⟩, ⟨vS, bS⟩, ⟨vD, bD⟩, ⟨vN, bN⟩, ⟨vW, bW⟩, ⟨vRoom, bRoom⟩, bRoom1, ⟨vStorm, bStorm⟩, ⟨vSeed, bSeed⟩, ⟨vK, bK⟩⟩, wPence, wSort, wDeed, wSend, wWant, wLaw⟩ := id hW
  obtain ⟨⟨⟨vDay, bDay⟩, ⟨vLast, bLast⟩, ⟨vSends, bSends⟩⟩, sPence, sHL, sPerm1, sPerm2, sSend, sWant, sOwn⟩ := id hWS
  obtain ⟨rCnt, rMan, rSort, rDeed, ⟨rT6, rT8, rT10, rT11, rT12, rT93⟩, rSent, rWanted, rLaw, rCode⟩ := id hR
  obtain ⟨⟨eDay, eLast, eStorms, eSends⟩, ePence, eHL, eSend, eWant⟩ := id hRS
  have e0 := rCnt 0 (by omega)
  have e1 := rCnt 1 (by omega)
  have e2 := rCnt 2 (by omega)
  have gd := fun {α : Type} {k : Nat → Option α} => g_drT (k := k) hp0 hT
  unfold f10_those
  by_cases h0 : a = 0
  · subst h0
    rw [if_pos rfl, if_pos (by decide), if_neg (by decide), q_lost hF hTS, g_bs]
    refine ⟨_, rfl, ?_⟩
    exact r_those01 hF hW hWS (a := 0) (by omega)
  · by_cases h2 : a = 1
    · subst h2
      rw [if_neg h0, if_pos rfl, if_pos (by decide), if_neg (by decide), q_halves hF hTS, g_bs]
      refine ⟨_, rfl, ?_⟩
      exact r_those01 hF hW hWS (a := 1) (by omega)
    · by_cases h3 : a = 2
      · subst h3
        rw [if_neg h0, if_neg h2, if_pos rfl, if_pos (by decide), if_neg (by decide), q_dueSendings hF hTS, g_bs]
        refine ⟨_, rfl, ?_⟩
        exact r_those2 hF hWS hW
      · rw [if_neg h0, if_neg h2, if_neg h3]
        refine ⟨_, rfl, ?_⟩
        rcases i_cases a with z | ⟨k, hk, rfl⟩
        · rw [if_neg (show ¬ (0 : Int32) ≤ a from neg_nle z)]
        · have hk3 : 2 < k := by
            have a0 : k ≠ 0 := fun z => h0 (by rw [z]; rfl)
            have a1 : k ≠ 1 := fun z => h2 (by rw [z]; rfl)
            have a2 : k ≠ 2 := fun z => h3 (by rw [z]; rfl)
            omega
          rw [if_pos (nI_ge0 hk), if_pos (show (2 : Int32) < nI k from (g_ltN (a := 2) (by omega) hk).mpr hk3)]
end A
