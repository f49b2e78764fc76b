/-! swaps: rings -/
section A
variable {F : Nat} {c m : g_M} {T S : Nat}
def vst (g : Nat → Nat) (P : Nat) : Nat → (Nat → Bool)
  | 0 => fun _ => false
  | i + 1 => fol g P (vst g P i) i
def rgs (g : Nat → Nat) (P : Nat) : Nat → Nat
  | 0 => 0
  | i + 1 => rgs g P i + (if vst g P i i = true then 0 else 1)
theorem cnt_all {V : Nat → Bool} {P : Nat} (h : ∀ j, j < P → V j = true) : cntP V P = P := by
  induction P with
  | zero => rfl
  | succ n ih => rw [cntP_s, ih (fun j hj => h j (by omega)), if_pos (h n (by omega))]
theorem vst_p {g : Nat → Nat} {P : Nat} (hg : ∀ q, q < P → g q < P) : ∀ i, i ≤ P → (∀ j, vst g P i j = true → j < P) ∧ (∀ j, j < i → vst g P i j = true) ∧ rgs g P i ≤ cntP (vst g P i) P := by
  intro i
  induction i with
  | zero => exact fun _ => ⟨fun j h => (by have h' : false = true := h; cases h'), fun j h => absurd h (Nat.not_lt_zero j), Nat.zero_le _⟩
  | succ i ih =>
    intro hi
    obtain ⟨h1, h2, h3⟩ := ih (by omega)
    obtain ⟨a1, a2, a3⟩ := fol_p hg P (vst g P i) i (by omega) h1
    refine ⟨a2, fun j hj => ?_, ?_⟩
    · show fol g P (vst g P i) i j = true
      rcases Nat.lt_or_ge j i with h | h
      · exact a1 j (h2 j h)
      · rw [show j = i by omega]; exact a3 (by omega)
    · show rgs g P i + (if vst g P i i = true then 0 else 1) ≤ cntP (fol g P (vst g P i) i) P
      by_cases hv : vst g P i i = true
      · rw [if_pos hv]
        have := cnt_mono a1 P
        omega
      · rw [if_neg hv]
        have hc := cnt_set (vst g P i) (n := P) (i := i) (by omega) (by simpa using hv)
        have hm := cnt_mono (P := fun j => vst g P i j || decide (j = i)) (Q := fol g P (vst g P i) i) (fun j hj => by
          simp only [Bool.or_eq_true, decide_eq_true_eq] at hj
          rcases hj with hj | hj
          · exact a1 j hj
          · rw [hj]; exact a3 (by omega)) P
        omega
theorem q_rings (hF : 5000 < F) (hTS : TS c m T 35 0) {s : Nat} (hs : s < 5) {g : Nat → Nat} (hg : ∀ q, q < vl m 2 0 → g q < vl m 2 0) (hh : ∀ q, q < vl m 2 0 → c.1 37 (5 * q + s) = nI (g q)) : f7_rings F 35 (nI s) c = some (nI (rgs g (vl m 2 0) (vl m 2 0))) := by
  have hTS0 := hTS
  obtain ⟨hT, ht, hf, hp0, hW, hR, hWS, hRS⟩ := id hTS
  obtain ⟨⟨⟨vP, bP⟩, ⟨vS, bS⟩, ⟨vD, bD⟩, ⟨vN, bN⟩, ⟨vW, bW⟩, ⟨vRoom, bRoom⟩, bRoom1, ⟨vStorm, bStorm⟩, ⟨vSeed, bSeed⟩, ⟨vK, bK⟩⟩, wPence, wSort, wDeed, wSend, wWant, wLaw⟩ := id hW
  obtain ⟨⟨⟨vDay, bDay⟩, ⟨vLast, bLast⟩, ⟨vSends, bSends⟩⟩, sPence, sHL, sPerm1, sPerm2, sSend, sWant, sOwn⟩ := id hWS
  obtain ⟨rCnt, rMan, rSort, rDeed, ⟨rT6, rT8, rT10, rT11, rT12, rT93⟩, rSent, rWanted, rLaw, rCode⟩ := id hR
  obtain ⟨⟨eDay, eLast, eStorms, eSends⟩, ePence, eHL, eSend, eWant⟩ := id hRS
  have e0 := rCnt 0 (by omega)
  have e1 := rCnt 1 (by omega)
  have e2 := rCnt 2 (by omega)
  have gd := fun {α : Type} {k : Nat → Option α} => g_drT (k := k) hp0 hT
  generalize hP : vl m 2 0 = P at *
  have n10 : ¬ nI 1 = nI 0 := by decide
  have main : f7_rings_b18 F 35 (nI s) c (nI P) (nI 0) (nI 0) (nI 0) = some (nI (rgs g P P)) := by
    unfold f7_rings_b18
    refine g_for (fun i => (nI P, nI (rgs g P i), bitsP (vst g P i) 5, nI i)) P (fun i hi sf => ?_) (by omega) (fun sf => ?_)
    · obtain ⟨h1, h2, h3⟩ := vst_p hg i (by omega)
      have hb := shr_bits (vst g P i) (n := 5) (k := i) (by omega) (by omega)
      rw [show decide (i < 5) = true from decide_eq_true (by omega), Bool.true_and] at hb
      show f7_rings_b18_body F 35 (nI s) (fun v2 v3 v4 v5 => sf (v2, v3, v4, v5)) c (nI P) (nI (rgs g P i)) (bitsP (vst g P i) 5) (nI i) = sf (nI P, nI (rgs g P i + (if vst g P i i = true then 0 else 1)), bitsP (fol g P (vst g P i) i) 5, nI (i + 1))
      by_cases hv : vst g P i i = true
      · rw [if_pos hv] at hb
        rw [if_pos hv]
        have w := q_walk (F := F) hTS0 hs (P := P) hP.symm hg hh (fun v2 v3 v4 v5 => sf (v2, v3, v4, v5)) (rgs g P i) i P (vst g P i) i 0 F hi h1 (by omega) (by omega) (by omega)
        simp (disch := omega) only [g_let, g_bs, g_l0, g_l1, g_l2, g_l3, g_l4, g_l5, g_l6, g_l7, g_l8, g_l9, g_l10, g_l11, g_l12, g_l15, g_l20, g_l24, g_l25, g_l30, g_l40, g_l99, g_l100, g_ckN, g_clN, g_ltN, g_leN, g_eqN, pk_mul, nI_add, if_true, if_false, Nat.reduceLT, Nat.reduceLeDiff, Nat.reduceEqDiff, Nat.lt_irrefl, f7_rings_b18_body, f7_rings_b37, hi, hb, n10]
        unfold f7_rings_b44
        exact w
      · rw [if_neg hv] at hb
        rw [if_neg hv]
        have w := q_walk (F := F) hTS0 hs (P := P) hP.symm hg hh (fun v2 v3 v4 v5 => sf (v2, v3, v4, v5)) (rgs g P i + 1) i P (vst g P i) i 0 F hi h1 (by omega) (by omega) (by omega)
        simp (disch := omega) only [g_let, g_bs, g_l0, g_l1, g_l2, g_l3, g_l4, g_l5, g_l6, g_l7, g_l8, g_l9, g_l10, g_l11, g_l12, g_l15, g_l20, g_l24, g_l25, g_l30, g_l40, g_l99, g_l100, g_ckN, g_clN, g_ltN, g_leN, g_eqN, pk_mul, nI_add, if_true, if_false, Nat.reduceLT, Nat.reduceLeDiff, Nat.reduceEqDiff, Nat.lt_irrefl, f7_rings_b18_body, f7_rings_b37, hi, hb, n10]
        unfold f7_rings_b44
        exact w
    · simp (disch := omega) only [g_let, g_bs, g_l0, g_l1, g_l2, g_l3, g_l4, g_l5, g_l6, g_l7, g_l8, g_l9, g_l10, g_l11, g_l12, g_l15, g_l20, g_l24, g_l25, g_l30, g_l40, g_l99, g_l100, g_ckN, g_clN, g_ltN, g_leN, g_eqN, pk_mul, nI_add, if_true, if_false, Nat.reduceLT, Nat.reduceLeDiff, Nat.reduceEqDiff, Nat.lt_irrefl, f7_rings_b18_body]
  simp (disch := omega) only [g_let, g_bs, g_l0, g_l1, g_l2, g_l3, g_l4, g_l5, g_l6, g_l7, g_l8, g_l9, g_l10, g_l11, g_l12, g_l15, g_l20, g_l24, g_l25, g_l30, g_l40, g_l99, g_l100, g_ckN, g_clN, g_ltN, g_leN, g_eqN, pk_mul, nI_add, if_true, if_false, Nat.reduceLT, Nat.reduceLeDiff, Nat.reduceEqDiff, Nat.lt_irrefl, f7_rings, gd, e0, vP, main]
theorem r_swp (hF : 5000 < F) (hW : WT m) {s : Nat} (hs : s < 5) {g : Nat → Nat} (hg : ∀ q, q < vl m 2 0 → g q < vl m 2 0) (hh : ∀ q, q < vl m 2 0 → m.1 29 (5 * q + s) = nI (g q)) (s9 : Int32 → Int32 → g_M → Option (Int32 × g_M)) (n : Nat) : f11_swaps_b24 F s9 (nI n) (nI s) (nI 0) (nI 0) m = s9 (nI (n + (vl m 2 0 - rgs g (vl m 2 0) (vl m 2 0)))) (nI (s + 1)) m := by
  have hW0 := hW
  obtain ⟨⟨⟨vP, bP⟩, ⟨vS, bS⟩, ⟨vD, bD⟩, ⟨vN, bN⟩, ⟨vW, bW⟩, ⟨vRoom, bRoom⟩, bRoom1, ⟨vStorm, bStorm⟩, ⟨vSeed, bSeed⟩, ⟨vK, bK⟩⟩, wPence, wSort, wDeed, wSend, wWant, wLaw⟩ := id hW
  generalize hP : vl m 2 0 = P at *
  have e0 : n + cntP (vst g P 0) P - rgs g P 0 = n := by show n + cntP (fun _ => false) P - 0 = n; rw [cnt_all0]; omega
  unfold f11_swaps_b24
  rw [← congrArg nI e0]
  refine g_for (fun i => (nI (n + cntP (vst g P i) P - rgs g P i), nI s, bitsP (vst g P i) 5, nI i, m)) P (fun i hi sf => ?_) (by omega) (fun sf => ?_)
  · obtain ⟨h1, h2, h3⟩ := vst_p hg i (by omega)
    obtain ⟨k1, k2, k3⟩ := vst_p hg (i + 1) (by omega)
    have mono := cnt_mono (fol_p hg P (vst g P i) i hi h1).1 P
    have w := r_walk (F := F) (hW := hW0) hs (P := P) hP.symm hg hh (fun v1 v2 v3 v4 mem => sf (v1, v2, v3, v4, mem)) i P (vst g P i) i (n + cntP (vst g P i) P - rgs g P i) F hi h1 (by omega) (by omega)
    have er : rgs g P (i + 1) = rgs g P i + (if vst g P i i = true then 0 else 1) := rfl
    have ev : vst g P (i + 1) = fol g P (vst g P i) i := rfl
    have eA : n + cntP (vst g P i) P - rgs g P i + cntP (fol g P (vst g P i) i) P - cntP (vst g P i) P - (if vst g P i i = true then 0 else 1) = n + cntP (vst g P (i + 1)) P - rgs g P (i + 1) := by
      rw [er] at k3 ⊢
      rw [ev] at k3 ⊢
      split at k3 <;> split <;> omega
    rw [eA] at w
    simp (disch := omega) only [g_let, g_bs, g_l0, g_l1, g_l2, g_l3, g_l4, g_l5, g_l6, g_l7, g_l8, g_l9, g_l10, g_l11, g_l12, g_l15, g_l20, g_l24, g_l25, g_l30, g_l40, g_l99, g_l100, g_ckN, g_clN, g_ltN, g_leN, g_eqN, pk_mul, nI_add, if_true, if_false, Nat.reduceLT, Nat.reduceLeDiff, Nat.reduceEqDiff, Nat.lt_irrefl, f11_swaps_b24_body, vP, hi]
    unfold f11_swaps_b39
    exact w
  · have e1 := cnt_all (vst_p hg P (Nat.le_refl P)).2.1
    have e2 := (vst_p hg P (Nat.le_refl P)).2.2
    have e3 : n + cntP (vst g P P) P - rgs g P P = n + (P - rgs g P P) := by omega
    rw [e3]
    simp (disch := omega) only [g_let, g_bs, g_l0, g_l1, g_l2, g_l3, g_l4, g_l5, g_l6, g_l7, g_l8, g_l9, g_l10, g_l11, g_l12, g_l15, g_l20, g_l24, g_l25, g_l30, g_l40, g_l99, g_l100, g_ckN, g_clN, g_ltN, g_leN, g_eqN, pk_mul, nI_add, if_true, if_false, Nat.reduceLT, Nat.reduceLeDiff, Nat.reduceEqDiff, Nat.lt_irrefl, f11_swaps_b24_body, vP]
theorem s_swaps (hF : 5000 < F) (h : INV c m) : ASK (f10_swaps F c) (f11_swaps F m) c := by
  refine ask_of h (fun T S m1 h1 hTW hG => ?_)
  obtain ⟨hTS, h02⟩ := id hG
  have hTS0 := hTS
  obtain ⟨hT, ht, hf, hp0, hW, hR, hWS, hRS⟩ := id hTS
  obtain ⟨⟨⟨vP, bP⟩, ⟨vS, bS⟩, ⟨vD, bD⟩, ⟨vN, bN⟩, ⟨vW, bW⟩, ⟨vRoom, bRoom⟩, bRoom1, ⟨vStorm, bStorm⟩, ⟨vSeed, bSeed⟩, ⟨vK, bK⟩⟩, wPence, wSort, wDeed, wSend, wWant, wLaw⟩ := id hW
  obtain ⟨⟨⟨vDay, bDay⟩, ⟨vLast, bLast⟩, ⟨vSends, bSends⟩⟩, sPence, sHL, sPerm1, sPerm2, sSend, sWant, sOwn⟩ := id hWS
  obtain ⟨rCnt, rMan, rSort, rDeed, ⟨rT6, rT8, rT10, rT11, rT12, rT93⟩, rSent, rWanted, rLaw, rCode⟩ := id hR
  obtain ⟨⟨eDay, eLast, eStorms, eSends⟩, ePence, eHL, eSend, eWant⟩ := id hRS
  have e0 := rCnt 0 (by omega)
  have e1 := rCnt 1 (by omega)
  have e2 := rCnt 2 (by omega)
  have gd := fun {α : Type} {k : Nat → Option α} => g_drT (k := k) hp0 hT
  have gt := fun {α : Type} {k : Nat → Option α} => g_drT (k := k) h02 hT
  have hg : ∀ s, s < 5 → ∀ q, q < vl m1 2 0 → vl m1 29 (25 * 0 + (5 * q + s)) < vl m1 2 0 := fun s hs q hq => sPerm1 s q hs hq
  have hh29 : ∀ s, s < 5 → ∀ q, q < vl m1 2 0 → m1.1 29 (5 * q + s) = nI (vl m1 29 (25 * 0 + (5 * q + s))) := fun s hs q hq => by
    have := (sHL (5 * q + s) (by omega)).1.1
    rw [show 25 * 0 + (5 * q + s) = 5 * q + s by omega] at this ⊢
    exact this
  have hh37 : ∀ s, s < 5 → ∀ q, q < vl m1 2 0 → c.1 37 (5 * q + s) = nI (vl m1 29 (25 * 0 + (5 * q + s))) := fun s hs q hq => by
    have := (eHL (5 * q + s) (by omega)).1 (by omega)
    exact this.trans (sHL (5 * q + s) (by omega)).1.1
  refine ⟨nI (sumN (fun s => vl m1 2 0 - rgs (fun q => vl m1 29 (25 * 0 + (5 * q + s))) (vl m1 2 0) (vl m1 2 0)) (vl m1 2 1)), ?_, ?_⟩
  · unfold f10_swaps f10_swaps_b4
    refine g_for (fun i => (nI (sumN (fun s => vl m1 2 0 - rgs (fun q => vl m1 29 (25 * 0 + (5 * q + s))) (vl m1 2 0) (vl m1 2 0)) i), nI i)) (vl m1 2 1) (fun i hi sf => ?_) (by omega) (fun sf => ?_)
    · have hr := q_rings hF hTS0 (s := i) (by omega) (hg i (by omega)) (hh37 i (by omega))
      have hle := Nat.le_trans (vst_p (hg i (by omega)) (vl m1 2 0) (Nat.le_refl _)).2.2 (cntP_le _ _)
      simp (disch := omega) only [g_let, g_bs, g_l0, g_l1, g_l2, g_l3, g_l4, g_l5, g_l6, g_l7, g_l8, g_l9, g_l10, g_l11, g_l12, g_l15, g_l20, g_l24, g_l25, g_l30, g_l40, g_l99, g_l100, g_ckN, g_clN, g_ltN, g_leN, g_eqN, pk_mul, nI_add, if_true, if_false, Nat.reduceLT, Nat.reduceLeDiff, Nat.reduceEqDiff, Nat.lt_irrefl, f10_swaps_b4_body, gt, e0, e1, vP, vS, hi, hr]
      rw [g_subN hle, nI_add]
      rfl
    · simp (disch := omega) only [g_let, g_bs, g_l0, g_l1, g_l2, g_l3, g_l4, g_l5, g_l6, g_l7, g_l8, g_l9, g_l10, g_l11, g_l12, g_l15, g_l20, g_l24, g_l25, g_l30, g_l40, g_l99, g_l100, g_ckN, g_clN, g_ltN, g_leN, g_eqN, pk_mul, nI_add, if_true, if_false, Nat.reduceLT, Nat.reduceLeDiff, Nat.reduceEqDiff, Nat.lt_irrefl, f10_swaps_b4_body, gt, e1, vS]
  · unfold f11_swaps_b9
    refine g_for (fun i => (nI (sumN (fun s => vl m1 2 0 - rgs (fun q => vl m1 29 (25 * 0 + (5 * q + s))) (vl m1 2 0) (vl m1 2 0)) i), nI i, m1)) (vl m1 2 1) (fun i hi sf => ?_) (by omega) (fun sf => ?_)
    · have hr := r_swp hF hW (s := i) (by omega) (hg i (by omega)) (hh29 i (by omega)) (fun v1 v2 mem => sf (v1, v2, mem)) (sumN (fun s => vl m1 2 0 - rgs (fun q => vl m1 29 (25 * 0 + (5 * q + s))) (vl m1 2 0) (vl m1 2 0)) i)
      simp (disch := omega) only [g_let, g_bs, g_l0, g_l1, g_l2, g_l3, g_l4, g_l5, g_l6, g_l7, g_l8, g_l9, g_l10, g_l11, g_l12, g_l15, g_l20, g_l24, g_l25, g_l30, g_l40, g_l99, g_l100, g_ckN, g_clN, g_ltN, g_leN, g_eqN, pk_mul, nI_add, if_true, if_false, Nat.reduceLT, Nat.reduceLeDiff, Nat.reduceEqDiff, Nat.lt_irrefl, f11_swaps_b9_body, vS, hi, hr]
      rfl
    · simp (disch := omega) only [g_let, g_bs, g_l0, g_l1, g_l2, g_l3, g_l4, g_l5, g_l6, g_l7, g_l8, g_l9, g_l10, g_l11, g_l12, g_l15, g_l20, g_l24, g_l25, g_l30, g_l40, g_l99, g_l100, g_ckN, g_clN, g_ltN, g_leN, g_eqN, pk_mul, nI_add, if_true, if_false, Nat.reduceLT, Nat.reduceLeDiff, Nat.reduceEqDiff, Nat.lt_irrefl, f11_swaps_b9_body, vS]
end A
