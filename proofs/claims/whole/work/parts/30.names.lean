-- @deps 28.bits 29.frame
/-! days: who is where aboard, the names of a law -/
def AB (c m : g_M) (A : Nat → Bool) : Prop := (∀ i, i < 25 → c.1 54 i = if A i = true then nI 1 else nI 0) ∧ m.1 0 56 = bitsP A 25 ∧ c.1 53 7 = nI (cntP A 25)
def AT (c : g_M) (T t : Nat) : Prop := c.2.2 53 3 = some t ∧ c.2.2 53 4 = some T
def flC (c c' : g_M) : Prop := c'.1 = c.1 ∧ c'.2.2 = c.2.2
def flM (m m' : g_M) : Prop := (∀ o k, ¬ (o = 0 ∧ k = 38) → m'.1 o k = m.1 o k) ∧ m'.2.2 = m.2.2
theorem flC.rfl' (c : g_M) : flC c c := ⟨rfl, rfl⟩
theorem flM.rfl' (m : g_M) : flM m m := ⟨fun _ _ _ => rfl, rfl⟩
theorem flC.trans {a b c : g_M} (h : flC a b) (h' : flC b c) : flC a c := ⟨h'.1.trans h.1, h'.2.trans h.2⟩
theorem flM.trans {a b c : g_M} (h : flM a b) (h' : flM b c) : flM a c := ⟨fun o k z => (h'.1 o k z).trans (h.1 o k z), h'.2.trans h.2⟩
theorem flC.sL {c c' : g_M} (h : flC c c') (o k : Nat) (v : Int64) : flC c (g_sL c' o k v) := h
theorem flM.sL {c c' : g_M} (h : flM c c') (o k : Nat) (v : Int64) : flM c (g_sL c' o k v) := h
theorem flM.o {m m' : g_M} (h : flM m m') {o : Nat} (ho : o ≠ 0) : m'.1 o = m.1 o := by funext k; exact h.1 o k (fun z => ho z.1)
theorem TS_fl {c c' m m' : g_M} {T t f : Nat} (h : TS c m T t f) (hc : flC c c') (hm : flM m m') : TS c' m' T t f :=
  TS_fr h (by rw [hc.2]) (fun o _ _ => by rw [hc.1]) (fun o k _ _ => by rw [hc.1]) (fun o _ _ => hm.o (by omega)) (fun o k _ _ => hm.1 o k (by omega))
theorem AB_fl {c c' m m' : g_M} {A : Nat → Bool} (h : AB c m A) (hc : flC c c') (hm : flM m m') : AB c' m' A :=
  ⟨fun i hi => by rw [hc.1]; exact h.1 i hi, by rw [hm.1 0 56 (by omega)]; exact h.2.1, by rw [hc.1]; exact h.2.2⟩
theorem AT_fl {c c' : g_M} {T t : Nat} (h : AT c T t) (hc : flC c c') : AT c' T t := ⟨by rw [hc.2]; exact h.1, by rw [hc.2]; exact h.2⟩
section N
variable {F : Nat} {c m : g_M} {T t f : Nat} {A : Nat → Bool}
theorem q_isTold (hR : RT c m T) (hW : WT m) {r : Nat} (hr : r < 3) : f2_isTold F (T + 9) (nI r) c = some (if vl m 18 r < vl m 19 r then nI 1 else nI 0) := by
  obtain ⟨⟨⟨vP, bP⟩, ⟨vS, bS⟩, ⟨vD, bD⟩, ⟨vN, bN⟩, ⟨vW, bW⟩, ⟨vRoom, bRoom⟩, bRoom1, ⟨vStorm, bStorm⟩, ⟨vSeed, bSeed⟩, ⟨vK, bK⟩⟩, wPence, wSort, wDeed, wSend, wWant, wLaw⟩ := id hW
  obtain ⟨⟨v18, b18⟩, ⟨v19, b19⟩, _, _, _⟩ := wLaw r hr
  obtain ⟨_, _, _, _, _, _, _, rLaw, _⟩ := hR
  have e1 : c.1 (T + 9 + 2) r = m.1 18 r := (rLaw r hr).1
  have e2 : c.1 (T + 9 + 3) r = m.1 19 r := (rLaw r hr).2
  unfold f2_isTold
  rw [g_ckN (by omega) (by omega), g_ckN (by omega) (by omega), g_clN (by omega), e1, e2, v18, v19]
  by_cases h : vl m 18 r < vl m 19 r
  · rw [if_pos ((g_ltN (by omega) (by omega)).mpr h), if_pos h]; rfl
  · rw [if_neg (fun z => h ((g_ltN (by omega) (by omega)).mp z)), if_neg h]; rfl
theorem r_hasLaw (hW : WT m) {r : Nat} (hr : r < 3) : f11_hasLaw F (nI r) m = some (if vl m 18 r < vl m 19 r then nI 1 else nI 0) := by
  obtain ⟨⟨⟨vP, bP⟩, ⟨vS, bS⟩, ⟨vD, bD⟩, ⟨vN, bN⟩, ⟨vW, bW⟩, ⟨vRoom, bRoom⟩, bRoom1, ⟨vStorm, bStorm⟩, ⟨vSeed, bSeed⟩, ⟨vK, bK⟩⟩, wPence, wSort, wDeed, wSend, wWant, wLaw⟩ := id hW
  obtain ⟨⟨v18, b18⟩, ⟨v19, b19⟩, _, _, _⟩ := wLaw r hr
  unfold f11_hasLaw
  rw [g_ckN (by omega) (by omega), g_ckN (by omega) (by omega), g_clN (by omega), v18, v19]
  by_cases h : vl m 18 r < vl m 19 r
  · rw [if_pos ((g_ltN (by omega) (by omega)).mpr h), if_pos h]; rfl
  · rw [if_neg (fun z => h ((g_ltN (by omega) (by omega)).mp z)), if_neg h]; rfl
theorem q_nameBoat (hA : AT c T t) (ht : isS t) : f0_nameBoat F c = some (g_sL (g_sL c 55 3 (c.1 53 7).toInt64) 55 6 (c.1 t 1).toInt64) := by
  have gs := fun {α : Type} {k : Nat → Option α} => g_drS (k := k) hA.1 ht
  simp (disch := omega) only [g_let, g_bs, g_l0, g_l1, g_l2, g_l3, g_l4, g_l5, g_l6, g_l7, g_l8, g_l9, g_l10, g_l11, g_l12, g_l15, g_l20, g_l24, g_l25, g_l30, g_l40, g_l99, g_l100, g_ckN, g_clN, g_ltN, g_leN, g_eqN, pk_mul, nI_add, if_true, if_false, Nat.reduceLT, Nat.reduceLeDiff, Nat.reduceEqDiff, Nat.lt_irrefl, f0_nameBoat, gs, g_sL22, g_sL1]
def awN (m : g_M) (f p : Nat) : Nat := cntP (fun s => decide (m.1 30 (25 * f + (5 * p + s)) = nI 1)) (vl m 2 1)
theorem q_nameMan (hF : 5000 < F) (h : TS c m T t f) (hA : AT c T t) {p : Nat} (hp : p < vl m 2 0) : f0_nameMan F (nI p) c = some (g_sL (g_sL (g_sL (g_sL c 55 3 (c.1 53 7).toInt64) 55 6 (c.1 t 1).toInt64) 55 2 (c.1 (t + 1) p).toInt64) 55 4 (nI (awN m f p)).toInt64) := by
  obtain ⟨hT, ht, hf, hp0, hW, hR, hWS, hRS⟩ := id h
  obtain ⟨⟨⟨vP, bP⟩, ⟨vS, bS⟩, ⟨vD, bD⟩, ⟨vN, bN⟩, ⟨vW, bW⟩, ⟨vRoom, bRoom⟩, bRoom1, ⟨vStorm, bStorm⟩, ⟨vSeed, bSeed⟩, ⟨vK, bK⟩⟩, wPence, wSort, wDeed, wSend, wWant, wLaw⟩ := id hW
  obtain ⟨⟨⟨vDay, bDay⟩, ⟨vLast, bLast⟩, ⟨vSends, bSends⟩⟩, sPence, sHL, sPerm1, sPerm2, sSend, sWant, sOwn⟩ := id hWS
  obtain ⟨rCnt, rMan, rSort, rDeed, ⟨rT6, rT8, rT10, rT11, rT12, rT93⟩, rSent, rWanted, rLaw, rCode⟩ := id hR
  obtain ⟨⟨eDay, eLast, eStorms, eSends⟩, ePence, eHL, eSend, eWant⟩ := id hRS
  have e0 := rCnt 0 (by omega)
  have e1 := rCnt 1 (by omega)
  have e2 := rCnt 2 (by omega)
  have gd := fun {α : Type} {k : Nat → Option α} => g_drT (k := k) hp0 hT
  have gs := fun {α : Type} {k : Nat → Option α} => g_drS (k := k) hA.1 ht
  have ha : ∀ c', flC c c' → f7_away F t (nI p) c' = some (nI (awN m f p)) := fun c' hc => q_away hF (TS_fl h hc (flM.rfl' m)) hp
  have ha2 := ha (g_sL (g_sL (g_sL c 55 3 (c.1 53 7).toInt64) 55 6 (c.1 t 1).toInt64) 55 2 (c.1 (t + 1) p).toInt64) ⟨rfl, rfl⟩
  unfold f0_nameMan
  rw [q_nameBoat hA ht]
  simp (disch := omega) only [g_let, g_bs, g_l0, g_l1, g_l2, g_l3, g_l4, g_l5, g_l6, g_l7, g_l8, g_l9, g_l10, g_l11, g_l12, g_l15, g_l20, g_l24, g_l25, g_l30, g_l40, g_l99, g_l100, g_ckN, g_clN, g_ltN, g_leN, g_eqN, pk_mul, nI_add, if_true, if_false, Nat.reduceLT, Nat.reduceLeDiff, Nat.reduceEqDiff, Nat.lt_irrefl, gs, g_sL22, g_sL1, ha2]
theorem q_nameSort (hT : isT T) (hA : AT c T t) {s : Nat} (hs : s < 5) : f0_nameSort F (nI s) c = some (g_sL (g_sL c 55 0 (c.1 (T + 4) s).toInt64) 55 1 (c.1 (T + 5) s).toInt64) := by
  have gt := fun {α : Type} {k : Nat → Option α} => g_drT (k := k) hA.2 hT
  simp (disch := omega) only [g_let, g_bs, g_l0, g_l1, g_l2, g_l3, g_l4, g_l5, g_l6, g_l7, g_l8, g_l9, g_l10, g_l11, g_l12, g_l15, g_l20, g_l24, g_l25, g_l30, g_l40, g_l99, g_l100, g_ckN, g_clN, g_ltN, g_leN, g_eqN, pk_mul, nI_add, if_true, if_false, Nat.reduceLT, Nat.reduceLeDiff, Nat.reduceEqDiff, Nat.lt_irrefl, f0_nameSort, gt, g_sL22, g_sL1]
theorem q_aboardOf (hF : 5000 < F) (h : TS c m T t f) (hA : AT c T t) (hB : AB c m A) {s : Nat} (hs : s < 5) : f0_aboardOf F (nI s) c = some (nI (cntP (fun p => A (5 * p + s)) (vl m 2 0))) := by
  obtain ⟨hT, ht, hf, hp0, hW, hR, hWS, hRS⟩ := id h
  obtain ⟨⟨⟨vP, bP⟩, ⟨vS, bS⟩, ⟨vD, bD⟩, ⟨vN, bN⟩, ⟨vW, bW⟩, ⟨vRoom, bRoom⟩, bRoom1, ⟨vStorm, bStorm⟩, ⟨vSeed, bSeed⟩, ⟨vK, bK⟩⟩, wPence, wSort, wDeed, wSend, wWant, wLaw⟩ := id hW
  obtain ⟨⟨⟨vDay, bDay⟩, ⟨vLast, bLast⟩, ⟨vSends, bSends⟩⟩, sPence, sHL, sPerm1, sPerm2, sSend, sWant, sOwn⟩ := id hWS
  obtain ⟨rCnt, rMan, rSort, rDeed, ⟨rT6, rT8, rT10, rT11, rT12, rT93⟩, rSent, rWanted, rLaw, rCode⟩ := id hR
  obtain ⟨⟨eDay, eLast, eStorms, eSends⟩, ePence, eHL, eSend, eWant⟩ := id hRS
  have e0 := rCnt 0 (by omega)
  have e1 := rCnt 1 (by omega)
  have e2 := rCnt 2 (by omega)
  have gd := fun {α : Type} {k : Nat → Option α} => g_drT (k := k) hp0 hT
  have gt := fun {α : Type} {k : Nat → Option α} => g_drT (k := k) hA.2 hT
  unfold f0_aboardOf f0_aboardOf_b4
  refine g_for (fun i => (nI (cntP (fun p => A (5 * p + s)) i), nI i)) (vl m 2 0) (fun i hi sf => ?_) (by omega) (fun sf => ?_)
  · have h1 := hB.1 (5 * i + s) (by omega)
    have h2 := cntP_le (fun p => A (5 * p + s)) i
    simp (disch := omega) only [g_let, g_bs, g_l0, g_l1, g_l2, g_l3, g_l4, g_l5, g_l6, g_l7, g_l8, g_l9, g_l10, g_l11, g_l12, g_l15, g_l20, g_l24, g_l25, g_l30, g_l40, g_l99, g_l100, g_ckN, g_clN, g_ltN, g_leN, g_eqN, pk_mul, nI_add, if_true, if_false, Nat.reduceLT, Nat.reduceLeDiff, Nat.reduceEqDiff, Nat.lt_irrefl, f0_aboardOf_b4_body, f0_aboardOf_b36, gt, e0, vP, hi, Nat.mul_comm i 5, h1]
    rw [cntP_s]
    by_cases ha : A (5 * i + s) = true
    · have z : ¬ nI 1 = nI 0 := by decide
      simp (disch := omega) only [g_let, g_bs, g_l0, g_l1, g_l2, g_l3, g_l4, g_l5, g_l6, g_l7, g_l8, g_l9, g_l10, g_l11, g_l12, g_l15, g_l20, g_l24, g_l25, g_l30, g_l40, g_l99, g_l100, g_ckN, g_clN, g_ltN, g_leN, g_eqN, pk_mul, nI_add, if_true, if_false, Nat.reduceLT, Nat.reduceLeDiff, Nat.reduceEqDiff, Nat.lt_irrefl, ha, z]
    · simp (disch := omega) only [g_let, g_bs, g_l0, g_l1, g_l2, g_l3, g_l4, g_l5, g_l6, g_l7, g_l8, g_l9, g_l10, g_l11, g_l12, g_l15, g_l20, g_l24, g_l25, g_l30, g_l40, g_l99, g_l100, g_ckN, g_clN, g_ltN, g_leN, g_eqN, pk_mul, nI_add, if_true, if_false, Nat.reduceLT, Nat.reduceLeDiff, Nat.reduceEqDiff, Nat.lt_irrefl, ha]
      simp
  · simp (disch := omega) only [g_let, g_bs, g_l0, g_l1, g_l2, g_l3, g_l4, g_l5, g_l6, g_l7, g_l8, g_l9, g_l10, g_l11, g_l12, g_l15, g_l20, g_l24, g_l25, g_l30, g_l40, g_l99, g_l100, g_ckN, g_clN, g_ltN, g_leN, g_eqN, pk_mul, nI_add, if_true, if_false, Nat.reduceLT, Nat.reduceLeDiff, Nat.reduceEqDiff, Nat.lt_irrefl, f0_aboardOf_b4_body, gt, e0, vP]
theorem r_boardOf (hF : 5000 < F) (hW : WT m) (hB : m.1 0 56 = bitsP A 25) {s : Nat} (hs : s < 5) : f11_boardOf F (nI s) m = some (nI (cntP (fun p => A (5 * p + s)) (vl m 2 0))) := by
  obtain ⟨⟨⟨vP, bP⟩, ⟨vS, bS⟩, ⟨vD, bD⟩, ⟨vN, bN⟩, ⟨vW, bW⟩, ⟨vRoom, bRoom⟩, bRoom1, ⟨vStorm, bStorm⟩, ⟨vSeed, bSeed⟩, ⟨vK, bK⟩⟩, wPence, wSort, wDeed, wSend, wWant, wLaw⟩ := id hW
  unfold f11_boardOf f11_boardOf_b4
  refine g_for (fun i => (nI (cntP (fun p => A (5 * p + s)) i), nI i)) (vl m 2 0) (fun i hi sf => ?_) (by omega) (fun sf => ?_)
  · have h1 := shr_bits A (n := 25) (k := 5 * i + s) (by omega) (by omega)
    have h2 := cntP_le (fun p => A (5 * p + s)) i
    have h3 : decide (5 * i + s < 25) = true := decide_eq_true (by omega)
    rw [h3, Bool.true_and] at h1
    simp (disch := omega) only [g_let, g_bs, g_l0, g_l1, g_l2, g_l3, g_l4, g_l5, g_l6, g_l7, g_l8, g_l9, g_l10, g_l11, g_l12, g_l15, g_l20, g_l24, g_l25, g_l30, g_l40, g_l99, g_l100, g_ckN, g_clN, g_ltN, g_leN, g_eqN, pk_mul, nI_add, if_true, if_false, Nat.reduceLT, Nat.reduceLeDiff, Nat.reduceEqDiff, Nat.lt_irrefl, f11_boardOf_b4_body, vP, hi, hB, h1]
    rw [cntP_s]
    split <;> rw [nI_add]
  · simp (disch := omega) only [g_let, g_bs, g_l0, g_l1, g_l2, g_l3, g_l4, g_l5, g_l6, g_l7, g_l8, g_l9, g_l10, g_l11, g_l12, g_l15, g_l20, g_l24, g_l25, g_l30, g_l40, g_l99, g_l100, g_ckN, g_clN, g_ltN, g_leN, g_eqN, pk_mul, nI_add, if_true, if_false, Nat.reduceLT, Nat.reduceLeDiff, Nat.reduceEqDiff, Nat.lt_irrefl, f11_boardOf_b4_body, vP]
theorem r_calls (hF : 5000 < F) (hW : WT m) (hf : f < 23) (hB : m.1 0 56 = bitsP A 25) {a2 a3 a4 a5 : Int32} {P S R : Int64}
    (h2 : (a2 = -1 ∧ P = 0) ∨ ∃ p, p < vl m 2 0 ∧ a2 = nI p ∧ P = (m.1 28 (5 * f + p)).toInt64) (h3 : (a3 = -1 ∧ S = 0 ∧ R = 0) ∨ ∃ s, s < vl m 2 1 ∧ a3 = nI s ∧ S = (m.1 6 s).toInt64 ∧ R = (m.1 7 s).toInt64) :
    ∃ m', f11_calls F (nI f) a2 a3 a4 a5 m = some m' ∧ flM m m' ∧ (∀ o, o ≠ 22 → m'.2.1 o = m.2.1 o) ∧ m'.2.1 22 0 = S ∧ m'.2.1 22 1 = R ∧ m'.2.1 22 2 = P ∧ m'.2.1 22 3 = (nI (cntP A 25)).toInt64 ∧ m'.2.1 22 4 = a4.toInt64 ∧ m'.2.1 22 5 = a5.toInt64 ∧ m'.2.1 22 6 = (m.1 24 f).toInt64 := by
  obtain ⟨⟨⟨vP, bP⟩, ⟨vS, bS⟩, ⟨vD, bD⟩, ⟨vN, bN⟩, ⟨vW, bW⟩, ⟨vRoom, bRoom⟩, bRoom1, ⟨vStorm, bStorm⟩, ⟨vSeed, bSeed⟩, ⟨vK, bK⟩⟩, wPence, wSort, wDeed, wSend, wWant, wLaw⟩ := id hW
  have key : f11_calls F (nI f) a2 a3 a4 a5 m = some (g_sL (g_sL (g_sL (g_sL (g_sL (g_sL (g_sL m 22 0 S) 22 1 R) 22 2 P) 22 3 (nI (cntP A 25)).toInt64) 22 4 a4.toInt64) 22 5 a5.toInt64) 22 6 (m.1 24 f).toInt64) := by
    have hb := fun m' : g_M => r_bitsOf hF A m'
    have n1 : ∀ p : Nat, p < 5 → ¬ nI p = (-1 : Int32) := by
      intro p hp
      rcases (show p = 0 ∨ p = 1 ∨ p = 2 ∨ p = 3 ∨ p = 4 by omega) with rfl | rfl | rfl | rfl | rfl <;> decide
    have t1 : ∀ x : g_M, f11_calls_b69 F (nI f) a2 a3 a4 a5 (nI 2) P x = some (g_sL (g_sL (g_sL (g_sL (g_sL x 22 2 P) 22 3 (nI (cntP A 25)).toInt64) 22 4 a4.toInt64) 22 5 a5.toInt64) 22 6 (x.1 24 f).toInt64) ∨ ¬ x.1 = m.1 := by
      intro x
      by_cases hx : x.1 = m.1
      · left
        have hx2 : x.1 0 56 = bitsP A 25 := by rw [hx]; exact hB
        unfold f11_calls_b69
        simp (disch := omega) only [g_let, g_bs, g_l0, g_l1, g_l2, g_l3, g_l4, g_l5, g_l6, g_l7, g_l8, g_l9, g_l10, g_l11, g_l12, g_l15, g_l20, g_l24, g_l25, g_l30, g_l40, g_l99, g_l100, g_ckN, g_clN, g_ltN, g_leN, g_eqN, pk_mul, nI_add, if_true, if_false, Nat.reduceLT, Nat.reduceLeDiff, Nat.reduceEqDiff, Nat.lt_irrefl, g_sL1, hx2, hb]
      · exact Or.inr hx
    have t1' : ∀ x : g_M, x.1 = m.1 → f11_calls_b69 F (nI f) a2 a3 a4 a5 (nI 2) P x = some (g_sL (g_sL (g_sL (g_sL (g_sL x 22 2 P) 22 3 (nI (cntP A 25)).toInt64) 22 4 a4.toInt64) 22 5 a5.toInt64) 22 6 (x.1 24 f).toInt64) := by
      intro x hx
      rcases t1 x with h | h
      · exact h
      · exact absurd hx h
    have t2 : ∀ x : g_M, x.1 = m.1 → f11_calls_b43 F (nI f) a2 a3 a4 a5 (nI 1) R x = some (g_sL (g_sL (g_sL (g_sL (g_sL (g_sL x 22 1 R) 22 2 P) 22 3 (nI (cntP A 25)).toInt64) 22 4 a4.toInt64) 22 5 a5.toInt64) 22 6 (x.1 24 f).toInt64) := by
      intro x hx
      have t3 := t1' (g_sL x 22 1 R) hx
      unfold f11_calls_b43
      rcases h2 with ⟨ha, hP⟩ | ⟨p, hp, ha, hP⟩
      · rw [g_ckN (by omega) (by omega), g_clN (by omega)]
        simp only [g_let]
        rw [if_pos ha, ← hP]
        exact t3
      · rw [g_ckN (by omega) (by omega), g_clN (by omega)]
        simp only [g_let]
        have e1 : (5 : Int32) * nI f + a2 = nI (5 * f + p) := by rw [ha, g_l5, pk_mul, nI_add]
        rw [if_neg (show ¬ a2 = -1 by rw [ha]; exact n1 p (by omega)), e1, g_ckN (by omega) (by omega), g_clN (by omega)]
        rw [show ((g_sL x 22 1 R).1 28 (5 * f + p)).toInt64 = P by rw [hP, g_sL1, hx]]
        exact t3
    have t4 : ∀ x : g_M, x.1 = m.1 → f11_calls_b21 F (nI f) a2 a3 a4 a5 (nI 0) S x = some (g_sL (g_sL (g_sL (g_sL (g_sL (g_sL (g_sL x 22 0 S) 22 1 R) 22 2 P) 22 3 (nI (cntP A 25)).toInt64) 22 4 a4.toInt64) 22 5 a5.toInt64) 22 6 (x.1 24 f).toInt64) := by
      intro x hx
      have t3 := t2 (g_sL x 22 0 S) hx
      unfold f11_calls_b21
      rcases h3 with ⟨ha, hS, hR⟩ | ⟨s, hs, ha, hS, hR⟩
      · rw [g_ckN (by omega) (by omega), g_clN (by omega)]
        simp only [g_let]
        rw [if_pos ha, ← hR]
        exact t3
      · rw [g_ckN (by omega) (by omega), g_clN (by omega)]
        simp only [g_let]
        rw [if_neg (show ¬ a3 = -1 by rw [ha]; exact n1 s (by omega)), ha, g_ckN (by omega) (by omega), g_clN (by omega), ← ha]
        rw [show ((g_sL x 22 0 S).1 7 s).toInt64 = R by rw [hR, g_sL1, hx]]
        exact t3
    unfold f11_calls
    rcases h3 with ⟨ha, hS, hR⟩ | ⟨s, hs, ha, hS, hR⟩
    · rw [if_pos ha, ← hS]
      exact t4 m rfl
    · rw [if_neg (show ¬ a3 = -1 by rw [ha]; exact n1 s (by omega)), ha, g_ckN (by omega) (by omega), g_clN (by omega), ← ha, ← hS]
      exact t4 m rfl
  refine ⟨_, key, ⟨fun _ _ _ => rfl, rfl⟩, fun o ho => ?_, ?_, ?_, ?_, ?_, ?_, ?_, ?_⟩
  · funext j; simp [g_sL21, ho]
  all_goals simp [g_sL21]
end N
