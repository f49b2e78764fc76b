-- @deps 28.bits 29.frame 30.names
/-! fares, gains, mixing by law -/
section W
variable {F : Nat} {c m : g_M} {T t f : Nat} {A : Nat → Bool}
def NA (c m : g_M) : Prop := ∀ k, k < 7 → c.2.1 55 k = m.2.1 22 k ∧ okL (m.2.1 22 k) = true
/-- v is what law r gives in m -/
def LW (F r : Nat) (v : Int64) (m : g_M) : Prop := (¬ vl m 18 r < vl m 19 r ∧ v = -9223372036854775808) ∨ (vl m 18 r < vl m 19 r ∧ ∃ ok m2, f11_goes F (nI r) m = some (ok, m2) ∧ flM m m2 ∧ ((ok = nI 0 ∧ v = -9223372036854775808) ∨ (ok = nI 1 ∧ v = m2.2.1 23 0 ∧ okL v = true)))
theorem law_run (hF : 5000 < F) (h : TS c m T t f) {r : Nat} (hr : r < 3) (hlaw : vl m 18 r < vl m 19 r) (hn : NA c m) : ∃ c' v, f2_value F (T + 9) (nI r) 55 c = some (v, c') ∧ flC c c' ∧ LW F r v m := by
  obtain ⟨hT, ht, hf, hp0, hW, hR, hWS, hRS⟩ := id h
  obtain ⟨c', m', v, ok, h1, h2, h3, h4, h5⟩ := law_eval hF hW hR hr hlaw hn hT
  exact ⟨c', v, h1, ⟨h3.1, h3.2.1⟩, Or.inr ⟨hlaw, ok, m', h2, ⟨h4.1, h4.2.1⟩, h5⟩⟩
theorem okL_min : okL (-9223372036854775808) = false := by decide
theorem cl_999 (v : Int64) : ∃ w, w ≤ 999 ∧ (if (if v < (999 : Int64) then v else (999 : Int64)) < (0 : Int64) then (0 : Int64) else (if v < (999 : Int64) then v else (999 : Int64))).toInt32 = nI w := by
  by_cases h1 : (if v < (999 : Int64) then v else (999 : Int64)) < (0 : Int64)
  · rw [if_pos h1]
    exact ⟨0, by omega, rfl⟩
  · rw [if_neg h1]
    by_cases h2 : v < (999 : Int64)
    · rw [if_pos h2] at h1 ⊢
      obtain ⟨k, hk, rfl⟩ := pk_lOf h1
      have h3 : k < 999 := (pk_lLT (a := k) (b := 999) (by omega) (by omega)).mp h2
      exact ⟨k, by omega, lN_i k⟩
    · rw [if_neg h2]
      exact ⟨999, by omega, rfl⟩
theorem nI10 : ¬ nI 1 = (0 : Int32) := by decide
theorem nI00 : nI 0 = (0 : Int32) := rfl
theorem min_ne {v : Int64} (h : okL v = true) : ¬ v = -9223372036854775808 := fun z => by rw [z, okL_min] at h; cases h
theorem g_ck0 {α : Type} {k : Option α} : g_ck (0 : Int32) 64 k = k := g_ckN (x := 0) (by omega) (by omega)
theorem LW_within (hW : WT m) {r : Nat} (hr : r < 3) {v : Int64} (h : LW F r v m) {o : Nat} (ho : o ≤ 999) (c' : g_M) : ∃ w m2, w ≤ 999 ∧ f0_within F v (nI o) c' = some (nI w) ∧ f11_within F (nI r) 999 (nI o) m = some (nI w, m2) ∧ flM m m2 := by
  unfold f11_within
  rw [r_hasLaw hW hr]
  unfold f0_within
  simp only [g_bs, lc_eq]
  rcases h with ⟨h1, h2⟩ | ⟨h1, ok, m2, h2, h3, h4⟩
  · subst h2
    rw [if_neg h1]
    exact ⟨o, m, ho, by rw [if_pos rfl], by rw [if_pos nI00], flM.rfl' m⟩
  · rw [if_pos h1, if_neg nI10, h2]
    simp only [g_bs]
    rcases h4 with ⟨h5, h6⟩ | ⟨h5, h6, h7⟩
    · subst h5; subst h6
      exact ⟨o, m2, ho, by rw [if_pos rfl], by rw [if_pos nI00], h3⟩
    · subst h5
      obtain ⟨w, hw, he⟩ := cl_999 v
      refine ⟨w, m2, hw, ?_, ?_, h3⟩
      · rw [if_neg (min_ne h7), he]
      · rw [if_neg nI10, g_ck0]
        simp only [show (999 : Int32).toInt64 = 999 from by decide, show (0 : Int32).toNatClampNeg = 0 from rfl]
        rw [← h6, he]
theorem okP {k : Nat} (hk : k ≤ 99999) : okL (nI k).toInt64 = true := okL_num hk
theorem seven {P : Nat → Prop} (h0 : P 0) (h1 : P 1) (h2 : P 2) (h3 : P 3) (h4 : P 4) (h5 : P 5) (h6 : P 6) : ∀ k, k < 7 → P k := by
  intro k hk
  rcases (show k = 0 ∨ k = 1 ∨ k = 2 ∨ k = 3 ∨ k = 4 ∨ k = 5 ∨ k = 6 by omega) with rfl | rfl | rfl | rfl | rfl | rfl | rfl
  all_goals assumption
theorem cnt25 (A : Nat → Bool) : cntP A 25 ≤ 25 := cntP_le A 25
theorem aw_le (hW : WT m) (p : Nat) : awN m f p ≤ 5 := Nat.le_trans (cntP_le _ _) hW.1.2.1.2
/-- a fare -/
theorem d_fare (hF : 5000 < F) (h : TS c m T t f) (hA : AT c T t) (hB : AB c m A) {p s : Nat} (hp : p < vl m 2 0) (hs : s < vl m 2 1) :
    ∃ c' v m1, f0_fareLaw F (nI p) (nI s) c = some (v, c') ∧ flC c c' ∧ f11_awayOf F (nI f) (nI p) m = some (nI (awN m f p)) ∧ f11_calls F (nI f) (nI p) (nI s) (nI (awN m f p)) (nI 0) m = some m1 ∧ flM m m1 ∧ LW F 0 v m1 := by
  obtain ⟨hT, ht, hf, hp0, hW, hR, hWS, hRS⟩ := id h
  obtain ⟨⟨⟨vP, bP⟩, ⟨vS, bS⟩, ⟨vD, bD⟩, ⟨vN, bN⟩, ⟨vW, bW⟩, ⟨vRoom, bRoom⟩, bRoom1, ⟨vStorm, bStorm⟩, ⟨vSeed, bSeed⟩, ⟨vK, bK⟩⟩, wPence, wSort, wDeed, wSend, wWant, wLaw⟩ := id hW
  obtain ⟨⟨⟨vDay, bDay⟩, ⟨vLast, bLast⟩, ⟨vSends, bSends⟩⟩, sPence, sHL, sPerm1, sPerm2, sSend, sWant, sOwn⟩ := id hWS
  obtain ⟨rCnt, rMan, rSort, rDeed, ⟨rT6, rT8, rT10, rT11, rT12, rT93⟩, rSent, rWanted, rLaw, rCode⟩ := id hR
  obtain ⟨⟨eDay, eLast, eStorms, eSends⟩, ePence, eHL, eSend, eWant⟩ := id hRS
  have e0 := rCnt 0 (by omega)
  have e1 := rCnt 1 (by omega)
  have e2 := rCnt 2 (by omega)
  have gd := fun {α : Type} {k : Nat → Option α} => g_drT (k := k) hp0 hT
  have gt := fun {α : Type} {k : Nat → Option α} => g_drT (k := k) hA.2 hT
  have ha := r_awayOf hF hW hWS hf hp
  obtain ⟨m1, k1, k2, k3, n0, n1, n2, n3, n4, n5, n6⟩ := r_calls (a4 := nI (awN m f p)) (a5 := nI 0) hF hW hf hB.2.1 (Or.inr ⟨p, hp, rfl, rfl⟩) (Or.inr ⟨s, hs, rfl, rfl, rfl⟩)
  have hvl : ∀ o k, o ≠ 0 → vl m1 o k = vl m o k := fun o k ho => by unfold vl; rw [k2.o ho]
  have ht0 : f2_isTold F (T + 9) (0 : Int32) c = some (if vl m 18 0 < vl m 19 0 then nI 1 else nI 0) := q_isTold (F := F) hR hW (r := 0) (by omega)
  by_cases hl : vl m 18 0 < vl m 19 0
  · have hC : f0_fareLaw F (nI p) (nI s) c = (f2_value F (T + 9) (nI 0) 55 (g_sL (g_sL (g_sL (g_sL (g_sL (g_sL (g_sL c 55 0 (c.1 (T + 4) s).toInt64) 55 1 (c.1 (T + 5) s).toInt64) 55 3 (c.1 53 7).toInt64) 55 6 (c.1 t 1).toInt64) 55 2 (c.1 (t + 1) p).toInt64) 55 4 (nI (awN m f p)).toInt64) 55 5 0)).bind (fun r => some (r.1, r.2)) := by
      unfold f0_fareLaw
      rw [gt, ht0, g_bs, if_pos hl, if_neg nI10, q_nameSort hT hA (by omega), g_bs]
      rw [q_nameMan (c := g_sL (g_sL c 55 0 (c.1 (T + 4) s).toInt64) 55 1 (c.1 (T + 5) s).toInt64) hF (TS_fl h ⟨rfl, rfl⟩ (flM.rfl' m)) ⟨hA.1, hA.2⟩ hp, g_bs]
      simp (disch := omega) only [g_let, g_bs, g_l0, g_l1, g_l2, g_l3, g_l4, g_l5, g_l6, g_l7, g_l8, g_l9, g_l10, g_l11, g_l12, g_l15, g_l20, g_l24, g_l25, g_l30, g_l40, g_l99, g_l100, g_ckN, g_clN, g_ltN, g_leN, g_eqN, pk_mul, nI_add, if_true, if_false, Nat.reduceLT, Nat.reduceLeDiff, Nat.reduceEqDiff, Nat.lt_irrefl, gt, g_sL22, g_sL1]
    rw [hC]
    obtain ⟨⟨vz, bz⟩, ⟨vr, br⟩⟩ := (wSort s hs).imp id (fun z => z.2)
    obtain ⟨vp, bp⟩ := sPence p hp
    have q0 : c.1 (T + 4) s = m.1 6 s := (rSort s hs).2.1
    have q1 : c.1 (T + 5) s = m.1 7 s := (rSort s hs).2.2
    have q2 : c.1 (t + 1) p = m.1 28 (5 * f + p) := ePence p hp
    have c25 := cnt25 A
    have a5 := aw_le (f := f) hW p
    have hna : NA (g_sL (g_sL (g_sL (g_sL (g_sL (g_sL (g_sL c 55 0 (c.1 (T + 4) s).toInt64) 55 1 (c.1 (T + 5) s).toInt64) 55 3 (c.1 53 7).toInt64) 55 6 (c.1 t 1).toInt64) 55 2 (c.1 (t + 1) p).toInt64) 55 4 (nI (awN m f p)).toInt64) 55 5 0) m1 := by
      refine seven ?_ ?_ ?_ ?_ ?_ ?_ ?_
      · rw [n0, vz]; refine ⟨?_, okP (by omega)⟩; simp [g_sL21, q0, vz]
      · rw [n1, vr]; refine ⟨?_, okP (by omega)⟩; simp [g_sL21, q1, vr]
      · rw [n2, vp]; refine ⟨?_, okP (by omega)⟩; simp [g_sL21, q2, vp]
      · rw [n3]; refine ⟨?_, okP (by omega)⟩; simp [g_sL21, hB.2.2]
      · rw [n4]; refine ⟨?_, okP (by omega)⟩; simp [g_sL21]
      · rw [n5]; refine ⟨?_, okP (by omega)⟩; simp [g_sL21]; rfl
      · rw [n6, vDay]; refine ⟨?_, okP (by omega)⟩; simp [g_sL21, eDay, vDay]
    obtain ⟨c', v, e1, e2, e3⟩ := law_run hF (TS_fl h (c' := g_sL (g_sL (g_sL (g_sL (g_sL (g_sL (g_sL c 55 0 (c.1 (T + 4) s).toInt64) 55 1 (c.1 (T + 5) s).toInt64) 55 3 (c.1 53 7).toInt64) 55 6 (c.1 t 1).toInt64) 55 2 (c.1 (t + 1) p).toInt64) 55 4 (nI (awN m f p)).toInt64) 55 5 0) ⟨rfl, rfl⟩ k2) (r := 0) (by omega) (by rw [hvl 18 0 (by omega), hvl 19 0 (by omega)]; exact hl) hna
    rw [e1]
    exact ⟨c', v, m1, rfl, ⟨e2.1, e2.2⟩, ha, k1, k2, e3⟩
  · have hC : f0_fareLaw F (nI p) (nI s) c = some (-9223372036854775808, c) := by
      unfold f0_fareLaw
      rw [gt, ht0, g_bs, if_neg hl, if_pos nI00]
    rw [hC]
    exact ⟨c, _, m1, rfl, flC.rfl' c, ha, k1, k2, Or.inl ⟨by rw [hvl 18 0 (by omega), hvl 19 0 (by omega)]; exact hl, rfl⟩⟩
/-- a gain -/
theorem d_gain (hF : 5000 < F) (h : TS c m T t f) (hA : AT c T t) (hB : AB c m A) {p w : Nat} (hp : p < vl m 2 0) (hw : w < vl m 2 4) :
    ∃ c' v m1, f0_gainLaw F (nI p) (nI w) c = some (v, c') ∧ flC c c' ∧ f11_awayOf F (nI f) (nI p) m = some (nI (awN m f p)) ∧ f11_calls F (nI f) (nI p) (-1) (nI (awN m f p)) (m.1 17 w) m = some m1 ∧ flM m m1 ∧ LW F 1 v m1 := by
  obtain ⟨hT, ht, hf, hp0, hW, hR, hWS, hRS⟩ := id h
  obtain ⟨⟨⟨vP, bP⟩, ⟨vS, bS⟩, ⟨vD, bD⟩, ⟨vN, bN⟩, ⟨vW, bW⟩, ⟨vRoom, bRoom⟩, bRoom1, ⟨vStorm, bStorm⟩, ⟨vSeed, bSeed⟩, ⟨vK, bK⟩⟩, wPence, wSort, wDeed, wSend, wWant, wLaw⟩ := id hW
  obtain ⟨⟨⟨vDay, bDay⟩, ⟨vLast, bLast⟩, ⟨vSends, bSends⟩⟩, sPence, sHL, sPerm1, sPerm2, sSend, sWant, sOwn⟩ := id hWS
  obtain ⟨rCnt, rMan, rSort, rDeed, ⟨rT6, rT8, rT10, rT11, rT12, rT93⟩, rSent, rWanted, rLaw, rCode⟩ := id hR
  obtain ⟨⟨eDay, eLast, eStorms, eSends⟩, ePence, eHL, eSend, eWant⟩ := id hRS
  have e0 := rCnt 0 (by omega)
  have e1 := rCnt 1 (by omega)
  have e2 := rCnt 2 (by omega)
  have gd := fun {α : Type} {k : Nat → Option α} => g_drT (k := k) hp0 hT
  have gt := fun {α : Type} {k : Nat → Option α} => g_drT (k := k) hA.2 hT
  have ha := r_awayOf hF hW hWS hf hp
  obtain ⟨m1, k1, k2, k3, n0, n1, n2, n3, n4, n5, n6⟩ := r_calls (a4 := nI (awN m f p)) (a5 := m.1 17 w) (a3 := -1) hF hW hf hB.2.1 (Or.inr ⟨p, hp, rfl, rfl⟩) (Or.inl ⟨rfl, rfl, rfl⟩)
  have hvl : ∀ o k, o ≠ 0 → vl m1 o k = vl m o k := fun o k ho => by unfold vl; rw [k2.o ho]
  have ht0 : f2_isTold F (T + 9) (1 : Int32) c = some (if vl m 18 1 < vl m 19 1 then nI 1 else nI 0) := q_isTold (F := F) hR hW (r := 1) (by omega)
  by_cases hl : vl m 18 1 < vl m 19 1
  · have hwa : ∀ c' : g_M, c'.1 = c.1 → f9_wantAt F T (nI w) (nI 4) c' = some (c.1 (T + 8) (5 * w + 4)) := fun c' hc => by rw [q_wantAt (by omega) (by omega), hc]
    have hC : f0_gainLaw F (nI p) (nI w) c = (f2_value F (T + 9) (nI 1) 55 (g_sL (g_sL (g_sL (g_sL (g_sL (g_sL (g_sL c 55 0 0) 55 1 0) 55 3 (c.1 53 7).toInt64) 55 6 (c.1 t 1).toInt64) 55 2 (c.1 (t + 1) p).toInt64) 55 4 (nI (awN m f p)).toInt64) 55 5 (c.1 (T + 8) (5 * w + 4)).toInt64)).bind (fun r => some (r.1, r.2)) := by
      unfold f0_gainLaw
      rw [gt, ht0, g_bs, if_pos hl, if_neg nI10]
      simp (disch := omega) only [g_let, g_bs, g_l0, g_l1, g_l2, g_l3, g_l4, g_l5, g_l6, g_l7, g_l8, g_l9, g_l10, g_l11, g_l12, g_l15, g_l20, g_l24, g_l25, g_l30, g_l40, g_l99, g_l100, g_ckN, g_clN, g_ltN, g_leN, g_eqN, pk_mul, nI_add, if_true, if_false, Nat.reduceLT, Nat.reduceLeDiff, Nat.reduceEqDiff, Nat.lt_irrefl, gt, g_sL22, g_sL1]
      rw [q_nameMan (c := g_sL (g_sL c 55 0 0) 55 1 0) hF (TS_fl h ⟨rfl, rfl⟩ (flM.rfl' m)) ⟨hA.1, hA.2⟩ hp, g_bs]
      simp only [gt, g_sL22]
      rw [hwa]
      · simp (disch := omega) only [g_let, g_bs, g_l0, g_l1, g_l2, g_l3, g_l4, g_l5, g_l6, g_l7, g_l8, g_l9, g_l10, g_l11, g_l12, g_l15, g_l20, g_l24, g_l25, g_l30, g_l40, g_l99, g_l100, g_ckN, g_clN, g_ltN, g_leN, g_eqN, pk_mul, nI_add, if_true, if_false, Nat.reduceLT, Nat.reduceLeDiff, Nat.reduceEqDiff, Nat.lt_irrefl, gt, g_sL22, g_sL1]
      · rfl
    rw [hC]
    obtain ⟨vp, bp⟩ := sPence p hp
    obtain ⟨v17, b17⟩ := (wWant w hw).2.2.2.2.2.2
    have q2 : c.1 (t + 1) p = m.1 28 (5 * f + p) := ePence p hp
    have q5 : c.1 (T + 8) (5 * w + 4) = m.1 17 w := (rWanted w hw).2.2.2.2
    have c25 := cnt25 A
    have a5 := aw_le (f := f) hW p
    have hna : NA (g_sL (g_sL (g_sL (g_sL (g_sL (g_sL (g_sL c 55 0 0) 55 1 0) 55 3 (c.1 53 7).toInt64) 55 6 (c.1 t 1).toInt64) 55 2 (c.1 (t + 1) p).toInt64) 55 4 (nI (awN m f p)).toInt64) 55 5 (c.1 (T + 8) (5 * w + 4)).toInt64) m1 := by
      refine seven ?_ ?_ ?_ ?_ ?_ ?_ ?_
      · rw [n0]; refine ⟨?_, okL_0⟩; simp [g_sL21]
      · rw [n1]; refine ⟨?_, okL_0⟩; simp [g_sL21]
      · rw [n2, vp]; refine ⟨?_, okP (by omega)⟩; simp [g_sL21, q2, vp]
      · rw [n3]; refine ⟨?_, okP (by omega)⟩; simp [g_sL21, hB.2.2]
      · rw [n4]; refine ⟨?_, okP (by omega)⟩; simp [g_sL21]
      · rw [n5, v17]; refine ⟨?_, okP (by omega)⟩; simp [g_sL21, q5, v17]
      · rw [n6, vDay]; refine ⟨?_, okP (by omega)⟩; simp [g_sL21, eDay, vDay]
    obtain ⟨c', v, e1, e2, e3⟩ := law_run hF (TS_fl h (c' := g_sL (g_sL (g_sL (g_sL (g_sL (g_sL (g_sL c 55 0 0) 55 1 0) 55 3 (c.1 53 7).toInt64) 55 6 (c.1 t 1).toInt64) 55 2 (c.1 (t + 1) p).toInt64) 55 4 (nI (awN m f p)).toInt64) 55 5 (c.1 (T + 8) (5 * w + 4)).toInt64) ⟨rfl, rfl⟩ k2) (r := 1) (by omega) (by rw [hvl 18 1 (by omega), hvl 19 1 (by omega)]; exact hl) hna
    rw [e1]
    exact ⟨c', v, m1, rfl, ⟨e2.1, e2.2⟩, ha, k1, k2, e3⟩
  · have hC : f0_gainLaw F (nI p) (nI w) c = some (-9223372036854775808, c) := by
      unfold f0_gainLaw
      rw [gt, ht0, g_bs, if_neg hl, if_pos nI00]
    rw [hC]
    exact ⟨c, _, m1, rfl, flC.rfl' c, ha, k1, k2, Or.inl ⟨by rw [hvl 18 1 (by omega), hvl 19 1 (by omega)]; exact hl, rfl⟩⟩
/-- whether a storm mixes -/
theorem d_mix (hF : 5000 < F) (h : TS c m T t f) (hA : AT c T t) (hB : AB c m A) {s a : Nat} (hs : s < vl m 2 1) (ha : cntP (fun p => A (5 * p + s)) (vl m 2 0) = a) :
    ∃ c' v m1, f0_mixLaw F (nI s) c = some (v, c') ∧ flC c c' ∧ f11_boardOf F (nI s) m = some (nI a) ∧ f11_calls F (nI f) (-1) (nI s) (nI a) (nI 0) m = some m1 ∧ flM m m1 ∧ LW F 2 v m1 := by
  obtain ⟨hT, ht, hf, hp0, hW, hR, hWS, hRS⟩ := id h
  obtain ⟨⟨⟨vP, bP⟩, ⟨vS, bS⟩, ⟨vD, bD⟩, ⟨vN, bN⟩, ⟨vW, bW⟩, ⟨vRoom, bRoom⟩, bRoom1, ⟨vStorm, bStorm⟩, ⟨vSeed, bSeed⟩, ⟨vK, bK⟩⟩, wPence, wSort, wDeed, wSend, wWant, wLaw⟩ := id hW
  obtain ⟨⟨⟨vDay, bDay⟩, ⟨vLast, bLast⟩, ⟨vSends, bSends⟩⟩, sPence, sHL, sPerm1, sPerm2, sSend, sWant, sOwn⟩ := id hWS
  obtain ⟨rCnt, rMan, rSort, rDeed, ⟨rT6, rT8, rT10, rT11, rT12, rT93⟩, rSent, rWanted, rLaw, rCode⟩ := id hR
  obtain ⟨⟨eDay, eLast, eStorms, eSends⟩, ePence, eHL, eSend, eWant⟩ := id hRS
  have e0 := rCnt 0 (by omega)
  have e1 := rCnt 1 (by omega)
  have e2 := rCnt 2 (by omega)
  have gd := fun {α : Type} {k : Nat → Option α} => g_drT (k := k) hp0 hT
  have gt := fun {α : Type} {k : Nat → Option α} => g_drT (k := k) hA.2 hT
  have hb := r_boardOf hF hW hB.2.1 (show s < 5 by omega)
  rw [ha] at hb
  have hal : a ≤ 5 := by rw [← ha]; exact Nat.le_trans (cntP_le _ _) bP
  obtain ⟨m1, k1, k2, k3, n0, n1, n2, n3, n4, n5, n6⟩ := r_calls (a2 := -1) (a4 := nI a) (a5 := nI 0) hF hW hf hB.2.1 (Or.inl ⟨rfl, rfl⟩) (Or.inr ⟨s, hs, rfl, rfl, rfl⟩)
  have hvl : ∀ o k, o ≠ 0 → vl m1 o k = vl m o k := fun o k ho => by unfold vl; rw [k2.o ho]
  have ht0 : f2_isTold F (T + 9) (2 : Int32) c = some (if vl m 18 2 < vl m 19 2 then nI 1 else nI 0) := q_isTold (F := F) hR hW (r := 2) (by omega)
  by_cases hl : vl m 18 2 < vl m 19 2
  · have hbo : ∀ c', flC c c' → f0_aboardOf F (nI s) c' = some (nI a) := fun c' hc => by
      rw [← ha]; exact q_aboardOf hF (TS_fl h hc (flM.rfl' m)) (AT_fl hA hc) (AB_fl hB hc (flM.rfl' m)) (by omega)
    have hC : f0_mixLaw F (nI s) c = (f2_value F (T + 9) (nI 2) 55 (g_sL (g_sL (g_sL (g_sL (g_sL (g_sL (g_sL c 55 0 (c.1 (T + 4) s).toInt64) 55 1 (c.1 (T + 5) s).toInt64) 55 3 (c.1 53 7).toInt64) 55 6 (c.1 t 1).toInt64) 55 2 0) 55 4 (nI a).toInt64) 55 5 0)).bind (fun r => some (r.1, r.2)) := by
      unfold f0_mixLaw
      rw [gt, ht0, g_bs, if_pos hl, if_neg nI10, q_nameSort hT hA (by omega), g_bs, q_nameBoat (c := g_sL (g_sL c 55 0 (c.1 (T + 4) s).toInt64) 55 1 (c.1 (T + 5) s).toInt64) ⟨hA.1, hA.2⟩ ht, g_bs]
      simp (disch := omega) only [g_let, g_bs, g_l0, g_l1, g_l2, g_l3, g_l4, g_l5, g_l6, g_l7, g_l8, g_l9, g_l10, g_l11, g_l12, g_l15, g_l20, g_l24, g_l25, g_l30, g_l40, g_l99, g_l100, g_ckN, g_clN, g_ltN, g_leN, g_eqN, pk_mul, nI_add, if_true, if_false, Nat.reduceLT, Nat.reduceLeDiff, Nat.reduceEqDiff, Nat.lt_irrefl, gt, g_sL22, g_sL1]
      rw [hbo]
      · simp (disch := omega) only [g_let, g_bs, g_l0, g_l1, g_l2, g_l3, g_l4, g_l5, g_l6, g_l7, g_l8, g_l9, g_l10, g_l11, g_l12, g_l15, g_l20, g_l24, g_l25, g_l30, g_l40, g_l99, g_l100, g_ckN, g_clN, g_ltN, g_leN, g_eqN, pk_mul, nI_add, if_true, if_false, Nat.reduceLT, Nat.reduceLeDiff, Nat.reduceEqDiff, Nat.lt_irrefl, gt, g_sL22, g_sL1]
      · exact ⟨rfl, rfl⟩
    rw [hC]
    obtain ⟨⟨vz, bz⟩, ⟨vr, br⟩⟩ := (wSort s hs).imp id (fun z => z.2)
    have q0 : c.1 (T + 4) s = m.1 6 s := (rSort s hs).2.1
    have q1 : c.1 (T + 5) s = m.1 7 s := (rSort s hs).2.2
    have c25 := cnt25 A
    have hna : NA (g_sL (g_sL (g_sL (g_sL (g_sL (g_sL (g_sL c 55 0 (c.1 (T + 4) s).toInt64) 55 1 (c.1 (T + 5) s).toInt64) 55 3 (c.1 53 7).toInt64) 55 6 (c.1 t 1).toInt64) 55 2 0) 55 4 (nI a).toInt64) 55 5 0) m1 := by
      refine seven ?_ ?_ ?_ ?_ ?_ ?_ ?_
      · rw [n0, vz]; refine ⟨?_, okP (by omega)⟩; simp [g_sL21, q0, vz]
      · rw [n1, vr]; refine ⟨?_, okP (by omega)⟩; simp [g_sL21, q1, vr]
      · rw [n2]; refine ⟨?_, okL_0⟩; simp [g_sL21]
      · rw [n3]; refine ⟨?_, okP (by omega)⟩; simp [g_sL21, hB.2.2]
      · rw [n4]; refine ⟨?_, okP (by omega)⟩; simp [g_sL21]
      · rw [n5]; refine ⟨?_, okP (by omega)⟩; simp [g_sL21]; rfl
      · rw [n6, vDay]; refine ⟨?_, okP (by omega)⟩; simp [g_sL21, eDay, vDay]
    obtain ⟨c', v, e1, e2, e3⟩ := law_run hF (TS_fl h (c' := g_sL (g_sL (g_sL (g_sL (g_sL (g_sL (g_sL c 55 0 (c.1 (T + 4) s).toInt64) 55 1 (c.1 (T + 5) s).toInt64) 55 3 (c.1 53 7).toInt64) 55 6 (c.1 t 1).toInt64) 55 2 0) 55 4 (nI a).toInt64) 55 5 0) ⟨rfl, rfl⟩ k2) (r := 2) (by omega) (by rw [hvl 18 2 (by omega), hvl 19 2 (by omega)]; exact hl) hna
    rw [e1]
    exact ⟨c', v, m1, rfl, ⟨e2.1, e2.2⟩, hb, k1, k2, e3⟩
  · have hC : f0_mixLaw F (nI s) c = some (-9223372036854775808, c) := by
      unfold f0_mixLaw
      rw [gt, ht0, g_bs, if_neg hl, if_pos nI00]
    rw [hC]
    exact ⟨c, _, m1, rfl, flC.rfl' c, hb, k1, k2, Or.inl ⟨by rw [hvl 18 2 (by omega), hvl 19 2 (by omega)]; exact hl, rfl⟩⟩
end W
