/-! a law's whole row -/
section L2
variable {F : Nat} {c m : g_M} {T : Nat}
theorem lc_eqN (x y : Int64) : (lg_cmp x y = nI 0) ↔ x = y := lc_eq x y
theorem e_nm (K x : Nat) : nI (K + x) - nI K = nI x := by rw [g_subN (Nat.le_add_right _ _), Nat.add_sub_cancel_left]
theorem enc_num (v : Int32) : enc 0 v = v := by unfold enc; rw [if_pos rfl]
theorem enc_name (v : Int32) : enc 1 v = 10000 + v := by unfold enc; rw [if_neg (by decide), if_pos rfl]
theorem enc_op (v : Int32) : enc 2 v = 10007 + opc v := by unfold enc; rw [if_neg (by decide), if_neg (by decide)]
theorem enc_not : enc 2 260 = 10019 := by decide
theorem l_10000 : (10000 : Int32) = nI 10000 := rfl
theorem l_10007 : (10007 : Int32) = nI 10007 := rfl
theorem enc_o1 {v : Int32} (k1 : isOp v) : (10007 : Int32) + opc v - 10007 = opc v ∧ ¬ (10007 : Int32) + opc v < 10007 ∧ ¬ (10007 : Int32) + opc v = 10019 := by
  rcases k1 with h | h | h | h | h | h | h | h | h | h | h | h <;> rw [h] <;> decide
theorem s_m1 (k : Nat) : nI (k + 1) + -nI 1 = nI k := pk_m1 k
theorem s_m2 (k : Nat) : nI (k + 2) + -nI 2 = nI k := by
  have h : nI (k + 2) - nI 2 = nI k := by rw [g_subN (by omega)]; rfl
  rw [← h, Int32.sub_eq_add_neg]
theorem not_10019 : ¬ (10019 : Int32) < 10007 := by decide
theorem v_push {k j : Nat} (hk : k < 64) (hj : j < 100) (sf : Int32 → Int32 → g_M → Option (Int64 × g_M)) (r : Int32) (w : Int64) (c1 : g_M) : f2_value_b146 F (T + 9) r 55 sf (nI k) (nI j) w c1 = if okL w = true then sf (nI (k + 1)) (nI (j + 1)) (g_sL c1 (T + 13) k w) else some (-9223372036854775808, c1) := by
  unfold f2_value_b146 okL
  simp only [lc_le, lc_lt, Bool.and_eq_true, decide_eq_true_eq]
  by_cases a : w ≤ 1000000000000
  · rw [if_pos a]
    by_cases b : (-1000000000000 : Int64) ≤ w
    · rw [if_neg (Int64.not_lt.mpr b), if_pos ⟨a, b⟩]
      simp (disch := omega) only [g_let, g_bs, g_l0, g_l1, g_l2, g_l3, g_l4, g_l5, g_l6, g_l7, g_l8, g_l9, g_l10, g_l11, g_l12, g_l15, g_l20, g_l24, g_l25, g_l30, g_l40, g_l99, g_l100, g_ckN, g_clN, g_ltN, g_leN, g_eqN, pk_mul, nI_add, if_true, if_false, Nat.reduceLT, Nat.reduceLeDiff, Nat.reduceEqDiff, Nat.lt_irrefl]
    · rw [if_pos (Int64.not_le.mp b), if_neg (fun z => b z.2)]
  · rw [if_neg a, if_neg (fun z => a z.1)]
theorem m_push {k j : Nat} (hk : k < 64) (hj : j < 100) (sf : Int32 → g_M → Option (Int32 × g_M)) (r : Int32) (w : Int64) (m1 : g_M) (ht : m1.1 0 38 = nI k) : f11_goes_b85 F r sf (nI j) (nI k) w m1 = sf (nI (j + 1)) (g_sI (g_sL m1 23 k w) 0 38 (nI (k + 1))) := by
  unfold f11_goes_b85 f11_goes_b96
  simp (disch := omega) only [g_let, g_bs, g_l0, g_l1, g_l2, g_l3, g_l4, g_l5, g_l6, g_l7, g_l8, g_l9, g_l10, g_l11, g_l12, g_l15, g_l20, g_l24, g_l25, g_l30, g_l40, g_l99, g_l100, g_ckN, g_clN, g_ltN, g_leN, g_eqN, pk_mul, nI_add, if_true, if_false, Nat.reduceLT, Nat.reduceLeDiff, Nat.reduceEqDiff, Nat.lt_irrefl, g_sL1, ht]
theorem okL_num {k : Nat} (hk : k ≤ 99999) : okL (nI k).toInt64 = true := by
  unfold okL
  rw [nI_l (by omega)]
  have h1 : lN k ≤ 1000000000000 := by
    rw [show (1000000000000 : Int64) = lN 1000000000000 from rfl, pk_lLE (by omega) (by omega)]; omega
  have h2 : (-1000000000000 : Int64) ≤ lN k := Int64.le_trans (b := 0) (by decide) (by
    rw [show (0 : Int64) = lN 0 from rfl, pk_lLE (by omega) (by omega)]; omega)
  simp [h1, h2]
/-- one knot, on both sides -/
theorem st_num {c1 m1 : g_M} {r e j dj x : Nat} (f1 : c1.1 (T + 9 + 3) r = nI e) (f2 : m1.1 19 r = nI e) (hr : r < 3) (hj2 : j < e) (he : e ≤ 64) (hd : dj < 64) (f3 : c1.1 (T + 9 + 1) j = nI x) (f4 : m1.1 20 j = nI 0) (f5 : m1.1 21 j = nI x) (hx : x ≤ 9999) (h4 : m1.1 0 38 = nI dj) :
    (∀ sf, f2_value_b10_body F (T + 9) (nI r) 55 sf (nI dj) (nI j) c1 = f2_value_b146 F (T + 9) (nI r) 55 sf (nI dj) (nI j) (nI x).toInt64 c1) ∧ (∀ sf, f11_goes_b12_body F (nI r) sf (nI j) m1 = f11_goes_b85 F (nI r) sf (nI j) (nI dj) (nI x).toInt64 m1) := by
  have l1 : nI x < 10007 := by rw [l_10007, g_ltN (by omega) (by omega)]; omega
  have l2 : nI x < 10000 := by rw [l_10000, g_ltN (by omega) (by omega)]; omega
  have g2 : ¬ nI 0 = nI 2 := by decide
  refine ⟨fun sf => ?_, fun sf => ?_⟩
  · simp (disch := omega) only [g_let, g_bs, g_l0, g_l1, g_l2, g_l3, g_l4, g_l5, g_l6, g_l7, g_l8, g_l9, g_l10, g_l11, g_l12, g_l15, g_l20, g_l24, g_l25, g_l30, g_l40, g_l99, g_l100, g_ckN, g_clN, g_ltN, g_leN, g_eqN, pk_mul, nI_add, if_true, if_false, Nat.reduceLT, Nat.reduceLeDiff, Nat.reduceEqDiff, Nat.lt_irrefl, f2_value_b10_body, f2_value_b60, f1, hj2, f3, l1, l2]
  · simp (disch := omega) only [g_let, g_bs, g_l0, g_l1, g_l2, g_l3, g_l4, g_l5, g_l6, g_l7, g_l8, g_l9, g_l10, g_l11, g_l12, g_l15, g_l20, g_l24, g_l25, g_l30, g_l40, g_l99, g_l100, g_ckN, g_clN, g_ltN, g_leN, g_eqN, pk_mul, nI_add, if_true, if_false, Nat.reduceLT, Nat.reduceLeDiff, Nat.reduceEqDiff, Nat.lt_irrefl, f11_goes_b12_body, f2, hj2, f4, f5, h4, g2]
theorem st_name {c1 m1 : g_M} {r e j dj x : Nat} {y : Int32} (f1 : c1.1 (T + 9 + 3) r = nI e) (f2 : m1.1 19 r = nI e) (hr : r < 3) (hj2 : j < e) (he : e ≤ 64) (hd : dj < 64) (f3 : c1.1 (T + 9 + 1) j = y) (l1 : y < 10007) (l2 : ¬ y < 10000) (l3 : y - 10000 = nI x) (f4 : m1.1 20 j = nI 1) (f5 : m1.1 21 j = nI x) (hx : x ≤ 6) (h4 : m1.1 0 38 = nI dj) (f7 : c1.2.1 55 x = m1.2.1 22 x) :
    (∀ sf, f2_value_b10_body F (T + 9) (nI r) 55 sf (nI dj) (nI j) c1 = f2_value_b146 F (T + 9) (nI r) 55 sf (nI dj) (nI j) (m1.2.1 22 x) c1) ∧ (∀ sf, f11_goes_b12_body F (nI r) sf (nI j) m1 = f11_goes_b85 F (nI r) sf (nI j) (nI dj) (m1.2.1 22 x) m1) := by
  have g2 : ¬ nI 1 = nI 2 := by decide
  have g3 : ¬ nI 1 = nI 0 := by decide
  have e55 : (yC.1 55).2 = 7 := rfl
  refine ⟨fun sf => ?_, fun sf => ?_⟩
  · simp (disch := omega) only [g_let, g_bs, g_l0, g_l1, g_l2, g_l3, g_l4, g_l5, g_l6, g_l7, g_l8, g_l9, g_l10, g_l11, g_l12, g_l15, g_l20, g_l24, g_l25, g_l30, g_l40, g_l99, g_l100, g_ckN, g_clN, g_ltN, g_leN, g_eqN, pk_mul, nI_add, if_true, if_false, Nat.reduceLT, Nat.reduceLeDiff, Nat.reduceEqDiff, Nat.lt_irrefl, f2_value_b10_body, f2_value_b60, f1, hj2, f3, l1, l2, l3, e55, f7]
  · simp (disch := omega) only [g_let, g_bs, g_l0, g_l1, g_l2, g_l3, g_l4, g_l5, g_l6, g_l7, g_l8, g_l9, g_l10, g_l11, g_l12, g_l15, g_l20, g_l24, g_l25, g_l30, g_l40, g_l99, g_l100, g_ckN, g_clN, g_ltN, g_leN, g_eqN, pk_mul, nI_add, if_true, if_false, Nat.reduceLT, Nat.reduceLeDiff, Nat.reduceEqDiff, Nat.lt_irrefl, f11_goes_b12_body, f2, hj2, f4, f5, h4, g2, g3]
theorem okL_1 : okL 1 = true := by decide
theorem okL_0 : okL 0 = true := by decide
theorem okL_b (p : Bool) : okL (bL p) = true := by cases p <;> decide
theorem name_enc {x : Nat} (hx : x ≤ 6) : (10000 : Int32) + nI x < 10007 ∧ ¬ (10000 : Int32) + nI x < 10000 ∧ (10000 : Int32) + nI x - 10000 = nI x := by
  rcases (show x = 0 ∨ x = 1 ∨ x = 2 ∨ x = 3 ∨ x = 4 ∨ x = 5 ∨ x = 6 by omega) with rfl | rfl | rfl | rfl | rfl | rfl | rfl <;> decide
theorem v_96 {t k : Nat} {a1 v4 : Int32} {a2 : Nat} {sf : Int32 → Int32 → g_M → Option (Int64 × g_M)} {w : Int64} {c1 : g_M} : f2_value_b96 F t a1 a2 sf (nI (k + 1)) v4 w c1 = f2_value_b146 F t a1 a2 sf (nI k) v4 w c1 := by
  unfold f2_value_b96 g_let
  rw [pk_m1]
theorem st_notC {c1 m1 : g_M} {r e j k : Nat} (f1 : c1.1 (T + 9 + 3) r = nI e) (hr : r < 3) (hj2 : j < e) (he : e ≤ 64) (hd : k < 63) {y : Int32} (l1 : ¬ y < 10007) (l0 : (y = 10019) = True) (f3 : c1.1 (T + 9 + 1) j = y) (f8 : c1.2.1 (T + 9 + 4) k = m1.2.1 23 k) (sf : Int32 → Int32 → g_M → Option (Int64 × g_M)) :
    f2_value_b10_body F (T + 9) (nI r) 55 sf (nI (k + 1)) (nI j) c1 = sf (nI (k + 1)) (nI (j + 1)) (g_sL c1 (T + 13) k (bL (decide (m1.2.1 23 k = 0)))) := by
  have s1 : nI (k + 1) - nI 1 = nI k := by rw [g_subN (by omega)]; rfl
  have s2 := s_m1 k
  have l2 : nI 1 ≤ nI (k + 1) := by rw [g_leN (by omega) (by omega)]; omega
  simp (disch := omega) only [g_let, g_bs, g_l0, g_l1, g_l2, g_l3, g_l4, g_l5, g_l6, g_l7, g_l8, g_l9, g_l10, g_l11, g_l12, g_l15, g_l20, g_l24, g_l25, g_l30, g_l40, g_l99, g_l100, g_ckN, g_clN, g_ltN, g_leN, g_eqN, pk_mul, nI_add, if_true, if_false, Nat.reduceLT, Nat.reduceLeDiff, Nat.reduceEqDiff, Nat.lt_irrefl, f2_value_b10_body, f1, hj2, f3, l0, l1, l2, s1, f8, lc_eq, lc_eqN]
  rw [v_96, v_96]
  by_cases a : m1.2.1 23 k = 0
  · rw [if_pos a, v_push (by omega) (by omega), if_pos okL_1]
    simp only [a, bL, decide_true, if_true]
  · rw [if_neg a, v_push (by omega) (by omega), if_pos okL_0]
    simp only [a, bL, decide_false, if_false, Bool.false_eq_true]
theorem works_not {m1 : g_M} {k : Nat} (hd : k < 63) (h4 : m1.1 0 38 = nI (k + 1)) : f11_works F 260 m1 = some (nI 1, g_sL m1 23 k (bL (decide (m1.2.1 23 k = 0)))) := by
  have s1 : nI (k + 1) - nI 1 = nI k := by rw [g_subN (by omega)]; rfl
  have g2 : m1.1 0 38 - (1 : Int32) = nI k := by rw [h4]; exact s1
  unfold f11_works
  rw [g2, g_ckN (by omega) (by omega), g_clN (by omega)]
  generalize m1.2.1 23 k = w
  unfold g_let
  show (if (260 : Int32) = 260 then _ else _) = _
  rw [if_pos rfl]
  simp only [lc_eq, f11_works_b40, f11_is, g_ckN (show k < 64 by omega) (show 64 < 2147483648 by omega), g_clN (show k < 2147483648 by omega)]
  by_cases a : w = 0
  · subst a; rfl
  · simp only [a, if_false, bL, decide_false, Bool.false_eq_true]; rfl
theorem st_notM {m1 : g_M} {r e j k : Nat} (f2 : m1.1 19 r = nI e) (hr : r < 3) (hj2 : j < e) (he : e ≤ 64) (hd : k < 63) (f4 : m1.1 20 j = nI 2) (f5 : m1.1 21 j = 260) (h4 : m1.1 0 38 = nI (k + 1)) (sf : Int32 → g_M → Option (Int32 × g_M)) :
    f11_goes_b12_body F (nI r) sf (nI j) m1 = sf (nI (j + 1)) (g_sL m1 23 k (bL (decide (m1.2.1 23 k = 0)))) := by
  have h := works_not (F := F) hd h4
  have g3 : ¬ nI 1 = nI 0 := by decide
  simp (disch := omega) only [g_let, g_bs, g_l0, g_l1, g_l2, g_l3, g_l4, g_l5, g_l6, g_l7, g_l8, g_l9, g_l10, g_l11, g_l12, g_l15, g_l20, g_l24, g_l25, g_l30, g_l40, g_l99, g_l100, g_ckN, g_clN, g_ltN, g_leN, g_eqN, pk_mul, nI_add, if_true, if_false, Nat.reduceLT, Nat.reduceLeDiff, Nat.reduceEqDiff, Nat.lt_irrefl, f11_goes_b12_body, f11_goes_b96, f2, hj2, f4, f5, h, g3]
theorem st_op {c1 m0 m1 : g_M} {r e j k : Nat} {v : Int32} (hfm : frM m0 m1) (f1 : c1.1 (T + 9 + 3) r = nI e) (f2 : m1.1 19 r = nI e) (hr : r < 3) (hj2 : j < e) (he : e ≤ 64) (hd : k < 62) (hv : isOp v) (f3 : c1.1 (T + 9 + 1) j = 10007 + opc v) (f4 : m1.1 20 j = nI 2) (f5 : m1.1 21 j = v) (h4 : m1.1 0 38 = nI (k + 2)) (f9 : c1.2.1 (T + 9 + 4) k = m1.2.1 23 k) (f10 : c1.2.1 (T + 9 + 4) (k + 1) = m1.2.1 23 (k + 1)) :
    ∃ w m2, (∀ sf, f2_value_b10_body F (T + 9) (nI r) 55 sf (nI (k + 2)) (nI j) c1 = f2_value_b146 F (T + 9) (nI r) 55 sf (nI k) (nI j) w c1) ∧ (∀ sf, f11_goes_b12_body F (nI r) sf (nI j) m1 = if okL w = true then sf (nI (j + 1)) m2 else some (nI 0, m2)) ∧ frM m0 m2 ∧ m2.1 0 38 = nI (k + 1) ∧ (okL w = true → m2.2.1 23 = vp_updL (m1.2.1 23) k w) := by
  obtain ⟨m2, w1, w2, w3, w4⟩ := r_works F hv hfm (d := k) (by omega) h4
  have g3 := q_worked F hv (m1.2.1 23 k) (m1.2.1 23 (k + 1)) c1
  generalize cw v (m1.2.1 23 k) (m1.2.1 23 (k + 1)) = w at *
  obtain ⟨g2, l1, l2⟩ := enc_o1 hv
  have s1 : nI (k + 2) - nI 1 = nI (k + 1) := by rw [g_subN (by omega)]; rfl
  have s2 : nI (k + 2) - nI 2 = nI k := by rw [g_subN (by omega)]; rfl
  have s3 := s_m2 k
  have l3 : nI 2 ≤ nI (k + 2) := by rw [g_leN (by omega) (by omega)]; omega
  refine ⟨w, m2, fun sf => ?_, fun sf => ?_, w2, w3, w4⟩
  · simp (disch := omega) only [g_let, g_bs, g_l0, g_l1, g_l2, g_l3, g_l4, g_l5, g_l6, g_l7, g_l8, g_l9, g_l10, g_l11, g_l12, g_l15, g_l20, g_l24, g_l25, g_l30, g_l40, g_l99, g_l100, g_ckN, g_clN, g_ltN, g_leN, g_eqN, pk_mul, nI_add, if_true, if_false, Nat.reduceLT, Nat.reduceLeDiff, Nat.reduceEqDiff, Nat.lt_irrefl, f2_value_b10_body, f2_value_b104, f1, hj2, f3, l1, l2, l3, s1, s2, s3, f9, f10, g2, g3]
  · simp (disch := omega) only [g_let, g_bs, g_l0, g_l1, g_l2, g_l3, g_l4, g_l5, g_l6, g_l7, g_l8, g_l9, g_l10, g_l11, g_l12, g_l15, g_l20, g_l24, g_l25, g_l30, g_l40, g_l99, g_l100, g_ckN, g_clN, g_ltN, g_leN, g_eqN, pk_mul, nI_add, if_true, if_false, Nat.reduceLT, Nat.reduceLeDiff, Nat.reduceEqDiff, Nat.lt_irrefl, f11_goes_b12_body, f11_goes_b96, f2, hj2, f4, f5, w1]
    by_cases a : okL w = true
    · simp only [a, if_true]; rw [if_neg (by decide)]
    · simp only [a, if_false, if_true]
      rfl
theorem law_eval (hF : 5000 < F) (hW : WT m) (hR : RT c m T) {r : Nat} (hr : r < 3) (hlaw : vl m 18 r < vl m 19 r) (hn : ∀ k, k < 7 → c.2.1 55 k = m.2.1 22 k ∧ okL (m.2.1 22 k) = true) (hT : isT T) :
    ∃ c' m' v ok, f2_value F (T + 9) (nI r) 55 c = some (v, c') ∧ f11_goes F (nI r) m = some (ok, m') ∧ frC c c' T ∧ frM m m' ∧ ((ok = nI 0 ∧ v = -9223372036854775808) ∨ (ok = nI 1 ∧ v = m'.2.1 23 0 ∧ okL v = true)) := by
  obtain ⟨⟨⟨vP, bP⟩, ⟨vS, bS⟩, ⟨vD, bD⟩, ⟨vN, bN⟩, ⟨vW, bW⟩, ⟨vRoom, bRoom⟩, bRoom1, ⟨vStorm, bStorm⟩, ⟨vSeed, bSeed⟩, ⟨vK, bK⟩⟩, wPence, wSort, wDeed, wSend, wWant, wLaw⟩ := id hW
  obtain ⟨rCnt, rMan, rSort, rDeed, ⟨rT6, rT8, rT10, rT11, rT12, rT93⟩, rSent, rWanted, rLaw, rCode⟩ := id hR
  obtain ⟨⟨vb, bb⟩, ⟨ve, be⟩, hbe, hek, hwf⟩ := wLaw r hr
  obtain ⟨d, d0, d1, hd⟩ := hwf hlaw
  have hdle : ∀ i, vl m 18 r ≤ i → i ≤ vl m 19 r → d i ≤ i - vl m 18 r := by
    intro i h1 h2
    rcases Nat.lt_or_ge i (vl m 19 r) with h3 | h3
    · exact (hd i h1 h3).1
    · have : i = vl m 19 r := by omega
      subst this
      rw [d1]; omega
  have e11 : c.1 (T + 9 + 2) r = m.1 18 r := (rLaw r hr).1
  have e12 : c.1 (T + 9 + 3) r = m.1 19 r := (rLaw r hr).2
  have e55 : (yC.1 55).2 = 7 := rfl
  have e5513 : (55 : Nat) ≠ T + 13 := by rcases hT with rfl | rfl <;> omega
  unfold f2_value f11_goes f2_value_b10 f11_goes_b12
  have em : (g_sI m 0 38 (nI 0)).1 18 r = m.1 18 r := by simp [g_sI1]
  simp (disch := omega) only [g_let, g_bs, g_l0, g_l1, g_l2, g_l3, g_l4, g_l5, g_l6, g_l7, g_l8, g_l9, g_l10, g_l11, g_l12, g_l15, g_l20, g_l24, g_l25, g_l30, g_l40, g_l99, g_l100, g_ckN, g_clN, g_ltN, g_leN, g_eqN, pk_mul, nI_add, if_true, if_false, Nat.reduceLT, Nat.reduceLeDiff, Nat.reduceEqDiff, Nat.lt_irrefl, e11, em, vb]
  generalize hb : vl m 18 r = b at *
  generalize he : vl m 19 r = e at *
  have main := g_for2x
    (b := fun sf x => f2_value_b10_body F (T + 9) (nI r) 55 (fun v3 v4 mem => sf (v3, v4, mem)) x.1 x.2.1 x.2.2)
    (b' := fun sf x => f11_goes_b12_body F (nI r) (fun v2 mem => sf (v2, mem)) x.1 x.2)
    (fun i s t => s.1 = nI (d (b + i)) ∧ s.2.1 = nI (b + i) ∧ t.1 = nI (b + i) ∧ frC c s.2.2 T ∧ frM m t.2 ∧ t.2.1 0 38 = nI (d (b + i)) ∧ ∀ k, k < d (b + i) → s.2.2.2.1 (T + 13) k = t.2.2.1 23 k ∧ okL (t.2.2.1 23 k) = true)
    (e - b)
    (fun x y => ∃ c' m' v ok, x = some (v, c') ∧ y = some (ok, m') ∧ frC c c' T ∧ frM m m' ∧ ((ok = nI 0 ∧ v = -9223372036854775808) ∨ (ok = nI 1 ∧ v = m'.2.1 23 0 ∧ okL v = true)))
    ?step ?fin (s := (nI 0, nI b, c)) (t := (nI b, g_sI m 0 38 (nI 0))) ?init (F := F) (by omega)
  case init =>
    refine ⟨by rw [Nat.add_zero, d0], rfl, rfl, ⟨rfl, rfl, fun _ _ => rfl⟩, frM.sI ⟨fun _ _ _ => rfl, rfl, fun _ _ => rfl⟩ _, by rw [Nat.add_zero, d0]; simp [g_sI1], fun k hk => ?_⟩
    rw [Nat.add_zero, d0] at hk
    omega
  case fin =>
    rintro ⟨s1, s2, c1⟩ ⟨t1, m1⟩ ⟨h1, h2, h3, hfc, hfm, h4, h5⟩
    simp only at h1 h2 h3 hfc hfm h4 h5 ⊢
    have hbe' : b + (e - b) = e := by omega
    rw [hbe'] at h1 h2 h3 h4 h5
    rw [d1] at h1 h4 h5
    subst h1; subst h2; subst h3
    have f1 : c1.1 (T + 9 + 3) r = nI e := by rw [hfc.1, e12, ve]
    have f2 : m1.1 19 r = nI e := by rw [hfm.1 _ _ (by omega), ve]
    have f3 := h5 0 (by omega)
    refine ⟨some (c1.2.1 (T + 13) 0, c1), some (nI 1, m1), ⟨c1, m1, _, _, rfl, rfl, hfc, hfm, Or.inr ⟨rfl, f3.1, by rw [f3.1]; exact f3.2⟩⟩, fun sf => ?_, fun sf => ?_⟩
    · simp (disch := omega) only [g_let, g_bs, g_l0, g_l1, g_l2, g_l3, g_l4, g_l5, g_l6, g_l7, g_l8, g_l9, g_l10, g_l11, g_l12, g_l15, g_l20, g_l24, g_l25, g_l30, g_l40, g_l99, g_l100, g_ckN, g_clN, g_ltN, g_leN, g_eqN, pk_mul, nI_add, if_true, if_false, Nat.reduceLT, Nat.reduceLeDiff, Nat.reduceEqDiff, Nat.lt_irrefl, f2_value_b10_body, f1]
    · simp (disch := omega) only [g_let, g_bs, g_l0, g_l1, g_l2, g_l3, g_l4, g_l5, g_l6, g_l7, g_l8, g_l9, g_l10, g_l11, g_l12, g_l15, g_l20, g_l24, g_l25, g_l30, g_l40, g_l99, g_l100, g_ckN, g_clN, g_ltN, g_leN, g_eqN, pk_mul, nI_add, if_true, if_false, Nat.reduceLT, Nat.reduceLeDiff, Nat.reduceEqDiff, Nat.lt_irrefl, f11_goes_b12_body, f2]
  case step =>
    rintro i ⟨s1, s2, c1⟩ ⟨t1, m1⟩ hi ⟨h1, h2, h3, hfc, hfm, h4, h5⟩
    simp only at h1 h2 h3 hfc hfm h4 h5 ⊢
    subst h1; subst h2; subst h3
    have hj1 : b ≤ b + i := by omega
    have hj2 : b + i < e := by omega
    have hdl := hdle (b + i) hj1 (by omega)
    have hdn := hd (b + i) hj1 hj2
    have ha : b + i + 1 = b + (i + 1) := by omega
    rw [ha] at hdn
    generalize hj : b + i = j at *
    have f1 : c1.1 (T + 9 + 3) r = nI e := by rw [hfc.1, e12, ve]
    have f2 : m1.1 19 r = nI e := by rw [hfm.1 _ _ (by omega), ve]
    have f3 : c1.1 (T + 9 + 1) j = enc (m.1 20 j) (m.1 21 j) := by rw [hfc.1]; exact rCode j (by omega)
    have f4 : m1.1 20 j = m.1 20 j := hfm.1 _ _ (by omega)
    have f5 : m1.1 21 j = m.1 21 j := hfm.1 _ _ (by omega)
    have f6 : ∀ k, k < 7 → c1.2.1 55 k = m1.2.1 22 k ∧ okL (m1.2.1 22 k) = true := by
      intro k hk
      rw [hfc.2.2 55 e5513, hfm.2.2 22 (by decide)]
      exact hn k hk
    -- what both do with a value w that is put at place k, in memories that agree below k
    have push : ∀ (k : Nat) (w : Int64) (c2 m2 : g_M), k < 64 → okL w = true → frC c c2 T → frM m m2 → m2.1 0 38 = nI (k + 1) → c2.2.1 (T + 13) = vp_updL (c1.2.1 (T + 13)) k w → m2.2.1 23 = vp_updL (m1.2.1 23) k w → k ≤ d j → d (b + (i + 1)) = k + 1 →
        (nI (k + 1) = nI (d (b + (i + 1))) ∧ nI (j + 1) = nI (b + (i + 1)) ∧ nI (j + 1) = nI (b + (i + 1)) ∧ frC c c2 T ∧ frM m m2 ∧ m2.1 0 38 = nI (d (b + (i + 1))) ∧ ∀ q, q < d (b + (i + 1)) → c2.2.1 (T + 13) q = m2.2.1 23 q ∧ okL (m2.2.1 23 q) = true) := by
      intro k w c2 m2 hk hw hf1 hf2 ht hc2 hm2 hkd hdk
      have hjj : nI (j + 1) = nI (b + (i + 1)) := by rw [← hj]; rfl
      refine ⟨by rw [hdk], hjj, hjj, hf1, hf2, by rw [hdk]; exact ht, fun q hq => ?_⟩
      rw [hc2, hm2]
      unfold vp_updL
      by_cases hqk : q = k
      · rw [if_pos hqk, if_pos hqk]; exact ⟨rfl, hw⟩
      · rw [if_neg hqk, if_neg hqk]; exact h5 q (by omega)
    have updC : ∀ (k : Nat) (w : Int64), (g_sL c1 (T + 13) k w).2.1 (T + 13) = vp_updL (c1.2.1 (T + 13)) k w := by
      intro k w; funext q; simp [g_sL21, vp_updL]
    have updM : ∀ (k : Nat) (w : Int64) (v : Int32), (g_sI (g_sL m1 23 k w) 0 38 v).2.1 23 = vp_updL (m1.2.1 23) k w := by
      intro k w v; funext q; show (g_sL m1 23 k w).2.1 23 q = _; simp [g_sL21, vp_updL]
    -- a leaf
    have leaf : ∀ w : Int64, okL w = true → d (b + (i + 1)) = d j + 1 → (∀ sf, f2_value_b10_body F (T + 9) (nI r) 55 sf (nI (d j)) (nI j) c1 = f2_value_b146 F (T + 9) (nI r) 55 sf (nI (d j)) (nI j) w c1) → (∀ sf, f11_goes_b12_body F (nI r) sf (nI j) m1 = f11_goes_b85 F (nI r) sf (nI j) (nI (d j)) w m1) → ∃ (s' : Int32 × Int32 × g_M) (t' : Int32 × g_M), (s'.1 = nI (d (b + (i + 1))) ∧ s'.2.1 = nI (b + (i + 1)) ∧ t'.1 = nI (b + (i + 1)) ∧ frC c s'.2.2 T ∧ frM m t'.2 ∧ t'.2.1 0 38 = nI (d (b + (i + 1))) ∧ ∀ k, k < d (b + (i + 1)) → s'.2.2.2.1 (T + 13) k = t'.2.2.1 23 k ∧ okL (t'.2.2.1 23 k) = true) ∧ (∀ sf : Int32 × Int32 × g_M → Option (Int64 × g_M), f2_value_b10_body F (T + 9) (nI r) 55 (fun v3 v4 mem => sf (v3, v4, mem)) (nI (d j)) (nI j) c1 = sf s') ∧ ∀ sf : Int32 × g_M → Option (Int32 × g_M), f11_goes_b12_body F (nI r) (fun v2 mem => sf (v2, mem)) (nI j) m1 = sf t' := by
      intro w hw hdk hL hM
      refine ⟨(nI (d j + 1), nI (j + 1), g_sL c1 (T + 13) (d j) w), (nI (j + 1), g_sI (g_sL m1 23 (d j) w) 0 38 (nI (d j + 1))), push (d j) w _ _ (by omega) hw (hfc.sL _ _) ((hfm.sL _ _).sI _) (by simp [g_sI1]) (updC _ _) (updM _ _ _) (by omega) hdk, fun sf => ?_, fun sf => ?_⟩
      · rw [hL, v_push (by omega) (by omega), if_pos hw]
      · rw [hM, m_push (by omega) (by omega) _ _ _ _ h4]
    rcases hdn.2 with ⟨k0, ⟨kv, kb⟩, kd⟩ | ⟨k0, ⟨kv, kb⟩, kd⟩ | ⟨k0, k1, k2, kd⟩ | ⟨k0, k1, k2, kd⟩
    · -- a number
      left
      obtain ⟨hL, hM⟩ := st_num (F := F) f1 f2 hr hj2 (by omega) (by omega : d j < 64) (by rw [f3, k0, enc_num]; exact kv) (by rw [f4]; exact k0) (by rw [f5]; exact kv) kb h4
      exact leaf _ (okL_num (by omega)) kd hL hM
    · -- a name
      left
      obtain ⟨l1, l2, l3⟩ := name_enc kb
      have f7 := f6 (vl m 21 j) (by omega)
      obtain ⟨hL, hM⟩ := st_name (F := F) f1 f2 hr hj2 (by omega) (by omega : d j < 64) (by rw [f3, k0, enc_name, kv]) l1 l2 l3 (by rw [f4]; exact k0) (by rw [f5]; exact kv) kb h4 f7.1
      exact leaf _ f7.2 kd hL hM
    · -- not
      left
      obtain ⟨k, hk⟩ : ∃ k, d j = k + 1 := ⟨d j - 1, by omega⟩
      have f7 := h5 k (by omega)
      rw [hk] at h4 kd
      have hL := st_notC (F := F) (m1 := m1) f1 hr hj2 (by omega) (by omega : k < 63) not_10019 (eq_true rfl) (by rw [f3, k0, k1]; exact enc_not) f7.1
      have hM := st_notM (F := F) f2 hr hj2 (by omega) (by omega : k < 63) (by rw [f4]; exact k0) (by rw [f5]; exact k1) h4
      rw [hk]
      refine ⟨(nI (k + 1), nI (j + 1), g_sL c1 (T + 13) k (bL (decide (m1.2.1 23 k = 0)))), (nI (j + 1), g_sL m1 23 k (bL (decide (m1.2.1 23 k = 0)))), push k _ _ _ (by omega) (okL_b _) (hfc.sL _ _) (hfm.sL _ _) h4 (updC _ _) (by funext q; simp [g_sL21, vp_updL]) (by omega) kd, fun sf => ?_, fun sf => ?_⟩
      · rw [hL]
      · rw [hM]
    · -- an operator
      obtain ⟨k, hk⟩ : ∃ k, d j = k + 2 := ⟨d j - 2, by omega⟩
      rw [hk] at h4 kd
      have f7 := h5 k (by omega)
      have f8 := h5 (k + 1) (by omega)
      obtain ⟨w, m2, eC, eM, w2, w3, w4⟩ := st_op (F := F) hfm f1 f2 hr hj2 (by omega) (by omega : k < 62) k1 (by rw [f3, k0]; exact enc_op _) (by rw [f4]; exact k0) f5 h4 f7.1 f8.1
      rw [hk]
      by_cases a : okL w = true
      · left
        refine ⟨(nI (k + 1), nI (j + 1), g_sL c1 (T + 13) k w), (nI (j + 1), m2), push k w _ _ (by omega) a (hfc.sL _ _) w2 w3 (updC _ _) (w4 a) (by omega) (by omega), fun sf => ?_, fun sf => ?_⟩
        · rw [eC, v_push (by omega) (by omega), if_pos a]
        · rw [eM, if_pos a]
      · right
        refine ⟨some (-9223372036854775808, c1), some (nI 0, m2), ⟨c1, m2, _, _, rfl, rfl, hfc, w2, Or.inl ⟨rfl, rfl⟩⟩, fun sf => ?_, fun sf => ?_⟩
        · rw [eC, v_push (by omega) (by omega), if_neg a]
        · rw [eM, if_neg a]
  exact main
end L2
