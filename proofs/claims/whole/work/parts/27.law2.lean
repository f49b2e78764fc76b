/-! a law's whole row -/
section L2
variable {F : Nat} {c m : g_M} {T : Nat}
theorem v_push {k j : Nat} (hk : k < 64) (hj : j < 100) (sf : Int32 → Int32 → g_M → Option (Int64 × g_M)) (r : Int32) (w : Int64) (c1 : g_M) : f2_value_b146 F (T + 9) r 55 sf (nI k) (nI j) w c1 = if okL w = true then sf (nI (k + 1)) (nI (j + 1)) (g_sL c1 (T + 13) k w) else some (-9223372036854775808, c1) := by
  unfold f2_value_b146 okL
  simp only [lc_le, lc_lt, Bool.and_eq_true, decide_eq_true_eq]
  by_cases a : w ≤ 1000000000000
  · rw [if_pos a]
    by_cases b : (-1000000000000 : Int64) ≤ w
    · rw [if_neg (Int64.not_lt.mpr b), if_pos ⟨a, b⟩]
      simp (disch := omega) only [g_let, g_bs, g_l0, g_l1, g_l2, g_l3, g_l4, g_l5, g_l6, g_l7, g_l8, g_l9, g_l10, g_l11, g_l12, g_l15, g_l20, g_l24, g_l25, g_l30, g_l40, g_l99, g_l100, g_ckN, g_clN, g_ltN, g_leN, g_eqN, pk_mul, nI_add, if_true, if_false, Nat.reduceLT, Nat.reduceLeDiff, Nat.reduceEqDiff, Nat.lt_irrefl]
    · rw [if_pos (Int64.not_le.mp b), if_neg (fun z => b z.2)]
  · rw [if_neg a, if_neg (fun z => a z.1)]
theorem m_push {k j : Nat} (hk : k < 64) (hj : j < 100) (sf : Int32 → g_M → Option (Int32 × g_M)) (r : Int32) (w : Int64) (m1 : g_M) (ht : m1.1 0 38 = nI k) : f11_goes_b85 F r sf (nI j) (nI k) w m1 = sf (nI (j + 1)) (g_sI (g_sL m1 23 k w) 0 38 (nI (k + 1))) := by
  unfold f11_goes_b85 f11_goes_b96
  simp (disch := omega) only [g_let, g_bs, g_l0, g_l1, g_l2, g_l3, g_l4, g_l5, g_l6, g_l7, g_l8, g_l9, g_l10, g_l11, g_l12, g_l15, g_l20, g_l24, g_l25, g_l30, g_l40, g_l99, g_l100, g_ckN, g_clN, g_ltN, g_leN, g_eqN, pk_mul, nI_add, if_true, if_false, Nat.reduceLT, Nat.reduceLeDiff, Nat.reduceEqDiff, Nat.lt_irrefl, g_sL1, ht]
theorem okL_num {k : Nat} (hk : k ≤ 99999) : okL (nI k).toInt64 = true := by
  unfold okL
  rw [nI_l (by omega)]
  have h1 : lN k ≤ 1000000000000 := by
    rw [show (1000000000000 : Int64) = lN 1000000000000 from rfl, pk_lLE (by omega) (by omega)]; omega
  have h2 : (-1000000000000 : Int64) ≤ lN k := Int64.le_trans (b := 0) (by decide) (by
    rw [show (0 : Int64) = lN 0 from rfl, pk_lLE (by omega) (by omega)]; omega)
  simp [h1, h2]
theorem law_eval (hF : 5000 < F) (hW : WT m) (hR : RT c m T) {r : Nat} (hr : r < 3) (hlaw : vl m 18 r < vl m 19 r) (hn : ∀ k, k < 7 → c.2.1 55 k = m.2.1 22 k ∧ okL (m.2.1 22 k) = true) (hT : isT T) :
    ∃ c' m' v ok, f2_value F (T + 9) (nI r) 55 c = some (v, c') ∧ f11_goes F (nI r) m = some (ok, m') ∧ frC c c' T ∧ frM m m' ∧ ((ok = nI 0 ∧ v = -9223372036854775808) ∨ (ok = nI 1 ∧ v = m'.2.1 23 0 ∧ okL v = true)) := by
  obtain ⟨⟨⟨vP, bP⟩, ⟨vS, bS⟩, ⟨vD, bD⟩, ⟨vN, bN⟩, ⟨vW, bW⟩, ⟨vRoom, bRoom⟩, bRoom1, ⟨vStorm, bStorm⟩, ⟨vSeed, bSeed⟩, ⟨vK, bK⟩⟩, wPence, wSort, wDeed, wSend, wWant, wLaw⟩ := id hW
  obtain ⟨rCnt, rMan, rSort, rDeed, ⟨rT6, rT8, rT10, rT11, rT12, rT93⟩, rSent, rWanted, rLaw, rCode⟩ := id hR
  obtain ⟨⟨vb, bb⟩, ⟨ve, be⟩, hbe, hek, hwf⟩ := wLaw r hr
  obtain ⟨d, d0, d1, hd⟩ := hwf hlaw
  have hdle : ∀ i, vl m 18 r ≤ i → i ≤ vl m 19 r → d i ≤ i - vl m 18 r := by
    intro i h1 h2
    rcases Nat.lt_or_ge i (vl m 19 r) with h3 | h3
    · exact (hd i h1 h3).1
    · have : i = vl m 19 r := by omega
      subst this
      rw [d1]; omega
  have e11 : c.1 (T + 9 + 2) r = m.1 18 r := (rLaw r hr).1
  have e12 : c.1 (T + 9 + 3) r = m.1 19 r := (rLaw r hr).2
  have e55 : (yC.1 55).2 = 7 := rfl
  have e5513 : (55 : Nat) ≠ T + 13 := by rcases hT with rfl | rfl <;> omega
  unfold f2_value f11_goes f2_value_b10 f11_goes_b12
  have em : (g_sI m 0 38 (nI 0)).1 18 r = m.1 18 r := by simp [g_sI1]
  simp (disch := omega) only [g_let, g_bs, g_l0, g_l1, g_l2, g_l3, g_l4, g_l5, g_l6, g_l7, g_l8, g_l9, g_l10, g_l11, g_l12, g_l15, g_l20, g_l24, g_l25, g_l30, g_l40, g_l99, g_l100, g_ckN, g_clN, g_ltN, g_leN, g_eqN, pk_mul, nI_add, if_true, if_false, Nat.reduceLT, Nat.reduceLeDiff, Nat.reduceEqDiff, Nat.lt_irrefl, e11, em, vb]
  generalize hb : vl m 18 r = b at *
  generalize he : vl m 19 r = e at *
  have main := g_for2x
    (b := fun sf x => f2_value_b10_body F (T + 9) (nI r) 55 (fun v3 v4 mem => sf (v3, v4, mem)) x.1 x.2.1 x.2.2)
    (b' := fun sf x => f11_goes_b12_body F (nI r) (fun v2 mem => sf (v2, mem)) x.1 x.2)
    (fun i s t => s.1 = nI (d (b + i)) ∧ s.2.1 = nI (b + i) ∧ t.1 = nI (b + i) ∧ frC c s.2.2 T ∧ frM m t.2 ∧ t.2.1 0 38 = nI (d (b + i)) ∧ ∀ k, k < d (b + i) → s.2.2.2.1 (T + 13) k = t.2.2.1 23 k ∧ okL (t.2.2.1 23 k) = true)
    (e - b)
    (fun x y => ∃ c' m' v ok, x = some (v, c') ∧ y = some (ok, m') ∧ frC c c' T ∧ frM m m' ∧ ((ok = nI 0 ∧ v = -9223372036854775808) ∨ (ok = nI 1 ∧ v = m'.2.1 23 0 ∧ okL v = true)))
    ?step ?fin (s := (nI 0, nI b, c)) (t := (nI b, g_sI m 0 38 (nI 0))) ?init (F := F) (by omega)
  case init =>
    refine ⟨by rw [Nat.add_zero, d0], rfl, rfl, ⟨rfl, rfl, fun _ _ => rfl⟩, frM.sI ⟨fun _ _ _ => rfl, rfl, fun _ _ => rfl⟩ _, by rw [Nat.add_zero, d0]; simp [g_sI1], fun k hk => ?_⟩
    rw [Nat.add_zero, d0] at hk
    omega
  case fin =>
    rintro ⟨s1, s2, c1⟩ ⟨t1, m1⟩ ⟨h1, h2, h3, hfc, hfm, h4, h5⟩
    simp only at h1 h2 h3 hfc hfm h4 h5 ⊢
    have hbe' : b + (e - b) = e := by omega
    rw [hbe'] at h1 h2 h3 h4 h5
    rw [d1] at h1 h4 h5
    subst h1; subst h2; subst h3
    have f1 : c1.1 (T + 9 + 3) r = nI e := by rw [hfc.1, e12, ve]
    have f2 : m1.1 19 r = nI e := by rw [hfm.1 _ _ (by omega), ve]
    have f3 := h5 0 (by omega)
    refine ⟨some (c1.2.1 (T + 13) 0, c1), some (nI 1, m1), ⟨c1, m1, _, _, rfl, rfl, hfc, hfm, Or.inr ⟨rfl, f3.1, by rw [f3.1]; exact f3.2⟩⟩, fun sf => ?_, fun sf => ?_⟩
    · simp (disch := omega) only [g_let, g_bs, g_l0, g_l1, g_l2, g_l3, g_l4, g_l5, g_l6, g_l7, g_l8, g_l9, g_l10, g_l11, g_l12, g_l15, g_l20, g_l24, g_l25, g_l30, g_l40, g_l99, g_l100, g_ckN, g_clN, g_ltN, g_leN, g_eqN, pk_mul, nI_add, if_true, if_false, Nat.reduceLT, Nat.reduceLeDiff, Nat.reduceEqDiff, Nat.lt_irrefl, f2_value_b10_body, f1]
    · simp (disch := omega) only [g_let, g_bs, g_l0, g_l1, g_l2, g_l3, g_l4, g_l5, g_l6, g_l7, g_l8, g_l9, g_l10, g_l11, g_l12, g_l15, g_l20, g_l24, g_l25, g_l30, g_l40, g_l99, g_l100, g_ckN, g_clN, g_ltN, g_leN, g_eqN, pk_mul, nI_add, if_true, if_false, Nat.reduceLT, Nat.reduceLeDiff, Nat.reduceEqDiff, Nat.lt_irrefl, f11_goes_b12_body, f2]
  case step =>
    rintro i ⟨s1, s2, c1⟩ ⟨t1, m1⟩ hi ⟨h1, h2, h3, hfc, hfm, h4, h5⟩
    simp only at h1 h2 h3 hfc hfm h4 h5 ⊢
    subst h1; subst h2; subst h3
    have hj1 : b ≤ b + i := by omega
    have hj2 : b + i < e := by omega
    have hdl := hdle (b + i) hj1 (by omega)
    have hdn := hd (b + i) hj1 hj2
    have ha : b + i + 1 = b + (i + 1) := by omega
    rw [ha] at hdn
    generalize hj : b + i = j at *
    have f1 : c1.1 (T + 9 + 3) r = nI e := by rw [hfc.1, e12, ve]
    have f2 : m1.1 19 r = nI e := by rw [hfm.1 _ _ (by omega), ve]
    have f3 : c1.1 (T + 9 + 1) j = enc (m.1 20 j) (m.1 21 j) := by rw [hfc.1]; exact rCode j (by omega)
    have f4 : m1.1 20 j = m.1 20 j := hfm.1 _ _ (by omega)
    have f5 : m1.1 21 j = m.1 21 j := hfm.1 _ _ (by omega)
    have f6 : ∀ k, k < 7 → c1.2.1 55 k = m1.2.1 22 k ∧ okL (m1.2.1 22 k) = true := by
      intro k hk
      rw [hfc.2.2 55 e5513, hfm.2.2 22 (by decide)]
      exact hn k hk
    -- what both do with a value w that is put at place k, in memories that agree below k
    have push : ∀ (k : Nat) (w : Int64) (c2 m2 : g_M), k < 64 → okL w = true → frC c c2 T → frM m m2 → m2.1 0 38 = nI (k + 1) → c2.2.1 (T + 13) = vp_updL (c1.2.1 (T + 13)) k w → m2.2.1 23 = vp_updL (m1.2.1 23) k w → k ≤ d j → d (b + (i + 1)) = k + 1 →
        (nI (k + 1) = nI (d (b + (i + 1))) ∧ nI (j + 1) = nI (b + (i + 1)) ∧ nI (j + 1) = nI (b + (i + 1)) ∧ frC c c2 T ∧ frM m m2 ∧ m2.1 0 38 = nI (d (b + (i + 1))) ∧ ∀ q, q < d (b + (i + 1)) → c2.2.1 (T + 13) q = m2.2.1 23 q ∧ okL (m2.2.1 23 q) = true) := by
      intro k w c2 m2 hk hw hf1 hf2 ht hc2 hm2 hkd hdk
      have hjj : nI (j + 1) = nI (b + (i + 1)) := by rw [← hj]; rfl
      refine ⟨by rw [hdk], hjj, hjj, hf1, hf2, by rw [hdk]; exact ht, fun q hq => ?_⟩
      rw [hc2, hm2]
      unfold vp_updL
      by_cases hqk : q = k
      · rw [if_pos hqk, if_pos hqk]; exact ⟨rfl, hw⟩
      · rw [if_neg hqk, if_neg hqk]; exact h5 q (by omega)
    have updC : ∀ (k : Nat) (w : Int64), (g_sL c1 (T + 13) k w).2.1 (T + 13) = vp_updL (c1.2.1 (T + 13)) k w := by
      intro k w; funext q; simp [g_sL21, vp_updL]
    have updM : ∀ (k : Nat) (w : Int64) (v : Int32), (g_sI (g_sL m1 23 k w) 0 38 v).2.1 23 = vp_updL (m1.2.1 23) k w := by
      intro k w v; funext q; show (g_sL m1 23 k w).2.1 23 q = _; simp [g_sL21, vp_updL]
    -- a leaf
    have leaf : ∀ w : Int64, okL w = true → d (b + (i + 1)) = d j + 1 → (∀ sf, f2_value_b10_body F (T + 9) (nI r) 55 sf (nI (d j)) (nI j) c1 = f2_value_b146 F (T + 9) (nI r) 55 sf (nI (d j)) (nI j) w c1) → (∀ sf, f11_goes_b12_body F (nI r) sf (nI j) m1 = f11_goes_b85 F (nI r) sf (nI j) (nI (d j)) w m1) → ∃ (s' : Int32 × Int32 × g_M) (t' : Int32 × g_M), (s'.1 = nI (d (b + (i + 1))) ∧ s'.2.1 = nI (b + (i + 1)) ∧ t'.1 = nI (b + (i + 1)) ∧ frC c s'.2.2 T ∧ frM m t'.2 ∧ t'.2.1 0 38 = nI (d (b + (i + 1))) ∧ ∀ k, k < d (b + (i + 1)) → s'.2.2.2.1 (T + 13) k = t'.2.2.1 23 k ∧ okL (t'.2.2.1 23 k) = true) ∧ (∀ sf : Int32 × Int32 × g_M → Option (Int64 × g_M), f2_value_b10_body F (T + 9) (nI r) 55 (fun v3 v4 mem => sf (v3, v4, mem)) (nI (d j)) (nI j) c1 = sf s') ∧ ∀ sf : Int32 × g_M → Option (Int32 × g_M), f11_goes_b12_body F (nI r) (fun v2 mem => sf (v2, mem)) (nI j) m1 = sf t' := by
      intro w hw hdk hL hM
      refine ⟨(nI (d j + 1), nI (j + 1), g_sL c1 (T + 13) (d j) w), (nI (j + 1), g_sI (g_sL m1 23 (d j) w) 0 38 (nI (d j + 1))), push (d j) w _ _ (by omega) hw (hfc.sL _ _) ((hfm.sL _ _).sI _) (by simp [g_sI1]) (updC _ _) (updM _ _ _) (by omega) hdk, fun sf => ?_, fun sf => ?_⟩
      · rw [hL, v_push (by omega) (by omega), if_pos hw]
      · rw [hM, m_push (by omega) (by omega) _ _ _ _ h4]
    rcases hdn.2 with ⟨k0, ⟨kv, kb⟩, kd⟩ | ⟨k0, ⟨kv, kb⟩, kd⟩ | ⟨k0, k1, k2, kd⟩ | ⟨k0, k1, k2, kd⟩
    · -- a number
      left
      have g1 : enc (m.1 20 j) (m.1 21 j) = nI (vl m 21 j) := by rw [k0, kv]; rfl
      have l1 : nI (vl m 21 j) < 10007 := by rw [show (10007 : Int32) = nI 10007 from rfl, g_ltN (by omega) (by omega)]; omega
      have l2 : nI (vl m 21 j) < 10000 := by rw [show (10000 : Int32) = nI 10000 from rfl, g_ltN (by omega) (by omega)]; omega
      refine leaf (nI (vl m 21 j)).toInt64 (okL_num (by omega)) kd (fun sf => ?_) (fun sf => ?_)
      · simp (disch := omega) only [g_let, g_bs, g_l0, g_l1, g_l2, g_l3, g_l4, g_l5, g_l6, g_l7, g_l8, g_l9, g_l10, g_l11, g_l12, g_l15, g_l20, g_l24, g_l25, g_l30, g_l40, g_l99, g_l100, g_ckN, g_clN, g_ltN, g_leN, g_eqN, pk_mul, nI_add, if_true, if_false, Nat.reduceLT, Nat.reduceLeDiff, Nat.reduceEqDiff, Nat.lt_irrefl, f2_value_b10_body, f2_value_b60, f1, hj2, f3, g1, l1, l2]
      · have g2 : ¬ nI 0 = nI 2 := by decide
        simp (disch := omega) only [g_let, g_bs, g_l0, g_l1, g_l2, g_l3, g_l4, g_l5, g_l6, g_l7, g_l8, g_l9, g_l10, g_l11, g_l12, g_l15, g_l20, g_l24, g_l25, g_l30, g_l40, g_l99, g_l100, g_ckN, g_clN, g_ltN, g_leN, g_eqN, pk_mul, nI_add, if_true, if_false, Nat.reduceLT, Nat.reduceLeDiff, Nat.reduceEqDiff, Nat.lt_irrefl, f11_goes_b12_body, f2, hj2, f4, f5, k0, kv, h4, g2]
    · -- a name
      left
      have g1 : enc (m.1 20 j) (m.1 21 j) = nI (10000 + vl m 21 j) := by rw [k0, kv]; show (10000 : Int32) + nI (vl m 21 j) = _; rw [show (10000 : Int32) = nI 10000 from rfl, nI_add]
      have l1 : nI (10000 + vl m 21 j) < 10007 := by rw [show (10007 : Int32) = nI 10007 from rfl, g_ltN (by omega) (by omega)]; omega
      have l2 : ¬ nI (10000 + vl m 21 j) < 10000 := by rw [show (10000 : Int32) = nI 10000 from rfl, g_ltN (by omega) (by omega)]; omega
      have l3 : nI (10000 + vl m 21 j) - 10000 = nI (vl m 21 j) := by rw [show (10000 : Int32) = nI 10000 from rfl, g_subN (by omega)]; congr 1; omega
      have f7 := f6 (vl m 21 j) (by omega)
      refine leaf (m1.2.1 22 (vl m 21 j)) f7.2 kd (fun sf => ?_) (fun sf => ?_)
      · simp (disch := omega) only [g_let, g_bs, g_l0, g_l1, g_l2, g_l3, g_l4, g_l5, g_l6, g_l7, g_l8, g_l9, g_l10, g_l11, g_l12, g_l15, g_l20, g_l24, g_l25, g_l30, g_l40, g_l99, g_l100, g_ckN, g_clN, g_ltN, g_leN, g_eqN, pk_mul, nI_add, if_true, if_false, Nat.reduceLT, Nat.reduceLeDiff, Nat.reduceEqDiff, Nat.lt_irrefl, f2_value_b10_body, f2_value_b60, f1, hj2, f3, g1, l1, l2, l3, e55, f7.1]
      · have g2 : ¬ nI 1 = nI 2 := by decide
        have g3 : ¬ nI 1 = nI 0 := by decide
        simp (disch := omega) only [g_let, g_bs, g_l0, g_l1, g_l2, g_l3, g_l4, g_l5, g_l6, g_l7, g_l8, g_l9, g_l10, g_l11, g_l12, g_l15, g_l20, g_l24, g_l25, g_l30, g_l40, g_l99, g_l100, g_ckN, g_clN, g_ltN, g_leN, g_eqN, pk_mul, nI_add, if_true, if_false, Nat.reduceLT, Nat.reduceLeDiff, Nat.reduceEqDiff, Nat.lt_irrefl, f11_goes_b12_body, f2, hj2, f4, f5, k0, kv, h4, g2, g3]
    · -- not
      left
      obtain ⟨k, hk⟩ : ∃ k, d j = k + 1 := ⟨d j - 1, by omega⟩
      have g1 : enc (m.1 20 j) (m.1 21 j) = 10019 := by rw [k0, k1]; decide
      have l1 : ¬ (10019 : Int32) < 10007 := by decide
      have s1 : nI (k + 1) - nI 1 = nI k := by rw [g_subN (by omega)]; rfl
      have s2 : nI (k + 1) + (-1 : Int32) = nI k := pk_m1 k
      have f7 := h5 k (by omega)
      have l2 : nI 1 ≤ nI (k + 1) := by rw [g_leN (by omega) (by omega)]; omega
      rw [hk] at h4 kd
      refine ⟨(nI (k + 1), nI (j + 1), g_sL c1 (T + 13) k (bL (decide (m1.2.1 23 k = 0)))), (nI (j + 1), g_sL m1 23 k (bL (decide (m1.2.1 23 k = 0)))), push k _ _ _ (by omega) (by unfold bL; split <;> decide) (hfc.sL _ _) (hfm.sL _ _) h4 (updC _ _) (by funext q; simp [g_sL21, vp_updL]) (by omega) kd, fun sf => ?_, fun sf => ?_⟩
      · have f8 : c1.2.1 (T + 9 + 4) k = m1.2.1 23 k := f7.1
        simp (disch := omega) only [g_let, g_bs, g_l0, g_l1, g_l2, g_l3, g_l4, g_l5, g_l6, g_l7, g_l8, g_l9, g_l10, g_l11, g_l12, g_l15, g_l20, g_l24, g_l25, g_l30, g_l40, g_l99, g_l100, g_ckN, g_clN, g_ltN, g_leN, g_eqN, pk_mul, nI_add, if_true, if_false, Nat.reduceLT, Nat.reduceLeDiff, Nat.reduceEqDiff, Nat.lt_irrefl, f2_value_b10_body, f2_value_b96, f1, hj2, f3, g1, l1, hk, l2, s1, s2, f8, lc_eq]
        by_cases a : m1.2.1 23 k = 0
        · rw [if_pos a, v_push (by omega) (by omega), if_pos (by decide)]
          simp [a, bL]
        · rw [if_neg a, v_push (by omega) (by omega), if_pos (by decide)]
          simp [a, bL]
      · have g2 : m1.1 0 38 - (1 : Int32) = nI k := by rw [h4]; exact s1
        simp (disch := omega) only [g_let, g_bs, g_l0, g_l1, g_l2, g_l3, g_l4, g_l5, g_l6, g_l7, g_l8, g_l9, g_l10, g_l11, g_l12, g_l15, g_l20, g_l24, g_l25, g_l30, g_l40, g_l99, g_l100, g_ckN, g_clN, g_ltN, g_leN, g_eqN, pk_mul, nI_add, if_true, if_false, Nat.reduceLT, Nat.reduceLeDiff, Nat.reduceEqDiff, Nat.lt_irrefl, f11_goes_b12_body, f2, hj2, f4, f5, k0, k1]
        unfold f11_works
        rw [g2, g_ckN (by omega) (by omega), g_clN (by omega)]
        simp only [g_let, if_true, lc_eq]
        by_cases a : m1.2.1 23 k = 0
        · rw [if_pos a]
          simp (disch := omega) only [g_let, g_bs, g_l0, g_l1, g_l2, g_l3, g_l4, g_l5, g_l6, g_l7, g_l8, g_l9, g_l10, g_l11, g_l12, g_l15, g_l20, g_l24, g_l25, g_l30, g_l40, g_l99, g_l100, g_ckN, g_clN, g_ltN, g_leN, g_eqN, pk_mul, nI_add, if_true, if_false, Nat.reduceLT, Nat.reduceLeDiff, Nat.reduceEqDiff, Nat.lt_irrefl, f11_works_b40, f11_is, f11_goes_b96]
          simp [a, bL, nI]
        · rw [if_neg a]
          simp (disch := omega) only [g_let, g_bs, g_l0, g_l1, g_l2, g_l3, g_l4, g_l5, g_l6, g_l7, g_l8, g_l9, g_l10, g_l11, g_l12, g_l15, g_l20, g_l24, g_l25, g_l30, g_l40, g_l99, g_l100, g_ckN, g_clN, g_ltN, g_leN, g_eqN, pk_mul, nI_add, if_true, if_false, Nat.reduceLT, Nat.reduceLeDiff, Nat.reduceEqDiff, Nat.lt_irrefl, f11_works_b40, f11_is, f11_goes_b96]
          simp [a, bL, nI]
    · -- an operator
      obtain ⟨k, hk⟩ : ∃ k, d j = k + 2 := ⟨d j - 2, by omega⟩
      rw [hk] at h4 kd
      have k1' := k1
      obtain ⟨m2, w1, w2, w3, w4⟩ := r_works F k1 hfm (d := k) (by omega) h4
      have f7 := h5 k (by omega)
      have f8 := h5 (k + 1) (by omega)
      generalize hw : cw (m.1 21 j) (m1.2.1 23 k) (m1.2.1 23 (k + 1)) = w at *
      have g1 : enc (m.1 20 j) (m.1 21 j) = 10007 + opc (m.1 21 j) := by rw [k0]; rfl
      have g2 : (10007 : Int32) + opc (m.1 21 j) - 10007 = opc (m.1 21 j) := by
        rcases k1 with h | h | h | h | h | h | h | h | h | h | h | h <;> rw [h] <;> decide
      have l1 : ¬ (10007 : Int32) + opc (m.1 21 j) < 10007 := by
        rcases k1 with h | h | h | h | h | h | h | h | h | h | h | h <;> rw [h] <;> decide
      have l2 : ¬ (10007 : Int32) + opc (m.1 21 j) = 10019 := by
        rcases k1 with h | h | h | h | h | h | h | h | h | h | h | h <;> rw [h] <;> decide
      have s1 : nI (k + 2) - nI 1 = nI (k + 1) := by rw [g_subN (by omega)]; rfl
      have s2 : nI (k + 2) - nI 2 = nI k := by rw [g_subN (by omega)]; rfl
      have s3 : nI (k + 2) + (-2 : Int32) = nI k := by
        have h : nI (k + 2) - (2 : Int32) = nI k := s2
        rw [← h, Int32.sub_eq_add_neg]
      have l3 : nI 2 ≤ nI (k + 2) := by rw [g_leN (by omega) (by omega)]; omega
      have f9 : c1.2.1 (T + 9 + 4) k = m1.2.1 23 k := f7.1
      have f10 : c1.2.1 (T + 9 + 4) (k + 1) = m1.2.1 23 (k + 1) := f8.1
      have eC : ∀ sf, f2_value_b10_body F (T + 9) (nI r) 55 sf (nI (k + 2)) (nI j) c1 = f2_value_b146 F (T + 9) (nI r) 55 sf (nI k) (nI j) w c1 := by
        intro sf
        have g3 := q_worked F k1' (m1.2.1 23 k) (m1.2.1 23 (k + 1)) c1
        rw [hw] at g3
        simp (disch := omega) only [g_let, g_bs, g_l0, g_l1, g_l2, g_l3, g_l4, g_l5, g_l6, g_l7, g_l8, g_l9, g_l10, g_l11, g_l12, g_l15, g_l20, g_l24, g_l25, g_l30, g_l40, g_l99, g_l100, g_ckN, g_clN, g_ltN, g_leN, g_eqN, pk_mul, nI_add, if_true, if_false, Nat.reduceLT, Nat.reduceLeDiff, Nat.reduceEqDiff, Nat.lt_irrefl, f2_value_b10_body, f2_value_b104, f1, hj2, f3, g1, l1, l2, l3, s1, s2, s3, f9, f10, g2, g3]
      have eM : ∀ sf, f11_goes_b12_body F (nI r) sf (nI j) m1 = if okL w = true then sf (nI (j + 1)) m2 else some (nI 0, m2) := by
        intro sf
        simp (disch := omega) only [g_let, g_bs, g_l0, g_l1, g_l2, g_l3, g_l4, g_l5, g_l6, g_l7, g_l8, g_l9, g_l10, g_l11, g_l12, g_l15, g_l20, g_l24, g_l25, g_l30, g_l40, g_l99, g_l100, g_ckN, g_clN, g_ltN, g_leN, g_eqN, pk_mul, nI_add, if_true, if_false, Nat.reduceLT, Nat.reduceLeDiff, Nat.reduceEqDiff, Nat.lt_irrefl, f11_goes_b12_body, f11_goes_b96, f2, hj2, f4, f5, k0, w1]
        by_cases a : okL w = true
        · simp only [a, if_true]; rw [if_neg (by decide)]
        · simp only [a, if_false, if_true]
          rfl
      rw [hk]
      by_cases a : okL w = true
      · left
        refine ⟨(nI (k + 1), nI (j + 1), g_sL c1 (T + 13) k w), (nI (j + 1), m2), push k w _ _ (by omega) a (hfc.sL _ _) w2 w3 (updC _ _) (w4 a) (by omega) (by omega), fun sf => ?_, fun sf => ?_⟩
        · rw [eC, v_push (by omega) (by omega), if_pos a]
        · rw [eM, if_pos a]
      · right
        refine ⟨some (-9223372036854775808, c1), some (nI 0, m2), ⟨c1, m2, _, _, rfl, rfl, hfc, w2, Or.inl ⟨rfl, rfl⟩⟩, fun sf => ?_, fun sf => ?_⟩
        · rw [eC, v_push (by omega) (by omega), if_neg a]
        · rw [eM, if_neg a]
  exact main
end L2
