/-! what is told, after one more line -/
section L
variable {c c' mu mu' : g_M} {S : Nat}
theorem TD_man {x v : Nat} {w : Int32} (hS : isT S) (h : WT mu) (hR : RT c mu S) (hx : x < 5) (hP : vl mu 2 0 = x) (hv : v ≤ 999) (hm0 : mu'.1 2 (0) = nI (x + 1)) (hm1 : mu'.1 3 (x) = w) (hm2 : mu'.1 4 (x) = nI v) (hc0 : c'.1 (S + 1) (0) = nI (x + 1)) (hc1 : c'.1 (S + 2) (x) = w) (hc2 : c'.1 (S + 3) (x) = nI v) (hmn : ∀ o k, ¬ ((o = 2 ∧ k = 0) ∨ (o = 3 ∧ k = x) ∨ (o = 4 ∧ k = x)) → mu'.1 o k = mu.1 o k) (hcn : ∀ o k, S ≤ o → o ≤ S + 13 → ¬ ((o = S + 1 ∧ k = 0) ∨ (o = S + 2 ∧ k = x) ∨ (o = S + 3 ∧ k = x)) → c'.1 o k = c.1 o k) : WT mu' ∧ RT c' mu' S := by
  have hSl := isT_le hS
  obtain ⟨⟨a0, a1, a2, a3, a4, a5, a5', a6, a7, a8⟩, bP, bS, bD, bN, bW, bL⟩ := h
  have v : ∀ o k, ¬ ((o = 2 ∧ k = 0) ∨ (o = 3 ∧ k = x) ∨ (o = 4 ∧ k = x)) → vl mu' o k = vl mu o k := fun o k z => by unfold vl; rw [hmn o k z]
  have r : ∀ o k b, ¬ ((o = 2 ∧ k = 0) ∨ (o = 3 ∧ k = x) ∨ (o = 4 ∧ k = x)) → rg mu o k b → rg mu' o k b := fun o k b z hr => rg_fr hr (hmn o k z)
  have vc : vl mu' 2 0 = x + 1 := vl_of hm0 (by omega)
  have b0 := a0.2
  have b1 := a1.2
  have b2 := a2.2
  have b3 := a3.2
  have b4 := a4.2
  have b5 := a5.2
  have b6 := a6.2
  have b7 := a7.2
  have b8 := a8.2
  refine ⟨⟨⟨rg_of hm0 (by omega) (by omega), r 2 1 5 (by omega) a1, r 2 2 5 (by omega) a2, r 2 3 12 (by omega) a3, r 2 4 8 (by omega) a4, r 2 5 30 (by omega) a5, by rw [v 2 5 (by omega)]; omega, r 2 6 100 (by omega) a6, r 2 7 99999 (by omega) a7, r 2 8 64 (by omega) a8⟩, fun i hi => ?_, fun i hi => ?_, fun i hi => ?_, fun i hi => ?_, fun i hi => ?_, fun i hi => ?_⟩, ?_⟩
  · rw [vc] at hi
    by_cases z : i = x
    · subst z
      exact rg_of hm2 hv (by omega)
    · exact r 4 i 999 (by omega) (bP i (by omega))
  · rw [v 2 1 (by omega)] at hi
    obtain ⟨x1, x2, x3⟩ := bS i (by omega)
    exact ⟨r 6 i 9 (by omega) x1, by rw [v 6 i (by omega)]; exact x2, r 7 i 99 (by omega) x3⟩
  · rw [v 2 2 (by omega)] at hi
    exact r 9 i 31 (by omega) (bD i (by omega))
  · rw [v 2 3 (by omega)] at hi
    obtain ⟨x1, x2, x3, x4, x5⟩ := bN i (by omega)
    rw [vc, v 2 1 (by omega), v 10 i (by omega), v 11 i (by omega)]
    exact ⟨r 10 i 4 (by omega) x1, by omega, r 11 i 4 (by omega) x3, by omega, r 12 i 99 (by omega) x5⟩
  · rw [v 2 4 (by omega)] at hi
    obtain ⟨x1, x2, x3, x4, x5, x6, x7⟩ := bW i (by omega)
    rw [vc, v 2 2 (by omega), v 13 i (by omega), v 14 i (by omega)]
    exact ⟨r 13 i 4 (by omega) x1, by omega, r 14 i 4 (by omega) x3, by omega, r 15 i 1 (by omega) x5, r 16 i 99 (by omega) x6, r 17 i 99 (by omega) x7⟩
  · obtain ⟨x1, x2, x3, x4, x5⟩ := bL i hi
    rw [v 18 i (by omega), v 19 i (by omega), v 2 8 (by omega)]
    refine ⟨r 18 i 64 (by omega) x1, r 19 i 64 (by omega) x2, x3, x4, fun z => ?_⟩
    obtain ⟨d, d0, d1, d2⟩ := x5 z
    refine ⟨d, d0, d1, fun j j1 j2 => ?_⟩
    have := d2 j j1 j2
    unfold rg at this ⊢
    rw [hmn 20 j (by omega), hmn 21 j (by omega), v 21 j (by omega)]; exact this
  · obtain ⟨r1, r2, r3, r4, ⟨r5, r6, r7, r8, r9, r10⟩, r11, r12, r13, r14⟩ := hR
    refine ⟨fun k hk => ?_, fun i hi => ?_, fun i hi => ?_, fun i hi => ?_, ⟨by rw [hcn S 6 (by omega) (by omega) (by omega), hmn 2 3 (by omega)]; exact r5, by rw [hcn S 8 (by omega) (by omega) (by omega), hmn 2 4 (by omega)]; exact r6, by rw [hcn S 10 (by omega) (by omega) (by omega), hmn 2 5 (by omega)]; exact r7, by rw [hcn S 11 (by omega) (by omega) (by omega), hmn 2 6 (by omega)]; exact r8, by rw [hcn S 12 (by omega) (by omega) (by omega), hmn 2 7 (by omega)]; exact r9, by rw [hcn (S + 9) 3 (by omega) (by omega) (by omega), hmn 2 8 (by omega)]; exact r10⟩, fun i hi => ?_, fun i hi => ?_, fun i hi => ?_, fun i hi => ?_⟩
    · by_cases z : k = 0
      · subst z; exact hc0.trans hm0.symm
      · rw [hcn (S + 1) k (by omega) (by omega) (by omega), hmn 2 k (by omega)]; exact r1 k hk
    · rw [vc] at hi
      by_cases z : i = x
      · subst z
        exact ⟨hc1.trans hm1.symm, hc2.trans hm2.symm⟩
      · rw [hcn (S + 2) i (by omega) (by omega) (by omega), hcn (S + 3) i (by omega) (by omega) (by omega), hmn 3 i (by omega), hmn 4 i (by omega)]; exact r2 i (by omega)
    · rw [v 2 1 (by omega)] at hi
      rw [hcn (S + 2) (5 + i) (by omega) (by omega) (by omega), hcn (S + 4) i (by omega) (by omega) (by omega), hcn (S + 5) i (by omega) (by omega) (by omega), hmn 5 i (by omega), hmn 6 i (by omega), hmn 7 i (by omega)]; exact r3 i (by omega)
    · rw [v 2 2 (by omega)] at hi
      rw [hcn (S + 2) (10 + i) (by omega) (by omega) (by omega), hcn (S + 6) i (by omega) (by omega) (by omega), hmn 8 i (by omega), hmn 9 i (by omega)]; exact r4 i (by omega)
    · rw [v 2 3 (by omega)] at hi
      rw [hcn (S + 7) (4 * i) (by omega) (by omega) (by omega), hcn (S + 7) (4 * i + 1) (by omega) (by omega) (by omega), hcn (S + 7) (4 * i + 2) (by omega) (by omega) (by omega), hcn (S + 7) (4 * i + 3) (by omega) (by omega) (by omega), hmn 10 i (by omega), hmn 11 i (by omega), hmn 12 i (by omega)]; exact r11 i (by omega)
    · rw [v 2 4 (by omega)] at hi
      rw [hcn (S + 8) (5 * i) (by omega) (by omega) (by omega), hcn (S + 8) (5 * i + 1) (by omega) (by omega) (by omega), hcn (S + 8) (5 * i + 2) (by omega) (by omega) (by omega), hcn (S + 8) (5 * i + 3) (by omega) (by omega) (by omega), hcn (S + 8) (5 * i + 4) (by omega) (by omega) (by omega), hmn 13 i (by omega), hmn 14 i (by omega), hmn 15 i (by omega), hmn 16 i (by omega), hmn 17 i (by omega)]; exact r12 i (by omega)
    · rw [hcn (S + 11) i (by omega) (by omega) (by omega), hcn (S + 12) i (by omega) (by omega) (by omega), hmn 18 i (by omega), hmn 19 i (by omega)]; exact r13 i hi
    · rw [v 2 8 (by omega)] at hi
      rw [hcn (S + 10) i (by omega) (by omega) (by omega), hmn 20 i (by omega), hmn 21 i (by omega)]; exact r14 i hi
theorem TD_sort {x v u : Nat} {w : Int32} (hS : isT S) (h : WT mu) (hR : RT c mu S) (hx : x < 5) (hP : vl mu 2 1 = x) (hv1 : 1 ≤ v) (hv : v ≤ 9) (hu : u ≤ 99) (hm0 : mu'.1 2 (1) = nI (x + 1)) (hm1 : mu'.1 5 (x) = w) (hm2 : mu'.1 6 (x) = nI v) (hm3 : mu'.1 7 (x) = nI u) (hc0 : c'.1 (S + 1) (1) = nI (x + 1)) (hc1 : c'.1 (S + 2) (5 + x) = w) (hc2 : c'.1 (S + 4) (x) = nI v) (hc3 : c'.1 (S + 5) (x) = nI u) (hmn : ∀ o k, ¬ ((o = 2 ∧ k = 1) ∨ (o = 5 ∧ k = x) ∨ (o = 6 ∧ k = x) ∨ (o = 7 ∧ k = x)) → mu'.1 o k = mu.1 o k) (hcn : ∀ o k, S ≤ o → o ≤ S + 13 → ¬ ((o = S + 1 ∧ k = 1) ∨ (o = S + 2 ∧ k = 5 + x) ∨ (o = S + 4 ∧ k = x) ∨ (o = S + 5 ∧ k = x)) → c'.1 o k = c.1 o k) : WT mu' ∧ RT c' mu' S := by
  have hSl := isT_le hS
  obtain ⟨⟨a0, a1, a2, a3, a4, a5, a5', a6, a7, a8⟩, bP, bS, bD, bN, bW, bL⟩ := h
  have v : ∀ o k, ¬ ((o = 2 ∧ k = 1) ∨ (o = 5 ∧ k = x) ∨ (o = 6 ∧ k = x) ∨ (o = 7 ∧ k = x)) → vl mu' o k = vl mu o k := fun o k z => by unfold vl; rw [hmn o k z]
  have r : ∀ o k b, ¬ ((o = 2 ∧ k = 1) ∨ (o = 5 ∧ k = x) ∨ (o = 6 ∧ k = x) ∨ (o = 7 ∧ k = x)) → rg mu o k b → rg mu' o k b := fun o k b z hr => rg_fr hr (hmn o k z)
  have vc : vl mu' 2 1 = x + 1 := vl_of hm0 (by omega)
  have b0 := a0.2
  have b1 := a1.2
  have b2 := a2.2
  have b3 := a3.2
  have b4 := a4.2
  have b5 := a5.2
  have b6 := a6.2
  have b7 := a7.2
  have b8 := a8.2
  refine ⟨⟨⟨r 2 0 5 (by omega) a0, rg_of hm0 (by omega) (by omega), r 2 2 5 (by omega) a2, r 2 3 12 (by omega) a3, r 2 4 8 (by omega) a4, r 2 5 30 (by omega) a5, by rw [v 2 5 (by omega)]; omega, r 2 6 100 (by omega) a6, r 2 7 99999 (by omega) a7, r 2 8 64 (by omega) a8⟩, fun i hi => ?_, fun i hi => ?_, fun i hi => ?_, fun i hi => ?_, fun i hi => ?_, fun i hi => ?_⟩, ?_⟩
  · rw [v 2 0 (by omega)] at hi
    exact r 4 i 999 (by omega) (bP i (by omega))
  · rw [vc] at hi
    by_cases z : i = x
    · subst z
      exact ⟨rg_of hm2 hv (by omega), by rw [vl_of hm2 (by omega)]; exact hv1, rg_of hm3 hu (by omega)⟩
    · obtain ⟨x1, x2, x3⟩ := bS i (by omega)
      exact ⟨r 6 i 9 (by omega) x1, by rw [v 6 i (by omega)]; exact x2, r 7 i 99 (by omega) x3⟩
  · rw [v 2 2 (by omega)] at hi
    exact r 9 i 31 (by omega) (bD i (by omega))
  · rw [v 2 3 (by omega)] at hi
    obtain ⟨x1, x2, x3, x4, x5⟩ := bN i (by omega)
    rw [v 2 0 (by omega), vc, v 10 i (by omega), v 11 i (by omega)]
    exact ⟨r 10 i 4 (by omega) x1, by omega, r 11 i 4 (by omega) x3, by omega, r 12 i 99 (by omega) x5⟩
  · rw [v 2 4 (by omega)] at hi
    obtain ⟨x1, x2, x3, x4, x5, x6, x7⟩ := bW i (by omega)
    rw [v 2 0 (by omega), v 2 2 (by omega), v 13 i (by omega), v 14 i (by omega)]
    exact ⟨r 13 i 4 (by omega) x1, by omega, r 14 i 4 (by omega) x3, by omega, r 15 i 1 (by omega) x5, r 16 i 99 (by omega) x6, r 17 i 99 (by omega) x7⟩
  · obtain ⟨x1, x2, x3, x4, x5⟩ := bL i hi
    rw [v 18 i (by omega), v 19 i (by omega), v 2 8 (by omega)]
    refine ⟨r 18 i 64 (by omega) x1, r 19 i 64 (by omega) x2, x3, x4, fun z => ?_⟩
    obtain ⟨d, d0, d1, d2⟩ := x5 z
    refine ⟨d, d0, d1, fun j j1 j2 => ?_⟩
    have := d2 j j1 j2
    unfold rg at this ⊢
    rw [hmn 20 j (by omega), hmn 21 j (by omega), v 21 j (by omega)]; exact this
  · obtain ⟨r1, r2, r3, r4, ⟨r5, r6, r7, r8, r9, r10⟩, r11, r12, r13, r14⟩ := hR
    refine ⟨fun k hk => ?_, fun i hi => ?_, fun i hi => ?_, fun i hi => ?_, ⟨by rw [hcn S 6 (by omega) (by omega) (by omega), hmn 2 3 (by omega)]; exact r5, by rw [hcn S 8 (by omega) (by omega) (by omega), hmn 2 4 (by omega)]; exact r6, by rw [hcn S 10 (by omega) (by omega) (by omega), hmn 2 5 (by omega)]; exact r7, by rw [hcn S 11 (by omega) (by omega) (by omega), hmn 2 6 (by omega)]; exact r8, by rw [hcn S 12 (by omega) (by omega) (by omega), hmn 2 7 (by omega)]; exact r9, by rw [hcn (S + 9) 3 (by omega) (by omega) (by omega), hmn 2 8 (by omega)]; exact r10⟩, fun i hi => ?_, fun i hi => ?_, fun i hi => ?_, fun i hi => ?_⟩
    · by_cases z : k = 1
      · subst z; exact hc0.trans hm0.symm
      · rw [hcn (S + 1) k (by omega) (by omega) (by omega), hmn 2 k (by omega)]; exact r1 k hk
    · rw [v 2 0 (by omega)] at hi
      rw [hcn (S + 2) i (by omega) (by omega) (by omega), hcn (S + 3) i (by omega) (by omega) (by omega), hmn 3 i (by omega), hmn 4 i (by omega)]; exact r2 i (by omega)
    · rw [vc] at hi
      by_cases z : i = x
      · subst z
        exact ⟨hc1.trans hm1.symm, hc2.trans hm2.symm, hc3.trans hm3.symm⟩
      · rw [hcn (S + 2) (5 + i) (by omega) (by omega) (by omega), hcn (S + 4) i (by omega) (by omega) (by omega), hcn (S + 5) i (by omega) (by omega) (by omega), hmn 5 i (by omega), hmn 6 i (by omega), hmn 7 i (by omega)]; exact r3 i (by omega)
    · rw [v 2 2 (by omega)] at hi
      rw [hcn (S + 2) (10 + i) (by omega) (by omega) (by omega), hcn (S + 6) i (by omega) (by omega) (by omega), hmn 8 i (by omega), hmn 9 i (by omega)]; exact r4 i (by omega)
    · rw [v 2 3 (by omega)] at hi
      rw [hcn (S + 7) (4 * i) (by omega) (by omega) (by omega), hcn (S + 7) (4 * i + 1) (by omega) (by omega) (by omega), hcn (S + 7) (4 * i + 2) (by omega) (by omega) (by omega), hcn (S + 7) (4 * i + 3) (by omega) (by omega) (by omega), hmn 10 i (by omega), hmn 11 i (by omega), hmn 12 i (by omega)]; exact r11 i (by omega)
    · rw [v 2 4 (by omega)] at hi
      rw [hcn (S + 8) (5 * i) (by omega) (by omega) (by omega), hcn (S + 8) (5 * i + 1) (by omega) (by omega) (by omega), hcn (S + 8) (5 * i + 2) (by omega) (by omega) (by omega), hcn (S + 8) (5 * i + 3) (by omega) (by omega) (by omega), hcn (S + 8) (5 * i + 4) (by omega) (by omega) (by omega), hmn 13 i (by omega), hmn 14 i (by omega), hmn 15 i (by omega), hmn 16 i (by omega), hmn 17 i (by omega)]; exact r12 i (by omega)
    · rw [hcn (S + 11) i (by omega) (by omega) (by omega), hcn (S + 12) i (by omega) (by omega) (by omega), hmn 18 i (by omega), hmn 19 i (by omega)]; exact r13 i hi
    · rw [v 2 8 (by omega)] at hi
      rw [hcn (S + 10) i (by omega) (by omega) (by omega), hmn 20 i (by omega), hmn 21 i (by omega)]; exact r14 i hi
theorem TD_deed {x v : Nat} {w : Int32} (hS : isT S) (h : WT mu) (hR : RT c mu S) (hx : x < 5) (hP : vl mu 2 2 = x) (hv : v ≤ 31) (hm0 : mu'.1 2 (2) = nI (x + 1)) (hm1 : mu'.1 8 (x) = w) (hm2 : mu'.1 9 (x) = nI v) (hc0 : c'.1 (S + 1) (2) = nI (x + 1)) (hc1 : c'.1 (S + 2) (10 + x) = w) (hc2 : c'.1 (S + 6) (x) = nI v) (hmn : ∀ o k, ¬ ((o = 2 ∧ k = 2) ∨ (o = 8 ∧ k = x) ∨ (o = 9 ∧ k = x)) → mu'.1 o k = mu.1 o k) (hcn : ∀ o k, S ≤ o → o ≤ S + 13 → ¬ ((o = S + 1 ∧ k = 2) ∨ (o = S + 2 ∧ k = 10 + x) ∨ (o = S + 6 ∧ k = x)) → c'.1 o k = c.1 o k) : WT mu' ∧ RT c' mu' S := by
  have hSl := isT_le hS
  obtain ⟨⟨a0, a1, a2, a3, a4, a5, a5', a6, a7, a8⟩, bP, bS, bD, bN, bW, bL⟩ := h
  have v : ∀ o k, ¬ ((o = 2 ∧ k = 2) ∨ (o = 8 ∧ k = x) ∨ (o = 9 ∧ k = x)) → vl mu' o k = vl mu o k := fun o k z => by unfold vl; rw [hmn o k z]
  have r : ∀ o k b, ¬ ((o = 2 ∧ k = 2) ∨ (o = 8 ∧ k = x) ∨ (o = 9 ∧ k = x)) → rg mu o k b → rg mu' o k b := fun o k b z hr => rg_fr hr (hmn o k z)
  have vc : vl mu' 2 2 = x + 1 := vl_of hm0 (by omega)
  have b0 := a0.2
  have b1 := a1.2
  have b2 := a2.2
  have b3 := a3.2
  have b4 := a4.2
  have b5 := a5.2
  have b6 := a6.2
  have b7 := a7.2
  have b8 := a8.2
  refine ⟨⟨⟨r 2 0 5 (by omega) a0, r 2 1 5 (by omega) a1, rg_of hm0 (by omega) (by omega), r 2 3 12 (by omega) a3, r 2 4 8 (by omega) a4, r 2 5 30 (by omega) a5, by rw [v 2 5 (by omega)]; omega, r 2 6 100 (by omega) a6, r 2 7 99999 (by omega) a7, r 2 8 64 (by omega) a8⟩, fun i hi => ?_, fun i hi => ?_, fun i hi => ?_, fun i hi => ?_, fun i hi => ?_, fun i hi => ?_⟩, ?_⟩
  · rw [v 2 0 (by omega)] at hi
    exact r 4 i 999 (by omega) (bP i (by omega))
  · rw [v 2 1 (by omega)] at hi
    obtain ⟨x1, x2, x3⟩ := bS i (by omega)
    exact ⟨r 6 i 9 (by omega) x1, by rw [v 6 i (by omega)]; exact x2, r 7 i 99 (by omega) x3⟩
  · rw [vc] at hi
    by_cases z : i = x
    · subst z
      exact rg_of hm2 hv (by omega)
    · exact r 9 i 31 (by omega) (bD i (by omega))
  · rw [v 2 3 (by omega)] at hi
    obtain ⟨x1, x2, x3, x4, x5⟩ := bN i (by omega)
    rw [v 2 0 (by omega), v 2 1 (by omega), v 10 i (by omega), v 11 i (by omega)]
    exact ⟨r 10 i 4 (by omega) x1, by omega, r 11 i 4 (by omega) x3, by omega, r 12 i 99 (by omega) x5⟩
  · rw [v 2 4 (by omega)] at hi
    obtain ⟨x1, x2, x3, x4, x5, x6, x7⟩ := bW i (by omega)
    rw [v 2 0 (by omega), vc, v 13 i (by omega), v 14 i (by omega)]
    exact ⟨r 13 i 4 (by omega) x1, by omega, r 14 i 4 (by omega) x3, by omega, r 15 i 1 (by omega) x5, r 16 i 99 (by omega) x6, r 17 i 99 (by omega) x7⟩
  · obtain ⟨x1, x2, x3, x4, x5⟩ := bL i hi
    rw [v 18 i (by omega), v 19 i (by omega), v 2 8 (by omega)]
    refine ⟨r 18 i 64 (by omega) x1, r 19 i 64 (by omega) x2, x3, x4, fun z => ?_⟩
    obtain ⟨d, d0, d1, d2⟩ := x5 z
    refine ⟨d, d0, d1, fun j j1 j2 => ?_⟩
    have := d2 j j1 j2
    unfold rg at this ⊢
    rw [hmn 20 j (by omega), hmn 21 j (by omega), v 21 j (by omega)]; exact this
  · obtain ⟨r1, r2, r3, r4, ⟨r5, r6, r7, r8, r9, r10⟩, r11, r12, r13, r14⟩ := hR
    refine ⟨fun k hk => ?_, fun i hi => ?_, fun i hi => ?_, fun i hi => ?_, ⟨by rw [hcn S 6 (by omega) (by omega) (by omega), hmn 2 3 (by omega)]; exact r5, by rw [hcn S 8 (by omega) (by omega) (by omega), hmn 2 4 (by omega)]; exact r6, by rw [hcn S 10 (by omega) (by omega) (by omega), hmn 2 5 (by omega)]; exact r7, by rw [hcn S 11 (by omega) (by omega) (by omega), hmn 2 6 (by omega)]; exact r8, by rw [hcn S 12 (by omega) (by omega) (by omega), hmn 2 7 (by omega)]; exact r9, by rw [hcn (S + 9) 3 (by omega) (by omega) (by omega), hmn 2 8 (by omega)]; exact r10⟩, fun i hi => ?_, fun i hi => ?_, fun i hi => ?_, fun i hi => ?_⟩
    · by_cases z : k = 2
      · subst z; exact hc0.trans hm0.symm
      · rw [hcn (S + 1) k (by omega) (by omega) (by omega), hmn 2 k (by omega)]; exact r1 k hk
    · rw [v 2 0 (by omega)] at hi
      rw [hcn (S + 2) i (by omega) (by omega) (by omega), hcn (S + 3) i (by omega) (by omega) (by omega), hmn 3 i (by omega), hmn 4 i (by omega)]; exact r2 i (by omega)
    · rw [v 2 1 (by omega)] at hi
      rw [hcn (S + 2) (5 + i) (by omega) (by omega) (by omega), hcn (S + 4) i (by omega) (by omega) (by omega), hcn (S + 5) i (by omega) (by omega) (by omega), hmn 5 i (by omega), hmn 6 i (by omega), hmn 7 i (by omega)]; exact r3 i (by omega)
    · rw [vc] at hi
      by_cases z : i = x
      · subst z
        exact ⟨hc1.trans hm1.symm, hc2.trans hm2.symm⟩
      · rw [hcn (S + 2) (10 + i) (by omega) (by omega) (by omega), hcn (S + 6) i (by omega) (by omega) (by omega), hmn 8 i (by omega), hmn 9 i (by omega)]; exact r4 i (by omega)
    · rw [v 2 3 (by omega)] at hi
      rw [hcn (S + 7) (4 * i) (by omega) (by omega) (by omega), hcn (S + 7) (4 * i + 1) (by omega) (by omega) (by omega), hcn (S + 7) (4 * i + 2) (by omega) (by omega) (by omega), hcn (S + 7) (4 * i + 3) (by omega) (by omega) (by omega), hmn 10 i (by omega), hmn 11 i (by omega), hmn 12 i (by omega)]; exact r11 i (by omega)
    · rw [v 2 4 (by omega)] at hi
      rw [hcn (S + 8) (5 * i) (by omega) (by omega) (by omega), hcn (S + 8) (5 * i + 1) (by omega) (by omega) (by omega), hcn (S + 8) (5 * i + 2) (by omega) (by omega) (by omega), hcn (S + 8) (5 * i + 3) (by omega) (by omega) (by omega), hcn (S + 8) (5 * i + 4) (by omega) (by omega) (by omega), hmn 13 i (by omega), hmn 14 i (by omega), hmn 15 i (by omega), hmn 16 i (by omega), hmn 17 i (by omega)]; exact r12 i (by omega)
    · rw [hcn (S + 11) i (by omega) (by omega) (by omega), hcn (S + 12) i (by omega) (by omega) (by omega), hmn 18 i (by omega), hmn 19 i (by omega)]; exact r13 i hi
    · rw [v 2 8 (by omega)] at hi
      rw [hcn (S + 10) i (by omega) (by omega) (by omega), hmn 20 i (by omega), hmn 21 i (by omega)]; exact r14 i hi
theorem TD_send {x i1 i2 v : Nat} (hS : isT S) (h : WT mu) (hR : RT c mu S) (hx : x < 12) (hP : vl mu 2 3 = x) (hi1 : i1 < vl mu 2 0) (hi2 : i2 < vl mu 2 1) (hv : v ≤ 99) (hm0 : mu'.1 2 (3) = nI (x + 1)) (hm1 : mu'.1 10 (x) = nI i1) (hm2 : mu'.1 11 (x) = nI i2) (hm3 : mu'.1 12 (x) = nI v) (hc0 : c'.1 (S) (6) = nI (x + 1)) (hc1 : c'.1 (S + 7) (4 * x) = nI i1) (hc2 : c'.1 (S + 7) (4 * x + 1) = nI i2) (hc3 : c'.1 (S + 7) (4 * x + 2) = nI v) (hc4 : c'.1 (S + 7) (4 * x + 3) = nI 0) (hmn : ∀ o k, ¬ ((o = 2 ∧ k = 3) ∨ (o = 10 ∧ k = x) ∨ (o = 11 ∧ k = x) ∨ (o = 12 ∧ k = x)) → mu'.1 o k = mu.1 o k) (hcn : ∀ o k, S ≤ o → o ≤ S + 13 → ¬ ((o = S ∧ k = 6) ∨ (o = S + 7 ∧ k = 4 * x) ∨ (o = S + 7 ∧ k = 4 * x + 1) ∨ (o = S + 7 ∧ k = 4 * x + 2) ∨ (o = S + 7 ∧ k = 4 * x + 3)) → c'.1 o k = c.1 o k) : WT mu' ∧ RT c' mu' S := by
  have hSl := isT_le hS
  obtain ⟨⟨a0, a1, a2, a3, a4, a5, a5', a6, a7, a8⟩, bP, bS, bD, bN, bW, bL⟩ := h
  have v : ∀ o k, ¬ ((o = 2 ∧ k = 3) ∨ (o = 10 ∧ k = x) ∨ (o = 11 ∧ k = x) ∨ (o = 12 ∧ k = x)) → vl mu' o k = vl mu o k := fun o k z => by unfold vl; rw [hmn o k z]
  have r : ∀ o k b, ¬ ((o = 2 ∧ k = 3) ∨ (o = 10 ∧ k = x) ∨ (o = 11 ∧ k = x) ∨ (o = 12 ∧ k = x)) → rg mu o k b → rg mu' o k b := fun o k b z hr => rg_fr hr (hmn o k z)
  have vc : vl mu' 2 3 = x + 1 := vl_of hm0 (by omega)
  have b0 := a0.2
  have b1 := a1.2
  have b2 := a2.2
  have b3 := a3.2
  have b4 := a4.2
  have b5 := a5.2
  have b6 := a6.2
  have b7 := a7.2
  have b8 := a8.2
  refine ⟨⟨⟨r 2 0 5 (by omega) a0, r 2 1 5 (by omega) a1, r 2 2 5 (by omega) a2, rg_of hm0 (by omega) (by omega), r 2 4 8 (by omega) a4, r 2 5 30 (by omega) a5, by rw [v 2 5 (by omega)]; omega, r 2 6 100 (by omega) a6, r 2 7 99999 (by omega) a7, r 2 8 64 (by omega) a8⟩, fun i hi => ?_, fun i hi => ?_, fun i hi => ?_, fun i hi => ?_, fun i hi => ?_, fun i hi => ?_⟩, ?_⟩
  · rw [v 2 0 (by omega)] at hi
    exact r 4 i 999 (by omega) (bP i (by omega))
  · rw [v 2 1 (by omega)] at hi
    obtain ⟨x1, x2, x3⟩ := bS i (by omega)
    exact ⟨r 6 i 9 (by omega) x1, by rw [v 6 i (by omega)]; exact x2, r 7 i 99 (by omega) x3⟩
  · rw [v 2 2 (by omega)] at hi
    exact r 9 i 31 (by omega) (bD i (by omega))
  · rw [vc] at hi
    by_cases z : i = x
    · subst z
      rw [v 2 0 (by omega), v 2 1 (by omega), vl_of hm1 (by omega), vl_of hm2 (by omega)]
      exact ⟨rg_of hm1 (by omega) (by omega), hi1, rg_of hm2 (by omega) (by omega), hi2, rg_of hm3 hv (by omega)⟩
    · obtain ⟨x1, x2, x3, x4, x5⟩ := bN i (by omega)
      rw [v 2 0 (by omega), v 2 1 (by omega), v 10 i (by omega), v 11 i (by omega)]
      exact ⟨r 10 i 4 (by omega) x1, by omega, r 11 i 4 (by omega) x3, by omega, r 12 i 99 (by omega) x5⟩
  · rw [v 2 4 (by omega)] at hi
    obtain ⟨x1, x2, x3, x4, x5, x6, x7⟩ := bW i (by omega)
    rw [v 2 0 (by omega), v 2 2 (by omega), v 13 i (by omega), v 14 i (by omega)]
    exact ⟨r 13 i 4 (by omega) x1, by omega, r 14 i 4 (by omega) x3, by omega, r 15 i 1 (by omega) x5, r 16 i 99 (by omega) x6, r 17 i 99 (by omega) x7⟩
  · obtain ⟨x1, x2, x3, x4, x5⟩ := bL i hi
    rw [v 18 i (by omega), v 19 i (by omega), v 2 8 (by omega)]
    refine ⟨r 18 i 64 (by omega) x1, r 19 i 64 (by omega) x2, x3, x4, fun z => ?_⟩
    obtain ⟨d, d0, d1, d2⟩ := x5 z
    refine ⟨d, d0, d1, fun j j1 j2 => ?_⟩
    have := d2 j j1 j2
    unfold rg at this ⊢
    rw [hmn 20 j (by omega), hmn 21 j (by omega), v 21 j (by omega)]; exact this
  · obtain ⟨r1, r2, r3, r4, ⟨r5, r6, r7, r8, r9, r10⟩, r11, r12, r13, r14⟩ := hR
    refine ⟨fun k hk => ?_, fun i hi => ?_, fun i hi => ?_, fun i hi => ?_, ⟨hc0.trans hm0.symm, by rw [hcn S 8 (by omega) (by omega) (by omega), hmn 2 4 (by omega)]; exact r6, by rw [hcn S 10 (by omega) (by omega) (by omega), hmn 2 5 (by omega)]; exact r7, by rw [hcn S 11 (by omega) (by omega) (by omega), hmn 2 6 (by omega)]; exact r8, by rw [hcn S 12 (by omega) (by omega) (by omega), hmn 2 7 (by omega)]; exact r9, by rw [hcn (S + 9) 3 (by omega) (by omega) (by omega), hmn 2 8 (by omega)]; exact r10⟩, fun i hi => ?_, fun i hi => ?_, fun i hi => ?_, fun i hi => ?_⟩
    · rw [hcn (S + 1) k (by omega) (by omega) (by omega), hmn 2 k (by omega)]; exact r1 k hk
    · rw [v 2 0 (by omega)] at hi
      rw [hcn (S + 2) i (by omega) (by omega) (by omega), hcn (S + 3) i (by omega) (by omega) (by omega), hmn 3 i (by omega), hmn 4 i (by omega)]; exact r2 i (by omega)
    · rw [v 2 1 (by omega)] at hi
      rw [hcn (S + 2) (5 + i) (by omega) (by omega) (by omega), hcn (S + 4) i (by omega) (by omega) (by omega), hcn (S + 5) i (by omega) (by omega) (by omega), hmn 5 i (by omega), hmn 6 i (by omega), hmn 7 i (by omega)]; exact r3 i (by omega)
    · rw [v 2 2 (by omega)] at hi
      rw [hcn (S + 2) (10 + i) (by omega) (by omega) (by omega), hcn (S + 6) i (by omega) (by omega) (by omega), hmn 8 i (by omega), hmn 9 i (by omega)]; exact r4 i (by omega)
    · rw [vc] at hi
      by_cases z : i = x
      · subst z
        exact ⟨hc1.trans hm1.symm, hc2.trans hm2.symm, hc3.trans hm3.symm, hc4⟩
      · rw [hcn (S + 7) (4 * i) (by omega) (by omega) (by omega), hcn (S + 7) (4 * i + 1) (by omega) (by omega) (by omega), hcn (S + 7) (4 * i + 2) (by omega) (by omega) (by omega), hcn (S + 7) (4 * i + 3) (by omega) (by omega) (by omega), hmn 10 i (by omega), hmn 11 i (by omega), hmn 12 i (by omega)]; exact r11 i (by omega)
    · rw [v 2 4 (by omega)] at hi
      rw [hcn (S + 8) (5 * i) (by omega) (by omega) (by omega), hcn (S + 8) (5 * i + 1) (by omega) (by omega) (by omega), hcn (S + 8) (5 * i + 2) (by omega) (by omega) (by omega), hcn (S + 8) (5 * i + 3) (by omega) (by omega) (by omega), hcn (S + 8) (5 * i + 4) (by omega) (by omega) (by omega), hmn 13 i (by omega), hmn 14 i (by omega), hmn 15 i (by omega), hmn 16 i (by omega), hmn 17 i (by omega)]; exact r12 i (by omega)
    · rw [hcn (S + 11) i (by omega) (by omega) (by omega), hcn (S + 12) i (by omega) (by omega) (by omega), hmn 18 i (by omega), hmn 19 i (by omega)]; exact r13 i hi
    · rw [v 2 8 (by omega)] at hi
      rw [hcn (S + 10) i (by omega) (by omega) (by omega), hmn 20 i (by omega), hmn 21 i (by omega)]; exact r14 i hi
theorem TD_want {x i1 i2 v1 v2 v3 : Nat} (hS : isT S) (h : WT mu) (hR : RT c mu S) (hx : x < 8) (hP : vl mu 2 4 = x) (hi1 : i1 < vl mu 2 0) (hi2 : i2 < vl mu 2 2) (hv1 : v1 ≤ 1) (hv2 : v2 ≤ 99) (hv3 : v3 ≤ 99) (hm0 : mu'.1 2 (4) = nI (x + 1)) (hm1 : mu'.1 13 (x) = nI i1) (hm2 : mu'.1 14 (x) = nI i2) (hm3 : mu'.1 15 (x) = nI v1) (hm4 : mu'.1 16 (x) = nI v2) (hm5 : mu'.1 17 (x) = nI v3) (hc0 : c'.1 (S) (8) = nI (x + 1)) (hc1 : c'.1 (S + 8) (5 * x) = nI i1) (hc2 : c'.1 (S + 8) (5 * x + 1) = nI i2) (hc3 : c'.1 (S + 8) (5 * x + 2) = nI v1) (hc4 : c'.1 (S + 8) (5 * x + 3) = nI v2) (hc5 : c'.1 (S + 8) (5 * x + 4) = nI v3) (hmn : ∀ o k, ¬ ((o = 2 ∧ k = 4) ∨ (o = 13 ∧ k = x) ∨ (o = 14 ∧ k = x) ∨ (o = 15 ∧ k = x) ∨ (o = 16 ∧ k = x) ∨ (o = 17 ∧ k = x)) → mu'.1 o k = mu.1 o k) (hcn : ∀ o k, S ≤ o → o ≤ S + 13 → ¬ ((o = S ∧ k = 8) ∨ (o = S + 8 ∧ k = 5 * x) ∨ (o = S + 8 ∧ k = 5 * x + 1) ∨ (o = S + 8 ∧ k = 5 * x + 2) ∨ (o = S + 8 ∧ k = 5 * x + 3) ∨ (o = S + 8 ∧ k = 5 * x + 4)) → c'.1 o k = c.1 o k) : WT mu' ∧ RT c' mu' S := by
  have hSl := isT_le hS
  obtain ⟨⟨a0, a1, a2, a3, a4, a5, a5', a6, a7, a8⟩, bP, bS, bD, bN, bW, bL⟩ := h
  have v : ∀ o k, ¬ ((o = 2 ∧ k = 4) ∨ (o = 13 ∧ k = x) ∨ (o = 14 ∧ k = x) ∨ (o = 15 ∧ k = x) ∨ (o = 16 ∧ k = x) ∨ (o = 17 ∧ k = x)) → vl mu' o k = vl mu o k := fun o k z => by unfold vl; rw [hmn o k z]
  have r : ∀ o k b, ¬ ((o = 2 ∧ k = 4) ∨ (o = 13 ∧ k = x) ∨ (o = 14 ∧ k = x) ∨ (o = 15 ∧ k = x) ∨ (o = 16 ∧ k = x) ∨ (o = 17 ∧ k = x)) → rg mu o k b → rg mu' o k b := fun o k b z hr => rg_fr hr (hmn o k z)
  have vc : vl mu' 2 4 = x + 1 := vl_of hm0 (by omega)
  have b0 := a0.2
  have b1 := a1.2
  have b2 := a2.2
  have b3 := a3.2
  have b4 := a4.2
  have b5 := a5.2
  have b6 := a6.2
  have b7 := a7.2
  have b8 := a8.2
  refine ⟨⟨⟨r 2 0 5 (by omega) a0, r 2 1 5 (by omega) a1, r 2 2 5 (by omega) a2, r 2 3 12 (by omega) a3, rg_of hm0 (by omega) (by omega), r 2 5 30 (by omega) a5, by rw [v 2 5 (by omega)]; omega, r 2 6 100 (by omega) a6, r 2 7 99999 (by omega) a7, r 2 8 64 (by omega) a8⟩, fun i hi => ?_, fun i hi => ?_, fun i hi => ?_, fun i hi => ?_, fun i hi => ?_, fun i hi => ?_⟩, ?_⟩
  · rw [v 2 0 (by omega)] at hi
    exact r 4 i 999 (by omega) (bP i (by omega))
  · rw [v 2 1 (by omega)] at hi
    obtain ⟨x1, x2, x3⟩ := bS i (by omega)
    exact ⟨r 6 i 9 (by omega) x1, by rw [v 6 i (by omega)]; exact x2, r 7 i 99 (by omega) x3⟩
  · rw [v 2 2 (by omega)] at hi
    exact r 9 i 31 (by omega) (bD i (by omega))
  · rw [v 2 3 (by omega)] at hi
    obtain ⟨x1, x2, x3, x4, x5⟩ := bN i (by omega)
    rw [v 2 0 (by omega), v 2 1 (by omega), v 10 i (by omega), v 11 i (by omega)]
    exact ⟨r 10 i 4 (by omega) x1, by omega, r 11 i 4 (by omega) x3, by omega, r 12 i 99 (by omega) x5⟩
  · rw [vc] at hi
    by_cases z : i = x
    · subst z
      rw [v 2 0 (by omega), v 2 2 (by omega), vl_of hm1 (by omega), vl_of hm2 (by omega)]
      exact ⟨rg_of hm1 (by omega) (by omega), hi1, rg_of hm2 (by omega) (by omega), hi2, rg_of hm3 hv1 (by omega), rg_of hm4 hv2 (by omega), rg_of hm5 hv3 (by omega)⟩
    · obtain ⟨x1, x2, x3, x4, x5, x6, x7⟩ := bW i (by omega)
      rw [v 2 0 (by omega), v 2 2 (by omega), v 13 i (by omega), v 14 i (by omega)]
      exact ⟨r 13 i 4 (by omega) x1, by omega, r 14 i 4 (by omega) x3, by omega, r 15 i 1 (by omega) x5, r 16 i 99 (by omega) x6, r 17 i 99 (by omega) x7⟩
  · obtain ⟨x1, x2, x3, x4, x5⟩ := bL i hi
    rw [v 18 i (by omega), v 19 i (by omega), v 2 8 (by omega)]
    refine ⟨r 18 i 64 (by omega) x1, r 19 i 64 (by omega) x2, x3, x4, fun z => ?_⟩
    obtain ⟨d, d0, d1, d2⟩ := x5 z
    refine ⟨d, d0, d1, fun j j1 j2 => ?_⟩
    have := d2 j j1 j2
    unfold rg at this ⊢
    rw [hmn 20 j (by omega), hmn 21 j (by omega), v 21 j (by omega)]; exact this
  · obtain ⟨r1, r2, r3, r4, ⟨r5, r6, r7, r8, r9, r10⟩, r11, r12, r13, r14⟩ := hR
    refine ⟨fun k hk => ?_, fun i hi => ?_, fun i hi => ?_, fun i hi => ?_, ⟨by rw [hcn S 6 (by omega) (by omega) (by omega), hmn 2 3 (by omega)]; exact r5, hc0.trans hm0.symm, by rw [hcn S 10 (by omega) (by omega) (by omega), hmn 2 5 (by omega)]; exact r7, by rw [hcn S 11 (by omega) (by omega) (by omega), hmn 2 6 (by omega)]; exact r8, by rw [hcn S 12 (by omega) (by omega) (by omega), hmn 2 7 (by omega)]; exact r9, by rw [hcn (S + 9) 3 (by omega) (by omega) (by omega), hmn 2 8 (by omega)]; exact r10⟩, fun i hi => ?_, fun i hi => ?_, fun i hi => ?_, fun i hi => ?_⟩
    · rw [hcn (S + 1) k (by omega) (by omega) (by omega), hmn 2 k (by omega)]; exact r1 k hk
    · rw [v 2 0 (by omega)] at hi
      rw [hcn (S + 2) i (by omega) (by omega) (by omega), hcn (S + 3) i (by omega) (by omega) (by omega), hmn 3 i (by omega), hmn 4 i (by omega)]; exact r2 i (by omega)
    · rw [v 2 1 (by omega)] at hi
      rw [hcn (S + 2) (5 + i) (by omega) (by omega) (by omega), hcn (S + 4) i (by omega) (by omega) (by omega), hcn (S + 5) i (by omega) (by omega) (by omega), hmn 5 i (by omega), hmn 6 i (by omega), hmn 7 i (by omega)]; exact r3 i (by omega)
    · rw [v 2 2 (by omega)] at hi
      rw [hcn (S + 2) (10 + i) (by omega) (by omega) (by omega), hcn (S + 6) i (by omega) (by omega) (by omega), hmn 8 i (by omega), hmn 9 i (by omega)]; exact r4 i (by omega)
    · rw [v 2 3 (by omega)] at hi
      rw [hcn (S + 7) (4 * i) (by omega) (by omega) (by omega), hcn (S + 7) (4 * i + 1) (by omega) (by omega) (by omega), hcn (S + 7) (4 * i + 2) (by omega) (by omega) (by omega), hcn (S + 7) (4 * i + 3) (by omega) (by omega) (by omega), hmn 10 i (by omega), hmn 11 i (by omega), hmn 12 i (by omega)]; exact r11 i (by omega)
    · rw [vc] at hi
      by_cases z : i = x
      · subst z
        exact ⟨hc1.trans hm1.symm, hc2.trans hm2.symm, hc3.trans hm3.symm, hc4.trans hm4.symm, hc5.trans hm5.symm⟩
      · rw [hcn (S + 8) (5 * i) (by omega) (by omega) (by omega), hcn (S + 8) (5 * i + 1) (by omega) (by omega) (by omega), hcn (S + 8) (5 * i + 2) (by omega) (by omega) (by omega), hcn (S + 8) (5 * i + 3) (by omega) (by omega) (by omega), hcn (S + 8) (5 * i + 4) (by omega) (by omega) (by omega), hmn 13 i (by omega), hmn 14 i (by omega), hmn 15 i (by omega), hmn 16 i (by omega), hmn 17 i (by omega)]; exact r12 i (by omega)
    · rw [hcn (S + 11) i (by omega) (by omega) (by omega), hcn (S + 12) i (by omega) (by omega) (by omega), hmn 18 i (by omega), hmn 19 i (by omega)]; exact r13 i hi
    · rw [v 2 8 (by omega)] at hi
      rw [hcn (S + 10) i (by omega) (by omega) (by omega), hmn 20 i (by omega), hmn 21 i (by omega)]; exact r14 i hi
theorem TD_room {v0 : Nat} (hS : isT S) (h : WT mu) (hR : RT c mu S) (hv1 : 1 ≤ v0) (hv : v0 ≤ 30) (hm0 : mu'.1 2 (5) = nI v0) (hc0 : c'.1 (S) (10) = nI v0) (hmn : ∀ o k, ¬ ((o = 2 ∧ k = 5)) → mu'.1 o k = mu.1 o k) (hcn : ∀ o k, S ≤ o → o ≤ S + 13 → ¬ ((o = S ∧ k = 10)) → c'.1 o k = c.1 o k) : WT mu' ∧ RT c' mu' S := by
  have hSl := isT_le hS
  obtain ⟨⟨a0, a1, a2, a3, a4, a5, a5', a6, a7, a8⟩, bP, bS, bD, bN, bW, bL⟩ := h
  have v : ∀ o k, ¬ ((o = 2 ∧ k = 5)) → vl mu' o k = vl mu o k := fun o k z => by unfold vl; rw [hmn o k z]
  have r : ∀ o k b, ¬ ((o = 2 ∧ k = 5)) → rg mu o k b → rg mu' o k b := fun o k b z hr => rg_fr hr (hmn o k z)
  have vc : vl mu' 2 5 = v0 := vl_of hm0 (by omega)
  have b0 := a0.2
  have b1 := a1.2
  have b2 := a2.2
  have b3 := a3.2
  have b4 := a4.2
  have b5 := a5.2
  have b6 := a6.2
  have b7 := a7.2
  have b8 := a8.2
  refine ⟨⟨⟨r 2 0 5 (by omega) a0, r 2 1 5 (by omega) a1, r 2 2 5 (by omega) a2, r 2 3 12 (by omega) a3, r 2 4 8 (by omega) a4, rg_of hm0 (by omega) (by omega), by rw [vc]; omega, r 2 6 100 (by omega) a6, r 2 7 99999 (by omega) a7, r 2 8 64 (by omega) a8⟩, fun i hi => ?_, fun i hi => ?_, fun i hi => ?_, fun i hi => ?_, fun i hi => ?_, fun i hi => ?_⟩, ?_⟩
  · rw [v 2 0 (by omega)] at hi
    exact r 4 i 999 (by omega) (bP i (by omega))
  · rw [v 2 1 (by omega)] at hi
    obtain ⟨x1, x2, x3⟩ := bS i (by omega)
    exact ⟨r 6 i 9 (by omega) x1, by rw [v 6 i (by omega)]; exact x2, r 7 i 99 (by omega) x3⟩
  · rw [v 2 2 (by omega)] at hi
    exact r 9 i 31 (by omega) (bD i (by omega))
  · rw [v 2 3 (by omega)] at hi
    obtain ⟨x1, x2, x3, x4, x5⟩ := bN i (by omega)
    rw [v 2 0 (by omega), v 2 1 (by omega), v 10 i (by omega), v 11 i (by omega)]
    exact ⟨r 10 i 4 (by omega) x1, by omega, r 11 i 4 (by omega) x3, by omega, r 12 i 99 (by omega) x5⟩
  · rw [v 2 4 (by omega)] at hi
    obtain ⟨x1, x2, x3, x4, x5, x6, x7⟩ := bW i (by omega)
    rw [v 2 0 (by omega), v 2 2 (by omega), v 13 i (by omega), v 14 i (by omega)]
    exact ⟨r 13 i 4 (by omega) x1, by omega, r 14 i 4 (by omega) x3, by omega, r 15 i 1 (by omega) x5, r 16 i 99 (by omega) x6, r 17 i 99 (by omega) x7⟩
  · obtain ⟨x1, x2, x3, x4, x5⟩ := bL i hi
    rw [v 18 i (by omega), v 19 i (by omega), v 2 8 (by omega)]
    refine ⟨r 18 i 64 (by omega) x1, r 19 i 64 (by omega) x2, x3, x4, fun z => ?_⟩
    obtain ⟨d, d0, d1, d2⟩ := x5 z
    refine ⟨d, d0, d1, fun j j1 j2 => ?_⟩
    have := d2 j j1 j2
    unfold rg at this ⊢
    rw [hmn 20 j (by omega), hmn 21 j (by omega), v 21 j (by omega)]; exact this
  · obtain ⟨r1, r2, r3, r4, ⟨r5, r6, r7, r8, r9, r10⟩, r11, r12, r13, r14⟩ := hR
    refine ⟨fun k hk => ?_, fun i hi => ?_, fun i hi => ?_, fun i hi => ?_, ⟨by rw [hcn S 6 (by omega) (by omega) (by omega), hmn 2 3 (by omega)]; exact r5, by rw [hcn S 8 (by omega) (by omega) (by omega), hmn 2 4 (by omega)]; exact r6, hc0.trans hm0.symm, by rw [hcn S 11 (by omega) (by omega) (by omega), hmn 2 6 (by omega)]; exact r8, by rw [hcn S 12 (by omega) (by omega) (by omega), hmn 2 7 (by omega)]; exact r9, by rw [hcn (S + 9) 3 (by omega) (by omega) (by omega), hmn 2 8 (by omega)]; exact r10⟩, fun i hi => ?_, fun i hi => ?_, fun i hi => ?_, fun i hi => ?_⟩
    · rw [hcn (S + 1) k (by omega) (by omega) (by omega), hmn 2 k (by omega)]; exact r1 k hk
    · rw [v 2 0 (by omega)] at hi
      rw [hcn (S + 2) i (by omega) (by omega) (by omega), hcn (S + 3) i (by omega) (by omega) (by omega), hmn 3 i (by omega), hmn 4 i (by omega)]; exact r2 i (by omega)
    · rw [v 2 1 (by omega)] at hi
      rw [hcn (S + 2) (5 + i) (by omega) (by omega) (by omega), hcn (S + 4) i (by omega) (by omega) (by omega), hcn (S + 5) i (by omega) (by omega) (by omega), hmn 5 i (by omega), hmn 6 i (by omega), hmn 7 i (by omega)]; exact r3 i (by omega)
    · rw [v 2 2 (by omega)] at hi
      rw [hcn (S + 2) (10 + i) (by omega) (by omega) (by omega), hcn (S + 6) i (by omega) (by omega) (by omega), hmn 8 i (by omega), hmn 9 i (by omega)]; exact r4 i (by omega)
    · rw [v 2 3 (by omega)] at hi
      rw [hcn (S + 7) (4 * i) (by omega) (by omega) (by omega), hcn (S + 7) (4 * i + 1) (by omega) (by omega) (by omega), hcn (S + 7) (4 * i + 2) (by omega) (by omega) (by omega), hcn (S + 7) (4 * i + 3) (by omega) (by omega) (by omega), hmn 10 i (by omega), hmn 11 i (by omega), hmn 12 i (by omega)]; exact r11 i (by omega)
    · rw [v 2 4 (by omega)] at hi
      rw [hcn (S + 8) (5 * i) (by omega) (by omega) (by omega), hcn (S + 8) (5 * i + 1) (by omega) (by omega) (by omega), hcn (S + 8) (5 * i + 2) (by omega) (by omega) (by omega), hcn (S + 8) (5 * i + 3) (by omega) (by omega) (by omega), hcn (S + 8) (5 * i + 4) (by omega) (by omega) (by omega), hmn 13 i (by omega), hmn 14 i (by omega), hmn 15 i (by omega), hmn 16 i (by omega), hmn 17 i (by omega)]; exact r12 i (by omega)
    · rw [hcn (S + 11) i (by omega) (by omega) (by omega), hcn (S + 12) i (by omega) (by omega) (by omega), hmn 18 i (by omega), hmn 19 i (by omega)]; exact r13 i hi
    · rw [v 2 8 (by omega)] at hi
      rw [hcn (S + 10) i (by omega) (by omega) (by omega), hmn 20 i (by omega), hmn 21 i (by omega)]; exact r14 i hi
theorem TD_storm {v0 : Nat} (hS : isT S) (h : WT mu) (hR : RT c mu S) (hv : v0 ≤ 100) (hm0 : mu'.1 2 (6) = nI v0) (hc0 : c'.1 (S) (11) = nI v0) (hmn : ∀ o k, ¬ ((o = 2 ∧ k = 6)) → mu'.1 o k = mu.1 o k) (hcn : ∀ o k, S ≤ o → o ≤ S + 13 → ¬ ((o = S ∧ k = 11)) → c'.1 o k = c.1 o k) : WT mu' ∧ RT c' mu' S := by
  have hSl := isT_le hS
  obtain ⟨⟨a0, a1, a2, a3, a4, a5, a5', a6, a7, a8⟩, bP, bS, bD, bN, bW, bL⟩ := h
  have v : ∀ o k, ¬ ((o = 2 ∧ k = 6)) → vl mu' o k = vl mu o k := fun o k z => by unfold vl; rw [hmn o k z]
  have r : ∀ o k b, ¬ ((o = 2 ∧ k = 6)) → rg mu o k b → rg mu' o k b := fun o k b z hr => rg_fr hr (hmn o k z)
  have vc : vl mu' 2 6 = v0 := vl_of hm0 (by omega)
  have b0 := a0.2
  have b1 := a1.2
  have b2 := a2.2
  have b3 := a3.2
  have b4 := a4.2
  have b5 := a5.2
  have b6 := a6.2
  have b7 := a7.2
  have b8 := a8.2
  refine ⟨⟨⟨r 2 0 5 (by omega) a0, r 2 1 5 (by omega) a1, r 2 2 5 (by omega) a2, r 2 3 12 (by omega) a3, r 2 4 8 (by omega) a4, r 2 5 30 (by omega) a5, by rw [v 2 5 (by omega)]; omega, rg_of hm0 (by omega) (by omega), r 2 7 99999 (by omega) a7, r 2 8 64 (by omega) a8⟩, fun i hi => ?_, fun i hi => ?_, fun i hi => ?_, fun i hi => ?_, fun i hi => ?_, fun i hi => ?_⟩, ?_⟩
  · rw [v 2 0 (by omega)] at hi
    exact r 4 i 999 (by omega) (bP i (by omega))
  · rw [v 2 1 (by omega)] at hi
    obtain ⟨x1, x2, x3⟩ := bS i (by omega)
    exact ⟨r 6 i 9 (by omega) x1, by rw [v 6 i (by omega)]; exact x2, r 7 i 99 (by omega) x3⟩
  · rw [v 2 2 (by omega)] at hi
    exact r 9 i 31 (by omega) (bD i (by omega))
  · rw [v 2 3 (by omega)] at hi
    obtain ⟨x1, x2, x3, x4, x5⟩ := bN i (by omega)
    rw [v 2 0 (by omega), v 2 1 (by omega), v 10 i (by omega), v 11 i (by omega)]
    exact ⟨r 10 i 4 (by omega) x1, by omega, r 11 i 4 (by omega) x3, by omega, r 12 i 99 (by omega) x5⟩
  · rw [v 2 4 (by omega)] at hi
    obtain ⟨x1, x2, x3, x4, x5, x6, x7⟩ := bW i (by omega)
    rw [v 2 0 (by omega), v 2 2 (by omega), v 13 i (by omega), v 14 i (by omega)]
    exact ⟨r 13 i 4 (by omega) x1, by omega, r 14 i 4 (by omega) x3, by omega, r 15 i 1 (by omega) x5, r 16 i 99 (by omega) x6, r 17 i 99 (by omega) x7⟩
  · obtain ⟨x1, x2, x3, x4, x5⟩ := bL i hi
    rw [v 18 i (by omega), v 19 i (by omega), v 2 8 (by omega)]
    refine ⟨r 18 i 64 (by omega) x1, r 19 i 64 (by omega) x2, x3, x4, fun z => ?_⟩
    obtain ⟨d, d0, d1, d2⟩ := x5 z
    refine ⟨d, d0, d1, fun j j1 j2 => ?_⟩
    have := d2 j j1 j2
    unfold rg at this ⊢
    rw [hmn 20 j (by omega), hmn 21 j (by omega), v 21 j (by omega)]; exact this
  · obtain ⟨r1, r2, r3, r4, ⟨r5, r6, r7, r8, r9, r10⟩, r11, r12, r13, r14⟩ := hR
    refine ⟨fun k hk => ?_, fun i hi => ?_, fun i hi => ?_, fun i hi => ?_, ⟨by rw [hcn S 6 (by omega) (by omega) (by omega), hmn 2 3 (by omega)]; exact r5, by rw [hcn S 8 (by omega) (by omega) (by omega), hmn 2 4 (by omega)]; exact r6, by rw [hcn S 10 (by omega) (by omega) (by omega), hmn 2 5 (by omega)]; exact r7, hc0.trans hm0.symm, by rw [hcn S 12 (by omega) (by omega) (by omega), hmn 2 7 (by omega)]; exact r9, by rw [hcn (S + 9) 3 (by omega) (by omega) (by omega), hmn 2 8 (by omega)]; exact r10⟩, fun i hi => ?_, fun i hi => ?_, fun i hi => ?_, fun i hi => ?_⟩
    · rw [hcn (S + 1) k (by omega) (by omega) (by omega), hmn 2 k (by omega)]; exact r1 k hk
    · rw [v 2 0 (by omega)] at hi
      rw [hcn (S + 2) i (by omega) (by omega) (by omega), hcn (S + 3) i (by omega) (by omega) (by omega), hmn 3 i (by omega), hmn 4 i (by omega)]; exact r2 i (by omega)
    · rw [v 2 1 (by omega)] at hi
      rw [hcn (S + 2) (5 + i) (by omega) (by omega) (by omega), hcn (S + 4) i (by omega) (by omega) (by omega), hcn (S + 5) i (by omega) (by omega) (by omega), hmn 5 i (by omega), hmn 6 i (by omega), hmn 7 i (by omega)]; exact r3 i (by omega)
    · rw [v 2 2 (by omega)] at hi
      rw [hcn (S + 2) (10 + i) (by omega) (by omega) (by omega), hcn (S + 6) i (by omega) (by omega) (by omega), hmn 8 i (by omega), hmn 9 i (by omega)]; exact r4 i (by omega)
    · rw [v 2 3 (by omega)] at hi
      rw [hcn (S + 7) (4 * i) (by omega) (by omega) (by omega), hcn (S + 7) (4 * i + 1) (by omega) (by omega) (by omega), hcn (S + 7) (4 * i + 2) (by omega) (by omega) (by omega), hcn (S + 7) (4 * i + 3) (by omega) (by omega) (by omega), hmn 10 i (by omega), hmn 11 i (by omega), hmn 12 i (by omega)]; exact r11 i (by omega)
    · rw [v 2 4 (by omega)] at hi
      rw [hcn (S + 8) (5 * i) (by omega) (by omega) (by omega), hcn (S + 8) (5 * i + 1) (by omega) (by omega) (by omega), hcn (S + 8) (5 * i + 2) (by omega) (by omega) (by omega), hcn (S + 8) (5 * i + 3) (by omega) (by omega) (by omega), hcn (S + 8) (5 * i + 4) (by omega) (by omega) (by omega), hmn 13 i (by omega), hmn 14 i (by omega), hmn 15 i (by omega), hmn 16 i (by omega), hmn 17 i (by omega)]; exact r12 i (by omega)
    · rw [hcn (S + 11) i (by omega) (by omega) (by omega), hcn (S + 12) i (by omega) (by omega) (by omega), hmn 18 i (by omega), hmn 19 i (by omega)]; exact r13 i hi
    · rw [v 2 8 (by omega)] at hi
      rw [hcn (S + 10) i (by omega) (by omega) (by omega), hmn 20 i (by omega), hmn 21 i (by omega)]; exact r14 i hi
theorem TD_seed {v0 : Nat} (hS : isT S) (h : WT mu) (hR : RT c mu S) (hv : v0 ≤ 99999) (hm0 : mu'.1 2 (7) = nI v0) (hc0 : c'.1 (S) (12) = nI v0) (hmn : ∀ o k, ¬ ((o = 2 ∧ k = 7)) → mu'.1 o k = mu.1 o k) (hcn : ∀ o k, S ≤ o → o ≤ S + 13 → ¬ ((o = S ∧ k = 12)) → c'.1 o k = c.1 o k) : WT mu' ∧ RT c' mu' S := by
  have hSl := isT_le hS
  obtain ⟨⟨a0, a1, a2, a3, a4, a5, a5', a6, a7, a8⟩, bP, bS, bD, bN, bW, bL⟩ := h
  have v : ∀ o k, ¬ ((o = 2 ∧ k = 7)) → vl mu' o k = vl mu o k := fun o k z => by unfold vl; rw [hmn o k z]
  have r : ∀ o k b, ¬ ((o = 2 ∧ k = 7)) → rg mu o k b → rg mu' o k b := fun o k b z hr => rg_fr hr (hmn o k z)
  have vc : vl mu' 2 7 = v0 := vl_of hm0 (by omega)
  have b0 := a0.2
  have b1 := a1.2
  have b2 := a2.2
  have b3 := a3.2
  have b4 := a4.2
  have b5 := a5.2
  have b6 := a6.2
  have b7 := a7.2
  have b8 := a8.2
  refine ⟨⟨⟨r 2 0 5 (by omega) a0, r 2 1 5 (by omega) a1, r 2 2 5 (by omega) a2, r 2 3 12 (by omega) a3, r 2 4 8 (by omega) a4, r 2 5 30 (by omega) a5, by rw [v 2 5 (by omega)]; omega, r 2 6 100 (by omega) a6, rg_of hm0 (by omega) (by omega), r 2 8 64 (by omega) a8⟩, fun i hi => ?_, fun i hi => ?_, fun i hi => ?_, fun i hi => ?_, fun i hi => ?_, fun i hi => ?_⟩, ?_⟩
  · rw [v 2 0 (by omega)] at hi
    exact r 4 i 999 (by omega) (bP i (by omega))
  · rw [v 2 1 (by omega)] at hi
    obtain ⟨x1, x2, x3⟩ := bS i (by omega)
    exact ⟨r 6 i 9 (by omega) x1, by rw [v 6 i (by omega)]; exact x2, r 7 i 99 (by omega) x3⟩
  · rw [v 2 2 (by omega)] at hi
    exact r 9 i 31 (by omega) (bD i (by omega))
  · rw [v 2 3 (by omega)] at hi
    obtain ⟨x1, x2, x3, x4, x5⟩ := bN i (by omega)
    rw [v 2 0 (by omega), v 2 1 (by omega), v 10 i (by omega), v 11 i (by omega)]
    exact ⟨r 10 i 4 (by omega) x1, by omega, r 11 i 4 (by omega) x3, by omega, r 12 i 99 (by omega) x5⟩
  · rw [v 2 4 (by omega)] at hi
    obtain ⟨x1, x2, x3, x4, x5, x6, x7⟩ := bW i (by omega)
    rw [v 2 0 (by omega), v 2 2 (by omega), v 13 i (by omega), v 14 i (by omega)]
    exact ⟨r 13 i 4 (by omega) x1, by omega, r 14 i 4 (by omega) x3, by omega, r 15 i 1 (by omega) x5, r 16 i 99 (by omega) x6, r 17 i 99 (by omega) x7⟩
  · obtain ⟨x1, x2, x3, x4, x5⟩ := bL i hi
    rw [v 18 i (by omega), v 19 i (by omega), v 2 8 (by omega)]
    refine ⟨r 18 i 64 (by omega) x1, r 19 i 64 (by omega) x2, x3, x4, fun z => ?_⟩
    obtain ⟨d, d0, d1, d2⟩ := x5 z
    refine ⟨d, d0, d1, fun j j1 j2 => ?_⟩
    have := d2 j j1 j2
    unfold rg at this ⊢
    rw [hmn 20 j (by omega), hmn 21 j (by omega), v 21 j (by omega)]; exact this
  · obtain ⟨r1, r2, r3, r4, ⟨r5, r6, r7, r8, r9, r10⟩, r11, r12, r13, r14⟩ := hR
    refine ⟨fun k hk => ?_, fun i hi => ?_, fun i hi => ?_, fun i hi => ?_, ⟨by rw [hcn S 6 (by omega) (by omega) (by omega), hmn 2 3 (by omega)]; exact r5, by rw [hcn S 8 (by omega) (by omega) (by omega), hmn 2 4 (by omega)]; exact r6, by rw [hcn S 10 (by omega) (by omega) (by omega), hmn 2 5 (by omega)]; exact r7, by rw [hcn S 11 (by omega) (by omega) (by omega), hmn 2 6 (by omega)]; exact r8, hc0.trans hm0.symm, by rw [hcn (S + 9) 3 (by omega) (by omega) (by omega), hmn 2 8 (by omega)]; exact r10⟩, fun i hi => ?_, fun i hi => ?_, fun i hi => ?_, fun i hi => ?_⟩
    · rw [hcn (S + 1) k (by omega) (by omega) (by omega), hmn 2 k (by omega)]; exact r1 k hk
    · rw [v 2 0 (by omega)] at hi
      rw [hcn (S + 2) i (by omega) (by omega) (by omega), hcn (S + 3) i (by omega) (by omega) (by omega), hmn 3 i (by omega), hmn 4 i (by omega)]; exact r2 i (by omega)
    · rw [v 2 1 (by omega)] at hi
      rw [hcn (S + 2) (5 + i) (by omega) (by omega) (by omega), hcn (S + 4) i (by omega) (by omega) (by omega), hcn (S + 5) i (by omega) (by omega) (by omega), hmn 5 i (by omega), hmn 6 i (by omega), hmn 7 i (by omega)]; exact r3 i (by omega)
    · rw [v 2 2 (by omega)] at hi
      rw [hcn (S + 2) (10 + i) (by omega) (by omega) (by omega), hcn (S + 6) i (by omega) (by omega) (by omega), hmn 8 i (by omega), hmn 9 i (by omega)]; exact r4 i (by omega)
    · rw [v 2 3 (by omega)] at hi
      rw [hcn (S + 7) (4 * i) (by omega) (by omega) (by omega), hcn (S + 7) (4 * i + 1) (by omega) (by omega) (by omega), hcn (S + 7) (4 * i + 2) (by omega) (by omega) (by omega), hcn (S + 7) (4 * i + 3) (by omega) (by omega) (by omega), hmn 10 i (by omega), hmn 11 i (by omega), hmn 12 i (by omega)]; exact r11 i (by omega)
    · rw [v 2 4 (by omega)] at hi
      rw [hcn (S + 8) (5 * i) (by omega) (by omega) (by omega), hcn (S + 8) (5 * i + 1) (by omega) (by omega) (by omega), hcn (S + 8) (5 * i + 2) (by omega) (by omega) (by omega), hcn (S + 8) (5 * i + 3) (by omega) (by omega) (by omega), hcn (S + 8) (5 * i + 4) (by omega) (by omega) (by omega), hmn 13 i (by omega), hmn 14 i (by omega), hmn 15 i (by omega), hmn 16 i (by omega), hmn 17 i (by omega)]; exact r12 i (by omega)
    · rw [hcn (S + 11) i (by omega) (by omega) (by omega), hcn (S + 12) i (by omega) (by omega) (by omega), hmn 18 i (by omega), hmn 19 i (by omega)]; exact r13 i hi
    · rw [v 2 8 (by omega)] at hi
      rw [hcn (S + 10) i (by omega) (by omega) (by omega), hmn 20 i (by omega), hmn 21 i (by omega)]; exact r14 i hi
end L
