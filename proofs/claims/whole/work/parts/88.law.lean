/-! a law's line: what is told after it -/
section L
variable {F : Nat} {c m c' m' c1 m1 mu mu' : g_M} {n p q S f : Nat}
theorem TD_law {w0 w1 rr : Nat} (hS : isT S) (h : WT mu) (hR : RT c mu S) (hr : rr < 3) (hw0 : vl mu 2 8 = w0) (hlt : w0 < w1) (hw1 : w1 ≤ 64) (hm0 : mu'.1 2 8 = nI w1) (hm1 : mu'.1 18 rr = nI w0) (hm2 : mu'.1 19 rr = nI w1) (hc0 : c'.1 (S + 9) 3 = nI w1) (hc1 : c'.1 (S + 11) rr = nI w0) (hc2 : c'.1 (S + 12) rr = nI w1) (hcd : ∀ i, i < w1 → c'.1 (S + 10) i = enc (mu'.1 20 i) (mu'.1 21 i)) (hwf : wfl mu' w0 w1) (hmn : ∀ o k, ¬ ((o = 2 ∧ k = 8) ∨ (o = 18 ∧ k = rr) ∨ (o = 19 ∧ k = rr) ∨ ((o = 20 ∨ o = 21) ∧ w0 ≤ k)) → mu'.1 o k = mu.1 o k) (hcn : ∀ o k, S ≤ o → o ≤ S + 13 → ¬ ((o = S + 9 ∧ k = 3) ∨ (o = S + 11 ∧ k = rr) ∨ (o = S + 12 ∧ k = rr) ∨ (o = S + 10 ∧ w0 ≤ k)) → c'.1 o k = c.1 o k) : WT mu' ∧ RT c' mu' S := by
  have hSl := isT_le hS
  obtain ⟨⟨a0, a1, a2, a3, a4, a5, a5', a6, a7, a8⟩, bP, bS, bD, bN, bW, bL⟩ := h
  have v : ∀ o k, ¬ ((o = 2 ∧ k = 8) ∨ (o = 18 ∧ k = rr) ∨ (o = 19 ∧ k = rr) ∨ ((o = 20 ∨ o = 21) ∧ w0 ≤ k)) → vl mu' o k = vl mu o k := fun o k z => by unfold vl; rw [hmn o k z]
  have r : ∀ o k b, ¬ ((o = 2 ∧ k = 8) ∨ (o = 18 ∧ k = rr) ∨ (o = 19 ∧ k = rr) ∨ ((o = 20 ∨ o = 21) ∧ w0 ≤ k)) → rg mu o k b → rg mu' o k b := fun o k b z hr => rg_fr hr (hmn o k z)
  have vc : vl mu' 2 8 = w1 := vl_of hm0 (by omega)
  have b0 := a0.2
  have b1 := a1.2
  have b2 := a2.2
  have b3 := a3.2
  have b4 := a4.2
  have b5 := a5.2
  have b6 := a6.2
  have b7 := a7.2
  refine ⟨⟨⟨r 2 0 5 (by omega) a0, r 2 1 5 (by omega) a1, r 2 2 5 (by omega) a2, r 2 3 12 (by omega) a3, r 2 4 8 (by omega) a4, r 2 5 30 (by omega) a5, by rw [v 2 5 (by omega)]; omega, r 2 6 100 (by omega) a6, r 2 7 99999 (by omega) a7, rg_of hm0 (by omega) (by omega)⟩, fun i hi => ?_, fun i hi => ?_, fun i hi => ?_, fun i hi => ?_, fun i hi => ?_, fun i hi => ?_⟩, ?_⟩
  · rw [v 2 0 (by omega)] at hi
    exact r 4 i 999 (by omega) (bP i (by omega))
  · rw [v 2 1 (by omega)] at hi
    obtain ⟨x1, x2, x3⟩ := bS i (by omega)
    exact ⟨r 6 i 9 (by omega) x1, by rw [v 6 i (by omega)]; exact x2, r 7 i 99 (by omega) x3⟩
  · rw [v 2 2 (by omega)] at hi
    exact r 9 i 31 (by omega) (bD i (by omega))
  · rw [v 2 3 (by omega)] at hi
    obtain ⟨x1, x2, x3, x4, x5⟩ := bN i (by omega)
    rw [v 2 0 (by omega), v 2 1 (by omega), v 10 i (by omega), v 11 i (by omega)]
    exact ⟨r 10 i 4 (by omega) x1, by omega, r 11 i 4 (by omega) x3, by omega, r 12 i 99 (by omega) x5⟩
  · rw [v 2 4 (by omega)] at hi
    obtain ⟨x1, x2, x3, x4, x5, x6, x7⟩ := bW i (by omega)
    rw [v 2 0 (by omega), v 2 2 (by omega), v 13 i (by omega), v 14 i (by omega)]
    exact ⟨r 13 i 4 (by omega) x1, by omega, r 14 i 4 (by omega) x3, by omega, r 15 i 1 (by omega) x5, r 16 i 99 (by omega) x6, r 17 i 99 (by omega) x7⟩
  · rw [vc]
    by_cases z : i = rr
    · subst z
      have e18 : vl mu' 18 i = w0 := vl_of hm1 (by omega)
      have e19 : vl mu' 19 i = w1 := vl_of hm2 (by omega)
      rw [e18, e19]
      exact ⟨rg_of hm1 (by omega) (by omega), rg_of hm2 (by omega) (by omega), by omega, by omega, fun _ => hwf⟩
    · obtain ⟨x1, x2, x3, x4, x5⟩ := bL i hi
      rw [v 18 i (by omega), v 19 i (by omega)]
      refine ⟨r 18 i 64 (by omega) x1, r 19 i 64 (by omega) x2, x3, by omega, fun z => ?_⟩
      obtain ⟨d, d0, d1, d2⟩ := x5 z
      refine ⟨d, d0, d1, fun j j1 j2 => ?_⟩
      have := d2 j j1 j2
      unfold rg at this ⊢
      rw [hmn 20 j (by omega), hmn 21 j (by omega), v 21 j (by omega)]; exact this
  · obtain ⟨r1, r2, r3, r4, ⟨r5, r6, r7, r8, r9, r10⟩, r11, r12, r13, r14⟩ := hR
    refine ⟨fun k hk => ?_, fun i hi => ?_, fun i hi => ?_, fun i hi => ?_, ⟨by rw [hcn S 6 (by omega) (by omega) (by omega), hmn 2 3 (by omega)]; exact r5, by rw [hcn S 8 (by omega) (by omega) (by omega), hmn 2 4 (by omega)]; exact r6, by rw [hcn S 10 (by omega) (by omega) (by omega), hmn 2 5 (by omega)]; exact r7, by rw [hcn S 11 (by omega) (by omega) (by omega), hmn 2 6 (by omega)]; exact r8, by rw [hcn S 12 (by omega) (by omega) (by omega), hmn 2 7 (by omega)]; exact r9, hc0.trans hm0.symm⟩, fun i hi => ?_, fun i hi => ?_, fun i hi => ?_, fun i hi => ?_⟩
    · rw [hcn (S + 1) k (by omega) (by omega) (by omega), hmn 2 k (by omega)]; exact r1 k hk
    · rw [v 2 0 (by omega)] at hi
      rw [hcn (S + 2) i (by omega) (by omega) (by omega), hcn (S + 3) i (by omega) (by omega) (by omega), hmn 3 i (by omega), hmn 4 i (by omega)]; exact r2 i (by omega)
    · rw [v 2 1 (by omega)] at hi
      rw [hcn (S + 2) (5 + i) (by omega) (by omega) (by omega), hcn (S + 4) i (by omega) (by omega) (by omega), hcn (S + 5) i (by omega) (by omega) (by omega), hmn 5 i (by omega), hmn 6 i (by omega), hmn 7 i (by omega)]; exact r3 i (by omega)
    · rw [v 2 2 (by omega)] at hi
      rw [hcn (S + 2) (10 + i) (by omega) (by omega) (by omega), hcn (S + 6) i (by omega) (by omega) (by omega), hmn 8 i (by omega), hmn 9 i (by omega)]; exact r4 i (by omega)
    · rw [v 2 3 (by omega)] at hi
      rw [hcn (S + 7) (4 * i) (by omega) (by omega) (by omega), hcn (S + 7) (4 * i + 1) (by omega) (by omega) (by omega), hcn (S + 7) (4 * i + 2) (by omega) (by omega) (by omega), hcn (S + 7) (4 * i + 3) (by omega) (by omega) (by omega), hmn 10 i (by omega), hmn 11 i (by omega), hmn 12 i (by omega)]; exact r11 i (by omega)
    · rw [v 2 4 (by omega)] at hi
      rw [hcn (S + 8) (5 * i) (by omega) (by omega) (by omega), hcn (S + 8) (5 * i + 1) (by omega) (by omega) (by omega), hcn (S + 8) (5 * i + 2) (by omega) (by omega) (by omega), hcn (S + 8) (5 * i + 3) (by omega) (by omega) (by omega), hcn (S + 8) (5 * i + 4) (by omega) (by omega) (by omega), hmn 13 i (by omega), hmn 14 i (by omega), hmn 15 i (by omega), hmn 16 i (by omega), hmn 17 i (by omega)]; exact r12 i (by omega)
    · by_cases z : i = rr
      · subst z
        exact ⟨hc1.trans hm1.symm, hc2.trans hm2.symm⟩
      · rw [hcn (S + 11) i (by omega) (by omega) (by omega), hcn (S + 12) i (by omega) (by omega) (by omega), hmn 18 i (by omega), hmn 19 i (by omega)]; exact r13 i hi
    · rw [vc] at hi
      exact hcd i hi
/-- the depths, as the law's rows are told -/
theorem PSG_wfl {a b : Nat} (h : PSG m a b) (hb : b ≤ 64) : wfl (up m) a b := by
  obtain ⟨d, d1, d2, d3⟩ := h.2 0
  have hbd : ∀ j, a + j ≤ b → d (a + j) ≤ j := by
    intro j
    induction j with
    | zero => intro _; rw [Nat.add_zero, d1]; exact Nat.le_refl _
    | succ j ih =>
      intro hj
      have h1 := ih (by omega)
      have h2 := d3 (a + j) (by omega) (by omega)
      have e : a + (j + 1) = a + j + 1 := by omega
      rw [e]
      rcases h2 with ⟨_, _, y⟩ | ⟨_, _, y⟩ | ⟨_, _, _, y⟩ | ⟨_, _, _, y⟩ <;> omega
  have u20 : ∀ i, i < 64 → (up m).1 20 i = m.1 20 (64 + i) := fun i hi => up_at (m := m) (o := 20) (k := i) (by omega) (by omega) hi
  have u21 : ∀ i, i < 64 → (up m).1 21 i = m.1 21 (64 + i) := fun i hi => up_at (m := m) (o := 21) (k := i) (by omega) (by omega) hi
  refine ⟨d, d1, d2, fun i h1 h2 => ⟨?_, ?_⟩⟩
  · have := hbd (i - a) (by omega)
    rw [show a + (i - a) = i by omega] at this
    exact this
  · have := d3 i h1 h2
    unfold STP at this
    unfold rg vl at this ⊢
    rw [u20 i (by omega), u21 i (by omega)]
    exact this
end L
