/-! reading a text, whole -/
section L
variable {F : Nat} {c m c' m' c1 m1 : g_M} {n p q S f : Nat}
theorem gb_00 {j : Nat} (h : j < 32) : gb (0 : Int32) j = false := by
  have t : ∀ i : Fin 32, gb (0 : Int32) i.val = false := by decide
  exact t ⟨j, h⟩
theorem sR_at {o k : Nat} {v : Option Nat} : (g_sR c o k v).2.2 o k = v := by
  show g_up c.2.2 o k v o k = v
  unfold g_up
  rw [if_pos rfl, if_pos rfl]
theorem sR_ot {o k a b : Nat} {v : Option Nat} (h : ¬ (a = o ∧ b = k)) : (g_sR c o k v).2.2 a b = c.2.2 a b := by
  show g_up c.2.2 o k v a b = _
  unfold g_up
  rw [if2, if_neg h]
theorem rd_all (hF : 5000 < F) (hS : isT S) (hB : BY c m n) (hw : WRD c) (m25 : m.1 0 25 = nI n) (m26 : m.1 0 26 = nI 0) (m30 : m.1 0 30 = nI 0) (m31 : m.1 0 31 = -1) : ∃ c' m', f5_reads F (nI n) S c = f5_reads_b107 F (nI n) S c' ∧ f11_text_b47 F (nI n) (0 : Int32) m = f11_text_b149 F (nI n) m' ∧ ((∃ p' q', NC c' m' n p' q' ∧ TOLD c' m' S) ∨ (FO c' m' n ∧ SD c' S)) ∧ FRC c c' S ∧ FRM m m' := by
  have hSl := isT_le hS
  have hn := hB.1
  obtain ⟨b, hb⟩ : ∃ y, y = g_sI (g_sI (g_sI (g_sI (g_sI (g_sI (g_sI (g_sI (g_sI (g_sR c 30 5 (some S)) (S + 1) 0 (0 : Int32)) (S + 1) 1 (0 : Int32)) (S + 1) 2 (0 : Int32)) S 6 (0 : Int32)) S 8 (0 : Int32)) S 10 (9 : Int32)) S 11 (0 : Int32)) S 12 (0 : Int32)) (S + 9) 3 (0 : Int32) := ⟨_, rfl⟩
  obtain ⟨d, hd⟩ : ∃ y, y = g_sI (g_sI (g_sI (g_sI (g_sI (g_sI (g_sI (g_sI (clL b S 3) 30 0 (0 : Int32)) 30 1 (-1 : Int32)) 30 2 (0 : Int32)) 30 6 (0 : Int32)) 30 7 (0 : Int32)) 30 8 (0 : Int32)) 31 4 (nI n)) 31 5 (0 : Int32) := ⟨_, rfl⟩
  obtain ⟨e, he⟩ : ∃ y, y = g_sI (g_sI (g_sI (g_sI (hzM (rsM m 9) 3) 0 23 (0 : Int32)) 0 24 (0 : Int32)) 0 34 (0 : Int32)) 0 35 (0 : Int32) := ⟨_, rfl⟩
  have eC : f5_reads F (nI n) S c = (f8_step F d).bind (fun r19 => f5_reads_b59 F (nI n) S (0 : Int32) r19) := by
    unfold f5_reads f8_begin
    rw [g_let_e, g_drT (show (g_sR c 30 5 (some S)).2.2 30 5 = some S from sR_at) hS, q_clear hF, ← hb, g_bs, g_let_e, g_let_e, g_let_e, g_let_e, g_let_e, g_let_e, if_neg (show ¬ (700 : Int32) < nI n from fun y => by have := (g_ltN (a := 700) (by omega) (by omega)).mp y; omega), g_let_e, g_let_e, g_bs, ← hd]
  have eM : f11_text_b47 F (nI n) (0 : Int32) m = (f11_token F e).bind (fun r44 => f11_text_b127 F (nI n) r44) := by rw [r_reset hF, r_zero hF, ← he]
  have bn : ∀ o k, ¬ (S ≤ o ∧ o ≤ S + 13) → b.1 o k = c.1 o k := fun o k y => by
    rw [hb, sI_o (by omega), sI_o (by omega), sI_o (by omega), sI_o (by omega), sI_o (by omega), sI_o (by omega), sI_o (by omega), sI_o (by omega), sI_o (by omega)]; rfl
  have dS : ∀ o k, ¬ (o = 30 ∨ o = 31) → d.1 o k = (clL b S 3).1 o k := fun o k y => by
    rw [hd, sI_o (by omega), sI_o (by omega), sI_o (by omega), sI_o (by omega), sI_o (by omega), sI_o (by omega), sI_o (by omega), sI_o (by omega)]
  have dn : ∀ o k, ¬ (o = 30 ∨ o = 31) → ¬ (S ≤ o ∧ o ≤ S + 13) → d.1 o k = c.1 o k := fun o k y1 y2 => by
    rw [dS o k y1, clL_ne 3 (by omega) (by omega)]; exact bn o k y2
  have dr : d.2 = (g_sR c 30 5 (some S)).2 := by
    rw [hd]; show (clL b S 3).2 = _
    rw [clL_r, hb]; rfl
  have en : ∀ o k, ¬ (o = 0 ∧ (k = 23 ∨ k = 24 ∨ k = 34 ∨ k = 35)) → ¬ (o = 2 ∧ 9 ≤ k) → ¬ ((o = 18 ∨ o = 19) ∧ 3 ≤ k) → e.1 o k = m.1 o k := fun o k y1 y2 y3 => by
    rw [he, sI_ne (by omega), sI_ne (by omega), sI_ne (by omega), sI_ne (by omega), hzM_ne 3 y3, rsM_ne 9 y2]
  have e2 : ∀ j, j < 9 → e.1 2 (9 + j) = if j = 5 then (9 : Int32) else (0 : Int32) := fun j hj => by
    rw [he, sI_o (by omega), sI_o (by omega), sI_o (by omega), sI_o (by omega), hzM_ne 3 (by omega)]; exact rsM_at 9 hj
  have e18 : ∀ r, r < 3 → e.1 18 (3 + r) = 0 ∧ e.1 19 (3 + r) = 0 := fun r hr => by
    rw [he, sI_o (by omega), sI_o (by omega), sI_o (by omega), sI_o (by omega), sI_o (by omega), sI_o (by omega), sI_o (by omega), sI_o (by omega)]; exact hzM_at 3 hr
  have hL : LPx d e n 0 := ⟨⟨hn, fun i hi => by
    have := hB.2 i hi
    unfold vl at this ⊢
    rw [en 1 i (by omega) (by omega) (by omega), dn 1 i (by omega) (by omega)]; exact this⟩, by omega, by rw [hd, sI_ne (by omega), sI_eq], by rw [en 0 25 (by omega) (by omega) (by omega)]; exact m25, by rw [hd, sI_eq]; rfl, by rw [en 0 26 (by omega) (by omega) (by omega)]; exact m26, by
    unfold WRD at hw ⊢
    rw [show d.1 32 = c.1 32 by funext k; exact dn 32 k (by omega) (by omega)]; exact hw⟩
  obtain ⟨c1, m1, p1, q1, s1, s2, s3, s4, s5, s6⟩ := lex (F := F) hF hL
  have c30 : ∀ k, c1.1 30 k = d.1 30 k := fun k => s5.2 30 k (by omega)
  have d30 : d.1 30 0 = 0 ∧ d.1 30 1 = -1 ∧ d.1 30 2 = 0 ∧ d.1 30 6 = 0 ∧ d.1 30 7 = 0 ∧ d.1 30 8 = 0 := by
    refine ⟨?_, ?_, ?_, ?_, ?_, ?_⟩
    · rw [hd, sI_o (by omega), sI_o (by omega), sI_ne (by omega), sI_ne (by omega), sI_ne (by omega), sI_ne (by omega), sI_ne (by omega), sI_eq]
    · rw [hd, sI_o (by omega), sI_o (by omega), sI_ne (by omega), sI_ne (by omega), sI_ne (by omega), sI_ne (by omega), sI_eq]
    · rw [hd, sI_o (by omega), sI_o (by omega), sI_ne (by omega), sI_ne (by omega), sI_ne (by omega), sI_eq]
    · rw [hd, sI_o (by omega), sI_o (by omega), sI_ne (by omega), sI_ne (by omega), sI_eq]
    · rw [hd, sI_o (by omega), sI_o (by omega), sI_ne (by omega), sI_eq]
    · rw [hd, sI_o (by omega), sI_o (by omega), sI_eq]
  have hN : NC c1 m1 n p1 q1 := ⟨s3, by rw [c30]; exact d30.1, by rw [s6.2 0 30 (by omega), en 0 30 (by omega) (by omega) (by omega)]; exact m30⟩
  have u2 : ∀ j, j < 9 → (up m1).1 2 j = if j = 5 then (9 : Int32) else (0 : Int32) := fun j hj => by
    rw [up_at (by omega) (by omega) (show j < 9 from hj)]
    show m1.1 2 (9 + j) = _
    rw [s6.2 2 _ (by omega)]; exact e2 j hj
  have u18 : ∀ r, r < 3 → (up m1).1 18 r = nI 0 ∧ (up m1).1 19 r = nI 0 := fun r hr => by
    rw [up_at (by omega) (by omega) (show r < 3 from hr), up_at (by omega) (by omega) (show r < 3 from hr)]
    show m1.1 18 (3 + r) = nI 0 ∧ m1.1 19 (3 + r) = nI 0
    rw [s6.2 18 _ (by omega), s6.2 19 _ (by omega)]; exact e18 r hr
  have z2 : ∀ j, j < 9 → j ≠ 5 → (up m1).1 2 j = nI 0 := fun j hj h5 => by rw [u2 j hj, if_neg h5]; rfl
  have z25 : (up m1).1 2 5 = nI 9 := u2 5 (by omega)
  have v0 : ∀ j, j < 9 → j ≠ 5 → vl (up m1) 2 j = 0 := fun j hj h5 => vl_of (z2 j hj h5) (by omega)
  have hW : WT (up m1) := ⟨⟨rg_of (z2 0 (by omega) (by omega)) (by omega) (by omega), rg_of (z2 1 (by omega) (by omega)) (by omega) (by omega), rg_of (z2 2 (by omega) (by omega)) (by omega) (by omega), rg_of (z2 3 (by omega) (by omega)) (by omega) (by omega), rg_of (z2 4 (by omega) (by omega)) (by omega) (by omega), rg_of z25 (by omega) (by omega), by rw [vl_of z25 (by omega)]; omega, rg_of (z2 6 (by omega) (by omega)) (by omega) (by omega), rg_of (z2 7 (by omega) (by omega)) (by omega) (by omega), rg_of (z2 8 (by omega) (by omega)) (by omega) (by omega)⟩, fun i hi => by rw [v0 0 (by omega) (by omega)] at hi; omega, fun i hi => by rw [v0 1 (by omega) (by omega)] at hi; omega, fun i hi => by rw [v0 2 (by omega) (by omega)] at hi; omega, fun i hi => by rw [v0 3 (by omega) (by omega)] at hi; omega, fun i hi => by rw [v0 4 (by omega) (by omega)] at hi; omega, fun r hr => by
    obtain ⟨y1, y2⟩ := u18 r hr
    rw [vl_of y1 (by omega), vl_of y2 (by omega)]
    exact ⟨rg_of y1 (by omega) (by omega), rg_of y2 (by omega) (by omega), by omega, by omega, fun z => by omega⟩⟩
  have c1S : ∀ o k, S ≤ o → o ≤ S + 10 → c1.1 o k = b.1 o k := fun o k y1 y2 => by rw [s5.2 o k (by omega), dS o k (by omega), clL_ne 3 (by omega) (by omega)]
  have hR : RT c1 (up m1) S := by
    refine ⟨fun k hk => ?_, fun i hi => by rw [v0 0 (by omega) (by omega)] at hi; omega, fun i hi => by rw [v0 1 (by omega) (by omega)] at hi; omega, fun i hi => by rw [v0 2 (by omega) (by omega)] at hi; omega, ⟨?_, ?_, ?_, ?_, ?_, ?_⟩, fun i hi => by rw [v0 3 (by omega) (by omega)] at hi; omega, fun i hi => by rw [v0 4 (by omega) (by omega)] at hi; omega, fun r hr => ?_, fun i hi => by rw [v0 8 (by omega) (by omega)] at hi; omega⟩
    · rw [c1S (S + 1) k (by omega) (by omega), z2 k (by omega) (by omega), hb, sI_o (by omega), sI_o (by omega), sI_o (by omega), sI_o (by omega), sI_o (by omega), sI_o (by omega)]
      rcases (show k = 0 ∨ k = 1 ∨ k = 2 by omega) with rfl | rfl | rfl
      · rw [sI_ne (by omega), sI_ne (by omega), sI_eq]; rfl
      · rw [sI_ne (by omega), sI_eq]; rfl
      · rw [sI_eq]; rfl
    · rw [c1S S 6 (by omega) (by omega), z2 3 (by omega) (by omega), hb, sI_o (by omega), sI_ne (by omega), sI_ne (by omega), sI_ne (by omega), sI_ne (by omega), sI_eq]; rfl
    · rw [c1S S 8 (by omega) (by omega), z2 4 (by omega) (by omega), hb, sI_o (by omega), sI_ne (by omega), sI_ne (by omega), sI_ne (by omega), sI_eq]; rfl
    · rw [c1S S 10 (by omega) (by omega), z25, hb, sI_o (by omega), sI_ne (by omega), sI_ne (by omega), sI_eq]; rfl
    · rw [c1S S 11 (by omega) (by omega), z2 6 (by omega) (by omega), hb, sI_o (by omega), sI_ne (by omega), sI_eq]; rfl
    · rw [c1S S 12 (by omega) (by omega), z2 7 (by omega) (by omega), hb, sI_o (by omega), sI_eq]; rfl
    · rw [c1S (S + 9) 3 (by omega) (by omega), z2 8 (by omega) (by omega), hb, sI_eq]; rfl
    · obtain ⟨y1, y2⟩ := u18 r hr
      have ha := clL_at (c := b) (S := S) 3 hr
      rw [y1, y2, s5.2 (S + 11) r (by omega), s5.2 (S + 12) r (by omega), dS (S + 11) r (by omega), dS (S + 12) r (by omega)]
      exact ha
  have m1e : ∀ k, ¬ (26 ≤ k ∧ k ≤ 29) → m1.1 0 k = e.1 0 k := fun k y => s6.2 0 k (by omega)
  have e0 : e.1 0 23 = 0 ∧ e.1 0 24 = 0 ∧ e.1 0 34 = 0 ∧ e.1 0 35 = 0 := by
    refine ⟨?_, ?_, ?_, ?_⟩
    · rw [he, sI_ne (by omega), sI_ne (by omega), sI_ne (by omega), sI_eq]
    · rw [he, sI_ne (by omega), sI_ne (by omega), sI_eq]
    · rw [he, sI_ne (by omega), sI_eq]
    · rw [he, sI_eq]
  have hT : TOLD c1 m1 S := by
    refine ⟨hS, by rw [s5.1, dr]; exact sR_at, hW, hR, ⟨?_, ?_, ?_, fun r hr => ?_⟩, ⟨?_, ?_⟩, ?_, ?_, ?_⟩
    · rw [m1e 23 (by omega), e0.1, gb_00 (by omega), c30, d30.2.2.2.1]; rfl
    · rw [m1e 23 (by omega), e0.1, gb_00 (by omega), c30, d30.2.2.2.2.1]; rfl
    · rw [m1e 23 (by omega), e0.1, gb_00 (by omega), c30, d30.2.2.2.2.2]; rfl
    · obtain ⟨y1, y2⟩ := u18 r hr
      rw [m1e 23 (by omega), e0.1, gb_00 (by omega), vl_of y1 (by omega), vl_of y2 (by omega)]; rfl
    · rw [m1e 34 (by omega), e0.2.2.1]; rfl
    · rw [m1e 35 (by omega), e0.2.2.2, s6.2 2 17 (by omega)]; exact (e2 8 (by omega)).symm
    · rw [m1e 24 (by omega), e0.2.1, c30]; exact d30.2.2.1
    · rw [c30]; exact d30.2.1
    · rw [m1e 31 (by omega), en 0 31 (by omega) (by omega) (by omega)]; exact m31
  obtain ⟨c', m', g1, g2, g3, g4, g5⟩ := all_lines (F := F) (n := n) (S := S) hF (a := nI n) (700 - q1) F F 0 c1 m1 p1 q1 (Nat.le_refl _) (by omega) (by omega) (by omega) hN hT
  refine ⟨c', m', by rw [eC, s1, g_bs]; exact g1, by rw [eM, s2, g_bs]; exact g2, g3, ?_, ?_⟩
  · have h1 : FRC c d S := ⟨fun o k z => by rw [dr]; exact sR_ot (by omega), fun o k z => dn o k (by omega) (by omega)⟩
    exact (h1.tr (FRC.x s5.w)).tr g4
  · have h1 : FRM m e := fun o k y z => en o k (by omega) (fun w => y (by
      obtain ⟨w1, w2⟩ := w
      subst w1
      exact ⟨by omega, by omega, by show 9 ≤ k; omega⟩)) (fun w => y (by
      obtain ⟨w1, w2⟩ := w
      rcases w1 with w1 | w1
      · subst w1; exact ⟨by omega, by omega, by show 3 ≤ k; omega⟩
      · subst w1; exact ⟨by omega, by omega, by show 3 ≤ k; omega⟩))
    exact (h1.tr (FRM.x s6.w)).tr g5
end L
