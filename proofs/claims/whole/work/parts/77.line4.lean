/-! lines of the room, the storms, the seed; the end of a line -/
section L
variable {F : Nat} {c m c' m' c1 m1 : g_M} {n p q S f : Nat}
theorem CX_s (h : CX c m n S f) {o k : Nat} {v : Int32} (ho : (o = 30 ∧ 2 ≤ k) ∨ o = S) : CX (g_sI c o k v) m n S f := by
  obtain ⟨a1, a2, a3, a4, a5, a6, a7⟩ := h
  have hSl := isT_le a5
  exact ⟨by rw [sI_ne (by omega)]; exact a1, a2, a3, LCx_fr a4 (sI_o (by omega)) (sI_o (by omega)) rfl (by rw [sI_o (by omega)]) (by rw [sI_o (by omega)]), a5, a6, fun k hk => by rw [sI_o (by omega)]; exact a7 k hk⟩
theorem FO_s (h : FO c m n) {o k : Nat} {v : Int32} (ho : (o = 30 ∧ 2 ≤ k) ∨ (2 ≤ o ∧ o ≤ 29)) : FO (g_sI c o k v) m n := by
  obtain ⟨f, q, h1, h2, h3, h4, h5, h6, h7, h8⟩ := h
  exact ⟨f, q, h1, h2, h3, by rw [sI_ne (by omega)]; exact h4, h5, by rw [sI_ne (by omega)]; exact h6, h7, LCx_fr h8 (sI_o (by omega)) (sI_o (by omega)) rfl (by rw [sI_o (by omega)]) (by rw [sI_o (by omega)])⟩
theorem SD_s (h : SD c S) {o k : Nat} {v : Int32} (ho : o ≠ S + 1) : SD (g_sI c o k v) S := ⟨h.1, h.2.1, fun k hk => by rw [sI_o (fun z => ho z.symm)]; exact h.2.2 k hk⟩
theorem fl1_iff (b : Bool) : (fl1 b = (0 : Int32) ↔ b = false) := by cases b <;> decide
theorem l_room (hF : 5000 < F) (h : NC c m n p q) (hT : TOLD c m S) (k0 : c.1 31 0 = 3) (h28 : m.1 0 28 = 0) (h29 : m.1 0 29 = nI 5) : OUT F (f5_readRoom F c) (f11_line F m) c m n q S := by
  have hSD := SD_of hT
  obtain ⟨hS, hr5, hW, hR, hFl, hOp, hLn, hPc, hPm⟩ := id hT
  have hSl := isT_le hS
  have hm := h.2.2
  obtain ⟨_, _, L3⟩ := r_line (F := F) (m := m) (f := 5) (by omega) h28 h29
  obtain ⟨L4, L5⟩ := L3 (by omega) (by omega)
  have hqp : q < p := h.1.2.2.2.2.2 (by rw [k0]; decide)
  have hflag : c.1 30 6 = fl1 (gb (m.1 0 23) 5) := hFl.1
  have UP2 : UPc 2 14 := ⟨by omega, by omega, by show 9 ≤ 14; omega⟩
  have rd' : ∀ (y : g_M) v, f11_reads F (5 : Int32) v y = some (g_sI y 2 14 v) := fun y v => r_reads (j := 5) (by omega) v
  cases hb : gb (m.1 0 23) 5 with
  | true =>
    right
    obtain ⟨c0, m', e1, e2, e3, e4, e5, e6, e7⟩ := fo_of (F := F) h (f := 3) (by omega) (by omega)
    obtain ⟨g, hCX⟩ := FO_CX e3 hS (by rw [e4.1]; exact hr5) (fun k hk => by rw [e6 (S + 1) k (by omega)]; exact hSD.2.2 k hk)
    obtain ⟨c1, t1, t2, t3⟩ := x_step (F := F) hF hCX
    obtain ⟨v, c2, s1, s2, s3⟩ := x_number (F := F) hF (CX_s t2 (o := 30) (k := 6) (v := (1 : Int32)) (by omega)) (1 : Int32) (30 : Int32)
    have hFO1 := FO_s (FO_lex e3 t2.2.2.2.1 t3) (o := 30) (k := 6) (v := (1 : Int32)) (by omega)
    have hFO2 := FO_s (FO_lex hFO1 s2.2.2.2.1 s3) (o := S) (k := 10) (v := v) (by omega)
    refine ⟨g_sI c2 S 10 v, m', ?_, ?_, hFO2, SD_s (SD_lx (SD_s (SD_lx hSD (e4.tr t3.w)) (by omega)) s3.w) (by omega), (((FRC.x (e4.tr t3.w)).s (by omega)).tr (FRC.x s3.w)).s (by omega), FRM.x e5⟩
    · unfold f5_readRoom
      rw [hflag, hb, fi_eq, if_neg (show ¬ fl1 true = (0 : Int32) by decide), show f5_fail F (3 : Int32) c = some c0 from e1, g_bs, t1, g_bs, g_let_e, g_drT (show (g_sI c1 30 6 (1 : Int32)).2.2 30 5 = some S from t2.2.2.2.2.2.1) hS, s1, g_bs, g_let_e]
    · rw [L4 hb, show f11_wrong F (3 : Int32) m = some m' from e2, g_bs]
      unfold f11_line_b71
      rw [if_neg (FO_n e3).1]
  | false =>
    have hN9 : NC c (g_sI m 0 23 (m.1 0 23 ||| ((1 : Int32) <<< (nI 5 &&& 31)))) n p q := NC_frm h (fun k _ _ => sI_ne (by omega)) (sI_o (by omega))
    obtain ⟨ca, r10, pa, qa, e1, e2, e3, e4, e5, e6⟩ := NC_lex hN9 hF
    have fr9 : FRM m r10 := (FRM.s (FRM.r m) (Or.inr (by omega))).tr (FRM.x e6.w)
    have b71 : f11_line F m = (f11_numeral F (1 : Int32) (30 : Int32) r10).bind (fun r69 => (f11_reads F (5 : Int32) r69.1 r69.2).bind (fun r70 => f11_line_b466 F r70)) := by
      rw [L5 hb]
      unfold f11_line_b71
      rw [hm, if_pos nI00, g_let_e, e2, g_bs, if_neg (show ¬ nI 5 = (0 : Int32) by decide), if_neg (show ¬ nI 5 = (1 : Int32) by decide), if_neg (show ¬ nI 5 = (2 : Int32) by decide), if_neg (show ¬ nI 5 = (3 : Int32) by decide), if_neg (show ¬ nI 5 = (4 : Int32) by decide), if_pos (show nI 5 = (5 : Int32) from rfl)]
    have hSDa : SD (g_sI ca 30 6 (1 : Int32)) S := SD_s (SD_lx hSD e5.w) (by omega)
    have hNa : NC (g_sI ca 30 6 (1 : Int32)) r10 n pa qa := NC_frc e3 (sI_o (by omega)) (sI_o (by omega)) (sI_o (by omega)) (sI_ne (by omega))
    have hFCa : FRC c (g_sI ca 30 6 (1 : Int32)) S := (FRC.x e5.w).s (by omega)
    have hC : f5_readRoom F c = (f5_number F (1 : Int32) (30 : Int32) (g_sI ca 30 6 (1 : Int32))).bind (fun r5 => g_let (g_sI r5.2 S 10 r5.1) (fun m6 => some m6)) := by
      unfold f5_readRoom
      rw [hflag, hb, fi_eq, if_pos (show fl1 false = (0 : Int32) from rfl), g_bs, e1, g_bs, g_let_e, g_drT hSDa.2.1 hS]
    rcases rd_num (F := F) hF hNa hSDa (lo := 1) (hi := 30) (by omega) (by omega) with ⟨u, t, nn, pp, qq, ga, gb', gc, gd, ge, gf, gg, gh⟩ | ⟨u, t, nn, gc, gd, ge, gf, gg⟩
    rotate_left
    · right
      have gC : f5_number F (1 : Int32) (30 : Int32) (g_sI ca 30 6 (1 : Int32)) = some (u, t) := gc
      have gM : f11_numeral F (1 : Int32) (30 : Int32) r10 = some (nI 1, nn) := gd
      refine ⟨g_sI t S 10 u, g_sI nn 2 14 (nI 1), by rw [hC, gC, g_bs, g_let_e], ?_, FO_frm (FO_s ge (o := S) (k := 10) (v := u) (by omega)) (by rw [sI_o (by omega)]) (by rw [sI_o (by omega)]) (sI_o (by omega)), SD_s (SD_lx hSDa gf) (by omega), (hFCa.tr (FRC.x gf)).s (by omega), (fr9.tr (FRM.x gg)).s (Or.inl UP2)⟩
      rw [b71, gM, g_bs, rd', g_bs, mF_466 (by rw [sI_o (by omega)]; exact (FO_n ge).1)]
    left
    have gC : f5_number F (1 : Int32) (30 : Int32) (g_sI ca 30 6 (1 : Int32)) = some (nI u, t) := gc
    have gM : f11_numeral F (1 : Int32) (30 : Int32) r10 = some (nI u, nn) := gd
    obtain ⟨c4, hc4⟩ : ∃ y, y = g_sI t S 10 (nI u) := ⟨_, rfl⟩
    obtain ⟨m5, hm5⟩ : ∃ y, y = g_sI nn 2 14 (nI u) := ⟨_, rfl⟩
    have cn : ∀ o j, ¬ (o = 31 ∧ (j = 0 ∨ j = 1 ∨ j = 2 ∨ j = 5)) → ¬ (o = 30 ∧ j = 6) → ¬ (o = S ∧ j = 10) → c4.1 o j = c.1 o j := fun o j y1 y2 y3 => by
      rw [hc4, sI_ne y3, gg.2 o j y1, sI_ne y2]; exact e5.2 o j y1
    have mn : ∀ o j, ¬ (o = 0 ∧ (j = 23 ∨ j = 26 ∨ j = 27 ∨ j = 28 ∨ j = 29)) → ¬ (o = 2 ∧ j = 14) → m5.1 o j = m.1 o j := fun o j y1 y2 => by
      rw [hm5, sI_ne y2, gh.2 o j (by omega), e6.2 o j (by omega), sI_ne (by omega)]
    have un : ∀ o k, ¬ (o = 2 ∧ k = 5) → (up m5).1 o k = (up m).1 o k := fun o k y => up_eq (fun a1 a2 a3 => mn o _ (by omega) (fun z => by
      obtain ⟨z1, z2⟩ := z
      subst z1; have : hf 2 = 9 := rfl; omega))
    have m523 : m5.1 0 23 = m.1 0 23 ||| ((1 : Int32) <<< (nI 5 &&& 31)) := by rw [hm5, sI_o (by omega), gh.2 0 23 (by omega), e6.2 0 23 (by omega), sI_eq]
    obtain ⟨hW', hR'⟩ := TD_room (c := c) (c' := c4) (mu := up m) (mu' := up m5) (v0 := u) hS hW hR ga gb' (show m5.1 2 14 = nI u by rw [hm5, sI_eq]) (by rw [hc4, sI_eq]) un (fun o j a1 a2 y => cn o j (by omega) (by omega) y)
    have gbt : ∀ j, j < 32 → j ≠ 5 → gb (m5.1 0 23) j = gb (m.1 0 23) j := fun j hj hne => by rw [m523, gb_told _ (by omega) hj]; simp [hne]
    have gbw : gb (m5.1 0 23) 5 = true := by rw [m523, gb_told _ (by omega) (by omega)]; simp
    have c4f : c4.1 30 6 = nI 1 := by rw [hc4, sI_o (by omega), gg.2 30 6 (by omega), sI_eq]; rfl
    have hFl' : FLG c4 m5 := by
      obtain ⟨q1, q2, q3, q4⟩ := hFl
      refine ⟨by rw [gbw]; exact c4f, by rw [cn 30 7 (by omega) (by omega) (by omega), gbt 6 (by omega) (by omega)]; exact q2, by rw [cn 30 8 (by omega) (by omega) (by omega), gbt 7 (by omega) (by omega)]; exact q3, fun r hr => ?_⟩
      have ev : vl (up m5) 18 r = vl (up m) 18 r ∧ vl (up m5) 19 r = vl (up m) 19 r := by unfold vl; rw [un 18 r (by omega), un 19 r (by omega)]; exact ⟨rfl, rfl⟩
      rw [gbt (16 + r) (by omega) (by omega), ev.1, ev.2]; exact q4 r hr
    refine ⟨c4, m5, pp, qq, by rw [hC, gC, g_bs, g_let_e, hc4], by rw [b71, gM, g_bs, rd', g_bs, hm5], NC_frc (NC_frm ge (fun j _ _ => by rw [hm5, sI_o (by omega)]) (by rw [hm5, sI_o (by omega)])) (by rw [hc4, sI_o (by omega)]) (by rw [hc4, sI_o (by omega)]) (by rw [hc4, sI_o (by omega)]) (by rw [hc4, sI_o (by omega)]), TOLD_new hT hW' hR' (by rw [hc4]; exact (SD_lx hSDa gg.w).2.1.trans hr5.symm) hFl' (mn 0 34 (by omega) (by omega)) (mn 0 35 (by omega) (by omega)) (mn 2 17 (by omega) (by omega)) (mn 0 24 (by omega) (by omega)) (cn 30 2 (by omega) (by omega) (by omega)) (cn 30 1 (by omega) (by omega) (by omega)) (mn 0 31 (by omega) (by omega)), by omega, by rw [hc4]; exact (hFCa.tr (FRC.x gg.w)).s (by omega), by rw [hm5]; exact (fr9.tr (FRM.x gh.w)).s (Or.inl UP2)⟩
theorem l_storm (hF : 5000 < F) (h : NC c m n p q) (hT : TOLD c m S) (k0 : c.1 31 0 = 3) (h28 : m.1 0 28 = 0) (h29 : m.1 0 29 = nI 6) : OUT F (f5_readStorm F c) (f11_line F m) c m n q S := by
  have hSD := SD_of hT
  obtain ⟨hS, hr5, hW, hR, hFl, hOp, hLn, hPc, hPm⟩ := id hT
  have hSl := isT_le hS
  have hm := h.2.2
  obtain ⟨_, _, L3⟩ := r_line (F := F) (m := m) (f := 6) (by omega) h28 h29
  obtain ⟨L4, L5⟩ := L3 (by omega) (by omega)
  have hqp : q < p := h.1.2.2.2.2.2 (by rw [k0]; decide)
  have hflag : c.1 30 7 = fl1 (gb (m.1 0 23) 6) := hFl.2.1
  have UP2 : UPc 2 15 := ⟨by omega, by omega, by show 9 ≤ 15; omega⟩
  have rd' : ∀ (y : g_M) v, f11_reads F (6 : Int32) v y = some (g_sI y 2 15 v) := fun y v => r_reads (j := 6) (by omega) v
  cases hb : gb (m.1 0 23) 6 with
  | true =>
    right
    obtain ⟨c0, m', e1, e2, e3, e4, e5, e6, e7⟩ := fo_of (F := F) h (f := 3) (by omega) (by omega)
    obtain ⟨g, hCX⟩ := FO_CX e3 hS (by rw [e4.1]; exact hr5) (fun k hk => by rw [e6 (S + 1) k (by omega)]; exact hSD.2.2 k hk)
    obtain ⟨c1, t1, t2, t3⟩ := x_step (F := F) hF hCX
    obtain ⟨v, c2, s1, s2, s3⟩ := x_number (F := F) hF (CX_s t2 (o := 30) (k := 7) (v := (1 : Int32)) (by omega)) (0 : Int32) (100 : Int32)
    have hFO1 := FO_s (FO_lex e3 t2.2.2.2.1 t3) (o := 30) (k := 7) (v := (1 : Int32)) (by omega)
    have hFO2 := FO_s (FO_lex hFO1 s2.2.2.2.1 s3) (o := S) (k := 11) (v := v) (by omega)
    refine ⟨g_sI c2 S 11 v, m', ?_, ?_, hFO2, SD_s (SD_lx (SD_s (SD_lx hSD (e4.tr t3.w)) (by omega)) s3.w) (by omega), (((FRC.x (e4.tr t3.w)).s (by omega)).tr (FRC.x s3.w)).s (by omega), FRM.x e5⟩
    · unfold f5_readStorm
      rw [hflag, hb, fi_eq, if_neg (show ¬ fl1 true = (0 : Int32) by decide), show f5_fail F (3 : Int32) c = some c0 from e1, g_bs, t1, g_bs, g_let_e, g_drT (show (g_sI c1 30 7 (1 : Int32)).2.2 30 5 = some S from t2.2.2.2.2.2.1) hS, s1, g_bs, g_let_e]
    · rw [L4 hb, show f11_wrong F (3 : Int32) m = some m' from e2, g_bs]
      unfold f11_line_b71
      rw [if_neg (FO_n e3).1]
  | false =>
    have hN9 : NC c (g_sI m 0 23 (m.1 0 23 ||| ((1 : Int32) <<< (nI 6 &&& 31)))) n p q := NC_frm h (fun k _ _ => sI_ne (by omega)) (sI_o (by omega))
    obtain ⟨ca, r10, pa, qa, e1, e2, e3, e4, e5, e6⟩ := NC_lex hN9 hF
    have fr9 : FRM m r10 := (FRM.s (FRM.r m) (Or.inr (by omega))).tr (FRM.x e6.w)
    have b71 : f11_line F m = (f11_numeral F (0 : Int32) (100 : Int32) r10).bind (fun r69 => (f11_reads F (6 : Int32) r69.1 r69.2).bind (fun r70 => f11_line_b466 F r70)) := by
      rw [L5 hb]
      unfold f11_line_b71
      rw [hm, if_pos nI00, g_let_e, e2, g_bs, if_neg (show ¬ nI 6 = (0 : Int32) by decide), if_neg (show ¬ nI 6 = (1 : Int32) by decide), if_neg (show ¬ nI 6 = (2 : Int32) by decide), if_neg (show ¬ nI 6 = (3 : Int32) by decide), if_neg (show ¬ nI 6 = (4 : Int32) by decide), if_neg (show ¬ nI 6 = (5 : Int32) by decide), if_pos (show nI 6 = (6 : Int32) from rfl)]
    have hSDa : SD (g_sI ca 30 7 (1 : Int32)) S := SD_s (SD_lx hSD e5.w) (by omega)
    have hNa : NC (g_sI ca 30 7 (1 : Int32)) r10 n pa qa := NC_frc e3 (sI_o (by omega)) (sI_o (by omega)) (sI_o (by omega)) (sI_ne (by omega))
    have hFCa : FRC c (g_sI ca 30 7 (1 : Int32)) S := (FRC.x e5.w).s (by omega)
    have hC : f5_readStorm F c = (f5_number F (0 : Int32) (100 : Int32) (g_sI ca 30 7 (1 : Int32))).bind (fun r5 => g_let (g_sI r5.2 S 11 r5.1) (fun m6 => some m6)) := by
      unfold f5_readStorm
      rw [hflag, hb, fi_eq, if_pos (show fl1 false = (0 : Int32) from rfl), g_bs, e1, g_bs, g_let_e, g_drT hSDa.2.1 hS]
    rcases rd_num (F := F) hF hNa hSDa (lo := 0) (hi := 100) (by omega) (by omega) with ⟨u, t, nn, pp, qq, ga, gb', gc, gd, ge, gf, gg, gh⟩ | ⟨u, t, nn, gc, gd, ge, gf, gg⟩
    rotate_left
    · right
      have gC : f5_number F (0 : Int32) (100 : Int32) (g_sI ca 30 7 (1 : Int32)) = some (u, t) := gc
      have gM : f11_numeral F (0 : Int32) (100 : Int32) r10 = some (nI 0, nn) := gd
      refine ⟨g_sI t S 11 u, g_sI nn 2 15 (nI 0), by rw [hC, gC, g_bs, g_let_e], ?_, FO_frm (FO_s ge (o := S) (k := 11) (v := u) (by omega)) (by rw [sI_o (by omega)]) (by rw [sI_o (by omega)]) (sI_o (by omega)), SD_s (SD_lx hSDa gf) (by omega), (hFCa.tr (FRC.x gf)).s (by omega), (fr9.tr (FRM.x gg)).s (Or.inl UP2)⟩
      rw [b71, gM, g_bs, rd', g_bs, mF_466 (by rw [sI_o (by omega)]; exact (FO_n ge).1)]
    left
    have gC : f5_number F (0 : Int32) (100 : Int32) (g_sI ca 30 7 (1 : Int32)) = some (nI u, t) := gc
    have gM : f11_numeral F (0 : Int32) (100 : Int32) r10 = some (nI u, nn) := gd
    obtain ⟨c4, hc4⟩ : ∃ y, y = g_sI t S 11 (nI u) := ⟨_, rfl⟩
    obtain ⟨m5, hm5⟩ : ∃ y, y = g_sI nn 2 15 (nI u) := ⟨_, rfl⟩
    have cn : ∀ o j, ¬ (o = 31 ∧ (j = 0 ∨ j = 1 ∨ j = 2 ∨ j = 5)) → ¬ (o = 30 ∧ j = 7) → ¬ (o = S ∧ j = 11) → c4.1 o j = c.1 o j := fun o j y1 y2 y3 => by
      rw [hc4, sI_ne y3, gg.2 o j y1, sI_ne y2]; exact e5.2 o j y1
    have mn : ∀ o j, ¬ (o = 0 ∧ (j = 23 ∨ j = 26 ∨ j = 27 ∨ j = 28 ∨ j = 29)) → ¬ (o = 2 ∧ j = 15) → m5.1 o j = m.1 o j := fun o j y1 y2 => by
      rw [hm5, sI_ne y2, gh.2 o j (by omega), e6.2 o j (by omega), sI_ne (by omega)]
    have un : ∀ o k, ¬ (o = 2 ∧ k = 6) → (up m5).1 o k = (up m).1 o k := fun o k y => up_eq (fun a1 a2 a3 => mn o _ (by omega) (fun z => by
      obtain ⟨z1, z2⟩ := z
      subst z1; have : hf 2 = 9 := rfl; omega))
    have m523 : m5.1 0 23 = m.1 0 23 ||| ((1 : Int32) <<< (nI 6 &&& 31)) := by rw [hm5, sI_o (by omega), gh.2 0 23 (by omega), e6.2 0 23 (by omega), sI_eq]
    obtain ⟨hW', hR'⟩ := TD_storm (c := c) (c' := c4) (mu := up m) (mu' := up m5) (v0 := u) hS hW hR gb' (show m5.1 2 15 = nI u by rw [hm5, sI_eq]) (by rw [hc4, sI_eq]) un (fun o j a1 a2 y => cn o j (by omega) (by omega) y)
    have gbt : ∀ j, j < 32 → j ≠ 6 → gb (m5.1 0 23) j = gb (m.1 0 23) j := fun j hj hne => by rw [m523, gb_told _ (by omega) hj]; simp [hne]
    have gbw : gb (m5.1 0 23) 6 = true := by rw [m523, gb_told _ (by omega) (by omega)]; simp
    have c4f : c4.1 30 7 = nI 1 := by rw [hc4, sI_o (by omega), gg.2 30 7 (by omega), sI_eq]; rfl
    have hFl' : FLG c4 m5 := by
      obtain ⟨q1, q2, q3, q4⟩ := hFl
      refine ⟨by rw [cn 30 6 (by omega) (by omega) (by omega), gbt 5 (by omega) (by omega)]; exact q1, by rw [gbw]; exact c4f, by rw [cn 30 8 (by omega) (by omega) (by omega), gbt 7 (by omega) (by omega)]; exact q3, fun r hr => ?_⟩
      have ev : vl (up m5) 18 r = vl (up m) 18 r ∧ vl (up m5) 19 r = vl (up m) 19 r := by unfold vl; rw [un 18 r (by omega), un 19 r (by omega)]; exact ⟨rfl, rfl⟩
      rw [gbt (16 + r) (by omega) (by omega), ev.1, ev.2]; exact q4 r hr
    refine ⟨c4, m5, pp, qq, by rw [hC, gC, g_bs, g_let_e, hc4], by rw [b71, gM, g_bs, rd', g_bs, hm5], NC_frc (NC_frm ge (fun j _ _ => by rw [hm5, sI_o (by omega)]) (by rw [hm5, sI_o (by omega)])) (by rw [hc4, sI_o (by omega)]) (by rw [hc4, sI_o (by omega)]) (by rw [hc4, sI_o (by omega)]) (by rw [hc4, sI_o (by omega)]), TOLD_new hT hW' hR' (by rw [hc4]; exact (SD_lx hSDa gg.w).2.1.trans hr5.symm) hFl' (mn 0 34 (by omega) (by omega)) (mn 0 35 (by omega) (by omega)) (mn 2 17 (by omega) (by omega)) (mn 0 24 (by omega) (by omega)) (cn 30 2 (by omega) (by omega) (by omega)) (cn 30 1 (by omega) (by omega) (by omega)) (mn 0 31 (by omega) (by omega)), by omega, by rw [hc4]; exact (hFCa.tr (FRC.x gg.w)).s (by omega), by rw [hm5]; exact (fr9.tr (FRM.x gh.w)).s (Or.inl UP2)⟩
theorem l_seed (hF : 5000 < F) (h : NC c m n p q) (hT : TOLD c m S) (k0 : c.1 31 0 = 3) (h28 : m.1 0 28 = 0) (h29 : m.1 0 29 = nI 7) : OUT F (f5_readSeed F c) (f11_line F m) c m n q S := by
  have hSD := SD_of hT
  obtain ⟨hS, hr5, hW, hR, hFl, hOp, hLn, hPc, hPm⟩ := id hT
  have hSl := isT_le hS
  have hm := h.2.2
  obtain ⟨_, _, L3⟩ := r_line (F := F) (m := m) (f := 7) (by omega) h28 h29
  obtain ⟨L4, L5⟩ := L3 (by omega) (by omega)
  have hqp : q < p := h.1.2.2.2.2.2 (by rw [k0]; decide)
  have hflag : c.1 30 8 = fl1 (gb (m.1 0 23) 7) := hFl.2.2.1
  have UP2 : UPc 2 16 := ⟨by omega, by omega, by show 9 ≤ 16; omega⟩
  have rd' : ∀ (y : g_M) v, f11_reads F (7 : Int32) v y = some (g_sI y 2 16 v) := fun y v => r_reads (j := 7) (by omega) v
  cases hb : gb (m.1 0 23) 7 with
  | true =>
    right
    obtain ⟨c0, m', e1, e2, e3, e4, e5, e6, e7⟩ := fo_of (F := F) h (f := 3) (by omega) (by omega)
    obtain ⟨g, hCX⟩ := FO_CX e3 hS (by rw [e4.1]; exact hr5) (fun k hk => by rw [e6 (S + 1) k (by omega)]; exact hSD.2.2 k hk)
    obtain ⟨c1, t1, t2, t3⟩ := x_step (F := F) hF hCX
    obtain ⟨v, c2, s1, s2, s3⟩ := x_number (F := F) hF (CX_s t2 (o := 30) (k := 8) (v := (1 : Int32)) (by omega)) (0 : Int32) (99999 : Int32)
    have hFO1 := FO_s (FO_lex e3 t2.2.2.2.1 t3) (o := 30) (k := 8) (v := (1 : Int32)) (by omega)
    have hFO2 := FO_s (FO_lex hFO1 s2.2.2.2.1 s3) (o := S) (k := 12) (v := v) (by omega)
    refine ⟨g_sI c2 S 12 v, m', ?_, ?_, hFO2, SD_s (SD_lx (SD_s (SD_lx hSD (e4.tr t3.w)) (by omega)) s3.w) (by omega), (((FRC.x (e4.tr t3.w)).s (by omega)).tr (FRC.x s3.w)).s (by omega), FRM.x e5⟩
    · unfold f5_readSeed
      rw [hflag, hb, fi_eq, if_neg (show ¬ fl1 true = (0 : Int32) by decide), show f5_fail F (3 : Int32) c = some c0 from e1, g_bs, t1, g_bs, g_let_e, g_drT (show (g_sI c1 30 8 (1 : Int32)).2.2 30 5 = some S from t2.2.2.2.2.2.1) hS, s1, g_bs, g_let_e]
    · rw [L4 hb, show f11_wrong F (3 : Int32) m = some m' from e2, g_bs]
      unfold f11_line_b71
      rw [if_neg (FO_n e3).1]
  | false =>
    have hN9 : NC c (g_sI m 0 23 (m.1 0 23 ||| ((1 : Int32) <<< (nI 7 &&& 31)))) n p q := NC_frm h (fun k _ _ => sI_ne (by omega)) (sI_o (by omega))
    obtain ⟨ca, r10, pa, qa, e1, e2, e3, e4, e5, e6⟩ := NC_lex hN9 hF
    have fr9 : FRM m r10 := (FRM.s (FRM.r m) (Or.inr (by omega))).tr (FRM.x e6.w)
    have b71 : f11_line F m = (f11_numeral F (0 : Int32) (99999 : Int32) r10).bind (fun r69 => (f11_reads F (7 : Int32) r69.1 r69.2).bind (fun r70 => f11_line_b466 F r70)) := by
      rw [L5 hb]
      unfold f11_line_b71
      rw [hm, if_pos nI00, g_let_e, e2, g_bs, if_neg (show ¬ nI 7 = (0 : Int32) by decide), if_neg (show ¬ nI 7 = (1 : Int32) by decide), if_neg (show ¬ nI 7 = (2 : Int32) by decide), if_neg (show ¬ nI 7 = (3 : Int32) by decide), if_neg (show ¬ nI 7 = (4 : Int32) by decide), if_neg (show ¬ nI 7 = (5 : Int32) by decide), if_neg (show ¬ nI 7 = (6 : Int32) by decide), if_pos (show nI 7 = (7 : Int32) from rfl)]
    have hSDa : SD (g_sI ca 30 8 (1 : Int32)) S := SD_s (SD_lx hSD e5.w) (by omega)
    have hNa : NC (g_sI ca 30 8 (1 : Int32)) r10 n pa qa := NC_frc e3 (sI_o (by omega)) (sI_o (by omega)) (sI_o (by omega)) (sI_ne (by omega))
    have hFCa : FRC c (g_sI ca 30 8 (1 : Int32)) S := (FRC.x e5.w).s (by omega)
    have hC : f5_readSeed F c = (f5_number F (0 : Int32) (99999 : Int32) (g_sI ca 30 8 (1 : Int32))).bind (fun r5 => g_let (g_sI r5.2 S 12 r5.1) (fun m6 => some m6)) := by
      unfold f5_readSeed
      rw [hflag, hb, fi_eq, if_pos (show fl1 false = (0 : Int32) from rfl), g_bs, e1, g_bs, g_let_e, g_drT hSDa.2.1 hS]
    rcases rd_num (F := F) hF hNa hSDa (lo := 0) (hi := 99999) (by omega) (by omega) with ⟨u, t, nn, pp, qq, ga, gb', gc, gd, ge, gf, gg, gh⟩ | ⟨u, t, nn, gc, gd, ge, gf, gg⟩
    rotate_left
    · right
      have gC : f5_number F (0 : Int32) (99999 : Int32) (g_sI ca 30 8 (1 : Int32)) = some (u, t) := gc
      have gM : f11_numeral F (0 : Int32) (99999 : Int32) r10 = some (nI 0, nn) := gd
      refine ⟨g_sI t S 12 u, g_sI nn 2 16 (nI 0), by rw [hC, gC, g_bs, g_let_e], ?_, FO_frm (FO_s ge (o := S) (k := 12) (v := u) (by omega)) (by rw [sI_o (by omega)]) (by rw [sI_o (by omega)]) (sI_o (by omega)), SD_s (SD_lx hSDa gf) (by omega), (hFCa.tr (FRC.x gf)).s (by omega), (fr9.tr (FRM.x gg)).s (Or.inl UP2)⟩
      rw [b71, gM, g_bs, rd', g_bs, mF_466 (by rw [sI_o (by omega)]; exact (FO_n ge).1)]
    left
    have gC : f5_number F (0 : Int32) (99999 : Int32) (g_sI ca 30 8 (1 : Int32)) = some (nI u, t) := gc
    have gM : f11_numeral F (0 : Int32) (99999 : Int32) r10 = some (nI u, nn) := gd
    obtain ⟨c4, hc4⟩ : ∃ y, y = g_sI t S 12 (nI u) := ⟨_, rfl⟩
    obtain ⟨m5, hm5⟩ : ∃ y, y = g_sI nn 2 16 (nI u) := ⟨_, rfl⟩
    have cn : ∀ o j, ¬ (o = 31 ∧ (j = 0 ∨ j = 1 ∨ j = 2 ∨ j = 5)) → ¬ (o = 30 ∧ j = 8) → ¬ (o = S ∧ j = 12) → c4.1 o j = c.1 o j := fun o j y1 y2 y3 => by
      rw [hc4, sI_ne y3, gg.2 o j y1, sI_ne y2]; exact e5.2 o j y1
    have mn : ∀ o j, ¬ (o = 0 ∧ (j = 23 ∨ j = 26 ∨ j = 27 ∨ j = 28 ∨ j = 29)) → ¬ (o = 2 ∧ j = 16) → m5.1 o j = m.1 o j := fun o j y1 y2 => by
      rw [hm5, sI_ne y2, gh.2 o j (by omega), e6.2 o j (by omega), sI_ne (by omega)]
    have un : ∀ o k, ¬ (o = 2 ∧ k = 7) → (up m5).1 o k = (up m).1 o k := fun o k y => up_eq (fun a1 a2 a3 => mn o _ (by omega) (fun z => by
      obtain ⟨z1, z2⟩ := z
      subst z1; have : hf 2 = 9 := rfl; omega))
    have m523 : m5.1 0 23 = m.1 0 23 ||| ((1 : Int32) <<< (nI 7 &&& 31)) := by rw [hm5, sI_o (by omega), gh.2 0 23 (by omega), e6.2 0 23 (by omega), sI_eq]
    obtain ⟨hW', hR'⟩ := TD_seed (c := c) (c' := c4) (mu := up m) (mu' := up m5) (v0 := u) hS hW hR gb' (show m5.1 2 16 = nI u by rw [hm5, sI_eq]) (by rw [hc4, sI_eq]) un (fun o j a1 a2 y => cn o j (by omega) (by omega) y)
    have gbt : ∀ j, j < 32 → j ≠ 7 → gb (m5.1 0 23) j = gb (m.1 0 23) j := fun j hj hne => by rw [m523, gb_told _ (by omega) hj]; simp [hne]
    have gbw : gb (m5.1 0 23) 7 = true := by rw [m523, gb_told _ (by omega) (by omega)]; simp
    have c4f : c4.1 30 8 = nI 1 := by rw [hc4, sI_o (by omega), gg.2 30 8 (by omega), sI_eq]; rfl
    have hFl' : FLG c4 m5 := by
      obtain ⟨q1, q2, q3, q4⟩ := hFl
      refine ⟨by rw [cn 30 6 (by omega) (by omega) (by omega), gbt 5 (by omega) (by omega)]; exact q1, by rw [cn 30 7 (by omega) (by omega) (by omega), gbt 6 (by omega) (by omega)]; exact q2, by rw [gbw]; exact c4f, fun r hr => ?_⟩
      have ev : vl (up m5) 18 r = vl (up m) 18 r ∧ vl (up m5) 19 r = vl (up m) 19 r := by unfold vl; rw [un 18 r (by omega), un 19 r (by omega)]; exact ⟨rfl, rfl⟩
      rw [gbt (16 + r) (by omega) (by omega), ev.1, ev.2]; exact q4 r hr
    refine ⟨c4, m5, pp, qq, by rw [hC, gC, g_bs, g_let_e, hc4], by rw [b71, gM, g_bs, rd', g_bs, hm5], NC_frc (NC_frm ge (fun j _ _ => by rw [hm5, sI_o (by omega)]) (by rw [hm5, sI_o (by omega)])) (by rw [hc4, sI_o (by omega)]) (by rw [hc4, sI_o (by omega)]) (by rw [hc4, sI_o (by omega)]) (by rw [hc4, sI_o (by omega)]), TOLD_new hT hW' hR' (by rw [hc4]; exact (SD_lx hSDa gg.w).2.1.trans hr5.symm) hFl' (mn 0 34 (by omega) (by omega)) (mn 0 35 (by omega) (by omega)) (mn 2 17 (by omega) (by omega)) (mn 0 24 (by omega) (by omega)) (cn 30 2 (by omega) (by omega) (by omega)) (cn 30 1 (by omega) (by omega) (by omega)) (mn 0 31 (by omega) (by omega)), by omega, by rw [hc4]; exact (hFCa.tr (FRC.x gg.w)).s (by omega), by rw [hm5]; exact (fr9.tr (FRM.x gh.w)).s (Or.inl UP2)⟩
/-- the end of a line -/
theorem l_end (hF : 5000 < F) (h : NC c m n p q) (hT : TOLD c m S) : (∃ c' m' p' q', (f5_needSign F (15 : Int32) c).bind (fun r6 => some (g_sI r6 30 2 (r6.1 30 2 + (1 : Int32)))) = some c' ∧ f11_line_b466 F m = some m' ∧ NC c' m' n p' q' ∧ TOLD c' m' S ∧ q < q' ∧ FRC c c' S ∧ FRM m m') ∨ (∃ c' m', (f5_needSign F (15 : Int32) c).bind (fun r6 => some (g_sI r6 30 2 (r6.1 30 2 + (1 : Int32)))) = some c' ∧ f11_line_b466 F m = some m' ∧ FO c' m' n ∧ SD c' S ∧ FRC c c' S ∧ FRM m m') := by
  have hSD := SD_of hT
  obtain ⟨hS, hr5, hW, hR, hFl, hOp, hLn, hPc, hPm⟩ := id hT
  have hSl := isT_le hS
  have hm := h.2.2
  have sg : (c.1 31 0 = 4 ∧ c.1 31 2 = 15 ∧ m.1 0 28 = 3 ∧ m.1 0 29 = 59) ∨ (¬ (c.1 31 0 = 4 ∧ c.1 31 2 = 15) ∧ ¬ (m.1 0 28 = 3 ∧ m.1 0 29 = 59)) := by
    rcases h.1.2.1 with ⟨k1, k2⟩ | ⟨k1, k2, _⟩ | ⟨k1, k2, _⟩ | ⟨k1, k2, _⟩ | ⟨k1, k2, k3⟩ | ⟨k1, k2⟩
    · exact Or.inr ⟨fun z => by rw [k1] at z; exact absurd z.1 (by decide), fun z => by rw [k2] at z; exact absurd z.1 (by decide)⟩
    · exact Or.inr ⟨fun z => by rw [k1] at z; exact absurd z.1 (by decide), fun z => by rw [k2] at z; exact absurd z.1 (by decide)⟩
    · exact Or.inr ⟨fun z => by rw [k1] at z; exact absurd z.1 (by decide), fun z => by rw [k2] at z; exact absurd z.1 (by decide)⟩
    · exact Or.inr ⟨fun z => by rw [k1] at z; exact absurd z.1 (by decide), fun z => by rw [k2] at z; exact absurd z.1 (by decide)⟩
    · rcases k3 with ⟨x, y⟩ | ⟨x, y⟩ | ⟨x, y⟩ | ⟨x, y⟩ | ⟨x, y⟩ | ⟨x, y⟩ | ⟨x, y⟩ | ⟨x, y⟩ | ⟨x, y⟩ | ⟨x, y⟩ | ⟨x, y⟩ | ⟨x, y⟩ | ⟨x, y⟩
      all_goals first
        | exact Or.inl ⟨k1, x, k2, y⟩
        | exact Or.inr ⟨fun z => by rw [x] at z; exact absurd z.2 (by decide), fun z => by rw [y] at z; exact absurd z.2 (by decide)⟩
    · exact Or.inr ⟨fun z => by rw [k1] at z; exact absurd z.1 (by decide), fun z => by rw [k2] at z; exact absurd z.1 (by decide)⟩
  have hsC : f8_isSign F (15 : Int32) c = if c.1 31 0 = (4 : Int32) ∧ c.1 31 2 = (15 : Int32) then some (1 : Int32) else some (0 : Int32) := by unfold f8_isSign; rw [if2]
  have hsM : f11_isSign F (59 : Int32) m = if m.1 0 28 = (3 : Int32) ∧ m.1 0 29 = (59 : Int32) then some (1 : Int32) else some (0 : Int32) := by unfold f11_isSign; rw [hm, if_pos nI00, if2]
  rcases sg with ⟨k1, k2, k3, k4⟩ | ⟨k1, k2⟩
  · left
    obtain ⟨ca, ma, pa, qa, e1, e2, e3, e4, e5, e6⟩ := NC_lex h hF
    have hqp : q < p := h.1.2.2.2.2.2 (by rw [k1]; decide)
    obtain ⟨c4, hc4⟩ : ∃ y, y = g_sI ca 30 2 (ca.1 30 2 + (1 : Int32)) := ⟨_, rfl⟩
    obtain ⟨m5, hm5⟩ : ∃ y, y = g_sI ma 0 24 (ma.1 0 24 + (1 : Int32)) := ⟨_, rfl⟩
    have cn : ∀ o j, ¬ (o = 31 ∧ (j = 0 ∨ j = 1 ∨ j = 2 ∨ j = 5)) → ¬ (o = 30 ∧ j = 2) → c4.1 o j = c.1 o j := fun o j y1 y2 => by rw [hc4, sI_ne y2]; exact e5.2 o j y1
    have mn : ∀ o j, ¬ (o = 0 ∧ (j = 24 ∨ j = 26 ∨ j = 27 ∨ j = 28 ∨ j = 29)) → m5.1 o j = m.1 o j := fun o j y1 => by rw [hm5, sI_ne (by omega)]; exact e6.2 o j (by omega)
    have un : ∀ o k, (up m5).1 o k = (up m).1 o k := fun o k => up_eq (fun a1 a2 a3 => mn o _ (by omega))
    have hW' : WT (up m5) := WT_fr hW (fun o _ _ => by funext k; exact un o k)
    have hR' : RT c4 (up m5) S := RT_fr hR (fun o a b => by funext k; exact cn o k (by omega) (by omega)) (fun o _ _ => by funext k; exact un o k)
    have hln : c4.1 30 2 = m5.1 0 24 := by
      rw [hc4, sI_eq, hm5, sI_eq, e5.2 30 2 (by omega), e6.2 0 24 (by omega), hLn]
    refine ⟨c4, m5, pa, qa, ?_, ?_, NC_frc (NC_frm e3 (fun j _ _ => by rw [hm5, sI_ne (by omega)]) (by rw [hm5, sI_o (by omega)])) (by rw [hc4, sI_o (by omega)]) (by rw [hc4, sI_o (by omega)]) (by rw [hc4, sI_o (by omega)]) (by rw [hc4, sI_ne (by omega)]), ⟨hS, by rw [hc4]; show ca.2.2 30 5 = _; rw [e5.1]; exact hr5, hW', hR', ?_, ⟨by rw [mn 0 34 (by omega)]; exact hOp.1, by rw [mn 0 35 (by omega), mn 2 17 (by omega)]; exact hOp.2⟩, hln, by rw [cn 30 1 (by omega) (by omega)]; exact hPc, by rw [mn 0 31 (by omega)]; exact hPm⟩, by omega, by rw [hc4]; exact (FRC.x e5.w).s (by omega), by rw [hm5]; exact (FRM.x e6.w).s (Or.inr (by omega))⟩
    · unfold f5_needSign f5_needSign_b17
      rw [hsC, if_pos ⟨k1, k2⟩, g_bs, if_neg (by decide), fi_eq, if_pos rfl, g_bs, e1, g_bs, g_bs, hc4]
    · unfold f11_line_b466 f11_line_b495
      rw [hm, if_pos nI00, hsM, if_pos ⟨k3, k4⟩, g_bs, if_neg (by decide), e2, g_bs, g_let_e, hm5]
    · obtain ⟨q1, q2, q3, q4⟩ := hFl
      refine ⟨by rw [cn 30 6 (by omega) (by omega), mn 0 23 (by omega)]; exact q1, by rw [cn 30 7 (by omega) (by omega), mn 0 23 (by omega)]; exact q2, by rw [cn 30 8 (by omega) (by omega), mn 0 23 (by omega)]; exact q3, fun r hr => ?_⟩
      have ev : vl (up m5) 18 r = vl (up m) 18 r ∧ vl (up m5) 19 r = vl (up m) 19 r := by unfold vl; rw [un 18 r, un 19 r]; exact ⟨rfl, rfl⟩
      rw [mn 0 23 (by omega), ev.1, ev.2]; exact q4 r hr
  · right
    obtain ⟨c0, c', m', g, e1, e2, e3, e4, e5, e6, e7, e8, e9, e10⟩ := fo_step (F := F) hF h hSD (f := 1) (by omega) (by omega)
    refine ⟨g_sI c' 30 2 (c'.1 30 2 + (1 : Int32)), g_sI m' 0 24 (m'.1 0 24 + (1 : Int32)), ?_, ?_, FO_frm (FO_s e5 (by omega)) (by rw [sI_ne (by omega)]) (by rw [sI_ne (by omega)]) (sI_o (by omega)), SD_s (SD_lx hSD e6) (by omega), (FRC.x e6).s (by omega), (FRM.x e7).s (Or.inr (by omega))⟩
    · unfold f5_needSign f5_needSign_b17
      rw [hsC, if_neg k1, g_bs, if_pos rfl, fi_eq, if_neg (by decide), show f5_fail F (1 : Int32) c = some c0 from e1, g_bs, e3, g_bs, g_bs]
    · unfold f11_line_b466 f11_line_b495
      rw [hm, if_pos nI00, hsM, if_neg k2, g_bs, if_pos rfl, show f11_wrong F (1 : Int32) m = some m' from e4, g_bs, g_let_e]
/-- .. behind a fault -/
theorem x_end (hF : 5000 < F) (h : FO c m n) (hS : SD c S) : ∃ c', (f5_needSign F (15 : Int32) c).bind (fun r6 => some (g_sI r6 30 2 (r6.1 30 2 + (1 : Int32)))) = some c' ∧ FO c' m n ∧ SD c' S ∧ FRC c c' S := by
  obtain ⟨g, hCX⟩ := FO_CX h hS.1 hS.2.1 hS.2.2
  obtain ⟨c1, t1, t2, t3⟩ := x_step (F := F) hF hCX
  have hxx := fun u v => x_failIf (F := F) hCX u v
  have hs : ∃ r, f8_isSign F (15 : Int32) c = some r := by
    unfold f8_isSign
    rw [if2]
    by_cases z : c.1 31 0 = (4 : Int32) ∧ c.1 31 2 = (15 : Int32)
    · exact ⟨_, if_pos z⟩
    · exact ⟨_, if_neg z⟩
  obtain ⟨r, hr⟩ := hs
  have hSl := isT_le hS.1
  refine ⟨g_sI c1 30 2 (c1.1 30 2 + (1 : Int32)), ?_, FO_s (FO_lex h t2.2.2.2.1 t3) (by omega), SD_s (SD_lx hS t3.w) (by omega), (FRC.x t3.w).s (by omega)⟩
  unfold f5_needSign f5_needSign_b17
  rw [hr, g_bs, hxx, hxx, g_bs, ite_self, t1, g_bs, g_bs]
end L
