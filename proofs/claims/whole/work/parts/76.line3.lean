/-! lines of sendings and of wants -/
section L
variable {F : Nat} {c m c' m' c1 m1 : g_M} {n p q S f : Nat}
theorem r_manAhead : f11_manAhead F m = f11_toldAhead F 3 (5 : Int32) (m.1 2 9) m := by
  unfold f11_manAhead
  rw [show f11_fresher F (0 : Int32) m = some (m.1 2 9) from r_fresher (j := 0) (by omega), g_bs]
  cases f11_toldAhead F 3 (5 : Int32) (m.1 2 9) m <;> rfl
theorem l_send (hF : 5000 < F) (h : NC c m n p q) (hT : TOLD c m S) (k0 : c.1 31 0 = 3) (h28 : m.1 0 28 = 0) (h29 : m.1 0 29 = nI 3) : OUT F (f5_readSend F c) (f11_line F m) c m n q S := by
  have hSD := SD_of hT
  obtain ⟨hS, hr5, hW, hR, hFl, hOp, hLn, hPc, hPm⟩ := id hT
  have hSl := isT_le hS
  have hm := h.2.2
  obtain ⟨⟨a0, a1, a2, a3, a4, _⟩, _⟩ := id hW
  obtain ⟨x, hx⟩ : ∃ x, x = vl (up m) 2 3 := ⟨_, rfl⟩
  have bx : x ≤ 12 := by rw [hx]; exact a3.2
  have ux : (up m).1 2 3 = nI x := by rw [hx]; exact a3.1
  have mx : m.1 2 12 = nI x := ux
  have cx : c.1 S 6 = nI x := hR.2.2.2.2.1.1.trans ux
  have m90 : m.1 2 9 = nI (vl (up m) 2 0) := a0.1
  have c90 : c.1 (S + 1) 0 = nI (vl (up m) 2 0) := (hR.1 0 (by omega)).trans a0.1
  have b90 := a0.2
  have m91 : m.1 2 10 = nI (vl (up m) 2 1) := a1.1
  have c91 : c.1 (S + 1) 1 = nI (vl (up m) 2 1) := (hR.1 1 (by omega)).trans a1.1
  have b91 := a1.2
  have m92 : m.1 2 11 = nI (vl (up m) 2 2) := a2.1
  have c92 : c.1 (S + 1) 2 = nI (vl (up m) 2 2) := (hR.1 2 (by omega)).trans a2.1
  have b92 := a2.2
  have nm0 : ∀ i, i < vl (up m) 2 0 → c.1 (S + 2) (5 * 0 + i) = m.1 3 (5 + i) := fun i hi => by rw [Nat.mul_zero, Nat.zero_add, (hR.2.1 i hi).1]; exact up_at (by omega) (by omega) (show i < 5 by omega)
  have nm1 : ∀ i, i < vl (up m) 2 1 → c.1 (S + 2) (5 * 1 + i) = m.1 5 (5 + i) := fun i hi => by rw [Nat.mul_one, (hR.2.2.1 i hi).1]; exact up_at (by omega) (by omega) (show i < 5 by omega)
  have nm2 : ∀ i, i < vl (up m) 2 2 → c.1 (S + 2) (5 * 2 + i) = m.1 8 (5 + i) := fun i hi => by rw [show 5 * 2 + i = 10 + i from rfl, (hR.2.2.2.1 i hi).1]; exact up_at (by omega) (by omega) (show i < 5 by omega)
  obtain ⟨L1, L2, _⟩ := r_line (F := F) (m := m) (f := 3) (by omega) h28 h29
  have hqp : q < p := h.1.2.2.2.2.2 (by rw [k0]; decide)
  have rd' : ∀ (y : g_M) v, f11_reads F (3 : Int32) v y = some (g_sI y 2 12 v) := fun y v => r_reads (j := 3) (by omega) v
  have UP10 : x < 12 → UPc 10 (12 + x) := fun _ => ⟨by omega, by omega, by show 12 ≤ 12 + x; omega⟩
  have UP11 : x < 12 → UPc 11 (12 + x) := fun _ => ⟨by omega, by omega, by show 12 ≤ 12 + x; omega⟩
  have UP12 : x < 12 → UPc 12 (12 + x) := fun _ => ⟨by omega, by omega, by show 12 ≤ 12 + x; omega⟩
  have UP2 : UPc 2 12 := ⟨by omega, by omega, by show 9 ≤ 12; omega⟩
  have head : f5_readSend F c = if (12 : Int32) ≤ nI x then f5_readSend_b18 F (1 : Int32) c else f5_readSend_b18 F (0 : Int32) c := by
    unfold f5_readSend
    rw [g_drT hr5 hS, cx]
  have tf3 : x < 12 → ∀ y : g_M, FRM m y → ¬ y.1 0 30 = (0 : Int32) → ∃ y', (f11_reads F (3 : Int32) (y.1 2 12 + (1 : Int32)) y).bind (fun r22 => f11_line_b466 F r22) = some y' ∧ FRM m y' ∧ y'.1 0 30 = y.1 0 30 ∧ y'.1 0 31 = y.1 0 31 ∧ y'.1 1 = y.1 1 := by
    intro hlt y hy hz
    refine ⟨g_sI y 2 12 (y.1 2 12 + (1 : Int32)), ?_, hy.s (Or.inl UP2), by rw [sI_o (by omega)], by rw [sI_o (by omega)], sI_o (by omega)⟩
    rw [rd', g_bs, mF_466 (by rw [sI_o (by omega)]; exact hz)]
  have tf2 : x < 12 → ∀ y : g_M, FRM m y → ¬ y.1 0 30 = (0 : Int32) → ∃ y', (f11_numeral F (0 : Int32) (99 : Int32) y).bind (fun s2 => g_let (g_sI s2.2 12 (12 + x) s2.1) (fun y3 => (f11_reads F (3 : Int32) (y3.1 2 12 + (1 : Int32)) y3).bind (fun r22 => f11_line_b466 F r22))) = some y' ∧ FRM m y' ∧ y'.1 0 30 = y.1 0 30 ∧ y'.1 0 31 = y.1 0 31 ∧ y'.1 1 = y.1 1 := by
    intro hlt y hy hz
    obtain ⟨y', z1, z2, z3, z4, z5⟩ := tf3 hlt (g_sI y 12 (12 + x) (0 : Int32)) (hy.s (Or.inl (UP12 hlt))) (by rw [sI_o (by omega)]; exact hz)
    refine ⟨y', ?_, z2, by rw [z3, sI_o (by omega)], by rw [z4, sI_o (by omega)], by rw [z5]; exact sI_o (by omega)⟩
    rw [mF_num hz, g_bs, g_let_e]; exact z1
  have tf1 : x < 12 → ∀ y : g_M, FRM m y → ¬ y.1 0 30 = (0 : Int32) → ∃ y', (f11_toldAhead F 5 (5 : Int32) (y.1 2 10) y).bind (fun s1 => g_let (g_sI s1.2 11 (12 + x) s1.1) (fun y2 => (f11_numeral F (0 : Int32) (99 : Int32) y2).bind (fun s2 => g_let (g_sI s2.2 12 (12 + x) s2.1) (fun y3 => (f11_reads F (3 : Int32) (y3.1 2 12 + (1 : Int32)) y3).bind (fun r22 => f11_line_b466 F r22))))) = some y' ∧ FRM m y' ∧ y'.1 0 30 = y.1 0 30 ∧ y'.1 0 31 = y.1 0 31 ∧ y'.1 1 = y.1 1 := by
    intro hlt y hy hz
    obtain ⟨y', z1, z2, z3, z4, z5⟩ := tf2 hlt (g_sI y 11 (12 + x) (0 : Int32)) (hy.s (Or.inl (UP11 hlt))) (by rw [sI_o (by omega)]; exact hz)
    refine ⟨y', ?_, z2, by rw [z3, sI_o (by omega)], by rw [z4, sI_o (by omega)], by rw [z5]; exact sI_o (by omega)⟩
    rw [mF_told hz, g_bs, g_let_e]; exact z1
  have tf0 : x < 12 → ∀ y : g_M, FRM m y → ¬ y.1 0 30 = (0 : Int32) → ∃ y', (f11_toldAhead F 3 (5 : Int32) (y.1 2 9) y).bind (fun s0 => g_let (g_sI s0.2 10 (12 + x) s0.1) (fun y1 => (f11_toldAhead F 5 (5 : Int32) (y1.1 2 10) y1).bind (fun s1 => g_let (g_sI s1.2 11 (12 + x) s1.1) (fun y2 => (f11_numeral F (0 : Int32) (99 : Int32) y2).bind (fun s2 => g_let (g_sI s2.2 12 (12 + x) s2.1) (fun y3 => (f11_reads F (3 : Int32) (y3.1 2 12 + (1 : Int32)) y3).bind (fun r22 => f11_line_b466 F r22))))))) = some y' ∧ FRM m y' ∧ y'.1 0 30 = y.1 0 30 ∧ y'.1 0 31 = y.1 0 31 ∧ y'.1 1 = y.1 1 := by
    intro hlt y hy hz
    obtain ⟨y', z1, z2, z3, z4, z5⟩ := tf1 hlt (g_sI y 10 (12 + x) (0 : Int32)) (hy.s (Or.inl (UP10 hlt))) (by rw [sI_o (by omega)]; exact hz)
    refine ⟨y', ?_, z2, by rw [z3, sI_o (by omega)], by rw [z4, sI_o (by omega)], by rw [z5]; exact sI_o (by omega)⟩
    rw [mF_told hz, g_bs, g_let_e]; exact z1
  by_cases full : x = 12
  · right
    obtain ⟨c0, m', e1, e2, e3, e4, e5, e6, e7⟩ := fo_of (F := F) h (f := 2) (by omega) (by omega)
    obtain ⟨g, hCX⟩ := FO_CX e3 hS (by rw [e4.1]; exact hr5) (fun k hk => by rw [e6 (S + 1) k (by omega)]; exact hSD.2.2 k hk)
    obtain ⟨c1, t1, t2, t3⟩ := x_step (F := F) hF hCX
    obtain ⟨w0, d0, s0a', s0b, s0c⟩ := x_oldOne (F := F) hF t2 (k := 0) (by omega)
    have s0a : f5_oldOne F (0 : Int32) _ = some (w0, d0) := s0a'
    obtain ⟨w1, d1, s1a', s1b, s1c⟩ := x_oldOne (F := F) hF s0b (k := 1) (by omega)
    have s1a : f5_oldOne F (1 : Int32) _ = some (w1, d1) := s1a'
    obtain ⟨w2, d2, s2a, s2b, s2c⟩ := x_number (F := F) hF s1b (0 : Int32) (99 : Int32)
    have hFOs := FO_lex e3 t2.2.2.2.1 t3
    have hFO0 := hFOs
    have hFOa0 := FO_lex hFO0 s0b.2.2.2.1 s0c
    have hFOa1 := FO_lex hFOa0 s1b.2.2.2.1 s1c
    have hFOa2 := FO_lex hFOa1 s2b.2.2.2.1 s2c
    refine ⟨d2, m', ?_, ?_, hFOa2, SD_lx hSD ((((e4.tr t3.w).tr s0c.w).tr s1c.w).tr s2c.w), FRC.x ((((e4.tr t3.w).tr s0c.w).tr s1c.w).tr s2c.w), FRM.x e5⟩
    · rw [head, if_pos (show (12 : Int32) ≤ nI x from (g_leN (a := 12) (by omega) (by omega)).mpr (by omega))]
      unfold f5_readSend_b18
      rw [fi_eq, if_neg (by decide), show f5_fail F (2 : Int32) c = some c0 from e1, g_bs, t1, g_bs, g_drT t2.2.2.2.2.2.1 hS, g_let_e, s0a, g_bs, g_let_e, s1a, g_bs, g_let_e, s2a, g_bs, g_let_e, if_neg (FO_n hFOa2).2]
    · rw [L1 (Or.inr (Or.inr (Or.inr (Or.inl ⟨rfl, by rw [mx, full]; rfl⟩)))), show f11_wrong F (2 : Int32) m = some m' from e2, g_bs]
      unfold f11_line_b71
      rw [if_neg (FO_n e3).1]
  have hlt : x < 12 := by omega
  have nfull : ¬ isFullN m 3 := fun z => by
    rcases z with ⟨z0, z⟩ | ⟨z0, z⟩ | ⟨z0, z⟩ | ⟨z0, z⟩ | ⟨z0, z⟩
    · omega
    · omega
    · omega
    · rw [mx] at z; have := (g_eqN (b := 12) (by omega) (by omega)).mp z; omega
    · omega
  have hN9 : NC c (g_sI m 0 23 (m.1 0 23 ||| ((1 : Int32) <<< (nI 3 &&& 31)))) n p q := NC_frm h (fun k _ _ => sI_ne (by omega)) (sI_o (by omega))
  obtain ⟨ca, r10, pa, qa, e1, e2, e3, e4, e5, e6⟩ := NC_lex hN9 hF
  have r12 : r10.1 2 12 = nI x := by rw [e6.2 2 12 (by omega), sI_o (by omega)]; exact mx
  have fr9 : FRM m r10 := (FRM.s (FRM.r m) (Or.inr (by omega))).tr (FRM.x e6.w)
  have fr3 : ∀ y : g_M, f11_fresher F (3 : Int32) y = some (y.1 2 12) := fun y => r_fresher (j := 3) (by omega)
  have fr1 : ∀ y : g_M, f11_fresher F (1 : Int32) y = some (y.1 2 10) := fun y => r_fresher (j := 1) (by omega)
  have fr2 : ∀ y : g_M, f11_fresher F (2 : Int32) y = some (y.1 2 11) := fun y => r_fresher (j := 2) (by omega)
  have b71 : f11_line F m = (f11_toldAhead F 3 (5 : Int32) (r10.1 2 9) r10).bind (fun s0 => g_let (g_sI s0.2 10 (12 + x) s0.1) (fun y1 => (f11_toldAhead F 5 (5 : Int32) (y1.1 2 10) y1).bind (fun s1 => g_let (g_sI s1.2 11 (12 + x) s1.1) (fun y2 => (f11_numeral F (0 : Int32) (99 : Int32) y2).bind (fun s2 => g_let (g_sI s2.2 12 (12 + x) s2.1) (fun y3 => (f11_reads F (3 : Int32) (y3.1 2 12 + (1 : Int32)) y3).bind (fun r22 => f11_line_b466 F r22))))))) := by
    rw [L2 nfull (by omega)]
    unfold f11_line_b71
    rw [hm, if_pos nI00, g_let_e, e2, g_bs, if_neg (show ¬ nI 3 = (0 : Int32) by decide), if_neg (show ¬ nI 3 = (1 : Int32) by decide), if_neg (show ¬ nI 3 = (2 : Int32) by decide), if_pos (show nI 3 = (3 : Int32) from rfl), fr3 r10, g_bs, r12, show (12 : Int32) + nI x = nI (12 + x) from nI_add 12 x]
    have ck : ∀ k : Option g_M, g_ck (nI (12 + x)) 24 k = k := fun k => g_ckN (by omega) (by omega)
    simp only [ck, g_clN (show 12 + x < 2147483648 by omega), fr3, fr1, fr2, g_bs, r_manAhead, g_let]
  have hC18 : f5_readSend F c = f5_readSend_b18 F (0 : Int32) c := by rw [head, if_neg (show ¬ (12 : Int32) ≤ nI x from fun z => by have := (g_leN (a := 12) (by omega) (by omega)).mp z; omega)]
  have hSDa : SD ca S := SD_lx hSD e5.w
  have cxa : ca.1 S 6 = nI x := by rw [e5.2 S 6 (by omega)]; exact cx
  have hx4 : nI x * (4 : Int32) = nI (4 * x) := by rw [show (4 : Int32) = nI 4 from rfl, pk_mul, Nat.mul_comm]
  have CE0 : ∀ o j, ¬ (o = 31 ∧ (j = 0 ∨ j = 1 ∨ j = 2 ∨ j = 5)) → ca.1 o j = c.1 o j := e5.2
  have ME0 : ∀ o j, ¬ (o = 0 ∧ (j = 23 ∨ j = 26 ∨ j = 27 ∨ j = 28 ∨ j = 29)) → ¬ ((o = 10 ∧ j = 12 + x) ∨ (o = 11 ∧ j = 12 + x) ∨ (o = 12 ∧ j = 12 + x)) → r10.1 o j = m.1 o j := fun o j y1 _ => by rw [e6.2 o j (by omega), sI_ne (by omega)]
  have FC0 : FRC c ca S := FRC.x e5.w
  rcases rd_old (F := F) hF e3 hSDa (k := 0) (a := 3) (x := vl (up m) 2 0) (by omega) rfl (by omega) (by rw [CE0 (S + 1) 0 (by omega)]; exact c90) (fun i hi => by rw [CE0 (S + 2) _ (by omega), ME0 3 _ (by omega) (by omega)]; exact nm0 i hi) with ⟨u0, t0, n0, pp0, qq0, g0b, g0c, g0d, g0e, g0f, g0g, g0h⟩ | ⟨u0, t0, n0, g0c, g0d, g0e, g0f, g0g⟩
  rotate_left
  · have gC : f5_oldOne F (0 : Int32) ca = some (u0, t0) := g0c
    have gM : f11_toldAhead F 3 (5 : Int32) (r10.1 2 9) r10 = some (nI 0, n0) := by rw [show r10.1 2 9 = nI (vl (up m) 2 0) from by rw [ME0 2 9 (by omega) (by omega)]; exact m90]; exact g0d
    have hSDf := SD_lx hSDa g0f
    obtain ⟨g, hCX⟩ := FO_CX g0e hSDf.1 hSDf.2.1 hSDf.2.2
    obtain ⟨w1, d1, s1a', s1b, s1c⟩ := x_oldOne (F := F) hF hCX (k := 1) (by omega)
    have s1a : f5_oldOne F (1 : Int32) _ = some (w1, d1) := s1a'
    obtain ⟨w2, d2, s2a, s2b, s2c⟩ := x_number (F := F) hF s1b (0 : Int32) (99 : Int32)
    have hFO0 := g0e
    have hFOa1 := FO_lex hFO0 s1b.2.2.2.1 s1c
    have hFOa2 := FO_lex hFOa1 s2b.2.2.2.1 s2c
    obtain ⟨y', z1, z2, z3, z4, z5⟩ := tf1 hlt (g_sI n0 10 (12 + x) (nI 0)) ((fr9.tr (FRM.x g0g)).s (Or.inl (UP10 hlt))) (by rw [sI_o (by omega)]; exact (FO_n g0e).1)
    right
    refine ⟨d2, y', ?_, ?_, FO_frm hFOa2 (by rw [z3, sI_o (by omega)]) (by rw [z4, sI_o (by omega)]) (by rw [z5]; exact sI_o (by omega)), SD_lx hSDa ((g0f.tr s1c.w).tr s2c.w), FC0.tr (FRC.x ((g0f.tr s1c.w).tr s2c.w)), z2⟩
    · rw [hC18]
      unfold f5_readSend_b18
      rw [fi_eq, if_pos rfl, g_bs, e1, g_bs, g_drT hSDa.2.1 hS, cxa, hx4, g_let_e, gC, g_bs, g_let_e, s1a, g_bs, g_let_e, s2a, g_bs, g_let_e, if_neg (FO_n hFOa2).2]
    · rw [b71, gM, g_bs, g_let_e]; exact z1
  have ok0 : f5_oldOne F (0 : Int32) ca = some (nI u0, t0) := g0c
  have okm0 : f11_toldAhead F 3 (5 : Int32) (r10.1 2 9) r10 = some (nI u0, n0) := by rw [show r10.1 2 9 = nI (vl (up m) 2 0) from by rw [ME0 2 9 (by omega) (by omega)]; exact m90]; exact g0d
  obtain ⟨w1, hw1⟩ : ∃ y, y = g_sI n0 10 (12 + x) (nI u0) := ⟨_, rfl⟩
  have N1 : NC t0 w1 n pp0 qq0 := by rw [hw1]; exact NC_frm g0e (fun k _ _ => sI_ne (by omega)) (sI_o (by omega))
  have FM1 : FRM m w1 := by rw [hw1]; exact (fr9.tr (FRM.x g0h.w)).s (Or.inl (UP10 hlt))
  have SD1 : SD t0 S := SD_lx hSDa g0g.w
  have FC1 : FRC c t0 S := FC0.tr (FRC.x g0g.w)
  have CE1 : ∀ o j, ¬ (o = 31 ∧ (j = 0 ∨ j = 1 ∨ j = 2 ∨ j = 5)) → t0.1 o j = c.1 o j := fun o j y => (g0g.2 o j y).trans (CE0 o j y)
  have ME1 : ∀ o j, ¬ (o = 0 ∧ (j = 23 ∨ j = 26 ∨ j = 27 ∨ j = 28 ∨ j = 29)) → ¬ ((o = 10 ∧ j = 12 + x) ∨ (o = 11 ∧ j = 12 + x) ∨ (o = 12 ∧ j = 12 + x)) → w1.1 o j = m.1 o j := fun o j y1 y2 => by rw [hw1, sI_ne (by omega), g0h.2 o j (by omega)]; exact ME0 o j y1 y2
  rw [okm0, g_bs, g_let_e, ← hw1] at b71
  rcases rd_old (F := F) hF N1 SD1 (k := 1) (a := 5) (x := vl (up m) 2 1) (by omega) rfl (by omega) (by rw [CE1 (S + 1) 1 (by omega)]; exact c91) (fun i hi => by rw [CE1 (S + 2) _ (by omega), ME1 5 _ (by omega) (by omega)]; exact nm1 i hi) with ⟨u1, t1, n1, pp1, qq1, g1b, g1c, g1d, g1e, g1f, g1g, g1h⟩ | ⟨u1, t1, n1, g1c, g1d, g1e, g1f, g1g⟩
  rotate_left
  · have gC : f5_oldOne F (1 : Int32) t0 = some (u1, t1) := g1c
    have gM : f11_toldAhead F 5 (5 : Int32) (w1.1 2 10) w1 = some (nI 0, n1) := by rw [show w1.1 2 10 = nI (vl (up m) 2 1) from by rw [ME1 2 10 (by omega) (by omega)]; exact m91]; exact g1d
    have hSDf := SD_lx SD1 g1f
    obtain ⟨g, hCX⟩ := FO_CX g1e hSDf.1 hSDf.2.1 hSDf.2.2
    obtain ⟨w2, d2, s2a, s2b, s2c⟩ := x_number (F := F) hF hCX (0 : Int32) (99 : Int32)
    have hFO0 := g1e
    have hFOa2 := FO_lex hFO0 s2b.2.2.2.1 s2c
    obtain ⟨y', z1, z2, z3, z4, z5⟩ := tf2 hlt (g_sI n1 11 (12 + x) (nI 0)) ((FM1.tr (FRM.x g1g)).s (Or.inl (UP11 hlt))) (by rw [sI_o (by omega)]; exact (FO_n g1e).1)
    right
    refine ⟨d2, y', ?_, ?_, FO_frm hFOa2 (by rw [z3, sI_o (by omega)]) (by rw [z4, sI_o (by omega)]) (by rw [z5]; exact sI_o (by omega)), SD_lx SD1 (g1f.tr s2c.w), FC1.tr (FRC.x (g1f.tr s2c.w)), z2⟩
    · rw [hC18]
      unfold f5_readSend_b18
      rw [fi_eq, if_pos rfl, g_bs, e1, g_bs, g_drT hSDa.2.1 hS, cxa, hx4, g_let_e, ok0, g_bs, g_let_e, gC, g_bs, g_let_e, s2a, g_bs, g_let_e, if_neg (FO_n hFOa2).2]
    · rw [b71, gM, g_bs, g_let_e]; exact z1
  have ok1 : f5_oldOne F (1 : Int32) t0 = some (nI u1, t1) := g1c
  have okm1 : f11_toldAhead F 5 (5 : Int32) (w1.1 2 10) w1 = some (nI u1, n1) := by rw [show w1.1 2 10 = nI (vl (up m) 2 1) from by rw [ME1 2 10 (by omega) (by omega)]; exact m91]; exact g1d
  obtain ⟨w2, hw2⟩ : ∃ y, y = g_sI n1 11 (12 + x) (nI u1) := ⟨_, rfl⟩
  have N2 : NC t1 w2 n pp1 qq1 := by rw [hw2]; exact NC_frm g1e (fun k _ _ => sI_ne (by omega)) (sI_o (by omega))
  have FM2 : FRM m w2 := by rw [hw2]; exact (FM1.tr (FRM.x g1h.w)).s (Or.inl (UP11 hlt))
  have SD2 : SD t1 S := SD_lx SD1 g1g.w
  have FC2 : FRC c t1 S := FC1.tr (FRC.x g1g.w)
  have CE2 : ∀ o j, ¬ (o = 31 ∧ (j = 0 ∨ j = 1 ∨ j = 2 ∨ j = 5)) → t1.1 o j = c.1 o j := fun o j y => (g1g.2 o j y).trans (CE1 o j y)
  have ME2 : ∀ o j, ¬ (o = 0 ∧ (j = 23 ∨ j = 26 ∨ j = 27 ∨ j = 28 ∨ j = 29)) → ¬ ((o = 10 ∧ j = 12 + x) ∨ (o = 11 ∧ j = 12 + x) ∨ (o = 12 ∧ j = 12 + x)) → w2.1 o j = m.1 o j := fun o j y1 y2 => by rw [hw2, sI_ne (by omega), g1h.2 o j (by omega)]; exact ME1 o j y1 y2
  rw [okm1, g_bs, g_let_e, ← hw2] at b71
  rcases rd_num (F := F) hF N2 SD2 (lo := 0) (hi := 99) (by omega) (by omega) with ⟨u2, t2, n2, pp2, qq2, g2a, g2b, g2c, g2d, g2e, g2f, g2g, g2h⟩ | ⟨u2, t2, n2, g2c, g2d, g2e, g2f, g2g⟩
  rotate_left
  · have gC : f5_number F (0 : Int32) (99 : Int32) t1 = some (u2, t2) := g2c
    have gM : f11_numeral F (0 : Int32) (99 : Int32) w2 = some (nI 0, n2) := g2d
    have hSDf := SD_lx SD2 g2f
    obtain ⟨g, hCX⟩ := FO_CX g2e hSDf.1 hSDf.2.1 hSDf.2.2
    have hFO0 := g2e
    obtain ⟨y', z1, z2, z3, z4, z5⟩ := tf3 hlt (g_sI n2 12 (12 + x) (nI 0)) ((FM2.tr (FRM.x g2g)).s (Or.inl (UP12 hlt))) (by rw [sI_o (by omega)]; exact (FO_n g2e).1)
    right
    refine ⟨t2, y', ?_, ?_, FO_frm hFO0 (by rw [z3, sI_o (by omega)]) (by rw [z4, sI_o (by omega)]) (by rw [z5]; exact sI_o (by omega)), SD_lx SD2 g2f, FC2.tr (FRC.x g2f), z2⟩
    · rw [hC18]
      unfold f5_readSend_b18
      rw [fi_eq, if_pos rfl, g_bs, e1, g_bs, g_drT hSDa.2.1 hS, cxa, hx4, g_let_e, ok0, g_bs, g_let_e, ok1, g_bs, g_let_e, gC, g_bs, g_let_e, if_neg (FO_n hFO0).2]
    · rw [b71, gM, g_bs, g_let_e]; exact z1
  have ok2 : f5_number F (0 : Int32) (99 : Int32) t1 = some (nI u2, t2) := g2c
  have okm2 : f11_numeral F (0 : Int32) (99 : Int32) w2 = some (nI u2, n2) := g2d
  obtain ⟨w3, hw3⟩ : ∃ y, y = g_sI n2 12 (12 + x) (nI u2) := ⟨_, rfl⟩
  have N3 : NC t2 w3 n pp2 qq2 := by rw [hw3]; exact NC_frm g2e (fun k _ _ => sI_ne (by omega)) (sI_o (by omega))
  have FM3 : FRM m w3 := by rw [hw3]; exact (FM2.tr (FRM.x g2h.w)).s (Or.inl (UP12 hlt))
  have SD3 : SD t2 S := SD_lx SD2 g2g.w
  have FC3 : FRC c t2 S := FC2.tr (FRC.x g2g.w)
  have CE3 : ∀ o j, ¬ (o = 31 ∧ (j = 0 ∨ j = 1 ∨ j = 2 ∨ j = 5)) → t2.1 o j = c.1 o j := fun o j y => (g2g.2 o j y).trans (CE2 o j y)
  have ME3 : ∀ o j, ¬ (o = 0 ∧ (j = 23 ∨ j = 26 ∨ j = 27 ∨ j = 28 ∨ j = 29)) → ¬ ((o = 10 ∧ j = 12 + x) ∨ (o = 11 ∧ j = 12 + x) ∨ (o = 12 ∧ j = 12 + x)) → w3.1 o j = m.1 o j := fun o j y1 y2 => by rw [hw3, sI_ne (by omega), g2h.2 o j (by omega)]; exact ME2 o j y1 y2
  rw [okm2, g_bs, g_let_e, ← hw3] at b71
  left
  have k10 : w3.1 10 (12 + x) = nI u0 := by rw [hw3, sI_o (by omega), g2h.2 10 _ (by omega), hw2, sI_o (by omega), g1h.2 10 _ (by omega), hw1, sI_eq]
  have k11 : w3.1 11 (12 + x) = nI u1 := by rw [hw3, sI_o (by omega), g2h.2 11 _ (by omega), hw2, sI_eq]
  have k12 : w3.1 12 (12 + x) = nI u2 := by rw [hw3, sI_eq]
  have k23 : w3.1 0 23 = m.1 0 23 ||| ((1 : Int32) <<< (nI 3 &&& 31)) := by rw [hw3, sI_o (by omega), g2h.2 0 23 (by omega), hw2, sI_o (by omega), g1h.2 0 23 (by omega), hw1, sI_o (by omega), g0h.2 0 23 (by omega), e6.2 0 23 (by omega), sI_eq]
  have kN : w3.1 2 12 = nI x := by rw [ME3 2 12 (by omega) (by omega)]; exact mx
  obtain ⟨m5, hm5⟩ : ∃ y, y = g_sI w3 2 12 (nI (x + 1)) := ⟨_, rfl⟩
  obtain ⟨c4, hc4⟩ : ∃ y, y = (g_sI (g_sI (g_sI (g_sI (g_sI t2 (S + 7) (4 * x) (nI u0)) (S + 7) (4 * x + 1) (nI u1)) (S + 7) (4 * x + 2) (nI u2)) (S + 7) (4 * x + 3) (0 : Int32)) S 6 (nI (x + 1))) := ⟨_, rfl⟩
  have cn : ∀ o j, ¬ (o = 31 ∧ (j = 0 ∨ j = 1 ∨ j = 2 ∨ j = 5)) → ¬ ((o = S ∧ j = 6) ∨ (o = S + 7 ∧ j = 4 * x) ∨ (o = S + 7 ∧ j = 4 * x + 1) ∨ (o = S + 7 ∧ j = 4 * x + 2) ∨ (o = S + 7 ∧ j = 4 * x + 3)) → c4.1 o j = c.1 o j := fun o j y1 y2 => by
    rw [hc4, sI_ne (by omega), sI_ne (by omega), sI_ne (by omega), sI_ne (by omega), sI_ne (by omega)]; exact CE3 o j y1
  have mn : ∀ o j, ¬ (o = 0 ∧ (j = 23 ∨ j = 26 ∨ j = 27 ∨ j = 28 ∨ j = 29)) → ¬ ((o = 2 ∧ j = 12) ∨ (o = 10 ∧ j = 12 + x) ∨ (o = 11 ∧ j = 12 + x) ∨ (o = 12 ∧ j = 12 + x)) → m5.1 o j = m.1 o j := fun o j y1 y2 => by
    rw [hm5, sI_ne (by omega)]; exact ME3 o j y1 (by omega)
  have un : ∀ o k, ¬ ((o = 2 ∧ k = 3) ∨ (o = 10 ∧ k = x) ∨ (o = 11 ∧ k = x) ∨ (o = 12 ∧ k = x)) → (up m5).1 o k = (up m).1 o k := fun o k y => up_eq (fun a1 a2 a3 => mn o _ (by omega) (fun z => by
    rcases z with ⟨z1, z2⟩ | ⟨z1, z2⟩ | ⟨z1, z2⟩ | ⟨z1, z2⟩
    · subst z1; have : hf 2 = 9 := rfl; omega
    · subst z1; have : hf 10 = 12 := rfl; omega
    · subst z1; have : hf 11 = 12 := rfl; omega
    · subst z1; have : hf 12 = 12 := rfl; omega
    ))
  obtain ⟨hW', hR'⟩ := TD_send (c := c) (c' := c4) (mu := up m) (mu' := up m5) (x := x) (i1 := u0) (i2 := u1) (v := u2) hS hW hR hlt hx.symm g0b g1b g2b
    (show m5.1 2 12 = nI (x + 1) by rw [hm5, sI_eq])
    (by rw [up_at (by omega) (by omega) (show x < 12 by omega)]; show m5.1 10 (12 + x) = nI u0; rw [hm5, sI_o (by omega)]; exact k10)
    (by rw [up_at (by omega) (by omega) (show x < 12 by omega)]; show m5.1 11 (12 + x) = nI u1; rw [hm5, sI_o (by omega)]; exact k11)
    (by rw [up_at (by omega) (by omega) (show x < 12 by omega)]; show m5.1 12 (12 + x) = nI u2; rw [hm5, sI_o (by omega)]; exact k12)
    (by rw [hc4, sI_eq])
    (by rw [hc4, sI_o (by omega), sI_ne (by omega), sI_ne (by omega), sI_ne (by omega), sI_eq])
    (by rw [hc4, sI_o (by omega), sI_ne (by omega), sI_ne (by omega), sI_eq])
    (by rw [hc4, sI_o (by omega), sI_ne (by omega), sI_eq])
    (by rw [hc4, sI_o (by omega), sI_eq]; rfl)
    un (fun o j a1 a2 y => cn o j (by omega) (by omega))
  have c4o : ∀ o, o ≠ S → o ≠ S + 7 → c4.1 o = t2.1 o := fun o y1 y2 => by rw [hc4, sI_o y1, sI_o y2, sI_o y2, sI_o y2, sI_o y2]
  refine ⟨c4, m5, pp2, qq2, ?_, ?_, NC_frc (NC_frm N3 (fun j _ _ => by rw [hm5, sI_o (by omega)]) (by rw [hm5, sI_o (by omega)])) (c4o 31 (by omega) (by omega)) (c4o 1 (by omega) (by omega)) (c4o 32 (by omega) (by omega)) (by rw [c4o 30 (by omega) (by omega)]), TOLD_new hT hW' hR' (by rw [hc4]; exact SD3.2.1.trans hr5.symm) (FLG_no hFl (w := 3) (by omega) (cn 30 6 (by omega) (by omega)) (cn 30 7 (by omega) (by omega)) (cn 30 8 (by omega) (by omega)) (by rw [hm5, sI_o (by omega)]; exact k23) (fun r hr => by unfold vl; rw [un 18 r (by omega), un 19 r (by omega)]; exact ⟨rfl, rfl⟩)) (mn 0 34 (by omega) (by omega)) (mn 0 35 (by omega) (by omega)) (mn 2 17 (by omega) (by omega)) (mn 0 24 (by omega) (by omega)) (cn 30 2 (by omega) (by omega)) (cn 30 1 (by omega) (by omega)) (mn 0 31 (by omega) (by omega)), by omega, ?_, ?_⟩
  · rw [hC18]
    unfold f5_readSend_b18
    have hz : t2.1 30 0 = (0 : Int32) := N3.2.1
    have hrr : t2.2.2 30 5 = some S := SD3.2.1
    have i0 : nI (4 * x) + (0 : Int32) = nI (4 * x) := i_add0 _
    have i1 : nI (4 * x) + (1 : Int32) = nI (4 * x + 1) := nI_add _ 1
    have i2 : nI (4 * x) + (2 : Int32) = nI (4 * x + 2) := nI_add _ 2
    have i3 : nI (4 * x) + (3 : Int32) = nI (4 * x + 3) := nI_add _ 3
    rw [fi_eq, if_pos rfl, g_bs, e1, g_bs, g_drT hSDa.2.1 hS, cxa, hx4, g_let_e, ok0, g_bs, g_let_e, ok1, g_bs, g_let_e, ok2, g_bs, g_let_e, if_pos hz, g_drT (show t2.2.2 30 5 = some S from hrr) hS, i0, g_ckN (by omega) (by omega), g_clN (by omega), g_let_e, g_drT (show (g_sI t2 (S + 7) (4 * x) (nI u0)).2.2 30 5 = some S from hrr) hS, i1, g_ckN (by omega) (by omega), g_clN (by omega), g_let_e, g_drT (show (g_sI (g_sI t2 (S + 7) (4 * x) (nI u0)) (S + 7) (4 * x + 1) (nI u1)).2.2 30 5 = some S from hrr) hS, i2, g_ckN (by omega) (by omega), g_clN (by omega), g_let_e, g_drT (show (g_sI (g_sI (g_sI t2 (S + 7) (4 * x) (nI u0)) (S + 7) (4 * x + 1) (nI u1)) (S + 7) (4 * x + 2) (nI u2)).2.2 30 5 = some S from hrr) hS, i3, g_ckN (by omega) (by omega), g_clN (by omega), g_let_e, g_drT (show (g_sI (g_sI (g_sI (g_sI t2 (S + 7) (4 * x) (nI u0)) (S + 7) (4 * x + 1) (nI u1)) (S + 7) (4 * x + 2) (nI u2)) (S + 7) (4 * x + 3) (0 : Int32)).2.2 30 5 = some S from hrr) hS, g_let_e, hc4]
    have e6x : (g_sI (g_sI (g_sI (g_sI t2 (S + 7) (4 * x) (nI u0)) (S + 7) (4 * x + 1) (nI u1)) (S + 7) (4 * x + 2) (nI u2)) (S + 7) (4 * x + 3) (0 : Int32)).1 S 6 + (1 : Int32) = nI (x + 1) := by rw [sI_o (by omega), sI_o (by omega), sI_o (by omega), sI_o (by omega), CE3 S 6 (by omega), cx, nI_s]
    rw [e6x]
  · rw [b71, rd', g_bs, kN, nI_s, ← hm5]
  · rw [hc4]; exact (((((FC3.s (by omega)).s (by omega)).s (by omega)).s (by omega)).s (by omega))
  · rw [hm5]; exact FM3.s (Or.inl UP2)
theorem l_want (hF : 5000 < F) (h : NC c m n p q) (hT : TOLD c m S) (k0 : c.1 31 0 = 3) (h28 : m.1 0 28 = 0) (h29 : m.1 0 29 = nI 4) : OUT F (f5_readWant F c) (f11_line F m) c m n q S := by
  have hSD := SD_of hT
  obtain ⟨hS, hr5, hW, hR, hFl, hOp, hLn, hPc, hPm⟩ := id hT
  have hSl := isT_le hS
  have hm := h.2.2
  obtain ⟨⟨a0, a1, a2, a3, a4, _⟩, _⟩ := id hW
  obtain ⟨x, hx⟩ : ∃ x, x = vl (up m) 2 4 := ⟨_, rfl⟩
  have bx : x ≤ 8 := by rw [hx]; exact a4.2
  have ux : (up m).1 2 4 = nI x := by rw [hx]; exact a4.1
  have mx : m.1 2 13 = nI x := ux
  have cx : c.1 S 8 = nI x := hR.2.2.2.2.1.2.1.trans ux
  have m90 : m.1 2 9 = nI (vl (up m) 2 0) := a0.1
  have c90 : c.1 (S + 1) 0 = nI (vl (up m) 2 0) := (hR.1 0 (by omega)).trans a0.1
  have b90 := a0.2
  have m91 : m.1 2 10 = nI (vl (up m) 2 1) := a1.1
  have c91 : c.1 (S + 1) 1 = nI (vl (up m) 2 1) := (hR.1 1 (by omega)).trans a1.1
  have b91 := a1.2
  have m92 : m.1 2 11 = nI (vl (up m) 2 2) := a2.1
  have c92 : c.1 (S + 1) 2 = nI (vl (up m) 2 2) := (hR.1 2 (by omega)).trans a2.1
  have b92 := a2.2
  have nm0 : ∀ i, i < vl (up m) 2 0 → c.1 (S + 2) (5 * 0 + i) = m.1 3 (5 + i) := fun i hi => by rw [Nat.mul_zero, Nat.zero_add, (hR.2.1 i hi).1]; exact up_at (by omega) (by omega) (show i < 5 by omega)
  have nm1 : ∀ i, i < vl (up m) 2 1 → c.1 (S + 2) (5 * 1 + i) = m.1 5 (5 + i) := fun i hi => by rw [Nat.mul_one, (hR.2.2.1 i hi).1]; exact up_at (by omega) (by omega) (show i < 5 by omega)
  have nm2 : ∀ i, i < vl (up m) 2 2 → c.1 (S + 2) (5 * 2 + i) = m.1 8 (5 + i) := fun i hi => by rw [show 5 * 2 + i = 10 + i from rfl, (hR.2.2.2.1 i hi).1]; exact up_at (by omega) (by omega) (show i < 5 by omega)
  obtain ⟨L1, L2, _⟩ := r_line (F := F) (m := m) (f := 4) (by omega) h28 h29
  have hqp : q < p := h.1.2.2.2.2.2 (by rw [k0]; decide)
  have rd' : ∀ (y : g_M) v, f11_reads F (4 : Int32) v y = some (g_sI y 2 13 v) := fun y v => r_reads (j := 4) (by omega) v
  have UP13 : x < 8 → UPc 13 (8 + x) := fun _ => ⟨by omega, by omega, by show 8 ≤ 8 + x; omega⟩
  have UP14 : x < 8 → UPc 14 (8 + x) := fun _ => ⟨by omega, by omega, by show 8 ≤ 8 + x; omega⟩
  have UP15 : x < 8 → UPc 15 (8 + x) := fun _ => ⟨by omega, by omega, by show 8 ≤ 8 + x; omega⟩
  have UP16 : x < 8 → UPc 16 (8 + x) := fun _ => ⟨by omega, by omega, by show 8 ≤ 8 + x; omega⟩
  have UP17 : x < 8 → UPc 17 (8 + x) := fun _ => ⟨by omega, by omega, by show 8 ≤ 8 + x; omega⟩
  have UP2 : UPc 2 13 := ⟨by omega, by omega, by show 9 ≤ 13; omega⟩
  have head : f5_readWant F c = if (8 : Int32) ≤ nI x then f5_readWant_b18 F (1 : Int32) c else f5_readWant_b18 F (0 : Int32) c := by
    unfold f5_readWant
    rw [g_drT hr5 hS, cx]
  have tf5 : x < 8 → ∀ y : g_M, FRM m y → ¬ y.1 0 30 = (0 : Int32) → ∃ y', (f11_reads F (4 : Int32) (y.1 2 13 + (1 : Int32)) y).bind (fun r22 => f11_line_b466 F r22) = some y' ∧ FRM m y' ∧ y'.1 0 30 = y.1 0 30 ∧ y'.1 0 31 = y.1 0 31 ∧ y'.1 1 = y.1 1 := by
    intro hlt y hy hz
    refine ⟨g_sI y 2 13 (y.1 2 13 + (1 : Int32)), ?_, hy.s (Or.inl UP2), by rw [sI_o (by omega)], by rw [sI_o (by omega)], sI_o (by omega)⟩
    rw [rd', g_bs, mF_466 (by rw [sI_o (by omega)]; exact hz)]
  have tf4 : x < 8 → ∀ y : g_M, FRM m y → ¬ y.1 0 30 = (0 : Int32) → ∃ y', (f11_numeral F (0 : Int32) (99 : Int32) y).bind (fun s4 => g_let (g_sI s4.2 17 (8 + x) s4.1) (fun y5 => (f11_reads F (4 : Int32) (y5.1 2 13 + (1 : Int32)) y5).bind (fun r22 => f11_line_b466 F r22))) = some y' ∧ FRM m y' ∧ y'.1 0 30 = y.1 0 30 ∧ y'.1 0 31 = y.1 0 31 ∧ y'.1 1 = y.1 1 := by
    intro hlt y hy hz
    obtain ⟨y', z1, z2, z3, z4, z5⟩ := tf5 hlt (g_sI y 17 (8 + x) (0 : Int32)) (hy.s (Or.inl (UP17 hlt))) (by rw [sI_o (by omega)]; exact hz)
    refine ⟨y', ?_, z2, by rw [z3, sI_o (by omega)], by rw [z4, sI_o (by omega)], by rw [z5]; exact sI_o (by omega)⟩
    rw [mF_num hz, g_bs, g_let_e]; exact z1
  have tf3 : x < 8 → ∀ y : g_M, FRM m y → ¬ y.1 0 30 = (0 : Int32) → ∃ y', (f11_numeral F (0 : Int32) (99 : Int32) y).bind (fun s3 => g_let (g_sI s3.2 16 (8 + x) s3.1) (fun y4 => (f11_numeral F (0 : Int32) (99 : Int32) y4).bind (fun s4 => g_let (g_sI s4.2 17 (8 + x) s4.1) (fun y5 => (f11_reads F (4 : Int32) (y5.1 2 13 + (1 : Int32)) y5).bind (fun r22 => f11_line_b466 F r22))))) = some y' ∧ FRM m y' ∧ y'.1 0 30 = y.1 0 30 ∧ y'.1 0 31 = y.1 0 31 ∧ y'.1 1 = y.1 1 := by
    intro hlt y hy hz
    obtain ⟨y', z1, z2, z3, z4, z5⟩ := tf4 hlt (g_sI y 16 (8 + x) (0 : Int32)) (hy.s (Or.inl (UP16 hlt))) (by rw [sI_o (by omega)]; exact hz)
    refine ⟨y', ?_, z2, by rw [z3, sI_o (by omega)], by rw [z4, sI_o (by omega)], by rw [z5]; exact sI_o (by omega)⟩
    rw [mF_num hz, g_bs, g_let_e]; exact z1
  have tf2 : x < 8 → ∀ y : g_M, FRM m y → ¬ y.1 0 30 = (0 : Int32) → ∃ y', (f11_numeral F (0 : Int32) (1 : Int32) y).bind (fun s2 => g_let (g_sI s2.2 15 (8 + x) s2.1) (fun y3 => (f11_numeral F (0 : Int32) (99 : Int32) y3).bind (fun s3 => g_let (g_sI s3.2 16 (8 + x) s3.1) (fun y4 => (f11_numeral F (0 : Int32) (99 : Int32) y4).bind (fun s4 => g_let (g_sI s4.2 17 (8 + x) s4.1) (fun y5 => (f11_reads F (4 : Int32) (y5.1 2 13 + (1 : Int32)) y5).bind (fun r22 => f11_line_b466 F r22))))))) = some y' ∧ FRM m y' ∧ y'.1 0 30 = y.1 0 30 ∧ y'.1 0 31 = y.1 0 31 ∧ y'.1 1 = y.1 1 := by
    intro hlt y hy hz
    obtain ⟨y', z1, z2, z3, z4, z5⟩ := tf3 hlt (g_sI y 15 (8 + x) (0 : Int32)) (hy.s (Or.inl (UP15 hlt))) (by rw [sI_o (by omega)]; exact hz)
    refine ⟨y', ?_, z2, by rw [z3, sI_o (by omega)], by rw [z4, sI_o (by omega)], by rw [z5]; exact sI_o (by omega)⟩
    rw [mF_num hz, g_bs, g_let_e]; exact z1
  have tf1 : x < 8 → ∀ y : g_M, FRM m y → ¬ y.1 0 30 = (0 : Int32) → ∃ y', (f11_toldAhead F 8 (5 : Int32) (y.1 2 11) y).bind (fun s1 => g_let (g_sI s1.2 14 (8 + x) s1.1) (fun y2 => (f11_numeral F (0 : Int32) (1 : Int32) y2).bind (fun s2 => g_let (g_sI s2.2 15 (8 + x) s2.1) (fun y3 => (f11_numeral F (0 : Int32) (99 : Int32) y3).bind (fun s3 => g_let (g_sI s3.2 16 (8 + x) s3.1) (fun y4 => (f11_numeral F (0 : Int32) (99 : Int32) y4).bind (fun s4 => g_let (g_sI s4.2 17 (8 + x) s4.1) (fun y5 => (f11_reads F (4 : Int32) (y5.1 2 13 + (1 : Int32)) y5).bind (fun r22 => f11_line_b466 F r22))))))))) = some y' ∧ FRM m y' ∧ y'.1 0 30 = y.1 0 30 ∧ y'.1 0 31 = y.1 0 31 ∧ y'.1 1 = y.1 1 := by
    intro hlt y hy hz
    obtain ⟨y', z1, z2, z3, z4, z5⟩ := tf2 hlt (g_sI y 14 (8 + x) (0 : Int32)) (hy.s (Or.inl (UP14 hlt))) (by rw [sI_o (by omega)]; exact hz)
    refine ⟨y', ?_, z2, by rw [z3, sI_o (by omega)], by rw [z4, sI_o (by omega)], by rw [z5]; exact sI_o (by omega)⟩
    rw [mF_told hz, g_bs, g_let_e]; exact z1
  have tf0 : x < 8 → ∀ y : g_M, FRM m y → ¬ y.1 0 30 = (0 : Int32) → ∃ y', (f11_toldAhead F 3 (5 : Int32) (y.1 2 9) y).bind (fun s0 => g_let (g_sI s0.2 13 (8 + x) s0.1) (fun y1 => (f11_toldAhead F 8 (5 : Int32) (y1.1 2 11) y1).bind (fun s1 => g_let (g_sI s1.2 14 (8 + x) s1.1) (fun y2 => (f11_numeral F (0 : Int32) (1 : Int32) y2).bind (fun s2 => g_let (g_sI s2.2 15 (8 + x) s2.1) (fun y3 => (f11_numeral F (0 : Int32) (99 : Int32) y3).bind (fun s3 => g_let (g_sI s3.2 16 (8 + x) s3.1) (fun y4 => (f11_numeral F (0 : Int32) (99 : Int32) y4).bind (fun s4 => g_let (g_sI s4.2 17 (8 + x) s4.1) (fun y5 => (f11_reads F (4 : Int32) (y5.1 2 13 + (1 : Int32)) y5).bind (fun r22 => f11_line_b466 F r22))))))))))) = some y' ∧ FRM m y' ∧ y'.1 0 30 = y.1 0 30 ∧ y'.1 0 31 = y.1 0 31 ∧ y'.1 1 = y.1 1 := by
    intro hlt y hy hz
    obtain ⟨y', z1, z2, z3, z4, z5⟩ := tf1 hlt (g_sI y 13 (8 + x) (0 : Int32)) (hy.s (Or.inl (UP13 hlt))) (by rw [sI_o (by omega)]; exact hz)
    refine ⟨y', ?_, z2, by rw [z3, sI_o (by omega)], by rw [z4, sI_o (by omega)], by rw [z5]; exact sI_o (by omega)⟩
    rw [mF_told hz, g_bs, g_let_e]; exact z1
  by_cases full : x = 8
  · right
    obtain ⟨c0, m', e1, e2, e3, e4, e5, e6, e7⟩ := fo_of (F := F) h (f := 2) (by omega) (by omega)
    obtain ⟨g, hCX⟩ := FO_CX e3 hS (by rw [e4.1]; exact hr5) (fun k hk => by rw [e6 (S + 1) k (by omega)]; exact hSD.2.2 k hk)
    obtain ⟨c1, t1, t2, t3⟩ := x_step (F := F) hF hCX
    obtain ⟨w0, d0, s0a', s0b, s0c⟩ := x_oldOne (F := F) hF t2 (k := 0) (by omega)
    have s0a : f5_oldOne F (0 : Int32) _ = some (w0, d0) := s0a'
    obtain ⟨w1, d1, s1a', s1b, s1c⟩ := x_oldOne (F := F) hF s0b (k := 2) (by omega)
    have s1a : f5_oldOne F (2 : Int32) _ = some (w1, d1) := s1a'
    obtain ⟨w2, d2, s2a, s2b, s2c⟩ := x_number (F := F) hF s1b (0 : Int32) (1 : Int32)
    obtain ⟨w3, d3, s3a, s3b, s3c⟩ := x_number (F := F) hF s2b (0 : Int32) (99 : Int32)
    obtain ⟨w4, d4, s4a, s4b, s4c⟩ := x_number (F := F) hF s3b (0 : Int32) (99 : Int32)
    have hFOs := FO_lex e3 t2.2.2.2.1 t3
    have hFO0 := hFOs
    have hFOa0 := FO_lex hFO0 s0b.2.2.2.1 s0c
    have hFOa1 := FO_lex hFOa0 s1b.2.2.2.1 s1c
    have hFOa2 := FO_lex hFOa1 s2b.2.2.2.1 s2c
    have hFOa3 := FO_lex hFOa2 s3b.2.2.2.1 s3c
    have hFOa4 := FO_lex hFOa3 s4b.2.2.2.1 s4c
    refine ⟨d4, m', ?_, ?_, hFOa4, SD_lx hSD ((((((e4.tr t3.w).tr s0c.w).tr s1c.w).tr s2c.w).tr s3c.w).tr s4c.w), FRC.x ((((((e4.tr t3.w).tr s0c.w).tr s1c.w).tr s2c.w).tr s3c.w).tr s4c.w), FRM.x e5⟩
    · rw [head, if_pos (show (8 : Int32) ≤ nI x from (g_leN (a := 8) (by omega) (by omega)).mpr (by omega))]
      unfold f5_readWant_b18
      rw [fi_eq, if_neg (by decide), show f5_fail F (2 : Int32) c = some c0 from e1, g_bs, t1, g_bs, g_drT t2.2.2.2.2.2.1 hS, g_let_e, s0a, g_bs, g_let_e, s1a, g_bs, g_let_e, s2a, g_bs, g_let_e, s3a, g_bs, g_let_e, s4a, g_bs, g_let_e, if_neg (FO_n hFOa4).2]
    · rw [L1 (Or.inr (Or.inr (Or.inr (Or.inr ⟨rfl, by rw [mx, full]; rfl⟩)))), show f11_wrong F (2 : Int32) m = some m' from e2, g_bs]
      unfold f11_line_b71
      rw [if_neg (FO_n e3).1]
  have hlt : x < 8 := by omega
  have nfull : ¬ isFullN m 4 := fun z => by
    rcases z with ⟨z0, z⟩ | ⟨z0, z⟩ | ⟨z0, z⟩ | ⟨z0, z⟩ | ⟨z0, z⟩
    · omega
    · omega
    · omega
    · omega
    · rw [mx] at z; have := (g_eqN (b := 8) (by omega) (by omega)).mp z; omega
  have hN9 : NC c (g_sI m 0 23 (m.1 0 23 ||| ((1 : Int32) <<< (nI 4 &&& 31)))) n p q := NC_frm h (fun k _ _ => sI_ne (by omega)) (sI_o (by omega))
  obtain ⟨ca, r10, pa, qa, e1, e2, e3, e4, e5, e6⟩ := NC_lex hN9 hF
  have r12 : r10.1 2 13 = nI x := by rw [e6.2 2 13 (by omega), sI_o (by omega)]; exact mx
  have fr9 : FRM m r10 := (FRM.s (FRM.r m) (Or.inr (by omega))).tr (FRM.x e6.w)
  have fr3 : ∀ y : g_M, f11_fresher F (4 : Int32) y = some (y.1 2 13) := fun y => r_fresher (j := 4) (by omega)
  have fr1 : ∀ y : g_M, f11_fresher F (1 : Int32) y = some (y.1 2 10) := fun y => r_fresher (j := 1) (by omega)
  have fr2 : ∀ y : g_M, f11_fresher F (2 : Int32) y = some (y.1 2 11) := fun y => r_fresher (j := 2) (by omega)
  have b71 : f11_line F m = (f11_toldAhead F 3 (5 : Int32) (r10.1 2 9) r10).bind (fun s0 => g_let (g_sI s0.2 13 (8 + x) s0.1) (fun y1 => (f11_toldAhead F 8 (5 : Int32) (y1.1 2 11) y1).bind (fun s1 => g_let (g_sI s1.2 14 (8 + x) s1.1) (fun y2 => (f11_numeral F (0 : Int32) (1 : Int32) y2).bind (fun s2 => g_let (g_sI s2.2 15 (8 + x) s2.1) (fun y3 => (f11_numeral F (0 : Int32) (99 : Int32) y3).bind (fun s3 => g_let (g_sI s3.2 16 (8 + x) s3.1) (fun y4 => (f11_numeral F (0 : Int32) (99 : Int32) y4).bind (fun s4 => g_let (g_sI s4.2 17 (8 + x) s4.1) (fun y5 => (f11_reads F (4 : Int32) (y5.1 2 13 + (1 : Int32)) y5).bind (fun r22 => f11_line_b466 F r22))))))))))) := by
    rw [L2 nfull (by omega)]
    unfold f11_line_b71
    rw [hm, if_pos nI00, g_let_e, e2, g_bs, if_neg (show ¬ nI 4 = (0 : Int32) by decide), if_neg (show ¬ nI 4 = (1 : Int32) by decide), if_neg (show ¬ nI 4 = (2 : Int32) by decide), if_neg (show ¬ nI 4 = (3 : Int32) by decide), if_pos (show nI 4 = (4 : Int32) from rfl), fr3 r10, g_bs, r12, show (8 : Int32) + nI x = nI (8 + x) from nI_add 8 x]
    have ck : ∀ k : Option g_M, g_ck (nI (8 + x)) 16 k = k := fun k => g_ckN (by omega) (by omega)
    unfold f11_wantLine
    simp only [ck, g_clN (show 8 + x < 2147483648 by omega), fr3, fr1, fr2, g_bs, r_manAhead, g_let, Option.bind_assoc]
  have hC18 : f5_readWant F c = f5_readWant_b18 F (0 : Int32) c := by rw [head, if_neg (show ¬ (8 : Int32) ≤ nI x from fun z => by have := (g_leN (a := 8) (by omega) (by omega)).mp z; omega)]
  have hSDa : SD ca S := SD_lx hSD e5.w
  have cxa : ca.1 S 8 = nI x := by rw [e5.2 S 8 (by omega)]; exact cx
  have hx4 : nI x * (5 : Int32) = nI (5 * x) := by rw [show (5 : Int32) = nI 5 from rfl, pk_mul, Nat.mul_comm]
  have CE0 : ∀ o j, ¬ (o = 31 ∧ (j = 0 ∨ j = 1 ∨ j = 2 ∨ j = 5)) → ca.1 o j = c.1 o j := e5.2
  have ME0 : ∀ o j, ¬ (o = 0 ∧ (j = 23 ∨ j = 26 ∨ j = 27 ∨ j = 28 ∨ j = 29)) → ¬ ((o = 13 ∧ j = 8 + x) ∨ (o = 14 ∧ j = 8 + x) ∨ (o = 15 ∧ j = 8 + x) ∨ (o = 16 ∧ j = 8 + x) ∨ (o = 17 ∧ j = 8 + x)) → r10.1 o j = m.1 o j := fun o j y1 _ => by rw [e6.2 o j (by omega), sI_ne (by omega)]
  have FC0 : FRC c ca S := FRC.x e5.w
  rcases rd_old (F := F) hF e3 hSDa (k := 0) (a := 3) (x := vl (up m) 2 0) (by omega) rfl (by omega) (by rw [CE0 (S + 1) 0 (by omega)]; exact c90) (fun i hi => by rw [CE0 (S + 2) _ (by omega), ME0 3 _ (by omega) (by omega)]; exact nm0 i hi) with ⟨u0, t0, n0, pp0, qq0, g0b, g0c, g0d, g0e, g0f, g0g, g0h⟩ | ⟨u0, t0, n0, g0c, g0d, g0e, g0f, g0g⟩
  rotate_left
  · have gC : f5_oldOne F (0 : Int32) ca = some (u0, t0) := g0c
    have gM : f11_toldAhead F 3 (5 : Int32) (r10.1 2 9) r10 = some (nI 0, n0) := by rw [show r10.1 2 9 = nI (vl (up m) 2 0) from by rw [ME0 2 9 (by omega) (by omega)]; exact m90]; exact g0d
    have hSDf := SD_lx hSDa g0f
    obtain ⟨g, hCX⟩ := FO_CX g0e hSDf.1 hSDf.2.1 hSDf.2.2
    obtain ⟨w1, d1, s1a', s1b, s1c⟩ := x_oldOne (F := F) hF hCX (k := 2) (by omega)
    have s1a : f5_oldOne F (2 : Int32) _ = some (w1, d1) := s1a'
    obtain ⟨w2, d2, s2a, s2b, s2c⟩ := x_number (F := F) hF s1b (0 : Int32) (1 : Int32)
    obtain ⟨w3, d3, s3a, s3b, s3c⟩ := x_number (F := F) hF s2b (0 : Int32) (99 : Int32)
    obtain ⟨w4, d4, s4a, s4b, s4c⟩ := x_number (F := F) hF s3b (0 : Int32) (99 : Int32)
    have hFO0 := g0e
    have hFOa1 := FO_lex hFO0 s1b.2.2.2.1 s1c
    have hFOa2 := FO_lex hFOa1 s2b.2.2.2.1 s2c
    have hFOa3 := FO_lex hFOa2 s3b.2.2.2.1 s3c
    have hFOa4 := FO_lex hFOa3 s4b.2.2.2.1 s4c
    obtain ⟨y', z1, z2, z3, z4, z5⟩ := tf1 hlt (g_sI n0 13 (8 + x) (nI 0)) ((fr9.tr (FRM.x g0g)).s (Or.inl (UP13 hlt))) (by rw [sI_o (by omega)]; exact (FO_n g0e).1)
    right
    refine ⟨d4, y', ?_, ?_, FO_frm hFOa4 (by rw [z3, sI_o (by omega)]) (by rw [z4, sI_o (by omega)]) (by rw [z5]; exact sI_o (by omega)), SD_lx hSDa ((((g0f.tr s1c.w).tr s2c.w).tr s3c.w).tr s4c.w), FC0.tr (FRC.x ((((g0f.tr s1c.w).tr s2c.w).tr s3c.w).tr s4c.w)), z2⟩
    · rw [hC18]
      unfold f5_readWant_b18
      rw [fi_eq, if_pos rfl, g_bs, e1, g_bs, g_drT hSDa.2.1 hS, cxa, hx4, g_let_e, gC, g_bs, g_let_e, s1a, g_bs, g_let_e, s2a, g_bs, g_let_e, s3a, g_bs, g_let_e, s4a, g_bs, g_let_e, if_neg (FO_n hFOa4).2]
    · rw [b71, gM, g_bs, g_let_e]; exact z1
  have ok0 : f5_oldOne F (0 : Int32) ca = some (nI u0, t0) := g0c
  have okm0 : f11_toldAhead F 3 (5 : Int32) (r10.1 2 9) r10 = some (nI u0, n0) := by rw [show r10.1 2 9 = nI (vl (up m) 2 0) from by rw [ME0 2 9 (by omega) (by omega)]; exact m90]; exact g0d
  obtain ⟨w1, hw1⟩ : ∃ y, y = g_sI n0 13 (8 + x) (nI u0) := ⟨_, rfl⟩
  have N1 : NC t0 w1 n pp0 qq0 := by rw [hw1]; exact NC_frm g0e (fun k _ _ => sI_ne (by omega)) (sI_o (by omega))
  have FM1 : FRM m w1 := by rw [hw1]; exact (fr9.tr (FRM.x g0h.w)).s (Or.inl (UP13 hlt))
  have SD1 : SD t0 S := SD_lx hSDa g0g.w
  have FC1 : FRC c t0 S := FC0.tr (FRC.x g0g.w)
  have CE1 : ∀ o j, ¬ (o = 31 ∧ (j = 0 ∨ j = 1 ∨ j = 2 ∨ j = 5)) → t0.1 o j = c.1 o j := fun o j y => (g0g.2 o j y).trans (CE0 o j y)
  have ME1 : ∀ o j, ¬ (o = 0 ∧ (j = 23 ∨ j = 26 ∨ j = 27 ∨ j = 28 ∨ j = 29)) → ¬ ((o = 13 ∧ j = 8 + x) ∨ (o = 14 ∧ j = 8 + x) ∨ (o = 15 ∧ j = 8 + x) ∨ (o = 16 ∧ j = 8 + x) ∨ (o = 17 ∧ j = 8 + x)) → w1.1 o j = m.1 o j := fun o j y1 y2 => by rw [hw1, sI_ne (by omega), g0h.2 o j (by omega)]; exact ME0 o j y1 y2
  rw [okm0, g_bs, g_let_e, ← hw1] at b71
  rcases rd_old (F := F) hF N1 SD1 (k := 2) (a := 8) (x := vl (up m) 2 2) (by omega) rfl (by omega) (by rw [CE1 (S + 1) 2 (by omega)]; exact c92) (fun i hi => by rw [CE1 (S + 2) _ (by omega), ME1 8 _ (by omega) (by omega)]; exact nm2 i hi) with ⟨u1, t1, n1, pp1, qq1, g1b, g1c, g1d, g1e, g1f, g1g, g1h⟩ | ⟨u1, t1, n1, g1c, g1d, g1e, g1f, g1g⟩
  rotate_left
  · have gC : f5_oldOne F (2 : Int32) t0 = some (u1, t1) := g1c
    have gM : f11_toldAhead F 8 (5 : Int32) (w1.1 2 11) w1 = some (nI 0, n1) := by rw [show w1.1 2 11 = nI (vl (up m) 2 2) from by rw [ME1 2 11 (by omega) (by omega)]; exact m92]; exact g1d
    have hSDf := SD_lx SD1 g1f
    obtain ⟨g, hCX⟩ := FO_CX g1e hSDf.1 hSDf.2.1 hSDf.2.2
    obtain ⟨w2, d2, s2a, s2b, s2c⟩ := x_number (F := F) hF hCX (0 : Int32) (1 : Int32)
    obtain ⟨w3, d3, s3a, s3b, s3c⟩ := x_number (F := F) hF s2b (0 : Int32) (99 : Int32)
    obtain ⟨w4, d4, s4a, s4b, s4c⟩ := x_number (F := F) hF s3b (0 : Int32) (99 : Int32)
    have hFO0 := g1e
    have hFOa2 := FO_lex hFO0 s2b.2.2.2.1 s2c
    have hFOa3 := FO_lex hFOa2 s3b.2.2.2.1 s3c
    have hFOa4 := FO_lex hFOa3 s4b.2.2.2.1 s4c
    obtain ⟨y', z1, z2, z3, z4, z5⟩ := tf2 hlt (g_sI n1 14 (8 + x) (nI 0)) ((FM1.tr (FRM.x g1g)).s (Or.inl (UP14 hlt))) (by rw [sI_o (by omega)]; exact (FO_n g1e).1)
    right
    refine ⟨d4, y', ?_, ?_, FO_frm hFOa4 (by rw [z3, sI_o (by omega)]) (by rw [z4, sI_o (by omega)]) (by rw [z5]; exact sI_o (by omega)), SD_lx SD1 (((g1f.tr s2c.w).tr s3c.w).tr s4c.w), FC1.tr (FRC.x (((g1f.tr s2c.w).tr s3c.w).tr s4c.w)), z2⟩
    · rw [hC18]
      unfold f5_readWant_b18
      rw [fi_eq, if_pos rfl, g_bs, e1, g_bs, g_drT hSDa.2.1 hS, cxa, hx4, g_let_e, ok0, g_bs, g_let_e, gC, g_bs, g_let_e, s2a, g_bs, g_let_e, s3a, g_bs, g_let_e, s4a, g_bs, g_let_e, if_neg (FO_n hFOa4).2]
    · rw [b71, gM, g_bs, g_let_e]; exact z1
  have ok1 : f5_oldOne F (2 : Int32) t0 = some (nI u1, t1) := g1c
  have okm1 : f11_toldAhead F 8 (5 : Int32) (w1.1 2 11) w1 = some (nI u1, n1) := by rw [show w1.1 2 11 = nI (vl (up m) 2 2) from by rw [ME1 2 11 (by omega) (by omega)]; exact m92]; exact g1d
  obtain ⟨w2, hw2⟩ : ∃ y, y = g_sI n1 14 (8 + x) (nI u1) := ⟨_, rfl⟩
  have N2 : NC t1 w2 n pp1 qq1 := by rw [hw2]; exact NC_frm g1e (fun k _ _ => sI_ne (by omega)) (sI_o (by omega))
  have FM2 : FRM m w2 := by rw [hw2]; exact (FM1.tr (FRM.x g1h.w)).s (Or.inl (UP14 hlt))
  have SD2 : SD t1 S := SD_lx SD1 g1g.w
  have FC2 : FRC c t1 S := FC1.tr (FRC.x g1g.w)
  have CE2 : ∀ o j, ¬ (o = 31 ∧ (j = 0 ∨ j = 1 ∨ j = 2 ∨ j = 5)) → t1.1 o j = c.1 o j := fun o j y => (g1g.2 o j y).trans (CE1 o j y)
  have ME2 : ∀ o j, ¬ (o = 0 ∧ (j = 23 ∨ j = 26 ∨ j = 27 ∨ j = 28 ∨ j = 29)) → ¬ ((o = 13 ∧ j = 8 + x) ∨ (o = 14 ∧ j = 8 + x) ∨ (o = 15 ∧ j = 8 + x) ∨ (o = 16 ∧ j = 8 + x) ∨ (o = 17 ∧ j = 8 + x)) → w2.1 o j = m.1 o j := fun o j y1 y2 => by rw [hw2, sI_ne (by omega), g1h.2 o j (by omega)]; exact ME1 o j y1 y2
  rw [okm1, g_bs, g_let_e, ← hw2] at b71
  rcases rd_num (F := F) hF N2 SD2 (lo := 0) (hi := 1) (by omega) (by omega) with ⟨u2, t2, n2, pp2, qq2, g2a, g2b, g2c, g2d, g2e, g2f, g2g, g2h⟩ | ⟨u2, t2, n2, g2c, g2d, g2e, g2f, g2g⟩
  rotate_left
  · have gC : f5_number F (0 : Int32) (1 : Int32) t1 = some (u2, t2) := g2c
    have gM : f11_numeral F (0 : Int32) (1 : Int32) w2 = some (nI 0, n2) := g2d
    have hSDf := SD_lx SD2 g2f
    obtain ⟨g, hCX⟩ := FO_CX g2e hSDf.1 hSDf.2.1 hSDf.2.2
    obtain ⟨w3, d3, s3a, s3b, s3c⟩ := x_number (F := F) hF hCX (0 : Int32) (99 : Int32)
    obtain ⟨w4, d4, s4a, s4b, s4c⟩ := x_number (F := F) hF s3b (0 : Int32) (99 : Int32)
    have hFO0 := g2e
    have hFOa3 := FO_lex hFO0 s3b.2.2.2.1 s3c
    have hFOa4 := FO_lex hFOa3 s4b.2.2.2.1 s4c
    obtain ⟨y', z1, z2, z3, z4, z5⟩ := tf3 hlt (g_sI n2 15 (8 + x) (nI 0)) ((FM2.tr (FRM.x g2g)).s (Or.inl (UP15 hlt))) (by rw [sI_o (by omega)]; exact (FO_n g2e).1)
    right
    refine ⟨d4, y', ?_, ?_, FO_frm hFOa4 (by rw [z3, sI_o (by omega)]) (by rw [z4, sI_o (by omega)]) (by rw [z5]; exact sI_o (by omega)), SD_lx SD2 ((g2f.tr s3c.w).tr s4c.w), FC2.tr (FRC.x ((g2f.tr s3c.w).tr s4c.w)), z2⟩
    · rw [hC18]
      unfold f5_readWant_b18
      rw [fi_eq, if_pos rfl, g_bs, e1, g_bs, g_drT hSDa.2.1 hS, cxa, hx4, g_let_e, ok0, g_bs, g_let_e, ok1, g_bs, g_let_e, gC, g_bs, g_let_e, s3a, g_bs, g_let_e, s4a, g_bs, g_let_e, if_neg (FO_n hFOa4).2]
    · rw [b71, gM, g_bs, g_let_e]; exact z1
  have ok2 : f5_number F (0 : Int32) (1 : Int32) t1 = some (nI u2, t2) := g2c
  have okm2 : f11_numeral F (0 : Int32) (1 : Int32) w2 = some (nI u2, n2) := g2d
  obtain ⟨w3, hw3⟩ : ∃ y, y = g_sI n2 15 (8 + x) (nI u2) := ⟨_, rfl⟩
  have N3 : NC t2 w3 n pp2 qq2 := by rw [hw3]; exact NC_frm g2e (fun k _ _ => sI_ne (by omega)) (sI_o (by omega))
  have FM3 : FRM m w3 := by rw [hw3]; exact (FM2.tr (FRM.x g2h.w)).s (Or.inl (UP15 hlt))
  have SD3 : SD t2 S := SD_lx SD2 g2g.w
  have FC3 : FRC c t2 S := FC2.tr (FRC.x g2g.w)
  have CE3 : ∀ o j, ¬ (o = 31 ∧ (j = 0 ∨ j = 1 ∨ j = 2 ∨ j = 5)) → t2.1 o j = c.1 o j := fun o j y => (g2g.2 o j y).trans (CE2 o j y)
  have ME3 : ∀ o j, ¬ (o = 0 ∧ (j = 23 ∨ j = 26 ∨ j = 27 ∨ j = 28 ∨ j = 29)) → ¬ ((o = 13 ∧ j = 8 + x) ∨ (o = 14 ∧ j = 8 + x) ∨ (o = 15 ∧ j = 8 + x) ∨ (o = 16 ∧ j = 8 + x) ∨ (o = 17 ∧ j = 8 + x)) → w3.1 o j = m.1 o j := fun o j y1 y2 => by rw [hw3, sI_ne (by omega), g2h.2 o j (by omega)]; exact ME2 o j y1 y2
  rw [okm2, g_bs, g_let_e, ← hw3] at b71
  rcases rd_num (F := F) hF N3 SD3 (lo := 0) (hi := 99) (by omega) (by omega) with ⟨u3, t3, n3, pp3, qq3, g3a, g3b, g3c, g3d, g3e, g3f, g3g, g3h⟩ | ⟨u3, t3, n3, g3c, g3d, g3e, g3f, g3g⟩
  rotate_left
  · have gC : f5_number F (0 : Int32) (99 : Int32) t2 = some (u3, t3) := g3c
    have gM : f11_numeral F (0 : Int32) (99 : Int32) w3 = some (nI 0, n3) := g3d
    have hSDf := SD_lx SD3 g3f
    obtain ⟨g, hCX⟩ := FO_CX g3e hSDf.1 hSDf.2.1 hSDf.2.2
    obtain ⟨w4, d4, s4a, s4b, s4c⟩ := x_number (F := F) hF hCX (0 : Int32) (99 : Int32)
    have hFO0 := g3e
    have hFOa4 := FO_lex hFO0 s4b.2.2.2.1 s4c
    obtain ⟨y', z1, z2, z3, z4, z5⟩ := tf4 hlt (g_sI n3 16 (8 + x) (nI 0)) ((FM3.tr (FRM.x g3g)).s (Or.inl (UP16 hlt))) (by rw [sI_o (by omega)]; exact (FO_n g3e).1)
    right
    refine ⟨d4, y', ?_, ?_, FO_frm hFOa4 (by rw [z3, sI_o (by omega)]) (by rw [z4, sI_o (by omega)]) (by rw [z5]; exact sI_o (by omega)), SD_lx SD3 (g3f.tr s4c.w), FC3.tr (FRC.x (g3f.tr s4c.w)), z2⟩
    · rw [hC18]
      unfold f5_readWant_b18
      rw [fi_eq, if_pos rfl, g_bs, e1, g_bs, g_drT hSDa.2.1 hS, cxa, hx4, g_let_e, ok0, g_bs, g_let_e, ok1, g_bs, g_let_e, ok2, g_bs, g_let_e, gC, g_bs, g_let_e, s4a, g_bs, g_let_e, if_neg (FO_n hFOa4).2]
    · rw [b71, gM, g_bs, g_let_e]; exact z1
  have ok3 : f5_number F (0 : Int32) (99 : Int32) t2 = some (nI u3, t3) := g3c
  have okm3 : f11_numeral F (0 : Int32) (99 : Int32) w3 = some (nI u3, n3) := g3d
  obtain ⟨w4, hw4⟩ : ∃ y, y = g_sI n3 16 (8 + x) (nI u3) := ⟨_, rfl⟩
  have N4 : NC t3 w4 n pp3 qq3 := by rw [hw4]; exact NC_frm g3e (fun k _ _ => sI_ne (by omega)) (sI_o (by omega))
  have FM4 : FRM m w4 := by rw [hw4]; exact (FM3.tr (FRM.x g3h.w)).s (Or.inl (UP16 hlt))
  have SD4 : SD t3 S := SD_lx SD3 g3g.w
  have FC4 : FRC c t3 S := FC3.tr (FRC.x g3g.w)
  have CE4 : ∀ o j, ¬ (o = 31 ∧ (j = 0 ∨ j = 1 ∨ j = 2 ∨ j = 5)) → t3.1 o j = c.1 o j := fun o j y => (g3g.2 o j y).trans (CE3 o j y)
  have ME4 : ∀ o j, ¬ (o = 0 ∧ (j = 23 ∨ j = 26 ∨ j = 27 ∨ j = 28 ∨ j = 29)) → ¬ ((o = 13 ∧ j = 8 + x) ∨ (o = 14 ∧ j = 8 + x) ∨ (o = 15 ∧ j = 8 + x) ∨ (o = 16 ∧ j = 8 + x) ∨ (o = 17 ∧ j = 8 + x)) → w4.1 o j = m.1 o j := fun o j y1 y2 => by rw [hw4, sI_ne (by omega), g3h.2 o j (by omega)]; exact ME3 o j y1 y2
  rw [okm3, g_bs, g_let_e, ← hw4] at b71
  rcases rd_num (F := F) hF N4 SD4 (lo := 0) (hi := 99) (by omega) (by omega) with ⟨u4, t4, n4, pp4, qq4, g4a, g4b, g4c, g4d, g4e, g4f, g4g, g4h⟩ | ⟨u4, t4, n4, g4c, g4d, g4e, g4f, g4g⟩
  rotate_left
  · have gC : f5_number F (0 : Int32) (99 : Int32) t3 = some (u4, t4) := g4c
    have gM : f11_numeral F (0 : Int32) (99 : Int32) w4 = some (nI 0, n4) := g4d
    have hSDf := SD_lx SD4 g4f
    obtain ⟨g, hCX⟩ := FO_CX g4e hSDf.1 hSDf.2.1 hSDf.2.2
    have hFO0 := g4e
    obtain ⟨y', z1, z2, z3, z4, z5⟩ := tf5 hlt (g_sI n4 17 (8 + x) (nI 0)) ((FM4.tr (FRM.x g4g)).s (Or.inl (UP17 hlt))) (by rw [sI_o (by omega)]; exact (FO_n g4e).1)
    right
    refine ⟨t4, y', ?_, ?_, FO_frm hFO0 (by rw [z3, sI_o (by omega)]) (by rw [z4, sI_o (by omega)]) (by rw [z5]; exact sI_o (by omega)), SD_lx SD4 g4f, FC4.tr (FRC.x g4f), z2⟩
    · rw [hC18]
      unfold f5_readWant_b18
      rw [fi_eq, if_pos rfl, g_bs, e1, g_bs, g_drT hSDa.2.1 hS, cxa, hx4, g_let_e, ok0, g_bs, g_let_e, ok1, g_bs, g_let_e, ok2, g_bs, g_let_e, ok3, g_bs, g_let_e, gC, g_bs, g_let_e, if_neg (FO_n hFO0).2]
    · rw [b71, gM, g_bs, g_let_e]; exact z1
  have ok4 : f5_number F (0 : Int32) (99 : Int32) t3 = some (nI u4, t4) := g4c
  have okm4 : f11_numeral F (0 : Int32) (99 : Int32) w4 = some (nI u4, n4) := g4d
  obtain ⟨w5, hw5⟩ : ∃ y, y = g_sI n4 17 (8 + x) (nI u4) := ⟨_, rfl⟩
  have N5 : NC t4 w5 n pp4 qq4 := by rw [hw5]; exact NC_frm g4e (fun k _ _ => sI_ne (by omega)) (sI_o (by omega))
  have FM5 : FRM m w5 := by rw [hw5]; exact (FM4.tr (FRM.x g4h.w)).s (Or.inl (UP17 hlt))
  have SD5 : SD t4 S := SD_lx SD4 g4g.w
  have FC5 : FRC c t4 S := FC4.tr (FRC.x g4g.w)
  have CE5 : ∀ o j, ¬ (o = 31 ∧ (j = 0 ∨ j = 1 ∨ j = 2 ∨ j = 5)) → t4.1 o j = c.1 o j := fun o j y => (g4g.2 o j y).trans (CE4 o j y)
  have ME5 : ∀ o j, ¬ (o = 0 ∧ (j = 23 ∨ j = 26 ∨ j = 27 ∨ j = 28 ∨ j = 29)) → ¬ ((o = 13 ∧ j = 8 + x) ∨ (o = 14 ∧ j = 8 + x) ∨ (o = 15 ∧ j = 8 + x) ∨ (o = 16 ∧ j = 8 + x) ∨ (o = 17 ∧ j = 8 + x)) → w5.1 o j = m.1 o j := fun o j y1 y2 => by rw [hw5, sI_ne (by omega), g4h.2 o j (by omega)]; exact ME4 o j y1 y2
  rw [okm4, g_bs, g_let_e, ← hw5] at b71
  left
  have k13 : w5.1 13 (8 + x) = nI u0 := by rw [hw5, sI_o (by omega), g4h.2 13 _ (by omega), hw4, sI_o (by omega), g3h.2 13 _ (by omega), hw3, sI_o (by omega), g2h.2 13 _ (by omega), hw2, sI_o (by omega), g1h.2 13 _ (by omega), hw1, sI_eq]
  have k14 : w5.1 14 (8 + x) = nI u1 := by rw [hw5, sI_o (by omega), g4h.2 14 _ (by omega), hw4, sI_o (by omega), g3h.2 14 _ (by omega), hw3, sI_o (by omega), g2h.2 14 _ (by omega), hw2, sI_eq]
  have k15 : w5.1 15 (8 + x) = nI u2 := by rw [hw5, sI_o (by omega), g4h.2 15 _ (by omega), hw4, sI_o (by omega), g3h.2 15 _ (by omega), hw3, sI_eq]
  have k16 : w5.1 16 (8 + x) = nI u3 := by rw [hw5, sI_o (by omega), g4h.2 16 _ (by omega), hw4, sI_eq]
  have k17 : w5.1 17 (8 + x) = nI u4 := by rw [hw5, sI_eq]
  have k23 : w5.1 0 23 = m.1 0 23 ||| ((1 : Int32) <<< (nI 4 &&& 31)) := by rw [hw5, sI_o (by omega), g4h.2 0 23 (by omega), hw4, sI_o (by omega), g3h.2 0 23 (by omega), hw3, sI_o (by omega), g2h.2 0 23 (by omega), hw2, sI_o (by omega), g1h.2 0 23 (by omega), hw1, sI_o (by omega), g0h.2 0 23 (by omega), e6.2 0 23 (by omega), sI_eq]
  have kN : w5.1 2 13 = nI x := by rw [ME5 2 13 (by omega) (by omega)]; exact mx
  obtain ⟨m5, hm5⟩ : ∃ y, y = g_sI w5 2 13 (nI (x + 1)) := ⟨_, rfl⟩
  obtain ⟨c4, hc4⟩ : ∃ y, y = (g_sI (g_sI (g_sI (g_sI (g_sI (g_sI t4 (S + 8) (5 * x) (nI u0)) (S + 8) (5 * x + 1) (nI u1)) (S + 8) (5 * x + 2) (nI u2)) (S + 8) (5 * x + 3) (nI u3)) (S + 8) (5 * x + 4) (nI u4)) S 8 (nI (x + 1))) := ⟨_, rfl⟩
  have cn : ∀ o j, ¬ (o = 31 ∧ (j = 0 ∨ j = 1 ∨ j = 2 ∨ j = 5)) → ¬ ((o = S ∧ j = 8) ∨ (o = S + 8 ∧ j = 5 * x) ∨ (o = S + 8 ∧ j = 5 * x + 1) ∨ (o = S + 8 ∧ j = 5 * x + 2) ∨ (o = S + 8 ∧ j = 5 * x + 3) ∨ (o = S + 8 ∧ j = 5 * x + 4)) → c4.1 o j = c.1 o j := fun o j y1 y2 => by
    rw [hc4, sI_ne (by omega), sI_ne (by omega), sI_ne (by omega), sI_ne (by omega), sI_ne (by omega), sI_ne (by omega)]; exact CE5 o j y1
  have mn : ∀ o j, ¬ (o = 0 ∧ (j = 23 ∨ j = 26 ∨ j = 27 ∨ j = 28 ∨ j = 29)) → ¬ ((o = 2 ∧ j = 13) ∨ (o = 13 ∧ j = 8 + x) ∨ (o = 14 ∧ j = 8 + x) ∨ (o = 15 ∧ j = 8 + x) ∨ (o = 16 ∧ j = 8 + x) ∨ (o = 17 ∧ j = 8 + x)) → m5.1 o j = m.1 o j := fun o j y1 y2 => by
    rw [hm5, sI_ne (by omega)]; exact ME5 o j y1 (by omega)
  have un : ∀ o k, ¬ ((o = 2 ∧ k = 4) ∨ (o = 13 ∧ k = x) ∨ (o = 14 ∧ k = x) ∨ (o = 15 ∧ k = x) ∨ (o = 16 ∧ k = x) ∨ (o = 17 ∧ k = x)) → (up m5).1 o k = (up m).1 o k := fun o k y => up_eq (fun a1 a2 a3 => mn o _ (by omega) (fun z => by
    rcases z with ⟨z1, z2⟩ | ⟨z1, z2⟩ | ⟨z1, z2⟩ | ⟨z1, z2⟩ | ⟨z1, z2⟩ | ⟨z1, z2⟩
    · subst z1; have : hf 2 = 9 := rfl; omega
    · subst z1; have : hf 13 = 8 := rfl; omega
    · subst z1; have : hf 14 = 8 := rfl; omega
    · subst z1; have : hf 15 = 8 := rfl; omega
    · subst z1; have : hf 16 = 8 := rfl; omega
    · subst z1; have : hf 17 = 8 := rfl; omega
    ))
  obtain ⟨hW', hR'⟩ := TD_want (c := c) (c' := c4) (mu := up m) (mu' := up m5) (x := x) (i1 := u0) (i2 := u1) (v1 := u2) (v2 := u3) (v3 := u4) hS hW hR hlt hx.symm g0b g1b g2b g3b g4b
    (show m5.1 2 13 = nI (x + 1) by rw [hm5, sI_eq])
    (by rw [up_at (by omega) (by omega) (show x < 8 by omega)]; show m5.1 13 (8 + x) = nI u0; rw [hm5, sI_o (by omega)]; exact k13)
    (by rw [up_at (by omega) (by omega) (show x < 8 by omega)]; show m5.1 14 (8 + x) = nI u1; rw [hm5, sI_o (by omega)]; exact k14)
    (by rw [up_at (by omega) (by omega) (show x < 8 by omega)]; show m5.1 15 (8 + x) = nI u2; rw [hm5, sI_o (by omega)]; exact k15)
    (by rw [up_at (by omega) (by omega) (show x < 8 by omega)]; show m5.1 16 (8 + x) = nI u3; rw [hm5, sI_o (by omega)]; exact k16)
    (by rw [up_at (by omega) (by omega) (show x < 8 by omega)]; show m5.1 17 (8 + x) = nI u4; rw [hm5, sI_o (by omega)]; exact k17)
    (by rw [hc4, sI_eq])
    (by rw [hc4, sI_o (by omega), sI_ne (by omega), sI_ne (by omega), sI_ne (by omega), sI_ne (by omega), sI_eq])
    (by rw [hc4, sI_o (by omega), sI_ne (by omega), sI_ne (by omega), sI_ne (by omega), sI_eq])
    (by rw [hc4, sI_o (by omega), sI_ne (by omega), sI_ne (by omega), sI_eq])
    (by rw [hc4, sI_o (by omega), sI_ne (by omega), sI_eq])
    (by rw [hc4, sI_o (by omega), sI_eq])
    un (fun o j a1 a2 y => cn o j (by omega) (by omega))
  have c4o : ∀ o, o ≠ S → o ≠ S + 8 → c4.1 o = t4.1 o := fun o y1 y2 => by rw [hc4, sI_o y1, sI_o y2, sI_o y2, sI_o y2, sI_o y2, sI_o y2]
  refine ⟨c4, m5, pp4, qq4, ?_, ?_, NC_frc (NC_frm N5 (fun j _ _ => by rw [hm5, sI_o (by omega)]) (by rw [hm5, sI_o (by omega)])) (c4o 31 (by omega) (by omega)) (c4o 1 (by omega) (by omega)) (c4o 32 (by omega) (by omega)) (by rw [c4o 30 (by omega) (by omega)]), TOLD_new hT hW' hR' (by rw [hc4]; exact SD5.2.1.trans hr5.symm) (FLG_no hFl (w := 4) (by omega) (cn 30 6 (by omega) (by omega)) (cn 30 7 (by omega) (by omega)) (cn 30 8 (by omega) (by omega)) (by rw [hm5, sI_o (by omega)]; exact k23) (fun r hr => by unfold vl; rw [un 18 r (by omega), un 19 r (by omega)]; exact ⟨rfl, rfl⟩)) (mn 0 34 (by omega) (by omega)) (mn 0 35 (by omega) (by omega)) (mn 2 17 (by omega) (by omega)) (mn 0 24 (by omega) (by omega)) (cn 30 2 (by omega) (by omega)) (cn 30 1 (by omega) (by omega)) (mn 0 31 (by omega) (by omega)), by omega, ?_, ?_⟩
  · rw [hC18]
    unfold f5_readWant_b18
    have hz : t4.1 30 0 = (0 : Int32) := N5.2.1
    have hrr : t4.2.2 30 5 = some S := SD5.2.1
    have i0 : nI (5 * x) + (0 : Int32) = nI (5 * x) := i_add0 _
    have i1 : nI (5 * x) + (1 : Int32) = nI (5 * x + 1) := nI_add _ 1
    have i2 : nI (5 * x) + (2 : Int32) = nI (5 * x + 2) := nI_add _ 2
    have i3 : nI (5 * x) + (3 : Int32) = nI (5 * x + 3) := nI_add _ 3
    have i4 : nI (5 * x) + (4 : Int32) = nI (5 * x + 4) := nI_add _ 4
    rw [fi_eq, if_pos rfl, g_bs, e1, g_bs, g_drT hSDa.2.1 hS, cxa, hx4, g_let_e, ok0, g_bs, g_let_e, ok1, g_bs, g_let_e, ok2, g_bs, g_let_e, ok3, g_bs, g_let_e, ok4, g_bs, g_let_e, if_pos hz, g_drT (show t4.2.2 30 5 = some S from hrr) hS, i0, g_ckN (by omega) (by omega), g_clN (by omega), g_let_e, g_drT (show (g_sI t4 (S + 8) (5 * x) (nI u0)).2.2 30 5 = some S from hrr) hS, i1, g_ckN (by omega) (by omega), g_clN (by omega), g_let_e, g_drT (show (g_sI (g_sI t4 (S + 8) (5 * x) (nI u0)) (S + 8) (5 * x + 1) (nI u1)).2.2 30 5 = some S from hrr) hS, i2, g_ckN (by omega) (by omega), g_clN (by omega), g_let_e, g_drT (show (g_sI (g_sI (g_sI t4 (S + 8) (5 * x) (nI u0)) (S + 8) (5 * x + 1) (nI u1)) (S + 8) (5 * x + 2) (nI u2)).2.2 30 5 = some S from hrr) hS, i3, g_ckN (by omega) (by omega), g_clN (by omega), g_let_e, g_drT (show (g_sI (g_sI (g_sI (g_sI t4 (S + 8) (5 * x) (nI u0)) (S + 8) (5 * x + 1) (nI u1)) (S + 8) (5 * x + 2) (nI u2)) (S + 8) (5 * x + 3) (nI u3)).2.2 30 5 = some S from hrr) hS, i4, g_ckN (by omega) (by omega), g_clN (by omega), g_let_e, g_drT (show (g_sI (g_sI (g_sI (g_sI (g_sI t4 (S + 8) (5 * x) (nI u0)) (S + 8) (5 * x + 1) (nI u1)) (S + 8) (5 * x + 2) (nI u2)) (S + 8) (5 * x + 3) (nI u3)) (S + 8) (5 * x + 4) (nI u4)).2.2 30 5 = some S from hrr) hS, g_let_e, hc4]
    have e6x : (g_sI (g_sI (g_sI (g_sI (g_sI t4 (S + 8) (5 * x) (nI u0)) (S + 8) (5 * x + 1) (nI u1)) (S + 8) (5 * x + 2) (nI u2)) (S + 8) (5 * x + 3) (nI u3)) (S + 8) (5 * x + 4) (nI u4)).1 S 8 + (1 : Int32) = nI (x + 1) := by rw [sI_o (by omega), sI_o (by omega), sI_o (by omega), sI_o (by omega), sI_o (by omega), CE5 S 8 (by omega), cx, nI_s]
    rw [e6x]
  · rw [b71, rd', g_bs, kN, nI_s, ← hm5]
  · rw [hc4]; exact ((((((FC5.s (by omega)).s (by omega)).s (by omega)).s (by omega)).s (by omega)).s (by omega))
  · rw [hm5]; exact FM5.s (Or.inl UP2)
end L
