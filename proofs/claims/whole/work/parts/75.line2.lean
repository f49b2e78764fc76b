/-! lines of one told now: a man, a sort, a deed -/
section L
variable {F : Nat} {c m c' m' c1 m1 : g_M} {n p q S f : Nat}
theorem SD_lx (h : SD c S) (hx : LXC' c c') : SD c' S := SD_fr h hx.1 (fun k _ => hx.2 (S + 1) k (by have := isT_le h.1; omega) (by have := isT_le h.1; omega))
theorem rd_new (hF : 5000 < F) (h : NC c m n p q) (hSD : SD c S) {k a x : Nat} (hk : k < 3) (ha : (yM.1 a).2 = 10) (ha1 : 1 ≤ a) (hx : x ≤ 5) (hcx : c.1 (S + 1) k = nI x) (hnm : ∀ i, i < x → c.1 (S + 2) (5 * k + i) = m.1 a (5 + i)) (t : Int32) :
    (x = 5 ∧ ∃ v c' m', f5_newOne F (nI k) (5 : Int32) c = some (v, c') ∧ f11_wrong F (2 : Int32) m = some m' ∧ FO c' m' n ∧ SD c' S ∧ LXC' c c' ∧ LXM' m m') ∨
    (x < 5 ∧ ∃ r10, f11_token F (g_sI m 0 23 t) = some r10 ∧ LXM (g_sI m 0 23 t) r10 ∧ ((∃ v c' m' p' q', f5_newOne F (nI k) (5 : Int32) c = some (nI x, c') ∧ f11_fresh F a (5 : Int32) (nI x) r10 = some (v, m') ∧ NC c' m' n p' q' ∧ p < q' ∧ c'.2 = c.2 ∧ (∀ o j, ¬ (o = 31 ∧ (j = 0 ∨ j = 1 ∨ j = 2 ∨ j = 5)) → ¬ (o = S + 2 ∧ j = 5 * k + x) → ¬ (o = S + 1 ∧ j = k) → c'.1 o j = c.1 o j) ∧ c'.1 (S + 2) (5 * k + x) = v ∧ c'.1 (S + 1) k = nI (x + 1) ∧ LXM r10 m') ∨ (∃ v c' m', f5_newOne F (nI k) (5 : Int32) c = some (nI x, c') ∧ f11_fresh F a (5 : Int32) (nI x) r10 = some (v, m') ∧ FO c' m' n ∧ SD c' S ∧ LXC' c c' ∧ LXM' r10 m'))) := by
  have hSl := isT_le hSD.1
  have head : f5_newOne F (nI k) (5 : Int32) c = if (5 : Int32) ≤ nI x then f5_newOne_b21 F (nI k) (5 : Int32) (nI x) (1 : Int32) c else f5_newOne_b21 F (nI k) (5 : Int32) (nI x) (0 : Int32) c := by
    unfold f5_newOne
    rw [g_drT hSD.2.1 hSD.1, g_ckN (by omega) (by omega), g_clN (by omega), hcx, g_let_e]
  by_cases full : x = 5
  · left
    obtain ⟨c1, m', e1, e2, e3, e4, e5, e6, e7⟩ := fo_of (F := F) h (f := 2) (by omega) (by omega)
    obtain ⟨g, hCX⟩ := FO_CX e3 hSD.1 (by rw [e4.1]; exact hSD.2.1) (fun k hk => by rw [e6 (S + 1) k (by omega)]; exact hSD.2.2 k hk)
    obtain ⟨c2, s1, s2, s3⟩ := x_b21 (F := F) hF hCX hk (5 : Int32) (nI x) (1 : Int32)
    refine ⟨full, nI x, c2, m', ?_, e2, FO_lex e3 s2.2.2.2.1 s3, SD_lx hSD (e4.tr s3.w), e4.tr s3.w, e5⟩
    rw [head, if_pos (show (5 : Int32) ≤ nI x from (g_leN (a := 5) (by omega) (by omega)).mpr (by omega)), ← s1]
    unfold f5_newOne_b21
    rw [fi_eq, if_neg (by decide), show f5_fail F (2 : Int32) c = some c1 from e1, x_failIf hCX]
  · right
    have hx5 : x < 5 := by omega
    have hN9 : NC c (g_sI m 0 23 t) n p q := NC_frm h (fun k _ _ => sI_ne (by omega)) (sI_o (by omega))
    obtain ⟨c1, r10, p1, q1, e1, e2, e3, e4, e5, e6⟩ := NC_lex hN9 hF
    have hSD1 : SD c1 S := SD_lx hSD e5.w
    have hcx1 : c1.1 (S + 1) k = nI x := by rw [e5.2 (S + 1) k (by omega)]; exact hcx
    have hnm1 : ∀ i, i < x → c1.1 (S + 2) (5 * k + i) = r10.1 a (5 + i) := fun i hi => by
      rw [e5.2 (S + 2) _ (by omega), e6.2 a _ (by omega), sI_ne (by omega)]; exact hnm i hi
    have head2 : f5_newOne F (nI k) (5 : Int32) c = if c1.1 31 0 = (2 : Int32) then f5_newOne_b49 F (nI k) (5 : Int32) (nI x) (0 : Int32) c1 else f5_newOne_b49 F (nI k) (5 : Int32) (nI x) (1 : Int32) c1 := by
      rw [head, if_neg (show ¬ (5 : Int32) ≤ nI x from fun z => by have := (g_leN (a := 5) (by omega) (by omega)).mp z; omega)]
      unfold f5_newOne_b21
      rw [fi_eq, if_pos rfl, g_bs, e1, g_bs]
    refine ⟨hx5, r10, e2, e6, ?_⟩
    rcases rd_fresh (F := F) hF e3 hSD1 hk ha hx5 hcx1 hnm1 (5 : Int32) with ⟨v, c2, m2, p2, q2, f1, f2, f3, f4, f5, f6, f7, f8, f9⟩ | ⟨v, c2, m2, f1, f2, f3, f4, f5⟩
    · left
      refine ⟨v, c2, m2, p2, q2, by rw [head2]; exact f1, f2, f3, by omega, f5.trans e5.1, fun o j y1 y2 y3 => by rw [f6 o j y1 y2 y3]; exact e5.2 o j y1, f7, f8, f9⟩
    · right
      exact ⟨v, c2, m2, by rw [head2]; exact f1, f2, f3, SD_lx hSD1 f4, e5.w.tr f4, f5⟩
/-- the flags and counts of a line that tells no flag -/
theorem FLG_no (h : FLG c m) {w : Nat} (hw : w < 5 ∨ w = 8) (h6 : c'.1 30 6 = c.1 30 6) (h7 : c'.1 30 7 = c.1 30 7) (h8 : c'.1 30 8 = c.1 30 8) (ht : m'.1 0 23 = m.1 0 23 ||| ((1 : Int32) <<< (nI w &&& 31))) (hu : ∀ r, r < 3 → vl (up m') 18 r = vl (up m) 18 r ∧ vl (up m') 19 r = vl (up m) 19 r) : FLG c' m' := by
  obtain ⟨a1, a2, a3, a4⟩ := h
  have e : ∀ j, j < 32 → j ≠ w → gb (m'.1 0 23) j = gb (m.1 0 23) j := fun j hj hne => by
    rw [ht, gb_told _ (by omega) hj]; simp [hne]
  refine ⟨by rw [h6, e 5 (by omega) (by omega)]; exact a1, by rw [h7, e 6 (by omega) (by omega)]; exact a2, by rw [h8, e 7 (by omega) (by omega)]; exact a3, fun r hr => ?_⟩
  rw [e (16 + r) (by omega) (by omega), (hu r hr).1, (hu r hr).2]; exact a4 r hr
theorem TOLD_new (hT : TOLD c m S) (hW' : WT (up m')) (hR' : RT c' (up m') S) (hr : c'.2.2 30 5 = c.2.2 30 5) (hFl : FLG c' m') (h34 : m'.1 0 34 = m.1 0 34) (h35 : m'.1 0 35 = m.1 0 35) (h17 : m'.1 2 17 = m.1 2 17) (h24 : m'.1 0 24 = m.1 0 24) (h302 : c'.1 30 2 = c.1 30 2) (h301 : c'.1 30 1 = c.1 30 1) (h31 : m'.1 0 31 = m.1 0 31) : TOLD c' m' S := by
  obtain ⟨hS, hr5, hW, hR, hFl0, hOp, hLn, hPc, hPm⟩ := hT
  exact ⟨hS, hr.trans hr5, hW', hR', hFl, ⟨h34.trans hOp.1, by rw [h35, h17]; exact hOp.2⟩, by rw [h302, h24]; exact hLn, h301.trans hPc, h31.trans hPm⟩
theorem l_man (hF : 5000 < F) (h : NC c m n p q) (hT : TOLD c m S) (k0 : c.1 31 0 = 3) (h28 : m.1 0 28 = 0) (h29 : m.1 0 29 = nI 0) : OUT F (f5_readMan F c) (f11_line F m) c m n q S := by
  have hSD := SD_of hT
  obtain ⟨hS, hr5, hW, hR, hFl, hOp, hLn, hPc, hPm⟩ := id hT
  have hSl := isT_le hS
  have hm := h.2.2
  obtain ⟨x, hx⟩ : ∃ x, x = vl (up m) 2 0 := ⟨_, rfl⟩
  have bx : x ≤ 5 := by rw [hx]; exact hW.1.1.2
  have ux : (up m).1 2 0 = nI x := by rw [hx]; exact hW.1.1.1
  have mx : m.1 2 9 = nI x := ux
  have cx : c.1 (S + 1) 0 = nI x := (hR.1 0 (by omega)).trans ux
  obtain ⟨L1, L2, _⟩ := r_line (F := F) (m := m) (f := 0) (by omega) h28 h29
  have hqp : q < p := h.1.2.2.2.2.2 (by rw [k0]; decide)
  have hnm : ∀ i, i < x → c.1 (S + 2) (5 * 0 + i) = m.1 3 (5 + i) := fun i hi => by
    rw [Nat.mul_zero, Nat.zero_add, (hR.2.1 i (by omega)).1]
    exact up_at (by omega) (by omega) (show i < 5 by omega)
  have fr' : ∀ y : g_M, f11_fresher F (0 : Int32) y = some (y.1 2 9) := fun y => r_fresher (j := 0) (by omega)
  have rd' : ∀ (y : g_M) v, f11_reads F (0 : Int32) v y = some (g_sI y 2 9 v) := fun y v => r_reads (j := 0) (by omega) v
  have UP3 : UPc 3 (5 + x) := ⟨by omega, by omega, by show 5 ≤ 5 + x; omega⟩
  have UP4 : UPc 4 (5 + x) := ⟨by omega, by omega, by show 5 ≤ 5 + x; omega⟩
  have UP2 : UPc 2 9 := ⟨by omega, by omega, by show 9 ≤ 9; omega⟩
  have tf1 : ∀ y : g_M, FRM m y → ¬ y.1 0 30 = (0 : Int32) → ∃ y', (f11_fresher F (0 : Int32) y).bind (fun r21 => (f11_reads F (0 : Int32) (r21 + (1 : Int32)) y).bind (fun r22 => f11_line_b466 F r22)) = some y' ∧ FRM m y' ∧ y'.1 0 30 = y.1 0 30 ∧ y'.1 0 31 = y.1 0 31 ∧ y'.1 1 = y.1 1 := by
    intro y hy hz
    refine ⟨g_sI y 2 9 (y.1 2 9 + (1 : Int32)), ?_, hy.s (Or.inl UP2), by rw [sI_o (by omega)], by rw [sI_o (by omega)], sI_o (by omega)⟩
    rw [fr', g_bs, rd', g_bs, mF_466 (by rw [sI_o (by omega)]; exact hz)]
  have tf0 : ∀ y : g_M, FRM m y → ¬ y.1 0 30 = (0 : Int32) → ∃ y', (f11_numeral F (0 : Int32) (999 : Int32) y).bind (fun s0 => g_let (g_sI s0.2 4 (5 + x) s0.1) (fun y1 => (f11_fresher F (0 : Int32) y1).bind (fun r21 => (f11_reads F (0 : Int32) (r21 + (1 : Int32)) y1).bind (fun r22 => f11_line_b466 F r22)))) = some y' ∧ FRM m y' ∧ y'.1 0 30 = y.1 0 30 ∧ y'.1 0 31 = y.1 0 31 ∧ y'.1 1 = y.1 1 := by
    intro y hy hz
    obtain ⟨y', z1, z2, z3, z4, z5⟩ := tf1 (g_sI y 4 (5 + x) (0 : Int32)) (hy.s (Or.inl UP4)) (by rw [sI_o (by omega)]; exact hz)
    refine ⟨y', ?_, z2, by rw [z3, sI_o (by omega)], by rw [z4, sI_o (by omega)], by rw [z5]; exact sI_o (by omega)⟩
    rw [mF_num hz, g_bs, g_let_e]; exact z1
  rcases rd_new (F := F) hF h hSD (k := 0) (a := 3) (by omega) rfl (by omega) bx cx hnm (m.1 0 23 ||| ((1 : Int32) <<< (nI 0 &&& 31))) with ⟨h5, v, c1, m1, e1, e2, e3, e4, e5, e6⟩ | ⟨hx5, r10, e1, e2, e3⟩
  · right
    have e1' : f5_newOne F (0 : Int32) (5 : Int32) c = some (v, c1) := e1
    obtain ⟨g, hCX⟩ := FO_CX e3 e4.1 e4.2.1 e4.2.2
    obtain ⟨w0, d0, s0a, s0b, s0c⟩ := x_number (F := F) hF hCX (0 : Int32) (999 : Int32)
    have hFO0 := e3
    have hFO1 := FO_lex hFO0 s0b.2.2.2.1 s0c
    refine ⟨d0, m1, ?_, ?_, hFO1, SD_lx (e4) s0c.w, FRC.x ((e5).tr s0c.w), FRM.x e6⟩
    · unfold f5_readMan
      rw [e1', g_bs, g_let_e, s0a, g_bs, g_let_e, if_neg (FO_n hFO1).2]
    · rw [L1 (Or.inl ⟨rfl, by rw [mx, h5]; rfl⟩), e2, g_bs]
      unfold f11_line_b71
      rw [if_neg (FO_n e3).1]
  have nfull : ¬ isFullN m 0 := fun z => by
    rcases z with ⟨z0, z⟩ | ⟨z0, z⟩ | ⟨z0, z⟩ | ⟨z0, z⟩ | ⟨z0, z⟩
    · rw [mx] at z; have := (g_eqN (b := 5) (by omega) (by omega)).mp z; omega
    · omega
    · omega
    · omega
    · omega
  have r9 : r10.1 2 9 = nI x := by rw [e2.2 2 9 (by omega), sI_o (by omega)]; exact mx
  have fr0 : f11_fresher F (0 : Int32) r10 = some (nI x) := by rw [fr' r10]; exact congrArg some r9
  have b71 : f11_line F m = (f11_fresh F 3 (5 : Int32) (nI x) r10).bind (fun r15 => g_let (g_sI r15.2 3 (5 + x) r15.1) (fun y0 => (f11_numeral F (0 : Int32) (999 : Int32) y0).bind (fun s0 => g_let (g_sI s0.2 4 (5 + x) s0.1) (fun y1 => (f11_fresher F (0 : Int32) y1).bind (fun r21 => (f11_reads F (0 : Int32) (r21 + (1 : Int32)) y1).bind (fun r22 => f11_line_b466 F r22)))))) := by
    rw [L2 nfull (by omega)]
    unfold f11_line_b71
    rw [hm, if_pos nI00, g_let_e, e1, g_bs, if_pos (show nI 0 = (0 : Int32) from rfl), fr0, g_bs, g_let_e, g_bs, show (5 : Int32) + nI x = nI (5 + x) from nI_add 5 x]
    have ck : ∀ k : Option g_M, g_ck (nI (5 + x)) 10 k = k := fun k => g_ckN (by omega) (by omega)
    simp only [ck, g_clN (show 5 + x < 2147483648 by omega)]
  have fr9 : FRM m r10 := (FRM.s (FRM.r m) (Or.inr (by omega))).tr (FRM.x e2.w)
  rcases e3 with ⟨v, c2, m2, p2, q2, f1, f2, f3, f4, f5, f6, f7, f8, f9⟩ | ⟨v, c2, m2, f1, f2, f3, f4, f5, f6⟩
  rotate_left
  · have f1' : f5_newOne F (0 : Int32) (5 : Int32) c = some (nI x, c2) := f1
    obtain ⟨g, hCX⟩ := FO_CX f3 f4.1 f4.2.1 f4.2.2
    obtain ⟨w0, d0, s0a, s0b, s0c⟩ := x_number (F := F) hF hCX (0 : Int32) (999 : Int32)
    have hFO0 := f3
    have hFO1 := FO_lex hFO0 s0b.2.2.2.1 s0c
    obtain ⟨y', z1, z2, z3, z4, z5⟩ := tf0 (g_sI m2 3 (5 + x) v) ((fr9.tr (FRM.x f6)).s (Or.inl UP3)) (by rw [sI_o (by omega)]; exact (FO_n f3).1)
    right
    refine ⟨d0, y', ?_, ?_, FO_frm hFO1 (by rw [z3, sI_o (by omega)]) (by rw [z4, sI_o (by omega)]) (by rw [z5]; exact sI_o (by omega)), SD_lx (f4) s0c.w, FRC.x ((f5).tr s0c.w), z2⟩
    · unfold f5_readMan
      rw [f1', g_bs, g_let_e, s0a, g_bs, g_let_e, if_neg (FO_n hFO1).2]
    · rw [b71, f2, g_bs, g_let_e]; exact z1
  have f1' : f5_newOne F (0 : Int32) (5 : Int32) c = some (nI x, c2) := f1
  have hSD2 : SD c2 S := ⟨hS, by rw [f5]; exact hr5, fun j hj => by
    by_cases z : j = 0
    · subst z; exact ⟨x + 1, by omega, f8⟩
    · rw [f6 (S + 1) j (by omega) (by omega) (by omega)]; exact hSD.2.2 j hj⟩
  have hFC2 : FRC c c2 S := ⟨fun o j _ => by rw [f5], fun o j z => f6 o j (by omega) (by omega) (by omega)⟩
  have hN20 : NC c2 (g_sI m2 3 (5 + x) v) n p2 q2 := NC_frm f3 (fun j _ _ => sI_ne (by omega)) (sI_o (by omega))
  have hM20 : FRM m (g_sI m2 3 (5 + x) v) := (fr9.tr (FRM.x f9.w)).s (Or.inl UP3)
  rcases rd_num (F := F) hF hN20 hSD2 (lo := 0) (hi := 999) (by omega) (by omega) with ⟨u0, t0, n0, pp0, qq0, g0a, g0b, g0c, g0d, g0e, g0f, g0g, g0h⟩ | ⟨u0, t0, n0, g0c, g0d, g0e, g0f, g0g⟩
  rotate_left
  · have gC : f5_number F (0 : Int32) (999 : Int32) c2 = some (u0, t0) := g0c
    have gM : f11_numeral F (0 : Int32) (999 : Int32) (g_sI m2 3 (5 + x) v) = some (nI 0, n0) := g0d
    obtain ⟨g, hCX⟩ := FO_CX g0e (SD_lx hSD2 g0f).1 (SD_lx hSD2 g0f).2.1 (SD_lx hSD2 g0f).2.2
    have hFO0 := g0e
    obtain ⟨y', z1, z2, z3, z4, z5⟩ := tf1 (g_sI n0 4 (5 + x) (nI 0)) ((hM20.tr (FRM.x g0g)).s (Or.inl UP4)) (by rw [sI_o (by omega)]; exact (FO_n g0e).1)
    right
    refine ⟨t0, y', ?_, ?_, FO_frm hFO0 (by rw [z3, sI_o (by omega)]) (by rw [z4, sI_o (by omega)]) (by rw [z5]; exact sI_o (by omega)), SD_lx hSD2 (g0f), hFC2.tr (FRC.x (g0f)), z2⟩
    · unfold f5_readMan
      rw [f1', g_bs, g_let_e, gC, g_bs, g_let_e, if_neg (FO_n hFO0).2]
    · rw [b71, f2, g_bs, g_let_e, gM, g_bs, g_let_e]; exact z1
  have ok0 : f5_number F (0 : Int32) (999 : Int32) c2 = some (nI u0, t0) := g0c
  have okm0 : f11_numeral F (0 : Int32) (999 : Int32) (g_sI m2 3 (5 + x) v) = some (nI u0, n0) := g0d
  have hN21 : NC t0 (g_sI n0 4 (5 + x) (nI u0)) n pp0 qq0 := NC_frm g0e (fun k _ _ => sI_ne (by omega)) (sI_o (by omega))
  have hM21 : FRM m (g_sI n0 4 (5 + x) (nI u0)) := (hM20.tr (FRM.x g0h.w)).s (Or.inl UP4)
  have hSD21 : SD t0 S := SD_lx hSD2 g0g.w
  have hFC21 : FRC c t0 S := hFC2.tr (FRC.x g0g.w)
  left
  obtain ⟨c4, hc4⟩ : ∃ y, y = (g_sI t0 (S + 3) x (nI u0)) := ⟨_, rfl⟩
  obtain ⟨m5, hm5⟩ : ∃ y, y = g_sI (g_sI n0 4 (5 + x) (nI u0)) 2 9 (nI (x + 1)) := ⟨_, rfl⟩
  have cn : ∀ o j, ¬ (o = 31 ∧ (j = 0 ∨ j = 1 ∨ j = 2 ∨ j = 5)) → ¬ ((o = S + 1 ∧ j = 0) ∨ (o = S + 2 ∧ j = 5 * 0 + x) ∨ (o = S + 3 ∧ j = x)) → c4.1 o j = c.1 o j := fun o j y1 y2 => by
    rw [hc4, sI_ne (by omega), g0g.2 o j y1]; exact f6 o j y1 (by omega) (by omega)
  have mn : ∀ o j, ¬ (o = 0 ∧ (j = 23 ∨ j = 26 ∨ j = 27 ∨ j = 28 ∨ j = 29)) → ¬ ((o = 2 ∧ j = 9) ∨ (o = 3 ∧ j = 5 + x) ∨ (o = 4 ∧ j = 5 + x)) → m5.1 o j = m.1 o j := fun o j y1 y2 => by
    rw [hm5, sI_ne (by omega), sI_ne (by omega), g0h.2 o j (by omega), sI_ne (by omega), f9.2 o j (by omega), e2.2 o j (by omega), sI_ne (by omega)]
  have m523 : m5.1 0 23 = m.1 0 23 ||| ((1 : Int32) <<< (nI 0 &&& 31)) := by
    rw [hm5, sI_o (by omega), sI_o (by omega), g0h.2 0 23 (by omega), sI_o (by omega), f9.2 0 23 (by omega), e2.2 0 23 (by omega), sI_eq]
  have un : ∀ o k, ¬ ((o = 2 ∧ k = 0) ∨ (o = 3 ∧ k = x) ∨ (o = 4 ∧ k = x)) → (up m5).1 o k = (up m).1 o k := fun o k y => up_eq (fun a1 a2 a3 => mn o _ (by omega) (fun z => by
    rcases z with ⟨z1, z2⟩ | ⟨z1, z2⟩ | ⟨z1, z2⟩
    · subst z1; have : hf 2 = 9 := rfl; omega
    · subst z1; have : hf 3 = 5 := rfl; omega
    · subst z1; have : hf 4 = 5 := rfl; omega
    ))
  obtain ⟨hW', hR'⟩ := TD_man (c := c) (c' := c4) (mu := up m) (mu' := up m5) (x := x) (v := u0) (w := v) hS hW hR hx5 hx.symm g0b
    (show m5.1 2 9 = nI (x + 1) by rw [hm5, sI_eq])
    (by rw [up_at (by omega) (by omega) (show x < 5 by omega)]; show m5.1 3 (5 + x) = v; rw [hm5, sI_o (by omega), sI_o (by omega), g0h.2 3 _ (by omega), sI_eq])
    (by rw [up_at (by omega) (by omega) (show x < 5 by omega)]; show m5.1 4 (5 + x) = nI u0; rw [hm5, sI_o (by omega), sI_eq])
    (by rw [hc4, sI_o (by omega), g0g.2 _ _ (by omega)]; exact f8)
    (by rw [hc4, sI_o (by omega), g0g.2 _ _ (by omega)]; have := f7; rw [Nat.mul_zero, Nat.zero_add] at this; exact this)
    (by rw [hc4, sI_eq])
    un (fun o j a1 a2 y => cn o j (by omega) (by omega))
  have c431 : ∀ j, c4.1 31 j = t0.1 31 j := fun j => by rw [hc4, sI_o (by omega)]
  refine ⟨c4, m5, pp0, qq0, ?_, ?_, NC_frc (NC_frm hN21 (fun j _ _ => by rw [hm5, sI_o (by omega)]) (by rw [hm5, sI_o (by omega)])) (by funext j; exact c431 j) (by rw [hc4]; simp only [sI_o (show (1 : Nat) ≠ S + 3 by omega), sI_o (show (1 : Nat) ≠ S + 4 by omega), sI_o (show (1 : Nat) ≠ S + 5 by omega), sI_o (show (1 : Nat) ≠ S + 6 by omega)]) (by rw [hc4]; simp only [sI_o (show (32 : Nat) ≠ S + 3 by omega), sI_o (show (32 : Nat) ≠ S + 4 by omega), sI_o (show (32 : Nat) ≠ S + 5 by omega), sI_o (show (32 : Nat) ≠ S + 6 by omega)]) (by rw [hc4, sI_o (by omega)]), TOLD_new hT hW' hR' (by rw [hc4]; show t0.2.2 30 5 = _; rw [g0g.1, f5]) (FLG_no hFl (w := 0) (by omega) (cn 30 6 (by omega) (by omega)) (cn 30 7 (by omega) (by omega)) (cn 30 8 (by omega) (by omega)) m523 (fun r hr => by unfold vl; rw [un 18 r (by omega), un 19 r (by omega)]; exact ⟨rfl, rfl⟩)) (mn 0 34 (by omega) (by omega)) (mn 0 35 (by omega) (by omega)) (mn 2 17 (by omega) (by omega)) (mn 0 24 (by omega) (by omega)) (cn 30 2 (by omega) (by omega)) (cn 30 1 (by omega) (by omega)) (mn 0 31 (by omega) (by omega)), by omega, ?_, ?_⟩
  · unfold f5_readMan
    have hz : t0.1 30 0 = (0 : Int32) := hN21.2.1
    rw [f1', g_bs, g_let_e, ok0, g_bs, g_let_e, if_pos hz, g_drT hSD21.2.1 hS, g_ckN (by omega) (by omega), g_clN (by omega), g_let_e, hc4]
  · rw [b71, f2, g_bs, g_let_e, okm0, g_bs, g_let_e, fr', g_bs, rd', g_bs, hm5]
    have e9 : (g_sI n0 4 (5 + x) (nI u0)).1 2 9 = nI x := by rw [sI_o (by omega), g0h.2 2 9 (by omega), sI_o (by omega), f9.2 2 9 (by omega)]; exact r9
    rw [e9, nI_s]
  · rw [hc4]; exact (hFC21.s (by omega))
  · rw [hm5]; exact hM21.s (Or.inl UP2)
theorem l_sort (hF : 5000 < F) (h : NC c m n p q) (hT : TOLD c m S) (k0 : c.1 31 0 = 3) (h28 : m.1 0 28 = 0) (h29 : m.1 0 29 = nI 1) : OUT F (f5_readSort F c) (f11_line F m) c m n q S := by
  have hSD := SD_of hT
  obtain ⟨hS, hr5, hW, hR, hFl, hOp, hLn, hPc, hPm⟩ := id hT
  have hSl := isT_le hS
  have hm := h.2.2
  obtain ⟨x, hx⟩ : ∃ x, x = vl (up m) 2 1 := ⟨_, rfl⟩
  have bx : x ≤ 5 := by rw [hx]; exact hW.1.2.1.2
  have ux : (up m).1 2 1 = nI x := by rw [hx]; exact hW.1.2.1.1
  have mx : m.1 2 10 = nI x := ux
  have cx : c.1 (S + 1) 1 = nI x := (hR.1 1 (by omega)).trans ux
  obtain ⟨L1, L2, _⟩ := r_line (F := F) (m := m) (f := 1) (by omega) h28 h29
  have hqp : q < p := h.1.2.2.2.2.2 (by rw [k0]; decide)
  have hnm : ∀ i, i < x → c.1 (S + 2) (5 * 1 + i) = m.1 5 (5 + i) := fun i hi => by
    rw [Nat.mul_one, (hR.2.2.1 i (by omega)).1]
    exact up_at (by omega) (by omega) (show i < 5 by omega)
  have fr' : ∀ y : g_M, f11_fresher F (1 : Int32) y = some (y.1 2 10) := fun y => r_fresher (j := 1) (by omega)
  have rd' : ∀ (y : g_M) v, f11_reads F (1 : Int32) v y = some (g_sI y 2 10 v) := fun y v => r_reads (j := 1) (by omega) v
  have UP5 : UPc 5 (5 + x) := ⟨by omega, by omega, by show 5 ≤ 5 + x; omega⟩
  have UP6 : UPc 6 (5 + x) := ⟨by omega, by omega, by show 5 ≤ 5 + x; omega⟩
  have UP7 : UPc 7 (5 + x) := ⟨by omega, by omega, by show 5 ≤ 5 + x; omega⟩
  have UP2 : UPc 2 10 := ⟨by omega, by omega, by show 9 ≤ 10; omega⟩
  have tf2 : ∀ y : g_M, FRM m y → ¬ y.1 0 30 = (0 : Int32) → ∃ y', (f11_fresher F (1 : Int32) y).bind (fun r21 => (f11_reads F (1 : Int32) (r21 + (1 : Int32)) y).bind (fun r22 => f11_line_b466 F r22)) = some y' ∧ FRM m y' ∧ y'.1 0 30 = y.1 0 30 ∧ y'.1 0 31 = y.1 0 31 ∧ y'.1 1 = y.1 1 := by
    intro y hy hz
    refine ⟨g_sI y 2 10 (y.1 2 10 + (1 : Int32)), ?_, hy.s (Or.inl UP2), by rw [sI_o (by omega)], by rw [sI_o (by omega)], sI_o (by omega)⟩
    rw [fr', g_bs, rd', g_bs, mF_466 (by rw [sI_o (by omega)]; exact hz)]
  have tf1 : ∀ y : g_M, FRM m y → ¬ y.1 0 30 = (0 : Int32) → ∃ y', (f11_numeral F (0 : Int32) (99 : Int32) y).bind (fun s1 => g_let (g_sI s1.2 7 (5 + x) s1.1) (fun y2 => (f11_fresher F (1 : Int32) y2).bind (fun r21 => (f11_reads F (1 : Int32) (r21 + (1 : Int32)) y2).bind (fun r22 => f11_line_b466 F r22)))) = some y' ∧ FRM m y' ∧ y'.1 0 30 = y.1 0 30 ∧ y'.1 0 31 = y.1 0 31 ∧ y'.1 1 = y.1 1 := by
    intro y hy hz
    obtain ⟨y', z1, z2, z3, z4, z5⟩ := tf2 (g_sI y 7 (5 + x) (0 : Int32)) (hy.s (Or.inl UP7)) (by rw [sI_o (by omega)]; exact hz)
    refine ⟨y', ?_, z2, by rw [z3, sI_o (by omega)], by rw [z4, sI_o (by omega)], by rw [z5]; exact sI_o (by omega)⟩
    rw [mF_num hz, g_bs, g_let_e]; exact z1
  have tf0 : ∀ y : g_M, FRM m y → ¬ y.1 0 30 = (0 : Int32) → ∃ y', (f11_numeral F (1 : Int32) (9 : Int32) y).bind (fun s0 => g_let (g_sI s0.2 6 (5 + x) s0.1) (fun y1 => (f11_numeral F (0 : Int32) (99 : Int32) y1).bind (fun s1 => g_let (g_sI s1.2 7 (5 + x) s1.1) (fun y2 => (f11_fresher F (1 : Int32) y2).bind (fun r21 => (f11_reads F (1 : Int32) (r21 + (1 : Int32)) y2).bind (fun r22 => f11_line_b466 F r22)))))) = some y' ∧ FRM m y' ∧ y'.1 0 30 = y.1 0 30 ∧ y'.1 0 31 = y.1 0 31 ∧ y'.1 1 = y.1 1 := by
    intro y hy hz
    obtain ⟨y', z1, z2, z3, z4, z5⟩ := tf1 (g_sI y 6 (5 + x) (1 : Int32)) (hy.s (Or.inl UP6)) (by rw [sI_o (by omega)]; exact hz)
    refine ⟨y', ?_, z2, by rw [z3, sI_o (by omega)], by rw [z4, sI_o (by omega)], by rw [z5]; exact sI_o (by omega)⟩
    rw [mF_num hz, g_bs, g_let_e]; exact z1
  rcases rd_new (F := F) hF h hSD (k := 1) (a := 5) (by omega) rfl (by omega) bx cx hnm (m.1 0 23 ||| ((1 : Int32) <<< (nI 1 &&& 31))) with ⟨h5, v, c1, m1, e1, e2, e3, e4, e5, e6⟩ | ⟨hx5, r10, e1, e2, e3⟩
  · right
    have e1' : f5_newOne F (1 : Int32) (5 : Int32) c = some (v, c1) := e1
    obtain ⟨g, hCX⟩ := FO_CX e3 e4.1 e4.2.1 e4.2.2
    obtain ⟨w0, d0, s0a, s0b, s0c⟩ := x_number (F := F) hF hCX (1 : Int32) (9 : Int32)
    obtain ⟨w1, d1, s1a, s1b, s1c⟩ := x_number (F := F) hF s0b (0 : Int32) (99 : Int32)
    have hFO0 := e3
    have hFO1 := FO_lex hFO0 s0b.2.2.2.1 s0c
    have hFO2 := FO_lex hFO1 s1b.2.2.2.1 s1c
    refine ⟨d1, m1, ?_, ?_, hFO2, SD_lx (SD_lx (e4) s0c.w) s1c.w, FRC.x (((e5).tr s0c.w).tr s1c.w), FRM.x e6⟩
    · unfold f5_readSort
      rw [e1', g_bs, g_let_e, s0a, g_bs, g_let_e, s1a, g_bs, g_let_e, if_neg (FO_n hFO2).2]
    · rw [L1 (Or.inr (Or.inl ⟨rfl, by rw [mx, h5]; rfl⟩)), e2, g_bs]
      unfold f11_line_b71
      rw [if_neg (FO_n e3).1]
  have nfull : ¬ isFullN m 1 := fun z => by
    rcases z with ⟨z0, z⟩ | ⟨z0, z⟩ | ⟨z0, z⟩ | ⟨z0, z⟩ | ⟨z0, z⟩
    · omega
    · rw [mx] at z; have := (g_eqN (b := 5) (by omega) (by omega)).mp z; omega
    · omega
    · omega
    · omega
  have r9 : r10.1 2 10 = nI x := by rw [e2.2 2 10 (by omega), sI_o (by omega)]; exact mx
  have fr0 : f11_fresher F (1 : Int32) r10 = some (nI x) := by rw [fr' r10]; exact congrArg some r9
  have b71 : f11_line F m = (f11_fresh F 5 (5 : Int32) (nI x) r10).bind (fun r15 => g_let (g_sI r15.2 5 (5 + x) r15.1) (fun y0 => (f11_numeral F (1 : Int32) (9 : Int32) y0).bind (fun s0 => g_let (g_sI s0.2 6 (5 + x) s0.1) (fun y1 => (f11_numeral F (0 : Int32) (99 : Int32) y1).bind (fun s1 => g_let (g_sI s1.2 7 (5 + x) s1.1) (fun y2 => (f11_fresher F (1 : Int32) y2).bind (fun r21 => (f11_reads F (1 : Int32) (r21 + (1 : Int32)) y2).bind (fun r22 => f11_line_b466 F r22)))))))) := by
    rw [L2 nfull (by omega)]
    unfold f11_line_b71
    rw [hm, if_pos nI00, g_let_e, e1, g_bs, if_neg (show ¬ nI 1 = (0 : Int32) by decide), if_pos (show nI 1 = (1 : Int32) from rfl), fr0, g_bs, g_let_e, g_bs, show (5 : Int32) + nI x = nI (5 + x) from nI_add 5 x]
    have ck : ∀ k : Option g_M, g_ck (nI (5 + x)) 10 k = k := fun k => g_ckN (by omega) (by omega)
    simp only [ck, g_clN (show 5 + x < 2147483648 by omega)]
  have fr9 : FRM m r10 := (FRM.s (FRM.r m) (Or.inr (by omega))).tr (FRM.x e2.w)
  rcases e3 with ⟨v, c2, m2, p2, q2, f1, f2, f3, f4, f5, f6, f7, f8, f9⟩ | ⟨v, c2, m2, f1, f2, f3, f4, f5, f6⟩
  rotate_left
  · have f1' : f5_newOne F (1 : Int32) (5 : Int32) c = some (nI x, c2) := f1
    obtain ⟨g, hCX⟩ := FO_CX f3 f4.1 f4.2.1 f4.2.2
    obtain ⟨w0, d0, s0a, s0b, s0c⟩ := x_number (F := F) hF hCX (1 : Int32) (9 : Int32)
    obtain ⟨w1, d1, s1a, s1b, s1c⟩ := x_number (F := F) hF s0b (0 : Int32) (99 : Int32)
    have hFO0 := f3
    have hFO1 := FO_lex hFO0 s0b.2.2.2.1 s0c
    have hFO2 := FO_lex hFO1 s1b.2.2.2.1 s1c
    obtain ⟨y', z1, z2, z3, z4, z5⟩ := tf0 (g_sI m2 5 (5 + x) v) ((fr9.tr (FRM.x f6)).s (Or.inl UP5)) (by rw [sI_o (by omega)]; exact (FO_n f3).1)
    right
    refine ⟨d1, y', ?_, ?_, FO_frm hFO2 (by rw [z3, sI_o (by omega)]) (by rw [z4, sI_o (by omega)]) (by rw [z5]; exact sI_o (by omega)), SD_lx (SD_lx (f4) s0c.w) s1c.w, FRC.x (((f5).tr s0c.w).tr s1c.w), z2⟩
    · unfold f5_readSort
      rw [f1', g_bs, g_let_e, s0a, g_bs, g_let_e, s1a, g_bs, g_let_e, if_neg (FO_n hFO2).2]
    · rw [b71, f2, g_bs, g_let_e]; exact z1
  have f1' : f5_newOne F (1 : Int32) (5 : Int32) c = some (nI x, c2) := f1
  have hSD2 : SD c2 S := ⟨hS, by rw [f5]; exact hr5, fun j hj => by
    by_cases z : j = 1
    · subst z; exact ⟨x + 1, by omega, f8⟩
    · rw [f6 (S + 1) j (by omega) (by omega) (by omega)]; exact hSD.2.2 j hj⟩
  have hFC2 : FRC c c2 S := ⟨fun o j _ => by rw [f5], fun o j z => f6 o j (by omega) (by omega) (by omega)⟩
  have hN20 : NC c2 (g_sI m2 5 (5 + x) v) n p2 q2 := NC_frm f3 (fun j _ _ => sI_ne (by omega)) (sI_o (by omega))
  have hM20 : FRM m (g_sI m2 5 (5 + x) v) := (fr9.tr (FRM.x f9.w)).s (Or.inl UP5)
  rcases rd_num (F := F) hF hN20 hSD2 (lo := 1) (hi := 9) (by omega) (by omega) with ⟨u0, t0, n0, pp0, qq0, g0a, g0b, g0c, g0d, g0e, g0f, g0g, g0h⟩ | ⟨u0, t0, n0, g0c, g0d, g0e, g0f, g0g⟩
  rotate_left
  · have gC : f5_number F (1 : Int32) (9 : Int32) c2 = some (u0, t0) := g0c
    have gM : f11_numeral F (1 : Int32) (9 : Int32) (g_sI m2 5 (5 + x) v) = some (nI 1, n0) := g0d
    obtain ⟨g, hCX⟩ := FO_CX g0e (SD_lx hSD2 g0f).1 (SD_lx hSD2 g0f).2.1 (SD_lx hSD2 g0f).2.2
    obtain ⟨w1, d1, s1a, s1b, s1c⟩ := x_number (F := F) hF hCX (0 : Int32) (99 : Int32)
    have hFO0 := g0e
    have hFO1 := FO_lex hFO0 s1b.2.2.2.1 s1c
    obtain ⟨y', z1, z2, z3, z4, z5⟩ := tf1 (g_sI n0 6 (5 + x) (nI 1)) ((hM20.tr (FRM.x g0g)).s (Or.inl UP6)) (by rw [sI_o (by omega)]; exact (FO_n g0e).1)
    right
    refine ⟨d1, y', ?_, ?_, FO_frm hFO1 (by rw [z3, sI_o (by omega)]) (by rw [z4, sI_o (by omega)]) (by rw [z5]; exact sI_o (by omega)), SD_lx hSD2 ((g0f).tr s1c.w), hFC2.tr (FRC.x ((g0f).tr s1c.w)), z2⟩
    · unfold f5_readSort
      rw [f1', g_bs, g_let_e, gC, g_bs, g_let_e, s1a, g_bs, g_let_e, if_neg (FO_n hFO1).2]
    · rw [b71, f2, g_bs, g_let_e, gM, g_bs, g_let_e]; exact z1
  have ok0 : f5_number F (1 : Int32) (9 : Int32) c2 = some (nI u0, t0) := g0c
  have okm0 : f11_numeral F (1 : Int32) (9 : Int32) (g_sI m2 5 (5 + x) v) = some (nI u0, n0) := g0d
  have hN21 : NC t0 (g_sI n0 6 (5 + x) (nI u0)) n pp0 qq0 := NC_frm g0e (fun k _ _ => sI_ne (by omega)) (sI_o (by omega))
  have hM21 : FRM m (g_sI n0 6 (5 + x) (nI u0)) := (hM20.tr (FRM.x g0h.w)).s (Or.inl UP6)
  have hSD21 : SD t0 S := SD_lx hSD2 g0g.w
  have hFC21 : FRC c t0 S := hFC2.tr (FRC.x g0g.w)
  rcases rd_num (F := F) hF hN21 hSD21 (lo := 0) (hi := 99) (by omega) (by omega) with ⟨u1, t1, n1, pp1, qq1, g1a, g1b, g1c, g1d, g1e, g1f, g1g, g1h⟩ | ⟨u1, t1, n1, g1c, g1d, g1e, g1f, g1g⟩
  rotate_left
  · have gC : f5_number F (0 : Int32) (99 : Int32) t0 = some (u1, t1) := g1c
    have gM : f11_numeral F (0 : Int32) (99 : Int32) (g_sI n0 6 (5 + x) (nI u0)) = some (nI 0, n1) := g1d
    obtain ⟨g, hCX⟩ := FO_CX g1e (SD_lx hSD21 g1f).1 (SD_lx hSD21 g1f).2.1 (SD_lx hSD21 g1f).2.2
    have hFO0 := g1e
    obtain ⟨y', z1, z2, z3, z4, z5⟩ := tf2 (g_sI n1 7 (5 + x) (nI 0)) ((hM21.tr (FRM.x g1g)).s (Or.inl UP7)) (by rw [sI_o (by omega)]; exact (FO_n g1e).1)
    right
    refine ⟨t1, y', ?_, ?_, FO_frm hFO0 (by rw [z3, sI_o (by omega)]) (by rw [z4, sI_o (by omega)]) (by rw [z5]; exact sI_o (by omega)), SD_lx hSD21 (g1f), hFC21.tr (FRC.x (g1f)), z2⟩
    · unfold f5_readSort
      rw [f1', g_bs, g_let_e, ok0, g_bs, g_let_e, gC, g_bs, g_let_e, if_neg (FO_n hFO0).2]
    · rw [b71, f2, g_bs, g_let_e, okm0, g_bs, g_let_e, gM, g_bs, g_let_e]; exact z1
  have ok1 : f5_number F (0 : Int32) (99 : Int32) t0 = some (nI u1, t1) := g1c
  have okm1 : f11_numeral F (0 : Int32) (99 : Int32) (g_sI n0 6 (5 + x) (nI u0)) = some (nI u1, n1) := g1d
  have hN22 : NC t1 (g_sI n1 7 (5 + x) (nI u1)) n pp1 qq1 := NC_frm g1e (fun k _ _ => sI_ne (by omega)) (sI_o (by omega))
  have hM22 : FRM m (g_sI n1 7 (5 + x) (nI u1)) := (hM21.tr (FRM.x g1h.w)).s (Or.inl UP7)
  have hSD22 : SD t1 S := SD_lx hSD21 g1g.w
  have hFC22 : FRC c t1 S := hFC21.tr (FRC.x g1g.w)
  left
  obtain ⟨c4, hc4⟩ : ∃ y, y = (g_sI (g_sI t1 (S + 4) x (nI u0)) (S + 5) x (nI u1)) := ⟨_, rfl⟩
  obtain ⟨m5, hm5⟩ : ∃ y, y = g_sI (g_sI n1 7 (5 + x) (nI u1)) 2 10 (nI (x + 1)) := ⟨_, rfl⟩
  have cn : ∀ o j, ¬ (o = 31 ∧ (j = 0 ∨ j = 1 ∨ j = 2 ∨ j = 5)) → ¬ ((o = S + 1 ∧ j = 1) ∨ (o = S + 2 ∧ j = 5 * 1 + x) ∨ (o = S + 4 ∧ j = x) ∨ (o = S + 5 ∧ j = x)) → c4.1 o j = c.1 o j := fun o j y1 y2 => by
    rw [hc4, sI_ne (by omega), sI_ne (by omega), g1g.2 o j y1, g0g.2 o j y1]; exact f6 o j y1 (by omega) (by omega)
  have mn : ∀ o j, ¬ (o = 0 ∧ (j = 23 ∨ j = 26 ∨ j = 27 ∨ j = 28 ∨ j = 29)) → ¬ ((o = 2 ∧ j = 10) ∨ (o = 5 ∧ j = 5 + x) ∨ (o = 6 ∧ j = 5 + x) ∨ (o = 7 ∧ j = 5 + x)) → m5.1 o j = m.1 o j := fun o j y1 y2 => by
    rw [hm5, sI_ne (by omega), sI_ne (by omega), g1h.2 o j (by omega), sI_ne (by omega), g0h.2 o j (by omega), sI_ne (by omega), f9.2 o j (by omega), e2.2 o j (by omega), sI_ne (by omega)]
  have m523 : m5.1 0 23 = m.1 0 23 ||| ((1 : Int32) <<< (nI 1 &&& 31)) := by
    rw [hm5, sI_o (by omega), sI_o (by omega), g1h.2 0 23 (by omega), sI_o (by omega), g0h.2 0 23 (by omega), sI_o (by omega), f9.2 0 23 (by omega), e2.2 0 23 (by omega), sI_eq]
  have un : ∀ o k, ¬ ((o = 2 ∧ k = 1) ∨ (o = 5 ∧ k = x) ∨ (o = 6 ∧ k = x) ∨ (o = 7 ∧ k = x)) → (up m5).1 o k = (up m).1 o k := fun o k y => up_eq (fun a1 a2 a3 => mn o _ (by omega) (fun z => by
    rcases z with ⟨z1, z2⟩ | ⟨z1, z2⟩ | ⟨z1, z2⟩ | ⟨z1, z2⟩
    · subst z1; have : hf 2 = 9 := rfl; omega
    · subst z1; have : hf 5 = 5 := rfl; omega
    · subst z1; have : hf 6 = 5 := rfl; omega
    · subst z1; have : hf 7 = 5 := rfl; omega
    ))
  obtain ⟨hW', hR'⟩ := TD_sort (c := c) (c' := c4) (mu := up m) (mu' := up m5) (x := x) (v := u0) (u := u1) (w := v) hS hW hR hx5 hx.symm g0a g0b g1b
    (show m5.1 2 10 = nI (x + 1) by rw [hm5, sI_eq])
    (by rw [up_at (by omega) (by omega) (show x < 5 by omega)]; show m5.1 5 (5 + x) = v; rw [hm5, sI_o (by omega), sI_o (by omega), g1h.2 5 _ (by omega), sI_o (by omega), g0h.2 5 _ (by omega), sI_eq])
    (by rw [up_at (by omega) (by omega) (show x < 5 by omega)]; show m5.1 6 (5 + x) = nI u0; rw [hm5, sI_o (by omega), sI_o (by omega), g1h.2 6 _ (by omega), sI_eq])
    (by rw [up_at (by omega) (by omega) (show x < 5 by omega)]; show m5.1 7 (5 + x) = nI u1; rw [hm5, sI_o (by omega), sI_eq])
    (by rw [hc4, sI_o (by omega), sI_o (by omega), g1g.2 _ _ (by omega), g0g.2 _ _ (by omega)]; exact f8)
    (by rw [hc4, sI_o (by omega), sI_o (by omega), g1g.2 _ _ (by omega), g0g.2 _ _ (by omega)]; have := f7; rw [Nat.mul_one] at this; exact this)
    (by rw [hc4, sI_o (by omega), sI_eq])
    (by rw [hc4, sI_eq])
    un (fun o j a1 a2 y => cn o j (by omega) (by omega))
  have c431 : ∀ j, c4.1 31 j = t1.1 31 j := fun j => by rw [hc4, sI_o (by omega), sI_o (by omega)]
  refine ⟨c4, m5, pp1, qq1, ?_, ?_, NC_frc (NC_frm hN22 (fun j _ _ => by rw [hm5, sI_o (by omega)]) (by rw [hm5, sI_o (by omega)])) (by funext j; exact c431 j) (by rw [hc4]; simp only [sI_o (show (1 : Nat) ≠ S + 3 by omega), sI_o (show (1 : Nat) ≠ S + 4 by omega), sI_o (show (1 : Nat) ≠ S + 5 by omega), sI_o (show (1 : Nat) ≠ S + 6 by omega)]) (by rw [hc4]; simp only [sI_o (show (32 : Nat) ≠ S + 3 by omega), sI_o (show (32 : Nat) ≠ S + 4 by omega), sI_o (show (32 : Nat) ≠ S + 5 by omega), sI_o (show (32 : Nat) ≠ S + 6 by omega)]) (by rw [hc4, sI_o (by omega), sI_o (by omega)]), TOLD_new hT hW' hR' (by rw [hc4]; show t1.2.2 30 5 = _; rw [g1g.1, g0g.1, f5]) (FLG_no hFl (w := 1) (by omega) (cn 30 6 (by omega) (by omega)) (cn 30 7 (by omega) (by omega)) (cn 30 8 (by omega) (by omega)) m523 (fun r hr => by unfold vl; rw [un 18 r (by omega), un 19 r (by omega)]; exact ⟨rfl, rfl⟩)) (mn 0 34 (by omega) (by omega)) (mn 0 35 (by omega) (by omega)) (mn 2 17 (by omega) (by omega)) (mn 0 24 (by omega) (by omega)) (cn 30 2 (by omega) (by omega)) (cn 30 1 (by omega) (by omega)) (mn 0 31 (by omega) (by omega)), by omega, ?_, ?_⟩
  · unfold f5_readSort
    have hz : t1.1 30 0 = (0 : Int32) := hN22.2.1
    rw [f1', g_bs, g_let_e, ok0, g_bs, g_let_e, ok1, g_bs, g_let_e, if_pos hz, g_drT hSD22.2.1 hS, g_ckN (by omega) (by omega), g_clN (by omega), g_let_e, g_drT (show (g_sI t1 (S + 4) x (nI u0)).2.2 30 5 = some S from hSD22.2.1) hS, g_ckN (by omega) (by omega), g_let_e, hc4]
  · rw [b71, f2, g_bs, g_let_e, okm0, g_bs, g_let_e, okm1, g_bs, g_let_e, fr', g_bs, rd', g_bs, hm5]
    have e9 : (g_sI n1 7 (5 + x) (nI u1)).1 2 10 = nI x := by rw [sI_o (by omega), g1h.2 2 10 (by omega), sI_o (by omega), g0h.2 2 10 (by omega), sI_o (by omega), f9.2 2 10 (by omega)]; exact r9
    rw [e9, nI_s]
  · rw [hc4]; exact ((hFC22.s (by omega)).s (by omega))
  · rw [hm5]; exact hM22.s (Or.inl UP2)
theorem l_deed (hF : 5000 < F) (h : NC c m n p q) (hT : TOLD c m S) (k0 : c.1 31 0 = 3) (h28 : m.1 0 28 = 0) (h29 : m.1 0 29 = nI 2) : OUT F (f5_readDeed F c) (f11_line F m) c m n q S := by
  have hSD := SD_of hT
  obtain ⟨hS, hr5, hW, hR, hFl, hOp, hLn, hPc, hPm⟩ := id hT
  have hSl := isT_le hS
  have hm := h.2.2
  obtain ⟨x, hx⟩ : ∃ x, x = vl (up m) 2 2 := ⟨_, rfl⟩
  have bx : x ≤ 5 := by rw [hx]; exact hW.1.2.2.1.2
  have ux : (up m).1 2 2 = nI x := by rw [hx]; exact hW.1.2.2.1.1
  have mx : m.1 2 11 = nI x := ux
  have cx : c.1 (S + 1) 2 = nI x := (hR.1 2 (by omega)).trans ux
  obtain ⟨L1, L2, _⟩ := r_line (F := F) (m := m) (f := 2) (by omega) h28 h29
  have hqp : q < p := h.1.2.2.2.2.2 (by rw [k0]; decide)
  have hnm : ∀ i, i < x → c.1 (S + 2) (5 * 2 + i) = m.1 8 (5 + i) := fun i hi => by
    rw [show 5 * 2 + i = 10 + i from rfl, (hR.2.2.2.1 i (by omega)).1]
    exact up_at (by omega) (by omega) (show i < 5 by omega)
  have fr' : ∀ y : g_M, f11_fresher F (2 : Int32) y = some (y.1 2 11) := fun y => r_fresher (j := 2) (by omega)
  have rd' : ∀ (y : g_M) v, f11_reads F (2 : Int32) v y = some (g_sI y 2 11 v) := fun y v => r_reads (j := 2) (by omega) v
  have UP8 : UPc 8 (5 + x) := ⟨by omega, by omega, by show 5 ≤ 5 + x; omega⟩
  have UP9 : UPc 9 (5 + x) := ⟨by omega, by omega, by show 5 ≤ 5 + x; omega⟩
  have UP2 : UPc 2 11 := ⟨by omega, by omega, by show 9 ≤ 11; omega⟩
  have tf1 : ∀ y : g_M, FRM m y → ¬ y.1 0 30 = (0 : Int32) → ∃ y', (f11_fresher F (2 : Int32) y).bind (fun r21 => (f11_reads F (2 : Int32) (r21 + (1 : Int32)) y).bind (fun r22 => f11_line_b466 F r22)) = some y' ∧ FRM m y' ∧ y'.1 0 30 = y.1 0 30 ∧ y'.1 0 31 = y.1 0 31 ∧ y'.1 1 = y.1 1 := by
    intro y hy hz
    refine ⟨g_sI y 2 11 (y.1 2 11 + (1 : Int32)), ?_, hy.s (Or.inl UP2), by rw [sI_o (by omega)], by rw [sI_o (by omega)], sI_o (by omega)⟩
    rw [fr', g_bs, rd', g_bs, mF_466 (by rw [sI_o (by omega)]; exact hz)]
  have tf0 : ∀ y : g_M, FRM m y → ¬ y.1 0 30 = (0 : Int32) → ∃ y', (f11_numeral F (0 : Int32) (31 : Int32) y).bind (fun s0 => g_let (g_sI s0.2 9 (5 + x) s0.1) (fun y1 => (f11_fresher F (2 : Int32) y1).bind (fun r21 => (f11_reads F (2 : Int32) (r21 + (1 : Int32)) y1).bind (fun r22 => f11_line_b466 F r22)))) = some y' ∧ FRM m y' ∧ y'.1 0 30 = y.1 0 30 ∧ y'.1 0 31 = y.1 0 31 ∧ y'.1 1 = y.1 1 := by
    intro y hy hz
    obtain ⟨y', z1, z2, z3, z4, z5⟩ := tf1 (g_sI y 9 (5 + x) (0 : Int32)) (hy.s (Or.inl UP9)) (by rw [sI_o (by omega)]; exact hz)
    refine ⟨y', ?_, z2, by rw [z3, sI_o (by omega)], by rw [z4, sI_o (by omega)], by rw [z5]; exact sI_o (by omega)⟩
    rw [mF_num hz, g_bs, g_let_e]; exact z1
  rcases rd_new (F := F) hF h hSD (k := 2) (a := 8) (by omega) rfl (by omega) bx cx hnm (m.1 0 23 ||| ((1 : Int32) <<< (nI 2 &&& 31))) with ⟨h5, v, c1, m1, e1, e2, e3, e4, e5, e6⟩ | ⟨hx5, r10, e1, e2, e3⟩
  · right
    have e1' : f5_newOne F (2 : Int32) (5 : Int32) c = some (v, c1) := e1
    obtain ⟨g, hCX⟩ := FO_CX e3 e4.1 e4.2.1 e4.2.2
    obtain ⟨w0, d0, s0a, s0b, s0c⟩ := x_number (F := F) hF hCX (0 : Int32) (31 : Int32)
    have hFO0 := e3
    have hFO1 := FO_lex hFO0 s0b.2.2.2.1 s0c
    refine ⟨d0, m1, ?_, ?_, hFO1, SD_lx (e4) s0c.w, FRC.x ((e5).tr s0c.w), FRM.x e6⟩
    · unfold f5_readDeed
      rw [e1', g_bs, g_let_e, s0a, g_bs, g_let_e, if_neg (FO_n hFO1).2]
    · rw [L1 (Or.inr (Or.inr (Or.inl ⟨rfl, by rw [mx, h5]; rfl⟩))), e2, g_bs]
      unfold f11_line_b71
      rw [if_neg (FO_n e3).1]
  have nfull : ¬ isFullN m 2 := fun z => by
    rcases z with ⟨z0, z⟩ | ⟨z0, z⟩ | ⟨z0, z⟩ | ⟨z0, z⟩ | ⟨z0, z⟩
    · omega
    · omega
    · rw [mx] at z; have := (g_eqN (b := 5) (by omega) (by omega)).mp z; omega
    · omega
    · omega
  have r9 : r10.1 2 11 = nI x := by rw [e2.2 2 11 (by omega), sI_o (by omega)]; exact mx
  have fr0 : f11_fresher F (2 : Int32) r10 = some (nI x) := by rw [fr' r10]; exact congrArg some r9
  have b71 : f11_line F m = (f11_fresh F 8 (5 : Int32) (nI x) r10).bind (fun r15 => g_let (g_sI r15.2 8 (5 + x) r15.1) (fun y0 => (f11_numeral F (0 : Int32) (31 : Int32) y0).bind (fun s0 => g_let (g_sI s0.2 9 (5 + x) s0.1) (fun y1 => (f11_fresher F (2 : Int32) y1).bind (fun r21 => (f11_reads F (2 : Int32) (r21 + (1 : Int32)) y1).bind (fun r22 => f11_line_b466 F r22)))))) := by
    rw [L2 nfull (by omega)]
    unfold f11_line_b71
    rw [hm, if_pos nI00, g_let_e, e1, g_bs, if_neg (show ¬ nI 2 = (0 : Int32) by decide), if_neg (show ¬ nI 2 = (1 : Int32) by decide), if_pos (show nI 2 = (2 : Int32) from rfl), fr0, g_bs, g_let_e, g_bs, show (5 : Int32) + nI x = nI (5 + x) from nI_add 5 x]
    have ck : ∀ k : Option g_M, g_ck (nI (5 + x)) 10 k = k := fun k => g_ckN (by omega) (by omega)
    simp only [ck, g_clN (show 5 + x < 2147483648 by omega)]
  have fr9 : FRM m r10 := (FRM.s (FRM.r m) (Or.inr (by omega))).tr (FRM.x e2.w)
  rcases e3 with ⟨v, c2, m2, p2, q2, f1, f2, f3, f4, f5, f6, f7, f8, f9⟩ | ⟨v, c2, m2, f1, f2, f3, f4, f5, f6⟩
  rotate_left
  · have f1' : f5_newOne F (2 : Int32) (5 : Int32) c = some (nI x, c2) := f1
    obtain ⟨g, hCX⟩ := FO_CX f3 f4.1 f4.2.1 f4.2.2
    obtain ⟨w0, d0, s0a, s0b, s0c⟩ := x_number (F := F) hF hCX (0 : Int32) (31 : Int32)
    have hFO0 := f3
    have hFO1 := FO_lex hFO0 s0b.2.2.2.1 s0c
    obtain ⟨y', z1, z2, z3, z4, z5⟩ := tf0 (g_sI m2 8 (5 + x) v) ((fr9.tr (FRM.x f6)).s (Or.inl UP8)) (by rw [sI_o (by omega)]; exact (FO_n f3).1)
    right
    refine ⟨d0, y', ?_, ?_, FO_frm hFO1 (by rw [z3, sI_o (by omega)]) (by rw [z4, sI_o (by omega)]) (by rw [z5]; exact sI_o (by omega)), SD_lx (f4) s0c.w, FRC.x ((f5).tr s0c.w), z2⟩
    · unfold f5_readDeed
      rw [f1', g_bs, g_let_e, s0a, g_bs, g_let_e, if_neg (FO_n hFO1).2]
    · rw [b71, f2, g_bs, g_let_e]; exact z1
  have f1' : f5_newOne F (2 : Int32) (5 : Int32) c = some (nI x, c2) := f1
  have hSD2 : SD c2 S := ⟨hS, by rw [f5]; exact hr5, fun j hj => by
    by_cases z : j = 2
    · subst z; exact ⟨x + 1, by omega, f8⟩
    · rw [f6 (S + 1) j (by omega) (by omega) (by omega)]; exact hSD.2.2 j hj⟩
  have hFC2 : FRC c c2 S := ⟨fun o j _ => by rw [f5], fun o j z => f6 o j (by omega) (by omega) (by omega)⟩
  have hN20 : NC c2 (g_sI m2 8 (5 + x) v) n p2 q2 := NC_frm f3 (fun j _ _ => sI_ne (by omega)) (sI_o (by omega))
  have hM20 : FRM m (g_sI m2 8 (5 + x) v) := (fr9.tr (FRM.x f9.w)).s (Or.inl UP8)
  rcases rd_num (F := F) hF hN20 hSD2 (lo := 0) (hi := 31) (by omega) (by omega) with ⟨u0, t0, n0, pp0, qq0, g0a, g0b, g0c, g0d, g0e, g0f, g0g, g0h⟩ | ⟨u0, t0, n0, g0c, g0d, g0e, g0f, g0g⟩
  rotate_left
  · have gC : f5_number F (0 : Int32) (31 : Int32) c2 = some (u0, t0) := g0c
    have gM : f11_numeral F (0 : Int32) (31 : Int32) (g_sI m2 8 (5 + x) v) = some (nI 0, n0) := g0d
    obtain ⟨g, hCX⟩ := FO_CX g0e (SD_lx hSD2 g0f).1 (SD_lx hSD2 g0f).2.1 (SD_lx hSD2 g0f).2.2
    have hFO0 := g0e
    obtain ⟨y', z1, z2, z3, z4, z5⟩ := tf1 (g_sI n0 9 (5 + x) (nI 0)) ((hM20.tr (FRM.x g0g)).s (Or.inl UP9)) (by rw [sI_o (by omega)]; exact (FO_n g0e).1)
    right
    refine ⟨t0, y', ?_, ?_, FO_frm hFO0 (by rw [z3, sI_o (by omega)]) (by rw [z4, sI_o (by omega)]) (by rw [z5]; exact sI_o (by omega)), SD_lx hSD2 (g0f), hFC2.tr (FRC.x (g0f)), z2⟩
    · unfold f5_readDeed
      rw [f1', g_bs, g_let_e, gC, g_bs, g_let_e, if_neg (FO_n hFO0).2]
    · rw [b71, f2, g_bs, g_let_e, gM, g_bs, g_let_e]; exact z1
  have ok0 : f5_number F (0 : Int32) (31 : Int32) c2 = some (nI u0, t0) := g0c
  have okm0 : f11_numeral F (0 : Int32) (31 : Int32) (g_sI m2 8 (5 + x) v) = some (nI u0, n0) := g0d
  have hN21 : NC t0 (g_sI n0 9 (5 + x) (nI u0)) n pp0 qq0 := NC_frm g0e (fun k _ _ => sI_ne (by omega)) (sI_o (by omega))
  have hM21 : FRM m (g_sI n0 9 (5 + x) (nI u0)) := (hM20.tr (FRM.x g0h.w)).s (Or.inl UP9)
  have hSD21 : SD t0 S := SD_lx hSD2 g0g.w
  have hFC21 : FRC c t0 S := hFC2.tr (FRC.x g0g.w)
  left
  obtain ⟨c4, hc4⟩ : ∃ y, y = (g_sI t0 (S + 6) x (nI u0)) := ⟨_, rfl⟩
  obtain ⟨m5, hm5⟩ : ∃ y, y = g_sI (g_sI n0 9 (5 + x) (nI u0)) 2 11 (nI (x + 1)) := ⟨_, rfl⟩
  have cn : ∀ o j, ¬ (o = 31 ∧ (j = 0 ∨ j = 1 ∨ j = 2 ∨ j = 5)) → ¬ ((o = S + 1 ∧ j = 2) ∨ (o = S + 2 ∧ j = 5 * 2 + x) ∨ (o = S + 6 ∧ j = x)) → c4.1 o j = c.1 o j := fun o j y1 y2 => by
    rw [hc4, sI_ne (by omega), g0g.2 o j y1]; exact f6 o j y1 (by omega) (by omega)
  have mn : ∀ o j, ¬ (o = 0 ∧ (j = 23 ∨ j = 26 ∨ j = 27 ∨ j = 28 ∨ j = 29)) → ¬ ((o = 2 ∧ j = 11) ∨ (o = 8 ∧ j = 5 + x) ∨ (o = 9 ∧ j = 5 + x)) → m5.1 o j = m.1 o j := fun o j y1 y2 => by
    rw [hm5, sI_ne (by omega), sI_ne (by omega), g0h.2 o j (by omega), sI_ne (by omega), f9.2 o j (by omega), e2.2 o j (by omega), sI_ne (by omega)]
  have m523 : m5.1 0 23 = m.1 0 23 ||| ((1 : Int32) <<< (nI 2 &&& 31)) := by
    rw [hm5, sI_o (by omega), sI_o (by omega), g0h.2 0 23 (by omega), sI_o (by omega), f9.2 0 23 (by omega), e2.2 0 23 (by omega), sI_eq]
  have un : ∀ o k, ¬ ((o = 2 ∧ k = 2) ∨ (o = 8 ∧ k = x) ∨ (o = 9 ∧ k = x)) → (up m5).1 o k = (up m).1 o k := fun o k y => up_eq (fun a1 a2 a3 => mn o _ (by omega) (fun z => by
    rcases z with ⟨z1, z2⟩ | ⟨z1, z2⟩ | ⟨z1, z2⟩
    · subst z1; have : hf 2 = 9 := rfl; omega
    · subst z1; have : hf 8 = 5 := rfl; omega
    · subst z1; have : hf 9 = 5 := rfl; omega
    ))
  obtain ⟨hW', hR'⟩ := TD_deed (c := c) (c' := c4) (mu := up m) (mu' := up m5) (x := x) (v := u0) (w := v) hS hW hR hx5 hx.symm g0b
    (show m5.1 2 11 = nI (x + 1) by rw [hm5, sI_eq])
    (by rw [up_at (by omega) (by omega) (show x < 5 by omega)]; show m5.1 8 (5 + x) = v; rw [hm5, sI_o (by omega), sI_o (by omega), g0h.2 8 _ (by omega), sI_eq])
    (by rw [up_at (by omega) (by omega) (show x < 5 by omega)]; show m5.1 9 (5 + x) = nI u0; rw [hm5, sI_o (by omega), sI_eq])
    (by rw [hc4, sI_o (by omega), g0g.2 _ _ (by omega)]; exact f8)
    (by rw [hc4, sI_o (by omega), g0g.2 _ _ (by omega)]; exact f7)
    (by rw [hc4, sI_eq])
    un (fun o j a1 a2 y => cn o j (by omega) (by omega))
  have c431 : ∀ j, c4.1 31 j = t0.1 31 j := fun j => by rw [hc4, sI_o (by omega)]
  refine ⟨c4, m5, pp0, qq0, ?_, ?_, NC_frc (NC_frm hN21 (fun j _ _ => by rw [hm5, sI_o (by omega)]) (by rw [hm5, sI_o (by omega)])) (by funext j; exact c431 j) (by rw [hc4]; simp only [sI_o (show (1 : Nat) ≠ S + 3 by omega), sI_o (show (1 : Nat) ≠ S + 4 by omega), sI_o (show (1 : Nat) ≠ S + 5 by omega), sI_o (show (1 : Nat) ≠ S + 6 by omega)]) (by rw [hc4]; simp only [sI_o (show (32 : Nat) ≠ S + 3 by omega), sI_o (show (32 : Nat) ≠ S + 4 by omega), sI_o (show (32 : Nat) ≠ S + 5 by omega), sI_o (show (32 : Nat) ≠ S + 6 by omega)]) (by rw [hc4, sI_o (by omega)]), TOLD_new hT hW' hR' (by rw [hc4]; show t0.2.2 30 5 = _; rw [g0g.1, f5]) (FLG_no hFl (w := 2) (by omega) (cn 30 6 (by omega) (by omega)) (cn 30 7 (by omega) (by omega)) (cn 30 8 (by omega) (by omega)) m523 (fun r hr => by unfold vl; rw [un 18 r (by omega), un 19 r (by omega)]; exact ⟨rfl, rfl⟩)) (mn 0 34 (by omega) (by omega)) (mn 0 35 (by omega) (by omega)) (mn 2 17 (by omega) (by omega)) (mn 0 24 (by omega) (by omega)) (cn 30 2 (by omega) (by omega)) (cn 30 1 (by omega) (by omega)) (mn 0 31 (by omega) (by omega)), by omega, ?_, ?_⟩
  · unfold f5_readDeed
    have hz : t0.1 30 0 = (0 : Int32) := hN21.2.1
    rw [f1', g_bs, g_let_e, ok0, g_bs, g_let_e, if_pos hz, g_drT hSD21.2.1 hS, g_ckN (by omega) (by omega), g_clN (by omega), g_let_e, hc4]
  · rw [b71, f2, g_bs, g_let_e, okm0, g_bs, g_let_e, fr', g_bs, rd', g_bs, hm5]
    have e9 : (g_sI n0 9 (5 + x) (nI u0)).1 2 11 = nI x := by rw [sI_o (by omega), g0h.2 2 11 (by omega), sI_o (by omega), f9.2 2 11 (by omega)]; exact r9
    rw [e9, nI_s]
  · rw [hc4]; exact (hFC21.s (by omega))
  · rw [hm5]; exact hM21.s (Or.inl UP2)
end L
