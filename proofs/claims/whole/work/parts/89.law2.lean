/-! a law's line -/
section L
variable {F : Nat} {c m c' m' c1 m1 : g_M} {n p q S f : Nat}
theorem FRM.fm {w : Nat} (h : FMK m m' w) : FRM m m' := fun o k y z => h o k (by omega) (fun e => y (by
  obtain ⟨e1, e2⟩ := e
  subst e1; subst e2
  exact ⟨by omega, by omega, by show 9 ≤ 17; omega⟩)) (fun e => y (by
  obtain ⟨e1, e2⟩ := e
  rcases e1 with e1 | e1
  · subst e1; exact ⟨by omega, by omega, by show 64 ≤ k; omega⟩
  · subst e1; exact ⟨by omega, by omega, by show 64 ≤ k; omega⟩))
theorem FRC.fx {r w : Nat} (h : FCx c c' S r w) : FRC c c' S := ⟨fun o k z => h.1 o k (by omega), fun o k z => h.2 o k (by omega) (by omega) (by omega) (by omega) (by omega) (by omega) (by omega)⟩
theorem neg9 : ∀ j : Fin 9, ¬ (0 : Int32) ≤ nI j.val - (9 : Int32) := by decide
theorem l_law (hF : 5000 < F) (h : NC c m n p q) (hT : TOLD c m S) (k0 : c.1 31 0 = 3) (h28 : m.1 0 28 = 0) (h29 : m.1 0 29 = nI 8) : OUT F (f5_readLaw F c) (f11_line F m) c m n q S := by
  have hSD := SD_of hT
  obtain ⟨hS, hr5, hW, hR, hFl, hOp, hLn, hPc, hPm⟩ := id hT
  have hSl := isT_le hS
  have hm := h.2.2
  obtain ⟨_, L2, _⟩ := r_line (F := F) (m := m) (f := 8) (by omega) h28 h29
  have L2' := L2 (by unfold isFullN; omega) (Or.inr rfl)
  have hqp : q < p := h.1.2.2.2.2.2 (by rw [k0]; decide)
  have hN9 : NC c (g_sI m 0 23 (m.1 0 23 ||| ((1 : Int32) <<< (nI 8 &&& 31)))) n p q := NC_frm h (fun k _ _ => sI_ne (by omega)) (sI_o (by omega))
  obtain ⟨ca, r10, pa, qa, e1, e2, e3, e4, e5, e6⟩ := NC_lex hN9 hF
  have fr9 : FRM m r10 := (FRM.s (FRM.r m) (Or.inr (by omega))).tr (FRM.x e6.w)
  have b71 : f11_line F m = (f11_lawLine F r10).bind (fun r77 => f11_line_b466 F r77) := by
    rw [L2']
    unfold f11_line_b71
    rw [hm, if_pos nI00, g_let_e, e2, g_bs, if_neg (show ¬ nI 8 = (0 : Int32) by decide), if_neg (show ¬ nI 8 = (1 : Int32) by decide), if_neg (show ¬ nI 8 = (2 : Int32) by decide), if_neg (show ¬ nI 8 = (3 : Int32) by decide), if_neg (show ¬ nI 8 = (4 : Int32) by decide), if_neg (show ¬ nI 8 = (5 : Int32) by decide), if_neg (show ¬ nI 8 = (6 : Int32) by decide), if_neg (show ¬ nI 8 = (7 : Int32) by decide)]
  have hSDa : SD ca S := SD_lx hSD e5.w
  have m23 : r10.1 0 23 = m.1 0 23 ||| ((1 : Int32) <<< (nI 8 &&& 31)) := by rw [e6.2 0 23 (by omega), sI_eq]
  /- a word that names no law -/
  have bad : f5_readLaw F c = f5_readLaw_b42 F ca → f11_lawLine F r10 = f11_lawLine_b25 F r10 → OUT F (f5_readLaw F c) (f11_line F m) c m n q S := fun hc hl => by
    right
    obtain ⟨c1, m1, t1, t2, t3, t4, t5, t6, t7⟩ := fo_of (F := F) e3 (f := 1) (by omega) (by omega)
    refine ⟨c1, m1, ?_, ?_, t3, SD_lx hSDa t4, (FRC.x e5.w).tr (FRC.x t4), fr9.tr (FRM.x t5)⟩
    · rw [hc]
      unfold f5_readLaw_b42
      rw [show f5_fail F (1 : Int32) ca = some c1 from t1, g_bs]
    · rw [b71, hl]
      unfold f11_lawLine_b25 f11_lawLine_b30 f11_lawLine_b65
      rw [show f11_wrong F (1 : Int32) r10 = some m1 from t2, g_bs, g_let_e, if_neg (FO_n t3).1, if_neg (FO_n t3).1, g_bs, mF_466 (FO_n t3).1]
  have noW : ¬ ca.1 31 0 = (3 : Int32) → ¬ r10.1 0 28 = (0 : Int32) → OUT F (f5_readLaw F c) (f11_line F m) c m n q S := fun y1 y2 => bad (by
    unfold f5_readLaw f5_readLaw_b32
    rw [e1, g_bs, if_neg y1, if_neg (by decide)]) (by
    unfold f11_lawLine
    rw [if_neg y2])
  rcases e3.1.2.1 with ⟨k1, k2⟩ | ⟨k1, k2, _⟩ | ⟨k1, k2, _⟩ | ⟨k1, k2, x, x1, k4, k5⟩ | ⟨k1, k2, _⟩ | ⟨k1, k2⟩
  · exact noW (by rw [k1]; decide) (by rw [k2]; decide)
  · exact noW (by rw [k1]; decide) (by rw [k2]; decide)
  · exact noW (by rw [k1]; decide) (by rw [k2]; decide)
  rotate_left
  · exact noW (by rw [k1]; decide) (by rw [k2]; decide)
  · exact noW (by rw [k1]; decide) (by rw [k2]; decide)
  by_cases z9 : x < 9
  · refine bad ?_ ?_
    · unfold f5_readLaw f5_readLaw_b32
      rw [e1, g_bs, if_pos k1, k4, if_neg (neg9 ⟨x, z9⟩)]
    · unfold f11_lawLine
      rw [if_pos k2, k5, if_neg (show ¬ (9 : Int32) ≤ nI x from fun y => by have := (g_leN (a := 9) (by omega) (by omega)).mp y; omega)]
  obtain ⟨r, hrx⟩ : ∃ r, x = r + 9 := ⟨x - 9, by omega⟩
  subst hrx
  have es : nI (r + 9) - (9 : Int32) = nI r := by show nI (r + 9) - nI 9 = _; rw [g_subN (by omega)]; congr 1
  by_cases z11 : 2 < r
  · refine bad ?_ ?_
    · unfold f5_readLaw f5_readLaw_b32
      rw [e1, g_bs, if_pos k1, k4, es, if_pos (show (0 : Int32) ≤ nI r from (g_leN (a := 0) (by omega) (by omega)).mpr (by omega)), if_pos (show (2 : Int32) < nI r from (g_ltN (a := 2) (by omega) (by omega)).mpr z11)]
    · unfold f11_lawLine
      rw [if_pos k2, k5, if_pos (show (9 : Int32) ≤ nI (r + 9) from (g_leN (a := 9) (by omega) (by omega)).mpr (by omega)), if_pos (show (11 : Int32) < nI (r + 9) from (g_ltN (a := 11) (by omega) (by omega)).mpr (by omega))]
  have hr : r < 3 := by omega
  have hqa : qa < pa := e3.1.2.2.2.2.2 (by rw [k1]; decide)
  obtain ⟨⟨w1', w2', w3', w4', w5', w6', w6'', w7', w8', w9'⟩, _, _, _, _, _, bL⟩ := id hW
  obtain ⟨y18, y19, y1819, y198, _⟩ := bL r hr
  have hcr := hR.2.2.2.2.2.2.2.1 r hr
  have c11 : ca.1 (S + 11) r = nI (vl (up m) 18 r) := by rw [e5.2 (S + 11) r (by omega), hcr.1]; exact y18.1
  have c12 : ca.1 (S + 12) r = nI (vl (up m) 19 r) := by rw [e5.2 (S + 12) r (by omega), hcr.2]; exact y19.1
  have b18 := y18.2
  have b19 := y19.2
  have told : f2_isTold F (S + 9) (nI r) ca = some (fl1 (gb (m.1 0 23) (16 + r))) := by
    unfold f2_isTold
    rw [g_ckN (by omega) (by omega), g_ckN (by omega) (by omega), g_clN (by omega), show S + 9 + 2 = S + 11 from rfl, show S + 9 + 3 = S + 12 from rfl, c11, c12, hFl.2.2.2 r hr]
    by_cases y : vl (up m) 18 r < vl (up m) 19 r
    · rw [if_pos ((g_ltN (by omega) (by omega)).mpr y), decide_eq_true y]; rfl
    · rw [if_neg (fun z => y ((g_ltN (by omega) (by omega)).mp z)), decide_eq_false y]; rfl
  have gb16 : gb (r10.1 0 23) (16 + r) = gb (m.1 0 23) (16 + r) := by rw [m23, gb_told _ (by omega) (by omega), decide_eq_false (show ¬ 16 + r = 8 by omega), Bool.or_false]
  have e16 : (16 : Int32) + nI r = nI (16 + r) := nI_add 16 r
  have hbit := shr_bit (r10.1 0 23) (k := 16 + r) (by omega)
  have hl : f11_lawLine F r10 = f11_lawLine_b30 F r10 := by
    unfold f11_lawLine
    rw [if_pos k2, k5, if_pos (show (9 : Int32) ≤ nI (r + 9) from (g_leN (a := 9) (by omega) (by omega)).mpr (by omega)), if_neg (show ¬ (11 : Int32) < nI (r + 9) from fun y => by have := (g_ltN (a := 11) (by omega) (by omega)).mp y; omega)]
  have hC0 : f5_readLaw F c = (f5_failIf F (fl1 (gb (m.1 0 23) (16 + r))) (3 : Int32) ca).bind (fun r7 => (f8_step F r7).bind (fun r8 => if (r8.1 30 0) = (0 : Int32) then (g_dr yC 69 (r8.2.2 30 5) 9 (fun q10 => (f1_reads F (q10 + 9) (nI r) r8).bind (fun r11 => g_let (r11.1) (fun x12 => if x12 = (0 : Int32) then (f5_readLaw_b104 F x12 (0 : Int32) r11.2) else (f5_readLaw_b104 F x12 (1 : Int32) r11.2))))) else (some r8))) := by
    unfold f5_readLaw f5_readLaw_b32
    rw [e1, g_bs, if_pos k1, k4, es, if_pos (show (0 : Int32) ≤ nI r from (g_leN (a := 0) (by omega) (by omega)).mpr (by omega)), if_neg (show ¬ (2 : Int32) < nI r from fun y => by have := (g_ltN (a := 2) (by omega) (by omega)).mp y; omega), g_drT hSDa.2.1 hS, told, g_bs]
  cases hb : gb (m.1 0 23) (16 + r) with
  | true =>
    right
    rw [hb] at hC0
    rw [gb16, hb, if_pos rfl] at hbit
    obtain ⟨c1, c2, m1, g, t1, t2, t3, t4, t5, t6, t7, t8, t9, t10⟩ := fo_step (F := F) hF e3 hSDa (f := 3) (by omega) (by omega)
    refine ⟨c2, m1, ?_, ?_, t5, SD_lx hSDa t6, (FRC.x e5.w).tr (FRC.x t6), fr9.tr (FRM.x t7)⟩
    · rw [hC0, fi_eq, if_neg (show ¬ fl1 true = (0 : Int32) by decide), show f5_fail F (3 : Int32) ca = some c1 from t1, g_bs, t3, g_bs, if_neg (FO_n t5).2]
    · rw [b71, hl]
      unfold f11_lawLine_b30 f11_lawLine_b65
      rw [g_let_e, k5, es, e3.2.2, if_pos nI00, e16, if_pos (show (r10.1 0 23 >>> (nI (16 + r) &&& 31)) &&& (1 : Int32) = (1 : Int32) from hbit), show f11_wrong F (3 : Int32) r10 = some m1 from t4, g_bs, if_neg t9, g_bs, mF_466 t9]
  | false =>
    rw [hb] at hC0
    rw [gb16, hb, if_neg ft] at hbit
    obtain ⟨t, ht⟩ : ∃ y, y = r10.1 0 23 ||| ((1 : Int32) <<< (nI (16 + r) &&& 31)) := ⟨_, rfl⟩
    have hNb : NC ca (g_sI r10 0 23 t) n pa qa := NC_frm e3 (fun k _ _ => sI_ne (by omega)) (sI_o (by omega))
    obtain ⟨cb', r3, pb, qb, s1, s2, s3, s4, s5, s6⟩ := NC_lex hNb hF
    obtain ⟨m6, hm6⟩ : ∃ y, y = g_sI r3 18 (3 + r) (r3.1 2 17) := ⟨_, rfl⟩
    have hN6 : NC cb' m6 n pb qb := by rw [hm6]; exact NC_frm s3 (fun k _ _ => sI_ne (by omega)) (sI_o (by omega))
    have mn : ∀ o j, ¬ (o = 0 ∧ (j = 23 ∨ j = 26 ∨ j = 27 ∨ j = 28 ∨ j = 29)) → ¬ (o = 18 ∧ j = 3 + r) → m6.1 o j = m.1 o j := fun o j y1 y2 => by
      rw [hm6, sI_ne y2, s6.2 o j (by omega), sI_ne (by omega), e6.2 o j (by omega), sI_ne (by omega)]
    have cn : ∀ o j, ¬ (o = 31 ∧ (j = 0 ∨ j = 1 ∨ j = 2 ∨ j = 5)) → cb'.1 o j = c.1 o j := fun o j y => by rw [s5.2 o j y, e5.2 o j y]
    have cr : cb'.2 = c.2 := s5.1.trans e5.1
    obtain ⟨w0, hw0⟩ : ∃ y, y = vl (up m) 2 8 := ⟨_, rfl⟩
    have w64 : w0 ≤ 64 := by rw [hw0]; exact w9'.2
    have m17 : m.1 2 17 = nI w0 := by rw [hw0]; exact w9'.1
    have UP18 : UPc 18 (3 + r) := ⟨by omega, by omega, by show 3 ≤ 3 + r; omega⟩
    have UP19 : UPc 19 (3 + r) := ⟨by omega, by omega, by show 3 ≤ 3 + r; omega⟩
    have r317 : r3.1 2 17 = nI w0 := by
      have := mn 2 17 (by omega) (by omega)
      rw [hm6, sI_o (by omega)] at this
      rw [this]; exact m17
    have fr6 : FRM m m6 := by
      rw [hm6]
      exact ((fr9.s (Or.inr (by omega))).tr (FRM.x s6.w)).s (Or.inl UP18)
    have u2021 : ∀ (y : g_M) i, i < 64 → (up y).1 20 i = y.1 20 (64 + i) ∧ (up y).1 21 i = y.1 21 (64 + i) := fun y i hi => ⟨up_at (m := y) (o := 20) (k := i) (by omega) (by omega) hi, up_at (m := y) (o := 21) (k := i) (by omega) (by omega) hi⟩
    obtain ⟨f, c', m', g1, g2, g3, g4, g5, g6⟩ := x_form (F := F) (S := S) (r := r) hF hS hr hN6 w64 (by omega) (by rw [cn (S + 9) 3 (by omega), hR.2.2.2.2.1.2.2.2.2.2]; exact m17) (by rw [mn 0 35 (by omega) (by omega), hOp.2]; exact m17) (by rw [mn 2 17 (by omega) (by omega)]; exact m17) (by rw [mn 0 34 (by omega) (by omega)]; exact hOp.1) (fun i hi => by
      rw [cn (S + 10) i (by omega), mn 20 _ (by omega) (by omega), mn 21 _ (by omega) (by omega), ← (u2021 m i (by omega)).1, ← (u2021 m i (by omega)).2]
      exact hR.2.2.2.2.2.2.2.2 i (by omega))
    obtain ⟨m10, hm10⟩ : ∃ y, y = g_sI m' 19 (3 + r) (m'.1 2 17) := ⟨_, rfl⟩
    have fr10 : FRM m m10 := by
      rw [hm10]
      exact (fr6.tr (FRM.fm g4)).s (Or.inl UP19)
    have hY : f11_line F m = f11_line_b466 F m10 := by
      have f8a : f11_fresher F (8 : Int32) r3 = some (r3.1 2 17) := r_fresher (j := 8) (by omega)
      have f8b : f11_fresher F (8 : Int32) m' = some (m'.1 2 17) := r_fresher (j := 8) (by omega)
      rw [b71, hl]
      unfold f11_lawLine_b30 f11_lawLine_b65
      rw [g_let_e, k5, es, e3.2.2, if_pos nI00, e16, if_neg (show ¬ (r10.1 0 23 >>> (nI (16 + r) &&& 31)) &&& (1 : Int32) = (1 : Int32) from fun z => absurd (hbit.symm.trans z) (by decide)), if_pos nI00, ← ht, g_let_e, s2, g_bs, f8a, g_bs, show (3 : Int32) + nI r = nI (3 + r) from nI_add 3 r, g_ckN (by omega) (by omega), g_clN (by omega), g_let_e, ← hm6, g2, g_bs, f8b, g_bs, g_ckN (by omega) (by omega), g_let_e, ← hm10, g_bs]
    have hX : f5_readLaw F c = if nI f = (0 : Int32) then f5_readLaw_b104 F (nI f) (0 : Int32) c' else f5_readLaw_b104 F (nI f) (1 : Int32) c' := by
      rw [hC0, fi_eq, if_pos (show fl1 false = (0 : Int32) from rfl), g_bs, s1, g_bs, s3.2.1, if_pos nI00, g_drT (show cb'.2.2 30 5 = some S by rw [cr]; exact hr5) hS, g1, g_bs, g_let_e]
    have hFC : FRC c c' S := ((FRC.x e5.w).tr (FRC.x s5.w)).tr (FRC.fx g3)
    have hSDc : SD c' S := ⟨hS, by rw [g3.1 30 5 (by omega), cr]; exact hr5, fun k hk => by rw [g3.2 (S + 1) k (by omega) (by omega) (by omega) (by omega) (by omega) (by omega) (by omega), cn (S + 1) k (by omega)]; exact hSD.2.2 k hk⟩
    rcases g6 with ⟨rfl, p', q', w1, i1, i2, i3, i4, i5, i6, i7, i8, i9, i10, i11, i12, i13⟩ | ⟨f1, f2, q', i1, i2, i3, i4, i5⟩ | ⟨rfl, p', q', i1, i2⟩
    · left
      have m10n : ∀ o j, ¬ (o = 19 ∧ j = 3 + r) → m10.1 o j = m'.1 o j := fun o j y => by rw [hm10, sI_ne y]
      have m10m : ∀ o j, ¬ (o = 0 ∧ (j = 23 ∨ (26 ≤ j ∧ j ≤ 31) ∨ j = 34 ∨ j = 35)) → ¬ (o = 2 ∧ j = 17) → ¬ (o = 18 ∧ j = 3 + r) → ¬ (o = 19 ∧ j = 3 + r) → ¬ ((o = 20 ∨ o = 21) ∧ 64 + w0 ≤ j) → m10.1 o j = m.1 o j := fun o j y1 y2 y3 y4 y5 => by
        rw [m10n o j y4, g4 o j (by omega) y2 y5]; exact mn o j (by omega) y3
      have x18 : m10.1 18 (3 + r) = nI w0 := by rw [m10n 18 _ (by omega), g4 18 _ (by omega) (by omega) (by omega), hm6, sI_eq]; exact r317
      have x19 : m10.1 19 (3 + r) = nI w1 := by rw [hm10, sI_eq]; exact i6
      have x17 : m10.1 2 17 = nI w1 := by rw [m10n 2 17 (by omega)]; exact i6
      have un : ∀ o k, ¬ ((o = 2 ∧ k = 8) ∨ (o = 18 ∧ k = r) ∨ (o = 19 ∧ k = r) ∨ ((o = 20 ∨ o = 21) ∧ w0 ≤ k)) → (up m10).1 o k = (up m).1 o k := fun o k y => up_eq (fun a1 a2 a3 => m10m o _ (by omega) (fun z => y (by
        obtain ⟨z1, z2⟩ := z
        subst z1; have : hf 2 = 9 := rfl
        omega)) (fun z => y (by
        obtain ⟨z1, z2⟩ := z
        subst z1; have : hf 18 = 3 := rfl
        omega)) (fun z => y (by
        obtain ⟨z1, z2⟩ := z
        subst z1; have : hf 19 = 3 := rfl
        omega)) (fun z => y (by
        obtain ⟨z1, z2⟩ := z
        rcases z1 with z1 | z1
        · subst z1; have : hf 20 = 64 := rfl
          omega
        · subst z1; have : hf 21 = 64 := rfl
          omega)))
      have hps : PSG m10 w0 w1 := ⟨i12.1, fun D => by
        obtain ⟨d, d1, d2, d3⟩ := i12.2 D
        exact ⟨d, d1, d2, fun i h1 h2 => STP_fr (d3 i h1 h2) (m10n 20 _ (by omega)) (m10n 21 _ (by omega))⟩⟩
      obtain ⟨hW', hR'⟩ := TD_law (c := c) (c' := c') (mu := up m) (mu' := up m10) (w0 := w0) (w1 := w1) (rr := r) hS hW hR hr hw0.symm i3 i4 (show m10.1 2 17 = nI w1 from x17) (by rw [up_at (by omega) (by omega) (show r < 3 from hr)]; exact x18) (by rw [up_at (by omega) (by omega) (show r < 3 from hr)]; exact x19) i5 i9 i10 (fun i hi => by
        rw [(u2021 m10 i (by omega)).1, (u2021 m10 i (by omega)).2, m10n 20 _ (by omega), m10n 21 _ (by omega)]; exact i11 i hi) (PSG_wfl hps i4) un (fun o j a1 a2 y => by
        rw [g3.2 o j (by omega) (by omega) (by omega) (by omega) (by omega) (by omega) (by omega)]; exact cn o j (by omega))
      have x23 : m10.1 0 23 = t := by rw [m10n 0 23 (by omega), g4 0 23 (by omega) (by omega) (by omega), hm6, sI_o (by omega), s6.2 0 23 (by omega), sI_eq]
      have gbt : ∀ j, j < 32 → j ≠ 8 → gb (m10.1 0 23) j = (gb (m.1 0 23) j || decide (j = 16 + r)) := fun j hj hne => by
        rw [x23, ht, gb_told _ (by omega) hj, m23, gb_told _ (by omega) hj]; simp [hne]
      have c30 : ∀ j, c'.1 30 j = c.1 30 j := fun j => by rw [g3.2 30 j (by omega) (by omega) (by omega) (by omega) (by omega) (by omega) (by omega)]; exact cn 30 j (by omega)
      have hFl' : FLG c' m10 := by
        obtain ⟨q1, q2, q3, q4⟩ := hFl
        refine ⟨by rw [c30, gbt 5 (by omega) (by omega), q1, decide_eq_false (show ¬ 5 = 16 + r by omega), Bool.or_false], by rw [c30, gbt 6 (by omega) (by omega), q2, decide_eq_false (show ¬ 6 = 16 + r by omega), Bool.or_false], by rw [c30, gbt 7 (by omega) (by omega), q3, decide_eq_false (show ¬ 7 = 16 + r by omega), Bool.or_false], fun r' hr' => ?_⟩
        rw [gbt (16 + r') (by omega) (by omega)]
        by_cases y : r' = r
        · subst y
          have v18 : vl (up m10) 18 r' = w0 := vl_of (by rw [up_at (by omega) (by omega) (show r' < 3 from hr)]; exact x18) (by omega)
          have v19 : vl (up m10) 19 r' = w1 := vl_of (by rw [up_at (by omega) (by omega) (show r' < 3 from hr)]; exact x19) (by omega)
          rw [v18, v19, decide_eq_true (rfl : 16 + r' = 16 + r'), Bool.or_true, decide_eq_true i3]
        · have ev : vl (up m10) 18 r' = vl (up m) 18 r' ∧ vl (up m10) 19 r' = vl (up m) 19 r' := by unfold vl; rw [un 18 r' (by omega), un 19 r' (by omega)]; exact ⟨rfl, rfl⟩
          rw [ev.1, ev.2, decide_eq_false (show ¬ 16 + r' = 16 + r by omega), Bool.or_false]; exact q4 r' hr'
      refine ⟨c', m10, p', q', ?_, hY, NC_frm i1 (fun k _ _ => m10n 0 k (by omega)) (by funext j; exact m10n 1 j (by omega)), ⟨hS, hSDc.2.1, hW', hR', hFl', ⟨by rw [m10n 0 34 (by omega)]; exact i8, by rw [m10n 0 35 (by omega), m10n 2 17 (by omega), i7, i6]⟩, by rw [c30, m10m 0 24 (by omega) (by omega) (by omega) (by omega) (by omega)]; exact hLn, by rw [c30]; exact hPc, ?_⟩, by omega, hFC, fr10⟩
      · rw [hX, if_pos nI00]
        unfold f5_readLaw_b104
        rw [fi_eq, if_pos rfl, g_bs]
      · rw [m10n 0 31 (by omega), i13, mn 0 31 (by omega) (by omega)]; exact hPm
    · right
      obtain ⟨c9, hc9⟩ : ∃ y, y = g_sI (g_sI c' 30 0 (nI f)) 30 1 (nI q') := ⟨_, rfl⟩
      have c9n : ∀ o j, ¬ (o = 30 ∧ (j = 0 ∨ j = 1)) → c9.1 o j = c'.1 o j := fun o j y => by rw [hc9, sI_ne (by omega), sI_ne (by omega)]
      have hfl : f5_fail F (nI f) c' = some c9 := by
        unfold f5_fail
        rw [g5, if_pos nI00, g_let_e, g_let_e, sI_o (by omega), i4, hc9]
      refine ⟨c9, m10, ?_, ?_, ⟨f, q', f1, f2, i1, by rw [hc9, sI_ne (by omega), sI_eq], by rw [hm10, sI_o (by omega)]; exact i2, by rw [hc9, sI_eq], by rw [hm10, sI_o (by omega)]; exact i3, LCx_fr i5 (by funext j; exact c9n 1 j (by omega)) (by funext j; exact c9n 32 j (by omega)) (by rw [hm10, sI_o (by omega)]) (c9n 31 4 (by omega)) (c9n 31 5 (by omega))⟩, SD_fr hSDc (by rw [hc9]; rfl) (fun k _ => c9n (S + 1) k (by omega)), by rw [hc9]; exact (hFC.s (by omega)).s (by omega), fr10⟩
      · rw [hX, if_neg (nz f1 f2)]
        unfold f5_readLaw_b104
        rw [fi_eq, if_neg (by decide), hfl, g_bs]
      · rw [hY, mF_466 (by rw [hm10, sI_o (by omega), i2]; exact nz f1 f2)]
    · right
      have hN10 : NC c' m10 n p' q' := by rw [hm10]; exact NC_frm i1 (fun k _ _ => sI_ne (by omega)) (sI_o (by omega))
      obtain ⟨c9, m9, t1, t2, t3, t4, t5, t6, t7⟩ := fo_of (F := F) hN10 (f := 1) (by omega) (by omega)
      have i2' : ¬ (m10.1 0 28 = 3 ∧ m10.1 0 29 = 59) := by rw [hm10, sI_o (by omega)]; exact i2
      refine ⟨c9, g_sI m9 0 24 (m9.1 0 24 + 1), ?_, ?_, FO_frm t3 (sI_ne (by omega)) (sI_ne (by omega)) (sI_o (by omega)), SD_lx hSDc t4, hFC.tr (FRC.x t4), (fr10.tr (FRM.x t5)).s (Or.inr (by omega))⟩
      · rw [hX, if_neg (nz (by omega) (by omega))]
        unfold f5_readLaw_b104
        rw [fi_eq, if_neg (by decide), t1, g_bs]
      · rw [hY]
        unfold f11_line_b466 f11_line_b495
        rw [hN10.2.2, if_pos nI00, (r_sg hN10 _).2 i2', g_bs, if_pos rfl, show f11_wrong F (1 : Int32) m10 = some m9 from t2, g_bs, g_let_e]
end L
