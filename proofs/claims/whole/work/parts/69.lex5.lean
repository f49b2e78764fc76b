/-! a token, in both -/
section L
variable {F : Nat} {c m c' m' c1 m1 cc mm : g_M} {n p q b L : Nat}
def TKN (c m : g_M) : Prop := (c.1 31 0 = 0 ∧ m.1 0 28 = 4) ∨ (c.1 31 0 = 1 ∧ m.1 0 28 = 2 ∧ NV (c.1 31 2) (m.1 0 29)) ∨ (c.1 31 0 = 2 ∧ m.1 0 28 = 1 ∧ c.1 31 2 = m.1 0 29) ∨ (c.1 31 0 = 3 ∧ m.1 0 28 = 0 ∧ ∃ w, w < 22 ∧ c.1 31 2 = nI w ∧ m.1 0 29 = nI w) ∨ (c.1 31 0 = 4 ∧ m.1 0 28 = 3 ∧ SV (c.1 31 2) (m.1 0 29)) ∨ (c.1 31 0 = 5 ∧ m.1 0 28 = 5)
def LPx (c m : g_M) (n p : Nat) : Prop := BY c m n ∧ p ≤ n ∧ c.1 31 4 = nI n ∧ m.1 0 25 = nI n ∧ c.1 31 5 = nI p ∧ m.1 0 26 = nI p ∧ WRD c
def TK (c m : g_M) (n p q : Nat) : Prop := LPx c m n p ∧ TKN c m ∧ c.1 31 1 = nI q ∧ m.1 0 27 = nI q ∧ q ≤ p ∧ (¬ c.1 31 0 = 0 → q < p)
def LXC (c c' : g_M) : Prop := c'.2 = c.2 ∧ ∀ o k, ¬ (o = 31 ∧ (k = 0 ∨ k = 1 ∨ k = 2 ∨ k = 5)) → c'.1 o k = c.1 o k
def LXM (m m' : g_M) : Prop := m'.2 = m.2 ∧ ∀ o k, ¬ (o = 0 ∧ (k = 26 ∨ k = 27 ∨ k = 28 ∨ k = 29)) → m'.1 o k = m.1 o k
theorem mt_no (h : LET m q L) (h6 : 6 < L) {W : Nat} (hW : W = fstP (mtP m q L) 22) : ¬ W < 22 := fun z => by
  rw [hW] at z
  have hy := fstP_yes _ _ z
  have := (mt_iff h z).mp hy
  omega
theorem mt_eq (h : LET m q L) (h6 : ¬ 6 < L) : fstP (mtP m q L) 22 = fstP (fun w => decide (un (eW w) 6 = un (dl m q L) 6)) 22 := by
  refine fstP_congr (fun w hw => ?_)
  have hi := mt_iff h hw
  by_cases z : un (eW w) 6 = un (dl m q L) 6
  · rw [hi.mpr ⟨by omega, z⟩]; simp [z]
  · have : mtP m q L w = false := by
      cases hm : mtP m q L w with
      | false => rfl
      | true => exact absurd (hi.mp hm).2 z
    rw [this]; simp [z]
theorem tk_word {c3 m3 : g_M} {W V x : Nat} (h6 : 6 < L → ¬ W < 22) (h6' : ¬ 6 < L → W = V) (a5 : 6 < L → c3.1 31 0 = 5) (a6 : ¬ 6 < L → (V < 22 → c3.1 31 0 = 3 ∧ c3.1 31 2 = nI V) ∧ (¬ V < 22 → c3.1 31 0 = 2 ∧ c3.1 31 2 = nI x)) (b5 : (W < 22 → m3.1 0 28 = 0 ∧ m3.1 0 29 = nI W) ∧ (¬ W < 22 → (6 < L → m3.1 0 28 = 5) ∧ (¬ 6 < L → m3.1 0 28 = 1 ∧ m3.1 0 29 = nI x))) : TKN c3 m3 ∧ ¬ c3.1 31 0 = 0 := by
  by_cases h : 6 < L
  · exact ⟨Or.inr (Or.inr (Or.inr (Or.inr (Or.inr ⟨a5 h, (b5.2 (h6 h)).1 h⟩)))), by rw [a5 h]; decide⟩
  · have e := h6' h
    subst e
    by_cases y : W < 22
    · have a := (a6 h).1 y
      have b := b5.1 y
      exact ⟨Or.inr (Or.inr (Or.inr (Or.inl ⟨a.1, b.1, _, y, a.2, b.2⟩))), by rw [a.1]; decide⟩
    · have a := (a6 h).2 y
      have b := (b5.2 y).2 h
      exact ⟨Or.inr (Or.inr (Or.inl ⟨a.1, b.1, a.2.trans b.2.symm⟩)), by rw [a.1]; decide⟩
theorem lex (hF : 5000 < F) (h : LPx c m n p) : ∃ c' m' p' q', f8_step F c = some c' ∧ f11_token F m = some m' ∧ TK c' m' n p' q' ∧ p ≤ q' ∧ LXC c c' ∧ LXM m m' := by
  obtain ⟨hB, hp, h4, h25, h5, h26, hw⟩ := h
  have hn := hB.1
  have hle := rn_le isW m n p
  obtain ⟨q, hq⟩ : ∃ q, q = p + rn isW m n p := ⟨_, rfl⟩
  obtain ⟨m2, hm2, tm⟩ := r_ws (F := F) hF hB hp h25 h26
  have tc := q_ws (F := F) hF hB hp h4 h5
  rw [← hq] at tm tc hm2
  obtain ⟨c2, hc2⟩ : ∃ x, x = g_sI (g_sI c 31 5 (nI q)) 31 1 (nI q) := ⟨_, rfl⟩
  have cn : ∀ o k, ¬ (o = 31 ∧ (k = 1 ∨ k = 5)) → c2.1 o k = c.1 o k := fun o k z => by rw [hc2, sI_ne (by omega), sI_ne (by omega)]
  have mn : ∀ o k, ¬ (o = 0 ∧ (k = 26 ∨ k = 27)) → m2.1 o k = m.1 o k := fun o k z => by rw [hm2, sI_ne (by omega), sI_ne (by omega)]
  have cr : c2.2 = c.2 := by rw [hc2]; rfl
  have mr : m2.2 = m.2 := by rw [hm2]; rfl
  have c25 : c2.1 31 5 = nI q := by rw [hc2, sI_ne (by omega), sI_eq]
  have c21 : c2.1 31 1 = nI q := by rw [hc2, sI_eq]
  have c24 : c2.1 31 4 = nI n := by rw [cn 31 4 (by omega)]; exact h4
  have m226 : m2.1 0 26 = nI q := by rw [hm2, sI_ne (by omega), sI_eq]
  have m227 : m2.1 0 27 = nI q := by rw [hm2, sI_eq]
  have m225 : m2.1 0 25 = nI n := by rw [mn 0 25 (by omega)]; exact h25
  have cb1 : c2.1 1 = c.1 1 := by funext k; exact cn 1 k (by omega)
  have mb1 : m2.1 1 = m.1 1 := by funext k; exact mn 1 k (by omega)
  have hBo : ∀ {x y : g_M}, x.1 1 = c.1 1 → y.1 1 = m.1 1 → BY x y n := fun {x y} e1 e2 => ⟨hn, fun i hi => by
    have := hB.2 i hi
    unfold vl at this ⊢
    rw [e1, e2]; exact this⟩
  have hwo : ∀ {x : g_M}, x.1 32 = c.1 32 → WRD x := fun {x} e => by unfold WRD at hw ⊢; rw [e]; exact hw
  have e52 : f8_step_b52 F (g_sI c 31 5 (nI q)) = if n ≤ q then some (g_sI c2 31 0 (0 : Int32)) else g_ck (nI q) 700 ((f8_isLetter F (c2.1 1 q) c2).bind (fun r5 => if r5 = (0 : Int32) then (g_ck (nI q) 700 ((f8_isDigit F (c2.1 1 q) c2).bind (fun r9 => if r9 = (0 : Int32) then ((f8_stepSign F c2).bind (fun r12 => some r12)) else ((f8_stepNumber F c2).bind (fun r11 => some r11))))) else ((f8_stepWord F c2).bind (fun r7 => some r7)))) := by
    unfold f8_step_b52
    rw [sI_eq, g_let_e, ← hc2, c25, c24]
    by_cases z : n ≤ q
    · rw [if_pos ((g_leN (by omega) (by omega)).mpr z), if_pos z, g_let_e]
    · rw [if_neg (fun y => z ((g_leN (by omega) (by omega)).mp y)), if_neg z, g_clN (by omega)]
  rw [e52] at tc
  by_cases z : q < n
  rotate_left
  · rw [if_pos (by omega)] at tc
    rw [if_neg z] at tm
    refine ⟨_, _, q, q, tc, tm, ⟨⟨hBo (by rw [sI_o (by omega)]; exact cb1) (by rw [sI_o (by omega)]; exact mb1), by omega, by rw [sI_ne (by omega)]; exact c24, by rw [sI_ne (by omega)]; exact m225, by rw [sI_ne (by omega)]; exact c25, by rw [sI_ne (by omega)]; exact m226, hwo (by rw [sI_o (by omega)]; funext k; exact cn 32 k (by omega))⟩, Or.inl ⟨sI_eq, sI_eq⟩, by rw [sI_ne (by omega)]; exact c21, by rw [sI_ne (by omega)]; exact m227, Nat.le_refl _, fun y => absurd sI_eq y⟩, by omega, ⟨cr, fun o k y => by rw [sI_ne (by omega)]; exact cn o k (by omega)⟩, ⟨mr, fun o k y => by rw [sI_ne (by omega)]; exact mn o k (by omega)⟩⟩
  rw [if_neg (by omega), g_ckN (by omega) (by omega), cb1, (hB.2 q z).2.2, q_isL (hB.2 q z).1, g_bs, g_ckN (by omega) (by omega), q_isD (hB.2 q z).1, g_bs] at tc
  rw [if_pos z] at tm
  by_cases l : isL (vl m 1 q) = true
  · rw [if_pos l, if_neg nI10] at tc
    rw [if_pos l] at tm
    obtain ⟨L, hL⟩ : ∃ L, L = rn isL m n q := ⟨_, rfl⟩
    have hLle := rn_le isL m n q
    have hLpos := rn_pos isL m n q z l
    rw [← hL] at hLle hLpos
    have hLet : LET m q L := fun j hj => isL_iff.mp (rn_yes isL m n q (by rw [← hL]; exact hj))
    obtain ⟨c3, a1, a2, a3, a4, a5, a6⟩ := q_word (F := F) hF hB (by omega) cb1 c24 c25 c21 (hwo (by funext k; exact cn 32 k (by omega))) hL
    obtain ⟨m3, b1, b2, b3, b4, b5⟩ := r_wordT (F := F) hF hB (by omega) mb1 m225 m226 m227 hL
    rw [a1, g_bs] at tc
    rw [b1] at tm
    have hk0 : TKN c3 m3 ∧ ¬ c3.1 31 0 = 0 := by
      obtain ⟨W, hW⟩ : ∃ W, W = fstP (mtP m q L) 22 := ⟨_, rfl⟩
      obtain ⟨V, hV⟩ : ∃ V, V = fstP (fun w => decide (un (eW w) 6 = un (dl m q L) 6)) 22 := ⟨_, rfl⟩
      exact tk_word (fun h6 => mt_no hLet h6 hW) (fun h6 => hW.trans ((mt_eq hLet h6).trans hV.symm)) a5 (fun h => a6 h V hV) (b5 W hW)
    clear a5 a6 b5
    refine ⟨c3, m3, q + L, q, tc, tm, ⟨⟨hBo (by funext k; rw [a3 1 k (by omega), cb1]) (by funext k; rw [b3 1 k (by omega), mb1]), by omega, by rw [a3 31 4 (by omega)]; exact c24, by rw [b3 0 25 (by omega)]; exact m225, a4, b4, hwo (by funext k; rw [a3 32 k (by omega)]; exact cn 32 k (by omega))⟩, hk0.1, by rw [a3 31 1 (by omega)]; exact c21, by rw [b3 0 27 (by omega)]; exact m227, by omega, fun _ => by omega⟩, by omega, ⟨a2.trans cr, fun o k y => by rw [a3 o k (by omega)]; exact cn o k (by omega)⟩, ⟨b2.trans mr, fun o k y => by rw [b3 o k (by omega)]; exact mn o k (by omega)⟩⟩
  rw [if_neg l, if_pos nI00] at tc
  rw [if_neg l] at tm
  by_cases d : isD (vl m 1 q) = true
  · rw [if_pos d, if_neg nI10] at tc
    rw [if_pos d] at tm
    have hLle := rn_le isD m n q
    have hLpos := rn_pos isD m n q z d
    obtain ⟨c3, hc3⟩ : ∃ x, x = g_sI (g_sI c2 31 0 (1 : Int32)) 31 2 (0 : Int32) := ⟨_, rfl⟩
    obtain ⟨m3, hm3⟩ : ∃ x, x = g_sI (g_sI m2 0 28 (2 : Int32)) 0 29 (0 : Int32) := ⟨_, rfl⟩
    have c3n : ∀ o k, ¬ (o = 31 ∧ (k = 0 ∨ k = 2)) → c3.1 o k = c2.1 o k := fun o k y => by rw [hc3, sI_ne (by omega), sI_ne (by omega)]
    have m3n : ∀ o k, ¬ (o = 0 ∧ (k = 28 ∨ k = 29)) → m3.1 o k = m2.1 o k := fun o k y => by rw [hm3, sI_ne (by omega), sI_ne (by omega)]
    obtain ⟨a, b, nv, e1, e2⟩ := lex_num (F := F) (cc := c3) (mm := m3) hF hB (show q ≤ n by omega) (by funext k; rw [c3n 1 k (by omega), cb1]) (by rw [c3n 31 4 (by omega)]; exact c24) (by rw [c3n 31 5 (by omega)]; exact c25) (by rw [hc3, sI_eq]; rfl) (by funext k; rw [m3n 1 k (by omega), mb1]) (by rw [m3n 0 25 (by omega)]; exact m225) (by rw [m3n 0 26 (by omega)]; exact m226) (by rw [hm3, sI_eq]; rfl)
    have eN : f8_stepNumber F c2 = f8_stepNumber_b10 F c3 := by unfold f8_stepNumber; rw [g_let_e, g_let_e, ← hc3]
    rw [eN, e1, g_bs] at tc
    rw [← hm3, e2] at tm
    have c30 : c3.1 31 0 = 1 := by rw [hc3, sI_ne (by omega), sI_eq]
    have m328 : m3.1 0 28 = 2 := by rw [hm3, sI_ne (by omega), sI_eq]
    refine ⟨_, _, q + rn isD m n q, q, tc, tm, ⟨⟨hBo (by rw [sI_o (by omega), sI_o (by omega)]; funext k; rw [c3n 1 k (by omega), cb1]) (by rw [sI_o (by omega), sI_o (by omega)]; funext k; rw [m3n 1 k (by omega), mb1]), by omega, by rw [sI_ne (by omega), sI_ne (by omega), c3n 31 4 (by omega)]; exact c24, by rw [sI_ne (by omega), sI_ne (by omega), m3n 0 25 (by omega)]; exact m225, sI_eq, sI_eq, hwo (by rw [sI_o (by omega), sI_o (by omega)]; funext k; rw [c3n 32 k (by omega)]; exact cn 32 k (by omega))⟩, Or.inr (Or.inl ⟨by rw [sI_ne (by omega), sI_ne (by omega)]; exact c30, by rw [sI_ne (by omega), sI_ne (by omega)]; exact m328, a, b, by rw [sI_ne (by omega), sI_eq], by rw [sI_ne (by omega), sI_eq], nv⟩), by rw [sI_ne (by omega), sI_ne (by omega), c3n 31 1 (by omega)]; exact c21, by rw [sI_ne (by omega), sI_ne (by omega), m3n 0 27 (by omega)]; exact m227, by omega, fun _ => by omega⟩, by omega, ⟨by show c3.2 = c.2; rw [hc3]; exact cr, fun o k y => by rw [sI_ne (by omega), sI_ne (by omega), c3n o k (by omega)]; exact cn o k (by omega)⟩, ⟨by show m3.2 = m.2; rw [hm3]; exact mr, fun o k y => by rw [sI_ne (by omega), sI_ne (by omega), m3n o k (by omega)]; exact mn o k (by omega)⟩⟩
  rw [if_neg d, if_pos nI00] at tc
  rw [if_neg d] at tm
  obtain ⟨c3, m3, p', e1, e2, e3, e4, ⟨f1, f2, f3, f4, f5, f6⟩, e6⟩ := lex_sgn (F := F) (cc := c2) (mm := m2) hB z cb1 c24 c25 mb1 m225 m226
  rw [e1, g_bs] at tc
  rw [e2, g_bs] at tm
  have hk0 : TKN c3 m3 := by
    rcases e6 with e6 | e6
    · exact Or.inr (Or.inr (Or.inr (Or.inr (Or.inl e6))))
    · exact Or.inr (Or.inr (Or.inr (Or.inr (Or.inr e6))))
  refine ⟨c3, m3, p', q, tc, tm, ⟨⟨hBo (by funext k; rw [f3 1 k (by omega), cb1]) (by funext k; rw [f4 1 k (by omega), mb1]), e4, by rw [f3 31 4 (by omega)]; exact c24, by rw [f4 0 25 (by omega)]; exact m225, f5, f6, hwo (by funext k; rw [f3 32 k (by omega)]; exact cn 32 k (by omega))⟩, hk0, by rw [f3 31 1 (by omega)]; exact c21, by rw [f4 0 27 (by omega)]; exact m227, by omega, fun _ => e3⟩, by omega, ⟨f1.trans cr, fun o k y => by rw [f3 o k (by omega)]; exact cn o k (by omega)⟩, ⟨f2.trans mr, fun o k y => by rw [f4 o k (by omega)]; exact mn o k (by omega)⟩⟩
/-- the class alone goes on -/
def LCx (c m : g_M) (n : Nat) : Prop := BY c m n ∧ c.1 31 4 = nI n ∧ WRD c ∧ ∃ p, p ≤ n ∧ c.1 31 5 = nI p
theorem LPx_C (h : LPx c m n p) : LCx c m n := ⟨h.1, h.2.2.1, h.2.2.2.2.2.2, p, h.2.1, h.2.2.2.2.1⟩
theorem lexC (hF : 5000 < F) (h : LCx c m n) : ∃ c', f8_step F c = some c' ∧ LCx c' m n ∧ LXC c c' := by
  obtain ⟨hB, h4, hw, p, hp, h5⟩ := h
  have hB' : BY c (g_sI (g_sI m 0 25 (nI n)) 0 26 (nI p)) n := ⟨hB.1, fun i hi => by
    have := hB.2 i hi
    unfold vl at this ⊢
    rw [sI_o (by omega), sI_o (by omega)]; exact this⟩
  obtain ⟨c', m', p', q', e1, e2, e3, e4, e5, e6⟩ := lex (F := F) (m := g_sI (g_sI m 0 25 (nI n)) 0 26 (nI p)) hF ⟨hB', hp, h4, by rw [sI_ne (by omega), sI_eq], h5, sI_eq, hw⟩
  obtain ⟨⟨b1, b2, b3, b4, b5, b6, b7⟩, _⟩ := e3
  refine ⟨c', e1, ⟨⟨hB.1, fun i hi => ?_⟩, b3, b7, p', b2, b5⟩, e5⟩
  rw [e5.2 1 i (by omega)]; exact hB.2 i hi
end L
