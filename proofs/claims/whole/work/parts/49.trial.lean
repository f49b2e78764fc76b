/-! days that go by, really or tried -/
section T
variable {F : Nat} {c m c' m' c1 m1 c2 : g_M} {T S t : Nat}
theorem q_start (hT : isT T) (ht : isS t) (hp : c.2.2 t 0 = some T) (a2 : Int32) : ∃ c', f0_start F t a2 c = some c' ∧ (∀ o k, ¬ (o = 53 ∧ (k = 3 ∨ k = 4)) → c'.2.2 o k = c.2.2 o k) ∧ AT c' T t ∧ (∀ o k, ¬ (o = 53 ∧ (k = 0 ∨ k = 1 ∨ k = 2 ∨ k = 5)) → c'.1 o k = c.1 o k) ∧ c'.1 53 0 = c.1 T 10 ∧ c'.1 53 1 = nI 0 ∧ c'.1 53 2 = -1 ∧ c'.1 53 5 = a2 := by
  have htl := isS_le ht
  have hTl := isT_le hT
  have e1 : (g_sR c 53 3 (some t)).2.2 t 0 = some T := by rw [g_sR22, if_neg (by omega)]; exact hp
  obtain ⟨x, hx⟩ : ∃ x, x = g_sI (g_sR (g_sR c 53 3 (some t)) 53 4 (some T)) 53 5 a2 := ⟨_, rfl⟩
  have e2 : x.2.2 53 4 = some T := by rw [hx]; rfl
  have e3 : x.1 T 10 = c.1 T 10 := by rw [hx, sI_o (by omega)]; rfl
  have er : ∀ o k, ¬ (o = 53 ∧ (k = 3 ∨ k = 4)) → x.2.2 o k = c.2.2 o k := by
    intro o k z
    rw [hx]
    show (g_sR (g_sR c 53 3 (some t)) 53 4 (some T)).2.2 o k = _
    rw [g_sR22, g_sR22]
    by_cases a : o = 53
    · rw [if_pos a, if_pos a, if_neg (fun y => z ⟨a, Or.inr y⟩), if_neg (fun y => z ⟨a, Or.inl y⟩)]
    · rw [if_neg a, if_neg a]
  have ei : ∀ o k, ¬ (o = 53 ∧ k = 5) → x.1 o k = c.1 o k := fun o k z => by rw [hx, sI_ne z]; rfl
  have e5 : x.1 53 5 = a2 := by rw [hx, sI_eq]
  have e33 : x.2.2 53 3 = some t := by rw [hx]; rfl
  have hs : f0_start F t a2 c = some (g_sI (g_sI (g_sI x 53 0 (c.1 T 10)) 53 1 (0 : Int32)) 53 2 (-1)) := by
    unfold f0_start
    rw [g_let_e, g_drT e1 hT, g_let_e, g_let_e, ← hx, g_drT e2 hT, e3, g_let_e, g_let_e, g_let_e]
  refine ⟨_, hs, fun o k z => er o k z, ⟨e33, e2⟩, fun o k z => ?_, ?_, ?_, ?_, ?_⟩
  · rw [sI_ne (by omega), sI_ne (by omega), sI_ne (by omega)]; exact ei o k (by omega)
  · rw [sI_ne (by omega), sI_ne (by omega), sI_eq]
  · rw [sI_ne (by omega), sI_eq]; rfl
  · rw [sI_eq]
  · rw [sI_ne (by omega), sI_ne (by omega), sI_ne (by omega)]; exact e5
/-- a trial is laid out -/
def TB (c m c1 m1 : g_M) (T : Nat) : Prop := TS c1 m1 T 47 1 ∧ AB c1 m1 noA ∧ (∀ o k, ¬ (47 ≤ o ∧ o ≤ 53) → c1.1 o k = c.1 o k) ∧ (∀ o k, o ≠ 47 → o ≠ 53 → c1.2.2 o k = c.2.2 o k) ∧ (∀ o k, ¬ inD o k 1 → ¬ (o = 0 ∧ (k = 53 ∨ k = 54 ∨ k = 55)) → m1.1 o k = m.1 o k)
theorem n0D {k g : Nat} : ¬ inD 0 k g := fun z => by have := z.1; omega
theorem tb_copy (hF : 5000 < F) (hTS : TS c m T 35 0) (hA : AB c m noA) : ∃ c1 m1, f7_copy F 47 35 c = some c1 ∧ f11_copies F (nI 1) (nI 0) m = some m1 ∧ TB c m c1 m1 T ∧ SAME m m1 1 0 ∧ (∀ o k, ¬ inD o k 1 → m1.1 o k = m.1 o k) := by
  have hT := hTS.1
  obtain ⟨c1, k1, k2⟩ := q_copy (F := F) (t := 47) (t1 := 35) (by unfold isS; omega) (by unfold isS; omega) (by omega) hT hTS.2.2.2.1
  obtain ⟨m1, j1, j2, j3⟩ := r_copies (F := F) (m := m) hF (a := 0) (b := 1) (by omega) (by omega) (by omega)
  have hTn : TS c1 m1 T 47 1 := TS_copy hTS (by unfold isS; omega) (by omega) (by omega) k2 j2 j3
  refine ⟨c1, m1, k1, j1, ⟨hTn, AB_fr hA (k2.2.2.1 54 (by omega)) (by rw [k2.2.2.1 53 (by omega)]) (j2.2 0 56 n0D), fun o k z => by rw [k2.2.2.1 o (by omega)], fun o k z y => k2.1 o k (by omega), fun o k z _ => j2.2 o k z⟩, j3, j2.2⟩
theorem tb_start (h : TB c m c1 m1 T) (a2 : Int32) : ∃ c2, f0_start F 47 a2 c1 = some c2 ∧ TB c m c2 m1 T ∧ AT c2 T 47 ∧ c2.1 53 0 = m1.1 2 5 ∧ c2.1 53 1 = nI 0 ∧ c2.1 53 2 = -1 ∧ c2.1 53 5 = a2 ∧ (∀ o, 47 ≤ o → o ≤ 52 → c2.1 o = c1.1 o) := by
  obtain ⟨h1, h2, h3, h4, h5⟩ := h
  have hTl := isT_le h1.1
  obtain ⟨c2, k1, k2, k3, k4, k5, k6, k7, k8⟩ := q_start (F := F) h1.1 (show isS 47 by unfold isS; omega) h1.2.2.2.1 a2
  have ko : ∀ o, o ≠ 53 → c2.1 o = c1.1 o := fun o ho => by funext k; exact k4 o k (by omega)
  refine ⟨c2, k1, ⟨?_, AB_fr h2 (ko 54 (by omega)) (k4 53 7 (by omega)) rfl, fun o k z => by rw [ko o (by omega)]; exact h3 o k z, fun o k z y => by rw [k2 o k (by omega)]; exact h4 o k z y, h5⟩, k3, ?_, k6, k7, k8, fun o a b => ko o (by omega)⟩
  · exact TS_fr h1 (k2 47 0 (by omega)) (fun o a b => ko o (by omega)) (fun o k a b => by rw [ko o (by omega)]) (fun _ _ _ => rfl) (fun _ _ _ _ => rfl)
  · rw [k5]; exact h1.2.2.2.2.2.1.2.2.2.2.1.2.2.1
theorem tb_dy (h : TB c m c2 m1 T) (hA : AT c2 T 47) : DY c2 m1 c2 m1 T 47 1 noA := ⟨h.1, hA, h.2.1, fcD.rfl' _ _, fmD.rfl' _ _⟩
theorem tb_inv (hV : INV c m) (h : TB c m c2 m1 T) (hc : fcD c2 c' 47) (hm : ∀ o k, relM o k → m'.1 o k = m.1 o k) (hA : AB c' m' noA) : INV c' m' := by
  obtain ⟨h1, h2, h3, h4, h5⟩ := h
  refine INV_fr hV (fun o k z => ?_) (fun o k z => ?_) hm hA
  · rw [hc.1]; exact h4 o k (by omega) (by omega)
  · unfold relC at z
    rw [hc.2 o k (by omega) (by omega) (by omega)]; exact h3 o k (by omega)
theorem tb_rel (h : TB c m c2 m1 T) (hm : fmD m1 m' 1) (h53 : m'.1 0 53 = m.1 0 53) (h55 : m'.1 0 55 = m.1 0 55) : ∀ o k, relM o k → m'.1 o k = m.1 o k := by
  intro o k z
  unfold relM at z
  have hd : ¬ inD o k 1 := by
    intro y
    have y1 := y.1
    have y2 := y.2.1
    rcases z with z | z | z | z
    · omega
    · omega
    · exact z.2.2 y
    · omega
  by_cases e : o = 0 ∧ (k = 53 ∨ k = 55)
  · obtain ⟨e1, e2⟩ := e
    subst e1
    rcases e2 with e2 | e2
    · subst e2; exact h53
    · subst e2; exact h55
  · rw [hm.2 o k (by omega) hd]
    exact h.2.2.2.2 o k hd (by omega)
theorem tb_ts (hTS : TS c m T 35 0) (h : TB c m c2 m1 T) (hc : fcD c2 c' 47) (hm : ∀ o k, relM o k → m'.1 o k = m.1 o k) : TS c' m' T 35 0 := by
  obtain ⟨h1, h2, h3, h4, h5⟩ := h
  have hTl := isT_le hTS.1
  have e : ∀ o, o ≤ 46 → c'.1 o = c.1 o := fun o ho => by funext k; rw [hc.2 o k (by omega) (by omega) (by omega)]; exact h3 o k (by omega)
  refine TS_frD hTS (by rw [hc.1]; exact h4 35 0 (by omega) (by omega)) (fun o a b => e o (by omega)) (fun o k a b => by rw [e o (by omega)]) (fun o a b => by funext k; exact hm o k (by unfold relM; omega)) (fun o k hk => hm o k (Or.inr (Or.inr (Or.inl ⟨hk.1, hk.2.1, inD_ne hk (by omega)⟩))))
theorem SG_of {b : Nat} (hW : WT m1) (hb : b ≤ 1) (h0 : c2.1 53 0 = m1.1 2 5) (h1 : c2.1 53 1 = nI 0) (h2 : c2.1 53 2 = -1) (h5 : c2.1 53 5 = if b = 0 then nI 1 else nI 0) (h53 : m1.1 0 53 = nI 0) (h55 : m1.1 0 55 = -1) : SG c2 m1 b (vl m1 2 5) 0 := by
  obtain ⟨v, bb⟩ := hW.1.2.2.2.2.2.1
  exact ⟨hb, by omega, by omega, by rw [h0]; exact v, h53, Or.inr (Or.inl ⟨by omega, h55, v⟩), h1, Or.inr ⟨by omega, h2⟩, h5⟩
theorem q_span1 {n : Nat} (hn : n < 100) : f10_isSpan F (nI n) c = some (nI 1) := by
  unfold f10_isSpan
  rw [if_pos (show (0 : Int32) ≤ nI n from nI_ge0 (by omega)), if_pos (show nI n ≤ (99 : Int32) from (g_leN (b := 99) (by omega) (by omega)).mpr (by omega))]
  rfl
theorem not_span {a : Int32} {n : Nat} (hn : n < 900) (h : ¬ okI a (n + 1)) : ¬ (0 : Int32) ≤ a ∨ ((0 : Int32) ≤ a ∧ ¬ a ≤ nI n) := by
  rcases not_okI (n := n + 1) (by omega) h with z | ⟨z1, z2⟩
  · exact Or.inl z
  · refine Or.inr ⟨z1, fun z => ?_⟩
    obtain ⟨k, hk, rfl⟩ : ∃ k, k < 2147483648 ∧ a = nI k := by
      rcases i_cases a with y | y
      · exact absurd z1 (neg_nle y)
      · exact y
    have := (g_leN hk (by omega)).mp z
    exact h ⟨k, by omega, rfl⟩
theorem q_span0 {a : Int32} (ha : ¬ okI a 100) : f10_isSpan F a c = some (nI 0) := by
  unfold f10_isSpan
  rcases not_span (n := 99) (by omega) ha with z | ⟨z1, z2⟩
  · rw [if_neg z]; rfl
  · rw [if_pos z1, if_neg (show ¬ a ≤ (99 : Int32) from z2)]; rfl
/-- the span's guard in the reference -/
theorem r_span0 {α : Type} {a : Int32} (ha : ¬ okI a 100) (x y : α) : (if (0 : Int32) ≤ a then (if a ≤ (99 : Int32) then x else y) else y) = y := by
  rcases not_span (n := 99) (by omega) ha with z | ⟨z1, z2⟩
  · rw [if_neg z]
  · rw [if_pos z1, if_neg (show ¬ a ≤ (99 : Int32) from z2)]
theorem r_span1 {α : Type} {n : Nat} (hn : n < 100) (x y : α) : (if (0 : Int32) ≤ nI n then (if nI n ≤ (99 : Int32) then x else y) else y) = x := by
  rw [if_pos (show (0 : Int32) ≤ nI n from nI_ge0 (by omega)), if_pos (show nI n ≤ (99 : Int32) from (g_leN (b := 99) (by omega) (by omega)).mpr (by omega))]
theorem vl_1 (h : SAME m m1 1 0) : vl m1 24 1 = vl m 24 0 := by unfold vl; rw [h.1 24 (by omega) (by omega)]
/-- a trial of n days -/
theorem tb_run (hF : 5000 < F) (hV : INV c m) (hC : COR c m T S) (hA : AB c m noA) {n : Nat} (hn : n < 100) : ∃ c1 m1 c2 c3 m3, f7_copy F 47 35 c = some c1 ∧ f0_start F 47 (1 : Int32) c1 = some c2 ∧ f0_pass F (nI n) c2 = some c3 ∧ f11_copies F (1 : Int32) (0 : Int32) m = some m1 ∧ f11_goesOn F (nI n) m1 = some m3 ∧ TS c3 m3 T 47 1 ∧ TS c3 m3 T 35 0 ∧ INV c3 m3 := by
  have hTS := hC.2.2.2.1
  obtain ⟨c1, m1, k1, k2, k3, k4, k5⟩ := tb_copy hF hTS hA
  obtain ⟨c2, j1, j2, j3, j4, j5, j6, j7, j8⟩ := tb_start (F := F) k3 (1 : Int32)
  have h53 : m1.1 0 53 = nI 0 := by rw [k5 0 53 n0D]; exact hC.2.2.2.2.2.1.1
  have h55 : m1.1 0 55 = -1 := by rw [k5 0 55 n0D]; exact hC.2.2.2.2.2.1.2
  have hSG := SG_of (b := 0) j2.1.2.2.2.2.1 (by omega) j4 j5 j6 j7 h53 h55
  have hday : vl m1 24 1 + n ≤ 10000 := by rw [vl_1 k4]; have := hC.2.2.2.2.1; omega
  obtain ⟨D, _⟩ := d_iter hF (tb_dy j2 j3) hSG n hday
  have hp := d_pass hF (tb_dy j2 j3) hSG (n := n) (by omega) hday
  have hg := d_goesOn hF (tb_dy j2 j3) hSG (n := n) (by omega) hday
  have hrel := tb_rel j2 D.2.2.2.2 (by rw [D.2.2.2.2.2 0 53 (by omega) n0D]; exact h53.trans hC.2.2.2.2.2.1.1.symm) (by rw [D.2.2.2.2.2 0 55 (by omega) n0D]; exact h55.trans hC.2.2.2.2.2.1.2.symm)
  exact ⟨c1, m1, c2, _, _, k1, j1, hp, k2, hg, D.1, tb_ts hTS j2 D.2.2.2.1 hrel, tb_inv hV j2 D.2.2.2.1 hrel D.2.2.1⟩
theorem s_ahead (hF : 5000 < F) (h : INV c m) (a1 a2 a3 : Int32) : CALL (f10_ahead F a1 a2 a3 c) (f11_ahead F a1 a2 a3 m) := by
  refine call_of h (fun T S m1 hV hC hI hTa hFl hA hS hG => ?_)
  have hW := hG.1.2.2.2.2.1
  unfold f10_ahead
  by_cases ha : okI a1 100
  rotate_left
  · rw [q_span0 ha, g_bs, if_pos nI00, r_span0 ha]; exact ⟨_, _, _, rfl, rfl, hV⟩
  obtain ⟨n, hn, rfl⟩ := ha
  rw [q_span1 hn, g_bs, if_neg nI10, r_span1 hn]
  by_cases hb : okI a2 5
  rotate_left
  · rcases not_span (n := 4) (by omega) hb with z | ⟨z1, z2⟩
    · rw [if_neg z, if_neg z]; exact ⟨_, _, _, rfl, rfl, hV⟩
    · rw [if_pos z1, if_pos z1, if_neg (show ¬ a2 ≤ (4 : Int32) from z2), if_neg (show ¬ a2 ≤ (4 : Int32) from z2)]; exact ⟨_, _, _, rfl, rfl, hV⟩
  obtain ⟨w, hw, rfl⟩ := hb
  have w1 : (0 : Int32) ≤ nI w := nI_ge0 (by omega)
  have w2 : nI w ≤ (4 : Int32) := (g_leN (b := 4) (by omega) (by omega)).mpr (by omega)
  rw [if_pos w1, if_pos w1, if_pos w2, if_pos w2]
  have main : (nI w = (3 : Int32) → okI a3 (vl m1 2 0)) → CALL (f10_ahead_b31 F (nI n) (nI w) a3 c) (f11_ahead_b39 F (nI n) (nI w) a3 m1) := by
    intro h3
    obtain ⟨c1, m2, c2, c3, m3, k1, k2, k3, k4, k5, hT1, hT0, hV3⟩ := tb_run hF hV hC hA hn
    have hW3 := hT1.2.2.2.2.1
    have hr : f11_runs F (nI n) m1 = some m3 := by unfold f11_runs; rw [k4, g_bs, k5, g_bs]
    unfold f10_ahead_b31 f11_ahead_b39
    rw [k1, g_bs, k2, g_bs, k3, g_bs, hr, g_bs]
    have o1 : ∀ v, f11_outcomes F (1 : Int32) v m3 = _ := fun v => r_outcomes hF hW3 (f := 1) (by omega) v
    have o0 : ∀ v, f11_outcomes F (0 : Int32) v m3 = _ := fun v => r_outcomes hF hW3 (f := 0) (by omega) v
    have g1 : f11_goneMany F (1 : Int32) m3 = _ := r_goneMany hF (f := 1) hT1.2.2.2.2.2.2.1 (by omega)
    have g0 : f11_goneMany F (0 : Int32) m3 = _ := r_goneMany hF (f := 0) hT0.2.2.2.2.2.2.1 (by omega)
    have x1 : f11_mixedMany F (1 : Int32) m3 = _ := r_mixedMany hF hW3 (f := 1) (by omega)
    rcases (show w = 0 ∨ w = 1 ∨ w = 2 ∨ w = 3 ∨ w = 4 by omega) with rfl | rfl | rfl | rfl | rfl
    · rw [if_pos nI00, if_pos nI00, q_wantsThatAre hF hT1, g_bs, q_wantsThatAre hF hT0, g_bs, o1, g_bs, o0, g_bs]; exact ⟨_, _, _, rfl, rfl, hV3⟩
    · rw [if_neg nI10, if_neg nI10, if_pos (show nI 1 = (1 : Int32) from rfl), if_pos (show nI 1 = (1 : Int32) from rfl), q_wantsThatAre hF hT1, g_bs, q_wantsThatAre hF hT0, g_bs, o1, g_bs, o0, g_bs]; exact ⟨_, _, _, rfl, rfl, hV3⟩
    · have z0 : ¬ nI 2 = (0 : Int32) := by decide
      have z1 : ¬ nI 2 = (1 : Int32) := by decide
      rw [if_neg z0, if_neg z0, if_neg z1, if_neg z1, if_pos (show nI 2 = (2 : Int32) from rfl), if_pos (show nI 2 = (2 : Int32) from rfl), q_sendingsGone hF hT1, g_bs, q_sendingsGone hF hT0, g_bs, g1, g_bs, g0, g_bs]; exact ⟨_, _, _, rfl, rfl, hV3⟩
    · have z0 : ¬ nI 3 = (0 : Int32) := by decide
      have z1 : ¬ nI 3 = (1 : Int32) := by decide
      have z2 : ¬ nI 3 = (2 : Int32) := by decide
      obtain ⟨p, hp, rfl⟩ := h3 rfl
      have hp' : p < vl m3 2 0 := by
        have : vl m3 2 0 = vl m1 2 0 := by
          have e1 := hT0.2.2.2.2.2.1.1 0 (by omega)
          have e2 := hG.1.2.2.2.2.2.1.1 0 (by omega)
          obtain ⟨c1', m1', d1, d2, d3, d4, d5⟩ := tb_copy hF hG.1 hA
          have q1 : c3.1 (T + 1) 0 = c.1 (T + 1) 0 := by
            rw [k1] at d1; cases d1
            obtain ⟨c2', j1, j2, j3, j4, j5, j6, j7, j8⟩ := tb_start (F := F) d3 (1 : Int32)
            rw [k2] at j1; cases j1
            have h53 : m1'.1 0 53 = nI 0 := by rw [d5 0 53 n0D]; exact hC.2.2.2.2.2.1.1
            have h55 : m1'.1 0 55 = -1 := by rw [d5 0 55 n0D]; exact hC.2.2.2.2.2.1.2
            have hSG := SG_of (b := 0) j2.1.2.2.2.2.1 (by omega) j4 j5 j6 j7 h53 h55
            have hday : vl m1' 24 1 + n ≤ 10000 := by rw [vl_1 d4]; have := hC.2.2.2.2.1; omega
            obtain ⟨D, _⟩ := d_iter hF (tb_dy j2 j3) hSG n hday
            have hpp := d_pass hF (tb_dy j2 j3) hSG (n := n) (by omega) hday
            rw [k3] at hpp; cases hpp
            have hTl := isT_le hG.1.1
            rw [D.2.2.2.1.2 (T + 1) 0 (by omega) (by omega) (by omega)]; exact d3.2.2.1 (T + 1) 0 (by omega) ▸ j2.2.2.1 (T + 1) 0 (by omega)
          unfold vl
          rw [← e1, ← e2, q1]
        rw [this]; exact hp
      have hb5 := hW3.1.1.2
      have e := hT1.2.2.2.2.2.2.2.2.1 p hp'
      rw [if_neg z0, if_neg z0, if_neg z1, if_neg z1, if_neg z2, if_neg z2, if_pos (show nI 3 = (3 : Int32) from rfl), if_pos (show nI 3 = (3 : Int32) from rfl), g_l5, nI_add, g_ckN (by omega) (by omega), g_ckN (by omega) (by omega), g_clN (by omega), g_clN (by omega)]
      exact ⟨_, _, _, rfl, congrArg (fun z => some (z, m3)) (show m3.1 28 (5 + p) = c3.1 48 p from e.symm), hV3⟩
    · have z0 : ¬ nI 4 = (0 : Int32) := by decide
      have z1 : ¬ nI 4 = (1 : Int32) := by decide
      have z2 : ¬ nI 4 = (2 : Int32) := by decide
      have z3 : ¬ nI 4 = (3 : Int32) := by decide
      rw [if_neg z0, if_neg z0, if_neg z1, if_neg z1, if_neg z2, if_neg z2, if_neg z3, if_neg z3, (q_mixed2 hF hT1).trans (r_mixedMany hF hW3 (f := 1) (by omega)), g_bs, x1, g_bs]; exact ⟨_, _, _, rfl, rfl, hV3⟩
  by_cases h3 : nI w = (3 : Int32)
  · rw [if_pos h3, if_pos h3]
    by_cases hm : okI a3 (vl m1 2 0)
    · obtain ⟨p, hp, rfl⟩ := id hm
      rw [q_man1 hG hp, g_bs, if_neg nI10, r_man1 hW hp, g_bs, if_neg nI10]
      exact main (fun _ => hm)
    · rw [q_man0 hG hm, g_bs, if_pos nI00, r_man0 hW hm, g_bs, if_pos nI00]; exact ⟨_, _, _, rfl, rfl, hV⟩
  · rw [if_neg h3, if_neg h3]
    exact main (fun z => absurd z h3)
theorem s_go (hF : 5000 < F) (h : INV c m) (a1 : Int32) : CALL (f10_go F a1 c) (f11_go F a1 m) := by
  refine call_of h (fun T S m1 hV hC hI hTa hFl hA hS hG => ?_)
  have hTS := hG.1
  have hTS0 := hTS
  obtain ⟨hT, ht, hf, hp0, hW, hR, hWS, hRS⟩ := id hTS
  obtain ⟨⟨⟨vP, bP⟩, ⟨vS, bS⟩, ⟨vD, bD⟩, ⟨vN, bN⟩, ⟨vW, bW⟩, ⟨vRoom, bRoom⟩, bRoom1, ⟨vStorm, bStorm⟩, ⟨vSeed, bSeed⟩, ⟨vK, bK⟩⟩, wPence, wSort, wDeed, wSend, wWant, wLaw⟩ := id hW
  obtain ⟨⟨⟨vDay, bDay⟩, ⟨vLast, bLast⟩, ⟨vSends, bSends⟩⟩, sPence, sHL, sPerm1, sPerm2, sSend, sWant, sOwn⟩ := id hWS
  obtain ⟨rCnt, rMan, rSort, rDeed, ⟨rT6, rT8, rT10, rT11, rT12, rT93⟩, rSent, rWanted, rLaw, rCode⟩ := id hR
  obtain ⟨⟨eDay, eLast, eStorms, eSends⟩, ePence, eHL, eSend, eWant⟩ := id hRS
  have e0 := rCnt 0 (by omega)
  have e1 := rCnt 1 (by omega)
  have e2 := rCnt 2 (by omega)
  have gd := fun {α : Type} {k : Nat → Option α} => g_drT (k := k) hp0 hT
  unfold f10_go
  by_cases ha : okI a1 100
  rotate_left
  · rw [q_span0 ha, g_bs, if_pos nI00, r_span0 ha]; exact ⟨_, _, _, rfl, rfl, hV⟩
  obtain ⟨n, hn, rfl⟩ := ha
  have ck0 : ∀ k : Option (Int32 × g_M), g_ck (0 : Int32) 23 k = k := fun k => g_ckN (x := 0) (by omega) (by omega)
  have cl0 : (0 : Int32).toNatClampNeg = 0 := rfl
  rw [q_span1 hn, g_bs, if_neg nI10, r_span1 hn, ck0, cl0, eDay, vDay, nI_add]
  have hd9 := hC.2.2.2.2.1
  by_cases z1 : (9900 : Int32) < nI (vl m1 24 0 + n)
  · rw [if_pos z1, if_pos z1]; exact ⟨_, _, _, rfl, rfl, hV⟩
  rw [if_neg z1, if_neg z1]
  have hdn : vl m1 24 0 + n ≤ 9900 := by
    rcases Nat.lt_or_ge 9900 (vl m1 24 0 + n) with z | z
    · exact absurd ((g_ltN (a := 9900) (by omega) (by omega)).mpr z) z1
    · exact z
  by_cases z2 : (0 : Int32) < nI n
  rotate_left
  · rw [if_neg z2, if_neg z2]
    have hn0 : n = 0 := by
      rcases Nat.lt_or_ge 0 n with z | z
      · exact absurd ((g_ltN (a := 0) (by omega) (by omega)).mpr z) z2
      · omega
    subst hn0
    refine ⟨m1.1 24 0, c, m1, ?_, ?_, hV⟩
    · unfold f10_go_b55; rw [eDay]
    · unfold f11_go_b40 f11_go_b42
      rw [g_fix_p (by omega)]
      unfold f11_go_b42_body
      rw [if_neg (show ¬ (0 : Int32) < nI 0 by decide), ck0, cl0]
  rw [if_pos z2, if_pos z2, g_let_e]
  obtain ⟨c1, k1, k2, k3, k4, k5, k6, k7, k8⟩ := q_start (F := F) hT (show isS 35 by unfold isS; omega) hp0 (0 : Int32)
  obtain ⟨m2, hm2⟩ : ∃ x, x = g_sI m1 0 52 (0 : Int32) := ⟨_, rfl⟩
  have e52 : m2.1 0 52 = nI 0 := by rw [hm2, sI_eq]; rfl
  have em : ∀ o k, ¬ (o = 0 ∧ k = 52) → m2.1 o k = m1.1 o k := fun o k z => by rw [hm2, sI_ne z]
  have em' : ∀ o, 1 ≤ o → m2.1 o = m1.1 o := fun o ho => by funext k; exact em o k (by omega)
  rw [← hm2]
  clear hm2
  have hTl := isT_le hT
  have ko : ∀ o, o ≠ 53 → c1.1 o = c.1 o := fun o ho => by funext k; exact k4 o k (by omega)
  have hT1 : TS c1 m2 T 35 0 := TS_fr hTS0 (k2 35 0 (by omega)) (fun o a b => ko o (by omega)) (fun o k a b => by rw [ko o (by omega)]) (fun o a b => em' o (by omega)) (fun o k a b => by rw [em' o (by omega)])
  have hAB1 : AB c1 m2 noA := AB_fr hA (ko 54 (by omega)) (k4 53 7 (by omega)) (em 0 56 (by omega))
  have hD : DY c1 m2 c1 m2 T 35 0 noA := ⟨hT1, k3, hAB1, fcD.rfl' _ _, fmD.rfl' _ _⟩
  have hSG : SG c1 m2 1 (vl m2 2 5) 0 := SG_of hT1.2.2.2.2.1 (by omega) (by rw [k5, em' 2 (by omega)]; exact rT10) k6 k7 k8 (by rw [em 0 53 (by omega)]; exact hC.2.2.2.2.2.1.1) (by rw [em 0 55 (by omega)]; exact hC.2.2.2.2.2.1.2)
  have vd : vl m2 24 0 = vl m1 24 0 := by unfold vl; rw [em' 24 (by omega)]
  have hday : vl m2 24 0 + n ≤ 10000 := by rw [vd]; omega
  obtain ⟨D, Dd⟩ := d_iter hF hD hSG n hday
  have hp := d_pass hF hD hSG (n := n) (by omega) hday
  have hg : f11_go_b40 F (nI n) m2 = some ((itr (nxM F 0 1) n m2).1 24 0, itr (nxM F 0 1) n m2) := by
    unfold f11_go_b40 f11_go_b42
    refine g_for (fun i => (nI i, itr (nxM F 0 1) i m2)) n (fun i hi sf => ?_) (by omega) (fun sf => ?_)
    · obtain ⟨h1, h2⟩ := d_iter hF hD hSG i (by omega)
      have e := (d_step hF h1 hSG (by omega)).2.1
      simp (disch := omega) only [g_let, g_bs, g_l0, g_l1, g_l2, g_l3, g_l4, g_l5, g_l6, g_l7, g_l8, g_l9, g_l10, g_l11, g_l12, g_l15, g_l20, g_l24, g_l25, g_l30, g_l40, g_l99, g_l100, g_ckN, g_clN, g_ltN, g_leN, g_eqN, pk_mul, nI_add, if_true, if_false, Nat.reduceLT, Nat.reduceLeDiff, Nat.reduceEqDiff, Nat.lt_irrefl, f11_go_b42_body, hi, e]
      rfl
    · unfold f11_go_b42_body
      rw [if_neg (fun z => Nat.lt_irrefl n ((g_ltN (by omega) (by omega)).mp z)), ck0, cl0]
  rw [k1, g_bs, hp, g_bs, hg]
  obtain ⟨c3, hc3⟩ : ∃ x, x = itr (nxC F) n c1 := ⟨_, rfl⟩
  obtain ⟨m3, hm3⟩ : ∃ x, x = itr (nxM F 0 1) n m2 := ⟨_, rfl⟩
  rw [← hc3, ← hm3] at D
  rw [← hm3] at Dd
  rw [← hc3, ← hm3]
  clear hc3 hm3 hp hg
  unfold f3_clear f10_go_b55
  rw [g_let_e, g_bs]
  have y : ∀ o, o ≠ 53 → o ≠ 54 → o ≠ 67 → ¬ (35 ≤ o ∧ o ≤ 40) → (g_sI c3 67 0 (0 : Int32)).1 o = c.1 o := fun o a b d e => by
    funext k
    rw [sI_o d, D.2.2.2.1.2 o k (by omega) b (by omega), ko o a]
  have x : ∀ o k, ¬ inD o k 0 → ¬ (o = 0 ∧ (k = 38 ∨ k = 56 ∨ k = 52)) → m3.1 o k = m1.1 o k := fun o k a b => by rw [D.2.2.2.2.2 o k (by omega) a]; exact em o k (by omega)
  have x' : ∀ o, 1 ≤ o → o ≤ 23 ∨ 36 ≤ o → m3.1 o = m1.1 o := fun o a b => by funext k; exact x o k (fun z => by have := z.1; have := z.2.1; omega) (by omega)
  have hr : ∀ o k, o ≠ 53 → c3.2.2 o k = c.2.2 o k := fun o k ho => by rw [D.2.2.2.1.1]; exact k2 o k (by omega)
  have hT3 : TS (g_sI c3 67 0 (0 : Int32)) m3 T 35 0 := TS_frD D.1 rfl (fun o a b => sI_o (by omega)) (fun o k a b => by rw [sI_o (by omega)]) (fun _ _ _ => rfl) (fun _ _ _ => rfl)
  refine ⟨m3.1 24 0, g_sI c3 67 0 (0 : Int32), m3, ?_, rfl, INV_of (COR_new hC.1 ?_ ?_ hT3 (by rw [Dd, vd]; omega) ?_ sI_eq ?_ ?_) (IMG_fr hI hT (hr 41 0 (by omega)) (fun o ho => y o (by omega) (by omega) (by omega) (by omega)) (by rw [y 0 (by omega) (by omega) (by omega) (by omega)]) (fun o a b => x' o (by omega) (by omega)) (fun o k hk => x o k (inD_ne hk (by omega)) (by have := hk.1; omega)) (x 0 51 n0D (by omega))) (TAPE_fr hTa (by rw [y 0 (by omega) (by omega) (by omega) (by omega)]) (y 1 (by omega) (by omega) (by omega) (by omega)) (x 0 2 n0D (by omega)) (x' 1 (by omega) (by omega))) (FLT_fr hFl (by rw [y 0 (by omega) (by omega) (by omega) (by omega)]) (by rw [y 0 (by omega) (by omega) (by omega) (by omega)]) (x 0 32 n0D (by omega)) (x 0 33 n0D (by omega))) (AB_fr D.2.2.1 (sI_o (by omega)) (by rw [sI_o (by omega)]) rfl) (SEEN_fr hS (fun o a b => y o (by omega) (by omega) (by omega) (by omega)) (x 0 65 n0D (by omega)) (x 0 66 n0D (by omega)) (fun o a b => x' o (by omega) (by omega)))⟩
  · rw [hT3.2.2.2.2.2.2.2.1.1]
  · show c3.2.2 0 2 = some T
    rw [hr 0 2 (by omega)]; exact hC.2.1
  · show c3.2.2 0 3 = some S
    rw [hr 0 3 (by omega)]; exact hC.2.2.1
  · rw [x 0 53 n0D (by omega), x 0 55 n0D (by omega)]; exact hC.2.2.2.2.2.1
  · rw [D.2.2.2.2.2 0 52 (by omega) n0D]; exact e52
  · have := hC.2.2.2.2.2.2.2
    unfold WRD at this ⊢
    rw [y 32 (by omega) (by omega) (by omega) (by omega)]; exact this
end T
