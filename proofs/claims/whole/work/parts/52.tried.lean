/-! tried otherwise -/
section L
variable {F : Nat} {c m c' m' c1 m1 c2 m2 c3 m3 : g_M} {T S t f : Nat}
/-- all parts are their holders' own -/
theorem TS_own (h : TS c m T t f) (hr : c'.2.2 = c.2.2) (hc : ∀ o, o ≠ t + 2 → c'.1 o = c.1 o) (hc1 : ∀ k, k < 25 → c'.1 (t + 2) k = nI (k / 5)) (hm : ∀ o, o ≠ 29 → m'.1 o = m.1 o) (hm1 : ∀ p s, p < 5 → s < 5 → m'.1 29 (25 * f + (5 * p + s)) = nI p) : TS c' m' T t f := by
  obtain ⟨hT, ht, hf, hp0, hW, hR, hWS, hRS⟩ := h
  have hlt := isTS hT ht
  have v : ∀ o k, o ≠ 29 → vl m' o k = vl m o k := fun o k ho => by unfold vl; rw [hm o ho]
  have g : ∀ o k b, o ≠ 29 → rg m o k b → rg m' o k b := fun o k b ho h => by unfold rg vl at h ⊢; rw [hm o ho]; exact h
  have h29 : ∀ i, i < 25 → m'.1 29 (25 * f + i) = nI (i / 5) := fun i hi => by
    have := hm1 (i / 5) (i % 5) (by omega) (by omega)
    rw [show 5 * (i / 5) + i % 5 = i by omega] at this
    exact this
  have v29 : ∀ p s, p < 5 → s < 5 → vl m' 29 (25 * f + (5 * p + s)) = p := fun p s hp hs => vl_of (hm1 p s hp hs) (by omega)
  have bP := hW.1.1.2
  obtain ⟨⟨w1, w2, w3⟩, wP, wHL, wp1, wp2, wSe, wWa, wOw⟩ := hWS
  obtain ⟨e1, e2, e3, e4, e5⟩ := hRS
  refine ⟨hT, ht, hf, by rw [hr]; exact hp0, WT_fr hW (fun o a b => hm o (by omega)), RT_fr hR (fun o a b => hc o (by omega)) (fun o a b => hm o (by omega)), ?_, ?_⟩
  · refine ⟨⟨g _ _ _ (by omega) w1, g _ _ _ (by omega) w2, g _ _ _ (by omega) w3⟩, fun p hp => g _ _ _ (by omega) (wP p (by rw [v _ _ (by omega)] at hp; exact hp)), fun i hi => ⟨rg_of (h29 i hi) (by omega) (by omega), g _ _ _ (by omega) (wHL i hi).2⟩, fun s p hs hp => ?_, fun s p q hs hp hq z => ?_, fun n hn => ?_, fun w hw => g _ _ _ (by omega) (wWa w hw), fun p s hp hs _ => hm1 p s hp hs⟩
    · rw [v 2 0 (by omega)] at hp ⊢
      rw [v29 p s (by omega) hs]; exact hp
    · rw [v 2 0 (by omega)] at hp hq
      rw [v29 p s (by omega) hs, v29 q s (by omega) hs] at z; exact z
    · rw [v 27 f (by omega)] at hn
      have z := wSe n hn
      unfold rg vl at z ⊢
      rw [hm 32 (by omega), hm 33 (by omega), hm 34 (by omega), hm 35 (by omega), hm 2 (by omega)]; exact z
  · refine ⟨?_, fun p hp => ?_, fun i hi => ⟨fun _ => (hc1 i hi).trans (h29 i hi).symm, ?_⟩, fun n hn => ?_, fun w hw => ?_⟩
    · rw [hc t (by omega), hm 24 (by omega), hm 25 (by omega), hm 26 (by omega), hm 27 (by omega)]; exact e1
    · rw [v 2 0 (by omega)] at hp
      rw [hc (t + 1) (by omega), hm 28 (by omega)]; exact e2 p hp
    · rw [hc (t + 3) (by omega), hm 30 (by omega)]; exact (e3 i hi).2
    · rw [v 27 f (by omega)] at hn
      rw [hc (t + 4) (by omega), hm 32 (by omega), hm 33 (by omega), hm 34 (by omega), hm 35 (by omega)]; exact e4 n hn
    · rw [hc (t + 5) (by omega), hm 31 (by omega)]; exact e5 w hw
def inO (f p : Nat) (s : Nat) (m : g_M) : g_M := g_sI m 29 (25 * f + (5 * p + s)) (nI p)
theorem wrO (f p : Nat) (m : g_M) : ∀ n, (itI (inO f p) n m).2.2 = m.2.2 ∧ (∀ o k, ¬ (o = 29 ∧ 25 * f + 5 * p ≤ k ∧ k < 25 * f + 5 * p + n) → (itI (inO f p) n m).1 o k = m.1 o k) ∧ ∀ s, s < n → (itI (inO f p) n m).1 29 (25 * f + (5 * p + s)) = nI p := by
  intro n
  induction n with
  | zero => exact ⟨rfl, fun _ _ _ => rfl, fun s h => absurd h (Nat.not_lt_zero s)⟩
  | succ n ih =>
    obtain ⟨h1, h2, h3⟩ := ih
    refine ⟨h1, fun o k hk => ?_, fun s hs => ?_⟩
    · show (g_sI _ 29 _ _).1 o k = _
      rw [sI_ne (by omega)]; exact h2 o k (by omega)
    · show (g_sI _ 29 _ _).1 29 _ = _
      by_cases e : s = n
      · subst e; rw [sI_eq]
      · rw [sI_ne (by omega)]; exact h3 s (by omega)
def inOO (f S : Nat) (p : Nat) (m : g_M) : g_M := itI (inO f p) S m
theorem wrOO (f S : Nat) (hS : S ≤ 5) (m : g_M) : ∀ n, (itI (inOO f S) n m).2.2 = m.2.2 ∧ (∀ o k, ¬ (o = 29 ∧ 25 * f ≤ k ∧ k < 25 * f + 5 * n) → (itI (inOO f S) n m).1 o k = m.1 o k) ∧ ∀ p s, p < n → s < 5 → (s < S → (itI (inOO f S) n m).1 29 (25 * f + (5 * p + s)) = nI p) ∧ (¬ s < S → (itI (inOO f S) n m).1 29 (25 * f + (5 * p + s)) = m.1 29 (25 * f + (5 * p + s))) := by
  intro n
  induction n with
  | zero => exact ⟨rfl, fun _ _ _ => rfl, fun s _ h => absurd h (Nat.not_lt_zero s)⟩
  | succ n ih =>
    obtain ⟨h1, h2, h3⟩ := ih
    generalize hm1 : itI (inOO f S) n m = m1 at *
    have he : itI (inOO f S) (n + 1) m = itI (inO f n) S m1 := by show inOO f S n (itI (inOO f S) n m) = _; rw [hm1]; rfl
    obtain ⟨k1, k2, k3⟩ := wrO f n m1 S
    rw [he]
    refine ⟨k1.trans h1, fun o k hk => ?_, fun p s hp hs => ?_⟩
    · rw [k2 o k (by omega)]; exact h2 o k (by omega)
    · by_cases e : p = n
      · subst e
        refine ⟨fun z => k3 s z, fun z => ?_⟩
        rw [k2 29 _ (by omega)]; exact h2 29 _ (by omega)
      · rw [k2 29 _ (by omega)]; exact h3 p s (by omega) hs
theorem r_ownsAgain (hF : 5000 < F) (hf : f < 23) {P S : Nat} (hP : P ≤ 5) (hS : S ≤ 5) (h0 : m.1 2 0 = nI P) (h1 : m.1 2 1 = nI S) : f11_ownsAgain F (nI f) m = some (itI (inOO f S) P m) := by
  unfold f11_ownsAgain f11_ownsAgain_b2
  refine g_for (fun i => (nI i, itI (inOO f S) i m)) P (fun i hi sf => ?_) (by omega) (fun sf => ?_)
  · obtain ⟨_, h2, _⟩ := wrOO f S hS m i
    have e2 : (itI (inOO f S) i m).1 2 0 = nI P := by rw [h2 2 0 (by omega)]; exact h0
    have e3 : (itI (inOO f S) i m).1 2 1 = nI S := by rw [h2 2 1 (by omega)]; exact h1
    generalize hm1 : itI (inOO f S) i m = m1 at *
    have he : itI (inOO f S) (i + 1) m = itI (inO f i) S m1 := by show inOO f S i (itI (inOO f S) i m) = _; rw [hm1]; rfl
    have z : f11_ownsAgain_b14 F (nI f) (fun v2 mem => sf (v2, mem)) (nI i) (nI 0) m1 = sf (nI (i + 1), itI (inO f i) S m1) := by
      unfold f11_ownsAgain_b14
      refine g_for (fun s => (nI i, nI s, itI (inO f i) s m1)) S (fun s hs sf2 => ?_) (by omega) (fun sf2 => ?_)
      · have e4 : (itI (inO f i) s m1).1 2 1 = nI S := by rw [(wrO f i m1 s).2.1 2 1 (by omega)]; exact e3
        have ix : (25 * f + 5 * i) + s = 25 * f + (5 * i + s) := by omega
        simp (disch := omega) only [g_let, g_bs, g_l0, g_l1, g_l2, g_l3, g_l4, g_l5, g_l6, g_l7, g_l8, g_l9, g_l10, g_l11, g_l12, g_l15, g_l20, g_l24, g_l25, g_l30, g_l40, g_l99, g_l100, g_ckN, g_clN, g_ltN, g_leN, g_eqN, pk_mul, nI_add, if_true, if_false, Nat.reduceLT, Nat.reduceLeDiff, Nat.reduceEqDiff, Nat.lt_irrefl, f11_ownsAgain_b14_body, hs, e4, ix, itI, inO]
      · have e4 : (itI (inO f i) S m1).1 2 1 = nI S := by rw [(wrO f i m1 S).2.1 2 1 (by omega)]; exact e3
        simp (disch := omega) only [g_let, g_bs, g_l0, g_l1, g_l2, g_l3, g_l4, g_l5, g_l6, g_l7, g_l8, g_l9, g_l10, g_l11, g_l12, g_l15, g_l20, g_l24, g_l25, g_l30, g_l40, g_l99, g_l100, g_ckN, g_clN, g_ltN, g_leN, g_eqN, pk_mul, nI_add, if_true, if_false, Nat.reduceLT, Nat.reduceLeDiff, Nat.reduceEqDiff, Nat.lt_irrefl, f11_ownsAgain_b14_body, e4]
    rw [he]
    simp (disch := omega) only [g_let, g_bs, g_l0, g_l1, g_l2, g_l3, g_l4, g_l5, g_l6, g_l7, g_l8, g_l9, g_l10, g_l11, g_l12, g_l15, g_l20, g_l24, g_l25, g_l30, g_l40, g_l99, g_l100, g_ckN, g_clN, g_ltN, g_leN, g_eqN, pk_mul, nI_add, if_true, if_false, Nat.reduceLT, Nat.reduceLeDiff, Nat.reduceEqDiff, Nat.lt_irrefl, f11_ownsAgain_b2_body, hi, e2, z]
  · have e2 : (itI (inOO f S) P m).1 2 0 = nI P := by rw [(wrOO f S hS m P).2.1 2 0 (by omega)]; exact h0
    simp (disch := omega) only [g_let, g_bs, g_l0, g_l1, g_l2, g_l3, g_l4, g_l5, g_l6, g_l7, g_l8, g_l9, g_l10, g_l11, g_l12, g_l15, g_l20, g_l24, g_l25, g_l30, g_l40, g_l99, g_l100, g_ckN, g_clN, g_ltN, g_leN, g_eqN, pk_mul, nI_add, if_true, if_false, Nat.reduceLT, Nat.reduceLeDiff, Nat.reduceEqDiff, Nat.lt_irrefl, f11_ownsAgain_b2_body, e2]
theorem tb_set (h : TB c m c2 m2 T) (hA : AT c2 T 47) (hr : c3.2.2 = c2.2.2) (hc : ∀ o k, ¬ (o = 53 ∧ (k = 0 ∨ k = 1 ∨ k = 2)) → c3.1 o k = c2.1 o k) (hm : ∀ o k, ¬ (o = 0 ∧ (k = 53 ∨ k = 54 ∨ k = 55)) → m3.1 o k = m2.1 o k) : TB c m c3 m3 T ∧ AT c3 T 47 := by
  obtain ⟨h1, h2, h3, h4, h5⟩ := h
  have hTl := isT_le h1.1
  have co : ∀ o, o ≠ 53 → c3.1 o = c2.1 o := fun o ho => by funext k; exact hc o k (by omega)
  have mo : ∀ o, o ≠ 0 → m3.1 o = m2.1 o := fun o ho => by funext k; exact hm o k (by omega)
  refine ⟨⟨TS_fr h1 (by rw [hr]) (fun o a b => co o (by omega)) (fun o k a b => by rw [co o (by omega)]) (fun o a b => mo o (by omega)) (fun o k a b => by rw [mo o (by omega)]), AB_fr h2 (co 54 (by omega)) (hc 53 7 (by omega)) (hm 0 56 (by omega)), fun o k z => by rw [hc o k (by omega)]; exact h3 o k z, fun o k a b => by rw [hr]; exact h4 o k a b, fun o k a b => by rw [hm o k (by omega)]; exact h5 o k a b⟩, by rw [hr]; exact hA.1, by rw [hr]; exact hA.2⟩
theorem tb_own (h : TB c m c2 m2 T) (hA : AT c2 T 47) (hr : c3.2.2 = c2.2.2) (hc : ∀ o, o ≠ 49 → c3.1 o = c2.1 o) (hc1 : ∀ k, k < 25 → c3.1 49 k = nI (k / 5)) (hm : ∀ o k, ¬ (o = 29 ∧ 25 ≤ k ∧ k < 50) → m3.1 o k = m2.1 o k) (hm1 : ∀ p s, p < 5 → s < 5 → m3.1 29 (25 + (5 * p + s)) = nI p) : TB c m c3 m3 T ∧ AT c3 T 47 := by
  obtain ⟨h1, h2, h3, h4, h5⟩ := h
  have mo : ∀ o, o ≠ 29 → m3.1 o = m2.1 o := fun o ho => by funext k; exact hm o k (by omega)
  refine ⟨⟨TS_own h1 hr hc hc1 mo hm1, AB_fr h2 (hc 54 (by omega)) (by rw [hc 53 (by omega)]) (by rw [mo 0 (by omega)]), fun o k z => by rw [hc o (by omega)]; exact h3 o k z, fun o k a b => by rw [hr]; exact h4 o k a b, fun o k a b => ?_⟩, by rw [hr]; exact hA.1, by rw [hr]; exact hA.2⟩
  have : ¬ (o = 29 ∧ 25 ≤ k ∧ k < 50) := fun z => a ⟨by omega, by omega, by rw [z.1]; show 25 * 1 ≤ k; omega, by rw [z.1]; show k < 25 * 1 + 25; omega⟩
  rw [hm o k this]; exact h5 o k a b
theorem tried_go (hF : 5000 < F) (hV : INV c m) (hC : COR c m T S) {k n room : Nat} {a2 : Int32} (h : TB c m c3 m3 T) (hAt : AT c3 T 47) (h55 : m3.1 0 55 = m.1 0 55) (hday : vl m3 24 1 = vl m 24 0) (hn : n < 100) (hSG : SG c3 (g_sI (g_sI m3 0 53 (nI k)) 0 54 a2) 0 room k) : CALL (f10_tried_b140 F (nI k) a2 (nI n) c3) (f11_tried_b71 F (nI k) a2 (nI n) m3) := by
  obtain ⟨m4, hm4⟩ : ∃ x, x = g_sI (g_sI m3 0 53 (nI k)) 0 54 a2 := ⟨_, rfl⟩
  have e4 : ∀ o j, ¬ (o = 0 ∧ (j = 53 ∨ j = 54)) → m4.1 o j = m3.1 o j := fun o j z => by rw [hm4, sI_ne (by omega), sI_ne (by omega)]
  rw [← hm4] at hSG
  obtain ⟨h4, hAt4⟩ := tb_set (m3 := m4) (c3 := c3) h hAt rfl (fun _ _ _ => rfl) (fun o j z => e4 o j (by omega))
  have hd4 : vl m4 24 1 + n ≤ 10000 := by
    have : vl m4 24 1 = vl m3 24 1 := by unfold vl; rw [e4 24 1 (by omega)]
    rw [this, hday]; have := hC.2.2.2.2.1; omega
  obtain ⟨D, _⟩ := d_iter hF (tb_dy h4 hAt4) hSG n hd4
  have hp := d_pass hF (tb_dy h4 hAt4) hSG (n := n) (by omega) hd4
  have hg := d_goesOn hF (tb_dy h4 hAt4) hSG (n := n) (by omega) hd4
  obtain ⟨c5, hc5⟩ : ∃ x, x = itr (nxC F) n c3 := ⟨_, rfl⟩
  obtain ⟨m5, hm5⟩ : ∃ x, x = itr (nxM F 1 0) n m4 := ⟨_, rfl⟩
  rw [← hc5, ← hm5] at D
  rw [← hc5] at hp
  rw [← hm5] at hg
  obtain ⟨m6, hm6⟩ : ∃ x, x = g_sI (g_sI m5 0 53 (0 : Int32)) 0 54 (-1 : Int32) := ⟨_, rfl⟩
  have e6 : ∀ o j, ¬ (o = 0 ∧ (j = 53 ∨ j = 54)) → m6.1 o j = m5.1 o j := fun o j z => by rw [hm6, sI_ne (by omega), sI_ne (by omega)]
  have e653 : m6.1 0 53 = nI 0 := by rw [hm6, sI_ne (by omega), sI_eq]; rfl
  have hrel : ∀ o j, relM o j → m6.1 o j = m.1 o j := by
    intro o j z
    unfold relM at z
    have hd : ¬ inD o j 1 := by
      intro y
      have y1 := y.1
      have y2 := y.2.1
      rcases z with z | z | z | z
      · omega
      · omega
      · exact z.2.2 y
      · omega
    by_cases x : o = 0 ∧ j = 53
    · obtain ⟨x1, x2⟩ := x
      subst x1; subst x2
      rw [e653]; exact hC.2.2.2.2.2.1.1.symm
    · rw [e6 o j (by omega), D.2.2.2.2.2 o j (by omega) hd, e4 o j (by omega)]
      by_cases y : o = 0 ∧ j = 55
      · obtain ⟨y1, y2⟩ := y
        subst y1; subst y2
        exact h55
      · exact h.2.2.2.2 o j hd (by omega)
  have hT0 := tb_ts hC.2.2.2.1 h4 D.2.2.2.1 hrel
  have hVn := tb_inv hV h4 D.2.2.2.1 hrel (AB_fr D.2.2.1 rfl rfl (e6 0 56 (by omega)))
  have hT1 : TS c5 m6 T 47 1 := TS_fr D.1 rfl (fun _ _ _ => rfl) (fun _ _ _ _ => rfl) (fun o a b => by funext j; exact e6 o j (by omega)) (fun o j a b => e6 o j (by omega))
  have hW3 := hT1.2.2.2.2.1
  unfold f10_tried_b140 f11_tried_b71
  have o1 : f11_outcomes F (1 : Int32) (1 : Int32) m6 = _ := r_outcomes hF hW3 (f := 1) (by omega) (1 : Int32)
  have o0 : f11_outcomes F (0 : Int32) (1 : Int32) m6 = _ := r_outcomes hF hW3 (f := 0) (by omega) (1 : Int32)
  rw [hp, g_bs, q_wantsThatAre hF hT1, g_bs, q_wantsThatAre hF hT0, g_bs, g_let_e, g_let_e, ← hm4, hg, g_bs, g_let_e, g_let_e, ← hm6, o1, g_bs, o0, g_bs]
  exact ⟨_, _, _, rfl, rfl, hVn⟩
theorem s_tried (hF : 5000 < F) (h : INV c m) (a1 a2 a3 : Int32) : CALL (f10_tried F a1 a2 a3 c) (f11_tried F a1 a2 a3 m) := by
  refine call_of h (fun T S m1 hV hC hI hTa hFl hA hS hG => ?_)
  have hW := hG.1.2.2.2.2.1
  have zero : CALL (f10_tried_b31 F a1 a2 a3 (0 : Int32) c) (f11_tried_b36 F a1 a2 a3 (0 : Int32) m1) := by
    unfold f10_tried_b31 f11_tried_b36
    rw [if_pos rfl, if_pos rfl]; exact ⟨_, _, _, rfl, rfl, hV⟩
  have main : ∀ k, k < 6 → a1 = nI k → CALL (f10_tried_b31 F a1 a2 a3 (1 : Int32) c) (f11_tried_b36 F a1 a2 a3 (1 : Int32) m1) := by
    rintro k hk rfl
    unfold f10_tried_b31 f11_tried_b36
    rw [if_neg (by decide), if_neg (by decide)]
    by_cases ha : okI a3 100
    rotate_left
    · rw [q_span0 ha, g_bs, if_pos nI00]
      rcases not_span (n := 99) (by omega) ha with z | ⟨z1, z2⟩
      · rw [if_neg z]; exact ⟨_, _, _, rfl, rfl, hV⟩
      · rw [if_pos z1, if_pos (Int32.not_le.mp (show ¬ a3 ≤ (99 : Int32) from z2))]; exact ⟨_, _, _, rfl, rfl, hV⟩
    obtain ⟨n, hn, rfl⟩ := ha
    obtain ⟨c1, m2, k1, k2, k3, k4, k5⟩ := tb_copy hF hG.1 hA
    have k2' : f11_copies F (1 : Int32) (0 : Int32) m1 = some m2 := k2
    rw [q_span1 hn, g_bs, if_neg nI10, k1, g_bs, if_pos (show (0 : Int32) ≤ nI n from nI_ge0 (by omega)), if_neg (show ¬ (99 : Int32) < nI n from fun z => by have := (g_ltN (a := 99) (by omega) (by omega)).mp z; omega), k2', g_bs]
    have h55 : m2.1 0 55 = m1.1 0 55 := k5 0 55 n0D
    have h55' : m1.1 0 55 = -1 := hC.2.2.2.2.2.1.2
    have hd := vl_1 k4
    obtain ⟨vR, bR⟩ := k3.1.2.2.2.2.1.1.2.2.2.2.2.1
    have mk : ∀ {c3 : g_M} {room k : Nat}, k < 6 → room ≤ 99 → c3.1 53 0 = nI room → ((k = 3 ∧ room = 99) ∨ (k ≠ 3 ∧ room = vl m2 2 5)) → c3.1 53 1 = (if k = 4 then nI 1 else nI 0) → ((k = 2 ∧ c3.1 53 2 = a2) ∨ (k ≠ 2 ∧ c3.1 53 2 = -1)) → c3.1 53 5 = (if k = 1 then nI 2 else nI 1) → SG c3 (g_sI (g_sI m2 0 53 (nI k)) 0 54 a2) 0 room k := by
      intro c3 room k hk hro h0 h3 h1 h2 h5
      refine ⟨by omega, hro, by omega, h0, by rw [sI_ne (by omega), sI_eq], ?_, h1, ?_, ?_⟩
      · rcases h3 with z | ⟨z1, z2⟩
        · exact Or.inl z
        · refine Or.inr (Or.inl ⟨z1, ?_, ?_⟩)
          · rw [sI_ne (by omega), sI_ne (by omega), h55]; exact h55'
          · rw [sI_o (by omega), sI_o (by omega), z2]; exact vR
      · rcases h2 with ⟨z1, z2⟩ | z
        · exact Or.inl ⟨z1, by rw [sI_eq]; exact z2⟩
        · exact Or.inr z
      · rw [h5]
        by_cases z : k = 1
        · rw [if_pos z, if_pos z]
        · rw [if_neg z, if_neg z, if_pos rfl]
    have st := fun a => tb_start (F := F) k3 a
    by_cases z1 : k = 1
    · subst z1
      obtain ⟨c2, j1, j2, j3, j4, j5, j6, j7, j8⟩ := st (2 : Int32)
      rw [if_pos (show nI 1 = (1 : Int32) from rfl), if_neg (show ¬ nI 1 = (5 : Int32) by decide)]
      unfold f10_tried_b76
      rw [j1, g_bs, if_neg (show ¬ nI 1 = (2 : Int32) by decide), if_neg (show ¬ nI 1 = (3 : Int32) by decide), if_neg (show ¬ nI 1 = (4 : Int32) by decide), if_neg (show ¬ nI 1 = (5 : Int32) by decide)]
      exact tried_go hF hV hC j2 j3 h55 hd hn (mk (room := vl m2 2 5) (by omega) (by omega) (j4.trans vR) (by omega) (by rw [j5]; rfl) (Or.inr ⟨by omega, j6⟩) j7)
    rw [if_neg (show ¬ nI k = (1 : Int32) from fun y => z1 ((g_eqN (b := 1) (by omega) (by omega)).mp y))]
    obtain ⟨c2, j1, j2, j3, j4, j5, j6, j7, j8⟩ := st (1 : Int32)
    unfold f10_tried_b76
    rw [j1, g_bs]
    rcases (show k = 0 ∨ k = 2 ∨ k = 3 ∨ k = 4 ∨ k = 5 by omega) with rfl | rfl | rfl | rfl | rfl
    · rw [if_neg (show ¬ nI 0 = (2 : Int32) by decide), if_neg (show ¬ nI 0 = (3 : Int32) by decide), if_neg (show ¬ nI 0 = (4 : Int32) by decide), if_neg (show ¬ nI 0 = (5 : Int32) by decide), if_neg (show ¬ nI 0 = (5 : Int32) by decide)]
      exact tried_go hF hV hC j2 j3 h55 hd hn (mk (room := vl m2 2 5) (by omega) (by omega) (j4.trans vR) (by omega) (by rw [j5]; rfl) (Or.inr ⟨by omega, j6⟩) j7)
    · rw [if_pos (show nI 2 = (2 : Int32) from rfl), if_neg (show ¬ nI 2 = (5 : Int32) by decide), g_let_e]
      obtain ⟨y1, y2⟩ := tb_set (c3 := g_sI c2 53 2 a2) (m3 := m2) j2 j3 rfl (fun o k z => sI_ne (by omega)) (fun _ _ _ => rfl)
      exact tried_go hF hV hC y1 y2 h55 hd hn (mk (room := vl m2 2 5) (by omega) (by omega) (by rw [sI_ne (by omega)]; exact j4.trans vR) (by omega) (by rw [sI_ne (by omega), j5]; rfl) (Or.inl ⟨rfl, sI_eq⟩) (by rw [sI_ne (by omega)]; exact j7))
    · rw [if_neg (show ¬ nI 3 = (2 : Int32) by decide), if_pos (show nI 3 = (3 : Int32) from rfl), if_neg (show ¬ nI 3 = (5 : Int32) by decide), g_let_e]
      obtain ⟨y1, y2⟩ := tb_set (c3 := g_sI c2 53 0 (99 : Int32)) (m3 := m2) j2 j3 rfl (fun o k z => sI_ne (by omega)) (fun _ _ _ => rfl)
      exact tried_go hF hV hC y1 y2 h55 hd hn (mk (room := 99) (by omega) (by omega) sI_eq (Or.inl ⟨rfl, rfl⟩) (by rw [sI_ne (by omega), j5]; rfl) (Or.inr ⟨by omega, by rw [sI_ne (by omega)]; exact j6⟩) (by rw [sI_ne (by omega)]; exact j7))
    · rw [if_neg (show ¬ nI 4 = (2 : Int32) by decide), if_neg (show ¬ nI 4 = (3 : Int32) by decide), if_pos (show nI 4 = (4 : Int32) from rfl), if_neg (show ¬ nI 4 = (5 : Int32) by decide), g_let_e]
      obtain ⟨y1, y2⟩ := tb_set (c3 := g_sI c2 53 1 (1 : Int32)) (m3 := m2) j2 j3 rfl (fun o k z => sI_ne (by omega)) (fun _ _ _ => rfl)
      exact tried_go hF hV hC y1 y2 h55 hd hn (mk (room := vl m2 2 5) (by omega) (by omega) (by rw [sI_ne (by omega)]; exact j4.trans vR) (by omega) (by rw [sI_eq]; rfl) (Or.inr ⟨by omega, by rw [sI_ne (by omega)]; exact j6⟩) (by rw [sI_ne (by omega)]; exact j7))
    · rw [if_neg (show ¬ nI 5 = (2 : Int32) by decide), if_neg (show ¬ nI 5 = (3 : Int32) by decide), if_neg (show ¬ nI 5 = (4 : Int32) by decide), if_pos (show nI 5 = (5 : Int32) from rfl), if_pos (show nI 5 = (5 : Int32) from rfl), q_giveOwn hF, g_bs]
      have hW2 := j2.1.2.2.2.2.1
      have hWS2 := j2.1.2.2.2.2.2.2.1
      have ro : f11_ownsAgain F (1 : Int32) m2 = _ := r_ownsAgain (f := 1) hF (by omega) hW2.1.1.2 hW2.1.2.1.2 hW2.1.1.1 hW2.1.2.1.1
      rw [ro, g_bs]
      obtain ⟨d1, d2, d3⟩ := wrF 49 (fun k => nI (k / 5)) c2 25
      obtain ⟨b1, b2, b3⟩ := wrOO 1 (vl m2 2 1) hW2.1.2.1.2 m2 (vl m2 2 0)
      obtain ⟨c3, hc3⟩ : ∃ x, x = itI (inF 49 (fun k => nI (k / 5))) 25 c2 := ⟨_, rfl⟩
      obtain ⟨m3, hm3⟩ : ∃ x, x = itI (inOO 1 (vl m2 2 1)) (vl m2 2 0) m2 := ⟨_, rfl⟩
      rw [← hc3] at d1 d2 d3
      rw [← hm3] at b1 b2 b3
      rw [show itI (inF (47 + 2) (fun k => nI (k / 5))) 25 c2 = c3 from hc3.symm, ← hm3]
      have bP := hW2.1.1.2
      have e3 : ∀ o k, ¬ (o = 29 ∧ 25 ≤ k ∧ k < 50) → m3.1 o k = m2.1 o k := fun o k z => b2 o k (by omega)
      obtain ⟨y1, y2⟩ := tb_own (c3 := c3) (m3 := m3) j2 j3 d1 (fun o ho => by funext k; exact d2 o k (by omega)) d3 e3 (fun p s hp hs => by
        by_cases zp : p < vl m2 2 0
        · by_cases zs : s < vl m2 2 1
          · exact (b3 p s zp hs).1 zs
          · have := (b3 p s zp hs).2 zs
            have e := hWS2.2.2.2.2.2.2.2 p s hp hs (Or.inr (by omega))
            exact this.trans e
        · have e := hWS2.2.2.2.2.2.2.2 p s hp hs (Or.inl (by omega))
          have : m3.1 29 (25 + (5 * p + s)) = m2.1 29 (25 + (5 * p + s)) := b2 29 _ (by omega)
          exact this.trans e)
      have vm : vl m3 24 1 = vl m2 24 1 := by unfold vl; rw [e3 24 1 (by omega)]
      refine tried_go hF hV hC y1 y2 ((e3 0 55 (by omega)).trans h55) (vm.trans hd) hn (room := vl m2 2 5) ?_
      refine ⟨by omega, by omega, by omega, by rw [d2 53 0 (by omega)]; exact j4.trans vR, by rw [sI_ne (by omega), sI_eq], Or.inr (Or.inl ⟨by omega, ?_, ?_⟩), by rw [d2 53 1 (by omega), j5]; rfl, Or.inr ⟨by omega, by rw [d2 53 2 (by omega)]; exact j6⟩, by rw [d2 53 5 (by omega)]; exact j7⟩
      · rw [sI_ne (by omega), sI_ne (by omega), e3 0 55 (by omega), h55]; exact h55'
      · rw [sI_o (by omega), sI_o (by omega), e3 2 5 (by omega)]; exact vR
  unfold f10_tried f10_tried_b30 f11_tried_b35
  by_cases h2 : a1 = (2 : Int32)
  · rw [if_pos h2, if_pos h2]
    by_cases hm : okI a2 (vl m1 2 0)
    · obtain ⟨p, hp, hpe⟩ := hm
      rw [hpe, q_man1 hG hp, g_bs, r_man1 hW hp, g_bs, ← hpe]
      exact main 2 (by omega) h2
    · rw [q_man0 hG hm, g_bs, r_man0 hW hm, g_bs]
      exact zero
  · rw [if_neg h2, if_neg h2]
    by_cases hk : okI a1 6
    · obtain ⟨k, hk, hke⟩ := hk
      have x1 : (0 : Int32) ≤ a1 := by rw [hke]; exact nI_ge0 (by omega)
      have x2 : a1 ≤ (5 : Int32) := by rw [hke]; exact (g_leN (b := 5) (by omega) (by omega)).mpr (by omega)
      rw [if_pos x1, if_pos x1, if_pos x2, if_pos x2]
      by_cases z : a2 = (0 : Int32)
      · rw [if_pos z, if_pos z]; exact main k hk hke
      · rw [if_neg z, if_neg z]; exact zero
    · rcases not_span (n := 5) (by omega) hk with z | ⟨z1, z2⟩
      · rw [if_neg z, if_neg z]; exact zero
      · rw [if_pos z1, if_pos z1, if_neg (show ¬ a1 ≤ (5 : Int32) from z2), if_neg (show ¬ a1 ≤ (5 : Int32) from z2)]; exact zero
end L
