/-! reading: names told ahead, names told now -/
section L
variable {F : Nat} {c m c' m' c1 m1 : g_M} {n p q S f : Nat}
theorem fi_eq (x y : Int32) : f5_failIf F x y c = if x = 0 then some c else f5_fail F y c := by
  unfold f5_failIf
  cases f5_fail F y c <;> rfl
/-- one told ahead -/
theorem rd_old (hF : 5000 < F) (h : NC c m n p q) (hS : SD c S) {k a x : Nat} (hk : k < 3) (ha : (yM.1 a).2 = 10) (hx : x ≤ 5) (hcx : c.1 (S + 1) k = nI x) (hnm : ∀ i, i < x → c.1 (S + 2) (5 * k + i) = m.1 a (5 + i)) : (∃ i c' m' p' q', i < x ∧ f5_oldOne F (nI k) c = some (nI i, c') ∧ f11_toldAhead F a (5 : Int32) (nI x) m = some (nI i, m') ∧ NC c' m' n p' q' ∧ q < q' ∧ LXC c c' ∧ LXM m m') ∨ (∃ v c' m', f5_oldOne F (nI k) c = some (v, c') ∧ f11_toldAhead F a (5 : Int32) (nI x) m = some (nI 0, m') ∧ FO c' m' n ∧ LXC' c c' ∧ LXM' m m') := by
  obtain ⟨hT, hc, hm⟩ := id h
  have gd := fun {α : Type} {K : Nat → Option α} => g_drT (k := K) hS.2.1 hS.1
  have bad1 : ¬ c.1 31 0 = 2 → ¬ m.1 0 28 = 1 → ∃ v c' m', f5_oldOne F (nI k) c = some (v, c') ∧ f11_toldAhead F a (5 : Int32) (nI x) m = some (nI 0, m') ∧ FO c' m' n ∧ LXC' c c' ∧ LXM' m m' := by
    intro z1 z2
    obtain ⟨c1, c', m', g, e1, e2, e3, e4, e5, e6, e7, e8, e9, e10⟩ := fo_step (F := F) hF h hS (f := 1) (by omega) (by omega)
    have e1' : f5_fail F (1 : Int32) c = some c1 := e1
    have e4' : f11_wrong F (1 : Int32) m = some m' := e4
    have hxx := fun u v => x_failIf (F := F) e2 u v
    obtain ⟨r, hr⟩ := x_find (F := F) hF e2 hk (c1.1 31 2)
    refine ⟨r, c', m', ?_, ?_, e5, e6, e7⟩
    · unfold f5_oldOne
      rw [if_neg z1]
      unfold f5_oldOne_b17 f5_oldOne_b48
      rw [fi_eq, if_neg (by decide), e1', g_bs]
      simp only [hxx, g_bs, g_drT e2.2.2.2.2.2.1 e2.2.2.2.2.1, hr, e3, ite_self]
    · unfold f11_toldAhead
      rw [hm, if_pos nI00, if_neg z2, e4', g_bs]
      unfold f11_toldAhead_b22 f11_toldAhead_b43 f11_toldAhead_b63 f11_goOn
      rw [if_neg e9, if_neg e9, if_neg e9, g_bs, if_neg e9]
      rfl
  rcases hT.2.1 with ⟨k1, k2⟩ | ⟨k1, k2, _⟩ | ⟨k1, k2, k3⟩ | ⟨k1, k2, _⟩ | ⟨k1, k2, _⟩ | ⟨k1, k2⟩
  · exact Or.inr (bad1 (by rw [k1]; decide) (by rw [k2]; decide))
  · exact Or.inr (bad1 (by rw [k1]; decide) (by rw [k2]; decide))
  · have fc := q_find' (F := F) (S := S) hF hk hx hcx (c.1 31 2)
    have fm : f11_found F a (5 : Int32) (nI x) (m.1 0 29) m = _ := r_found (F := F) (m := m) hF (a := a) (o := 5) (n := x) ha (by omega) (by omega) (m.1 0 29)
    have ee : fstP (fun i => decide (m.1 a (5 + i) = m.1 0 29)) x = fstP (fun i => decide (c.1 (S + 2) (5 * k + i) = c.1 31 2)) x := fstP_congr (fun i hi => by rw [hnm i hi, k3])
    rw [ee] at fm
    have hle := fstP_le (fun i => decide (c.1 (S + 2) (5 * k + i) = c.1 31 2)) x
    generalize fstP (fun i => decide (c.1 (S + 2) (5 * k + i) = c.1 31 2)) x = J at *
    by_cases z : J < x
    · rw [if_pos z] at fc fm
      left
      obtain ⟨c', m', p', q', e1, e2, e3, e4, e5, e6⟩ := NC_lex h hF
      have hq : q < p := hT.2.2.2.2.2 (by rw [k1]; decide)
      refine ⟨J, c', m', p', q', z, ?_, ?_, e3, by omega, e5, e6⟩
      · unfold f5_oldOne
        rw [if_pos k1]
        unfold f5_oldOne_b17 f5_oldOne_b48
        rw [fi_eq, if_pos rfl, g_bs, gd, fc, g_bs, if_neg (nI_m1 (by omega)), fi_eq, if_pos rfl, g_bs, e1, g_bs]
      · unfold f11_toldAhead
        rw [hm, if_pos nI00, if_pos k2]
        unfold f11_toldAhead_b22 f11_toldAhead_b43 f11_toldAhead_b63 f11_goOn
        rw [hm, if_pos nI00, fm, g_bs, if_pos nI00, if_neg (nI_m1 (by omega)), if_pos nI00, e2, g_bs, g_bs, e3.2.2, if_pos nI00]
    · rw [if_neg z] at fc fm
      right
      obtain ⟨c1, c', m', g, e1, e2, e3, e4, e5, e6, e7, e8, e9, e10⟩ := fo_step (F := F) hF h hS (f := 4) (by omega) (by omega)
      have e1' : f5_fail F (4 : Int32) c = some c1 := e1
      have e4' : f11_wrong F (4 : Int32) m = some m' := e4
      refine ⟨-1, c', m', ?_, ?_, e5, e6, e7⟩
      · unfold f5_oldOne
        rw [if_pos k1]
        unfold f5_oldOne_b17 f5_oldOne_b48
        rw [fi_eq, if_pos rfl, g_bs, gd, fc, g_bs, if_pos rfl, fi_eq, if_neg (by decide), e1', g_bs, e3, g_bs]
      · unfold f11_toldAhead
        rw [hm, if_pos nI00, if_pos k2]
        unfold f11_toldAhead_b22 f11_toldAhead_b43 f11_toldAhead_b63 f11_goOn
        rw [hm, if_pos nI00, fm, g_bs, if_pos nI00, if_pos rfl, e4', g_bs, if_neg e9, g_bs, if_neg e9]
        rfl
  · exact Or.inr (bad1 (by rw [k1]; decide) (by rw [k2]; decide))
  · exact Or.inr (bad1 (by rw [k1]; decide) (by rw [k2]; decide))
  · exact Or.inr (bad1 (by rw [k1]; decide) (by rw [k2]; decide))
/-- one told now: the class behind a fault -/
theorem x_b122 (hF : 5000 < F) (h : CX c m n S f) (a1 a2 v3 : Int32) : ∃ c', f5_newOne_b122 F a1 a2 v3 c = some (v3, c') ∧ CX c' m n S f ∧ LXC c c' := by
  obtain ⟨c', e1, e2, e3⟩ := x_step (F := F) hF h
  exact ⟨c', by unfold f5_newOne_b122; rw [e1, g_bs], e2, e3⟩
theorem x_b49 (hF : 5000 < F) (h : CX c m n S f) {k : Nat} (hk : k < 3) (a2 v3 w1 : Int32) : ∃ c', f5_newOne_b49 F (nI k) a2 v3 w1 c = some (v3, c') ∧ CX c' m n S f ∧ LXC c c' := by
  obtain ⟨c', e1, e2, e3⟩ := x_b122 (F := F) hF h (nI k) a2 v3
  obtain ⟨r, hr⟩ := x_find (F := F) hF h hk (c.1 31 2)
  have hxx := fun u v => x_failIf (F := F) h u v
  refine ⟨c', ?_, e2, e3⟩
  unfold f5_newOne_b49 f5_newOne_b78
  simp only [hxx, g_bs, g_drT h.2.2.2.2.2.1 h.2.2.2.2.1, hr, h.1, if_neg (nz h.2.1 h.2.2.1), e1, ite_self]
theorem LXC.tr {a b d : g_M} (h : LXC a b) (h' : LXC b d) : LXC a d := ⟨h'.1.trans h.1, fun o k z => (h'.2 o k z).trans (h.2 o k z)⟩
theorem LXM.tr {a b d : g_M} (h : LXM a b) (h' : LXM b d) : LXM a d := ⟨h'.1.trans h.1, fun o k z => (h'.2 o k z).trans (h.2 o k z)⟩
theorem x_b21 (hF : 5000 < F) (h : CX c m n S f) {k : Nat} (hk : k < 3) (a2 v3 w1 : Int32) : ∃ c', f5_newOne_b21 F (nI k) a2 v3 w1 c = some (v3, c') ∧ CX c' m n S f ∧ LXC c c' := by
  obtain ⟨c1, e1, e2, e3⟩ := x_step (F := F) hF h
  have hxx := fun u v => x_failIf (F := F) h u v
  obtain ⟨c2, g1, g2, g3⟩ := x_b49 (F := F) hF e2 hk a2 v3 (0 : Int32)
  obtain ⟨c3, i1, i2, i3⟩ := x_b49 (F := F) hF e2 hk a2 v3 (1 : Int32)
  by_cases z : c1.1 31 0 = (2 : Int32)
  · exact ⟨c2, by unfold f5_newOne_b21; rw [hxx, g_bs, e1, g_bs, if_pos z, g1], g2, e3.tr g3⟩
  · exact ⟨c3, by unfold f5_newOne_b21; rw [hxx, g_bs, e1, g_bs, if_neg z, i1], i2, e3.tr i3⟩
/-- one told now, at its name -/
theorem rd_fresh (hF : 5000 < F) (h : NC c m n p q) (hS : SD c S) {k a x : Nat} (hk : k < 3) (ha : (yM.1 a).2 = 10) (hx : x < 5) (hcx : c.1 (S + 1) k = nI x) (hnm : ∀ i, i < x → c.1 (S + 2) (5 * k + i) = m.1 a (5 + i)) (a2 : Int32) : (∃ v c' m' p' q', (if c.1 31 0 = (2 : Int32) then f5_newOne_b49 F (nI k) a2 (nI x) (0 : Int32) c else f5_newOne_b49 F (nI k) a2 (nI x) (1 : Int32) c) = some (nI x, c') ∧ f11_fresh F a (5 : Int32) (nI x) m = some (v, m') ∧ NC c' m' n p' q' ∧ q < q' ∧ c'.2 = c.2 ∧ (∀ o j, ¬ (o = 31 ∧ (j = 0 ∨ j = 1 ∨ j = 2 ∨ j = 5)) → ¬ (o = S + 2 ∧ j = 5 * k + x) → ¬ (o = S + 1 ∧ j = k) → c'.1 o j = c.1 o j) ∧ c'.1 (S + 2) (5 * k + x) = v ∧ c'.1 (S + 1) k = nI (x + 1) ∧ LXM m m') ∨ (∃ v c' m', (if c.1 31 0 = (2 : Int32) then f5_newOne_b49 F (nI k) a2 (nI x) (0 : Int32) c else f5_newOne_b49 F (nI k) a2 (nI x) (1 : Int32) c) = some (nI x, c') ∧ f11_fresh F a (5 : Int32) (nI x) m = some (v, m') ∧ FO c' m' n ∧ LXC' c c' ∧ LXM' m m') := by
  obtain ⟨hT, hc, hm⟩ := id h
  have hSl := isT_le hS.1
  have gd := fun {α : Type} {K : Nat → Option α} => g_drT (k := K) hS.2.1 hS.1
  have flt : ∀ w fn, 1 ≤ fn → fn ≤ 4 → ¬ w = (0 : Int32) → (∀ c1, f5_fail F (nI fn) c = some c1 → (if c.1 31 0 = (2 : Int32) then f5_newOne_b49 F (nI k) a2 (nI x) (0 : Int32) c else f5_newOne_b49 F (nI k) a2 (nI x) (1 : Int32) c) = f5_newOne_b49 F (nI k) a2 (nI x) w c1) → (∀ m', f11_wrong F (nI fn) m = some m' → f11_fresh F a (5 : Int32) (nI x) m = f11_fresh_b44 F a (5 : Int32) (nI x) m') → ∃ v c' m', (if c.1 31 0 = (2 : Int32) then f5_newOne_b49 F (nI k) a2 (nI x) (0 : Int32) c else f5_newOne_b49 F (nI k) a2 (nI x) (1 : Int32) c) = some (nI x, c') ∧ f11_fresh F a (5 : Int32) (nI x) m = some (v, m') ∧ FO c' m' n ∧ LXC' c c' ∧ LXM' m m' := by
    intro w fn f1 f2 hw hC hM
    obtain ⟨c1, m', e1, e2, e3, e4, e5, e6, e7⟩ := fo_of (F := F) h f1 f2
    obtain ⟨g, hCX⟩ := FO_CX e3 hS.1 (by rw [e4.1]; exact hS.2.1) (fun k hk => by rw [e6 (S + 1) k (by omega)]; exact hS.2.2 k hk)
    obtain ⟨c', s1, s2, s3⟩ := x_b49 (F := F) hF hCX hk a2 (nI x) w
    have e9 : ¬ m'.1 0 30 = (0 : Int32) := by
      obtain ⟨f', q', g1, g2, g3, g4, g5, _⟩ := id e3
      rw [g5]; exact nz g1 g2
    refine ⟨0, c', m', by rw [hC c1 e1]; exact s1, ?_, FO_lex e3 s2.2.2.2.1 s3, e4.tr s3.w, e5⟩
    rw [hM m' e2]
    unfold f11_fresh_b44
    rw [if_neg e9]
  have idem : ∀ c1 fn, 1 ≤ fn → fn ≤ 4 → f5_fail F (nI fn) c = some c1 → (∀ u v, f5_failIf F u v c1 = some c1) ∧ (c1.1 31 2 = c.1 31 2 ∧ c1.2 = c.2 ∧ ∀ o j, ¬ (o = 30 ∧ (j = 0 ∨ j = 1)) → c1.1 o j = c.1 o j) := by
    intro c1 fn f1 f2 e
    obtain ⟨c1', m', e1, e2, e3, e4, e5, e6, e7⟩ := fo_of (F := F) h f1 f2
    rw [e1] at e; cases e
    obtain ⟨g, hCX⟩ := FO_CX e3 hS.1 (by rw [e4.1]; exact hS.2.1) (fun k hk => by rw [e6 (S + 1) k (by omega)]; exact hS.2.2 k hk)
    exact ⟨fun u v => x_failIf hCX u v, e6 31 2 (by omega), e4.1, e6⟩
  have bad1 : ¬ c.1 31 0 = 2 → ¬ m.1 0 28 = 1 → _ := fun z1 z2 => flt (1 : Int32) 1 (by omega) (by omega) (by decide) (fun c1 e => by
    obtain ⟨i1, i2, i3, i4⟩ := idem c1 1 (by omega) (by omega) e
    rw [if_neg z1]
    unfold f5_newOne_b49
    rw [fi_eq, if_neg (by decide), show f5_fail F (1 : Int32) c = some c1 from e, i1]) (fun m' e => by
    unfold f11_fresh
    rw [hm, if_pos nI00, if_neg z2, show f11_wrong F (1 : Int32) m = some m' from e, g_bs])
  rcases hT.2.1 with ⟨k1, k2⟩ | ⟨k1, k2, _⟩ | ⟨k1, k2, k3⟩ | ⟨k1, k2, _⟩ | ⟨k1, k2, _⟩ | ⟨k1, k2⟩
  · exact Or.inr (bad1 (by rw [k1]; decide) (by rw [k2]; decide))
  · exact Or.inr (bad1 (by rw [k1]; decide) (by rw [k2]; decide))
  · have fc := q_find' (F := F) (S := S) hF hk (by omega) hcx (c.1 31 2)
    have fm : f11_found F a (5 : Int32) (nI x) (m.1 0 29) m = _ := r_found (F := F) (m := m) hF (a := a) (o := 5) (n := x) ha (by omega) (by omega) (m.1 0 29)
    have ee : fstP (fun i => decide (m.1 a (5 + i) = m.1 0 29)) x = fstP (fun i => decide (c.1 (S + 2) (5 * k + i) = c.1 31 2)) x := fstP_congr (fun i hi => by rw [hnm i hi, k3])
    rw [ee] at fm
    have hle := fstP_le (fun i => decide (c.1 (S + 2) (5 * k + i) = c.1 31 2)) x
    generalize fstP (fun i => decide (c.1 (S + 2) (5 * k + i) = c.1 31 2)) x = J at *
    by_cases z : J < x
    · rw [if_pos z] at fc fm
      right
      have hb49 : (if c.1 31 0 = (2 : Int32) then f5_newOne_b49 F (nI k) a2 (nI x) (0 : Int32) c else f5_newOne_b49 F (nI k) a2 (nI x) (1 : Int32) c) = f5_newOne_b78 F (nI k) a2 (nI x) (1 : Int32) c := by
        rw [if_pos k1]
        unfold f5_newOne_b49
        rw [fi_eq, if_pos rfl, g_bs, gd, fc, g_bs, if_neg (nI_m1 (by omega))]
      obtain ⟨c1, m', e1, e2, e3, e4, e5, e6, e7⟩ := fo_of (F := F) h (f := 3) (by omega) (by omega)
      obtain ⟨g, hCX⟩ := FO_CX e3 hS.1 (by rw [e4.1]; exact hS.2.1) (fun k hk => by rw [e6 (S + 1) k (by omega)]; exact hS.2.2 k hk)
      obtain ⟨c', s1, s2, s3⟩ := x_b122 (F := F) hF hCX (nI k) a2 (nI x)
      have e9 : ¬ m'.1 0 30 = (0 : Int32) := by
        obtain ⟨f', q', g1, g2, g3, g4, g5, _⟩ := id e3
        rw [g5]; exact nz g1 g2
      refine ⟨0, c', m', ?_, ?_, FO_lex e3 s2.2.2.2.1 s3, e4.tr s3.w, e5⟩
      · rw [hb49]
        unfold f5_newOne_b78
        rw [fi_eq, if_neg (by decide), show f5_fail F (3 : Int32) c = some c1 from e1, g_bs, hCX.1, if_neg (nz hCX.2.1 hCX.2.2.1), s1]
      · unfold f11_fresh f11_fresh_b44
        rw [hm, if_pos nI00, if_pos k2, fm, g_bs, if_neg (nI_m1 (by omega)), show f11_wrong F (3 : Int32) m = some m' from e2, g_bs, if_neg e9]
    · rw [if_neg z] at fc fm
      left
      obtain ⟨d, hd⟩ : ∃ d, d = g_sI (g_sI c (S + 2) (5 * k + x) (c.1 31 2)) (S + 1) k (nI (x + 1)) := ⟨_, rfl⟩
      have dn : ∀ o j, ¬ (o = S + 2 ∧ j = 5 * k + x) → ¬ (o = S + 1 ∧ j = k) → d.1 o j = c.1 o j := fun o j y1 y2 => by rw [hd, sI_ne y2, sI_ne y1]
      have hNd : NC d m n p q := by
        obtain ⟨⟨hB, t2, t3, t4, t5, t6, t7⟩, u2, u3, u4, u5, u6⟩ := hT
        have d31 : d.1 31 = c.1 31 := by funext j; exact dn 31 j (by omega) (by omega)
        have d1 : d.1 1 = c.1 1 := by funext j; exact dn 1 j (by omega) (by omega)
        have d32 : d.1 32 = c.1 32 := by funext j; exact dn 32 j (by omega) (by omega)
        refine ⟨⟨⟨⟨hB.1, fun i hi => by rw [d1]; exact hB.2 i hi⟩, t2, by rw [d31]; exact t3, t4, by rw [d31]; exact t5, t6, by unfold WRD at t7 ⊢; rw [d32]; exact t7⟩, by unfold TKN at u2 ⊢; rw [d31]; exact u2, by rw [d31]; exact u3, u4, u5, by rw [d31]; exact u6⟩, by rw [dn 30 0 (by omega) (by omega)]; exact hc, hm⟩
      obtain ⟨c', m', p', q', e1, e2, e3, e4, e5, e6⟩ := NC_lex hNd hF
      have hq : q < p := hT.2.2.2.2.2 (by rw [k1]; decide)
      refine ⟨m.1 0 29, c', m', p', q', ?_, ?_, e3, by omega, by rw [e5.1, hd]; rfl, fun o j y1 y2 y3 => by rw [e5.2 o j y1]; exact dn o j y2 y3, ?_, ?_, e6⟩
      · rw [if_pos k1]
        unfold f5_newOne_b49 f5_newOne_b78 f5_newOne_b122
        rw [fi_eq, if_pos rfl, g_bs, gd, fc, g_bs, if_pos rfl, fi_eq, if_pos rfl, g_bs, hc, if_pos nI00, gd, g_l5, pk_mul, nI_add, Nat.mul_comm k 5, g_ckN (by omega) (by omega), g_clN (by omega), g_let_e, g_drT (show (g_sI c (S + 2) (5 * k + x) (c.1 31 2)).2.2 30 5 = some S from hS.2.1) hS.1, g_ckN (by omega) (by omega), g_ckN (by omega) (by omega), g_clN (by omega), g_let_e, sI_o (by omega), hcx, nI_s, ← hd, e1, g_bs]
      · unfold f11_fresh f11_fresh_b44
        rw [hm, if_pos nI00, if_pos k2, fm, g_bs, if_pos rfl, if_pos nI00, g_let_e, e2, g_bs]
      · rw [e5.2 (S + 2) _ (by omega), hd, sI_ne (by omega), sI_eq]; exact k3
      · rw [e5.2 (S + 1) k (by omega), hd, sI_eq]
  · exact Or.inr (bad1 (by rw [k1]; decide) (by rw [k2]; decide))
  · exact Or.inr (bad1 (by rw [k1]; decide) (by rw [k2]; decide))
  · exact Or.inr (bad1 (by rw [k1]; decide) (by rw [k2]; decide))
end L
