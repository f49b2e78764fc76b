/-! the formula: leaves, brackets, what is wrong -/
section L
variable {F : Nat} {c m c' m' c1 m1 c2 m2 : g_M} {n p q S r : Nat}
theorem no_op (h : NC c m n p q) (hno : ∀ op, ¬ OPT c m op) : f1_operatorHere F c = some (-1 : Int32) := by
  unfold f1_operatorHere f1_operatorHere_b31 f8_isWord
  have oth : ¬ c.1 31 0 = (4 : Int32) → ¬ c.1 31 0 = (3 : Int32) → (if c.1 31 0 = (4 : Int32) then (if c.1 31 2 ≤ (9 : Int32) then some (c.1 31 2) else (if c.1 31 0 = (3 : Int32) then (if c.1 31 2 = (13 : Int32) then some (1 : Int32) else some (0 : Int32)) else some (0 : Int32)).bind (fun r1 => if r1 = (0 : Int32) then ((if c.1 31 0 = (3 : Int32) then (if c.1 31 2 = (12 : Int32) then some (1 : Int32) else some (0 : Int32)) else some (0 : Int32)).bind (fun r3 => if r3 = (0 : Int32) then some (-1 : Int32) else some (11 : Int32))) else some (10 : Int32))) else (if c.1 31 0 = (3 : Int32) then (if c.1 31 2 = (13 : Int32) then some (1 : Int32) else some (0 : Int32)) else some (0 : Int32)).bind (fun r1 => if r1 = (0 : Int32) then ((if c.1 31 0 = (3 : Int32) then (if c.1 31 2 = (12 : Int32) then some (1 : Int32) else some (0 : Int32)) else some (0 : Int32)).bind (fun r3 => if r3 = (0 : Int32) then some (-1 : Int32) else some (11 : Int32))) else some (10 : Int32))) = some (-1 : Int32) := fun z1 z2 => by
    rw [if_neg z1, if_neg z2, g_bs, if_pos rfl, if_neg z2, g_bs, if_pos rfl]
  rcases h.1.2.1 with ⟨k1, k2⟩ | ⟨k1, k2, _⟩ | ⟨k1, k2, _⟩ | ⟨k1, k2, x, x1, k4, k5⟩ | ⟨k1, k2, k3⟩ | ⟨k1, k2⟩
  · exact oth (by rw [k1]; decide) (by rw [k1]; decide)
  · exact oth (by rw [k1]; decide) (by rw [k1]; decide)
  · exact oth (by rw [k1]; decide) (by rw [k1]; decide)
  · have n13' : ¬ c.1 31 2 = (13 : Int32) := fun z => by
      have e : x = 13 := (g_eqN (b := 13) (by omega) (by omega)).mp (k4.symm.trans z)
      subst e
      exact hno 10 (opt_10 h k2 k5)
    have n12' : ¬ c.1 31 2 = (12 : Int32) := fun z => by
      have e : x = 12 := (g_eqN (b := 12) (by omega) (by omega)).mp (k4.symm.trans z)
      subst e
      exact hno 11 (opt_11 h k2 k5)
    rw [if_neg (show ¬ c.1 31 0 = (4 : Int32) by rw [k1]; decide), if_pos k1, if_neg n13', g_bs, if_pos rfl, if_pos k1, if_neg n12', g_bs, if_pos rfl]
  · have big : ¬ c.1 31 2 ≤ (9 : Int32) := by
      have hb : ∀ op, op ≤ 9 → m.1 0 29 ≠ opM op := fun op ho z => hno op (opt_s h ho k2 z)
      rcases k3 with ⟨h1, h2⟩ | ⟨h1, h2⟩ | ⟨h1, h2⟩ | ⟨h1, h2⟩ | ⟨h1, h2⟩ | ⟨h1, h2⟩ | ⟨h1, h2⟩ | ⟨h1, h2⟩ | ⟨h1, h2⟩ | ⟨h1, h2⟩ | ⟨h1, h2⟩ | ⟨h1, h2⟩ | ⟨h1, h2⟩
      · exact absurd h2 (hb 0 (by omega))
      · exact absurd h2 (hb 1 (by omega))
      · exact absurd h2 (hb 2 (by omega))
      · exact absurd h2 (hb 3 (by omega))
      · exact absurd h2 (hb 4 (by omega))
      · exact absurd h2 (hb 5 (by omega))
      · exact absurd h2 (hb 6 (by omega))
      · exact absurd h2 (hb 7 (by omega))
      · exact absurd h2 (hb 8 (by omega))
      · exact absurd h2 (hb 9 (by omega))
      · rw [h1]; decide
      · rw [h1]; decide
      · rw [h1]; decide
    have z2 : ¬ c.1 31 0 = (3 : Int32) := by rw [k1]; decide
    rw [if_pos k1, if_neg big, if_neg z2, g_bs, if_pos rfl, if_neg z2, g_bs, if_pos rfl]
  · exact oth (by rw [k1]; decide) (by rw [k1]; decide)
/-- nothing goes on here, in the class -/
theorem q_bad (hF : 5000 < F) (hS : isT S) (h : NC c m n p q) {P Q : List Nat} {w k : Nat} (hp : PR c m S P Q 0 w k) (hTE : TE 1 c m P) : ∃ c1, f1_takeOperator F c = some ((1 : Int32), c1) ∧ c1.2 = c.2 ∧ ∀ o j, ¬ (o = 33 ∧ 1 ≤ j ∧ j ≤ 4) → ¬ (o = S + 10 ∧ w ≤ j) → c1.1 o j = c.1 o j := by
  by_cases z : ∃ op, OPT c m op
  · obtain ⟨op, ho⟩ := z
    have hlt := OPT_lt ho
    have hr1 := (rk_inv ⟨op, hlt⟩).2.2.2.2.2.2
    rcases hTE op ho with y | ⟨y, A, x, B, hP, hA, hx⟩
    · have : 1 ≤ rk op := hr1
      omega
    obtain ⟨a1, a2, a3, a4, a5, a6, a7, a8, a9, a10, a11, a12, a13, a14⟩ := id hp
    have hlen : P.length = A.length + (B.length + 1) := by rw [hP]; simp
    have hst : STK c (A ++ (x :: (B ++ Q))) := by
      have e : A ++ (x :: (B ++ Q)) = P ++ Q := by rw [hP]; simp
      rw [e]; exact a2
    obtain ⟨c8, e1, e2, e3, e4, e5, e6⟩ := q_ww (F := F) hF hS (r := 5) (by omega) (by omega) hst a10 (by omega) hA (fun x' l z => by
      have : x = x' := (List.cons.inj z).1
      rw [← this, hx]; omega) a1
    refine ⟨c8, ?_, e5, fun o j y1 y2 => e6 o j (by omega) y2⟩
    obtain ⟨s1, s2, s3⟩ := e2
    obtain ⟨u1, u2, u3⟩ := s3
    have hl : (x :: (B ++ Q)).length = (B ++ Q).length + 1 := rfl
    rw [hl] at s1 s2
    have e1' : nI ((B ++ Q).length + 1) - (1 : Int32) = nI (B ++ Q).length := by show nI ((B ++ Q).length + 1) - nI 1 = _; rw [g_subN (by omega)]; rfl
    unfold f1_takeOperator
    rw [q_opH ho, g_bs, if_neg (nI_m1 (by omega)), q_rank (by omega), g_bs, y, if_pos (show nI 4 = (4 : Int32) from rfl), nI_s, e1, g_bs, s1, if_pos (show (0 : Int32) < nI ((B ++ Q).length + 1) from (g_ltN (a := 0) (by omega) (by omega)).mpr (by omega)), e1', g_ckN (by omega) (by omega), g_clN (by omega), u1, q_rank u2, g_bs, hx, if_pos rfl]
  · refine ⟨c, ?_, rfl, fun _ _ _ _ => rfl⟩
    unfold f1_takeOperator
    rw [no_op h (fun op ho => z ⟨op, ho⟩), g_bs, if_pos rfl]
/-- a leaf, in both -/
theorem b_leaf (hF : 5000 < F) (hS : isT S) (h : NC c m n p q) {Q : List Nat} {w k v x : Nat} {a : Int32} (hp : PR c m S [] Q 1 w k) (hv : v + 2 ≤ q) (hqp : q < p) (ha : (a = 0 ∧ x ≤ 9999) ∨ (a = 1 ∧ x ≤ 6)) (hC : f1_takeOperand F c = (f1_takeLeaf F (enc a (nI x)) c).bind (fun r => some (r.1, r.2))) {Y : Option g_M} (hY : Y = (f11_knot F m).bind (fun m1 => (f11_puts F a (nI x) m1).bind (fun m2 => (f11_goOn F m2).bind (fun m3 => some m3)))) : KO F S r v w n c m Y ∨ OK F S r v w w w n q 5 k c m Q Y := by
  have hSl := isT_le hS
  obtain ⟨a1, a2, a3, a4, a5, a6, a7, a8, a9, a10, a11, a12, a13, a14⟩ := id hp
  obtain ⟨⟨hL', hk, q1, q2, q3, q4⟩, hcc, hm⟩ := id h
  have hn := hL'.1.1
  have hpn := hL'.2.1
  have a12' : w + nop Q = k := by simpa using a12
  have a11' : m.1 2 17 = nI w := a11
  obtain ⟨i1, i2⟩ := q_it1 (F := F) (S := S) (r := r) hF (show v < 700 by omega) a3
  by_cases z : k = 64
  · left
    have e : f1_takeOperand F c = some (nI 2, c) := by
      rw [hC]
      unfold f1_takeLeaf
      rw [g_drL a1 hS, a7, if_pos (show (64 : Int32) ≤ nI k from (g_leN (a := 64) (by omega) (by omega)).mpr (by omega)), g_bs]
      rfl
    obtain ⟨mm, g1, g2⟩ := KO_of (F := F) (S := S) (r := r) (v := v) (w := w) (f := 2) h hS (by omega) (by omega) (i2 c 2 (by omega) (by omega) e) (FC.r c) (fun j => rfl)
    obtain ⟨m9, z1, z2⟩ := g2.flt
    have : mm = m9 := Option.some.inj z1
    subst this
    have e1 : f11_knot F m = some mm := by rw [r_wr h (by rw [a8, z])]; exact g1
    rw [hY, e1, g_bs, mF_puts z2, g_bs, mF_goOn z2, g_bs]; exact g2
  · right
    obtain ⟨d0, hd0⟩ : ∃ y, y = g_sI c (S + 9) 3 (nI (k + 1)) := ⟨_, rfl⟩
    obtain ⟨d, hd⟩ : ∃ y, y = g_sI (g_sI (g_sI d0 (S + 10) w (enc a (nI x))) 33 3 (nI (w + 1))) 33 4 (0 : Int32) := ⟨_, rfl⟩
    have d033 : d0.1 33 3 = nI w := by rw [hd0, sI_o (by omega)]; exact a10
    have e : f1_takeOperand F c = some ((0 : Int32), d) := by
      rw [hC]
      unfold f1_takeLeaf f1_write
      rw [g_drL a1 hS, a7, if_neg (show ¬ (64 : Int32) ≤ nI k from fun y => by have := (g_leN (a := 64) (by omega) (by omega)).mp y; omega), g_drL a1 hS, a7, g_let_e, nI_s, ← hd0, d033, if_pos (show nI w < (64 : Int32) from (g_ltN (b := 64) (by omega) (by omega)).mpr (by omega)), g_drL (show d0.2.2 33 6 = some (S + 9) by rw [hd0]; exact a1) hS, g_ckN (by omega) (by omega), g_clN (by omega), g_let_e, g_let_e, sI_o (by omega), d033, nI_s, g_bs, g_let_e, g_bs, show S + 9 + 1 = S + 10 from rfl, ← hd]
    have dn : ∀ o j, ¬ (o = 33 ∧ (j = 3 ∨ j = 4)) → ¬ (o = S + 9 ∧ j = 3) → ¬ (o = S + 10 ∧ j = w) → d.1 o j = c.1 o j := fun o j y1 y2 y3 => by rw [hd, sI_ne (by omega), sI_ne (by omega), sI_ne y3, hd0, sI_ne y2]
    have hk1 := r_knot (F := F) (m := m) (k := k) hm a8 (by omega)
    obtain ⟨mb, hmb⟩ : ∃ y, y = g_sI (g_sI (g_sI (g_sI m 0 35 (nI (k + 1))) 20 (64 + w) a) 21 (64 + w) (nI x)) 2 17 (nI (w + 1)) := ⟨_, rfl⟩
    have hpu : f11_puts F a (nI x) (g_sI m 0 35 (nI (k + 1))) = some mb := by
      rw [hmb]
      exact r_puts (by rw [sI_ne (by omega)]; exact hm) (by rw [sI_o (by omega)]; exact a11') (by omega) a (nI x)
    have bn : ∀ o j, ¬ (o = 0 ∧ j = 35) → ¬ (o = 2 ∧ j = 17) → ¬ ((o = 20 ∨ o = 21) ∧ j = 64 + w) → mb.1 o j = m.1 o j := fun o j y1 y2 y3 => by rw [hmb, sI_ne y2, sI_ne (by omega), sI_ne (by omega), sI_ne y1]
    have h1 : NC d mb n p q := NC_frm (NC_frc h (by funext j; exact dn 31 j (by omega) (by omega) (by omega)) (by funext j; exact dn 1 j (by omega) (by omega) (by omega)) (by funext j; exact dn 32 j (by omega) (by omega) (by omega)) (dn 30 0 (by omega) (by omega) (by omega))) (fun j y1 y2 => bn 0 j (by omega) (by omega) (by omega)) (by funext j; exact bn 1 j (by omega) (by omega) (by omega))
    obtain ⟨c2, m2, p2, q2, s1, s2, s3, s4, s5, s6⟩ := NC_lex h1 hF
    have cn : ∀ o j, ¬ o = 31 → c2.1 o j = d.1 o j := fun o j y => s5.2 o j (by omega)
    have mn : ∀ o j, ¬ (o = 0 ∧ (26 ≤ j ∧ j ≤ 29)) → m2.1 o j = mb.1 o j := fun o j y => s6.2 o j (by omega)
    have x20 : m2.1 20 (64 + w) = a := by rw [mn 20 _ (by omega), hmb, sI_o (by omega), sI_o (by omega), sI_eq]
    have x21 : m2.1 21 (64 + w) = nI x := by rw [mn 21 _ (by omega), hmb, sI_o (by omega), sI_eq]
    have hgo : f11_goOn F mb = some m2 := by
      unfold f11_goOn
      rw [h1.2.2, if_pos nI00, s2, g_bs]
    have hYe : Y = some m2 := by rw [hY, hk1, g_bs, hpu, g_bs, hgo, g_bs]
    have hstp : ∀ D, STP m2 w D (D + 1) := fun D => by
      have hx : x < 2147483648 := by omega
      have hvl : vl m2 21 (64 + w) = x := by unfold vl; rw [x21]; exact g_clN (by omega)
      rcases ha with ⟨b1, b2⟩ | ⟨b1, b2⟩
      · exact Or.inl ⟨by rw [x20, b1], ⟨by rw [hvl]; exact x21, by rw [hvl]; exact b2⟩, rfl⟩
      · exact Or.inr (Or.inl ⟨by rw [x20, b1], ⟨by rw [hvl]; exact x21, by rw [hvl]; exact b2⟩, rfl⟩)
    have hst : STK c2 Q := by
      obtain ⟨x1, x2, x3⟩ := (show STK c Q from a2)
      exact ⟨by rw [cn 33 1 (by omega), dn 33 1 (by omega) (by omega) (by omega)]; exact x1, x2, CEL_fr x3 (fun i _ => by rw [cn 34 i (by omega), dn 34 i (by omega) (by omega) (by omega)])⟩
    refine ⟨v + 1, c2, m2, p2, q2, [], w + 1, k + 1, i1 d c2 e s1, hYe, s3, ⟨by rw [s5.1, hd]; show d0.2.2 33 6 = _; rw [hd0]; exact a1, hst, by rw [cn 33 4 (by omega), hd, sI_eq]; rfl, by rw [cn 33 2 (by omega), dn 33 2 (by omega) (by omega) (by omega)]; exact a4, by rw [mn 0 34 (by omega), bn 0 34 (by omega) (by omega) (by omega)]; exact a5, a6, by rw [cn (S + 9) 3 (by omega), hd, sI_o (by omega), sI_o (by omega), sI_o (by omega), hd0, sI_eq], by rw [mn 0 35 (by omega), hmb, sI_o (by omega), sI_o (by omega), sI_o (by omega), sI_eq], by omega, by rw [cn 33 3 (by omega), hd, sI_ne (by omega), sI_eq], by rw [mn 2 17 (by omega), hmb, sI_eq]; rfl, by show w + 1 + 0 + nop Q = k + 1; omega, fun i hi => ?_, trivial⟩, by omega, by omega, by omega, by omega, fun x hx => absurd hx (by simp), fun op _ => Or.inl (show rk op < 7 by have := rk_le op; omega), ⟨by rw [s5.1, hd]; show d0.2 = c.2; rw [hd0]; rfl, fun o j y1 y2 y3 y4 y5 => by rw [s5.2 o j y1]; exact dn o j (by omega) y4 (by omega)⟩, fun o j y1 y2 y3 => by rw [mn o j (by omega)]; exact bn o j (by omega) y2 (by omega), ⟨by show w < w + 1 + 0; omega, fun D => PSQ_1 (hstp D)⟩⟩
    by_cases y : i = w
    · subst y
      rw [cn (S + 10) i (by omega), hd, sI_o (by omega), sI_o (by omega), sI_eq, x20, x21]
    · rw [cn (S + 10) i (by omega), dn (S + 10) i (by omega) (by omega) (by omega), mn 20 _ (by omega), mn 21 _ (by omega), bn 20 _ (by omega) (by omega) (by omega), bn 21 _ (by omega) (by omega) (by omega)]
      exact a13 i (by omega)
end L
