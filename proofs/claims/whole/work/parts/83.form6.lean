/-! the formula: negation and comparison -/
section L
variable {F : Nat} {c m c' m' c1 m1 c2 m2 : g_M} {n p q S r : Nat}
/-- a 'not' where it may stand, in both -/
theorem b_not (hF : 5000 < F) (hS : isT S) (h : NC c m n p q) {Q : List Nat} {w k v : Nat} (hp : PR c m S [] Q 1 w k) (hv : v + 2 ≤ q) (h28 : m.1 0 28 = 0) (h29 : m.1 0 29 = nI 14) (hQ : ∀ x l, Q = x :: l → rk x < 4) : (∃ mm, f11_knot F m = some mm ∧ KO F S r v w n c m (some mm)) ∨ (∃ m1 c2 m2 p2 q2, f11_knot F m = some m1 ∧ f11_goOn F m1 = some m2 ∧ LQ F S r v c = LQ F S r (v + 1) c2 ∧ NC c2 m2 n p2 q2 ∧ q < q2 ∧ v + 3 ≤ q2 ∧ PR c2 m2 S [] (12 :: Q) 1 w (k + 1) ∧ FC c c2 S w ∧ FM m m2 w) := by
  have hSl := isT_le hS
  obtain ⟨a1, a2, a3, a4, a5, a6, a7, a8, a9, a10, a11, a12, a13, a14⟩ := id hp
  obtain ⟨⟨hL', hk, q1, q2, q3, q4⟩, hcc, hm⟩ := id h
  have hn := hL'.1.1
  have hpn := hL'.2.1
  obtain ⟨k0, k2⟩ := tk_w h (w := 14) (by omega) h28 h29
  have hqp := q4 (by rw [k0]; decide)
  have hlen := n_len Q
  have a12' : w + nop Q = k := by simpa using a12
  obtain ⟨i1, i2⟩ := q_it1 (F := F) (S := S) (r := r) hF (show v < 700 by omega) a3
  have hto : f1_takeOperand F c = (f1_takeKnot F (12 : Int32) c).bind (fun r2 => some (r2.1, r2.2)) := by
    unfold f1_takeOperand f8_isSign f8_isWord f1_takeOperand_b54 f1_takeOperand_b59
    rw [if_neg (show ¬ c.1 31 0 = (4 : Int32) by rw [k0]; decide), g_bs, if_pos rfl, if_pos k0, if_pos (show c.1 31 2 = (14 : Int32) from k2), g_bs, if_neg (by decide)]
    obtain ⟨s1, s2, s3⟩ := a2
    rw [List.nil_append] at s1 s2 s3
    cases Q with
    | nil => rw [s1, if_pos (show nI ([] : List Nat).length = (0 : Int32) from rfl), if_neg (by decide)]
    | cons a l =>
      obtain ⟨u1, u2, u3⟩ := s3
      have hl : (a :: l).length = l.length + 1 := rfl
      rw [hl] at s1 s2
      have hra := hQ a l rfl
      have e1' : nI (l.length + 1) - (1 : Int32) = nI l.length := by show nI (l.length + 1) - nI 1 = _; rw [g_subN (by omega)]; rfl
      rw [s1, if_neg (show ¬ nI (l.length + 1) = (0 : Int32) from fun y => by have := (g_eqN (b := 0) (by omega) (by omega)).mp y; omega), e1', g_ckN (by omega) (by omega), g_clN (by omega), u1, q_rank u2, g_bs, if_pos (show nI (rk a) ≤ (3 : Int32) from (g_leN (b := 3) (by omega) (by omega)).mpr (by omega)), if_neg (by decide)]
  obtain ⟨t1, t2⟩ := q_tk (F := F) hS (op := 12) a1 a7 a9 (show STK c Q from a2) (by omega)
  by_cases z : k = 64
  · left
    have e : f1_takeOperand F c = some (nI 2, c) := by rw [hto, show f1_takeKnot F (12 : Int32) c = _ from t1 z, g_bs]; rfl
    obtain ⟨mm, g1, g2⟩ := KO_of (F := F) (S := S) (r := r) (v := v) (w := w) (f := 2) h hS (by omega) (by omega) (i2 c 2 (by omega) (by omega) e) (FC.r c) (fun j => rfl)
    refine ⟨mm, ?_, g2⟩
    rw [r_wr h (by rw [a8, z])]
    exact g1
  · right
    obtain ⟨c1, b1, b2, b3, b4, b5⟩ := t2 (by omega) (by omega)
    have e : f1_takeOperand F c = some ((0 : Int32), c1) := by rw [hto, show f1_takeKnot F (12 : Int32) c = _ from b1, g_bs]
    have hk1 := r_knot (F := F) (m := m) (k := k) hm a8 (by omega)
    have h1 : NC c1 (g_sI m 0 35 (nI (k + 1))) n p q := NC_frm (NC_frc h (by funext j; exact b5 31 j (by omega) (by omega) (by omega)) (by funext j; exact b5 1 j (by omega) (by omega) (by omega)) (by funext j; exact b5 32 j (by omega) (by omega) (by omega)) (b5 30 0 (by omega) (by omega) (by omega))) (fun j y1 y2 => sI_ne (by omega)) (sI_o (by omega))
    obtain ⟨c2, m2, p2, q2, s1, s2, s3, s4, s5, s6⟩ := NC_lex h1 hF
    have cn : ∀ o j, ¬ o = 31 → c2.1 o j = c1.1 o j := fun o j y => s5.2 o j (by omega)
    have mn : ∀ o j, ¬ (o = 0 ∧ ((26 ≤ j ∧ j ≤ 29) ∨ j = 35)) → m2.1 o j = m.1 o j := fun o j y => by rw [s6.2 o j (by omega), sI_ne (by omega)]
    refine ⟨_, c2, m2, p2, q2, hk1, ?_, i1 c1 c2 e s1, s3, by omega, by omega, ?_, ⟨by rw [s5.1]; exact b4, fun o j y1 y2 y3 y4 y5 => by rw [s5.2 o j y1]; exact b5 o j (by omega) y3 y4⟩, fun o j y1 y2 y3 => mn o j (by omega)⟩
    · unfold f11_goOn
      rw [h1.2.2, if_pos nI00, s2, g_bs]
    · have n1 : n13 (12 :: Q) = n13 Q := by show (if 12 = 13 then 1 else 0) + n13 Q = _; rw [if_neg (by omega)]; omega
      have n2 : nop (12 :: Q) = 1 + nop Q := by show (if 12 = 13 then 0 else 1) + nop Q = _; rw [if_neg (by omega)]
      have hst : STK c2 (12 :: Q) := by
        obtain ⟨x1, x2, x3⟩ := b2
        exact ⟨by rw [cn 33 1 (by omega)]; exact x1, x2, CEL_fr x3 (fun i _ => cn 34 i (by omega))⟩
      refine ⟨by rw [s5.1, b4]; exact a1, hst, by rw [cn 33 4 (by omega), b5 33 4 (by omega) (by omega) (by omega)]; exact a3, by rw [cn 33 2 (by omega), b5 33 2 (by omega) (by omega) (by omega), n1]; exact a4, by rw [mn 0 34 (by omega), n1]; exact a5, by rw [n1]; exact a6, by rw [cn (S + 9) 3 (by omega)]; exact b3, by rw [s6.2 0 35 (by omega), sI_eq], by omega, by rw [cn 33 3 (by omega), b5 33 3 (by omega) (by omega) (by omega)]; exact a10, by rw [mn 2 17 (by omega)]; exact a11, by rw [n2]; show w + 0 + (1 + nop Q) = k + 1; omega, fun i hi => ?_, trivial⟩
      rw [cn (S + 10) i (by omega), mn 20 _ (by omega), mn 21 _ (by omega), b5 (S + 10) i (by omega) (by omega) (by omega)]
      exact a13 i hi
/-- which signs the reference takes for a comparison -/
theorem cmp_op {x y : Int32} (h : SV x y) (hc : y = 60 ∨ y = 62 ∨ y = 61 ∨ ¬ y < 256) : ∃ op, op ≤ 9 ∧ rk op = 4 ∧ y = opM op := by
  rcases h with ⟨h1, h2⟩ | ⟨h1, h2⟩ | ⟨h1, h2⟩ | ⟨h1, h2⟩ | ⟨h1, h2⟩ | ⟨h1, h2⟩ | ⟨h1, h2⟩ | ⟨h1, h2⟩ | ⟨h1, h2⟩ | ⟨h1, h2⟩ | ⟨h1, h2⟩ | ⟨h1, h2⟩ | ⟨h1, h2⟩ <;> subst h2
  · exact absurd hc (by decide)
  · exact absurd hc (by decide)
  · exact absurd hc (by decide)
  · exact absurd hc (by decide)
  · exact ⟨4, by omega, rfl, rfl⟩
  · exact ⟨5, by omega, rfl, rfl⟩
  · exact ⟨6, by omega, rfl, rfl⟩
  · exact ⟨7, by omega, rfl, rfl⟩
  · exact ⟨8, by omega, rfl, rfl⟩
  · exact ⟨9, by omega, rfl, rfl⟩
  · exact absurd hc (by decide)
  · exact absurd hc (by decide)
  · exact absurd hc (by decide)
theorem op_cmp : ∀ op : Fin 12, rk op.val = 4 → opM op.val = 60 ∨ opM op.val = 62 ∨ opM op.val = 61 ∨ ¬ opM op.val < 256 := by decide
theorem v_neg (hF : 5000 < F) (hS : isT S) {d : Nat} {rc : Nat → g_M → Option g_M} (h2 : LVL F S r n 2 (rc 2) d) (h3 : LVL F S r n 3 (rc 3) d) (hf2 : ∀ m, ¬ m.1 0 30 = (0 : Int32) → rc 2 m = some m) (hf3 : ∀ m, ¬ m.1 0 30 = (0 : Int32) → rc 3 m = some m) : LVL F S r n 2 (f11_negation F rc) (d + 1) := by
  intro c m p q v w k Q h hp hv hQ _ hd
  have hQ4 : ∀ x t, Q = x :: t → rk x < 4 := hQ
  have hd' : 6 * (8 - n13 Q) + (64 - k) + 5 ≤ d + 1 := hd
  unfold f11_negation
  by_cases zn : m.1 0 28 = 0 ∧ m.1 0 29 = 14
  · rw [(r_wd h _).1 zn.1 zn.2, g_bs, if_neg (by decide)]
    rcases b_not (F := F) (r := r) hF hS h hp hv zn.1 zn.2 hQ4 with ⟨mm, e1, e2⟩ | ⟨m1, c2, m2, p2, q2, e1, e2, e4, e5, e6, e7, e8, e9, e10⟩
    · left
      obtain ⟨m9, z1, z2⟩ := e2.flt
      have : mm = m9 := Option.some.inj z1
      subst this
      rw [e1, g_bs, mF_goOn z2, g_bs, hf2 mm z2, g_bs, mF_puts z2, g_bs]; exact e2
    · have n1 : n13 (12 :: Q) = n13 Q := by show (if 12 = 13 then 1 else 0) + n13 Q = _; rw [if_neg (by omega)]; omega
      have hk64 : k + 1 ≤ 64 := e8.2.2.2.2.2.2.2.2.1
      rw [e1, g_bs, e2, g_bs]
      rcases h2 c2 m2 p2 q2 (v + 1) w (k + 1) (12 :: Q) e5 e8 (by omega) (fun x t z => by
        have : 12 = x := (List.cons.inj z).1
        rw [← this]; decide) (fun z => absurd z (by omega)) (by rw [n1]; omega) with ko | ok
      · left
        obtain ⟨m9, z1, z2⟩ := ko.flt
        rw [z1] at ko ⊢
        rw [g_bs, mF_puts z2, g_bs]
        exact ko.pre e4 e9 e10 (Nat.le_refl _)
      · right
        obtain ⟨v3, c3, m3, p3, q3, P3, w3, k3, g1, g2, g3, g4, g5, g6, g7, g8, g9, g10, g11, g12, g13⟩ := ok
        obtain ⟨m4, j1, j2, j3, j4, j5, j6, j7⟩ := b_put (F := F) g3 hS g4 (by omega)
        have hlen : (P3 ++ [12]).length = P3.length + 1 := by simp
        have j1' : f11_puts F (2 : Int32) (260 : Int32) m3 = some m4 := j1
        rw [g2, g_bs, j1', g_bs]
        refine ⟨v3, c3, m4, p3, q3, P3 ++ [12], w3, k3, e4.trans g1, rfl, j2, j3, g5, by omega, g7, by omega, fun x hx => ?_, fun o ho => ?_, e9.tr g11 (Nat.le_refl _), e10.tr (g12.tr j6 (by omega)) (Nat.le_refl _), ?_⟩
        · rcases List.mem_append.mp hx with y | y
          · exact g9 x y
          · rw [List.mem_singleton.mp y]; decide
        · rcases g10 o (OPT_m ho (j7 28).symm (j7 29).symm) with y | y
          · exact Or.inl y
          · exact Or.inr ⟨y.1, BLK_add y.2 _⟩
        · rw [hlen]
          exact PSG_not (PSG_fr g13 j6) j4 j5
  · rw [(r_wd h _).2 zn, g_bs, if_pos rfl]
    rcases h3 c m p q v w k Q h hp hv (fun x t z => by have := hQ4 x t z; show rk x < 5; omega) (fun _ z1 z2 => absurd ⟨z1, z2⟩ zn) (by omega) with ko | ok
    · left
      obtain ⟨m9, z1, z2⟩ := ko.flt
      rw [z1] at ko ⊢
      rw [g_bs, if_neg z2]; exact ko
    · obtain ⟨va, ca, ma, pa, qa, Pa, wa, ka, f1, f2, f3, f4, f5, f6, f7, f8, f9, f10, f11, f12, f13⟩ := ok
      rw [f2, g_bs, f3.2.2, if_pos nI00]
      have stop : (∀ op, OPT ca ma op → rk op ≠ 4) → OK F S r v w w w n q 2 k c m Q (some ma) := fun hno => ⟨va, ca, ma, pa, qa, Pa, wa, ka, f1, rfl, f3, f4, f5, f6, f7, f8, fun x hx => by have : 5 ≤ rk x := f9 x hx; show 3 ≤ rk x; omega, fun op ho => by
        have e4 := hno op ho
        have e3 : rk op ≠ 3 := (rk_inv ⟨op, OPT_lt ho⟩).2.2.2.1
        rcases f10 op ho with y | y
        · left
          have y' : rk op < 5 := y
          show rk op < 3
          omega
        · exact Or.inr y, f11, f12, f13⟩
      by_cases z28 : ma.1 0 28 = 3
      · rw [if_pos z28]
        obtain ⟨x, y, hsv⟩ : ∃ x y, SV x y ∧ y = ma.1 0 29 := by
          rcases f3.1.2.1 with ⟨k1, k2⟩ | ⟨k1, k2, _⟩ | ⟨k1, k2, _⟩ | ⟨k1, k2, _⟩ | ⟨k1, k2, k3⟩ | ⟨k1, k2⟩
          · exact absurd (k2.symm.trans z28) (by decide)
          · exact absurd (k2.symm.trans z28) (by decide)
          · exact absurd (k2.symm.trans z28) (by decide)
          · exact absurd (k2.symm.trans z28) (by decide)
          · exact ⟨_, _, k3, rfl⟩
          · exact absurd (k2.symm.trans z28) (by decide)
        obtain ⟨hsv, rfl⟩ := hsv
        by_cases hc : ma.1 0 29 = 60 ∨ ma.1 0 29 = 62 ∨ ma.1 0 29 = 61 ∨ ¬ ma.1 0 29 < 256
        · have hgo : (if ma.1 0 29 = (60 : Int32) then f11_negation_b87 F rc ma else if ma.1 0 29 = (62 : Int32) then f11_negation_b87 F rc ma else if ma.1 0 29 = (61 : Int32) then f11_negation_b87 F rc ma else if ma.1 0 29 < (256 : Int32) then some ma else f11_negation_b87 F rc ma) = f11_negation_b87 F rc ma := by
            by_cases y1 : ma.1 0 29 = (60 : Int32)
            · rw [if_pos y1]
            · by_cases y2 : ma.1 0 29 = (62 : Int32)
              · rw [if_neg y1, if_pos y2]
              · by_cases y3 : ma.1 0 29 = (61 : Int32)
                · rw [if_neg y1, if_neg y2, if_pos y3]
                · rw [if_neg y1, if_neg y2, if_neg y3, if_neg (fun y4 => hc.elim y1 (fun z => z.elim y2 (fun z => z.elim y3 (fun z => z y4))))]
          rw [hgo]
          obtain ⟨op, o1, o2, o3⟩ := cmp_op hsv hc
          have hopt := opt_s f3 o1 z28 o3
          unfold f11_negation_b87
          rw [g_let_e, o3]
          have hlt : op < 12 := by omega
          rcases b_op (F := F) (r := r) hF hS f3 f4 f5 hopt (fun x hx => by rw [if_pos o2]; exact f9 x hx) (fun x l' z => by rw [o2]; exact hQ4 x l' z) with ⟨mm, e1, e2⟩ | ⟨m1, c2, m2, p2, q2, e1, e2, _, e4, e5, e6, e7, e8, e9, e10⟩
          · left
            obtain ⟨m9, z1, z2⟩ := e2.flt
            have : mm = m9 := Option.some.inj z1
            subst this
            rw [e1, g_bs, mF_goOn z2, g_bs, hf3 mm z2, g_bs, mF_puts z2, g_bs]
            exact e2.pre f1 f11 f12 f7
          · have n1 : n13 (op :: Q) = n13 Q := by show (if op = 13 then 1 else 0) + n13 Q = _; rw [if_neg (by omega)]; omega
            rw [e1, g_bs, e2, g_bs]
            rcases h3 c2 m2 p2 q2 (va + 1) (wa + Pa.length) (ka + 1) (op :: Q) e5 e8 (by omega) (fun x t' z => by
              have : op = x := (List.cons.inj z).1
              rw [← this, o2]; decide) (fun _ _ _ => ⟨op, Q, rfl, by rw [o2]; exact Nat.le_refl _⟩) (by rw [n1]; omega) with ko | ok
            · left
              obtain ⟨m9, z1, z2⟩ := ko.flt
              rw [z1] at ko ⊢
              rw [g_bs, mF_puts z2, g_bs]
              exact ko.pre (f1.trans e4) (f11.tr e9 f7) (f12.tr e10 (by omega)) (by omega)
            · right
              obtain ⟨v3, c3, m3, p3, q3, P3, w3, k3, g1, g2, g3, g4, g5, g6, g7, g8, g9, g10, g11, g12, g13⟩ := ok
              obtain ⟨m4, j1, j2, j3, j4, j5, j6, j7⟩ := b_put (F := F) g3 hS g4 (by omega)
              have hlen : (P3 ++ [op]).length = P3.length + 1 := by simp
              have fm24 : FM m2 m4 (wa + Pa.length) := g12.tr j6 (by omega)
              rw [g2, g_bs, j1, g_bs]
              refine ⟨v3, c3, m4, p3, q3, P3 ++ [op], w3, k3, (f1.trans e4).trans g1, rfl, j2, j3, g5, by omega, by omega, by omega, fun x hx => ?_, fun o ho => ?_, (f11.tr e9 f7).tr g11 (by omega), f12.tr (e10.tr fm24 (Nat.le_refl _)) (by omega), ?_⟩
              · rcases List.mem_append.mp hx with y | y
                · have : 5 ≤ rk x := g9 x y
                  show 3 ≤ rk x; omega
                · rw [List.mem_singleton.mp y, o2]; decide
              · have e3 : rk o ≠ 3 := (rk_inv ⟨o, OPT_lt ho⟩).2.2.2.1
                have hb : BLK (P3 ++ [op]) := ⟨P3, op, [], rfl, fun x hx => g9 x hx, o2⟩
                rcases g10 o (OPT_m ho (j7 28).symm (j7 29).symm) with y | y
                · have y' : rk o < 5 := y
                  by_cases y4 : rk o = 4
                  · exact Or.inr ⟨y4, hb⟩
                  · left; show rk o < 3; omega
                · exact Or.inr ⟨y.1, hb⟩
              · rw [hlen]
                exact PSG_bin (b := wa + Pa.length) (PSG_fr f13 (e10.tr fm24 (Nat.le_refl _))) (PSG_fr g13 j6) j4 (by show isOp (m4.1 21 (64 + (w3 + P3.length))); rw [j5]; exact opM_is ⟨op, hlt⟩)
        · right
          rw [if_neg (fun y => hc (Or.inl y)), if_neg (fun y => hc (Or.inr (Or.inl y))), if_neg (fun y => hc (Or.inr (Or.inr (Or.inl y)))), if_pos (by
            by_cases y : ma.1 0 29 < (256 : Int32)
            · exact y
            · exact absurd (Or.inr (Or.inr (Or.inr y))) hc)]
          refine stop (fun op ho e => hc ?_)
          have hle := ((rk_inv ⟨op, OPT_lt ho⟩).2.2.1 e).2
          rw [(opt_sv ho hle).2]
          exact op_cmp ⟨op, OPT_lt ho⟩ e
      · right
        rw [if_neg z28]
        refine stop (fun op ho e => z28 ?_)
        have hle := ((rk_inv ⟨op, OPT_lt ho⟩).2.2.1 e).2
        exact (opt_sv ho hle).1
end L
