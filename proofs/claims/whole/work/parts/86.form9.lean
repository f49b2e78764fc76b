/-! the formula: the last level; all levels -/
section L
variable {F : Nat} {c m c' m' c1 m1 c2 m2 : g_M} {n p q S r : Nat}
theorem mF_162 {rc : Nat → g_M → Option g_M} (z : ¬ m.1 0 30 = (0 : Int32)) (v1 : Int32) : f11_primary_b162 F rc v1 m = some m := by
  unfold f11_primary_b162 f11_primary_b176 f11_primary_b194
  rw [mF_knot z, g_bs]
  simp only [mF_puts z, g_bs, mF_goOn z, ite_self]
theorem kn29 (h : NC c m n p q) : ∃ m1, f11_knot F m = some m1 ∧ m1.1 0 29 = m.1 0 29 := by
  unfold f11_knot f11_wrong
  rw [h.2.2, if_pos nI00, if_pos nI00]
  by_cases z : m.1 0 35 = (64 : Int32)
  · rw [if_pos z]
    exact ⟨_, rfl, by show (g_sI (g_sI m 0 30 (2 : Int32)) 0 31 ((g_sI m 0 30 (2 : Int32)).1 0 27)).1 0 29 = _; rw [sI_ne (by omega), sI_ne (by omega)]⟩
  · rw [if_neg z]
    exact ⟨_, rfl, sI_ne (by omega)⟩
theorem v_prim (hF : 5000 < F) (hS : isT S) {d : Nat} {rc : Nat → g_M → Option g_M} (h0 : LVL F S r n 0 (rc 0) d) : LVL F S r n 5 (f11_primary F rc) (d + 1) := by
  intro c m p q v w k Q h hp hv hQ hNT hd
  have hSl := isT_le hS
  have hd' : 6 * (8 - n13 Q) + (64 - k) + 2 ≤ d + 1 := hd
  obtain ⟨a1, a2, a3, a4, a5, a6, a7, a8, a9, a10, a11, a12, a13, a14⟩ := id hp
  obtain ⟨⟨hL', hk, q1, q2, q3, q4⟩, hcc, hm⟩ := id h
  have hn := hL'.1.1
  have hpn := hL'.2.1
  have s13 := q_sg (F := F) h (a := 13) (b := 40) (fun x y hs => (SV_40 hs).1)
  unfold f11_primary
  rw [hm, if_pos nI00]
  by_cases z40 : m.1 0 28 = 3 ∧ m.1 0 29 = 40
  · have hqp : q < p := q4 (by rw [(tk_s h).1.mpr z40.1]; decide)
    rw [(r_sg h _).1 z40.1 z40.2, g_bs, if_neg (by decide), a5]
    rcases b_open (F := F) (r := r) hF hS h hp hv hqp (s13.1 z40) with ⟨z, mm, e1, e2⟩ | ⟨z, c2, m2, p2, q2', e1, e2, e3, e4, e5, e6, e7, e8⟩
    · left
      obtain ⟨m9, z1, z2⟩ := e2.flt
      have : mm = m9 := Option.some.inj z1
      subst this
      rw [if_pos (show nI (n13 Q) = (8 : Int32) by rw [z]; rfl), e1, g_bs]
      unfold f11_primary_b31
      rw [if_neg z2]; exact e2
    · have n1 : n13 (13 :: Q) = n13 Q + 1 := by show (if 13 = 13 then 1 else 0) + n13 Q = _; rw [if_pos rfl]; omega
      rw [if_neg (show ¬ nI (n13 Q) = (8 : Int32) from fun y => by have := (g_eqN (b := 8) (by omega) (by omega)).mp y; omega)]
      unfold f11_primary_b31
      rw [hm, if_pos nI00, a5, nI_s, g_let_e, e1, g_bs]
      rcases h0 c2 m2 p2 q2' (v + 1) w k (13 :: Q) e3 e6 (by omega) (fun x t zz => by
        have : 13 = x := (List.cons.inj zz).1
        rw [← this]; decide) (fun zz => absurd zz (by omega)) (by rw [n1]; omega) with ko | ok
      · left
        obtain ⟨m9, z1, z2⟩ := ko.flt
        rw [z1] at ko ⊢
        rw [g_bs, if_neg z2]
        unfold f11_primary_b78
        rw [if_neg z2]
        exact ko.pre e2 e7 e8 (Nat.le_refl _)
      · obtain ⟨v3, c3, m3, p3, q3', P3, w3, k3, g1, g2, g3, g4, g5, g6, g7, g8, g9, g10, g11, g12, g13⟩ := ok
        rw [g2, g_bs, g3.2.2, if_pos nI00]
        have s14 := q_sg (F := F) g3 (a := 14) (b := 41) (fun x y hs => (SV_40 hs).2.1)
        have hn3 := g3.1.1.1.1
        have hpn3 := g3.1.1.2.1
        have hqp3 := g3.1.2.2.2.2.1
        by_cases z41 : m3.1 0 28 = 3 ∧ m3.1 0 29 = 41
        · right
          have hq3 : q3' < p3 := g3.1.2.2.2.2.2 (by rw [(tk_s g3).1.mpr z41.1]; decide)
          obtain ⟨c5, m5, p5, q5, i1, i2, i3, i4, i5, i6, i7, i8⟩ := b_close (F := F) (r := r) hF hS g3 g4 g5 hq3 (fun x hx => g9 x hx) (s14.1 z41)
          rw [(r_sg g3 _).1 z41.1 z41.2, g_bs, if_neg (by decide)]
          unfold f11_primary_b78
          rw [g3.2.2, if_pos nI00, g_let_e, i1, g_bs]
          exact ⟨v3 + 1, c5, m5, p5, q5, [], w3 + P3.length, k3, (e2.trans g1).trans i2, rfl, i3, i6, by omega, by omega, by omega, by omega, fun x hx => absurd hx (by simp), fun op _ => Or.inl (show rk op < 7 by have := rk_le op; omega), (e7.tr g11 (Nat.le_refl _)).tr i7 g7, (e8.tr g12 (Nat.le_refl _)).tr i8 (by omega), PSG_fr g13 i8⟩
        · left
          have n1' : n13 (13 :: Q) = 1 + n13 Q := by show (if 13 = 13 then 1 else 0) + n13 Q = _; rw [if_pos rfl]
          have hae : f1_isAtEnd F c3 = some (0 : Int32) := by
            unfold f1_isAtEnd
            rw [if_pos (show c3.1 33 4 = (0 : Int32) from g4.2.2.1), g4.2.2.2.1, n1', if_neg (show ¬ nI (1 + n13 Q) = (0 : Int32) from fun y => by have := (g_eqN (b := 0) (by omega) (by omega)).mp y; omega)]
          obtain ⟨j1, j2⟩ := q_it0 (F := F) (S := S) (r := r) hF (show v3 < 700 by omega) g4.2.2.1 hae (X := f1_takeOperator F c3) (by rw [s14.2 z41, g_bs, if_pos rfl])
          obtain ⟨c6, b1, b2, b3⟩ := q_bad (F := F) hF hS g3 g4 g10
          obtain ⟨mm, t1, t2⟩ := KO_of (F := F) (S := S) (r := r) (v := v3) (w := w3) (f := 1) g3 hS (by omega) (by omega) (j2 c6 1 (by omega) (by omega) b1) ⟨b2, fun o j y1 y2 y3 y4 y5 => b3 o j y2 y5⟩ (fun j => b3 31 j (by omega) (by omega))
          obtain ⟨m9, z1, z2⟩ := t2.flt
          have : mm = m9 := Option.some.inj z1
          subst this
          rw [(r_sg g3 _).2 z41, g_bs, if_pos rfl, show f11_wrong F (1 : Int32) m3 = some mm from t1, g_bs]
          unfold f11_primary_b78
          rw [if_neg z2]
          exact t2.pre (e2.trans g1) (e7.tr g11 (Nat.le_refl _)) (e8.tr g12 (Nat.le_refl _)) g7
  · rw [(r_sg h _).2 z40, g_bs, if_pos rfl]
    have hs13 := s13.2 z40
    obtain ⟨i1, i2⟩ := q_it1 (F := F) (S := S) (r := r) hF (show v < 700 by omega) a3
    have ff : ∀ f, 1 ≤ f → f ≤ 4 → f1_takeOperand F c = some (nI f, c) → ∃ mm, f11_wrong F (nI f) m = some mm ∧ KO F S r v w n c m (some mm) ∧ ¬ mm.1 0 30 = (0 : Int32) := fun f f1 f2 e => by
      obtain ⟨mm, t1, t2⟩ := KO_of (F := F) (S := S) (r := r) (v := v) (w := w) (f := f) h hS f1 f2 (i2 c f f1 f2 e) (FC.r c) (fun j => rfl)
      obtain ⟨m9, z1, z2⟩ := t2.flt
      have : mm = m9 := Option.some.inj z1
      subst this
      exact ⟨mm, t1, t2, z2⟩
    obtain ⟨m1, kn1, kn2⟩ := kn29 (F := F) h
    have bad : f1_takeOperand F c = some ((1 : Int32), c) → ¬ m.1 0 28 = 2 → (¬ m.1 0 28 = 0 ∨ m.1 0 29 < 15) → KO F S r v w n c m (if m.1 0 28 = (2 : Int32) then f11_primary_b114 F rc (1 : Int32) m else f11_primary_b114 F rc (0 : Int32) m) := fun e n2 hw => by
      obtain ⟨mm, t1, t2, t3⟩ := ff 1 (by omega) (by omega) e
      have e157 : f11_primary_b157 F rc (0 : Int32) m = some mm := by
        unfold f11_primary_b157
        rw [show f11_wrong F (1 : Int32) m = some mm from t1, g_bs, mF_162 t3]
      rw [if_neg n2]
      unfold f11_primary_b114 f11_primary_b137
      rw [if_pos rfl, if_pos rfl, e157]
      by_cases y : m.1 0 28 = (0 : Int32)
      · rw [if_pos y, if_pos (hw.elim (fun x => absurd y x) id)]; exact t2
      · rw [if_neg y]; exact t2
    have oth : ¬ c.1 31 0 = (1 : Int32) → ¬ c.1 31 0 = (3 : Int32) → f1_takeOperand F c = some ((1 : Int32), c) := fun y1 y3 => by
      unfold f1_takeOperand f8_isWord
      rw [hs13, g_bs, if_pos rfl, if_neg y3, g_bs, if_pos rfl, if_neg y1, if_neg y3]
    rcases hk with ⟨k1, k2⟩ | ⟨k1, k2, xa, xb, ha, hb, hab⟩ | ⟨k1, k2, _⟩ | ⟨k1, k2, x, x1, k4, k5⟩ | ⟨k1, k2, k3⟩ | ⟨k1, k2⟩
    · exact Or.inl (bad (oth (by rw [k1]; decide) (by rw [k1]; decide)) (by rw [k2]; decide) (Or.inl (by rw [k2]; decide)))
    · have ab : xa < 2147483648 ∧ xb < 2147483648 := by unfold NVN at hab; omega
      have hqp : q < p := q4 (by rw [k1]; decide)
      have y3 : ¬ c.1 31 0 = (3 : Int32) := by rw [k1]; decide
      rw [if_pos (show m.1 0 28 = (2 : Int32) from k2)]
      by_cases zb : 9999 < xb
      · left
        have e : f1_takeOperand F c = some (nI 2, c) := by
          unfold f1_takeOperand f8_isWord
          rw [hs13, g_bs, if_pos rfl, if_neg y3, g_bs, if_pos rfl, if_pos k1, ha, if_pos (show (9999 : Int32) < nI xa from (g_ltN (a := 9999) (by omega) (by omega)).mpr (by unfold NVN at hab; omega))]
          rfl
        obtain ⟨mm, t1, t2, t3⟩ := ff 2 (by omega) (by omega) e
        unfold f11_primary_b114
        rw [if_neg (by decide), hb, if_pos (show (9999 : Int32) < nI xb from (g_ltN (a := 9999) (by omega) (by omega)).mpr zb), show f11_wrong F (2 : Int32) m = some mm from t1, g_bs, mF_162 t3]
        exact t2
      · have eab : xa = xb := by unfold NVN at hab; omega
        subst eab
        refine b_leaf (F := F) (r := r) (x := xa) (a := 0) hF hS h hp hv hqp (Or.inl ⟨rfl, by omega⟩) ?_ ?_
        · unfold f1_takeOperand f8_isWord
          rw [hs13, g_bs, if_pos rfl, if_neg y3, g_bs, if_pos rfl, if_pos k1, ha, if_neg (show ¬ (9999 : Int32) < nI xa from fun y => by have := (g_ltN (a := 9999) (by omega) (by omega)).mp y; omega)]
          rfl
        · unfold f11_primary_b114 f11_primary_b137 f11_primary_b162 f11_primary_b176 f11_primary_b194
          rw [if_neg (by decide), hb, if_neg (show ¬ (9999 : Int32) < nI xa from fun y => by have := (g_ltN (a := 9999) (by omega) (by omega)).mp y; omega), if_neg (by decide), kn1, g_bs, g_bs, if_neg (by decide), if_neg (by decide), kn2, hb]
    · exact Or.inl (bad (oth (by rw [k1]; decide) (by rw [k1]; decide)) (by rw [k2]; decide) (Or.inl (by rw [k2]; decide)))
    · have hqp : q < p := q4 (by rw [k1]; decide)
      by_cases z15 : x < 15
      · left
        refine bad ?_ (by rw [k2]; decide) (Or.inr (by rw [k5]; exact (g_ltN (b := 15) (by omega) (by omega)).mpr z15))
        by_cases z14 : x = 14
        · subst z14
          obtain ⟨y, t, hQe, hy⟩ := hNT (by omega) k2 k5
          subst hQe
          obtain ⟨u1, u2, u3⟩ := (show STK c (y :: t) from a2)
          obtain ⟨u4, u5, u6⟩ := u3
          have hl : (y :: t).length = t.length + 1 := rfl
          rw [hl] at u1 u2
          have hry := rk_le y
          have e1' : nI (t.length + 1) - (1 : Int32) = nI t.length := by show nI (t.length + 1) - nI 1 = _; rw [g_subN (by omega)]; rfl
          unfold f1_takeOperand f8_isWord f1_takeOperand_b59
          rw [hs13, g_bs, if_pos rfl, if_pos k1, if_pos (show c.1 31 2 = (14 : Int32) from k4), g_bs, if_neg (by decide), u1, if_neg (show ¬ nI (t.length + 1) = (0 : Int32) from fun y => by have := (g_eqN (b := 0) (by omega) (by omega)).mp y; omega), e1', g_ckN (by omega) (by omega), g_clN (by omega), u4, q_rank u5, g_bs, if_neg (show ¬ nI (rk y) ≤ (3 : Int32) from fun z => by have := (g_leN (b := 3) (by omega) (by omega)).mp z; omega), if_pos rfl]
        · unfold f1_takeOperand f8_isWord
          rw [hs13, g_bs, if_pos rfl, if_pos k1, k4, if_neg (show ¬ nI x = (14 : Int32) from fun y => z14 ((g_eqN (b := 14) (by omega) (by omega)).mp y)), g_bs, if_pos rfl, if_neg (show ¬ c.1 31 0 = (1 : Int32) by rw [k1]; decide), if_pos k1, if_neg (show ¬ (15 : Int32) ≤ nI x from fun y => by have := (g_leN (a := 15) (by omega) (by omega)).mp y; omega)]
      · have ex : nI x - (15 : Int32) = nI (x - 15) := by show nI x - nI 15 = _; rw [g_subN (by omega)]
        have ex2 : ((10000 : Int32) + nI x) - (15 : Int32) = enc 1 (nI (x - 15)) := by
          show (nI 10000 + nI x) - nI 15 = nI 10000 + nI (x - 15)
          rw [nI_add, nI_add, g_subN (by omega)]
          congr 1; omega
        refine b_leaf (F := F) (r := r) (x := x - 15) (a := 1) hF hS h hp hv hqp (Or.inr ⟨rfl, by omega⟩) ?_ ?_
        · unfold f1_takeOperand f8_isWord
          rw [hs13, g_bs, if_pos rfl, if_pos k1, k4, if_neg (show ¬ nI x = (14 : Int32) from fun y => by have := (g_eqN (b := 14) (by omega) (by omega)).mp y; omega), g_bs, if_pos rfl, if_neg (show ¬ c.1 31 0 = (1 : Int32) by rw [k1]; decide), if_pos k1, if_pos (show (15 : Int32) ≤ nI x from (g_leN (a := 15) (by omega) (by omega)).mpr (by omega)), ex2]
        · rw [if_neg (show ¬ m.1 0 28 = (2 : Int32) by rw [k2]; decide)]
          unfold f11_primary_b114 f11_primary_b137 f11_primary_b162 f11_primary_b176 f11_primary_b194
          rw [if_pos rfl, if_pos rfl, if_pos k2, k5, if_neg (show ¬ nI x < (15 : Int32) from fun y => z15 ((g_ltN (b := 15) (by omega) (by omega)).mp y)), kn1, g_bs, g_bs, if_pos rfl, if_pos rfl, kn2, k5, ex]
    · exact Or.inl (bad (oth (by rw [k1]; decide) (by rw [k1]; decide)) (by rw [k2]; decide) (Or.inl (by rw [k2]; decide)))
    · exact Or.inl (bad (oth (by rw [k1]; decide) (by rw [k1]; decide)) (by rw [k2]; decide) (Or.inl (by rw [k2]; decide)))
/-- all levels -/
theorem v_all (hF : 5000 < F) (hS : isT S) : ∀ d l, l ≤ 5 → LVL F S r n l (fgE F d l) d := by
  intro d
  induction d with
  | zero =>
    intro l hl c m p q v w k Q h hp hv hQ hN hd
    omega
  | succ d ih =>
    intro l hl
    by_cases hd5 : 7 - l ≤ d + 1
    · have fr : ∀ l', l' ≤ 5 → l ≤ l' → ∀ m : g_M, ¬ m.1 0 30 = (0 : Int32) → fgE F d l' m = some m := fun l' h h' m z => mF_E hF z d l' h (by omega)
      rcases (show l = 0 ∨ l = 1 ∨ l = 2 ∨ l = 3 ∨ l = 4 ∨ l = 5 by omega) with rfl | rfl | rfl | rfl | rfl | rfl
      · exact v_expr hF hS (ih 1 (by omega)) (fr 1 (by omega) (by omega))
      · exact v_conj hF hS (ih 2 (by omega)) (fr 2 (by omega) (by omega))
      · exact v_neg hF hS (ih 2 (by omega)) (ih 3 (by omega)) (fr 2 (by omega) (by omega)) (fr 3 (by omega) (by omega))
      · exact v_sum hF hS (ih 4 (by omega)) (fr 4 (by omega) (by omega))
      · exact v_prod hF hS (ih 5 (by omega)) (fr 5 (by omega) (by omega))
      · exact v_prim hF hS (ih 0 (by omega))
    · intro c m p q v w k Q h hp hv hQ hN hd
      omega
end L
