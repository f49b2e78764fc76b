/-! the formula: which token is an operator; the four levels that go round -/
section L
variable {F : Nat} {c m c' m' c1 m1 c2 m2 : g_M} {n p q S r : Nat}
theorem r_sg (h : NC c m n p q) (a : Int32) : (m.1 0 28 = 3 → m.1 0 29 = a → f11_isSign F a m = some (1 : Int32)) ∧ (¬ (m.1 0 28 = 3 ∧ m.1 0 29 = a) → f11_isSign F a m = some (0 : Int32)) := by
  unfold f11_isSign
  rw [h.2.2, if_pos nI00]
  refine ⟨fun z1 z2 => by rw [if_pos z1, if_pos z2], fun z => ?_⟩
  by_cases y : m.1 0 28 = 3
  · rw [if_pos y, if_neg (fun x => z ⟨y, x⟩)]
  · rw [if_neg y]
theorem r_wd (h : NC c m n p q) (a : Int32) : (m.1 0 28 = 0 → m.1 0 29 = a → f11_isWord F a m = some (1 : Int32)) ∧ (¬ (m.1 0 28 = 0 ∧ m.1 0 29 = a) → f11_isWord F a m = some (0 : Int32)) := by
  unfold f11_isWord
  rw [h.2.2, if_pos nI00]
  refine ⟨fun z1 z2 => by rw [if_pos z1, if_pos z2], fun z => ?_⟩
  by_cases y : m.1 0 28 = 0
  · rw [if_pos y, if_neg (fun x => z ⟨y, x⟩)]
  · rw [if_neg y]
theorem SV_op {x y : Int32} (h : SV x y) {op : Nat} (ho : op ≤ 9) (hy : y = opM op) : x = nI op := by
  have t : ∀ j : Fin 10, ((43 : Int32) = opM j.val → (0 : Int32) = nI j.val) ∧ ((45 : Int32) = opM j.val → (1 : Int32) = nI j.val) ∧ ((42 : Int32) = opM j.val → (2 : Int32) = nI j.val) ∧ ((47 : Int32) = opM j.val → (3 : Int32) = nI j.val) ∧ ((60 : Int32) = opM j.val → (4 : Int32) = nI j.val) ∧ ((256 : Int32) = opM j.val → (5 : Int32) = nI j.val) ∧ ((61 : Int32) = opM j.val → (6 : Int32) = nI j.val) ∧ ((257 : Int32) = opM j.val → (7 : Int32) = nI j.val) ∧ ((258 : Int32) = opM j.val → (8 : Int32) = nI j.val) ∧ ((62 : Int32) = opM j.val → (9 : Int32) = nI j.val) ∧ ¬ (40 : Int32) = opM j.val ∧ ¬ (41 : Int32) = opM j.val ∧ ¬ (59 : Int32) = opM j.val := by decide
  obtain ⟨t0, t1, t2, t3, t4, t5, t6, t7, t8, t9, ta, tb, tc⟩ := t ⟨op, by omega⟩
  rcases h with ⟨h1, h2⟩ | ⟨h1, h2⟩ | ⟨h1, h2⟩ | ⟨h1, h2⟩ | ⟨h1, h2⟩ | ⟨h1, h2⟩ | ⟨h1, h2⟩ | ⟨h1, h2⟩ | ⟨h1, h2⟩ | ⟨h1, h2⟩ | ⟨h1, h2⟩ | ⟨h1, h2⟩ | ⟨h1, h2⟩ <;> rw [h2] at hy <;> rw [h1]
  · exact t0 hy
  · exact t1 hy
  · exact t2 hy
  · exact t3 hy
  · exact t4 hy
  · exact t5 hy
  · exact t6 hy
  · exact t7 hy
  · exact t8 hy
  · exact t9 hy
  · exact absurd hy ta
  · exact absurd hy tb
  · exact absurd hy tc
theorem opt_s (h : NC c m n p q) {op : Nat} (ho : op ≤ 9) (h28 : m.1 0 28 = 3) (h29 : m.1 0 29 = opM op) : OPT c m op := by
  rcases h.1.2.1 with ⟨k1, k2⟩ | ⟨k1, k2, _⟩ | ⟨k1, k2, _⟩ | ⟨k1, k2, _⟩ | ⟨k1, k2, k3⟩ | ⟨k1, k2⟩
  · exact absurd (k2.symm.trans h28) (by decide)
  · exact absurd (k2.symm.trans h28) (by decide)
  · exact absurd (k2.symm.trans h28) (by decide)
  · exact absurd (k2.symm.trans h28) (by decide)
  · exact Or.inl ⟨ho, k1, SV_op k3 ho h29, h28, h29⟩
  · exact absurd (k2.symm.trans h28) (by decide)
theorem tk_w (h : NC c m n p q) {w : Nat} (hw : w < 22) (h28 : m.1 0 28 = 0) (h29 : m.1 0 29 = nI w) : c.1 31 0 = 3 ∧ c.1 31 2 = nI w := by
  rcases h.1.2.1 with ⟨k1, k2⟩ | ⟨k1, k2, _⟩ | ⟨k1, k2, _⟩ | ⟨k1, k2, x, _, k4, k5⟩ | ⟨k1, k2, k3⟩ | ⟨k1, k2⟩
  · exact absurd (k2.symm.trans h28) (by decide)
  · exact absurd (k2.symm.trans h28) (by decide)
  · exact absurd (k2.symm.trans h28) (by decide)
  · exact ⟨k1, by rw [k4, ← k5]; exact h29⟩
  · exact absurd (k2.symm.trans h28) (by decide)
  · exact absurd (k2.symm.trans h28) (by decide)
theorem opt_10 (h : NC c m n p q) (h28 : m.1 0 28 = 0) (h29 : m.1 0 29 = nI 13) : OPT c m 10 := by
  obtain ⟨a, b⟩ := tk_w h (by omega) h28 h29
  exact Or.inr (Or.inl ⟨rfl, a, b, h28, h29⟩)
theorem opt_11 (h : NC c m n p q) (h28 : m.1 0 28 = 0) (h29 : m.1 0 29 = nI 12) : OPT c m 11 := by
  obtain ⟨a, b⟩ := tk_w h (by omega) h28 h29
  exact Or.inr (Or.inr ⟨rfl, a, b, h28, h29⟩)
theorem rk_inv : ∀ op : Fin 12, (rk op.val = 6 → op.val = 2 ∨ op.val = 3) ∧ (rk op.val = 5 → op.val = 0 ∨ op.val = 1) ∧ (rk op.val = 4 → 4 ≤ op.val ∧ op.val ≤ 9) ∧ rk op.val ≠ 3 ∧ (rk op.val = 2 → op.val = 10) ∧ (rk op.val = 1 → op.val = 11) ∧ 1 ≤ rk op.val := by decide
theorem opt_sv {op : Nat} (h : OPT c m op) (ho : op ≤ 9) : m.1 0 28 = 3 ∧ m.1 0 29 = opM op := by
  rcases h with ⟨_, _, _, a, b⟩ | ⟨a, _⟩ | ⟨a, _⟩
  · exact ⟨a, b⟩
  · omega
  · omega
theorem opt_wv {op : Nat} (h : OPT c m op) (ho : 10 ≤ op) : m.1 0 28 = 0 ∧ m.1 0 29 = nI (23 - op) := by
  rcases h with ⟨a, _⟩ | ⟨a, _, _, b⟩ | ⟨a, _, _, b⟩
  · omega
  · subst a; exact b
  · subst a; exact b
theorem hB_prod {rc : Nat → g_M → Option g_M} (s : g_M → Option g_M) (h : NC c m n p q) : (∃ op, OPT c m op ∧ rk op = 6 ∧ f11_product_b4_body F rc (fun x => s x) m = GO F (rc 5) op s m) ∨ ((∀ op, OPT c m op → rk op ≠ 6) ∧ f11_product_b4_body F rc (fun x => s x) m = some m) := by
  have b22 : ∀ op, m.1 0 29 = opM op → f11_product_b22 F rc (fun x => s x) m = GO F (rc 5) op s m := fun op e => by
    unfold f11_product_b22 GO
    rw [g_let_e, e]
  unfold f11_product_b4_body
  by_cases z1 : m.1 0 28 = 3 ∧ m.1 0 29 = 42
  · exact Or.inl ⟨2, opt_s h (by omega) z1.1 z1.2, rfl, by rw [(r_sg h _).1 z1.1 z1.2, g_bs, if_neg (by decide), b22 2 z1.2]⟩
  · by_cases z2 : m.1 0 28 = 3 ∧ m.1 0 29 = 47
    · exact Or.inl ⟨3, opt_s h (by omega) z2.1 z2.2, rfl, by rw [(r_sg h _).2 z1, g_bs, if_pos rfl, (r_sg h _).1 z2.1 z2.2, g_bs, if_neg (by decide), b22 3 z2.2]⟩
    · refine Or.inr ⟨fun op ho e => ?_, by rw [(r_sg h _).2 z1, g_bs, if_pos rfl, (r_sg h _).2 z2, g_bs, if_pos rfl]⟩
      rcases (rk_inv ⟨op, OPT_lt ho⟩).1 e with y | y
      · have y' : op = 2 := y
        subst y'; exact z1 (opt_sv ho (by omega))
      · have y' : op = 3 := y
        subst y'; exact z2 (opt_sv ho (by omega))
theorem hB_sum {rc : Nat → g_M → Option g_M} (s : g_M → Option g_M) (h : NC c m n p q) : (∃ op, OPT c m op ∧ rk op = 5 ∧ f11_sum_b4_body F rc (fun x => s x) m = GO F (rc 4) op s m) ∨ ((∀ op, OPT c m op → rk op ≠ 5) ∧ f11_sum_b4_body F rc (fun x => s x) m = some m) := by
  have b22 : ∀ op, m.1 0 29 = opM op → f11_sum_b22 F rc (fun x => s x) m = GO F (rc 4) op s m := fun op e => by
    unfold f11_sum_b22 GO
    rw [g_let_e, e]
  unfold f11_sum_b4_body
  by_cases z1 : m.1 0 28 = 3 ∧ m.1 0 29 = 43
  · exact Or.inl ⟨0, opt_s h (by omega) z1.1 z1.2, rfl, by rw [(r_sg h _).1 z1.1 z1.2, g_bs, if_neg (by decide), b22 0 z1.2]⟩
  · by_cases z2 : m.1 0 28 = 3 ∧ m.1 0 29 = 45
    · exact Or.inl ⟨1, opt_s h (by omega) z2.1 z2.2, rfl, by rw [(r_sg h _).2 z1, g_bs, if_pos rfl, (r_sg h _).1 z2.1 z2.2, g_bs, if_neg (by decide), b22 1 z2.2]⟩
    · refine Or.inr ⟨fun op ho e => ?_, by rw [(r_sg h _).2 z1, g_bs, if_pos rfl, (r_sg h _).2 z2, g_bs, if_pos rfl]⟩
      rcases (rk_inv ⟨op, OPT_lt ho⟩).2.1 e with y | y
      · have y' : op = 0 := y
        subst y'; exact z1 (opt_sv ho (by omega))
      · have y' : op = 1 := y
        subst y'; exact z2 (opt_sv ho (by omega))
theorem hB_conj {rc : Nat → g_M → Option g_M} (s : g_M → Option g_M) (h : NC c m n p q) : (∃ op, OPT c m op ∧ rk op = 2 ∧ f11_conjunction_b4_body F rc (fun x => s x) m = GO F (rc 2) op s m) ∨ ((∀ op, OPT c m op → rk op ≠ 2) ∧ f11_conjunction_b4_body F rc (fun x => s x) m = some m) := by
  unfold f11_conjunction_b4_body
  by_cases z1 : m.1 0 28 = 0 ∧ m.1 0 29 = 13
  · exact Or.inl ⟨10, opt_10 h z1.1 z1.2, rfl, by rw [(r_wd h _).1 z1.1 z1.2, g_bs, if_neg (by decide)]; rfl⟩
  · refine Or.inr ⟨fun op ho e => ?_, by rw [(r_wd h _).2 z1, g_bs, if_pos rfl]⟩
    have y' : op = 10 := (rk_inv ⟨op, OPT_lt ho⟩).2.2.2.2.1 e
    subst y'; exact z1 (opt_wv ho (by omega))
theorem hB_expr {rc : Nat → g_M → Option g_M} (s : g_M → Option g_M) (h : NC c m n p q) : (∃ op, OPT c m op ∧ rk op = 1 ∧ f11_expression_b4_body F rc (fun x => s x) m = GO F (rc 1) op s m) ∨ ((∀ op, OPT c m op → rk op ≠ 1) ∧ f11_expression_b4_body F rc (fun x => s x) m = some m) := by
  unfold f11_expression_b4_body
  by_cases z1 : m.1 0 28 = 0 ∧ m.1 0 29 = 12
  · exact Or.inl ⟨11, opt_11 h z1.1 z1.2, rfl, by rw [(r_wd h _).1 z1.1 z1.2, g_bs, if_neg (by decide)]; rfl⟩
  · refine Or.inr ⟨fun op ho e => ?_, by rw [(r_wd h _).2 z1, g_bs, if_pos rfl]⟩
    have y' : op = 11 := (rk_inv ⟨op, OPT_lt ho⟩).2.2.2.2.2.1 e
    subst y'; exact z1 (opt_wv ho (by omega))
/-- .. as levels -/
theorem v_prod (hF : 5000 < F) (hS : isT S) {d : Nat} {rc : Nat → g_M → Option g_M} (h : LVL F S r n 5 (rc 5) d) (hfr : ∀ m, ¬ m.1 0 30 = (0 : Int32) → rc 5 m = some m) : LVL F S r n 4 (f11_product F rc) (d + 1) :=
  b_lvl (B := fun sf x => f11_product_b4_body F rc (fun mem => sf mem) x) (T := 6) hF hS (by decide) rfl rfl (by decide) (by omega) rfl (by omega) h (fun s m z => by
    show f11_product_b4_body F rc (fun mem => s mem) m = some m
    unfold f11_product_b4_body
    rw [mF_sign z, g_bs, if_pos rfl, mF_sign z, g_bs, if_pos rfl]) hfr (fun c m p q s hN => hB_prod s hN)
theorem v_sum (hF : 5000 < F) (hS : isT S) {d : Nat} {rc : Nat → g_M → Option g_M} (h : LVL F S r n 4 (rc 4) d) (hfr : ∀ m, ¬ m.1 0 30 = (0 : Int32) → rc 4 m = some m) : LVL F S r n 3 (f11_sum F rc) (d + 1) :=
  b_lvl (B := fun sf x => f11_sum_b4_body F rc (fun mem => sf mem) x) (T := 5) hF hS (by decide) rfl rfl (by decide) (by omega) rfl (by omega) h (fun s m z => by
    show f11_sum_b4_body F rc (fun mem => s mem) m = some m
    unfold f11_sum_b4_body
    rw [mF_sign z, g_bs, if_pos rfl, mF_sign z, g_bs, if_pos rfl]) hfr (fun c m p q s hN => hB_sum s hN)
theorem v_conj (hF : 5000 < F) (hS : isT S) {d : Nat} {rc : Nat → g_M → Option g_M} (h : LVL F S r n 2 (rc 2) d) (hfr : ∀ m, ¬ m.1 0 30 = (0 : Int32) → rc 2 m = some m) : LVL F S r n 1 (f11_conjunction F rc) (d + 1) :=
  b_lvl (B := fun sf x => f11_conjunction_b4_body F rc (fun mem => sf mem) x) (T := 2) hF hS (by decide) rfl rfl (by decide) (by omega) rfl (by omega) h (fun s m z => by
    show f11_conjunction_b4_body F rc (fun mem => s mem) m = some m
    unfold f11_conjunction_b4_body
    rw [mF_word z, g_bs, if_pos rfl]) hfr (fun c m p q s hN => hB_conj s hN)
theorem v_expr (hF : 5000 < F) (hS : isT S) {d : Nat} {rc : Nat → g_M → Option g_M} (h : LVL F S r n 1 (rc 1) d) (hfr : ∀ m, ¬ m.1 0 30 = (0 : Int32) → rc 1 m = some m) : LVL F S r n 0 (f11_expression F rc) (d + 1) :=
  b_lvl (B := fun sf x => f11_expression_b4_body F rc (fun mem => sf mem) x) (T := 1) hF hS (by decide) rfl rfl (by decide) (by omega) rfl (by omega) h (fun s m z => by
    show f11_expression_b4_body F rc (fun mem => s mem) m = some m
    unfold f11_expression_b4_body
    rw [mF_word z, g_bs, if_pos rfl]) hfr (fun c m p q s hN => hB_expr s hN)
end L
