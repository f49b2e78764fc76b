/-! reading: faults, numbers, names -/
section L
variable {F : Nat} {c m c' m' c1 m1 : g_M} {n p q S f : Nat}
/-- what a reading step may change -/
def LXC' (c c' : g_M) : Prop := c'.2 = c.2 ∧ ∀ o k, ¬ (o = 31 ∧ (k = 0 ∨ k = 1 ∨ k = 2 ∨ k = 5)) → ¬ (o = 30 ∧ (k = 0 ∨ k = 1)) → c'.1 o k = c.1 o k
def LXM' (m m' : g_M) : Prop := m'.2 = m.2 ∧ ∀ o k, ¬ (o = 0 ∧ 26 ≤ k ∧ k ≤ 31) → m'.1 o k = m.1 o k
theorem LXC.w (h : LXC c c') : LXC' c c' := ⟨h.1, fun o k a _ => h.2 o k a⟩
theorem LXM.w (h : LXM m m') : LXM' m m' := ⟨h.1, fun o k a => h.2 o k (by omega)⟩
theorem LXC'.tr (h : LXC' c c') (h' : LXC' c' c1) : LXC' c c1 := ⟨h'.1.trans h.1, fun o k a b => (h'.2 o k a b).trans (h.2 o k a b)⟩
theorem LXM'.tr (h : LXM' m m') (h' : LXM' m' m1) : LXM' m m1 := ⟨h'.1.trans h.1, fun o k a => (h'.2 o k a).trans (h.2 o k a)⟩
theorem LXC'.r (c : g_M) : LXC' c c := ⟨rfl, fun _ _ _ _ => rfl⟩
theorem LXM'.r (m : g_M) : LXM' m m := ⟨rfl, fun _ _ _ => rfl⟩
/-- no fault yet -/
def NC (c m : g_M) (n p q : Nat) : Prop := TK c m n p q ∧ c.1 30 0 = nI 0 ∧ m.1 0 30 = nI 0
/-- the fault that both have -/
def FO (c m : g_M) (n : Nat) : Prop := ∃ f q, 1 ≤ f ∧ f ≤ 4 ∧ q ≤ 700 ∧ c.1 30 0 = nI f ∧ m.1 0 30 = nI f ∧ c.1 30 1 = nI q ∧ m.1 0 31 = nI q ∧ LCx c m n
theorem LCx_fr (h : LCx c m n) (h1 : c'.1 1 = c.1 1) (h2 : c'.1 32 = c.1 32) (h3 : m'.1 1 = m.1 1) (h4 : c'.1 31 4 = c.1 31 4) (h5 : c'.1 31 5 = c.1 31 5) : LCx c' m' n := by
  obtain ⟨hB, a4, hw, p, hp, a5⟩ := h
  refine ⟨⟨hB.1, fun i hi => ?_⟩, by rw [h4]; exact a4, ?_, p, hp, by rw [h5]; exact a5⟩
  · have := hB.2 i hi
    unfold vl at this ⊢
    rw [h1, h3]; exact this
  · unfold WRD at hw ⊢; rw [h2]; exact hw
theorem nz {f : Nat} (h1 : 1 ≤ f) (h2 : f ≤ 4) : ¬ nI f = (0 : Int32) := fun z => by have := (g_eqN (b := 0) (by omega) (by omega)).mp z; omega
/-- the class goes on behind a fault -/
def CX (c m : g_M) (n S f : Nat) : Prop := c.1 30 0 = nI f ∧ 1 ≤ f ∧ f ≤ 4 ∧ LCx c m n ∧ isT S ∧ c.2.2 30 5 = some S ∧ ∀ k, k < 3 → ∃ x, x ≤ 5 ∧ c.1 (S + 1) k = nI x
theorem x_fail (h : CX c m n S f) (a : Int32) : f5_fail F a c = some c := by
  unfold f5_fail
  rw [h.1, if_neg (nz h.2.1 h.2.2.1)]
theorem x_failIf (h : CX c m n S f) (a b : Int32) : f5_failIf F a b c = some c := by
  unfold f5_failIf
  rw [x_fail h, g_bs, ite_self]
theorem CX_lex (h : CX c m n S f) (hl : LCx c' m n) (hx : LXC c c') : CX c' m n S f := by
  obtain ⟨a1, a2, a3, a4, a5, a6, a7⟩ := h
  have hSl := isT_le a5
  exact ⟨by rw [hx.2 30 0 (by omega)]; exact a1, a2, a3, hl, a5, by rw [hx.1]; exact a6, fun k hk => by rw [hx.2 (S + 1) k (by omega)]; exact a7 k hk⟩
theorem x_step (hF : 5000 < F) (h : CX c m n S f) : ∃ c', f8_step F c = some c' ∧ CX c' m n S f ∧ LXC c c' := by
  obtain ⟨c', e1, e2, e3⟩ := lexC (F := F) hF h.2.2.2.1
  exact ⟨c', e1, CX_lex h e2 e3, e3⟩
theorem x_number (hF : 5000 < F) (h : CX c m n S f) (a b : Int32) : ∃ v c', f5_number F a b c = some (v, c') ∧ CX c' m n S f ∧ LXC c c' := by
  obtain ⟨c', e1, e2, e3⟩ := x_step (F := F) hF h
  have hx := fun u v => x_failIf (F := F) h u v
  refine ⟨c.1 31 2, c', ?_, e2, e3⟩
  unfold f5_number f5_number_b17 f5_number_b40 f5_number_b45
  simp only [hx, g_bs, g_let, e1, ite_self]
theorem q_find' (hF : 5000 < F) {k x : Nat} (hk : k < 3) (hx : x ≤ 5) (h : c.1 (S + 1) k = nI x) (v : Int32) : f9_find F S (nI k) v c = some (if fstP (fun i => decide (c.1 (S + 2) (5 * k + i) = v)) x < x then nI (fstP (fun i => decide (c.1 (S + 2) (5 * k + i) = v)) x) else -1) := by
  have hle := fstP_le (fun i => decide (c.1 (S + 2) (5 * k + i) = v)) x
  have hno := fstP_no (fun i => decide (c.1 (S + 2) (5 * k + i) = v)) x
  have hyes := fstP_yes (fun i => decide (c.1 (S + 2) (5 * k + i) = v)) x
  generalize fstP (fun i => decide (c.1 (S + 2) (5 * k + i) = v)) x = J at *
  unfold f9_find f9_find_b2
  refine g_for (fun i => nI i) J (fun i hi sf => ?_) (by omega) (fun sf => ?_)
  · have e := hno i hi
    simp only [decide_eq_false_iff_not] at e
    simp (disch := omega) only [g_let, g_bs, g_l0, g_l1, g_l2, g_l3, g_l4, g_l5, g_l6, g_l7, g_l8, g_l9, g_l10, g_l11, g_l12, g_l15, g_l20, g_l24, g_l25, g_l30, g_l40, g_l99, g_l100, g_ckN, g_clN, g_ltN, g_leN, g_eqN, pk_mul, nI_add, if_true, if_false, Nat.reduceLT, Nat.reduceLeDiff, Nat.reduceEqDiff, Nat.lt_irrefl, f9_find_b2_body, h, show i < x by omega, Nat.mul_comm k 5, if_neg e]
  · by_cases z : J < x
    · have e := hyes z
      simp only [decide_eq_true_eq] at e
      simp (disch := omega) only [g_let, g_bs, g_l0, g_l1, g_l2, g_l3, g_l4, g_l5, g_l6, g_l7, g_l8, g_l9, g_l10, g_l11, g_l12, g_l15, g_l20, g_l24, g_l25, g_l30, g_l40, g_l99, g_l100, g_ckN, g_clN, g_ltN, g_leN, g_eqN, pk_mul, nI_add, if_true, if_false, Nat.reduceLT, Nat.reduceLeDiff, Nat.reduceEqDiff, Nat.lt_irrefl, f9_find_b2_body, h, z, Nat.mul_comm k 5, if_pos e]
    · have : J = x := by omega
      subst this
      simp (disch := omega) only [g_let, g_bs, g_l0, g_l1, g_l2, g_l3, g_l4, g_l5, g_l6, g_l7, g_l8, g_l9, g_l10, g_l11, g_l12, g_l15, g_l20, g_l24, g_l25, g_l30, g_l40, g_l99, g_l100, g_ckN, g_clN, g_ltN, g_leN, g_eqN, pk_mul, nI_add, if_true, if_false, Nat.reduceLT, Nat.reduceLeDiff, Nat.reduceEqDiff, Nat.lt_irrefl, f9_find_b2_body, h]
theorem x_find (hF : 5000 < F) (h : CX c m n S f) {k : Nat} (hk : k < 3) (v : Int32) : ∃ r, f9_find F S (nI k) v c = some r := by
  obtain ⟨x, hx, e⟩ := h.2.2.2.2.2.2 k hk
  exact ⟨_, q_find' hF hk hx e v⟩
theorem x_oldOne (hF : 5000 < F) (h : CX c m n S f) {k : Nat} (hk : k < 3) : ∃ v c', f5_oldOne F (nI k) c = some (v, c') ∧ CX c' m n S f ∧ LXC c c' := by
  obtain ⟨c', e1, e2, e3⟩ := x_step (F := F) hF h
  obtain ⟨r, hr⟩ := x_find (F := F) hF h hk (c.1 31 2)
  have hx := fun u v => x_failIf (F := F) h u v
  refine ⟨r, c', ?_, e2, e3⟩
  unfold f5_oldOne f5_oldOne_b17 f5_oldOne_b48
  simp only [hx, g_bs, g_drT h.2.2.2.2.2.1 h.2.2.2.2.1, hr, e1, ite_self]
/-- a fault is found -/
theorem fo_of (h : NC c m n p q) {f : Nat} (h1 : 1 ≤ f) (h2 : f ≤ 4) : ∃ c' m', f5_fail F (nI f) c = some c' ∧ f11_wrong F (nI f) m = some m' ∧ FO c' m' n ∧ LXC' c c' ∧ LXM' m m' ∧ (∀ o k, ¬ (o = 30 ∧ (k = 0 ∨ k = 1)) → c'.1 o k = c.1 o k) ∧ (∀ o k, ¬ (o = 0 ∧ (k = 30 ∨ k = 31)) → m'.1 o k = m.1 o k) := by
  obtain ⟨hT, hc, hm⟩ := h
  obtain ⟨hL, hk, q1, q2, q3, q4⟩ := hT
  have hp := hL.2.1
  have hn := hL.1.1
  refine ⟨g_sI (g_sI c 30 0 (nI f)) 30 1 (nI q), g_sI (g_sI m 0 30 (nI f)) 0 31 (nI q), ?_, ?_, ⟨f, q, h1, h2, by omega, by rw [sI_ne (by omega), sI_eq], by rw [sI_ne (by omega), sI_eq], sI_eq, sI_eq, LCx_fr (LPx_C hL) (by rw [sI_o (by omega), sI_o (by omega)]) (by rw [sI_o (by omega), sI_o (by omega)]) (by rw [sI_o (by omega), sI_o (by omega)]) (by rw [sI_o (by omega), sI_o (by omega)]) (by rw [sI_o (by omega), sI_o (by omega)])⟩, ⟨rfl, fun o k a b => by rw [sI_ne (by omega), sI_ne (by omega)]⟩, ⟨rfl, fun o k a => by rw [sI_ne (by omega), sI_ne (by omega)]⟩, fun o k a => by rw [sI_ne (by omega), sI_ne (by omega)], fun o k a => by rw [sI_ne (by omega), sI_ne (by omega)]⟩
  · unfold f5_fail
    rw [hc, if_pos nI00, g_let_e, g_let_e, sI_o (by omega), q1]
  · unfold f11_wrong
    rw [hm, if_pos nI00, g_let_e, g_let_e, sI_ne (by omega), q2]
theorem FO_CX (h : FO c m n) (hS : isT S) (hr : c.2.2 30 5 = some S) (hk : ∀ k, k < 3 → ∃ x, x ≤ 5 ∧ c.1 (S + 1) k = nI x) : ∃ f, CX c m n S f := by
  obtain ⟨f, q, h1, h2, h3, h4, h5, h6, h7, h8⟩ := h
  exact ⟨f, h4, h1, h2, h8, hS, hr, hk⟩
/-- FO stays while the class goes on alone -/
theorem FO_lex (h : FO c m n) (hl : LCx c' m n) (hx : LXC c c') : FO c' m n := by
  obtain ⟨f, q, h1, h2, h3, h4, h5, h6, h7, h8⟩ := h
  exact ⟨f, q, h1, h2, h3, by rw [hx.2 30 0 (by omega)]; exact h4, h5, by rw [hx.2 30 1 (by omega)]; exact h6, h7, hl⟩
theorem NC_lex (h : NC c m n p q) (hF : 5000 < F) : ∃ c' m' p' q', f8_step F c = some c' ∧ f11_token F m = some m' ∧ NC c' m' n p' q' ∧ p ≤ q' ∧ LXC c c' ∧ LXM m m' := by
  obtain ⟨hT, hc, hm⟩ := h
  obtain ⟨c', m', p', q', e1, e2, e3, e4, e5, e6⟩ := lex (F := F) hF hT.1
  exact ⟨c', m', p', q', e1, e2, ⟨e3, by rw [e5.2 30 0 (by omega)]; exact hc, by rw [e6.2 0 30 (by omega)]; exact hm⟩, e4, e5, e6⟩
def SD (c : g_M) (S : Nat) : Prop := isT S ∧ c.2.2 30 5 = some S ∧ ∀ k, k < 3 → ∃ x, x ≤ 5 ∧ c.1 (S + 1) k = nI x
theorem SD_fr (h : SD c S) (hr : c'.2 = c.2) (hk : ∀ k, k < 3 → c'.1 (S + 1) k = c.1 (S + 1) k) : SD c' S := ⟨h.1, by rw [hr]; exact h.2.1, fun k h3 => by rw [hk k h3]; exact h.2.2 k h3⟩
/-- what the class does when a test fails: it notes the fault, and steps on -/
theorem fo_step (hF : 5000 < F) (h : NC c m n p q) (hS : SD c S) {f : Nat} (h1 : 1 ≤ f) (h2 : f ≤ 4) : ∃ c1 c' m' g, f5_fail F (nI f) c = some c1 ∧ CX c1 m' n S g ∧ f8_step F c1 = some c' ∧ f11_wrong F (nI f) m = some m' ∧ FO c' m' n ∧ LXC' c c' ∧ LXM' m m' ∧ (∀ o k, ¬ (o = 30 ∧ (k = 0 ∨ k = 1)) → c1.1 o k = c.1 o k) ∧ ¬ m'.1 0 30 = (0 : Int32) ∧ c1.2 = c.2 := by
  obtain ⟨c1, m', e1, e2, e3, e4, e5, e6, e7⟩ := fo_of (F := F) h h1 h2
  have hSl := isT_le hS.1
  obtain ⟨g, hCX⟩ := FO_CX e3 hS.1 (by rw [e4.1]; exact hS.2.1) (fun k hk => by rw [e6 (S + 1) k (by omega)]; exact hS.2.2 k hk)
  obtain ⟨c', s1, s2, s3⟩ := x_step (F := F) hF hCX
  refine ⟨c1, c', m', g, e1, hCX, s1, e2, FO_lex e3 s2.2.2.2.1 s3, e4.tr s3.w, e5, e6, ?_, e4.1⟩
  obtain ⟨f', q', g1, g2, g3, g4, g5, _⟩ := e3
  rw [g5]; exact nz g1 g2
/-- a number, in both -/
theorem rd_num (hF : 5000 < F) (h : NC c m n p q) (hS : SD c S) {lo hi : Nat} (hlo : lo ≤ hi) (hhi : hi ≤ 99999) : (∃ v c' m' p' q', lo ≤ v ∧ v ≤ hi ∧ f5_number F (nI lo) (nI hi) c = some (nI v, c') ∧ f11_numeral F (nI lo) (nI hi) m = some (nI v, m') ∧ NC c' m' n p' q' ∧ q < q' ∧ LXC c c' ∧ LXM m m') ∨ (∃ x c' m', f5_number F (nI lo) (nI hi) c = some (x, c') ∧ f11_numeral F (nI lo) (nI hi) m = some (nI lo, m') ∧ FO c' m' n ∧ LXC' c c' ∧ LXM' m m') := by
  obtain ⟨hT, hc, hm⟩ := id h
  have hne : ∀ x y : Int32, f5_failIf F x y c = if x = 0 then some c else f5_fail F y c := fun x y => by
    unfold f5_failIf
    cases f5_fail F y c <;> rfl
  have bad1 : ¬ c.1 31 0 = 1 → ¬ m.1 0 28 = 2 → ∃ x c' m', f5_number F (nI lo) (nI hi) c = some (x, c') ∧ f11_numeral F (nI lo) (nI hi) m = some (nI lo, m') ∧ FO c' m' n ∧ LXC' c c' ∧ LXM' m m' := by
    intro z1 z2
    obtain ⟨c1, c', m', g, e1, e2, e3, e4, e5, e6, e7, e8, e9, _⟩ := fo_step (F := F) hF h hS (f := 1) (by omega) (by omega)
    have e1' : f5_fail F (1 : Int32) c = some c1 := e1
    have e4' : f11_wrong F (1 : Int32) m = some m' := e4
    have hx := fun u v => x_failIf (F := F) e2 u v
    refine ⟨c1.1 31 2, c', m', ?_, ?_, e5, e6, e7⟩
    · unfold f5_number
      rw [if_neg z1]
      unfold f5_number_b17 f5_number_b40 f5_number_b45
      rw [hne, if_neg (by decide), e1', g_bs]
      simp only [hx, g_bs, g_let, e3, ite_self]
    · unfold f11_numeral
      rw [hm, if_pos nI00, if_neg z2, e4', g_bs]
      unfold f11_numeral_b46
      rw [if_neg e9]
  rcases hT.2.1 with ⟨k1, k2⟩ | ⟨k1, k2, a, b, ha, hb, hab⟩ | ⟨k1, k2, _⟩ | ⟨k1, k2, _⟩ | ⟨k1, k2, _⟩ | ⟨k1, k2⟩
  · exact Or.inr (bad1 (by rw [k1]; decide) (by rw [k2]; decide))
  · have ab : a < 2147483648 ∧ b < 2147483648 := by unfold NVN at hab; omega
    by_cases hin : lo ≤ b ∧ b ≤ hi
    · have eab : a = b := by unfold NVN at hab; omega
      subst eab
      obtain ⟨c', m', p', q', e1, e2, e3, e4, e5, e6⟩ := NC_lex h hF
      have hq : q < p := hT.2.2.2.2.2 (by rw [k1]; decide)
      refine Or.inl ⟨a, c', m', p', q', hin.1, hin.2, ?_, ?_, e3, by omega, e5, e6⟩
      · unfold f5_number
        rw [if_pos k1]
        unfold f5_number_b17 f5_number_b45
        rw [hne, if_pos rfl, g_bs, g_let_e, ha, if_pos ((g_leN (by omega) (by omega)).mpr hin.1), if_neg (fun z => by have := (g_ltN (by omega) (by omega)).mp z; omega), hne, if_pos rfl, g_bs, e1, g_bs]
      · unfold f11_numeral f11_numeral_b46
        rw [hm, if_pos nI00, if_pos k2, hb, if_pos ((g_leN (by omega) (by omega)).mpr hin.1), if_neg (fun z => by have := (g_ltN (by omega) (by omega)).mp z; omega), if_pos nI00, g_let_e, e2, g_bs]
    · right
      obtain ⟨c1, c', m', g, e1, e2, e3, e4, e5, e6, e7, e8, e9, _⟩ := fo_step (F := F) hF h hS (f := 2) (by omega) (by omega)
      have e1' : f5_fail F (2 : Int32) c = some c1 := e1
      have e4' : f11_wrong F (2 : Int32) m = some m' := e4
      have hina : ¬ (lo ≤ a ∧ a ≤ hi) := by unfold NVN at hab; omega
      refine ⟨nI a, c', m', ?_, ?_, e5, e6, e7⟩
      · have hb40 : f5_number_b45 F (nI lo) (nI hi) (nI a) (1 : Int32) c = some (nI a, c') := by
          unfold f5_number_b45
          rw [hne, if_neg (by decide), e1', g_bs, e3, g_bs]
        unfold f5_number
        rw [if_pos k1]
        unfold f5_number_b17 f5_number_b40
        rw [hne, if_pos rfl, g_bs, g_let_e, ha, hb40]
        by_cases z : lo ≤ a
        · rw [if_pos ((g_leN (by omega) (by omega)).mpr z), if_pos ((g_ltN (by omega) (by omega)).mpr (by omega))]
        · rw [if_neg (fun y => z ((g_leN (by omega) (by omega)).mp y))]
      · have hb41 : f11_numeral_b41 F (nI lo) (nI hi) m = some (nI lo, m') := by
          unfold f11_numeral_b41 f11_numeral_b46
          rw [e4', g_bs, if_neg e9]
        unfold f11_numeral
        rw [hm, if_pos nI00, if_pos k2, hb, hb41]
        by_cases z : lo ≤ b
        · rw [if_pos ((g_leN (by omega) (by omega)).mpr z), if_pos ((g_ltN (by omega) (by omega)).mpr (by omega))]
        · rw [if_neg (fun y => z ((g_leN (by omega) (by omega)).mp y))]
  · exact Or.inr (bad1 (by rw [k1]; decide) (by rw [k2]; decide))
  · exact Or.inr (bad1 (by rw [k1]; decide) (by rw [k2]; decide))
  · exact Or.inr (bad1 (by rw [k1]; decide) (by rw [k2]; decide))
  · exact Or.inr (bad1 (by rw [k1]; decide) (by rw [k2]; decide))
end L
