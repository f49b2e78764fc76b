/-! the formula: the class's loop; an operator in both; putting one -/
section L
variable {F : Nat} {c m c' m' c1 m1 c2 m2 : g_M} {n p q S r : Nat}
def LQ (F S r v : Nat) (c : g_M) : Option (Int32 × g_M) := g_fix (fun sf x => f1_reads_b46_body F (S + 9) (nI r) (fun v3 mem => sf (v3, mem)) x.1 x.2) (F - v) (nI v, c)
/-- a turn with an operand due -/
theorem q_it1 (hF : 5000 < F) {v : Nat} (hv : v < 700) (hd : c.1 33 4 = nI 1) : (∀ c1 c2, f1_takeOperand F c = some ((0 : Int32), c1) → f8_step F c1 = some c2 → LQ F S r v c = LQ F S r (v + 1) c2) ∧ (∀ c1 f, 1 ≤ f → f ≤ 4 → f1_takeOperand F c = some (nI f, c1) → LQ F S r v c = some (nI f, c1)) := by
  have h700 : nI v < (700 : Int32) := (g_ltN (b := 700) (by omega) (by omega)).mpr hv
  have hae : f1_isAtEnd F c = some (0 : Int32) := by
    unfold f1_isAtEnd
    rw [if_neg (by rw [hd]; decide)]
  refine ⟨fun c1 c2 h1 h2 => ?_, fun c1 f g1 g2 h1 => ?_⟩
  · unfold LQ
    rw [g_fix_p (by omega), show F - v - 1 = F - (v + 1) by omega]
    generalize g_fix (fun sf x => f1_reads_b46_body F (S + 9) (nI r) (fun v3 mem => sf (v3, mem)) x.1 x.2) (F - (v + 1)) = sf
    show f1_reads_b46_body F (S + 9) (nI r) (fun v3 mem => sf (v3, mem)) (nI v) c = sf (nI (v + 1), c2)
    unfold f1_reads_b46_body f1_reads_b101
    rw [if_pos h700, hae, g_bs, if_pos rfl, if_neg (show ¬ c.1 33 4 = (0 : Int32) by rw [hd]; decide), h1, g_bs, g_let_e, if_pos rfl, h2, g_bs, g_let_e, nI_s]
  · unfold LQ
    rw [g_fix_p (by omega)]
    generalize g_fix (fun sf x => f1_reads_b46_body F (S + 9) (nI r) (fun v3 mem => sf (v3, mem)) x.1 x.2) (F - v - 1) = sf
    show f1_reads_b46_body F (S + 9) (nI r) (fun v3 mem => sf (v3, mem)) (nI v) c = some (nI f, c1)
    unfold f1_reads_b46_body f1_reads_b101
    rw [if_pos h700, hae, g_bs, if_pos rfl, if_neg (show ¬ c.1 33 4 = (0 : Int32) by rw [hd]; decide), h1, g_bs, g_let_e, if_neg (nz g1 g2)]
/-- a turn with an operator due, not at the end -/
theorem q_it0 (hF : 5000 < F) {v : Nat} (hv : v < 700) (hd : c.1 33 4 = nI 0) (hae : f1_isAtEnd F c = some (0 : Int32)) {X : Option (Int32 × g_M)} (hX : (f8_isSign F (14 : Int32) c).bind (fun r14 => if r14 = (0 : Int32) then f1_takeOperator F c else f1_takeClose F c) = X) : (∀ c1 c2, X = some ((0 : Int32), c1) → f8_step F c1 = some c2 → LQ F S r v c = LQ F S r (v + 1) c2) ∧ (∀ c1 f, 1 ≤ f → f ≤ 4 → X = some (nI f, c1) → LQ F S r v c = some (nI f, c1)) := by
  have h700 : nI v < (700 : Int32) := (g_ltN (b := 700) (by omega) (by omega)).mpr hv
  obtain ⟨b, hb⟩ : ∃ b, f8_isSign F (14 : Int32) c = some b := by
    unfold f8_isSign
    split
    · split
      · exact ⟨_, rfl⟩
      · exact ⟨_, rfl⟩
    · exact ⟨_, rfl⟩
  rw [hb, g_bs] at hX
  have key : ∀ sf : Int32 × g_M → Option (Int32 × g_M), f1_reads_b46_body F (S + 9) (nI r) (fun v3 mem => sf (v3, mem)) (nI v) c = X.bind (fun x => f1_reads_b101 F (S + 9) (nI r) (fun v3 mem => sf (v3, mem)) (nI v) x.1 x.2) := by
    intro sf
    unfold f1_reads_b46_body f1_reads_b99
    rw [if_pos h700, hae, g_bs, if_pos rfl, if_pos (show c.1 33 4 = (0 : Int32) from hd), hb, g_bs, ← hX]
    split <;> rfl
  refine ⟨fun c1 c2 h1 h2 => ?_, fun c1 f g1 g2 h1 => ?_⟩
  · unfold LQ
    rw [g_fix_p (by omega), show F - v - 1 = F - (v + 1) by omega]
    generalize g_fix (fun sf x => f1_reads_b46_body F (S + 9) (nI r) (fun v3 mem => sf (v3, mem)) x.1 x.2) (F - (v + 1)) = sf
    show f1_reads_b46_body F (S + 9) (nI r) (fun v3 mem => sf (v3, mem)) (nI v) c = sf (nI (v + 1), c2)
    rw [key, h1, g_bs]
    unfold f1_reads_b101
    rw [if_pos rfl, h2, g_bs, g_let_e, nI_s]
  · unfold LQ
    rw [g_fix_p (by omega)]
    generalize g_fix (fun sf x => f1_reads_b46_body F (S + 9) (nI r) (fun v3 mem => sf (v3, mem)) x.1 x.2) (F - v - 1) = sf
    show f1_reads_b46_body F (S + 9) (nI r) (fun v3 mem => sf (v3, mem)) (nI v) c = some (nI f, c1)
    rw [key, h1, g_bs]
    unfold f1_reads_b101
    rw [if_neg (nz g1 g2)]
/-- both have found the same fault at the same place -/
def KO (F S r v w n : Nat) (c m : g_M) (X : Option g_M) : Prop := ∃ c' m' f q', LQ F S r v c = some (nI f, c') ∧ X = some m' ∧ 1 ≤ f ∧ f ≤ 4 ∧ q' ≤ 700 ∧ m'.1 0 30 = nI f ∧ m'.1 0 31 = nI q' ∧ c'.1 31 1 = nI q' ∧ c'.1 30 0 = nI 0 ∧ LCx c' m' n ∧ FC c c' S w ∧ FMK m m' w
theorem KO.flt {v w : Nat} {X : Option g_M} (h : KO F S r v w n c m X) : ∃ m', X = some m' ∧ ¬ m'.1 0 30 = (0 : Int32) := by
  obtain ⟨c', m', f, q', _, e2, e3, e4, _, e6, _⟩ := h
  exact ⟨m', e2, by rw [e6]; exact nz e3 e4⟩
/-- the fault, from what the class answers -/
theorem KO_of {v w f : Nat} (h : NC c m n p q) (hS : isT S) (h1 : 1 ≤ f) (h2 : f ≤ 4) (hL : LQ F S r v c = some (nI f, c1)) (hc : FC c c1 S w) (h31 : ∀ k, c1.1 31 k = c.1 31 k) : ∃ m', f11_wrong F (nI f) m = some m' ∧ KO F S r v w n c m (some m') := by
  have hSl := isT_le hS
  obtain ⟨c9, m', e1, e2, e3, e4, e5, e6, e7⟩ := fo_of (F := F) h h1 h2
  obtain ⟨⟨hL', hk, q1, q2, q3, q4⟩, hcc, hm⟩ := id h
  have hn := hL'.1.1
  have hpn := hL'.2.1
  have hw : m' = g_sI (g_sI m 0 30 (nI f)) 0 31 (nI q) := by
    have : f11_wrong F (nI f) m = some (g_sI (g_sI m 0 30 (nI f)) 0 31 (nI q)) := by
      unfold f11_wrong
      rw [hm, if_pos nI00, g_let_e, g_let_e, sI_ne (by omega), q2]
    rw [e2] at this
    exact Option.some.inj this
  refine ⟨m', e2, c1, m', f, q, hL, rfl, h1, h2, by omega, by rw [hw, sI_ne (by omega), sI_eq], by rw [hw, sI_eq], by rw [h31]; exact q1, by rw [hc.2 30 0 (by omega) (by omega) (by omega) (by omega) (by omega)]; exact hcc, LCx_fr (LPx_C hL') (by funext k; exact hc.2 1 k (by omega) (by omega) (by omega) (by omega) (by omega)) (by funext k; exact hc.2 32 k (by omega) (by omega) (by omega) (by omega) (by omega)) (by rw [hw, sI_o (by omega), sI_o (by omega)]) (h31 4) (h31 5), hc, fun o k y1 _ _ => e7 o k (by omega)⟩
/-- KO seen from ahead -/
theorem KO.pre {v v' w w' : Nat} {X : Option g_M} (h : KO F S r v' w' n c' m' X) (hL : LQ F S r v c = LQ F S r v' c') (hc : FC c c' S w) (hm : FM m m' w) (hw : w ≤ w') : KO F S r v w n c m X := by
  obtain ⟨d, e, f, q', e1, e2, e3, e4, e5, e6, e7, e8, e9, e10, e11, e12⟩ := h
  exact ⟨d, e, f, q', hL.trans e1, e2, e3, e4, e5, e6, e7, e8, e9, e10, hc.tr e11 hw, hm.trK e12 hw⟩
/-- an operator, in both -/
theorem r_wr (h : NC c m n p q) (hk : m.1 0 35 = nI 64) : f11_knot F m = f11_wrong F (2 : Int32) m := by
  unfold f11_knot
  rw [h.2.2, if_pos nI00, hk, if_pos (show nI 64 = (64 : Int32) from rfl)]
  cases f11_wrong F (2 : Int32) m <;> rfl
theorem b_op (hF : 5000 < F) (hS : isT S) (h : NC c m n p q) {P Q : List Nat} {w k v op : Nat} (hp : PR c m S P Q 0 w k) (hv : v + 2 ≤ q) (ho : OPT c m op) (hP : ∀ x, x ∈ P → (if rk op = 4 then 5 else rk op) ≤ rk x) (hQ : ∀ x l, Q = x :: l → rk x < rk op) : (∃ mm, f11_knot F m = some mm ∧ KO F S r v w n c m (some mm)) ∨ (∃ m1 c2 m2 p2 q2, f11_knot F m = some m1 ∧ f11_goOn F m1 = some m2 ∧ m1.1 0 29 = m.1 0 29 ∧ LQ F S r v c = LQ F S r (v + 1) c2 ∧ NC c2 m2 n p2 q2 ∧ q < q2 ∧ v + 3 ≤ q2 ∧ PR c2 m2 S [] (op :: Q) 1 (w + P.length) (k + 1) ∧ FC c c2 S w ∧ FM m m2 (w + P.length)) := by
  have hSl := isT_le hS
  have hlt := OPT_lt ho
  obtain ⟨c1, f1, f2, f3⟩ := q_op (F := F) hF hS hp ho hP hQ
  obtain ⟨a1, a2, a3, a4, a5, a6, a7, a8, a9, a10, a11, a12, a13, a14⟩ := id hp
  obtain ⟨⟨hL', hk, q1, q2, q3, q4⟩, hcc, hm⟩ := id h
  have hn := hL'.1.1
  have hpn := hL'.2.1
  have nz0 : ¬ c.1 31 0 = 0 := by
    rcases ho with ⟨_, z, _⟩ | ⟨_, z, _⟩ | ⟨_, z, _⟩ <;> rw [z] <;> decide
  have hqp := q4 nz0
  have hsg : ∀ s : Nat, 13 ≤ s → s < 20 → f8_isSign F (nI s) c = some (0 : Int32) := fun s s1 s2 => by
    unfold f8_isSign
    rcases ho with ⟨z1, z, y, _⟩ | ⟨_, z, _⟩ | ⟨_, z, _⟩
    · rw [if_pos z, y, if_neg (fun x => by have := (g_eqN (by omega) (by omega)).mp x; omega)]
    · rw [if_neg (by rw [z]; decide)]
    · rw [if_neg (by rw [z]; decide)]
  have hae : f1_isAtEnd F c = some (0 : Int32) := by
    unfold f1_isAtEnd
    rw [if_pos (show c.1 33 4 = (0 : Int32) from a3), show f8_isSign F (15 : Int32) c = some (0 : Int32) from hsg 15 (by omega) (by omega), g_bs, if_pos rfl, ite_self]
  obtain ⟨i1, i2⟩ := q_it0 (F := F) (S := S) (r := r) hF (show v < 700 by omega) a3 hae (X := f1_takeOperator F c) (by rw [show f8_isSign F (14 : Int32) c = some (0 : Int32) from hsg 14 (by omega) (by omega), g_bs, if_pos rfl])
  have hFC : FC c c1 S w := ⟨f2, fun o j y1 y2 y3 y4 y5 => f1 o j y2 y3 y4 y5⟩
  rcases f3 with ⟨z, e⟩ | ⟨z, e, e2, e3, e4, e5, e6, e7⟩
  · left
    obtain ⟨mm, g1, g2⟩ := KO_of (F := F) (S := S) (r := r) (v := v) (w := w) (f := 2) h hS (by omega) (by omega) (i2 c1 2 (by omega) (by omega) e) hFC (fun j => f1 31 j (by omega) (by omega) (by omega) (by omega))
    refine ⟨mm, ?_, g2⟩
    rw [r_wr h (by rw [a8, z])]
    exact g1
  · right
    have hk1 := r_knot (F := F) (m := m) (k := k) hm a8 z
    have h1 : NC c1 (g_sI m 0 35 (nI (k + 1))) n p q := NC_frm (NC_frc h (by funext j; exact f1 31 j (by omega) (by omega) (by omega) (by omega)) (by funext j; exact f1 1 j (by omega) (by omega) (by omega) (by omega)) (by funext j; exact f1 32 j (by omega) (by omega) (by omega) (by omega)) (f1 30 0 (by omega) (by omega) (by omega) (by omega))) (fun j y1 y2 => sI_ne (by omega)) (sI_o (by omega))
    obtain ⟨c2, m2, p2, q2, s1, s2, s3, s4, s5, s6⟩ := NC_lex h1 hF
    have cn : ∀ o j, ¬ o = 31 → c2.1 o j = c1.1 o j := fun o j y => s5.2 o j (by omega)
    have mn : ∀ o j, ¬ (o = 0 ∧ ((26 ≤ j ∧ j ≤ 29) ∨ j = 35)) → m2.1 o j = m.1 o j := fun o j y => by rw [s6.2 o j (by omega), sI_ne (by omega)]
    refine ⟨_, c2, m2, p2, q2, hk1, ?_, sI_ne (by omega), i1 c1 c2 e s1, s3, by omega, by omega, ?_, hFC.tr (FC.l s5) (Nat.le_refl _), fun o j y1 y2 y3 => mn o j (by omega)⟩
    · unfold f11_goOn
      rw [h1.2.2, if_pos nI00, s2, g_bs]
    · have n1 : n13 (op :: Q) = n13 Q := by show (if op = 13 then 1 else 0) + n13 Q = _; rw [if_neg (by omega)]; omega
      have n2 : nop (op :: Q) = 1 + nop Q := by show (if op = 13 then 0 else 1) + nop Q = _; rw [if_neg (by omega)]
      have hst : STK c2 (op :: Q) := by
        obtain ⟨x1, x2, x3⟩ := e2
        exact ⟨by rw [cn 33 1 (by omega)]; exact x1, x2, CEL_fr x3 (fun i _ => cn 34 i (by omega))⟩
      refine ⟨by rw [s5.1, f2]; exact a1, hst, by rw [cn 33 4 (by omega)]; exact e5, by rw [cn 33 2 (by omega), e6, n1]; exact a4, by rw [mn 0 34 (by omega), n1]; exact a5, by rw [n1]; exact a6, by rw [cn (S + 9) 3 (by omega)]; exact e7, by rw [s6.2 0 35 (by omega), sI_eq], by omega, by rw [cn 33 3 (by omega)]; exact e3, by rw [mn 2 17 (by omega)]; exact a11, by rw [n2]; show w + P.length + 0 + (1 + nop Q) = k + 1; omega, fun i hi => ?_, trivial⟩
      rw [cn (S + 10) i (by omega), mn 20 _ (by omega), mn 21 _ (by omega)]
      by_cases y : i < w
      · rw [f1 (S + 10) i (by omega) (by omega) (by omega) (by omega)]; exact a13 i y
      · exact COD_PEN w e4 a14 i (by omega) hi
/-- putting the operator that waits below P -/
theorem b_put (h : NC c m n p q) (hS : isT S) {P Q : List Nat} {w k op : Nat} (hp : PR c m S P (op :: Q) 0 w k) (hop : op < 13) : ∃ m', f11_puts F (2 : Int32) (opM op) m = some m' ∧ NC c m' n p q ∧ PR c m' S (P ++ [op]) Q 0 w k ∧ m'.1 20 (64 + (w + P.length)) = 2 ∧ m'.1 21 (64 + (w + P.length)) = opM op ∧ FM m m' (w + P.length) ∧ ∀ j, m'.1 0 j = m.1 0 j := by
  have hSl := isT_le hS
  obtain ⟨a1, a2, a3, a4, a5, a6, a7, a8, a9, a10, a11, a12, a13, a14⟩ := id hp
  have n1 : n13 (op :: Q) = n13 Q := by show (if op = 13 then 1 else 0) + n13 Q = _; rw [if_neg (by omega)]; omega
  have n2 : nop (op :: Q) = 1 + nop Q := by show (if op = 13 then 0 else 1) + nop Q = _; rw [if_neg (by omega)]
  rw [n2] at a12
  obtain ⟨m', hm'⟩ : ∃ y, y = g_sI (g_sI (g_sI m 20 (64 + (w + P.length)) (2 : Int32)) 21 (64 + (w + P.length)) (opM op)) 2 17 (nI (w + P.length + 1)) := ⟨_, rfl⟩
  have mn : ∀ o j, ¬ (o = 2 ∧ j = 17) → ¬ ((o = 20 ∨ o = 21) ∧ j = 64 + (w + P.length)) → m'.1 o j = m.1 o j := fun o j y1 y2 => by rw [hm', sI_ne y1, sI_ne (by omega), sI_ne (by omega)]
  have x20 : m'.1 20 (64 + (w + P.length)) = 2 := by rw [hm', sI_o (by omega), sI_o (by omega), sI_eq]
  have x21 : m'.1 21 (64 + (w + P.length)) = opM op := by rw [hm', sI_o (by omega), sI_eq]
  refine ⟨m', by rw [hm']; exact r_puts h.2.2 a11 (by omega) _ _, NC_frm h (fun j _ _ => mn 0 j (by omega) (by omega)) (by funext j; exact mn 1 j (by omega) (by omega)), ?_, x20, x21, fun o j y1 y2 y3 => mn o j y2 (by omega), fun j => mn 0 j (by omega) (by omega)⟩
  have hl : (P ++ [op]).length = P.length + 1 := by simp
  refine ⟨a1, by rw [List.append_assoc]; exact a2, a3, by rw [← n1]; exact a4, by rw [mn 0 34 (by omega) (by omega), ← n1]; exact a5, by rw [← n1]; exact a6, a7, by rw [mn 0 35 (by omega) (by omega)]; exact a8, a9, a10, by rw [hm', sI_eq, hl]; rfl, by rw [hl]; omega, fun i hi => by rw [mn 20 _ (by omega) (by omega), mn 21 _ (by omega) (by omega)]; exact a13 i hi, PEN_add w (PEN_fr w a14 (fun i y1 y2 => ⟨mn 20 i (by omega) (by omega), mn 21 i (by omega) (by omega)⟩)) x20 x21 hop⟩
end L
