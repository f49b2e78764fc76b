/-! the formula: brackets; the last level; all levels -/
section L
variable {F : Nat} {c m c' m' c1 m1 c2 m2 : g_M} {n p q S r : Nat}
theorem SV_40 {x y : Int32} (h : SV x y) : (y = 40 ↔ x = 13) ∧ (y = 41 ↔ x = 14) ∧ (y = 59 ↔ x = 15) := by
  rcases h with ⟨h1, h2⟩ | ⟨h1, h2⟩ | ⟨h1, h2⟩ | ⟨h1, h2⟩ | ⟨h1, h2⟩ | ⟨h1, h2⟩ | ⟨h1, h2⟩ | ⟨h1, h2⟩ | ⟨h1, h2⟩ | ⟨h1, h2⟩ | ⟨h1, h2⟩ | ⟨h1, h2⟩ | ⟨h1, h2⟩ <;> subst h1 <;> subst h2 <;> decide
theorem tk_s (h : NC c m n p q) : (c.1 31 0 = 4 ↔ m.1 0 28 = 3) ∧ (m.1 0 28 = 3 → SV (c.1 31 2) (m.1 0 29)) := by
  rcases h.1.2.1 with ⟨k1, k2⟩ | ⟨k1, k2, _⟩ | ⟨k1, k2, _⟩ | ⟨k1, k2, _⟩ | ⟨k1, k2, k3⟩ | ⟨k1, k2⟩
  · rw [k1, k2]; exact ⟨by decide, fun z => absurd z (by decide)⟩
  · rw [k1, k2]; exact ⟨by decide, fun z => absurd z (by decide)⟩
  · rw [k1, k2]; exact ⟨by decide, fun z => absurd z (by decide)⟩
  · rw [k1, k2]; exact ⟨by decide, fun z => absurd z (by decide)⟩
  · rw [k1, k2]; exact ⟨by decide, fun _ => k3⟩
  · rw [k1, k2]; exact ⟨by decide, fun z => absurd z (by decide)⟩
/-- a bracket or the end, in the class, as in the reference -/
theorem q_sg (h : NC c m n p q) {a : Int32} {b : Int32} (hab : ∀ x y, SV x y → (y = b ↔ x = a)) : (m.1 0 28 = 3 ∧ m.1 0 29 = b → f8_isSign F a c = some (1 : Int32)) ∧ (¬ (m.1 0 28 = 3 ∧ m.1 0 29 = b) → f8_isSign F a c = some (0 : Int32)) := by
  obtain ⟨t1, t2⟩ := tk_s h
  unfold f8_isSign
  refine ⟨fun z => ?_, fun z => ?_⟩
  · rw [if_pos (t1.mpr z.1), if_pos ((hab _ _ (t2 z.1)).mp z.2)]
  · by_cases y : c.1 31 0 = (4 : Int32)
    · rw [if_pos y, if_neg (fun e => z ⟨t1.mp y, (hab _ _ (t2 (t1.mp y))).mpr e⟩)]
    · rw [if_neg y]
theorem g_sb1 {x : Nat} (h : x < 100) : nI (1 + x) - (1 : Int32) = nI x := by
  show nI (1 + x) - nI 1 = nI x
  rw [g_subN (by omega)]
  congr 1; omega
/-- an opening bracket, in both -/
theorem b_open (hF : 5000 < F) (hS : isT S) (h : NC c m n p q) {Q : List Nat} {w k v : Nat} (hp : PR c m S [] Q 1 w k) (hv : v + 2 ≤ q) (hqp : q < p) (hsg : f8_isSign F (13 : Int32) c = some (1 : Int32)) : (n13 Q = 8 ∧ ∃ mm, f11_wrong F (2 : Int32) m = some mm ∧ KO F S r v w n c m (some mm)) ∨ (n13 Q < 8 ∧ ∃ c2 m2 p2 q2, f11_token F (g_sI m 0 34 (nI (n13 Q + 1))) = some m2 ∧ LQ F S r v c = LQ F S r (v + 1) c2 ∧ NC c2 m2 n p2 q2 ∧ q < q2 ∧ v + 3 ≤ q2 ∧ PR c2 m2 S [] (13 :: Q) 1 w k ∧ FC c c2 S w ∧ FM m m2 w) := by
  have hSl := isT_le hS
  obtain ⟨a1, a2, a3, a4, a5, a6, a7, a8, a9, a10, a11, a12, a13, a14⟩ := id hp
  have hn := h.1.1.1.1
  have hpn := h.1.1.2.1
  have a12' : w + nop Q = k := by simpa using a12
  have hlen := n_len Q
  obtain ⟨i1, i2⟩ := q_it1 (F := F) (S := S) (r := r) hF (show v < 700 by omega) a3
  have hto : f1_takeOperand F c = (f1_takeOpen F c).bind (fun r5 => some (r5.1, r5.2)) := by
    unfold f1_takeOperand
    rw [hsg, g_bs, if_neg (by decide)]
  by_cases z : n13 Q = 8
  · left
    have e : f1_takeOperand F c = some (nI 2, c) := by
      rw [hto]
      unfold f1_takeOpen
      rw [a4, if_pos (show (8 : Int32) ≤ nI (n13 Q) from (g_leN (a := 8) (by omega) (by omega)).mpr (by omega)), g_bs]
      rfl
    obtain ⟨mm, g1, g2⟩ := KO_of (F := F) (S := S) (r := r) (v := v) (w := w) (f := 2) h hS (by omega) (by omega) (i2 c 2 (by omega) (by omega) e) (FC.r c) (fun j => rfl)
    exact ⟨z, mm, g1, g2⟩
  · right
    obtain ⟨d, hd⟩ : ∃ y, y = g_sI c 33 2 (nI (n13 Q + 1)) := ⟨_, rfl⟩
    have hst' : STK d Q := by
      obtain ⟨s1, s2, s3⟩ := (show STK c Q from a2)
      exact ⟨by rw [hd, sI_ne (by omega)]; exact s1, s2, CEL_fr s3 (fun i _ => by rw [hd, sI_o (by omega)])⟩
    obtain ⟨c1, e1, e2, e3, e4⟩ := q_push (F := F) (op := 13) hst' (by omega) (by omega)
    have e : f1_takeOperand F c = some ((0 : Int32), c1) := by
      rw [hto]
      unfold f1_takeOpen
      rw [a4, if_neg (show ¬ (8 : Int32) ≤ nI (n13 Q) from fun y => by have := (g_leN (a := 8) (by omega) (by omega)).mp y; omega), g_let_e, nI_s, ← hd, show f1_push F (13 : Int32) d = some c1 from e1, g_bs, g_bs]
    have b5 : ∀ o j, ¬ (o = 33 ∧ (j = 1 ∨ j = 2)) → ¬ o = 34 → c1.1 o j = c.1 o j := fun o j y1 y2 => by rw [e4 o j (by omega) (by omega), hd, sI_ne (by omega)]
    have h1 : NC c1 (g_sI m 0 34 (nI (n13 Q + 1))) n p q := NC_frm (NC_frc h (by funext j; exact b5 31 j (by omega) (by omega)) (by funext j; exact b5 1 j (by omega) (by omega)) (by funext j; exact b5 32 j (by omega) (by omega)) (b5 30 0 (by omega) (by omega))) (fun j y1 y2 => sI_ne (by omega)) (sI_o (by omega))
    obtain ⟨c2, m2, p2, q2, s1, s2, s3, s4, s5, s6⟩ := NC_lex h1 hF
    have cn : ∀ o j, ¬ o = 31 → c2.1 o j = c1.1 o j := fun o j y => s5.2 o j (by omega)
    have mn : ∀ o j, ¬ (o = 0 ∧ ((26 ≤ j ∧ j ≤ 29) ∨ j = 34)) → m2.1 o j = m.1 o j := fun o j y => by rw [s6.2 o j (by omega), sI_ne (by omega)]
    have n1 : n13 (13 :: Q) = n13 Q + 1 := by show (if 13 = 13 then 1 else 0) + n13 Q = _; rw [if_pos rfl]; omega
    have n2 : nop (13 :: Q) = nop Q := by show (if 13 = 13 then 0 else 1) + nop Q = _; rw [if_pos rfl]; omega
    have hst : STK c2 (13 :: Q) := by
      obtain ⟨x1, x2, x3⟩ := e2
      exact ⟨by rw [cn 33 1 (by omega)]; exact x1, x2, CEL_fr x3 (fun i _ => cn 34 i (by omega))⟩
    refine ⟨by omega, c2, m2, p2, q2, s2, i1 c1 c2 e s1, s3, by omega, by omega, ⟨by rw [s5.1, e3, hd]; exact a1, hst, by rw [cn 33 4 (by omega), b5 33 4 (by omega) (by omega)]; exact a3, by rw [cn 33 2 (by omega), e4 33 2 (by omega) (by omega), hd, sI_eq, n1], by rw [s6.2 0 34 (by omega), sI_eq, n1], by omega, by rw [cn (S + 9) 3 (by omega), b5 (S + 9) 3 (by omega) (by omega)]; exact a7, by rw [mn 0 35 (by omega)]; exact a8, a9, by rw [cn 33 3 (by omega), b5 33 3 (by omega) (by omega)]; exact a10, by rw [mn 2 17 (by omega)]; exact a11, by rw [n2]; exact a12, fun i hi => by rw [cn (S + 10) i (by omega), b5 (S + 10) i (by omega) (by omega), mn 20 _ (by omega), mn 21 _ (by omega)]; exact a13 i hi, trivial⟩, ⟨by rw [s5.1, e3, hd]; rfl, fun o j y1 y2 y3 y4 y5 => by rw [s5.2 o j y1]; exact b5 o j (by omega) y3⟩, fun o j y1 y2 y3 => mn o j (by omega)⟩
/-- a closing bracket, in both -/
theorem b_close (hF : 5000 < F) (hS : isT S) (h : NC c m n p q) {P Q : List Nat} {w k v : Nat} (hp : PR c m S P (13 :: Q) 0 w k) (hv : v + 2 ≤ q) (hqp : q < p) (hP : ∀ x, x ∈ P → 1 ≤ rk x) (hsg : f8_isSign F (14 : Int32) c = some (1 : Int32)) : ∃ c2 m2 p2 q2, f11_token F (g_sI m 0 34 (m.1 0 34 - (1 : Int32))) = some m2 ∧ LQ F S r v c = LQ F S r (v + 1) c2 ∧ NC c2 m2 n p2 q2 ∧ q < q2 ∧ v + 3 ≤ q2 ∧ PR c2 m2 S [] Q 0 (w + P.length) k ∧ FC c c2 S w ∧ FM m m2 (w + P.length) := by
  have hSl := isT_le hS
  obtain ⟨a1, a2, a3, a4, a5, a6, a7, a8, a9, a10, a11, a12, a13, a14⟩ := id hp
  have hn := h.1.1.1.1
  have hpn := h.1.1.2.1
  have n1 : n13 (13 :: Q) = 1 + n13 Q := by show (if 13 = 13 then 1 else 0) + n13 Q = _; rw [if_pos rfl]
  have n2 : nop (13 :: Q) = nop Q := by show (if 13 = 13 then 0 else 1) + nop Q = _; rw [if_pos rfl]; omega
  rw [n1] at a4 a5 a6
  rw [n2] at a12
  have hlen := n_len Q
  have hae : f1_isAtEnd F c = some (0 : Int32) := by
    unfold f1_isAtEnd
    rw [if_pos (show c.1 33 4 = (0 : Int32) from a3), a4, if_neg (show ¬ nI (1 + n13 Q) = (0 : Int32) from fun y => by have := (g_eqN (b := 0) (by omega) (by omega)).mp y; omega)]
  obtain ⟨i1, i2⟩ := q_it0 (F := F) (S := S) (r := r) hF (show v < 700 by omega) a3 hae (X := f1_takeClose F c) (by rw [hsg, g_bs, if_neg (by decide)])
  obtain ⟨d, hd⟩ : ∃ y, y = g_sI c 33 2 (nI (n13 Q)) := ⟨_, rfl⟩
  have hst' : STK d (P ++ 13 :: Q) := by
    obtain ⟨s1, s2, s3⟩ := a2
    exact ⟨by rw [hd, sI_ne (by omega)]; exact s1, s2, CEL_fr s3 (fun i _ => by rw [hd, sI_o (by omega)])⟩
  obtain ⟨c8, e1, e2, e3, e4, e5, e6⟩ := q_ww (F := F) (c := d) hF hS (r := 1) (by omega) (by omega) hst' (by rw [hd, sI_ne (by omega)]; exact a10) (by omega) hP (fun x l z => by
    have : 13 = x := (List.cons.inj z).1
    rw [← this]; decide) (by rw [hd]; exact a1)
  obtain ⟨c1, hc1⟩ : ∃ y, y = g_sI c8 33 1 (nI Q.length) := ⟨_, rfl⟩
  obtain ⟨s1, s2, s3⟩ := e2
  have hl : (13 :: Q).length = Q.length + 1 := rfl
  rw [hl] at s1 s2
  have e1' : nI (Q.length + 1) - (1 : Int32) = nI Q.length := by show nI (Q.length + 1) - nI 1 = _; rw [g_subN (by omega)]; rfl
  have e : f1_takeClose F c = some ((0 : Int32), c1) := by
    unfold f1_takeClose
    rw [a4, if_neg (show ¬ nI (1 + n13 Q) < (1 : Int32) from fun y => by have := (g_ltN (b := 1) (by omega) (by omega)).mp y; omega), g_sb1 (by omega), g_let_e, ← hd, show f1_writeWaiting F (1 : Int32) d = some c8 from e1, g_bs, s1, e1']
    by_cases y : 0 < Q.length
    · rw [if_pos (show (0 : Int32) < nI Q.length from (g_ltN (a := 0) (by omega) (by omega)).mpr y), g_let_e, ← hc1]
    · have : Q.length = 0 := by omega
      rw [if_neg (show ¬ (0 : Int32) < nI Q.length from fun x => y ((g_ltN (a := 0) (by omega) (by omega)).mp x)), g_let_e, hc1, this]
      rfl
  have b5 : ∀ o j, ¬ (o = 33 ∧ (j = 1 ∨ j = 2 ∨ j = 3)) → ¬ (o = S + 10 ∧ w ≤ j) → c1.1 o j = c.1 o j := fun o j y1 y2 => by rw [hc1, sI_ne (by omega), e6 o j (by omega) y2, hd, sI_ne (by omega)]
  have h1 : NC c1 (g_sI m 0 34 (m.1 0 34 - (1 : Int32))) n p q := NC_frm (NC_frc h (by funext j; exact b5 31 j (by omega) (by omega)) (by funext j; exact b5 1 j (by omega) (by omega)) (by funext j; exact b5 32 j (by omega) (by omega)) (b5 30 0 (by omega) (by omega))) (fun j y1 y2 => sI_ne (by omega)) (sI_o (by omega))
  obtain ⟨c2, m2, p2, q2, t1, t2, t3, t4, t5, t6⟩ := NC_lex h1 hF
  have cn : ∀ o j, ¬ o = 31 → c2.1 o j = c1.1 o j := fun o j y => t5.2 o j (by omega)
  have mn : ∀ o j, ¬ (o = 0 ∧ ((26 ≤ j ∧ j ≤ 29) ∨ j = 34)) → m2.1 o j = m.1 o j := fun o j y => by rw [t6.2 o j (by omega), sI_ne (by omega)]
  have hst : STK c2 Q := by
    exact ⟨by rw [cn 33 1 (by omega), hc1, sI_eq], by omega, CEL_fr s3.2.2 (fun i _ => by rw [cn 34 i (by omega), hc1, sI_o (by omega)])⟩
  have cr1 : c1.2 = c.2 := by rw [hc1]; show c8.2 = c.2; rw [e5, hd]; rfl
  refine ⟨c2, m2, p2, q2, t2, i1 c1 c2 e t1, t3, by omega, by omega, ⟨by rw [t5.1, cr1]; exact a1, hst, by rw [cn 33 4 (by omega), b5 33 4 (by omega) (by omega)]; exact a3, by rw [cn 33 2 (by omega), hc1, sI_ne (by omega), e6 33 2 (by omega) (by omega), hd, sI_eq], by rw [t6.2 0 34 (by omega), sI_eq, a5]; exact g_sb1 (by omega), by omega, by rw [cn (S + 9) 3 (by omega), b5 (S + 9) 3 (by omega) (by omega)]; exact a7, by rw [mn 0 35 (by omega)]; exact a8, a9, by rw [cn 33 3 (by omega), hc1, sI_ne (by omega)]; exact e3, by rw [mn 2 17 (by omega)]; exact a11, by show w + P.length + 0 + nop Q = k; omega, fun i hi => ?_, trivial⟩, ⟨by rw [t5.1]; exact cr1, fun o j y1 y2 y3 y4 y5 => by rw [t5.2 o j y1]; exact b5 o j (by omega) y5⟩, fun o j y1 y2 y3 => mn o j (by omega)⟩
  rw [cn (S + 10) i (by omega), mn 20 _ (by omega), mn 21 _ (by omega), hc1, sI_o (by omega)]
  by_cases y : i < w
  · rw [e6 (S + 10) i (by omega) (by omega), hd, sI_o (by omega)]; exact a13 i y
  · exact COD_PEN w e4 a14 i (by omega) hi
end L
