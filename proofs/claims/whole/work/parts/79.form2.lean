/-! the formula: an operator in both -/
section L
variable {F : Nat} {c m c' m' c1 m1 : g_M} {n p q S f : Nat}
def n13 : List Nat → Nat
  | [] => 0
  | x :: l => (if x = 13 then 1 else 0) + n13 l
def nop : List Nat → Nat
  | [] => 0
  | x :: l => (if x = 13 then 0 else 1) + nop l
theorem n_len (l : List Nat) : l.length = n13 l + nop l := by
  induction l with
  | nil => rfl
  | cons a l ih =>
    show l.length + 1 = ((if a = 13 then 1 else 0) + n13 l) + ((if a = 13 then 0 else 1) + nop l)
    by_cases h : a = 13
    · rw [if_pos h, if_pos h]; omega
    · rw [if_neg h, if_neg h]; omega
/-- what the reference has put ahead -/
def PEN (m : g_M) (w : Nat) : List Nat → Prop
  | [] => True
  | op :: l => m.1 20 (64 + w) = 2 ∧ m.1 21 (64 + w) = opM op ∧ op < 13 ∧ PEN m (w + 1) l
def PR (c m : g_M) (S : Nat) (P Q : List Nat) (du w k : Nat) : Prop := c.2.2 33 6 = some (S + 9) ∧ STK c (P ++ Q) ∧ c.1 33 4 = nI du ∧ c.1 33 2 = nI (n13 Q) ∧ m.1 0 34 = nI (n13 Q) ∧ n13 Q ≤ 8 ∧ c.1 (S + 9) 3 = nI k ∧ m.1 0 35 = nI k ∧ k ≤ 64 ∧ c.1 33 3 = nI w ∧ m.1 2 17 = nI (w + P.length) ∧ w + P.length + nop Q = k ∧ (∀ i, i < w → c.1 (S + 10) i = enc (m.1 20 (64 + i)) (m.1 21 (64 + i))) ∧ PEN m w P
def FC (c c' : g_M) (S w : Nat) : Prop := c'.2 = c.2 ∧ ∀ o k, ¬ (o = 31 ∧ (k = 0 ∨ k = 1 ∨ k = 2 ∨ k = 5)) → ¬ (o = 33 ∧ 1 ≤ k ∧ k ≤ 4) → ¬ o = 34 → ¬ (o = S + 9 ∧ k = 3) → ¬ (o = S + 10 ∧ w ≤ k) → c'.1 o k = c.1 o k
def FMK (m m' : g_M) (w : Nat) : Prop := ∀ o k, ¬ (o = 0 ∧ ((26 ≤ k ∧ k ≤ 31) ∨ k = 34 ∨ k = 35)) → ¬ (o = 2 ∧ k = 17) → ¬ ((o = 20 ∨ o = 21) ∧ 64 + w ≤ k) → m'.1 o k = m.1 o k
def FM (m m' : g_M) (w : Nat) : Prop := ∀ o k, ¬ (o = 0 ∧ ((26 ≤ k ∧ k ≤ 29) ∨ k = 34 ∨ k = 35)) → ¬ (o = 2 ∧ k = 17) → ¬ ((o = 20 ∨ o = 21) ∧ 64 + w ≤ k) → m'.1 o k = m.1 o k
theorem FC.tr {a b d : g_M} {w w' : Nat} (h : FC a b S w) (h' : FC b d S w') (hw : w ≤ w') : FC a d S w := ⟨h'.1.trans h.1, fun o k y1 y2 y3 y4 y5 => (h'.2 o k y1 y2 y3 y4 (by omega)).trans (h.2 o k y1 y2 y3 y4 y5)⟩
theorem FM.tr {a b d : g_M} {w w' : Nat} (h : FM a b w) (h' : FM b d w') (hw : w ≤ w') : FM a d w := fun o k y1 y2 y3 => (h' o k y1 y2 (by omega)).trans (h o k y1 y2 y3)
theorem FM.trK {a b d : g_M} {w w' : Nat} (h : FM a b w) (h' : FMK b d w') (hw : w ≤ w') : FMK a d w := fun o k y1 y2 y3 => (h' o k y1 y2 (by omega)).trans (h o k (by omega) y2 y3)
theorem FM.K {a b : g_M} {w : Nat} (h : FM a b w) : FMK a b w := fun o k y1 y2 y3 => h o k (by omega) y2 y3
theorem FC.r (c : g_M) {w : Nat} : FC c c S w := ⟨rfl, fun _ _ _ _ _ _ _ => rfl⟩
theorem FM.r (m : g_M) {w : Nat} : FM m m w := fun _ _ _ _ _ => rfl
theorem FC.l {w : Nat} (h : LXC c c') : FC c c' S w := ⟨h.1, fun o k y1 _ _ _ _ => h.2 o k y1⟩
theorem FM.l {w : Nat} (h : LXM m m') : FM m m' w := fun o k y1 _ _ => h.2 o k (by omega)
theorem PEN_fr {l : List Nat} : ∀ w, PEN m w l → (∀ i, 64 + w ≤ i → i < 64 + w + l.length → m'.1 20 i = m.1 20 i ∧ m'.1 21 i = m.1 21 i) → PEN m' w l := by
  induction l with
  | nil => intro w _ _; trivial
  | cons a l ih =>
    intro w h he
    obtain ⟨h1, h2, h3, h4⟩ := h
    have e := he (64 + w) (by omega) (by simp)
    exact ⟨by rw [e.1]; exact h1, by rw [e.2]; exact h2, h3, ih (w + 1) h4 (fun i y1 y2 => he i (by omega) (by simp; omega))⟩
theorem PEN_add {l : List Nat} {op : Nat} : ∀ w, PEN m w l → m.1 20 (64 + (w + l.length)) = 2 → m.1 21 (64 + (w + l.length)) = opM op → op < 13 → PEN m w (l ++ [op]) := by
  induction l with
  | nil => intro w _ h1 h2 h3; exact ⟨h1, h2, h3, trivial⟩
  | cons a l ih =>
    intro w h h1 h2 h3
    obtain ⟨g1, g2, g3, g4⟩ := h
    have e : w + (a :: l).length = w + 1 + l.length := by show w + (l.length + 1) = _; omega
    rw [e] at h1 h2
    exact ⟨g1, g2, g3, ih (w + 1) g4 h1 h2 h3⟩
/-- what the class writes is what the reference has put -/
theorem COD_PEN {l : List Nat} : ∀ w, COD c S w l → PEN m w l → ∀ i, w ≤ i → i < w + l.length → c.1 (S + 10) i = enc (m.1 20 (64 + i)) (m.1 21 (64 + i)) := by
  induction l with
  | nil => intro w _ _ i h1 h2; exact absurd h2 (by simp; omega)
  | cons a l ih =>
    intro w h1 h2 i y1 y2
    have e : w + (a :: l).length = w + 1 + l.length := by show w + (l.length + 1) = _; omega
    rw [e] at y2
    by_cases z : i = w
    · subst z
      rw [h1.1, h2.1, h2.2.1]
      exact (enc_op' ⟨a, h2.2.2.1⟩).symm
    · exact ih (w + 1) h1.2 h2.2.2.2 i (by omega) y2
def OPT (c m : g_M) (op : Nat) : Prop := (op ≤ 9 ∧ c.1 31 0 = 4 ∧ c.1 31 2 = nI op ∧ m.1 0 28 = 3 ∧ m.1 0 29 = opM op) ∨ (op = 10 ∧ c.1 31 0 = 3 ∧ c.1 31 2 = nI 13 ∧ m.1 0 28 = 0 ∧ m.1 0 29 = nI 13) ∨ (op = 11 ∧ c.1 31 0 = 3 ∧ c.1 31 2 = nI 12 ∧ m.1 0 28 = 0 ∧ m.1 0 29 = nI 12)
theorem OPT_lt {op : Nat} (h : OPT c m op) : op < 12 := by unfold OPT at h; omega
theorem q_opH {op : Nat} (h : OPT c m op) : f1_operatorHere F c = some (nI op) := by
  unfold f1_operatorHere f1_operatorHere_b31 f8_isWord
  rcases h with ⟨a1, a2, a3, _⟩ | ⟨a1, a2, a3, _⟩ | ⟨a1, a2, a3, _⟩
  · rw [if_pos a2, a3, if_pos (show nI op ≤ (9 : Int32) from (g_leN (b := 9) (by omega) (by omega)).mpr a1)]
  · subst a1
    rw [if_neg (show ¬ c.1 31 0 = (4 : Int32) by rw [a2]; decide), if_pos a2, if_pos (show c.1 31 2 = (13 : Int32) from a3), g_bs, if_neg (by decide)]
    rfl
  · subst a1
    rw [if_neg (show ¬ c.1 31 0 = (4 : Int32) by rw [a2]; decide), if_pos a2, if_neg (show ¬ c.1 31 2 = (13 : Int32) by rw [a3]; decide), g_bs, if_pos rfl, if_pos a2, if_pos (show c.1 31 2 = (12 : Int32) from a3), g_bs, if_neg (by decide)]
    rfl
theorem q_tk (hS : isT S) {l : List Nat} {k op : Nat} (hrf : c.2.2 33 6 = some (S + 9)) (hk : c.1 (S + 9) 3 = nI k) (hk64 : k ≤ 64) (hst : STK c l) (hop : op < 14) : (k = 64 → f1_takeKnot F (nI op) c = some ((2 : Int32), c)) ∧ (k < 64 → l.length < 72 → ∃ c', f1_takeKnot F (nI op) c = some ((0 : Int32), c') ∧ STK c' (op :: l) ∧ c'.1 (S + 9) 3 = nI (k + 1) ∧ c'.2 = c.2 ∧ ∀ o j, ¬ (o = 33 ∧ j = 1) → ¬ o = 34 → ¬ (o = S + 9 ∧ j = 3) → c'.1 o j = c.1 o j) := by
  have hSl := isT_le hS
  refine ⟨fun z => ?_, fun z hl => ?_⟩
  · unfold f1_takeKnot
    rw [g_drL hrf hS, hk, if_pos (show (64 : Int32) ≤ nI k from (g_leN (a := 64) (by omega) (by omega)).mpr (by omega))]
  · obtain ⟨d, hd⟩ : ∃ y, y = g_sI c (S + 9) 3 (nI (k + 1)) := ⟨_, rfl⟩
    have hst' : STK d l := by
      obtain ⟨s1, s2, s3⟩ := hst
      exact ⟨by rw [hd, sI_o (by omega)]; exact s1, s2, CEL_fr s3 (fun i _ => by rw [hd, sI_o (by omega)])⟩
    obtain ⟨c', e1, e2, e3, e4⟩ := q_push (F := F) hst' hop hl
    refine ⟨c', ?_, e2, by rw [e4 (S + 9) 3 (by omega) (by omega), hd, sI_eq], by rw [e3, hd]; rfl, fun o j y1 y2 y3 => by rw [e4 o j y1 (by omega), hd, sI_ne y3]⟩
    unfold f1_takeKnot
    rw [g_drL hrf hS, hk, if_neg (show ¬ (64 : Int32) ≤ nI k from fun y => by have := (g_leN (a := 64) (by omega) (by omega)).mp y; omega), g_drL hrf hS, hk, g_let_e, nI_s, ← hd, e1, g_bs]
/-- an operator, in the class -/
theorem q_op (hF : 5000 < F) (hS : isT S) {P Q : List Nat} {w k op : Nat} (h : PR c m S P Q 0 w k) (ho : OPT c m op) (hP : ∀ x, x ∈ P → (if rk op = 4 then 5 else rk op) ≤ rk x) (hQ : ∀ x l, Q = x :: l → rk x < rk op) : ∃ c1, (∀ o j, ¬ (o = 33 ∧ 1 ≤ j ∧ j ≤ 4) → ¬ o = 34 → ¬ (o = S + 9 ∧ j = 3) → ¬ (o = S + 10 ∧ w ≤ j) → c1.1 o j = c.1 o j) ∧ c1.2 = c.2 ∧ ((k = 64 ∧ f1_takeOperator F c = some ((2 : Int32), c1)) ∨ (k < 64 ∧ f1_takeOperator F c = some ((0 : Int32), c1) ∧ STK c1 (op :: Q) ∧ c1.1 33 3 = nI (w + P.length) ∧ COD c1 S w P ∧ c1.1 33 4 = nI 1 ∧ c1.1 33 2 = c.1 33 2 ∧ c1.1 (S + 9) 3 = nI (k + 1))) := by
  have hSl := isT_le hS
  obtain ⟨a1, a2, a3, a4, a5, a6, a7, a8, a9, a10, a11, a12, a13, a14⟩ := h
  have hlt := OPT_lt ho
  have hrk := rk_le op
  have hlen := n_len Q
  have hr1 : 1 ≤ rk op := by
    have t : ∀ j : Fin 12, 1 ≤ rk j.val := by decide
    exact t ⟨op, hlt⟩
  obtain ⟨ρ, hρ⟩ : ∃ y, y = if rk op = 4 then 5 else rk op := ⟨_, rfl⟩
  have hρb : 1 ≤ ρ ∧ ρ ≤ 6 ∧ rk op ≤ ρ := by
    rw [hρ]
    by_cases z : rk op = 4
    · rw [if_pos z]; omega
    · rw [if_neg z]; omega
  rw [← hρ] at hP
  obtain ⟨c8, e1, e2, e3, e4, e5, e6⟩ := q_ww (F := F) hF hS hρb.1 hρb.2.1 a2 a10 (by omega) hP (fun x l z => Nat.lt_of_lt_of_le (hQ x l z) hρb.2.2) a1
  obtain ⟨d, hd⟩ : ∃ y, y = g_sI c8 33 4 (1 : Int32) := ⟨_, rfl⟩
  have hstd : STK d Q := by
    obtain ⟨s1, s2, s3⟩ := e2
    exact ⟨by rw [hd, sI_ne (by omega)]; exact s1, s2, CEL_fr s3 (fun i _ => by rw [hd, sI_o (by omega)])⟩
  obtain ⟨t1, t2⟩ := q_tk (F := F) hS (op := op) (c := d) (k := k) (by rw [hd]; show c8.2.2 33 6 = _; rw [e5]; exact a1) (by rw [hd, sI_o (by omega), e6 (S + 9) 3 (by omega) (by omega)]; exact a7) a9 hstd (by omega)
  have hto : f1_takeOperator F c = f1_takeOperator_b64 F (nI op) c8 := by
    unfold f1_takeOperator
    rw [q_opH ho, g_bs, if_neg (nI_m1 (by omega)), q_rank (by omega), g_bs]
    by_cases z : rk op = 4
    · rw [if_pos z] at hρ
      rw [if_pos (show nI (rk op) = (4 : Int32) by rw [z]; rfl), nI_s, show rk op + 1 = ρ by omega, e1, g_bs]
      obtain ⟨s1, s2, s3⟩ := e2
      cases Q with
      | nil => rw [s1, if_neg (show ¬ (0 : Int32) < nI ([] : List Nat).length by decide)]
      | cons a l =>
        obtain ⟨u1, u2, u3⟩ := s3
        have hl : (a :: l).length = l.length + 1 := rfl
        rw [hl] at s1 s2
        have hra := hQ a l rfl
        have e1' : nI (l.length + 1) - (1 : Int32) = nI l.length := by show nI (l.length + 1) - nI 1 = _; rw [g_subN (by omega)]; rfl
        rw [s1, if_pos (show (0 : Int32) < nI (l.length + 1) from (g_ltN (a := 0) (by omega) (by omega)).mpr (by omega)), e1', g_ckN (by omega) (by omega), g_clN (by omega), u1, q_rank u2, g_bs, if_neg (fun y => by have := (g_eqN (by omega) (by omega)).mp y; omega)]
    · rw [if_neg z] at hρ
      rw [if_neg (show ¬ nI (rk op) = (4 : Int32) from fun y => z ((g_eqN (b := 4) (by omega) (by omega)).mp y)), ← hρ, e1, g_bs]
  have hb : f1_takeOperator_b64 F (nI op) c8 = (f1_takeKnot F (nI op) d).bind (fun r2 => some (r2.1, r2.2)) := by
    unfold f1_takeOperator_b64
    rw [g_let_e, ← hd]
  by_cases z : k = 64
  · refine ⟨d, fun o j y1 y2 y3 y4 => by rw [hd, sI_ne (by omega), e6 o j (by omega) y4], by rw [hd]; exact e5, Or.inl ⟨z, ?_⟩⟩
    rw [hto, hb, t1 z, g_bs]
  · obtain ⟨c1, k1, k2, k3, k4, k5⟩ := t2 (by omega) (by omega)
    refine ⟨c1, fun o j y1 y2 y3 y4 => by rw [k5 o j (by omega) y2 y3, hd, sI_ne (by omega), e6 o j (by omega) y4], by rw [k4, hd]; exact e5, Or.inr ⟨by omega, ?_, k2, ?_, ?_, ?_, ?_, k3⟩⟩
    · rw [hto, hb, k1, g_bs]
    · rw [k5 33 3 (by omega) (by omega) (by omega), hd, sI_ne (by omega)]; exact e3
    · exact COD_fr w e4 (fun j _ _ => by rw [k5 (S + 10) j (by omega) (by omega) (by omega), hd, sI_o (by omega)])
    · rw [k5 33 4 (by omega) (by omega) (by omega), hd, sI_eq]; rfl
    · rw [k5 33 2 (by omega) (by omega) (by omega), hd, sI_ne (by omega), e6 33 2 (by omega) (by omega)]
end L
