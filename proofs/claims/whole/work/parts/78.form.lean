/-! the formula: what waits in the class, what is put in the reference -/
section L
variable {F : Nat} {c m c' m' c1 m1 : g_M} {n p q S f : Nat}
def rk (op : Nat) : Nat := if op = 13 then 0 else if op = 11 then 1 else if op = 10 then 2 else if op = 12 then 3 else if op ≤ 1 then 5 else if op ≤ 3 then 6 else 4
theorem q_rank {op : Nat} (h : op < 14) : f1_rankOf F (nI op) c = some (nI (rk op)) := by
  have t : ∀ j : Fin 14, f1_rankOf 0 (nI j.val) m00 = some (nI (rk j.val)) := by decide +kernel
  exact t ⟨op, h⟩
theorem rk_le (op : Nat) : rk op ≤ 6 := by
  unfold rk
  split
  · omega
  · split
    · omega
    · split
      · omega
      · split
        · omega
        · split
          · omega
          · split <;> omega
def opM (op : Nat) : Int32 := if op = 0 then 43 else if op = 1 then 45 else if op = 2 then 42 else if op = 3 then 47 else if op = 4 then 60 else if op = 5 then 256 else if op = 6 then 61 else if op = 7 then 257 else if op = 8 then 258 else if op = 9 then 62 else if op = 10 then 261 else if op = 11 then 262 else 260
theorem enc_op' : ∀ op : Fin 13, enc 2 (opM op.val) = nI (10007 + op.val) := by decide +kernel
theorem opM_is : ∀ op : Fin 12, isOp (opM op.val) := by
  have h : ∀ op : Fin 12, opM op.val = 43 ∨ opM op.val = 45 ∨ opM op.val = 42 ∨ opM op.val = 47 ∨ opM op.val = 60 ∨ opM op.val = 256 ∨ opM op.val = 61 ∨ opM op.val = 257 ∨ opM op.val = 258 ∨ opM op.val = 62 ∨ opM op.val = 261 ∨ opM op.val = 262 := by decide +kernel
  exact h
/-- what waits, the last first -/
def CEL (c : g_M) : List Nat → Prop
  | [] => True
  | op :: l => c.1 34 l.length = nI op ∧ op < 14 ∧ CEL c l
def STK (c : g_M) (l : List Nat) : Prop := c.1 33 1 = nI l.length ∧ l.length ≤ 72 ∧ CEL c l
theorem CEL_fr {l : List Nat} (h : CEL c l) (he : ∀ i, i < l.length → c'.1 34 i = c.1 34 i) : CEL c' l := by
  induction l with
  | nil => trivial
  | cons op l ih =>
    obtain ⟨h1, h2, h3⟩ := h
    exact ⟨by rw [he _ (by simp)]; exact h1, h2, ih h3 (fun i hi => he i (by simp; omega))⟩
theorem CEL_app {l l' : List Nat} (h : CEL c (l ++ l')) : CEL c l' := by
  induction l with
  | nil => exact h
  | cons op l ih => exact ih h.2.2
theorem g_drL {α : Type} {r : Option Nat} {k : Nat → Option α} (hr : r = some (S + 9)) (hS : isT S) : g_dr yC 69 r 2 k = k (S + 9) := by
  subst hr
  rcases hS with rfl | rfl <;> rfl
/-- what the class writes when it lets go of P -/
def COD (c : g_M) (S w : Nat) : List Nat → Prop
  | [] => True
  | op :: l => c.1 (S + 10) w = nI (10007 + op) ∧ COD c S (w + 1) l
theorem COD_fr {l : List Nat} : ∀ w, COD c S w l → (∀ k, w ≤ k → k < w + l.length → c'.1 (S + 10) k = c.1 (S + 10) k) → COD c' S w l := by
  induction l with
  | nil => intro w _ _; trivial
  | cons op l ih =>
    intro w h he
    exact ⟨by rw [he w (by omega) (by simp)]; exact h.1, ih (w + 1) h.2 (fun k k1 k2 => he k (by omega) (by simp; omega))⟩
theorem q_flush (hS : isT S) {r : Nat} (hr : 1 ≤ r) (hr6 : r ≤ 6) : ∀ (P Q : List Nat) (c : g_M) (w G : Nat), STK c (P ++ Q) → c.1 33 3 = nI w → w + P.length ≤ 64 → (∀ x, x ∈ P → r ≤ rk x) → (∀ x l, Q = x :: l → rk x < r) → c.2.2 33 6 = some (S + 9) → P.length < G → ∃ c', g_fix (fun sf x => f1_writeWaiting_b0_body F (nI r) (fun mem => sf mem) x) G c = some c' ∧ STK c' Q ∧ c'.1 33 3 = nI (w + P.length) ∧ COD c' S w P ∧ c'.2 = c.2 ∧ ∀ o k, ¬ (o = 33 ∧ (k = 1 ∨ k = 3)) → ¬ (o = S + 10 ∧ w ≤ k) → c'.1 o k = c.1 o k := by
  have hSl := isT_le hS
  intro P
  induction P with
  | nil =>
    intro Q c w G hst hw hsp hP hQ hrf hG
    refine ⟨c, ?_, hst, hw, trivial, rfl, fun _ _ _ _ => rfl⟩
    rw [g_fix_p hG]
    unfold f1_writeWaiting_b0_body
    obtain ⟨s1, s2, s3⟩ := hst
    rw [List.nil_append] at s1 s2 s3
    cases Q with
    | nil => rw [s1, if_neg (show ¬ (0 : Int32) < nI ([] : List Nat).length by decide)]
    | cons a l =>
      obtain ⟨t1, t2, t3⟩ := s3
      have hl : (a :: l).length = l.length + 1 := rfl
      rw [hl] at s1 s2
      have hra := hQ a l rfl
      have e1 : nI (l.length + 1) - (1 : Int32) = nI l.length := by show nI (l.length + 1) - nI 1 = _; rw [g_subN (by omega)]; rfl
      rw [s1, if_pos (show (0 : Int32) < nI (l.length + 1) from (g_ltN (a := 0) (by omega) (by omega)).mpr (by omega)), e1, g_ckN (by omega) (by omega), g_clN (by omega), t1, q_rank t2, g_bs, if_neg (fun z => by have := (g_leN (by omega) (by omega)).mp z; omega)]
  | cons a P ih =>
    intro Q c w G hst hw hsp hP hQ hrf hG
    obtain ⟨s1, s2, s3⟩ := hst
    have hl : (a :: P ++ Q).length = (P ++ Q).length + 1 := rfl
    have hl2 : (a :: P).length = P.length + 1 := rfl
    rw [hl] at s1 s2
    rw [hl2] at hsp hG
    obtain ⟨t1, t2, t3⟩ := (show c.1 34 (P ++ Q).length = nI a ∧ a < 14 ∧ CEL c (P ++ Q) from s3)
    have hra := hP a (by simp)
    have hrle := rk_le a
    have e1 : nI ((P ++ Q).length + 1) - (1 : Int32) = nI (P ++ Q).length := by show nI ((P ++ Q).length + 1) - nI 1 = _; rw [g_subN (by omega)]; rfl
    obtain ⟨d, hd⟩ : ∃ y, y = g_sI (g_sI (g_sI c 33 1 (nI (P ++ Q).length)) (S + 10) w (nI (10007 + a))) 33 3 (nI (w + 1)) := ⟨_, rfl⟩
    have dn : ∀ o k, ¬ (o = 33 ∧ (k = 1 ∨ k = 3)) → ¬ (o = S + 10 ∧ k = w) → d.1 o k = c.1 o k := fun o k y1 y2 => by rw [hd, sI_ne (by omega), sI_ne y2, sI_ne (by omega)]
    have d1 : d.1 33 1 = nI (P ++ Q).length := by rw [hd, sI_ne (by omega), sI_ne (by omega), sI_eq]
    have d3 : d.1 33 3 = nI (w + 1) := by rw [hd, sI_eq]
    have dw : d.1 (S + 10) w = nI (10007 + a) := by rw [hd, sI_o (by omega), sI_eq]
    obtain ⟨c', k1, k2, k3, k4, k5, k6⟩ := ih Q d (w + 1) (G - 1) ⟨d1, by omega, CEL_fr t3 (fun i _ => dn 34 i (by omega) (by omega))⟩ d3 (by omega) (fun x hx => hP x (by simp [hx])) hQ (by rw [hd]; exact hrf) (by omega)
    refine ⟨c', ?_, k2, by rw [k3, hl2]; congr 1; omega, ⟨by rw [k6 (S + 10) w (by omega) (by omega)]; exact dw, k4⟩, by rw [k5, hd]; rfl, fun o k y1 y2 => by rw [k6 o k y1 (by omega)]; exact dn o k y1 (by omega)⟩
    rw [g_fix_p (by omega)]
    generalize hsf : g_fix (fun sf x => f1_writeWaiting_b0_body F (nI r) (fun mem => sf mem) x) (G - 1) = sf at *
    show f1_writeWaiting_b0_body F (nI r) (fun mem => sf mem) c = some c'
    have y34 : (g_sI c 33 1 (nI (P ++ Q).length)).1 34 (P ++ Q).length = nI a := by rw [sI_o (by omega)]; exact t1
    have y33 : (g_sI c 33 1 (nI (P ++ Q).length)).1 33 3 = nI w := by rw [sI_ne (by omega)]; exact hw
    have y31 : (g_sI c 33 1 (nI (P ++ Q).length)).1 33 1 = nI (P ++ Q).length := sI_eq
    unfold f1_writeWaiting_b0_body f1_write
    rw [s1, if_pos (show (0 : Int32) < nI ((P ++ Q).length + 1) from (g_ltN (a := 0) (by omega) (by omega)).mpr (by omega)), e1, g_ckN (by omega) (by omega), g_clN (by omega), t1, q_rank t2, g_bs, if_pos ((g_leN (by omega) (by omega)).mpr hra), g_let_e, y31, g_ckN (by omega) (by omega), g_clN (by omega), y34, y33, if_pos (show nI w < (64 : Int32) from (g_ltN (b := 64) (by omega) (by omega)).mpr (by omega)), g_drL (show (g_sI c 33 1 (nI (P ++ Q).length)).2.2 33 6 = some (S + 9) from hrf) hS, g_ckN (by omega) (by omega), g_clN (by omega), g_let_e, g_let_e, sI_o (by omega), y33, nI_s, show (10007 : Int32) + nI a = nI (10007 + a) from nI_add 10007 a, g_bs]
    rw [show S + 9 + 1 = S + 10 from rfl, ← hd]
    exact k1
theorem q_ww (hF : 5000 < F) (hS : isT S) {r : Nat} (hr : 1 ≤ r) (hr6 : r ≤ 6) {P Q : List Nat} {w : Nat} (hst : STK c (P ++ Q)) (hw : c.1 33 3 = nI w) (hsp : w + P.length ≤ 64) (hP : ∀ x, x ∈ P → r ≤ rk x) (hQ : ∀ x l, Q = x :: l → rk x < r) (hrf : c.2.2 33 6 = some (S + 9)) : ∃ c', f1_writeWaiting F (nI r) c = some c' ∧ STK c' Q ∧ c'.1 33 3 = nI (w + P.length) ∧ COD c' S w P ∧ c'.2 = c.2 ∧ ∀ o k, ¬ (o = 33 ∧ (k = 1 ∨ k = 3)) → ¬ (o = S + 10 ∧ w ≤ k) → c'.1 o k = c.1 o k := by
  have hl : P.length < F := by omega
  exact q_flush hS hr hr6 P Q c w F hst hw hsp hP hQ hrf hl
/-- pushing -/
theorem q_push {l : List Nat} {op : Nat} (h : STK c l) (hop : op < 14) (hl : l.length < 72) : ∃ c', f1_push F (nI op) c = some c' ∧ STK c' (op :: l) ∧ c'.2 = c.2 ∧ ∀ o k, ¬ (o = 33 ∧ k = 1) → ¬ (o = 34 ∧ l.length ≤ k) → c'.1 o k = c.1 o k := by
  obtain ⟨s1, s2, s3⟩ := h
  refine ⟨g_sI (g_sI c 34 l.length (nI op)) 33 1 (nI (l.length + 1)), ?_, ⟨sI_eq, by show l.length + 1 ≤ 72; omega, by rw [sI_o (by omega), sI_eq], hop, CEL_fr s3 (fun i hi => by rw [sI_o (by omega), sI_ne (by omega)])⟩, rfl, fun o k y1 y2 => by rw [sI_ne y1, sI_ne (by omega)]⟩
  unfold f1_push
  rw [s1, if_pos (show nI l.length < (72 : Int32) from (g_ltN (b := 72) (by omega) (by omega)).mpr hl), g_ckN (by omega) (by omega), g_clN (by omega), g_let_e, g_let_e, sI_o (by omega), s1, nI_s]
/-- the reference counts a knot, and puts one -/
theorem r_knot {k : Nat} (hm : m.1 0 30 = nI 0) (hk : m.1 0 35 = nI k) (hk64 : k < 64) : f11_knot F m = some (g_sI m 0 35 (nI (k + 1))) := by
  unfold f11_knot
  rw [hm, if_pos nI00, hk, if_neg (show ¬ nI k = (64 : Int32) from fun z => by have := (g_eqN (b := 64) (by omega) (by omega)).mp z; omega), g_let_e, nI_s]
theorem r_puts {w : Nat} (hm : m.1 0 30 = nI 0) (hw : m.1 2 17 = nI w) (hw64 : w < 64) (a b : Int32) : f11_puts F a b m = some (g_sI (g_sI (g_sI m 20 (64 + w) a) 21 (64 + w) b) 2 17 (nI (w + 1))) := by
  have fr : ∀ y : g_M, f11_fresher F (8 : Int32) y = some (y.1 2 17) := fun y => r_fresher (j := 8) (by omega)
  have rd : ∀ (y : g_M) v, f11_reads F (8 : Int32) v y = some (g_sI y 2 17 v) := fun y v => r_reads (j := 8) (by omega) v
  unfold f11_puts
  rw [hm, if_pos nI00, fr, g_bs, hw, show (64 : Int32) + nI w = nI (64 + w) from nI_add 64 w, g_ckN (by omega) (by omega), g_clN (by omega), g_let_e, fr, g_bs, sI_o (by omega), hw, show (64 : Int32) + nI w = nI (64 + w) from nI_add 64 w, g_ckN (by omega) (by omega), g_clN (by omega), g_let_e, fr, g_bs, sI_o (by omega), sI_o (by omega), hw, nI_s, rd, g_bs]
/-- behind a fault the reference does nothing -/
theorem mF_knot (h : ¬ m.1 0 30 = (0 : Int32)) : f11_knot F m = some m := by unfold f11_knot; rw [if_neg h]
theorem mF_puts (h : ¬ m.1 0 30 = (0 : Int32)) (a b : Int32) : f11_puts F a b m = some m := by unfold f11_puts; rw [if_neg h]
theorem mF_goOn (h : ¬ m.1 0 30 = (0 : Int32)) : f11_goOn F m = some m := by unfold f11_goOn; rw [if_neg h]
theorem mF_word (h : ¬ m.1 0 30 = (0 : Int32)) (a : Int32) : f11_isWord F a m = some (0 : Int32) := by unfold f11_isWord; rw [if_neg h]
theorem mF_sign (h : ¬ m.1 0 30 = (0 : Int32)) (a : Int32) : f11_isSign F a m = some (0 : Int32) := by unfold f11_isSign; rw [if_neg h]
theorem mF_E (hF : 5000 < F) (h : ¬ m.1 0 30 = (0 : Int32)) : ∀ d l, l ≤ 5 → 6 - l ≤ d → fgE F d l m = some m := by
  intro d
  induction d with
  | zero => intro l h1 h2; omega
  | succ d ih =>
    intro l h1 h2
    have w := fun a => mF_word (F := F) h a
    have s := fun a => mF_sign (F := F) h a
    rcases (show l = 0 ∨ l = 1 ∨ l = 2 ∨ l = 3 ∨ l = 4 ∨ l = 5 by omega) with rfl | rfl | rfl | rfl | rfl | rfl
    · show f11_expression F (fgE F d) m = some m
      unfold f11_expression f11_expression_b4
      rw [ih 1 (by omega) (by omega), g_bs, g_fix_p (by omega)]
      unfold f11_expression_b4_body
      rw [w, g_bs, if_pos rfl]
    · show f11_conjunction F (fgE F d) m = some m
      unfold f11_conjunction f11_conjunction_b4
      rw [ih 2 (by omega) (by omega), g_bs, g_fix_p (by omega)]
      unfold f11_conjunction_b4_body
      rw [w, g_bs, if_pos rfl]
    · show f11_negation F (fgE F d) m = some m
      unfold f11_negation
      rw [w, g_bs, if_pos rfl, ih 3 (by omega) (by omega), g_bs, if_neg h]
    · show f11_sum F (fgE F d) m = some m
      unfold f11_sum f11_sum_b4
      rw [ih 4 (by omega) (by omega), g_bs, g_fix_p (by omega)]
      unfold f11_sum_b4_body
      rw [s, g_bs, if_pos rfl, s, g_bs, if_pos rfl]
    · show f11_product F (fgE F d) m = some m
      unfold f11_product f11_product_b4
      rw [ih 5 (by omega) (by omega), g_bs, g_fix_p (by omega)]
      unfold f11_product_b4_body
      rw [s, g_bs, if_pos rfl, s, g_bs, if_pos rfl]
    · show f11_primary F (fgE F d) m = some m
      unfold f11_primary
      rw [if_neg h]
end L
