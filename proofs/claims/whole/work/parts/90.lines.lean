/-! a line, whichever; all lines -/
section L
variable {F : Nat} {c m c' m' c1 m1 : g_M} {n p q S f : Nat}
theorem ob_some {α : Type} (X : Option α) : (X.bind fun r => some r) = X := by cases X <;> rfl
def LN (F : Nat) (c : g_M) : Option g_M := (f5_readLine F c).bind (fun r5 => (f5_needSign F (15 : Int32) r5).bind (fun r6 => some (g_sI r6 30 2 (r6.1 30 2 + (1 : Int32)))))
def OUL (F : Nat) (c m : g_M) (n q S : Nat) : Prop := (∃ c' m' p' q', LN F c = some c' ∧ f11_line F m = some m' ∧ NC c' m' n p' q' ∧ TOLD c' m' S ∧ q < q' ∧ FRC c c' S ∧ FRM m m') ∨ (∃ c' m', LN F c = some c' ∧ f11_line F m = some m' ∧ FO c' m' n ∧ SD c' S ∧ FRC c c' S ∧ FRM m m')
theorem l_of {X : Option g_M} (hF : 5000 < F) (h : OUT F X (f11_line F m) c m n q S) (hX : f5_readLine F c = X) : OUL F c m n q S := by
  rcases h with ⟨c1, m1, p1, q1, e1, e2, e3, e4, e5, e6, e7⟩ | ⟨c1, m1, e1, e2, e3, e4, e5, e6⟩
  · rcases l_end (F := F) hF e3 e4 with ⟨c2, m2, p2, q2, g1, g2, g3, g4, g5, g6, g7⟩ | ⟨c2, m2, g1, g2, g3, g4, g5, g6⟩
    · left
      exact ⟨c2, m2, p2, q2, by unfold LN; rw [hX, e1, g_bs]; exact g1, e2.trans g2, g3, g4, by omega, e6.tr g6, e7.tr g7⟩
    · right
      exact ⟨c2, m2, by unfold LN; rw [hX, e1, g_bs]; exact g1, e2.trans g2, g3, g4, e6.tr g5, e7.tr g6⟩
  · right
    obtain ⟨c2, g1, g2, g3, g4⟩ := x_end (F := F) hF e3 e4
    exact ⟨c2, m1, by unfold LN; rw [hX, e1, g_bs]; exact g1, e2, g2, g3, e5.tr g4, e6⟩
theorem one_line (hF : 5000 < F) (h : NC c m n p q) (hT : TOLD c m S) : OUL F c m n q S := by
  have hSD := SD_of hT
  have bad : f5_readLine F c = (f5_fail F (1 : Int32) c).bind (fun r => some r) → f11_line F m = f11_line_b16 F m → OUL F c m n q S := fun hc hm => by
    obtain ⟨c1, m1, t1, t2, t3, t4, t5, t6, t7⟩ := fo_of (F := F) h (f := 1) (by omega) (by omega)
    refine l_of (X := some c1) hF (Or.inr ⟨c1, m1, rfl, ?_, t3, SD_lx hSD t4, FRC.x t4, FRM.x t5⟩) (by rw [hc, show f5_fail F (1 : Int32) c = some c1 from t1, g_bs])
    rw [hm]
    unfold f11_line_b16
    rw [show f11_wrong F (1 : Int32) m = some m1 from t2, g_bs]
  have noW : ¬ c.1 31 0 = (3 : Int32) → ¬ m.1 0 28 = (0 : Int32) → OUL F c m n q S := fun y1 y2 => bad (by
    unfold f5_readLine
    rw [if_neg y1]
    rfl) (by
    unfold f11_line
    rw [if_neg y2])
  rcases h.1.2.1 with ⟨k1, k2⟩ | ⟨k1, k2, _⟩ | ⟨k1, k2, _⟩ | ⟨k1, k2, x, x1, k4, k5⟩ | ⟨k1, k2, _⟩ | ⟨k1, k2⟩
  · exact noW (by rw [k1]; decide) (by rw [k2]; decide)
  · exact noW (by rw [k1]; decide) (by rw [k2]; decide)
  · exact noW (by rw [k1]; decide) (by rw [k2]; decide)
  rotate_left
  · exact noW (by rw [k1]; decide) (by rw [k2]; decide)
  · exact noW (by rw [k1]; decide) (by rw [k2]; decide)
  have hL : f5_readLine F c = f5_readLine_b22 F (nI x) c := by unfold f5_readLine; rw [if_pos k1, k4]
  by_cases z : 8 < x
  · have ne : ∀ j, j ≤ 8 → ¬ nI x = nI j := fun j hj e => by have := (g_eqN (by omega) (by omega)).mp e; omega
    refine bad ?_ ?_
    · rw [hL]
      unfold f5_readLine_b22
      rw [if_neg (show ¬ nI x = (0 : Int32) from ne 0 (by omega)), if_neg (show ¬ nI x = (1 : Int32) from ne 1 (by omega)), if_neg (show ¬ nI x = (2 : Int32) from ne 2 (by omega)), if_neg (show ¬ nI x = (3 : Int32) from ne 3 (by omega)), if_neg (show ¬ nI x = (4 : Int32) from ne 4 (by omega)), if_neg (show ¬ nI x = (5 : Int32) from ne 5 (by omega)), if_neg (show ¬ nI x = (6 : Int32) from ne 6 (by omega)), if_neg (show ¬ nI x = (7 : Int32) from ne 7 (by omega)), if_neg (show ¬ nI x = (8 : Int32) from ne 8 (by omega))]
    · unfold f11_line
      rw [if_pos k2, k5, if_pos (show (8 : Int32) < nI x from (g_ltN (a := 8) (by omega) (by omega)).mpr z)]
  · rcases (show x = 0 ∨ x = 1 ∨ x = 2 ∨ x = 3 ∨ x = 4 ∨ x = 5 ∨ x = 6 ∨ x = 7 ∨ x = 8 by omega) with rfl | rfl | rfl | rfl | rfl | rfl | rfl | rfl | rfl
    · exact l_of hF (l_man hF h hT k1 k2 k5) (by rw [hL]; exact ob_some _)
    · exact l_of hF (l_sort hF h hT k1 k2 k5) (by rw [hL]; exact ob_some _)
    · exact l_of hF (l_deed hF h hT k1 k2 k5) (by rw [hL]; exact ob_some _)
    · exact l_of hF (l_send hF h hT k1 k2 k5) (by rw [hL]; exact ob_some _)
    · exact l_of hF (l_want hF h hT k1 k2 k5) (by rw [hL]; exact ob_some _)
    · exact l_of hF (l_room hF h hT k1 k2 k5) (by rw [hL]; exact ob_some _)
    · exact l_of hF (l_storm hF h hT k1 k2 k5) (by rw [hL]; exact ob_some _)
    · exact l_of hF (l_seed hF h hT k1 k2 k5) (by rw [hL]; exact ob_some _)
    · exact l_of hF (l_law hF h hT k1 k2 k5) (by rw [hL]; exact ob_some _)
/-- all lines -/
theorem all_lines (hF : 5000 < F) {a : Int32} : ∀ (t G H v : Nat) (c m : g_M) (p q : Nat), 700 - q ≤ t → t + 1 < G → t + 1 < H → v ≤ q → NC c m n p q → TOLD c m S → ∃ c' m', g_fix (fun sf x => f5_reads_b59_body F (nI n) S (fun v3 mem => sf (v3, mem)) x.1 x.2) G (nI v, c) = f5_reads_b107 F (nI n) S c' ∧ g_fix (fun sf x => f11_text_b127_body F a (fun mem => sf mem) x) H m = f11_text_b149 F a m' ∧ ((∃ p' q', NC c' m' n p' q' ∧ TOLD c' m' S) ∨ (FO c' m' n ∧ SD c' S)) ∧ FRC c c' S ∧ FRM m m' := by
  intro t
  induction t with
  | zero =>
    intro G H v c m p q ht hG hH hv h hT
    have hn := h.1.1.1.1
    have hpn := h.1.1.2.1
    have hqp := h.1.2.2.2.2.1
    refine ⟨c, m, ?_, ?_, Or.inl ⟨p, q, h, hT⟩, FRC.r c, FRM.r m⟩
    · rw [g_fix_p (by omega)]
      unfold f5_reads_b59_body
      have z0 : c.1 31 0 = (0 : Int32) := by
        by_cases y : c.1 31 0 = (0 : Int32)
        · exact y
        · have := h.1.2.2.2.2.2 y
          omega
      simp only [if_pos z0, ite_self]
    · rw [g_fix_p (by omega)]
      unfold f11_text_b127_body
      have z0 : c.1 31 0 = (0 : Int32) := by
        by_cases y : c.1 31 0 = (0 : Int32)
        · exact y
        · have := h.1.2.2.2.2.2 y
          omega
      have z4 : m.1 0 28 = (4 : Int32) := by
        rcases h.1.2.1 with ⟨k1, k2⟩ | ⟨k1, _⟩ | ⟨k1, _⟩ | ⟨k1, _⟩ | ⟨k1, _⟩ | ⟨k1, _⟩
        · exact k2
        all_goals exact absurd (k1.symm.trans z0) (by decide)
      simp only [if_pos z4, ite_self]
  | succ t ih =>
    intro G H v c m p q ht hG hH hv h hT
    have hn := h.1.1.1.1
    have hpn := h.1.1.2.1
    have hqp := h.1.2.2.2.2.1
    by_cases z0 : c.1 31 0 = (0 : Int32)
    · refine ⟨c, m, ?_, ?_, Or.inl ⟨p, q, h, hT⟩, FRC.r c, FRM.r m⟩
      · rw [g_fix_p (by omega)]
        unfold f5_reads_b59_body
        simp only [if_pos z0, ite_self]
      · rw [g_fix_p (by omega)]
        unfold f11_text_b127_body
        have z4 : m.1 0 28 = (4 : Int32) := by
          rcases h.1.2.1 with ⟨k1, k2⟩ | ⟨k1, _⟩ | ⟨k1, _⟩ | ⟨k1, _⟩ | ⟨k1, _⟩ | ⟨k1, _⟩
          · exact k2
          all_goals exact absurd (k1.symm.trans z0) (by decide)
        simp only [if_pos z4, ite_self]
    · have hq := h.1.2.2.2.2.2 z0
      have z4 : ¬ m.1 0 28 = (4 : Int32) := by
        rcases h.1.2.1 with ⟨k1, k2⟩ | ⟨k1, k2, _⟩ | ⟨k1, k2, _⟩ | ⟨k1, k2, _⟩ | ⟨k1, k2, _⟩ | ⟨k1, k2⟩
        · exact absurd k1 z0
        all_goals rw [k2]; decide
      have stC : ∀ c1, LN F c = some c1 → g_fix (fun sf x => f5_reads_b59_body F (nI n) S (fun v3 mem => sf (v3, mem)) x.1 x.2) G (nI v, c) = g_fix (fun sf x => f5_reads_b59_body F (nI n) S (fun v3 mem => sf (v3, mem)) x.1 x.2) (G - 1) (nI (v + 1), c1) := fun c1 e => by
        rw [g_fix_p (by omega)]
        generalize g_fix (fun sf x => f5_reads_b59_body F (nI n) S (fun v3 mem => sf (v3, mem)) x.1 x.2) (G - 1) = sf
        show f5_reads_b59_body F (nI n) S (fun v3 mem => sf (v3, mem)) (nI v) c = sf (nI (v + 1), c1)
        unfold f5_reads_b59_body
        rw [if_pos ((g_ltN (by omega) (by omega)).mpr (by omega)), if_neg z0, h.2.1, if_pos nI00]
        unfold LN at e
        cases e1 : f5_readLine F c with
        | none => rw [e1] at e; exact absurd e (by simp)
        | some r5 =>
          rw [e1, g_bs] at e
          rw [g_bs]
          cases e2 : f5_needSign F (15 : Int32) r5 with
          | none => rw [e2] at e; exact absurd e (by simp)
          | some r6 =>
            rw [e2, g_bs] at e
            rw [g_bs, g_let_e, g_let_e, nI_s, Option.some.inj e]
      have stM : ∀ m1, f11_line F m = some m1 → g_fix (fun sf x => f11_text_b127_body F a (fun mem => sf mem) x) H m = g_fix (fun sf x => f11_text_b127_body F a (fun mem => sf mem) x) (H - 1) m1 := fun m1 e => by
        rw [g_fix_p (by omega)]
        generalize g_fix (fun sf x => f11_text_b127_body F a (fun mem => sf mem) x) (H - 1) = sf
        show f11_text_b127_body F a (fun mem => sf mem) m = sf m1
        unfold f11_text_b127_body
        rw [h.2.2, if_pos nI00, if_neg z4, e, g_bs]
      rcases one_line (F := F) hF h hT with ⟨c1, m1, p1, q1, e1, e2, e3, e4, e5, e6, e7⟩ | ⟨c1, m1, e1, e2, e3, e4, e5, e6⟩
      · obtain ⟨c', m', g1, g2, g3, g4, g5⟩ := ih (G - 1) (H - 1) (v + 1) c1 m1 p1 q1 (by omega) (by omega) (by omega) (by omega) e3 e4
        exact ⟨c', m', (stC c1 e1).trans g1, (stM m1 e2).trans g2, g3, e6.tr g4, e7.tr g5⟩
      · refine ⟨c1, m1, ?_, ?_, Or.inr ⟨e3, e4⟩, e5, e6⟩
        · rw [stC c1 e1, g_fix_p (by omega)]
          unfold f5_reads_b59_body
          simp only [if_neg (FO_n e3).2, ite_self]
        · rw [stM m1 e2, g_fix_p (by omega)]
          unfold f11_text_b127_body
          simp only [if_neg (FO_n e3).1]
end L
