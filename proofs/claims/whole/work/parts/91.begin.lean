/-! what is told at the start of a text: nothing -/
section L
variable {F : Nat} {c m c' m' c1 m1 : g_M} {n p q S f : Nat}
def clL (c : g_M) (S : Nat) : Nat → g_M
  | 0 => c
  | i + 1 => g_sI (g_sI (clL c S i) (S + 11) i (0 : Int32)) (S + 12) i (0 : Int32)
theorem clL_r (i : Nat) : (clL c S i).2 = c.2 := by
  induction i with
  | zero => rfl
  | succ i ih => exact ih
theorem clL_ne (i : Nat) {o k : Nat} (h : o ≠ S + 11) (h' : o ≠ S + 12) : (clL c S i).1 o k = c.1 o k := by
  induction i with
  | zero => rfl
  | succ i ih =>
    show (g_sI (g_sI (clL c S i) (S + 11) i (0 : Int32)) (S + 12) i (0 : Int32)).1 o k = _
    rw [sI_o h', sI_o h]; exact ih
theorem clL_at (i : Nat) {k : Nat} (h : k < i) : (clL c S i).1 (S + 11) k = 0 ∧ (clL c S i).1 (S + 12) k = 0 := by
  induction i with
  | zero => omega
  | succ i ih =>
    show (g_sI (g_sI (clL c S i) (S + 11) i (0 : Int32)) (S + 12) i (0 : Int32)).1 (S + 11) k = 0 ∧ (g_sI (g_sI (clL c S i) (S + 11) i (0 : Int32)) (S + 12) i (0 : Int32)).1 (S + 12) k = 0
    by_cases z : k = i
    · subst z
      exact ⟨by rw [sI_o (by omega), sI_eq], sI_eq⟩
    · obtain ⟨a, b⟩ := ih (by omega)
      exact ⟨by rw [sI_o (by omega), sI_ne (by omega)]; exact a, by rw [sI_ne (by omega), sI_o (by omega)]; exact b⟩
theorem q_clear (hF : 5000 < F) : f9_clear F S c = some (clL (g_sI (g_sI (g_sI (g_sI (g_sI (g_sI (g_sI (g_sI (g_sI c (S + 1) 0 (0 : Int32)) (S + 1) 1 (0 : Int32)) (S + 1) 2 (0 : Int32)) S 6 (0 : Int32)) S 8 (0 : Int32)) S 10 (9 : Int32)) S 11 (0 : Int32)) S 12 (0 : Int32)) (S + 9) 3 (0 : Int32)) S 3) := by
  have e0 : ∀ {α : Type} (k : Option α), g_ck (0 : Int32) 3 k = k := fun k => g_ckN (x := 0) (by omega) (by omega)
  have e1 : ∀ {α : Type} (k : Option α), g_ck (1 : Int32) 3 k = k := fun k => g_ckN (x := 1) (by omega) (by omega)
  have e2 : ∀ {α : Type} (k : Option α), g_ck (2 : Int32) 3 k = k := fun k => g_ckN (x := 2) (by omega) (by omega)
  have t0 : (0 : Int32).toNatClampNeg = 0 := by decide
  have t1 : (1 : Int32).toNatClampNeg = 1 := by decide
  have t2 : (2 : Int32).toNatClampNeg = 2 := by decide
  have lp : ∀ d : g_M, f2_clear_b7 F (S + 9) (0 : Int32) d = some (clL d S 3) := fun d => by
    unfold f2_clear_b7
    refine g_for (fun i => (nI i, clL d S i)) 3 (fun i hi sf => ?_) (by omega) (fun sf => ?_)
    · show f2_clear_b7_body F (S + 9) (fun v1 mem => sf (v1, mem)) (nI i) (clL d S i) = sf (nI (i + 1), g_sI (g_sI (clL d S i) (S + 11) i (0 : Int32)) (S + 12) i (0 : Int32))
      unfold f2_clear_b7_body
      rw [if_pos (show nI i < (3 : Int32) from (g_ltN (b := 3) (by omega) (by omega)).mpr hi), g_ckN (by omega) (by omega), g_clN (by omega), g_let_e, g_ckN (by omega) (by omega), g_let_e, g_let_e, nI_s]
    · rfl
  unfold f9_clear f2_clear
  rw [e0, g_let_e, e1, g_let_e, e2, g_let_e, g_let_e, g_let_e, g_let_e, g_let_e, g_let_e, g_let_e, lp, g_bs, t0, t1, t2]
def rsM (m : g_M) : Nat → g_M
  | 0 => m
  | i + 1 => g_sI (rsM m i) 2 (9 + i) (if i = 5 then (9 : Int32) else (0 : Int32))
def hzM (m : g_M) : Nat → g_M
  | 0 => m
  | i + 1 => g_sI (g_sI (hzM m i) 18 (3 + i) (0 : Int32)) 19 (3 + i) (0 : Int32)
theorem rsM_ne (i : Nat) {o k : Nat} (h : ¬ (o = 2 ∧ 9 ≤ k)) : (rsM m i).1 o k = m.1 o k := by
  induction i with
  | zero => rfl
  | succ i ih =>
    show (g_sI (rsM m i) 2 (9 + i) _).1 o k = _
    rw [sI_ne (by omega)]; exact ih
theorem rsM_at (i : Nat) {k : Nat} (h : k < i) : (rsM m i).1 2 (9 + k) = if k = 5 then (9 : Int32) else (0 : Int32) := by
  induction i with
  | zero => omega
  | succ i ih =>
    show (g_sI (rsM m i) 2 (9 + i) _).1 2 (9 + k) = _
    by_cases z : k = i
    · subst z; exact sI_eq
    · rw [sI_ne (by omega)]; exact ih (by omega)
theorem hzM_ne (i : Nat) {o k : Nat} (h : ¬ ((o = 18 ∨ o = 19) ∧ 3 ≤ k)) : (hzM m i).1 o k = m.1 o k := by
  induction i with
  | zero => rfl
  | succ i ih =>
    show (g_sI (g_sI (hzM m i) 18 (3 + i) (0 : Int32)) 19 (3 + i) (0 : Int32)).1 o k = _
    rw [sI_ne (by omega), sI_ne (by omega)]; exact ih
theorem hzM_at (i : Nat) {k : Nat} (h : k < i) : (hzM m i).1 18 (3 + k) = 0 ∧ (hzM m i).1 19 (3 + k) = 0 := by
  induction i with
  | zero => omega
  | succ i ih =>
    show (g_sI (g_sI (hzM m i) 18 (3 + i) (0 : Int32)) 19 (3 + i) (0 : Int32)).1 18 (3 + k) = 0 ∧ (g_sI (g_sI (hzM m i) 18 (3 + i) (0 : Int32)) 19 (3 + i) (0 : Int32)).1 19 (3 + k) = 0
    by_cases z : k = i
    · subst z
      exact ⟨by rw [sI_o (by omega), sI_eq], sI_eq⟩
    · obtain ⟨a, b⟩ := ih (by omega)
      exact ⟨by rw [sI_o (by omega), sI_ne (by omega)]; exact a, by rw [sI_ne (by omega), sI_o (by omega)]; exact b⟩
theorem r_reset (hF : 5000 < F) (a : Int32) : f11_text_b47 F a (0 : Int32) m = f11_text_b77 F a (3 : Int32) (rsM m 9) := by
  unfold f11_text_b47
  refine g_for (fun i => (nI i, rsM m i)) 9 (fun i hi sf => ?_) (by omega) (fun sf => ?_)
  · show f11_text_b47_body F a (fun v2 mem => sf (v2, mem)) (nI i) (rsM m i) = sf (nI (i + 1), g_sI (rsM m i) 2 (9 + i) (if i = 5 then (9 : Int32) else (0 : Int32)))
    unfold f11_text_b47_body f11_text_b66
    rw [if_pos (show nI i < (9 : Int32) from (g_ltN (b := 9) (by omega) (by omega)).mpr hi), r_reads hi, r_reads hi, g_bs, g_bs, g_let_e, g_let_e, nI_s]
    by_cases z : i = 5
    · subst z
      rw [if_pos (show nI 5 = (5 : Int32) from rfl), if_pos rfl]
    · rw [if_neg (show ¬ nI i = (5 : Int32) from fun y => z ((g_eqN (b := 5) (by omega) (by omega)).mp y)), if_neg z]
  · rfl
theorem r_zero (hF : 5000 < F) (a : Int32) : f11_text_b77 F a (3 : Int32) m = (f11_token F (g_sI (g_sI (g_sI (g_sI (hzM m 3) 0 23 (0 : Int32)) 0 24 (0 : Int32)) 0 34 (0 : Int32)) 0 35 (0 : Int32))).bind (fun r44 => f11_text_b127 F a r44) := by
  unfold f11_text_b77
  refine g_for (fun i => (nI (3 + i), hzM m i)) 3 (fun i hi sf => ?_) (by omega) (fun sf => ?_)
  · show f11_text_b77_body F a (fun v2 mem => sf (v2, mem)) (nI (3 + i)) (hzM m i) = sf (nI (3 + (i + 1)), g_sI (g_sI (hzM m i) 18 (3 + i) (0 : Int32)) 19 (3 + i) (0 : Int32))
    unfold f11_text_b77_body
    rw [if_pos (show nI (3 + i) < (6 : Int32) from (g_ltN (b := 6) (by omega) (by omega)).mpr (by omega)), g_ckN (by omega) (by omega), g_clN (by omega), g_let_e, g_ckN (by omega) (by omega), g_let_e, g_let_e, nI_s]
    rfl
  · rfl
end L
