/-! the halves: what is read becomes what is told, in the reference -/
section L
variable {F : Nat} {c m c' m' c1 m1 : g_M} {n p q S f : Nat}
def cpH (m : g_M) (o : Nat) : Nat → g_M
  | 0 => m
  | i + 1 => g_sI (cpH m o i) o i (m.1 o (hf o + i))
theorem cpH_r (o i : Nat) : (cpH m o i).2 = m.2 := by
  induction i with
  | zero => rfl
  | succ i ih => exact ih
theorem cpH_ne {o : Nat} (i : Nat) {a k : Nat} (h : ¬ (a = o ∧ k < i)) : (cpH m o i).1 a k = m.1 a k := by
  induction i with
  | zero => rfl
  | succ i ih =>
    show (g_sI (cpH m o i) o i (m.1 o (hf o + i))).1 a k = _
    rw [sI_ne (by omega)]; exact ih (by omega)
theorem cpH_at {o : Nat} (i : Nat) {k : Nat} (h : k < i) : (cpH m o i).1 o k = m.1 o (hf o + k) := by
  induction i with
  | zero => omega
  | succ i ih =>
    show (g_sI (cpH m o i) o i (m.1 o (hf o + i))).1 o k = _
    by_cases z : k = i
    · subst z; exact sI_eq
    · rw [sI_ne (by omega)]; exact ih (by omega)
theorem hf_yM : ∀ o : Fin 22, 2 ≤ o.val → (yM.1 o.val).2 = 2 * hf o.val ∧ (Int32.ofNat (yM.1 o.val).2) / (2 : Int32) = nI (hf o.val) ∧ hf o.val ≤ 64 ∧ 1 ≤ hf o.val := by decide
theorem r_half (hF : 5000 < F) {o : Nat} (h1 : 2 ≤ o) (h2 : o ≤ 21) : f11_half F o m = some (cpH m o (hf o)) := by
  obtain ⟨y1, y2, y3, y4⟩ := hf_yM ⟨o, by omega⟩ h1
  have y1' : (yM.1 o).2 = 2 * hf o := y1
  have y2' : (Int32.ofNat (yM.1 o).2) / (2 : Int32) = nI (hf o) := y2
  have y3' : hf o ≤ 64 := y3
  unfold f11_half f11_half_b7
  rw [y2', g_let_e]
  refine g_for (fun i => (nI (hf o), nI i, cpH m o i)) (hf o) (fun i hi sf => ?_) (by omega) (fun sf => ?_)
  · show f11_half_b7_body F o (fun v1 v2 mem => sf (v1, v2, mem)) (nI (hf o)) (nI i) (cpH m o i) = sf (nI (hf o), nI (i + 1), g_sI (cpH m o i) o i (m.1 o (hf o + i)))
    unfold f11_half_b7_body
    rw [if_pos ((g_ltN (by omega) (by omega)).mpr hi), y1', nI_add, g_ckN (by omega) (by omega), g_ckN (by omega) (by omega), g_clN (by omega), g_clN (by omega), cpH_ne i (by omega), g_let_e, g_let_e, nI_s]
  · show f11_half_b7_body F o (fun v1 v2 mem => sf (v1, v2, mem)) (nI (hf o)) (nI (hf o)) (cpH m o (hf o)) = some (cpH m o (hf o))
    unfold f11_half_b7_body
    rw [if_neg (fun z => by have := (g_ltN (by omega) (by omega)).mp z; omega)]
/-- one after another -/
def HV (m : g_M) : Nat → g_M
  | 0 => m
  | i + 1 => cpH (HV m i) (2 + i) (hf (2 + i))
theorem HV_r (i : Nat) : (HV m i).2 = m.2 := by
  induction i with
  | zero => rfl
  | succ i ih =>
    show (cpH (HV m i) (2 + i) (hf (2 + i))).2 = _
    rw [cpH_r]; exact ih
theorem HV_ne (i : Nat) {o k : Nat} (h : ¬ (2 ≤ o ∧ o < 2 + i ∧ k < hf o)) : (HV m i).1 o k = m.1 o k := by
  induction i with
  | zero => rfl
  | succ i ih =>
    show (cpH (HV m i) (2 + i) (hf (2 + i))).1 o k = _
    rw [cpH_ne _ (fun z => h (by
      obtain ⟨z1, z2⟩ := z
      subst z1
      exact ⟨by omega, by omega, z2⟩))]
    exact ih (fun z => h ⟨z.1, by omega, z.2.2⟩)
theorem HV_at (i : Nat) {o k : Nat} (h1 : 2 ≤ o) (h2 : o < 2 + i) (h3 : k < hf o) : (HV m i).1 o k = m.1 o (hf o + k) := by
  induction i with
  | zero => omega
  | succ i ih =>
    show (cpH (HV m i) (2 + i) (hf (2 + i))).1 o k = _
    by_cases z : o = 2 + i
    · subst z
      rw [cpH_at _ h3]
      exact HV_ne i (by omega)
    · rw [cpH_ne _ (by omega)]; exact ih (by omega)
/-- all halves: f11_text's tail without a fault -/
theorem r_halves (hF : 5000 < F) {a : Int32} {m4 : g_M} (hm4 : m4 = g_sI (g_sI m 0 32 (m.1 0 30)) 0 33 (m.1 0 31)) (h30 : m.1 0 30 = (0 : Int32)) : f11_text_b149 F a m = (f11_begins F (g_sI (g_sI (g_sI (g_sI (HV m4 20) 0 65 (0 : Int32)) 0 66 (-1 : Int32)) 0 51 (0 : Int32)) 0 52 (0 : Int32))).bind (fun r30 => some ((r30.1 0 24), r30)) := by
  have hs : ∀ i, i < 20 → ∀ {β : Type} (k : g_M → Option β), (f11_half F (2 + i) (HV m4 i)).bind k = k (HV m4 (i + 1)) := fun i hi β k => by
    rw [r_half hF (by omega) (by omega), g_bs]
    rfl
  have e0 : m4.1 0 30 = (0 : Int32) := by rw [hm4, sI_ne (by omega), sI_ne (by omega)]; exact h30
  unfold f11_text_b149
  rw [g_let_e, g_let_e, show (g_sI m 0 32 (m.1 0 30)).1 0 31 = m.1 0 31 from sI_ne (by omega), ← hm4, if_pos e0]
  rw [show f11_half F 2 m4 = f11_half F (2 + 0) (HV m4 0) from rfl, hs 0 (by omega), show f11_half F 3 (HV m4 1) = f11_half F (2 + 1) (HV m4 1) from rfl, hs 1 (by omega), show f11_half F 4 (HV m4 2) = f11_half F (2 + 2) (HV m4 2) from rfl, hs 2 (by omega), show f11_half F 5 (HV m4 3) = f11_half F (2 + 3) (HV m4 3) from rfl, hs 3 (by omega), show f11_half F 6 (HV m4 4) = f11_half F (2 + 4) (HV m4 4) from rfl, hs 4 (by omega), show f11_half F 7 (HV m4 5) = f11_half F (2 + 5) (HV m4 5) from rfl, hs 5 (by omega), show f11_half F 8 (HV m4 6) = f11_half F (2 + 6) (HV m4 6) from rfl, hs 6 (by omega), show f11_half F 9 (HV m4 7) = f11_half F (2 + 7) (HV m4 7) from rfl, hs 7 (by omega), show f11_half F 10 (HV m4 8) = f11_half F (2 + 8) (HV m4 8) from rfl, hs 8 (by omega), show f11_half F 11 (HV m4 9) = f11_half F (2 + 9) (HV m4 9) from rfl, hs 9 (by omega)]
  rw [show f11_half F 12 (HV m4 10) = f11_half F (2 + 10) (HV m4 10) from rfl, hs 10 (by omega), show f11_half F 13 (HV m4 11) = f11_half F (2 + 11) (HV m4 11) from rfl, hs 11 (by omega), show f11_half F 14 (HV m4 12) = f11_half F (2 + 12) (HV m4 12) from rfl, hs 12 (by omega), show f11_half F 15 (HV m4 13) = f11_half F (2 + 13) (HV m4 13) from rfl, hs 13 (by omega), show f11_half F 16 (HV m4 14) = f11_half F (2 + 14) (HV m4 14) from rfl, hs 14 (by omega), show f11_half F 17 (HV m4 15) = f11_half F (2 + 15) (HV m4 15) from rfl, hs 15 (by omega), show f11_half F 18 (HV m4 16) = f11_half F (2 + 16) (HV m4 16) from rfl, hs 16 (by omega), show f11_half F 19 (HV m4 17) = f11_half F (2 + 17) (HV m4 17) from rfl, hs 17 (by omega), show f11_half F 20 (HV m4 18) = f11_half F (2 + 18) (HV m4 18) from rfl, hs 18 (by omega), show f11_half F 21 (HV m4 19) = f11_half F (2 + 19) (HV m4 19) from rfl, hs 19 (by omega), g_let_e, g_let_e, g_let_e, g_let_e]
end L
