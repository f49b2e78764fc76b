/-! a text with a fault -/
section L
variable {c m c' m' m5 : g_M}
theorem t_fault {S : Nat} (h : INV c m) (hS0 : c.2.2 0 3 = some S) (hS : isT S) (hFC : FRC c c' S) (hFM : FRM m5 m') (h5 : ∀ o k, ¬ (o = 0 ∧ (k = 0 ∨ k = 2 ∨ (23 ≤ k ∧ k ≤ 35 ∧ k ≠ 32 ∧ k ≠ 33))) → m5.1 o k = m.1 o k) (m52 : m5.1 0 2 = nI 0) (e0 : c'.1 30 0 = m'.1 0 30) (e1 : c'.1 30 1 = m'.1 0 31) : INV (g_sI (g_sI (g_sI c' 0 1 (0 : Int32)) 0 5 (c'.1 30 0)) 0 6 (c'.1 30 1)) (g_sI (g_sI m' 0 32 (m'.1 0 30)) 0 33 (m'.1 0 31)) := by
  have hSl := isT_le hS
  obtain ⟨c8, hc8⟩ : ∃ y, y = g_sI (g_sI (g_sI c' 0 1 (0 : Int32)) 0 5 (c'.1 30 0)) 0 6 (c'.1 30 1) := ⟨_, rfl⟩
  obtain ⟨m4, hm4⟩ : ∃ y, y = g_sI (g_sI m' 0 32 (m'.1 0 30)) 0 33 (m'.1 0 31) := ⟨_, rfl⟩
  rw [← hc8, ← hm4]
  have cn : ∀ o k, ¬ (o = 0 ∧ (k = 1 ∨ k = 5 ∨ k = 6)) → ¬ (o = 30 ∨ o = 31 ∨ o = 33 ∨ o = 34 ∨ (S ≤ o ∧ o ≤ S + 13)) → c8.1 o k = c.1 o k := fun o k y1 y2 => by
    rw [hc8, sI_ne (by omega), sI_ne (by omega), sI_ne (by omega)]; exact hFC.2 o k y2
  have mn : ∀ o k, ¬ UPc o k → ¬ (o = 0 ∧ (k = 0 ∨ k = 2 ∨ (23 ≤ k ∧ k ≤ 35))) → m4.1 o k = m.1 o k := fun o k y1 y2 => by
    rw [hm4, sI_ne (by omega), sI_ne (by omega), hFM o k y1 (by omega)]; exact h5 o k (by omega)
  obtain ⟨x, hx⟩ : ∃ y : g_M, y = (fun o k => if 2 ≤ o ∧ o ≤ 21 ∧ hf o ≤ k then m.1 o k else m4.1 o k, m4.2) := ⟨_, rfl⟩
  have xu : ∀ o k, ¬ UPc o k → x.1 o k = m4.1 o k := fun o k y => by
    rw [hx]; show (if 2 ≤ o ∧ o ≤ 21 ∧ hf o ≤ k then m.1 o k else m4.1 o k) = _
    rw [if_neg (show ¬ (2 ≤ o ∧ o ≤ 21 ∧ hf o ≤ k) from y)]
  have xm : ∀ o k, ¬ (o = 0 ∧ (k = 0 ∨ k = 2 ∨ (23 ≤ k ∧ k ≤ 35))) → x.1 o k = m.1 o k := fun o k y => by
    rw [hx]; show (if 2 ≤ o ∧ o ≤ 21 ∧ hf o ≤ k then m.1 o k else m4.1 o k) = _
    by_cases z : 2 ≤ o ∧ o ≤ 21 ∧ hf o ≤ k
    · rw [if_pos z]
    · rw [if_neg z]; exact mn o k z y
  have nU : ∀ k, ¬ UPc 0 k := fun k z => by have := z.1; omega
  have hAB : AB c m noA := by
    obtain ⟨T, S', _, _, _, _, _, _, _, _, _, hAB, _⟩ := h
    exact hAB
  refine INV_up (m := x) (INV_ft h hS0 (fun o k y => ?_) (fun o k y => cn o k (by omega) (by omega)) (fun o k y => xm o k (by omega)) ?_ ?_ ?_) (fun o k y => (xu o k y).symm)
  · rw [hc8]
    show c'.2.2 o k = _
    exact hFC.1 o k (by omega)
  · obtain ⟨a1, a2, a3⟩ := hAB
    exact ⟨fun i hi => by rw [cn 54 i (by omega) (by omega)]; exact a1 i hi, by rw [xm 0 56 (by omega)]; exact a2, by rw [cn 53 7 (by omega) (by omega)]; exact a3⟩
  · refine ⟨0, by omega, ?_, ?_, fun i hi => by omega⟩
    · rw [hc8, sI_ne (by omega), sI_ne (by omega), sI_eq]; rfl
    · rw [xu 0 2 (nU 2), hm4, sI_ne (by omega), sI_ne (by omega), hFM 0 2 (nU 2) (by omega)]; exact m52
  · refine ⟨?_, ?_⟩
    · rw [xu 0 32 (nU 32), hm4, hc8, sI_ne (by omega), sI_eq, sI_ne (by omega), sI_eq]; exact e0
    · rw [xu 0 33 (nU 33), hm4, hc8, sI_eq, sI_eq]; exact e1
end L
