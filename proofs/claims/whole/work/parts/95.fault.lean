/-! INV does not see the half of the class that is being written -/
section L
variable {c m c' m' : g_M}
theorem INV_ft {S0 : Nat} (h : INV c m) (hS0 : c.2.2 0 3 = some S0) (hr : ∀ o k, (o = 0 ∧ (k = 2 ∨ k = 3)) ∨ (o = 35 ∧ k = 0) ∨ (o = 41 ∧ k = 0) → c'.2.2 o k = c.2.2 o k) (hc : ∀ o k, (o = 0 ∧ k = 9) ∨ (2 ≤ o ∧ o ≤ 29 ∧ ¬ (S0 ≤ o ∧ o ≤ S0 + 13)) ∨ o = 32 ∨ (35 ≤ o ∧ o ≤ 46) ∨ (60 ≤ o ∧ o ≤ 65) ∨ o = 67 ∨ o = 68 → c'.1 o k = c.1 o k) (hm : ∀ o k, (o = 0 ∧ (k = 51 ∨ k = 52 ∨ k = 53 ∨ k = 55 ∨ k = 65 ∨ k = 66)) ∨ (2 ≤ o ∧ o ≤ 21) ∨ (24 ≤ o ∧ o ≤ 35) ∨ (39 ≤ o ∧ o ≤ 42) → m'.1 o k = m.1 o k) (hA : AB c' m' noA) (hTa : TAPE c' m') (hF : FLT c' m') : INV c' m' := by
  obtain ⟨T, S, hTW, r2, r3, hTS, hd, hI, _, _, hS, hAB, hSe, hL, hw⟩ := h
  have eS : S = S0 := by rw [r3] at hS0; exact Option.some.inj hS0
  subst eS
  have hTl := isT_le hTS.1
  have hds : ∀ o, T ≤ o → o ≤ T + 13 → ¬ (S ≤ o ∧ o ≤ S + 13) := fun o h1 h2 => by unfold TW at hTW; omega
  have m0 : ∀ k, k = 51 ∨ k = 52 ∨ k = 53 ∨ k = 55 ∨ k = 65 ∨ k = 66 → m'.1 0 k = m.1 0 k := fun k hk => hm 0 k (Or.inl ⟨rfl, hk⟩)
  have mT : ∀ o, 2 ≤ o → o ≤ 21 → m'.1 o = m.1 o := fun o h1 h2 => by funext k; exact hm o k (Or.inr (Or.inl ⟨h1, h2⟩))
  have mD : ∀ o k, 24 ≤ o → o ≤ 35 → m'.1 o k = m.1 o k := fun o k h1 h2 => hm o k (by omega)
  have cT : ∀ o, T ≤ o → o ≤ T + 13 → c'.1 o = c.1 o := fun o h1 h2 => by funext k; exact hc o k (Or.inr (Or.inl ⟨by omega, by omega, hds o h1 h2⟩))
  have c35 : ∀ o, 35 ≤ o → o ≤ 46 → c'.1 o = c.1 o := fun o h1 h2 => by funext k; exact hc o k (by omega)
  have c60 : ∀ o, 60 ≤ o → o ≤ 65 → c'.1 o = c.1 o := fun o h1 h2 => by funext k; exact hc o k (by omega)
  have c67 : c'.1 67 = c.1 67 := by funext k; exact hc 67 k (by omega)
  have c68 : c'.1 68 = c.1 68 := by funext k; exact hc 68 k (by omega)
  have c32 : c'.1 32 = c.1 32 := by funext k; exact hc 32 k (by omega)
  have v24 : ∀ g, vl m' 24 g = vl m 24 g := fun g => by unfold vl; rw [mD 24 g (by omega) (by omega)]
  refine ⟨T, S, hTW, by rw [hr 0 2 (by omega)]; exact r2, by rw [hr 0 3 (by omega)]; exact r3, TS_fr hTS (hr 35 0 (by omega)) cT (fun o k h1 h2 => by rw [c35 o h1 (by omega)]) mT mD, by rw [v24 0]; exact hd, ?_, hTa, hF, ?_, hA, ?_, ?_, ?_⟩
  · unfold IMG at hI ⊢
    rw [hc 0 9 (by omega), m0 51 (by omega), v24 2]
    exact ⟨hI.1, hI.2.imp id (fun z => ⟨z.1, TS_fr z.2.1 (hr 41 0 (by omega)) cT (fun o k h1 h2 => by rw [c35 o (by omega) (by omega)]) mT mD, z.2.2⟩)⟩
  · rw [m0 53 (by omega), m0 55 (by omega)]; exact hS
  · unfold SEEN at hSe ⊢
    have e39 : ∀ o, 39 ≤ o → o ≤ 42 → m'.1 o = m.1 o := fun o h1 h2 => by funext k; exact hm o k (by omega)
    rw [m0 65 (by omega), m0 66 (by omega), c60 60 (by omega) (by omega), c60 61 (by omega) (by omega), c60 62 (by omega) (by omega), c60 63 (by omega) (by omega), c60 64 (by omega) (by omega), c60 65 (by omega) (by omega), e39 39 (by omega) (by omega), e39 40 (by omega) (by omega), e39 41 (by omega) (by omega), e39 42 (by omega) (by omega)]
    exact hSe
  · obtain ⟨u, u1, u2, u3, u4, u5⟩ := hL
    refine ⟨u, u1, by rw [c67]; exact u2, by rw [m0 52 (by omega)]; exact u3, fun i hi => ?_, fun j hj => ⟨?_, ?_⟩⟩
    · have : row c' i = row c i := by unfold row; rw [c68]
      rw [this]; exact u4 i hi
    · obtain ⟨x1, x2⟩ := unds_ref c' u c' (j + 1)
      obtain ⟨y1, y2⟩ := unds_ref c u c (j + 1)
      refine TS_fr (u5 j hj).1 ?_ (fun o h1 h2 => ?_) (fun o k h1 h2 => ?_) mT mD
      · rw [x1, y1]; exact hr 35 0 (by omega)
      · rw [x2 o (by omega), y2 o (by omega)]; exact cT o h1 h2
      · rw [unds_fr u c68 (fun o h1 h2 => c35 o h1 (by omega)) (j + 1) o h1 h2]
    · rw [v24 _]; exact (u5 j hj).2
  · unfold WRD at hw ⊢
    rw [c32]; exact hw
end L
