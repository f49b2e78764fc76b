/-! what is told, behind the halves -/
section L
variable {F : Nat} {c m c' m' c1 m1 mh : g_M} {n p q S f : Nat}
/-- a memory whose lower halves are the upper halves of m -/
theorem told_of (hW : WT (up m)) (hR : RT c (up m) S) (h : ∀ o k, 2 ≤ o → o ≤ 21 → k < hf o → mh.1 o k = m.1 o (hf o + k)) : WT mh ∧ RT c mh S := by
  obtain ⟨x, hx⟩ : ∃ y : g_M, y = (fun o k => if 2 ≤ o ∧ o ≤ 21 then mh.1 o k else (up m).1 o k, (up m).2) := ⟨_, rfl⟩
  have h1 : ∀ o k, ¬ UPc o k → x.1 o k = (up m).1 o k := fun o k y => by
    rw [hx]
    show (if 2 ≤ o ∧ o ≤ 21 then mh.1 o k else (up m).1 o k) = _
    by_cases z : 2 ≤ o ∧ o ≤ 21
    · have hk : k < hf o := by
        by_cases w : k < hf o
        · exact w
        · exact absurd ⟨z.1, z.2, by omega⟩ y
      rw [if_pos z, h o k z.1 z.2 hk, up_at z.1 z.2 hk]
    · rw [if_neg z]
  have h2 : ∀ o, 2 ≤ o → o ≤ 21 → mh.1 o = x.1 o := fun o y1 y2 => by
    funext k
    rw [hx]
    show _ = (if 2 ≤ o ∧ o ≤ 21 then mh.1 o k else (up m).1 o k)
    rw [if_pos ⟨y1, y2⟩]
  exact ⟨WT_fr (WT_up hW h1) h2, RT_fr (RT_up hR hW h1) (fun _ _ _ => rfl) h2⟩
end L
