/-! the reference's rows have two halves: what is told, and what is being read -/
section L
variable {F : Nat} {c m c' m' : g_M} {T S t f : Nat}
def hf (o : Nat) : Nat := if o = 2 then 9 else if o ≤ 9 then 5 else if o ≤ 12 then 12 else if o ≤ 17 then 8 else if o ≤ 19 then 3 else 64
def UPc (o k : Nat) : Prop := 2 ≤ o ∧ o ≤ 21 ∧ hf o ≤ k
theorem lo_of (hm : ∀ o k, ¬ UPc o k → m'.1 o k = m.1 o k) {o k : Nat} (hk : k < hf o) : m'.1 o k = m.1 o k := hm o k (fun z => by have := z.2.2; omega)
theorem hi_of (hm : ∀ o k, ¬ UPc o k → m'.1 o k = m.1 o k) {o k : Nat} (ho : o < 2 ∨ 22 ≤ o) : m'.1 o k = m.1 o k := hm o k (fun z => by have := z.1; have := z.2.1; omega)
theorem WT_up (h : WT m) (hm : ∀ o k, ¬ UPc o k → m'.1 o k = m.1 o k) : WT m' := by
  have v : ∀ o k, k < hf o → vl m' o k = vl m o k := fun o k hk => by unfold vl; rw [lo_of hm hk]
  have r : ∀ o k b, k < hf o → rg m o k b → rg m' o k b := fun o k b hk hr => by unfold rg at hr ⊢; rw [v o k hk, lo_of hm hk]; exact hr
  have h2 : hf 2 = 9 := rfl
  have h5 : ∀ o, 3 ≤ o → o ≤ 9 → hf o = 5 := fun o a b => by unfold hf; rw [if_neg (by omega), if_pos b]
  have h12 : ∀ o, 10 ≤ o → o ≤ 12 → hf o = 12 := fun o a b => by unfold hf; rw [if_neg (by omega), if_neg (by omega), if_pos b]
  have h8 : ∀ o, 13 ≤ o → o ≤ 17 → hf o = 8 := fun o a b => by unfold hf; rw [if_neg (by omega), if_neg (by omega), if_neg (by omega), if_pos b]
  have h3 : ∀ o, 18 ≤ o → o ≤ 19 → hf o = 3 := fun o a b => by unfold hf; rw [if_neg (by omega), if_neg (by omega), if_neg (by omega), if_neg (by omega), if_pos b]
  have h64 : ∀ o, 20 ≤ o → hf o = 64 := fun o a => by unfold hf; rw [if_neg (by omega), if_neg (by omega), if_neg (by omega), if_neg (by omega), if_neg (by omega)]
  obtain ⟨⟨a0, a1, a2, a3, a4, a5, a5', a6, a7, a8⟩, bP, bS, bD, bN, bW, bL⟩ := h
  have c0 := a0.2
  have c1 := a1.2
  have c2 := a2.2
  have c3 := a3.2
  have c4 := a4.2
  have c8 := a8.2
  have w : ∀ k, k < 9 → vl m' 2 k = vl m 2 k := fun k hk => v 2 k (by rw [h2]; exact hk)
  refine ⟨⟨r _ _ _ (by rw [h2]; omega) a0, r _ _ _ (by rw [h2]; omega) a1, r _ _ _ (by rw [h2]; omega) a2, r _ _ _ (by rw [h2]; omega) a3, r _ _ _ (by rw [h2]; omega) a4, r _ _ _ (by rw [h2]; omega) a5, by rw [w 5 (by omega)]; exact a5', r _ _ _ (by rw [h2]; omega) a6, r _ _ _ (by rw [h2]; omega) a7, r _ _ _ (by rw [h2]; omega) a8⟩, fun i hi => ?_, fun i hi => ?_, fun i hi => ?_, fun i hi => ?_, fun i hi => ?_, fun i hi => ?_⟩
  · rw [w 0 (by omega)] at hi
    exact r _ _ _ (by rw [h5 4 (by omega) (by omega)]; omega) (bP i hi)
  · rw [w 1 (by omega)] at hi
    obtain ⟨x1, x2, x3⟩ := bS i hi
    exact ⟨r _ _ _ (by rw [h5 6 (by omega) (by omega)]; omega) x1, by rw [v 6 i (by rw [h5 6 (by omega) (by omega)]; omega)]; exact x2, r _ _ _ (by rw [h5 7 (by omega) (by omega)]; omega) x3⟩
  · rw [w 2 (by omega)] at hi
    exact r _ _ _ (by rw [h5 9 (by omega) (by omega)]; omega) (bD i hi)
  · rw [w 3 (by omega)] at hi
    obtain ⟨x1, x2, x3, x4, x5⟩ := bN i hi
    have k10 : i < hf 10 := by rw [h12 10 (by omega) (by omega)]; omega
    have k11 : i < hf 11 := by rw [h12 11 (by omega) (by omega)]; omega
    rw [w 0 (by omega), w 1 (by omega), v 10 i k10, v 11 i k11]
    exact ⟨r _ _ _ k10 x1, x2, r _ _ _ k11 x3, x4, r _ _ _ (by rw [h12 12 (by omega) (by omega)]; omega) x5⟩
  · rw [w 4 (by omega)] at hi
    obtain ⟨x1, x2, x3, x4, x5, x6, x7⟩ := bW i hi
    have k13 : i < hf 13 := by rw [h8 13 (by omega) (by omega)]; omega
    have k14 : i < hf 14 := by rw [h8 14 (by omega) (by omega)]; omega
    rw [w 0 (by omega), w 2 (by omega), v 13 i k13, v 14 i k14]
    exact ⟨r _ _ _ k13 x1, x2, r _ _ _ k14 x3, x4, r _ _ _ (by rw [h8 15 (by omega) (by omega)]; omega) x5, r _ _ _ (by rw [h8 16 (by omega) (by omega)]; omega) x6, r _ _ _ (by rw [h8 17 (by omega) (by omega)]; omega) x7⟩
  · obtain ⟨x1, x2, x3, x4, x5⟩ := bL i hi
    have k18 : i < hf 18 := by rw [h3 18 (by omega) (by omega)]; omega
    have k19 : i < hf 19 := by rw [h3 19 (by omega) (by omega)]; omega
    have y2 := x2.2
    rw [v 18 i k18, v 19 i k19, w 8 (by omega)]
    refine ⟨r _ _ _ k18 x1, r _ _ _ k19 x2, x3, x4, fun z => ?_⟩
    obtain ⟨d, d0, d1, d2⟩ := x5 z
    refine ⟨d, d0, d1, fun j j1 j2 => ?_⟩
    have k20 : j < hf 20 := by rw [h64 20 (by omega)]; omega
    have k21 : j < hf 21 := by rw [h64 21 (by omega)]; omega
    have := d2 j j1 j2
    unfold rg at this ⊢
    rw [lo_of hm k20, lo_of hm k21, v 21 j k21]; exact this
theorem RT_up (h : RT c m T) (hW : WT m) (hm : ∀ o k, ¬ UPc o k → m'.1 o k = m.1 o k) : RT c m' T := by
  have h2 : hf 2 = 9 := rfl
  have v : ∀ k, k < 9 → vl m' 2 k = vl m 2 k := fun k hk => by unfold vl; rw [lo_of hm (o := 2) (by rw [h2]; exact hk)]
  have h5 : ∀ o k, 3 ≤ o → o ≤ 9 → k < 5 → m'.1 o k = m.1 o k := fun o k a b hk => lo_of hm (by unfold hf; rw [if_neg (by omega), if_pos b]; exact hk)
  have h12 : ∀ o k, 10 ≤ o → o ≤ 12 → k < 12 → m'.1 o k = m.1 o k := fun o k a b hk => lo_of hm (by unfold hf; rw [if_neg (by omega), if_neg (by omega), if_pos b]; exact hk)
  have h8 : ∀ o k, 13 ≤ o → o ≤ 17 → k < 8 → m'.1 o k = m.1 o k := fun o k a b hk => lo_of hm (by unfold hf; rw [if_neg (by omega), if_neg (by omega), if_neg (by omega), if_pos b]; exact hk)
  have h3 : ∀ o k, 18 ≤ o → o ≤ 19 → k < 3 → m'.1 o k = m.1 o k := fun o k a b hk => lo_of hm (by unfold hf; rw [if_neg (by omega), if_neg (by omega), if_neg (by omega), if_neg (by omega), if_pos b]; exact hk)
  have h64 : ∀ o k, 20 ≤ o → k < 64 → m'.1 o k = m.1 o k := fun o k a hk => lo_of hm (by unfold hf; rw [if_neg (by omega), if_neg (by omega), if_neg (by omega), if_neg (by omega), if_neg (by omega)]; exact hk)
  have e2 : ∀ k, k < 9 → m'.1 2 k = m.1 2 k := fun k hk => lo_of hm (by rw [h2]; exact hk)
  obtain ⟨⟨a0, a1, a2, a3, a4, a5, a5', a6, a7, a8⟩, _⟩ := hW
  have c0 := a0.2
  have c1 := a1.2
  have c2 := a2.2
  have c3 := a3.2
  have c4 := a4.2
  have c8 := a8.2
  obtain ⟨r1, r2, r3, r4, ⟨r5, r6, r7, r8, r9, r10⟩, r11, r12, r13, r14⟩ := h
  refine ⟨fun k hk => by rw [e2 k (by omega)]; exact r1 k hk, fun i hi => ?_, fun i hi => ?_, fun i hi => ?_, ⟨by rw [e2 3 (by omega)]; exact r5, by rw [e2 4 (by omega)]; exact r6, by rw [e2 5 (by omega)]; exact r7, by rw [e2 6 (by omega)]; exact r8, by rw [e2 7 (by omega)]; exact r9, by rw [e2 8 (by omega)]; exact r10⟩, fun i hi => ?_, fun i hi => ?_, fun i hi => ?_, fun i hi => ?_⟩
  · rw [v 0 (by omega)] at hi
    rw [h5 3 i (by omega) (by omega) (by omega), h5 4 i (by omega) (by omega) (by omega)]; exact r2 i hi
  · rw [v 1 (by omega)] at hi
    rw [h5 5 i (by omega) (by omega) (by omega), h5 6 i (by omega) (by omega) (by omega), h5 7 i (by omega) (by omega) (by omega)]; exact r3 i hi
  · rw [v 2 (by omega)] at hi
    rw [h5 8 i (by omega) (by omega) (by omega), h5 9 i (by omega) (by omega) (by omega)]; exact r4 i hi
  · rw [v 3 (by omega)] at hi
    rw [h12 10 i (by omega) (by omega) (by omega), h12 11 i (by omega) (by omega) (by omega), h12 12 i (by omega) (by omega) (by omega)]; exact r11 i hi
  · rw [v 4 (by omega)] at hi
    rw [h8 13 i (by omega) (by omega) (by omega), h8 14 i (by omega) (by omega) (by omega), h8 15 i (by omega) (by omega) (by omega), h8 16 i (by omega) (by omega) (by omega), h8 17 i (by omega) (by omega) (by omega)]; exact r12 i hi
  · rw [h3 18 i (by omega) (by omega) (by omega), h3 19 i (by omega) (by omega) (by omega)]; exact r13 i hi
  · rw [v 8 (by omega)] at hi
    rw [h64 20 i (by omega) (by omega), h64 21 i (by omega) (by omega)]; exact r14 i hi
theorem TS_up (h : TS c m T t f) (hm : ∀ o k, ¬ UPc o k → m'.1 o k = m.1 o k) : TS c m' T t f := by
  obtain ⟨hT, ht, hf', hp0, hW, hR, hWS, hRS⟩ := h
  have h2 : hf 2 = 9 := rfl
  have v : ∀ k, k < 9 → vl m' 2 k = vl m 2 k := fun k hk => by unfold vl; rw [lo_of hm (o := 2) (by rw [h2]; exact hk)]
  have e : ∀ o, 24 ≤ o → m'.1 o = m.1 o := fun o ho => by funext k; exact hi_of hm (by omega)
  have ve : ∀ o k, 24 ≤ o → vl m' o k = vl m o k := fun o k ho => by unfold vl; rw [e o ho]
  refine ⟨hT, ht, hf', hp0, WT_up hW hm, RT_up hR hW hm, ?_, ?_⟩
  · unfold WS rg at hWS ⊢
    simp only [v 0 (by omega), v 1 (by omega), ve 24 _ (by omega), ve 25 _ (by omega), ve 27 _ (by omega), ve 28 _ (by omega), ve 29 _ (by omega), ve 30 _ (by omega), ve 31 _ (by omega), ve 32 _ (by omega), ve 33 _ (by omega), ve 34 _ (by omega), ve 35 _ (by omega), e 24 (by omega), e 25 (by omega), e 27 (by omega), e 28 (by omega), e 29 (by omega), e 30 (by omega), e 31 (by omega), e 32 (by omega), e 33 (by omega), e 34 (by omega), e 35 (by omega)]
    exact hWS
  · unfold RS at hRS ⊢
    simp only [v 0 (by omega), ve 27 _ (by omega), e 24 (by omega), e 25 (by omega), e 26 (by omega), e 27 (by omega), e 28 (by omega), e 29 (by omega), e 30 (by omega), e 31 (by omega), e 32 (by omega), e 33 (by omega), e 34 (by omega), e 35 (by omega)]
    exact hRS
theorem INV_up (h : INV c m) (hm : ∀ o k, ¬ UPc o k → m'.1 o k = m.1 o k) : INV c m' := by
  obtain ⟨T, S, hTW, r2, r3, hTS, hd, hI, hTa, hF, hS, hAB, hSe, hL, hw⟩ := h
  have e : ∀ o, o < 2 ∨ 22 ≤ o → m'.1 o = m.1 o := fun o ho => by funext k; exact hi_of hm ho
  have v24 : ∀ g, vl m' 24 g = vl m 24 g := fun g => by unfold vl; rw [e 24 (by omega)]
  refine ⟨T, S, hTW, r2, r3, TS_up hTS hm, by rw [v24]; exact hd, ?_, ?_, ?_, by rw [e 0 (by omega)]; exact hS, ⟨hAB.1, by rw [e 0 (by omega)]; exact hAB.2.1, hAB.2.2⟩, ?_, ?_, hw⟩
  · unfold IMG at hI ⊢
    rw [e 0 (by omega), v24]
    exact ⟨hI.1, hI.2.imp id (fun z => ⟨z.1, TS_up z.2.1 hm, z.2.2⟩)⟩
  · unfold TAPE at hTa ⊢
    rw [e 0 (by omega), e 1 (by omega)]; exact hTa
  · unfold FLT at hF ⊢
    rw [e 0 (by omega)]; exact hF
  · unfold SEEN at hSe ⊢
    rw [e 0 (by omega), e 39 (by omega), e 40 (by omega), e 41 (by omega), e 42 (by omega)]; exact hSe
  · obtain ⟨u, u1, u2, u3, u4, u5⟩ := hL
    exact ⟨u, u1, u2, by rw [e 0 (by omega)]; exact u3, u4, fun j hj => ⟨TS_up (u5 j hj).1 hm, by rw [v24]; exact (u5 j hj).2⟩⟩
/-- what is being read, as if it were told -/
def up (m : g_M) : g_M := (fun o k => if 2 ≤ o ∧ o ≤ 21 ∧ k < hf o then m.1 o (hf o + k) else 0, m.2)
theorem up_at {o k : Nat} (h1 : 2 ≤ o) (h2 : o ≤ 21) (h3 : k < hf o) : (up m).1 o k = m.1 o (hf o + k) := if_pos ⟨h1, h2, h3⟩
theorem up_eq {o k : Nat} (h : 2 ≤ o → o ≤ 21 → k < hf o → m'.1 o (hf o + k) = m.1 o (hf o + k)) : (up m').1 o k = (up m).1 o k := by
  by_cases z : 2 ≤ o ∧ o ≤ 21 ∧ k < hf o
  · rw [up_at z.1 z.2.1 z.2.2, up_at z.1 z.2.1 z.2.2]; exact h z.1 z.2.1 z.2.2
  · show (if 2 ≤ o ∧ o ≤ 21 ∧ k < hf o then _ else (0 : Int32)) = (if 2 ≤ o ∧ o ≤ 21 ∧ k < hf o then _ else (0 : Int32))
    rw [if_neg z, if_neg z]
end L
