/-! tokens: signs, in both -/
section L
variable {F : Nat} {c m c' m' c1 m1 cc mm : g_M} {n p q b : Nat}
def LXS (cc mm c' m' : g_M) (p' : Nat) : Prop := c'.2 = cc.2 ∧ m'.2 = mm.2 ∧ (∀ o k, ¬ (o = 31 ∧ (k = 0 ∨ k = 2 ∨ k = 5)) → c'.1 o k = cc.1 o k) ∧ (∀ o k, ¬ (o = 0 ∧ (k = 26 ∨ k = 28 ∨ k = 29)) → m'.1 o k = mm.1 o k) ∧ c'.1 31 5 = nI p' ∧ m'.1 0 26 = nI p'
theorem lex_sgn (hB : BY c m n) (hq : q < n) (hc1 : cc.1 1 = c.1 1) (h4 : cc.1 31 4 = nI n) (h5 : cc.1 31 5 = nI q) (hm1 : mm.1 1 = m.1 1) (h25 : mm.1 0 25 = nI n) (h26 : mm.1 0 26 = nI q) : ∃ c' m' p', f8_stepSign F cc = some c' ∧ f11_sign F (nI (vl m 1 q)) mm = some m' ∧ q < p' ∧ p' ≤ n ∧ LXS cc mm c' m' p' ∧ ((c'.1 31 0 = 4 ∧ m'.1 0 28 = 3 ∧ SV (c'.1 31 2) (m'.1 0 29)) ∨ (c'.1 31 0 = 5 ∧ m'.1 0 28 = 5)) := by
  have hn := hB.1
  obtain ⟨b, hbq⟩ : ∃ b, b = vl m 1 q := ⟨_, rfl⟩
  have hb : b < 256 := by rw [hbq]; exact (hB.2 q hq).1
  have hbyte : cc.1 1 q = cb b := by rw [hc1, (hB.2 q hq).2.2, hbq]
  rw [← hbq]
  obtain ⟨w0, hw0⟩ : ∃ w0 : Int32, w0 = if q + 1 < n then cb (vl m 1 (q + 1)) else 0 := ⟨_, rfl⟩
  have wk : ∀ k : Nat, 0 < k → k < 128 → (w0 = nI k ↔ q + 1 < n ∧ vl m 1 (q + 1) = k) := fun k h0 hk => by
    rw [hw0]
    by_cases z : q + 1 < n
    · rw [if_pos z, cb_eq (hB.2 _ z).1 hk]; exact ⟨fun y => ⟨z, y⟩, fun y => y.2⟩
    · rw [if_neg z]
      constructor
      · intro y
        have := (g_eqN (a := 0) (b := k) (by omega) (by omega)).mp y
        omega
      · intro y; exact absurd y.1 z
  have hk : ∀ k : Nat, k < 128 → (hr m n (q + 1) = nI k ↔ q + 1 < n ∧ vl m 1 (q + 1) = k) := fun k hk => by
    unfold hr
    by_cases z : q + 1 < n
    · have := (hB.2 _ z).1
      rw [if_pos z, g_eqN (by omega) (by omega)]; exact ⟨fun y => ⟨z, y⟩, fun y => y.2⟩
    · rw [if_neg z]
      exact ⟨fun y => absurd y.symm (nI_mb (by omega)), fun y => absurd y.1 z⟩
  have hbk : ∀ k : Nat, k < 128 → (nI b = nI k ↔ b = k) := fun k hk => g_eqN (by omega) (by omega)
  -- the class
  obtain ⟨d, hd⟩ : ∃ x, x = g_sI (g_sI cc 31 5 (nI (q + 1))) 31 0 (4 : Int32) := ⟨_, rfl⟩
  have dn : ∀ o k, ¬ (o = 31 ∧ (k = 0 ∨ k = 5)) → d.1 o k = cc.1 o k := fun o k z => by rw [hd, sI_ne (by omega), sI_ne (by omega)]
  have d5 : d.1 31 5 = nI (q + 1) := by rw [hd, sI_ne (by omega), sI_eq]
  have d0 : d.1 31 0 = 4 := by rw [hd, sI_eq]
  have stC : f8_stepSign F cc = if cb b = (60 : Int32) then (if w0 = (62 : Int32) then some (g_sI (g_sI d 31 2 (7 : Int32)) 31 5 (nI (q + 2))) else f8_stepSign_b81 F (cb b) w0 d) else f8_stepSign_b81 F (cb b) w0 d := by
    unfold f8_stepSign f8_stepSign_b44
    have s5 : (g_sI cc 31 5 (nI (q + 1))).1 31 5 = nI (q + 1) := sI_eq
    have s4 : (g_sI cc 31 5 (nI (q + 1))).1 31 4 = nI n := by rw [sI_ne (by omega)]; exact h4
    have s7 : (g_sI d 31 2 (7 : Int32)).1 31 5 + (1 : Int32) = nI (q + 2) := by rw [sI_ne (by omega), d5, nI_s]
    rw [h5, g_ckN (by omega) (by omega), g_clN (by omega), hbyte, nI_s]
    simp only [g_let]
    rw [s5, s4, ← hd, s7, hw0]
    by_cases z : q + 1 < n
    · rw [if_pos ((g_ltN (by omega) (by omega)).mpr z), if_pos z, g_ckN (by omega) (by omega), g_clN (by omega), sI_o (by omega), hc1, (hB.2 _ z).2.2]
    · rw [if_neg (fun y => z ((g_ltN (by omega) (by omega)).mp y)), if_neg z]
  have b128C : f8_stepSign_b128 F (cb b) d = some (g_sI (g_sI d 31 2 (sgT b)) 31 0 (if isSgn b = true then (4 : Int32) else (5 : Int32))) := by
    unfold f8_stepSign_b128 f8_stepSign_b150
    rw [q_signOf hb, g_bs]
    simp only [g_let]
    rw [sI_eq]
    by_cases z : isSgn b = true
    · rw [if_neg ((sgT_iff ⟨b, hb⟩).1 z).1, if_pos z]
    · have z' : isSgn b = false := by cases h : isSgn b <;> simp_all
      rw [if_pos ((sgT_iff ⟨b, hb⟩).2 z'), if_neg z]
  have b112C : ∀ w, f8_stepSign_b112 F w d = some (g_sI (g_sI d 31 2 w) 31 5 (nI (q + 2))) := fun w => by
    unfold f8_stepSign_b112
    simp only [g_let]
    rw [sI_ne (by omega), d5, nI_s]
  -- the reference
  obtain ⟨e, he⟩ : ∃ x, x = g_sI (g_sI (g_sI mm 0 26 (nI (q + 1))) 0 28 (if isSgn b = true then (3 : Int32) else (5 : Int32))) 0 29 (nI b) := ⟨_, rfl⟩
  have en : ∀ o k, ¬ (o = 0 ∧ (k = 26 ∨ k = 28 ∨ k = 29)) → e.1 o k = mm.1 o k := fun o k z => by rw [he, sI_ne (by omega), sI_ne (by omega), sI_ne (by omega)]
  have e26 : e.1 0 26 = nI (q + 1) := by rw [he, sI_ne (by omega), sI_ne (by omega), sI_eq]
  have e28 : e.1 0 28 = (if isSgn b = true then (3 : Int32) else (5 : Int32)) := by rw [he, sI_ne (by omega), sI_eq]
  have e29 : e.1 0 29 = nI b := by rw [he, sI_eq]
  have hh : ∀ v, f11_here F (g_sI e 0 29 v) = some (hr m n (q + 1)) := fun v => r_here hB (by omega) (by rw [sI_ne (by omega), en 0 25 (by omega)]; exact h25) (by rw [sI_ne (by omega)]; exact e26) (by rw [sI_o (by omega)]; funext k; rw [en 1 k (by omega), hm1])
  have hhe : f11_here F e = some (hr m n (q + 1)) := r_here hB (by omega) (by rw [en 0 25 (by omega)]; exact h25) e26 (by funext k; rw [en 1 k (by omega), hm1])
  have stM : f11_sign F (nI b) mm = if nI b = (60 : Int32) then (if hr m n (q + 1) = (61 : Int32) then f11_sign_b106 F (nI b) (g_sI e 0 29 (256 : Int32)) else f11_sign_b106 F (nI b) e) else f11_sign_b106 F (nI b) e := by
    rw [r_signA hb, h26, nI_s]
    unfold f11_sign_b76
    simp only [g_let]
    rw [← he, hhe]
    rfl
  have e150 : ∀ k : Nat, 256 ≤ k → k < 300 → f11_sign_b150 F (nI b) (g_sI e 0 29 (nI k)) = some (g_sI (g_sI e 0 29 (nI k)) 0 26 (nI (q + 2))) := fun k h1 h2 => by
    unfold f11_sign_b150
    rw [sI_eq, if_pos (show (256 : Int32) ≤ nI k from (g_leN (a := 256) (by omega) (by omega)).mpr h1), g_let_e, sI_ne (by omega), e26, nI_s]
  have e150n : f11_sign_b150 F (nI b) e = some e := by
    unfold f11_sign_b150
    rw [e29, if_neg (show ¬ (256 : Int32) ≤ nI b from fun y => by have := (g_leN (a := 256) (by omega) (by omega)).mp y; omega)]
  have c60 : ∀ x, (cb b = (60 : Int32)) = (b = 60) ∨ x := fun x => Or.inl (propext (cb_eq (k := 60) hb (by omega)))
  have cb60 : cb b = (60 : Int32) ↔ b = 60 := cb_eq (k := 60) hb (by omega)
  have cb62 : cb b = (62 : Int32) ↔ b = 62 := cb_eq (k := 62) hb (by omega)
  have nb60 : nI b = (60 : Int32) ↔ b = 60 := hbk 60 (by omega)
  have nb62 : nI b = (62 : Int32) ↔ b = 62 := hbk 62 (by omega)
  have w62 : w0 = (62 : Int32) ↔ q + 1 < n ∧ vl m 1 (q + 1) = 62 := wk 62 (by omega) (by omega)
  have w61 : w0 = (61 : Int32) ↔ q + 1 < n ∧ vl m 1 (q + 1) = 61 := wk 61 (by omega) (by omega)
  have h62 : hr m n (q + 1) = (62 : Int32) ↔ q + 1 < n ∧ vl m 1 (q + 1) = 62 := hk 62 (by omega)
  have h61 : hr m n (q + 1) = (61 : Int32) ↔ q + 1 < n ∧ vl m 1 (q + 1) = 61 := hk 61 (by omega)
  -- two signs in one
  have two : ∀ (x y : Int32) (k : Nat), y = nI k → q + 1 < n → isSgn b = true → SV x y → f8_stepSign F cc = some (g_sI (g_sI d 31 2 x) 31 5 (nI (q + 2))) → f11_sign F (nI b) mm = some (g_sI (g_sI e 0 29 (nI k)) 0 26 (nI (q + 2))) → ∃ c' m' p', f8_stepSign F cc = some c' ∧ f11_sign F (nI b) mm = some m' ∧ q < p' ∧ p' ≤ n ∧ LXS cc mm c' m' p' ∧ ((c'.1 31 0 = 4 ∧ m'.1 0 28 = 3 ∧ SV (c'.1 31 2) (m'.1 0 29)) ∨ (c'.1 31 0 = 5 ∧ m'.1 0 28 = 5)) := by
    intro x y k hy hlt hs hsv f1 f2
    refine ⟨_, _, q + 2, f1, f2, by omega, by omega, ⟨by rw [hd]; rfl, by rw [he]; rfl, fun o k z => by rw [sI_ne (by omega), sI_ne (by omega)]; exact dn o k (by omega), fun o k z => by rw [sI_ne (by omega), sI_ne (by omega)]; exact en o k z, sI_eq, sI_eq⟩, Or.inl ⟨by rw [sI_ne (by omega), sI_ne (by omega)]; exact d0, by rw [sI_ne (by omega), sI_ne (by omega), e28, if_pos hs], ?_⟩⟩
    rw [sI_ne (by omega), sI_eq, sI_ne (by omega), sI_eq, ← hy]; exact hsv
  -- one sign
  have one : f8_stepSign F cc = f8_stepSign_b128 F (cb b) d → f11_sign F (nI b) mm = some e → ∃ c' m' p', f8_stepSign F cc = some c' ∧ f11_sign F (nI b) mm = some m' ∧ q < p' ∧ p' ≤ n ∧ LXS cc mm c' m' p' ∧ ((c'.1 31 0 = 4 ∧ m'.1 0 28 = 3 ∧ SV (c'.1 31 2) (m'.1 0 29)) ∨ (c'.1 31 0 = 5 ∧ m'.1 0 28 = 5)) := by
    intro f1 f2
    rw [b128C] at f1
    refine ⟨_, _, q + 1, f1, f2, by omega, by omega, ⟨by rw [hd]; rfl, by rw [he]; rfl, fun o k z => by rw [sI_ne (by omega), sI_ne (by omega)]; exact dn o k (by omega), en, by rw [sI_ne (by omega), sI_ne (by omega)]; exact d5, e26⟩, ?_⟩
    rw [sI_eq, sI_ne (by omega), sI_eq, e28, e29]
    by_cases z : isSgn b = true
    · rw [if_pos z, if_pos z]; exact Or.inl ⟨rfl, rfl, SV_b ⟨b, hb⟩ z⟩
    · rw [if_neg z, if_neg z]; exact Or.inr ⟨rfl, rfl⟩
  unfold f8_stepSign_b81 f8_stepSign_b93 at stC
  unfold f11_sign_b106 f11_sign_b128 at stM
  simp only [hh, hhe, g_bs] at stM
  by_cases b60 : b = 60
  · have n62 : ¬ b = 62 := by omega
    rw [if_pos (cb60.mpr b60)] at stC
    rw [if_pos (nb60.mpr b60)] at stM
    simp only [if_pos (nb60.mpr b60), if_neg (show ¬ nI b = (62 : Int32) from fun y => n62 (nb62.mp y))] at stM
    have hs : isSgn b = true := by rw [b60]; decide
    by_cases z : q + 1 < n ∧ vl m 1 (q + 1) = 62
    · have nz : ¬ (q + 1 < n ∧ vl m 1 (q + 1) = 61) := by omega
      rw [if_pos (w62.mpr z)] at stC
      rw [if_neg (fun y => nz (h61.mp y)), if_pos (h62.mpr z)] at stM
      exact two 7 257 257 rfl z.1 hs (by unfold SV; simp) stC (by rw [stM, g_let_e]; exact e150 257 (by omega) (by omega))
    · rw [if_neg (fun y => z (w62.mp y)), if_pos (cb60.mpr b60)] at stC
      by_cases y : q + 1 < n ∧ vl m 1 (q + 1) = 61
      · rw [if_pos (w61.mpr y), if_pos (cb60.mpr b60)] at stC
        rw [if_pos (h61.mpr y), if_neg (fun x => z (h62.mp x))] at stM
        exact two 5 256 256 rfl y.1 hs (by unfold SV; simp) (by rw [stC]; exact b112C 5) (by rw [stM]; exact e150 256 (by omega) (by omega))
      · rw [if_neg (fun x => y (w61.mp x))] at stC
        rw [if_neg (fun x => y (h61.mp x)), if_neg (fun x => z (h62.mp x))] at stM
        exact one stC (by rw [stM]; exact e150n)
  · have nc60 : ¬ cb b = (60 : Int32) := fun y => b60 (cb60.mp y)
    have nn60 : ¬ nI b = (60 : Int32) := fun y => b60 (nb60.mp y)
    simp only [if_neg nc60] at stC
    simp only [if_neg nn60] at stM
    by_cases b62 : b = 62
    · have hs : isSgn b = true := by rw [b62]; decide
      simp only [if_pos (cb62.mpr b62)] at stC
      simp only [if_pos (nb62.mpr b62)] at stM
      by_cases y : q + 1 < n ∧ vl m 1 (q + 1) = 61
      · rw [if_pos (w61.mpr y)] at stC
        rw [if_pos (h61.mpr y)] at stM
        exact two 8 258 258 rfl y.1 hs (by unfold SV; simp) (by rw [stC]; exact b112C 8) (by rw [stM, g_let_e]; exact e150 258 (by omega) (by omega))
      · rw [if_neg (fun x => y (w61.mp x))] at stC
        rw [if_neg (fun x => y (h61.mp x))] at stM
        exact one stC (by rw [stM]; exact e150n)
    · simp only [if_neg (show ¬ cb b = (62 : Int32) from fun y => b62 (cb62.mp y))] at stC
      simp only [if_neg (show ¬ nI b = (62 : Int32) from fun y => b62 (nb62.mp y))] at stM
      exact one stC (by rw [stM]; exact e150n)
end L
