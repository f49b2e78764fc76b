/-! laws: both sides work out the same -/
theorem g_for2x {α β α' β' : Type} {b : (α → Option β) → α → Option β} {b' : (α' → Option β') → α' → Option β'} (I : Nat → α → α' → Prop) (N : Nat) (Q : Option β → Option β' → Prop)
    (hs : ∀ i s t, i < N → I i s t → (∃ s' t', I (i + 1) s' t' ∧ (∀ sf, b sf s = sf s') ∧ ∀ sf, b' sf t = sf t') ∨ ∃ r r', Q r r' ∧ (∀ sf, b sf s = r) ∧ ∀ sf, b' sf t = r')
    (hN : ∀ s t, I N s t → ∃ r r', Q r r' ∧ (∀ sf, b sf s = r) ∧ ∀ sf, b' sf t = r') {s : α} {t : α'} (h0 : I 0 s t) {F : Nat} (hF : N < F) : Q (g_fix b F s) (g_fix b' F t) := by
  have key : ∀ k, k ≤ N → ∀ s t, I (N - k) s t → ∀ F, k < F → Q (g_fix b F s) (g_fix b' F t) := by
    intro k
    induction k with
    | zero =>
      intro _ s t h F hF
      obtain ⟨r, r', h1, h2, h3⟩ := hN s t (by simpa using h)
      rw [g_fix_p (by omega), g_fix_p (by omega), h2, h3]
      exact h1
    | succ k ih =>
      intro hk s t h F hF
      rcases hs (N - (k + 1)) s t (by omega) h with ⟨s', t', h1, h2, h3⟩ | ⟨r, r', h1, h2, h3⟩
      · rw [g_fix_p (by omega), g_fix_p (b := b') (by omega), h2, h3]
        exact ih (by omega) s' t' (by rw [show N - k = N - (k + 1) + 1 by omega]; exact h1) (F - 1) (by omega)
      · rw [g_fix_p (by omega), g_fix_p (by omega), h2, h3]
        exact h1
  exact key N (Nat.le_refl _) s t (by simpa using h0) F hF
theorem lc_eq (x y : Int64) : (lg_cmp x y = 0) ↔ x = y := by
  unfold lg_cmp
  by_cases h : x > y
  · rw [if_pos h]
    constructor
    · intro z; exact absurd z (by decide)
    · intro z; subst z; exact absurd h Int64.lt_irrefl
  · rw [if_neg h]
    by_cases e : x = y
    · rw [if_pos e]; exact ⟨fun _ => e, fun _ => rfl⟩
    · rw [if_neg e]; exact ⟨fun z => absurd z (by decide), fun z => absurd z e⟩
theorem lc_lt (x y : Int64) : (lg_cmp x y < 0) ↔ x < y := by
  unfold lg_cmp
  by_cases h : x > y
  · rw [if_pos h]
    exact ⟨fun z => absurd z (by decide), fun z => absurd (Int64.lt_trans z h) Int64.lt_irrefl⟩
  · rw [if_neg h]
    by_cases e : x = y
    · rw [if_pos e]; subst e; exact ⟨fun z => absurd z (by decide), fun z => absurd z Int64.lt_irrefl⟩
    · rw [if_neg e]
      exact ⟨fun _ => Int64.lt_of_le_of_ne (Int64.not_lt.mp h) e, fun _ => by decide⟩
theorem lc_gt (x y : Int64) : (0 < lg_cmp x y) ↔ y < x := by
  unfold lg_cmp
  by_cases h : x > y
  · rw [if_pos h]
    exact ⟨fun _ => h, fun _ => by decide⟩
  · rw [if_neg h]
    by_cases e : x = y
    · rw [if_pos e]; exact ⟨fun z => absurd z (by decide), fun z => absurd z h⟩
    · rw [if_neg e]; exact ⟨fun z => absurd z (by decide), fun z => absurd z h⟩
theorem lc_le (x y : Int64) : (lg_cmp x y ≤ 0) ↔ x ≤ y := by
  rw [← Int32.not_lt, lc_gt, Int64.not_lt]
theorem lc_ge (x y : Int64) : (0 ≤ lg_cmp x y) ↔ y ≤ x := by
  rw [← Int32.not_lt, lc_lt, Int64.not_lt]
def okL (w : Int64) : Bool := decide (w ≤ 1000000000000) && decide ((-1000000000000 : Int64) ≤ w)
def bL (p : Bool) : Int64 := if p = true then 1 else 0
def ab (x : Int64) : Int64 := if 0 < x then x else -x
/-- what an operator gives; an error is the least long -/
def cw (v : Int32) (x y : Int64) : Int64 :=
  if v = 43 then x + y else if v = 45 then x - y else if v = 42 then (if ¬ x = 0 ∧ 1000000000000 / ab x < ab y then -9223372036854775808 else x * y)
  else if v = 47 then (if y = 0 then -9223372036854775808 else x / y) else if v = 60 then bL (decide (x < y)) else if v = 256 then bL (decide (x ≤ y)) else if v = 61 then bL (decide (x = y))
  else if v = 257 then bL (!decide (x = y)) else if v = 258 then bL (decide (y ≤ x)) else if v = 62 then bL (decide (y < x)) else if v = 261 then bL (!decide (x = 0) && !decide (y = 0)) else bL (!decide (x = 0) || !decide (y = 0))
theorem ab_alt (x : Int64) : (if x < 0 then -x else x) = ab x := by
  unfold ab
  by_cases h : x < 0
  · rw [if_pos h, if_neg (fun z => Int64.lt_irrefl (Int64.lt_trans h z))]
  · by_cases h2 : 0 < x
    · rw [if_neg h, if_pos h2]
    · have : x = 0 := Int64.le_antisymm (Int64.not_lt.mp h2) (Int64.not_lt.mp h)
      subst this
      rfl
theorem ab_zero (x : Int64) : ab x = 0 ↔ x = 0 := by
  unfold ab
  by_cases h : 0 < x
  · rw [if_pos h]
  · rw [if_neg h]
    constructor
    · intro z
      have := congrArg (fun w : Int64 => -w) z
      simpa using this
    · intro z; subst z; rfl
theorem q_product (F : Nat) (x y : Int64) (c : g_M) : f2_product F x y c = some (if ¬ x = 0 ∧ 1000000000000 / ab x < ab y then -9223372036854775808 else x * y) := by
  have key : ∀ w0 w1 : Int64, w0 = ab x → w1 = ab y → f2_product_b26 F x y c w0 w1 = some (if ¬ x = 0 ∧ 1000000000000 / ab x < ab y then -9223372036854775808 else x * y) := by
    intro w0 w1 h0 h1
    subst h0; subst h1
    simp only [f2_product_b26, f2_product_b53, lc_eq, lc_gt, ab_zero]
    by_cases a : x = 0
    · rw [if_pos a, if_neg (fun z => z.1 a)]
    · rw [if_neg a]
      unfold g_nzL
      rw [if_neg (fun z => a ((ab_zero x).mp z))]
      by_cases b : 1000000000000 / ab x < ab y
      · rw [if_pos b, if_pos ⟨a, b⟩]
      · rw [if_neg b, if_neg (fun z => b z.2)]
  unfold f2_product f2_product_b12
  simp only [lc_lt]
  have hx := ab_alt x
  have hy := ab_alt y
  by_cases a : x < 0
  · rw [if_pos a] at hx ⊢
    by_cases b : y < 0
    · rw [if_pos b] at hy ⊢; exact key _ _ hx hy
    · rw [if_neg b] at hy ⊢; exact key _ _ hx hy
  · rw [if_neg a] at hx ⊢
    by_cases b : y < 0
    · rw [if_pos b] at hy ⊢; exact key _ _ hx hy
    · rw [if_neg b] at hy ⊢; exact key _ _ hx hy
theorem bL_if (p : Prop) [Decidable p] : (if (if p then (1 : Int32) else 0) = 0 then some (0 : Int64) else some 1) = some (bL (decide p)) := by
  by_cases h : p
  · simp [h, bL]
  · simp [h, bL]
set_option maxRecDepth 100000 in
theorem q_worked (F : Nat) {v : Int32} (hv : isOp v) (x y : Int64) (c : g_M) : f2_worked F (opc v) x y c = some (cw v x y) := by
  have e1 : ∀ (p : Prop) (_ : Decidable p), ((if p then some (1 : Int32) else some 0).bind fun r => if r = 0 then some (0 : Int64) else some 1) = some (bL (decide p)) := by
    intro p _
    by_cases h : p <;> simp [h, bL]
  rcases hv with rfl | rfl | rfl | rfl | rfl | rfl | rfl | rfl | rfl | rfl | rfl | rfl
  · rw [show opc 43 = 0 from by decide]
    unfold f2_worked
    rw [if_pos rfl]
    rfl
  · rw [show opc 45 = 1 from by decide]
    unfold f2_worked
    rw [if_neg (by decide), if_pos rfl]
    rfl
  · rw [show opc 42 = 2 from by decide]
    unfold f2_worked
    rw [if_neg (by decide), if_neg (by decide), if_pos rfl]
    rw [q_product]
    rfl
  · rw [show opc 47 = 3 from by decide]
    unfold f2_worked
    rw [if_neg (by decide), if_neg (by decide), if_neg (by decide), if_pos rfl]
    simp only [lc_eq]
    unfold g_nzL
    show _ = some (if y = 0 then -9223372036854775808 else x / y)
    by_cases h : y = 0 <;> simp [h]
  · rw [show opc 60 = 4 from by decide]
    unfold f2_worked
    rw [if_neg (by decide), if_neg (by decide), if_neg (by decide), if_neg (by decide), if_pos rfl]
    unfold f2_isSo
    rw [if_pos rfl]
    simp only [lc_lt]
    exact e1 _ _
  · rw [show opc 256 = 5 from by decide]
    unfold f2_worked
    rw [if_neg (by decide), if_neg (by decide), if_neg (by decide), if_neg (by decide), if_neg (by decide), if_pos rfl]
    unfold f2_isSo
    rw [if_neg (by decide), if_pos rfl]
    simp only [lc_le]
    exact e1 _ _
  · rw [show opc 61 = 6 from by decide]
    unfold f2_worked
    rw [if_neg (by decide), if_neg (by decide), if_neg (by decide), if_neg (by decide), if_neg (by decide), if_neg (by decide), if_pos rfl]
    unfold f2_isSo
    rw [if_neg (by decide), if_neg (by decide), if_pos rfl]
    simp only [lc_eq]
    exact e1 _ _
  · rw [show opc 257 = 7 from by decide]
    unfold f2_worked
    rw [if_neg (by decide), if_neg (by decide), if_neg (by decide), if_neg (by decide), if_neg (by decide), if_neg (by decide), if_neg (by decide), if_pos rfl]
    unfold f2_isSo
    rw [if_neg (by decide), if_neg (by decide), if_neg (by decide), if_pos rfl]
    simp only [lc_eq]
    show _ = some (bL (!decide (x = y)))
    by_cases h : x = y <;> simp [h, bL]
  · rw [show opc 258 = 8 from by decide]
    unfold f2_worked
    rw [if_neg (by decide), if_neg (by decide), if_neg (by decide), if_neg (by decide), if_neg (by decide), if_neg (by decide), if_neg (by decide), if_neg (by decide), if_pos rfl]
    unfold f2_isSo
    rw [if_neg (by decide), if_neg (by decide), if_neg (by decide), if_neg (by decide), if_pos rfl]
    simp only [lc_ge]
    exact e1 _ _
  · rw [show opc 62 = 9 from by decide]
    unfold f2_worked
    rw [if_neg (by decide), if_neg (by decide), if_neg (by decide), if_neg (by decide), if_neg (by decide), if_neg (by decide), if_neg (by decide), if_neg (by decide), if_neg (by decide), if_pos rfl]
    unfold f2_isSo
    rw [if_neg (by decide), if_neg (by decide), if_neg (by decide), if_neg (by decide), if_neg (by decide)]
    simp only [lc_gt]
    exact e1 _ _
  · rw [show opc 261 = 10 from by decide]
    unfold f2_worked
    rw [if_neg (by decide), if_neg (by decide), if_neg (by decide), if_neg (by decide), if_neg (by decide), if_neg (by decide), if_neg (by decide), if_neg (by decide), if_neg (by decide), if_neg (by decide), if_pos rfl]
    simp only [lc_eq]
    show _ = some (bL (!decide (x = 0) && !decide (y = 0)))
    by_cases h : x = 0 <;> by_cases h2 : y = 0 <;> simp [h, h2, bL]
  · rw [show opc 262 = 11 from by decide]
    unfold f2_worked
    rw [if_neg (by decide), if_neg (by decide), if_neg (by decide), if_neg (by decide), if_neg (by decide), if_neg (by decide), if_neg (by decide), if_neg (by decide), if_neg (by decide), if_neg (by decide), if_neg (by decide), if_pos rfl]
    simp only [lc_eq, f2_worked_b124]
    show _ = some (bL (!decide (x = 0) || !decide (y = 0)))
    by_cases h : x = 0 <;> by_cases h2 : y = 0 <;> simp [h, h2, bL]
/-- only what the working out uses has changed -/
def frC (c c' : g_M) (T : Nat) : Prop := c'.1 = c.1 ∧ c'.2.2 = c.2.2 ∧ ∀ o, o ≠ T + 13 → c'.2.1 o = c.2.1 o
def frM (m m' : g_M) : Prop := (∀ o k, ¬ (o = 0 ∧ k = 38) → m'.1 o k = m.1 o k) ∧ m'.2.2 = m.2.2 ∧ ∀ o, o ≠ 23 → m'.2.1 o = m.2.1 o
theorem frM.sL {m m' : g_M} (h : frM m m') (k : Nat) (v : Int64) : frM m (g_sL m' 23 k v) := ⟨h.1, h.2.1, fun o ho => by rw [← h.2.2 o ho]; funext j; simp [g_sL21, ho]⟩
theorem frM.sI {m m' : g_M} (h : frM m m') (v : Int32) : frM m (g_sI m' 0 38 v) := by
  refine ⟨fun o k hk => ?_, h.2.1, h.2.2⟩
  rw [← h.1 o k hk, g_sI1]
  by_cases a : o = 0
  · by_cases b : k = 38
    · exact absurd ⟨a, b⟩ hk
    · simp [a, b]
  · simp [a]
theorem frC.sL {c c' : g_M} {T : Nat} (h : frC c c' T) (k : Nat) (v : Int64) : frC c (g_sL c' (T + 13) k v) T := ⟨h.1, h.2.1, fun o ho => by rw [← h.2.2 o ho]; funext j; simp [g_sL21, ho]⟩
set_option maxRecDepth 100000 in
theorem r_works (F : Nat) {v : Int32} (hv : isOp v) {m0 m : g_M} (h0 : frM m0 m) {d : Nat} (hd : d ≤ 62) (htop : m.1 0 38 = nI (d + 2)) :
    ∃ m', f11_works F v m = some (if okL (cw v (m.2.1 23 d) (m.2.1 23 (d + 1))) = true then nI 1 else nI 0, m') ∧ frM m0 m' ∧ m'.1 0 38 = nI (d + 1) ∧ (okL (cw v (m.2.1 23 d) (m.2.1 23 (d + 1))) = true → m'.2.1 23 = vp_updL (m.2.1 23) d (cw v (m.2.1 23 d) (m.2.1 23 (d + 1)))) := by
  generalize hx : m.2.1 23 d = x
  generalize hy : m.2.1 23 (d + 1) = y
  have s1 : nI (d + 2) - (1 : Int32) = nI (d + 1) := by rw [g_l1, g_subN (by omega)]; rfl
  have s2 : nI (d + 2) - (2 : Int32) = nI d := by rw [g_l2, g_subN (by omega)]; rfl
  have s3 : nI (d + 1) - (1 : Int32) = nI d := by rw [g_l1, g_subN (by omega)]; rfl
  have hm1 : (g_sI m 0 38 (nI (d + 1))).1 0 38 = nI (d + 1) := by simp [g_sI1]
  have hm2 : (g_sI m 0 38 (nI (d + 1))).2 = m.2 := rfl
  have fin : ∀ w : Int64, ∃ m', f11_works_b407 F v w (g_sI m 0 38 (nI (d + 1))) = some (if okL w = true then nI 1 else nI 0, m') ∧ frM m0 m' ∧ m'.1 0 38 = nI (d + 1) ∧ m'.2.1 23 = vp_updL (m.2.1 23) d w := by
    intro w
    refine ⟨g_sL (g_sI m 0 38 (nI (d + 1))) 23 d w, ?_, (h0.sI _).sL _ _, hm1, ?_⟩
    · unfold f11_works_b407
      rw [hm1, s3, g_ckN (by omega) (by omega), g_clN (by omega)]
      simp only [g_let, lc_le, lc_ge, okL, Bool.and_eq_true, decide_eq_true_eq]
      by_cases a : w ≤ 1000000000000
      · by_cases b : (-1000000000000 : Int64) ≤ w <;> simp [a, b, g_l0, g_l1]
      · simp [a, g_l0]
    · funext j
      rw [g_sL21]
      simp only [if_true, vp_updL]
      rfl
  have fin2 : ∀ w : Int64, w = cw v x y → ∃ m', f11_works_b407 F v w (g_sI m 0 38 (nI (d + 1))) = some (if okL (cw v x y) = true then nI 1 else nI 0, m') ∧ frM m0 m' ∧ m'.1 0 38 = nI (d + 1) ∧ (okL (cw v x y) = true → m'.2.1 23 = vp_updL (m.2.1 23) d (cw v x y)) := by
    intro w hw
    obtain ⟨m', q1, q2, q3, q4⟩ := fin w
    subst hw
    exact ⟨m', q1, q2, q3, fun _ => q4⟩
  have bad : okL (-9223372036854775808) = false := by decide
  have bad2 : cw v x y = -9223372036854775808 → ∃ m', (some ((0 : Int32), g_sI m 0 38 (nI (d + 1))) : Option (Int32 × g_M)) = some (if okL (cw v x y) = true then nI 1 else nI 0, m') ∧ frM m0 m' ∧ m'.1 0 38 = nI (d + 1) ∧ (okL (cw v x y) = true → m'.2.1 23 = vp_updL (m.2.1 23) d (cw v x y)) := by
    intro hw
    refine ⟨_, ?_, h0.sI _, hm1, fun z => ?_⟩
    · rw [hw, bad]; rfl
    · rw [hw, bad] at z; cases z
  unfold f11_works
  rw [htop, s1, s2, g_ckN (by omega) (by omega)]
  simp only [g_let, g_ckN (show d < 64 by omega) (show 64 < 2147483648 by omega), g_clN (show d + 1 < 2147483648 by omega), g_clN (show d < 2147483648 by omega), hx, hy, lc_eq, lc_lt, lc_le, lc_gt, lc_ge]
  rcases hv with rfl | rfl | rfl | rfl | rfl | rfl | rfl | rfl | rfl | rfl | rfl | rfl
  · exact fin2 (x + y) rfl
  · exact fin2 (x - y) rfl
  · have e : cw 42 x y = (if ¬ x = 0 ∧ 1000000000000 / ab x < ab y then -9223372036854775808 else x * y) := rfl
    show ∃ m', (if x = 0 then f11_works_b212 F 42 y x (g_sI m 0 38 (nI (d + 1))) else g_nzL (ab x) (if 1000000000000 / ab x < ab y then some ((0 : Int32), g_sI m 0 38 (nI (d + 1))) else f11_works_b212 F 42 y x (g_sI m 0 38 (nI (d + 1))))) = _ ∧ _
    by_cases a : x = 0
    · rw [if_pos a]
      exact fin2 (x * y) (by rw [e, if_neg (fun z => z.1 a)])
    · rw [if_neg a]
      unfold g_nzL
      rw [if_neg (fun z => a ((ab_zero x).mp z))]
      by_cases b : 1000000000000 / ab x < ab y
      · rw [if_pos b]
        exact bad2 (by rw [e, if_pos ⟨a, b⟩])
      · rw [if_neg b]
        exact fin2 (x * y) (by rw [e, if_neg (fun z => b z.2)])
  · have e : cw 47 x y = (if y = 0 then -9223372036854775808 else x / y) := rfl
    show ∃ m', (if y = 0 then some ((0 : Int32), g_sI m 0 38 (nI (d + 1))) else g_nzL y (f11_works_b407 F 47 (x / y) (g_sI m 0 38 (nI (d + 1))))) = _ ∧ _
    by_cases a : y = 0
    · rw [if_pos a]
      exact bad2 (by rw [e, if_pos a])
    · rw [if_neg a]
      unfold g_nzL
      rw [if_neg a]
      exact fin2 (x / y) (by rw [e, if_neg a])
  · show ∃ m', (if x < y then f11_works_b407 F 60 1 _ else f11_works_b407 F 60 0 _) = _ ∧ _
    by_cases a : x < y
    · rw [if_pos a]; exact fin2 1 (by show _ = bL (decide (x < y)); simp [a, bL])
    · rw [if_neg a]; exact fin2 0 (by show _ = bL (decide (x < y)); simp [a, bL])
  · show ∃ m', (if x ≤ y then f11_works_b407 F 256 1 _ else f11_works_b407 F 256 0 _) = _ ∧ _
    by_cases a : x ≤ y
    · rw [if_pos a]; exact fin2 1 (by show _ = bL (decide (x ≤ y)); simp [a, bL])
    · rw [if_neg a]; exact fin2 0 (by show _ = bL (decide (x ≤ y)); simp [a, bL])
  · show ∃ m', (if x = y then f11_works_b407 F 61 1 _ else f11_works_b407 F 61 0 _) = _ ∧ _
    by_cases a : x = y
    · rw [if_pos a]; exact fin2 1 (by show _ = bL (decide (x = y)); simp [a, bL])
    · rw [if_neg a]; exact fin2 0 (by show _ = bL (decide (x = y)); simp [a, bL])
  · show ∃ m', (if x = y then f11_works_b407 F 257 0 _ else f11_works_b407 F 257 1 _) = _ ∧ _
    by_cases a : x = y
    · rw [if_pos a]; exact fin2 0 (by show _ = bL (!decide (x = y)); simp [a, bL])
    · rw [if_neg a]; exact fin2 1 (by show _ = bL (!decide (x = y)); simp [a, bL])
  · show ∃ m', (if y ≤ x then f11_works_b407 F 258 1 _ else f11_works_b407 F 258 0 _) = _ ∧ _
    by_cases a : y ≤ x
    · rw [if_pos a]; exact fin2 1 (by show _ = bL (decide (y ≤ x)); simp [a, bL])
    · rw [if_neg a]; exact fin2 0 (by show _ = bL (decide (y ≤ x)); simp [a, bL])
  · show ∃ m', (if y < x then f11_works_b407 F 62 1 _ else f11_works_b407 F 62 0 _) = _ ∧ _
    by_cases a : y < x
    · rw [if_pos a]; exact fin2 1 (by show _ = bL (decide (y < x)); simp [a, bL])
    · rw [if_neg a]; exact fin2 0 (by show _ = bL (decide (y < x)); simp [a, bL])
  · show ∃ m', (if x = 0 then f11_works_b407 F 261 0 _ else if y = 0 then f11_works_b407 F 261 0 _ else f11_works_b407 F 261 1 _) = _ ∧ _
    by_cases a : x = 0
    · rw [if_pos a]; exact fin2 0 (by show _ = bL (!decide (x = 0) && !decide (y = 0)); simp [a, bL])
    · rw [if_neg a]
      by_cases b : y = 0
      · rw [if_pos b]; exact fin2 0 (by show _ = bL (!decide (x = 0) && !decide (y = 0)); simp [b, bL])
      · rw [if_neg b]; exact fin2 1 (by show _ = bL (!decide (x = 0) && !decide (y = 0)); simp [a, b, bL])
  · show ∃ m', (if x = 0 then (if y = 0 then f11_works_b407 F 262 0 _ else f11_works_b407 F 262 1 _) else f11_works_b407 F 262 1 _) = _ ∧ _
    by_cases a : x = 0
    · rw [if_pos a]
      by_cases b : y = 0
      · rw [if_pos b]; exact fin2 0 (by show _ = bL (!decide (x = 0) || !decide (y = 0)); simp [a, b, bL])
      · rw [if_neg b]; exact fin2 1 (by show _ = bL (!decide (x = 0) || !decide (y = 0)); simp [b, bL])
    · rw [if_neg a]; exact fin2 1 (by show _ = bL (!decide (x = 0) || !decide (y = 0)); simp [a, bL])
