/-! PURE TOOLS: loops, guards, numbers -/
theorem g_fix_s {α β : Type} {b : (α → Option β) → α → Option β} {n : Nat} {s : α} : g_fix b (n + 1) s = b (g_fix b n) s := rfl
theorem g_fix_p {α β : Type} {b : (α → Option β) → α → Option β} {F : Nat} {s : α} (h : 0 < F) : g_fix b F s = b (g_fix b (F - 1)) s := by
  obtain ⟨k, rfl⟩ : ∃ k, F = k + 1 := ⟨F - 1, by omega⟩
  rfl
/-- a loop by its states -/
theorem g_for {α β : Type} {b : (α → Option β) → α → Option β} (st : Nat → α) (N : Nat) (hs : ∀ i, i < N → ∀ sf, b sf (st i) = sf (st (i + 1))) {F : Nat} (hF : N < F) {r : Option β} (hr : ∀ sf, b sf (st N) = r) : g_fix b F (st 0) = r := by
  have key : ∀ i, i ≤ N → g_fix b F (st 0) = g_fix b (F - i) (st i) := by
    intro i
    induction i with
    | zero => intro _; rfl
    | succ i ih =>
      intro hi
      rw [ih (by omega), g_fix_p (by omega), hs i (by omega), show F - i - 1 = F - (i + 1) by omega]
  rw [key N (Nat.le_refl _), g_fix_p (by omega), hr]
/-- one loop by an invariant -/
theorem g_for1 {α β : Type} {b : (α → Option β) → α → Option β} (I : Nat → α → Prop) (N : Nat) (hs : ∀ i s, i < N → I i s → ∃ s', I (i + 1) s' ∧ ∀ sf, b sf s = sf s') {s : α} (h0 : I 0 s) {F : Nat} (hF : N < F) : ∃ s', I N s' ∧ ∃ sf, g_fix b F s = b sf s' := by
  have key : ∀ i, i ≤ N → ∃ s', I i s' ∧ g_fix b F s = g_fix b (F - i) s' := by
    intro i
    induction i with
    | zero => intro _; exact ⟨s, h0, rfl⟩
    | succ i ih =>
      intro hi
      obtain ⟨s1, h1, h2⟩ := ih (by omega)
      obtain ⟨s2, h3, h4⟩ := hs i s1 (by omega) h1
      refine ⟨s2, h3, ?_⟩
      rw [h2, g_fix_p (by omega), h4, show F - i - 1 = F - (i + 1) by omega]
  obtain ⟨s', h1, h2⟩ := key N (Nat.le_refl _)
  exact ⟨s', h1, g_fix b (F - N - 1), by rw [h2, g_fix_p (by omega)]⟩
/-- two loops side by side -/
theorem g_for2 {α β α' β' : Type} {b : (α → Option β) → α → Option β} {b' : (α' → Option β') → α' → Option β'} (I : Nat → α → α' → Prop) (N : Nat) (hs : ∀ i s t, i < N → I i s t → ∃ s' t', I (i + 1) s' t' ∧ (∀ sf, b sf s = sf s') ∧ ∀ sf, b' sf t = sf t') {s : α} {t : α'} (h0 : I 0 s t) {F : Nat} (hF : N < F) :
    ∃ s' t', I N s' t' ∧ (∃ sf, g_fix b F s = b sf s') ∧ ∃ sf, g_fix b' F t = b' sf t' := by
  have key : ∀ i, i ≤ N → ∃ s' t', I i s' t' ∧ g_fix b F s = g_fix b (F - i) s' ∧ g_fix b' F t = g_fix b' (F - i) t' := by
    intro i
    induction i with
    | zero => intro _; exact ⟨s, t, h0, rfl, rfl⟩
    | succ i ih =>
      intro hi
      obtain ⟨s1, t1, h1, h2, h3⟩ := ih (by omega)
      obtain ⟨s2, t2, h4, h5, h6⟩ := hs i s1 t1 (by omega) h1
      refine ⟨s2, t2, h4, ?_, ?_⟩
      · rw [h2, g_fix_p (by omega), h5, show F - i - 1 = F - (i + 1) by omega]
      · rw [h3, g_fix_p (by omega), h6, show F - i - 1 = F - (i + 1) by omega]
  obtain ⟨s', t', h1, h2, h3⟩ := key N (Nat.le_refl _)
  exact ⟨s', t', h1, ⟨_, by rw [h2, g_fix_p (by omega)]⟩, _, by rw [h3, g_fix_p (by omega)]⟩
theorem g_ckN {α : Type} {x L : Nat} {k : Option α} (h : x < L) (hL : L < 2147483648) : g_ck (nI x) L k = k := by
  unfold g_ck
  rw [nI_toInt (by omega), if_pos ⟨by omega, by omega⟩]
theorem g_clN {x : Nat} (h : x < 2147483648) : (nI x).toNatClampNeg = x := nI_clamp (by omega)
theorem g_ltN {a b : Nat} (ha : a < 2147483648) (hb : b < 2147483648) : nI a < nI b ↔ a < b := nI_ltI (by omega) (by omega)
theorem g_leN {a b : Nat} (ha : a < 2147483648) (hb : b < 2147483648) : nI a ≤ nI b ↔ a ≤ b := nI_leI (by omega) (by omega)
theorem g_eqN {a b : Nat} (ha : a < 2147483648) (hb : b < 2147483648) : nI a = nI b ↔ a = b := nI_eq (by omega) (by omega)
theorem g_subN {a b : Nat} (h : b ≤ a) : nI a - nI b = nI (a - b) := pk_sub h
theorem g_l0 : (0 : Int32) = nI 0 := rfl
theorem g_l1 : (1 : Int32) = nI 1 := rfl
theorem g_l2 : (2 : Int32) = nI 2 := rfl
theorem g_l3 : (3 : Int32) = nI 3 := rfl
theorem g_l4 : (4 : Int32) = nI 4 := rfl
theorem g_l5 : (5 : Int32) = nI 5 := rfl
theorem g_l6 : (6 : Int32) = nI 6 := rfl
theorem g_l7 : (7 : Int32) = nI 7 := rfl
theorem g_l8 : (8 : Int32) = nI 8 := rfl
theorem g_l9 : (9 : Int32) = nI 9 := rfl
theorem g_l10 : (10 : Int32) = nI 10 := rfl
theorem g_l11 : (11 : Int32) = nI 11 := rfl
theorem g_l12 : (12 : Int32) = nI 12 := rfl
theorem g_l15 : (15 : Int32) = nI 15 := rfl
theorem g_l20 : (20 : Int32) = nI 20 := rfl
theorem g_l24 : (24 : Int32) = nI 24 := rfl
theorem g_l25 : (25 : Int32) = nI 25 := rfl
theorem g_l30 : (30 : Int32) = nI 30 := rfl
theorem g_l40 : (40 : Int32) = nI 40 := rfl
theorem g_l64 : (64 : Int32) = nI 64 := rfl
theorem g_l99 : (99 : Int32) = nI 99 := rfl
theorem g_l100 : (100 : Int32) = nI 100 := rfl
theorem g_l999 : (999 : Int32) = nI 999 := rfl
theorem g_bs {α β : Type} (x : α) (f : α → Option β) : (some x).bind f = f x := rfl
theorem g_sI1 (m : g_M) (o k : Nat) (v : Int32) (a j : Nat) : (g_sI m o k v).1 a j = if a = o then (if j = k then v else m.1 a j) else m.1 a j := rfl
theorem g_sI2 (m : g_M) (o k : Nat) (v : Int32) : (g_sI m o k v).2 = m.2 := rfl
theorem g_sR1 (m : g_M) (o k : Nat) (v : Option Nat) : (g_sR m o k v).1 = m.1 := rfl
theorem g_sR21 (m : g_M) (o k : Nat) (v : Option Nat) : (g_sR m o k v).2.1 = m.2.1 := rfl
theorem g_sR22 (m : g_M) (o k : Nat) (v : Option Nat) (a j : Nat) : (g_sR m o k v).2.2 a j = if a = o then (if j = k then v else m.2.2 a j) else m.2.2 a j := rfl
theorem g_sL1 (m : g_M) (o k : Nat) (v : Int64) : (g_sL m o k v).1 = m.1 := rfl
theorem g_sL21 (m : g_M) (o k : Nat) (v : Int64) (a j : Nat) : (g_sL m o k v).2.1 a j = if a = o then (if j = k then v else m.2.1 a j) else m.2.1 a j := rfl
theorem g_sL22 (m : g_M) (o k : Nat) (v : Int64) : (g_sL m o k v).2.2 = m.2.2 := rfl
theorem g_cI1 (m : g_M) (src sp dst dp n a : Nat) : (g_cI m src sp dst dp n).1 a = if a = dst then va_cpy (m.1 src) (m.1 dst) sp dp n else m.1 a := rfl
theorem g_cI2 (m : g_M) (src sp dst dp n : Nat) : (g_cI m src sp dst dp n).2 = m.2 := rfl
theorem g_drT {α : Type} {r : Option Nat} {q : Nat} {k : Nat → Option α} (hr : r = some q) (hq : q = 2 ∨ q = 16) : g_dr yC 69 r 9 k = k q := by
  subst hr
  rcases hq with rfl | rfl <;> rfl
theorem g_drS {α : Type} {r : Option Nat} {q : Nat} {k : Nat → Option α} (hr : r = some q) (hq : q = 35 ∨ q = 41 ∨ q = 47) : g_dr yC 69 r 7 k = k q := by
  subst hr
  rcases hq with rfl | rfl | rfl <;> rfl
/-- a number in a cell, and its bound -/
def vl (m : g_M) (o i : Nat) : Nat := (m.1 o i).toNatClampNeg
def rg (m : g_M) (o i b : Nat) : Prop := m.1 o i = nI (vl m o i) ∧ vl m o i ≤ b
theorem rg_of {m : g_M} {o i k b : Nat} (h : m.1 o i = nI k) (hb : k ≤ b) (hb2 : b < 2147483648) : rg m o i b := by
  have h1 : vl m o i = k := by unfold vl; rw [h, g_clN (by omega)]
  exact ⟨by rw [h1]; exact h, by rw [h1]; exact hb⟩
theorem vl_of {m : g_M} {o i k : Nat} (h : m.1 o i = nI k) (hb : k < 2147483648) : vl m o i = k := by unfold vl; rw [h, g_clN hb]
theorem i_cases (x : Int32) : x < 0 ∨ ∃ k, k < 2147483648 ∧ x = nI k := by
  by_cases h : x < 0
  · exact Or.inl h
  · obtain ⟨j, h1, h2⟩ := nI_of h
    exact Or.inr ⟨j, by omega, h2⟩
theorem nI_ge0 {k : Nat} (h : k < 2147483648) : (0 : Int32) ≤ nI k := nI_pos' (by omega)
theorem lt0_nle {x : Int32} (h : x < 0) : ¬ (0 : Int32) ≤ x := Int32.not_le.mpr h
