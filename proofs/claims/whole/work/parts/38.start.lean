/-! a state begun -/
section S
variable {F : Nat} {c m : g_M} {T t f : Nat}
def itI (g : Nat → g_M → g_M) : Nat → g_M → g_M
  | 0, m => m
  | n + 1, m => g n (itI g n m)
/-- what a loop wrote: at P, V -/
def WR (m m' : g_M) (P : Nat → Nat → Prop) (V : Nat → Nat → Int32) : Prop := m'.2.2 = m.2.2 ∧ (∀ o k, ¬ P o k → m'.1 o k = m.1 o k) ∧ ∀ o k, P o k → m'.1 o k = V o k
def in78 (f p : Nat) (s : Nat) (m : g_M) : g_M := g_sI (g_sI m 29 (25 * f + (5 * p + s)) (nI p)) 30 (25 * f + (5 * p + s)) (nI 0)
theorem wr78 (f p : Nat) (m : g_M) : ∀ n, (itI (in78 f p) n m).2.2 = m.2.2 ∧ (∀ o k, ¬ ((o = 29 ∨ o = 30) ∧ 25 * f + 5 * p ≤ k ∧ k < 25 * f + 5 * p + n) → (itI (in78 f p) n m).1 o k = m.1 o k) ∧ ∀ s, s < n → (itI (in78 f p) n m).1 29 (25 * f + (5 * p + s)) = nI p ∧ (itI (in78 f p) n m).1 30 (25 * f + (5 * p + s)) = nI 0 := by
  intro n
  induction n with
  | zero => exact ⟨rfl, fun _ _ _ => rfl, fun s h => absurd h (Nat.not_lt_zero s)⟩
  | succ n ih =>
    obtain ⟨h1, h2, h3⟩ := ih
    refine ⟨h1, fun o k hk => ?_, fun s hs => ?_⟩
    · show (g_sI (g_sI _ 29 _ _) 30 _ _).1 o k = _
      rw [sI_ne (by omega), sI_ne (by omega)]; exact h2 o k (by omega)
    · show (g_sI (g_sI _ 29 _ _) 30 _ _).1 29 _ = _ ∧ (g_sI (g_sI _ 29 _ _) 30 _ _).1 30 _ = _
      rw [sI_o (by omega)]
      by_cases e : s = n
      · subst e; rw [sI_eq, sI_eq]; exact ⟨rfl, rfl⟩
      · rw [sI_ne (by omega), sI_ne (by omega), sI_o (by omega)]; exact h3 s (by omega)
theorem st78 (hF : 5000 < F) (hf : f < 23) {p : Nat} (hp : p < 5) (s41 : Int32 → g_M → Option g_M) : f11_starts_b78 F (nI f) s41 (nI p) (nI 0) m = s41 (nI (p + 1)) (itI (in78 f p) 5 m) := by
  unfold f11_starts_b78
  refine g_for (fun i => (nI p, nI i, itI (in78 f p) i m)) 5 (fun i hi sf => ?_) (by omega) (fun sf => ?_)
  · have ix : (25 * f + 5 * p) + i = 25 * f + (5 * p + i) := by omega
    simp (disch := omega) only [g_let, g_bs, g_l0, g_l1, g_l2, g_l3, g_l4, g_l5, g_l6, g_l7, g_l8, g_l9, g_l10, g_l11, g_l12, g_l15, g_l20, g_l24, g_l25, g_l30, g_l40, g_l99, g_l100, g_ckN, g_clN, g_ltN, g_leN, g_eqN, pk_mul, nI_add, if_true, if_false, Nat.reduceLT, Nat.reduceLeDiff, Nat.reduceEqDiff, Nat.lt_irrefl, f11_starts_b78_body, hi, ix, itI, in78]
  · simp (disch := omega) only [g_let, g_bs, g_l0, g_l1, g_l2, g_l3, g_l4, g_l5, g_l6, g_l7, g_l8, g_l9, g_l10, g_l11, g_l12, g_l15, g_l20, g_l24, g_l25, g_l30, g_l40, g_l99, g_l100, g_ckN, g_clN, g_ltN, g_leN, g_eqN, pk_mul, nI_add, if_true, if_false, Nat.reduceLT, Nat.reduceLeDiff, Nat.reduceEqDiff, Nat.lt_irrefl, f11_starts_b78_body]
def in41 (f P : Nat) (p : Nat) (m : g_M) : g_M := itI (in78 f p) 5 (g_sI m 28 (5 * f + p) (if p < P then m.1 4 p else nI 0))
theorem wr41 (f P : Nat) (m : g_M) : ∀ n, n ≤ 5 → (itI (in41 f P) n m).2.2 = m.2.2 ∧ (∀ o k, ¬ ((o = 28 ∧ 5 * f ≤ k ∧ k < 5 * f + n) ∨ ((o = 29 ∨ o = 30) ∧ 25 * f ≤ k ∧ k < 25 * f + 5 * n)) → (itI (in41 f P) n m).1 o k = m.1 o k) ∧ (∀ p, p < n → (itI (in41 f P) n m).1 28 (5 * f + p) = (if p < P then m.1 4 p else nI 0)) ∧ ∀ p s, p < n → s < 5 → (itI (in41 f P) n m).1 29 (25 * f + (5 * p + s)) = nI p ∧ (itI (in41 f P) n m).1 30 (25 * f + (5 * p + s)) = nI 0 := by
  intro n
  induction n with
  | zero => exact fun _ => ⟨rfl, fun _ _ _ => rfl, fun s h => absurd h (Nat.not_lt_zero s), fun s _ h => absurd h (Nat.not_lt_zero s)⟩
  | succ n ih =>
    intro hn
    obtain ⟨h1, h2, h3, h4⟩ := ih (by omega)
    generalize hm1 : itI (in41 f P) n m = m1 at *
    have he : itI (in41 f P) (n + 1) m = itI (in78 f n) 5 (g_sI m1 28 (5 * f + n) (if n < P then m1.1 4 n else nI 0)) := by show in41 f P n (itI (in41 f P) n m) = _; rw [hm1]; rfl
    obtain ⟨k1, k2, k3⟩ := wr78 f n (g_sI m1 28 (5 * f + n) (if n < P then m1.1 4 n else nI 0)) 5
    rw [he]
    refine ⟨k1.trans h1, fun o k hk => ?_, fun p hp => ?_, fun p s hp hs => ?_⟩
    · rw [k2 o k (by omega), sI_ne (by omega)]; exact h2 o k (by omega)
    · rw [k2 28 _ (by omega)]
      by_cases e : p = n
      · subst e; rw [sI_eq, h2 4 p (by omega)]
      · rw [sI_ne (by omega)]; exact h3 p (by omega)
    · by_cases e : p = n
      · subst e; exact k3 s hs
      · rw [k2 29 _ (by omega), k2 30 _ (by omega), sI_o (by omega), sI_o (by omega)]; exact h4 p s (by omega) hs
theorem st41 (hF : 5000 < F) (hf : f < 23) {P : Nat} (hP : P ≤ 5) (h0 : m.1 2 0 = nI P) : f11_starts_b41 F (nI f) (nI 0) m = f11_starts_b129 F (nI f) (nI 0) (itI (in41 f P) 5 m) := by
  unfold f11_starts_b41
  refine g_for (fun i => (nI i, itI (in41 f P) i m)) 5 (fun i hi sf => ?_) (by omega) (fun sf => ?_)
  · obtain ⟨_, h2, _, _⟩ := wr41 f P m i (by omega)
    have e2 : (itI (in41 f P) i m).1 2 0 = nI P := by rw [h2 2 0 (by omega)]; exact h0
    generalize hm1 : itI (in41 f P) i m = m1 at *
    have he : itI (in41 f P) (i + 1) m = itI (in78 f i) 5 (g_sI m1 28 (5 * f + i) (if i < P then m1.1 4 i else nI 0)) := by show in41 f P i (itI (in41 f P) i m) = _; rw [hm1]; rfl
    rw [he]
    by_cases hp : i < P
    · have z := st78 (m := g_sI m1 28 (5 * f + i) (m1.1 4 i)) hF hf hi (fun v2 mem => sf (v2, mem))
      rw [if_pos hp]
      simp (disch := omega) only [g_let, g_bs, g_l0, g_l1, g_l2, g_l3, g_l4, g_l5, g_l6, g_l7, g_l8, g_l9, g_l10, g_l11, g_l12, g_l15, g_l20, g_l24, g_l25, g_l30, g_l40, g_l99, g_l100, g_ckN, g_clN, g_ltN, g_leN, g_eqN, pk_mul, nI_add, if_true, if_false, Nat.reduceLT, Nat.reduceLeDiff, Nat.reduceEqDiff, Nat.lt_irrefl, f11_starts_b41_body, f11_starts_b75, hi, e2, hp, z]
    · have z := st78 (m := g_sI m1 28 (5 * f + i) (nI 0)) hF hf hi (fun v2 mem => sf (v2, mem))
      rw [if_neg hp]
      simp (disch := omega) only [g_let, g_bs, g_l0, g_l1, g_l2, g_l3, g_l4, g_l5, g_l6, g_l7, g_l8, g_l9, g_l10, g_l11, g_l12, g_l15, g_l20, g_l24, g_l25, g_l30, g_l40, g_l99, g_l100, g_ckN, g_clN, g_ltN, g_leN, g_eqN, pk_mul, nI_add, if_true, if_false, Nat.reduceLT, Nat.reduceLeDiff, Nat.reduceEqDiff, Nat.lt_irrefl, f11_starts_b41_body, f11_starts_b75, hi, e2, hp, z]
  · simp (disch := omega) only [g_let, g_bs, g_l0, g_l1, g_l2, g_l3, g_l4, g_l5, g_l6, g_l7, g_l8, g_l9, g_l10, g_l11, g_l12, g_l15, g_l20, g_l24, g_l25, g_l30, g_l40, g_l99, g_l100, g_ckN, g_clN, g_ltN, g_leN, g_eqN, pk_mul, nI_add, if_true, if_false, Nat.reduceLT, Nat.reduceLeDiff, Nat.reduceEqDiff, Nat.lt_irrefl, f11_starts_b41_body]
def in129 (f w : Nat) (m : g_M) : g_M := g_sI m 31 (8 * f + w) (nI 0)
theorem wr129 (f : Nat) (m : g_M) : ∀ n, (itI (in129 f) n m).2.2 = m.2.2 ∧ (∀ o k, ¬ (o = 31 ∧ 8 * f ≤ k ∧ k < 8 * f + n) → (itI (in129 f) n m).1 o k = m.1 o k) ∧ ∀ s, s < n → (itI (in129 f) n m).1 31 (8 * f + s) = nI 0 := by
  intro n
  induction n with
  | zero => exact ⟨rfl, fun _ _ _ => rfl, fun s h => absurd h (Nat.not_lt_zero s)⟩
  | succ n ih =>
    obtain ⟨h1, h2, h3⟩ := ih
    refine ⟨h1, fun o k hk => ?_, fun s hs => ?_⟩
    · show (g_sI _ 31 _ _).1 o k = _
      rw [sI_ne (by omega)]; exact h2 o k (by omega)
    · show (g_sI _ 31 _ _).1 31 _ = _
      by_cases e : s = n
      · subst e; rw [sI_eq]
      · rw [sI_ne (by omega)]; exact h3 s (by omega)
theorem st129 (hF : 5000 < F) (hf : f < 23) : f11_starts_b129 F (nI f) (nI 0) m = f11_starts_b155 F (nI f) (nI 0) (itI (in129 f) 8 m) := by
  unfold f11_starts_b129
  refine g_for (fun i => (nI i, itI (in129 f) i m)) 8 (fun i hi sf => ?_) (by omega) (fun sf => ?_)
  · simp (disch := omega) only [g_let, g_bs, g_l0, g_l1, g_l2, g_l3, g_l4, g_l5, g_l6, g_l7, g_l8, g_l9, g_l10, g_l11, g_l12, g_l15, g_l20, g_l24, g_l25, g_l30, g_l40, g_l99, g_l100, g_ckN, g_clN, g_ltN, g_leN, g_eqN, pk_mul, nI_add, if_true, if_false, Nat.reduceLT, Nat.reduceLeDiff, Nat.reduceEqDiff, Nat.lt_irrefl, f11_starts_b129_body, hi, itI, in129]
  · simp (disch := omega) only [g_let, g_bs, g_l0, g_l1, g_l2, g_l3, g_l4, g_l5, g_l6, g_l7, g_l8, g_l9, g_l10, g_l11, g_l12, g_l15, g_l20, g_l24, g_l25, g_l30, g_l40, g_l99, g_l100, g_ckN, g_clN, g_ltN, g_leN, g_eqN, pk_mul, nI_add, if_true, if_false, Nat.reduceLT, Nat.reduceLeDiff, Nat.reduceEqDiff, Nat.lt_irrefl, f11_starts_b129_body]
def in155 (f N n : Nat) (m : g_M) : g_M := g_sI (g_sI (g_sI (g_sI m 32 (12 * f + n) (if n < N then m.1 10 n else nI 0)) 33 (12 * f + n) (if n < N then m.1 11 n else nI 0)) 34 (12 * f + n) (if n < N then m.1 12 n else nI 0)) 35 (12 * f + n) (nI 0)
theorem wr155 (f N : Nat) (m : g_M) : ∀ n, (itI (in155 f N) n m).2.2 = m.2.2 ∧ (∀ o k, ¬ (32 ≤ o ∧ o ≤ 35 ∧ 12 * f ≤ k ∧ k < 12 * f + n) → (itI (in155 f N) n m).1 o k = m.1 o k) ∧ ∀ s, s < n → (itI (in155 f N) n m).1 32 (12 * f + s) = (if s < N then m.1 10 s else nI 0) ∧ (itI (in155 f N) n m).1 33 (12 * f + s) = (if s < N then m.1 11 s else nI 0) ∧ (itI (in155 f N) n m).1 34 (12 * f + s) = (if s < N then m.1 12 s else nI 0) ∧ (itI (in155 f N) n m).1 35 (12 * f + s) = nI 0 := by
  intro n
  induction n with
  | zero => exact ⟨rfl, fun _ _ _ => rfl, fun s h => absurd h (Nat.not_lt_zero s)⟩
  | succ n ih =>
    obtain ⟨h1, h2, h3⟩ := ih
    generalize hm1 : itI (in155 f N) n m = m1 at *
    have he : itI (in155 f N) (n + 1) m = in155 f N n m1 := by show in155 f N n (itI (in155 f N) n m) = _; rw [hm1]
    rw [he]
    unfold in155
    refine ⟨h1, fun o k hk => ?_, fun s hs => ?_⟩
    · rw [sI_ne (by omega), sI_ne (by omega), sI_ne (by omega), sI_ne (by omega)]; exact h2 o k (by omega)
    · by_cases e : s = n
      · subst e
        rw [sI_o (by omega), sI_o (by omega), sI_o (by omega), sI_eq, sI_o (by omega), sI_o (by omega), sI_eq, sI_o (by omega), sI_eq, sI_eq, h2 10 s (by omega), h2 11 s (by omega), h2 12 s (by omega)]
        exact ⟨rfl, rfl, rfl, rfl⟩
      · repeat rw [sI_ne (by omega)]
        exact h3 s (by omega)
theorem st155 (hF : 5000 < F) (hf : f < 23) {N : Nat} (hN : N ≤ 12) (h3 : m.1 2 3 = nI N) : f11_starts_b155 F (nI f) (nI 0) m = some (itI (in155 f N) 12 m) := by
  unfold f11_starts_b155
  refine g_for (fun i => (nI i, itI (in155 f N) i m)) 12 (fun i hi sf => ?_) (by omega) (fun sf => ?_)
  · obtain ⟨_, h2, _⟩ := wr155 f N m i
    have e2 : (itI (in155 f N) i m).1 2 3 = nI N := by rw [h2 2 3 (by omega)]; exact h3
    generalize hm1 : itI (in155 f N) i m = m1 at *
    have he : itI (in155 f N) (i + 1) m = in155 f N i m1 := by show in155 f N i (itI (in155 f N) i m) = _; rw [hm1]
    rw [he]
    unfold in155
    have n10 : ¬ nI 1 = nI 0 := by decide
    by_cases hp : i < N
    · rw [if_pos hp, if_pos hp, if_pos hp]
      have z1 : ∀ v, (g_sI m1 32 (12 * f + i) v).1 11 i = m1.1 11 i := fun v => by rw [sI_o (by omega)]
      have z2 : ∀ v w, (g_sI (g_sI m1 32 (12 * f + i) v) 33 (12 * f + i) w).1 12 i = m1.1 12 i := fun v w => by rw [sI_o (by omega), sI_o (by omega)]
      simp (disch := omega) only [g_let, g_bs, g_l0, g_l1, g_l2, g_l3, g_l4, g_l5, g_l6, g_l7, g_l8, g_l9, g_l10, g_l11, g_l12, g_l15, g_l20, g_l24, g_l25, g_l30, g_l40, g_l99, g_l100, g_ckN, g_clN, g_ltN, g_leN, g_eqN, pk_mul, nI_add, if_true, if_false, Nat.reduceLT, Nat.reduceLeDiff, Nat.reduceEqDiff, Nat.lt_irrefl, f11_starts_b155_body, f11_starts_b176, f11_starts_b201, f11_starts_b226, f11_starts_b251, hi, e2, hp, n10, z1, z2]
    · rw [if_neg hp, if_neg hp, if_neg hp]
      simp (disch := omega) only [g_let, g_bs, g_l0, g_l1, g_l2, g_l3, g_l4, g_l5, g_l6, g_l7, g_l8, g_l9, g_l10, g_l11, g_l12, g_l15, g_l20, g_l24, g_l25, g_l30, g_l40, g_l99, g_l100, g_ckN, g_clN, g_ltN, g_leN, g_eqN, pk_mul, nI_add, if_true, if_false, Nat.reduceLT, Nat.reduceLeDiff, Nat.reduceEqDiff, Nat.lt_irrefl, f11_starts_b155_body, f11_starts_b176, f11_starts_b201, f11_starts_b226, f11_starts_b251, hi, e2, hp]
  · simp (disch := omega) only [g_let, g_bs, g_l0, g_l1, g_l2, g_l3, g_l4, g_l5, g_l6, g_l7, g_l8, g_l9, g_l10, g_l11, g_l12, g_l15, g_l20, g_l24, g_l25, g_l30, g_l40, g_l99, g_l100, g_ckN, g_clN, g_ltN, g_leN, g_eqN, pk_mul, nI_add, if_true, if_false, Nat.reduceLT, Nat.reduceLeDiff, Nat.reduceEqDiff, Nat.lt_irrefl, f11_starts_b155_body]
/-- dock f as it begins -/
def STA (m m' : g_M) (f P N : Nat) : Prop := (m'.1 24 f = nI 0 ∧ m'.1 25 f = m.1 2 7 ∧ m'.1 26 f = nI 0 ∧ m'.1 27 f = m.1 2 3) ∧ (∀ p, p < 5 → m'.1 28 (5 * f + p) = (if p < P then m.1 4 p else nI 0)) ∧ (∀ p s, p < 5 → s < 5 → m'.1 29 (25 * f + (5 * p + s)) = nI p ∧ m'.1 30 (25 * f + (5 * p + s)) = nI 0) ∧ (∀ w, w < 8 → m'.1 31 (8 * f + w) = nI 0) ∧ (∀ n, n < 12 → m'.1 32 (12 * f + n) = (if n < N then m.1 10 n else nI 0) ∧ m'.1 33 (12 * f + n) = (if n < N then m.1 11 n else nI 0) ∧ m'.1 34 (12 * f + n) = (if n < N then m.1 12 n else nI 0) ∧ m'.1 35 (12 * f + n) = nI 0)
theorem r_starts (hF : 5000 < F) (hf : f < 23) {P N : Nat} (hP : P ≤ 5) (hN : N ≤ 12) (h0 : m.1 2 0 = nI P) (h3 : m.1 2 3 = nI N) : ∃ m', f11_starts F (nI f) m = some m' ∧ fmX m m' f ∧ STA m m' f P N := by
  generalize hm1 : g_sI (g_sI (g_sI (g_sI m 24 f (nI 0)) 25 f (m.1 2 7)) 26 f (nI 0)) 27 f (m.1 2 3) = m1
  have e1 : ∀ o k, ¬ (24 ≤ o ∧ o ≤ 27 ∧ k = f) → m1.1 o k = m.1 o k := by
    intro o k hk
    rw [← hm1, sI_ne (by omega), sI_ne (by omega), sI_ne (by omega), sI_ne (by omega)]
  have q0 : m1.1 2 0 = nI P := by rw [e1 2 0 (by omega)]; exact h0
  obtain ⟨a1, a2, a3, a4⟩ := wr41 f P m1 5 (by omega)
  have g1 := st41 hF hf hP q0
  generalize hm2 : itI (in41 f P) 5 m1 = m2 at *
  have g2 := st129 (m := m2) hF hf
  obtain ⟨b1, b2, b3⟩ := wr129 f m2 8
  generalize hm3 : itI (in129 f) 8 m2 = m3 at *
  have q3 : m3.1 2 3 = nI N := by rw [b2 2 3 (by omega), a2 2 3 (by omega), e1 2 3 (by omega)]; exact h3
  have g3 := st155 hF hf hN q3
  obtain ⟨d1, d2, d3⟩ := wr155 f N m3 12
  generalize hm4 : itI (in155 f N) 12 m3 = m4 at *
  refine ⟨m4, ?_, ⟨by rw [d1, b1, a1, ← hm1]; rfl, fun o k hk => ?_⟩, ⟨?_, ?_, ?_, ?_⟩, fun p hp => ?_, fun p s hp hs => ?_, fun w hw => ?_, fun n hn => ?_⟩
  · have z1 : (g_sI m 24 f (nI 0)).1 2 7 = m.1 2 7 := by rw [sI_o (by omega)]
    have z2 : ∀ v, (g_sI (g_sI (g_sI m 24 f (nI 0)) 25 f v) 26 f (nI 0)).1 2 3 = m.1 2 3 := fun v => by rw [sI_o (by omega), sI_o (by omega), sI_o (by omega)]
    simp (disch := omega) only [g_let, g_bs, g_l0, g_l1, g_l2, g_l3, g_l4, g_l5, g_l6, g_l7, g_l8, g_l9, g_l10, g_l11, g_l12, g_l15, g_l20, g_l24, g_l25, g_l30, g_l40, g_l99, g_l100, g_ckN, g_clN, g_ltN, g_leN, g_eqN, pk_mul, nI_add, if_true, if_false, Nat.reduceLT, Nat.reduceLeDiff, Nat.reduceEqDiff, Nat.lt_irrefl, f11_starts, z1, z2, hm1]
    rw [g1, g2, g3]
  · have w1 : ¬ (32 ≤ o ∧ o ≤ 35 ∧ 12 * f ≤ k ∧ k < 12 * f + 12) := fun z => hk ⟨by omega, by omega, by rw [wd32 z.1]; exact z.2.2.1, by rw [wd32 z.1]; exact z.2.2.2⟩
    have w2 : ¬ (o = 31 ∧ 8 * f ≤ k ∧ k < 8 * f + 8) := fun z => hk ⟨by omega, by omega, by rw [z.1]; exact z.2.1, by rw [z.1]; exact z.2.2⟩
    have w3 : ¬ ((o = 28 ∧ 5 * f ≤ k ∧ k < 5 * f + 5) ∨ ((o = 29 ∨ o = 30) ∧ 25 * f ≤ k ∧ k < 25 * f + 5 * 5)) := by
      rintro (z | z)
      · exact hk ⟨by omega, by omega, by rw [z.1]; exact z.2.1, by rw [z.1]; exact z.2.2⟩
      · exact hk ⟨by omega, by omega, by rw [wd29 z.1]; exact z.2.1, by rw [wd29 z.1]; exact z.2.2⟩
    have w5 : ¬ (24 ≤ o ∧ o ≤ 27 ∧ k = f) := fun z => hk ⟨by omega, by omega, by rw [wd24 (by omega)]; omega, by rw [wd24 (by omega)]; omega⟩
    rw [d2 o k w1, b2 o k w2, a2 o k w3, e1 o k w5]
  · rw [d2 _ _ (by omega), b2 _ _ (by omega), a2 _ _ (by omega), ← hm1, sI_o (by omega), sI_o (by omega), sI_o (by omega), sI_eq]
  · rw [d2 _ _ (by omega), b2 _ _ (by omega), a2 _ _ (by omega), ← hm1, sI_o (by omega), sI_o (by omega), sI_eq]
  · rw [d2 _ _ (by omega), b2 _ _ (by omega), a2 _ _ (by omega), ← hm1, sI_o (by omega), sI_eq]
  · rw [d2 _ _ (by omega), b2 _ _ (by omega), a2 _ _ (by omega), ← hm1, sI_eq]
  · rw [d2 _ _ (by omega), b2 _ _ (by omega), a3 p hp, e1 4 p (by omega)]
  · rw [d2 _ _ (by omega), b2 _ _ (by omega), d2 _ _ (by omega), b2 _ _ (by omega)]; exact a4 p s hp hs
  · rw [d2 _ _ (by omega)]; exact b3 w hw
  · have q : ∀ o, 10 ≤ o → o ≤ 12 → m3.1 o n = m.1 o n := fun o h1 h2 => by rw [b2 _ _ (by omega), a2 _ _ (by omega), e1 _ _ (by omega)]
    have := d3 n hn
    rw [q 10 (by omega) (by omega), q 11 (by omega) (by omega), q 12 (by omega) (by omega)] at this
    exact this
/-- the class's begin -/
def BEG (c c' : g_M) (t T : Nat) : Prop := (∀ o k, ¬ (o = t ∧ k = 0) → c'.2.2 o k = c.2.2 o k) ∧ c'.2.2 t 0 = some T ∧ (∀ o, ¬ (t ≤ o ∧ o ≤ t + 5) → c'.1 o = c.1 o) ∧ (c'.1 t 1 = nI 0 ∧ c'.1 t 2 = c.1 T 12 ∧ c'.1 t 3 = nI 0 ∧ c'.1 t 7 = c.1 T 6) ∧ (∀ k, k < 5 → c'.1 (t + 1) k = c.1 (T + 3) k) ∧ (∀ k, k < 25 → c'.1 (t + 2) k = nI (k / 5) ∧ c'.1 (t + 3) k = nI 0) ∧ (∀ k, k < 48 → c'.1 (t + 4) k = c.1 (T + 7) k) ∧ (∀ k, k < 8 → c'.1 (t + 5) k = nI 0)
def inF (o : Nat) (v : Nat → Int32) (k : Nat) (m : g_M) : g_M := g_sI m o k (v k)
theorem wrF (o : Nat) (v : Nat → Int32) (m : g_M) : ∀ n, (itI (inF o v) n m).2.2 = m.2.2 ∧ (∀ a k, ¬ (a = o ∧ k < n) → (itI (inF o v) n m).1 a k = m.1 a k) ∧ ∀ s, s < n → (itI (inF o v) n m).1 o s = v s := by
  intro n
  induction n with
  | zero => exact ⟨rfl, fun _ _ _ => rfl, fun s h => absurd h (Nat.not_lt_zero s)⟩
  | succ n ih =>
    obtain ⟨h1, h2, h3⟩ := ih
    refine ⟨h1, fun a k hk => ?_, fun s hs => ?_⟩
    · show (g_sI _ o _ _).1 a k = _
      rw [sI_ne (by omega)]; exact h2 a k (by omega)
    · show (g_sI _ o _ _).1 o _ = _
      by_cases e : s = n
      · subst e; rw [sI_eq]
      · rw [sI_ne (by omega)]; exact h3 s (by omega)
theorem q_giveOwn (hF : 5000 < F) : f7_giveOwn F t c = some (itI (inF (t + 2) (fun k => nI (k / 5))) 25 c) := by
  unfold f7_giveOwn f7_giveOwn_b2
  refine g_for (fun i => (nI i, itI (inF (t + 2) (fun k => nI (k / 5))) i c)) 25 (fun i hi sf => ?_) (by omega) (fun sf => ?_)
  · have hd : nI i / nI 5 = nI (i / 5) := pk_div (by omega) (by omega) (by omega)
    simp (disch := omega) only [g_let, g_bs, g_l0, g_l1, g_l2, g_l3, g_l4, g_l5, g_l6, g_l7, g_l8, g_l9, g_l10, g_l11, g_l12, g_l15, g_l20, g_l24, g_l25, g_l30, g_l40, g_l99, g_l100, g_ckN, g_clN, g_ltN, g_leN, g_eqN, pk_mul, nI_add, if_true, if_false, Nat.reduceLT, Nat.reduceLeDiff, Nat.reduceEqDiff, Nat.lt_irrefl, f7_giveOwn_b2_body, hi, hd, itI, inF]
  · simp (disch := omega) only [g_let, g_bs, g_l0, g_l1, g_l2, g_l3, g_l4, g_l5, g_l6, g_l7, g_l8, g_l9, g_l10, g_l11, g_l12, g_l15, g_l20, g_l24, g_l25, g_l30, g_l40, g_l99, g_l100, g_ckN, g_clN, g_ltN, g_leN, g_eqN, pk_mul, nI_add, if_true, if_false, Nat.reduceLT, Nat.reduceLeDiff, Nat.reduceEqDiff, Nat.lt_irrefl, f7_giveOwn_b2_body]
theorem q_begin (hF : 5000 < F) (hT : isT T) (ht : isS t) : ∃ c', f7_begin F t T c = some c' ∧ BEG c c' t T := by
  have hlt := isTS hT ht
  generalize hc1 : g_cI (g_cI (g_sI (g_sI (g_sI (g_sI (g_sR c t 0 (some T)) t 1 (nI 0)) t 2 (c.1 T 12)) t 3 (nI 0)) t 7 (c.1 T 6)) (T + 3) 0 (t + 1) 0 5) (T + 7) 0 (t + 4) 0 48 = c1
  have g1 : f7_begin_b65 F t T (nI 0) c1 = f7_begin_b89 F t T (nI 0) (itI (inF (t + 3) (fun _ => nI 0)) 25 c1) := by
    unfold f7_begin_b65
    refine g_for (fun i => (nI i, itI (inF (t + 3) (fun _ => nI 0)) i c1)) 25 (fun i hi sf => ?_) (by omega) (fun sf => ?_)
    · simp (disch := omega) only [g_let, g_bs, g_l0, g_l1, g_l2, g_l3, g_l4, g_l5, g_l6, g_l7, g_l8, g_l9, g_l10, g_l11, g_l12, g_l15, g_l20, g_l24, g_l25, g_l30, g_l40, g_l99, g_l100, g_ckN, g_clN, g_ltN, g_leN, g_eqN, pk_mul, nI_add, if_true, if_false, Nat.reduceLT, Nat.reduceLeDiff, Nat.reduceEqDiff, Nat.lt_irrefl, f7_begin_b65_body, hi, itI, inF]
    · simp (disch := omega) only [g_let, g_bs, g_l0, g_l1, g_l2, g_l3, g_l4, g_l5, g_l6, g_l7, g_l8, g_l9, g_l10, g_l11, g_l12, g_l15, g_l20, g_l24, g_l25, g_l30, g_l40, g_l99, g_l100, g_ckN, g_clN, g_ltN, g_leN, g_eqN, pk_mul, nI_add, if_true, if_false, Nat.reduceLT, Nat.reduceLeDiff, Nat.reduceEqDiff, Nat.lt_irrefl, f7_begin_b65_body]
  obtain ⟨a1, a2, a3⟩ := wrF (t + 3) (fun _ => nI 0) c1 25
  generalize hc2 : itI (inF (t + 3) (fun _ => nI 0)) 25 c1 = c2 at *
  have g2 : f7_begin_b89 F t T (nI 0) c2 = some (itI (inF (t + 2) (fun k => nI (k / 5))) 25 (itI (inF (t + 5) (fun _ => nI 0)) 8 c2)) := by
    unfold f7_begin_b89
    refine g_for (fun i => (nI i, itI (inF (t + 5) (fun _ => nI 0)) i c2)) 8 (fun i hi sf => ?_) (by omega) (fun sf => ?_)
    · simp (disch := omega) only [g_let, g_bs, g_l0, g_l1, g_l2, g_l3, g_l4, g_l5, g_l6, g_l7, g_l8, g_l9, g_l10, g_l11, g_l12, g_l15, g_l20, g_l24, g_l25, g_l30, g_l40, g_l99, g_l100, g_ckN, g_clN, g_ltN, g_leN, g_eqN, pk_mul, nI_add, if_true, if_false, Nat.reduceLT, Nat.reduceLeDiff, Nat.reduceEqDiff, Nat.lt_irrefl, f7_begin_b89_body, hi, itI, inF]
    · have z := q_giveOwn (t := t) (c := itI (inF (t + 5) (fun _ => nI 0)) 8 c2) hF
      simp (disch := omega) only [g_let, g_bs, g_l0, g_l1, g_l2, g_l3, g_l4, g_l5, g_l6, g_l7, g_l8, g_l9, g_l10, g_l11, g_l12, g_l15, g_l20, g_l24, g_l25, g_l30, g_l40, g_l99, g_l100, g_ckN, g_clN, g_ltN, g_leN, g_eqN, pk_mul, nI_add, if_true, if_false, Nat.reduceLT, Nat.reduceLeDiff, Nat.reduceEqDiff, Nat.lt_irrefl, f7_begin_b89_body, z]
  obtain ⟨b1, b2, b3⟩ := wrF (t + 5) (fun _ => nI 0) c2 8
  generalize hc3 : itI (inF (t + 5) (fun _ => nI 0)) 8 c2 = c3 at *
  obtain ⟨d1, d2, d3⟩ := wrF (t + 2) (fun k => nI (k / 5)) c3 25
  generalize hc4 : itI (inF (t + 2) (fun k => nI (k / 5))) 25 c3 = c4 at *
  have r4 : c4.2.2 = (g_sR c t 0 (some T)).2.2 := by rw [d1, b1, a1, ← hc1]; rfl
  refine ⟨c4, ?_, fun o k hk => ?_, ?_, fun o ho => ?_, ⟨?_, ?_, ?_, ?_⟩, fun k hk => ?_, fun k hk => ⟨d3 k hk, ?_⟩, fun k hk => ?_, fun k hk => ?_⟩
  · have z1 : (g_sI (g_sR c t 0 (some T)) t 1 (nI 0)).1 T 12 = c.1 T 12 := by rw [sI_o (by omega)]; rfl
    have z2 : ∀ v, (g_sI (g_sI (g_sI (g_sR c t 0 (some T)) t 1 (nI 0)) t 2 v) t 3 (nI 0)).1 T 6 = c.1 T 6 := fun v => by rw [sI_o (by omega), sI_o (by omega), sI_o (by omega)]; rfl
    have g48 : (48 : Int32).toNatClampNeg = 48 := rfl
    simp (disch := omega) only [g_let, g_bs, g_l0, g_l1, g_l2, g_l3, g_l4, g_l5, g_l6, g_l7, g_l8, g_l9, g_l10, g_l11, g_l12, g_l15, g_l20, g_l24, g_l25, g_l30, g_l40, g_l99, g_l100, g_ckN, g_clN, g_ltN, g_leN, g_eqN, pk_mul, nI_add, if_true, if_false, Nat.reduceLT, Nat.reduceLeDiff, Nat.reduceEqDiff, Nat.lt_irrefl, f7_begin, z1, z2, g48, hc1]
    rw [g1, g2]
  · rw [r4, g_sR22]
    by_cases h1 : o = t
    · rw [if_pos h1, if_neg (fun z => hk ⟨h1, z⟩)]
    · rw [if_neg h1]
  · rw [r4, g_sR22, if_pos rfl, if_pos rfl]
  · funext k
    rw [d2 _ _ (by omega), b2 _ _ (by omega), a2 _ _ (by omega), ← hc1, cI_o (by omega), cI_o (by omega), sI_o (by omega), sI_o (by omega), sI_o (by omega), sI_o (by omega)]; rfl
  · rw [d2 _ _ (by omega), b2 _ _ (by omega), a2 _ _ (by omega), ← hc1, cI_o (by omega), cI_o (by omega), sI_ne (by omega), sI_ne (by omega), sI_ne (by omega), sI_eq]
  · rw [d2 _ _ (by omega), b2 _ _ (by omega), a2 _ _ (by omega), ← hc1, cI_o (by omega), cI_o (by omega), sI_ne (by omega), sI_ne (by omega), sI_eq]
  · rw [d2 _ _ (by omega), b2 _ _ (by omega), a2 _ _ (by omega), ← hc1, cI_o (by omega), cI_o (by omega), sI_ne (by omega), sI_eq]
  · rw [d2 _ _ (by omega), b2 _ _ (by omega), a2 _ _ (by omega), ← hc1, cI_o (by omega), cI_o (by omega), sI_eq]
  · rw [d2 _ _ (by omega), b2 _ _ (by omega), a2 _ _ (by omega), ← hc1, cI_o (by omega), cI_at hk, sI_o (by omega), sI_o (by omega), sI_o (by omega), sI_o (by omega)]; rfl
  · rw [d2 _ _ (by omega), b2 _ _ (by omega)]; exact a3 k hk
  · rw [d2 _ _ (by omega), b2 _ _ (by omega), a2 _ _ (by omega), ← hc1, cI_at hk, cI_o (by omega), sI_o (by omega), sI_o (by omega), sI_o (by omega), sI_o (by omega)]; rfl
  · rw [d2 _ _ (by omega)]; exact b3 k hk
/-- both begin -/
theorem TS_begin {c' m' : g_M} (hT : isT T) (ht : isS t) (hf : f < 23) (hW : WT m) (hR : RT c m T) (hc : BEG c c' t T) (hx : fmX m m' f) (hs : STA m m' f (vl m 2 0) (vl m 2 3)) : TS c' m' T t f := by
  have hlt := isTS hT ht
  obtain ⟨s1, s2, s3, s4, s5⟩ := hs
  obtain ⟨k1, k2, k3, k4, k5, k6, k7, k8⟩ := hc
  have hm : ∀ o, 2 ≤ o → o ≤ 21 → m'.1 o = m.1 o := fun o h1 h2 => by funext k; exact hx.2 o k (fun z => by have := z.1; omega)
  have h2 := hm 2 (by omega) (by omega)
  have hv : ∀ k, vl m' 2 k = vl m 2 k := fun k => by unfold vl; rw [h2]
  obtain ⟨⟨⟨vP, bP⟩, ⟨vS, bS⟩, ⟨vD, bD⟩, ⟨vN, bN⟩, ⟨vW, bW⟩, ⟨vRoom, bRoom⟩, bRoom1, ⟨vStorm, bStorm⟩, ⟨vSeed, bSeed⟩, ⟨vK, bK⟩⟩, wPence, wSort, wDeed, wSend, wWant, wLaw⟩ := id hW
  obtain ⟨rCnt, rMan, rSort, rDeed, ⟨rT6, rT8, rT10, rT11, rT12, rT93⟩, rSent, rWanted, rLaw, rCode⟩ := id hR
  have h27 : vl m' 27 f = vl m 2 3 := by unfold vl; rw [s1.2.2.2]
  have i3 : ∀ i, i < 25 → m'.1 29 (25 * f + i) = nI (i / 5) ∧ m'.1 30 (25 * f + i) = nI 0 := by
    intro i hi
    have := s3 (i / 5) (i % 5) (by omega) (by omega)
    rw [show 5 * (i / 5) + i % 5 = i by omega] at this
    exact this
  refine ⟨hT, ht, hf, k2, WT_fr hW hm, RT_fr hR (fun o h1 h2 => k3 o (by omega)) hm, ?_, ?_⟩
  · unfold WS
    refine ⟨⟨rg_of s1.1 (by omega) (by omega), rg_of (by rw [s1.2.1]; exact vSeed) (by omega) (by omega), rg_of (by rw [s1.2.2.2]; exact vN) bN (by omega)⟩, fun p hp => ?_, fun i hi => ?_, fun s p hs hp => ?_, fun s p q hs hp hq hpq => ?_, fun n hn => ?_, fun w hw => rg_of (s4 w hw) (by omega) (by omega), fun p s hp hs ho => (s3 p s hp hs).1⟩
    · rw [hv] at hp
      refine rg_of (k := vl m 4 p) ?_ (by have := (wPence p hp).2; omega) (by omega)
      rw [s2 p (by omega), if_pos hp]; exact (wPence p hp).1
    · exact ⟨rg_of (i3 i hi).1 (by omega) (by omega), rg_of (i3 i hi).2 (by omega) (by omega)⟩
    · rw [hv] at hp ⊢
      rw [vl_of (s3 p s (by omega) hs).1 (by omega)]; exact hp
    · rw [hv] at hp hq
      rw [vl_of (s3 p s (by omega) hs).1 (by omega), vl_of (s3 q s (by omega) hs).1 (by omega)] at hpq
      exact hpq
    · rw [h27] at hn
      obtain ⟨q1, q2, q3, q4⟩ := s5 n (by omega)
      rw [if_pos hn] at q1 q2 q3
      obtain ⟨⟨a1, a2⟩, a3, ⟨a4, a5⟩, a6, ⟨a7, a8⟩⟩ := wSend n hn
      rw [hv, hv, vl_of (q1.trans a1) (by omega), vl_of (q2.trans a4) (by omega)]
      exact ⟨rg_of (q1.trans a1) a2 (by omega), a3, rg_of (q2.trans a4) a5 (by omega), a6, rg_of (q3.trans a7) (by omega) (by omega), rg_of q4 (by omega) (by omega)⟩
  · unfold RS
    refine ⟨⟨?_, ?_, ?_, ?_⟩, fun p hp => ?_, fun i hi => ⟨fun _ => ?_, ?_⟩, fun n hn => ?_, fun w hw => ?_⟩
    · rw [k4.1, s1.1]
    · rw [k4.2.1, s1.2.1]; exact rT12
    · rw [k4.2.2.1, s1.2.2.1]
    · rw [k4.2.2.2, s1.2.2.2]; exact rT6
    · rw [hv] at hp
      rw [k5 p (by omega), s2 p (by omega), if_pos hp]; exact (rMan p hp).2
    · rw [(k6 i hi).1, (i3 i hi).1]
    · rw [(k6 i hi).2, (i3 i hi).2]
    · rw [h27] at hn
      obtain ⟨q1, q2, q3, q4⟩ := s5 n (by omega)
      rw [if_pos hn] at q1 q2 q3
      obtain ⟨r1, r2, r3, r4⟩ := rSent n hn
      rw [k7 _ (by omega), k7 _ (by omega), k7 _ (by omega), k7 _ (by omega), q1, q2, q3, q4]
      exact ⟨r1, r2, r3, r4⟩
    · rw [k8 w hw, s4 w hw]
end S
