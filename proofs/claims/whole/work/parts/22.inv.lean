/-! THE TWO MEMORIES: c of PartsFerry, m of the reference -/
def opc (v : Int32) : Int32 := if v = 43 then 0 else if v = 45 then 1 else if v = 42 then 2 else if v = 47 then 3 else if v = 60 then 4 else if v = 256 then 5 else if v = 61 then 6 else if v = 257 then 7 else if v = 258 then 8 else if v = 62 then 9 else if v = 261 then 10 else if v = 262 then 11 else 12
def isOp (v : Int32) : Prop := v = 43 ∨ v = 45 ∨ v = 42 ∨ v = 47 ∨ v = 60 ∨ v = 256 ∨ v = 61 ∨ v = 257 ∨ v = 258 ∨ v = 62 ∨ v = 261 ∨ v = 262
def enc (s v : Int32) : Int32 := if s = 0 then v else if s = 1 then 10000 + v else 10007 + opc v
/-- a law's row is a sum in postfix: the depths -/
def wfl (m : g_M) (b e : Nat) : Prop := ∃ d : Nat → Nat, d b = 0 ∧ d e = 1 ∧ ∀ i, b ≤ i → i < e → d i ≤ i - b ∧
  ((m.1 20 i = 0 ∧ rg m 21 i 9999 ∧ d (i + 1) = d i + 1) ∨ (m.1 20 i = 1 ∧ rg m 21 i 6 ∧ d (i + 1) = d i + 1) ∨ (m.1 20 i = 2 ∧ m.1 21 i = 260 ∧ 1 ≤ d i ∧ d (i + 1) = d i) ∨ (m.1 20 i = 2 ∧ isOp (m.1 21 i) ∧ 2 ≤ d i ∧ d (i + 1) + 1 = d i))
/-- what is told, in the reference -/
def WT (m : g_M) : Prop :=
  (rg m 2 0 5 ∧ rg m 2 1 5 ∧ rg m 2 2 5 ∧ rg m 2 3 12 ∧ rg m 2 4 8 ∧ rg m 2 5 30 ∧ 1 ≤ vl m 2 5 ∧ rg m 2 6 100 ∧ rg m 2 7 99999 ∧ rg m 2 8 64) ∧
  (∀ i, i < vl m 2 0 → rg m 4 i 999) ∧
  (∀ s, s < vl m 2 1 → rg m 6 s 9 ∧ 1 ≤ vl m 6 s ∧ rg m 7 s 99) ∧
  (∀ d, d < vl m 2 2 → rg m 9 d 31) ∧
  (∀ n, n < vl m 2 3 → rg m 10 n 4 ∧ vl m 10 n < vl m 2 0 ∧ rg m 11 n 4 ∧ vl m 11 n < vl m 2 1 ∧ rg m 12 n 99) ∧
  (∀ w, w < vl m 2 4 → rg m 13 w 4 ∧ vl m 13 w < vl m 2 0 ∧ rg m 14 w 4 ∧ vl m 14 w < vl m 2 2 ∧ rg m 15 w 1 ∧ rg m 16 w 99 ∧ rg m 17 w 99) ∧
  (∀ r, r < 3 → rg m 18 r 64 ∧ rg m 19 r 64 ∧ vl m 18 r ≤ vl m 19 r ∧ vl m 19 r ≤ vl m 2 8 ∧ (vl m 18 r < vl m 19 r → wfl m (vl m 18 r) (vl m 19 r)))
/-- .. and in both -/
def RT (c m : g_M) (T : Nat) : Prop :=
  (∀ k, k < 3 → c.1 (T + 1) k = m.1 2 k) ∧
  (∀ i, i < vl m 2 0 → c.1 (T + 2) i = m.1 3 i ∧ c.1 (T + 3) i = m.1 4 i) ∧
  (∀ s, s < vl m 2 1 → c.1 (T + 2) (5 + s) = m.1 5 s ∧ c.1 (T + 4) s = m.1 6 s ∧ c.1 (T + 5) s = m.1 7 s) ∧
  (∀ d, d < vl m 2 2 → c.1 (T + 2) (10 + d) = m.1 8 d ∧ c.1 (T + 6) d = m.1 9 d) ∧
  (c.1 T 6 = m.1 2 3 ∧ c.1 T 8 = m.1 2 4 ∧ c.1 T 10 = m.1 2 5 ∧ c.1 T 11 = m.1 2 6 ∧ c.1 T 12 = m.1 2 7 ∧ c.1 (T + 9) 3 = m.1 2 8) ∧
  (∀ n, n < vl m 2 3 → c.1 (T + 7) (4 * n) = m.1 10 n ∧ c.1 (T + 7) (4 * n + 1) = m.1 11 n ∧ c.1 (T + 7) (4 * n + 2) = m.1 12 n ∧ c.1 (T + 7) (4 * n + 3) = 0) ∧
  (∀ w, w < vl m 2 4 → c.1 (T + 8) (5 * w) = m.1 13 w ∧ c.1 (T + 8) (5 * w + 1) = m.1 14 w ∧ c.1 (T + 8) (5 * w + 2) = m.1 15 w ∧ c.1 (T + 8) (5 * w + 3) = m.1 16 w ∧ c.1 (T + 8) (5 * w + 4) = m.1 17 w) ∧
  (∀ r, r < 3 → c.1 (T + 11) r = m.1 18 r ∧ c.1 (T + 12) r = m.1 19 r) ∧
  (∀ i, i < vl m 2 8 → c.1 (T + 10) i = enc (m.1 20 i) (m.1 21 i))
/-- where all stands on a day: dock f of the reference -/
def WS (m : g_M) (f : Nat) : Prop :=
  (rg m 24 f 10000 ∧ rg m 25 f 2147483647 ∧ rg m 27 f 12) ∧
  (∀ p, p < vl m 2 0 → rg m 28 (5 * f + p) 99999) ∧
  (∀ i, i < 25 → rg m 29 (25 * f + i) 4 ∧ rg m 30 (25 * f + i) 1) ∧
  (∀ s p, s < 5 → p < vl m 2 0 → vl m 29 (25 * f + (5 * p + s)) < vl m 2 0) ∧
  (∀ s p q, s < 5 → p < vl m 2 0 → q < vl m 2 0 → vl m 29 (25 * f + (5 * p + s)) = vl m 29 (25 * f + (5 * q + s)) → p = q) ∧
  (∀ n, n < vl m 27 f → rg m 32 (12 * f + n) 4 ∧ vl m 32 (12 * f + n) < vl m 2 0 ∧ rg m 33 (12 * f + n) 4 ∧ vl m 33 (12 * f + n) < vl m 2 1 ∧ rg m 34 (12 * f + n) 10000 ∧ rg m 35 (12 * f + n) 2) ∧
  (∀ w, w < 8 → rg m 31 (8 * f + w) 2) ∧
  (∀ p s, p < 5 → s < 5 → (vl m 2 0 ≤ p ∨ vl m 2 1 ≤ s) → m.1 29 (25 * f + (5 * p + s)) = nI p)
/-- .. and State t of PartsFerry -/
def RS (c m : g_M) (t f : Nat) : Prop :=
  (c.1 t 1 = m.1 24 f ∧ c.1 t 2 = m.1 25 f ∧ c.1 t 3 = m.1 26 f ∧ c.1 t 7 = m.1 27 f) ∧
  (∀ p, p < vl m 2 0 → c.1 (t + 1) p = m.1 28 (5 * f + p)) ∧
  (∀ i, i < 25 → (i < 5 * vl m 2 0 → c.1 (t + 2) i = m.1 29 (25 * f + i)) ∧ c.1 (t + 3) i = m.1 30 (25 * f + i)) ∧
  (∀ n, n < vl m 27 f → c.1 (t + 4) (4 * n) = m.1 32 (12 * f + n) ∧ c.1 (t + 4) (4 * n + 1) = m.1 33 (12 * f + n) ∧ c.1 (t + 4) (4 * n + 2) = m.1 34 (12 * f + n) ∧ c.1 (t + 4) (4 * n + 3) = m.1 35 (12 * f + n)) ∧
  (∀ w, w < 8 → c.1 (t + 5) w = m.1 31 (8 * f + w))
def isT (T : Nat) : Prop := T = 2 ∨ T = 16
def isS (t : Nat) : Prop := t = 35 ∨ t = 41 ∨ t = 47
/-- told, and a State over it -/
def TS (c m : g_M) (T t f : Nat) : Prop := isT T ∧ isS t ∧ f < 23 ∧ c.2.2 t 0 = some T ∧ WT m ∧ RT c m T ∧ WS m f ∧ RS c m t f
