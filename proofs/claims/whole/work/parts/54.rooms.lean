/-! how much room there was -/
section L
variable {F : Nat} {c m c' m' c1 m1 c2 m2 c3 m3 : g_M} {T S t f : Nat}
def KN (m : g_M) : Nat := if m.1 0 66 = -1 then vl m 0 65 else vl m 0 66
theorem nI_m1 {k : Nat} (hk : k < 100) : ¬ nI k = (-1 : Int32) := m1_ne hk
theorem lim (h : SEEN c m) : f6_limit F c = some (nI (KN m)) ∧ f11_knownMany F m = some (nI (KN m)) ∧ KN m ≤ vl m 0 65 ∧ c.1 60 0 = nI (vl m 0 65) ∧ vl m 0 65 ≤ 24 := by
  obtain ⟨n, h1, h2, h3, h4, h5, _⟩ := h
  have v65 : vl m 0 65 = n := vl_of h3 (by omega)
  unfold f6_limit f11_knownMany KN
  rw [h4, v65]
  rcases h5 with z | ⟨k, hk, z⟩
  · rw [if_pos z, if_pos z, if_pos z, h2, h3]; exact ⟨rfl, rfl, Nat.le_refl _, rfl, h1⟩
  · have e : ¬ m.1 0 66 = -1 := by rw [z]; exact nI_m1 (by omega)
    have v66 : vl m 0 66 = k := vl_of z (by omega)
    rw [if_neg e, if_neg e, if_neg e, v66]; exact ⟨by rw [z], by rw [z], hk, h2, h1⟩
theorem se_at (h : SEEN c m) {i : Nat} (hi : i < vl m 0 65) : c.1 65 i = m.1 42 i ∧ ((m.1 42 i = -1 ∧ (∃ d, 1 ≤ d ∧ d ≤ 40 ∧ c.1 61 i = nI d ∧ m.1 39 i = nI d) ∧ (∃ p s, p < 5 ∧ s < 5 ∧ c.1 62 i = nI p ∧ c.1 63 i = nI s ∧ m.1 40 i = nI (5 * p + s)) ∧ c.1 64 i = m.1 41 i ∧ (m.1 41 i = nI 0 ∨ m.1 41 i = nI 1)) ∨ ∃ j, j < i ∧ m.1 42 i = nI j) := by
  obtain ⟨n, h1, h2, h3, h4, h5, h6⟩ := h
  have v65 : vl m 0 65 = n := vl_of h3 (by omega)
  exact h6 i (by omega)
/-- what is struck, from the last on -/
def sx (m : g_M) (n : Nat) (X : Nat → Bool) : Nat → Bool := if X n = true then X else if m.1 42 n = -1 then X else fun i => X i || decide (i = vl m 42 n)
def strk (m : g_M) : Nat → (Nat → Bool) → (Nat → Bool)
  | 0, X => X
  | n + 1, X => strk m n (sx m n X)
def mxd (m : g_M) (Z : Nat → Bool) : Nat → Nat
  | 0 => 0
  | n + 1 => if Z n = false ∧ m.1 42 n = -1 then max (mxd m Z n) (vl m 39 n) else mxd m Z n
def TGT (m : g_M) (K : Nat) : Prop := ∀ i, i < K → (m.1 42 i = -1 ∧ ∃ d, d ≤ 40 ∧ m.1 39 i = nI d) ∨ ∃ j, j < i ∧ m.1 42 i = nI j
theorem sx_hi {K n : Nat} (h : TGT m K) (hK : K ≤ 24) (hn : n < K) (X : Nat → Bool) {j : Nat} (hj : n ≤ j) : sx m n X j = X j := by
  unfold sx
  split
  · rfl
  · split
    · rfl
    · rcases h n hn with ⟨z, _⟩ | ⟨k, hk, z⟩
      · contradiction
      · rw [vl_of z (by omega)]
        have : ¬ j = k := by omega
        simp [this]
theorem strk_hi {K : Nat} (h : TGT m K) (hK : K ≤ 24) : ∀ n, n ≤ K → ∀ X j, n ≤ j → strk m n X j = X j := by
  intro n
  induction n with
  | zero => intro _ X j _; rfl
  | succ n ih =>
    intro hn X j hj
    show strk m n (sx m n X) j = X j
    rw [ih (by omega) _ j (by omega), sx_hi h hK (by omega) X (by omega)]
theorem mxd_le {K : Nat} (h : TGT m K) (hK : K ≤ 24) (Z : Nat → Bool) : ∀ n, n ≤ K → mxd m Z n ≤ 40 := by
  intro n
  induction n with
  | zero => intro _; exact Nat.zero_le _
  | succ n ih =>
    intro hn
    have h1 := ih (by omega)
    show (if Z n = false ∧ m.1 42 n = -1 then max (mxd m Z n) (vl m 39 n) else mxd m Z n) ≤ 40
    split
    · rename_i z
      rcases h n (by omega) with ⟨_, d, hd, e⟩ | ⟨k, hk, e⟩
      · rw [vl_of e (by omega)]; omega
      · exact absurd (e.symm.trans z.2) (nI_m1 (by omega))
    · exact h1
def STR (c : g_M) (o : Nat) (X : Nat → Bool) (K : Nat) : Prop := ∀ j, j < K → c.1 o j = if X j = true then nI 1 else nI 0
theorem STR_sx {K n : Nat} {X : Nat → Bool} {o : Nat} (hS : STR c o X K) (hX : X n = false) {k : Nat} (z : m.1 42 n = nI k) (hk : k < 100) : STR (g_sI c o k (1 : Int32)) o (sx m n X) K := by
  have es : sx m n X = fun i => X i || decide (i = k) := by
    unfold sx
    rw [if_neg (show ¬ X n = true by rw [hX]; decide), if_neg (show ¬ m.1 42 n = -1 by rw [z]; exact nI_m1 hk), vl_of z (by omega)]
  intro j hj
  rw [es, sI_at]
  by_cases e : j = k
  · rw [if_pos e]; simp [e]; rfl
  · rw [if_neg e, hS j hj]; simp [e]
theorem sx_no1 {n : Nat} {X : Nat → Bool} (h : X n = true) : sx m n X = X := by unfold sx; rw [if_pos h]
theorem sx_no2 {n : Nat} {X : Nat → Bool} (h : m.1 42 n = -1) : sx m n X = X := by unfold sx; rw [if_pos h, ite_self]
theorem ck24 {α : Type} {n : Nat} (hn : n < 24) (k : Option α) : g_ck (nI n) 24 k = k := g_ckN hn (by omega)
theorem q_wl (hS : SEEN c m) (hT : TGT m (KN m)) : ∀ n, n ≤ KN m → ∀ (X : Nat → Bool) (v : Nat) (mem : g_M), v ≤ 40 → mem.2.2 = c.2.2 → (∀ o, o ≠ 66 → mem.1 o = c.1 o) → STR mem 66 X (KN m) → ∀ G, n < G → ∃ mem', g_fix (fun sf (x : Int32 × Int32 × g_M) => f6_weigh_b32_body F (fun v1 v2 mem => sf (v1, v2, mem)) x.1 x.2.1 x.2.2) G (nI v, nI n + -nI 1, mem) = some (nI (max v (mxd m (strk m n X) n)), mem') ∧ mem'.2.2 = c.2.2 ∧ (∀ o, o ≠ 66 → mem'.1 o = c.1 o) ∧ STR mem' 66 (strk m n X) (KN m) := by
  obtain ⟨_, _, l3, _, l5⟩ := lim (F := F) hS
  intro n
  induction n with
  | zero =>
    intro _ X v mem hv hr hm hX G hG
    refine ⟨mem, ?_, hr, hm, hX⟩
    rw [g_fix_p hG]
    unfold f6_weigh_b32_body
    rw [if_neg (show ¬ (0 : Int32) ≤ nI 0 + -nI 1 by decide)]
    simp [mxd]
  | succ n ih =>
    intro hn X v mem hv hr hm hX G hG
    rw [g_fix_p (by omega), s_m1]
    generalize hsf : g_fix (fun sf (x : Int32 × Int32 × g_M) => f6_weigh_b32_body F (fun v1 v2 mem => sf (v1, v2, mem)) x.1 x.2.1 x.2.2) (G - 1) = sf at *
    show ∃ mem', f6_weigh_b32_body F (fun v1 v2 mem => sf (v1, v2, mem)) (nI v) (nI n) mem = _ ∧ _
    unfold f6_weigh_b32_body f6_weigh_b70 f6_weigh_b90
    obtain ⟨a1, a2⟩ := se_at hS (show n < vl m 0 65 by omega)
    have e65 : mem.1 65 n = m.1 42 n := by rw [hm 65 (by omega)]; exact a1
    have hXn := hX n (by omega)
    have hZ : strk m n (sx m n X) n = X n := by rw [strk_hi hT (by omega) n (by omega) _ n (Nat.le_refl n), sx_hi hT (by omega) (by omega) X (Nat.le_refl n)]
    rw [if_pos (show (0 : Int32) ≤ nI n from nI_ge0 (by omega)), ck24 (by omega), g_clN (by omega), hXn]
    by_cases x : X n = true
    · rw [if_pos x, if_neg nI10, ck24 (by omega), if_neg nI10, g_let_e]
      obtain ⟨mem', k1, k2, k3, k4⟩ := ih (by omega) X v mem hv hr hm hX (G - 1) (by omega)
      rw [hsf] at k1
      refine ⟨mem', ?_, k2, k3, ?_⟩
      · show sf (nI v, nI n + -nI 1, mem) = _
        rw [k1]
        show _ = some (nI (max v (if strk m n (sx m n X) n = false ∧ m.1 42 n = -1 then _ else _)), mem')
        rw [if_neg (fun z => by rw [hZ, x] at z; exact absurd z.1 (by decide))]
        show _ = some (nI (max v (mxd m (strk m n (sx m n X)) n)), mem')
        rw [sx_no1 x]
      · show STR mem' 66 (strk m n (sx m n X)) _
        rw [sx_no1 x]; exact k4
    · have x' : X n = false := by cases h : X n <;> simp_all
      rw [if_neg x, if_pos nI00, ck24 (by omega), e65]
      rcases a2 with ⟨z, ⟨d, d1, d2, d3, d4⟩, _⟩ | ⟨k, hk, z⟩
      · rw [if_pos z, ck24 (by omega), if_pos nI00, ck24 (by omega), g_let_e, g_let_e, hm 61 (by omega), d3]
        have hmx : (if nI v < nI d then nI d else nI v) = nI (max v d) := by
          by_cases y : v < d
          · rw [if_pos ((g_ltN (by omega) (by omega)).mpr y), Nat.max_eq_right (by omega)]
          · rw [if_neg (fun q => y ((g_ltN (by omega) (by omega)).mp q)), Nat.max_eq_left (by omega)]
        rw [hmx]
        obtain ⟨mem', k1, k2, k3, k4⟩ := ih (by omega) X (max v d) mem (by omega) hr hm hX (G - 1) (by omega)
        rw [hsf] at k1
        refine ⟨mem', ?_, k2, k3, ?_⟩
        · show sf (nI (max v d), nI n + -nI 1, mem) = _
          rw [k1]
          show _ = some (nI (max v (if strk m n (sx m n X) n = false ∧ m.1 42 n = -1 then max (mxd m (strk m n (sx m n X)) n) (vl m 39 n) else _)), mem')
          rw [if_pos ⟨by rw [hZ, x'], z⟩, sx_no2 z, vl_of d4 (by omega)]
          congr 3
          omega
        · show STR mem' 66 (strk m n (sx m n X)) _
          rw [sx_no2 z]; exact k4
      · have zn : ¬ m.1 42 n = -1 := by rw [z]; exact nI_m1 (by omega)
        rw [if_neg zn, ck24 (by omega), z, ck24 (by omega), g_let_e, g_let_e, g_clN (by omega)]
        obtain ⟨mem', k1, k2, k3, k4⟩ := ih (by omega) (sx m n X) v (g_sI mem 66 k (1 : Int32)) hv hr (fun o ho => by rw [sI_o ho]; exact hm o ho) (STR_sx hX x' z (by omega)) (G - 1) (by omega)
        rw [hsf] at k1
        refine ⟨mem', ?_, k2, k3, k4⟩
        show sf (nI v, nI n + -nI 1, g_sI mem 66 k (1 : Int32)) = _
        rw [k1]
        show _ = some (nI (max v (if strk m n (sx m n X) n = false ∧ m.1 42 n = -1 then _ else mxd m (strk m n (sx m n X)) n)), mem')
        rw [if_neg (fun y => zn y.2)]
theorem r_wl (hS : SEEN c m) (hT : TGT m (KN m)) : ∀ n, n ≤ KN m → ∀ (X : Nat → Bool) (v : Int32) (mem : g_M), mem.2.2 = m.2.2 → (∀ o, o ≠ 43 → mem.1 o = m.1 o) → STR mem 43 X (KN m) → ∀ G, n < G → ∃ mem', g_fix (fun sf (x : Int32 × Int32 × g_M) => f11_rooms_b37_body F (fun v1 v2 mem => sf (v1, v2, mem)) x.1 x.2.1 x.2.2) G (v, nI n + -nI 1, mem) = f11_rooms_b80 F v (0 : Int32) mem' ∧ mem'.2.2 = m.2.2 ∧ (∀ o, o ≠ 43 → mem'.1 o = m.1 o) ∧ STR mem' 43 (strk m n X) (KN m) := by
  obtain ⟨_, _, l3, _, l5⟩ := lim (F := F) hS
  intro n
  induction n with
  | zero =>
    intro _ X v mem hr hm hX G hG
    refine ⟨mem, ?_, hr, hm, hX⟩
    rw [g_fix_p hG]
    unfold f11_rooms_b37_body
    rw [if_neg (show ¬ (0 : Int32) ≤ nI 0 + -nI 1 by decide)]
  | succ n ih =>
    intro hn X v mem hr hm hX G hG
    rw [g_fix_p (by omega), s_m1]
    generalize hsf : g_fix (fun sf (x : Int32 × Int32 × g_M) => f11_rooms_b37_body F (fun v1 v2 mem => sf (v1, v2, mem)) x.1 x.2.1 x.2.2) (G - 1) = sf at *
    show ∃ mem', f11_rooms_b37_body F (fun v1 v2 mem => sf (v1, v2, mem)) v (nI n) mem = _ ∧ _
    unfold f11_rooms_b37_body f11_rooms_b72
    obtain ⟨a1, a2⟩ := se_at hS (show n < vl m 0 65 by omega)
    have e42 : mem.1 42 n = m.1 42 n := by rw [hm 42 (by omega)]
    have hXn := hX n (by omega)
    rw [if_pos (show (0 : Int32) ≤ nI n from nI_ge0 (by omega)), ck24 (by omega), g_clN (by omega), hXn]
    by_cases x : X n = true
    · rw [if_pos x, if_neg nI10, g_let_e]
      obtain ⟨mem', k1, k2, k3, k4⟩ := ih (by omega) X v mem hr hm hX (G - 1) (by omega)
      rw [hsf] at k1
      refine ⟨mem', k1, k2, k3, ?_⟩
      show STR mem' 43 (strk m n (sx m n X)) _
      rw [sx_no1 x]; exact k4
    · have x' : X n = false := by cases h : X n <;> simp_all
      rw [if_neg x, if_pos nI00, ck24 (by omega), e42]
      rcases a2 with ⟨z, _⟩ | ⟨k, hk, z⟩
      · rw [if_pos z, g_let_e]
        obtain ⟨mem', k1, k2, k3, k4⟩ := ih (by omega) X v mem hr hm hX (G - 1) (by omega)
        rw [hsf] at k1
        refine ⟨mem', k1, k2, k3, ?_⟩
        show STR mem' 43 (strk m n (sx m n X)) _
        rw [sx_no2 z]; exact k4
      · have zn : ¬ m.1 42 n = -1 := by rw [z]; exact nI_m1 (by omega)
        rw [if_neg zn, ck24 (by omega), z, ck24 (by omega), g_let_e, g_let_e, g_clN (by omega)]
        obtain ⟨mem', k1, k2, k3, k4⟩ := ih (by omega) (sx m n X) v (g_sI mem 43 k (1 : Int32)) hr (fun o ho => by rw [sI_o ho]; exact hm o ho) (STR_sx hX x' z (by omega)) (G - 1) (by omega)
        rw [hsf] at k1
        exact ⟨mem', k1, k2, k3, k4⟩
end L
