/-! calm, swaps -/
section A
variable {F : Nat} {c m : g_M} {T S : Nat}
def ASKL (x : Option Int64) (y : Option (Int64 × g_M)) (c : g_M) : Prop := ∃ r m', x = some r ∧ y = some (r, m') ∧ INV c m'
theorem askL_of {x : Option Int64} {c m : g_M} {y : g_M → Option (Int64 × g_M)} (h : INV c m) (hk : ∀ T S m1, INV c m1 → TW T S → G c m1 T → ∃ r, x = some r ∧ y m1 = some (r, m1)) : ASKL x (g_let (g_sI m 0 0 (0 : Int32)) y) c := by
  have h1 : INV c (g_sI m 0 0 (0 : Int32)) := INV_thr h _
  obtain ⟨T, S, hTW, r2, r3, hTS, _⟩ := id h1
  obtain ⟨r, e1, e2⟩ := hk T S _ h1 hTW ⟨hTS, r2⟩
  exact ⟨r, _, e1, e2, h1⟩
def cfn (a : Nat) : Nat → Nat
  | 0 => 1
  | i + 1 => if a % (i + 2) = 0 ∧ 100 % (i + 2) = 0 then i + 2 else cfn a i
theorem cfn_b (a : Nat) : ∀ i, 1 ≤ cfn a i ∧ cfn a i ≤ i + 1 := by
  intro i
  induction i with
  | zero => exact ⟨Nat.le_refl 1, Nat.le_refl 1⟩
  | succ i ih => unfold cfn; split <;> omega
theorem q_cf (hF : 5000 < F) {a : Nat} (ha : a ≤ 100) : f10_commonFactor F (nI a) (100 : Int32) c = some (nI (cfn a 99)) := by
  unfold f10_commonFactor f10_commonFactor_b4
  refine g_for (fun i => (nI (cfn a i), nI (i + 2))) 99 (fun i hi sf => ?_) (by omega) (fun sf => ?_)
  · have l : nI (i + 2) ≤ (100 : Int32) := (g_leN (a := i + 2) (b := 100) (by omega) (by omega)).mpr (by omega)
    have nz : ¬ nI (i + 2) = (0 : Int32) := fun z => by have := (g_eqN (a := i + 2) (b := 0) (by omega) (by omega)).mp z; omega
    have r1 : nI a - nI a / nI (i + 2) * nI (i + 2) = nI (a % (i + 2)) := pk_rem (by omega) (by omega) (by omega)
    have r2 : (100 : Int32) - (100 : Int32) / nI (i + 2) * nI (i + 2) = nI (100 % (i + 2)) := pk_rem (a := 100) (by omega) (by omega) (by omega)
    have b1 : a % (i + 2) < i + 2 := Nat.mod_lt _ (by omega)
    have b2 : 100 % (i + 2) < i + 2 := Nat.mod_lt _ (by omega)
    have z1 : nI (a % (i + 2)) = (0 : Int32) ↔ a % (i + 2) = 0 := g_eqN (b := 0) (by omega) (by omega)
    have z2 : nI (100 % (i + 2)) = (0 : Int32) ↔ 100 % (i + 2) = 0 := g_eqN (b := 0) (by omega) (by omega)
    unfold f10_commonFactor_b4_body f10_commonFactor_b23 g_nz
    rw [if_pos l, if_neg nz, r1, r2]
    have e : cfn a (i + 1) = if a % (i + 2) = 0 ∧ 100 % (i + 2) = 0 then i + 2 else cfn a i := rfl
    rw [e]
    by_cases h1 : a % (i + 2) = 0
    · rw [if_pos (z1.mpr h1), if_neg nz]
      by_cases h2 : 100 % (i + 2) = 0
      · rw [if_pos (z2.mpr h2), if_pos ⟨h1, h2⟩]
        simp only [g_let, g_l1, nI_add]
      · rw [if_neg (fun z => h2 (z2.mp z)), if_neg (fun z => h2 z.2)]
        simp only [g_let, g_l1, nI_add]
    · rw [if_neg (fun z => h1 (z1.mp z)), if_neg (fun z => h1 z.1)]
      simp only [g_let, g_l1, nI_add]
  · unfold f10_commonFactor_b4_body
    rw [if_neg (show ¬ nI 101 ≤ (100 : Int32) by decide)]
theorem r_common (F : Nat) (x0 y0 : Int64) (m : g_M) : ∀ k x y G, y < 2 ^ k → x < 2 ^ 62 → y < 2 ^ 62 → 2 * k + 1 ≤ G → g_fix (fun sf (z : Int64 × Int64) => f11_common_b6_body F x0 y0 (fun v4 v6 => sf (v4, v6)) m z.1 z.2) G (lN x, lN y) = some (lN (Nat.gcd x y)) := by
  have stop : ∀ x G, 1 ≤ G → g_fix (fun sf (z : Int64 × Int64) => f11_common_b6_body F x0 y0 (fun v4 v6 => sf (v4, v6)) m z.1 z.2) G (lN x, lN 0) = some (lN x) := by
    intro x G hG
    rw [g_fix_p (by omega)]
    show f11_common_b6_body F x0 y0 _ m (lN x) (lN 0) = _
    unfold f11_common_b6_body
    rw [if_pos (show lg_cmp (lN 0) (0 : Int64) = (0 : Int32) from (lc_eq _ _).mpr rfl)]
  have step : ∀ x y G, 1 ≤ G → 0 < y → x < 2 ^ 62 → y < 2 ^ 62 → g_fix (fun sf (z : Int64 × Int64) => f11_common_b6_body F x0 y0 (fun v4 v6 => sf (v4, v6)) m z.1 z.2) G (lN x, lN y) = g_fix (fun sf (z : Int64 × Int64) => f11_common_b6_body F x0 y0 (fun v4 v6 => sf (v4, v6)) m z.1 z.2) (G - 1) (lN y, lN (x % y)) := by
    intro x y G hG hy hx hyy
    have nz : ¬ lN y = (0 : Int64) := fun z => by
      have := (pk_lEQ (a := y) (b := 0) (by omega) (by omega)).mp z
      omega
    rw [g_fix_p (by omega)]
    show f11_common_b6_body F x0 y0 _ m (lN x) (lN y) = _
    unfold f11_common_b6_body g_nzL
    rw [if_neg (fun z => nz ((lc_eq _ _).mp z)), if_neg nz, pk_lRem (by omega) hy (by omega)]
    rfl
  intro k
  induction k with
  | zero =>
    intro x y G hy hx _ hG
    have : y = 0 := by omega
    subst this
    rw [stop x G (by omega), Nat.gcd_zero_right]
  | succ k ih =>
    intro x y G hy hx hy2 hG
    by_cases h0 : y = 0
    · subst h0; rw [stop x G (by omega), Nat.gcd_zero_right]
    · have hr : x % y < y := Nat.mod_lt _ (by omega)
      rw [step x y G (by omega) (by omega) hx hy2]
      have e1 : Nat.gcd x y = Nat.gcd y (x % y) := by rw [Nat.gcd_comm x y, Nat.gcd_rec y x, Nat.gcd_comm]
      rw [e1]
      generalize x % y = r at *
      by_cases h1 : r = 0
      · subst h1; rw [stop y _ (by omega), Nat.gcd_zero_right]
      · have hr2 : y % r < r := Nat.mod_lt _ (by omega)
        have hpow : 2 ^ (k + 1) = 2 * 2 ^ k := by rw [Nat.pow_succ]; omega
        have hlt : y % r < 2 ^ k := by
          by_cases g : r ≤ 2 ^ k
          · omega
          · have h3 : y / r ≥ 1 := Nat.div_pos (by omega) (by omega)
            have h4 := Nat.div_add_mod y r
            have h5 : r * 1 ≤ r * (y / r) := Nat.mul_le_mul_left r h3
            omega
        rw [step y r _ (by omega) (by omega) hy2 (by omega)]
        have e2 : Nat.gcd y r = Nat.gcd r (y % r) := by rw [Nat.gcd_comm y r, Nat.gcd_rec r y, Nat.gcd_comm]
        rw [e2]
        exact ih r (y % r) _ hlt (by omega) (by omega) (by omega)
theorem calm_all : ∀ v : Fin 101, ∀ n : Fin 7, (100 - v.1) ^ n.1 / Nat.gcd ((100 - v.1) ^ n.1) (100 ^ n.1) = ((100 - v.1) / cfn (100 - v.1) 99) ^ n.1 ∧ 100 ^ n.1 / Nat.gcd ((100 - v.1) ^ n.1) (100 ^ n.1) = (100 / cfn (100 - v.1) 99) ^ n.1 := by decide +kernel
theorem l_subN {a b : Nat} (h : b ≤ a) : lN a - lN b = lN (a - b) := by
  have e : lN a = lN (a - b) + lN b := by rw [lN_add]; congr 1; omega
  rw [e, Int64.sub_eq_add_neg, Int64.add_assoc, Int64.add_right_neg, Int64.add_zero]
theorem pow_le {a n : Nat} (ha : a ≤ 100) (hn : n ≤ 6) : a ^ n ≤ 1000000000000 :=
  Nat.le_trans (Nat.pow_le_pow_left ha n) (Nat.le_trans (Nat.pow_le_pow_right (by omega) hn) (by decide))
theorem s_calm (hF : 5000 < F) (h : INV c m) (a b : Int32) : ASKL (f10_calm F a b c) (f11_calm F a b m) c := by
  refine askL_of h (fun T S m1 h1 hTW hG => ?_)
  obtain ⟨hTS, h02⟩ := id hG
  obtain ⟨hT, ht, hf, hp0, hW, hR, hWS, hRS⟩ := id hTS
  obtain ⟨⟨⟨vP, bP⟩, ⟨vS, bS⟩, ⟨vD, bD⟩, ⟨vN, bN⟩, ⟨vW, bW⟩, ⟨vRoom, bRoom⟩, bRoom1, ⟨vStorm, bStorm⟩, ⟨vSeed, bSeed⟩, ⟨vK, bK⟩⟩, wPence, wSort, wDeed, wSend, wWant, wLaw⟩ := id hW
  obtain ⟨⟨⟨vDay, bDay⟩, ⟨vLast, bLast⟩, ⟨vSends, bSends⟩⟩, sPence, sHL, sPerm1, sPerm2, sSend, sWant, sOwn⟩ := id hWS
  obtain ⟨rCnt, rMan, rSort, rDeed, ⟨rT6, rT8, rT10, rT11, rT12, rT93⟩, rSent, rWanted, rLaw, rCode⟩ := id hR
  obtain ⟨⟨eDay, eLast, eStorms, eSends⟩, ePence, eHL, eSend, eWant⟩ := id hRS
  have e0 := rCnt 0 (by omega)
  have e1 := rCnt 1 (by omega)
  have e2 := rCnt 2 (by omega)
  have gd := fun {α : Type} {k : Nat → Option α} => g_drT (k := k) hp0 hT
  have gt := fun {α : Type} {k : Nat → Option α} => g_drT (k := k) h02 hT
  unfold f10_calm
  by_cases ha : okI a 7
  rotate_left
  · refine ⟨-1, ?_, ?_⟩
    all_goals
      rcases not_okI (by omega) ha with z | ⟨z1, z2⟩
      · rw [if_neg (show ¬ (0 : Int32) ≤ a from z)]
      · have z3 : ¬ a ≤ (6 : Int32) := by
          intro z
          obtain ⟨k, hk, rfl⟩ : ∃ k, k < 2147483648 ∧ a = nI k := by
            rcases i_cases a with y | y
            · exact absurd z1 (neg_nle y)
            · exact y
          have q1 := (g_leN (a := k) (b := 6) hk (by omega)).mp z
          exact ha ⟨k, by omega, rfl⟩
        rw [if_pos (show (0 : Int32) ≤ a from z1), if_neg z3]
  obtain ⟨n, hn, rfl⟩ := ha
  have n1 : (0 : Int32) ≤ nI n := nI_ge0 (by omega)
  have n2 : nI n ≤ (6 : Int32) := (g_leN (a := n) (b := 6) (by omega) (by omega)).mpr (by omega)
  rw [if_pos n1, if_pos n2, if_pos n1, if_pos n2]
  have hv6 : vl m1 2 6 ≤ 100 := bStorm
  generalize hv : vl m1 2 6 = v at *
  have hcalm := calm_all ⟨v, by omega⟩ ⟨n, hn⟩
  have hcb := cfn_b (100 - v) 99
  -- the class, for an answer q
  have clsQ : ∀ q, q ≤ 100 → f10_calm_b68 F (nI n) b c (nI q) = some (lN (q ^ n)) := by
    intro q hq
    unfold f10_calm_b68 f10_calm_b76
    refine g_for (fun i => (nI q, lN (q ^ i), nI i)) n (fun i hi sf => ?_) (by omega) (fun sf => ?_)
    · unfold f10_calm_b76_body
      rw [if_pos ((g_ltN (by omega) (by omega)).mpr hi), nI_l (by omega), lN_mul]
      simp only [g_let, g_l1, nI_add, Nat.pow_succ]
    · unfold f10_calm_b76_body
      rw [if_neg (fun z => Nat.lt_irrefl n ((g_ltN (by omega) (by omega)).mp z))]
  have sub100 : (100 : Int32) - c.1 T 11 = nI (100 - v) := by rw [rT11, vStorm]; exact g_subN (a := 100) hv6
  have cls : ∀ w, (b = 0 ∧ w = (100 - v) / cfn (100 - v) 99) ∨ (¬ b = 0 ∧ w = 100 / cfn (100 - v) 99) → f10_calm_b23 F (nI n) b c = some (lN (w ^ n)) := by
    intro w hw
    have hwl : w ≤ 100 := by
      rcases hw with ⟨_, rfl⟩ | ⟨_, rfl⟩
      · exact Nat.le_trans (Nat.div_le_self _ _) (by omega)
      · exact Nat.div_le_self _ _
    have c1 : ¬ nI (cfn (100 - v) 99) < (1 : Int32) := fun z => by have := (g_ltN (a := cfn (100 - v) 99) (b := 1) (by omega) (by omega)).mp z; omega
    have cz : ¬ nI (cfn (100 - v) 99) = (0 : Int32) := fun z => by have := (g_eqN (a := cfn (100 - v) 99) (b := 0) (by omega) (by omega)).mp z; omega
    have d1 : nI (100 - v) / nI (cfn (100 - v) 99) = nI ((100 - v) / cfn (100 - v) 99) := pk_div (by omega) (by omega) (by omega)
    have d2 : (100 : Int32) / nI (cfn (100 - v) 99) = nI (100 / cfn (100 - v) 99) := pk_div (a := 100) (by omega) (by omega) (by omega)
    unfold f10_calm_b23
    rw [gt]
    simp only [g_let]
    rw [sub100, q_cf hF (by omega), g_bs, if_neg c1]
    unfold g_nz
    rcases hw with ⟨h0, hw⟩ | ⟨h0, hw⟩
    · rw [if_pos h0, if_neg cz, d1, ← hw]; exact clsQ w hwl
    · rw [if_neg h0, if_neg cz, d2, ← hw]; exact clsQ w hwl
  -- the reference
  have v6 : m1.1 2 6 = nI v := vStorm
  have s6 : (100 : Int64) - (nI v).toInt64 = lN (100 - v) := by rw [nI_l (by omega)]; show lN 100 - lN v = _; exact l_subN hv6
  have refM : f11_calm_b36 F (nI n) b (1 : Int64) (1 : Int64) (0 : Int32) m1 = (if b = 0 then some (lN ((100 - v) ^ n / Nat.gcd ((100 - v) ^ n) (100 ^ n)), m1) else some (lN (100 ^ n / Nat.gcd ((100 - v) ^ n) (100 ^ n)), m1)) := by
    unfold f11_calm_b36
    refine g_for (fun i => (lN ((100 - v) ^ i), lN (100 ^ i), nI i, m1)) n (fun i hi sf => ?_) (by omega) (fun sf => ?_)
    · unfold f11_calm_b36_body
      rw [if_pos ((g_ltN (by omega) (by omega)).mpr hi), g_l6, g_ckN (by omega) (by omega), g_clN (by omega), v6, s6, lN_mul, show (100 : Int64) = lN 100 from rfl, lN_mul]
      simp only [g_let, g_l1, nI_add, Nat.pow_succ]
    · have p1 := pow_le (a := 100 - v) (n := n) (by omega) (by omega)
      have p2 := pow_le (a := 100) (n := n) (by omega) (by omega)
      have hc := r_common F (lN ((100 - v) ^ n)) (lN (100 ^ n)) m1 40 ((100 - v) ^ n) (100 ^ n) F (by omega) (by omega) (by omega) (by omega)
      have hpos : 0 < 100 ^ n := Nat.pow_pos (by omega)
      have hg := Nat.gcd_pos_of_pos_right ((100 - v) ^ n) hpos
      have hgl : Nat.gcd ((100 - v) ^ n) (100 ^ n) ≤ 100 ^ n := Nat.gcd_le_right _ hpos
      have gz : ¬ lN (Nat.gcd ((100 - v) ^ n) (100 ^ n)) = (0 : Int64) := fun z => by
        have := (pk_lEQ (a := Nat.gcd ((100 - v) ^ n) (100 ^ n)) (b := 0) (by omega) (by omega)).mp z
        omega
      unfold f11_calm_b36_body f11_common f11_common_b6
      rw [if_neg (fun z => Nat.lt_irrefl n ((g_ltN (by omega) (by omega)).mp z)), hc, g_bs]
      unfold g_nzL
      rw [pk_lDiv (by omega) hg (by omega), pk_lDiv (by omega) hg (by omega), if_neg gz, if_neg gz]
  by_cases hb : okI b 2
  rotate_left
  · have b0 : ¬ b = (0 : Int32) := fun z => hb ⟨0, by omega, z⟩
    have b1 : ¬ b = (1 : Int32) := fun z => hb ⟨1, by omega, z⟩
    rw [if_neg b0, if_neg b1]
    refine ⟨-1, rfl, ?_⟩
    rcases not_okI (by omega) hb with z | ⟨z1, z2⟩
    · rw [if_neg (show ¬ (0 : Int32) ≤ b from z)]
    · have z3 : (1 : Int32) < b := by
        obtain ⟨k, hk, rfl⟩ : ∃ k, k < 2147483648 ∧ b = nI k := by
          rcases i_cases b with y | y
          · exact absurd z1 (neg_nle y)
          · exact y
        refine (g_ltN (a := 1) (b := k) (by omega) hk).mpr ?_
        rcases Nat.lt_or_ge 1 k with y | y
        · exact y
        · exact absurd ⟨k, by omega, rfl⟩ hb
      rw [if_pos (show (0 : Int32) ≤ b from z1), if_pos z3]
  obtain ⟨o, ho, rfl⟩ := hb
  have o1 : ¬ (1 : Int32) < nI o := fun z => by have := (g_ltN (a := 1) (b := o) (by omega) (by omega)).mp z; omega
  rw [if_pos (show (0 : Int32) ≤ nI o from nI_ge0 (by omega)), if_neg o1, refM]
  rcases (show o = 0 ∨ o = 1 by omega) with rfl | rfl
  · rw [if_pos nI00, if_pos nI00]
    exact ⟨_, cls _ (Or.inl ⟨rfl, rfl⟩), by rw [hcalm.1]⟩
  · rw [if_neg nI10, if_neg nI10, if_pos (show nI 1 = (1 : Int32) from rfl)]
    exact ⟨_, cls _ (Or.inr ⟨nI10, rfl⟩), by rw [hcalm.2]⟩
/-- the ones reached from one -/
def fol (g : Nat → Nat) : Nat → (Nat → Bool) → Nat → (Nat → Bool)
  | 0, V, _ => V
  | k + 1, V, q => if V q = true then V else fol g k (fun j => V j || decide (j = q)) (g q)
theorem fol_p {g : Nat → Nat} {P : Nat} (hg : ∀ q, q < P → g q < P) : ∀ k V q, q < P → (∀ j, V j = true → j < P) → (∀ j, V j = true → fol g k V q j = true) ∧ (∀ j, fol g k V q j = true → j < P) ∧ (1 ≤ k → fol g k V q q = true) := by
  intro k
  induction k with
  | zero => intro V q hq hV; exact ⟨fun j h => h, hV, fun h => absurd h (by omega)⟩
  | succ k ih =>
    intro V q hq hV
    unfold fol
    by_cases h : V q = true
    · rw [if_pos h]; exact ⟨fun j h => h, hV, fun _ => h⟩
    · rw [if_neg h]
      obtain ⟨a1, a2, a3⟩ := ih (fun j => V j || decide (j = q)) (g q) (hg q hq) (fun j hj => by
        simp only [Bool.or_eq_true, decide_eq_true_eq] at hj
        rcases hj with hj | hj
        · exact hV j hj
        · omega)
      exact ⟨fun j hj => a1 j (by simp [hj]), a2, fun _ => a1 q (by simp)⟩
theorem cnt_mono {P Q : Nat → Bool} (h : ∀ j, P j = true → Q j = true) (n : Nat) : cntP P n ≤ cntP Q n := by
  induction n with
  | zero => exact Nat.le_refl 0
  | succ n ih =>
    rw [cntP_s, cntP_s]
    by_cases g : P n = true
    · rw [if_pos g, if_pos (h n g)]; omega
    · rw [if_neg g]; omega
theorem cnt_lt {V : Nat → Bool} {q P : Nat} (hq : q < P) (h : ¬ V q = true) : cntP V P < P := by
  have h1 := cnt_set V hq (by simpa using h)
  have h2 := cntP_le (fun j => V j || decide (j = q)) P
  omega
theorem q_walk (hTS : TS c m T 35 0) {s : Nat} (hs : s < 5) {P : Nat} (hP : P = vl m 2 0) {g : Nat → Nat} (hg : ∀ q, q < P → g q < P) (hh : ∀ q, q < P → c.1 37 (5 * q + s) = nI (g q)) (s18 : Int32 → Int32 → Int32 → Int32 → Option Int32) (r man : Nat) :
    ∀ k V q step G, q < P → (∀ j, V j = true → j < P) → P ≤ k + cntP V P → step ≤ cntP V P → k < G → g_fix (fun sf (x : Int32 × Int32 × Int32 × Int32 × Int32 × Int32) => f7_rings_b44_body F 35 (nI s) s18 (fun v2 v3 v4 v5 v6 v7 => sf (v2, v3, v4, v5, v6, v7)) c x.1 x.2.1 x.2.2.1 x.2.2.2.1 x.2.2.2.2.1 x.2.2.2.2.2) G (nI P, nI r, bitsP V 5, nI man, nI q, nI step) = s18 (nI P) (nI r) (bitsP (fol g k V q) 5) (nI (man + 1)) := by
  have bP : P ≤ 5 := by rw [hP]; exact hTS.2.2.2.2.1.1.1.2
  intro k
  induction k with
  | zero =>
    intro V q step G hq hV hc hst hG
    have hvq : V q = true := by
      rcases Bool.eq_false_or_eq_true (V q) with h | h
      · exact h
      · have := cnt_lt hq (V := V) (by simp [h]); omega
    have hb := shr_bits V (n := 5) (k := q) (by omega) (by omega)
    rw [show decide (q < 5) = true from decide_eq_true (by omega), Bool.true_and, if_pos hvq] at hb
    rw [g_fix_p (by omega)]
    show f7_rings_b44_body F 35 (nI s) s18 _ c (nI P) (nI r) (bitsP V 5) (nI man) (nI q) (nI step) = _
    have n10 : ¬ nI 1 = nI 0 := by decide
    have hsl : step ≤ 5 := Nat.le_trans hst (Nat.le_trans (cntP_le _ _) bP)
    by_cases h7 : step < P
    · simp (disch := omega) only [g_let, g_bs, g_l0, g_l1, g_l2, g_l3, g_l4, g_l5, g_l6, g_l7, g_l8, g_l9, g_l10, g_l11, g_l12, g_l15, g_l20, g_l24, g_l25, g_l30, g_l40, g_l99, g_l100, g_ckN, g_clN, g_ltN, g_leN, g_eqN, pk_mul, nI_add, if_true, if_false, Nat.reduceLT, Nat.reduceLeDiff, Nat.reduceEqDiff, Nat.lt_irrefl, f7_rings_b44_body, f7_rings_b88, h7, hb, n10]
      rfl
    · simp (disch := omega) only [g_let, g_bs, g_l0, g_l1, g_l2, g_l3, g_l4, g_l5, g_l6, g_l7, g_l8, g_l9, g_l10, g_l11, g_l12, g_l15, g_l20, g_l24, g_l25, g_l30, g_l40, g_l99, g_l100, g_ckN, g_clN, g_ltN, g_leN, g_eqN, pk_mul, nI_add, if_true, if_false, Nat.reduceLT, Nat.reduceLeDiff, Nat.reduceEqDiff, Nat.lt_irrefl, f7_rings_b44_body, f7_rings_b88, h7]
      rfl
  | succ k ih =>
    intro V q step G hq hV hc hst hG
    have hb := shr_bits V (n := 5) (k := q) (by omega) (by omega)
    rw [show decide (q < 5) = true from decide_eq_true (by omega), Bool.true_and] at hb
    have hsl : step ≤ 5 := Nat.le_trans hst (Nat.le_trans (cntP_le _ _) bP)
    have n10 : ¬ nI 1 = nI 0 := by decide
    rw [g_fix_p (by omega)]
    show f7_rings_b44_body F 35 (nI s) s18 _ c (nI P) (nI r) (bitsP V 5) (nI man) (nI q) (nI step) = _
    unfold fol
    by_cases hvq : V q = true
    · rw [if_pos hvq] at hb ⊢
      by_cases h7 : step < P
      · simp (disch := omega) only [g_let, g_bs, g_l0, g_l1, g_l2, g_l3, g_l4, g_l5, g_l6, g_l7, g_l8, g_l9, g_l10, g_l11, g_l12, g_l15, g_l20, g_l24, g_l25, g_l30, g_l40, g_l99, g_l100, g_ckN, g_clN, g_ltN, g_leN, g_eqN, pk_mul, nI_add, if_true, if_false, Nat.reduceLT, Nat.reduceLeDiff, Nat.reduceEqDiff, Nat.lt_irrefl, f7_rings_b44_body, f7_rings_b88, h7, hb, n10]
      · simp (disch := omega) only [g_let, g_bs, g_l0, g_l1, g_l2, g_l3, g_l4, g_l5, g_l6, g_l7, g_l8, g_l9, g_l10, g_l11, g_l12, g_l15, g_l20, g_l24, g_l25, g_l30, g_l40, g_l99, g_l100, g_ckN, g_clN, g_ltN, g_leN, g_eqN, pk_mul, nI_add, if_true, if_false, Nat.reduceLT, Nat.reduceLeDiff, Nat.reduceEqDiff, Nat.lt_irrefl, f7_rings_b44_body, f7_rings_b88, h7]
    · rw [if_neg hvq] at hb ⊢
      have hlt := cnt_lt hq hvq
      have h7 : step < P := by omega
      have hcs := cnt_set V hq (by simpa using hvq)
      have hset := bits_set V (n := 5) (i := q) (by omega) (by omega)
      have hq37 : c.1 (35 + 2) (5 * q + s) = nI (g q) := hh q hq
      have e := ih (fun j => V j || decide (j = q)) (g q) (step + 1) (G - 1) (hg q hq) (fun j hj => by
        simp only [Bool.or_eq_true, decide_eq_true_eq] at hj
        rcases hj with hj | hj
        · exact hV j hj
        · omega) (by omega) (by omega) (by omega)
      have st : ∀ sf, f7_rings_b44_body F 35 (nI s) s18 sf c (nI P) (nI r) (bitsP V 5) (nI man) (nI q) (nI step) = sf (nI P) (nI r) (bitsP (fun j => V j || decide (j = q)) 5) (nI man) (nI (g q)) (nI (step + 1)) := by
        intro sf
        simp (disch := omega) only [g_let, g_bs, g_l0, g_l1, g_l2, g_l3, g_l4, g_l5, g_l6, g_l7, g_l8, g_l9, g_l10, g_l11, g_l12, g_l15, g_l20, g_l24, g_l25, g_l30, g_l40, g_l99, g_l100, g_ckN, g_clN, g_ltN, g_leN, g_eqN, pk_mul, nI_add, if_true, if_false, Nat.reduceLT, Nat.reduceLeDiff, Nat.reduceEqDiff, Nat.lt_irrefl, f7_rings_b44_body, h7, hb, hset, Nat.mul_comm q 5, hq37]
      rw [st]
      exact e
theorem r_walk {hW : WT m} {s : Nat} (hs : s < 5) {P : Nat} (hP : P = vl m 2 0) {g : Nat → Nat} (hg : ∀ q, q < P → g q < P) (hh : ∀ q, q < P → m.1 29 (5 * q + s) = nI (g q)) (s24 : Int32 → Int32 → Int32 → Int32 → g_M → Option (Int32 × g_M)) (man : Nat) :
    ∀ k V q n G, q < P → (∀ j, V j = true → j < P) → P ≤ k + cntP V P → k < G → g_fix (fun sf (x : Int32 × Int32 × Int32 × Int32 × Int32 × g_M) => f11_swaps_b39_body F s24 (fun v1 v2 v3 v4 v5 mem => sf (v1, v2, v3, v4, v5, mem)) x.1 x.2.1 x.2.2.1 x.2.2.2.1 x.2.2.2.2.1 x.2.2.2.2.2) G (nI n, nI s, bitsP V 5, nI man, nI q, m) = s24 (nI (n + cntP (fol g k V q) P - cntP V P - (if V q = true then 0 else 1))) (nI s) (bitsP (fol g k V q) 5) (nI (man + 1)) m := by
  have bP : P ≤ 5 := by rw [hP]; exact hW.1.1.2
  intro k
  induction k with
  | zero =>
    intro V q n G hq hV hc hG
    have hvq : V q = true := by
      rcases Bool.eq_false_or_eq_true (V q) with h | h
      · exact h
      · have := cnt_lt hq (V := V) (by simp [h]); omega
    have hb := shr_bits V (n := 5) (k := q) (by omega) (by omega)
    rw [show decide (q < 5) = true from decide_eq_true (by omega), Bool.true_and, if_pos hvq] at hb
    rw [g_fix_p (by omega), if_pos hvq]
    have n10 : ¬ nI 1 = nI 0 := by decide
    have e : n + cntP (fol g 0 V q) P - cntP V P - 0 = n := by show n + cntP V P - cntP V P - 0 = n; omega
    rw [e]
    show f11_swaps_b39_body F s24 _ (nI n) (nI s) (bitsP V 5) (nI man) (nI q) m = _
    simp (disch := omega) only [g_let, g_bs, g_l0, g_l1, g_l2, g_l3, g_l4, g_l5, g_l6, g_l7, g_l8, g_l9, g_l10, g_l11, g_l12, g_l15, g_l20, g_l24, g_l25, g_l30, g_l40, g_l99, g_l100, g_ckN, g_clN, g_ltN, g_leN, g_eqN, pk_mul, nI_add, if_true, if_false, Nat.reduceLT, Nat.reduceLeDiff, Nat.reduceEqDiff, Nat.lt_irrefl, f11_swaps_b39_body, hb, n10]
    rfl
  | succ k ih =>
    intro V q n G hq hV hc hG
    have hb := shr_bits V (n := 5) (k := q) (by omega) (by omega)
    rw [show decide (q < 5) = true from decide_eq_true (by omega), Bool.true_and] at hb
    have n10 : ¬ nI 1 = nI 0 := by decide
    rw [g_fix_p (by omega)]
    show f11_swaps_b39_body F s24 _ (nI n) (nI s) (bitsP V 5) (nI man) (nI q) m = _
    unfold fol
    by_cases hvq : V q = true
    · rw [if_pos hvq] at hb
      rw [if_pos hvq, if_pos hvq, show n + cntP V P - cntP V P - 0 = n by omega]
      simp (disch := omega) only [g_let, g_bs, g_l0, g_l1, g_l2, g_l3, g_l4, g_l5, g_l6, g_l7, g_l8, g_l9, g_l10, g_l11, g_l12, g_l15, g_l20, g_l24, g_l25, g_l30, g_l40, g_l99, g_l100, g_ckN, g_clN, g_ltN, g_leN, g_eqN, pk_mul, nI_add, if_true, if_false, Nat.reduceLT, Nat.reduceLeDiff, Nat.reduceEqDiff, Nat.lt_irrefl, f11_swaps_b39_body, hb, n10]
    · rw [if_neg hvq] at hb
      rw [if_neg hvq, if_neg hvq]
      have hcs := cnt_set V hq (by simpa using hvq)
      have hset := bits_set V (n := 5) (i := q) (by omega) (by omega)
      have hq29 := hh q hq
      have hgq := hg q hq
      have hV' : ∀ j, (fun j => V j || decide (j = q)) j = true → j < P := fun j hj => by
        simp only [Bool.or_eq_true, decide_eq_true_eq] at hj
        rcases hj with hj | hj
        · exact hV j hj
        · omega
      generalize hVV : (fun j => V j || decide (j = q)) = V' at *
      have hb2 := shr_bits V' (n := 5) (k := g q) (by omega) (by omega)
      rw [show decide (g q < 5) = true from decide_eq_true (by omega), Bool.true_and] at hb2
      have mono := cnt_mono (fol_p hg k V' (g q) hgq hV').1 P
      by_cases hv2 : V' (g q) = true
      · rw [if_pos hv2] at hb2
        have e := ih V' (g q) n (G - 1) hgq hV' (by omega) (by omega)
        rw [if_pos hv2] at e
        have en : n + cntP (fol g k V' (g q)) P - cntP V' P - 0 = n + cntP (fol g k V' (g q)) P - cntP V P - 1 := by omega
        rw [en] at e
        have st : ∀ sf, f11_swaps_b39_body F s24 sf (nI n) (nI s) (bitsP V 5) (nI man) (nI q) m = sf (nI n) (nI s) (bitsP V' 5) (nI man) (nI (g q)) m := by
          intro sf
          simp (disch := omega) only [g_let, g_bs, g_l0, g_l1, g_l2, g_l3, g_l4, g_l5, g_l6, g_l7, g_l8, g_l9, g_l10, g_l11, g_l12, g_l15, g_l20, g_l24, g_l25, g_l30, g_l40, g_l99, g_l100, g_ckN, g_clN, g_ltN, g_leN, g_eqN, pk_mul, nI_add, if_true, if_false, Nat.reduceLT, Nat.reduceLeDiff, Nat.reduceEqDiff, Nat.lt_irrefl, f11_swaps_b39_body, f11_swaps_b83, hb, hset, hq29, hb2, n10, Nat.add_zero]
        rw [st]
        exact e
      · rw [if_neg hv2] at hb2
        have mono2 : cntP V' P + 1 ≤ cntP (fol g k V' (g q)) P := by
          cases k with
          | zero =>
            have := cnt_lt hgq hv2
            omega
          | succ k =>
            have hx := cnt_set V' hgq (by simpa using hv2)
            have hy := cnt_mono (P := fun j => V' j || decide (j = g q)) (Q := fol g (k + 1) V' (g q)) (fun j hj => by
              simp only [Bool.or_eq_true, decide_eq_true_eq] at hj
              rcases hj with hj | hj
              · exact (fol_p hg (k + 1) V' (g q) hgq hV').1 j hj
              · rw [hj]; exact (fol_p hg (k + 1) V' (g q) hgq hV').2.2 (by omega)) P
            omega
        have e := ih V' (g q) (n + 1) (G - 1) hgq hV' (by omega) (by omega)
        rw [if_neg hv2] at e
        have en : n + 1 + cntP (fol g k V' (g q)) P - cntP V' P - 1 = n + cntP (fol g k V' (g q)) P - cntP V P - 1 := by omega
        rw [en] at e
        have st : ∀ sf, f11_swaps_b39_body F s24 sf (nI n) (nI s) (bitsP V 5) (nI man) (nI q) m = sf (nI (n + 1)) (nI s) (bitsP V' 5) (nI man) (nI (g q)) m := by
          intro sf
          simp (disch := omega) only [g_let, g_bs, g_l0, g_l1, g_l2, g_l3, g_l4, g_l5, g_l6, g_l7, g_l8, g_l9, g_l10, g_l11, g_l12, g_l15, g_l20, g_l24, g_l25, g_l30, g_l40, g_l99, g_l100, g_ckN, g_clN, g_ltN, g_leN, g_eqN, pk_mul, nI_add, if_true, if_false, Nat.reduceLT, Nat.reduceLeDiff, Nat.reduceEqDiff, Nat.lt_irrefl, f11_swaps_b39_body, f11_swaps_b83, hb, hset, hq29, hb2]
        rw [st]
        exact e
end A
