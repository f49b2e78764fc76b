/-! the order: all rows, one after the other -/
section L
variable {F : Nat} {c m c' m' c1 m1 c2 m2 : g_M} {T S : Nat}
/-- the class weighs a row -/
def wgI (r : Nat) (j : Nat) (q : g_M) : g_M := g_sI q 58 j (q.1 59 (dg r j))
theorem wr_wg (r : Nat) : ∀ n, (itI (wgI r) n c).2.2 = c.2.2 ∧ (∀ o, o ≠ 58 → (itI (wgI r) n c).1 o = c.1 o) ∧ ∀ j, j < n → (itI (wgI r) n c).1 58 j = c.1 59 (dg r j) := by
  intro n
  induction n with
  | zero => exact ⟨rfl, fun _ _ => rfl, fun s h => absurd h (Nat.not_lt_zero s)⟩
  | succ n ih =>
    obtain ⟨h1, h2, h3⟩ := ih
    refine ⟨h1, fun o ho => ?_, fun j hj => ?_⟩
    · show (g_sI (itI (wgI r) n c) 58 _ _).1 o = _
      rw [sI_o ho]; exact h2 o ho
    · show (g_sI (itI (wgI r) n c) 58 n ((itI (wgI r) n c).1 59 (dg r n))).1 58 j = _
      rw [sI_at]
      by_cases e : j = n
      · rw [if_pos e, h2 59 (by omega), e]
      · rw [if_neg e]; exact h3 j (by omega)
theorem q_wb16 (hF : 5000 < F) {K r : Nat} (hK : K ≤ 4) (hr : r < 256) (h57 : c.1 57 0 = nI K) (x : Int32) : ∃ c', f4_weigh_b16 F (nI r) x c = some c' ∧ c'.2.2 = c.2.2 ∧ (∀ o, o ≠ 57 → o ≠ 58 → c'.1 o = c.1 o) ∧ c'.1 57 0 = nI K ∧ c'.1 57 3 = nI 1 ∧ c'.1 57 1 = x ∧ ∀ j, j < K → c'.1 58 j = c.1 59 (dg r j) := by
  obtain ⟨d, hd⟩ : ∃ x1, x1 = g_sI (g_sI c 57 3 (1 : Int32)) 57 1 x := ⟨_, rfl⟩
  have d0 : d.1 57 0 = nI K := by rw [hd, sI_ne (by omega), sI_ne (by omega)]; exact h57
  have d3 : d.1 57 3 = nI 1 := by rw [hd, sI_ne (by omega), sI_eq]; rfl
  have d1 : d.1 57 1 = x := by rw [hd, sI_eq]
  have dn : ∀ o, o ≠ 57 → d.1 o = c.1 o := fun o ho => by rw [hd, sI_o ho, sI_o ho]
  obtain ⟨w1, w2, w3⟩ := wr_wg (c := d) r K
  refine ⟨itI (wgI r) K d, ?_, by rw [w1, hd]; rfl, fun o a b => by rw [w2 o b, dn o a], by rw [w2 57 (by omega)]; exact d0, by rw [w2 57 (by omega)]; exact d3, by rw [w2 57 (by omega)]; exact d1, fun j hj => by rw [w3 j hj, dn 59 (by omega)]⟩
  unfold f4_weigh_b16 f4_weigh_b28
  rw [g_let_e, g_let_e, ← hd]
  refine g_for (fun i => (nI i, itI (wgI r) i d)) K (fun i hi sf => ?_) (by omega) (fun sf => ?_)
  · have e : (itI (wgI r) i d).1 57 0 = nI K := by rw [(wr_wg (c := d) r i).2.1 57 (by omega)]; exact d0
    have hl := dg_lt r i
    unfold f4_weigh_b28_body
    rw [e, if_pos ((g_ltN (by omega) (by omega)).mpr hi), q_digit hr (by omega), g_bs, g_ckN (by omega) (by omega), g_ckN (by omega) (by omega), g_clN (by omega), g_clN (by omega), g_let_e, g_let_e, nI_s]
    rfl
  · unfold f4_weigh_b28_body
    rw [w2 57 (by omega), d0, if_neg (fun z => Nat.lt_irrefl _ ((g_ltN (by omega) (by omega)).mp z))]
def wgM (j : Nat) (q : g_M) : g_M := g_sI q 38 j (q.1 37 j)
theorem wr_wm : ∀ n, (itI wgM n m).2.2 = m.2.2 ∧ (∀ o, o ≠ 38 → (itI wgM n m).1 o = m.1 o) ∧ ∀ j, j < n → (itI wgM n m).1 38 j = m.1 37 j := by
  intro n
  induction n with
  | zero => exact ⟨rfl, fun _ _ => rfl, fun s h => absurd h (Nat.not_lt_zero s)⟩
  | succ n ih =>
    obtain ⟨h1, h2, h3⟩ := ih
    refine ⟨h1, fun o ho => ?_, fun j hj => ?_⟩
    · show (g_sI (itI wgM n m) 38 _ _).1 o = _
      rw [sI_o ho]; exact h2 o ho
    · show (g_sI (itI wgM n m) 38 n ((itI wgM n m).1 37 n)).1 38 j = _
      rw [sI_at]
      by_cases e : j = n
      · rw [if_pos e, h2 37 (by omega), e]
      · rw [if_neg e]; exact h3 j (by omega)
theorem r_b141 (hF : 5000 < F) {K : Nat} (hK : K ≤ 4) (h62 : m.1 0 62 = nI K) (x : Int32) : ∃ m', (∀ rc a1 a2, f11_rows_b141 F rc a1 a2 x m = some m') ∧ m'.2.2 = m.2.2 ∧ (∀ o k, o ≠ 38 → ¬ (o = 0 ∧ (k = 63 ∨ k = 64)) → m'.1 o k = m.1 o k) ∧ m'.1 0 64 = nI 1 ∧ m'.1 0 63 = x ∧ ∀ j, j < K → m'.1 38 j = m.1 37 j := by
  obtain ⟨d, hd⟩ : ∃ x1, x1 = g_sI (g_sI m 0 64 (1 : Int32)) 0 63 x := ⟨_, rfl⟩
  have d62 : d.1 0 62 = nI K := by rw [hd, sI_ne (by omega), sI_ne (by omega)]; exact h62
  have dn : ∀ o k, ¬ (o = 0 ∧ (k = 63 ∨ k = 64)) → d.1 o k = m.1 o k := fun o k z => by rw [hd, sI_ne (by omega), sI_ne (by omega)]
  obtain ⟨w1, w2, w3⟩ := wr_wm (m := d) K
  refine ⟨itI wgM K d, fun rc a1 a2 => ?_, by rw [w1, hd]; rfl, fun o k a b => by rw [w2 o a]; exact dn o k b, by rw [w2 0 (by omega), hd, sI_ne (by omega), sI_eq]; rfl, by rw [w2 0 (by omega), hd, sI_eq], fun j hj => by rw [w3 j hj]; exact dn 37 j (by omega)⟩
  unfold f11_rows_b141 f11_rows_b154
  rw [g_let_e, g_let_e, ← hd]
  refine g_for (fun i => (nI i, itI wgM i d)) K (fun i hi sf => ?_) (by omega) (fun sf => ?_)
  · have e : (itI wgM i d).1 0 62 = nI K := by rw [(wr_wm (m := d) i).2.1 0 (by omega)]; exact d62
    unfold f11_rows_b154_body
    rw [e, if_pos ((g_ltN (by omega) (by omega)).mpr hi), g_ckN (by omega) (by omega), g_ckN (by omega) (by omega), g_clN (by omega), g_let_e, g_let_e, nI_s]
    rfl
  · unfold f11_rows_b154_body
    rw [w2 0 (by omega), d62, if_neg (fun z => Nat.lt_irrefl _ ((g_ltN (by omega) (by omega)).mp z))]
/-- one row, in the class -/
def stC (F K r : Nat) (c : g_M) : Option g_M := (f7_copy F 47 35 c).bind (fun r5 => (f4_layOut F (nI r) 47 r5).bind (fun r6 => (f0_start F 47 (1 : Int32) r6).bind (fun r7 => (f0_pass F (20 : Int32) r7).bind (fun r8 => (f7_allPence F 47 r8).bind (fun r9 => (f4_weigh F (nI r) r9 r8).bind (fun r10 => if r10.1 57 0 = nI K ∧ r10.1 57 3 = nI 1 then some r10 else none))))))
theorem or_leaf (hF : 5000 < F) {m0 : g_M} {K r : Nat} {fo : Nat → Nat} (hK : K ≤ 4) (hr : r < 256) (hd : ∀ j, j < K → dg r j < K) (hJ : OJ m0 K fo c m) (h37 : ∀ j, j < K → m.1 37 j = nI (fo (dg r j))) : ∃ c' m', stC F K r c = some c' ∧ (∀ rc a2, f11_rows F rc (nI K) a2 m = some m') ∧ OJ m0 K fo c' m' ∧ ∀ j, m'.1 37 j = m.1 37 j := by
  obtain ⟨c1, c2, c3, c4, m1, m4, k1, k2, k3, k4, k5, k6, k7, k8, k9, k10, k11, k12, k13, k14⟩ := or_play (F := F) hF hK hr hd hJ h37
  obtain ⟨hV, hrel0, c57, m62, hfo, hwt⟩ := id hJ
  have rM : ∀ rc a2, f11_rows F rc (nI K) a2 m = f11_rows_b69 F rc (nI K) a2 (0 : Int32) m1 := fun rc a2 => by
    unfold f11_rows
    rw [m62, if_neg (fun z => Nat.lt_irrefl _ ((g_ltN (by omega) (by omega)).mp z)), k9, g_bs]
  have c57' : c4.1 57 0 = nI K := by rw [k13 57 (by omega)]; exact c57
  have m62' : m4.1 0 62 = nI K := by rw [k14 0 62 (by omega)]; exact m62
  obtain ⟨c5, w1, w2, w3, w4, w5, w6, w7⟩ := q_wb16 (F := F) hF hK hr c57' (nI (psum m4 1))
  obtain ⟨m5, v1, v2, v3, v4, v5, v6⟩ := r_b141 (F := F) hF hK m62' (nI (psum m4 1) - nI (psum m4 0))
  obtain ⟨_, _, _, _, _, _, _, _, _, _, _, hAB4, _⟩ := id k11
  have stE : ∀ x, f4_weigh F (nI r) (nI (psum m4 1)) c4 = some x → stC F K r c = if x.1 57 0 = nI K ∧ x.1 57 3 = nI 1 then some x else none := fun x e => by
    unfold stC
    rw [k1, g_bs, k2, g_bs, k3, g_bs, k4, g_bs, k5, g_bs, e, g_bs]
  have upd : OJ m0 K fo c5 m5 := by
    refine ⟨INV_fr k11 (fun o k _ => by rw [w2]) (fun o k z => by rw [w3 o (by unfold relC at z; omega) (by unfold relC at z; omega)]) (fun o k z => v3 o k (by unfold relM at z; omega) (by unfold relM at z; omega)) (AB_fr hAB4 (w3 54 (by omega) (by omega)) (by rw [w3 53 (by omega) (by omega)]) (v3 0 56 (by omega) (by omega))), fun o k z => by rw [v3 o k (by unfold relM at z; omega) (by unfold relM at z; omega)]; exact k12 o k z, w4, by rw [v3 0 62 (by omega) (by omega)]; exact m62', fun j hj => ⟨(hfo j hj).1, by rw [w3 59 (by omega) (by omega), k13 59 (by omega)]; exact (hfo j hj).2.1, by rw [v3 36 j (by omega) (by omega), k14 36 j (by omega)]; exact (hfo j hj).2.2⟩, Or.inr ⟨w5, v4, psum m4 1, k6, w6, by rw [v5, k7], fun j hj => ?_⟩⟩
    rw [w7 j hj, v6 j hj, k13 59 (by omega), k14 37 j (by omega), h37 j hj]
    exact (hfo _ (hd j hj)).2.1
  have e37 : ∀ j, m5.1 37 j = m.1 37 j := fun j => by rw [v3 37 j (by omega) (by omega), k14 37 j (by omega)]
  rcases hwt with ⟨z1, z2⟩ | ⟨z1, z2, Q, q1, q2, q3, q4⟩
  · refine ⟨c5, m5, ?_, fun rc a2 => ?_, upd, e37⟩
    · rw [stE c5 (by unfold f4_weigh; rw [k13 57 (by omega), z1, if_pos nI00]; exact w1), if_pos ⟨w4, w5⟩]
    · rw [rM, k10, k14 0 64 (by omega), z2, if_pos nI00]; exact v1 rc (nI K) a2
  · have hcmp : (nI (psum m4 1) - nI (psum m4 0) ≤ m4.1 0 63) ↔ psum m4 1 ≤ Q := by
      rw [k14 0 63 (by omega), q3, ← k7, Int32.le_iff_toInt_le, pk_sub_toInt (by omega) (by omega), pk_sub_toInt (by omega) (by omega)]
      omega
    by_cases y : psum m4 1 ≤ Q
    · refine ⟨c4, m4, ?_, fun rc a2 => ?_, ⟨k11, k12, c57', m62', fun j hj => ⟨(hfo j hj).1, by rw [k13 59 (by omega)]; exact (hfo j hj).2.1, by rw [k14 36 j (by omega)]; exact (hfo j hj).2.2⟩, Or.inr ⟨by rw [k13 57 (by omega)]; exact z1, by rw [k14 0 64 (by omega)]; exact z2, Q, q1, by rw [k13 57 (by omega)]; exact q2, by rw [k14 0 63 (by omega)]; exact q3, fun j hj => by rw [k13 58 (by omega), k14 38 j (by omega)]; exact q4 j hj⟩⟩, fun j => k14 37 j (by omega)⟩
      · rw [stE c4 (by unfold f4_weigh; rw [k13 57 (by omega), z1, if_neg nI10, q2, if_pos ((g_leN (by omega) (by omega)).mpr y)]), if_pos ⟨c57', by rw [k13 57 (by omega)]; exact z1⟩]
      · rw [rM, k10, k14 0 64 (by omega), z2, if_neg nI10, if_pos (hcmp.mpr y)]
    · refine ⟨c5, m5, ?_, fun rc a2 => ?_, upd, e37⟩
      · rw [stE c5 (by unfold f4_weigh; rw [k13 57 (by omega), z1, if_neg nI10, q2, if_neg (fun q => y ((g_leN (by omega) (by omega)).mp q))]; exact w1), if_pos ⟨w4, w5⟩]
      · rw [rM, k10, k14 0 64 (by omega), z2, if_neg nI10, if_neg (fun q => y (hcmp.mp q))]; exact v1 rc (nI K) a2
/-- many rows, in the class -/
def rnC (F K : Nat) : List Nat → g_M → Option g_M
  | [], c => some c
  | r :: l, c => (stC F K r c).bind (rnC F K l)
theorem rnC_app {K : Nat} (l1 l2 : List Nat) : ∀ c, rnC F K (l1 ++ l2) c = (rnC F K l1 c).bind (rnC F K l2) := by
  induction l1 with
  | nil => intro c; rfl
  | cons r l ih =>
    intro c
    show (stC F K r c).bind (rnC F K (l ++ l2)) = ((stC F K r c).bind (rnC F K l)).bind (rnC F K l2)
    cases stC F K r c with
    | none => rfl
    | some x => exact ih x
def wt4 (k : Nat) : Nat := if k = 0 then 64 else if k = 1 then 16 else if k = 2 then 4 else 1
def lvs (K : Nat) : Nat → Nat → Nat → Nat → List Nat
  | 0, _, _, acc => [acc]
  | d + 1, k, used, acc => (List.range K).flatMap (fun i => if used.testBit i = true then [] else lvs K d (k + 1) (used ||| 2 ^ i) (acc + i * wt4 k))
theorem or_nI (a b : Nat) : nI a ||| nI b = nI (a ||| b) := by
  apply gb_ext
  intro i hi
  rw [gb_or, gb_nI hi, gb_nI hi, gb_nI hi, Nat.testBit_or]
theorem dg_next {k acc i : Nat} (hk : k < 4) (hi : i < 4) (h : acc % (4 * wt4 k) = 0) : (∀ j, j < k → dg (acc + i * wt4 k) j = dg acc j) ∧ dg (acc + i * wt4 k) k = i ∧ (acc + i * wt4 k) % wt4 k = 0 := by
  rcases (show k = 0 ∨ k = 1 ∨ k = 2 ∨ k = 3 by omega) with rfl | rfl | rfl | rfl
  · have w : wt4 0 = 64 := rfl
    rw [w] at h ⊢
    refine ⟨fun j hj => absurd hj (Nat.not_lt_zero j), ?_, by omega⟩
    show (acc + i * 64) / 64 % 4 = i
    omega
  · have w : wt4 1 = 16 := rfl
    rw [w] at h ⊢
    refine ⟨fun j hj => ?_, ?_, by omega⟩
    · have : j = 0 := by omega
      subst this
      show (acc + i * 16) / 64 % 4 = acc / 64 % 4
      omega
    · show (acc + i * 16) / 16 % 4 = i
      omega
  · have w : wt4 2 = 4 := rfl
    rw [w] at h ⊢
    refine ⟨fun j hj => ?_, ?_, by omega⟩
    · rcases (show j = 0 ∨ j = 1 by omega) with rfl | rfl
      · show (acc + i * 4) / 64 % 4 = acc / 64 % 4
        omega
      · show (acc + i * 4) / 16 % 4 = acc / 16 % 4
        omega
    · show (acc + i * 4) / 4 % 4 = i
      omega
  · have w : wt4 3 = 1 := rfl
    rw [w] at h ⊢
    refine ⟨fun j hj => ?_, ?_, by omega⟩
    · rcases (show j = 0 ∨ j = 1 ∨ j = 2 by omega) with rfl | rfl | rfl
      · show (acc + i * 1) / 64 % 4 = acc / 64 % 4
        omega
      · show (acc + i * 1) / 16 % 4 = acc / 16 % 4
        omega
      · show (acc + i * 1) / 4 % 4 = acc / 4 % 4
        omega
    · show (acc + i * 1) % 4 = i
      omega
theorem or_rows (hF : 5000 < F) {m0 : g_M} {K : Nat} {fo : Nat → Nat} (hK : K ≤ 4) : ∀ d k used acc, k + d = K → (acc % (4 * wt4 k) = 0 ∨ k = 4) → acc + 4 * wt4 k ≤ 256 + (if k = 4 then 3 else 0) → used < 16 → (∀ j, j < k → dg acc j < K) → ∀ G c m, d < G → OJ m0 K fo c m → (∀ j, j < k → m.1 37 j = nI (fo (dg acc j))) → ∃ c' m', rnC F K (lvs K d k used acc) c = some c' ∧ fgR F G (nI k) (nI used) m = some m' ∧ OJ m0 K fo c' m' ∧ ∀ j, j < k → m'.1 37 j = m.1 37 j := by
  intro d
  induction d with
  | zero =>
    intro k used acc hkd ha hb hu hdg G c m hG hJ h37
    have : k = K := by omega
    subst this
    have hr : acc < 256 := by
      have : 1 ≤ wt4 k := by unfold wt4; split <;> first | omega | (split <;> first | omega | (split <;> omega))
      split at hb <;> omega
    obtain ⟨c', m', e1, e2, e3, e4⟩ := or_leaf (F := F) hF hK hr hdg hJ h37
    obtain ⟨g, rfl⟩ : ∃ g, G = g + 1 := ⟨G - 1, by omega⟩
    refine ⟨c', m', ?_, e2 _ _, e3, fun j _ => e4 j⟩
    show (stC F k acc c).bind (rnC F k []) = _
    rw [e1]; rfl
  | succ d ih =>
    intro k used acc hkd ha hb hu hdg G c m hG hJ h37
    have hk4 : k < 4 := by omega
    have ha' : acc % (4 * wt4 k) = 0 := ha.resolve_right (by omega)
    rw [if_neg (by omega)] at hb
    obtain ⟨g, rfl⟩ : ∃ g, G = g + 1 := ⟨G - 1, by omega⟩
    have h62 := hJ.2.2.2.1
    have key := g_for1 (b := fun sf (x : Int32 × g_M) => f11_rows_b10_body F (fgR F g) (nI k) (nI used) (fun v3 mem => sf (v3, mem)) x.1 x.2) (fun i x => ∃ mm cc, x = (nI i, mm) ∧ rnC F K ((List.range i).flatMap (fun i => if used.testBit i = true then [] else lvs K d (k + 1) (used ||| 2 ^ i) (acc + i * wt4 k))) c = some cc ∧ OJ m0 K fo cc mm ∧ ∀ j, j < k → mm.1 37 j = m.1 37 j) K (fun i x hi hx => by
        obtain ⟨mm, cc, rfl, x1, x2, x3⟩ := hx
        have h62' := x2.2.2.2.1
        have hbit : ((nI used >>> (nI i &&& 31)) &&& (1 : Int32)) = (if used.testBit i = true then nI 1 else nI 0) := by
          have := shr_bit (nI used) (k := i) (by omega)
          rw [gb_nI (by omega)] at this
          exact this
        have hrange : (List.range (i + 1)).flatMap (fun i => if used.testBit i = true then [] else lvs K d (k + 1) (used ||| 2 ^ i) (acc + i * wt4 k)) = (List.range i).flatMap (fun i => if used.testBit i = true then [] else lvs K d (k + 1) (used ||| 2 ^ i) (acc + i * wt4 k)) ++ (if used.testBit i = true then [] else lvs K d (k + 1) (used ||| 2 ^ i) (acc + i * wt4 k)) := by
          rw [List.range_succ, List.flatMap_append]
          simp
        by_cases z : used.testBit i = true
        · refine ⟨_, ⟨mm, cc, rfl, ?_, x2, x3⟩, fun sf => ?_⟩
          · rw [hrange, if_pos z, List.append_nil]; exact x1
          · show f11_rows_b10_body F (fgR F g) (nI k) (nI used) _ (nI i) mm = _
            unfold f11_rows_b10_body f11_rows_b54
            rw [h62', if_pos ((g_ltN (by omega) (by omega)).mpr hi), hbit, if_pos z, if_pos (show nI 1 = (1 : Int32) from rfl), g_let_e, nI_s]
        · obtain ⟨n1, n2, n3⟩ := dg_next (k := k) (acc := acc) (i := i) hk4 (by omega) ha'
          have wk : wt4 k = 4 * wt4 (k + 1) ∨ k + 1 = 4 := by
            rcases (show k = 0 ∨ k = 1 ∨ k = 2 ∨ k = 3 by omega) with rfl | rfl | rfl | rfl
            · exact Or.inl rfl
            · exact Or.inl rfl
            · exact Or.inl rfl
            · exact Or.inr rfl
          obtain ⟨f1, f2, f3⟩ := x2.2.2.2.2.1 i hi
          have hJ2 : OJ m0 K fo cc (g_sI mm 37 k (mm.1 36 i)) := by
            obtain ⟨y1, y2, y3, y4, y5, y6⟩ := id x2
            obtain ⟨_, _, _, _, _, _, _, _, _, _, _, hAB4, _⟩ := id y1
            refine ⟨INV_fr y1 (fun _ _ _ => rfl) (fun _ _ _ => rfl) (fun o k z => by rw [sI_o (by unfold relM at z; omega)]) (AB_fr hAB4 rfl rfl (by rw [sI_o (by omega)])), fun o k z => by rw [sI_o (by unfold relM at z; omega)]; exact y2 o k z, y3, by rw [sI_o (by omega)]; exact y4, fun j hj => by rw [sI_o (by omega)]; exact y5 j hj, ?_⟩
            rw [sI_o (by omega), sI_o (by omega)]; exact y6
          obtain ⟨c', m', e1, e2, e3, e4⟩ := ih (k + 1) (used ||| 2 ^ i) (acc + i * wt4 k) (by omega) (wk.imp (fun e => by rw [← e]; exact n3) id) (by
              have hm : i * wt4 k + wt4 k ≤ 4 * wt4 k := by
                have := Nat.mul_le_mul_right (wt4 k) (show i + 1 ≤ 4 by omega)
                rw [Nat.succ_mul] at this; exact this
              rcases wk with e | e
              · rw [← e]; split <;> omega
              · rw [if_pos e, e]
                have w4 : wt4 4 = 1 := rfl
                have w3 : wt4 k = 1 := by rw [show k = 3 by omega]; rfl
                have w5 : i * wt4 k = i := by rw [w3, Nat.mul_one]
                rw [w5, w4]
                omega) (by
              have h16 : 2 ^ i < 2 ^ 4 := Nat.pow_lt_pow_right (by omega) (by omega)
              exact Nat.or_lt_two_pow (n := 4) hu h16) (fun j hj => by
              by_cases e : j = k
              · rw [e, n2]; exact hi
              · rw [n1 j (by omega)]; exact hdg j (by omega)) g cc (g_sI mm 37 k (mm.1 36 i)) (by omega) hJ2 (fun j hj => by
              rw [sI_at]
              by_cases e : j = k
              · rw [if_pos e, e, n2]; exact f3
              · rw [if_neg e, n1 j (by omega), x3 j (by omega)]; exact h37 j (by omega))
          refine ⟨_, ⟨m', c', rfl, ?_, e3, fun j hj => ?_⟩, fun sf => ?_⟩
          · rw [hrange, if_neg z, rnC_app, x1]; exact e1
          · rw [e4 j (by omega), sI_ne (by omega)]; exact x3 j hj
          · show f11_rows_b10_body F (fgR F g) (nI k) (nI used) _ (nI i) mm = _
            unfold f11_rows_b10_body f11_rows_b54
            rw [h62', if_pos ((g_ltN (by omega) (by omega)).mpr hi), hbit, if_neg z, if_neg (show ¬ nI 0 = (1 : Int32) by decide), g_ckN (by omega) (by omega), g_ckN (by omega) (by omega), g_clN (by omega), g_clN (by omega), g_let_e, nI_s, sh1 (by omega), or_nI, e2, g_bs, g_let_e, nI_s]) (s := ((0 : Int32), m)) ⟨m, c, rfl, rfl, hJ, fun _ _ => rfl⟩ (F := F) (by omega)
    obtain ⟨_, ⟨mm, cc, rfl, x1, x2, x3⟩, sf, e⟩ := key
    refine ⟨cc, mm, x1, ?_, x2, x3⟩
    show f11_rows F (fgR F g) (nI k) (nI used) m = _
    unfold f11_rows f11_rows_b10
    rw [h62, if_pos ((g_ltN (by omega) (by omega)).mpr (by omega)), e]
    show f11_rows_b10_body F (fgR F g) (nI k) (nI used) _ (nI K) mm = _
    unfold f11_rows_b10_body
    rw [x2.2.2.2.1, if_neg (fun z => Nat.lt_irrefl _ ((g_ltN (by omega) (by omega)).mp z))]
end L
