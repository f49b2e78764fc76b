/-! what can be undone -/
section L
variable {F : Nat} {c m c' m' : g_M} {T S : Nat}
theorem SAME_id {b : Nat} (hm2 : ∀ o k, inD o k b → m'.1 o k = m.1 o k) : SAME m m' b b := by
  refine ⟨fun o h1 h2 => hm2 o b ?_, fun k hk => hm2 _ _ (in28 hk), fun o k ho hk => hm2 _ _ ?_, fun k hk => hm2 _ _ (in31 hk), fun o k h1 h2 hk => hm2 _ _ ?_⟩
  · rcases (show o = 24 ∨ o = 25 ∨ o = 26 ∨ o = 27 by omega) with rfl | rfl | rfl | rfl
    · exact in24
    · exact in25
    · exact in26
    · exact in27
  · rcases ho with rfl | rfl
    · exact in29 hk
    · exact in30 hk
  · rcases (show o = 32 ∨ o = 33 ∨ o = 34 ∨ o = 35 by omega) with rfl | rfl | rfl | rfl
    · exact in32 hk
    · exact in33 hk
    · exact in34 hk
    · exact in35 hk
theorem SAME_tr {m0 : g_M} {a b d : Nat} (h : SAME m0 m b a) (h' : SAME m m' d b) : SAME m0 m' d a := by
  obtain ⟨h1, h2, h3, h4, h5⟩ := h
  obtain ⟨k1, k2, k3, k4, k5⟩ := h'
  exact ⟨fun o x y => (k1 o x y).trans (h1 o x y), fun k x => (k2 k x).trans (h2 k x), fun o k x y => (k3 o k x y).trans (h3 o k x y), fun k x => (k4 k x).trans (h4 k x), fun o k x y z => (k5 o k x y z).trans (h5 o k x y z)⟩
/-- two States that no one can tell apart -/
def EQS (c1 c2 : g_M) (T : Nat) : Prop := c1.2.2 35 0 = c2.2.2 35 0 ∧ (∀ o, T ≤ o → o ≤ T + 13 → c1.1 o = c2.1 o) ∧ (∀ o, o = 35 ∨ o = 36 ∨ o = 37 ∨ o = 38 ∨ o = 40 → ∀ k, c1.1 o k = c2.1 o k) ∧ (∀ k, k < 4 * (c2.1 35 7).toNatClampNeg → c1.1 39 k = c2.1 39 k)
theorem EQS_of {c1 c2 : g_M} (h1 : c1.2.2 35 0 = c2.2.2 35 0) (h2 : ∀ o, T ≤ o → o ≤ T + 13 → c1.1 o = c2.1 o) (h3 : ∀ o, 35 ≤ o → o ≤ 40 → c1.1 o = c2.1 o) : EQS c1 c2 T :=
  ⟨h1, h2, fun o ho k => by rw [h3 o (by omega) (by omega)], fun k _ => by rw [h3 39 (by omega) (by omega)]⟩
theorem TS_eqs {c1 : g_M} {a b : Nat} (h : TS c m T 35 a) (he : EQS c1 c T) (hb : b < 23) (hm : ∀ o, 2 ≤ o → o ≤ 21 → m'.1 o = m.1 o) (hs : SAME m m' b a) : TS c1 m' T 35 b := by
  obtain ⟨hT, ht, hf, hp0, hW, hR, hWS, hRS⟩ := id h
  obtain ⟨q1, q2, q3, q4⟩ := he
  have h2 := hm 2 (by omega) (by omega)
  have hbd := hW.1.1.2
  have hn := hWS.1.2.2.2
  refine ⟨hT, ht, hb, by rw [q1]; exact hp0, WT_fr hW hm, RT_fr hR q2 hm, WS_same hW hWS hs h2, ?_⟩
  obtain ⟨w1, w2, w3, w4, w5⟩ := hRS
  have hv : ∀ k, vl m' 2 k = vl m 2 k := fun k => by unfold vl; rw [h2]
  have h27 : vl m' 27 b = vl m 27 a := by unfold vl; rw [hs.1 27 (by omega) (by omega)]
  have c7 : (c.1 35 7).toNatClampNeg = vl m 27 a := by unfold vl; rw [w1.2.2.2]
  obtain ⟨s1, s2, s3, s4, s5⟩ := hs
  refine ⟨⟨?_, ?_, ?_, ?_⟩, fun p hp => ?_, fun i hi => ?_, fun n hn' => ?_, fun w hw => ?_⟩
  · rw [q3 35 (by omega), s1 24 (by omega) (by omega)]; exact w1.1
  · rw [q3 35 (by omega), s1 25 (by omega) (by omega)]; exact w1.2.1
  · rw [q3 35 (by omega), s1 26 (by omega) (by omega)]; exact w1.2.2.1
  · rw [q3 35 (by omega), s1 27 (by omega) (by omega)]; exact w1.2.2.2
  · rw [hv] at hp
    show c1.1 36 p = _
    rw [q3 36 (by omega), s2 p (by omega)]; exact w2 p hp
  · show (_ → c1.1 37 i = _) ∧ c1.1 38 i = _
    rw [q3 37 (by omega), q3 38 (by omega), s3 29 i (by omega) hi, s3 30 i (by omega) hi, hv]; exact w3 i hi
  · rw [h27] at hn'
    show c1.1 39 _ = _ ∧ c1.1 39 _ = _ ∧ c1.1 39 _ = _ ∧ c1.1 39 _ = _
    rw [q4 _ (by rw [c7]; omega), q4 _ (by rw [c7]; omega), q4 _ (by rw [c7]; omega), q4 _ (by rw [c7]; omega), s5 32 n (by omega) (by omega) (by omega), s5 33 n (by omega) (by omega) (by omega), s5 34 n (by omega) (by omega) (by omega), s5 35 n (by omega) (by omega) (by omega)]; exact w4 n hn'
  · show c1.1 40 w = _
    rw [q3 40 (by omega), s4 w hw]; exact w5 w hw
theorem EQS_und {c1 c2 : g_M} {r : Int32 × Int32 × Int32 × Int32} (he : EQS c1 c2 T) (hT : isT T) {N : Nat} (hN : N ≤ 12) (h7 : (und1 r c2).1 35 7 = nI N) : EQS (und1 r c1) (und1 r c2) T := by
  obtain ⟨q1, q2, q3, q4⟩ := he
  have hTl := isT_le hT
  refine ⟨by rw [und1_ref, und1_ref]; exact q1, fun o a b => by rw [und1_o _ _ (by omega), und1_o _ _ (by omega)]; exact q2 o a b, ?_, ?_⟩
  · intro o ho k
    have e : ∀ a b v w, v = w → (g_sI c1 a b v).1 o k = (g_sI c2 a b w).1 o k := by
      intro a b v w hv
      subst hv
      rw [g_sI1, g_sI1, q3 o ho k]
    unfold und1
    split
    · exact e _ _ _ _ (by rw [q3 35 (by omega)])
    · split
      · exact e _ _ _ _ rfl
      · split
        · by_cases z : o = 37
          · subst z
            rw [sI_at, sI_at, sI_at, sI_at, q3 37 (by omega), q3 37 (by omega), q3 37 (by omega)]
          · rw [sI_o z, sI_o z, sI_o z, sI_o z]; exact q3 o ho k
        · exact e _ _ _ _ (by rw [q3 36 (by omega)])
  · intro k hk
    rw [h7, g_clN (by omega)] at hk
    unfold und1 at h7 ⊢
    by_cases z0 : r.1 = nI 0
    · rw [if_pos z0] at h7
      rw [if_pos z0, if_pos z0, sI_o (by omega), sI_o (by omega)]
      rw [sI_eq] at h7
      refine q4 k ?_
      have e : c2.1 35 7 = nI (N + 1) := by
        rw [← nI_add, ← h7]; exact (Int32.sub_add_cancel _ _).symm
      rw [e, g_clN (by omega)]; omega
    · rw [if_neg z0] at h7
      rw [if_neg z0, if_neg z0]
      by_cases z1 : r.1 = nI 1
      · rw [if_pos z1] at h7
        rw [if_pos z1, if_pos z1, sI_at, sI_at]
        rw [sI_o (by omega)] at h7
        rw [q4 k (by rw [h7, g_clN (by omega)]; exact hk)]
      · rw [if_neg z1] at h7
        rw [if_neg z1, if_neg z1]
        by_cases z2 : r.1 = nI 2
        · rw [if_pos z2] at h7
          rw [if_pos z2, if_pos z2, sI_o (by omega), sI_o (by omega), sI_o (by omega), sI_o (by omega)]
          rw [sI_o (by omega), sI_o (by omega)] at h7
          exact q4 k (by rw [h7, g_clN (by omega)]; exact hk)
        · rw [if_neg z2] at h7
          rw [if_neg z2, if_neg z2, sI_o (by omega), sI_o (by omega)]
          rw [sI_o (by omega)] at h7
          exact q4 k (by rw [h7, g_clN (by omega)]; exact hk)
theorem LOG_push {c3 m3 : g_M} {u d : Nat} {r : Int32 × Int32 × Int32 × Int32} (hTS : TS c m T 35 0) (hday : vl m 24 0 ≤ 9900) (hu : u ≤ 20) (hd : (u < 20 ∧ d = 0) ∨ (u = 20 ∧ d = 1)) (u4 : ∀ i, i < u → rowOK (row c i)) (u5 : ∀ j, j < u → TS (unds c u (j + 1) c) m T 35 (3 + (u - 1 - j)) ∧ vl m 24 (3 + (u - 1 - j)) ≤ 9900)
    (h67 : c3.1 67 0 = nI (u + 1 - d)) (h52 : m3.1 0 52 = nI (u + 1 - d)) (hr : rowOK r) (hrow : row c3 (u - d) = r) (hrows : ∀ i, i < u - d → row c3 i = row c (i + d)) (he : EQS (und1 r c3) c T) (hm : ∀ o, 2 ≤ o → o ≤ 21 → m3.1 o = m.1 o) (hD0 : SAME m m3 (3 + (u - d)) 0) (hD : ∀ i, i < u - d → SAME m m3 (3 + i) (3 + (i + d))) : LOG c3 m3 T := by
  have key : ∀ j, j ≤ u - d → EQS (unds c3 (u + 1 - d) (j + 1) c3) (unds c u j c) T := by
    intro j
    induction j with
    | zero =>
      intro _
      show EQS (und1 (row c3 (u + 1 - d - 1 - 0)) c3) c T
      rw [show u + 1 - d - 1 - 0 = u - d by omega, hrow]; exact he
    | succ j ih =>
      intro hj
      have hx := (u5 j (by omega)).1
      have hN := hx.2.2.2.2.2.2.1.1.2.2
      have h7 : (unds c u (j + 1) c).1 35 7 = nI (vl m 27 (3 + (u - 1 - j))) := by rw [hx.2.2.2.2.2.2.2.1.2.2.2]; exact hN.1
      show EQS (und1 (row c3 (u + 1 - d - 1 - (j + 1))) (unds c3 (u + 1 - d) (j + 1) c3)) (und1 (row c (u - 1 - j)) (unds c u j c)) T
      rw [hrows _ (by omega), show u + 1 - d - 1 - (j + 1) + d = u - 1 - j by omega]
      exact EQS_und (ih (by omega)) hTS.1 hN.2 h7
  refine ⟨u + 1 - d, by omega, h67, h52, fun i hi => ?_, fun j hj => ?_⟩
  · by_cases e : i = u - d
    · rw [e, hrow]; exact hr
    · rw [hrows i (by omega)]; exact u4 _ (by omega)
  · cases j with
    | zero =>
      have e := key 0 (by omega)
      rw [show u + 1 - d - 1 - 0 = u - d by omega]
      refine ⟨TS_eqs hTS e (by omega) hm hD0, ?_⟩
      have : vl m3 24 (3 + (u - d)) = vl m 24 0 := by unfold vl; rw [hD0.1 24 (by omega) (by omega)]
      rw [this]; exact hday
    | succ j =>
      have e := key (j + 1) (by omega)
      have hx := u5 j (by omega)
      have hs := hD (u - d - (j + 1)) (by omega)
      rw [show 3 + (u - d - (j + 1) + d) = 3 + (u - 1 - j) by omega] at hs
      rw [show u + 1 - d - 1 - (j + 1) = u - d - (j + 1) by omega]
      refine ⟨TS_eqs hx.1 e (by omega) hm hs, ?_⟩
      have : vl m3 24 (3 + (u - d - (j + 1))) = vl m 24 (3 + (u - 1 - j)) := by unfold vl; rw [hs.1 24 (by omega) (by omega)]
      rw [this]; exact hx.2
theorem cpy_at {s k : Nat} (hk : k < 76) : (g_cI c s 4 s 0 76).1 s k = c.1 s (k + 4) := by
  rw [g_cI1, if_pos rfl]
  show (if 0 ≤ k ∧ k < 0 + 76 then c.1 s (4 + (k - 0)) else c.1 s k) = _
  rw [if_pos (by omega), show 4 + (k - 0) = k + 4 by omega]
theorem q_noteb {u : Nat} (hu : u < 20) (h67 : c.1 67 0 = nI u) (a1 a2 a3 a4 : Int32) : f3_note_b35 F a1 a2 a3 a4 c = some (g_sI (g_sI (g_sI (g_sI (g_sI c 68 (4 * u) a1) 68 (4 * u + 1) a2) 68 (4 * u + 2) a3) 68 (4 * u + 3) a4) 67 0 (nI (u + 1))) := by
  have e : ∀ a b v w, (g_sI w 68 b v).1 67 a = w.1 67 a := fun a b v w => by rw [sI_o (by omega)]
  simp (disch := omega) only [g_let, g_bs, g_l0, g_l1, g_l2, g_l3, g_l4, g_l5, g_l6, g_l7, g_l8, g_l9, g_l10, g_l11, g_l12, g_l15, g_l20, g_l24, g_l25, g_l30, g_l40, g_l99, g_l100, g_ckN, g_clN, g_ltN, g_leN, g_eqN, pk_mul, nI_add, if_true, if_false, Nat.reduceLT, Nat.reduceLeDiff, Nat.reduceEqDiff, Nat.lt_irrefl, f3_note_b35, e, h67, Nat.mul_comm u 4]
theorem rowsb {u : Nat} (a1 a2 a3 a4 : Int32) (v : Int32) : row (g_sI (g_sI (g_sI (g_sI (g_sI c 68 (4 * u) a1) 68 (4 * u + 1) a2) 68 (4 * u + 2) a3) 68 (4 * u + 3) a4) 67 0 v) u = (a1, a2, a3, a4) ∧ ∀ i, i ≠ u → row (g_sI (g_sI (g_sI (g_sI (g_sI c 68 (4 * u) a1) 68 (4 * u + 1) a2) 68 (4 * u + 2) a3) 68 (4 * u + 3) a4) 67 0 v) i = row c i := by
  unfold row
  constructor
  · rw [sI_o (by omega), sI_eq, sI_ne (by omega), sI_ne (by omega), sI_ne (by omega), sI_eq, sI_ne (by omega), sI_ne (by omega), sI_eq, sI_ne (by omega), sI_eq]
  · intro i hi
    have e : ∀ k, k < 4 → (g_sI (g_sI (g_sI (g_sI (g_sI c 68 (4 * u) a1) 68 (4 * u + 1) a2) 68 (4 * u + 2) a3) 68 (4 * u + 3) a4) 67 0 v).1 68 (4 * i + k) = c.1 68 (4 * i + k) := by
      intro k hk
      rw [sI_o (by omega), sI_ne (by omega), sI_ne (by omega), sI_ne (by omega), sI_ne (by omega)]
    exact Prod.ext (e 0 (by omega)) (Prod.ext (e 1 (by omega)) (Prod.ext (e 2 (by omega)) (e 3 (by omega))))
theorem q_note1 {u : Nat} (hu : u < 20) (h67 : c.1 67 0 = nI u) (a1 a2 a3 a4 : Int32) : ∃ c', f3_note_b35 F a1 a2 a3 a4 c = some c' ∧ c'.2.2 = c.2.2 ∧ (∀ o, o ≠ 67 → o ≠ 68 → c'.1 o = c.1 o) ∧ c'.1 67 0 = nI (u + 1) ∧ row c' u = (a1, a2, a3, a4) ∧ ∀ i, i < u → row c' i = row c i := by
  rw [q_noteb hu h67]
  obtain ⟨r1, r2⟩ := rowsb (c := c) (u := u) a1 a2 a3 a4 (nI (u + 1))
  refine ⟨_, rfl, rfl, fun o x y => ?_, sI_eq, r1, fun i hi => r2 i (by omega)⟩
  rw [sI_o (by omega), sI_o (by omega), sI_o (by omega), sI_o (by omega), sI_o (by omega)]
theorem g_let_e {α β : Type} (x : α) (f : α → Option β) : g_let x f = f x := rfl
theorem n20_row {x : g_M} (hx : x = g_sI (g_cI c 68 4 68 0 76) 67 0 (19 : Int32)) : ∀ i, i < 19 → row x i = row c (i + 1) := by
  intro i hi
  have e : ∀ k, k < 4 → x.1 68 (4 * i + k) = c.1 68 (4 * (i + 1) + k) := by
    intro k hk
    rw [hx, sI_o (by omega), cpy_at (by omega), show 4 * i + k + 4 = 4 * (i + 1) + k by omega]
  exact Prod.ext (e 0 (by omega)) (Prod.ext (e 1 (by omega)) (Prod.ext (e 2 (by omega)) (e 3 (by omega))))
theorem n20_a (h67 : c.1 67 0 = nI 20) (a1 a2 a3 a4 : Int32) : f3_note F a1 a2 a3 a4 c = f3_note_b35 F a1 a2 a3 a4 (g_sI (g_cI c 68 (4 : Int32).toNatClampNeg 68 (0 : Int32).toNatClampNeg ((80 : Int32) - (4 : Int32)).toNatClampNeg) 67 0 (19 : Int32)) := by
  unfold f3_note
  rw [h67, if_pos (show (20 : Int32) ≤ nI 20 by decide), g_let_e, g_let_e]
theorem n20_e : g_sI (g_cI c 68 (4 : Int32).toNatClampNeg 68 (0 : Int32).toNatClampNeg ((80 : Int32) - (4 : Int32)).toNatClampNeg) 67 0 (19 : Int32) = g_sI (g_cI c 68 4 68 0 76) 67 0 (19 : Int32) := by
  have e80 : (80 : Int32) = nI 80 := rfl
  rw [e80, g_l4, g_l0, g_subN (by omega), g_clN (by omega), g_clN (by omega), g_clN (by omega)]
theorem q_note20 (h67 : c.1 67 0 = nI 20) (a1 a2 a3 a4 : Int32) : ∃ c', f3_note F a1 a2 a3 a4 c = some c' ∧ c'.2.2 = c.2.2 ∧ (∀ o, o ≠ 67 → o ≠ 68 → c'.1 o = c.1 o) ∧ c'.1 67 0 = nI 20 ∧ row c' 19 = (a1, a2, a3, a4) ∧ ∀ i, i < 19 → row c' i = row c (i + 1) := by
  rw [n20_a h67, n20_e]
  obtain ⟨x, hx⟩ : ∃ x, x = g_sI (g_cI c 68 4 68 0 76) 67 0 (19 : Int32) := ⟨_, rfl⟩
  have h19 : x.1 67 0 = nI 19 := by rw [hx]; exact sI_eq
  have hxo : ∀ o, o ≠ 67 → o ≠ 68 → x.1 o = c.1 o := fun o z y => by rw [hx, sI_o z, cI_o y]
  have hxr : x.2.2 = c.2.2 := by rw [hx]; rfl
  have hxrow := n20_row hx
  rw [← hx]
  clear hx
  obtain ⟨c', k1, k2, k3, k4, k5, k6⟩ := q_note1 (F := F) (by omega) h19 a1 a2 a3 a4
  refine ⟨c', k1, k2.trans hxr, fun o z y => (k3 o z y).trans (hxo o z y), k4, k5, fun i hi => (k6 i hi).trans (hxrow i hi)⟩
theorem q_note {u d : Nat} (h67 : c.1 67 0 = nI u) (hd : (u < 20 ∧ d = 0) ∨ (u = 20 ∧ d = 1)) (a1 a2 a3 a4 : Int32) : ∃ c', f3_note F a1 a2 a3 a4 c = some c' ∧ c'.2.2 = c.2.2 ∧ (∀ o, o ≠ 67 → o ≠ 68 → c'.1 o = c.1 o) ∧ c'.1 67 0 = nI (u + 1 - d) ∧ row c' (u - d) = (a1, a2, a3, a4) ∧ ∀ i, i < u - d → row c' i = row c (i + d) := by
  rcases hd with ⟨h1, h2⟩ | ⟨h1, h2⟩
  · subst h2
    unfold f3_note
    rw [h67, if_neg (show ¬ (20 : Int32) ≤ nI u from fun z => by have := (g_leN (a := 20) (by omega) (by omega)).mp z; omega)]
    exact q_note1 h1 h67 a1 a2 a3 a4
  · rw [h1] at h67
    have := q_note20 (F := F) h67 a1 a2 a3 a4
    rw [h1, h2]
    exact this
/-- the docks behind are kept -/
def FRK (m m' : g_M) : Prop := m'.2.2 = m.2.2 ∧ ∀ o k, (∀ g, 3 ≤ g → g < 23 → ¬ inD o k g) → ¬ (o = 0 ∧ k = 52) → m'.1 o k = m.1 o k
theorem FRK_X {m0 : g_M} {g : Nat} (h : FRK m0 m) (hx : fmX m m' g) (h3 : 3 ≤ g) (hg : g < 23) : FRK m0 m' := ⟨hx.1.trans h.1, fun o k z y => (hx.2 o k (z g h3 hg)).trans (h.2 o k z y)⟩
theorem FRK_52 {m0 : g_M} (h : FRK m0 m) (v : Int32) : FRK m0 (g_sI m 0 52 v) := ⟨h.1, fun o k z y => by rw [sI_ne y]; exact h.2 o k z y⟩
theorem SAME_52 {a b : Nat} {v : Int32} (h : SAME m m' b a) : SAME m (g_sI m' 0 52 v) b a := by
  obtain ⟨k1, k2, k3, k4, k5⟩ := h
  exact ⟨fun o x y => by rw [sI_o (by omega)]; exact k1 o x y, fun k x => by rw [sI_o (by omega)]; exact k2 k x, fun o k x y => by rw [sI_o (by omega)]; exact k3 o k x y, fun k x => by rw [sI_o (by omega)]; exact k4 k x, fun o k x y z => by rw [sI_o (by omega)]; exact k5 o k x y z⟩
theorem FRK_D {o k g : Nat} (h : FRK m m') (hg : g < 3) (hD : inD o k g) : m'.1 o k = m.1 o k :=
  h.2 o k (fun g' h1 _ z => inD_ne hD (by omega) z) (fun z => by have := hD.1; omega)
theorem r_keepb (hF : 5000 < F) {u : Nat} (hu : u < 20) (h52 : m.1 0 52 = nI u) : ∃ m2, f11_keepNow_b45 F m = some m2 ∧ m2.1 0 52 = nI (u + 1) ∧ FRK m m2 ∧ SAME m m2 (3 + u) 0 ∧ ∀ i, i < 20 → i ≠ u → SAME m m2 (3 + i) (3 + i) := by
  obtain ⟨m1, j1, j2, j3⟩ := r_copies (F := F) (m := m) hF (a := 0) (b := 3 + u) (by omega) (by omega) (by omega)
  have j1' : f11_copies F (nI (3 + u)) (0 : Int32) m = some m1 := j1
  have e52 : m1.1 0 52 = nI u := by rw [j2.2 0 52 (fun z => by have := z.1; omega)]; exact h52
  unfold f11_keepNow_b45
  rw [h52, g_l3, nI_add, j1', g_bs]
  simp only [g_let]
  rw [e52, g_l1, nI_add]
  refine ⟨_, rfl, sI_eq, FRK_52 (FRK_X ⟨rfl, fun _ _ _ _ => rfl⟩ j2 (by omega) (by omega)) _, SAME_52 j3, fun i h1 h2 => SAME_52 (SAME_id (fun o k hk => j2.2 o k (inD_ne hk (by omega))))⟩
theorem r_keepNow (hF : 5000 < F) {u d : Nat} (h52 : m.1 0 52 = nI u) (hd : (u < 20 ∧ d = 0) ∨ (u = 20 ∧ d = 1)) : ∃ m2, f11_keepNow F m = some m2 ∧ m2.1 0 52 = nI (u + 1 - d) ∧ FRK m m2 ∧ SAME m m2 (3 + (u - d)) 0 ∧ ∀ i, i < u - d → SAME m m2 (3 + i) (3 + (i + d)) := by
  unfold f11_keepNow
  rcases hd with ⟨h1, rfl⟩ | ⟨rfl, rfl⟩
  · obtain ⟨m2, k1, k2, k3, k4, k5⟩ := r_keepb hF h1 h52
    rw [h52, if_neg (show ¬ nI u = (20 : Int32) from fun z => by have := (g_eqN (b := 20) (by omega) (by omega)).mp z; omega)]
    exact ⟨m2, k1, k2, k3, k4, fun i hi => k5 i (by omega) (by omega)⟩
  · rw [h52, if_pos (show nI 20 = (20 : Int32) from rfl)]
    unfold f11_keepNow_b11
    obtain ⟨⟨v, m1⟩, ⟨h1, h2, h3, h4, h5⟩, sf, e⟩ := g_for1 (b := fun sf (x : Int32 × g_M) => f11_keepNow_b11_body F (fun v1 mem => sf (v1, mem)) x.1 x.2)
      (fun i x => x.1 = nI (i + 1) ∧ FRK m x.2 ∧ x.2.1 0 52 = nI 20 ∧ (∀ j, j < i → SAME m x.2 (3 + j) (3 + (j + 1))) ∧ ∀ j, i ≤ j → j < 20 → SAME m x.2 (3 + j) (3 + j)) 19
      (fun i x hi hI => by
        obtain ⟨v, m1⟩ := x
        obtain ⟨h1, h2, h3, h4, h5⟩ := hI
        simp only at h1 h2 h3 h4 h5
        subst h1
        obtain ⟨m2, j1, j2, j3⟩ := r_copies (F := F) (m := m1) hF (a := 3 + (i + 1)) (b := 3 + i) (by omega) (by omega) (by omega)
        refine ⟨(nI (i + 1 + 1), m2), ⟨rfl, FRK_X h2 j2 (by omega) (by omega), ?_, fun j hj => ?_, fun j hj1 hj2 => ?_⟩, fun sf => ?_⟩
        · show m2.1 0 52 = _
          rw [j2.2 0 52 (fun z => by have := z.1; omega)]; exact h3
        · by_cases ej : j = i
          · subst ej; exact SAME_tr (h5 (j + 1) (by omega) (by omega)) j3
          · exact SAME_tr (h4 j (by omega)) (SAME_id (fun o k hk => j2.2 o k (inD_ne hk (by omega))))
        · exact SAME_tr (h5 j (by omega) hj2) (SAME_id (fun o k hk => j2.2 o k (inD_ne hk (by omega))))
        · show f11_keepNow_b11_body F _ (nI (i + 1)) m1 = _
          have e1 : nI (3 + (i + 1)) - nI 1 = nI (3 + i) := by rw [g_subN (by omega)]; rfl
          simp (disch := omega) only [g_let, g_bs, g_l0, g_l1, g_l2, g_l3, g_l4, g_l5, g_l6, g_l7, g_l8, g_l9, g_l10, g_l11, g_l12, g_l15, g_l20, g_l24, g_l25, g_l30, g_l40, g_l99, g_l100, g_ckN, g_clN, g_ltN, g_leN, g_eqN, pk_mul, nI_add, if_true, if_false, Nat.reduceLT, Nat.reduceLeDiff, Nat.reduceEqDiff, Nat.lt_irrefl, f11_keepNow_b11_body, show i + 1 < 20 by omega, e1, j1])
      (s := ((1 : Int32), m)) ⟨rfl, ⟨rfl, fun _ _ _ _ => rfl⟩, h52, fun j hj => absurd hj (Nat.not_lt_zero j), fun j _ _ => SAME_id (fun _ _ _ => rfl)⟩ (F := F) (by omega)
    simp only at h1 h2 h3 h4 h5
    subst h1
    have h19 : (g_sI m1 0 52 (nI 19)).1 0 52 = nI 19 := sI_eq
    obtain ⟨m2, k1, k2, k3, k4, k5⟩ := r_keepb hF (by omega) h19
    have e20 : nI 20 - nI 1 = nI 19 := by decide
    refine ⟨m2, ?_, k2, ⟨k3.1.trans h2.1, fun o k z y => by rw [k3.2 o k z y, sI_ne y]; exact h2.2 o k z y⟩, ?_, fun i hi => ?_⟩
    · rw [e]
      show f11_keepNow_b11_body F _ (nI (19 + 1)) m1 = _
      simp (disch := omega) only [g_let, g_bs, g_l0, g_l1, g_l2, g_l3, g_l4, g_l5, g_l6, g_l7, g_l8, g_l9, g_l10, g_l11, g_l12, g_l15, g_l20, g_l24, g_l25, g_l30, g_l40, g_l99, g_l100, g_ckN, g_clN, g_ltN, g_leN, g_eqN, pk_mul, nI_add, if_true, if_false, Nat.reduceLT, Nat.reduceLeDiff, Nat.reduceEqDiff, Nat.lt_irrefl, f11_keepNow_b11_body, h3, e20, k1]
    · refine SAME_tr (m := m1) ?_ (SAME_tr (m := g_sI m1 0 52 (nI 19)) (SAME_id (fun o k hk => by rw [sI_o (by have := hk.1; omega)])) k4)
      exact SAME_id (fun o k hk => FRK_D h2 (by omega) hk)
    · exact SAME_tr (h4 i (by omega)) (SAME_tr (m := g_sI m1 0 52 (nI 19)) (SAME_id (fun o k hk => by rw [sI_o (by have := hk.1; omega)])) (k5 i (by omega) (by omega)))
end L
