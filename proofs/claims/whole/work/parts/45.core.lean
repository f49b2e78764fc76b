/-! what a call may change -/
section C
variable {F : Nat} {c m c' m' : g_M} {T S t f : Nat}
def COR (c m : g_M) (T S : Nat) : Prop := TW T S ∧ c.2.2 0 2 = some T ∧ c.2.2 0 3 = some S ∧ TS c m T 35 0 ∧ vl m 24 0 ≤ 9900 ∧ (m.1 0 53 = nI 0 ∧ m.1 0 55 = -1) ∧ LOG c m T ∧ WRD c
theorem INV_of (h : COR c m T S) (hI : IMG c m T) (hT : TAPE c m) (hF : FLT c m) (hA : AB c m noA) (hS : SEEN c m) : INV c m := by
  obtain ⟨h1, h2, h3, h4, h5, h6, h7, h8⟩ := h
  exact ⟨T, S, h1, h2, h3, h4, h5, hI, hT, hF, h6, hA, hS, h7, h8⟩
theorem INV_un (h : INV c m) : ∃ T S, COR c m T S ∧ IMG c m T ∧ TAPE c m ∧ FLT c m ∧ AB c m noA ∧ SEEN c m := by
  obtain ⟨T, S, h1, h2, h3, h4, h5, hI, hT, hF, h6, hA, hS, h7, h8⟩ := h
  exact ⟨T, S, ⟨h1, h2, h3, h4, h5, h6, h7, h8⟩, hI, hT, hF, hA, hS⟩
theorem LOG_fr (h : LOG c m T) (hT : isT T) (hr : c'.2.2 35 0 = c.2.2 35 0) (hc : ∀ o, T ≤ o → o ≤ T + 13 → c'.1 o = c.1 o) (hc2 : ∀ o, 35 ≤ o → o ≤ 40 → c'.1 o = c.1 o) (h67 : c'.1 67 0 = c.1 67 0) (h68 : c'.1 68 = c.1 68) (hm : ∀ o, 2 ≤ o → o ≤ 21 → m'.1 o = m.1 o) (hmD : ∀ g, 3 ≤ g → ∀ o k, inD o k g → m'.1 o k = m.1 o k) (h52 : m'.1 0 52 = m.1 0 52) : LOG c' m' T := by
  have hTl := isT_le hT
  obtain ⟨u, u1, u2, u3, u4, u5⟩ := h
  refine ⟨u, u1, by rw [h67]; exact u2, by rw [h52]; exact u3, fun i hi => ?_, fun j hj => ⟨?_, ?_⟩⟩
  · have : row c' i = row c i := by unfold row; rw [h68]
    rw [this]; exact u4 i hi
  · obtain ⟨x1, x2⟩ := unds_ref c' u c' (j + 1)
    obtain ⟨y1, y2⟩ := unds_ref c u c (j + 1)
    refine TS_frD (u5 j hj).1 ?_ (fun o h1 h2 => ?_) (fun o k h1 h2 => ?_) hm (hmD _ (by omega))
    · rw [x1, y1]; exact hr
    · rw [x2 o (by omega), y2 o (by omega)]; exact hc o h1 h2
    · rw [unds_fr u h68 hc2 (j + 1) o h1 h2]
  · have : vl m' 24 (3 + (u - 1 - j)) = vl m 24 (3 + (u - 1 - j)) := by unfold vl; rw [hmD _ (by omega) 24 _ in24]
    rw [this]; exact (u5 j hj).2
theorem COR_fr (h : COR c m T S) (hr : ∀ o k, (o = 0 ∧ (k = 2 ∨ k = 3)) ∨ (o = 35 ∧ k = 0) → c'.2.2 o k = c.2.2 o k) (hc : ∀ o, (2 ≤ o ∧ o ≤ 29) ∨ o = 32 ∨ (35 ≤ o ∧ o ≤ 40) ∨ o = 67 ∨ o = 68 → c'.1 o = c.1 o) (hm : ∀ o, 2 ≤ o → o ≤ 21 → m'.1 o = m.1 o) (hmD : ∀ g, g ≠ 1 → g ≠ 2 → ∀ o k, inD o k g → m'.1 o k = m.1 o k) (hm0 : ∀ k, k = 52 ∨ k = 53 ∨ k = 55 → m'.1 0 k = m.1 0 k) : COR c' m' T S := by
  obtain ⟨h1, h2, h3, h4, h5, h6, h7, h8⟩ := h
  have hT := h4.1
  have hTl := isT_le hT
  refine ⟨h1, by rw [hr 0 2 (by omega)]; exact h2, by rw [hr 0 3 (by omega)]; exact h3, TS_frD h4 (hr 35 0 (by omega)) (fun o a b => hc o (by omega)) (fun o k a b => by rw [hc o (by omega)]) hm (hmD 0 (by omega) (by omega)), ?_, ?_, ?_, ?_⟩
  · have : vl m' 24 0 = vl m 24 0 := by unfold vl; rw [hmD 0 (by omega) (by omega) 24 _ in24]
    rw [this]; exact h5
  · rw [hm0 53 (by omega), hm0 55 (by omega)]; exact h6
  · exact LOG_fr h7 hT (hr 35 0 (by omega)) (fun o a b => hc o (by omega)) (fun o a b => hc o (by omega)) (by rw [hc 67 (by omega)]) (hc 68 (by omega)) hm (fun g hg => hmD g (by omega) (by omega)) (hm0 52 (by omega))
  · unfold WRD at h8 ⊢
    rw [hc 32 (by omega)]; exact h8
theorem IMG_fr (h : IMG c m T) (hT : isT T) (hr : c'.2.2 41 0 = c.2.2 41 0) (hc : ∀ o, (2 ≤ o ∧ o ≤ 29) ∨ (41 ≤ o ∧ o ≤ 46) → c'.1 o = c.1 o) (h9 : c'.1 0 9 = c.1 0 9) (hm : ∀ o, 2 ≤ o → o ≤ 21 → m'.1 o = m.1 o) (hmD : ∀ o k, inD o k 2 → m'.1 o k = m.1 o k) (h51 : m'.1 0 51 = m.1 0 51) : IMG c' m' T := by
  have hTl := isT_le hT
  unfold IMG at h ⊢
  have hv : vl m' 24 2 = vl m 24 2 := by unfold vl; rw [hmD 24 _ in24]
  rw [h9, h51, hv]
  refine ⟨h.1, h.2.imp id (fun z => ⟨z.1, ?_, z.2.2⟩)⟩
  exact TS_frD z.2.1 hr (fun o a b => hc o (by omega)) (fun o k a b => by rw [hc o (by omega)]) hm hmD
theorem TAPE_fr (h : TAPE c m) (h1 : c'.1 0 1 = c.1 0 1) (h2 : c'.1 1 = c.1 1) (h3 : m'.1 0 2 = m.1 0 2) (h4 : m'.1 1 = m.1 1) : TAPE c' m' := by
  unfold TAPE at h ⊢
  rw [h1, h2, h3, h4]; exact h
theorem FLT_fr (h : FLT c m) (h1 : c'.1 0 5 = c.1 0 5) (h2 : c'.1 0 6 = c.1 0 6) (h3 : m'.1 0 32 = m.1 0 32) (h4 : m'.1 0 33 = m.1 0 33) : FLT c' m' := by
  unfold FLT at h ⊢
  rw [h1, h2, h3, h4]; exact h
theorem SEEN_fr (h : SEEN c m) (hc : ∀ o, 60 ≤ o → o ≤ 65 → c'.1 o = c.1 o) (h1 : m'.1 0 65 = m.1 0 65) (h2 : m'.1 0 66 = m.1 0 66) (hm : ∀ o, 39 ≤ o → o ≤ 42 → m'.1 o = m.1 o) : SEEN c' m' := by
  unfold SEEN at h ⊢
  rw [h1, h2, hc 60 (by omega) (by omega), hc 61 (by omega) (by omega), hc 62 (by omega) (by omega), hc 63 (by omega) (by omega), hc 64 (by omega) (by omega), hc 65 (by omega) (by omega), hm 39 (by omega) (by omega), hm 40 (by omega) (by omega), hm 41 (by omega) (by omega), hm 42 (by omega) (by omega)]
  exact h
theorem AB_fr {A : Nat → Bool} (h : AB c m A) (h1 : c'.1 54 = c.1 54) (h2 : c'.1 53 7 = c.1 53 7) (h3 : m'.1 0 56 = m.1 0 56) : AB c' m' A := by
  unfold AB at h ⊢
  rw [h1, h2, h3]; exact h
theorem COR_new (h1 : TW T S) (h2 : c.2.2 0 2 = some T) (h3 : c.2.2 0 3 = some S) (h4 : TS c m T 35 0) (h5 : vl m 24 0 ≤ 9900) (h6 : m.1 0 53 = nI 0 ∧ m.1 0 55 = -1) (h7 : c.1 67 0 = nI 0) (h8 : m.1 0 52 = nI 0) (h9 : WRD c) : COR c m T S :=
  ⟨h1, h2, h3, h4, h5, h6, ⟨0, by omega, h7, h8, fun i hi => absurd hi (Nat.not_lt_zero i), fun j hj => absurd hj (Nat.not_lt_zero j)⟩, h9⟩
/-- a call that may change both -/
def CALL (x y : Option (Int32 × g_M)) : Prop := ∃ r c' m', x = some (r, c') ∧ y = some (r, m') ∧ INV c' m'
theorem call_of {x : Option (Int32 × g_M)} {y : g_M → Option (Int32 × g_M)} (h : INV c m) (hk : ∀ T S m1, INV c m1 → COR c m1 T S → IMG c m1 T → TAPE c m1 → FLT c m1 → AB c m1 noA → SEEN c m1 → G c m1 T → CALL x (y m1)) : CALL x (g_let (g_sI m 0 0 (0 : Int32)) y) := by
  have h1 : INV c (g_sI m 0 0 (0 : Int32)) := INV_thr h _
  obtain ⟨T, S, hC, hI, hT, hF, hA, hS⟩ := INV_un h1
  exact hk T S _ h1 hC hI hT hF hA hS ⟨hC.2.2.2.1, hC.2.1⟩
theorem m1_or {a : Int32} (h : (-1 : Int32) ≤ a) : a = -1 ∨ ∃ k, k < 2147483648 ∧ a = nI k := by
  rcases i_cases a with z | z
  · left
    have h1 := Int32.le_iff_toInt_le.mp h
    have z1 := Int32.lt_iff_toInt_lt.mp z
    have e1 : (-1 : Int32).toInt = -1 := by decide
    have e0 : (0 : Int32).toInt = 0 := by decide
    apply Int32.toInt_inj.mp
    omega
  · exact Or.inr z
theorem s_known (h : INV c m) (a : Int32) : CALL (f10_known F a c) (f11_known F a m) := by
  refine call_of h (fun T S m1 hV hC hI hT hF hA hS hG => ?_)
  obtain ⟨n, n1, n2, n3, n4, n5, n6⟩ := id hS
  unfold f10_known
  rw [n2, n3]
  by_cases h1 : (-1 : Int32) ≤ a
  · rw [if_pos h1, if_pos h1]
    by_cases h2 : nI n < a
    · rw [if_pos h2, if_pos h2]; exact ⟨_, _, _, rfl, rfl, hV⟩
    · rw [if_neg h2, if_neg h2]
      refine ⟨1, g_sI c 60 1 a, g_sI m1 0 66 a, rfl, rfl, INV_of (COR_fr hC (fun _ _ _ => rfl) (fun o ho => sI_o (by omega)) (fun o a b => sI_o (by omega)) (fun g _ _ o k hk => by rw [sI_o (by have := hk.1; omega)]) (fun k hk => sI_ne (by omega))) (IMG_fr hI hC.2.2.2.1.1 rfl (fun o ho => sI_o (by omega)) (sI_ne (by omega)) (fun o a b => sI_o (by omega)) (fun o k hk => by rw [sI_o (by have := hk.1; omega)]) (sI_ne (by omega))) (TAPE_fr hT (sI_ne (by omega)) (sI_o (by omega)) (sI_ne (by omega)) (sI_o (by omega))) (FLT_fr hF (sI_ne (by omega)) (sI_ne (by omega)) (sI_ne (by omega)) (sI_ne (by omega))) (AB_fr hA (sI_o (by omega)) (sI_ne (by omega)) (sI_ne (by omega))) ?_⟩
      refine ⟨n, n1, by rw [sI_ne (by omega)]; exact n2, by rw [sI_ne (by omega)]; exact n3, by rw [sI_eq, sI_eq], ?_, fun i hi => ?_⟩
      · rw [sI_eq]
        refine (m1_or h1).imp id (fun z => ?_)
        obtain ⟨k, hk, rfl⟩ := z
        refine ⟨k, ?_, rfl⟩
        rcases Nat.lt_or_ge n k with z | z
        · exact absurd ((g_ltN (by omega) hk).mpr z) h2
        · exact z
      · rw [sI_o (by omega), sI_o (by omega), sI_o (by omega), sI_o (by omega), sI_o (by omega), sI_o (by omega), sI_o (by omega), sI_o (by omega), sI_o (by omega)]; exact n6 i hi
  · rw [if_neg h1, if_neg h1]; exact ⟨_, _, _, rfl, rfl, hV⟩
/-- one more seen -/
theorem SEEN_push (hS : SEEN c m) {n : Nat} (hn : c.1 60 0 = nI n) (hlt : n < 24) (h1 : c'.1 60 0 = nI (n + 1)) (h2 : m'.1 0 65 = nI (n + 1)) (h3 : c'.1 60 1 = c.1 60 1) (h4 : m'.1 0 66 = m.1 0 66) (hc : ∀ o i, 61 ≤ o → o ≤ 65 → i ≠ n → c'.1 o i = c.1 o i) (hm : ∀ o i, 39 ≤ o → o ≤ 42 → i ≠ n → m'.1 o i = m.1 o i)
    (hN : c'.1 65 n = m'.1 42 n ∧ ((m'.1 42 n = -1 ∧ (∃ d, 1 ≤ d ∧ d ≤ 40 ∧ c'.1 61 n = nI d ∧ m'.1 39 n = nI d) ∧ (∃ p s, p < 5 ∧ s < 5 ∧ c'.1 62 n = nI p ∧ c'.1 63 n = nI s ∧ m'.1 40 n = nI (5 * p + s)) ∧ c'.1 64 n = m'.1 41 n ∧ (m'.1 41 n = nI 0 ∨ m'.1 41 n = nI 1)) ∨ ∃ j, j < n ∧ m'.1 42 n = nI j)) : SEEN c' m' := by
  obtain ⟨n', n1, n2, n3, n4, n5, n6⟩ := hS
  have : n' = n := by
    rw [n2] at hn
    exact (g_eqN (by omega) (by omega)).mp hn
  subst this
  refine ⟨n' + 1, by omega, h1, h2, by rw [h3, h4]; exact n4, ?_, fun i hi => ?_⟩
  · rw [h4]
    exact n5.imp id (fun z => by obtain ⟨k, k1, k2⟩ := z; exact ⟨k, by omega, k2⟩)
  · by_cases e : i = n'
    · subst e; exact hN
    · rw [hc 61 i (by omega) (by omega) e, hc 62 i (by omega) (by omega) e, hc 63 i (by omega) (by omega) e, hc 64 i (by omega) (by omega) e, hc 65 i (by omega) (by omega) e, hm 39 i (by omega) (by omega) e, hm 40 i (by omega) (by omega) e, hm 41 i (by omega) (by omega) e, hm 42 i (by omega) (by omega) e]
      exact n6 i (by omega)
/-- where only what was seen has changed -/
theorem INV_seen (hC : COR c m T S) (hI : IMG c m T) (hT : TAPE c m) (hF : FLT c m) (hA : AB c m noA) (hS : SEEN c' m') (hr : c'.2.2 = c.2.2) (hc : ∀ o, ¬ (60 ≤ o ∧ o ≤ 66) → c'.1 o = c.1 o) (hm : ∀ o k, ¬ ((39 ≤ o ∧ o ≤ 43) ∨ (o = 0 ∧ (k = 65 ∨ k = 66))) → m'.1 o k = m.1 o k) : INV c' m' := by
  have hm' : ∀ o, 1 ≤ o → o ≤ 38 → m'.1 o = m.1 o := fun o a b => by funext k; exact hm o k (by omega)
  exact INV_of (COR_fr hC (fun o k _ => by rw [hr]) (fun o ho => hc o (by omega)) (fun o a b => hm' o (by omega) (by omega)) (fun g _ _ o k hk => by rw [hm' o (by have := hk.1; omega) (by have := hk.2.1; omega)]) (fun k hk => hm 0 k (by omega))) (IMG_fr hI hC.2.2.2.1.1 (by rw [hr]) (fun o ho => hc o (by omega)) (by rw [hc 0 (by omega)]) (fun o a b => hm' o (by omega) (by omega)) (fun o k hk => by rw [hm' o (by have := hk.1; omega) (by have := hk.2.1; omega)]) (hm 0 51 (by omega))) (TAPE_fr hT (by rw [hc 0 (by omega)]) (hc 1 (by omega)) (hm 0 2 (by omega)) (hm' 1 (by omega) (by omega))) (FLT_fr hF (by rw [hc 0 (by omega)]) (by rw [hc 0 (by omega)]) (hm 0 32 (by omega)) (hm 0 33 (by omega))) (AB_fr hA (hc 54 (by omega)) (by rw [hc 53 (by omega)]) (hm 0 56 (by omega))) hS
theorem q_put {n : Nat} (hn : n < 24) (h : c.1 60 0 = nI n) (a1 a2 a3 : Int32) {a4 : Int32} (h4 : a4 = 0 ∨ a4 = 1) : f6_put F a1 a2 a3 a4 c = some (nI n, g_sI (g_sI (g_sI (g_sI (g_sI (g_sI c 61 n a1) 62 n a2) 63 n a3) 64 n a4) 65 n (-1)) 60 0 (nI (n + 1))) := by
  have e : ∀ k : Option (Int32 × g_M), g_fl a4 k = k := fun k => by unfold g_fl; rw [if_pos h4]
  unfold f6_put
  rw [h, g_ckN hn (by omega), g_clN (by omega)]
  simp only [g_let]
  rw [show (g_sI c 61 n a1).1 60 0 = nI n from h, g_ckN hn (by omega), g_clN (by omega)]
  rw [show (g_sI (g_sI c 61 n a1) 62 n a2).1 60 0 = nI n from h, g_ckN hn (by omega), g_clN (by omega)]
  rw [show (g_sI (g_sI (g_sI c 61 n a1) 62 n a2) 63 n a3).1 60 0 = nI n from h, g_ckN hn (by omega), g_clN (by omega), e]
  rw [show (g_sI (g_sI (g_sI (g_sI c 61 n a1) 62 n a2) 63 n a3) 64 n a4).1 60 0 = nI n from h, g_ckN hn (by omega), g_clN (by omega)]
  rw [show (g_sI (g_sI (g_sI (g_sI (g_sI c 61 n a1) 62 n a2) 63 n a3) 64 n a4) 65 n (-1)).1 60 0 = nI n from h, sI_eq, g_l1, nI_add, g_subN (by omega)]
  rfl
theorem s_see (h : INV c m) (a1 a2 a3 : Int32) {a4 : Int32} (h4 : a4 = 0 ∨ a4 = 1) : CALL (f10_see F a1 a2 a3 a4 c) (f11_see F a1 a2 a3 a4 m) := by
  refine call_of h (fun T S m1 hV hC hI hT hF hA hS hG => ?_)
  obtain ⟨n, n1, n2, n3, n4, n5, n6⟩ := id hS
  have hW := hG.1.2.2.2.2.1
  have bP := hW.1.1.2
  have bS := hW.1.2.1.2
  unfold f10_see
  by_cases z1 : (1 : Int32) ≤ a1
  rotate_left
  · rw [if_neg z1, if_neg z1]; exact ⟨_, _, _, rfl, rfl, hV⟩
  rw [if_pos z1, if_pos z1]
  by_cases z2 : a1 ≤ (40 : Int32)
  rotate_left
  · rw [if_neg z2, if_neg z2]; exact ⟨_, _, _, rfl, rfl, hV⟩
  rw [if_pos z2, if_pos z2]
  by_cases ha : okI a2 (vl m1 2 0)
  rotate_left
  · rw [q_part0 hG (fun z => ha z.1), r_man0 hW ha, g_bs, g_bs, if_pos nI00, if_pos nI00]; exact ⟨_, _, _, rfl, rfl, hV⟩
  obtain ⟨p, hp, rfl⟩ := ha
  rw [r_man1 hW hp, g_bs, if_neg nI10]
  by_cases hb : okI a3 (vl m1 2 1)
  rotate_left
  · rw [q_part0 hG (fun z => hb z.2), r_sort0 hW hb, g_bs, g_bs, if_pos nI00, if_pos nI00]; exact ⟨_, _, _, rfl, rfl, hV⟩
  obtain ⟨s, hs, rfl⟩ := hb
  rw [q_part1 hG hp hs, r_sort1 hW hs, g_bs, g_bs, if_neg nI10, if_neg nI10, n2, n3]
  obtain ⟨d, hd1, hd2, rfl⟩ : ∃ d, 1 ≤ d ∧ d ≤ 40 ∧ a1 = nI d := by
    rcases i_cases a1 with y | ⟨k, hk, rfl⟩
    · have e1 := Int32.lt_iff_toInt_lt.mp y
      have e2 := Int32.le_iff_toInt_le.mp z1
      have e3 : (1 : Int32).toInt = 1 := by decide
      have e0 : (0 : Int32).toInt = 0 := by decide
      omega
    · exact ⟨k, (g_leN (a := 1) (by omega) hk).mp z1, (g_leN (b := 40) hk (by omega)).mp z2, rfl⟩
  by_cases h24 : n = 24
  · subst h24
    rw [if_pos (show (24 : Int32) ≤ nI 24 by decide), if_pos (show nI 24 = (24 : Int32) from rfl)]; exact ⟨_, _, _, rfl, rfl, hV⟩
  have hn : n < 24 := by omega
  rw [if_neg (show ¬ (24 : Int32) ≤ nI n from fun z => by have := (g_leN (a := 24) (by omega) (by omega)).mp z; omega), if_neg (show ¬ nI n = (24 : Int32) from fun z => h24 ((g_eqN (b := 24) (by omega) (by omega)).mp z)), q_put hn n2 _ _ _ h4, g_bs]
  have e : ∀ k : Option (Int32 × g_M), g_fl a4 k = k := fun k => by unfold g_fl; rw [if_pos h4]
  refine ⟨nI n, _, g_sI (g_sI (g_sI (g_sI (g_sI m1 39 n (nI d)) 40 n (nI (5 * p + s))) 41 n a4) 42 n (-1)) 0 65 (nI (n + 1)), rfl, ?_, INV_seen hC hI hT hF hA (SEEN_push hS n2 hn ?_ ?_ ?_ ?_ ?_ ?_ ?_) rfl (fun o ho => ?_) (fun o k ho => ?_)⟩
  · rw [g_ckN hn (by omega), g_clN (by omega)]
    simp only [g_let]
    rw [show (g_sI m1 39 n (nI d)).1 0 65 = nI n from n3, g_ckN hn (by omega), g_clN (by omega), g_l5, pk_mul, nI_add]
    rw [show (g_sI (g_sI m1 39 n (nI d)) 40 n (nI (5 * p + s))).1 0 65 = nI n from n3, g_ckN hn (by omega), g_clN (by omega), e]
    rw [show (g_sI (g_sI (g_sI m1 39 n (nI d)) 40 n (nI (5 * p + s))) 41 n a4).1 0 65 = nI n from n3, g_ckN hn (by omega), g_clN (by omega)]
    rw [show (g_sI (g_sI (g_sI (g_sI m1 39 n (nI d)) 40 n (nI (5 * p + s))) 41 n a4) 42 n (-1)).1 0 65 = nI n from n3, sI_eq, g_l1, nI_add, g_subN (by omega)]
    rfl
  · rw [sI_eq]
  · rw [sI_eq]
  · rw [sI_ne (by omega), sI_o (by omega), sI_o (by omega), sI_o (by omega), sI_o (by omega), sI_o (by omega)]
  · rw [sI_ne (by omega), sI_o (by omega), sI_o (by omega), sI_o (by omega), sI_o (by omega)]
  · intro o i h1 h2 h3
    rw [sI_ne (by omega), sI_ne (by omega), sI_ne (by omega), sI_ne (by omega), sI_ne (by omega), sI_ne (by omega)]
  · intro o i h1 h2 h3
    rw [sI_ne (by omega), sI_ne (by omega), sI_ne (by omega), sI_ne (by omega), sI_ne (by omega)]
  · rw [sI_o (a := 65) (by omega), sI_eq, sI_o (a := 42) (by omega), sI_eq]
    refine ⟨rfl, Or.inl ⟨rfl, ⟨d, hd1, hd2, ?_, ?_⟩, ⟨p, s, by omega, by omega, ?_, ?_, ?_⟩, ?_, ?_⟩⟩
    · rw [sI_o (by omega), sI_o (by omega), sI_o (by omega), sI_o (by omega), sI_o (by omega), sI_eq]
    · rw [sI_o (by omega), sI_o (by omega), sI_o (by omega), sI_o (by omega), sI_eq]
    · rw [sI_o (by omega), sI_o (by omega), sI_o (by omega), sI_o (by omega), sI_eq]
    · rw [sI_o (by omega), sI_o (by omega), sI_o (by omega), sI_eq]
    · rw [sI_o (by omega), sI_o (by omega), sI_o (by omega), sI_eq]
    · rw [sI_o (by omega), sI_o (by omega), sI_eq, sI_o (by omega), sI_o (by omega), sI_eq]
    · rw [sI_o (by omega), sI_o (by omega), sI_eq]; exact h4
  · rw [sI_o (by omega), sI_o (by omega), sI_o (by omega), sI_o (by omega), sI_o (by omega), sI_o (by omega)]
  · rw [sI_ne (by omega), sI_ne (by omega), sI_ne (by omega), sI_ne (by omega), sI_ne (by omega)]
theorem s_out (h : INV c m) (a1 : Int32) : CALL (f10_out F a1 c) (f11_out F a1 m) := by
  refine call_of h (fun T S m1 hV hC hI hT hF hA hS hG => ?_)
  obtain ⟨n, n1, n2, n3, n4, n5, n6⟩ := id hS
  unfold f10_out
  rw [n2, n3]
  by_cases z1 : (0 : Int32) ≤ a1
  rotate_left
  · rw [if_neg z1, if_neg z1]; exact ⟨_, _, _, rfl, rfl, hV⟩
  rw [if_pos z1, if_pos z1]
  by_cases z2 : a1 < nI n
  rotate_left
  · rw [if_neg z2, if_neg z2]; exact ⟨_, _, _, rfl, rfl, hV⟩
  rw [if_pos z2, if_pos z2]
  obtain ⟨j, hj, rfl⟩ : ∃ j, j < n ∧ a1 = nI j := by
    rcases i_cases a1 with y | ⟨k, hk, rfl⟩
    · exact absurd z1 (lt0_nle y)
    · exact ⟨k, (g_ltN hk (by omega)).mp z2, rfl⟩
  by_cases h24 : n = 24
  · subst h24
    rw [if_pos (show (24 : Int32) ≤ nI 24 by decide), if_pos (show nI 24 = (24 : Int32) from rfl)]; exact ⟨_, _, _, rfl, rfl, hV⟩
  have hn : n < 24 := by omega
  have hq : f6_putStrike F (nI j) c = some (nI n, g_sI (g_sI (g_sI (g_sI (g_sI (g_sI (g_sI c 61 n 0) 62 n 0) 63 n 0) 64 n 0) 65 n (-1)) 60 0 (nI (n + 1))) 65 n (nI j)) := by
    unfold f6_putStrike
    rw [q_put hn n2 _ _ _ (Or.inl rfl), g_bs]
    simp only [g_let]
    rw [g_ckN hn (by omega), g_clN (by omega)]
  rw [if_neg (show ¬ (24 : Int32) ≤ nI n from fun z => by have := (g_leN (a := 24) (by omega) (by omega)).mp z; omega), if_neg (show ¬ nI n = (24 : Int32) from fun z => h24 ((g_eqN (b := 24) (by omega) (by omega)).mp z)), hq, g_bs]
  refine ⟨nI n, _, g_sI (g_sI m1 42 n (nI j)) 0 65 (nI (n + 1)), rfl, ?_, INV_seen hC hI hT hF hA (SEEN_push hS n2 hn ?_ ?_ ?_ ?_ ?_ ?_ ?_) rfl (fun o ho => ?_) (fun o k ho => ?_)⟩
  · rw [g_ckN hn (by omega), g_clN (by omega)]
    simp only [g_let]
    rw [show (g_sI m1 42 n (nI j)).1 0 65 = nI n from n3, sI_eq, g_l1, nI_add, g_subN (by omega)]
    rfl
  · rw [sI_o (by omega), sI_eq]
  · rw [sI_eq]
  · rw [sI_o (by omega), sI_ne (by omega), sI_o (by omega), sI_o (by omega), sI_o (by omega), sI_o (by omega), sI_o (by omega)]
  · rw [sI_ne (by omega), sI_o (by omega)]
  · intro o i h1 h2 h3
    rw [sI_ne (by omega), sI_ne (by omega), sI_ne (by omega), sI_ne (by omega), sI_ne (by omega), sI_ne (by omega), sI_ne (by omega)]
  · intro o i h1 h2 h3
    rw [sI_ne (by omega), sI_ne (by omega)]
  · rw [sI_eq, sI_o (by omega), sI_eq]
    exact ⟨rfl, Or.inr ⟨j, hj, rfl⟩⟩
  · rw [sI_o (by omega), sI_o (by omega), sI_o (by omega), sI_o (by omega), sI_o (by omega), sI_o (by omega), sI_o (by omega)]
  · rw [sI_ne (by omega), sI_ne (by omega)]
theorem s_keep (hF : 5000 < F) (h : INV c m) : CALL (f10_keep F c) (f11_keep F m) := by
  refine call_of h (fun T S m1 hV hC hI hTa hFl hA hS hG => ?_)
  have hTS := hG.1
  obtain ⟨hT, ht, hf, hp0, hW, hR, hWS, hRS⟩ := id hTS
  obtain ⟨⟨⟨vP, bP⟩, ⟨vS, bS⟩, ⟨vD, bD⟩, ⟨vN, bN⟩, ⟨vW, bW⟩, ⟨vRoom, bRoom⟩, bRoom1, ⟨vStorm, bStorm⟩, ⟨vSeed, bSeed⟩, ⟨vK, bK⟩⟩, wPence, wSort, wDeed, wSend, wWant, wLaw⟩ := id hW
  obtain ⟨⟨⟨vDay, bDay⟩, ⟨vLast, bLast⟩, ⟨vSends, bSends⟩⟩, sPence, sHL, sPerm1, sPerm2, sSend, sWant, sOwn⟩ := id hWS
  obtain ⟨rCnt, rMan, rSort, rDeed, ⟨rT6, rT8, rT10, rT11, rT12, rT93⟩, rSent, rWanted, rLaw, rCode⟩ := id hR
  obtain ⟨⟨eDay, eLast, eStorms, eSends⟩, ePence, eHL, eSend, eWant⟩ := id hRS
  have e0 := rCnt 0 (by omega)
  have e1 := rCnt 1 (by omega)
  have e2 := rCnt 2 (by omega)
  have gd := fun {α : Type} {k : Nat → Option α} => g_drT (k := k) hp0 hT
  obtain ⟨c1, k1, k2⟩ := q_copy (F := F) (t := 41) (t1 := 35) (by unfold isS; omega) (by unfold isS; omega) (by omega) hT hp0
  obtain ⟨m2, j1, j2, j3⟩ := r_copies (F := F) (m := m1) hF (a := 0) (b := 2) (by omega) (by omega) (by omega)
  have hTn : TS c1 m2 T 41 2 := TS_copy hG.1 (by unfold isS; omega) (by omega) (by omega) k2 j2 j3
  have j1' : f11_copies F (2 : Int32) (0 : Int32) m1 = some m2 := j1
  unfold f10_keep
  rw [k1, j1', g_bs, g_bs]
  simp only [g_let]
  rw [g_l0, g_ckN (by omega) (by omega), g_clN (by omega)]
  have hm : ∀ o k, ¬ inD o k 2 → ¬ (o = 0 ∧ k = 51) → (g_sI m2 0 51 (1 : Int32)).1 o k = m1.1 o k := fun o k z1 z2 => by rw [sI_ne z2]; exact j2.2 o k z1
  have hm' : ∀ o, 1 ≤ o → o ≤ 23 ∨ 36 ≤ o → (g_sI m2 0 51 (1 : Int32)).1 o = m1.1 o := fun o a b => by funext k; exact hm o k (fun z => by have := z.1; have := z.2.1; omega) (by omega)
  have hc : ∀ o, 1 ≤ o → ¬ (41 ≤ o ∧ o ≤ 46) → (g_sI c1 0 9 (1 : Int32)).1 o = c.1 o := fun o a b => by rw [sI_o (by omega)]; exact k2.2.2.1 o (by omega)
  have hc0 : ∀ k, k ≠ 9 → (g_sI c1 0 9 (1 : Int32)).1 0 k = c.1 0 k := fun k hk => by rw [sI_ne (by omega), k2.2.2.1 0 (by omega)]
  have n0 : ∀ k, ¬ inD 0 k 2 := fun k z => by have := z.1; omega
  refine ⟨m1.1 24 0, g_sI c1 0 9 (1 : Int32), g_sI m2 0 51 (1 : Int32), ?_, ?_, INV_of (COR_fr hC (fun o k ho => k2.1 o k (by omega)) (fun o ho => hc o (by omega) (by omega)) (fun o a b => hm' o (by omega) (by omega)) (fun g g1 g2 o k hk => hm o k (inD_ne hk g2) (by have := hk.1; omega)) (fun k hk => hm 0 k (n0 k) (by omega))) ?_ (TAPE_fr hTa (hc0 1 (by omega)) (hc 1 (by omega) (by omega)) (hm 0 2 (n0 2) (by omega)) (hm' 1 (by omega) (by omega))) (FLT_fr hFl (hc0 5 (by omega)) (hc0 6 (by omega)) (hm 0 32 (n0 32) (by omega)) (hm 0 33 (n0 33) (by omega))) (AB_fr hA (hc 54 (by omega) (by omega)) (by rw [hc 53 (by omega) (by omega)]) (hm 0 56 (n0 56) (by omega))) (SEEN_fr hS (fun o a b => hc o (by omega) (by omega)) (hm 0 65 (n0 65) (by omega)) (hm 0 66 (n0 66) (by omega)) (fun o a b => hm' o (by omega) (by omega)))⟩
  · rw [hc 35 (by omega) (by omega), eDay]
  · rw [hm 24 0 (fun z => by have := z.2.2.1; revert this; show ¬ 1 * 2 ≤ 0; omega) (by omega)]
  · refine ⟨by rw [sI_eq, sI_eq], Or.inr ⟨sI_eq, TS_frD hTn rfl (fun o a b => sI_o (by have := isT_le hT; omega)) (fun o k a b => by rw [sI_o (by omega)]) (fun o a b => sI_o (by omega)) (fun o k hk => by rw [sI_o (by have := hk.1; omega)]), ?_⟩⟩
    have : vl (g_sI m2 0 51 (1 : Int32)) 24 2 = vl m1 24 0 := by unfold vl; rw [sI_o (by omega), j3.1 24 (by omega) (by omega)]
    rw [this]; exact hC.2.2.2.2.1
theorem s_back (hF : 5000 < F) (h : INV c m) : CALL (f10_back F c) (f11_back F m) := by
  refine call_of h (fun T S m1 hV hC hI hTa hFl hA hS hG => ?_)
  have hTS := hG.1
  obtain ⟨hT, ht, hf, hp0, hW, hR, hWS, hRS⟩ := id hTS
  obtain ⟨⟨⟨vP, bP⟩, ⟨vS, bS⟩, ⟨vD, bD⟩, ⟨vN, bN⟩, ⟨vW, bW⟩, ⟨vRoom, bRoom⟩, bRoom1, ⟨vStorm, bStorm⟩, ⟨vSeed, bSeed⟩, ⟨vK, bK⟩⟩, wPence, wSort, wDeed, wSend, wWant, wLaw⟩ := id hW
  obtain ⟨⟨⟨vDay, bDay⟩, ⟨vLast, bLast⟩, ⟨vSends, bSends⟩⟩, sPence, sHL, sPerm1, sPerm2, sSend, sWant, sOwn⟩ := id hWS
  obtain ⟨rCnt, rMan, rSort, rDeed, ⟨rT6, rT8, rT10, rT11, rT12, rT93⟩, rSent, rWanted, rLaw, rCode⟩ := id hR
  obtain ⟨⟨eDay, eLast, eStorms, eSends⟩, ePence, eHL, eSend, eWant⟩ := id hRS
  have e0 := rCnt 0 (by omega)
  have e1 := rCnt 1 (by omega)
  have e2 := rCnt 2 (by omega)
  have gd := fun {α : Type} {k : Nat → Option α} => g_drT (k := k) hp0 hT
  unfold f10_back
  rw [hI.1]
  rcases hI.2 with h0 | ⟨h1, hTI, hd⟩
  · rw [h0, if_pos nI00, if_pos nI00]; exact ⟨_, _, _, rfl, rfl, hV⟩
  rw [h1, if_neg nI10, if_neg nI10]
  obtain ⟨c1, k1, k2⟩ := q_copy (F := F) (t := 35) (t1 := 41) (by unfold isS; omega) (by unfold isS; omega) (by omega) hT hTI.2.2.2.1
  obtain ⟨m2, j1, j2, j3⟩ := r_copies (F := F) (m := m1) hF (a := 2) (b := 0) (by omega) (by omega) (by omega)
  have hTn : TS c1 m2 T 35 0 := TS_copy hTI (by unfold isS; omega) (by omega) (by omega) k2 j2 j3
  have j1' : f11_copies F (0 : Int32) (2 : Int32) m1 = some m2 := j1
  unfold f3_clear
  rw [k1, j1', g_bs, g_bs]
  simp only [g_let]
  rw [g_bs, g_l0, g_ckN (by omega) (by omega), g_clN (by omega)]
  have n0 : ∀ k, ¬ inD 0 k 0 := fun k z => by have := z.1; omega
  have hm : ∀ o k, ¬ inD o k 0 → ¬ (o = 0 ∧ k = 52) → (g_sI m2 0 52 (nI 0)).1 o k = m1.1 o k := fun o k z1 z2 => by rw [sI_ne z2]; exact j2.2 o k z1
  have hm' : ∀ o, 1 ≤ o → o ≤ 23 ∨ 36 ≤ o → (g_sI m2 0 52 (nI 0)).1 o = m1.1 o := fun o a b => by funext k; exact hm o k (fun z => by have := z.1; have := z.2.1; omega) (by omega)
  have hc : ∀ o, o ≠ 67 → ¬ (35 ≤ o ∧ o ≤ 40) → (g_sI c1 67 0 (nI 0)).1 o = c.1 o := fun o a b => by rw [sI_o (by omega)]; exact k2.2.2.1 o (by omega)
  have hTl := isT_le hT
  have hTn2 : TS (g_sI c1 67 0 (nI 0)) (g_sI m2 0 52 (nI 0)) T 35 0 := TS_frD hTn rfl (fun o a b => sI_o (by omega)) (fun o k a b => by rw [sI_o (by omega)]) (fun o a b => sI_o (by omega)) (fun o k hk => by rw [sI_o (by have := hk.1; omega)])
  refine ⟨(g_sI m2 0 52 (nI 0)).1 24 0, g_sI c1 67 0 (nI 0), g_sI m2 0 52 (nI 0), ?_, rfl, INV_of (COR_new hC.1 ?_ ?_ hTn2 ?_ ?_ sI_eq sI_eq ?_) (IMG_fr hI hT (k2.1 41 0 (by omega)) (fun o ho => hc o (by omega) (by omega)) (by rw [hc 0 (by omega) (by omega)]) (fun o a b => hm' o (by omega) (by omega)) (fun o k hk => hm o k (inD_ne hk (by omega)) (by have := hk.1; omega)) (hm 0 51 (n0 51) (by omega))) (TAPE_fr hTa (by rw [hc 0 (by omega) (by omega)]) (hc 1 (by omega) (by omega)) (hm 0 2 (n0 2) (by omega)) (hm' 1 (by omega) (by omega))) (FLT_fr hFl (by rw [hc 0 (by omega) (by omega)]) (by rw [hc 0 (by omega) (by omega)]) (hm 0 32 (n0 32) (by omega)) (hm 0 33 (n0 33) (by omega))) (AB_fr hA (hc 54 (by omega) (by omega)) (by rw [hc 53 (by omega) (by omega)]) (hm 0 56 (n0 56) (by omega))) (SEEN_fr hS (fun o a b => hc o (by omega) (by omega)) (hm 0 65 (n0 65) (by omega)) (hm 0 66 (n0 66) (by omega)) (fun o a b => hm' o (by omega) (by omega)))⟩
  · rw [hTn2.2.2.2.2.2.2.2.1.1]
  · show c1.2.2 0 2 = some T
    rw [k2.1 0 2 (by omega)]; exact hC.2.1
  · show c1.2.2 0 3 = some S
    rw [k2.1 0 3 (by omega)]; exact hC.2.2.1
  · have : vl (g_sI m2 0 52 (nI 0)) 24 0 = vl m1 24 2 := by unfold vl; rw [sI_o (by omega), j3.1 24 (by omega) (by omega)]
    rw [this]; exact hd
  · rw [hm 0 53 (n0 53) (by omega), hm 0 55 (n0 55) (by omega)]; exact hC.2.2.2.2.2.1
  · have := hC.2.2.2.2.2.2.2
    unfold WRD at this ⊢
    rw [hc 32 (by omega) (by omega)]; exact this
end C
