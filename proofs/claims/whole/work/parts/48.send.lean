/-! sendings put; undone -/
section O
variable {F : Nat} {c m c' m' : g_M} {T S : Nat}
theorem rg_fr {o k b : Nat} (h : rg m o k b) (e : m'.1 o k = m.1 o k) : rg m' o k b := by
  unfold rg vl at h ⊢
  rw [e]; exact h
theorem TS_send {n p s dd : Nat} (h : TS c m T 35 0) (hn : vl m 27 0 = n) (hlt : n < 12) (hp : p < vl m 2 0) (hs : s < vl m 2 1) (hdd : dd ≤ 10000) (hr : c'.2.2 = c.2.2) (hc : ∀ o, o ≠ 35 → o ≠ 39 → c'.1 o = c.1 o) (hc35 : ∀ k, c'.1 35 k = if k = 7 then nI (n + 1) else c.1 35 k) (hc39 : c'.1 39 (4 * n) = nI p ∧ c'.1 39 (4 * n + 1) = nI s ∧ c'.1 39 (4 * n + 2) = nI dd ∧ c'.1 39 (4 * n + 3) = nI 0) (hc39' : ∀ k, k < 4 * n → c'.1 39 k = c.1 39 k) (hm : ∀ o k, ¬ ((o = 27 ∧ k = 0) ∨ (32 ≤ o ∧ o ≤ 35 ∧ k = n)) → m'.1 o k = m.1 o k) (hm27 : m'.1 27 0 = nI (n + 1)) (hmn : m'.1 32 n = nI p ∧ m'.1 33 n = nI s ∧ m'.1 34 n = nI dd ∧ m'.1 35 n = nI 0) : TS c' m' T 35 0 := by
  have h0 := h
  obtain ⟨hT, ht, hf, hp0, hW, hR, hWS, hRS⟩ := id h
  obtain ⟨⟨⟨vP, bP⟩, ⟨vS, bS⟩, ⟨vD, bD⟩, ⟨vN, bN⟩, ⟨vW, bW⟩, ⟨vRoom, bRoom⟩, bRoom1, ⟨vStorm, bStorm⟩, ⟨vSeed, bSeed⟩, ⟨vK, bK⟩⟩, wPence, wSort, wDeed, wSend, wWant, wLaw⟩ := id hW
  obtain ⟨⟨⟨vDay, bDay⟩, ⟨vLast, bLast⟩, ⟨vSends, bSends⟩⟩, sPence, sHL, sPerm1, sPerm2, sSend, sWant, sOwn⟩ := id hWS
  obtain ⟨rCnt, rMan, rSort, rDeed, ⟨rT6, rT8, rT10, rT11, rT12, rT93⟩, rSent, rWanted, rLaw, rCode⟩ := id hR
  obtain ⟨⟨eDay, eLast, eStorms, eSends⟩, ePence, eHL, eSend, eWant⟩ := id hRS
  have e0 := rCnt 0 (by omega)
  have e1 := rCnt 1 (by omega)
  have e2 := rCnt 2 (by omega)
  have gd := fun {α : Type} {k : Nat → Option α} => g_drT (k := k) hp0 hT
  have hTl := isT_le hT
  have hm2 : ∀ o, 2 ≤ o → o ≤ 21 → m'.1 o = m.1 o := fun o a b => by funext k; exact hm o k (by omega)
  have hv : ∀ k, vl m' 2 k = vl m 2 k := fun k => by unfold vl; rw [hm2 2 (by omega) (by omega)]
  have h27 : vl m' 27 0 = n + 1 := vl_of hm27 (by omega)
  have hvl : ∀ o k, ¬ ((o = 27 ∧ k = 0) ∨ (32 ≤ o ∧ o ≤ 35 ∧ k = n)) → vl m' o k = vl m o k := fun o k z => by unfold vl; rw [hm o k z]
  refine ⟨hT, ht, hf, by rw [hr]; exact hp0, WT_fr hW hm2, RT_fr hR (fun o a b => hc o (by omega) (by omega)) hm2, ⟨⟨?_, ?_, ?_⟩, fun q hq => ?_, fun i hi => ⟨?_, ?_⟩, fun x q hx hq => ?_, fun x q y hx hq hy hxy => ?_, fun j hj => ?_, fun w hw => ?_, fun q x hq hx ho => ?_⟩, ⟨⟨?_, ?_, ?_, ?_⟩, fun q hq => ?_, fun i hi => ⟨?_, ?_⟩, fun j hj => ?_, fun w hw => ?_⟩⟩
  · exact rg_fr hWS.1.1 (hm _ _ (by omega))
  · exact rg_fr hWS.1.2.1 (hm _ _ (by omega))
  · exact rg_of hm27 (by omega) (by omega)
  · rw [hv] at hq
    exact rg_fr (sPence q hq) (hm _ _ (by omega))
  · exact rg_fr (sHL i hi).1 (hm _ _ (by omega))
  · exact rg_fr (sHL i hi).2 (hm _ _ (by omega))
  · rw [hv] at hq ⊢
    rw [hvl _ _ (by omega)]; exact sPerm1 x q hx hq
  · rw [hv] at hq hy
    rw [hvl _ _ (by omega), hvl _ _ (by omega)] at hxy
    exact sPerm2 x q y hx hq hy hxy
  · rw [h27] at hj
    rw [hv, hv, show 12 * 0 + j = j by omega]
    by_cases e : j = n
    · subst e
      rw [vl_of hmn.1 (by omega), vl_of hmn.2.1 (by omega)]
      exact ⟨rg_of hmn.1 (by omega) (by omega), hp, rg_of hmn.2.1 (by omega) (by omega), hs, rg_of hmn.2.2.1 hdd (by omega), rg_of hmn.2.2.2 (by omega) (by omega)⟩
    · obtain ⟨a1, a2, a3, a4, a5, a6⟩ := sSend j (by omega)
      rw [show 12 * 0 + j = j by omega] at a1 a2 a3 a4 a5 a6
      rw [hvl 32 j (by omega), hvl 33 j (by omega)]
      exact ⟨rg_fr a1 (hm _ _ (by omega)), a2, rg_fr a3 (hm _ _ (by omega)), a4, rg_fr a5 (hm _ _ (by omega)), rg_fr a6 (hm _ _ (by omega))⟩
  · exact rg_fr (sWant w hw) (hm _ _ (by omega))
  · rw [hv, hv] at ho
    rw [hm _ _ (by omega)]; exact sOwn q x hq hx ho
  · rw [hc35, if_neg (by omega), hm _ _ (by omega)]; exact eDay
  · rw [hc35, if_neg (by omega), hm _ _ (by omega)]; exact eLast
  · rw [hc35, if_neg (by omega), hm _ _ (by omega)]; exact eStorms
  · rw [hc35, if_pos rfl, hm27]
  · rw [hv] at hq
    rw [hc _ (by omega) (by omega), hm _ _ (by omega)]; exact ePence q hq
  · intro hi2
    rw [hv] at hi2
    rw [hc _ (by omega) (by omega), hm _ _ (by omega)]; exact (eHL i hi).1 hi2
  · rw [hc _ (by omega) (by omega), hm _ _ (by omega)]; exact (eHL i hi).2
  · rw [h27] at hj
    rw [show 12 * 0 + j = j by omega]
    by_cases e : j = n
    · subst e
      show c'.1 39 _ = _ ∧ c'.1 39 _ = _ ∧ c'.1 39 _ = _ ∧ c'.1 39 _ = _
      rw [hmn.1, hmn.2.1, hmn.2.2.1, hmn.2.2.2]; exact hc39
    · have a := eSend j (by omega)
      rw [show 12 * 0 + j = j by omega] at a
      show c'.1 39 _ = _ ∧ c'.1 39 _ = _ ∧ c'.1 39 _ = _ ∧ c'.1 39 _ = _
      rw [hc39' _ (by omega), hc39' _ (by omega), hc39' _ (by omega), hc39' _ (by omega), hm 32 j (by omega), hm 33 j (by omega), hm 34 j (by omega), hm 35 j (by omega)]; exact a
  · rw [hc _ (by omega) (by omega), hm _ _ (by omega)]; exact eWant w hw
theorem q_set {n k : Nat} (hn : n < 12) (hk : k < 4) (v : Int32) : f7_setSending F 35 (nI n) (nI k) v c = some (g_sI c 39 (4 * n + k) v) := by
  unfold f7_setSending
  rw [g_l4, pk_mul, nI_add, Nat.mul_comm n 4, g_ckN (by omega) (by omega), g_clN (by omega)]
  rfl
theorem q_putS {n : Nat} (hn : n < 12) (h7 : c.1 35 7 = nI n) (a1 a2 a3 : Int32) : f7_putSending F 35 a1 a2 a3 c = some (g_sI (g_sI (g_sI (g_sI (g_sI c 39 (4 * n + 0) a1) 39 (4 * n + 1) a2) 39 (4 * n + 2) a3) 39 (4 * n + 3) (nI 0)) 35 7 (nI (n + 1))) := by
  have e : ∀ b v (w : g_M), (g_sI w 39 b v).1 35 7 = w.1 35 7 := fun b v w => by rw [sI_o (by omega)]
  unfold f7_putSending
  rw [h7, g_l0, q_set hn (by omega), g_bs, e, h7, g_l1, q_set hn (by omega), g_bs, e, e, h7, g_l2, q_set hn (by omega), g_bs, e, e, e, h7, g_l3, q_set hn (by omega), g_bs, e, e, e, e, h7, nI_add]
  rfl
theorem s_send (hF : 5000 < F) (h : INV c m) (a1 a2 a3 : Int32) : CALL (f10_send F a1 a2 a3 c) (f11_send F a1 a2 a3 m) := by
  refine call_of h (fun T S m1 hV hC hI hTa hFl hA hS hG => ?_)
  have hTS := hG.1
  have hTS0 := hTS
  obtain ⟨hT, ht, hf, hp0, hW, hR, hWS, hRS⟩ := id hTS
  obtain ⟨⟨⟨vP, bP⟩, ⟨vS, bS⟩, ⟨vD, bD⟩, ⟨vN, bN⟩, ⟨vW, bW⟩, ⟨vRoom, bRoom⟩, bRoom1, ⟨vStorm, bStorm⟩, ⟨vSeed, bSeed⟩, ⟨vK, bK⟩⟩, wPence, wSort, wDeed, wSend, wWant, wLaw⟩ := id hW
  obtain ⟨⟨⟨vDay, bDay⟩, ⟨vLast, bLast⟩, ⟨vSends, bSends⟩⟩, sPence, sHL, sPerm1, sPerm2, sSend, sWant, sOwn⟩ := id hWS
  obtain ⟨rCnt, rMan, rSort, rDeed, ⟨rT6, rT8, rT10, rT11, rT12, rT93⟩, rSent, rWanted, rLaw, rCode⟩ := id hR
  obtain ⟨⟨eDay, eLast, eStorms, eSends⟩, ePence, eHL, eSend, eWant⟩ := id hRS
  have e0 := rCnt 0 (by omega)
  have e1 := rCnt 1 (by omega)
  have e2 := rCnt 2 (by omega)
  have gd := fun {α : Type} {k : Nat → Option α} => g_drT (k := k) hp0 hT
  unfold f10_send
  by_cases ha : okI a1 (vl m1 2 0)
  rotate_left
  · rw [q_part0 hG (fun z => ha z.1), r_man0 hW ha, g_bs, g_bs, if_pos nI00, if_pos nI00]; exact ⟨_, _, _, rfl, rfl, hV⟩
  obtain ⟨p, hp, rfl⟩ := ha
  rw [r_man1 hW hp, g_bs, if_neg nI10]
  by_cases hb : okI a2 (vl m1 2 1)
  rotate_left
  · rw [q_part0 hG (fun z => hb z.2), r_sort0 hW hb, g_bs, g_bs, if_pos nI00, if_pos nI00]; exact ⟨_, _, _, rfl, rfl, hV⟩
  obtain ⟨s, hs, rfl⟩ := hb
  rw [q_part1 hG hp hs, r_sort1 hW hs, g_bs, g_bs, if_neg nI10, if_neg nI10]
  have ck0 : ∀ k : Option (Int32 × g_M), g_ck (0 : Int32) 23 k = k := fun k => g_ckN (x := 0) (by omega) (by omega)
  have cl0 : (0 : Int32).toNatClampNeg = 0 := rfl
  simp only [ck0, cl0]
  rw [eDay, eSends, vSends]
  have hdv := vDay
  generalize hn : vl m1 27 0 = n at *
  by_cases z1 : m1.1 24 0 ≤ a3
  rotate_left
  · rw [if_neg z1, if_neg z1]; exact ⟨_, _, _, rfl, rfl, hV⟩
  rw [if_pos z1, if_pos z1]
  by_cases z2 : a3 ≤ (9999 : Int32)
  rotate_left
  · rw [if_neg z2, if_neg z2]; exact ⟨_, _, _, rfl, rfl, hV⟩
  rw [if_pos z2, if_pos z2]
  obtain ⟨dd, hd2, rfl⟩ : ∃ d, d ≤ 9999 ∧ a3 = nI d := by
    rw [hdv] at z1
    rcases i_cases a3 with y | ⟨k, hk, rfl⟩
    · have z3 := Int32.le_trans (nI_ge0 (k := vl m1 24 0) (by omega)) z1
      exact absurd z3 (lt0_nle y)
    · exact ⟨k, (g_leN (b := 9999) hk (by omega)).mp z2, rfl⟩
  by_cases h12 : n = 12
  · rw [h12, if_pos (show (12 : Int32) ≤ nI 12 by decide), if_pos (show nI 12 = (12 : Int32) from rfl)]; exact ⟨_, _, _, rfl, rfl, hV⟩
  have hlt : n < 12 := by omega
  rw [if_neg (show ¬ (12 : Int32) ≤ nI n from fun z => by have := (g_leN (a := 12) (by omega) (by omega)).mp z; omega), if_neg (show ¬ nI n = (12 : Int32) from fun z => h12 ((g_eqN (b := 12) (by omega) (by omega)).mp z))]
  obtain ⟨u, d, h67, h52, hd⟩ := LOG_u hC
  obtain ⟨m2, k0, k1, k2, k4, k5⟩ := r_keepNow hF h52 hd
  have e7 : c.1 35 7 = nI n := by rw [eSends]; exact vSends
  obtain ⟨c2, hc2⟩ : ∃ x, x = g_sI (g_sI (g_sI (g_sI (g_sI c 39 (4 * n + 0) (nI p)) 39 (4 * n + 1) (nI s)) 39 (4 * n + 2) (nI dd)) 39 (4 * n + 3) (nI 0)) 35 7 (nI (n + 1)) := ⟨_, rfl⟩
  have hput : f7_putSending F 35 (nI p) (nI s) (nI dd) c = some c2 := by rw [hc2]; exact q_putS hlt e7 _ _ _
  have x1 : c2.2.2 = c.2.2 := by rw [hc2]; rfl
  have x2 : ∀ o, o ≠ 35 → o ≠ 39 → c2.1 o = c.1 o := fun o z y => by rw [hc2, sI_o z, sI_o y, sI_o y, sI_o y, sI_o y]
  have x3 : ∀ k, c2.1 35 k = if k = 7 then nI (n + 1) else c.1 35 k := fun k => by rw [hc2, sI_at, sI_o (by omega), sI_o (by omega), sI_o (by omega), sI_o (by omega)]
  have x4 : c2.1 39 (4 * n) = nI p ∧ c2.1 39 (4 * n + 1) = nI s ∧ c2.1 39 (4 * n + 2) = nI dd ∧ c2.1 39 (4 * n + 3) = nI 0 := by
    refine ⟨?_, ?_, ?_, ?_⟩
    · rw [hc2, sI_o (by omega), sI_ne (by omega), sI_ne (by omega), sI_ne (by omega)]; exact sI_eq
    · rw [hc2, sI_o (by omega), sI_ne (by omega), sI_ne (by omega), sI_eq]
    · rw [hc2, sI_o (by omega), sI_ne (by omega), sI_eq]
    · rw [hc2, sI_o (by omega), sI_eq]
  have x5 : ∀ k, k < 4 * n → c2.1 39 k = c.1 39 k := fun k hk => by rw [hc2, sI_o (by omega), sI_ne (by omega), sI_ne (by omega), sI_ne (by omega), sI_ne (by omega)]
  clear hc2
  obtain ⟨c3, p0, p1, p2, p3, p4, p5⟩ := q_note (F := F) (c := c2) (u := u) (d := d) (by rw [x2 67 (by omega) (by omega)]; exact h67) hd (0 : Int32) (0 : Int32) (0 : Int32) (0 : Int32)
  have e27 : m2.1 27 0 = nI n := by rw [FRK_D k2 (by omega) in27]; exact vSends
  rw [hput, k0, g_bs, g_bs, p0, g_bs, e27]
  simp (disch := omega) only [g_let, g_ckN, g_clN]
  obtain ⟨m3, hm3⟩ : ∃ x, x = g_sI (g_sI (g_sI (g_sI (g_sI m2 32 n (nI p)) 33 n (nI s)) 34 n (nI dd)) 35 n (0 : Int32)) 27 0 (nI (n + 1)) := ⟨_, rfl⟩
  have y0 : (g_sI (g_sI (g_sI (g_sI m2 32 n (nI p)) 33 n (nI s)) 34 n (nI dd)) 35 n (0 : Int32)).1 27 0 = nI n := by rw [sI_o (by omega), sI_o (by omega), sI_o (by omega), sI_o (by omega)]; exact e27
  rw [y0, g_l1, nI_add, ← hm3]
  have y1 : m3.2.2 = m2.2.2 := by rw [hm3]; rfl
  have y2 : ∀ o k, ¬ ((o = 27 ∧ k = 0) ∨ (32 ≤ o ∧ o ≤ 35 ∧ k = n)) → m3.1 o k = m2.1 o k := fun o k z => by rw [hm3, sI_ne (by omega), sI_ne (by omega), sI_ne (by omega), sI_ne (by omega), sI_ne (by omega)]
  have y3 : m3.1 27 0 = nI (n + 1) := by rw [hm3, sI_eq]
  have y4 : m3.1 32 n = nI p ∧ m3.1 33 n = nI s ∧ m3.1 34 n = nI dd ∧ m3.1 35 n = nI 0 := by
    refine ⟨?_, ?_, ?_, ?_⟩
    · rw [hm3, sI_o (by omega), sI_o (by omega), sI_o (by omega), sI_o (by omega), sI_eq]
    · rw [hm3, sI_o (by omega), sI_o (by omega), sI_o (by omega), sI_eq]
    · rw [hm3, sI_o (by omega), sI_o (by omega), sI_eq]
    · rw [hm3, sI_o (by omega), sI_eq]; rfl
  clear hm3
  have v2 : ∀ k, vl m2 2 k = vl m1 2 k := fun k => by unfold vl; rw [k2.2 2 k (fun g _ _ z => by have := z.1; omega) (by omega)]
  have hTS3 : TS c2 m3 T 35 0 := TS_send (TS_frk hTS0 k2) (vl_of e27 (by omega)) hlt (by rw [v2]; exact hp) (by rw [v2]; exact hs) (by omega) x1 x2 x3 x4 x5 y2 y3 y4
  refine ⟨nI n, c3, m3, ?_, rfl, INV_op (c2 := c2) hC hI hTa hFl hA hS hd h67 x1 (fun o ho => x2 o (by omega) (by omega)) p1 p2 p3 p4 p5 k1 k2 k4 k5 y1 (fun o k hk => y2 o k (fun z => hk ?_)) (y2 24 0 (by omega)) (Or.inl rfl) ?_ hTS3⟩
  · rw [p2 35 (by omega) (by omega), x3, if_pos rfl, g_subN (by omega), Nat.add_sub_cancel]
  · rcases z with ⟨z1, z2⟩ | ⟨z1, z2, z3⟩
    · subst z1; subst z2; exact in27
    · subst z3
      have e : 12 * 0 + k = k := by omega
      rcases (show o = 32 ∨ o = 33 ∨ o = 34 ∨ o = 35 by omega) with rfl | rfl | rfl | rfl
      · have := in32 (f := 0) (p := k) hlt; rw [e] at this; exact this
      · have := in33 (f := 0) (p := k) hlt; rw [e] at this; exact this
      · have := in34 (f := 0) (p := k) hlt; rw [e] at this; exact this
      · have := in35 (f := 0) (p := k) hlt; rw [e] at this; exact this
  · have eu : und1 ((0 : Int32), (0 : Int32), (0 : Int32), (0 : Int32)) c2 = g_sI c2 35 7 (nI n) := by
      unfold und1
      rw [if_pos (show (0 : Int32) = nI 0 from rfl), x3, if_pos rfl, g_subN (by omega), Nat.add_sub_cancel]
    rw [eu]
    have hTl := isT_le hT
    refine ⟨by show c2.2.2 35 0 = _; rw [x1], fun o a b => by rw [sI_o (by omega), x2 o (by omega) (by omega)], fun o ho k => ?_, fun k hk => ?_⟩
    · by_cases z : o = 35
      · subst z
        rw [sI_at, x3]
        by_cases y : k = 7
        · rw [if_pos y, y]; exact e7.symm
        · rw [if_neg y, if_neg y]
      · rw [sI_o z, x2 o z (by omega)]
    · rw [e7, g_clN (by omega)] at hk
      rw [sI_o (by omega)]; exact x5 k hk
theorem q_at {i k : Nat} (hi : i < 20) (hk : k < 4) : f3_at F (nI i) (nI k) c = some (c.1 68 (4 * i + k)) := by
  unfold f3_at
  rw [g_l4, pk_mul, nI_add, Nat.mul_comm i 4, g_ckN (by omega) (by omega), g_clN (by omega)]
theorem q_undo {u : Nat} (hu : u < 20) (h67 : c.1 67 0 = nI (u + 1)) (hr : rowOK (row c u)) : f10_undo F c = some (nI u, und1 (row c u) (g_sI c 67 0 (nI u))) := by
  obtain ⟨c1, hc1⟩ : ∃ x, x = g_sI c 67 0 (nI u) := ⟨_, rfl⟩
  have e67 : c1.1 67 0 = nI u := by rw [hc1, sI_eq]
  have e68 : c1.1 68 = c.1 68 := by rw [hc1, sI_o (by omega)]
  have n1 : ¬ nI (u + 1) < (1 : Int32) := fun z => by have := (g_ltN (b := 1) (by omega) (by omega)).mp z; omega
  have es : nI (u + 1) - (1 : Int32) = nI u := by rw [g_l1, g_subN (by omega), Nat.add_sub_cancel]
  have a1 : f3_at F (nI u) (1 : Int32) c1 = some (row c u).2.1 := by rw [g_l1, q_at hu (by omega), e68]; rfl
  have a2 : f3_at F (nI u) (2 : Int32) c1 = some (row c u).2.2.1 := by rw [g_l2, q_at hu (by omega), e68]; rfl
  have a0 : f3_at F (nI u) (0 : Int32) c1 = some (row c u).1 := by rw [g_l0, q_at hu (by omega), e68]; rfl
  have a3 : f3_at F (nI u) (3 : Int32) c1 = some (row c u).2.2.2 := by rw [g_l3, q_at hu (by omega), e68]; rfl
  generalize hrr : row c u = r at *
  obtain ⟨r0, r1, r2, r3⟩ := r
  simp only at a0 a1 a2 a3
  have fin : ∀ x : g_M, x.1 67 0 = nI u → f10_undo_b169 F x = some (nI u, x) := fun x hx => by unfold f10_undo_b169; rw [hx]
  have f67 : (und1 (r0, r1, r2, r3) c1).1 67 0 = nI u := by rw [und1_o _ _ (by omega)]; exact e67
  have hs : f10_undo F c = (if r0 = (0 : Int32) then (g_let (g_sI c1 35 7 ((c1.1 35 7) - (1 : Int32))) (fun m7 => f10_undo_b169 F m7)) else (if r0 = (1 : Int32) then ((f7_setSending F 35 r1 (3 : Int32) (0 : Int32) c1).bind (fun r9 => f10_undo_b169 F r9)) else (if r0 = (2 : Int32) then ((f3_at F (c1.1 67 0) (3 : Int32) c1).bind (fun r11 => (f7_exchange F 35 r1 r2 r11 c1).bind (fun r12 => f10_undo_b169 F r12))) else (g_ck r1 5 (g_ck r1 5 (g_let (g_sI c1 36 r1.toNatClampNeg ((c1.1 36 r1.toNatClampNeg) - r2)) (fun m15 => f10_undo_b169 F m15))))))) := by
    unfold f10_undo
    rw [h67, if_neg n1, es, g_let_e, ← hc1, e67, a1, g_bs, a2, g_bs, a0, g_bs]
  rw [hs, ← hc1]
  rcases hr with z | ⟨z, n, hn, z2⟩ | ⟨z, p, q, s, hp, hq, hs', z2, z3, z4⟩ | ⟨z, p, hp, z2⟩
  · simp only at z
    subst z
    rw [if_pos nI00, g_let_e]
    exact fin _ f67
  · simp only at z z2
    subst z; subst z2
    have e1 : f7_setSending F 35 (nI n) (3 : Int32) (0 : Int32) c1 = some (und1 (nI 1, nI n, r2, r3) c1) := by
      rw [g_l3, q_set hn (by omega)]
      unfold und1
      rw [if_neg (show ¬ nI 1 = nI 0 by decide), if_pos rfl]
      show _ = some (g_sI c1 39 (4 * (nI n).toNatClampNeg + 3) (nI 0))
      rw [g_clN (by omega)]; rfl
    rw [if_neg nI10, if_pos (show nI 1 = (1 : Int32) from rfl), e1, g_bs]
    exact fin _ f67
  · simp only at z z2 z3 z4
    subst z; subst z2; subst z3; subst z4
    have ep : nI p * (5 : Int32) + nI s = nI (5 * p + s) := by rw [g_l5, pk_mul, nI_add, Nat.mul_comm]
    have eq : nI q * (5 : Int32) + nI s = nI (5 * q + s) := by rw [g_l5, pk_mul, nI_add, Nat.mul_comm]
    have e1 : f7_exchange F 35 (nI p) (nI q) (nI s) c1 = some (und1 (nI 2, nI p, nI q, nI s) c1) := by
      unfold f7_exchange und1
      rw [ep, eq, if_neg (show ¬ nI 2 = nI 0 by decide), if_neg (show ¬ nI 2 = nI 1 by decide), if_pos rfl]
      simp (disch := omega) only [g_let, g_ckN, g_clN]
    rw [if_neg (show ¬ nI 2 = (0 : Int32) by decide), if_neg (show ¬ nI 2 = (1 : Int32) by decide), if_pos (show nI 2 = (2 : Int32) from rfl), e67, a3, g_bs, e1, g_bs]
    exact fin _ f67
  · simp only at z z2
    subst z; subst z2
    have e1 : g_sI c1 36 (nI p).toNatClampNeg ((c1.1 36 (nI p).toNatClampNeg) - r2) = und1 (nI 3, nI p, r2, r3) c1 := by
      unfold und1
      rw [if_neg (show ¬ nI 3 = nI 0 by decide), if_neg (show ¬ nI 3 = nI 1 by decide), if_neg (show ¬ nI 3 = nI 2 by decide)]
    rw [if_neg (show ¬ nI 3 = (0 : Int32) by decide), if_neg (show ¬ nI 3 = (1 : Int32) by decide), if_neg (show ¬ nI 3 = (2 : Int32) by decide), g_ckN (by omega) (by omega), g_ckN (by omega) (by omega), g_let_e, e1]
    exact fin _ f67
theorem s_undo (hF : 5000 < F) (h : INV c m) : CALL (f10_undo F c) (f11_undo F m) := by
  refine call_of h (fun T S m1 hV hC hI hTa hFl hA hS hG => ?_)
  obtain ⟨q1, q2, q3, q4, q5, q6, ⟨u', u1, u2, u3, u4, u5⟩, q8⟩ := id hC
  rw [u3]
  cases u' with
  | zero =>
    unfold f10_undo
    rw [u2, if_pos (show nI 0 < (1 : Int32) by decide), if_pos nI00]; exact ⟨_, _, _, rfl, rfl, hV⟩
  | succ u =>
    have hT := q4.1
    have hTl := isT_le hT
    have es : nI (u + 1) - (1 : Int32) = nI u := by rw [g_l1, g_subN (by omega), Nat.add_sub_cancel]
    rw [q_undo (by omega) u2 (u4 u (by omega)), if_neg (show ¬ nI (u + 1) = (0 : Int32) from fun z => by have := (g_eqN (b := 0) (by omega) (by omega)).mp z; omega), es]
    simp only [g_let]
    have e52 : (g_sI m1 0 52 (nI u)).1 0 52 = nI u := sI_eq
    rw [e52, g_l3, nI_add]
    obtain ⟨m2, j1, j2, j3⟩ := r_copies (F := F) (m := g_sI m1 0 52 (nI u)) hF (a := 3 + u) (b := 0) (by omega) (by omega) (by omega)
    have j1' : f11_copies F (0 : Int32) (nI (3 + u)) (g_sI m1 0 52 (nI u)) = some m2 := j1
    rw [j1', g_bs]
    have n0 : ∀ k, ¬ inD 0 k 0 := fun k z => by have := z.1; omega
    have f52 : m2.1 0 52 = nI u := by rw [j2.2 0 52 (n0 52)]; exact e52
    rw [f52]
    obtain ⟨c2, hc2⟩ : ∃ x, x = und1 (row c u) (g_sI c 67 0 (nI u)) := ⟨_, rfl⟩
    rw [← hc2]
    have x1 : c2.2.2 = c.2.2 := by rw [hc2, und1_ref]; rfl
    have x2 : ∀ o, o ≠ 67 → ¬ (35 ≤ o ∧ o ≤ 39) → c2.1 o = c.1 o := fun o z y => by rw [hc2, und1_o _ _ (by omega), sI_o z]
    have x67 : c2.1 67 0 = nI u := by rw [hc2, und1_o _ _ (by omega), sI_eq]
    have x3 : ∀ o, 35 ≤ o → o ≤ 40 → c2.1 o = (unds c (u + 1) 1 c).1 o := by
      intro o a b
      rw [hc2]
      exact und1_fr (c := c) (c' := g_sI c 67 0 (nI u)) (row c u) (fun o a b => sI_o (by omega)) o a b
    clear hc2
    have hm : ∀ o k, ¬ inD o k 0 → ¬ (o = 0 ∧ k = 52) → m2.1 o k = m1.1 o k := fun o k z1 z2 => by rw [j2.2 o k z1, sI_ne z2]
    have hm' : ∀ o, 1 ≤ o → o ≤ 23 ∨ 36 ≤ o → m2.1 o = m1.1 o := fun o a b => by funext k; exact hm o k (fun z => by have := z.1; have := z.2.1; omega) (by omega)
    have hs : SAME m1 m2 0 (3 + u) := SAME_tr (m := g_sI m1 0 52 (nI u)) (SAME_id (fun o k hk => by rw [sI_o (by have := hk.1; omega)])) j3
    obtain ⟨y1, y2⟩ := unds_ref c (u + 1) c 1
    have key : ∀ j, ∀ o, 35 ≤ o → o ≤ 40 → (unds c2 u j c2).1 o = (unds c (u + 1) (j + 1) c).1 o := by
      intro j
      induction j with
      | zero => exact x3
      | succ j ih =>
        intro o a b
        have er : row c2 (u - 1 - j) = row c (u + 1 - 1 - (j + 1)) := by
          rw [show u + 1 - 1 - (j + 1) = u - 1 - j by omega]
          unfold row
          rw [x2 68 (by omega) (by omega)]
        show (und1 (row c2 (u - 1 - j)) (unds c2 u j c2)).1 o = (und1 (row c (u + 1 - 1 - (j + 1))) (unds c (u + 1) (j + 1) c)).1 o
        rw [er]
        exact und1_fr _ ih o a b
    have h0 := u5 0 (by omega)
    have hTS2 : TS c2 m2 T 35 0 := by
      refine TS_eqs h0.1 (EQS_of ?_ (fun o a b => ?_) x3) (by omega) (fun o a b => hm' o (by omega) (by omega)) hs
      · rw [x1, y1]
      · rw [x2 o (by omega) (by omega), y2 o (by omega)]
    refine ⟨nI u, c2, m2, rfl, rfl, INV_of ⟨q1, by rw [x1]; exact q2, by rw [x1]; exact q3, hTS2, ?_, ?_, ⟨u, by omega, x67, f52, fun i hi => ?_, fun j hj => ⟨?_, ?_⟩⟩, ?_⟩ (IMG_fr hI hT (by rw [x1]) (fun o ho => x2 o (by omega) (by omega)) (by rw [x2 0 (by omega) (by omega)]) (fun o a b => hm' o (by omega) (by omega)) (fun o k hk => hm o k (inD_ne hk (by omega)) (by have := hk.1; omega)) (hm 0 51 (n0 51) (by omega))) (TAPE_fr hTa (by rw [x2 0 (by omega) (by omega)]) (x2 1 (by omega) (by omega)) (hm 0 2 (n0 2) (by omega)) (hm' 1 (by omega) (by omega))) (FLT_fr hFl (by rw [x2 0 (by omega) (by omega)]) (by rw [x2 0 (by omega) (by omega)]) (hm 0 32 (n0 32) (by omega)) (hm 0 33 (n0 33) (by omega))) (AB_fr hA (x2 54 (by omega) (by omega)) (by rw [x2 53 (by omega) (by omega)]) (hm 0 56 (n0 56) (by omega))) (SEEN_fr hS (fun o a b => x2 o (by omega) (by omega)) (hm 0 65 (n0 65) (by omega)) (hm 0 66 (n0 66) (by omega)) (fun o a b => hm' o (by omega) (by omega)))⟩
    · have : vl m2 24 0 = vl m1 24 (3 + u) := by unfold vl; rw [hs.1 24 (by omega) (by omega)]
      rw [this]; exact h0.2
    · rw [hm 0 53 (n0 53) (by omega), hm 0 55 (n0 55) (by omega)]; exact q6
    · have : row c2 i = row c i := by unfold row; rw [x2 68 (by omega) (by omega)]
      rw [this]; exact u4 i (by omega)
    · have hx := (u5 (j + 1) (by omega)).1
      rw [show u + 1 - 1 - (j + 1) = u - 1 - j by omega] at hx
      obtain ⟨w1, w2⟩ := unds_ref c2 u c2 (j + 1)
      obtain ⟨v1, v2⟩ := unds_ref c (u + 1) c (j + 1 + 1)
      refine TS_frD hx ?_ (fun o a b => ?_) (fun o k a b => ?_) (fun o a b => hm' o (by omega) (by omega)) (fun o k hk => hm o k (inD_ne hk (by omega)) (by have := hk.1; omega))
      · rw [w1, v1, x1]
      · rw [w2 o (by omega), v2 o (by omega)]; exact x2 o (by omega) (by omega)
      · rw [key (j + 1) o a b]
    · have hx := (u5 (j + 1) (by omega)).2
      rw [show u + 1 - 1 - (j + 1) = u - 1 - j by omega] at hx
      have : vl m2 24 (3 + (u - 1 - j)) = vl m1 24 (3 + (u - 1 - j)) := by unfold vl; rw [hm 24 _ (inD_ne in24 (by omega)) (by omega)]
      rw [this]; exact hx
    · unfold WRD at q8 ⊢
      rw [x2 32 (by omega) (by omega)]; exact q8
end O
