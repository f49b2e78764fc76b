/-! sendings put, taken back, parts given back, pence lent, undone -/
section O
variable {F : Nat} {c m c' m' : g_M} {T S : Nat}
theorem INV_op {c2 m2 c3 m3 : g_M} {u d : Nat} {r : Int32 × Int32 × Int32 × Int32} (hC : COR c m T S) (hI : IMG c m T) (hTa : TAPE c m) (hFl : FLT c m) (hA : AB c m noA) (hS : SEEN c m)
    (hd : (u < 20 ∧ d = 0) ∨ (u = 20 ∧ d = 1)) (h67 : c.1 67 0 = nI u)
    (o1 : c2.2.2 = c.2.2) (o2 : ∀ o, ¬ (35 ≤ o ∧ o ≤ 40) → c2.1 o = c.1 o)
    (p1 : c3.2.2 = c2.2.2) (p2 : ∀ o, o ≠ 67 → o ≠ 68 → c3.1 o = c2.1 o) (p3 : c3.1 67 0 = nI (u + 1 - d)) (p4 : row c3 (u - d) = r) (p5 : ∀ i, i < u - d → row c3 i = row c2 (i + d))
    (k1 : m2.1 0 52 = nI (u + 1 - d)) (k2 : FRK m m2) (k4 : SAME m m2 (3 + (u - d)) 0) (k5 : ∀ i, i < u - d → SAME m m2 (3 + i) (3 + (i + d)))
    (w1 : m3.2.2 = m2.2.2) (w2 : ∀ o k, ¬ inD o k 0 → m3.1 o k = m2.1 o k) (w3 : m3.1 24 0 = m2.1 24 0)
    (hr : rowOK r) (he : EQS (und1 r c2) c T) (hTS : TS c2 m3 T 35 0) : INV c3 m3 := by
  obtain ⟨q1, q2, q3, q4, q5, q6, q7, q8⟩ := id hC
  obtain ⟨u', u1, u2, u3, u4, u5⟩ := q7
  have hT := q4.1
  have hTl := isT_le hT
  have eu : u' = u := by
    rw [h67] at u2
    exact ((g_eqN (by omega) (by omega)).mp u2).symm
  subst eu
  have n0 : ∀ k, ¬ inD 0 k 0 := fun k z => by have := z.1; omega
  have x3 : ∀ k, k ≠ 52 → m3.1 0 k = m.1 0 k := fun k hk => by rw [w2 0 k (n0 k)]; exact k2.2 0 k (fun g _ _ z => by have := z.1; omega) (by omega)
  have x3' : ∀ o, 1 ≤ o → o ≤ 23 ∨ 36 ≤ o → m3.1 o = m.1 o := fun o a b => by
    funext k
    rw [w2 o k (fun z => by have := z.1; have := z.2.1; omega)]
    exact k2.2 o k (fun g _ _ z => by have := z.1; have := z.2.1; omega) (by omega)
  have x2 : ∀ o k, inD o k 2 → m3.1 o k = m.1 o k := fun o k hk => by rw [w2 o k (inD_ne hk (by omega))]; exact FRK_D k2 (by omega) hk
  have y : ∀ o, o ≠ 67 → o ≠ 68 → ¬ (35 ≤ o ∧ o ≤ 40) → c3.1 o = c.1 o := fun o a b z => (p2 o a b).trans (o2 o z)
  have hTS3 : TS c3 m3 T 35 0 := TS_frD hTS (by rw [p1]) (fun o a b => p2 o (by omega) (by omega)) (fun o k a b => by rw [p2 o (by omega) (by omega)]) (fun _ _ _ => rfl) (fun _ _ _ => rfl)
  have he3 : EQS (und1 r c3) c T := by
    have z := und1_fr (c := c2) (c' := c3) r (fun o a b => p2 o (by omega) (by omega))
    obtain ⟨e1, e2, e3, e4⟩ := he
    refine ⟨by rw [und1_ref, p1, ← und1_ref r]; exact e1, fun o a b => ?_, fun o ho k => by rw [z o (by omega) (by omega)]; exact e3 o ho k, fun k hk => by rw [z 39 (by omega) (by omega)]; exact e4 k hk⟩
    rw [und1_o _ _ (by omega), p2 o (by omega) (by omega), ← und1_o r c2 (by omega)]; exact e2 o a b
  have sm : ∀ i a, SAME m m2 (3 + i) a → SAME m m3 (3 + i) a := fun i a h => SAME_tr h (SAME_id (fun o k hk => w2 o k (inD_ne hk (by omega))))
  refine INV_of ⟨q1, by rw [p1, o1]; exact q2, by rw [p1, o1]; exact q3, hTS3, ?_, ?_, ?_, ?_⟩ (IMG_fr hI hT (by rw [p1, o1]) (fun o ho => y o (by omega) (by omega) (by omega)) (by rw [y 0 (by omega) (by omega) (by omega)]) (fun o a b => x3' o (by omega) (by omega)) x2 (x3 51 (by omega))) (TAPE_fr hTa (by rw [y 0 (by omega) (by omega) (by omega)]) (y 1 (by omega) (by omega) (by omega)) (x3 2 (by omega)) (x3' 1 (by omega) (by omega))) (FLT_fr hFl (by rw [y 0 (by omega) (by omega) (by omega)]) (by rw [y 0 (by omega) (by omega) (by omega)]) (x3 32 (by omega)) (x3 33 (by omega))) (AB_fr hA (y 54 (by omega) (by omega) (by omega)) (by rw [y 53 (by omega) (by omega) (by omega)]) (x3 56 (by omega))) (SEEN_fr hS (fun o a b => y o (by omega) (by omega) (by omega)) (x3 65 (by omega)) (x3 66 (by omega)) (fun o a b => x3' o (by omega) (by omega)))
  · have : vl m3 24 0 = vl m 24 0 := by unfold vl; rw [w3, FRK_D k2 (by omega) in24]
    rw [this]; exact q5
  · rw [x3 53 (by omega), x3 55 (by omega)]; exact q6
  · refine LOG_push q4 q5 (by omega) hd u4 u5 p3 ?_ hr p4 (fun i hi => ?_) he3 (fun o a b => x3' o (by omega) (by omega)) (sm _ _ k4) (fun i hi => sm _ _ (k5 i hi))
    · rw [w2 0 52 (n0 52)]; exact k1
    · rw [p5 i hi]; unfold row; rw [o2 68 (by omega)]
  · unfold WRD at q8 ⊢
    rw [y 32 (by omega) (by omega) (by omega)]; exact q8
/-- the log's length, in both -/
theorem LOG_u (hC : COR c m T S) : ∃ u d, c.1 67 0 = nI u ∧ m.1 0 52 = nI u ∧ ((u < 20 ∧ d = 0) ∨ (u = 20 ∧ d = 1)) := by
  obtain ⟨_, _, _, _, _, _, ⟨u, u1, u2, u3, _⟩, _⟩ := hC
  rcases Nat.lt_or_ge u 20 with h | h
  · exact ⟨u, 0, u2, u3, Or.inl ⟨h, rfl⟩⟩
  · exact ⟨u, 1, u2, u3, Or.inr ⟨by omega, rfl⟩⟩
theorem TS_frk {m2 : g_M} (h : TS c m T 35 0) (hk : FRK m m2) : TS c m2 T 35 0 :=
  TS_frD h rfl (fun _ _ _ => rfl) (fun _ _ _ _ => rfl) (fun o a b => by funext k; exact hk.2 o k (fun g _ _ z => by have := z.1; omega) (by omega)) (fun o k hk2 => FRK_D hk (by omega) hk2)
theorem s_take (hF : 5000 < F) (h : INV c m) (a1 : Int32) : CALL (f10_take F a1 c) (f11_take F a1 m) := by
  refine call_of h (fun T S m1 hV hC hI hTa hFl hA hS hG => ?_)
  have hTS := hG.1
  have hTS0 := hTS
  obtain ⟨hT, ht, hf, hp0, hW, hR, hWS, hRS⟩ := id hTS
  obtain ⟨⟨⟨vP, bP⟩, ⟨vS, bS⟩, ⟨vD, bD⟩, ⟨vN, bN⟩, ⟨vW, bW⟩, ⟨vRoom, bRoom⟩, bRoom1, ⟨vStorm, bStorm⟩, ⟨vSeed, bSeed⟩, ⟨vK, bK⟩⟩, wPence, wSort, wDeed, wSend, wWant, wLaw⟩ := id hW
  obtain ⟨⟨⟨vDay, bDay⟩, ⟨vLast, bLast⟩, ⟨vSends, bSends⟩⟩, sPence, sHL, sPerm1, sPerm2, sSend, sWant, sOwn⟩ := id hWS
  obtain ⟨rCnt, rMan, rSort, rDeed, ⟨rT6, rT8, rT10, rT11, rT12, rT93⟩, rSent, rWanted, rLaw, rCode⟩ := id hR
  obtain ⟨⟨eDay, eLast, eStorms, eSends⟩, ePence, eHL, eSend, eWant⟩ := id hRS
  have e0 := rCnt 0 (by omega)
  have e1 := rCnt 1 (by omega)
  have e2 := rCnt 2 (by omega)
  have gd := fun {α : Type} {k : Nat → Option α} => g_drT (k := k) hp0 hT
  unfold f10_take
  by_cases ha : okI a1 (vl m1 27 0)
  rotate_left
  · rw [q_send0 hG ha, r_send0 hWS ha, g_bs, g_bs, if_pos nI00, if_pos nI00]; exact ⟨_, _, _, rfl, rfl, hV⟩
  obtain ⟨n, hn, rfl⟩ := ha
  have e3 := (eSend n hn).2.2.2
  rw [show 12 * 0 + n = n by omega] at e3
  have hq : f7_sendingAt F 35 (nI n) (3 : Int32) c = some (m1.1 35 n) := (q_sendingAt (F := F) hTS0 (n := n) (k := 3) (by omega) (by omega)).trans (congrArg some e3)
  rw [q_send1 hG hn, r_send1 hWS hn, g_bs, g_bs, if_neg nI10, if_neg nI10, hq, g_bs, g_ckN (by omega) (by omega), g_clN (by omega)]
  by_cases h0 : m1.1 35 n = (0 : Int32)
  rotate_left
  · rw [if_neg h0, if_neg h0]; exact ⟨_, _, _, rfl, rfl, hV⟩
  rw [if_pos h0, if_pos h0]
  obtain ⟨u, d, h67, h52, hd⟩ := LOG_u hC
  obtain ⟨m2, k0, k1, k2, k4, k5⟩ := r_keepNow hF h52 hd
  have hset : f7_setSending F 35 (nI n) (3 : Int32) (2 : Int32) c = some (g_sI c 39 (4 * n + 3) (2 : Int32)) := by
    unfold f7_setSending
    rw [g_l4, g_l3, pk_mul, nI_add, Nat.mul_comm n 4, g_ckN (by omega) (by omega), g_clN (by omega)]
    rfl
  obtain ⟨c3, p0, p1, p2, p3, p4, p5⟩ := q_note (F := F) (c := g_sI c 39 (4 * n + 3) (2 : Int32)) (u := u) (d := d) (by rw [sI_o (by omega)]; exact h67) hd (1 : Int32) (nI n) (0 : Int32) (0 : Int32)
  rw [hset, k0, g_bs, g_bs, p0, g_bs, g_ckN (by omega) (by omega)]
  have hc2 : TS (g_sI c 39 (4 * n + 3) (2 : Int32)) (g_sI m2 35 n (2 : Int32)) T 35 0 := by
    refine TS_how (n := n) (v := 2) (TS_frk hTS0 k2) (by omega) (by omega) rfl (fun o ho => sI_o (by omega)) (fun k => sI_at) (fun o ho => sI_o ho) (fun k => ?_)
    rw [show 12 * 0 + n = n by omega]; exact sI_at
  refine ⟨1, c3, g_sI m2 35 n (2 : Int32), rfl, rfl, INV_op (c2 := g_sI c 39 (4 * n + 3) (2 : Int32)) hC hI hTa hFl hA hS hd h67 rfl (fun o ho => sI_o (by omega)) p1 p2 p3 p4 p5 k1 k2 k4 k5 rfl (fun o k hk => sI_ne (fun z => ?_)) (by rw [sI_o (by omega)]) ?_ ?_ hc2⟩
  · obtain ⟨z1, z2⟩ := z
    subst z1; subst z2
    have := in35 (f := 0) (p := k) (by omega)
    rw [show 12 * 0 + k = k by omega] at this
    exact hk this
  · exact Or.inr (Or.inl ⟨rfl, n, by omega, rfl⟩)
  · have eu : und1 ((1 : Int32), nI n, (0 : Int32), (0 : Int32)) (g_sI c 39 (4 * n + 3) (2 : Int32)) = g_sI (g_sI c 39 (4 * n + 3) (2 : Int32)) 39 (4 * n + 3) (nI 0) := by
      unfold und1
      rw [if_neg (show ¬ (1 : Int32) = nI 0 by decide), if_pos (show (1 : Int32) = nI 1 from rfl)]
      show g_sI _ 39 (4 * (nI n).toNatClampNeg + 3) _ = _
      rw [g_clN (by omega)]
    rw [eu]
    have hTl := isT_le hT
    refine EQS_of rfl (fun o a b => by rw [sI_o (by omega), sI_o (by omega)]) (fun o a b => ?_)
    by_cases z : o = 39
    · subst z
      funext k
      rw [sI_at, sI_at]
      by_cases y : k = 4 * n + 3
      · rw [if_pos y, y]; exact (e3.trans h0).symm
      · rw [if_neg y, if_neg y]
    · rw [sI_o z, sI_o z]
theorem s_swap (hF : 5000 < F) (h : INV c m) (a1 a2 a3 : Int32) : CALL (f10_swap F a1 a2 a3 c) (f11_swap F a1 a2 a3 m) := by
  refine call_of h (fun T S m1 hV hC hI hTa hFl hA hS hG => ?_)
  have hTS := hG.1
  have hTS0 := hTS
  obtain ⟨hT, ht, hf, hp0, hW, hR, hWS, hRS⟩ := id hTS
  obtain ⟨⟨⟨vP, bP⟩, ⟨vS, bS⟩, ⟨vD, bD⟩, ⟨vN, bN⟩, ⟨vW, bW⟩, ⟨vRoom, bRoom⟩, bRoom1, ⟨vStorm, bStorm⟩, ⟨vSeed, bSeed⟩, ⟨vK, bK⟩⟩, wPence, wSort, wDeed, wSend, wWant, wLaw⟩ := id hW
  obtain ⟨⟨⟨vDay, bDay⟩, ⟨vLast, bLast⟩, ⟨vSends, bSends⟩⟩, sPence, sHL, sPerm1, sPerm2, sSend, sWant, sOwn⟩ := id hWS
  obtain ⟨rCnt, rMan, rSort, rDeed, ⟨rT6, rT8, rT10, rT11, rT12, rT93⟩, rSent, rWanted, rLaw, rCode⟩ := id hR
  obtain ⟨⟨eDay, eLast, eStorms, eSends⟩, ePence, eHL, eSend, eWant⟩ := id hRS
  have e0 := rCnt 0 (by omega)
  have e1 := rCnt 1 (by omega)
  have e2 := rCnt 2 (by omega)
  have gd := fun {α : Type} {k : Nat → Option α} => g_drT (k := k) hp0 hT
  unfold f10_swap
  by_cases hab : okI a1 (vl m1 2 0) ∧ okI a2 (vl m1 2 0) ∧ ¬ a1 = a2 ∧ okI a3 (vl m1 2 1)
  rotate_left
  · rw [q_two0 hG hab]
    refine ⟨_, _, _, rfl, ?_, hV⟩
    by_cases ha : okI a1 (vl m1 2 0)
    · obtain ⟨p, hp, rfl⟩ := id ha
      rw [r_man1 hW hp, g_bs, if_neg nI10]
      by_cases hb : okI a2 (vl m1 2 0)
      · obtain ⟨q, hq, rfl⟩ := id hb
        rw [r_man1 hW hq, g_bs, if_neg nI10]
        by_cases e : nI p = nI q
        · rw [if_pos e]
        · rw [if_neg e, r_sort0 hW (fun z => hab ⟨ha, hb, e, z⟩), g_bs, if_pos nI00]
      · rw [r_man0 hW hb, g_bs, if_pos nI00]
    · rw [r_man0 hW ha, g_bs, if_pos nI00]
  obtain ⟨⟨p, hp, rfl⟩, ⟨q, hq, rfl⟩, hne, ⟨s, hs, rfl⟩⟩ := hab
  have hpq : p ≠ q := fun z => hne (by rw [z])
  rw [q_two1 hG hp hq hs hne, r_man1 hW hp, g_bs, if_neg nI10, r_man1 hW hq, g_bs, if_neg nI10, if_neg hne, r_sort1 hW hs, g_bs, if_neg nI10]
  have ip := eHL (5 * p + s) (by omega)
  have iq := eHL (5 * q + s) (by omega)
  rw [show 25 * 0 + (5 * p + s) = 5 * p + s by omega] at ip
  rw [show 25 * 0 + (5 * q + s) = 5 * q + s by omega] at iq
  have ep : nI p * (5 : Int32) + nI s = nI (5 * p + s) := by rw [g_l5, pk_mul, nI_add, Nat.mul_comm]
  have eq : nI q * (5 : Int32) + nI s = nI (5 * q + s) := by rw [g_l5, pk_mul, nI_add, Nat.mul_comm]
  have ep' : (5 : Int32) * nI p + nI s = nI (5 * p + s) := by rw [g_l5, pk_mul, nI_add]
  have eq' : (5 : Int32) * nI q + nI s = nI (5 * q + s) := by rw [g_l5, pk_mul, nI_add]
  rw [ep, eq, ep', eq', g_ckN (by omega) (by omega), g_ckN (by omega) (by omega), g_ckN (by omega) (by omega), g_ckN (by omega) (by omega), g_clN (show 5 * p + s < 2147483648 by omega), g_clN (show 5 * q + s < 2147483648 by omega)]
  have ip2 : c.1 38 (5 * p + s) = m1.1 30 (5 * p + s) := ip.2
  have iq2 : c.1 38 (5 * q + s) = m1.1 30 (5 * q + s) := iq.2
  rw [ip2, iq2]
  by_cases hpt : m1.1 30 (5 * p + s) = m1.1 30 (5 * q + s)
  rotate_left
  · rw [if_neg hpt, if_neg hpt]; exact ⟨_, _, _, rfl, rfl, hV⟩
  rw [if_pos hpt, if_pos hpt]
  obtain ⟨u, d, h67, h52, hd⟩ := LOG_u hC
  obtain ⟨m2, k0, k1, k2, k4, k5⟩ := r_keepNow hF h52 hd
  have hset : f7_exchange F 35 (nI p) (nI q) (nI s) c = some (g_sI (g_sI c 37 (5 * p + s) (c.1 37 (5 * q + s))) 37 (5 * q + s) (c.1 37 (5 * p + s))) := by
    unfold f7_exchange
    rw [ep, eq]
    simp (disch := omega) only [g_let, g_ckN, g_clN]
  obtain ⟨c3, p0, p1, p2, p3, p4, p5⟩ := q_note (F := F) (c := g_sI (g_sI c 37 (5 * p + s) (c.1 37 (5 * q + s))) 37 (5 * q + s) (c.1 37 (5 * p + s))) (u := u) (d := d) (by rw [sI_o (by omega), sI_o (by omega)]; exact h67) hd (2 : Int32) (nI p) (nI q) (nI s)
  rw [hset, k0, g_bs, g_bs, p0, g_bs]
  simp (disch := omega) only [g_let, g_ckN]
  have hc2 : TS (g_sI (g_sI c 37 (5 * p + s) (c.1 37 (5 * q + s))) 37 (5 * q + s) (c.1 37 (5 * p + s))) (g_sI (g_sI m2 29 (5 * p + s) (m2.1 29 (5 * q + s))) 29 (5 * q + s) (m2.1 29 (5 * p + s))) T 35 0 := by
    have v2 : ∀ k, vl m2 2 k = vl m1 2 k := fun k => by unfold vl; rw [k2.2 2 k (fun g _ _ z => by have := z.1; omega) (by omega)]
    refine TS_hold (p := p) (q := q) (s := s) (TS_frk hTS0 k2) (by rw [v2]; exact hp) (by rw [v2]; exact hq) (by rw [v2]; exact hs) rfl (fun o ho => by rw [sI_o (by omega), sI_o (by omega)]) (fun k => ?_) (fun o ho => by rw [sI_o ho, sI_o ho]) (fun k => ?_)
    · show (g_sI (g_sI c 37 (5 * p + s) (c.1 37 (5 * q + s))) 37 (5 * q + s) (c.1 37 (5 * p + s))).1 37 k = _
      rw [sI_at, sI_at]
    · rw [show 25 * 0 + (5 * p + s) = 5 * p + s by omega, show 25 * 0 + (5 * q + s) = 5 * q + s by omega, sI_at, sI_at]
  have nd : ∀ o k, ¬ inD o k 0 → ∀ x, x < 25 → ¬ (o = 29 ∧ k = x) := fun o k hk x hx z => by
    obtain ⟨z1, z2⟩ := z
    subst z1; subst z2
    have := in29 (f := 0) (p := k) hx
    rw [show 25 * 0 + k = k by omega] at this
    exact hk this
  refine ⟨1, c3, g_sI (g_sI m2 29 (5 * p + s) (m2.1 29 (5 * q + s))) 29 (5 * q + s) (m2.1 29 (5 * p + s)), rfl, rfl, INV_op (c2 := g_sI (g_sI c 37 (5 * p + s) (c.1 37 (5 * q + s))) 37 (5 * q + s) (c.1 37 (5 * p + s))) hC hI hTa hFl hA hS hd h67 rfl (fun o ho => by rw [sI_o (by omega), sI_o (by omega)]) p1 p2 p3 p4 p5 k1 k2 k4 k5 rfl (fun o k hk => by rw [sI_ne (nd o k hk _ (by omega)), sI_ne (nd o k hk _ (by omega))]) (by rw [sI_o (by omega), sI_o (by omega)]) ?_ ?_ hc2⟩
  · exact Or.inr (Or.inr (Or.inl ⟨rfl, p, q, s, by omega, by omega, by omega, rfl, rfl, rfl⟩))
  · have eu : ∀ x : g_M, und1 ((2 : Int32), nI p, nI q, nI s) x = g_sI (g_sI x 37 (5 * p + s) (x.1 37 (5 * q + s))) 37 (5 * q + s) (x.1 37 (5 * p + s)) := by
      intro x
      unfold und1
      rw [if_neg (show ¬ (2 : Int32) = nI 0 by decide), if_neg (show ¬ (2 : Int32) = nI 1 by decide), if_pos (show (2 : Int32) = nI 2 from rfl)]
      show g_sI (g_sI x 37 (5 * (nI p).toNatClampNeg + (nI s).toNatClampNeg) (x.1 37 (5 * (nI q).toNatClampNeg + (nI s).toNatClampNeg))) 37 (5 * (nI q).toNatClampNeg + (nI s).toNatClampNeg) (x.1 37 (5 * (nI p).toNatClampNeg + (nI s).toNatClampNeg)) = _
      rw [g_clN (show p < 2147483648 by omega), g_clN (show q < 2147483648 by omega), g_clN (show s < 2147483648 by omega)]
    rw [eu]
    have hTl := isT_le hT
    refine EQS_of rfl (fun o a b => by rw [sI_o (by omega), sI_o (by omega), sI_o (by omega), sI_o (by omega)]) (fun o a b => ?_)
    by_cases z : o = 37
    · subst z
      funext k
      have n1 : ¬ (5 * p + s = 5 * q + s) := by omega
      have n2 : ¬ (5 * q + s = 5 * p + s) := by omega
      simp only [sI_at, if_neg n1, if_neg n2, if_true]
      by_cases y1 : k = 5 * q + s
      · rw [if_pos y1, y1]
      · rw [if_neg y1]
        by_cases y2 : k = 5 * p + s
        · rw [if_pos y2, y2]
        · rw [if_neg y2, if_neg y1, if_neg y2]
    · rw [sI_o z, sI_o z, sI_o z, sI_o z]
theorem s_lend (hF : 5000 < F) (h : INV c m) (a1 a2 : Int32) : CALL (f10_lend F a1 a2 c) (f11_lend F a1 a2 m) := by
  refine call_of h (fun T S m1 hV hC hI hTa hFl hA hS hG => ?_)
  have hTS := hG.1
  have hTS0 := hTS
  obtain ⟨hT, ht, hf, hp0, hW, hR, hWS, hRS⟩ := id hTS
  obtain ⟨⟨⟨vP, bP⟩, ⟨vS, bS⟩, ⟨vD, bD⟩, ⟨vN, bN⟩, ⟨vW, bW⟩, ⟨vRoom, bRoom⟩, bRoom1, ⟨vStorm, bStorm⟩, ⟨vSeed, bSeed⟩, ⟨vK, bK⟩⟩, wPence, wSort, wDeed, wSend, wWant, wLaw⟩ := id hW
  obtain ⟨⟨⟨vDay, bDay⟩, ⟨vLast, bLast⟩, ⟨vSends, bSends⟩⟩, sPence, sHL, sPerm1, sPerm2, sSend, sWant, sOwn⟩ := id hWS
  obtain ⟨rCnt, rMan, rSort, rDeed, ⟨rT6, rT8, rT10, rT11, rT12, rT93⟩, rSent, rWanted, rLaw, rCode⟩ := id hR
  obtain ⟨⟨eDay, eLast, eStorms, eSends⟩, ePence, eHL, eSend, eWant⟩ := id hRS
  have e0 := rCnt 0 (by omega)
  have e1 := rCnt 1 (by omega)
  have e2 := rCnt 2 (by omega)
  have gd := fun {α : Type} {k : Nat → Option α} => g_drT (k := k) hp0 hT
  unfold f10_lend
  by_cases ha : okI a1 (vl m1 2 0)
  rotate_left
  · rw [q_man0 hG ha, r_man0 hW ha, g_bs, g_bs, if_pos nI00, if_pos nI00]; exact ⟨_, _, _, rfl, rfl, hV⟩
  obtain ⟨p, hp, rfl⟩ := ha
  rw [q_man1 hG hp, r_man1 hW hp, g_bs, g_bs, if_neg nI10, if_neg nI10]
  by_cases z1 : (1 : Int32) ≤ a2
  rotate_left
  · rw [if_neg z1, if_neg z1]; exact ⟨_, _, _, rfl, rfl, hV⟩
  rw [if_pos z1, if_pos z1]
  by_cases z2 : a2 ≤ (99 : Int32)
  rotate_left
  · rw [if_neg z2, if_neg z2]; exact ⟨_, _, _, rfl, rfl, hV⟩
  rw [if_pos z2, if_pos z2]
  obtain ⟨y, hy1, hy2, rfl⟩ : ∃ d, 1 ≤ d ∧ d ≤ 99 ∧ a2 = nI d := by
    rcases i_cases a2 with y | ⟨k, hk, rfl⟩
    · have e1 := Int32.lt_iff_toInt_lt.mp y
      have e2 := Int32.le_iff_toInt_le.mp z1
      have e3 : (1 : Int32).toInt = 1 := by decide
      have e0 : (0 : Int32).toInt = 0 := by decide
      omega
    · exact ⟨k, (g_leN (a := 1) (by omega) hk).mp z1, (g_leN (b := 99) hk (by omega)).mp z2, rfl⟩
  have ex := ePence p hp
  have vx := sPence p hp
  rw [show 5 * 0 + p = p by omega] at ex vx
  have ex' : c.1 36 p = m1.1 28 p := ex
  obtain ⟨vx1, hxb⟩ := vx
  simp (disch := omega) only [g_ckN, g_clN]
  rw [ex', vx1, nI_add]
  generalize hx : vl m1 28 p = x at *
  by_cases z3 : (99999 : Int32) < nI (x + y)
  · rw [if_pos z3, if_pos z3]; exact ⟨_, _, _, rfl, rfl, hV⟩
  rw [if_neg z3, if_neg z3]
  have hxy : x + y ≤ 99999 := by
    rcases Nat.lt_or_ge 99999 (x + y) with z | z
    · exact absurd ((g_ltN (a := 99999) (by omega) (by omega)).mpr z) z3
    · exact z
  obtain ⟨u, d, h67, h52, hd⟩ := LOG_u hC
  obtain ⟨m2, k0, k1, k2, k4, k5⟩ := r_keepNow hF h52 hd
  obtain ⟨c3, p0, p1, p2, p3, p4, p5⟩ := q_note (F := F) (c := g_sI c 36 p (nI (x + y))) (u := u) (d := d) (by rw [sI_o (by omega)]; exact h67) hd (3 : Int32) (nI p) (nI y) (0 : Int32)
  have e28 : m2.1 28 p = nI x := by
    have := in28 (f := 0) (p := p) (by omega)
    rw [show 5 * 0 + p = p by omega] at this
    rw [FRK_D k2 (by omega) this]; exact vx1
  rw [k0, g_bs]
  simp only [g_let]
  rw [p0, g_bs, e28, nI_add]
  have hc2 : TS (g_sI c 36 p (nI (x + y))) (g_sI m2 28 p (nI (x + y))) T 35 0 := by
    have v2 : ∀ k, vl m2 2 k = vl m1 2 k := fun k => by unfold vl; rw [k2.2 2 k (fun g _ _ z => by have := z.1; omega) (by omega)]
    refine TS_pence (p := p) (v := x + y) (TS_frk hTS0 k2) (by rw [v2]; exact hp) hxy rfl (fun o ho => sI_o (by omega)) (fun k => sI_at) (fun o ho => sI_o ho) (fun k => ?_)
    rw [show 5 * 0 + p = p by omega]; exact sI_at
  refine ⟨nI (x + y), c3, g_sI m2 28 p (nI (x + y)), ?_, ?_, INV_op (c2 := g_sI c 36 p (nI (x + y))) hC hI hTa hFl hA hS hd h67 rfl (fun o ho => sI_o (by omega)) p1 p2 p3 p4 p5 k1 k2 k4 k5 rfl (fun o k hk => sI_ne (fun z => ?_)) (by rw [sI_o (by omega)]) ?_ ?_ hc2⟩
  · rw [p2 36 (by omega) (by omega), sI_eq]
  · rw [sI_eq]
  · obtain ⟨z1, z2⟩ := z
    subst z1; subst z2
    have := in28 (f := 0) (p := k) (by omega)
    rw [show 5 * 0 + k = k by omega] at this
    exact hk this
  · exact Or.inr (Or.inr (Or.inr ⟨rfl, p, by omega, rfl⟩))
  · have eu : und1 ((3 : Int32), nI p, nI y, (0 : Int32)) (g_sI c 36 p (nI (x + y))) = g_sI (g_sI c 36 p (nI (x + y))) 36 p (nI x) := by
      unfold und1
      rw [if_neg (show ¬ (3 : Int32) = nI 0 by decide), if_neg (show ¬ (3 : Int32) = nI 1 by decide), if_neg (show ¬ (3 : Int32) = nI 2 by decide)]
      show g_sI _ 36 (nI p).toNatClampNeg ((g_sI c 36 p (nI (x + y))).1 36 (nI p).toNatClampNeg - nI y) = _
      rw [g_clN (by omega), sI_eq, g_subN (by omega), Nat.add_sub_cancel]
    rw [eu]
    have hTl := isT_le hT
    refine EQS_of rfl (fun o a b => by rw [sI_o (by omega), sI_o (by omega)]) (fun o a b => ?_)
    by_cases z : o = 36
    · subst z
      funext k
      rw [sI_at, sI_at]
      by_cases yk : k = p
      · rw [if_pos yk, yk]; exact (ex'.trans vx1).symm
      · rw [if_neg yk, if_neg yk]
    · rw [sI_o z, sI_o z]
end O
