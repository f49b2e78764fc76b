/-! man: what is thrown (0: nothing), and the answer -/
def f10_man (F : Nat) (a1 : Int32) (a2 : Int32) (mem : g_M) : Option (Int32 × Int32) :=
 (f10_isMan F a1 mem).bind (fun r1 =>
 if r1 = (0 : Int32) then (some ((1 : Int32), (0 : Int32)))
 else (if a2 = (0 : Int32) then (g_ck a1 5 (some ((0 : Int32), (mem.1 36 a1.toNatClampNeg))))
 else (if a2 = (1 : Int32) then ((f7_sortsAt F 35 a1 (1 : Int32) mem).bind (fun r2 => some ((0 : Int32), r2)))
 else (if a2 = (2 : Int32) then ((f7_ownSorts F 35 a1 mem).bind (fun r2 => some ((0 : Int32), r2)))
 else (if a2 = (3 : Int32) then ((f7_wantsOf F 35 a1 (1 : Int32) mem).bind (fun r2 => some ((0 : Int32), r2)))
 else (if a2 = (4 : Int32) then ((f7_wantsOf F 35 a1 (2 : Int32) mem).bind (fun r2 => some ((0 : Int32), r2)))
 else (some ((2 : Int32), (0 : Int32)))))))))
section L
variable {F : Nat} {c m : g_M}
theorem or_z (v : Int32) : v ||| (0 : Int32) = v := by
  apply Int32.toBitVec_inj.1
  show v.toBitVec ||| (0#32) = v.toBitVec
  simp
theorem or_zs (v : Int32) {i : Nat} (hi : i < 5) : v ||| (nI 0 <<< (nI i &&& 31)) = v := by
  have t : ∀ j : Fin 5, nI 0 <<< (nI j.val &&& 31) = (0 : Int32) := by decide
  have t' : nI 0 <<< (nI i &&& 31) = (0 : Int32) := t ⟨i, hi⟩
  rw [t']; exact or_z v
theorem r_manL (hF : 5000 < F) (hW : WT m) (hWS : WS m 0) {p : Nat} (hp : p < vl m 2 0) (b : Int32) {r : Option (Int32 × g_M)} (hr : (if b = (0 : Int32) then (g_ck (nI p) 115 (
 some ((m.1 28 (nI p).toNatClampNeg), m)))
 else (if b = (1 : Int32) then (some (bitsP (fun s => decide (m.1 30 (25 * 0 + (5 * p + s)) = (1 : Int32))) (vl m 2 1), m))
 else (if b = (2 : Int32) then (some (bitsP (fun s => decide (m.1 29 (25 * 0 + (5 * p + s)) = nI p)) (vl m 2 1), m))
 else (if b = (3 : Int32) then ((f11_wantsOf F (nI p) (1 : Int32) m).bind (fun r14 =>
 some (r14, m)))
 else ((f11_wantsOf F (nI p) (2 : Int32) m).bind (fun r15 =>
 some (r15, m))))))) = r) : f11_man_b47 F (nI p) b (0 : Int32) (0 : Int32) (0 : Int32) m = r := by
  obtain ⟨⟨⟨vP, bP⟩, ⟨vS, bS⟩, ⟨vD, bD⟩, ⟨vN, bN⟩, ⟨vW, bW⟩, ⟨vRoom, bRoom⟩, bRoom1, ⟨vStorm, bStorm⟩, ⟨vSeed, bSeed⟩, ⟨vK, bK⟩⟩, wPence, wSort, wDeed, wSend, wWant, wLaw⟩ := id hW
  obtain ⟨⟨⟨vDay, bDay⟩, ⟨vLast, bLast⟩, ⟨vSends, bSends⟩⟩, sPence, sHL, sPerm1, sPerm2, sSend, sWant, sOwn⟩ := id hWS
  have c1 : ∀ {α : Type} (k : Option α), g_ck (1 : Int32) 18 k = k := fun k => g_ckN (x := 1) (by omega) (by omega)
  have t1 : (1 : Int32).toNatClampNeg = 1 := by decide
  unfold f11_man_b47
  refine g_for (fun i => (bitsP (fun s => decide (m.1 30 (25 * 0 + (5 * p + s)) = (1 : Int32))) i, bitsP (fun s => decide (m.1 29 (25 * 0 + (5 * p + s)) = nI p)) i, nI i, m)) (vl m 2 1) (fun i hi sf => ?_) (by omega) (fun sf => ?_)
  · have e30 := (sHL (5 * p + i) (by omega)).2
    have ix : 25 * 0 + (5 * p + i) = 5 * p + i := by omega
    rw [ix] at e30
    obtain ⟨x, hx, e⟩ : ∃ x, x ≤ 1 ∧ m.1 30 (5 * p + i) = nI x := ⟨_, e30.2, e30.1⟩
    have e5 : (5 : Int32) * nI p + nI i = nI (5 * p + i) := by rw [g_l5, pk_mul, nI_add]
    show f11_man_b47_body F (nI p) b (fun v3 v4 v5 mem => sf (v3, v4, v5, mem)) (bitsP (fun s => decide (m.1 30 (25 * 0 + (5 * p + s)) = (1 : Int32))) i) (bitsP (fun s => decide (m.1 29 (25 * 0 + (5 * p + s)) = nI p)) i) (nI i) m = sf (bitsP (fun s => decide (m.1 30 (25 * 0 + (5 * p + s)) = (1 : Int32))) (i + 1), bitsP (fun s => decide (m.1 29 (25 * 0 + (5 * p + s)) = nI p)) (i + 1), nI (i + 1), m)
    unfold f11_man_b47_body f11_man_b100
    rw [c1, t1, vS, if_pos ((g_ltN (by omega) (by omega)).mpr hi), e5, g_ckN (by omega) (by omega), g_let_e, g_ckN (by omega) (by omega), g_clN (by omega), e, bitsP_s, bitsP_s, ix, e]
    have eo : ∀ v : Int32, v ||| (nI x <<< (nI i &&& 31)) = if decide (nI x = (1 : Int32)) = true then v ||| (nI 1 <<< (nI i &&& 31)) else v := fun v => by
      rcases (show x = 0 ∨ x = 1 by omega) with rfl | rfl
      · rw [or_zs v (by omega), if_neg (by decide)]
      · rw [if_pos (by decide)]
    rw [← eo]
    by_cases z : m.1 29 (5 * p + i) = nI p
    · rw [if_pos z, if_pos (by rw [z]; exact decide_eq_true rfl), g_let_e, g_let_e, nI_s]; rfl
    · rw [if_neg z, if_neg (by simpa using z), g_let_e, g_let_e, nI_s, or_z]
  · show f11_man_b47_body F (nI p) b (fun v3 v4 v5 mem => sf (v3, v4, v5, mem)) (bitsP (fun s => decide (m.1 30 (25 * 0 + (5 * p + s)) = (1 : Int32))) (vl m 2 1)) (bitsP (fun s => decide (m.1 29 (25 * 0 + (5 * p + s)) = nI p)) (vl m 2 1)) (nI (vl m 2 1)) m = r
    unfold f11_man_b47_body
    rw [c1, t1, vS, if_neg (fun z => by have := (g_ltN (by omega) (by omega)).mp z; omega)]
    exact hr
theorem s_man (hF : 5000 < F) (h : INV c m) (a b : Int32) : ∃ k v r m', f10_man F a b c = some (k, v) ∧ f11_man F a b m = some (r, m') ∧ m'.1 0 0 = k ∧ (k = 0 → v = r) ∧ (k = 0 ∨ k = 1 ∨ k = 2) ∧ INV c m' := by
  obtain ⟨T, S, hC, hI, hTa, hFl, hA, hS⟩ := INV_un h
  have hG : G c m T := ⟨hC.2.2.2.1, hC.2.1⟩
  have hW : WT m := hC.2.2.2.1.2.2.2.2.1
  have n1 : ¬ (1 : Int32) = 0 := by decide
  have n2 : ¬ (2 : Int32) = 0 := by decide
  have t1 : ∀ v : Int32, ¬ v = 0 → f11_man_b27 F a b v m = some ((0 : Int32), g_sI m 0 0 v) := fun v hv => by
    unfold f11_man_b27
    rw [g_let_e, sI_eq, if_neg hv]
  unfold f10_man f11_man
  by_cases ha : okI a (vl m 2 0)
  rotate_left
  · rw [q_man0 hG ha, r_man0 hW ha, g_bs, g_bs, if_pos nI00, if_pos nI00, t1 1 n1]
    exact ⟨1, 0, 0, _, rfl, rfl, sI_eq, fun z => absurd z n1, Or.inr (Or.inl rfl), INV_thr h 1⟩
  obtain ⟨p, hp, rfl⟩ := ha
  rw [q_man1 hG hp, r_man1 hW hp, g_bs, g_bs, if_neg nI10, if_neg nI10]
  unfold f11_man_b22
  have two : f11_man_b27 F (nI p) b 2 m = some ((0 : Int32), g_sI m 0 0 2) := t1 2 n2
  have h2 : ∃ k v r m', some ((2 : Int32), (0 : Int32)) = some (k, v) ∧ some ((0 : Int32), g_sI m 0 0 2) = some (r, m') ∧ m'.1 0 0 = k ∧ (k = 0 → v = r) ∧ (k = 0 ∨ k = 1 ∨ k = 2) ∧ INV c m' := ⟨2, 0, 0, _, rfl, rfl, sI_eq, fun z => absurd z n2, Or.inr (Or.inr rfl), INV_thr h 2⟩
  rw [two]
  rcases i_cases b with z | ⟨w, hw, rfl⟩
  · have e : ∀ j : Nat, j < 2147483648 → ¬ b = nI j := fun j hj => neg_ne z hj
    rw [if_neg (show ¬ b = (0 : Int32) from e 0 (by omega)), if_neg (show ¬ b = (1 : Int32) from e 1 (by omega)), if_neg (show ¬ b = (2 : Int32) from e 2 (by omega)), if_neg (show ¬ b = (3 : Int32) from e 3 (by omega)), if_neg (show ¬ b = (4 : Int32) from e 4 (by omega)), if_neg (show ¬ (0 : Int32) ≤ b from neg_nle z)]
    exact h2
  rw [if_pos (show (0 : Int32) ≤ nI w from nI_ge0 hw)]
  by_cases z : 4 < w
  · have e : ∀ j : Nat, j ≤ 4 → ¬ nI w = nI j := fun j hj y => by have := (g_eqN hw (by omega)).mp y; omega
    rw [if_neg (show ¬ nI w = (0 : Int32) from e 0 (by omega)), if_neg (show ¬ nI w = (1 : Int32) from e 1 (by omega)), if_neg (show ¬ nI w = (2 : Int32) from e 2 (by omega)), if_neg (show ¬ nI w = (3 : Int32) from e 3 (by omega)), if_neg (show ¬ nI w = (4 : Int32) from e 4 (by omega)), if_pos (show (4 : Int32) < nI w from (g_ltN (a := 4) (by omega) hw).mpr z)]
    exact h2
  rw [if_neg (show ¬ (4 : Int32) < nI w from fun y => z ((g_ltN (a := 4) (by omega) hw).mp y))]
  obtain ⟨m1, hm1⟩ : ∃ y, y = g_sI m 0 0 (0 : Int32) := ⟨_, rfl⟩
  have h1 : INV c m1 := by rw [hm1]; exact INV_thr h 0
  have em1 : m1.1 0 0 = 0 := by rw [hm1]; exact sI_eq
  obtain ⟨T1, S1, hC1, _⟩ := INV_un h1
  have hTS := hC1.2.2.2.1
  obtain ⟨hT, ht, hf, hp0, hW, hR, hWS, hRS⟩ := id hTS
  obtain ⟨⟨⟨vP, bP⟩, ⟨vS, bS⟩, ⟨vD, bD⟩, ⟨vN, bN⟩, ⟨vW, bW⟩, ⟨vRoom, bRoom⟩, bRoom1, ⟨vStorm, bStorm⟩, ⟨vSeed, bSeed⟩, ⟨vK, bK⟩⟩, wPence, wSort, wDeed, wSend, wWant, wLaw⟩ := id hW
  obtain ⟨⟨⟨vDay, bDay⟩, ⟨vLast, bLast⟩, ⟨vSends, bSends⟩⟩, sPence, sHL, sPerm1, sPerm2, sSend, sWant, sOwn⟩ := id hWS
  obtain ⟨rCnt, rMan, rSort, rDeed, ⟨rT6, rT8, rT10, rT11, rT12, rT93⟩, rSent, rWanted, rLaw, rCode⟩ := id hR
  obtain ⟨⟨eDay, eLast, eStorms, eSends⟩, ePence, eHL, eSend, eWant⟩ := id hRS
  have e0 := rCnt 0 (by omega)
  have e1 := rCnt 1 (by omega)
  have e2 := rCnt 2 (by omega)
  have gd := fun {α : Type} {k : Nat → Option α} => g_drT (k := k) hp0 hT
  have v0 : vl m1 2 0 = vl m 2 0 := by rw [hm1]; unfold vl; rw [sI_o (by omega)]
  have hp1 : p < vl m1 2 0 := by rw [v0]; exact hp
  have b27 : f11_man_b27 F (nI p) (nI w) 0 m = f11_man_b47 F (nI p) (nI w) (0 : Int32) (0 : Int32) (0 : Int32) m1 := by
    unfold f11_man_b27
    rw [g_let_e, ← hm1, if_pos em1]
  have fin : ∀ v : Int32, ∃ k v' r m', some ((0 : Int32), v) = some (k, v') ∧ some (v, m1) = some (r, m') ∧ m'.1 0 0 = k ∧ (k = 0 → v' = r) ∧ (k = 0 ∨ k = 1 ∨ k = 2) ∧ INV c m' := fun v => ⟨0, v, v, m1, rfl, rfl, em1, fun _ => rfl, Or.inl rfl, h1⟩
  rw [b27]
  rcases (show w = 0 ∨ w = 1 ∨ w = 2 ∨ w = 3 ∨ w = 4 by omega) with rfl | rfl | rfl | rfl | rfl
  · rw [if_pos nI00, g_ckN (by omega) (by omega), g_clN (by omega), r_manL hF hW hWS hp1 (nI 0) (r := some (m1.1 28 p, m1)) (by rw [if_pos nI00, g_ckN (by omega) (by omega), g_clN (by omega)]), show c.1 36 p = m1.1 28 p by have := ePence p hp1; rw [show 5 * 0 + p = p by omega] at this; exact this]
    exact fin _
  · rw [if_neg nI10, if_pos (show nI 1 = (1 : Int32) from rfl), q_sortsAt hF hTS hp1 1, g_bs, r_manL hF hW hWS hp1 (nI 1) (by rw [if_neg nI10, if_pos (show nI 1 = (1 : Int32) from rfl)])]
    exact fin _
  · rw [if_neg (show ¬ nI 2 = (0 : Int32) by decide), if_neg (show ¬ nI 2 = (1 : Int32) by decide), if_pos (show nI 2 = (2 : Int32) from rfl), q_ownSorts hF hTS hp1, g_bs, r_manL hF hW hWS hp1 (nI 2) (by rw [if_neg (show ¬ nI 2 = (0 : Int32) by decide), if_neg (show ¬ nI 2 = (1 : Int32) by decide), if_pos (show nI 2 = (2 : Int32) from rfl)])]
    exact fin _
  · rw [if_neg (show ¬ nI 3 = (0 : Int32) by decide), if_neg (show ¬ nI 3 = (1 : Int32) by decide), if_neg (show ¬ nI 3 = (2 : Int32) by decide), if_pos (show nI 3 = (3 : Int32) from rfl), q_wantsOf hF hTS (nI p) 1, g_bs, r_manL hF hW hWS hp1 (nI 3) (by rw [if_neg (show ¬ nI 3 = (0 : Int32) by decide), if_neg (show ¬ nI 3 = (1 : Int32) by decide), if_neg (show ¬ nI 3 = (2 : Int32) by decide), if_pos (show nI 3 = (3 : Int32) from rfl), r_wantsOf hF hW (nI p) 1, g_bs])]
    exact fin _
  · rw [if_neg (show ¬ nI 4 = (0 : Int32) by decide), if_neg (show ¬ nI 4 = (1 : Int32) by decide), if_neg (show ¬ nI 4 = (2 : Int32) by decide), if_neg (show ¬ nI 4 = (3 : Int32) by decide), if_pos (show nI 4 = (4 : Int32) from rfl), q_wantsOf hF hTS (nI p) 2, g_bs, r_manL hF hW hWS hp1 (nI 4) (by rw [if_neg (show ¬ nI 4 = (0 : Int32) by decide), if_neg (show ¬ nI 4 = (1 : Int32) by decide), if_neg (show ¬ nI 4 = (2 : Int32) by decide), if_neg (show ¬ nI 4 = (3 : Int32) by decide), r_wantsOf hF hW (nI p) 2, g_bs])]
    exact fin _
end L
