/-! a day: storms, landing; the whole day -/
section P
variable {F : Nat} {c0 m0 c m : g_M} {T t f : Nat} {A : Nat → Bool}
theorem DY.m2 (h : DY c0 m0 c m T t f A) (k : Nat) : vl m 2 k = vl m0 2 k := by unfold vl; rw [h.2.2.2.2.two (by omega) (by omega)]
theorem DY_day (h : DY c0 m0 c m T t f A) {d l : Nat} {s : Int32} (hd : d ≤ 10000) (hl : l ≤ 2147483647) {c' m' : g_M} (hr : c'.2.2 = c.2.2) (hc : ∀ o k, ¬ (o = t ∧ (k = 1 ∨ k = 2 ∨ k = 3)) → c'.1 o k = c.1 o k) (hc1 : c'.1 t 1 = nI d ∧ c'.1 t 2 = nI l ∧ c'.1 t 3 = s) (hrm : m'.2.2 = m.2.2) (hm : ∀ o k, ¬ ((o = 24 ∨ o = 25 ∨ o = 26) ∧ k = f) → m'.1 o k = m.1 o k) (hm1 : m'.1 24 f = nI d ∧ m'.1 25 f = nI l ∧ m'.1 26 f = s) : DY c0 m0 c' m' T t f A := by
  obtain ⟨h1, h2, h3, h4, h5⟩ := h
  have ht := isS_le h1.2.1
  have hw : 35 ≤ t := by rcases h1.2.1 with e | e | e <;> omega
  refine ⟨TS_day h1 hd hl hr (fun o ho => by funext k; exact hc o k (fun z => ho z.1)) ⟨hc1.1, hc1.2.1, hc1.2.2, hc t 7 (by omega)⟩ (fun o a1 a2 a3 => by funext k; exact hm o k (by omega)) hm1, ⟨by rw [hr]; exact h2.1, by rw [hr]; exact h2.2⟩, ⟨fun i hi => ?_, ?_, ?_⟩, ?_, ?_⟩
  · rw [hc 54 i (by omega)]; exact h3.1 i hi
  · rw [hm 0 56 (by omega)]; exact h3.2.1
  · rw [hc 53 7 (by omega)]; exact h3.2.2
  · exact ⟨hr.trans h4.1, fun o k x y z => by rw [hc o k (by omega)]; exact h4.2 o k x y z⟩
  · refine ⟨hrm.trans h5.1, fun o k x y => ?_⟩
    have hz : ¬ ((o = 24 ∨ o = 25 ∨ o = 26) ∧ k = f) := by
      rintro ⟨z1, rfl⟩
      rcases z1 with rfl | rfl | rfl
      · exact y in24
      · exact y in25
      · exact y in26
    rw [hm o k hz]; exact h5.2 o k x y
theorem DY_hold (h : DY c0 m0 c m T t f A) {p q s : Nat} (hp : p < vl m 2 0) (hq : q < vl m 2 0) (hs : s < vl m 2 1) :
    DY c0 m0 (g_sI (g_sI c (t + 2) (5 * p + s) (c.1 (t + 2) (5 * q + s))) (t + 2) (5 * q + s) (c.1 (t + 2) (5 * p + s))) (g_sI (g_sI m 29 (25 * f + (5 * p + s)) (m.1 29 (25 * f + (5 * q + s)))) 29 (25 * f + (5 * q + s)) (m.1 29 (25 * f + (5 * p + s)))) T t f A := by
  obtain ⟨h1, h2, h3, h4, h5⟩ := h
  have ht := isS_le h1.2.1
  have bP := h1.2.2.2.2.1.1.1.2
  have bS := h1.2.2.2.2.1.1.2.1.2
  refine ⟨TS_hold h1 hp hq hs rfl (fun o ho => by rw [sI_o ho, sI_o ho]) (fun k => by rw [sI_at, sI_at]) (fun o ho => by rw [sI_o ho, sI_o ho]) (fun k => by rw [sI_at, sI_at]), h2, ⟨fun i hi => ?_, ?_, ?_⟩, (h4.sI (by omega)).sI (by omega), (h5.sI (Or.inr (in29 (by omega)))).sI (Or.inr (in29 (by omega)))⟩
  · rw [sI_o (by omega), sI_o (by omega)]; exact h3.1 i hi
  · rw [sI_o (by omega), sI_o (by omega)]; exact h3.2.1
  · rw [sI_o (by omega), sI_o (by omega)]; exact h3.2.2
/-- the boat is filled -/
theorem d_fill (hF : 5000 < F) (h : DY c0 m0 c m T t f A) {b room k : Nat} (hS : SG c0 m0 b room k) : ∃ c' m' A', f0_fillBoat F c = some c' ∧ f11_loads F (nI f) m = some m' ∧ DY c0 m0 c' m' T t f A' ∧ m'.1 24 = m.1 24 := by
  have hTS := h.1
  have hA := h.2.1
  obtain ⟨hT, ht, hf, hp0, hW, hR, hWS, hRS⟩ := id hTS
  obtain ⟨⟨⟨vP, bP⟩, ⟨vS, bS⟩, ⟨vD, bD⟩, ⟨vN, bN⟩, ⟨vW, bW⟩, ⟨vRoom, bRoom⟩, bRoom1, ⟨vStorm, bStorm⟩, ⟨vSeed, bSeed⟩, ⟨vK, bK⟩⟩, wPence, wSort, wDeed, wSend, wWant, wLaw⟩ := id hW
  obtain ⟨⟨⟨vDay, bDay⟩, ⟨vLast, bLast⟩, ⟨vSends, bSends⟩⟩, sPence, sHL, sPerm1, sPerm2, sSend, sWant, sOwn⟩ := id hWS
  obtain ⟨rCnt, rMan, rSort, rDeed, ⟨rT6, rT8, rT10, rT11, rT12, rT93⟩, rSent, rWanted, rLaw, rCode⟩ := id hR
  obtain ⟨⟨eDay, eLast, eStorms, eSends⟩, ePence, eHL, eSend, eWant⟩ := id hRS
  have e0 := rCnt 0 (by omega)
  have e1 := rCnt 1 (by omega)
  have e2 := rCnt 2 (by omega)
  have gd := fun {α : Type} {k : Nat → Option α} => g_drT (k := k) hp0 hT
  have hS1 := SG_fr hS ht h.2.2.2.1 h.2.2.2.2
  obtain ⟨S1, S2, S3, S4, S5, S6, S7, S8, S9⟩ := id hS1
  have eM : f11_loads F (nI f) m = f11_loads_b37 F (nI f) (nI room) (nI 0) m := by
    unfold f11_loads f11_loads_b34
    rcases S6 with ⟨e1, e2⟩ | ⟨e1, e2, e3⟩ | ⟨e1, e2, e3⟩
    · have x : m.1 0 53 = (3 : Int32) := by rw [S5, e1]; rfl
      rw [if_pos x, e2]; rfl
    · have x : ¬ m.1 0 53 = (3 : Int32) := by rw [S5]; exact fun z => e1 ((g_eqN (a := k) (b := 3) (by omega) (by omega)).mp z)
      rw [if_neg x, if_pos e2, g_l5, g_ckN (by omega) (by omega), g_clN (by omega), e3]; rfl
    · have x : ¬ m.1 0 53 = (3 : Int32) := by rw [S5]; exact fun z => e1 ((g_eqN (a := k) (b := 3) (by omega) (by omega)).mp z)
      rw [if_neg x, if_neg e2, e3]; rfl
  have eC : f0_fillBoat F c = f0_fillBoat_b7 F (nI room) (nI 0) c := by
    unfold f0_fillBoat g_let
    rw [S4]; rfl
  rw [eM, eC]
  unfold f0_fillBoat_b7 f11_loads_b37
  have main := g_for2
    (b := fun sf (x : Int32 × Int32 × g_M) => f0_fillBoat_b7_body F (fun v1 v2 mem => sf (v1, v2, mem)) x.1 x.2.1 x.2.2)
    (b' := fun sf (x : Int32 × Int32 × g_M) => f11_loads_b37_body F (nI f) (fun v2 v3 mem => sf (v2, v3, mem)) x.1 x.2.1 x.2.2)
    (fun i s u => ∃ left A', left ≤ 99 ∧ s.1 = nI left ∧ s.2.1 = nI i ∧ u.1 = nI left ∧ u.2.1 = nI i ∧ DY c0 m0 s.2.2 u.2.2 T t f A' ∧ u.2.2.1 27 = m.1 27 ∧ u.2.2.1 24 = m.1 24)
    (vl m 27 f) ?step (s := (nI room, nI 0, c)) (t := (nI room, nI 0, m)) ⟨room, A, S2, rfl, rfl, rfl, rfl, h, rfl, rfl⟩ (F := F) (by omega)
  case step =>
    rintro i ⟨s1, s2, c1⟩ ⟨u1, u2, m1⟩ hi ⟨left, A', hl, h1, h2, h3, h4, h5, h6, h7⟩
    simp only at h1 h2 h3 h4 h5 h6 h7
    subst h1; subst h2; subst h3; subst h4
    have hv : vl m1 27 f = vl m 27 f := by unfold vl; rw [h6]
    obtain ⟨left', c', m', A'', g1, g2, g3, g4, g5, g6⟩ := d_board hF h5 (SG_fr hS ht h5.2.2.2.1 h5.2.2.2.2) (n := i) (by rw [hv]; exact hi) hl
    exact ⟨(nI left', nI (i + 1), c'), (nI left', nI (i + 1), m'), ⟨left', A'', g4, rfl, rfl, rfl, rfl, g3, g5.trans h6, g6.trans h7⟩, fun sf => g1 _, fun sf => g2 _⟩
  obtain ⟨⟨s1, s2, c1⟩, ⟨u1, u2, m1⟩, ⟨left, A', hl, h1, h2, h3, h4, h5, h6, h7⟩, ⟨sf, e1⟩, ⟨sf', e2⟩⟩ := main
  simp only at h1 h2 h3 h4 h5 h6 h7
  subst h1; subst h2; subst h3; subst h4
  have gs := fun {α : Type} {k : Nat → Option α} => g_drS (k := k) h5.2.1.1 ht
  have x1 : m1.1 27 f = nI (vl m 27 f) := by rw [h6]; exact vSends
  have x2 : c1.1 t 7 = nI (vl m 27 f) := by rw [h5.1.2.2.2.2.2.2.2.1.2.2.2]; exact x1
  refine ⟨c1, m1, A', ?_, ?_, h5, h7⟩
  · rw [e1]
    simp (disch := omega) only [g_let, g_bs, g_l0, g_l1, g_l2, g_l3, g_l4, g_l5, g_l6, g_l7, g_l8, g_l9, g_l10, g_l11, g_l12, g_l15, g_l20, g_l24, g_l25, g_l30, g_l40, g_l99, g_l100, g_ckN, g_clN, g_ltN, g_leN, g_eqN, pk_mul, nI_add, if_true, if_false, Nat.reduceLT, Nat.reduceLeDiff, Nat.reduceEqDiff, Nat.lt_irrefl, f0_fillBoat_b7_body, gs, x2]
  · rw [e2]
    simp (disch := omega) only [g_let, g_bs, g_l0, g_l1, g_l2, g_l3, g_l4, g_l5, g_l6, g_l7, g_l8, g_l9, g_l10, g_l11, g_l12, g_l15, g_l20, g_l24, g_l25, g_l30, g_l40, g_l99, g_l100, g_ckN, g_clN, g_ltN, g_leN, g_eqN, pk_mul, nI_add, if_true, if_false, Nat.reduceLT, Nat.reduceLeDiff, Nat.reduceEqDiff, Nat.lt_irrefl, f11_loads_b37_body, x1]
theorem lN_mask (n : Nat) : lN n &&& lN (2 ^ 31 - 1) = lN (n % 2 ^ 31) := by
  apply Int64.toBitVec.inj
  rw [Int64.toBitVec_and]
  show BitVec.ofNat 64 n &&& BitVec.ofNat 64 (2 ^ 31 - 1) = BitVec.ofNat 64 (n % 2 ^ 31)
  apply BitVec.eq_of_toNat_eq
  rw [BitVec.toNat_and, BitVec.toNat_ofNat, BitVec.toNat_ofNat, BitVec.toNat_ofNat, Nat.mod_eq_of_lt (show 2 ^ 31 - 1 < 2 ^ 64 by decide), Nat.and_two_pow_sub_one_eq_mod, Nat.mod_mod_of_dvd _ (by decide), Nat.mod_eq_of_lt (Nat.lt_of_lt_of_le (Nat.mod_lt n (by decide)) (by decide))]
theorem nxt {l : Nat} (hl : l ≤ 2147483647) : (((nI l).toInt64 * (1103515245 : Int64)) + (12345 : Int64) &&& (2147483647 : Int64)).toInt32 = nI ((l * 1103515245 + 12345) % 2147483648) ∧ ((nI l * (1103515245 : Int32)) + (12345 : Int32)) &&& (2147483647 : Int32) = nI ((l * 1103515245 + 12345) % 2147483648) := by
  constructor
  · rw [nI_l (by omega), show (1103515245 : Int64) = lN 1103515245 from rfl, lN_mul, show (12345 : Int64) = lN 12345 from rfl, lN_add, show (2147483647 : Int64) = lN (2 ^ 31 - 1) from rfl, lN_mask, lN_i]
  · rw [show (1103515245 : Int32) = nI 1103515245 from rfl, pk_mul, show (12345 : Int32) = nI 12345 from rfl, nI_add, pk_and _ 31 (by decide)]
    rw [show (nI (l * 1103515245 + 12345)).toBitVec.toNat = (l * 1103515245 + 12345) % 2 ^ 32 from BitVec.toNat_ofNat _ _]
    rw [Nat.mod_mod_of_dvd _ (by decide)]
theorem shr16 {v : Nat} (hv : v < 2147483648) : nI v >>> ((16 : Int32) &&& 31) = nI v / (65536 : Int32) := by
  rw [show (65536 : Int32) = nI 65536 from rfl, pk_div (by omega) (by omega) (by omega)]
  apply Int32.toInt_inj.mp
  rw [pk_shr _ _ 16 (by decide), nI_toInt (by omega), nI_toInt (by omega), Int.shiftRight_eq_div_pow]
  rfl
/-- whether it storms -/
theorem d_storm (hF : 5000 < F) (h : DY c0 m0 c m T t f A) {b room k : Nat} (hS : SG c0 m0 b room k) : ∃ r c' m', (r = nI 0 ∨ r = nI 1) ∧ f0_storms F c = some (r, c') ∧ f11_doesStorm F (nI f) (nI b) m = some (r, m') ∧ DY c0 m0 c' m' T t f A ∧ m'.1 24 = m.1 24 := by
  have hTS := h.1
  have hA := h.2.1
  obtain ⟨hT, ht, hf, hp0, hW, hR, hWS, hRS⟩ := id hTS
  obtain ⟨⟨⟨vP, bP⟩, ⟨vS, bS⟩, ⟨vD, bD⟩, ⟨vN, bN⟩, ⟨vW, bW⟩, ⟨vRoom, bRoom⟩, bRoom1, ⟨vStorm, bStorm⟩, ⟨vSeed, bSeed⟩, ⟨vK, bK⟩⟩, wPence, wSort, wDeed, wSend, wWant, wLaw⟩ := id hW
  obtain ⟨⟨⟨vDay, bDay⟩, ⟨vLast, bLast⟩, ⟨vSends, bSends⟩⟩, sPence, sHL, sPerm1, sPerm2, sSend, sWant, sOwn⟩ := id hWS
  obtain ⟨rCnt, rMan, rSort, rDeed, ⟨rT6, rT8, rT10, rT11, rT12, rT93⟩, rSent, rWanted, rLaw, rCode⟩ := id hR
  obtain ⟨⟨eDay, eLast, eStorms, eSends⟩, ePence, eHL, eSend, eWant⟩ := id hRS
  have e0 := rCnt 0 (by omega)
  have e1 := rCnt 1 (by omega)
  have e2 := rCnt 2 (by omega)
  have gd := fun {α : Type} {k : Nat → Option α} => g_drT (k := k) hp0 hT
  have gt := fun {α : Type} {k : Nat → Option α} => g_drT (k := k) hA.2 hT
  have gs := fun {α : Type} {k : Nat → Option α} => g_drS (k := k) hA.1 ht
  have hS1 := SG_fr hS ht h.2.2.2.1 h.2.2.2.2
  obtain ⟨S1, S2, S3, S4, S5, S6, S7, S8, S9⟩ := id hS1
  have n01 : ¬ nI 0 = nI 2 := by decide
  have n11 : ¬ nI 1 = nI 2 := by decide
  have n12 : ¬ nI 0 = nI 1 := by decide
  have n13 : ¬ nI 1 = nI 0 := by decide
  have g_l50 : (50 : Int32) = nI 50 := rfl
  by_cases hk : k = 1
  · subst hk
    rw [if_pos rfl] at S9
    refine ⟨nI 0, c, m, Or.inl rfl, ?_, ?_, h, rfl⟩
    · simp (disch := omega) only [g_let, g_bs, g_l0, g_l1, g_l2, g_l3, g_l4, g_l5, g_l6, g_l7, g_l8, g_l9, g_l10, g_l11, g_l12, g_l15, g_l20, g_l24, g_l25, g_l30, g_l40, g_l99, g_l100, g_ckN, g_clN, g_ltN, g_leN, g_eqN, pk_mul, nI_add, if_true, if_false, Nat.reduceLT, Nat.reduceLeDiff, Nat.reduceEqDiff, Nat.lt_irrefl, f0_storms, S9]
    · have z : ¬ nI 50 ≤ nI 0 := by decide
      rcases (show b = 0 ∨ b = 1 by omega) with rfl | rfl
      · simp (disch := omega) only [g_let, g_bs, g_l0, g_l1, g_l2, g_l3, g_l4, g_l5, g_l6, g_l7, g_l8, g_l9, g_l10, g_l11, g_l12, g_l15, g_l20, g_l24, g_l25, g_l30, g_l40, g_l99, g_l100, g_ckN, g_clN, g_ltN, g_leN, g_eqN, pk_mul, nI_add, if_true, if_false, Nat.reduceLT, Nat.reduceLeDiff, Nat.reduceEqDiff, Nat.lt_irrefl, f11_doesStorm, f11_doesStorm_b19, f11_doesStorm_b34, S5, g_l50, z]
      · simp (disch := omega) only [g_let, g_bs, g_l0, g_l1, g_l2, g_l3, g_l4, g_l5, g_l6, g_l7, g_l8, g_l9, g_l10, g_l11, g_l12, g_l15, g_l20, g_l24, g_l25, g_l30, g_l40, g_l99, g_l100, g_ckN, g_clN, g_ltN, g_leN, g_eqN, pk_mul, nI_add, if_true, if_false, Nat.reduceLT, Nat.reduceLeDiff, Nat.reduceEqDiff, Nat.lt_irrefl, f11_doesStorm, f11_doesStorm_b19, f11_doesStorm_b34, S5, g_l50, z, n13]
  · rw [if_neg hk] at S9
    have x1 : ¬ nI k = nI 1 := fun z => hk ((g_eqN (by omega) (by omega)).mp z)
    generalize hv : vl m 2 6 = v at *
    have r11 : c.1 T 11 = nI v := by rw [rT11]; exact vStorm
    by_cases h0 : v = 0
    · subst h0
      refine ⟨nI 0, c, m, Or.inl rfl, ?_, ?_, h, rfl⟩
      · rcases (show b = 0 ∨ b = 1 by omega) with rfl | rfl
        · rw [if_pos rfl] at S9
          simp (disch := omega) only [g_let, g_bs, g_l0, g_l1, g_l2, g_l3, g_l4, g_l5, g_l6, g_l7, g_l8, g_l9, g_l10, g_l11, g_l12, g_l15, g_l20, g_l24, g_l25, g_l30, g_l40, g_l99, g_l100, g_ckN, g_clN, g_ltN, g_leN, g_eqN, pk_mul, nI_add, if_true, if_false, Nat.reduceLT, Nat.reduceLeDiff, Nat.reduceEqDiff, Nat.lt_irrefl, f0_storms, S9, gt, r11, n11]
        · rw [if_neg (by decide)] at S9
          simp (disch := omega) only [g_let, g_bs, g_l0, g_l1, g_l2, g_l3, g_l4, g_l5, g_l6, g_l7, g_l8, g_l9, g_l10, g_l11, g_l12, g_l15, g_l20, g_l24, g_l25, g_l30, g_l40, g_l99, g_l100, g_ckN, g_clN, g_ltN, g_leN, g_eqN, pk_mul, nI_add, if_true, if_false, Nat.reduceLT, Nat.reduceLeDiff, Nat.reduceEqDiff, Nat.lt_irrefl, f0_storms, S9, gt, r11, n01]
      · have z : ¬ nI 50 ≤ nI 0 := by decide
        rcases (show b = 0 ∨ b = 1 by omega) with rfl | rfl
        · simp (disch := omega) only [g_let, g_bs, g_l0, g_l1, g_l2, g_l3, g_l4, g_l5, g_l6, g_l7, g_l8, g_l9, g_l10, g_l11, g_l12, g_l15, g_l20, g_l24, g_l25, g_l30, g_l40, g_l99, g_l100, g_ckN, g_clN, g_ltN, g_leN, g_eqN, pk_mul, nI_add, if_true, if_false, Nat.reduceLT, Nat.reduceLeDiff, Nat.reduceEqDiff, Nat.lt_irrefl, f11_doesStorm, f11_doesStorm_b19, f11_doesStorm_b34, S5, hk, vStorm, g_l50, z]
        · simp (disch := omega) only [g_let, g_bs, g_l0, g_l1, g_l2, g_l3, g_l4, g_l5, g_l6, g_l7, g_l8, g_l9, g_l10, g_l11, g_l12, g_l15, g_l20, g_l24, g_l25, g_l30, g_l40, g_l99, g_l100, g_ckN, g_clN, g_ltN, g_leN, g_eqN, pk_mul, nI_add, if_true, if_false, Nat.reduceLT, Nat.reduceLeDiff, Nat.reduceEqDiff, Nat.lt_irrefl, f11_doesStorm, f11_doesStorm_b19, f11_doesStorm_b34, S5, hk, vStorm, g_l50, z, n13]
    · by_cases h100 : v = 100
      · subst h100
        refine ⟨nI 1, c, m, Or.inr rfl, ?_, ?_, h, rfl⟩
        · have z : ¬ nI 100 = nI 0 := by decide
          rcases (show b = 0 ∨ b = 1 by omega) with rfl | rfl
          · rw [if_pos rfl] at S9
            simp (disch := omega) only [g_let, g_bs, g_l0, g_l1, g_l2, g_l3, g_l4, g_l5, g_l6, g_l7, g_l8, g_l9, g_l10, g_l11, g_l12, g_l15, g_l20, g_l24, g_l25, g_l30, g_l40, g_l99, g_l100, g_ckN, g_clN, g_ltN, g_leN, g_eqN, pk_mul, nI_add, if_true, if_false, Nat.reduceLT, Nat.reduceLeDiff, Nat.reduceEqDiff, Nat.lt_irrefl, f0_storms, S9, gt, r11, n11, z]
          · rw [if_neg (by decide)] at S9
            simp (disch := omega) only [g_let, g_bs, g_l0, g_l1, g_l2, g_l3, g_l4, g_l5, g_l6, g_l7, g_l8, g_l9, g_l10, g_l11, g_l12, g_l15, g_l20, g_l24, g_l25, g_l30, g_l40, g_l99, g_l100, g_ckN, g_clN, g_ltN, g_leN, g_eqN, pk_mul, nI_add, if_true, if_false, Nat.reduceLT, Nat.reduceLeDiff, Nat.reduceEqDiff, Nat.lt_irrefl, f0_storms, S9, gt, r11, n01, z]
        · have z : nI 50 ≤ nI 100 := by decide
          have z2 : ¬ nI 100 = nI 0 := by decide
          rcases (show b = 0 ∨ b = 1 by omega) with rfl | rfl
          · simp (disch := omega) only [g_let, g_bs, g_l0, g_l1, g_l2, g_l3, g_l4, g_l5, g_l6, g_l7, g_l8, g_l9, g_l10, g_l11, g_l12, g_l15, g_l20, g_l24, g_l25, g_l30, g_l40, g_l99, g_l100, g_ckN, g_clN, g_ltN, g_leN, g_eqN, pk_mul, nI_add, if_true, if_false, Nat.reduceLT, Nat.reduceLeDiff, Nat.reduceEqDiff, Nat.lt_irrefl, f11_doesStorm, f11_doesStorm_b19, f11_doesStorm_b34, S5, hk, vStorm, g_l50, z]
          · simp (disch := omega) only [g_let, g_bs, g_l0, g_l1, g_l2, g_l3, g_l4, g_l5, g_l6, g_l7, g_l8, g_l9, g_l10, g_l11, g_l12, g_l15, g_l20, g_l24, g_l25, g_l30, g_l40, g_l99, g_l100, g_ckN, g_clN, g_ltN, g_leN, g_eqN, pk_mul, nI_add, if_true, if_false, Nat.reduceLT, Nat.reduceLeDiff, Nat.reduceEqDiff, Nat.lt_irrefl, f11_doesStorm, f11_doesStorm_b19, f11_doesStorm_b34, S5, hk, vStorm, g_l50, z, z2, n13]
      · rcases (show b = 0 ∨ b = 1 by omega) with rfl | rfl
        · rw [if_pos rfl] at S9
          by_cases h50 : 50 ≤ v
          · refine ⟨nI 1, c, m, Or.inr rfl, ?_, ?_, h, rfl⟩
            · simp (disch := omega) only [g_let, g_bs, g_l0, g_l1, g_l2, g_l3, g_l4, g_l5, g_l6, g_l7, g_l8, g_l9, g_l10, g_l11, g_l12, g_l15, g_l20, g_l24, g_l25, g_l30, g_l40, g_l99, g_l100, g_ckN, g_clN, g_ltN, g_leN, g_eqN, pk_mul, nI_add, if_true, if_false, Nat.reduceLT, Nat.reduceLeDiff, Nat.reduceEqDiff, Nat.lt_irrefl, f0_storms, S9, gt, r11, n11, h0, h100, g_l50, h50]
            · simp (disch := omega) only [g_let, g_bs, g_l0, g_l1, g_l2, g_l3, g_l4, g_l5, g_l6, g_l7, g_l8, g_l9, g_l10, g_l11, g_l12, g_l15, g_l20, g_l24, g_l25, g_l30, g_l40, g_l99, g_l100, g_ckN, g_clN, g_ltN, g_leN, g_eqN, pk_mul, nI_add, if_true, if_false, Nat.reduceLT, Nat.reduceLeDiff, Nat.reduceEqDiff, Nat.lt_irrefl, f11_doesStorm, f11_doesStorm_b19, f11_doesStorm_b34, S5, hk, vStorm, g_l50, h50]
          · refine ⟨nI 0, c, m, Or.inl rfl, ?_, ?_, h, rfl⟩
            · simp (disch := omega) only [g_let, g_bs, g_l0, g_l1, g_l2, g_l3, g_l4, g_l5, g_l6, g_l7, g_l8, g_l9, g_l10, g_l11, g_l12, g_l15, g_l20, g_l24, g_l25, g_l30, g_l40, g_l99, g_l100, g_ckN, g_clN, g_ltN, g_leN, g_eqN, pk_mul, nI_add, if_true, if_false, Nat.reduceLT, Nat.reduceLeDiff, Nat.reduceEqDiff, Nat.lt_irrefl, f0_storms, S9, gt, r11, n11, h0, h100, g_l50, h50]
            · simp (disch := omega) only [g_let, g_bs, g_l0, g_l1, g_l2, g_l3, g_l4, g_l5, g_l6, g_l7, g_l8, g_l9, g_l10, g_l11, g_l12, g_l15, g_l20, g_l24, g_l25, g_l30, g_l40, g_l99, g_l100, g_ckN, g_clN, g_ltN, g_leN, g_eqN, pk_mul, nI_add, if_true, if_false, Nat.reduceLT, Nat.reduceLeDiff, Nat.reduceEqDiff, Nat.lt_irrefl, f11_doesStorm, f11_doesStorm_b19, f11_doesStorm_b34, S5, hk, vStorm, g_l50, h50]
        · rw [if_neg (by decide)] at S9
          obtain ⟨x2, x3⟩ := nxt bLast
          have hlt : (vl m 25 f * 1103515245 + 12345) % 2147483648 < 2147483648 := Nat.mod_lt _ (by omega)
          generalize hw : (vl m 25 f * 1103515245 + 12345) % 2147483648 = w at *
          have hsh := shr16 hlt
          have hle := isS_le ht
          have h1 : DY c0 m0 (g_sI c t 2 (nI w)) (g_sI m 25 f (nI w)) T t f A :=
            DY_day h (d := vl m 24 f) (l := w) (s := m.1 26 f) bDay (by omega) rfl (fun o k hk => sI_ne (fun z => hk ⟨z.1, by omega⟩)) ⟨by rw [sI_ne (by omega), eDay]; exact vDay, sI_eq, by rw [sI_ne (by omega), eStorms]⟩ rfl (fun o k hk => sI_ne (fun z => hk ⟨by omega, z.2⟩)) ⟨by rw [sI_o (by omega)]; exact vDay, sI_eq, by rw [sI_o (by omega)]⟩
          have r11' : (g_sI c t 2 (nI w)).1 T 11 = nI v := by rw [sI_o (by have := isTS hT ht; omega)]; exact r11
          have gt1 := fun {α : Type} {k : Nat → Option α} => g_drT (k := k) h1.2.1.2 hT
          have gs1 := fun {α : Type} {k : Nat → Option α} => g_drS (k := k) h1.2.1.1 ht
          have y0 : ¬ c.1 53 5 = (2 : Int32) := by rw [S9]; decide
          have y1 : ¬ c.1 53 5 = (1 : Int32) := by rw [S9]; decide
          have y2 : ¬ c.1 T 11 = (0 : Int32) := by rw [r11]; exact fun z => h0 ((g_eqN (a := v) (b := 0) (by omega) (by omega)).mp z)
          have y3 : ¬ c.1 T 11 = (100 : Int32) := by rw [r11]; exact fun z => h100 ((g_eqN (a := v) (b := 100) (by omega) (by omega)).mp z)
          have eC : f0_storms F c = if nI w / (65536 : Int32) - nI w / (65536 : Int32) / (100 : Int32) * (100 : Int32) < nI v then some ((1 : Int32), g_sI c t 2 (nI w)) else some ((0 : Int32), g_sI c t 2 (nI w)) := by
            unfold f0_storms
            rw [if_neg y0, gt, if_neg y2, gt, if_neg y3, if_neg y1]
            unfold f0_nextNumber
            rw [gs, gs, eLast, vLast, x2]
            simp only [g_let]
            rw [gs1, g_bs, gt1, r11', sI_eq]
          have z0 : ¬ m.1 0 53 = (1 : Int32) := by rw [S5]; exact x1
          have z1 : ¬ nI 1 = (0 : Int32) := by decide
          have z2 : ¬ nI v = (0 : Int32) := fun z => h0 ((g_eqN (a := v) (b := 0) (by omega) (by omega)).mp z)
          have z3 : ¬ nI v = (100 : Int32) := fun z => h100 ((g_eqN (a := v) (b := 100) (by omega) (by omega)).mp z)
          have eM : f11_doesStorm F (nI f) (nI 1) m = if nI w / (65536 : Int32) - nI w / (65536 : Int32) / (100 : Int32) * (100 : Int32) < nI v then some ((1 : Int32), g_sI m 25 f (nI w)) else some ((0 : Int32), g_sI m 25 f (nI w)) := by
            unfold f11_doesStorm f11_doesStorm_b19
            rw [if_neg z0, g_l6, g_ckN (by omega) (by omega), g_clN (by omega), vStorm, if_neg z1, if_neg z2, if_neg z3, g_ckN hf (by omega), g_ckN hf (by omega), g_clN (by omega), vLast, x3]
            simp only [g_let]
            rw [g_ckN hf (by omega), sI_eq, hsh]
          by_cases hq : nI w / (65536 : Int32) - nI w / (65536 : Int32) / (100 : Int32) * (100 : Int32) < nI v
          · exact ⟨nI 1, _, _, Or.inr rfl, by rw [eC, if_pos hq]; rfl, by rw [eM, if_pos hq]; rfl, h1, sI_o (by omega)⟩
          · exact ⟨nI 0, _, _, Or.inl rfl, by rw [eC, if_neg hq]; rfl, by rw [eM, if_neg hq]; rfl, h1, sI_o (by omega)⟩
end P
