/-! days go by -/
section Z
variable {F : Nat} {c0 m0 c m : g_M} {T t f : Nat} {A : Nat → Bool}
def noA : Nat → Bool := fun _ => false
/-- the wants of a day -/
theorem d_wants (hF : 5000 < F) (h : DY c0 m0 c m T t f A) (a2 : Int32) : ∃ c' m', f0_settleWants F c = some c' ∧ (∃ sf, f11_passes_b7 F (nI f) a2 (nI 0) m = f11_passes_b7_body F (nI f) a2 sf (nI (vl m0 2 4)) m') ∧ DY c0 m0 c' m' T t f A ∧ m'.1 24 = m.1 24 := by
  have hTS := h.1
  obtain ⟨hT, ht, hf, hp0, hW, hR, hWS, hRS⟩ := id hTS
  obtain ⟨⟨⟨vP, bP⟩, ⟨vS, bS⟩, ⟨vD, bD⟩, ⟨vN, bN⟩, ⟨vW, bW⟩, ⟨vRoom, bRoom⟩, bRoom1, ⟨vStorm, bStorm⟩, ⟨vSeed, bSeed⟩, ⟨vK, bK⟩⟩, wPence, wSort, wDeed, wSend, wWant, wLaw⟩ := id hW
  obtain ⟨⟨⟨vDay, bDay⟩, ⟨vLast, bLast⟩, ⟨vSends, bSends⟩⟩, sPence, sHL, sPerm1, sPerm2, sSend, sWant, sOwn⟩ := id hWS
  obtain ⟨rCnt, rMan, rSort, rDeed, ⟨rT6, rT8, rT10, rT11, rT12, rT93⟩, rSent, rWanted, rLaw, rCode⟩ := id hR
  obtain ⟨⟨eDay, eLast, eStorms, eSends⟩, ePence, eHL, eSend, eWant⟩ := id hRS
  have e0 := rCnt 0 (by omega)
  have e1 := rCnt 1 (by omega)
  have e2 := rCnt 2 (by omega)
  have gd := fun {α : Type} {k : Nat → Option α} => g_drT (k := k) hp0 hT
  unfold f0_settleWants f0_settleWants_b2 f11_passes_b7
  have main := g_for2
    (b := fun sf (x : Int32 × g_M) => f0_settleWants_b2_body F (fun v1 mem => sf (v1, mem)) x.1 x.2)
    (b' := fun sf (x : Int32 × g_M) => f11_passes_b7_body F (nI f) a2 (fun v3 mem => sf (v3, mem)) x.1 x.2)
    (fun i s u => s.1 = nI i ∧ u.1 = nI i ∧ DY c0 m0 s.2 u.2 T t f A ∧ u.2.1 24 = m.1 24)
    (vl m 2 4) ?step (s := (0, c)) (t := (nI 0, m)) ⟨rfl, rfl, h, rfl⟩ (F := F) (by omega)
  case step =>
    rintro i ⟨s1, c1⟩ ⟨u1, m1⟩ hi ⟨h1, h2, h3, h4⟩
    simp only at h1 h2 h3 h4
    subst h1; subst h2
    have hv : vl m1 2 4 = vl m 2 4 := by rw [h3.m2, h.m2]
    obtain ⟨q1, q2, q3, q4, q5, q6, q7, q8⟩ := id h3.1
    have v4 : m1.1 2 4 = nI (vl m 2 4) := by rw [← hv]; exact q5.1.2.2.2.2.1.1
    have c8 : c1.1 T 8 = nI (vl m 2 4) := by rw [q6.2.2.2.2.1.2.1]; exact v4
    have gt := fun {α : Type} {k : Nat → Option α} => g_drT (k := k) h3.2.1.2 hT
    have gs := fun {α : Type} {k : Nat → Option α} => g_drS (k := k) h3.2.1.1 ht
    obtain ⟨v16, b16⟩ := (q5.2.2.2.2.2.1 i (by rw [hv]; exact hi)).2.2.2.2.2.1
    have w3 : f9_wantAt F T (nI i) (nI 3) c1 = some (nI (vl m1 16 i)) := by rw [q_wantAt (by omega) (by omega), (q6.2.2.2.2.2.2.1 i (by rw [hv]; exact hi)).2.2.2.1]; exact congrArg some v16
    have cd : c1.1 t 1 = nI (vl m 24 f) := by rw [q8.1.1, h4]; exact vDay
    have md : m1.1 24 f = nI (vl m 24 f) := by rw [h4]; exact vDay
    by_cases hd : vl m1 16 i = vl m 24 f
    · obtain ⟨c', m', g1, g2, g3, g4⟩ := d_settle hF h3 (w := i) (by rw [hv]; exact hi)
      have hday : m'.1 24 = m.1 24 := g4.trans h4
      refine ⟨(nI (i + 1), c'), (nI (i + 1), m'), ⟨rfl, rfl, g3, hday⟩, fun sf => ?_, fun sf => ?_⟩
      · simp (disch := omega) only [g_let, g_bs, g_l0, g_l1, g_l2, g_l3, g_l4, g_l5, g_l6, g_l7, g_l8, g_l9, g_l10, g_l11, g_l12, g_l15, g_l20, g_l24, g_l25, g_l30, g_l40, g_l99, g_l100, g_ckN, g_clN, g_ltN, g_leN, g_eqN, pk_mul, nI_add, if_true, if_false, Nat.reduceLT, Nat.reduceLeDiff, Nat.reduceEqDiff, Nat.lt_irrefl, f0_settleWants_b2_body, f0_settleWants_b37, gt, gs, c8, hi, w3, cd, hd, g1]
      · simp (disch := omega) only [g_let, g_bs, g_l0, g_l1, g_l2, g_l3, g_l4, g_l5, g_l6, g_l7, g_l8, g_l9, g_l10, g_l11, g_l12, g_l15, g_l20, g_l24, g_l25, g_l30, g_l40, g_l99, g_l100, g_ckN, g_clN, g_ltN, g_leN, g_eqN, pk_mul, nI_add, if_true, if_false, Nat.reduceLT, Nat.reduceLeDiff, Nat.reduceEqDiff, Nat.lt_irrefl, f11_passes_b7_body, f11_passes_b38, v4, hi, v16, md, hd, g2]
    · refine ⟨(nI (i + 1), c1), (nI (i + 1), m1), ⟨rfl, rfl, h3, h4⟩, fun sf => ?_, fun sf => ?_⟩
      · simp (disch := omega) only [g_let, g_bs, g_l0, g_l1, g_l2, g_l3, g_l4, g_l5, g_l6, g_l7, g_l8, g_l9, g_l10, g_l11, g_l12, g_l15, g_l20, g_l24, g_l25, g_l30, g_l40, g_l99, g_l100, g_ckN, g_clN, g_ltN, g_leN, g_eqN, pk_mul, nI_add, if_true, if_false, Nat.reduceLT, Nat.reduceLeDiff, Nat.reduceEqDiff, Nat.lt_irrefl, f0_settleWants_b2_body, f0_settleWants_b37, gt, gs, c8, hi, w3, cd, hd]
      · simp (disch := omega) only [g_let, g_bs, g_l0, g_l1, g_l2, g_l3, g_l4, g_l5, g_l6, g_l7, g_l8, g_l9, g_l10, g_l11, g_l12, g_l15, g_l20, g_l24, g_l25, g_l30, g_l40, g_l99, g_l100, g_ckN, g_clN, g_ltN, g_leN, g_eqN, pk_mul, nI_add, if_true, if_false, Nat.reduceLT, Nat.reduceLeDiff, Nat.reduceEqDiff, Nat.lt_irrefl, f11_passes_b7_body, f11_passes_b38, v4, hi, v16, md, hd]
  obtain ⟨⟨s1, c1⟩, ⟨u1, m1⟩, ⟨h1, h2, h3, h4⟩, ⟨sf, e1'⟩, ⟨sf', e2'⟩⟩ := main
  simp only at h1 h2 h3 h4
  subst h1; subst h2
  have hv : vl m1 2 4 = vl m 2 4 := by rw [h3.m2, h.m2]
  have v4 : m1.1 2 4 = nI (vl m 2 4) := by rw [← hv]; exact h3.1.2.2.2.2.1.1.2.2.2.2.1.1
  have c8 : c1.1 T 8 = nI (vl m 2 4) := by rw [h3.1.2.2.2.2.2.1.2.2.2.2.1.2.1]; exact v4
  have gt := fun {α : Type} {k : Nat → Option α} => g_drT (k := k) h3.2.1.2 hT
  refine ⟨c1, m1, ?_, ⟨_, by rw [← h.m2]; exact e2'⟩, h3, h4⟩
  rw [e1']
  simp (disch := omega) only [g_let, g_bs, g_l0, g_l1, g_l2, g_l3, g_l4, g_l5, g_l6, g_l7, g_l8, g_l9, g_l10, g_l11, g_l12, g_l15, g_l20, g_l24, g_l25, g_l30, g_l40, g_l99, g_l100, g_ckN, g_clN, g_ltN, g_leN, g_eqN, pk_mul, nI_add, if_true, if_false, Nat.reduceLT, Nat.reduceLeDiff, Nat.reduceEqDiff, Nat.lt_irrefl, f0_settleWants_b2_body, gt, c8]
/-- one day -/
theorem d_day (hF : 5000 < F) (h : DY c0 m0 c m T t f A) {b room k : Nat} (hS : SG c0 m0 b room k) (hd : vl m 24 f < 10000) (hA0 : A = noA) : ∃ c' m', (∀ a1 j sf, nI j < a1 → f0_pass_b2_body F a1 sf (nI j) c = sf (nI (j + 1)) c') ∧ f11_passes F (nI f) (nI b) m = some m' ∧ DY c0 m0 c' m' T t f noA ∧ vl m' 24 f = vl m 24 f + 1 := by
  subst hA0
  have h7 : c.1 53 7 = nI 0 := by rw [h.2.2.1.2.2]; exact congrArg nI (cnt_all0 25)
  have h54 : ∀ i, i < 25 → c.1 54 i = nI 0 := fun i hi => by rw [h.2.2.1.1 i hi]; rfl
  have h0 : DY c0 m0 c (g_sI m 0 56 (nI 0)) T t f noA := DY_off h.1 h.2.1 h.2.2.2.1 h.2.2.2.2 (Or.inr ⟨rfl, h7⟩) h54 rfl
  obtain ⟨c1, m1, g1, ⟨sf', g2⟩, g3, g4⟩ := d_wants hF h0 (nI b)
  obtain ⟨c2, m2, A2, g5, g6, g7, g8⟩ := d_fill hF g3 hS
  obtain ⟨r, c3, m3, hr, g9, g10, g11, g12⟩ := d_storm hF g7 hS
  have hf := h.1.2.2.1
  have ht := h.1.2.1
  have hv : vl m1 2 4 = vl m0 2 4 := g3.m2 4
  have v4 : m1.1 2 4 = nI (vl m0 2 4) := by rw [← hv]; exact g3.1.2.2.2.2.1.1.2.2.2.2.1.1
  have b4 : vl m0 2 4 ≤ 8 := by rw [← hv]; exact g3.1.2.2.2.2.1.1.2.2.2.2.1.2
  have e24 : m3.1 24 f = m.1 24 f := by rw [g12, g8, g4, sI_o (by omega)]
  have eM : f11_passes F (nI f) (nI b) m = if r = (0 : Int32) then f11_passes_b92 F (nI f) (nI b) m3 else f11_passes_b70 F (nI f) (nI b) (nI 0) (g_sI m3 26 f (m3.1 26 f + nI 1)) := by
    have e1 : f11_passes F (nI f) (nI b) m = f11_passes_b7 F (nI f) (nI b) (nI 0) (g_sI m 0 56 (nI 0)) := rfl
    rw [e1, g2]
    simp (disch := omega) only [g_let, g_bs, g_l0, g_l1, g_l2, g_l3, g_l4, g_l5, g_l6, g_l7, g_l8, g_l9, g_l10, g_l11, g_l12, g_l15, g_l20, g_l24, g_l25, g_l30, g_l40, g_l99, g_l100, g_ckN, g_clN, g_ltN, g_leN, g_eqN, pk_mul, nI_add, if_true, if_false, Nat.reduceLT, Nat.reduceLeDiff, Nat.reduceEqDiff, Nat.lt_irrefl, f11_passes_b7_body, v4, g6, g10]
    by_cases hz : r = nI 0
    · exact (if_pos hz).trans (if_pos hz).symm
    · exact (if_neg hz).trans (if_neg hz).symm
  have eC : ∀ a1 j sf, nI j < a1 → f0_pass_b2_body F a1 sf (nI j) c = if r = (0 : Int32) then f0_pass_b39 F a1 sf (nI j) c3 else (f0_mixAll F (g_sI c3 t 3 (c3.1 t 3 + nI 1))).bind (fun r13 => f0_pass_b39 F a1 sf (nI j) r13) := by
    intro a1 j sf hj
    have gs := fun {α : Type} {k : Nat → Option α} => g_drS (k := k) g11.2.1.1 ht
    unfold f0_pass_b2_body
    rw [if_pos hj, g1, g_bs, g5, g_bs, g9, g_bs]
    simp only [gs, g_let]
    rfl
  rcases hr with rfl | rfl
  · obtain ⟨c4, m4, x1, x2, x3, x4⟩ := d_land hF g11 (by unfold vl at hd ⊢; rw [e24]; exact hd) (nI b)
    refine ⟨c4, m4, fun a1 j sf hj => ?_, ?_, x3, by rw [x4]; unfold vl; rw [e24]⟩
    · rw [eC a1 j sf hj, if_pos nI00]; exact x1 a1 sf j
    · rw [eM, if_pos nI00]; exact x2
  · have hl := isS_le ht
    have q8 := g11.1.2.2.2.2.2.2.2
    have q7 := g11.1.2.2.2.2.2.2.1
    have h5 : DY c0 m0 (g_sI c3 t 3 (c3.1 t 3 + nI 1)) (g_sI m3 26 f (m3.1 26 f + nI 1)) T t f A2 :=
      DY_day g11 (d := vl m3 24 f) (l := vl m3 25 f) (s := m3.1 26 f + nI 1) q7.1.1.2 q7.1.2.1.2 rfl (fun o k hk => sI_ne (fun z => hk ⟨z.1, by omega⟩)) ⟨by rw [sI_ne (by omega), q8.1.1]; exact q7.1.1.1, by rw [sI_ne (by omega), q8.1.2.1]; exact q7.1.2.1.1, by rw [sI_eq, q8.1.2.2.1]⟩ rfl (fun o k hk => sI_ne (fun z => hk ⟨by omega, z.2⟩)) ⟨by rw [sI_o (by omega)]; exact q7.1.1.1, by rw [sI_o (by omega)]; exact q7.1.2.1.1, sI_eq⟩
    obtain ⟨c4, m4, y1, y2, y3, y4⟩ := d_all hF h5 (nI b)
    have e24' : m4.1 24 f = m.1 24 f := by rw [y4, sI_o (by omega), e24]
    obtain ⟨c5, m5, x1, x2, x3, x4⟩ := d_land hF y3 (by unfold vl at hd ⊢; rw [e24']; exact hd) (nI b)
    refine ⟨c5, m5, fun a1 j sf hj => ?_, ?_, x3, by rw [x4]; unfold vl; rw [e24']⟩
    · rw [eC a1 j sf hj, if_neg nI10, y1, g_bs]; exact x1 a1 sf j
    · rw [eM, if_neg nI10, y2]; exact x2
/-- many days -/
def nxM (F f b : Nat) (m : g_M) : g_M := (f11_passes F (nI f) (nI b) m).getD m
def nxC (F : Nat) (c : g_M) : g_M := (f0_pass F (nI 1) c).getD c
def itr {α : Type} (g : α → α) : Nat → α → α
  | 0, x => x
  | n + 1, x => g (itr g n x)
theorem d_step (hF : 5000 < F) (h : DY c0 m0 c m T t f noA) {b room k : Nat} (hS : SG c0 m0 b room k) (hd : vl m 24 f < 10000) : (∀ a1 j sf, nI j < a1 → f0_pass_b2_body F a1 sf (nI j) c = sf (nI (j + 1)) (nxC F c)) ∧ f11_passes F (nI f) (nI b) m = some (nxM F f b m) ∧ DY c0 m0 (nxC F c) (nxM F f b m) T t f noA ∧ vl (nxM F f b m) 24 f = vl m 24 f + 1 := by
  obtain ⟨c', m', g1, g2, g3, g4⟩ := d_day hF h hS hd rfl
  have e1 : nxM F f b m = m' := by unfold nxM; rw [g2]; rfl
  have e2 : nxC F c = c' := by
    have : f0_pass F (nI 1) c = some c' := by
      unfold f0_pass f0_pass_b2
      refine g_for (fun i => (nI i, if i = 0 then c else c')) 1 (fun i hi sf => ?_) (by omega) (fun sf => ?_)
      · have : i = 0 := by omega
        subst this
        exact g1 (nI 1) 0 _ (by decide)
      · unfold f0_pass_b2_body
        rw [if_neg (show ¬ nI 1 < nI 1 by decide)]
        rfl
    unfold nxC; rw [this]; rfl
  rw [e1, e2]
  exact ⟨g1, g2, g3, g4⟩
theorem d_iter (hF : 5000 < F) (h : DY c0 m0 c m T t f noA) {b room k : Nat} (hS : SG c0 m0 b room k) : ∀ i, vl m 24 f + i ≤ 10000 → DY c0 m0 (itr (nxC F) i c) (itr (nxM F f b) i m) T t f noA ∧ vl (itr (nxM F f b) i m) 24 f = vl m 24 f + i := by
  intro i
  induction i with
  | zero => intro _; exact ⟨h, rfl⟩
  | succ i ih =>
    intro hi
    obtain ⟨h1, h2⟩ := ih (by omega)
    obtain ⟨_, _, g3, g4⟩ := d_step hF h1 hS (by omega)
    exact ⟨g3, by show vl (nxM F f b (itr (nxM F f b) i m)) 24 f = _; rw [g4, h2]; omega⟩
theorem d_pass (hF : 5000 < F) (h : DY c0 m0 c m T t f noA) {b room k : Nat} (hS : SG c0 m0 b room k) {n : Nat} (hn : n ≤ 1000) (hd : vl m 24 f + n ≤ 10000) : f0_pass F (nI n) c = some (itr (nxC F) n c) := by
  unfold f0_pass f0_pass_b2
  refine g_for (fun i => (nI i, itr (nxC F) i c)) n (fun i hi sf => ?_) (by omega) (fun sf => ?_)
  · obtain ⟨h1, h2⟩ := d_iter hF h hS i (by omega)
    exact (d_step hF h1 hS (by omega)).1 (nI n) i _ ((g_ltN (by omega) (by omega)).mpr hi)
  · unfold f0_pass_b2_body
    rw [if_neg (fun z => Nat.lt_irrefl n ((g_ltN (by omega) (by omega)).mp z))]
theorem d_goesOn (hF : 5000 < F) (h : DY c0 m0 c m T t 1 noA) {room k : Nat} (hS : SG c0 m0 0 room k) {n : Nat} (hn : n ≤ 1000) (hd : vl m 24 1 + n ≤ 10000) : f11_goesOn F (nI n) m = some (itr (nxM F 1 0) n m) := by
  unfold f11_goesOn f11_goesOn_b2
  refine g_for (fun i => (nI i, itr (nxM F 1 0) i m)) n (fun i hi sf => ?_) (by omega) (fun sf => ?_)
  · obtain ⟨h1, h2⟩ := d_iter hF h hS i (by omega)
    have e := (d_step hF h1 hS (by omega)).2.1
    simp (disch := omega) only [g_let, g_bs, g_l0, g_l1, g_l2, g_l3, g_l4, g_l5, g_l6, g_l7, g_l8, g_l9, g_l10, g_l11, g_l12, g_l15, g_l20, g_l24, g_l25, g_l30, g_l40, g_l99, g_l100, g_ckN, g_clN, g_ltN, g_leN, g_eqN, pk_mul, nI_add, if_true, if_false, Nat.reduceLT, Nat.reduceLeDiff, Nat.reduceEqDiff, Nat.lt_irrefl, f11_goesOn_b2_body, hi, e]
    rfl
  · unfold f11_goesOn_b2_body
    rw [if_neg (fun z => Nat.lt_irrefl n ((g_ltN (by omega) (by omega)).mp z))]
end Z
