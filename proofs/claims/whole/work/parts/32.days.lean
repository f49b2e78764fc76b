-- @deps 28.bits 29.frame 30.names 31.laws
/-! a day: wants, boarding -/
def wd (o : Nat) : Nat := if o < 28 then 1 else if o = 28 then 5 else if o < 31 then 25 else if o = 31 then 8 else 12
def inD (o k f : Nat) : Prop := 24 ≤ o ∧ o ≤ 35 ∧ wd o * f ≤ k ∧ k < wd o * f + wd o
def fcD (c c' : g_M) (t : Nat) : Prop := c'.2.2 = c.2.2 ∧ ∀ o k, ¬ (o = 53 ∧ k = 7) → o ≠ 54 → ¬ (t ≤ o ∧ o ≤ t + 5) → c'.1 o k = c.1 o k
def fmD (m m' : g_M) (f : Nat) : Prop := m'.2.2 = m.2.2 ∧ ∀ o k, ¬ (o = 0 ∧ (k = 38 ∨ k = 56)) → ¬ inD o k f → m'.1 o k = m.1 o k
theorem fcD.rfl' (c : g_M) (t : Nat) : fcD c c t := ⟨rfl, fun _ _ _ _ _ => rfl⟩
theorem fmD.rfl' (c : g_M) (f : Nat) : fmD c c f := ⟨rfl, fun _ _ _ _ => rfl⟩
theorem fcD.trans {a b c : g_M} {t : Nat} (h : fcD a b t) (h' : fcD b c t) : fcD a c t := ⟨h'.1.trans h.1, fun o k x y z => (h'.2 o k x y z).trans (h.2 o k x y z)⟩
theorem fmD.trans {a b c : g_M} {f : Nat} (h : fmD a b f) (h' : fmD b c f) : fmD a c f := ⟨h'.1.trans h.1, fun o k x y => (h'.2 o k x y).trans (h.2 o k x y)⟩
theorem fcD.fl {a b c : g_M} {t : Nat} (h : fcD a b t) (h' : flC b c) : fcD a c t := ⟨h'.2.trans h.1, fun o k x y z => by rw [h'.1]; exact h.2 o k x y z⟩
theorem fmD.fl {a b c : g_M} {f : Nat} (h : fmD a b f) (h' : flM b c) : fmD a c f := ⟨h'.2.trans h.1, fun o k x y => (h'.1 o k (fun z => x ⟨z.1, Or.inl z.2⟩)).trans (h.2 o k x y)⟩
theorem fcD.sI {a b : g_M} {t o k : Nat} {v : Int32} (h : fcD a b t) (ho : (o = 53 ∧ k = 7) ∨ o = 54 ∨ (t ≤ o ∧ o ≤ t + 5)) : fcD a (g_sI b o k v) t := ⟨h.1, fun o' k' x y z => by rw [sI_ne (fun e => by obtain ⟨e1, e2⟩ := e; subst e1; subst e2; exact ho.elim x (fun q => q.elim y z))]; exact h.2 o' k' x y z⟩
theorem fmD.sI {a b : g_M} {f o k : Nat} {v : Int32} (h : fmD a b f) (ho : (o = 0 ∧ (k = 38 ∨ k = 56)) ∨ inD o k f) : fmD a (g_sI b o k v) f := ⟨h.1, fun o' k' x y => by rw [sI_ne (fun e => by obtain ⟨e1, e2⟩ := e; subst e1; subst e2; exact ho.elim x y)]; exact h.2 o' k' x y⟩
theorem in24 {f : Nat} : inD 24 f f := ⟨by omega, by omega, by show 1 * f ≤ f; omega, by show f < 1 * f + 1; omega⟩
theorem in25 {f : Nat} : inD 25 f f := ⟨by omega, by omega, by show 1 * f ≤ f; omega, by show f < 1 * f + 1; omega⟩
theorem in26 {f : Nat} : inD 26 f f := ⟨by omega, by omega, by show 1 * f ≤ f; omega, by show f < 1 * f + 1; omega⟩
theorem in27 {f : Nat} : inD 27 f f := ⟨by omega, by omega, by show 1 * f ≤ f; omega, by show f < 1 * f + 1; omega⟩
theorem in28 {f p : Nat} (h : p < 5) : inD 28 (5 * f + p) f := ⟨by omega, by omega, by show 5 * f ≤ _; omega, by show _ < 5 * f + 5; omega⟩
theorem in29 {f p : Nat} (h : p < 25) : inD 29 (25 * f + p) f := ⟨by omega, by omega, by show 25 * f ≤ _; omega, by show _ < 25 * f + 25; omega⟩
theorem in30 {f p : Nat} (h : p < 25) : inD 30 (25 * f + p) f := ⟨by omega, by omega, by show 25 * f ≤ _; omega, by show _ < 25 * f + 25; omega⟩
theorem in31 {f p : Nat} (h : p < 8) : inD 31 (8 * f + p) f := ⟨by omega, by omega, by show 8 * f ≤ _; omega, by show _ < 8 * f + 8; omega⟩
theorem in32 {f p : Nat} (h : p < 12) : inD 32 (12 * f + p) f := ⟨by omega, by omega, by show 12 * f ≤ _; omega, by show _ < 12 * f + 12; omega⟩
theorem in33 {f p : Nat} (h : p < 12) : inD 33 (12 * f + p) f := ⟨by omega, by omega, by show 12 * f ≤ _; omega, by show _ < 12 * f + 12; omega⟩
theorem in34 {f p : Nat} (h : p < 12) : inD 34 (12 * f + p) f := ⟨by omega, by omega, by show 12 * f ≤ _; omega, by show _ < 12 * f + 12; omega⟩
theorem in35 {f p : Nat} (h : p < 12) : inD 35 (12 * f + p) f := ⟨by omega, by omega, by show 12 * f ≤ _; omega, by show _ < 12 * f + 12; omega⟩
/-- a day under way, in both -/
def DY (c0 m0 c m : g_M) (T t f : Nat) (A : Nat → Bool) : Prop := TS c m T t f ∧ AT c T t ∧ AB c m A ∧ fcD c0 c t ∧ fmD m0 m f
theorem DY.fl {c0 m0 c m c' m' : g_M} {T t f : Nat} {A : Nat → Bool} (h : DY c0 m0 c m T t f A) (hc : flC c c') (hm : flM m m') : DY c0 m0 c' m' T t f A :=
  ⟨TS_fl h.1 hc hm, AT_fl h.2.1 hc, AB_fl h.2.2.1 hc hm, h.2.2.2.1.fl hc, h.2.2.2.2.fl hm⟩
section D
variable {F : Nat} {c0 m0 c m : g_M} {T t f : Nat} {A : Nat → Bool}
theorem fmD.two {a b : g_M} {f : Nat} (h : fmD a b f) {o : Nat} (h1 : 1 ≤ o) (h2 : o ≤ 23 ∨ 36 ≤ o) : b.1 o = a.1 o := by
  funext k; exact h.2 o k (by omega) (fun z => by have := z.1; have := z.2.1; omega)
theorem DY_pence (h : DY c0 m0 c m T t f A) {p v : Nat} (hp : p < vl m 2 0) (hv : v ≤ 99999) : DY c0 m0 (g_sI c (t + 1) p (nI v)) (g_sI m 28 (5 * f + p) (nI v)) T t f A := by
  obtain ⟨h1, h2, h3, h4, h5⟩ := h
  have ht := isS_le h1.2.1
  have hP := h1.2.2.2.2.1.1.1.2
  refine ⟨TS_pence h1 hp hv rfl (fun o ho => sI_o ho) (fun k => sI_at) (fun o ho => sI_o ho) (fun k => sI_at), h2, ⟨fun i hi => ?_, ?_, ?_⟩, h4.sI (by omega), h5.sI (Or.inr (in28 (by omega)))⟩
  · rw [sI_ne (by omega)]; exact h3.1 i hi
  · rw [sI_ne (by omega)]; exact h3.2.1
  · rw [sI_ne (by omega)]; exact h3.2.2
theorem DY_want (h : DY c0 m0 c m T t f A) {w v : Nat} (hw : w < 8) (hv : v ≤ 2) : DY c0 m0 (g_sI c (t + 5) w (nI v)) (g_sI m 31 (8 * f + w) (nI v)) T t f A := by
  obtain ⟨h1, h2, h3, h4, h5⟩ := h
  have ht := isS_le h1.2.1
  refine ⟨TS_want h1 hw hv rfl (fun o ho => sI_o ho) (fun k => sI_at) (fun o ho => sI_o ho) (fun k => sI_at), h2, ⟨fun i hi => ?_, ?_, ?_⟩, h4.sI (by omega), h5.sI (Or.inr (in31 hw))⟩
  · rw [sI_ne (by omega)]; exact h3.1 i hi
  · rw [sI_ne (by omega)]; exact h3.2.1
  · rw [sI_ne (by omega)]; exact h3.2.2
theorem DY_how (h : DY c0 m0 c m T t f A) {n v : Nat} (hn : n < 12) (hv : v ≤ 2) : DY c0 m0 (g_sI c (t + 4) (4 * n + 3) (nI v)) (g_sI m 35 (12 * f + n) (nI v)) T t f A := by
  obtain ⟨h1, h2, h3, h4, h5⟩ := h
  have ht := isS_le h1.2.1
  refine ⟨TS_how h1 hn hv rfl (fun o ho => sI_o ho) (fun k => sI_at) (fun o ho => sI_o ho) (fun k => sI_at), h2, ⟨fun i hi => ?_, ?_, ?_⟩, h4.sI (by omega), h5.sI (Or.inr (in35 hn))⟩
  · rw [sI_ne (by omega)]; exact h3.1 i hi
  · rw [sI_ne (by omega)]; exact h3.2.1
  · rw [sI_ne (by omega)]; exact h3.2.2
theorem DY_port (h : DY c0 m0 c m T t f A) {i v : Nat} (hi : i < 25) (hv : v ≤ 1) : DY c0 m0 (g_sI c (t + 3) i (nI v)) (g_sI m 30 (25 * f + i) (nI v)) T t f A := by
  obtain ⟨h1, h2, h3, h4, h5⟩ := h
  have ht := isS_le h1.2.1
  refine ⟨TS_port h1 hi hv rfl (fun o ho => sI_o ho) (fun k => sI_at) (fun o ho => sI_o ho) (fun k => sI_at), h2, ⟨fun i hi => ?_, ?_, ?_⟩, h4.sI (by omega), h5.sI (Or.inr (in30 hi))⟩
  · rw [sI_ne (by omega)]; exact h3.1 i hi
  · rw [sI_ne (by omega)]; exact h3.2.1
  · rw [sI_ne (by omega)]; exact h3.2.2
theorem min_p {x w : Nat} (hx : x ≤ 99999) (hw : w ≤ 999) : ∃ v, v ≤ 99999 ∧ (if nI (x + w) < (99999 : Int32) then nI (x + w) else (99999 : Int32)) = nI v := by
  by_cases h : nI (x + w) < (99999 : Int32)
  · rw [if_pos h]
    have := (g_ltN (a := x + w) (b := 99999) (by omega) (by omega)).mp h
    exact ⟨x + w, by omega, rfl⟩
  · rw [if_neg h]; exact ⟨99999, by omega, rfl⟩
theorem d_settle (hF : 5000 < F) (h : DY c0 m0 c m T t f A) {w : Nat} (hw : w < vl m 2 4) : ∃ c' m', f0_settle F (nI w) c = some c' ∧ f11_wants F (nI f) (nI w) m = some m' ∧ DY c0 m0 c' m' T t f A ∧ m'.1 24 = m.1 24 := by
  have hTS := h.1
  have hA := h.2.1
  obtain ⟨hT, ht, hf, hp0, hW, hR, hWS, hRS⟩ := id hTS
  obtain ⟨⟨⟨vP, bP⟩, ⟨vS, bS⟩, ⟨vD, bD⟩, ⟨vN, bN⟩, ⟨vW, bW⟩, ⟨vRoom, bRoom⟩, bRoom1, ⟨vStorm, bStorm⟩, ⟨vSeed, bSeed⟩, ⟨vK, bK⟩⟩, wPence, wSort, wDeed, wSend, wWant, wLaw⟩ := id hW
  obtain ⟨⟨⟨vDay, bDay⟩, ⟨vLast, bLast⟩, ⟨vSends, bSends⟩⟩, sPence, sHL, sPerm1, sPerm2, sSend, sWant, sOwn⟩ := id hWS
  obtain ⟨rCnt, rMan, rSort, rDeed, ⟨rT6, rT8, rT10, rT11, rT12, rT93⟩, rSent, rWanted, rLaw, rCode⟩ := id hR
  obtain ⟨⟨eDay, eLast, eStorms, eSends⟩, ePence, eHL, eSend, eWant⟩ := id hRS
  have e0 := rCnt 0 (by omega)
  have e1 := rCnt 1 (by omega)
  have e2 := rCnt 2 (by omega)
  have gd := fun {α : Type} {k : Nat → Option α} => g_drT (k := k) hp0 hT
  have gt := fun {α : Type} {k : Nat → Option α} => g_drT (k := k) hA.2 hT
  have gs := fun {α : Type} {k : Nat → Option α} => g_drS (k := k) hA.1 ht
  obtain ⟨⟨v13, b13⟩, l13, ⟨v14, b14⟩, l14, ⟨v15, b15⟩, ⟨v16, b16⟩, ⟨v17, b17⟩⟩ := wWant w hw
  obtain ⟨r0, r1, r2, r3, r4⟩ := rWanted w hw
  have w0 : f9_wantAt F T (nI w) (nI 0) c = some (nI (vl m 13 w)) := by rw [q_wantAt (by omega) (by omega)]; show some (c.1 (T + 8) (5 * w)) = _; rw [r0]; exact congrArg some v13
  have w1 : f9_wantAt F T (nI w) (nI 1) c = some (nI (vl m 14 w)) := by rw [q_wantAt (by omega) (by omega), r1]; exact congrArg some v14
  have w2 : f9_wantAt F T (nI w) (nI 2) c = some (nI (vl m 15 w)) := by rw [q_wantAt (by omega) (by omega), r2]; exact congrArg some v15
  have hl := q_lacks2 hF hTS l13 l14 (o := vl m 15 w) (by omega)
  have hcan := r_canDo hF hW hf l13 l14 (nI (vl m 15 w))
  have hci := can_iff (f := f) hW (p := vl m 13 w) (d := vl m 14 w) (nI (vl m 15 w))
  by_cases hk : fstP (canP m f (vl m 13 w) (vl m 14 w) (nI (vl m 15 w))) (vl m 2 1) < vl m 2 1
  · -- missed
    have hk0 : ¬ bitsP (canP m f (vl m 13 w) (vl m 14 w) (nI (vl m 15 w))) (vl m 2 1) = nI 0 := fun z => hci.mp z hk
    rw [if_pos hk] at hcan
    refine ⟨_, _, ?_, ?_, DY_want h (w := w) (v := 2) (by omega) (by omega), sI_o (by omega)⟩
    · simp (disch := omega) only [g_let, g_bs, g_l0, g_l1, g_l2, g_l3, g_l4, g_l5, g_l6, g_l7, g_l8, g_l9, g_l10, g_l11, g_l12, g_l15, g_l20, g_l24, g_l25, g_l30, g_l40, g_l99, g_l100, g_ckN, g_clN, g_ltN, g_leN, g_eqN, pk_mul, nI_add, if_true, if_false, Nat.reduceLT, Nat.reduceLeDiff, Nat.reduceEqDiff, Nat.lt_irrefl, f0_settle, gt, gs, w0, w1, w2, hl, hk0]
    · simp (disch := omega) only [g_let, g_bs, g_l0, g_l1, g_l2, g_l3, g_l4, g_l5, g_l6, g_l7, g_l8, g_l9, g_l10, g_l11, g_l12, g_l15, g_l20, g_l24, g_l25, g_l30, g_l40, g_l99, g_l100, g_ckN, g_clN, g_ltN, g_leN, g_eqN, pk_mul, nI_add, if_true, if_false, Nat.reduceLT, Nat.reduceLeDiff, Nat.reduceEqDiff, Nat.lt_irrefl, f11_wants, v13, v14, v15, hcan]
  · -- met
    have hk0 := hci.mpr hk
    rw [if_neg hk] at hcan
    have h1 := DY_want h (w := w) (v := 1) (by omega) (by omega)
    generalize hc1 : g_sI c (t + 5) w (nI 1) = c1 at h1
    generalize hm1 : g_sI m 31 (8 * f + w) (nI 1) = m1 at h1
    have e2 : m1.1 2 = m.1 2 := by rw [← hm1]; exact sI_o (by omega)
    have e17 : m1.1 17 = m.1 17 := by rw [← hm1]; exact sI_o (by omega)
    have ev : ∀ k, vl m1 2 k = vl m 2 k := fun k => by unfold vl; rw [e2]
    obtain ⟨c2, v, m2, g1, g2, g3, g4, g5, g6⟩ := d_gain hF h1.1 h1.2.1 h1.2.2.1 (p := vl m 13 w) (w := w) (by rw [ev]; exact l13) (by rw [ev]; exact hw)
    have h2 := h1.fl g2 g5
    have hW2 := h2.1.2.2.2.2.1
    obtain ⟨x, m3, x1, x2, x3, x4⟩ := LW_within (F := F) hW2 (by omega) g6 (o := vl m 17 w) (by omega) c2
    have h3 := h2.fl (flC.rfl' c2) x4
    have e17' : m2.1 17 w = nI (vl m 17 w) := by rw [g5.o (by omega), e17]; exact v17
    obtain ⟨hT3, ht3, hf3, hp3, hW3, hR3, hWS3, hRS3⟩ := h3.1
    have l3 : vl m 13 w < vl m3 2 0 := by
      have : vl m3 2 0 = vl m 2 0 := by unfold vl; rw [x4.o (by omega), g5.o (by omega), e2]
      rw [this]; exact l13
    obtain ⟨vp, bp⟩ := hWS3.2.1 (vl m 13 w) l3
    have ep : c2.1 (t + 1) (vl m 13 w) = m3.1 28 (5 * f + vl m 13 w) := hRS3.2.1 _ l3
    have em : m2.1 28 (5 * f + vl m 13 w) = m3.1 28 (5 * f + vl m 13 w) := (x4.1 _ _ (by omega)).symm
    obtain ⟨v, hv, he⟩ := min_p bp x1
    have h4 := DY_pence h3 (p := vl m 13 w) (v := v) l3 hv
    refine ⟨_, _, ?_, ?_, h4, by rw [sI_o (by omega), x4.o (by omega), g5.o (by omega), ← hm1, sI_o (by omega)]⟩
    · have gt2 := fun {α : Type} {k : Nat → Option α} => g_drT (k := k) h2.2.1.2 hT
      have gs2 := fun {α : Type} {k : Nat → Option α} => g_drS (k := k) h2.2.1.1 ht
      have w4 : f9_wantAt F T (nI w) (nI 4) c2 = some (nI (vl m 17 w)) := by
        rw [q_wantAt (by omega) (by omega), g2.1, ← hc1, sI_o (by have := isTS hT ht; omega), r4]; exact congrArg some v17
      simp (disch := omega) only [g_let, g_bs, g_l0, g_l1, g_l2, g_l3, g_l4, g_l5, g_l6, g_l7, g_l8, g_l9, g_l10, g_l11, g_l12, g_l15, g_l20, g_l24, g_l25, g_l30, g_l40, g_l99, g_l100, g_ckN, g_clN, g_ltN, g_leN, g_eqN, pk_mul, nI_add, if_true, if_false, Nat.reduceLT, Nat.reduceLeDiff, Nat.reduceEqDiff, Nat.lt_irrefl, f0_settle, gt, gs, w0, w1, w2, hl, hk0, hc1, g1, gt2, gs2, w4, x2, ep, vp]
      rw [he]
    · have x3' : f11_within F (nI 1) (999 : Int32) (nI (vl m 17 w)) m2 = some (nI x, m3) := x3
      have n1 : ¬ nI 1 = nI 0 := by decide
      have m17 : m1.1 17 w = nI (vl m 17 w) := by rw [e17]; exact v17
      have g4' : f11_calls F (nI f) (nI (vl m 13 w)) (-nI 1) (nI (awN m1 f (vl m 13 w))) (nI (vl m 17 w)) m1 = some m2 := by rw [← m17]; exact g4
      simp (disch := omega) only [g_let, g_bs, g_l0, g_l1, g_l2, g_l3, g_l4, g_l5, g_l6, g_l7, g_l8, g_l9, g_l10, g_l11, g_l12, g_l15, g_l20, g_l24, g_l25, g_l30, g_l40, g_l99, g_l100, g_ckN, g_clN, g_ltN, g_leN, g_eqN, pk_mul, nI_add, if_true, if_false, Nat.reduceLT, Nat.reduceLeDiff, Nat.reduceEqDiff, Nat.lt_irrefl, f11_wants, v13, v14, v15, hcan, n1, hm1, g3, m17, g4', e17', x3', em, vp]
      rw [he]
end D
