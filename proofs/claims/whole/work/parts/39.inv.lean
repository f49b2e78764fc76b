/-! what holds between calls -/
def und1 (r : Int32 × Int32 × Int32 × Int32) (c : g_M) : g_M :=
  if r.1 = nI 0 then g_sI c 35 7 (c.1 35 7 - nI 1)
  else if r.1 = nI 1 then g_sI c 39 (4 * r.2.1.toNatClampNeg + 3) (nI 0)
  else if r.1 = nI 2 then g_sI (g_sI c 37 (5 * r.2.1.toNatClampNeg + r.2.2.2.toNatClampNeg) (c.1 37 (5 * r.2.2.1.toNatClampNeg + r.2.2.2.toNatClampNeg))) 37 (5 * r.2.2.1.toNatClampNeg + r.2.2.2.toNatClampNeg) (c.1 37 (5 * r.2.1.toNatClampNeg + r.2.2.2.toNatClampNeg))
  else g_sI c 36 r.2.1.toNatClampNeg (c.1 36 r.2.1.toNatClampNeg - r.2.2.1)
def row (c : g_M) (i : Nat) : Int32 × Int32 × Int32 × Int32 := (c.1 68 (4 * i), c.1 68 (4 * i + 1), c.1 68 (4 * i + 2), c.1 68 (4 * i + 3))
def rowOK (r : Int32 × Int32 × Int32 × Int32) : Prop := r.1 = nI 0 ∨ (r.1 = nI 1 ∧ ∃ n, n < 12 ∧ r.2.1 = nI n) ∨ (r.1 = nI 2 ∧ ∃ p q s, p < 5 ∧ q < 5 ∧ s < 5 ∧ r.2.1 = nI p ∧ r.2.2.1 = nI q ∧ r.2.2.2 = nI s) ∨ (r.1 = nI 3 ∧ ∃ p, p < 5 ∧ r.2.1 = nI p)
def unds (c0 : g_M) (u : Nat) : Nat → g_M → g_M
  | 0, c => c
  | j + 1, c => und1 (row c0 (u - 1 - j)) (unds c0 u j c)
def LOG (c m : g_M) (T : Nat) : Prop := ∃ u, u ≤ 20 ∧ c.1 67 0 = nI u ∧ m.1 0 52 = nI u ∧ (∀ i, i < u → rowOK (row c i)) ∧ ∀ j, j < u → TS (unds c u (j + 1) c) m T 35 (3 + (u - 1 - j)) ∧ vl m 24 (3 + (u - 1 - j)) ≤ 9900
def IMG (c m : g_M) (T : Nat) : Prop := c.1 0 9 = m.1 0 51 ∧ (m.1 0 51 = nI 0 ∨ (m.1 0 51 = nI 1 ∧ TS c m T 41 2 ∧ vl m 24 2 ≤ 9900))
def TAPE (c m : g_M) : Prop := ∃ k, k ≤ 700 ∧ c.1 0 1 = nI k ∧ m.1 0 2 = nI k ∧ ∀ i, i < k → ∃ b, b < 256 ∧ m.1 1 i = nI b ∧ c.1 1 i = (nI b).toInt8.toInt32
def FLT (c m : g_M) : Prop := c.1 0 5 = m.1 0 32 ∧ c.1 0 6 = m.1 0 33
def SEEN (c m : g_M) : Prop := ∃ n, n ≤ 24 ∧ c.1 60 0 = nI n ∧ m.1 0 65 = nI n ∧ c.1 60 1 = m.1 0 66 ∧ (m.1 0 66 = -1 ∨ ∃ k, k ≤ n ∧ m.1 0 66 = nI k) ∧ ∀ i, i < n → c.1 65 i = m.1 42 i ∧ ((m.1 42 i = -1 ∧ (∃ d, 1 ≤ d ∧ d ≤ 40 ∧ c.1 61 i = nI d ∧ m.1 39 i = nI d) ∧ (∃ p s, p < 5 ∧ s < 5 ∧ c.1 62 i = nI p ∧ c.1 63 i = nI s ∧ m.1 40 i = nI (5 * p + s)) ∧ c.1 64 i = m.1 41 i ∧ (m.1 41 i = nI 0 ∨ m.1 41 i = nI 1)) ∨ ∃ j, j < i ∧ m.1 42 i = nI j)
def wrd : List Int32 := [437714944, 653873152, 139628544, 643239936, 773279744, 620213248, 659016096, 642945024, 404455424, 202970112, 236238848, 446431232, 522190848, 48365568, 486146048, 647828480, 605688832, 542575776, 36144708, 57730048, 788091136, 136085504]
def WRD (c : g_M) : Prop := ∀ i, i < 22 → c.1 32 i = wrd.getD i 0
def TW (T S : Nat) : Prop := (T = 2 ∧ S = 16) ∨ (T = 16 ∧ S = 2)
def INV (c m : g_M) : Prop := ∃ T S, TW T S ∧ c.2.2 0 2 = some T ∧ c.2.2 0 3 = some S ∧ TS c m T 35 0 ∧ vl m 24 0 ≤ 9900 ∧ IMG c m T ∧ TAPE c m ∧ FLT c m ∧ (m.1 0 53 = nI 0 ∧ m.1 0 55 = -1) ∧ AB c m noA ∧ SEEN c m ∧ LOG c m T ∧ WRD c
section I
variable {F : Nat} {c m c' m' : g_M} {T t f : Nat}
/-- only other cells changed -/
theorem TS_frD (h : TS c m T t f) (hr : c'.2.2 t 0 = c.2.2 t 0) (hc : ∀ o, T ≤ o → o ≤ T + 13 → c'.1 o = c.1 o) (hc2 : ∀ o k, t ≤ o → o ≤ t + 5 → c'.1 o k = c.1 o k) (hm : ∀ o, 2 ≤ o → o ≤ 21 → m'.1 o = m.1 o) (hm2 : ∀ o k, inD o k f → m'.1 o k = m.1 o k) : TS c' m' T t f := by
  obtain ⟨hT, ht, hf, hp0, hW, hR, hWS, hRS⟩ := id h
  have h2 := hm 2 (by omega) (by omega)
  have hs : SAME m m' f f := by
    refine ⟨fun o h1 h2 => hm2 o f ?_, fun k hk => hm2 _ _ (in28 hk), fun o k ho hk => hm2 _ _ ?_, fun k hk => hm2 _ _ (in31 hk), fun o k h1 h2 hk => hm2 _ _ ?_⟩
    · rcases (show o = 24 ∨ o = 25 ∨ o = 26 ∨ o = 27 by omega) with rfl | rfl | rfl | rfl
      · exact in24
      · exact in25
      · exact in26
      · exact in27
    · rcases ho with rfl | rfl
      · exact in29 hk
      · exact in30 hk
    · rcases (show o = 32 ∨ o = 33 ∨ o = 34 ∨ o = 35 by omega) with rfl | rfl | rfl | rfl
      · exact in32 hk
      · exact in33 hk
      · exact in34 hk
      · exact in35 hk
  have e : ∀ o k, t ≤ o → o ≤ t + 5 → c'.1 o k = c.1 o k := hc2
  have hb := hW.1.1.2
  have hn := hWS.1.2.2.2
  refine ⟨hT, ht, hf, by rw [hr]; exact hp0, WT_fr hW hm, RT_fr hR hc hm, WS_same hW hWS hs h2, ?_⟩
  obtain ⟨w1, w2, w3, w4, w5⟩ := hRS
  have hv : ∀ k, vl m' 2 k = vl m 2 k := fun k => by unfold vl; rw [h2]
  have h27 : vl m' 27 f = vl m 27 f := by unfold vl; rw [hs.1 27 (by omega) (by omega)]
  obtain ⟨s1, s2, s3, s4, s5⟩ := hs
  refine ⟨⟨?_, ?_, ?_, ?_⟩, fun p hp => ?_, fun i hi => ?_, fun n hn => ?_, fun w hw => ?_⟩
  · rw [e _ _ (by omega) (by omega), s1 24 (by omega) (by omega)]; exact w1.1
  · rw [e _ _ (by omega) (by omega), s1 25 (by omega) (by omega)]; exact w1.2.1
  · rw [e _ _ (by omega) (by omega), s1 26 (by omega) (by omega)]; exact w1.2.2.1
  · rw [e _ _ (by omega) (by omega), s1 27 (by omega) (by omega)]; exact w1.2.2.2
  · rw [hv] at hp
    rw [e _ _ (by omega) (by omega), s2 p (by omega)]; exact w2 p hp
  · rw [e _ _ (by omega) (by omega), e _ _ (by omega) (by omega), s3 29 i (by omega) hi, s3 30 i (by omega) hi, hv]; exact w3 i hi
  · rw [h27] at hn
    rw [e _ _ (by omega) (by omega), e _ _ (by omega) (by omega), e _ _ (by omega) (by omega), e _ _ (by omega) (by omega), s5 32 n (by omega) (by omega) (by omega), s5 33 n (by omega) (by omega) (by omega), s5 34 n (by omega) (by omega) (by omega), s5 35 n (by omega) (by omega) (by omega)]; exact w4 n hn
  · rw [e _ _ (by omega) (by omega), s4 w hw]; exact w5 w hw
theorem und1_ref (r : Int32 × Int32 × Int32 × Int32) (c : g_M) : (und1 r c).2.2 = c.2.2 := by
  unfold und1
  split
  · rfl
  · split
    · rfl
    · split <;> rfl
theorem und1_o (r : Int32 × Int32 × Int32 × Int32) (c : g_M) {o : Nat} (ho : o < 35 ∨ 39 < o) : (und1 r c).1 o = c.1 o := by
  unfold und1
  split
  · exact sI_o (by omega)
  · split
    · exact sI_o (by omega)
    · split
      · rw [sI_o (by omega), sI_o (by omega)]
      · exact sI_o (by omega)
/-- undoing sees only the state -/
theorem und1_fr (r : Int32 × Int32 × Int32 × Int32) (h : ∀ o, 35 ≤ o → o ≤ 40 → c'.1 o = c.1 o) : ∀ o, 35 ≤ o → o ≤ 40 → (und1 r c').1 o = (und1 r c).1 o := by
  intro o h1 h2
  have e : ∀ a b v w, v = w → (g_sI c' a b v).1 o = (g_sI c a b w).1 o := by
    intro a b v w hv
    subst hv
    by_cases z : o = a
    · subst z; funext k; rw [sI_at, sI_at, h o h1 h2]
    · rw [sI_o z, sI_o z]; exact h o h1 h2
  unfold und1
  split
  · exact e _ _ _ _ (by rw [h 35 (by omega) (by omega)])
  · split
    · exact e _ _ _ _ rfl
    · split
      · by_cases z : o = 37
        · subst z
          funext k
          rw [sI_at, sI_at, sI_at, sI_at, h 37 (by omega) (by omega)]
        · rw [sI_o z, sI_o z, sI_o z, sI_o z]; exact h o h1 h2
      · exact e _ _ _ _ (by rw [h 36 (by omega) (by omega)])
theorem unds_ref (c0 : g_M) (u : Nat) (c : g_M) : ∀ j, (unds c0 u j c).2.2 = c.2.2 ∧ ∀ o, (o < 35 ∨ 39 < o) → (unds c0 u j c).1 o = c.1 o := by
  intro j
  induction j with
  | zero => exact ⟨rfl, fun _ _ => rfl⟩
  | succ j ih => exact ⟨by show (und1 _ _).2.2 = _; rw [und1_ref]; exact ih.1, fun o ho => by show (und1 _ _).1 o = _; rw [und1_o _ _ ho]; exact ih.2 o ho⟩
theorem unds_fr {c0 c0' : g_M} (u : Nat) (h0 : c0'.1 68 = c0.1 68) (h : ∀ o, 35 ≤ o → o ≤ 40 → c'.1 o = c.1 o) : ∀ j, ∀ o, 35 ≤ o → o ≤ 40 → (unds c0' u j c').1 o = (unds c0 u j c).1 o := by
  intro j
  induction j with
  | zero => exact h
  | succ j ih =>
    intro o h1 h2
    show (und1 (row c0' (u - 1 - j)) _).1 o = (und1 (row c0 (u - 1 - j)) _).1 o
    have : row c0' (u - 1 - j) = row c0 (u - 1 - j) := by unfold row; rw [h0]
    rw [this]
    exact und1_fr _ ih o h1 h2
def relC (o k : Nat) : Prop := (o = 0 ∧ (k = 1 ∨ k = 5 ∨ k = 6 ∨ k = 9)) ∨ (1 ≤ o ∧ o ≤ 29) ∨ o = 32 ∨ (35 ≤ o ∧ o ≤ 46) ∨ (60 ≤ o ∧ o ≤ 65) ∨ o = 67 ∨ o = 68
def relM (o k : Nat) : Prop := (o = 0 ∧ (k = 2 ∨ k = 32 ∨ k = 33 ∨ k = 51 ∨ k = 52 ∨ k = 53 ∨ k = 55 ∨ k = 65 ∨ k = 66)) ∨ (1 ≤ o ∧ o ≤ 21) ∨ (24 ≤ o ∧ o ≤ 35 ∧ ¬ inD o k 1) ∨ (39 ≤ o ∧ o ≤ 42)
theorem inD_ne {o k a b : Nat} (h : inD o k a) (hab : a ≠ b) : ¬ inD o k b := by
  intro h'
  obtain ⟨h1, h2, h3, h4⟩ := h
  obtain ⟨_, _, h5, h6⟩ := h'
  rcases Nat.lt_or_gt_of_ne hab with z | z
  · have := Nat.mul_le_mul_left (wd o) (show a + 1 ≤ b by omega)
    rw [Nat.mul_add] at this; omega
  · have := Nat.mul_le_mul_left (wd o) (show b + 1 ≤ a by omega)
    rw [Nat.mul_add] at this; omega
theorem isT_le {T : Nat} (h : isT T) : 2 ≤ T ∧ T + 13 ≤ 29 := by rcases h with rfl | rfl <;> omega
theorem INV_fr (h : INV c m) (hr : ∀ o k, (o = 0 ∧ (k = 2 ∨ k = 3)) ∨ (o = 35 ∧ k = 0) ∨ (o = 41 ∧ k = 0) → c'.2.2 o k = c.2.2 o k) (hc : ∀ o k, relC o k → c'.1 o k = c.1 o k) (hm : ∀ o k, relM o k → m'.1 o k = m.1 o k) (hA : AB c' m' noA) : INV c' m' := by
  obtain ⟨T, S, hTW, r2, r3, hTS, hd, hI, hTa, hF, hS, hAB, hSe, hL, hw⟩ := h
  have hTl := isT_le hTS.1
  have m0 : ∀ k, k = 2 ∨ k = 32 ∨ k = 33 ∨ k = 51 ∨ k = 52 ∨ k = 53 ∨ k = 55 ∨ k = 65 ∨ k = 66 → m'.1 0 k = m.1 0 k := fun k hk => hm 0 k (Or.inl ⟨rfl, hk⟩)
  have mT : ∀ o, 2 ≤ o → o ≤ 21 → m'.1 o = m.1 o := fun o h1 h2 => by funext k; exact hm o k (Or.inr (Or.inl ⟨by omega, h2⟩))
  have mD : ∀ g, g ≠ 1 → ∀ o k, inD o k g → m'.1 o k = m.1 o k := fun g hg o k hk => hm o k (Or.inr (Or.inr (Or.inl ⟨hk.1, hk.2.1, inD_ne hk hg⟩)))
  have cT : ∀ o, T ≤ o → o ≤ T + 13 → c'.1 o = c.1 o := fun o h1 h2 => by funext k; exact hc o k (Or.inr (Or.inl ⟨by omega, by omega⟩))
  have c35 : ∀ o, 35 ≤ o → o ≤ 46 → c'.1 o = c.1 o := fun o h1 h2 => by funext k; exact hc o k (by unfold relC; omega)
  have c60 : ∀ o, 60 ≤ o → o ≤ 65 → c'.1 o = c.1 o := fun o h1 h2 => by funext k; exact hc o k (by unfold relC; omega)
  have c67 : c'.1 67 = c.1 67 := by funext k; exact hc 67 k (by unfold relC; omega)
  have c68 : c'.1 68 = c.1 68 := by funext k; exact hc 68 k (by unfold relC; omega)
  have c32 : c'.1 32 = c.1 32 := by funext k; exact hc 32 k (by unfold relC; omega)
  have c0 : ∀ k, k = 1 ∨ k = 5 ∨ k = 6 ∨ k = 9 → c'.1 0 k = c.1 0 k := fun k hk => hc 0 k (Or.inl ⟨rfl, hk⟩)
  have v24 : ∀ g, g ≠ 1 → vl m' 24 g = vl m 24 g := fun g hg => by unfold vl; rw [mD g hg 24 g in24]
  refine ⟨T, S, hTW, by rw [hr 0 2 (by omega)]; exact r2, by rw [hr 0 3 (by omega)]; exact r3, TS_frD hTS (hr 35 0 (by omega)) cT (fun o k h1 h2 => by rw [c35 o h1 (by omega)]) mT (mD 0 (by omega)), by rw [v24 0 (by omega)]; exact hd, ?_, ?_, ?_, ?_, hA, ?_, ?_, ?_⟩
  · unfold IMG at hI ⊢
    rw [c0 9 (by omega), m0 51 (by omega), v24 2 (by omega)]
    refine ⟨hI.1, hI.2.imp id (fun z => ⟨z.1, ?_, z.2.2⟩)⟩
    exact TS_frD z.2.1 (hr 41 0 (by omega)) cT (fun o k h1 h2 => by rw [c35 o (by omega) (by omega)]) mT (mD 2 (by omega))
  · unfold TAPE at hTa ⊢
    have e1 : c'.1 1 = c.1 1 := by funext k; exact hc 1 k (by unfold relC; omega)
    have e2 : m'.1 1 = m.1 1 := by funext k; exact hm 1 k (by unfold relM; omega)
    rw [c0 1 (by omega), m0 2 (by omega), e1, e2]; exact hTa
  · unfold FLT at hF ⊢
    rw [c0 5 (by omega), c0 6 (by omega), m0 32 (by omega), m0 33 (by omega)]; exact hF
  · rw [m0 53 (by omega), m0 55 (by omega)]; exact hS
  · unfold SEEN at hSe ⊢
    have e39 : ∀ o, 39 ≤ o → o ≤ 42 → m'.1 o = m.1 o := fun o h1 h2 => by funext k; exact hm o k (by unfold relM; omega)
    rw [m0 65 (by omega), m0 66 (by omega), c60 60 (by omega) (by omega), c60 61 (by omega) (by omega), c60 62 (by omega) (by omega), c60 63 (by omega) (by omega), c60 64 (by omega) (by omega), c60 65 (by omega) (by omega), e39 39 (by omega) (by omega), e39 40 (by omega) (by omega), e39 41 (by omega) (by omega), e39 42 (by omega) (by omega)]
    exact hSe
  · obtain ⟨u, u1, u2, u3, u4, u5⟩ := hL
    refine ⟨u, u1, by rw [c67]; exact u2, by rw [m0 52 (by omega)]; exact u3, fun i hi => ?_, fun j hj => ⟨?_, ?_⟩⟩
    · have : row c' i = row c i := by unfold row; rw [c68]
      rw [this]; exact u4 i hi
    · obtain ⟨x1, x2⟩ := unds_ref c' u c' (j + 1)
      obtain ⟨y1, y2⟩ := unds_ref c u c (j + 1)
      refine TS_frD (u5 j hj).1 ?_ (fun o h1 h2 => ?_) (fun o k h1 h2 => ?_) mT (mD _ (by omega))
      · rw [x1, y1]; exact hr 35 0 (by omega)
      · rw [x2 o (by omega), y2 o (by omega)]; exact cT o h1 h2
      · rw [unds_fr u c68 (fun o h1 h2 => c35 o h1 (by omega)) (j + 1) o h1 h2]
    · rw [v24 _ (by omega)]; exact (u5 j hj).2
  · unfold WRD at hw ⊢
    rw [c32]; exact hw
end I
