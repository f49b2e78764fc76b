/-! a text, whole -/
section L
variable {F : Nat} {c m c' m' m5 c8 : g_M}
theorem t_told {T S : Nat} (hF : 5000 < F) (h : INV c m) (hTW : TW T S) (hT0 : c.2.2 0 2 = some T) (hS0 : c.2.2 0 3 = some S) (hFC : FRC c c' S) (hFM : FRM m5 m') (h5 : ∀ o k, ¬ (o = 0 ∧ (k = 0 ∨ k = 2 ∨ (23 ≤ k ∧ k ≤ 35 ∧ k ≠ 32 ∧ k ≠ 33))) → m5.1 o k = m.1 o k) (m52 : m5.1 0 2 = nI 0) (hTd : TOLD c' m' S) (e0 : c'.1 30 0 = nI 0) (e1 : m'.1 0 30 = nI 0) (a : Int32) (hc8 : c8 = g_sI (g_sI (g_sI c' 0 1 (0 : Int32)) 0 5 (c'.1 30 0)) 0 6 (c'.1 30 1)) : CALL (g_dr yC 69 (c8.2.2 0 2) 9 (fun q10 =>
 g_dr yC 69 (c8.2.2 0 3) 9 (fun q11 =>
 g_let (g_sR c8 0 2 (some q11)) (fun m12 =>
 g_let (g_sR m12 0 3 (some q10)) (fun m13 =>
 g_dr yC 69 (m13.2.2 0 2) 9 (fun q14 =>
 (f7_begin F 35 q14 m13).bind (fun r15 =>
 g_let (g_sI r15 0 9 (0 : Int32)) (fun m16 =>
 (f6_clear F m16).bind (fun r17 =>
 (f3_clear F r17).bind (fun r18 =>
 some ((r18.1 30 2), r18))))))))))) (f11_text_b149 F a m') := by
  obtain ⟨hS, w2, hW, hR, w5, w6, w7, w8, w9⟩ := hTd
  have hT : isT T := by unfold TW at hTW; unfold isT; omega
  have hSl := isT_le hS
  have hTl := isT_le hT
  obtain ⟨T', S', hC, hI, hTa, hFl, hA, hSe⟩ := INV_un h
  have n8 : ∀ o k, ¬ (o = 0 ∧ (k = 1 ∨ k = 5 ∨ k = 6)) → c8.1 o k = c'.1 o k := fun o k y => by
    rw [hc8, sI_ne (by omega), sI_ne (by omega), sI_ne (by omega)]
  have r8 : ∀ o k, ¬ ((o = 30 ∧ k = 5) ∨ (o = 33 ∧ k = 6)) → c8.2.2 o k = c.2.2 o k := fun o k y => by
    rw [hc8]; exact hFC.1 o k y
  obtain ⟨c12, hc12⟩ : ∃ y, y = g_sR c8 0 2 (some S) := ⟨_, rfl⟩
  obtain ⟨c13, hc13⟩ : ∃ y, y = g_sR c12 0 3 (some T) := ⟨_, rfl⟩
  have d1 : c13.1 = c8.1 := by rw [hc13, hc12]; rfl
  have d2 : c13.2.2 0 2 = some S := by rw [hc13, sR_ot (by omega), hc12]; exact sR_at
  have d3 : c13.2.2 0 3 = some T := by rw [hc13]; exact sR_at
  obtain ⟨c9, k1, k2⟩ := q_begin (F := F) (c := c13) hF hS (show isS 35 by unfold isS; omega)
  obtain ⟨m4, hm4⟩ : ∃ y, y = g_sI (g_sI m' 0 32 (m'.1 0 30)) 0 33 (m'.1 0 31) := ⟨_, rfl⟩
  obtain ⟨mh, hmh⟩ : ∃ y, y = g_sI (g_sI (g_sI (g_sI (HV m4 20) 0 65 (0 : Int32)) 0 66 (-1 : Int32)) 0 51 (0 : Int32)) 0 52 (0 : Int32) := ⟨_, rfl⟩
  have hh : ∀ o k, 2 ≤ o → o ≤ 21 → k < hf o → mh.1 o k = m'.1 o (hf o + k) := fun o k y1 y2 y3 => by
    rw [hmh, sI_o (by omega), sI_o (by omega), sI_o (by omega), sI_o (by omega), HV_at 20 y1 (by omega) y3, hm4, sI_o (by omega), sI_o (by omega)]
  have h0 : ∀ o k, (o < 2 ∨ 22 ≤ o) → ¬ (o = 0 ∧ (k = 32 ∨ k = 33 ∨ k = 51 ∨ k = 52 ∨ k = 65 ∨ k = 66)) → mh.1 o k = m'.1 o k := fun o k y1 y2 => by
    rw [hmh, sI_ne (by omega), sI_ne (by omega), sI_ne (by omega), sI_ne (by omega), HV_ne 20 (by omega), hm4, sI_ne (by omega), sI_ne (by omega)]
  obtain ⟨hWh, hRh⟩ := told_of hW hR hh
  have hR13 : RT c13 mh S := RT_fr hRh (fun o y1 y2 => by funext k; rw [d1]; exact n8 o k (by omega)) (fun _ _ _ => rfl)
  obtain ⟨mj, j1, j2, j3⟩ := r_starts (F := F) (f := 0) (m := mh) hF (by omega) hWh.1.1.2 hWh.1.2.2.2.1.2 hWh.1.1.1 hWh.1.2.2.2.1.1
  have j1' : f11_starts F (0 : Int32) mh = some mj := j1
  have hTS := TS_begin hS (show isS 35 by unfold isS; omega) (by omega) hWh hR13 k2 j2 j3
  obtain ⟨cf, hcf⟩ : ∃ y, y = g_sI (g_sI (g_sI (g_sI c9 0 9 (0 : Int32)) 60 0 (0 : Int32)) 60 1 (-1 : Int32)) 67 0 (0 : Int32) := ⟨_, rfl⟩
  have f9 : ∀ o k, ¬ (o = 0 ∧ k = 9) → ¬ (o = 60 ∧ k ≤ 1) → ¬ (o = 67 ∧ k = 0) → cf.1 o k = c9.1 o k := fun o k y1 y2 y3 => by
    rw [hcf, sI_ne (by omega), sI_ne (by omega), sI_ne (by omega), sI_ne (by omega)]
  have fr : cf.2.2 = c9.2.2 := by rw [hcf]; rfl
  have fn : ∀ o k, ¬ (o = 0 ∧ k = 9) → ¬ (o = 60 ∧ k ≤ 1) → ¬ (o = 67 ∧ k = 0) → ¬ (35 ≤ o ∧ o ≤ 40) → ¬ (o = 0 ∧ (k = 1 ∨ k = 5 ∨ k = 6)) → cf.1 o k = c'.1 o k := fun o k y1 y2 y3 y4 y5 => by
    rw [f9 o k y1 y2 y3, k2.2.2.1 o (by omega), d1, n8 o k y5]
  have fc : ∀ o k, ¬ (o = 0 ∧ k = 9) → ¬ (o = 60 ∧ k ≤ 1) → ¬ (o = 67 ∧ k = 0) → ¬ (35 ≤ o ∧ o ≤ 40) → ¬ (o = 0 ∧ (k = 1 ∨ k = 5 ∨ k = 6)) → ¬ (o = 30 ∨ o = 31 ∨ o = 33 ∨ o = 34 ∨ (S ≤ o ∧ o ≤ S + 13)) → cf.1 o k = c.1 o k := fun o k y1 y2 y3 y4 y5 y6 => by
    rw [fn o k y1 y2 y3 y4 y5, hFC.2 o k y6]
  have n0 : ∀ k, ¬ inD 0 k 0 := fun k z => by have := z.1; omega
  have nU : ∀ k, ¬ UPc 0 k := fun k z => by have := z.1; omega
  have j0 : ∀ k, mj.1 0 k = mh.1 0 k := fun k => j2.2 0 k (n0 k)
  have jm : ∀ k, ¬ (k = 0 ∨ k = 2 ∨ (23 ≤ k ∧ k ≤ 35)) → ¬ (k = 51 ∨ k = 52 ∨ k = 65 ∨ k = 66) → mj.1 0 k = m.1 0 k := fun k y1 y2 => by
    rw [j0, h0 0 k (by omega) (by omega), hFM 0 k (nU k) (by omega)]; exact h5 0 k (by omega)
  have hTS2 : TS cf mj S 35 0 := TS_frD hTS (by rw [fr]) (fun o y1 y2 => by funext k; exact f9 o k (by omega) (by omega) (by omega)) (fun o k y1 y2 => f9 o k (by omega) (by omega) (by omega)) (fun _ _ _ => rfl) (fun _ _ _ => rfl)
  have eC : ∀ K : Option (Int32 × g_M), K = (g_dr yC 69 (c8.2.2 0 2) 9 (fun q10 =>
 g_dr yC 69 (c8.2.2 0 3) 9 (fun q11 =>
 g_let (g_sR c8 0 2 (some q11)) (fun m12 =>
 g_let (g_sR m12 0 3 (some q10)) (fun m13 =>
 g_dr yC 69 (m13.2.2 0 2) 9 (fun q14 =>
 (f7_begin F 35 q14 m13).bind (fun r15 =>
 g_let (g_sI r15 0 9 (0 : Int32)) (fun m16 =>
 (f6_clear F m16).bind (fun r17 =>
 (f3_clear F r17).bind (fun r18 =>
 some ((r18.1 30 2), r18))))))))))) → K = some (cf.1 30 2, cf) := fun K hK => by
    rw [hK, g_drT (by rw [r8 0 2 (by omega)]; exact hT0) hT, g_drT (by rw [r8 0 3 (by omega)]; exact hS0) hS, g_let_e, ← hc12, g_let_e, ← hc13, g_drT d2 hS, k1, g_bs, g_let_e]
    unfold f6_clear f3_clear
    rw [g_let_e, g_let_e, g_bs, g_let_e, g_bs, ← hcf]
  rw [eC _ rfl, r_halves hF hm4 e1, ← hmh]
  unfold f11_begins
  rw [j1', g_bs, g_bs]
  refine ⟨mj.1 0 24, cf, mj, ?_, rfl, INV_of (T := S) (S := T) (COR_new ?_ ?_ ?_ hTS2 ?_ ?_ ?_ ?_ ?_) ?_ ?_ ?_ ?_ ?_⟩
  · rw [fn 30 2 (by omega) (by omega) (by omega) (by omega) (by omega), j0, h0 0 24 (by omega) (by omega), w7]
  · unfold TW at hTW ⊢; omega
  · rw [fr, k2.1 0 2 (by omega)]; exact d2
  · rw [fr, k2.1 0 3 (by omega)]; exact d3
  · rw [vl_of j3.1.1 (by omega)]; omega
  · rw [jm 53 (by omega) (by omega), jm 55 (by omega) (by omega)]; exact hC.2.2.2.2.2.1
  · rw [hcf, sI_eq]; rfl
  · rw [j0, hmh, sI_eq]; rfl
  · have := hC.2.2.2.2.2.2.2
    unfold WRD at this ⊢
    rw [show cf.1 32 = c.1 32 by funext k; exact fc 32 k (by omega) (by omega) (by omega) (by omega) (by omega) (by omega)]; exact this
  · have e51 : mj.1 0 51 = nI 0 := by rw [j0, hmh, sI_ne (by omega), sI_eq]; rfl
    refine ⟨?_, Or.inl e51⟩
    rw [e51, hcf, sI_ne (by omega), sI_ne (by omega), sI_ne (by omega), sI_eq]; rfl
  · refine ⟨0, by omega, ?_, ?_, fun i hi => absurd hi (Nat.not_lt_zero i)⟩
    · rw [f9 0 1 (by omega) (by omega) (by omega), k2.2.2.1 0 (by omega), d1, hc8, sI_ne (by omega), sI_ne (by omega), sI_eq]; rfl
    · rw [j0, h0 0 2 (by omega) (by omega), hFM 0 2 (nU 2) (by omega)]; exact m52
  · refine ⟨?_, ?_⟩
    · rw [f9 0 5 (by omega) (by omega) (by omega), k2.2.2.1 0 (by omega), d1, hc8, sI_ne (by omega), sI_eq, j0, hmh, sI_ne (by omega), sI_ne (by omega), sI_ne (by omega), sI_ne (by omega), HV_ne 20 (by omega), hm4, sI_ne (by omega), sI_eq, e0, e1]
    · rw [f9 0 6 (by omega) (by omega) (by omega), k2.2.2.1 0 (by omega), d1, hc8, sI_eq, j0, hmh, sI_ne (by omega), sI_ne (by omega), sI_ne (by omega), sI_ne (by omega), HV_ne 20 (by omega), hm4, sI_eq, w8, w9]
  · exact AB_fr hA (by funext k; exact fc 54 k (by omega) (by omega) (by omega) (by omega) (by omega) (by omega)) (fc 53 7 (by omega) (by omega) (by omega) (by omega) (by omega) (by omega)) (jm 56 (by omega) (by omega))
  · refine ⟨0, by omega, ?_, ?_, ?_, Or.inl ?_, fun i hi => absurd hi (Nat.not_lt_zero i)⟩
    · rw [hcf, sI_ne (by omega), sI_ne (by omega), sI_eq]; rfl
    · rw [j0, hmh, sI_ne (by omega), sI_ne (by omega), sI_ne (by omega), sI_eq]; rfl
    · rw [hcf, sI_ne (by omega), sI_eq, j0, hmh, sI_ne (by omega), sI_ne (by omega), sI_eq]
    · rw [j0, hmh, sI_ne (by omega), sI_ne (by omega), sI_eq]
theorem s_text (hF : 5000 < F) (h : INV c m) (a : Int32) : CALL (f10_text F a c) (f11_text F a m) := by
  refine call_of h (fun T S m1 hV hC hI hTa hFl hA hS hG => ?_)
  obtain ⟨k, hk, t1, t2, t3⟩ := id hTa
  unfold f10_text
  rw [t1, t2]
  by_cases z : (0 : Int32) ≤ a
  rotate_left
  · rw [if_neg z, if_neg z]; exact ⟨_, _, _, rfl, rfl, hV⟩
  rw [if_pos z, if_pos z]
  by_cases z2 : nI k < a
  · rw [if_pos z2, if_pos z2]; exact ⟨_, _, _, rfl, rfl, hV⟩
  rw [if_neg z2, if_neg z2]
  obtain ⟨n, hn, rfl⟩ : ∃ n, n < 2147483648 ∧ a = nI n := by
    rcases i_cases a with y | y
    · exact absurd z (neg_nle y)
    · exact y
  have hnk : n ≤ k := by
    rcases Nat.lt_or_ge k n with y | y
    · exact absurd ((g_ltN (by omega) hn).mpr y) z2
    · exact y
  have hS' : isT S := by have := hC.1; unfold TW at this; unfold isT; omega
  rw [g_drT hC.2.2.1 hS', g_let_e, g_let_e, g_let_e, g_let_e, g_let_e]
  obtain ⟨m5, hm5⟩ : ∃ y, y = g_sI (g_sI (g_sI (g_sI (g_sI m1 0 25 (nI n)) 0 2 (0 : Int32)) 0 26 (0 : Int32)) 0 30 (0 : Int32)) 0 31 (-1 : Int32) := ⟨_, rfl⟩
  rw [← hm5]
  have h5 : ∀ o k, ¬ (o = 0 ∧ (k = 0 ∨ k = 2 ∨ (23 ≤ k ∧ k ≤ 35 ∧ k ≠ 32 ∧ k ≠ 33))) → m5.1 o k = m1.1 o k := fun o k y => by
    rw [hm5, sI_ne (by omega), sI_ne (by omega), sI_ne (by omega), sI_ne (by omega), sI_ne (by omega)]
  have m52 : m5.1 0 2 = nI 0 := by rw [hm5, sI_ne (by omega), sI_ne (by omega), sI_ne (by omega), sI_eq]; rfl
  have hB : BY c m5 n := ⟨by omega, fun i hi => by
    obtain ⟨b, b1, b2, b3⟩ := t3 i (by omega)
    have e1 : m5.1 1 i = nI b := by rw [h5 1 i (by omega)]; exact b2
    have ev : vl m5 1 i = b := vl_of e1 (by omega)
    rw [ev]
    exact ⟨b1, e1, b3⟩⟩
  obtain ⟨c', m', g1, g2, g3, g4, g5⟩ := rd_all (F := F) (c := c) (m := m5) (n := n) (S := S) hF hS' hB hC.2.2.2.2.2.2.2 (by rw [hm5, sI_ne (by omega), sI_ne (by omega), sI_ne (by omega), sI_ne (by omega), sI_eq]) (by rw [hm5, sI_ne (by omega), sI_ne (by omega), sI_eq]; rfl) (by rw [hm5, sI_ne (by omega), sI_eq]; rfl) (by rw [hm5, sI_eq])
  rw [g1, g2]
  have q5 : (g_sI c' 0 1 (0 : Int32)).1 30 0 = c'.1 30 0 := sI_ne (by omega)
  have q6 : (g_sI (g_sI c' 0 1 (0 : Int32)) 0 5 (c'.1 30 0)).1 30 1 = c'.1 30 1 := by rw [sI_ne (by omega), sI_ne (by omega)]
  rcases g3 with ⟨p', q', hN, hTd⟩ | ⟨hFO, hSD⟩
  · have e : f5_reads_b107 F (nI n) S c' = some ((1 : Int32), c') := by unfold f5_reads_b107; rw [if_pos (show c'.1 30 0 = (0 : Int32) from hN.2.1)]
    rw [e, g_bs, g_let_e, g_let_e, g_let_e, g_let_e, if_neg (show ¬ ((1 : Int32), c').1 = (0 : Int32) from (by decide : ¬ (1 : Int32) = 0))]
    exact t_told hF hV hC.1 hC.2.1 hC.2.2.1 g4 g5 h5 m52 hTd hN.2.1 hN.2.2 (nI n) (by rw [← q6, ← q5])
  · have hn2 := FO_n hFO
    have e : f5_reads_b107 F (nI n) S c' = some ((0 : Int32), c') := by unfold f5_reads_b107; rw [if_neg hn2.2]
    have e4 : (g_sI (g_sI m' 0 32 (m'.1 0 30)) 0 33 ((g_sI m' 0 32 (m'.1 0 30)).1 0 31)).1 0 30 = m'.1 0 30 := by rw [sI_ne (by omega), sI_ne (by omega)]
    have e5 : (g_sI m' 0 32 (m'.1 0 30)).1 0 31 = m'.1 0 31 := sI_ne (by omega)
    rw [e, g_bs, g_let_e, g_let_e, g_let_e, g_let_e, if_pos (show ((0 : Int32), c').1 = (0 : Int32) from rfl)]
    unfold f11_text_b149
    rw [g_let_e, g_let_e, if_neg (by rw [e4]; exact hn2.1)]
    obtain ⟨f, q, _, _, _, a4, a5, a6, a7, _⟩ := hFO
    have hh := t_fault hV hC.2.2.1 hS' g4 g5 h5 m52 (a4.trans a5.symm) (a6.trans a7.symm)
    refine ⟨-1, _, _, rfl, rfl, ?_⟩
    rw [e5]
    exact hh
end L
