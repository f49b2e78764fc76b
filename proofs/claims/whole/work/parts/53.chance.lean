/-! storms by chance -/
section L
variable {F : Nat} {c m c' m' c1 m1 c2 m2 c3 m3 : g_M} {T S t f : Nat}
theorem ch_days (hF : 5000 < F) {c0 m0 : g_M} (h : DY c0 m0 c m T 47 1 noA) {room k : Nat} (hS : SG c0 m0 1 room k) {n : Nat} (hn : n < 100) (hd : vl m 24 1 + n ≤ 10000) (a1 a3 v5 v6 : Int32) (s41 : Int32 → Int32 → Int32 → g_M → Option (Int32 × g_M)) {x : Int32} (hx : f11_mixedMany F (1 : Int32) (itr (nxM F 1 1) n m) = some x) : f11_chance_b65 F a1 (nI n) a3 s41 v5 v6 (0 : Int32) m = s41 ((itr (nxM F 1 1) n m).1 25 1) (v5 + (if a3 ≤ x then nI 1 else nI 0)) (v6 + nI 1) (itr (nxM F 1 1) n m) := by
  unfold f11_chance_b65
  refine g_for (fun i => (v5, v6, nI i, itr (nxM F 1 1) i m)) n (fun i hi sf => ?_) (by omega) (fun sf => ?_)
  · obtain ⟨h1, h2⟩ := d_iter hF h hS i (by omega)
    have e : f11_passes F (1 : Int32) (1 : Int32) (itr (nxM F 1 1) i m) = some (itr (nxM F 1 1) (i + 1) m) := (d_step hF h1 hS (by omega)).2.1
    unfold f11_chance_b65_body
    rw [if_pos ((g_ltN (by omega) (by omega)).mpr hi), e, g_bs, g_let_e, g_l1, nI_add]
  · unfold f11_chance_b65_body
    have ck : ∀ k : Option (Int32 × g_M), g_ck (1 : Int32) 23 k = k := fun k => g_ckN (x := 1) (by omega) (by omega)
    rw [if_neg (fun z => Nat.lt_irrefl n ((g_ltN (by omega) (by omega)).mp z)), ck, g_let_e, hx, g_bs]
    unfold f11_chance_b107
    by_cases z : a3 ≤ x
    · rw [if_pos z, if_pos z]; rfl
    · rw [if_neg z, if_neg z]; rfl
theorem ch_step (hF : 5000 < F) (hV : INV c m) {l n : Nat} (hl : l ≤ 2147483647) (hn : n < 100) (a1 a3 v5 : Int32) {i : Nat} (hi : i < 10) : ∃ l' v5' c' m', l' ≤ 2147483647 ∧ INV c' m' ∧ (∀ sf, f10_chance_b36_body F a1 (nI n) a3 sf (nI l) v5 (nI i) c = sf (nI l') v5' (nI (i + 1)) c') ∧ (∀ sf, f11_chance_b41_body F a1 (nI n) a3 sf (nI l) v5 (nI i) m = sf (nI l') v5' (nI (i + 1)) m') := by
  obtain ⟨T, S, hC, hI, hTa, hFl, hA, hS⟩ := INV_un hV
  have hTS := hC.2.2.2.1
  obtain ⟨c1, m1, k1, k2, k3, k4, k5⟩ := tb_copy hF hTS hA
  obtain ⟨h1, h2, h3, h4, h5⟩ := id k3
  have hTl := isT_le h1.1
  obtain ⟨vD, bD⟩ := h1.2.2.2.2.2.2.1.1.1
  obtain ⟨⟨r1, r2, r3, r4⟩, _⟩ := h1.2.2.2.2.2.2.2
  have hTB : TB c m (g_sI c1 47 2 (nI l)) (g_sI m1 25 1 (nI l)) T := by
    refine ⟨TS_day (d := vl m1 24 1) (l := l) (s := m1.1 26 1) h1 bD hl rfl (fun o ho => sI_o ho) ⟨by rw [sI_ne (by omega)]; exact r1.trans vD, sI_eq, by rw [sI_ne (by omega)]; exact r3, sI_ne (by omega)⟩ (fun o a b d => sI_o (by omega)) ⟨by rw [sI_o (by omega)]; exact vD, sI_eq, by rw [sI_o (by omega)]⟩, AB_fr h2 (sI_o (by omega)) (by rw [sI_o (by omega)]) (by rw [sI_o (by omega)]), fun o k z => by rw [sI_ne (by omega)]; exact h3 o k z, fun o k a b => h4 o k a b, fun o k a b => ?_⟩
    rw [sI_ne (fun z => a (by rw [z.1, z.2]; exact in25))]; exact h5 o k a b
  obtain ⟨c3, j1, j2, j3, j4, j5, j6, j7, j8⟩ := tb_start (F := F) hTB (0 : Int32)
  have h53 : (g_sI m1 25 1 (nI l)).1 0 53 = m.1 0 53 := by rw [sI_o (by omega)]; exact k5 0 53 n0D
  have h55 : (g_sI m1 25 1 (nI l)).1 0 55 = m.1 0 55 := by rw [sI_o (by omega)]; exact k5 0 55 n0D
  have hSG := SG_of (b := 1) j2.1.2.2.2.2.1 (by omega) j4 j5 j6 j7 (h53.trans hC.2.2.2.2.2.1.1) (h55.trans hC.2.2.2.2.2.1.2)
  have hday : vl (g_sI m1 25 1 (nI l)) 24 1 + n ≤ 10000 := by
    have : vl (g_sI m1 25 1 (nI l)) 24 1 = vl m1 24 1 := by unfold vl; rw [sI_o (by omega)]
    rw [this, vl_1 k4]; have := hC.2.2.2.2.1; omega
  obtain ⟨D, _⟩ := d_iter hF (tb_dy j2 j3) hSG n hday
  have hp := d_pass hF (tb_dy j2 j3) hSG (n := n) (by omega) hday
  have hx := r_mixedMany hF D.1.2.2.2.2.1 (f := 1) (by omega)
  have hq := (q_mixed2 hF D.1).trans hx
  have hM := ch_days hF (tb_dy j2 j3) hSG hn hday a1 a3 v5 (nI i)
  obtain ⟨vL, bL⟩ := D.1.2.2.2.2.2.2.1.1.2.1
  have eL := D.1.2.2.2.2.2.2.2.1.2.1
  have hrel := tb_rel j2 D.2.2.2.2 (by rw [D.2.2.2.2.2 0 53 (by omega) n0D]; exact h53) (by rw [D.2.2.2.2.2 0 55 (by omega) n0D]; exact h55)
  have hVn := tb_inv hV j2 D.2.2.2.1 hrel D.2.2.1
  have hi10 : nI i < (10 : Int32) := (g_ltN (b := 10) (by omega) (by omega)).mpr hi
  refine ⟨_, v5 + (if a3 ≤ nI (sumN (fun p => cntP (fun s => !ownP (itr (nxM F 1 1) n (g_sI m1 25 1 (nI l))) 1 p s) (vl (itr (nxM F 1 1) n (g_sI m1 25 1 (nI l))) 2 1)) (vl (itr (nxM F 1 1) n (g_sI m1 25 1 (nI l))) 2 0)) then nI 1 else nI 0), _, _, bL, hVn, fun sf => ?_, fun sf => ?_⟩
  · unfold f10_chance_b36_body
    rw [if_pos hi10, k1, g_bs, g_let_e, j1, g_bs, hp, g_bs, g_let_e, hq, g_bs]
    unfold f10_chance_b110
    rw [g_let_e, g_let_e, g_let_e, g_let_e, eL, vL]
    split
    · rw [g_l1, nI_add]
    · rw [g_l1, nI_add]; rfl
  · unfold f11_chance_b41_body
    have ck : ∀ k : Option (Int32 × g_M), g_ck (1 : Int32) 23 k = k := fun k => g_ckN (x := 1) (by omega) (by omega)
    have k2' : f11_copies F (1 : Int32) (0 : Int32) m = some m1 := k2
    have cl1 : (1 : Int32).toNatClampNeg = 1 := rfl
    rw [if_pos hi10, k2', g_bs, ck, g_let_e, cl1, hM sf hx, nI_add, vL]
theorem s_chance (hF : 5000 < F) (h : INV c m) (a1 a2 a3 : Int32) : CALL (f10_chance F a1 a2 a3 c) (f11_chance F a1 a2 a3 m) := by
  refine call_of h (fun T S m1 hV hC hI hTa hFl hA hS hG => ?_)
  unfold f10_chance
  by_cases z1 : (0 : Int32) ≤ a1
  rotate_left
  · rw [if_neg z1, if_neg z1]; exact ⟨_, _, _, rfl, rfl, hV⟩
  rw [if_pos z1, if_pos z1]
  by_cases z2 : (1 : Int32) ≤ a2
  rotate_left
  · rw [if_neg z2, if_neg z2]; exact ⟨_, _, _, rfl, rfl, hV⟩
  rw [if_pos z2, if_pos z2]
  by_cases z3 : a2 ≤ (99 : Int32)
  rotate_left
  · rw [if_neg z3, if_neg z3]; exact ⟨_, _, _, rfl, rfl, hV⟩
  rw [if_pos z3, if_pos z3]
  by_cases z4 : (0 : Int32) ≤ a3
  rotate_left
  · rw [if_neg z4, if_neg z4]; exact ⟨_, _, _, rfl, rfl, hV⟩
  rw [if_pos z4, if_pos z4]
  by_cases z5 : (25 : Int32) < a3
  · rw [if_pos z5, if_pos z5]; exact ⟨_, _, _, rfl, rfl, hV⟩
  rw [if_neg z5, if_neg z5]
  obtain ⟨l, hl, rfl⟩ : ∃ l, l < 2147483648 ∧ a1 = nI l := by
    rcases i_cases a1 with y | y
    · exact absurd z1 (neg_nle y)
    · exact y
  obtain ⟨n, hn, rfl⟩ : ∃ n, n < 2147483648 ∧ a2 = nI n := by
    rcases i_cases a2 with y | y
    · exact absurd (Int32.le_trans (by decide) z2) (neg_nle y)
    · exact y
  have hn' := (g_leN (b := 99) hn (by omega)).mp z3
  obtain ⟨s', t', ⟨l', v', c', m', q1, q2, q3, q4⟩, ⟨sf, e1⟩, ⟨sf', e2⟩⟩ := g_for2 (b := fun sf (x : Int32 × Int32 × Int32 × g_M) => f10_chance_b36_body F (nI l) (nI n) a3 (fun v4 v5 v6 mem => sf (v4, v5, v6, mem)) x.1 x.2.1 x.2.2.1 x.2.2.2) (b' := fun sf (x : Int32 × Int32 × Int32 × g_M) => f11_chance_b41_body F (nI l) (nI n) a3 (fun v4 v5 v6 mem => sf (v4, v5, v6, mem)) x.1 x.2.1 x.2.2.1 x.2.2.2)
    (fun i s t => ∃ l v5 c m, l ≤ 2147483647 ∧ INV c m ∧ s = (nI l, v5, nI i, c) ∧ t = (nI l, v5, nI i, m)) 10 (fun i s t hi hst => by
      obtain ⟨l1, v5, c1, m1, q1, q2, q3, q4⟩ := hst
      subst q3; subst q4
      obtain ⟨l2, v6, c2, m2, w1, w2, w3, w4⟩ := ch_step hF q2 q1 (show n < 100 by omega) (nI l) a3 v5 hi
      exact ⟨_, _, ⟨l2, v6, c2, m2, w1, w2, rfl, rfl⟩, fun sf => w3 _, fun sf => w4 _⟩) (s := (nI l, 0, 0, c)) (t := (nI l, 0, 0, m1)) ⟨l, 0, c, m1, by omega, hV, rfl, rfl⟩ (F := F) (by omega)
  unfold f10_chance_b36 f11_chance_b41
  rw [e1, e2]
  subst q3; subst q4
  show CALL (f10_chance_b36_body F (nI l) (nI n) a3 _ (nI l') v' (nI 10) c') (f11_chance_b41_body F (nI l) (nI n) a3 _ (nI l') v' (nI 10) m')
  unfold f10_chance_b36_body f11_chance_b41_body
  rw [if_neg (show ¬ nI 10 < (10 : Int32) by decide), if_neg (show ¬ nI 10 < (10 : Int32) by decide)]
  exact ⟨_, _, _, rfl, rfl, q2⟩
end L
