/-! the order: a row of sendings is laid out, played and weighed -/
section L
variable {F : Nat} {c m c' m' c1 m1 c2 m2 : g_M} {T S : Nat}
def dg (r j : Nat) : Nat := if j = 0 then r / 64 % 4 else if j = 1 then r / 16 % 4 else if j = 2 then r / 4 % 4 else r % 4
theorem dg_lt (r j : Nat) : dg r j < 4 := by
  unfold dg
  split
  · omega
  · split
    · omega
    · split <;> omega
theorem q_digit {r j : Nat} (hr : r < 256) (hj : j < 4) : f4_digit F (nI r) (nI j) c = some (nI (dg r j)) := by
  unfold f4_digit
  have e1 : (6 : Int32) - (2 : Int32) * nI j = nI (6 - 2 * j) := by
    rw [show (2 : Int32) = nI 2 from rfl, pk_mul]; exact g_subN (a := 6) (by omega)
  rw [e1, pk_shrN (by omega) (nI (6 - 2 * j) &&& 31) (6 - 2 * j) (by rw [shr_amt (by omega)]; exact Nat.mod_eq_of_lt (by omega)), pk_andN (by
    have : r / 2 ^ (6 - 2 * j) ≤ r := Nat.div_le_self _ _
    omega) 2 (by decide)]
  rcases (show j = 0 ∨ j = 1 ∨ j = 2 ∨ j = 3 by omega) with rfl | rfl | rfl | rfl
  · rfl
  · rfl
  · rfl
  · show some (nI (r / 1 % 4)) = some (nI (r % 4))
    rw [Nat.div_one]
def psum (m : g_M) (f : Nat) : Nat := sumN (fun p => vl m 28 (5 * f + p)) (vl m 2 0)
theorem sumI_n {g : Nat → Int32} {h : Nat → Nat} : ∀ n, (∀ i, i < n → g i = nI (h i)) → sumI g n = nI (sumN h n) := by
  intro n
  induction n with
  | zero => intro _; rfl
  | succ n ih =>
    intro e
    show sumI g n + g n = _
    rw [ih (fun i hi => e i (by omega)), e n (by omega), nI_add]
    rfl
theorem psum_eq {f : Nat} (hWS : WS m f) : sumI (fun p => m.1 28 (5 * f + p)) (vl m 2 0) = nI (psum m f) := sumI_n _ (fun i hi => (hWS.2.1 i hi).1)
theorem psum_le {f : Nat} (hW : WT m) (hWS : WS m f) : psum m f ≤ 499995 := by
  have h := sumN_le (fun p => vl m 28 (5 * f + p)) 99999 (vl m 2 0) (fun i hi => (hWS.2.1 i hi).2)
  have h5 := hW.1.1.2
  have : vl m 2 0 * 99999 ≤ 5 * 99999 := Nat.mul_le_mul_right _ h5
  unfold psum
  omega
theorem q_set47 {n k : Nat} (hn : n < 12) (hk : k < 4) (v : Int32) : f7_setSending F 47 (nI n) (nI k) v c = some (g_sI c 51 (4 * n + k) v) := by
  unfold f7_setSending
  rw [g_l4, pk_mul, nI_add, Nat.mul_comm n 4, g_ckN (by omega) (by omega), g_clN (by omega)]
  rfl
def OJ (m0 : g_M) (K : Nat) (fo : Nat → Nat) (c m : g_M) : Prop := INV c m ∧ (∀ o k, relM o k → m.1 o k = m0.1 o k) ∧ c.1 57 0 = nI K ∧ m.1 0 62 = nI K ∧ (∀ j, j < K → fo j < 12 ∧ c.1 59 j = nI (fo j) ∧ m.1 36 j = nI (fo j)) ∧ ((c.1 57 3 = nI 0 ∧ m.1 0 64 = nI 0) ∨ (c.1 57 3 = nI 1 ∧ m.1 0 64 = nI 1 ∧ ∃ Q, Q ≤ 499995 ∧ c.1 57 1 = nI Q ∧ m.1 0 63 = nI Q - nI (psum m0 0) ∧ ∀ j, j < K → c.1 58 j = m.1 38 j))
/-- both lay a row out, and go twenty days -/
theorem or_play (hF : 5000 < F) {m0 : g_M} {K r : Nat} {fo : Nat → Nat} (hK : K ≤ 4) (hr : r < 256) (hd : ∀ j, j < K → dg r j < K) (hJ : OJ m0 K fo c m) (h37 : ∀ j, j < K → m.1 37 j = nI (fo (dg r j))) : ∃ c1 c2 c3 c4 m1 m4, f7_copy F 47 35 c = some c1 ∧ f4_layOut F (nI r) 47 c1 = some c2 ∧ f0_start F 47 (1 : Int32) c2 = some c3 ∧ f0_pass F (20 : Int32) c3 = some c4 ∧ f7_allPence F 47 c4 = some (nI (psum m4 1)) ∧ psum m4 1 ≤ 499995 ∧ psum m4 0 = psum m0 0 ∧ psum m4 0 ≤ 499995 ∧ f11_copies F (1 : Int32) (0 : Int32) m = some m1 ∧ (∀ rc a1 a2, f11_rows_b69 F rc a1 a2 (0 : Int32) m1 = (if m4.1 0 64 = (0 : Int32) then f11_rows_b141 F rc a1 a2 (nI (psum m4 1) - nI (psum m4 0)) m4 else (if nI (psum m4 1) - nI (psum m4 0) ≤ m4.1 0 63 then some m4 else f11_rows_b141 F rc a1 a2 (nI (psum m4 1) - nI (psum m4 0)) m4))) ∧ INV c4 m4 ∧ (∀ o k, relM o k → m4.1 o k = m0.1 o k) ∧ (∀ o, 56 ≤ o → c4.1 o = c.1 o) ∧ (∀ o k, 36 ≤ o ∨ (o = 0 ∧ 57 ≤ k) → m4.1 o k = m.1 o k) := by
  obtain ⟨hV, hrel0, c57, m62, hfo, _⟩ := id hJ
  obtain ⟨T, S, hC, hI, hTa, hFl, hA, hS⟩ := INV_un hV
  have hTS := hC.2.2.2.1
  obtain ⟨c1, m1, k1, k2, k3, k4, k5⟩ := tb_copy hF hTS hA
  have k2' : f11_copies F (1 : Int32) (0 : Int32) m = some m1 := k2
  obtain ⟨vD, bD⟩ := hTS.2.2.2.2.2.2.1.1.1
  have hd9 := hC.2.2.2.2.1
  have key := fun rc a1 a2 => g_for2 (b := fun sf (x : Int32 × g_M) => f4_layOut_b2_body F (nI r) 47 (fun v3 mem => sf (v3, mem)) x.1 x.2) (b' := fun sf (x : Int32 × g_M) => f11_rows_b69_body F rc a1 a2 (fun v3 mem => sf (v3, mem)) x.1 x.2)
    (fun i x y => ∃ cc mm, x = (nI i, cc) ∧ y = (nI i, mm) ∧ cc = itI (fun j q => g_sI q 51 (4 * fo (dg r j) + 2) (nI (vl m 24 0 + 2 * j))) i c1 ∧ mm = itI (fun j q => g_sI q 34 (12 + fo (dg r j)) (nI (vl m 24 0 + 2 * j))) i m1 ∧ TB c m cc mm T ∧ vl mm 24 1 = vl m 24 0 ∧ ∀ o k, ¬ inD o k 1 → mm.1 o k = m.1 o k) K (fun i x y hi hxy => by
      obtain ⟨cc, mm, rfl, rfl, ec, em, h1, h2, h3⟩ := hxy
      have hdi := hd i hi
      obtain ⟨f1, f2, f3⟩ := hfo (dg r i) hdi
      have hday1 : cc.1 47 1 = nI (vl m 24 0) := by
        rw [h1.1.2.2.2.2.2.2.2.1.1]
        obtain ⟨vv, _⟩ := h1.1.2.2.2.2.2.2.1.1.1
        rw [vv, h2]
      have hday0 : mm.1 24 0 = nI (vl m 24 0) := by
        rw [h3 24 0 (fun z => by have := z.2.2.1; revert this; show ¬ 1 * 1 ≤ 0; omega)]; exact vD
      refine ⟨_, _, ⟨g_sI cc 51 (4 * fo (dg r i) + 2) (nI (vl m 24 0 + 2 * i)), g_sI mm 34 (12 + fo (dg r i)) (nI (vl m 24 0 + 2 * i)), rfl, rfl, by rw [ec]; rfl, by rw [em]; rfl, ?_, ?_, ?_⟩, fun sf => ?_, fun sf => ?_⟩
      · obtain ⟨g1, g2, g3, g4, g5⟩ := h1
        refine ⟨TS_due g1 f1 (show vl m 24 0 + 2 * i ≤ 10000 by omega) rfl (fun o ho => sI_o ho) (fun k => sI_at) (fun o ho => sI_o ho) (fun k => sI_at), AB_fr g2 (sI_o (by omega)) (by rw [sI_o (by omega)]) (by rw [sI_o (by omega)]), fun o k z => by rw [sI_ne (by omega)]; exact g3 o k z, fun o k a b => g4 o k a b, fun o k a b => ?_⟩
        rw [sI_ne (fun z => a (by rw [z.1, z.2]; exact in34 (f := 1) f1))]; exact g5 o k a b
      · unfold vl; rw [sI_o (by omega)]; exact h2
      · intro o k z
        rw [sI_ne (fun y => z (by rw [y.1, y.2]; exact in34 (f := 1) f1))]; exact h3 o k z
      · show f4_layOut_b2_body F (nI r) 47 _ (nI i) cc = _
        unfold f4_layOut_b2_body
        have c57' : cc.1 57 0 = nI K := by rw [h1.2.2.1 57 0 (by omega)]; exact c57
        have c59' : cc.1 59 (dg r i) = nI (fo (dg r i)) := by rw [h1.2.2.1 59 _ (by omega)]; exact f2
        rw [c57', if_pos ((g_ltN (by omega) (by omega)).mpr hi), q_digit hr (by omega), g_bs, g_ckN (by omega) (by omega), g_clN (by omega), c59', hday1, show (2 : Int32) * nI i = nI (2 * i) from pk_mul 2 i, nI_add, show f7_setSending F 47 (nI (fo (dg r i))) (2 : Int32) (nI (vl m 24 0 + 2 * i)) cc = _ from q_set47 (k := 2) f1 (by omega) _, g_bs, g_let_e, nI_s]
      · show f11_rows_b69_body F rc a1 a2 _ (nI i) mm = _
        unfold f11_rows_b69_body
        have m62' : mm.1 0 62 = nI K := by rw [h3 0 62 n0D]; exact m62
        have m37' : mm.1 37 i = nI (fo (dg r i)) := by rw [h3 37 i (fun z => by have := z.2.1; omega)]; exact h37 i hi
        rw [m62', if_pos ((g_ltN (by omega) (by omega)).mpr hi), g_ckN (by omega) (by omega), show g_ck (0 : Int32) 23 = g_ck (nI 0) 23 from rfl, g_ckN (by omega) (by omega), g_clN (by omega), m37', show (12 : Int32) + nI (fo (dg r i)) = nI (12 + fo (dg r i)) from nI_add 12 _, g_ckN (by omega) (by omega), g_clN (by omega), show (0 : Int32).toNatClampNeg = 0 from rfl, hday0, show (2 : Int32) * nI i = nI (2 * i) from pk_mul 2 i, nI_add, g_let_e, g_let_e, nI_s]) (s := ((0 : Int32), c1)) (t := ((0 : Int32), m1)) ⟨c1, m1, rfl, rfl, rfl, rfl, k3, vl_1 k4, k5⟩ (F := F) (by omega)
  obtain ⟨_, _, ⟨c2, m2, rfl, rfl, ec, em, h1, h2, h3⟩, ⟨sf, e1⟩, _⟩ := key (fun _ _ _ => none) 0 0
  have keyM : ∀ rc a1 a2, ∃ sf, f11_rows_b69 F rc a1 a2 (0 : Int32) m1 = f11_rows_b69_body F rc a1 a2 sf (nI K) m2 := fun rc a1 a2 => by
    obtain ⟨_, _, ⟨c2', m2', rfl, rfl, ec', em', _, _, _⟩, _, ⟨sf, e2⟩⟩ := key rc a1 a2
    refine ⟨fun v3 mem => sf (v3, mem), ?_⟩
    rw [em, ← em']; exact e2
  have c57' : c2.1 57 0 = nI K := by rw [h1.2.2.1 57 0 (by omega)]; exact c57
  have lay : f4_layOut F (nI r) 47 c1 = some c2 := by
    unfold f4_layOut f4_layOut_b2
    rw [e1]
    show f4_layOut_b2_body F (nI r) 47 _ (nI K) c2 = _
    unfold f4_layOut_b2_body
    rw [c57', if_neg (fun z => Nat.lt_irrefl _ ((g_ltN (by omega) (by omega)).mp z))]
  obtain ⟨c3, j1, j2, j3, j4, j5, j6, j7, j8⟩ := tb_start (F := F) h1 (1 : Int32)
  have h53 : m2.1 0 53 = m.1 0 53 := h3 0 53 n0D
  have h55 : m2.1 0 55 = m.1 0 55 := h3 0 55 n0D
  have hSG := SG_of (b := 0) j2.1.2.2.2.2.1 (by omega) j4 j5 j6 j7 (h53.trans hC.2.2.2.2.2.1.1) (h55.trans hC.2.2.2.2.2.1.2)
  have hday : vl m2 24 1 + 20 ≤ 10000 := by omega
  obtain ⟨D, _⟩ := d_iter hF (tb_dy j2 j3) hSG 20 hday
  have hp : f0_pass F (20 : Int32) c3 = _ := d_pass hF (tb_dy j2 j3) hSG (n := 20) (by omega) hday
  have hg : f11_goesOn F (20 : Int32) m2 = _ := d_goesOn hF (tb_dy j2 j3) hSG (n := 20) (by omega) hday
  obtain ⟨c4, hc4⟩ : ∃ x, x = itr (nxC F) 20 c3 := ⟨_, rfl⟩
  obtain ⟨m4, hm4⟩ : ∃ x, x = itr (nxM F 1 0) 20 m2 := ⟨_, rfl⟩
  rw [← hc4, ← hm4] at D
  rw [← hc4] at hp
  rw [← hm4] at hg
  have hrel := tb_rel j2 D.2.2.2.2 (by rw [D.2.2.2.2.2 0 53 (by omega) n0D]; exact h53) (by rw [D.2.2.2.2.2 0 55 (by omega) n0D]; exact h55)
  have hV4 := tb_inv hV j2 D.2.2.2.1 hrel D.2.2.1
  have hT0 := tb_ts hTS j2 D.2.2.2.1 hrel
  have hrel4 : ∀ o k, relM o k → m4.1 o k = m0.1 o k := fun o k z => (hrel o k z).trans (hrel0 o k z)
  have fm : ∀ o k, 36 ≤ o ∨ (o = 0 ∧ 57 ≤ k) → m4.1 o k = m.1 o k := fun o k z => by
    have nd : ¬ inD o k 1 := fun y => by have := y.1; have := y.2.1; omega
    rw [D.2.2.2.2.2 o k (by omega) nd]; exact h3 o k nd
  have fc : ∀ o, 56 ≤ o → c4.1 o = c.1 o := fun o ho => by
    funext k
    rw [D.2.2.2.1.2 o k (by omega) (by omega) (by omega)]; exact j2.2.2.1 o k (by omega)
  have e28 : ∀ p, p < 5 → m4.1 28 (5 * 0 + p) = m0.1 28 (5 * 0 + p) := fun p hp => hrel4 28 _ (Or.inr (Or.inr (Or.inl ⟨by omega, by omega, inD_ne (in28 (f := 0) hp) (by omega)⟩)))
  have e20 : vl m4 2 0 = vl m0 2 0 := by unfold vl; rw [hrel4 2 0 (by unfold relM; omega)]
  have ps0 : psum m4 0 = psum m0 0 := by
    unfold psum
    rw [e20]
    have h5 : vl m0 2 0 ≤ 5 := by rw [← e20]; exact hT0.2.2.2.2.1.1.1.2
    exact sumN_congr (fun i hi => by unfold vl; rw [e28 i (by omega)])
  have hW4 := D.1.2.2.2.2.1
  have hWS1 := D.1.2.2.2.2.2.2.1
  have hWS0 := hT0.2.2.2.2.2.2.1
  have p1 : f11_penceAll F (1 : Int32) m4 = some (nI (psum m4 1)) := (r_penceAll hF hW4 (f := 1) (by omega)).trans (congrArg some (psum_eq hWS1))
  have p0 : f11_penceAll F (0 : Int32) m4 = some (nI (psum m4 0)) := (r_penceAll hF hW4 (f := 0) (by omega)).trans (congrArg some (psum_eq hWS0))
  refine ⟨c1, c2, c3, c4, m1, m4, k1, lay, j1, hp, (q_allPence hF D.1).trans (congrArg some (psum_eq hWS1)), psum_le hW4 hWS1, ps0, psum_le hW4 hWS0, k2', fun rc a1 a2 => ?_, hV4, hrel4, fc, fm⟩
  obtain ⟨sf, e⟩ := keyM rc a1 a2
  have m62' : m2.1 0 62 = nI K := by rw [h3 0 62 n0D]; exact m62
  rw [e]
  unfold f11_rows_b69_body
  rw [m62', if_neg (fun z => Nat.lt_irrefl _ ((g_ltN (by omega) (by omega)).mp z)), hg, g_bs, p1, g_bs, p0, g_bs, g_let_e]
end L
