/-! how much room there was: all that was seen is weighed, day by day -/
section L
variable {F : Nat} {c m c' m' c1 m1 c2 m2 c3 m3 : g_M} {T S t f : Nat}
theorem nI_s (i : Nat) : nI i + (1 : Int32) = nI (i + 1) := nI_add i 1
theorem TGT_of (hS : SEEN c m) : TGT m (KN m) := by
  obtain ⟨_, _, l3, _, l5⟩ := lim (F := 0) hS
  intro i hi
  obtain ⟨_, a2⟩ := se_at hS (show i < vl m 0 65 by omega)
  rcases a2 with ⟨z, ⟨d, d1, d2, d3, d4⟩, _⟩ | z
  · exact Or.inl ⟨z, d, d2, d4⟩
  · exact Or.inr z
theorem q_weigh (hF : 5000 < F) (hS : SEEN c m) : ∃ c', f6_weigh F c = some (nI (mxd m (strk m (KN m) noA) (KN m)), c') ∧ c'.2.2 = c.2.2 ∧ (∀ o, o ≠ 66 → c'.1 o = c.1 o) ∧ STR c' 66 (strk m (KN m) noA) (KN m) := by
  have hT := TGT_of hS
  obtain ⟨l1, l2, l3, l4, l5⟩ := lim (F := F) hS
  obtain ⟨w1, w2, w3⟩ := wrF 66 (fun _ => nI 0) c (vl m 0 65)
  obtain ⟨c1, hc1⟩ : ∃ x, x = itI (inF 66 (fun _ => nI 0)) (vl m 0 65) c := ⟨_, rfl⟩
  have hco : ∀ o, o ≠ 66 → c1.1 o = c.1 o := fun o ho => by funext k; rw [hc1]; exact w2 o k (by omega)
  have hS1 : SEEN c1 m := SEEN_fr hS (fun o a b => hco o (by omega)) rfl rfl (fun _ _ _ => rfl)
  obtain ⟨mem', k1, k2, k3, k4⟩ := q_wl (F := F) hS1 hT (KN m) (Nat.le_refl _) noA 0 c1 (by omega) rfl (fun _ _ => rfl) (fun j hj => by
    rw [hc1]; exact w3 j (by omega)) F (by omega)
  refine ⟨mem', ?_, k2.trans (by rw [hc1]; exact w1), fun o ho => (k3 o ho).trans (hco o ho), k4⟩
  unfold f6_weigh f6_weigh_b4
  refine g_for (fun i => (nI 0, nI i, itI (inF 66 (fun _ => nI 0)) i c)) (vl m 0 65) (fun i hi sf => ?_) (by omega) (fun sf => ?_)
  · have e : (itI (inF 66 (fun _ => nI 0)) i c).1 60 0 = nI (vl m 0 65) := by rw [(wrF 66 (fun _ => nI 0) c i).2.1 60 0 (by omega)]; exact l4
    unfold f6_weigh_b4_body
    rw [e, if_pos ((g_ltN (by omega) (by omega)).mpr hi), ck24 (by omega), g_let_e, g_let_e, g_clN (by omega), nI_s]
    rfl
  · unfold f6_weigh_b4_body
    rw [← hc1, (lim (F := F) hS1).2.2.2.1, if_neg (fun z => Nat.lt_irrefl _ ((g_ltN (by omega) (by omega)).mp z)), (lim (F := F) hS1).1, g_bs, g_let_e, Int32.sub_eq_add_neg]
    unfold f6_weigh_b32
    rw [Nat.max_eq_right (Nat.zero_le _)] at k1
    exact k1
theorem km (hS : SEEN c m) {mem : g_M} (h : mem.1 0 = m.1 0) : f11_knownMany F mem = some (nI (KN m)) := by
  have := (lim (F := F) hS).2.1
  unfold f11_knownMany at this ⊢
  rw [h]; exact this
theorem r_b80 (hF : 5000 < F) (hS : SEEN c m) {mem : g_M} {Z : Nat → Bool} (hm : ∀ o, o ≠ 43 → mem.1 o = m.1 o) (hZ : STR mem 43 Z (KN m)) : f11_rooms_b80 F (0 : Int32) (0 : Int32) mem = f11_rooms_b128 F (nI (mxd m Z (KN m))) (0 : Int32) (0 : Int32) mem := by
  obtain ⟨l1, l2, l3, l4, l5⟩ := lim (F := F) hS
  have hk := km (F := F) hS (hm 0 (by omega))
  unfold f11_rooms_b80
  refine g_for (fun i => (nI (mxd m Z i), nI i, mem)) (KN m) (fun i hi sf => ?_) (by omega) (fun sf => ?_)
  · unfold f11_rooms_b80_body f11_rooms_b118
    simp only [g_let]
    obtain ⟨a1, a2⟩ := se_at hS (show i < vl m 0 65 by omega)
    rw [hk, g_bs, if_pos ((g_ltN (by omega) (by omega)).mpr hi), ck24 (by omega), g_clN (by omega), hZ i hi, hm 42 (by omega), hm 39 (by omega), nI_s]
    have es : mxd m Z (i + 1) = if Z i = false ∧ m.1 42 i = -1 then max (mxd m Z i) (vl m 39 i) else mxd m Z i := rfl
    have hb := mxd_le (TGT_of hS) (by omega) Z i (by omega)
    by_cases x : Z i = true
    · rw [if_pos x, if_neg nI10, es, if_neg (fun z => by rw [x] at z; exact absurd z.1 (by decide))]
    · have x' : Z i = false := by cases h : Z i <;> simp_all
      rw [if_neg x, if_pos nI00, ck24 (by omega)]
      rcases a2 with ⟨z, ⟨d, d1, d2, d3, d4⟩, _⟩ | ⟨k, hk, z⟩
      · rw [if_pos z, ck24 (by omega), es, if_pos (show Z i = false ∧ m.1 42 i = -1 from ⟨x', z⟩), d4, vl_of d4 (by omega)]
        have hmx : (if nI (mxd m Z i) < nI d then nI d else nI (mxd m Z i)) = nI (max (mxd m Z i) d) := by
          by_cases y : mxd m Z i < d
          · rw [if_pos ((g_ltN (by omega) (by omega)).mpr y), Nat.max_eq_right (by omega)]
          · rw [if_neg (fun q => y ((g_ltN (by omega) (by omega)).mp q)), Nat.max_eq_left (by omega)]
        rw [hmx]
      · have zn : ¬ m.1 42 i = -1 := by rw [z]; exact nI_m1 (by omega)
        rw [if_neg zn, es, if_neg (fun y => zn y.2)]
  · unfold f11_rooms_b80_body
    rw [hk, g_bs, if_neg (fun z => Nat.lt_irrefl _ ((g_ltN (by omega) (by omega)).mp z))]
theorem r_weigh (hF : 5000 < F) (hS : SEEN c m) : ∃ m', f11_rooms_b9 F (0 : Int32) (0 : Int32) m = f11_rooms_b128 F (nI (mxd m (strk m (KN m) noA) (KN m))) (0 : Int32) (0 : Int32) m' ∧ m'.2.2 = m.2.2 ∧ (∀ o, o ≠ 43 → m'.1 o = m.1 o) ∧ STR m' 43 (strk m (KN m) noA) (KN m) := by
  have hT := TGT_of hS
  obtain ⟨l1, l2, l3, l4, l5⟩ := lim (F := F) hS
  obtain ⟨w1, w2, w3⟩ := wrF 43 (fun _ => nI 0) m (KN m)
  obtain ⟨m1, hm1⟩ : ∃ x, x = itI (inF 43 (fun _ => nI 0)) (KN m) m := ⟨_, rfl⟩
  have hmo : ∀ o, o ≠ 43 → m1.1 o = m.1 o := fun o ho => by funext k; rw [hm1]; exact w2 o k (by omega)
  obtain ⟨mem', k1, k2, k3, k4⟩ := r_wl (F := F) hS hT (KN m) (Nat.le_refl _) noA (0 : Int32) m1 (by rw [hm1]; exact w1) hmo (fun j hj => by rw [hm1]; exact w3 j hj) F (by omega)
  refine ⟨mem', ?_, k2, k3, k4⟩
  rw [← r_b80 hF hS k3 k4, ← k1]
  unfold f11_rooms_b9
  refine g_for (fun i => (nI 0, nI i, itI (inF 43 (fun _ => nI 0)) i m)) (KN m) (fun i hi sf => ?_) (by omega) (fun sf => ?_)
  · have e := km (F := F) (mem := itI (inF 43 (fun _ => nI 0)) i m) hS (by funext k; exact (wrF 43 (fun _ => nI 0) m i).2.1 0 k (by omega))
    unfold f11_rooms_b9_body
    rw [e, g_bs, if_pos ((g_ltN (by omega) (by omega)).mpr hi), ck24 (by omega), g_let_e, g_let_e, g_clN (by omega), nI_s]
    rfl
  · have e := km (F := F) (mem := m1) hS (hmo 0 (by omega))
    unfold f11_rooms_b9_body
    rw [← hm1, e, g_bs, if_neg (fun z => Nat.lt_irrefl _ ((g_ltN (by omega) (by omega)).mp z)), g_bs, g_let_e, Int32.sub_eq_add_neg]
    rfl
/-- a day's seeings -/
def badP (m : g_M) (Z : Nat → Bool) (d i : Nat) : Bool := !Z i && decide (m.1 42 i = -1) && decide (m.1 39 i = nI d) && !decide ((if m.1 30 (25 + vl m 40 i) = nI 1 then nI 1 else nI 0) = m.1 41 i)
theorem q_agrees (hF : 5000 < F) (hS : SEEN c m) {Z : Nat → Bool} (hZ : STR c 66 Z (KN m)) (hR : ∀ i, i < 25 → c.1 50 i = m.1 30 (25 + i)) (d : Nat) : f6_agrees F (nI d) 47 c = some (if fstP (badP m Z d) (KN m) < KN m then nI 0 else nI 1) := by
  obtain ⟨l1, l2, l3, l4, l5⟩ := lim (F := F) hS
  have hle := fstP_le (badP m Z d) (KN m)
  unfold f6_agrees f6_agrees_b2
  refine g_search (badP m Z d) (KN m) (fun i hi hP sf => ?_) (by omega) (fun sf => ?_)
  · obtain ⟨a1, a2⟩ := se_at hS (show i < vl m 0 65 by omega)
    unfold f6_agrees_b2_body f6_agrees_b68 f6_agrees_b83
    simp only [g_let]
    rw [l1, g_bs, if_pos ((g_ltN (by omega) (by omega)).mpr hi), ck24 (by omega), g_clN (by omega), hZ i hi, a1, nI_s]
    unfold badP at hP
    by_cases x : Z i = true
    · rw [if_pos x, if_neg nI10]
    · have x' : Z i = false := by cases h : Z i <;> simp_all
      rw [if_neg x, if_pos nI00, ck24 (by omega)]
      rcases a2 with ⟨z, ⟨e, e1, e2, e3, e4⟩, ⟨p, s, p1, p2, p3, p4, p5⟩, t1, t2⟩ | ⟨k, hk, z⟩
      · rw [if_pos z, ck24 (by omega), e3]
        by_cases y : nI e = nI d
        · rw [if_pos y, ck24 (by omega), ck24 (by omega), p3, p4, g_l5, pk_mul, Nat.mul_comm p 5, nI_add, g_ckN (by omega) (by omega), g_clN (by omega), hR _ (by omega), t1]
          rw [vl_of p5 (by omega)] at hP
          simp only [x', z, e4, y, Bool.not_false, decide_true, Bool.true_and, Bool.not_eq_false', decide_eq_true_eq] at hP
          by_cases w : m.1 30 (25 + (5 * p + s)) = nI 1
          · rw [if_pos w] at hP
            rw [if_pos (show m.1 30 (25 + (5 * p + s)) = (1 : Int32) from w), ck24 (by omega), if_pos (show (1 : Int32) = m.1 41 i from hP)]
          · rw [if_neg w] at hP
            rw [if_neg (show ¬ m.1 30 (25 + (5 * p + s)) = (1 : Int32) from w), ck24 (by omega), if_pos (show (0 : Int32) = m.1 41 i from hP)]
        · rw [if_neg y]
      · rw [if_neg (show ¬ m.1 42 i = (-1 : Int32) by rw [z]; exact nI_m1 (by omega))]
  · unfold f6_agrees_b2_body f6_agrees_b68 f6_agrees_b83
    rw [l1, g_bs]
    by_cases w : fstP (badP m Z d) (KN m) < KN m
    · have hy := fstP_yes _ _ w
      generalize fstP (badP m Z d) (KN m) = i at *
      obtain ⟨a1, a2⟩ := se_at hS (show i < vl m 0 65 by omega)
      rw [if_pos ((g_ltN (by omega) (by omega)).mpr w), if_pos w, ck24 (by omega), g_clN (by omega), hZ i w, a1]
      unfold badP at hy
      simp only [Bool.and_eq_true, Bool.not_eq_true', decide_eq_true_eq, decide_eq_false_iff_not] at hy
      obtain ⟨⟨⟨y1, y2⟩, y3⟩, y4⟩ := hy
      rw [y1, if_neg ft, if_pos nI00, ck24 (by omega), if_pos y2, ck24 (by omega)]
      rcases a2 with ⟨z, ⟨e, e1, e2, e3, e4⟩, ⟨p, s, p1, p2, p3, p4, p5⟩, t1, t2⟩ | ⟨k, hk, z⟩
      · rw [e3, if_pos (e4.symm.trans y3), ck24 (by omega), ck24 (by omega), p3, p4, g_l5, pk_mul, Nat.mul_comm p 5, nI_add, g_ckN (by omega) (by omega), g_clN (by omega), hR _ (by omega), t1]
        rw [vl_of p5 (by omega)] at y4
        by_cases w : m.1 30 (25 + (5 * p + s)) = nI 1
        · rw [if_pos w] at y4
          rw [if_pos (show m.1 30 (25 + (5 * p + s)) = (1 : Int32) from w), ck24 (by omega), if_neg (show ¬ (1 : Int32) = m.1 41 i from y4)]; rfl
        · rw [if_neg w] at y4
          rw [if_neg (show ¬ m.1 30 (25 + (5 * p + s)) = (1 : Int32) from w), ck24 (by omega), if_neg (show ¬ (0 : Int32) = m.1 41 i from y4)]; rfl
      · exact absurd (z.symm.trans y2) (nI_m1 (by omega))
    · rw [if_neg w, if_neg (fun z => w ((g_ltN (by omega) (by omega)).mp z))]; rfl
theorem r_isSo (hF : 5000 < F) (hS : SEEN c m) {Z : Nat → Bool} (hZ : STR m 43 Z (KN m)) (d : Nat) : f11_isSo F (nI d) m = some (if fstP (badP m Z d) (KN m) < KN m then nI 0 else nI 1) := by
  obtain ⟨l1, l2, l3, l4, l5⟩ := lim (F := F) hS
  have hle := fstP_le (badP m Z d) (KN m)
  unfold f11_isSo f11_isSo_b2
  refine g_search (badP m Z d) (KN m) (fun i hi hP sf => ?_) (by omega) (fun sf => ?_)
  · obtain ⟨a1, a2⟩ := se_at hS (show i < vl m 0 65 by omega)
    unfold f11_isSo_b2_body f11_isSo_b65 f11_isSo_b76
    simp only [g_let]
    rw [l2, g_bs, if_pos ((g_ltN (by omega) (by omega)).mpr hi), ck24 (by omega), g_clN (by omega), hZ i hi, nI_s]
    unfold badP at hP
    by_cases x : Z i = true
    · rw [if_pos x, if_neg nI10]
    · have x' : Z i = false := by cases h : Z i <;> simp_all
      rw [if_neg x, if_pos nI00, ck24 (by omega)]
      rcases a2 with ⟨z, ⟨e, e1, e2, e3, e4⟩, ⟨p, s, p1, p2, p3, p4, p5⟩, t1, t2⟩ | ⟨k, hk, z⟩
      · rw [if_pos z, ck24 (by omega), e4]
        by_cases y : nI e = nI d
        · rw [if_pos y, ck24 (by omega), p5, g_l25, nI_add, g_ckN (by omega) (by omega), g_clN (by omega)]
          rw [vl_of p5 (by omega)] at hP
          simp only [x', z, e4, y, Bool.not_false, decide_true, Bool.true_and, Bool.not_eq_false', decide_eq_true_eq] at hP
          by_cases w : m.1 30 (25 + (5 * p + s)) = nI 1
          · rw [if_pos w] at hP
            rw [if_pos (show m.1 30 (25 + (5 * p + s)) = (1 : Int32) from w), ck24 (by omega), if_pos (show (1 : Int32) = m.1 41 i from hP)]
          · rw [if_neg w] at hP
            rw [if_neg (show ¬ m.1 30 (25 + (5 * p + s)) = (1 : Int32) from w), ck24 (by omega), if_pos (show (0 : Int32) = m.1 41 i from hP)]
        · rw [if_neg y]
      · rw [if_neg (show ¬ m.1 42 i = (-1 : Int32) by rw [z]; exact nI_m1 (by omega))]
  · unfold f11_isSo_b2_body f11_isSo_b65 f11_isSo_b76
    rw [l2, g_bs]
    by_cases w : fstP (badP m Z d) (KN m) < KN m
    · have hy := fstP_yes _ _ w
      generalize fstP (badP m Z d) (KN m) = i at *
      obtain ⟨a1, a2⟩ := se_at hS (show i < vl m 0 65 by omega)
      rw [if_pos ((g_ltN (by omega) (by omega)).mpr w), if_pos w, ck24 (by omega), g_clN (by omega), hZ i w]
      unfold badP at hy
      simp only [Bool.and_eq_true, Bool.not_eq_true', decide_eq_true_eq, decide_eq_false_iff_not] at hy
      obtain ⟨⟨⟨y1, y2⟩, y3⟩, y4⟩ := hy
      rw [y1, if_neg ft, if_pos nI00, ck24 (by omega), if_pos y2, ck24 (by omega)]
      rcases a2 with ⟨z, ⟨e, e1, e2, e3, e4⟩, ⟨p, s, p1, p2, p3, p4, p5⟩, t1, t2⟩ | ⟨k, hk, z⟩
      · rw [if_pos y3, ck24 (by omega), p5, g_l25, nI_add, g_ckN (by omega) (by omega), g_clN (by omega)]
        rw [vl_of p5 (by omega)] at y4
        by_cases w : m.1 30 (25 + (5 * p + s)) = nI 1
        · rw [if_pos w] at y4
          rw [if_pos (show m.1 30 (25 + (5 * p + s)) = (1 : Int32) from w), ck24 (by omega), if_neg (show ¬ (1 : Int32) = m.1 41 i from y4)]; rfl
        · rw [if_neg w] at y4
          rw [if_neg (show ¬ m.1 30 (25 + (5 * p + s)) = (1 : Int32) from w), ck24 (by omega), if_neg (show ¬ (0 : Int32) = m.1 41 i from y4)]; rfl
      · exact absurd (z.symm.trans y2) (nI_m1 (by omega))
    · rw [if_neg w, if_neg (fun z => w ((g_ltN (by omega) (by omega)).mp z))]; rfl
end L
