/-! feed -/
section L
variable {F : Nat} {c m c' m' c1 m1 c2 m2 c3 m3 : g_M} {T S t f : Nat}
theorem fx_byte_low (x : Int32) : (x &&& 255).toInt8 = x.toInt8 := by
  apply Int8.toBitVec_inj.1
  apply BitVec.eq_of_getLsbD_eq
  intro i hi
  have h2 : (255 : Int32).toBitVec.getLsbD i = true := by
    have : ∀ j : Fin 8, (255 : Int32).toBitVec.getLsbD j.val = true := by decide +kernel
    exact this ⟨i, hi⟩
  have h4 : (x &&& 255).toBitVec.getLsbD i = x.toBitVec.getLsbD i := by
    show (x.toBitVec &&& (255 : Int32).toBitVec).getLsbD i = _
    rw [BitVec.getLsbD_and, h2, Bool.and_true]
  show ((x &&& 255).toBitVec.signExtend 8).getLsbD i = (x.toBitVec.signExtend 8).getLsbD i
  rw [BitVec.getLsbD_signExtend, BitVec.getLsbD_signExtend]
  simp only [show i < 32 by omega, if_true, h4]
theorem byte_of (x : Int32) : ∃ b, b < 256 ∧ x &&& 255 = nI b ∧ x.toInt8.toInt32 = (nI b).toInt8.toInt32 := by
  obtain ⟨b, hb, e⟩ := pk_andE x (m := 255) 8 (by decide)
  exact ⟨b, hb, e, by rw [← e, fx_byte_low]⟩
theorem q_putFour (hF : 5000 < F) {k : Nat} (hk : k + 4 ≤ 700) (h1 : c.1 0 1 = nI k) (a : Int32) : ∃ c', f10_putFour F a c = some c' ∧ c'.2.2 = c.2.2 ∧ c'.1 0 1 = nI (k + 4) ∧ (∀ o j, ¬ (o = 0 ∧ j = 1) → ¬ (o = 1 ∧ k ≤ j ∧ j < k + 4) → c'.1 o j = c.1 o j) ∧ ∀ j, j < 4 → c'.1 1 (k + j) = (a >>> (nI (24 - 8 * j) &&& 31)).toInt8.toInt32.toInt8.toInt32 := by
  have key := g_for1 (b := fun sf (x : Int32 × g_M) => f10_putFour_b3_body F a (fun v2 mem => sf (v2, mem)) x.1 x.2) (fun i x => x.1 = (if i < 4 then nI (24 - 8 * i) else -8) ∧ x.2.2.2 = c.2.2 ∧ x.2.1 0 1 = nI (k + i) ∧ (∀ o j, ¬ (o = 0 ∧ j = 1) → ¬ (o = 1 ∧ k ≤ j ∧ j < k + i) → x.2.1 o j = c.1 o j) ∧ ∀ j, j < i → x.2.1 1 (k + j) = (a >>> (nI (24 - 8 * j) &&& 31)).toInt8.toInt32.toInt8.toInt32) 4 (fun i x hi hx => by
      obtain ⟨v, mem⟩ := x
      obtain ⟨x1, x2, x3, x4, x5⟩ := hx
      simp only at x1 x2 x3 x4 x5
      rw [if_pos hi] at x1
      subst x1
      refine ⟨(if i + 1 < 4 then nI (24 - 8 * (i + 1)) else -8, g_sI (g_sI mem 1 (k + i) (a >>> (nI (24 - 8 * i) &&& 31)).toInt8.toInt32.toInt8.toInt32) 0 1 (nI (k + i + 1))), ⟨rfl, x2, sI_eq, fun o j h1 h2 => ?_, fun j hj => ?_⟩, fun sf => ?_⟩
      · show (g_sI (g_sI mem 1 _ _) 0 1 _).1 o j = _
        rw [sI_ne h1, sI_ne (by omega)]; exact x4 o j h1 (by omega)
      · show (g_sI (g_sI mem 1 _ _) 0 1 _).1 1 _ = _
        rw [sI_o (by omega), sI_at]
        by_cases e : j = i
        · rw [if_pos (by omega), e]
        · rw [if_neg (by omega)]; exact x5 j (by omega)
      · show f10_putFour_b3_body F a _ (nI (24 - 8 * i)) mem = _
        unfold f10_putFour_b3_body
        have e8 : nI (24 - 8 * i) + (-8 : Int32) = (if i + 1 < 4 then nI (24 - 8 * (i + 1)) else -8) := by
          rcases (show i = 0 ∨ i = 1 ∨ i = 2 ∨ i = 3 by omega) with rfl | rfl | rfl | rfl <;> decide
        rw [if_pos (show (0 : Int32) ≤ nI (24 - 8 * i) from nI_ge0 (by omega)), x3, if_pos (show nI (k + i) < (700 : Int32) from (g_ltN (b := 700) (by omega) (by omega)).mpr (by omega)), g_ckN (by omega) (by omega), g_clN (by omega), g_let_e, g_let_e, g_let_e, sI_o (by omega), x3, nI_s, e8]) (s := ((24 : Int32), c)) ⟨rfl, rfl, h1, fun _ _ _ _ => rfl, fun j hj => absurd hj (Nat.not_lt_zero j)⟩ (F := F) (by omega)
  obtain ⟨⟨v, mem⟩, ⟨x1, x2, x3, x4, x5⟩, sf, e⟩ := key
  simp only at x1 x2 x3 x4 x5
  rw [if_neg (by omega)] at x1
  subst x1
  refine ⟨mem, ?_, x2, x3, x4, x5⟩
  unfold f10_putFour f10_putFour_b3
  rw [e]
  show f10_putFour_b3_body F a _ (-8) mem = _
  unfold f10_putFour_b3_body
  rw [if_neg (show ¬ (0 : Int32) ≤ -8 by decide)]
def fw (a1 a2 a3 a4 a5 : Int32) (i : Nat) : Int32 := if i < 4 then a1 else if i < 8 then a2 else if i < 12 then a3 else if i < 16 then a4 else a5
def fwv (a1 a2 a3 a4 a5 : Int32) (i : Nat) : Int32 := fw a1 a2 a3 a4 a5 i >>> (nI (24 - 8 * (i % 4)) &&& 31)
theorem r_feed (hF : 5000 < F) {k : Nat} (hk : k + 20 ≤ 700) (h2 : m.1 0 2 = nI k) (a1 a2 a3 a4 a5 : Int32) : ∃ m', f11_feed_b20 F a1 a2 a3 a4 a5 (0 : Int32) m = some (nI (k + 20), m') ∧ m'.1 0 2 = nI (k + 20) ∧ (∀ o j, ¬ (o = 0 ∧ j = 2) → ¬ (o = 1 ∧ k ≤ j ∧ j < k + 20) → m'.1 o j = m.1 o j) ∧ ∀ j, j < 20 → m'.1 1 (k + j) = fwv a1 a2 a3 a4 a5 j &&& 255 := by
  have key := g_for1 (b := fun sf (x : Int32 × g_M) => f11_feed_b20_body F a1 a2 a3 a4 a5 (fun v2 mem => sf (v2, mem)) x.1 x.2) (fun i x => x.1 = nI i ∧ (∀ o j, ¬ (o = 1 ∧ k ≤ j ∧ j < k + i) → x.2.1 o j = m.1 o j) ∧ ∀ j, j < i → x.2.1 1 (k + j) = fwv a1 a2 a3 a4 a5 j &&& 255) 20 (fun i x hi hx => by
      obtain ⟨v, mem⟩ := x
      obtain ⟨x1, x4, x5⟩ := hx
      simp only at x1 x4 x5
      subst x1
      have hm2 : mem.1 0 2 = nI k := by rw [x4 0 2 (by omega)]; exact h2
      refine ⟨(nI (i + 1), g_sI mem 1 (k + i) (fwv a1 a2 a3 a4 a5 i &&& 255)), ⟨rfl, fun o j h2 => ?_, fun j hj => ?_⟩, fun sf => ?_⟩
      · show (g_sI mem 1 _ _).1 o j = _
        rw [sI_ne (by omega)]; exact x4 o j (by omega)
      · show (g_sI mem 1 _ _).1 1 _ = _
        rw [sI_at]
        by_cases e : j = i
        · rw [if_pos (by omega), e]
        · rw [if_neg (by omega)]; exact x5 j (by omega)
      · show f11_feed_b20_body F a1 a2 a3 a4 a5 _ (nI i) mem = _
        have b73 : ∀ w, f11_feed_b73 F a1 a2 a3 a4 a5 (fun v2 mem => sf (v2, mem)) (nI i) w mem = sf (nI (i + 1), g_sI mem 1 (k + i) ((w >>> (nI (24 - 8 * (i % 4)) &&& 31)) &&& 255)) := fun w => by
          unfold f11_feed_b73
          have er : nI i - nI i / (4 : Int32) * (4 : Int32) = nI (i % 4) := pk_rem (d := 4) (by omega) (by omega) (by omega)
          have e8 : (8 : Int32) * nI (i % 4) = nI (8 * (i % 4)) := pk_mul 8 (i % 4)
          have e24 : (24 : Int32) - nI (8 * (i % 4)) = nI (24 - 8 * (i % 4)) := g_subN (a := 24) (by omega)
          rw [hm2, nI_add, g_ckN (by omega) (by omega), g_clN (by omega), g_let_e, g_let_e, er, e8, e24, nI_s]
        unfold f11_feed_b20_body fwv fw
        rw [if_pos (show nI i < (20 : Int32) from (g_ltN (b := 20) (by omega) (by omega)).mpr hi)]
        have lt : ∀ n : Nat, n < 100 → (nI i < nI n ↔ i < n) := fun n hn => g_ltN (by omega) (by omega)
        by_cases z1 : i < 4
        · rw [if_pos (show nI i < (4 : Int32) from (lt 4 (by omega)).mpr z1), if_pos z1, b73]
        rw [if_neg (show ¬ nI i < (4 : Int32) from fun y => z1 ((lt 4 (by omega)).mp y)), if_neg z1]
        by_cases z2 : i < 8
        · rw [if_pos (show nI i < (8 : Int32) from (lt 8 (by omega)).mpr z2), if_pos z2, b73]
        rw [if_neg (show ¬ nI i < (8 : Int32) from fun y => z2 ((lt 8 (by omega)).mp y)), if_neg z2]
        by_cases z3 : i < 12
        · rw [if_pos (show nI i < (12 : Int32) from (lt 12 (by omega)).mpr z3), if_pos z3, b73]
        rw [if_neg (show ¬ nI i < (12 : Int32) from fun y => z3 ((lt 12 (by omega)).mp y)), if_neg z3]
        by_cases z4 : i < 16
        · rw [if_pos (show nI i < (16 : Int32) from (lt 16 (by omega)).mpr z4), if_pos z4, b73]
        rw [if_neg (show ¬ nI i < (16 : Int32) from fun y => z4 ((lt 16 (by omega)).mp y)), if_neg z4, b73]) (s := ((0 : Int32), m)) ⟨rfl, fun _ _ _ => rfl, fun j hj => absurd hj (Nat.not_lt_zero j)⟩ (F := F) (by omega)
  obtain ⟨⟨v, mem⟩, ⟨x1, x4, x5⟩, sf, e⟩ := key
  simp only at x1 x4 x5
  subst x1
  refine ⟨g_sI mem 0 2 (nI (k + 20)), ?_, sI_eq, fun o j h1 h2 => by rw [sI_ne h1]; exact x4 o j h2, fun j hj => by rw [sI_o (by omega)]; exact x5 j hj⟩
  unfold f11_feed_b20
  rw [e]
  show f11_feed_b20_body F a1 a2 a3 a4 a5 _ (nI 20) mem = _
  unfold f11_feed_b20_body
  rw [if_neg (show ¬ nI 20 < (20 : Int32) by decide), g_let_e, x4 0 2 (by omega), h2, g_l20, nI_add, sI_eq]
theorem s_feed (hF : 5000 < F) (h : INV c m) (a1 a2 a3 a4 a5 : Int32) : CALL (f10_feed F a1 a2 a3 a4 a5 c) (f11_feed F a1 a2 a3 a4 a5 m) := by
  refine call_of h (fun T S m1 hV hC hI hTa hFl hA hS hG => ?_)
  obtain ⟨k, hk, t1, t2, t3⟩ := id hTa
  unfold f10_feed
  rw [t1, t2, g_l20, nI_add]
  by_cases z : k + 20 ≤ 700
  rotate_left
  · rw [if_pos (show (700 : Int32) < nI (k + 20) from (g_ltN (a := 700) (by omega) (by omega)).mpr (by omega)), if_pos (show (680 : Int32) < nI k from (g_ltN (a := 680) (by omega) (by omega)).mpr (by omega))]
    exact ⟨_, _, _, rfl, rfl, hV⟩
  rw [if_neg (show ¬ (700 : Int32) < nI (k + 20) from fun y => by have := (g_ltN (a := 700) (by omega) (by omega)).mp y; omega), if_neg (show ¬ (680 : Int32) < nI k from fun y => by have := (g_ltN (a := 680) (by omega) (by omega)).mp y; omega)]
  obtain ⟨d1, p1, p2, p3, p4, p5⟩ := q_putFour (F := F) hF (k := k) (by omega) t1 a1
  obtain ⟨d2, q1, q2, q3, q4, q5⟩ := q_putFour (F := F) hF (k := k + 4) (by omega) p3 a2
  obtain ⟨d3, r1, r2, r3, r4, r5⟩ := q_putFour (F := F) hF (k := k + 4 + 4) (by omega) q3 a3
  obtain ⟨d4, s1, s2, s3, s4, s5⟩ := q_putFour (F := F) hF (k := k + 4 + 4 + 4) (by omega) r3 a4
  obtain ⟨d5, u1, u2, u3, u4, u5⟩ := q_putFour (F := F) hF (k := k + 4 + 4 + 4 + 4) (by omega) s3 a5
  obtain ⟨m2, w1, w2, w3, w4⟩ := r_feed (F := F) (m := m1) hF z t2 a1 a2 a3 a4 a5
  rw [p1, g_bs, q1, g_bs, r1, g_bs, s1, g_bs, u1, g_bs, u3, w1]
  have hr : d5.2.2 = c.2.2 := by rw [u2, s2, r2, q2, p2]
  have hc : ∀ o j, ¬ (o = 0 ∧ j = 1) → ¬ (o = 1 ∧ k ≤ j ∧ j < k + 20) → d5.1 o j = c.1 o j := fun o j a b => by
    rw [u4 o j a (by omega), s4 o j a (by omega), r4 o j a (by omega), q4 o j a (by omega), p4 o j a (by omega)]
  have hb : ∀ i, i < 20 → d5.1 1 (k + i) = (fwv a1 a2 a3 a4 a5 i).toInt8.toInt32.toInt8.toInt32 := fun i hi => by
    unfold fwv fw
    by_cases z1 : i < 4
    · rw [u4 _ _ (by omega) (by omega), s4 _ _ (by omega) (by omega), r4 _ _ (by omega) (by omega), q4 _ _ (by omega) (by omega), p5 i z1, if_pos z1, Nat.mod_eq_of_lt z1]
    by_cases z2 : i < 8
    · have := q5 (i - 4) (by omega)
      rw [show k + 4 + (i - 4) = k + i by omega] at this
      rw [u4 _ _ (by omega) (by omega), s4 _ _ (by omega) (by omega), r4 _ _ (by omega) (by omega), this, if_neg z1, if_pos z2, show i % 4 = i - 4 by omega]
    by_cases z3 : i < 12
    · have := r5 (i - 8) (by omega)
      rw [show k + 4 + 4 + (i - 8) = k + i by omega] at this
      rw [u4 _ _ (by omega) (by omega), s4 _ _ (by omega) (by omega), this, if_neg z1, if_neg z2, if_pos z3, show i % 4 = i - 8 by omega]
    by_cases z4 : i < 16
    · have := s5 (i - 12) (by omega)
      rw [show k + 4 + 4 + 4 + (i - 12) = k + i by omega] at this
      rw [u4 _ _ (by omega) (by omega), this, if_neg z1, if_neg z2, if_neg z3, if_pos z4, show i % 4 = i - 12 by omega]
    · have := u5 (i - 16) (by omega)
      rw [show k + 4 + 4 + 4 + 4 + (i - 16) = k + i by omega] at this
      rw [this, if_neg z1, if_neg z2, if_neg z3, if_neg z4, show i % 4 = i - 16 by omega]
  have n0 : ∀ o, 2 ≤ o → d5.1 o = c.1 o := fun o ho => by funext j; exact hc o j (by omega) (by omega)
  have n1 : ∀ o, 2 ≤ o → m2.1 o = m1.1 o := fun o ho => by funext j; exact w3 o j (by omega) (by omega)
  refine ⟨nI (k + 20), d5, m2, rfl, rfl, INV_of (COR_fr hC (fun o k _ => by rw [hr]) (fun o ho => n0 o (by omega)) (fun o a b => n1 o (by omega)) (fun g _ _ o k hk => by rw [n1 o (by have := hk.1; omega)]) (fun k hk => w3 0 k (by omega) (by omega))) (IMG_fr hI hG.1.1 (by rw [hr]) (fun o ho => n0 o (by omega)) (hc 0 9 (by omega) (by omega)) (fun o a b => n1 o (by omega)) (fun o k hk => by rw [n1 o (by have := hk.1; omega)]) (w3 0 51 (by omega) (by omega))) ⟨k + 20, z, u3, w2, fun i hi => ?_⟩ (FLT_fr hFl (hc 0 5 (by omega) (by omega)) (hc 0 6 (by omega) (by omega)) (w3 0 32 (by omega) (by omega)) (w3 0 33 (by omega) (by omega))) (AB_fr hA (n0 54 (by omega)) (by rw [n0 53 (by omega)]) (w3 0 56 (by omega) (by omega))) (SEEN_fr hS (fun o a b => n0 o (by omega)) (w3 0 65 (by omega) (by omega)) (w3 0 66 (by omega) (by omega)) (fun o a b => n1 o (by omega)))⟩
  rcases Nat.lt_or_ge i k with y | y
  · rw [w3 1 i (by omega) (by omega), hc 1 i (by omega) (by omega)]; exact t3 i y
  · have e1 := hb (i - k) (by omega)
    have e2 := w4 (i - k) (by omega)
    rw [show k + (i - k) = i by omega] at e1 e2
    obtain ⟨b, hb1, hb2, hb3⟩ := byte_of (fwv a1 a2 a3 a4 a5 (i - k))
    refine ⟨b, hb1, e2.trans hb2, ?_⟩
    have i8 : ∀ y : Int8, y.toInt32.toInt8 = y := fun y => by simp
    rw [e1, hb3, i8]
end L
