/-! tokens: words in the class; a token, in both -/
section L
variable {F : Nat} {c m c' m' c1 m1 cc mm : g_M} {n p q b L : Nat}
def pkC (d : Nat → Nat) (i : Nat) : Nat := un d (min i 6) * 2 ^ (30 - 5 * min i 6)
theorem pk_step {d : Nat → Nat} (h : ∀ j, d j < 32) {i : Nat} (hi : i < 6) : pkC d i ||| d i * 2 ^ (25 - 5 * i) = pkC d (i + 1) := by
  have hd := h i
  have hm : min i 6 = i := by omega
  have hm1 : min (i + 1) 6 = i + 1 := by omega
  have hs : un d (i + 1) = un d i * 32 + d i := rfl
  have hp : (2 : Nat) ^ (30 - 5 * i) = 32 * 2 ^ (25 - 5 * i) := by
    rw [show 30 - 5 * i = (25 - 5 * i) + 5 by omega, Nat.pow_add]
    rw [show (2 : Nat) ^ 5 = 32 by decide, Nat.mul_comm]
  have hlt : d i * 2 ^ (25 - 5 * i) < 2 ^ (30 - 5 * i) := by
    rw [hp]
    exact Nat.mul_lt_mul_of_pos_right hd (Nat.two_pow_pos _)
  unfold pkC
  rw [hm, hm1, or_add hlt, hs, hp, show 30 - 5 * (i + 1) = 25 - 5 * i by omega, Nat.add_mul, Nat.mul_assoc]
theorem pk_end {m : g_M} (hL : L ≤ 6) : pkC (dl m q L) L = un (dl m q L) 6 := by
  have key : ∀ k, L + k ≤ 6 → un (dl m q L) (L + k) = un (dl m q L) L * 2 ^ (5 * k) := by
    intro k
    induction k with
    | zero => intro _; rw [Nat.mul_zero, Nat.pow_zero, Nat.mul_one]; rfl
    | succ k ih =>
      intro h
      show un (dl m q L) (L + k) * 32 + dl m q L (L + k) = _
      rw [ih (by omega)]
      have : dl m q L (L + k) = 0 := by unfold dl; rw [if_neg (by omega)]
      rw [this, Nat.add_zero, show 5 * (k + 1) = 5 * k + 5 by omega, Nat.pow_add, Nat.mul_assoc]
  have h := key (6 - L) (by omega)
  rw [show L + (6 - L) = 6 by omega] at h
  unfold pkC
  rw [h, show min L 6 = L by omega, show 30 - 5 * L = 5 * (6 - L) by omega]
/-- a word or a name: the class -/
theorem q_word (hF : 5000 < F) (hB : BY c m n) (hq : q ≤ n) (hc1 : cc.1 1 = c.1 1) (h4 : cc.1 31 4 = nI n) (h5 : cc.1 31 5 = nI q) (h1 : cc.1 31 1 = nI q) (hw : WRD cc) (hL : L = rn isL m n q) : ∃ c', f8_stepWord F cc = some c' ∧ c'.2 = cc.2 ∧ (∀ o k, ¬ (o = 31 ∧ (k = 0 ∨ k = 2 ∨ k = 5)) → c'.1 o k = cc.1 o k) ∧ c'.1 31 5 = nI (q + L) ∧ (6 < L → c'.1 31 0 = 5) ∧ (¬ 6 < L → ∀ V, V = fstP (fun w => decide (un (eW w) 6 = un (dl m q L) 6)) 22 → (V < 22 → c'.1 31 0 = 3 ∧ c'.1 31 2 = nI V) ∧ (¬ V < 22 → c'.1 31 0 = 2 ∧ c'.1 31 2 = nI (un (dl m q L) 6))) := by
  have hn := hB.1
  have hle := rn_le isL m n q
  have hLet : LET m q L := fun j hj => isL_iff.mp (rn_yes isL m n q (by rw [← hL]; exact hj))
  have hdl := dl_lt hLet
  have hend : q + L < n → isL (vl m 1 (q + L)) = false := fun z => by rw [hL] at z ⊢; exact rn_no isL m n q z
  rw [← hL] at hle
  have st1 : f8_stepWord F cc = f8_stepWord_b88 F (g_sI (g_sI cc 31 2 (nI (pkC (dl m q L) L))) 31 5 (nI (q + L))) := by
    unfold f8_stepWord f8_stepWord_b5
    rw [g_let_e]
    have e0 : g_sI cc 31 2 (0 : Int32) = g_sI (g_sI cc 31 2 (nI (pkC (dl m q L) 0))) 31 5 (nI (q + 0)) := by
      have : pkC (dl m q L) 0 = 0 := by unfold pkC; show 0 * _ = 0; exact Nat.zero_mul _
      rw [this]
      exact (sI_id (by rw [sI_ne (by omega), Nat.add_zero]; exact h5)).symm
    refine (congrArg (g_fix (fun sf x => f8_stepWord_b5_body F (fun mem => sf mem) x) F) e0).trans ?_
    refine g_for (fun i => g_sI (g_sI cc 31 2 (nI (pkC (dl m q L) i))) 31 5 (nI (q + i))) L (fun i hi sf => ?_) (by omega) (fun sf => ?_)
    · have hl := hLet i hi
      have hb := (hB.2 (q + i) (by omega)).1
      obtain ⟨s, hs⟩ : ∃ s, s = g_sI (g_sI cc 31 2 (nI (pkC (dl m q L) i))) 31 5 (nI (q + i)) := ⟨_, rfl⟩
      have s5 : s.1 31 5 = nI (q + i) := by rw [hs, sI_eq]
      have s4 : s.1 31 4 = nI n := by rw [hs, sI_ne (by omega), sI_ne (by omega)]; exact h4
      have s1 : s.1 31 1 = nI q := by rw [hs, sI_ne (by omega), sI_ne (by omega)]; exact h1
      have s2 : s.1 31 2 = nI (pkC (dl m q L) i) := by rw [hs, sI_ne (by omega), sI_eq]
      have sb : s.1 1 (q + i) = cb (vl m 1 (q + i)) := by rw [hs, sI_o (by omega), sI_o (by omega), hc1]; exact (hB.2 _ (by omega)).2.2
      show f8_stepWord_b5_body F _ (g_sI (g_sI cc 31 2 (nI (pkC (dl m q L) i))) 31 5 (nI (q + i))) = _
      rw [← hs]
      unfold f8_stepWord_b5_body f8_stepWord_b75
      rw [s5, s4, if_pos ((g_ltN (by omega) (by omega)).mpr (by omega)), g_ckN (by omega) (by omega), g_clN (by omega), sb, q_isL hb, g_bs, if_pos (isL_iff.mpr hl), if_neg nI10, s1, g_subN (by omega), show q + i - q = i by omega, show (5 : Int32) * nI i = nI (5 * i) from pk_mul 5 i, g_let_e, g_ckN (by omega) (by omega), s2]
      by_cases z : i < 6
      · have e1 : (25 : Int32) - nI (5 * i) = nI (25 - 5 * i) := g_subN (a := 25) (by omega)
        have e2 : cb (vl m 1 (q + i)) - (97 : Int32) + (1 : Int32) = nI (dl m q L i) := by
          rw [cb_lo (by omega), show (97 : Int32) = nI 97 from rfl, g_subN (by omega), nI_s]
          unfold dl; rw [if_pos hi]; congr 1; omega
        have e3 : nI (dl m q L i) <<< (nI (25 - 5 * i) &&& 31) = nI (dl m q L i * 2 ^ (25 - 5 * i)) := by
          refine pk_shlN _ (25 - 5 * i) (by rw [shr_amt (by omega)]; exact Nat.mod_eq_of_lt (by omega)) ?_
          have h25 : 2 ^ (25 - 5 * i) ≤ 2 ^ 25 := Nat.pow_le_pow_right (by omega) (by omega)
          have h32 : dl m q L i * 2 ^ (25 - 5 * i) ≤ 32 * 2 ^ 25 := Nat.mul_le_mul (Nat.le_of_lt (hdl i)) h25
          have : (32 : Nat) * 2 ^ 25 < 2 ^ 32 := by decide
          omega
        rw [e1, if_pos (show (0 : Int32) ≤ nI (25 - 5 * i) from nI_ge0 (by omega)), e2, e3, or_nI, pk_step hdl z, g_let_e, g_let_e, sI_ne (by omega), s5, nI_s, hs, sI_2 (by omega)]
        rfl
      · have neg : (25 : Int32) - nI (5 * i) < 0 := pk_sneg (a := 25) (b := 5 * i) (by omega) (by omega)
        have ep : pkC (dl m q L) (i + 1) = pkC (dl m q L) i := by unfold pkC; rw [show min (i + 1) 6 = min i 6 by omega]
        rw [if_neg (show ¬ (0 : Int32) ≤ (25 : Int32) - nI (5 * i) from neg_nle neg), g_let_e, nI_s, hs, sI_sI, ep]
        rfl
    · obtain ⟨s, hs⟩ : ∃ s, s = g_sI (g_sI cc 31 2 (nI (pkC (dl m q L) L))) 31 5 (nI (q + L)) := ⟨_, rfl⟩
      have s5 : s.1 31 5 = nI (q + L) := by rw [hs, sI_eq]
      have s4 : s.1 31 4 = nI n := by rw [hs, sI_ne (by omega), sI_ne (by omega)]; exact h4
      show f8_stepWord_b5_body F _ (g_sI (g_sI cc 31 2 (nI (pkC (dl m q L) L))) 31 5 (nI (q + L))) = _
      rw [← hs]
      unfold f8_stepWord_b5_body
      rw [s5, s4]
      by_cases z : q + L < n
      · have sb : s.1 1 (q + L) = cb (vl m 1 (q + L)) := by rw [hs, sI_o (by omega), sI_o (by omega), hc1]; exact (hB.2 _ z).2.2
        rw [if_pos ((g_ltN (by omega) (by omega)).mpr z), g_ckN (by omega) (by omega), g_clN (by omega), sb, q_isL (hB.2 _ z).1, g_bs, hend z, if_neg ft, if_pos nI00]
      · rw [if_neg (fun y => z ((g_ltN (by omega) (by omega)).mp y))]
  rw [st1]
  obtain ⟨s, hs⟩ : ∃ s, s = g_sI (g_sI cc 31 2 (nI (pkC (dl m q L) L))) 31 5 (nI (q + L)) := ⟨_, rfl⟩
  have s5 : s.1 31 5 = nI (q + L) := by rw [hs, sI_eq]
  have s1 : s.1 31 1 = nI q := by rw [hs, sI_ne (by omega), sI_ne (by omega)]; exact h1
  have s2 : s.1 31 2 = nI (pkC (dl m q L) L) := by rw [hs, sI_ne (by omega), sI_eq]
  have sn : ∀ o k, ¬ (o = 31 ∧ (k = 2 ∨ k = 5)) → s.1 o k = cc.1 o k := fun o k z => by rw [hs, sI_ne (by omega), sI_ne (by omega)]
  have sr : s.2 = cc.2 := by rw [hs]; rfl
  rw [← hs]
  unfold f8_stepWord_b88 f8_stepWord_b108
  rw [s5, s1, g_subN (by omega), show q + L - q = L by omega, g_let_e, g_let_e]
  by_cases h6 : 6 < L
  · rw [if_pos (show (6 : Int32) < nI L from (g_ltN (a := 6) (by omega) (by omega)).mpr h6)]
    refine ⟨g_sI s 31 0 (5 : Int32), ?_, sr, fun o k z => by rw [sI_ne (by omega)]; exact sn o k (by omega), by rw [sI_ne (by omega)]; exact s5, fun _ => sI_eq, fun h => absurd h6 h⟩
    unfold f8_stepWord_b113
    rw [g_fix_p (by omega)]
    show f8_stepWord_b113_body F _ (0 : Int32) (g_sI s 31 0 (5 : Int32)) = _
    unfold f8_stepWord_b113_body
    rw [if_pos (by decide), sI_eq, if_neg (by decide)]
  · rw [if_neg (show ¬ (6 : Int32) < nI L from fun y => h6 ((g_ltN (a := 6) (by omega) (by omega)).mp y))]
    rw [pk_end (by omega)] at s2
    have hWle := fstP_le (fun w => decide (un (eW w) 6 = un (dl m q L) 6)) 22
    have hWno := fstP_no (fun w => decide (un (eW w) 6 = un (dl m q L) 6)) 22
    have hWyes := fstP_yes (fun w => decide (un (eW w) 6 = un (dl m q L) 6)) 22
    generalize fstP (fun w => decide (un (eW w) 6 = un (dl m q L) 6)) 22 = W at *
    obtain ⟨d, hd⟩ : ∃ x, x = g_sI s 31 0 (2 : Int32) := ⟨_, rfl⟩
    have d0 : d.1 31 0 = 2 := by rw [hd, sI_eq]
    have d2 : d.1 31 2 = nI (un (dl m q L) 6) := by rw [hd, sI_ne (by omega)]; exact s2
    have dn : ∀ o k, ¬ (o = 31 ∧ (k = 0 ∨ k = 2 ∨ k = 5)) → d.1 o k = cc.1 o k := fun o k z => by rw [hd, sI_ne (by omega)]; exact sn o k (by omega)
    have d5 : d.1 31 5 = nI (q + L) := by rw [hd, sI_ne (by omega)]; exact s5
    have hbd : un (dl m q L) 6 < 2 ^ 30 := un_lt hdl 6
    have wd : ∀ w, w < 22 → d.1 32 w = nI (un (eW w) 6) ∧ un (eW w) 6 < 2 ^ 30 := fun w hw' => by
      refine ⟨?_, un_lt (eW_lt hw') 6⟩
      rw [dn 32 w (by omega), hw w hw']
      exact (w_tab ⟨w, hw'⟩).2.2.2.2.2
    rw [← hd]
    have loop : ∀ r : Option g_M, (∀ sf, f8_stepWord_b113_body F sf (nI W) d = r ∨ ∃ x, (f8_stepWord_b113_body F sf (nI W) d = sf (nI (W + 1)) x ∧ ∀ sf2, f8_stepWord_b113_body F sf2 (nI (W + 1)) x = r)) → f8_stepWord_b113 F (0 : Int32) d = r := by
      intro r hr
      have g1 : f8_stepWord_b113 F (0 : Int32) d = g_fix (fun sf (x : Int32 × g_M) => f8_stepWord_b113_body F (fun v1 mem => sf (v1, mem)) x.1 x.2) (F - W) (nI W, d) := by
        unfold f8_stepWord_b113
        have key : ∀ i, i ≤ W → g_fix (fun sf (x : Int32 × g_M) => f8_stepWord_b113_body F (fun v1 mem => sf (v1, mem)) x.1 x.2) F ((0 : Int32), d) = g_fix (fun sf (x : Int32 × g_M) => f8_stepWord_b113_body F (fun v1 mem => sf (v1, mem)) x.1 x.2) (F - i) (nI i, d) := by
          intro i
          induction i with
          | zero => intro _; rfl
          | succ i ih =>
            intro hi
            rw [ih (by omega), g_fix_p (by omega)]
            show f8_stepWord_b113_body F _ (nI i) d = _
            have hne := hWno i (by omega)
            simp only [decide_eq_false_iff_not] at hne
            obtain ⟨e1, e2⟩ := wd i (by omega)
            unfold f8_stepWord_b113_body f8_stepWord_b150
            rw [if_pos (show nI i < (22 : Int32) from (g_ltN (b := 22) (by omega) (by omega)).mpr (by omega)), d0, if_pos rfl, g_ckN (by omega) (by omega), g_clN (by omega), e1, d2, if_neg (fun y => hne ((g_eqN (by omega) (by omega)).mp y)), g_let_e, nI_s, show F - i - 1 = F - (i + 1) by omega]
        exact key W (Nat.le_refl _)
      rw [g1, g_fix_p (by omega)]
      rcases hr (fun v1 mem => g_fix (fun sf (x : Int32 × g_M) => f8_stepWord_b113_body F (fun v1 mem => sf (v1, mem)) x.1 x.2) (F - W - 1) (v1, mem)) with e | ⟨x, e1, e2⟩
      · exact e
      · refine Eq.trans e1 ?_
        show g_fix _ (F - W - 1) (nI (W + 1), x) = r
        rw [g_fix_p (by omega)]
        exact e2 _
    by_cases z : W < 22
    · have heq := hWyes z
      simp only [decide_eq_true_eq] at heq
      obtain ⟨e1, e2⟩ := wd W z
      refine ⟨g_sI (g_sI d 31 0 (3 : Int32)) 31 2 (nI W), loop _ (fun sf => Or.inr ⟨g_sI (g_sI d 31 0 (3 : Int32)) 31 2 (nI W), ?_, fun sf2 => ?_⟩), by rw [hd]; exact sr, fun o k y => by rw [sI_ne (by omega), sI_ne (by omega)]; exact dn o k y, by rw [sI_ne (by omega), sI_ne (by omega)]; exact d5, fun h => absurd h h6, fun _ V hV => by subst hV; exact ⟨fun _ => ⟨by rw [sI_ne (by omega), sI_eq], sI_eq⟩, fun y => absurd z y⟩⟩
      · unfold f8_stepWord_b113_body f8_stepWord_b150
        rw [if_pos (show nI W < (22 : Int32) from (g_ltN (b := 22) (by omega) (by omega)).mpr z), d0, if_pos rfl, g_ckN (by omega) (by omega), g_clN (by omega), e1, d2, if_pos (by rw [heq]), g_let_e, g_let_e, g_let_e, nI_s]
      · unfold f8_stepWord_b113_body
        rw [sI_ne (by omega), sI_eq, if_neg (show ¬ (3 : Int32) = 2 by decide), ite_self]
    · refine ⟨d, loop _ (fun sf => Or.inl ?_), by rw [hd]; exact sr, dn, d5, fun h => absurd h h6, fun _ V hV => by subst hV; exact ⟨fun y => absurd y z, fun _ => ⟨d0, d2⟩⟩⟩
      have : W = 22 := by omega
      subst this
      unfold f8_stepWord_b113_body
      rw [if_neg (show ¬ nI 22 < (22 : Int32) by decide)]
/-- a word or a name: the reference -/
theorem r_wordT (hF : 5000 < F) (hB : BY c m n) (hq : q ≤ n) (hm1 : mm.1 1 = m.1 1) (h25 : mm.1 0 25 = nI n) (h26 : mm.1 0 26 = nI q) (h27 : mm.1 0 27 = nI q) (hL : L = rn isL m n q) : ∃ m', f11_token_b64 F mm = some m' ∧ m'.2 = mm.2 ∧ (∀ o k, ¬ (o = 0 ∧ (k = 26 ∨ k = 28 ∨ k = 29)) → m'.1 o k = mm.1 o k) ∧ m'.1 0 26 = nI (q + L) ∧ ∀ W, W = fstP (mtP m q L) 22 → (W < 22 → m'.1 0 28 = 0 ∧ m'.1 0 29 = nI W) ∧ (¬ W < 22 → (6 < L → m'.1 0 28 = 5) ∧ (¬ 6 < L → m'.1 0 28 = 1 ∧ m'.1 0 29 = nI (un (dl m q L) 6))) := by
  have hn := hB.1
  have hle := rn_le isL m n q
  have hLet : LET m q L := fun j hj => isL_iff.mp (rn_yes isL m n q (by rw [← hL]; exact hj))
  have hend : q + L < n → isL (vl m 1 (q + L)) = false := fun z => by rw [hL] at z ⊢; exact rn_no isL m n q z
  rw [← hL] at hle
  have hWle := fstP_le (mtP m q L) 22
  have hh : ∀ x, x ≤ n → f11_here F (g_sI mm 0 26 (nI x)) = some (hr m n x) := fun x hx => r_here hB hx (by rw [sI_ne (by omega)]; exact h25) sI_eq (by rw [sI_o (by omega)]; exact hm1)
  obtain ⟨d, hd⟩ : ∃ x, x = g_sI mm 0 26 (nI (q + L)) := ⟨_, rfl⟩
  have d26 : d.1 0 26 = nI (q + L) := by rw [hd, sI_eq]
  have d27 : d.1 0 27 = nI q := by rw [hd, sI_ne (by omega)]; exact h27
  have d1 : d.1 1 = m.1 1 := by rw [hd, sI_o (by omega)]; exact hm1
  have hword := r_word (F := F) hF hB (by omega) d1 d27 d26
  generalize fstP (mtP m q L) 22 = W at *
  have st1 : f11_token_b64 F mm = g_let (g_sI d 0 29 (if W < 22 then nI W else -1)) (fun m10 => if (m10.1 0 29) = (-1 : Int32) then (if (6 : Int32) < ((m10.1 0 26) - (m10.1 0 27)) then (f11_token_b127 F (5 : Int32) m10) else (f11_token_b127 F (1 : Int32) m10)) else (f11_token_b127 F (0 : Int32) m10)) := by
    unfold f11_token_b64
    have e0 : mm = g_sI mm 0 26 (nI (q + 0)) := (sI_id (by rw [Nat.add_zero]; exact h26)).symm
    refine (congrArg (g_fix (fun sf x => f11_token_b64_body F (fun mem => sf mem) x) F) e0).trans ?_
    refine g_for (fun i => g_sI mm 0 26 (nI (q + i))) L (fun i hi sf => ?_) (by omega) (fun sf => ?_)
    · have hl := hLet i hi
      unfold f11_token_b64_body
      rw [hh _ (by omega), g_bs, hr_lt (by omega), r_isL (hB.2 _ (by omega)).1, g_bs, if_pos (isL_iff.mpr hl), if_neg nI10, g_let_e, sI_eq, nI_s, sI_sI]
      rfl
    · unfold f11_token_b64_body
      rw [hh _ (by omega), g_bs, ← hd]
      by_cases z : q + L < n
      · rw [hr_lt z, r_isL (hB.2 _ z).1, g_bs, hend z, if_neg ft, if_pos nI00, hword, g_bs]
      · rw [hr_ge z, r_isLe, g_bs, if_pos nI00, hword, g_bs]
  rw [st1, g_let_e]
  have dn : ∀ o k, ¬ (o = 0 ∧ k = 26) → d.1 o k = mm.1 o k := fun o k z => by rw [hd, sI_ne z]
  have dr : d.2 = mm.2 := by rw [hd]; rfl
  by_cases z : W < 22
  · rw [if_pos z, sI_eq, if_neg (nI_mb (by omega))]
    refine ⟨g_sI (g_sI d 0 29 (nI W)) 0 28 (0 : Int32), ?_, dr, fun o k y => by rw [sI_ne (by omega), sI_ne (by omega)]; exact dn o k (by omega), by rw [sI_ne (by omega), sI_ne (by omega)]; exact d26, fun V hV => by subst hV; exact ⟨fun _ => ⟨sI_eq, by rw [sI_ne (by omega), sI_eq]⟩, fun y => absurd z y⟩⟩
    unfold f11_token_b127
    rw [g_let_e, sI_eq, if_neg (by decide)]
  · rw [if_neg z, sI_eq, if_pos rfl]
    rw [sI_ne (by omega), sI_ne (by omega), d26, d27, g_subN (by omega), show q + L - q = L by omega]
    by_cases h6 : 6 < L
    · rw [if_pos (show (6 : Int32) < nI L from (g_ltN (a := 6) (by omega) (by omega)).mpr h6)]
      refine ⟨g_sI (g_sI d 0 29 (-1 : Int32)) 0 28 (5 : Int32), ?_, dr, fun o k y => by rw [sI_ne (by omega), sI_ne (by omega)]; exact dn o k (by omega), by rw [sI_ne (by omega), sI_ne (by omega)]; exact d26, fun V hV => by subst hV; exact ⟨fun y => absurd y z, fun _ => ⟨fun _ => sI_eq, fun h => absurd h6 h⟩⟩⟩
      unfold f11_token_b127
      rw [g_let_e, sI_eq, if_neg (by decide)]
    · rw [if_neg (show ¬ (6 : Int32) < nI L from fun y => h6 ((g_ltN (a := 6) (by omega) (by omega)).mp y))]
      obtain ⟨x, hx⟩ : ∃ x, x = g_sI (g_sI d 0 29 (-1 : Int32)) 0 28 (1 : Int32) := ⟨_, rfl⟩
      have xn : ∀ o k, ¬ (o = 0 ∧ (k = 28 ∨ k = 29)) → x.1 o k = d.1 o k := fun o k y => by rw [hx, sI_ne (by omega), sI_ne (by omega)]
      refine ⟨g_sI x 0 29 (nI (un (dl m q L) 6)), ?_, by rw [hx]; exact dr, fun o k y => by rw [sI_ne (by omega), xn o k (by omega)]; exact dn o k (by omega), by rw [sI_ne (by omega), xn 0 26 (by omega)]; exact d26, fun V hV => by subst hV; exact ⟨fun y => absurd y z, fun _ => ⟨fun h => absurd h h6, fun _ => ⟨by rw [sI_ne (by omega), hx, sI_eq], sI_eq⟩⟩⟩⟩
      have hnm := r_name (F := F) (mm := x) hF hB (show q + L ≤ n by omega) hLet (by funext k; rw [xn 1 k (by omega), d1]) (by rw [xn 0 27 (by omega)]; exact d27) (by rw [xn 0 26 (by omega)]; exact d26)
      unfold f11_token_b127
      rw [g_let_e, sI_eq, if_pos rfl, ← hx, hnm, g_bs]
end L
