/-! tokens: words and names -/
section L
variable {F : Nat} {c m c' m' c1 m1 cc mm : g_M} {n p q b L : Nat}
def un (d : Nat → Nat) : Nat → Nat
  | 0 => 0
  | i + 1 => un d i * 32 + d i
theorem un_lt {d : Nat → Nat} (h : ∀ j, d j < 32) : ∀ k, un d k < 2 ^ (5 * k) := by
  intro k
  induction k with
  | zero => exact Nat.one_pos
  | succ k ih =>
    have := h k
    show un d k * 32 + d k < 2 ^ (5 * (k + 1))
    rw [show 5 * (k + 1) = 5 * k + 5 by omega, Nat.pow_add]
    have h5 : (2 : Nat) ^ 5 = 32 := by decide
    rw [h5]
    omega
theorem un_inj {d e : Nat → Nat} (hd : ∀ j, d j < 32) (he : ∀ j, e j < 32) : ∀ k, un d k = un e k → ∀ j, j < k → d j = e j := by
  intro k
  induction k with
  | zero => intro _ j hj; exact absurd hj (Nat.not_lt_zero j)
  | succ k ih =>
    intro h j hj
    have h1 := hd k
    have h2 := he k
    have h3 : un d k * 32 + d k = un e k * 32 + e k := h
    by_cases z : j = k
    · rw [z]; omega
    · exact ih (by omega) j (by omega)
theorem un_congr {d e : Nat → Nat} : ∀ k, (∀ j, j < k → d j = e j) → un d k = un e k := by
  intro k
  induction k with
  | zero => intro _; rfl
  | succ k ih =>
    intro h
    show un d k * 32 + d k = un e k * 32 + e k
    rw [ih (fun j hj => h j (by omega)), h k (by omega)]
theorem or_add {A t b : Nat} (h : b < 2 ^ t) : A * 2 ^ t ||| b = A * 2 ^ t + b := by
  rw [← Nat.shiftLeft_eq, Nat.shiftLeft_add_eq_or_of_lt h]
def woffL : List Nat := [0, 4, 9, 14, 19, 24, 29, 35, 40, 44, 49, 54, 58, 61, 65, 69, 74, 79, 85, 92, 97, 103, 107]
def woff (w : Nat) : Nat := woffL.getD w 0
def wlen (w : Nat) : Nat := woff (w + 1) - woff w - 1
def wcN (k : Nat) : Nat := (g_wch k).toNatClampNeg
def eW (w j : Nat) : Nat := if j < wlen w then wcN (woff w + j) - 96 else 0
theorem w_tab : ∀ w : Fin 22, wlen w.val ≤ 6 ∧ 1 ≤ wlen w.val ∧ woff (w.val + 1) = woff w.val + wlen w.val + 1 ∧ woff w.val + wlen w.val < 107 ∧ g_wch (woff w.val + wlen w.val) = 32 ∧ wrd.getD w.val 0 = nI (un (eW w.val) 6) := by decide +kernel
theorem w_tab2 : ∀ w : Fin 22, ∀ j : Fin 6, j.val < wlen w.val → g_wch (woff w.val + j.val) = nI (wcN (woff w.val + j.val)) ∧ 97 ≤ wcN (woff w.val + j.val) ∧ wcN (woff w.val + j.val) ≤ 122 := by decide +kernel
def dl (m : g_M) (q L j : Nat) : Nat := if j < L then vl m 1 (q + j) - 96 else 0
def LET (m : g_M) (q L : Nat) : Prop := ∀ j, j < L → 97 ≤ vl m 1 (q + j) ∧ vl m 1 (q + j) ≤ 122
theorem dl_lt (h : LET m q L) (j : Nat) : dl m q L j < 32 := by
  unfold dl
  split
  · have := h j (by assumption); omega
  · omega
theorem eW_lt {w : Nat} (hw : w < 22) (j : Nat) : eW w j < 32 := by
  unfold eW
  split
  · rename_i h
    have h6 := (w_tab ⟨w, hw⟩).1
    have := w_tab2 ⟨w, hw⟩ ⟨j, by simp only at h6; omega⟩ h
    simp only at this
    omega
  · omega
def mtP (m : g_M) (q L w : Nat) : Bool := decide (L = wlen w) && decide (fstP (fun i => !(decide (i < L) && decide (vl m 1 (q + i) = wcN (woff w + i)))) (wlen w) = wlen w)
theorem mt_iff (h : LET m q L) {w : Nat} (hw : w < 22) : mtP m q L w = true ↔ L ≤ 6 ∧ un (eW w) 6 = un (dl m q L) 6 := by
  have h6 := (w_tab ⟨w, hw⟩).1
  have t2 := fun j (hj : j < 6) => w_tab2 ⟨w, hw⟩ ⟨j, hj⟩
  simp only at h6 t2
  unfold mtP
  simp only [Bool.and_eq_true, decide_eq_true_eq]
  constructor
  · rintro ⟨h1, h2⟩
    refine ⟨by omega, un_congr 6 (fun j hj => ?_)⟩
    unfold eW dl
    by_cases z : j < wlen w
    · have hn := fstP_no _ _ j (by rw [h2]; exact z)
      simp only [Bool.not_eq_false', Bool.and_eq_true, decide_eq_true_eq] at hn
      rw [if_pos z, if_pos hn.1, hn.2]
    · rw [if_neg z, if_neg (by omega)]
  · rintro ⟨h1, h2⟩
    have hj := un_inj (eW_lt hw) (dl_lt h) 6 h2
    have hL : L = wlen w := by
      rcases Nat.lt_trichotomy L (wlen w) with z | z | z
      · have e := hj L (by omega)
        have t := t2 L (by omega) z
        unfold eW dl at e
        rw [if_pos z, if_neg (Nat.lt_irrefl L)] at e
        omega
      · exact z
      · have e := hj (wlen w) (by omega)
        have t := h (wlen w) z
        unfold eW dl at e
        rw [if_neg (Nat.lt_irrefl _), if_pos z] at e
        omega
    refine ⟨hL, fstP_all _ _ (fun i hi => ?_)⟩
    have e := hj i (by omega)
    have t := t2 i (by omega) hi
    have t' := h i (by omega)
    unfold eW dl at e
    rw [if_pos hi, if_pos (show i < L by omega)] at e
    simp only [Bool.not_eq_false', Bool.and_eq_true, decide_eq_true_eq]
    exact ⟨by omega, by omega⟩
theorem ck107 {α : Type} {k : Nat} (hk : k < 107) (x : Option α) : g_ck (nI k) 107 x = x := g_ckN hk (by omega)
theorem r_word97 (hF : 5000 < F) {w : Nat} (hw : w < 22) (s4 : Int32 → Int32 → Option Int32) : f11_word_b97 F s4 mm (nI w) (nI (woff w)) = s4 (nI (w + 1)) (nI (woff (w + 1))) := by
  obtain ⟨t1, t2, t3, t4, t5, t6⟩ := w_tab ⟨w, hw⟩
  have tt2 := fun j (hj : j < 6) => w_tab2 ⟨w, hw⟩ ⟨j, hj⟩
  simp only at t1 t2 t3 t4 t5 t6 tt2
  unfold f11_word_b97
  refine g_for (fun i => (nI w, nI (woff w + i))) (wlen w) (fun i hi sf => ?_) (by omega) (fun sf => ?_)
  · obtain ⟨u1, u2, u3⟩ := tt2 i (by omega) hi
    unfold f11_word_b97_body
    rw [ck107 (by omega), g_clN (by omega), u1, if_neg (show ¬ nI (wcN (woff w + i)) = (32 : Int32) from fun y => by have := (g_eqN (b := 32) (by omega) (by omega)).mp y; omega), g_let_e, nI_s]
    rfl
  · unfold f11_word_b97_body
    rw [ck107 (by omega), g_clN (by omega), t5, if_pos rfl, g_let_e, g_let_e, nI_s, nI_s, t3]
theorem r_word15 (hF : 5000 < F) (hB : BY c m n) (hL : q + L ≤ n) (hm1 : mm.1 1 = m.1 1) (h27 : mm.1 0 27 = nI q) (h26 : mm.1 0 26 = nI (q + L)) {w : Nat} (hw : w < 22) (s4 : Int32 → Int32 → Option Int32) : f11_word_b15 F s4 mm (nI w) (nI (woff w)) (0 : Int32) = if mtP m q L w = true then some (nI w) else s4 (nI (w + 1)) (nI (woff (w + 1))) := by
  have hn := hB.1
  obtain ⟨t1, t2, t3, t4, t5, t6⟩ := w_tab ⟨w, hw⟩
  have tt2 := fun j (hj : j < 6) => w_tab2 ⟨w, hw⟩ ⟨j, hj⟩
  simp only at t1 t2 t3 t4 t5 t6 tt2
  have b97 := r_word97 (F := F) (mm := mm) hF hw s4
  obtain ⟨P, hP⟩ : ∃ P : Nat → Bool, P = fun i => !(decide (i < L) && decide (vl m 1 (q + i) = wcN (woff w + i))) := ⟨_, rfl⟩
  have hmt : mtP m q L w = (decide (L = wlen w) && decide (fstP P (wlen w) = wlen w)) := by rw [hP]; rfl
  have hle := fstP_le P (wlen w)
  have hno := fstP_no P (wlen w)
  have hyes := fstP_yes P (wlen w)
  rw [hmt]
  generalize fstP P (wlen w) = J at *
  unfold f11_word_b15
  refine g_for (fun i => (nI w, nI (woff w), nI i)) J (fun i hi sf => ?_) (by omega) (fun sf => ?_)
  · obtain ⟨u1, u2, u3⟩ := tt2 i (by omega) (by omega)
    have hPi := hno i hi
    rw [hP] at hPi
    simp only [Bool.not_eq_false', Bool.and_eq_true, decide_eq_true_eq] at hPi
    unfold f11_word_b15_body
    rw [nI_add, ck107 (by omega), g_clN (by omega), u1, if_neg (show ¬ nI (wcN (woff w + i)) = (32 : Int32) from fun y => by have := (g_eqN (b := 32) (by omega) (by omega)).mp y; omega), h27, h26, nI_add, if_pos ((g_ltN (by omega) (by omega)).mpr (by omega)), g_ckN (by omega) (by omega), ck107 (by omega), g_clN (by omega), hm1, (hB.2 _ (by omega)).2.1, if_pos (by rw [hPi.2]), g_let_e, nI_s]
  · have b69 : f11_word_b69 F s4 mm (nI w) (nI (woff w)) (nI J) = if (decide (L = wlen w) && decide (J = wlen w)) = true then some (nI w) else s4 (nI (w + 1)) (nI (woff (w + 1))) := by
      unfold f11_word_b69
      rw [nI_add, ck107 (by omega), g_clN (by omega), h27, h26, nI_add, b97]
      by_cases z : J = wlen w
      · rw [z, t5, if_pos rfl]
        by_cases y : L = wlen w
        · rw [if_pos (by rw [y]), if_pos (by simp [y])]
        · rw [if_neg (fun x => y (by have := (g_eqN (by omega) (by omega)).mp x; omega)), if_neg (by simp [y])]
      · obtain ⟨u1, u2, u3⟩ := tt2 J (by omega) (by omega)
        rw [u1, if_neg (show ¬ nI (wcN (woff w + J)) = (32 : Int32) from fun y => by have := (g_eqN (b := 32) (by omega) (by omega)).mp y; omega), if_neg (by simp [z])]
    unfold f11_word_b15_body
    rw [nI_add, ck107 (by omega), g_clN (by omega), b69]
    by_cases z : J = wlen w
    · rw [show g_wch (woff w + J) = 32 by rw [z]; exact t5, if_pos rfl]
    · obtain ⟨u1, u2, u3⟩ := tt2 J (by omega) (by omega)
      have hPJ := hyes (by omega)
      rw [hP] at hPJ
      simp only [Bool.not_eq_true', Bool.and_eq_false_iff, decide_eq_false_iff_not] at hPJ
      rw [u1, if_neg (show ¬ nI (wcN (woff w + J)) = (32 : Int32) from fun y => by have := (g_eqN (b := 32) (by omega) (by omega)).mp y; omega), h27, h26, nI_add]
      by_cases y : q + J < q + L
      · rw [if_pos ((g_ltN (by omega) (by omega)).mpr y), g_ckN (by omega) (by omega), ck107 (by omega), g_clN (by omega), hm1, (hB.2 _ (by omega)).2.1, if_neg]
        intro x
        have hb := (hB.2 (q + J) (by omega)).1
        have := (g_eqN (by omega) (by omega)).mp x
        rcases hPJ with v | v
        · omega
        · exact v this
      · rw [if_neg (fun x => y ((g_ltN (by omega) (by omega)).mp x))]
theorem r_word (hF : 5000 < F) (hB : BY c m n) (hL : q + L ≤ n) (hm1 : mm.1 1 = m.1 1) (h27 : mm.1 0 27 = nI q) (h26 : mm.1 0 26 = nI (q + L)) : f11_word F mm = some (if fstP (mtP m q L) 22 < 22 then nI (fstP (mtP m q L) 22) else -1) := by
  have hle := fstP_le (mtP m q L) 22
  have hno := fstP_no (mtP m q L) 22
  have hyes := fstP_yes (mtP m q L) 22
  generalize fstP (mtP m q L) 22 = W at *
  have w0 : woff 0 = 0 := rfl
  unfold f11_word f11_word_b4
  refine g_for (fun w => (nI w, nI (woff w))) W (fun w hw sf => ?_) (by omega) (fun sf => ?_)
  · have t4 := (w_tab ⟨w, by omega⟩).2.2.2.1
    simp only at t4
    unfold f11_word_b4_body
    rw [if_pos (show nI (woff w) < (107 : Int32) from (g_ltN (b := 107) (by omega) (by omega)).mpr (by omega)), r_word15 hF hB hL hm1 h27 h26 (by omega), hno w hw, if_neg ft]
  · unfold f11_word_b4_body
    by_cases z : W < 22
    · have t4 := (w_tab ⟨W, z⟩).2.2.2.1
      simp only at t4
      rw [if_pos (show nI (woff W) < (107 : Int32) from (g_ltN (b := 107) (by omega) (by omega)).mpr (by omega)), r_word15 hF hB hL hm1 h27 h26 z, if_pos (hyes z), if_pos z]
    · have : W = 22 := by omega
      subst this
      rw [if_neg (show ¬ nI (woff 22) < (107 : Int32) by decide), if_neg z]
/-- names, in the reference -/
theorem r_name (hF : 5000 < F) (hB : BY c m n) (hL : q + L ≤ n) (hLt : LET m q L) (hm1 : mm.1 1 = m.1 1) (h27 : mm.1 0 27 = nI q) (h26 : mm.1 0 26 = nI (q + L)) : f11_name F mm = some (g_sI mm 0 29 (nI (un (dl m q L) 6))) := by
  have hn := hB.1
  unfold f11_name f11_name_b7
  rw [g_let_e]
  refine g_for (fun i => (nI i, g_sI mm 0 29 (nI (un (dl m q L) i)))) 6 (fun i hi sf => ?_) (by omega) (fun sf => ?_)
  · have hd := dl_lt hLt i
    have hu := un_lt (dl_lt hLt) i
    have hu2 : 2 ^ (5 * i) ≤ 2 ^ 25 := Nat.pow_le_pow_right (by omega) (by omega)
    have h25 : (2 : Nat) ^ 25 = 33554432 := by decide
    have s27 : (g_sI mm 0 29 (nI (un (dl m q L) i))).1 0 27 = nI q := by rw [sI_ne (by omega)]; exact h27
    have s26 : (g_sI mm 0 29 (nI (un (dl m q L) i))).1 0 26 = nI (q + L) := by rw [sI_ne (by omega)]; exact h26
    have s1 : (g_sI mm 0 29 (nI (un (dl m q L) i))).1 1 = m.1 1 := by rw [sI_o (by omega)]; exact hm1
    have b53 : ∀ x : Nat, x = dl m q L i → f11_name_b53 F (fun v1 mem => sf (v1, mem)) (nI i) (nI (un (dl m q L) i) <<< ((5 : Int32) &&& 31)) (nI x) (g_sI mm 0 29 (nI (un (dl m q L) i))) = sf (nI (i + 1), g_sI mm 0 29 (nI (un (dl m q L) (i + 1)))) := fun x hx => by
      unfold f11_name_b53
      rw [pk_shlN ((5 : Int32) &&& 31) 5 (by decide) (by omega), or_nI, or_add (by omega), g_let_e, g_let_e, sI_sI, nI_s, hx]
      rfl
    show f11_name_b7_body F _ (nI i) (g_sI mm 0 29 (nI (un (dl m q L) i))) = _
    unfold f11_name_b7_body
    rw [if_pos (show nI i < (6 : Int32) from (g_ltN (b := 6) (by omega) (by omega)).mpr hi), s27, s26, nI_add, sI_eq, s1]
    by_cases z : i < L
    · have hl := hLt i z
      rw [if_pos ((g_ltN (by omega) (by omega)).mpr (by omega)), g_ckN (by omega) (by omega), g_clN (by omega), (hB.2 _ (by omega)).2.1]
      have e : nI (vl m 1 (q + i)) - (97 : Int32) + (1 : Int32) = nI (vl m 1 (q + i) - 97 + 1) := by
        rw [show (97 : Int32) = nI 97 from rfl, g_subN (by omega), nI_s]
      rw [e]
      exact b53 _ (by unfold dl; rw [if_pos z]; omega)
    · rw [if_neg (fun y => z (by have := (g_ltN (by omega) (by omega)).mp y; omega))]
      exact b53 0 (by unfold dl; rw [if_neg z])
  · unfold f11_name_b7_body
    rw [if_neg (show ¬ nI 6 < (6 : Int32) by decide)]
end L
