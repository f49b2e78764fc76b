/-! tokens: numbers, signs -/
section L
variable {F : Nat} {c m c' m' c1 m1 cc mm : g_M} {n p q b : Nat}
theorem sI_2 {o k o' k' : Nat} {a x y : Int32} {b : Int32} (h : ¬ (o = o' ∧ k = k')) : g_sI (g_sI (g_sI (g_sI c o k a) o' k' b) o k x) o' k' y = g_sI (g_sI c o k x) o' k' y := by
  rw [sI_cm (c := g_sI c o k a) (fun z => h ⟨z.1.symm, z.2.symm⟩), sI_sI, sI_sI]
def NVN (a b : Nat) : Prop := (a = b ∧ a ≤ 99999) ∨ (100000 ≤ a ∧ a ≤ 1000000 ∧ 100000 ≤ b ∧ b ≤ 999999)
def NV (x y : Int32) : Prop := ∃ a b, x = nI a ∧ y = nI b ∧ NVN a b
def cvS (d : Nat → Nat) : Nat → Nat
  | 0 => 0
  | i + 1 => if cvS d i * 10 + d i < 1000000 then cvS d i * 10 + d i else 1000000
def mvS (d : Nat → Nat) : Nat → Nat
  | 0 => 0
  | i + 1 => if 99999 < mvS d i then mvS d i else 10 * mvS d i + d i
theorem nvS {d : Nat → Nat} : ∀ i, (∀ j, j < i → d j ≤ 9) → NVN (cvS d i) (mvS d i) := by
  intro i
  induction i with
  | zero => intro _; exact Or.inl ⟨rfl, Nat.zero_le _⟩
  | succ i ih =>
    intro h
    have h1 := ih (fun j hj => h j (by omega))
    have h2 := h i (by omega)
    unfold NVN at h1 ⊢
    show ((if cvS d i * 10 + d i < 1000000 then cvS d i * 10 + d i else 1000000) = (if 99999 < mvS d i then mvS d i else 10 * mvS d i + d i) ∧ _) ∨ _
    simp only [cvS, mvS]
    split <;> split <;> omega
theorem lex_num (hF : 5000 < F) (hB : BY c m n) (hq : q ≤ n) (hc1 : cc.1 1 = c.1 1) (h4 : cc.1 31 4 = nI n) (h5 : cc.1 31 5 = nI q) (h2 : cc.1 31 2 = nI 0) (hm1 : mm.1 1 = m.1 1) (h25 : mm.1 0 25 = nI n) (h26 : mm.1 0 26 = nI q) (h29 : mm.1 0 29 = nI 0) : ∃ a b, NVN a b ∧ f8_stepNumber_b10 F cc = some (g_sI (g_sI cc 31 2 (nI a)) 31 5 (nI (q + rn isD m n q))) ∧ f11_token_b162 F mm = some (g_sI (g_sI mm 0 29 (nI b)) 0 26 (nI (q + rn isD m n q))) := by
  have hn := hB.1
  have hle := rn_le isD m n q
  obtain ⟨d, hd⟩ : ∃ d : Nat → Nat, d = fun i => vl m 1 (q + i) - 48 := ⟨_, rfl⟩
  have hd9 : ∀ i, i < rn isD m n q → d i ≤ 9 ∧ vl m 1 (q + i) = d i + 48 := fun i hi => by
    have := isD_iff.mp (rn_yes isD m n q hi)
    rw [hd]; simp only; omega
  have nv : ∀ i, i ≤ rn isD m n q → NVN (cvS d i) (mvS d i) := fun i hi => nvS i (fun j hj => (hd9 j (by omega)).1)
  refine ⟨cvS d (rn isD m n q), mvS d (rn isD m n q), nv _ (Nat.le_refl _), ?_, ?_⟩
  · have e0 : cc = g_sI (g_sI cc 31 2 (nI (cvS d 0))) 31 5 (nI (q + 0)) := by
      rw [show g_sI cc 31 2 (nI (cvS d 0)) = cc from sI_id h2]
      exact (sI_id (by rw [Nat.add_zero]; exact h5)).symm
    unfold f8_stepNumber_b10
    refine (congrArg (g_fix (fun sf x => f8_stepNumber_b10_body F (fun mem => sf mem) x) F) e0).trans ?_
    refine g_for (fun i => g_sI (g_sI cc 31 2 (nI (cvS d i))) 31 5 (nI (q + i))) (rn isD m n q) (fun i hi sf => ?_) (by omega) (fun sf => ?_)
    · have hx := nv i (by omega)
      have hdi := hd9 i hi
      have hb := (hB.2 (q + i) (by omega)).1
      have hbyte : (g_sI (g_sI cc 31 2 (nI (cvS d i))) 31 5 (nI (q + i))).1 1 (q + i) = cb (vl m 1 (q + i)) := by rw [sI_o (by omega), sI_o (by omega), hc1]; exact (hB.2 _ (by omega)).2.2
      have hval : (g_sI (g_sI cc 31 2 (nI (cvS d i))) 31 5 (nI (q + i))).1 31 2 = nI (cvS d i) := by rw [sI_ne (by omega), sI_eq]
      have h5' : (g_sI (g_sI cc 31 2 (nI (cvS d i))) 31 5 (nI (q + i))).1 31 5 = nI (q + i) := sI_eq
      have h4' : (g_sI (g_sI cc 31 2 (nI (cvS d i))) 31 5 (nI (q + i))).1 31 4 = nI n := by rw [sI_ne (by omega), sI_ne (by omega)]; exact h4
      unfold f8_stepNumber_b10_body
      have hcv : cvS d i ≤ 1000000 := by unfold NVN at hx; omega
      have ev : nI (cvS d i) * (10 : Int32) + cb (vl m 1 (q + i)) - (48 : Int32) = nI (cvS d i * 10 + d i) := by
        rw [cb_lo (by omega), show (10 : Int32) = nI 10 from rfl, pk_mul, nI_add, hdi.2, show (48 : Int32) = nI 48 from rfl, g_subN (by omega)]
        congr 1
      rw [h5', h4', if_pos ((g_ltN (by omega) (by omega)).mpr (by omega)), g_ckN (by omega) (by omega), g_clN (by omega), hbyte, q_isD hb, g_bs, if_pos (rn_yes isD m n q hi), if_neg nI10, g_ckN (by omega) (by omega), hval, ev, g_let_e, g_let_e, sI_ne (by omega), h5', nI_s, sI_2 (by omega)]
      have es : (if nI (cvS d i * 10 + d i) < (1000000 : Int32) then nI (cvS d i * 10 + d i) else (1000000 : Int32)) = nI (cvS d (i + 1)) := by
        show _ = nI (if cvS d i * 10 + d i < 1000000 then cvS d i * 10 + d i else 1000000)
        by_cases z : cvS d i * 10 + d i < 1000000
        · rw [if_pos (show nI (cvS d i * 10 + d i) < (1000000 : Int32) from (g_ltN (b := 1000000) (by omega) (by omega)).mpr z), if_pos z]
        · rw [if_neg (show ¬ nI (cvS d i * 10 + d i) < (1000000 : Int32) from fun y => z ((g_ltN (b := 1000000) (by omega) (by omega)).mp y)), if_neg z]; rfl
      rw [es]
      rfl
    · have h5' : (g_sI (g_sI cc 31 2 (nI (cvS d (rn isD m n q)))) 31 5 (nI (q + rn isD m n q))).1 31 5 = nI (q + rn isD m n q) := sI_eq
      have h4' : (g_sI (g_sI cc 31 2 (nI (cvS d (rn isD m n q)))) 31 5 (nI (q + rn isD m n q))).1 31 4 = nI n := by rw [sI_ne (by omega), sI_ne (by omega)]; exact h4
      unfold f8_stepNumber_b10_body
      rw [h5', h4']
      by_cases z : q + rn isD m n q < n
      · have hw := rn_no isD m n q z
        have hb := (hB.2 _ z).1
        have hbyte : (g_sI (g_sI cc 31 2 (nI (cvS d (rn isD m n q)))) 31 5 (nI (q + rn isD m n q))).1 1 (q + rn isD m n q) = cb (vl m 1 (q + rn isD m n q)) := by rw [sI_o (by omega), sI_o (by omega), hc1]; exact (hB.2 _ z).2.2
        rw [if_pos ((g_ltN (by omega) (by omega)).mpr z), g_ckN (by omega) (by omega), g_clN (by omega), hbyte, q_isD hb, g_bs, hw, if_neg ft, if_pos nI00]
      · rw [if_neg (fun y => z ((g_ltN (by omega) (by omega)).mp y))]
  · have e0 : mm = g_sI (g_sI mm 0 29 (nI (mvS d 0))) 0 26 (nI (q + 0)) := by
      rw [show g_sI mm 0 29 (nI (mvS d 0)) = mm from sI_id h29]
      exact (sI_id (by rw [Nat.add_zero]; exact h26)).symm
    unfold f11_token_b162
    refine (congrArg (g_fix (fun sf x => f11_token_b162_body F (fun mem => sf mem) x) F) e0).trans ?_
    have hh : ∀ i v, q + i ≤ n → f11_here F (g_sI (g_sI mm 0 29 v) 0 26 (nI (q + i))) = some (hr m n (q + i)) := fun i v hx => r_here hB hx (by rw [sI_ne (by omega), sI_ne (by omega)]; exact h25) sI_eq (by rw [sI_o (by omega), sI_o (by omega)]; exact hm1)
    refine g_for (fun i => g_sI (g_sI mm 0 29 (nI (mvS d i))) 0 26 (nI (q + i))) (rn isD m n q) (fun i hi sf => ?_) (by omega) (fun sf => ?_)
    · have hx := nv i (by omega)
      have hdi := hd9 i hi
      have hb := (hB.2 (q + i) (by omega)).1
      have hval : (g_sI (g_sI mm 0 29 (nI (mvS d i))) 0 26 (nI (q + i))).1 0 29 = nI (mvS d i) := by rw [sI_ne (by omega), sI_eq]
      have h5' : ∀ v, (g_sI (g_sI (g_sI mm 0 29 (nI (mvS d i))) 0 26 (nI (q + i))) 0 29 v).1 0 26 = nI (q + i) := fun v => by rw [sI_ne (by omega), sI_eq]
      have hmv : mvS d i ≤ 999999 := by unfold NVN at hx; omega
      unfold f11_token_b162_body f11_token_b204
      have ev : (10 : Int32) * nI (mvS d i) + nI (vl m 1 (q + i)) - (48 : Int32) = nI (10 * mvS d i + d i) := by
        rw [show (10 : Int32) = nI 10 from rfl, pk_mul, nI_add, hdi.2, show (48 : Int32) = nI 48 from rfl, g_subN (by omega)]
        congr 1
      have es : mvS d (i + 1) = if 99999 < mvS d i then mvS d i else 10 * mvS d i + d i := rfl
      rw [hh i _ (by omega), g_bs, hr_lt (by omega), r_isD hb, g_bs, if_pos (rn_yes isD m n q hi), if_neg nI10, hval, g_bs, ev, es]
      simp only [g_let, h5', nI_s, sI_2 (show ¬ ((0 : Nat) = 0 ∧ (29 : Nat) = 26) by omega)]
      by_cases z : 99999 < mvS d i
      · rw [if_pos (show (99999 : Int32) < nI (mvS d i) from (g_ltN (a := 99999) (by omega) (by omega)).mpr z), if_pos z]
        rfl
      · rw [if_neg (show ¬ (99999 : Int32) < nI (mvS d i) from fun y => z ((g_ltN (a := 99999) (by omega) (by omega)).mp y)), if_neg z]
        rfl
    · unfold f11_token_b162_body
      rw [hh _ _ (by omega), g_bs]
      by_cases z : q + rn isD m n q < n
      · rw [hr_lt z, r_isD (hB.2 _ z).1, g_bs, rn_no isD m n q z, if_neg ft, if_pos nI00]
      · rw [hr_ge z, r_isDe, g_bs, if_pos nI00]
/-- signs -/
def SV (x y : Int32) : Prop := (x = 0 ∧ y = 43) ∨ (x = 1 ∧ y = 45) ∨ (x = 2 ∧ y = 42) ∨ (x = 3 ∧ y = 47) ∨ (x = 4 ∧ y = 60) ∨ (x = 5 ∧ y = 256) ∨ (x = 6 ∧ y = 61) ∨ (x = 7 ∧ y = 257) ∨ (x = 8 ∧ y = 258) ∨ (x = 9 ∧ y = 62) ∨ (x = 13 ∧ y = 40) ∨ (x = 14 ∧ y = 41) ∨ (x = 15 ∧ y = 59)
def sgT (b : Nat) : Int32 := if b = 40 then 13 else if b = 41 then 14 else if b = 42 then 2 else if b = 43 then 0 else if b = 45 then 1 else if b = 47 then 3 else if b = 59 then 15 else if b = 60 then 4 else if b = 61 then 6 else if b = 62 then 9 else -1
def m00 : g_M := (fun _ _ => 0, fun _ _ => 0, fun _ _ => none)
theorem q_signOf (hb : b < 256) : f8_signOf F (cb b) c = some (sgT b) := by
  have h : ∀ j : Fin 256, f8_signOf 0 (cb j.val) m00 = some (sgT j.val) := by decide +kernel
  exact h ⟨b, hb⟩
def isSgn (b : Nat) : Bool := decide (b = 59) || decide (b = 40) || decide (b = 41) || decide (b = 43) || decide (b = 45) || decide (b = 42) || decide (b = 47) || decide (b = 60) || decide (b = 61) || decide (b = 62)
theorem sgT_iff : ∀ b : Fin 256, (isSgn b.val = true → ¬ sgT b.val = -1 ∧ ¬ (nI b.val = (257 : Int32)) ∧ nI b.val < 256) ∧ (isSgn b.val = false → sgT b.val = -1) := by decide +kernel
theorem SV_b : ∀ b : Fin 256, isSgn b.val = true → (sgT b.val = 0 ∧ nI b.val = (43 : Int32)) ∨ (sgT b.val = 1 ∧ nI b.val = (45 : Int32)) ∨ (sgT b.val = 2 ∧ nI b.val = (42 : Int32)) ∨ (sgT b.val = 3 ∧ nI b.val = (47 : Int32)) ∨ (sgT b.val = 4 ∧ nI b.val = (60 : Int32)) ∨ (sgT b.val = 5 ∧ nI b.val = (256 : Int32)) ∨ (sgT b.val = 6 ∧ nI b.val = (61 : Int32)) ∨ (sgT b.val = 7 ∧ nI b.val = (257 : Int32)) ∨ (sgT b.val = 8 ∧ nI b.val = (258 : Int32)) ∨ (sgT b.val = 9 ∧ nI b.val = (62 : Int32)) ∨ (sgT b.val = 13 ∧ nI b.val = (40 : Int32)) ∨ (sgT b.val = 14 ∧ nI b.val = (41 : Int32)) ∨ (sgT b.val = 15 ∧ nI b.val = (59 : Int32)) := by decide +kernel
theorem r_signA (hb : b < 256) : f11_sign F (nI b) m = f11_sign_b76 F (nI b) (if isSgn b = true then (3 : Int32) else (5 : Int32)) (g_sI m 0 26 (m.1 0 26 + (1 : Int32))) := by
  unfold f11_sign f11_sign_b71
  rw [g_let_e]
  have e : ∀ k : Nat, k < 128 → (nI b = nI k ↔ b = k) := fun k hk => g_eqN (by omega) (by omega)
  have e59 : (nI b = (59 : Int32)) = (b = 59) := propext (e 59 (by omega))
  have e40 : (nI b = (40 : Int32)) = (b = 40) := propext (e 40 (by omega))
  have e41 : (nI b = (41 : Int32)) = (b = 41) := propext (e 41 (by omega))
  have e43 : (nI b = (43 : Int32)) = (b = 43) := propext (e 43 (by omega))
  have e45 : (nI b = (45 : Int32)) = (b = 45) := propext (e 45 (by omega))
  have e42 : (nI b = (42 : Int32)) = (b = 42) := propext (e 42 (by omega))
  have e47 : (nI b = (47 : Int32)) = (b = 47) := propext (e 47 (by omega))
  have e60 : (nI b = (60 : Int32)) = (b = 60) := propext (e 60 (by omega))
  have e61 : (nI b = (61 : Int32)) = (b = 61) := propext (e 61 (by omega))
  have e62 : (nI b = (62 : Int32)) = (b = 62) := propext (e 62 (by omega))
  by_cases z : isSgn b = true
  · rw [if_pos z]
    unfold isSgn at z
    simp only [Bool.or_eq_true, decide_eq_true_eq] at z
    simp only [e59, e40, e41, e43, e45, e42, e47, e60, e61, e62]
    by_cases h1 : b = 59
    · rw [if_pos h1]
    rw [if_neg h1]
    by_cases h2 : b = 40
    · rw [if_pos h2]
    rw [if_neg h2]
    by_cases h3 : b = 41
    · rw [if_pos h3]
    rw [if_neg h3]
    by_cases h4 : b = 43
    · rw [if_pos h4]
    rw [if_neg h4]
    by_cases h5 : b = 45
    · rw [if_pos h5]
    rw [if_neg h5]
    by_cases h6 : b = 42
    · rw [if_pos h6]
    rw [if_neg h6]
    by_cases h7 : b = 47
    · rw [if_pos h7]
    rw [if_neg h7]
    by_cases h8 : b = 60
    · rw [if_pos h8]
    rw [if_neg h8]
    by_cases h9 : b = 61
    · rw [if_pos h9]
    rw [if_neg h9]
    by_cases h10 : b = 62
    · rw [if_pos h10]
    omega
  · rw [if_neg z]
    unfold isSgn at z
    simp only [Bool.or_eq_true, decide_eq_true_eq, not_or] at z
    obtain ⟨⟨⟨⟨⟨⟨⟨⟨⟨h1, h2⟩, h3⟩, h4⟩, h5⟩, h6⟩, h7⟩, h8⟩, h9⟩, h10⟩ := z
    simp only [e59, e40, e41, e43, e45, e42, e47, e60, e61, e62, if_neg h1, if_neg h2, if_neg h3, if_neg h4, if_neg h5, if_neg h6, if_neg h7, if_neg h8, if_neg h9, if_neg h10]
end L
