/-! tokens: bytes, what is between tokens, numbers, signs -/
section L
variable {F : Nat} {c m c' m' c1 m1 : g_M} {n p q b : Nat}
def cb (b : Nat) : Int32 := (nI b).toInt8.toInt32
theorem cb_lo {b : Nat} (h : b < 128) : cb b = nI b := by
  have : ∀ j : Fin 128, cb j.val = nI j.val := by decide +kernel
  exact this ⟨b, h⟩
theorem cb_hi {b : Nat} (h1 : 128 ≤ b) (h2 : b < 256) : cb b < 0 := by
  have : ∀ j : Fin 128, cb (128 + j.val) < 0 := by decide +kernel
  have := this ⟨b - 128, by omega⟩
  rw [show 128 + (⟨b - 128, by omega⟩ : Fin 128).val = b by show 128 + (b - 128) = b; omega] at this
  exact this
theorem cb_eq {b k : Nat} (hb : b < 256) (hk : k < 128) : cb b = nI k ↔ b = k := by
  rcases Nat.lt_or_ge b 128 with h | h
  · rw [cb_lo h]; exact g_eqN (by omega) (by omega)
  · constructor
    · intro z; have := cb_hi h hb; rw [z] at this; exact absurd this (Int32.not_lt.mpr (nI_ge0 (by omega)))
    · intro z; omega
theorem cb_in {b lo hi : Nat} (hb : b < 256) (hl : lo ≤ hi) (h1 : hi < 128) : (nI lo ≤ cb b ∧ cb b ≤ nI hi) ↔ (lo ≤ b ∧ b ≤ hi) := by
  rcases Nat.lt_or_ge b 128 with h | h
  · rw [cb_lo h, g_leN (by omega) (by omega), g_leN (by omega) (by omega)]
  · constructor
    · intro z
      have h2 := cb_hi h hb
      have h3 : (0 : Int32) ≤ cb b := Int32.le_trans (nI_ge0 (by omega)) z.1
      exact absurd h2 (Int32.not_lt.mpr h3)
    · intro z; omega
def isL (b : Nat) : Bool := decide (97 ≤ b) && decide (b ≤ 122)
def isD (b : Nat) : Bool := decide (48 ≤ b) && decide (b ≤ 57)
def isW (b : Nat) : Bool := decide (b = 10) || decide (b = 32)
theorem if2 {α : Type} {P Q : Prop} [Decidable P] [Decidable Q] (x y : α) : (if P then (if Q then x else y) else y) = if P ∧ Q then x else y := by
  by_cases h1 : P
  · by_cases h2 : Q
    · rw [if_pos h1, if_pos h2, if_pos ⟨h1, h2⟩]
    · rw [if_pos h1, if_neg h2, if_neg (fun z => h2 z.2)]
  · rw [if_neg h1, if_neg (fun z => h1 z.1)]
theorem isL_iff {b : Nat} : isL b = true ↔ 97 ≤ b ∧ b ≤ 122 := by unfold isL; simp
theorem isD_iff {b : Nat} : isD b = true ↔ 48 ≤ b ∧ b ≤ 57 := by unfold isD; simp
theorem isW_iff {b : Nat} : isW b = true ↔ b = 10 ∨ b = 32 := by unfold isW; simp
theorem q_isL (hb : b < 256) : f8_isLetter F (cb b) c = some (if isL b = true then nI 1 else nI 0) := by
  unfold f8_isLetter
  rw [if2]
  have e : ((97 : Int32) ≤ cb b ∧ cb b ≤ (122 : Int32)) ↔ (97 ≤ b ∧ b ≤ 122) := cb_in (lo := 97) (hi := 122) hb (by omega) (by omega)
  by_cases h : isL b = true
  · rw [if_pos h, if_pos (e.mpr (isL_iff.mp h))]; rfl
  · rw [if_neg h, if_neg (fun z => h (isL_iff.mpr (e.mp z)))]; rfl
theorem q_isD (hb : b < 256) : f8_isDigit F (cb b) c = some (if isD b = true then nI 1 else nI 0) := by
  unfold f8_isDigit
  rw [if2]
  have e : ((48 : Int32) ≤ cb b ∧ cb b ≤ (57 : Int32)) ↔ (48 ≤ b ∧ b ≤ 57) := cb_in (lo := 48) (hi := 57) hb (by omega) (by omega)
  by_cases h : isD b = true
  · rw [if_pos h, if_pos (e.mpr (isD_iff.mp h))]; rfl
  · rw [if_neg h, if_neg (fun z => h (isD_iff.mpr (e.mp z)))]; rfl
theorem r_isL (hb : b < 256) : f11_isSmall F (nI b) m = some (if isL b = true then nI 1 else nI 0) := by
  unfold f11_isSmall
  rw [if2]
  have e : ((97 : Int32) ≤ nI b ∧ nI b ≤ (122 : Int32)) ↔ (97 ≤ b ∧ b ≤ 122) := by
    show (nI 97 ≤ nI b ∧ nI b ≤ nI 122) ↔ _
    rw [g_leN (by omega) (by omega), g_leN (by omega) (by omega)]
  by_cases h : isL b = true
  · rw [if_pos h, if_pos (e.mpr (isL_iff.mp h))]; rfl
  · rw [if_neg h, if_neg (fun z => h (isL_iff.mpr (e.mp z)))]; rfl
theorem r_isD (hb : b < 256) : f11_isDigit F (nI b) m = some (if isD b = true then nI 1 else nI 0) := by
  unfold f11_isDigit
  rw [if2]
  have e : ((48 : Int32) ≤ nI b ∧ nI b ≤ (57 : Int32)) ↔ (48 ≤ b ∧ b ≤ 57) := by
    show (nI 48 ≤ nI b ∧ nI b ≤ nI 57) ↔ _
    rw [g_leN (by omega) (by omega), g_leN (by omega) (by omega)]
  by_cases h : isD b = true
  · rw [if_pos h, if_pos (e.mpr (isD_iff.mp h))]; rfl
  · rw [if_neg h, if_neg (fun z => h (isD_iff.mpr (e.mp z)))]; rfl
theorem r_isLe : f11_isSmall F (-1) m = some (nI 0) := rfl
theorem r_isDe : f11_isDigit F (-1) m = some (nI 0) := rfl
/-- cells written twice, or with what stands there -/
theorem g_ext {a b : g_M} (h1 : ∀ o k, a.1 o k = b.1 o k) (h2 : a.2 = b.2) : a = b := Prod.ext (funext fun o => funext fun k => h1 o k) h2
theorem sI_id {o k : Nat} {v : Int32} (h : c.1 o k = v) : g_sI c o k v = c := g_ext (fun a j => by
  by_cases z : a = o ∧ j = k
  · rw [z.1, z.2, sI_eq, h]
  · rw [sI_ne z]) rfl
theorem sI_sI {o k : Nat} {v w : Int32} : g_sI (g_sI c o k v) o k w = g_sI c o k w := g_ext (fun a j => by
  by_cases z : a = o ∧ j = k
  · rw [z.1, z.2, sI_eq, sI_eq]
  · rw [sI_ne z, sI_ne z, sI_ne z]) rfl
theorem sI_cm {o k o' k' : Nat} {v w : Int32} (h : ¬ (o = o' ∧ k = k')) : g_sI (g_sI c o k v) o' k' w = g_sI (g_sI c o' k' w) o k v := g_ext (fun a j => by
  by_cases z : a = o ∧ j = k
  · rw [z.1, z.2, sI_ne (by omega), sI_eq, sI_eq]
  · by_cases y : a = o' ∧ j = k'
    · rw [y.1, y.2, sI_eq, sI_ne (by omega), sI_eq]
    · rw [sI_ne y, sI_ne z, sI_ne z, sI_ne y]) rfl
/-- the text's first n bytes -/
def BY (c m : g_M) (n : Nat) : Prop := n ≤ 700 ∧ ∀ i, i < n → vl m 1 i < 256 ∧ m.1 1 i = nI (vl m 1 i) ∧ c.1 1 i = cb (vl m 1 i)
def hr (m : g_M) (n p : Nat) : Int32 := if p < n then nI (vl m 1 p) else -1
theorem r_here (hB : BY c m n) (hp : p ≤ n) (h25 : m1.1 0 25 = nI n) (h26 : m1.1 0 26 = nI p) (h1 : m1.1 1 = m.1 1) : f11_here F m1 = some (hr m n p) := by
  have := hB.1
  unfold f11_here hr
  rw [h25, h26]
  by_cases z : p < n
  · rw [if_pos ((g_ltN (by omega) (by omega)).mpr z), if_pos z, g_ckN (by omega) (by omega), g_clN (by omega), h1, (hB.2 p z).2.1]
  · rw [if_neg (fun y => z ((g_ltN (by omega) (by omega)).mp y)), if_neg z]
theorem hr_lt (h : p < n) : hr m n p = nI (vl m 1 p) := if_pos h
theorem hr_ge (h : ¬ p < n) : hr m n p = -1 := if_neg h
theorem nI_mb {b : Nat} (hb : b < 256) : ¬ nI b = (-1 : Int32) := by
  have : ∀ j : Fin 256, ¬ nI j.val = (-1 : Int32) := by decide +kernel
  exact this ⟨b, hb⟩
/-- how many from p on have a property -/
def rn (P : Nat → Bool) (m : g_M) (n p : Nat) : Nat := fstP (fun i => !P (vl m 1 (p + i))) (n - p)
theorem rn_le (P : Nat → Bool) (m : g_M) (n p : Nat) : rn P m n p ≤ n - p := fstP_le _ _
theorem rn_yes (P : Nat → Bool) (m : g_M) (n p : Nat) {i : Nat} (h : i < rn P m n p) : P (vl m 1 (p + i)) = true := by
  have := fstP_no _ _ i h
  simpa using this
theorem rn_no (P : Nat → Bool) (m : g_M) (n p : Nat) (h : p + rn P m n p < n) : P (vl m 1 (p + rn P m n p)) = false := by
  have := fstP_yes (fun i => !P (vl m 1 (p + i))) (n - p) (show rn P m n p < n - p by omega)
  show P (vl m 1 (p + fstP (fun i => !P (vl m 1 (p + i))) (n - p))) = false
  simpa using this
theorem rn_pos (P : Nat → Bool) (m : g_M) (n p : Nat) (hp : p < n) (h : P (vl m 1 p) = true) : 0 < rn P m n p := by
  rcases Nat.eq_zero_or_pos (rn P m n p) with z | z
  · have := rn_no P m n p (by omega)
    rw [z, Nat.add_zero, h] at this
    exact absurd this.symm ft
  · exact z
/-- what lies between: the class -/
theorem q_ws (hF : 5000 < F) (hB : BY c m n) (hp : p ≤ n) (h4 : c.1 31 4 = nI n) (h5 : c.1 31 5 = nI p) : f8_step F c = f8_step_b52 F (g_sI c 31 5 (nI (p + rn isW m n p))) := by
  have hn := hB.1
  have hle := rn_le isW m n p
  have byte : ∀ x : Nat, x < n → ∀ v, (g_sI c 31 5 v).1 1 x = cb (vl m 1 x) := fun x hx v => by rw [sI_o (by omega)]; exact (hB.2 x hx).2.2
  unfold f8_step f8_step_b0
  have e0 : g_sI c 31 5 (nI (p + 0)) = c := sI_id (by rw [Nat.add_zero]; exact h5)
  rw [show g_fix (fun sf x => f8_step_b0_body F (fun mem => sf mem) x) F c = g_fix (fun sf x => f8_step_b0_body F (fun mem => sf mem) x) F (g_sI c 31 5 (nI (p + 0))) by rw [e0]]
  refine g_for (fun i => g_sI c 31 5 (nI (p + i))) (rn isW m n p) (fun i hi sf => ?_) (by omega) (fun sf => ?_)
  · have hw := rn_yes isW m n p hi
    have hb := (hB.2 (p + i) (by omega)).1
    unfold f8_step_b0_body f8_step_b39
    rw [sI_eq, sI_ne (by omega), h4, if_pos ((g_ltN (by omega) (by omega)).mpr (by omega)), g_ckN (by omega) (by omega), g_clN (by omega), byte _ (by omega), g_ckN (by omega) (by omega), g_let_e, sI_sI, nI_s]
    rcases isW_iff.mp hw with z | z
    · rw [if_pos (show cb (vl m 1 (p + i)) = (10 : Int32) from (cb_eq (k := 10) hb (by omega)).mpr z)]; rfl
    · rw [if_neg (show ¬ cb (vl m 1 (p + i)) = (10 : Int32) from fun y => by have := (cb_eq (k := 10) hb (by omega)).mp y; omega), if_pos (show cb (vl m 1 (p + i)) = (32 : Int32) from (cb_eq (k := 32) hb (by omega)).mpr z)]; rfl
  · unfold f8_step_b0_body
    rw [sI_eq, sI_ne (by omega), h4]
    by_cases z : p + rn isW m n p < n
    · have hw := rn_no isW m n p z
      have hb := (hB.2 _ z).1
      have nw : ¬ (vl m 1 (p + rn isW m n p) = 10 ∨ vl m 1 (p + rn isW m n p) = 32) := fun y => by rw [isW_iff.mpr y] at hw; exact absurd hw.symm ft
      rw [if_pos ((g_ltN (by omega) (by omega)).mpr z), g_ckN (by omega) (by omega), g_clN (by omega), byte _ z, if_neg (show ¬ cb (vl m 1 (p + rn isW m n p)) = (10 : Int32) from fun y => nw (Or.inl ((cb_eq (k := 10) hb (by omega)).mp y))), g_ckN (by omega) (by omega), if_neg (show ¬ cb (vl m 1 (p + rn isW m n p)) = (32 : Int32) from fun y => nw (Or.inr ((cb_eq (k := 32) hb (by omega)).mp y)))]
    · rw [if_neg (fun y => z ((g_ltN (by omega) (by omega)).mp y))]
/-- and the reference -/
theorem r_ws (hF : 5000 < F) (hB : BY c m n) (hp : p ≤ n) (h25 : m.1 0 25 = nI n) (h26 : m.1 0 26 = nI p) : ∃ m2, m2 = g_sI (g_sI m 0 26 (nI (p + rn isW m n p))) 0 27 (nI (p + rn isW m n p)) ∧ f11_token F m = (if p + rn isW m n p < n then (if isL (vl m 1 (p + rn isW m n p)) = true then f11_token_b64 F m2 else if isD (vl m 1 (p + rn isW m n p)) = true then f11_token_b162 F (g_sI (g_sI m2 0 28 (2 : Int32)) 0 29 (0 : Int32)) else (f11_sign F (nI (vl m 1 (p + rn isW m n p))) m2).bind (fun r => some r)) else some (g_sI m2 0 28 (4 : Int32))) := by
  have hn := hB.1
  have hle := rn_le isW m n p
  refine ⟨_, rfl, ?_⟩
  have hh : ∀ x v, x ≤ n → f11_here F (g_sI (g_sI m 0 26 (nI x)) 0 27 v) = some (hr m n x) := fun x v hx => r_here hB hx (by rw [sI_ne (by omega), sI_ne (by omega)]; exact h25) (by rw [sI_ne (by omega), sI_eq]) (by rw [sI_o (by omega), sI_o (by omega)])
  have hh0 : ∀ x, x ≤ n → f11_here F (g_sI m 0 26 (nI x)) = some (hr m n x) := fun x hx => r_here hB hx (by rw [sI_ne (by omega)]; exact h25) sI_eq (sI_o (by omega))
  unfold f11_token f11_token_b0
  have e0 : g_sI m 0 26 (nI (p + 0)) = m := sI_id (by rw [Nat.add_zero]; exact h26)
  rw [show g_fix (fun sf x => f11_token_b0_body F (fun mem => sf mem) x) F m = g_fix (fun sf x => f11_token_b0_body F (fun mem => sf mem) x) F (g_sI m 0 26 (nI (p + 0))) by rw [e0]]
  refine g_for (fun i => g_sI m 0 26 (nI (p + i))) (rn isW m n p) (fun i hi sf => ?_) (by omega) (fun sf => ?_)
  · have hw := rn_yes isW m n p hi
    have hb := (hB.2 (p + i) (by omega)).1
    unfold f11_token_b0_body f11_token_b18
    rw [hh0 _ (by omega), g_bs, hr_lt (by omega), sI_eq, g_let_e, sI_sI, nI_s, g_bs]
    rcases isW_iff.mp hw with z | z
    · rw [if_pos (show nI (vl m 1 (p + i)) = (10 : Int32) by rw [z]; rfl)]; rfl
    · rw [if_neg (show ¬ nI (vl m 1 (p + i)) = (10 : Int32) by rw [z]; decide), if_pos (show nI (vl m 1 (p + i)) = (32 : Int32) by rw [z]; rfl)]; rfl
  · unfold f11_token_b0_body
    rw [hh0 _ (by omega), g_bs, g_bs]
    by_cases z : p + rn isW m n p < n
    · have hw := rn_no isW m n p z
      have hb := (hB.2 _ z).1
      have nw : ¬ (vl m 1 (p + rn isW m n p) = 10 ∨ vl m 1 (p + rn isW m n p) = 32) := fun y => by rw [isW_iff.mpr y] at hw; exact absurd hw.symm ft
      rw [hr_lt z, if_neg (show ¬ nI (vl m 1 (p + rn isW m n p)) = (10 : Int32) from fun y => nw (Or.inl ((g_eqN (b := 10) (by omega) (by omega)).mp y))), if_neg (show ¬ nI (vl m 1 (p + rn isW m n p)) = (32 : Int32) from fun y => nw (Or.inr ((g_eqN (b := 32) (by omega) (by omega)).mp y))), g_let_e, sI_eq, hh _ _ (by omega), g_bs, hr_lt z, if_neg (nI_mb hb), r_isL hb, g_bs, if_pos z]
      by_cases l : isL (vl m 1 (p + rn isW m n p)) = true
      · rw [if_pos l, if_neg nI10, if_pos l]
      · rw [if_neg l, if_pos nI00, if_neg l, r_isD hb, g_bs]
        by_cases d : isD (vl m 1 (p + rn isW m n p)) = true
        · rw [if_pos d, if_neg nI10, if_pos d, g_let_e, g_let_e]
        · rw [if_neg d, if_pos nI00, if_neg d]
    · rw [hr_ge z, if_neg (show ¬ (-1 : Int32) = 10 by decide), if_neg (show ¬ (-1 : Int32) = 32 by decide), g_let_e, sI_eq, hh _ _ (by omega), g_bs, hr_ge z, if_pos rfl, g_let_e, if_neg z]
end L
