-- @deps 27.law2
/-! bits of an int -/
def gb (x : Int32) (i : Nat) : Bool := x.toBitVec.getLsbD i
theorem gb_ext {x y : Int32} (h : ∀ i, i < 32 → gb x i = gb y i) : x = y := by
  apply Int32.toBitVec.inj
  apply BitVec.eq_of_getLsbD_eq
  intro i hi
  exact h i hi
theorem shl_two {n : Nat} (hn : n < 32) : (nI 1 <<< (nI n &&& 31)).toBitVec = BitVec.twoPow 32 n := by
  have key : ∀ n : Fin 32, (nI 1 <<< (nI n.1 &&& 31)).toBitVec = BitVec.twoPow 32 n.1 := by decide +kernel
  exact key ⟨n, hn⟩
theorem gb_or (x y : Int32) (i : Nat) : gb (x ||| y) i = (gb x i || gb y i) := by
  unfold gb
  rw [Int32.toBitVec_or, BitVec.getLsbD_or]
theorem gb_and (x y : Int32) (i : Nat) : gb (x &&& y) i = (gb x i && gb y i) := by
  unfold gb
  rw [Int32.toBitVec_and, BitVec.getLsbD_and]
theorem gb_shl {n i : Nat} (hn : n < 32) (hi : i < 32) : gb (nI 1 <<< (nI n &&& 31)) i = decide (i = n) := by
  unfold gb
  rw [shl_two hn, BitVec.getLsbD_twoPow]
  by_cases h : i = n
  · subst h; simp [hi]
  · simp [h, hn, Ne.symm h]
theorem gb_0 (i : Nat) : gb (nI 0) i = false := by
  unfold gb
  show (0#32).getLsbD i = false
  simp
theorem gb_1 {i : Nat} : gb (nI 1) i = decide (i = 0) := by
  unfold gb
  show (1#32).getLsbD i = _
  simp [BitVec.getLsbD_one]
theorem shr_amt {k : Nat} (hk : k < 32) : (nI k &&& 31).toBitVec.smod 32 = BitVec.ofNat 32 k := by
  have key : ∀ k : Fin 32, (nI k.1 &&& 31).toBitVec.smod 32 = BitVec.ofNat 32 k.1 := by decide +kernel
  exact key ⟨k, hk⟩
theorem gb_shr (x : Int32) {k i : Nat} (hk : k < 32) (h : k + i < 32) : gb (x >>> (nI k &&& 31)) i = gb x (k + i) := by
  unfold gb
  rw [Int32.toBitVec_shiftRight, shr_amt hk, BitVec.sshiftRight_eq', BitVec.toNat_ofNat, Nat.mod_eq_of_lt (by omega), BitVec.getLsbD_sshiftRight]
  simp [h, show i < 32 by omega]
/-- one bit, taken out -/
theorem shr_bit (x : Int32) {k : Nat} (hk : k < 32) : ((x >>> (nI k &&& 31)) &&& nI 1) = (if gb x k = true then nI 1 else nI 0) := by
  apply gb_ext
  intro i hi
  rw [gb_and, gb_1]
  by_cases h : i = 0
  · subst h
    rw [gb_shr x hk (by omega), Nat.add_zero]
    by_cases g : gb x k = true
    · rw [g, if_pos rfl, gb_1]; rfl
    · rw [if_neg g, gb_0, Bool.eq_false_iff.mpr g]; rfl
  · have hd : decide (i = 0) = false := decide_eq_false h
    rw [hd, Bool.and_false]
    split
    · rw [gb_1, hd]
    · rw [gb_0]
theorem gb_bits (P : Nat → Bool) : ∀ n, n ≤ 32 → ∀ i, i < 32 → gb (bitsP P n) i = (decide (i < n) && P i) := by
  intro n
  induction n with
  | zero => intro _ i _; show gb (nI 0) i = _; rw [gb_0]; simp
  | succ n ih =>
    intro hn i hi
    unfold bitsP
    by_cases hp : P n = true
    · rw [if_pos hp, gb_or, ih (by omega) i hi, gb_shl (by omega) hi]
      by_cases h : i = n
      · subst h; simp [hp]
      · have : decide (i < n) = decide (i < n + 1) := by
          apply decide_eq_decide.mpr; omega
        rw [this]; simp [h]
    · rw [if_neg hp, ih (by omega) i hi]
      by_cases h : i = n
      · subst h; simp [hp]
      · have : decide (i < n) = decide (i < n + 1) := by
          apply decide_eq_decide.mpr; omega
        rw [this]
theorem shr_bits (P : Nat → Bool) {n k : Nat} (hn : n ≤ 32) (hk : k < 32) : ((bitsP P n >>> (nI k &&& 31)) &&& nI 1) = (if (decide (k < n) && P k) = true then nI 1 else nI 0) := by
  rw [shr_bit _ hk, gb_bits P n hn k hk]
theorem bits_set (P : Nat → Bool) {n i : Nat} (hn : n ≤ 32) (hi : i < n) : bitsP P n ||| (nI 1 <<< (nI i &&& 31)) = bitsP (fun j => P j || decide (j = i)) n := by
  apply gb_ext
  intro j hj
  rw [gb_or, gb_bits _ n hn j hj, gb_bits _ n hn j hj, gb_shl (by omega) hj]
  by_cases h : j = i
  · subst h; simp [hi]
  · simp [h]
theorem bits_all0 (n : Nat) : bitsP (fun _ => false) n = nI 0 := by
  induction n with
  | zero => rfl
  | succ n ih => unfold bitsP; simpa using ih
theorem cnt_all0 (n : Nat) : cntP (fun _ => false) n = 0 := by
  induction n with
  | zero => rfl
  | succ n ih => unfold cntP; simpa using ih
theorem cnt_set (P : Nat → Bool) {n i : Nat} (hi : i < n) (hp : P i = false) : cntP (fun j => P j || decide (j = i)) n = cntP P n + 1 := by
  induction n with
  | zero => omega
  | succ n ih =>
    unfold cntP
    by_cases h : i = n
    · subst h
      have e : cntP (fun j => P j || decide (j = i)) i = cntP P i := cntP_congr (fun j hj => by simp [show j ≠ i by omega])
      rw [e]
      simp [hp]
    · rw [ih (by omega)]
      simp only [show decide (n = i) = false from decide_eq_false (by omega), Bool.or_false]
      omega
theorem cnt_pos (P : Nat → Bool) {n i : Nat} (hi : i < n) (hp : P i = true) : 0 < cntP P n := by
  rcases Nat.eq_zero_or_pos (cntP P n) with h | h
  · have := (cnt_zero P n).mp h i hi
    rw [hp] at this; cases this
  · exact h
theorem g_l26 : (26 : Int32) = nI 26 := rfl
theorem cntP_s (P : Nat → Bool) (n : Nat) : cntP P (n + 1) = cntP P n + (if P n = true then 1 else 0) := rfl
theorem bitsP_s (P : Nat → Bool) (n : Nat) : bitsP P (n + 1) = if P n = true then bitsP P n ||| (nI 1 <<< (nI n &&& 31)) else bitsP P n := rfl
theorem r_bitsOf {F : Nat} (hF : 5000 < F) (P : Nat → Bool) (m : g_M) : f11_bitsOf F (bitsP P 25) m = some (nI (cntP P 25)) := by
  unfold f11_bitsOf f11_bitsOf_b4
  have hc : ∀ n, cntP P n ≤ n := cntP_le P
  refine g_for (fun i => (nI (cntP (fun j => decide (j < 25) && P j) i), nI i)) 26 (fun i hi sf => ?_) (by omega) (fun sf => ?_)
  · have h1 := shr_bits P (n := 25) (k := i) (by omega) (by omega)
    simp (disch := omega) only [g_let, g_bs, g_l0, g_l1, g_l2, g_l3, g_l4, g_l5, g_l6, g_l7, g_l8, g_l9, g_l10, g_l11, g_l12, g_l15, g_l20, g_l24, g_l25, g_l30, g_l40, g_l99, g_l100, g_ckN, g_clN, g_ltN, g_leN, g_eqN, pk_mul, nI_add, if_true, if_false, Nat.reduceLT, Nat.reduceLeDiff, Nat.reduceEqDiff, Nat.lt_irrefl, f11_bitsOf_b4_body, g_l26, h1, hi]
    rw [cntP_s]
    split <;> rw [nI_add]
  · have e : cntP (fun j => decide (j < 25) && P j) 26 = cntP P 25 := by
      have e2 : cntP (fun j => decide (j < 25) && P j) 25 = cntP P 25 := cntP_congr (fun j hj => by simp [hj])
      show cntP (fun j => decide (j < 25) && P j) 25 + _ = _
      rw [e2]; rfl
    rw [e]
    simp (disch := omega) only [g_let, g_bs, g_l0, g_l1, g_l2, g_l3, g_l4, g_l5, g_l6, g_l7, g_l8, g_l9, g_l10, g_l11, g_l12, g_l15, g_l20, g_l24, g_l25, g_l30, g_l40, g_l99, g_l100, g_ckN, g_clN, g_ltN, g_leN, g_eqN, pk_mul, nI_add, if_true, if_false, Nat.reduceLT, Nat.reduceLeDiff, Nat.reduceEqDiff, Nat.lt_irrefl, f11_bitsOf_b4_body, g_l26]
