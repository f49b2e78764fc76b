/-! the best load: the reference goes through the sets -/
section L
variable {F : Nat} {c m c' m' : g_M} {T S : Nat}
def partF (m : g_M) (n : Nat) : Nat := 5 * vl m 32 n + vl m 33 n
def sizeF (m : g_M) (n : Nat) : Nat := vl m 6 (vl m 33 n)
def rateF (m : g_M) (n : Nat) : Nat := vl m 7 (vl m 33 n)
def candF (m : g_M) (n : Nat) : Bool := isDueP m 0 n && decide (m.1 30 (partF m n) = nI (vl m 24 0 % 2))
theorem ldF_eq {mem : g_M} (h : ∀ o, o ≠ 0 → mem.1 o = m.1 o) : candF mem = candF m ∧ partF mem = partF m ∧ sizeF mem = sizeF m ∧ rateF mem = rateF m ∧ vl mem 27 0 = vl m 27 0 := by
  refine ⟨?_, ?_, ?_, ?_, ?_⟩
  · funext n; unfold candF isDueP partF vl; rw [h 35 (by omega), h 34 (by omega), h 24 (by omega), h 30 (by omega), h 32 (by omega), h 33 (by omega)]
  · funext n; unfold partF vl; rw [h 32 (by omega), h 33 (by omega)]
  · funext n; unfold sizeF vl; rw [h 6 (by omega), h 33 (by omega)]
  · funext n; unfold rateF vl; rw [h 7 (by omega), h 33 (by omega)]
  · unfold vl; rw [h 27 (by omega)]
theorem ld_f (hW : WT m) (hWS : WS m 0) {n : Nat} (hn : n < vl m 27 0) : m.1 32 n = nI (vl m 32 n) ∧ vl m 32 n < vl m 2 0 ∧ m.1 33 n = nI (vl m 33 n) ∧ vl m 33 n < vl m 2 1 ∧ m.1 6 (vl m 33 n) = nI (sizeF m n) ∧ 1 ≤ sizeF m n ∧ sizeF m n ≤ 9 ∧ m.1 7 (vl m 33 n) = nI (rateF m n) ∧ rateF m n ≤ 99 ∧ partF m n < 25 ∧ vl m 33 n < 5 ∧ vl m 32 n < 5 := by
  obtain ⟨a1, a2, a3, a4, a5, a6⟩ := hWS.2.2.2.2.2.1 n hn
  rw [Nat.mul_zero, Nat.zero_add] at a1 a2 a3 a4
  obtain ⟨b1, b2, b3⟩ := hW.2.2.1 (vl m 33 n) a4
  have p5 := hW.1.1.2
  have s5 := hW.1.2.1.2
  refine ⟨a1.1, a2, a3.1, a4, b1.1, b2, b1.2, b3.1, b3.2, ?_, by omega, by omega⟩
  unfold partF; omega
theorem gb_nI {v i : Nat} (hi : i < 32) : gb (nI v) i = v.testBit i := by
  unfold gb
  show (BitVec.ofNat 32 v).getLsbD i = _
  rw [BitVec.getLsbD_ofNat]
  simp [hi]
def pX (part : Nat → Nat) (A : Nat → Bool) : Nat → Nat → Bool
  | 0, _ => false
  | n + 1, p => pX part A n p || (A n && decide (p = part n))
theorem pX_iff (part : Nat → Nat) (A : Nat → Bool) (p : Nat) : ∀ n, pX part A n p = true ↔ ∃ j, j < n ∧ A j = true ∧ part j = p := by
  intro n
  induction n with
  | zero => exact ⟨fun h => absurd h ft, fun ⟨j, h, _⟩ => absurd h (Nat.not_lt_zero j)⟩
  | succ n ih =>
    show (pX part A n p || (A n && decide (p = part n))) = true ↔ _
    simp only [Bool.or_eq_true, Bool.and_eq_true, decide_eq_true_eq]
    rw [ih]
    constructor
    · rintro (⟨j, h1, h2, h3⟩ | ⟨h1, h2⟩)
      · exact ⟨j, by omega, h2, h3⟩
      · exact ⟨n, by omega, h1, h2.symm⟩
    · rintro ⟨j, h1, h2, h3⟩
      by_cases z : j = n
      · subst z; exact Or.inr ⟨h2, h3.symm⟩
      · exact Or.inl ⟨j, by omega, h2, h3⟩
def badL (m : g_M) (A : Nat → Bool) (n : Nat) : Bool := A n && !(candF m n && !pX (partF m) A n (partF m n))
theorem bad_VD {A : Nat → Bool} {N : Nat} : VD (candF m) (partF m) A N ↔ ∀ n, n < N → badL m A n = false := by
  constructor
  · intro h n hn
    unfold badL
    cases hA : A n with
    | false => rfl
    | true =>
      obtain ⟨h1, h2⟩ := h n hn hA
      have : pX (partF m) A n (partF m n) = false := by
        cases hp : pX (partF m) A n (partF m n) with
        | false => rfl
        | true =>
          obtain ⟨j, q1, q2, q3⟩ := (pX_iff _ _ _ n).mp hp
          exact absurd q3 (h2 j q1 q2)
      rw [h1, this]; rfl
  · intro h i hi hA
    have := h i hi
    unfold badL at this
    rw [hA] at this
    simp only [Bool.true_and, Bool.not_eq_false', Bool.and_eq_true, Bool.not_eq_true'] at this
    refine ⟨this.1, fun j hj hAj hp => ?_⟩
    have q := (pX_iff (partF m) A (partF m i) i).mpr ⟨j, hj, hAj, hp⟩
    rw [this.2] at q
    exact absurd q ft
theorem and_bit (X : Nat → Bool) {p : Nat} (hp : p < 25) : (bitsP X 25 &&& (nI 1 <<< (nI p &&& 31))) = nI 0 ↔ X p = false := by
  constructor
  · intro h
    have := congrArg (fun x => gb x p) h
    simp only [gb_and, gb_0] at this
    rw [gb_shl (by omega) (by omega), gb_bits X 25 (by omega) p (by omega)] at this
    simpa [hp] using this
  · intro h
    apply gb_ext
    intro i hi
    rw [gb_and, gb_0, gb_shl (by omega) hi, gb_bits X 25 (by omega) i hi]
    by_cases z : i = p
    · subst z; simp [h]
    · simp [z]
theorem r_atBoat (hW : WT m) (hWS : WS m 0) {n : Nat} (hn : n < vl m 27 0) : f11_isAtBoat F (0 : Int32) (m.1 32 n) (m.1 33 n) m = some (if m.1 30 (partF m n) = nI (vl m 24 0 % 2) then nI 1 else nI 0) := by
  obtain ⟨a1, a2, a3, a4, a5, a6, a7, a8, a9, a10, a11, a12⟩ := ld_f hW hWS hn
  obtain ⟨vD, bD⟩ := hWS.1.1
  unfold f11_isAtBoat
  have e1 : (25 : Int32) * 0 + 5 * m.1 32 n + m.1 33 n = nI (partF m n) := by
    rw [a1, a3, g_l5, pk_mul, show (25 : Int32) * 0 = nI 0 from rfl, nI_add, nI_add, Nat.zero_add]; rfl
  have e2 : (0 : Int32).toNatClampNeg = 0 := rfl
  have e3 : m.1 24 0 - m.1 24 0 / (2 : Int32) * (2 : Int32) = nI (vl m 24 0 % 2) := by rw [vD]; exact rem2 (by omega)
  rw [e1, g_ckN (by omega) (by omega), g_clN (by omega), show g_ck (0 : Int32) 23 = g_ck (nI 0) 23 from rfl, g_ckN (by omega) (by omega), e2, e3]
  split <;> rfl
theorem r_set (hF : 5000 < F) (hW : WT m) (hWS : WS m 0) {v : Nat} (hv : v < 4096) (s12 : Int32 → g_M → Option g_M) : ∃ ok X Y, (ok = true ↔ VD (candF m) (partF m) (fun i => v.testBit i) (vl m 27 0)) ∧ (ok = true → X = nI (sm (sizeF m) (fun i => v.testBit i) (vl m 27 0)) ∧ Y = nI (sm (rateF m) (fun i => v.testBit i) (vl m 27 0))) ∧ f11_layLoad_b37 F s12 (nI v) (0 : Int32) (0 : Int32) (0 : Int32) (1 : Int32) (0 : Int32) m = f11_layLoad_b175 F s12 (nI v) X Y (if ok = true then nI 1 else nI 0) m := by
  obtain ⟨vN, bN⟩ := hWS.1.2.2
  obtain ⟨A, hA⟩ : ∃ A, A = fun i => v.testBit i := ⟨_, rfl⟩
  rw [← hA]
  have hJle := fstP_le (badL m A) (vl m 27 0)
  have hJno := fstP_no (badL m A) (vl m 27 0)
  have hJyes := fstP_yes (badL m A) (vl m 27 0)
  obtain ⟨J, hJ⟩ : ∃ J, J = fstP (badL m A) (vl m 27 0) := ⟨_, rfl⟩
  rw [← hJ] at hJle hJno hJyes
  have step : ∀ (i : Nat) (sf : Int32 × Int32 × Int32 × Int32 × Int32 × Int32 × g_M → Option g_M), i ≤ J → i < vl m 27 0 → f11_layLoad_b37_body F s12 (fun v1 v2 v3 v4 v5 v6 mem => sf (v1, v2, v3, v4, v5, v6, mem)) (nI v) (bitsP (pX (partF m) A i) 25) (nI (sm (sizeF m) A i)) (nI (sm (rateF m) A i)) (if i ≤ J then nI 1 else nI 0) (nI i) m = sf (nI v, bitsP (pX (partF m) A (i + 1)) 25, nI (sm (sizeF m) A (i + 1)), nI (sm (rateF m) A (i + 1)), (if i + 1 ≤ J then nI 1 else nI 0), nI (i + 1), m) := by
    intro i sf hiJ hi
    obtain ⟨a1, a2, a3, a4, a5, a6, a7, a8, a9, a10, a11, a12⟩ := ld_f hW hWS hi
    have e2 : (0 : Int32).toNatClampNeg = 0 := rfl
    have hsz : sm (sizeF m) A (i + 1) = sm (sizeF m) A i + (if A i = true then sizeF m i else 0) := rfl
    have hrt : sm (rateF m) A (i + 1) = sm (rateF m) A i + (if A i = true then rateF m i else 0) := rfl
    have hpx : pX (partF m) A (i + 1) = fun p => pX (partF m) A i p || (A i && decide (p = partF m i)) := rfl
    unfold f11_layLoad_b37_body
    rw [show g_ck (0 : Int32) 23 = g_ck (nI 0) 23 from rfl, g_ckN (by omega) (by omega), e2, vN, if_pos ((g_ltN (by omega) (by omega)).mpr hi), if_pos hiJ, if_neg nI10]
    have hb : ((nI v >>> (nI i &&& 31)) &&& (1 : Int32)) = (if A i = true then nI 1 else nI 0) := by
      have := shr_bit (nI v) (k := i) (by omega)
      rw [gb_nI (by omega)] at this
      rw [hA]; exact this
    rw [hb]
    cases hAi : A i with
    | false =>
      have nb : badL m A i = false := by unfold badL; rw [hAi]; rfl
      have hlt : i + 1 ≤ J := by
        rcases Nat.lt_or_ge i J with z | z
        · omega
        · have : i = J := by omega
          subst this
          have := hJyes hi
          rw [nb] at this; exact absurd this ft
      unfold f11_layLoad_b169
      have hp2 : pX (partF m) A (i + 1) = pX (partF m) A i := by rw [hpx]; funext p; rw [hAi]; simp
      rw [if_neg ft, if_pos nI00, g_let_e, nI_s, hp2, hsz, hrt, hAi, if_neg ft, if_neg ft, if_pos hlt]
      rfl
    | true =>
      have hd := r_isDue (F := F) hWS (by omega) (n := i) (by omega)
      have hat := r_atBoat (F := F) hW hWS hi
      have b130 : ∀ w0 : Int32, f11_layLoad_b130 F (fun v1 v2 v3 v4 v5 v6 mem => sf (v1, v2, v3, v4, v5, v6, mem)) (nI v) (bitsP (pX (partF m) A i) 25) (nI (sm (sizeF m) A i)) (nI (sm (rateF m) A i)) (nI i) (nI 1 <<< (nI (partF m i) &&& 31)) w0 m = sf (nI v, bitsP (pX (partF m) A (i + 1)) 25, nI (sm (sizeF m) A (i + 1)), nI (sm (rateF m) A (i + 1)), w0, nI (i + 1), m) := fun w0 => by
        unfold f11_layLoad_b130 f11_layLoad_b169
        rw [g_let_e, g_ckN (by omega) (by omega), g_clN (by omega), a3, g_ckN (by omega) (by omega), g_clN (by omega), g_let_e, g_ckN (by omega) (by omega), g_ckN (by omega) (by omega), g_let_e, g_let_e, a5, a8, nI_add, nI_add, nI_s, bits_set _ (by omega) a10, hpx, hsz, hrt, hAi, if_pos rfl, if_pos rfl]
        simp only [Bool.true_and]
      have hx : (1 : Int32) <<< (((5 : Int32) * m.1 32 i + m.1 33 i) &&& 31) = nI 1 <<< (nI (partF m i) &&& 31) := by
        rw [a1, a3, g_l5, pk_mul, nI_add]; rfl
      have hw : ∀ w0 : Int32, w0 = (if badL m A i = true then nI 0 else nI 1) → w0 = (if i + 1 ≤ J then nI 1 else nI 0) := fun w0 e => by
        rw [e]
        by_cases z : badL m A i = true
        · rw [if_pos z, if_neg]
          intro y
          have := hJno i (by omega)
          rw [z] at this; exact absurd this.symm ft
        · rw [if_neg z, if_pos]
          rcases Nat.lt_or_ge i J with y | y
          · omega
          · have : i = J := by omega
            subst this
            exact absurd (hJyes hi) z
      rw [if_pos rfl, if_neg nI10, g_ckN (by omega) (by omega), g_ckN (by omega) (by omega), g_clN (by omega), g_let_e, hx, show f11_isDue F (0 : Int32) (nI i) m = _ from hd, g_bs]
      unfold f11_layLoad_b129
      have hbd : badL m A i = !(candF m i && !pX (partF m) A i (partF m i)) := by unfold badL; rw [hAi]; rfl
      by_cases d : isDueP m 0 i = true
      · rw [if_pos d, if_neg nI10, g_ckN (by omega) (by omega), g_ckN (by omega) (by omega), hat, g_bs]
        by_cases q : m.1 30 (partF m i) = nI (vl m 24 0 % 2)
        · have hc : candF m i = true := by unfold candF; rw [d]; simp [q]
          rw [if_pos q, if_neg nI10]
          cases hp : pX (partF m) A i (partF m i) with
          | false =>
            rw [if_pos (show bitsP (pX (partF m) A i) 25 &&& (nI 1 <<< (nI (partF m i) &&& 31)) = (0 : Int32) from (and_bit _ a10).mpr hp), b130, hw (1 : Int32) (by rw [hbd, hc, hp]; rfl)]
          | true =>
            rw [if_neg (show ¬ bitsP (pX (partF m) A i) 25 &&& (nI 1 <<< (nI (partF m i) &&& 31)) = (0 : Int32) from fun y => by rw [(and_bit _ a10).mp y] at hp; exact absurd hp ft), b130, hw (0 : Int32) (by rw [hbd, hc, hp]; rfl)]
        · have hc : candF m i = false := by unfold candF; simp [q]
          rw [if_neg q, if_pos nI00, b130, hw (0 : Int32) (by rw [hbd, hc]; rfl)]
      · have hc : candF m i = false := by unfold candF; simp [d]
        rw [if_neg d, if_pos nI00, b130, hw (0 : Int32) (by rw [hbd, hc]; rfl)]
  refine ⟨!decide (J < vl m 27 0), nI (sm (sizeF m) A (if J < vl m 27 0 then J + 1 else vl m 27 0)), nI (sm (rateF m) A (if J < vl m 27 0 then J + 1 else vl m 27 0)), ?_, ?_, ?_⟩
  · rw [bad_VD]
    simp only [Bool.not_eq_true', decide_eq_false_iff_not]
    constructor
    · intro h n hn; exact hJno n (by omega)
    · intro h z
      have := hJyes z
      rw [h J z] at this; exact absurd this ft
  · intro h
    simp only [Bool.not_eq_true', decide_eq_false_iff_not] at h
    rw [if_neg h]; exact ⟨rfl, rfl⟩
  · unfold f11_layLoad_b37
    refine g_for (fun i => (nI v, bitsP (pX (partF m) A i) 25, nI (sm (sizeF m) A i), nI (sm (rateF m) A i), (if i ≤ J then nI 1 else nI 0), nI i, m)) (if J < vl m 27 0 then J + 1 else vl m 27 0) (fun i hi sf => ?_) (by split <;> omega) (fun sf => ?_)
    · exact step i sf (by split at hi <;> omega) (by split at hi <;> omega)
    · have e2 : (0 : Int32).toNatClampNeg = 0 := rfl
      show f11_layLoad_b37_body F s12 _ (nI v) _ _ _ (if (if J < vl m 27 0 then J + 1 else vl m 27 0) ≤ J then nI 1 else nI 0) (nI (if J < vl m 27 0 then J + 1 else vl m 27 0)) m = _
      unfold f11_layLoad_b37_body
      rw [show g_ck (0 : Int32) 23 = g_ck (nI 0) 23 from rfl, g_ckN (by omega) (by omega), e2, vN]
      by_cases z : J < vl m 27 0
      · simp only [if_pos z]
        rw [if_neg (show ¬ J + 1 ≤ J by omega), if_pos nI00, if_neg (show ¬ (!decide (J < vl m 27 0)) = true by simp [z])]
        split <;> rfl
      · simp only [if_neg z]
        rw [if_neg (fun y => Nat.lt_irrefl _ ((g_ltN (by omega) (by omega)).mp y)), if_pos (show vl m 27 0 ≤ J by omega), if_pos (show (!decide (J < vl m 27 0)) = true by simp [z])]
theorem sh1 {N : Nat} (hN : N ≤ 12) : (1 : Int32) <<< (nI N &&& 31) = nI (2 ^ N) := by
  have := pk_shlN (n := 1) (nI N &&& 31) N (by rw [shr_amt (by omega)]; exact Nat.mod_eq_of_lt (by omega)) (by
    have : 2 ^ N ≤ 2 ^ 12 := Nat.pow_le_pow_right (by omega) hN
    have h12 : (2 : Nat) ^ 12 = 4096 := by decide
    omega)
  rw [Nat.one_mul] at this
  exact this
theorem r_layLoad (hF : 5000 < F) (hW : WT m) (hWS : WS m 0) : ∃ m' best R, f11_layLoad F m = some m' ∧ m'.2.2 = m.2.2 ∧ (∀ o k, ¬ (o = 0 ∧ (k = 57 ∨ k = 58)) → m'.1 o k = m.1 o k) ∧ m'.1 0 57 = nI best ∧ m'.1 0 58 = nI R ∧ R ≤ 1188 ∧ BST (candF m) (partF m) (sizeF m) (rateF m) (vl m 27 0) (vl m 2 5) (2 ^ vl m 27 0) best R := by
  obtain ⟨vN, bN⟩ := hWS.1.2.2
  obtain ⟨vR, bR⟩ := hW.1.2.2.2.2.2.1
  have hpow : 2 ^ vl m 27 0 ≤ 2 ^ 12 := Nat.pow_le_pow_right (by omega) bN
  have h12 : (2 : Nat) ^ 12 = 4096 := by decide
  have key := g_for1 (b := fun sf (x : Int32 × g_M) => f11_layLoad_b12_body F (fun v1 mem => sf (v1, mem)) x.1 x.2) (fun k x => x.1 = nI k ∧ x.2.2.2 = m.2.2 ∧ (∀ o j, ¬ (o = 0 ∧ (j = 57 ∨ j = 58)) → x.2.1 o j = m.1 o j) ∧ ∃ best R, x.2.1 0 57 = nI best ∧ x.2.1 0 58 = nI R ∧ R ≤ 1188 ∧ best ≤ k ∧ BST (candF m) (partF m) (sizeF m) (rateF m) (vl m 27 0) (vl m 2 5) k best R) (2 ^ vl m 27 0) (fun k x hk hx => by
      obtain ⟨v, mem⟩ := x
      obtain ⟨x1, x2, x3, best, R, x4, x5, x6, x7, x8⟩ := hx
      simp only at x1 x2 x3 x4 x5
      subst x1
      have mo : ∀ o, o ≠ 0 → mem.1 o = m.1 o := fun o ho => by funext j; exact x3 o j (by omega)
      have hW' : WT mem := WT_fr hW (fun o a b => mo o (by omega))
      have hWS' : WS mem 0 := WS_same hW hWS (SAME_id (fun o j z => by rw [mo o (by have := z.1; omega)])) (mo 2 (by omega))
      obtain ⟨l1, l2, l3, l4, l5⟩ := ldF_eq mo
      have set := fun s12 => r_set (F := F) (v := k) hF hW' hWS' (by omega) s12
      rw [l1, l2, l3, l4, l5] at set
      have ent : ∀ sf, f11_layLoad_b12_body F sf (nI k) mem = f11_layLoad_b37 F sf (nI k) (0 : Int32) (0 : Int32) (0 : Int32) (1 : Int32) (0 : Int32) mem := fun sf => by
        unfold f11_layLoad_b12_body
        rw [show g_ck (0 : Int32) 23 = g_ck (nI 0) 23 from rfl, g_ckN (by omega) (by omega), show (0 : Int32).toNatClampNeg = 0 from rfl, mo 27 (by omega), vN, sh1 bN, if_pos ((g_ltN (by omega) (by omega)).mpr hk)]
      have hsz : sm (sizeF m) (fun i => k.testBit i) (vl m 27 0) ≤ vl m 27 0 * 9 := sm_le (fun i hi => (ld_f hW hWS hi).2.2.2.2.2.2.1)
      have hrt : sm (rateF m) (fun i => k.testBit i) (vl m 27 0) ≤ vl m 27 0 * 99 := sm_le (fun i hi => (ld_f hW hWS hi).2.2.2.2.2.2.2.2.1)
      by_cases hV : VD (candF m) (partF m) (fun i => k.testBit i) (vl m 27 0)
      · by_cases hs : sm (sizeF m) (fun i => k.testBit i) (vl m 27 0) ≤ vl m 2 5
        · by_cases hr : R < sm (rateF m) (fun i => k.testBit i) (vl m 27 0)
          · refine ⟨(nI (k + 1), g_sI (g_sI mem 0 57 (nI k)) 0 58 (nI (sm (rateF m) (fun i => k.testBit i) (vl m 27 0)))), ⟨rfl, x2, fun o j z => ?_, k, _, ?_, sI_eq, by omega, by omega, BST_yes x8 hk hV hs hr⟩, fun sf => ?_⟩
            · show (g_sI (g_sI mem 0 57 _) 0 58 _).1 o j = _
              rw [sI_ne (by omega), sI_ne (by omega)]; exact x3 o j z
            · show (g_sI (g_sI mem 0 57 _) 0 58 _).1 0 57 = _
              rw [sI_ne (by omega), sI_eq]
            · show f11_layLoad_b12_body F _ (nI k) mem = _
              obtain ⟨ok, X, Y, o1, o2, o3⟩ := set (fun v1 mem => sf (v1, mem))
              have hok := o1.mpr hV
              obtain ⟨rfl, rfl⟩ := o2 hok
              rw [ent, o3, if_pos hok]
              unfold f11_layLoad_b175 f11_layLoad_b213
              rw [if_neg nI10, show g_ck (5 : Int32) 18 = g_ck (nI 5) 18 from rfl, g_ckN (by omega) (by omega), show (5 : Int32).toNatClampNeg = 5 from rfl, mo 2 (by omega), vR, if_pos ((g_leN (by omega) (by omega)).mpr hs), x5, if_neg (fun z => by have := (g_leN (by omega) (by omega)).mp z; omega), g_let_e, g_let_e, g_let_e, nI_s]
          · refine ⟨(nI (k + 1), mem), ⟨rfl, x2, x3, best, R, x4, x5, x6, by omega, BST_no x8 x7 (fun _ _ => by omega)⟩, fun sf => ?_⟩
            show f11_layLoad_b12_body F _ (nI k) mem = _
            obtain ⟨ok, X, Y, o1, o2, o3⟩ := set (fun v1 mem => sf (v1, mem))
            have hok := o1.mpr hV
            obtain ⟨rfl, rfl⟩ := o2 hok
            rw [ent, o3, if_pos hok]
            unfold f11_layLoad_b175 f11_layLoad_b213
            rw [if_neg nI10, show g_ck (5 : Int32) 18 = g_ck (nI 5) 18 from rfl, g_ckN (by omega) (by omega), show (5 : Int32).toNatClampNeg = 5 from rfl, mo 2 (by omega), vR, if_pos ((g_leN (by omega) (by omega)).mpr hs), x5, if_pos ((g_leN (by omega) (by omega)).mpr (by omega)), g_let_e, nI_s]
        · refine ⟨(nI (k + 1), mem), ⟨rfl, x2, x3, best, R, x4, x5, x6, by omega, BST_no x8 x7 (fun _ y => absurd y hs)⟩, fun sf => ?_⟩
          show f11_layLoad_b12_body F _ (nI k) mem = _
          obtain ⟨ok, X, Y, o1, o2, o3⟩ := set (fun v1 mem => sf (v1, mem))
          have hok := o1.mpr hV
          obtain ⟨rfl, rfl⟩ := o2 hok
          rw [ent, o3, if_pos hok]
          unfold f11_layLoad_b175 f11_layLoad_b213
          rw [if_neg nI10, show g_ck (5 : Int32) 18 = g_ck (nI 5) 18 from rfl, g_ckN (by omega) (by omega), show (5 : Int32).toNatClampNeg = 5 from rfl, mo 2 (by omega), vR, if_neg (fun z => hs ((g_leN (by omega) (by omega)).mp z)), g_let_e, nI_s]
      · refine ⟨(nI (k + 1), mem), ⟨rfl, x2, x3, best, R, x4, x5, x6, by omega, BST_no x8 x7 (fun y _ => absurd y hV)⟩, fun sf => ?_⟩
        show f11_layLoad_b12_body F _ (nI k) mem = _
        obtain ⟨ok, X, Y, o1, o2, o3⟩ := set (fun v1 mem => sf (v1, mem))
        have hok : ¬ ok = true := fun z => hV (o1.mp z)
        rw [ent, o3, if_neg hok]
        unfold f11_layLoad_b175 f11_layLoad_b213
        rw [if_pos nI00, g_let_e, nI_s]) (s := ((0 : Int32), g_sI (g_sI m 0 57 (0 : Int32)) 0 58 (0 : Int32))) ⟨rfl, rfl, fun o j z => by show (g_sI (g_sI m 0 57 _) 0 58 _).1 o j = _; rw [sI_ne (by omega), sI_ne (by omega)], 0, 0, by show (g_sI (g_sI m 0 57 _) 0 58 _).1 0 57 = _; rw [sI_ne (by omega), sI_eq]; rfl, sI_eq, by omega, by omega, BST_0⟩ (F := F) (by omega)
  obtain ⟨⟨v, mem⟩, ⟨x1, x2, x3, best, R, x4, x5, x6, x7, x8⟩, sf, e⟩ := key
  simp only at x1 x2 x3 x4 x5
  subst x1
  refine ⟨mem, best, R, ?_, x2, x3, x4, x5, x6, x8⟩
  unfold f11_layLoad f11_layLoad_b12
  rw [g_let_e, g_let_e, e]
  show f11_layLoad_b12_body F _ (nI (2 ^ vl m 27 0)) mem = _
  unfold f11_layLoad_b12_body
  rw [show g_ck (0 : Int32) 23 = g_ck (nI 0) 23 from rfl, g_ckN (by omega) (by omega), show (0 : Int32).toNatClampNeg = 0 from rfl, x3 27 0 (by omega), vN, sh1 bN, if_neg (fun z => Nat.lt_irrefl _ ((g_ltN (by omega) (by omega)).mp z))]
end L
