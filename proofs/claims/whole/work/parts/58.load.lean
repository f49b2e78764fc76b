/-! the best load: sets of sendings -/
section L
def sm (g : Nat → Nat) (A : Nat → Bool) : Nat → Nat
  | 0 => 0
  | n + 1 => sm g A n + (if A n = true then g n else 0)
theorem sm_congr {g : Nat → Nat} {A B : Nat → Bool} {n : Nat} (h : ∀ i, i < n → A i = B i) : sm g A n = sm g B n := by
  induction n with
  | zero => rfl
  | succ n ih =>
    show sm g A n + _ = sm g B n + _
    rw [ih (fun i hi => h i (by omega)), h n (by omega)]
theorem sm_add {g : Nat → Nat} {A : Nat → Bool} {e : Nat} (hA : A e = false) : ∀ n, e < n → sm g (fun i => A i || decide (i = e)) n = sm g A n + g e := by
  intro n
  induction n with
  | zero => intro h; exact absurd h (Nat.not_lt_zero e)
  | succ n ih =>
    intro h
    show sm g (fun i => A i || decide (i = e)) n + (if (A n || decide (n = e)) = true then g n else 0) = sm g A n + (if A n = true then g n else 0) + g e
    by_cases z : e = n
    · subst z
      rw [sm_congr (B := A) (fun i hi => by have : ¬ i = e := by omega
                                            simp [this])]
      simp [hA]
    · have : ¬ n = e := fun y => z y.symm
      rw [ih (by omega)]
      simp only [this, decide_false, Bool.or_false]
      omega
theorem sm_le {g : Nat → Nat} {A : Nat → Bool} {b n : Nat} (h : ∀ i, i < n → g i ≤ b) : sm g A n ≤ n * b := by
  induction n with
  | zero => exact Nat.zero_le _
  | succ n ih =>
    have h1 := ih (fun i hi => h i (by omega))
    have h2 := h n (by omega)
    show sm g A n + (if A n = true then g n else 0) ≤ (n + 1) * b
    rw [Nat.succ_mul]
    split <;> omega
def p2 (i : Nat) : Nat := 2 ^ i
theorem num_lt (A : Nat → Bool) (n : Nat) : sm p2 A n < 2 ^ n := by
  induction n with
  | zero => exact Nat.one_pos
  | succ n ih =>
    show sm p2 A n + (if A n = true then 2 ^ n else 0) < 2 ^ (n + 1)
    rw [Nat.pow_succ]
    split <;> omega
theorem num_bit (A : Nat → Bool) : ∀ n i, i < n → (sm p2 A n).testBit i = A i := by
  intro n
  induction n with
  | zero => intro i h; exact absurd h (Nat.not_lt_zero i)
  | succ n ih =>
    intro i hi
    show (sm p2 A n + (if A n = true then 2 ^ n else 0)).testBit i = A i
    have hl := num_lt A n
    by_cases z : i = n
    · subst z
      cases hA : A i with
      | true => rw [if_pos rfl, Nat.add_comm, Nat.testBit_two_pow_add_eq, Nat.testBit_lt_two_pow hl]; rfl
      | false => rw [if_neg ft, Nat.add_zero, Nat.testBit_lt_two_pow hl]
    · cases hA : A n with
      | true => rw [if_pos rfl, Nat.add_comm, Nat.testBit_two_pow_add_gt (by omega)]; exact ih i (by omega)
      | false => rw [if_neg ft, Nat.add_zero]; exact ih i (by omega)
theorem bit_num (v : Nat) (n : Nat) : sm p2 (fun i => v.testBit i) n = v % 2 ^ n := by
  apply Nat.eq_of_testBit_eq
  intro i
  rw [Nat.testBit_mod_two_pow]
  by_cases h : i < n
  · rw [num_bit _ n i h]; simp [h]
  · have h1 : sm p2 (fun i => v.testBit i) n < 2 ^ i := Nat.lt_of_lt_of_le (num_lt _ n) (Nat.pow_le_pow_right (by omega) (by omega))
    rw [Nat.testBit_lt_two_pow h1]; simp [h]
/-- those sets that may be loaded -/
def VD (cand : Nat → Bool) (part : Nat → Nat) (A : Nat → Bool) (n : Nat) : Prop := ∀ i, i < n → A i = true → cand i = true ∧ ∀ j, j < i → A j = true → ¬ part j = part i
def effP (cand : Nat → Bool) (part : Nat → Nat) (n : Nat) : Bool := cand n && !decide (fstP (fun e => cand e && decide (part e = part n)) n < n)
def dpI (cand : Nat → Bool) (part size rate : Nat → Nat) : Nat → Nat → Int
  | 0, _ => 0
  | n + 1, r => if effP cand part n = true ∧ size n ≤ r then max (dpI cand part size rate n r) (dpI cand part size rate n (r - size n) + (4096 * (rate n : Int) - (p2 n : Int))) else dpI cand part size rate n r
variable {cand : Nat → Bool} {part size rate : Nat → Nat}
theorem dp_mono (n r : Nat) : dpI cand part size rate n r ≤ dpI cand part size rate (n + 1) r := by
  show _ ≤ (if effP cand part n = true ∧ size n ≤ r then max (dpI cand part size rate n r) (dpI cand part size rate n (r - size n) + (4096 * (rate n : Int) - (p2 n : Int))) else dpI cand part size rate n r)
  split <;> omega
theorem dp_pos (n r : Nat) : 0 ≤ dpI cand part size rate n r := by
  induction n with
  | zero => exact Int.le_refl 0
  | succ n ih => exact Int.le_trans ih (dp_mono n r)
theorem dp_up {N : Nat} (hp : ∀ i j, i < N → j < N → part i = part j → size i = size j ∧ rate i = rate j) : ∀ n, n ≤ N → ∀ A r, VD cand part A n → sm size A n ≤ r → 4096 * (sm rate A n : Int) - (sm p2 A n : Int) ≤ dpI cand part size rate n r := by
  intro n
  induction n with
  | zero => intro _ A r _ _; exact Int.le_refl 0
  | succ n ih =>
    intro hn A r hV hs
    have hV' : VD cand part A n := fun i hi => hV i (by omega)
    have es : ∀ g : Nat → Nat, sm g A (n + 1) = sm g A n + (if A n = true then g n else 0) := fun g => rfl
    rw [es] at hs
    rw [es, es]
    by_cases hA : A n = true
    · rw [if_pos hA] at hs
      rw [if_pos hA, if_pos hA]
      obtain ⟨v1, v2⟩ := hV n (by omega) hA
      by_cases he : effP cand part n = true
      · have h1 := ih (by omega) A (r - size n) hV' (by omega)
        show _ ≤ (if effP cand part n = true ∧ size n ≤ r then max (dpI cand part size rate n r) (dpI cand part size rate n (r - size n) + (4096 * (rate n : Int) - (p2 n : Int))) else dpI cand part size rate n r)
        rw [if_pos ⟨he, by omega⟩]
        omega
      · have hf : fstP (fun e => cand e && decide (part e = part n)) n < n := by
          unfold effP at he
          rw [v1] at he
          simpa using he
        have hy := fstP_yes _ _ hf
        generalize fstP (fun e => cand e && decide (part e = part n)) n = e at *
        simp only [Bool.and_eq_true, decide_eq_true_eq] at hy
        obtain ⟨y1, y2⟩ := hy
        have hAe : A e = false := by
          cases h : A e with
          | false => rfl
          | true => exact absurd y2 (v2 e hf h)
        obtain ⟨s1, s2⟩ := hp e n (by omega) (by omega) y2
        have hV2 : VD cand part (fun i => A i || decide (i = e)) n := by
          intro i hi hAi
          simp only [Bool.or_eq_true, decide_eq_true_eq] at hAi
          by_cases z : i = e
          · subst z
            refine ⟨y1, fun j hj hAj => ?_⟩
            simp only [Bool.or_eq_true, decide_eq_true_eq] at hAj
            rcases hAj with w | w
            · rw [y2]; exact v2 j (by omega) w
            · omega
          · have hi' : A i = true := hAi.resolve_right z
            refine ⟨(hV i (by omega) hi').1, fun j hj hAj => ?_⟩
            simp only [Bool.or_eq_true, decide_eq_true_eq] at hAj
            rcases hAj with w | w
            · exact (hV i (by omega) hi').2 j hj w
            · subst w
              rw [y2]
              exact fun q => v2 i hi hi' q.symm
        have h1 := ih (by omega) _ r hV2 (by rw [sm_add hAe n hf]; omega)
        rw [sm_add hAe n hf, sm_add hAe n hf] at h1
        have h2 := dp_mono (cand := cand) (part := part) (size := size) (rate := rate) n r
        have h3 : p2 e ≤ p2 n := Nat.pow_le_pow_right (by omega) (by omega)
        omega
    · rw [if_neg hA] at hs
      rw [if_neg hA, if_neg hA]
      have h1 := ih (by omega) A r hV' (by omega)
      have h2 := dp_mono (cand := cand) (part := part) (size := size) (rate := rate) n r
      omega
theorem dp_at : ∀ n r, ∃ A, VD cand part A n ∧ sm size A n ≤ r ∧ dpI cand part size rate n r = 4096 * (sm rate A n : Int) - (sm p2 A n : Int) := by
  intro n
  induction n with
  | zero => intro r; exact ⟨fun _ => false, fun i h => absurd h (Nat.not_lt_zero i), Nat.zero_le r, rfl⟩
  | succ n ih =>
    intro r
    have es : ∀ (g : Nat → Nat) (A : Nat → Bool), sm g A (n + 1) = sm g A n + (if A n = true then g n else 0) := fun g A => rfl
    have old : ∃ A, VD cand part A (n + 1) ∧ sm size A (n + 1) ≤ r ∧ dpI cand part size rate n r = 4096 * (sm rate A (n + 1) : Int) - (sm p2 A (n + 1) : Int) := by
      obtain ⟨A, h1, h2, h3⟩ := ih r
      have hc : ∀ i, i < n → (fun i => decide (i < n) && A i) i = A i := fun i hi => by simp [hi]
      have hn : ¬ (fun i => decide (i < n) && A i) n = true := by simp
      refine ⟨fun i => decide (i < n) && A i, fun i hi hA => ?_, ?_, ?_⟩
      · simp only [Bool.and_eq_true, decide_eq_true_eq] at hA
        refine ⟨(h1 i hA.1 hA.2).1, fun j hj hAj => ?_⟩
        simp only [Bool.and_eq_true, decide_eq_true_eq] at hAj
        exact (h1 i hA.1 hA.2).2 j hj hAj.2
      · rw [es, sm_congr hc, if_neg hn]; omega
      · rw [es, es, sm_congr hc, sm_congr hc, if_neg hn, if_neg hn]; exact h3
    show ∃ A, VD cand part A (n + 1) ∧ sm size A (n + 1) ≤ r ∧ (if effP cand part n = true ∧ size n ≤ r then max (dpI cand part size rate n r) (dpI cand part size rate n (r - size n) + (4096 * (rate n : Int) - (p2 n : Int))) else dpI cand part size rate n r) = _
    by_cases he : effP cand part n = true ∧ size n ≤ r
    · rw [if_pos he]
      by_cases hm : dpI cand part size rate n (r - size n) + (4096 * (rate n : Int) - (p2 n : Int)) ≤ dpI cand part size rate n r
      · rw [Int.max_eq_left hm]; exact old
      · rw [Int.max_eq_right (by omega)]
        obtain ⟨A, h1, h2, h3⟩ := ih (r - size n)
        have hc : ∀ i, i < n → (fun i => decide (i < n) && A i || decide (i = n)) i = A i := fun i hi => by
          have : ¬ i = n := by omega
          simp [hi, this]
        have hn : (fun i => decide (i < n) && A i || decide (i = n)) n = true := by simp
        have hcand : cand n = true ∧ ∀ e, e < n → cand e = true → ¬ part e = part n := by
          have h4 := he.1
          unfold effP at h4
          simp only [Bool.and_eq_true, Bool.not_eq_true', decide_eq_false_iff_not] at h4
          refine ⟨h4.1, fun e hn hce hpe => ?_⟩
          have hle := fstP_le (fun e => cand e && decide (part e = part n)) n
          have := fstP_no (fun e => cand e && decide (part e = part n)) n e (by omega)
          simp [hce, hpe] at this
        refine ⟨fun i => decide (i < n) && A i || decide (i = n), fun i hi hA => ?_, ?_, ?_⟩
        · by_cases z : i = n
          · subst z
            refine ⟨hcand.1, fun j hj hAj => ?_⟩
            rw [hc j hj] at hAj
            exact hcand.2 j hj (h1 j hj hAj).1
          · have hi' : i < n := by omega
            rw [hc i hi'] at hA
            refine ⟨(h1 i hi' hA).1, fun j hj hAj => ?_⟩
            rw [hc j (by omega)] at hAj
            exact (h1 i hi' hA).2 j hj hAj
        · rw [es, sm_congr hc, if_pos hn]; omega
        · rw [es, es, sm_congr hc, sm_congr hc, if_pos hn, if_pos hn, h3]
          omega
    · rw [if_neg he]; exact old
/-- the least of the best sets -/
def BST (cand : Nat → Bool) (part size rate : Nat → Nat) (N room k best R : Nat) : Prop :=
  (∃ A, VD cand part A N ∧ sm size A N ≤ room ∧ sm p2 A N = best ∧ sm rate A N = R) ∧ ∀ v, v < k → VD cand part (fun i => v.testBit i) N → sm size (fun i => v.testBit i) N ≤ room → sm rate (fun i => v.testBit i) N ≤ R ∧ (sm rate (fun i => v.testBit i) N = R → best ≤ v)
theorem BST_0 {N room : Nat} : BST cand part size rate N room 0 0 0 := by
  have z : ∀ (g : Nat → Nat) n, sm g (fun _ => false) n = 0 := by
    intro g n
    induction n with
    | zero => rfl
    | succ n ih => show sm g (fun _ => false) n + _ = 0; rw [ih, if_neg ft]
  exact ⟨⟨fun _ => false, fun i _ h => absurd h ft, by rw [z]; omega, z _ _, z _ _⟩, fun v h => absurd h (Nat.not_lt_zero v)⟩
theorem BST_no {N room k best R : Nat} (h : BST cand part size rate N room k best R) (hk : best ≤ k) (hn : VD cand part (fun i => k.testBit i) N → sm size (fun i => k.testBit i) N ≤ room → sm rate (fun i => k.testBit i) N ≤ R) : BST cand part size rate N room (k + 1) best R := by
  refine ⟨h.1, fun v hv h1 h2 => ?_⟩
  by_cases z : v = k
  · subst z; exact ⟨hn h1 h2, fun _ => hk⟩
  · exact h.2 v (by omega) h1 h2
theorem BST_yes {N room k best R : Nat} (h : BST cand part size rate N room k best R) (hk : k < 2 ^ N) (h1 : VD cand part (fun i => k.testBit i) N) (h2 : sm size (fun i => k.testBit i) N ≤ room) (h3 : R < sm rate (fun i => k.testBit i) N) : BST cand part size rate N room (k + 1) k (sm rate (fun i => k.testBit i) N) := by
  refine ⟨⟨fun i => k.testBit i, h1, h2, by rw [bit_num, Nat.mod_eq_of_lt hk], rfl⟩, fun v hv w1 w2 => ?_⟩
  by_cases z : v = k
  · subst z; exact ⟨Nat.le_refl _, fun _ => Nat.le_refl _⟩
  · have := (h.2 v (by omega) w1 w2).1
    exact ⟨by omega, fun y => by omega⟩
theorem BST_dp {N room best R : Nat} (hN : N ≤ 12) (hp : ∀ i j, i < N → j < N → part i = part j → size i = size j ∧ rate i = rate j) (h : BST cand part size rate N room (2 ^ N) best R) : dpI cand part size rate N room = 4096 * (R : Int) - (best : Int) ∧ best < 4096 := by
  obtain ⟨⟨A, a1, a2, a3, a4⟩, hv⟩ := h
  have u := dp_up hp N (Nat.le_refl N) A room a1 a2
  obtain ⟨B, b1, b2, b3⟩ := dp_at (cand := cand) (part := part) (size := size) (rate := rate) N room
  have hb := num_bit B N
  have hl := num_lt B N
  have hl2 := num_lt A N
  have hc : ∀ (g : Nat → Nat), sm g (fun i => (sm p2 B N).testBit i) N = sm g B N := fun g => sm_congr (fun i hi => hb i hi)
  have hVB : VD cand part (fun i => (sm p2 B N).testBit i) N := by
    intro i hi hA
    replace hA : (sm p2 B N).testBit i = true := hA
    rw [hb i hi] at hA
    refine ⟨(b1 i hi hA).1, fun j hj hAj => ?_⟩
    replace hAj : (sm p2 B N).testBit j = true := hAj
    rw [hb j (by omega)] at hAj
    exact (b1 i hi hA).2 j hj hAj
  have w := hv (sm p2 B N) hl hVB (by rw [hc]; exact b2)
  rw [hc] at w
  have hpow : 2 ^ N ≤ 2 ^ 12 := Nat.pow_le_pow_right (by omega) hN
  have h12 : (2 : Nat) ^ 12 = 4096 := by decide
  rw [a3, a4] at u
  have hbest : best < 4096 := by omega
  refine ⟨?_, hbest⟩
  rw [b3] at u ⊢
  rcases Nat.lt_or_ge (sm rate B N) R with y | y
  · omega
  · have e : sm rate B N = R := by omega
    have := w.2 e
    rw [e] at u ⊢
    omega
end L
