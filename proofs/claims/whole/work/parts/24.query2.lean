/-! more queries -/
def sumN (g : Nat → Nat) : Nat → Nat
  | 0 => 0
  | n + 1 => sumN g n + g n
theorem sumN_le (g : Nat → Nat) (b : Nat) (n : Nat) (h : ∀ i, i < n → g i ≤ b) : sumN g n ≤ n * b := by
  induction n with
  | zero => simp [sumN]
  | succ n ih =>
    have h1 := ih (fun i hi => h i (by omega))
    have h2 := h n (by omega)
    unfold sumN
    rw [Nat.succ_mul]
    omega
/-- the first place with a property, or n -/
def fstP (P : Nat → Bool) : Nat → Nat
  | 0 => 0
  | n + 1 => if fstP P n < n then fstP P n else if P n = true then n else n + 1
theorem fstP_le (P : Nat → Bool) (n : Nat) : fstP P n ≤ n := by
  induction n with
  | zero => exact Nat.le_refl 0
  | succ n ih =>
    unfold fstP
    split
    · omega
    · split <;> omega
theorem fstP_no (P : Nat → Bool) (n : Nat) : ∀ i, i < fstP P n → P i = false := by
  induction n with
  | zero => intro i hi; simp [fstP] at hi
  | succ n ih =>
    intro i hi
    have hle := fstP_le P n
    unfold fstP at hi
    split at hi
    · exact ih i hi
    · split at hi
      · exact ih i (by omega)
      · by_cases h : i = n
        · subst h; simpa using (by assumption : ¬ P i = true)
        · exact ih i (by omega)
theorem fstP_yes (P : Nat → Bool) (n : Nat) (h : fstP P n < n) : P (fstP P n) = true := by
  induction n with
  | zero => omega
  | succ n ih =>
    unfold fstP at h ⊢
    split
    · exact ih (by assumption)
    · split
      · assumption
      · rw [if_neg (by assumption), if_neg (by assumption)] at h; omega
theorem fstP_all (P : Nat → Bool) (n : Nat) (h : ∀ i, i < n → P i = false) : fstP P n = n := by
  have h1 := fstP_le P n
  rcases Nat.lt_or_ge (fstP P n) n with h2 | h2
  · have := fstP_yes P n h2
    rw [h _ h2] at this
    cases this
  · omega
theorem fstP_eq (P : Nat → Bool) (n k : Nat) (hk : k < n) (h1 : P k = true) (h2 : ∀ i, i < k → P i = false) : fstP P n = k := by
  rcases Nat.lt_trichotomy (fstP P n) k with h | h | h
  · have := fstP_yes P n (by omega)
    rw [h2 _ h] at this; cases this
  · exact h
  · have := fstP_no P n k h
    rw [h1] at this; cases this
def lstP (P : Nat → Bool) : Nat → Int32
  | 0 => -1
  | n + 1 => if P n = true then nI n else lstP P n
theorem lst_none (P : Nat → Bool) (n : Nat) (h : ∀ i, i < n → P i = false) : lstP P n = -1 := by
  induction n with
  | zero => rfl
  | succ n ih => unfold lstP; rw [if_neg (by rw [h n (by omega)]; decide)]; exact ih (fun i hi => h i (by omega))
theorem lst_one (P : Nat → Bool) (n k : Nat) (hk : k < n) (h1 : P k = true) (h2 : ∀ i, i < n → P i = true → i = k) : lstP P n = nI k := by
  induction n with
  | zero => omega
  | succ n ih =>
    unfold lstP
    by_cases h : P n = true
    · rw [if_pos h, h2 n (by omega) h]
    · rw [if_neg h]
      have : k ≠ n := fun e => h (e ▸ h1)
      exact ih (by omega) (fun i hi => h2 i (by omega))
theorem fst_lst (P : Nat → Bool) (n : Nat) (hu : ∀ i j, i < n → j < n → P i = true → P j = true → i = j) : (if fstP P n < n then nI (fstP P n) else (-1 : Int32)) = lstP P n := by
  by_cases h : fstP P n < n
  · rw [if_pos h, lst_one P n _ h (fstP_yes P n h) (fun i hi h1 => hu i _ hi h h1 (fstP_yes P n h))]
  · rw [if_neg h, lst_none P n (fun i hi => fstP_no P n i (by omega))]
/-- a search: it ends at the first place -/
theorem g_search {β : Type} {b : (Int32 → Option β) → Int32 → Option β} (P : Nat → Bool) (N : Nat) (hs : ∀ i, i < N → P i = false → ∀ sf, b sf (nI i) = sf (nI (i + 1))) {F : Nat} (hF : N < F) {r : Option β} (hr : ∀ sf, b sf (nI (fstP P N)) = r) : g_fix b F (nI 0) = r := by
  have hle := fstP_le P N
  exact g_for (fun i => nI i) (fstP P N) (fun i hi sf => hs i (by omega) (fstP_no P N i hi) sf) (by omega) hr
/-! bits of at most five places -/
def fb (b0 b1 b2 b3 b4 : Bool) : Nat → Bool := fun i => if i = 0 then b0 else if i = 1 then b1 else if i = 2 then b2 else if i = 3 then b3 else b4
theorem fb_at (P : Nat → Bool) {n : Nat} (hn : n ≤ 5) : ∀ i, i < n → P i = fb (P 0) (P 1) (P 2) (P 3) (P 4) i := by
  intro i hi
  rcases (show i = 0 ∨ i = 1 ∨ i = 2 ∨ i = 3 ∨ i = 4 by omega) with rfl | rfl | rfl | rfl | rfl <;> rfl
theorem bits_nat (P : Nat → Bool) {n : Nat} (hn : n ≤ 5) : ∃ k, k < 32 ∧ bitsP P n = nI k := by
  have key : ∀ b0 b1 b2 b3 b4 : Bool, ∀ n, n ≤ 5 → ∃ k, k < 32 ∧ bitsP (fb b0 b1 b2 b3 b4) n = nI k := by decide +kernel
  rw [bitsP_congr (fb_at P hn)]
  exact key _ _ _ _ _ n hn
theorem bits_zero (P : Nat → Bool) {n : Nat} (hn : n ≤ 5) : bitsP P n = nI 0 ↔ ∀ s, s < n → P s = false := by
  have key : ∀ b0 b1 b2 b3 b4 : Bool, ∀ n, n ≤ 5 → (bitsP (fb b0 b1 b2 b3 b4) n = nI 0 ↔ ∀ s, s < n → fb b0 b1 b2 b3 b4 s = false) := by decide +kernel
  rw [bitsP_congr (fb_at P hn), key _ _ _ _ _ n hn]
  constructor
  · intro h s hs; rw [fb_at P hn s hs]; exact h s hs
  · intro h s hs; rw [← fb_at P hn s hs]; exact h s hs
theorem bits_test (P : Nat → Bool) {n s : Nat} (hn : n ≤ 5) (hs : s < n) : ((bitsP P n >>> (nI s &&& 31)) &&& nI 1) = (if P s = true then nI 1 else nI 0) := by
  have key : ∀ b0 b1 b2 b3 b4 : Bool, ∀ n, n ≤ 5 → ∀ s, s < n → ((bitsP (fb b0 b1 b2 b3 b4) n >>> (nI s &&& 31)) &&& nI 1) = (if fb b0 b1 b2 b3 b4 s = true then nI 1 else nI 0) := by decide +kernel
  rw [bitsP_congr (fb_at P hn), key _ _ _ _ _ n hn s hs, ← fb_at P hn s hs]
def bitK (k : Int32) (s : Nat) : Bool := decide (((k >>> (nI s &&& 31)) &&& nI 1) = nI 1)
theorem bitK_01 {k s : Nat} (hk : k < 32) (hs : s < 5) : ((nI k >>> (nI s &&& 31)) &&& nI 1) = nI 0 ↔ bitK (nI k) s = false := by
  have key : ∀ k, k < 32 → ∀ s, s < 5 → (((nI k >>> (nI s &&& 31)) &&& nI 1) = nI 0 ↔ bitK (nI k) s = false) := by decide +kernel
  exact key k hk s hs
set_option maxRecDepth 100000 in
theorem bits_and (P : Nat → Bool) {n k : Nat} (hn : n ≤ 5) (hk : k < 32) : nI k &&& bitsP P n = bitsP (fun s => bitK (nI k) s && P s) n := by
  have key : ∀ k, k < 32 → ∀ b0 b1 b2 b3 b4 : Bool, ∀ n, n ≤ 5 → nI k &&& bitsP (fb b0 b1 b2 b3 b4) n = bitsP (fun s => bitK (nI k) s && fb b0 b1 b2 b3 b4 s) n := by decide +kernel
  rw [bitsP_congr (fb_at P hn), key k hk _ _ _ _ _ n hn]
  exact bitsP_congr (fun i hi => by rw [← fb_at P hn i hi])
theorem bits_and2 (P Q : Nat → Bool) {n : Nat} (hn : n ≤ 5) : bitsP P n &&& bitsP Q n = bitsP (fun s => P s && Q s) n := by
  obtain ⟨k, hk, e⟩ := bits_nat P hn
  rw [e, bits_and Q hn hk, ← e]
  refine bitsP_congr (fun i hi => ?_)
  have h1 := bits_test P hn hi
  have h2 : bitK (bitsP P n) i = P i := by
    unfold bitK
    rw [h1]
    cases P i <;> decide
  rw [h2]
section Q2
variable {F : Nat} {c m : g_M} {T t f : Nat}
def canP (m : g_M) (f p d : Nat) (o : Int32) (s : Nat) : Bool := bitK (m.1 9 d) s && !decide (m.1 30 (25 * f + (5 * p + s)) = o)
theorem r_canDo (hF : 5000 < F) (hW : WT m) (hf : f < 23) {p d : Nat} (hp : p < vl m 2 0) (hd : d < vl m 2 2) (o : Int32) : f11_canDo F (nI f) (nI p) (nI d) o m = some (if fstP (canP m f p d o) (vl m 2 1) < vl m 2 1 then nI 0 else nI 1) := by
  obtain ⟨⟨⟨vP, bP⟩, ⟨vS, bS⟩, ⟨vD, bD⟩, ⟨vN, bN⟩, ⟨vW, bW⟩, ⟨vRoom, bRoom⟩, bRoom1, ⟨vStorm, bStorm⟩, ⟨vSeed, bSeed⟩, ⟨vK, bK⟩⟩, wPence, wSort, wDeed, wSend, wWant, wLaw⟩ := id hW
  unfold f11_canDo f11_canDo_b3
  refine g_search (canP m f p d o) (vl m 2 1) (fun i hi hP sf => ?_) (by omega) (fun sf => ?_)
  · unfold canP bitK at hP
    simp (disch := omega) only [g_let, g_bs, g_l0, g_l1, g_l2, g_l3, g_l4, g_l5, g_l6, g_l7, g_l8, g_l9, g_l10, g_l11, g_l12, g_l15, g_l20, g_l24, g_l25, g_l30, g_l40, g_l99, g_l100, g_ckN, g_clN, g_ltN, g_leN, g_eqN, pk_mul, nI_add, if_true, if_false, Nat.reduceLT, Nat.reduceLeDiff, Nat.reduceEqDiff, Nat.lt_irrefl, f11_canDo_b3_body, f11_canDo_b52, vS, hi, Nat.add_assoc]
    simp only [Bool.and_eq_false_iff, decide_eq_false_iff_not, Bool.not_eq_false', decide_eq_true_eq] at hP
    rcases hP with h | h
    · rw [if_neg h]
    · rw [if_pos h]; split <;> rfl
  · by_cases h : fstP (canP m f p d o) (vl m 2 1) < vl m 2 1
    · have h1 := fstP_yes _ _ h
      have hle := fstP_le (canP m f p d o) (vl m 2 1)
      rw [if_pos h]
      generalize fstP (canP m f p d o) (vl m 2 1) = i at h h1 hle ⊢
      unfold canP bitK at h1
      simp (disch := omega) only [g_let, g_bs, g_l0, g_l1, g_l2, g_l3, g_l4, g_l5, g_l6, g_l7, g_l8, g_l9, g_l10, g_l11, g_l12, g_l15, g_l20, g_l24, g_l25, g_l30, g_l40, g_l99, g_l100, g_ckN, g_clN, g_ltN, g_leN, g_eqN, pk_mul, nI_add, if_true, if_false, Nat.reduceLT, Nat.reduceLeDiff, Nat.reduceEqDiff, Nat.lt_irrefl, f11_canDo_b3_body, f11_canDo_b52, vS, h, Nat.add_assoc]
      simp only [Bool.and_eq_true, decide_eq_true_eq, Bool.not_eq_true', decide_eq_false_iff_not] at h1
      rw [if_pos h1.1, if_neg h1.2]
    · have hle := fstP_le (canP m f p d o) (vl m 2 1)
      have h2 : fstP (canP m f p d o) (vl m 2 1) = vl m 2 1 := by omega
      rw [if_neg h, h2]
      simp (disch := omega) only [g_let, g_bs, g_l0, g_l1, g_l2, g_l3, g_l4, g_l5, g_l6, g_l7, g_l8, g_l9, g_l10, g_l11, g_l12, g_l15, g_l20, g_l24, g_l25, g_l30, g_l40, g_l99, g_l100, g_ckN, g_clN, g_ltN, g_leN, g_eqN, pk_mul, nI_add, if_true, if_false, Nat.reduceLT, Nat.reduceLeDiff, Nat.reduceEqDiff, Nat.lt_irrefl, f11_canDo_b3_body, vS, Nat.lt_irrefl]
theorem r_needsOf (hF : 5000 < F) (hW : WT m) {p d : Nat} (hp : p < vl m 2 0) (hd : d < vl m 2 2) (o : Int32) : f11_needsOf F (nI p) (nI d) o m = some (bitsP (canP m 0 p d o) (vl m 2 1)) := by
  obtain ⟨⟨⟨vP, bP⟩, ⟨vS, bS⟩, ⟨vD, bD⟩, ⟨vN, bN⟩, ⟨vW, bW⟩, ⟨vRoom, bRoom⟩, bRoom1, ⟨vStorm, bStorm⟩, ⟨vSeed, bSeed⟩, ⟨vK, bK⟩⟩, wPence, wSort, wDeed, wSend, wWant, wLaw⟩ := id hW
  unfold f11_needsOf f11_needsOf_b6
  refine g_for (fun i => (bitsP (canP m 0 p d o) i, nI i)) (vl m 2 1) (fun i hi sf => ?_) (by omega) (fun sf => ?_)
  · have e : 25 * 0 + (5 * p + i) = 5 * p + i := by omega
    simp (disch := omega) only [g_let, g_bs, g_l0, g_l1, g_l2, g_l3, g_l4, g_l5, g_l6, g_l7, g_l8, g_l9, g_l10, g_l11, g_l12, g_l15, g_l20, g_l24, g_l25, g_l30, g_l40, g_l99, g_l100, g_ckN, g_clN, g_ltN, g_leN, g_eqN, pk_mul, nI_add, if_true, if_false, Nat.reduceLT, Nat.reduceLeDiff, Nat.reduceEqDiff, Nat.lt_irrefl, f11_needsOf_b6_body, f11_needsOf_b57, f11_needsOf_b56, vS, hi, bitsP]
    unfold canP bitK
    rw [e]
    by_cases a : ((m.1 9 d >>> (nI i &&& 31)) &&& nI 1) = nI 1
    · by_cases b : m.1 30 (5 * p + i) = o
      · simp only [a, b, if_true, decide_true, Bool.not_true, Bool.and_false, if_false, Bool.false_eq_true]
        congr 2
        simp [nI_0]
      · simp only [a, b, if_true, if_false, decide_true, decide_false, Bool.not_false, Bool.and_true]
    · simp only [a, if_false, decide_false, Bool.false_and, Bool.false_eq_true]
      congr 2
      simp [nI_0]
  · simp (disch := omega) only [g_let, g_bs, g_l0, g_l1, g_l2, g_l3, g_l4, g_l5, g_l6, g_l7, g_l8, g_l9, g_l10, g_l11, g_l12, g_l15, g_l20, g_l24, g_l25, g_l30, g_l40, g_l99, g_l100, g_ckN, g_clN, g_ltN, g_leN, g_eqN, pk_mul, nI_add, if_true, if_false, Nat.reduceLT, Nat.reduceLeDiff, Nat.reduceEqDiff, Nat.lt_irrefl, f11_needsOf_b6_body, vS, Nat.lt_irrefl]
theorem port01 (hWS : WS m f) {p s : Nat} (hp : p < 5) (hs : s < 5) {o : Nat} (ho : o < 2) : m.1 30 (25 * f + (5 * p + s)) = (1 : Int32) - nI o ↔ ¬ m.1 30 (25 * f + (5 * p + s)) = nI o := by
  obtain ⟨⟨⟨vDay, bDay⟩, ⟨vLast, bLast⟩, ⟨vSends, bSends⟩⟩, sPence, sHL, sPerm1, sPerm2, sSend, sWant, sOwn⟩ := id hWS
  have h1 := (sHL (5 * p + s) (by omega)).2
  have h2 := h1.2
  rw [h1.1]
  rcases (show o = 0 ∨ o = 1 by omega) with rfl | rfl <;> rcases (show vl m 30 (25 * f + (5 * p + s)) = 0 ∨ vl m 30 (25 * f + (5 * p + s)) = 1 by omega) with h3 | h3 <;> rw [h3] <;> decide
theorem lacks_eq (hW : WT m) (hWS : WS m f) {p d o : Nat} (hp : p < vl m 2 0) (hd : d < vl m 2 2) (ho : o < 2) : m.1 9 d &&& bitsP (fun s => decide (m.1 30 (25 * f + (5 * p + s)) = (1 : Int32) - nI o)) (vl m 2 1) = bitsP (canP m f p d (nI o)) (vl m 2 1) := by
  obtain ⟨⟨⟨vP, bP⟩, ⟨vS, bS⟩, ⟨vD, bD⟩, ⟨vN, bN⟩, ⟨vW, bW⟩, ⟨vRoom, bRoom⟩, bRoom1, ⟨vStorm, bStorm⟩, ⟨vSeed, bSeed⟩, ⟨vK, bK⟩⟩, wPence, wSort, wDeed, wSend, wWant, wLaw⟩ := id hW
  have h1 := wDeed d hd
  have h2 := h1.2
  rw [h1.1, bits_and _ bS (by omega), ← h1.1]
  refine bitsP_congr (fun i hi => ?_)
  unfold canP
  have h3 := port01 hWS (p := p) (s := i) (by omega) (by omega) ho
  by_cases a : m.1 30 (25 * f + (5 * p + i)) = nI o
  · simp [a] at h3 ⊢
    simp [h3]
  · simp [a] at h3 ⊢
    simp [h3]
theorem q_lacks2 (hF : 5000 < F) (h : TS c m T t f) {p d o : Nat} (hp : p < vl m 2 0) (hd : d < vl m 2 2) (ho : o < 2) : f7_lacks F t (nI p) (nI d) (nI o) c = some (bitsP (canP m f p d (nI o)) (vl m 2 1)) := by
  rw [q_lacks hF h hp hd, lacks_eq h.2.2.2.2.1 h.2.2.2.2.2.2.1 hp hd ho]
theorem can_iff (hW : WT m) {p d : Nat} (o : Int32) : bitsP (canP m f p d o) (vl m 2 1) = nI 0 ↔ ¬ fstP (canP m f p d o) (vl m 2 1) < vl m 2 1 := by
  obtain ⟨⟨⟨vP, bP⟩, ⟨vS, bS⟩, ⟨vD, bD⟩, ⟨vN, bN⟩, ⟨vW, bW⟩, ⟨vRoom, bRoom⟩, bRoom1, ⟨vStorm, bStorm⟩, ⟨vSeed, bSeed⟩, ⟨vK, bK⟩⟩, wPence, wSort, wDeed, wSend, wWant, wLaw⟩ := id hW
  rw [bits_zero _ bS]
  constructor
  · intro h1 h2
    have := fstP_yes _ _ h2
    rw [h1 _ h2] at this; cases this
  · intro h1 s hs
    exact fstP_no _ (vl m 2 1) s (by omega)
theorem q_find (hF : 5000 < F) (h : TS c m T t f) {k : Nat} (hk : k < 3) (v : Int32) : f9_find F T (nI k) v c = some (if fstP (fun i => decide (c.1 (T + 2) (5 * k + i) = v)) (vl m 2 k) < vl m 2 k then nI (fstP (fun i => decide (c.1 (T + 2) (5 * k + i) = v)) (vl m 2 k)) else -1) := by
  obtain ⟨hT, ht, hf, hp0, hW, hR, hWS, hRS⟩ := id h
  obtain ⟨⟨⟨vP, bP⟩, ⟨vS, bS⟩, ⟨vD, bD⟩, ⟨vN, bN⟩, ⟨vW, bW⟩, ⟨vRoom, bRoom⟩, bRoom1, ⟨vStorm, bStorm⟩, ⟨vSeed, bSeed⟩, ⟨vK, bK⟩⟩, wPence, wSort, wDeed, wSend, wWant, wLaw⟩ := id hW
  obtain ⟨⟨⟨vDay, bDay⟩, ⟨vLast, bLast⟩, ⟨vSends, bSends⟩⟩, sPence, sHL, sPerm1, sPerm2, sSend, sWant, sOwn⟩ := id hWS
  obtain ⟨rCnt, rMan, rSort, rDeed, ⟨rT6, rT8, rT10, rT11, rT12, rT93⟩, rSent, rWanted, rLaw, rCode⟩ := id hR
  obtain ⟨⟨eDay, eLast, eStorms, eSends⟩, ePence, eHL, eSend, eWant⟩ := id hRS
  have e0 := rCnt 0 (by omega)
  have e1 := rCnt 1 (by omega)
  have e2 := rCnt 2 (by omega)
  have gd := fun {α : Type} {k : Nat → Option α} => g_drT (k := k) hp0 hT
  have hk2 : m.1 2 k = nI (vl m 2 k) ∧ vl m 2 k ≤ 5 := by
    rcases (show k = 0 ∨ k = 1 ∨ k = 2 by omega) with rfl | rfl | rfl
    · exact ⟨vP, bP⟩
    · exact ⟨vS, bS⟩
    · exact ⟨vD, bD⟩
  have e := rCnt k hk
  have hb := hk2.2
  have hle := fstP_le (fun i => decide (c.1 (T + 2) (5 * k + i) = v)) (vl m 2 k)
  unfold f9_find f9_find_b2
  refine g_search (fun i => decide (c.1 (T + 2) (5 * k + i) = v)) (vl m 2 k) (fun i hi hP sf => ?_) (by omega) (fun sf => ?_)
  · have hP : ¬ c.1 (T + 2) (5 * k + i) = v := by simpa using hP
    simp (disch := omega) only [g_let, g_bs, g_l0, g_l1, g_l2, g_l3, g_l4, g_l5, g_l6, g_l7, g_l8, g_l9, g_l10, g_l11, g_l12, g_l15, g_l20, g_l24, g_l25, g_l30, g_l40, g_l99, g_l100, g_ckN, g_clN, g_ltN, g_leN, g_eqN, pk_mul, nI_add, if_true, if_false, Nat.reduceLT, Nat.reduceLeDiff, Nat.reduceEqDiff, Nat.lt_irrefl, f9_find_b2_body, e, hk2.1, hi, Nat.mul_comm k 5, hP]
  · by_cases h : fstP (fun i => decide (c.1 (T + 2) (5 * k + i) = v)) (vl m 2 k) < vl m 2 k
    · have h1 := fstP_yes _ _ h
      rw [if_pos h]
      generalize fstP (fun i => decide (c.1 (T + 2) (5 * k + i) = v)) (vl m 2 k) = i at h h1 hle ⊢
      have h1 : c.1 (T + 2) (5 * k + i) = v := by simpa using h1
      simp (disch := omega) only [g_let, g_bs, g_l0, g_l1, g_l2, g_l3, g_l4, g_l5, g_l6, g_l7, g_l8, g_l9, g_l10, g_l11, g_l12, g_l15, g_l20, g_l24, g_l25, g_l30, g_l40, g_l99, g_l100, g_ckN, g_clN, g_ltN, g_leN, g_eqN, pk_mul, nI_add, if_true, if_false, Nat.reduceLT, Nat.reduceLeDiff, Nat.reduceEqDiff, Nat.lt_irrefl, f9_find_b2_body, e, hk2.1, h, Nat.mul_comm k 5, h1]
    · have h2 : fstP (fun i => decide (c.1 (T + 2) (5 * k + i) = v)) (vl m 2 k) = vl m 2 k := by omega
      rw [if_neg h, h2]
      simp (disch := omega) only [g_let, g_bs, g_l0, g_l1, g_l2, g_l3, g_l4, g_l5, g_l6, g_l7, g_l8, g_l9, g_l10, g_l11, g_l12, g_l15, g_l20, g_l24, g_l25, g_l30, g_l40, g_l99, g_l100, g_ckN, g_clN, g_ltN, g_leN, g_eqN, pk_mul, nI_add, if_true, if_false, Nat.reduceLT, Nat.reduceLeDiff, Nat.reduceEqDiff, Nat.lt_irrefl, f9_find_b2_body, e, hk2.1, Nat.lt_irrefl]
theorem r_found (hF : 5000 < F) {a o n L : Nat} (hL : (yM.1 a).2 = L) (hL2 : L < 1000) (hn : o + n ≤ L) (v : Int32) : f11_found F a (nI o) (nI n) v m = some (if fstP (fun i => decide (m.1 a (o + i) = v)) n < n then nI (fstP (fun i => decide (m.1 a (o + i) = v)) n) else -1) := by
  have hle := fstP_le (fun i => decide (m.1 a (o + i) = v)) n
  unfold f11_found f11_found_b3
  refine g_search (fun i => decide (m.1 a (o + i) = v)) n (fun i hi hP sf => ?_) (by omega) (fun sf => ?_)
  · have hP : ¬ m.1 a (o + i) = v := by simpa using hP
    simp (disch := omega) only [g_let, g_bs, g_l0, g_l1, g_l2, g_l3, g_l4, g_l5, g_l6, g_l7, g_l8, g_l9, g_l10, g_l11, g_l12, g_l15, g_l20, g_l24, g_l25, g_l30, g_l40, g_l99, g_l100, g_ckN, g_clN, g_ltN, g_leN, g_eqN, pk_mul, nI_add, if_true, if_false, Nat.reduceLT, Nat.reduceLeDiff, Nat.reduceEqDiff, Nat.lt_irrefl, f11_found_b3_body, hL, hi, hP]
  · by_cases h : fstP (fun i => decide (m.1 a (o + i) = v)) n < n
    · have h1 := fstP_yes _ _ h
      rw [if_pos h]
      generalize fstP (fun i => decide (m.1 a (o + i) = v)) n = i at h h1 hle ⊢
      have h1 : m.1 a (o + i) = v := by simpa using h1
      simp (disch := omega) only [g_let, g_bs, g_l0, g_l1, g_l2, g_l3, g_l4, g_l5, g_l6, g_l7, g_l8, g_l9, g_l10, g_l11, g_l12, g_l15, g_l20, g_l24, g_l25, g_l30, g_l40, g_l99, g_l100, g_ckN, g_clN, g_ltN, g_leN, g_eqN, pk_mul, nI_add, if_true, if_false, Nat.reduceLT, Nat.reduceLeDiff, Nat.reduceEqDiff, Nat.lt_irrefl, f11_found_b3_body, hL, h, h1]
    · have h2 : fstP (fun i => decide (m.1 a (o + i) = v)) n = n := by omega
      rw [if_neg h, h2]
      simp (disch := omega) only [g_let, g_bs, g_l0, g_l1, g_l2, g_l3, g_l4, g_l5, g_l6, g_l7, g_l8, g_l9, g_l10, g_l11, g_l12, g_l15, g_l20, g_l24, g_l25, g_l30, g_l40, g_l99, g_l100, g_ckN, g_clN, g_ltN, g_leN, g_eqN, pk_mul, nI_add, if_true, if_false, Nat.reduceLT, Nat.reduceLeDiff, Nat.reduceEqDiff, Nat.lt_irrefl, f11_found_b3_body, Nat.lt_irrefl]
theorem q_holderOf (hF : 5000 < F) (h : TS c m T t f) {s : Nat} (hs : s < vl m 2 1) (v : Int32) : f7_holderOf F t v (nI s) c = some (if fstP (fun p => decide (m.1 29 (25 * f + (5 * p + s)) = v)) (vl m 2 0) < vl m 2 0 then nI (fstP (fun p => decide (m.1 29 (25 * f + (5 * p + s)) = v)) (vl m 2 0)) else -1) := by
  obtain ⟨hT, ht, hf, hp0, hW, hR, hWS, hRS⟩ := id h
  obtain ⟨⟨⟨vP, bP⟩, ⟨vS, bS⟩, ⟨vD, bD⟩, ⟨vN, bN⟩, ⟨vW, bW⟩, ⟨vRoom, bRoom⟩, bRoom1, ⟨vStorm, bStorm⟩, ⟨vSeed, bSeed⟩, ⟨vK, bK⟩⟩, wPence, wSort, wDeed, wSend, wWant, wLaw⟩ := id hW
  obtain ⟨⟨⟨vDay, bDay⟩, ⟨vLast, bLast⟩, ⟨vSends, bSends⟩⟩, sPence, sHL, sPerm1, sPerm2, sSend, sWant, sOwn⟩ := id hWS
  obtain ⟨rCnt, rMan, rSort, rDeed, ⟨rT6, rT8, rT10, rT11, rT12, rT93⟩, rSent, rWanted, rLaw, rCode⟩ := id hR
  obtain ⟨⟨eDay, eLast, eStorms, eSends⟩, ePence, eHL, eSend, eWant⟩ := id hRS
  have e0 := rCnt 0 (by omega)
  have e1 := rCnt 1 (by omega)
  have e2 := rCnt 2 (by omega)
  have gd := fun {α : Type} {k : Nat → Option α} => g_drT (k := k) hp0 hT
  have hle := fstP_le (fun p => decide (m.1 29 (25 * f + (5 * p + s)) = v)) (vl m 2 0)
  unfold f7_holderOf f7_holderOf_b2
  refine g_search (fun p => decide (m.1 29 (25 * f + (5 * p + s)) = v)) (vl m 2 0) (fun i hi hP sf => ?_) (by omega) (fun sf => ?_)
  · have hP : ¬ m.1 29 (25 * f + (5 * i + s)) = v := by simpa using hP
    have h3 := (eHL (5 * i + s) (by omega)).1 (by omega)
    simp (disch := omega) only [g_let, g_bs, g_l0, g_l1, g_l2, g_l3, g_l4, g_l5, g_l6, g_l7, g_l8, g_l9, g_l10, g_l11, g_l12, g_l15, g_l20, g_l24, g_l25, g_l30, g_l40, g_l99, g_l100, g_ckN, g_clN, g_ltN, g_leN, g_eqN, pk_mul, nI_add, if_true, if_false, Nat.reduceLT, Nat.reduceLeDiff, Nat.reduceEqDiff, Nat.lt_irrefl, f7_holderOf_b2_body, gd, e0, vP, hi, Nat.mul_comm i 5, h3, hP]
  · by_cases h : fstP (fun p => decide (m.1 29 (25 * f + (5 * p + s)) = v)) (vl m 2 0) < vl m 2 0
    · have h1 := fstP_yes _ _ h
      rw [if_pos h]
      generalize fstP (fun p => decide (m.1 29 (25 * f + (5 * p + s)) = v)) (vl m 2 0) = i at h h1 hle ⊢
      have h1 : m.1 29 (25 * f + (5 * i + s)) = v := by simpa using h1
      have h3 := (eHL (5 * i + s) (by omega)).1 (by omega)
      simp (disch := omega) only [g_let, g_bs, g_l0, g_l1, g_l2, g_l3, g_l4, g_l5, g_l6, g_l7, g_l8, g_l9, g_l10, g_l11, g_l12, g_l15, g_l20, g_l24, g_l25, g_l30, g_l40, g_l99, g_l100, g_ckN, g_clN, g_ltN, g_leN, g_eqN, pk_mul, nI_add, if_true, if_false, Nat.reduceLT, Nat.reduceLeDiff, Nat.reduceEqDiff, Nat.lt_irrefl, f7_holderOf_b2_body, gd, e0, vP, h, Nat.mul_comm i 5, h3, h1]
    · have h2 : fstP (fun p => decide (m.1 29 (25 * f + (5 * p + s)) = v)) (vl m 2 0) = vl m 2 0 := by omega
      rw [if_neg h, h2]
      simp (disch := omega) only [g_let, g_bs, g_l0, g_l1, g_l2, g_l3, g_l4, g_l5, g_l6, g_l7, g_l8, g_l9, g_l10, g_l11, g_l12, g_l15, g_l20, g_l24, g_l25, g_l30, g_l40, g_l99, g_l100, g_ckN, g_clN, g_ltN, g_leN, g_eqN, pk_mul, nI_add, if_true, if_false, Nat.reduceLT, Nat.reduceLeDiff, Nat.reduceEqDiff, Nat.lt_irrefl, f7_holderOf_b2_body, gd, e0, vP, Nat.lt_irrefl]
theorem r_holderOf (hF : 5000 < F) (hW : WT m) {s : Nat} (hs : s < vl m 2 1) (v : Int32) : f11_holderOf F v (nI s) m = some (lstP (fun p => decide (m.1 29 (25 * 0 + (5 * p + s)) = v)) (vl m 2 0)) := by
  obtain ⟨⟨⟨vP, bP⟩, ⟨vS, bS⟩, ⟨vD, bD⟩, ⟨vN, bN⟩, ⟨vW, bW⟩, ⟨vRoom, bRoom⟩, bRoom1, ⟨vStorm, bStorm⟩, ⟨vSeed, bSeed⟩, ⟨vK, bK⟩⟩, wPence, wSort, wDeed, wSend, wWant, wLaw⟩ := id hW
  unfold f11_holderOf f11_holderOf_b5
  refine g_for (fun i => (lstP (fun p => decide (m.1 29 (25 * 0 + (5 * p + s)) = v)) i, nI i)) (vl m 2 0) (fun i hi sf => ?_) (by omega) (fun sf => ?_)
  · simp (disch := omega) only [g_let, g_bs, g_l0, g_l1, g_l2, g_l3, g_l4, g_l5, g_l6, g_l7, g_l8, g_l9, g_l10, g_l11, g_l12, g_l15, g_l20, g_l24, g_l25, g_l30, g_l40, g_l99, g_l100, g_ckN, g_clN, g_ltN, g_leN, g_eqN, pk_mul, nI_add, if_true, if_false, Nat.reduceLT, Nat.reduceLeDiff, Nat.reduceEqDiff, Nat.lt_irrefl, f11_holderOf_b5_body, f11_holderOf_b34, vP, hi, lstP, decide_eq_true_eq, Nat.mul_zero, Nat.zero_add]
    split <;> rfl
  · simp (disch := omega) only [g_let, g_bs, g_l0, g_l1, g_l2, g_l3, g_l4, g_l5, g_l6, g_l7, g_l8, g_l9, g_l10, g_l11, g_l12, g_l15, g_l20, g_l24, g_l25, g_l30, g_l40, g_l99, g_l100, g_ckN, g_clN, g_ltN, g_leN, g_eqN, pk_mul, nI_add, if_true, if_false, Nat.reduceLT, Nat.reduceLeDiff, Nat.reduceEqDiff, Nat.lt_irrefl, f11_holderOf_b5_body, vP, Nat.lt_irrefl]
def ownP (m : g_M) (f p s : Nat) : Bool := decide (m.1 29 (25 * f + (5 * p + s)) = nI p)
theorem r_isLost (hF : 5000 < F) (hW : WT m) {p : Nat} (hp : p < vl m 2 0) : f11_isLost F (nI p) m = some (if fstP (ownP m 0 p) (vl m 2 1) < vl m 2 1 then nI 0 else if 0 < vl m 2 1 then nI 1 else nI 0) := by
  obtain ⟨⟨⟨vP, bP⟩, ⟨vS, bS⟩, ⟨vD, bD⟩, ⟨vN, bN⟩, ⟨vW, bW⟩, ⟨vRoom, bRoom⟩, bRoom1, ⟨vStorm, bStorm⟩, ⟨vSeed, bSeed⟩, ⟨vK, bK⟩⟩, wPence, wSort, wDeed, wSend, wWant, wLaw⟩ := id hW
  have hle := fstP_le (ownP m 0 p) (vl m 2 1)
  unfold f11_isLost f11_isLost_b2
  refine g_search (ownP m 0 p) (vl m 2 1) (fun i hi hP sf => ?_) (by omega) (fun sf => ?_)
  · have hP : ¬ m.1 29 (5 * p + i) = nI p := by
      have := hP; unfold ownP at this; simpa using this
    simp (disch := omega) only [g_let, g_bs, g_l0, g_l1, g_l2, g_l3, g_l4, g_l5, g_l6, g_l7, g_l8, g_l9, g_l10, g_l11, g_l12, g_l15, g_l20, g_l24, g_l25, g_l30, g_l40, g_l99, g_l100, g_ckN, g_clN, g_ltN, g_leN, g_eqN, pk_mul, nI_add, if_true, if_false, Nat.reduceLT, Nat.reduceLeDiff, Nat.reduceEqDiff, Nat.lt_irrefl, f11_isLost_b2_body, vS, hi, hP]
  · by_cases h : fstP (ownP m 0 p) (vl m 2 1) < vl m 2 1
    · have h1 := fstP_yes _ _ h
      rw [if_pos h]
      generalize fstP (ownP m 0 p) (vl m 2 1) = i at h h1 hle ⊢
      have h1 : m.1 29 (5 * p + i) = nI p := by unfold ownP at h1; simpa using h1
      simp (disch := omega) only [g_let, g_bs, g_l0, g_l1, g_l2, g_l3, g_l4, g_l5, g_l6, g_l7, g_l8, g_l9, g_l10, g_l11, g_l12, g_l15, g_l20, g_l24, g_l25, g_l30, g_l40, g_l99, g_l100, g_ckN, g_clN, g_ltN, g_leN, g_eqN, pk_mul, nI_add, if_true, if_false, Nat.reduceLT, Nat.reduceLeDiff, Nat.reduceEqDiff, Nat.lt_irrefl, f11_isLost_b2_body, vS, h, h1]
    · have h2 : fstP (ownP m 0 p) (vl m 2 1) = vl m 2 1 := by omega
      rw [if_neg h, h2]
      simp (disch := omega) only [g_let, g_bs, g_l0, g_l1, g_l2, g_l3, g_l4, g_l5, g_l6, g_l7, g_l8, g_l9, g_l10, g_l11, g_l12, g_l15, g_l20, g_l24, g_l25, g_l30, g_l40, g_l99, g_l100, g_ckN, g_clN, g_ltN, g_leN, g_eqN, pk_mul, nI_add, if_true, if_false, Nat.reduceLT, Nat.reduceLeDiff, Nat.reduceEqDiff, Nat.lt_irrefl, f11_isLost_b2_body, vS, Nat.lt_irrefl]
      split <;> rfl
theorem q_mixed (hF : 5000 < F) (h : TS c m T t f) : f7_mixed F t c = some (nI (vl m 2 0 * vl m 2 1 - sumN (fun p => cntP (ownP m f p) (vl m 2 1)) (vl m 2 0))) := by
  have h0 := h
  obtain ⟨hT, ht, hf, hp0, hW, hR, hWS, hRS⟩ := id h
  obtain ⟨⟨⟨vP, bP⟩, ⟨vS, bS⟩, ⟨vD, bD⟩, ⟨vN, bN⟩, ⟨vW, bW⟩, ⟨vRoom, bRoom⟩, bRoom1, ⟨vStorm, bStorm⟩, ⟨vSeed, bSeed⟩, ⟨vK, bK⟩⟩, wPence, wSort, wDeed, wSend, wWant, wLaw⟩ := id hW
  obtain ⟨⟨⟨vDay, bDay⟩, ⟨vLast, bLast⟩, ⟨vSends, bSends⟩⟩, sPence, sHL, sPerm1, sPerm2, sSend, sWant, sOwn⟩ := id hWS
  obtain ⟨rCnt, rMan, rSort, rDeed, ⟨rT6, rT8, rT10, rT11, rT12, rT93⟩, rSent, rWanted, rLaw, rCode⟩ := id hR
  obtain ⟨⟨eDay, eLast, eStorms, eSends⟩, ePence, eHL, eSend, eWant⟩ := id hRS
  have e0 := rCnt 0 (by omega)
  have e1 := rCnt 1 (by omega)
  have e2 := rCnt 2 (by omega)
  have gd := fun {α : Type} {k : Nat → Option α} => g_drT (k := k) hp0 hT
  have hb : ∀ i, sumN (fun p => cntP (ownP m f p) (vl m 2 1)) i ≤ i * vl m 2 1 := fun i => sumN_le _ _ _ (fun j _ => cntP_le _ _)
  have hq : vl m 2 0 * vl m 2 1 ≤ 25 := Nat.mul_le_mul bP bS
  unfold f7_mixed
  simp (disch := omega) only [g_let, g_bs, g_l0, g_l1, g_l2, g_l3, g_l4, g_l5, g_l6, g_l7, g_l8, g_l9, g_l10, g_l11, g_l12, g_l15, g_l20, g_l24, g_l25, g_l30, g_l40, g_l99, g_l100, g_ckN, g_clN, g_ltN, g_leN, g_eqN, pk_mul, nI_add, if_true, if_false, Nat.reduceLT, Nat.reduceLeDiff, Nat.reduceEqDiff, Nat.lt_irrefl, gd, e0, e1, vP, vS]
  unfold f7_mixed_b22
  have hst : nI (vl m 2 0 * vl m 2 1) = nI (vl m 2 0 * vl m 2 1 - sumN (fun p => cntP (ownP m f p) (vl m 2 1)) 0) := by simp [sumN]
  rw [hst]
  refine g_for (fun i => (nI (vl m 2 0 * vl m 2 1 - sumN (fun p => cntP (ownP m f p) (vl m 2 1)) i), nI i)) (vl m 2 0) (fun i hi sf => ?_) (by omega) (fun sf => ?_)
  · have g1 := q_ownSorts hF h0 hi
    have g2 := hb (i + 1)
    have g3 : (i + 1) * vl m 2 1 ≤ vl m 2 0 * vl m 2 1 := Nat.mul_le_mul_right _ hi
    have g4 : sumN (fun p => cntP (ownP m f p) (vl m 2 1)) (i + 1) = sumN (fun p => cntP (ownP m f p) (vl m 2 1)) i + cntP (ownP m f i) (vl m 2 1) := rfl
    have g5 : cntP (fun s => decide (m.1 29 (25 * f + (5 * i + s)) = nI i)) (vl m 2 1) = cntP (ownP m f i) (vl m 2 1) := rfl
    simp (disch := omega) only [g_let, g_bs, g_l0, g_l1, g_l2, g_l3, g_l4, g_l5, g_l6, g_l7, g_l8, g_l9, g_l10, g_l11, g_l12, g_l15, g_l20, g_l24, g_l25, g_l30, g_l40, g_l99, g_l100, g_ckN, g_clN, g_ltN, g_leN, g_eqN, pk_mul, nI_add, if_true, if_false, Nat.reduceLT, Nat.reduceLeDiff, Nat.reduceEqDiff, Nat.lt_irrefl, f7_mixed_b22_body, gd, e0, vP, hi, g1, jbc_eq, jb_bits _ _ bS, g5]
    rw [g_subN (by omega), g4]
    congr 3
    omega
  · simp (disch := omega) only [g_let, g_bs, g_l0, g_l1, g_l2, g_l3, g_l4, g_l5, g_l6, g_l7, g_l8, g_l9, g_l10, g_l11, g_l12, g_l15, g_l20, g_l24, g_l25, g_l30, g_l40, g_l99, g_l100, g_ckN, g_clN, g_ltN, g_leN, g_eqN, pk_mul, nI_add, if_true, if_false, Nat.reduceLT, Nat.reduceLeDiff, Nat.reduceEqDiff, Nat.lt_irrefl, f7_mixed_b22_body, gd, e0, vP, Nat.lt_irrefl]
end Q2
