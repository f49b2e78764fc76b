/-! the best load: the class's way -/
section L
variable {F : Nat} {c m c' m' : g_M} {T S : Nat}
theorem iI_n (k : Nat) : nI k = Int32.ofInt (k : Int) := (Int32.ofInt_eq_ofNat).symm
theorem iI_lt {a b : Int} (ha : -100000000 ≤ a) (ha2 : a ≤ 100000000) (hb : -100000000 ≤ b) (hb2 : b ≤ 100000000) : Int32.ofInt a < Int32.ofInt b ↔ a < b := by
  rw [Int32.lt_iff_toInt_lt, Int32.toInt_ofInt_of_le (by omega) (by omega), Int32.toInt_ofInt_of_le (by omega) (by omega)]
def befP (m : g_M) (n e : Nat) : Bool := isDueP m 0 e && decide (partF m e = partF m n)
theorem q_dueBefore (hF : 5000 < F) (hTS : TS c m T 35 0) {n : Nat} (hn : n < vl m 27 0) : f10_isDueBefore F (nI n) c = some (if fstP (befP m n) n < n then nI 1 else nI 0) := by
  obtain ⟨hT, ht, hf, hp0, hW, hR, hWS, hRS⟩ := id hTS
  obtain ⟨vN, bN⟩ := hWS.1.2.2
  obtain ⟨_, _, _, eSend, _⟩ := id hRS
  have sa : ∀ i, i < vl m 27 0 → f7_sendingAt F 35 (nI i) (0 : Int32) c = some (m.1 32 i) ∧ f7_sendingAt F 35 (nI i) (1 : Int32) c = some (m.1 33 i) := fun i hi => by
    have h0 : f7_sendingAt F 35 (nI i) (0 : Int32) c = _ := q_sendingAt (F := F) hTS (n := i) (k := 0) (by omega) (by omega)
    have h1 : f7_sendingAt F 35 (nI i) (1 : Int32) c = _ := q_sendingAt (F := F) hTS (n := i) (k := 1) (by omega) (by omega)
    obtain ⟨z1, z2, _⟩ := eSend i hi
    rw [Nat.mul_zero, Nat.zero_add] at z1 z2
    exact ⟨h0.trans (congrArg some z1), h1.trans (congrArg some z2)⟩
  have pe : ∀ i, i < vl m 27 0 → (partF m i = partF m n ↔ m.1 32 i = m.1 32 n ∧ m.1 33 i = m.1 33 n) := fun i hi => by
    obtain ⟨a1, a2, a3, a4, a5, a6, a7, a8, a9, a10, a11, a12⟩ := ld_f hW hWS hi
    obtain ⟨b1, b2, b3, b4, b5, b6, b7, b8, b9, b10, b11, b12⟩ := ld_f hW hWS hn
    rw [a1, a3, b1, b3, g_eqN (by omega) (by omega), g_eqN (by omega) (by omega)]
    unfold partF
    omega
  have hle := fstP_le (befP m n) n
  unfold f10_isDueBefore f10_isDueBefore_b2
  refine g_search (befP m n) n (fun i hi hP sf => ?_) (by omega) (fun sf => ?_)
  · unfold f10_isDueBefore_b2_body f10_isDueBefore_b62
    unfold befP at hP
    simp only [g_let]
    rw [if_pos ((g_ltN (by omega) (by omega)).mpr hi), q_isDue hTS (show i < vl m 27 0 by omega), g_bs, nI_s]
    by_cases d : isDueP m 0 i = true
    · rw [if_pos d, if_neg nI10, (sa i (by omega)).1, g_bs, (sa n hn).1, g_bs]
      rw [d] at hP
      simp only [Bool.true_and, decide_eq_false_iff_not] at hP
      by_cases z : m.1 32 i = m.1 32 n
      · rw [if_pos z, (sa i (by omega)).2, g_bs, (sa n hn).2, g_bs, if_neg (fun y => hP ((pe i (by omega)).mpr ⟨z, y⟩))]
      · rw [if_neg z]
    · rw [if_neg d, if_pos nI00]
  · unfold f10_isDueBefore_b2_body f10_isDueBefore_b62
    by_cases w : fstP (befP m n) n < n
    · have hy := fstP_yes _ _ w
      generalize fstP (befP m n) n = i at *
      unfold befP at hy
      simp only [Bool.and_eq_true, decide_eq_true_eq] at hy
      obtain ⟨y1, y2⟩ := hy
      obtain ⟨z1, z2⟩ := (pe i (by omega)).mp y2
      rw [if_pos ((g_ltN (by omega) (by omega)).mpr w), q_isDue hTS (show i < vl m 27 0 by omega), g_bs, if_pos y1, if_neg nI10, (sa i (by omega)).1, g_bs, (sa n hn).1, g_bs, if_pos z1, (sa i (by omega)).2, g_bs, (sa n hn).2, g_bs, if_pos z2, if_pos w]
      rfl
    · have : fstP (befP m n) n = n := by omega
      rw [this, if_neg (fun z => Nat.lt_irrefl _ ((g_ltN (by omega) (by omega)).mp z)), if_neg (Nat.lt_irrefl n)]
      rfl
theorem eff_bef {n : Nat} (hc : candF m n = true) : effP (candF m) (partF m) n = true ↔ ¬ fstP (befP m n) n < n := by
  have e : ∀ i, i < n → (candF m i && decide (partF m i = partF m n)) = befP m n i := fun i hi => by
    unfold befP
    by_cases z : partF m i = partF m n
    · have h2 : m.1 30 (partF m n) = nI (vl m 24 0 % 2) := by
        unfold candF at hc
        simp only [Bool.and_eq_true, decide_eq_true_eq] at hc
        exact hc.2
      unfold candF
      rw [z]
      simp [h2]
    · simp [z]
  unfold effP
  rw [hc, fstP_congr e]
  simp
/-- room by room, from the highest down -/
def rmI (d0 : Nat → Int) (w : Int) (z : Nat) (i : Nat) (m : g_M) : g_M := g_sI m 56 (30 - i) (Int32.ofInt (max (d0 (30 - i)) (d0 (30 - i - z) + w)))
theorem wrR {d0 : Nat → Int} {w : Int} {z : Nat} (hz : 1 ≤ z) (h0 : ∀ r, r ≤ 30 → c.1 56 r = Int32.ofInt (d0 r)) : ∀ i, i ≤ 31 - z → (itI (rmI d0 w z) i c).2.2 = c.2.2 ∧ (∀ o, o ≠ 56 → (itI (rmI d0 w z) i c).1 o = c.1 o) ∧ ∀ r, r ≤ 30 → (itI (rmI d0 w z) i c).1 56 r = Int32.ofInt (if 30 - i < r then max (d0 r) (d0 (r - z) + w) else d0 r) := by
  intro i
  induction i with
  | zero => intro _; exact ⟨rfl, fun _ _ => rfl, fun r hr => by rw [if_neg (by omega)]; exact h0 r hr⟩
  | succ i ih =>
    intro hi
    obtain ⟨x2, x3, x4⟩ := ih (by omega)
    refine ⟨x2, fun o ho => ?_, fun r hr => ?_⟩
    · show (g_sI (itI (rmI d0 w z) i c) 56 _ _).1 o = _
      rw [sI_o ho]; exact x3 o ho
    · show (g_sI (itI (rmI d0 w z) i c) 56 _ _).1 56 r = _
      rw [sI_at]
      by_cases q : r = 30 - i
      · rw [if_pos q, if_pos (by omega), q]
      · rw [if_neg q, x4 r hr]
        by_cases q2 : 30 - i < r
        · rw [if_pos q2, if_pos (by omega)]
        · rw [if_neg q2, if_neg (by omega)]
theorem q_rooms30 (hF : 5000 < F) {d0 : Nat → Int} {w : Int} {z : Nat} (hz : 1 ≤ z) (hz9 : z ≤ 9) (hd : ∀ r, r ≤ 30 → 0 ≤ d0 r ∧ d0 r ≤ 10000000) (hw : -5000 ≤ w) (hw2 : w ≤ 1000000) (h0 : ∀ r, r ≤ 30 → c.1 56 r = Int32.ofInt (d0 r)) (a1 v2 v3 : Int32) : ∃ c', (∀ s33, f10_bestLoad_b140 F a1 s33 v2 v3 (Int32.ofInt w) (nI z) (30 : Int32) c = f10_bestLoad_b183 F a1 s33 v2 v3 c') ∧ c'.2.2 = c.2.2 ∧ (∀ o, o ≠ 56 → c'.1 o = c.1 o) ∧ ∀ r, r ≤ 30 → c'.1 56 r = Int32.ofInt (if z ≤ r then max (d0 r) (d0 (r - z) + w) else d0 r) := by
  obtain ⟨y2, y3, y4⟩ := wrR (w := w) hz h0 (31 - z) (Nat.le_refl _)
  refine ⟨itI (rmI d0 w z) (31 - z) c, fun s33 => ?_, y2, y3, fun r hr => ?_⟩
  · unfold f10_bestLoad_b140
    refine g_for (fun i => (v2, v3, Int32.ofInt w, nI z, nI (30 - i), itI (rmI d0 w z) i c)) (31 - z) (fun i hi sf => ?_) (by omega) (fun sf => ?_)
    · obtain ⟨x2, x3, x4⟩ := wrR (w := w) hz h0 i (by omega)
      have e1 := x4 (30 - i) (by omega)
      rw [if_neg (Nat.lt_irrefl _)] at e1
      have e2 := x4 (30 - i - z) (by omega)
      rw [if_neg (by omega)] at e2
      have b1 := hd (30 - i) (by omega)
      have b2 := hd (30 - i - z) (by omega)
      show f10_bestLoad_b140_body F a1 s33 _ v2 v3 (Int32.ofInt w) (nI z) (nI (30 - i)) (itI (rmI d0 w z) i c) = sf (v2, v3, Int32.ofInt w, nI z, nI (30 - (i + 1)), rmI d0 w z i (itI (rmI d0 w z) i c))
      generalize itI (rmI d0 w z) i c = mem at *
      unfold f10_bestLoad_b140_body rmI
      rw [if_pos ((g_leN (by omega) (by omega)).mpr (by omega)), g_ckN (by omega) (by omega), g_subN (by omega), g_ckN (by omega) (by omega), g_ckN (by omega) (by omega), g_clN (by omega), g_clN (by omega), e1, e2, ← Int32.ofInt_add, g_let_e, g_let_e]
      have em : (if Int32.ofInt (d0 (30 - i)) < Int32.ofInt (d0 (30 - i - z) + w) then Int32.ofInt (d0 (30 - i - z) + w) else Int32.ofInt (d0 (30 - i))) = Int32.ofInt (max (d0 (30 - i)) (d0 (30 - i - z) + w)) := by
        by_cases q : d0 (30 - i) < d0 (30 - i - z) + w
        · rw [if_pos ((iI_lt (by omega) (by omega) (by omega) (by omega)).mpr q), Int.max_eq_right (by omega)]
        · rw [if_neg (fun y => q ((iI_lt (by omega) (by omega) (by omega) (by omega)).mp y)), Int.max_eq_left (by omega)]
      have e3 : nI (30 - i) + (-1 : Int32) = nI (30 - (i + 1)) := by
        rw [show 30 - i = (30 - (i + 1)) + 1 by omega]; exact pk_m1 _
      rw [em, e3]
    · show f10_bestLoad_b140_body F a1 s33 _ v2 v3 (Int32.ofInt w) (nI z) (nI (30 - (31 - z))) _ = _
      unfold f10_bestLoad_b140_body
      rw [if_neg (fun y => by have := (g_leN (by omega) (by omega)).mp y; omega)]
  · rw [y4 r hr]
    by_cases q : z ≤ r
    · rw [if_pos (by omega), if_pos q]
    · rw [if_neg (by omega), if_neg q]
theorem dp_bd (hW : WT m) (hWS : WS m 0) {n r : Nat} (hn : n ≤ vl m 27 0) : 0 ≤ dpI (candF m) (partF m) (sizeF m) (rateF m) n r ∧ dpI (candF m) (partF m) (sizeF m) (rateF m) n r ≤ 10000000 := by
  refine ⟨dp_pos n r, ?_⟩
  obtain ⟨A, _, _, h3⟩ := dp_at (cand := candF m) (part := partF m) (size := sizeF m) (rate := rateF m) n r
  have hrt : sm (rateF m) A n ≤ n * 99 := sm_le (fun i hi => (ld_f hW hWS (show i < vl m 27 0 by omega)).2.2.2.2.2.2.2.2.1)
  have bN := hWS.1.2.2.2
  rw [h3]
  omega
theorem q_bestLoad (hF : 5000 < F) (hG : G c m T) (a1 : Int32) : ∃ c', c'.2.2 = c.2.2 ∧ (∀ o, o ≠ 56 → c'.1 o = c.1 o) ∧ f10_bestLoad F a1 c = (if a1 = (0 : Int32) then some ((Int32.ofInt (dpI (candF m) (partF m) (sizeF m) (rateF m) (vl m 27 0) (vl m 2 5)) + (4095 : Int32)) / (4096 : Int32), c') else some ((Int32.ofInt (dpI (candF m) (partF m) (sizeF m) (rateF m) (vl m 27 0) (vl m 2 5)) + (4095 : Int32)) / (4096 : Int32) * (4096 : Int32) - Int32.ofInt (dpI (candF m) (partF m) (sizeF m) (rateF m) (vl m 27 0) (vl m 2 5)), c')) := by
  obtain ⟨hTS, h02⟩ := hG
  obtain ⟨hT, ht, hf, hp0, hW, hR, hWS, hRS⟩ := id hTS
  obtain ⟨vN, bN⟩ := hWS.1.2.2
  obtain ⟨vD, bD⟩ := hWS.1.1
  obtain ⟨vRm, bRm⟩ := hW.1.2.2.2.2.2.1
  have hTl := isT_le hT
  obtain ⟨⟨eDay, _, _, eN⟩, _, eHL, eSend, _⟩ := id hRS
  obtain ⟨w1, w2, w3⟩ := wrF 56 (fun _ => nI 0) c 31
  obtain ⟨c1, hc1⟩ : ∃ x, x = itI (inF 56 (fun _ => nI 0)) 31 c := ⟨_, rfl⟩
  have hco : ∀ o, o ≠ 56 → c1.1 o = c.1 o := fun o ho => by funext k; rw [hc1]; exact w2 o k (by omega)
  have start : f10_bestLoad F a1 c = f10_bestLoad_b33 F a1 (nI (vl m 24 0 % 2)) (0 : Int32) c1 := by
    unfold f10_bestLoad f10_bestLoad_b2
    refine g_for (fun i => (nI i, itI (inF 56 (fun _ => nI 0)) i c)) 31 (fun i hi sf => ?_) (by omega) (fun sf => ?_)
    · unfold f10_bestLoad_b2_body
      rw [if_pos (show nI i ≤ (30 : Int32) from (g_leN (b := 30) (by omega) (by omega)).mpr (by omega)), g_ckN (by omega) (by omega), g_clN (by omega), g_let_e, g_let_e, nI_s]
      rfl
    · unfold f10_bestLoad_b2_body
      rw [if_neg (show ¬ nI 31 ≤ (30 : Int32) by decide), g_let_e, ← hc1, hco 35 (by omega), show c.1 35 1 = nI (vl m 24 0) from eDay.trans vD, show nI (vl m 24 0) &&& (1 : Int32) = _ from and1 bD]
  have key := g_for1 (b := fun sf (x : Int32 × Int32 × g_M) => f10_bestLoad_b33_body F a1 (fun v2 v3 mem => sf (v2, v3, mem)) x.1 x.2.1 x.2.2) (fun n x => ∃ mem, x = (nI (vl m 24 0 % 2), nI n, mem) ∧ mem.2.2 = c.2.2 ∧ (∀ o, o ≠ 56 → mem.1 o = c.1 o) ∧ ∀ r, r ≤ 30 → mem.1 56 r = Int32.ofInt (dpI (candF m) (partF m) (sizeF m) (rateF m) n r)) (vl m 27 0) (fun n x hn hx => by
      obtain ⟨mem, rfl, x2, x3, x4⟩ := hx
      obtain ⟨b1, b2, b3, b4, b5, b6, b7, b8, b9, b10, b11, b12⟩ := ld_f hW hWS hn
      have hTM : TS mem m T 35 0 := TS_fr hTS (by rw [x2]) (fun o a b => x3 o (by omega)) (fun o k a b => by rw [x3 o (by omega)]) (fun _ _ _ => rfl) (fun _ _ _ _ => rfl)
      have h02M : mem.2.2 0 2 = some T := by rw [x2]; exact h02
      have s0 : f7_sendingAt F 35 (nI n) (0 : Int32) mem = some (nI (vl m 32 n)) := by
        have h0 : f7_sendingAt F 35 (nI n) (0 : Int32) mem = _ := q_sendingAt (F := F) hTM (n := n) (k := 0) (by omega) (by omega)
        obtain ⟨z1, z2, _⟩ := eSend n hn
        rw [Nat.mul_zero, Nat.zero_add] at z1
        rw [h0, x3 39 (by omega)]; exact congrArg some (z1.trans b1)
      have s1 : f7_sendingAt F 35 (nI n) (1 : Int32) mem = some (nI (vl m 33 n)) := by
        have h0 : f7_sendingAt F 35 (nI n) (1 : Int32) mem = _ := q_sendingAt (F := F) hTM (n := n) (k := 1) (by omega) (by omega)
        obtain ⟨z1, z2, _⟩ := eSend n hn
        rw [Nat.mul_zero, Nat.zero_add] at z2
        rw [h0, x3 39 (by omega)]; exact congrArg some (z2.trans b3)
      have hd := q_isDue (F := F) hTM hn
      have hl : mem.1 38 (partF m n) = m.1 30 (partF m n) := by
        have := (eHL (partF m n) b10).2
        rw [Nat.mul_zero, Nat.zero_add] at this
        rw [x3 38 (by omega)]; exact this
      have hix : nI (vl m 32 n) * (5 : Int32) + nI (vl m 33 n) = nI (partF m n) := by
        rw [g_l5, pk_mul, nI_add, Nat.mul_comm]; rfl
      have ent : ∀ sf, f10_bestLoad_b33_body F a1 sf (nI (vl m 24 0 % 2)) (nI n) mem = if effP (candF m) (partF m) n = true then f10_bestLoad_b140 F a1 sf (nI (vl m 24 0 % 2)) (nI n) (nI (rateF m n) * (4096 : Int32) - ((1 : Int32) <<< (nI n &&& 31))) (nI (sizeF m n)) (30 : Int32) mem else f10_bestLoad_b183 F a1 sf (nI (vl m 24 0 % 2)) (nI n) mem := fun sf => by
        unfold f10_bestLoad_b33_body
        rw [x3 35 (by omega), show c.1 35 7 = nI (vl m 27 0) from eN.trans vN, if_pos ((g_ltN (by omega) (by omega)).mpr hn), s0, g_bs, s1, g_bs, hd, g_bs]
        by_cases d : isDueP m 0 n = true
        · rw [if_pos d, if_neg nI10, hix, g_ckN (by omega) (by omega), g_clN (by omega), hl]
          by_cases q : m.1 30 (partF m n) = nI (vl m 24 0 % 2)
          · have hc : candF m n = true := by unfold candF; rw [d]; simp [q]
            rw [if_pos q, q_dueBefore hF hTM hn, g_bs]
            by_cases z : fstP (befP m n) n < n
            · rw [if_pos z, if_neg nI10, if_neg (fun y => (eff_bef hc).mp y z)]
            · rw [if_neg z, if_pos nI00, if_pos ((eff_bef hc).mpr z), g_drT h02M hT, g_ckN (by omega) (by omega), g_clN (by omega), g_let_e, g_drT h02M hT, g_ckN (by omega) (by omega), g_let_e, x3 (T + 5) (by omega), x3 (T + 4) (by omega)]
              obtain ⟨_, _, rS, _⟩ := id hR
              rw [(rS _ b4).2.1, (rS _ b4).2.2, b5, b8]
          · have hc : candF m n = false := by unfold candF; simp [q]
            rw [if_neg q, if_neg (show ¬ effP (candF m) (partF m) n = true by unfold effP; rw [hc]; simp)]
        · have hc : candF m n = false := by unfold candF; simp [d]
          rw [if_neg d, if_pos nI00, if_neg (show ¬ effP (candF m) (partF m) n = true by unfold effP; rw [hc]; simp)]
      have ds : ∀ r, dpI (candF m) (partF m) (sizeF m) (rateF m) (n + 1) r = if effP (candF m) (partF m) n = true ∧ sizeF m n ≤ r then max (dpI (candF m) (partF m) (sizeF m) (rateF m) n r) (dpI (candF m) (partF m) (sizeF m) (rateF m) n (r - sizeF m n) + (4096 * (rateF m n : Int) - (p2 n : Int))) else dpI (candF m) (partF m) (sizeF m) (rateF m) n r := fun r => rfl
      by_cases he : effP (candF m) (partF m) n = true
      · have hpow : p2 n ≤ 4096 := by
          have : 2 ^ n ≤ 2 ^ 12 := Nat.pow_le_pow_right (by omega) (by omega)
          have h12 : (2 : Nat) ^ 12 = 4096 := by decide
          show 2 ^ n ≤ 4096
          omega
        have hwt : nI (rateF m n) * (4096 : Int32) - ((1 : Int32) <<< (nI n &&& 31)) = Int32.ofInt (4096 * (rateF m n : Int) - (p2 n : Int)) := by
          rw [sh1 (by omega), show (4096 : Int32) = nI 4096 from rfl, pk_mul, iI_n, iI_n, ← Int32.ofInt_sub]
          congr 1
          show ((rateF m n * 4096 : Nat) : Int) - ((2 ^ n : Nat) : Int) = _
          rw [Int.natCast_mul, Int.mul_comm]
          rfl
        have hb : ∀ r, r ≤ 30 → 0 ≤ dpI (candF m) (partF m) (sizeF m) (rateF m) n r ∧ dpI (candF m) (partF m) (sizeF m) (rateF m) n r ≤ 10000000 := fun r _ => dp_bd hW hWS (by omega)
        obtain ⟨c4, y4, y1, y2, y3⟩ := q_rooms30 (F := F) (c := mem) hF (d0 := dpI (candF m) (partF m) (sizeF m) (rateF m) n) (w := 4096 * (rateF m n : Int) - (p2 n : Int)) b6 b7 hb (by omega) (by omega) x4 a1 (nI (vl m 24 0 % 2)) (nI n)
        have y3' : ∀ r, r ≤ 30 → c4.1 56 r = Int32.ofInt (dpI (candF m) (partF m) (sizeF m) (rateF m) (n + 1) r) := fun r hr => by
          rw [y3 r hr, ds]
          by_cases q : sizeF m n ≤ r
          · rw [if_pos q, if_pos ⟨he, q⟩]
          · rw [if_neg q, if_neg (fun z => q z.2)]
        refine ⟨(nI (vl m 24 0 % 2), nI (n + 1), c4), ⟨c4, rfl, y1.trans x2, fun o ho => (y2 o ho).trans (x3 o ho), y3'⟩, fun sf => ?_⟩
        show f10_bestLoad_b33_body F a1 _ (nI (vl m 24 0 % 2)) (nI n) mem = _
        rw [ent, if_pos he, hwt, y4]
        unfold f10_bestLoad_b183
        rw [g_let_e, nI_s]
      · refine ⟨(nI (vl m 24 0 % 2), nI (n + 1), mem), ⟨mem, rfl, x2, x3, fun r hr => ?_⟩, fun sf => ?_⟩
        · rw [x4 r hr, ds, if_neg (fun z => he z.1)]
        · show f10_bestLoad_b33_body F a1 _ (nI (vl m 24 0 % 2)) (nI n) mem = _
          rw [ent, if_neg he]
          unfold f10_bestLoad_b183
          rw [g_let_e, nI_s]) (s := (nI (vl m 24 0 % 2), (0 : Int32), c1)) ⟨c1, rfl, by rw [hc1]; exact w1, hco, fun r hr => by rw [hc1]; exact w3 r (by omega)⟩ (F := F) (by omega)
  obtain ⟨_, ⟨mem, rfl, x2, x3, x4⟩, sf, e⟩ := key
  refine ⟨mem, x2, x3, ?_⟩
  rw [start]
  unfold f10_bestLoad_b33
  rw [e]
  show f10_bestLoad_b33_body F a1 _ (nI (vl m 24 0 % 2)) (nI (vl m 27 0)) mem = _
  have h02M : mem.2.2 0 2 = some T := by rw [x2]; exact h02
  have rR : c.1 T 10 = nI (vl m 2 5) := (hR.2.2.2.2.1.2.2.1).trans vRm
  unfold f10_bestLoad_b33_body
  rw [x3 35 (by omega), show c.1 35 7 = nI (vl m 27 0) from eN.trans vN, if_neg (fun z => Nat.lt_irrefl _ ((g_ltN (by omega) (by omega)).mp z)), g_drT h02M hT, x3 T (by omega), rR, g_ckN (by omega) (by omega), g_clN (by omega), x4 _ (by omega), g_let_e, g_let_e]
theorem s_load (hF : 5000 < F) (h : INV c m) (a1 : Int32) : CALL (f10_load F a1 c) (f11_load F a1 m) := by
  refine call_of h (fun T S m1 hV hC hI hTa hFl hA hS hG => ?_)
  have hW := hG.1.2.2.2.2.1
  have hWS := hG.1.2.2.2.2.2.2.1
  unfold f10_load
  by_cases ha : okI a1 2
  rotate_left
  · rw [if_neg (show ¬ a1 = (0 : Int32) from fun z => ha ⟨0, by omega, z⟩), if_neg (show ¬ a1 = (1 : Int32) from fun z => ha ⟨1, by omega, z⟩)]
    rcases not_span (n := 1) (by omega) ha with z | ⟨z1, z2⟩
    · rw [if_neg z]; exact ⟨_, _, _, rfl, rfl, hV⟩
    · rw [if_pos z1, if_pos (Int32.not_le.mp (show ¬ a1 ≤ (1 : Int32) from z2))]; exact ⟨_, _, _, rfl, rfl, hV⟩
  obtain ⟨k, hk, rfl⟩ := ha
  rw [if_pos (show (0 : Int32) ≤ nI k from nI_ge0 (by omega)), if_neg (show ¬ (1 : Int32) < nI k from fun z => by have := (g_ltN (a := 1) (by omega) (by omega)).mp z; omega)]
  obtain ⟨m2, best, R, j1, j2, j3, j4, j5, j6, j7⟩ := r_layLoad (F := F) hF hW hWS
  have hp : ∀ i j, i < vl m1 27 0 → j < vl m1 27 0 → partF m1 i = partF m1 j → sizeF m1 i = sizeF m1 j ∧ rateF m1 i = rateF m1 j := fun i j hi hj z => by
    obtain ⟨a1, a2, a3, a4, a5, a6, a7, a8, a9, a10, a11, a12⟩ := ld_f hW hWS hi
    obtain ⟨b1, b2, b3, b4, b5, b6, b7, b8, b9, b10, b11, b12⟩ := ld_f hW hWS hj
    have : vl m1 33 i = vl m1 33 j := by unfold partF at z; omega
    unfold sizeF rateF
    rw [this]; exact ⟨rfl, rfl⟩
  obtain ⟨dp1, dp2⟩ := BST_dp hWS.1.2.2.2 hp j7
  have hpos := dp_pos (cand := candF m1) (part := partF m1) (size := sizeF m1) (rate := rateF m1) (vl m1 27 0) (vl m1 2 5)
  obtain ⟨M, hM⟩ : ∃ M : Nat, 4096 * R = M + best := ⟨4096 * R - best, by omega⟩
  have eM : Int32.ofInt (dpI (candF m1) (partF m1) (sizeF m1) (rateF m1) (vl m1 27 0) (vl m1 2 5)) = nI M := by
    rw [iI_n]; congr 1; omega
  have eD : (nI M + (4095 : Int32)) / (4096 : Int32) = nI R := by
    rw [show (4095 : Int32) = nI 4095 from rfl, show (4096 : Int32) = nI 4096 from rfl, nI_add, pk_div (by omega) (by omega) (by omega)]
    congr 1
    omega
  have eB : nI R * (4096 : Int32) - nI M = nI best := by
    rw [show (4096 : Int32) = nI 4096 from rfl, pk_mul, g_subN (by omega)]
    congr 1
    omega
  have fin : ∀ c', c'.2.2 = c.2.2 → (∀ o, o ≠ 56 → c'.1 o = c.1 o) → INV c' m2 := fun c' k2 k3 => by
    refine INV_fr hV (fun o k _ => by rw [k2]) (fun o k z => by rw [k3 o (by unfold relC at z; omega)]) (fun o k z => j3 o k (by unfold relM at z; omega)) (AB_fr hA (k3 54 (by omega)) (by rw [k3 53 (by omega)]) (j3 0 56 (by omega)))
  unfold f10_load_b11 f10_load_b21
  rw [j1, g_bs]
  rcases (show k = 0 ∨ k = 1 by omega) with rfl | rfl
  · obtain ⟨c', k2, k3, k4⟩ := q_bestLoad (F := F) hF hG (1 : Int32)
    rw [if_pos nI00, if_pos nI00, k4, if_neg (by decide), g_bs, if_pos nI00, eM, eD, eB, j4]
    exact ⟨_, _, _, rfl, rfl, fin c' k2 k3⟩
  · obtain ⟨c', k2, k3, k4⟩ := q_bestLoad (F := F) hF hG (0 : Int32)
    rw [if_neg nI10, if_pos (show nI 1 = (1 : Int32) from rfl), if_neg nI10, k4, if_pos rfl, g_bs, if_neg nI10, eM, eD, j5]
    exact ⟨_, _, _, rfl, rfl, fin c' k2 k3⟩
end L
