/-! the order: the class's rows, the first four, the call -/
section L
variable {F : Nat} {c m c' m' c1 m1 c2 m2 : g_M} {T S K r : Nat}
def tt (_ : Nat) : Bool := true
def goodR (K r i : Nat) : Bool := if i < K then decide (dg r i < K) && !pX (dg r) tt i (dg r i) else decide (dg r i = 0)
def isRowN (K r : Nat) : Bool := !decide (fstP (fun i => !goodR K r i) 4 < 4)
theorem pX_s (part : Nat → Nat) (A : Nat → Bool) (n : Nat) : pX part A (n + 1) = fun p => pX part A n p || (A n && decide (p = part n)) := rfl
theorem q_isRow (hF : 5000 < F) (hK : K ≤ 4) (hr : r < 256) (h57 : c.1 57 0 = nI K) : f4_isRow F (nI r) c = some (if isRowN K r = true then nI 1 else nI 0) := by
  have hle := fstP_le (fun i => !goodR K r i) 4
  have hno := fstP_no (fun i => !goodR K r i) 4
  have hyes := fstP_yes (fun i => !goodR K r i) 4
  have hI : isRowN K r = !decide (fstP (fun i => !goodR K r i) 4 < 4) := rfl
  rw [hI]
  clear hI
  generalize fstP (fun i => !goodR K r i) 4 = J at *
  have sb : ∀ i, i < 4 → ((bitsP (pX (dg r) tt i) 4 >>> (nI (dg r i) &&& 31)) &&& (1 : Int32)) = (if pX (dg r) tt i (dg r i) = true then nI 1 else nI 0) := fun i hi => by
    have hl := dg_lt r i
    have := shr_bits (pX (dg r) tt i) (n := 4) (k := dg r i) (by omega) (by omega)
    simp only [hl, decide_true, Bool.true_and] at this
    exact this
  have b64 : ∀ i sf, i < 4 → f4_isRow_b64 F (nI r) sf c (bitsP (pX (dg r) tt i) 4) (nI i) (nI (dg r i)) = sf (bitsP (pX (dg r) tt (i + 1)) 4) (nI (i + 1)) := fun i sf hi => by
    have hl := dg_lt r i
    unfold f4_isRow_b64
    rw [g_let_e, g_let_e, nI_s, show (1 : Int32) <<< (nI (dg r i) &&& 31) = nI 1 <<< (nI (dg r i) &&& 31) from rfl, bits_set _ (by omega) hl, pX_s]
    simp only [tt, Bool.true_and]
  have body : ∀ i sf, i < 4 → f4_isRow_b4_body F (nI r) sf c (bitsP (pX (dg r) tt i) 4) (nI i) = if goodR K r i = true then sf (bitsP (pX (dg r) tt (i + 1)) 4) (nI (i + 1)) else some (nI 0) := fun i sf hi => by
    have hl := dg_lt r i
    unfold f4_isRow_b4_body f4_isRow_b38 f4_isRow_b39 goodR
    rw [if_pos (show nI i < (4 : Int32) from (g_ltN (b := 4) (by omega) (by omega)).mpr hi), q_digit hr hi, g_bs, h57, sb i hi, b64 i sf hi]
    by_cases z1 : i < K
    · have e1 : nI i < nI K := (g_ltN (by omega) (by omega)).mpr z1
      simp only [if_pos e1, if_pos z1]
      by_cases z2 : dg r i < K
      · rw [if_pos ((g_ltN (by omega) (by omega)).mpr z2)]
        cases hp : pX (dg r) tt i (dg r i) with
        | true => rw [if_pos rfl, if_neg nI10, if_pos trivial, if_neg (show ¬ (decide (dg r i < K) && !true) = true by simp)]; rfl
        | false => rw [if_neg ft, if_pos nI00, if_neg (show ¬ (1 : Int32) = 0 by decide), if_pos (show (decide (dg r i < K) && !false) = true by simp [z2])]
      · rw [if_neg (fun y => z2 ((g_ltN (by omega) (by omega)).mp y)), if_pos trivial, if_neg (show ¬ (decide (dg r i < K) && !pX (dg r) tt i (dg r i)) = true by simp [z2])]; rfl
    · have e1 : ¬ nI i < nI K := fun y => z1 ((g_ltN (by omega) (by omega)).mp y)
      simp only [if_neg e1, if_neg z1]
      by_cases z2 : dg r i = 0
      · have e2 : nI (dg r i) = (0 : Int32) := by rw [z2]; rfl
        simp only [if_pos e2, ite_self]
        rw [if_pos (by simp [z2])]
      · have e2 : ¬ nI (dg r i) = (0 : Int32) := fun y => z2 ((g_eqN (b := 0) (by omega) (by omega)).mp y)
        simp only [if_neg e2, ite_self]
        rw [if_neg (by simp [z2])]; rfl
  unfold f4_isRow f4_isRow_b4
  refine g_for (fun i => (bitsP (pX (dg r) tt i) 4, nI i)) J (fun i hi sf => ?_) (by omega) (fun sf => ?_)
  · have := hno i hi
    simp only [Bool.not_eq_false'] at this
    show f4_isRow_b4_body F (nI r) _ c (bitsP (pX (dg r) tt i) 4) (nI i) = _
    rw [body i _ (by omega), if_pos this]
  · show f4_isRow_b4_body F (nI r) _ c (bitsP (pX (dg r) tt J) 4) (nI J) = _
    by_cases z : J < 4
    · have := hyes z
      simp only [Bool.not_eq_true'] at this
      rw [body J _ z, this, if_neg ft, if_neg (by simp [z])]
    · have : J = 4 := by omega
      subst this
      unfold f4_isRow_b4_body
      rw [if_neg (show ¬ nI 4 < (4 : Int32) by decide), if_pos (by simp)]
      rfl
theorem rows_eq : ∀ K : Fin 5, (List.range 256).filter (isRowN K.1) = lvs K.1 K.1 0 0 0 := by decide +kernel
theorem rows_ne : ∀ K : Fin 5, lvs K.1 K.1 0 0 0 ≠ [] := by decide +kernel
theorem rn_wd : ∀ (l : List Nat) (c c' : g_M), rnC F K l c = some c' → c.1 57 0 = nI K → c'.1 57 0 = nI K ∧ (l ≠ [] → c'.1 57 3 = nI 1) := by
  intro l
  induction l with
  | nil => intro c c' h h0; cases h; exact ⟨h0, fun z => absurd rfl z⟩
  | cons r l ih =>
    intro c c' h h0
    obtain ⟨x, hx, h1⟩ := g_bind (show (stC F K r c).bind (rnC F K l) = some c' from h)
    have hc : x.1 57 0 = nI K ∧ x.1 57 3 = nI 1 := by
      unfold stC at hx
      obtain ⟨_, _, hx⟩ := g_bind hx
      obtain ⟨_, _, hx⟩ := g_bind hx
      obtain ⟨_, _, hx⟩ := g_bind hx
      obtain ⟨_, _, hx⟩ := g_bind hx
      obtain ⟨_, _, hx⟩ := g_bind hx
      obtain ⟨y, _, hx⟩ := g_bind hx
      by_cases z : y.1 57 0 = nI K ∧ y.1 57 3 = nI 1
      · rw [if_pos z] at hx; cases hx; exact z
      · rw [if_neg z] at hx; cases hx
    obtain ⟨k1, k2⟩ := ih x c' h1 hc.1
    refine ⟨k1, fun _ => ?_⟩
    cases l with
    | nil => cases h1; exact hc.2
    | cons a b => exact k2 (by simp)
theorem st_body (h : stC F K r c = some c') (k : g_M → Option (Int32 × g_M)) : ((f7_copy F 47 35 c).bind (fun r5 => (f4_layOut F (nI r) 47 r5).bind (fun r6 => (f0_start F 47 (1 : Int32) r6).bind (fun r7 => (f0_pass F (20 : Int32) r7).bind (fun r8 => (f7_allPence F 47 r8).bind (fun r9 => (f4_weigh F (nI r) r9 r8).bind k)))))) = k c' := by
  unfold stC at h
  obtain ⟨_, e1, h⟩ := g_bind h
  obtain ⟨_, e2, h⟩ := g_bind h
  obtain ⟨_, e3, h⟩ := g_bind h
  obtain ⟨_, e4, h⟩ := g_bind h
  obtain ⟨_, e5, h⟩ := g_bind h
  obtain ⟨y, e6, h⟩ := g_bind h
  rw [e1, g_bs, e2, g_bs, e3, g_bs, e4, g_bs, e5, g_bs, e6, g_bs]
  by_cases z : y.1 57 0 = nI K ∧ y.1 57 3 = nI 1
  · rw [if_pos z] at h; cases h; rfl
  · rw [if_neg z] at h; cases h
theorem range_pre (n : Nat) : ∀ k, ∃ l2, List.range (n + k) = List.range n ++ l2 := by
  intro k
  induction k with
  | zero => exact ⟨[], by rw [List.append_nil]; rfl⟩
  | succ k ih =>
    obtain ⟨l2, h⟩ := ih
    exact ⟨l2 ++ [n + k], by rw [show n + (k + 1) = (n + k) + 1 by omega, List.range_succ, h, List.append_assoc]⟩
theorem q_orows (hF : 5000 < F) (hK : K ≤ 4) (h57 : c.1 57 0 = nI K) (h : rnC F K ((List.range 256).filter (isRowN K)) c = some c') (a1 : Int32) : ∃ sf, f10_order_b26 F a1 (0 : Int32) c = f10_order_b26_body F a1 sf (nI 256) c' := by
  have key := g_for1 (b := fun sf (x : Int32 × g_M) => f10_order_b26_body F a1 (fun v2 mem => sf (v2, mem)) x.1 x.2) (fun n x => ∃ mem, x = (nI n, mem) ∧ rnC F K ((List.range n).filter (isRowN K)) c = some mem) 256 (fun n x hn hx => by
      obtain ⟨mem, rfl, x1⟩ := hx
      have m57 := (rn_wd _ _ _ x1 h57).1
      have hs : (List.range (n + 1)).filter (isRowN K) = (List.range n).filter (isRowN K) ++ (if isRowN K n = true then [n] else []) := by
        rw [List.range_succ, List.filter_append]
        congr 1
        by_cases z : isRowN K n = true
        · rw [List.filter_cons_of_pos z, if_pos z]; rfl
        · rw [List.filter_cons_of_neg z, if_neg z]; rfl
      have hpre : ∃ y, rnC F K ((List.range (n + 1)).filter (isRowN K)) c = some y := by
        obtain ⟨l2, hl⟩ := range_pre (n + 1) (256 - (n + 1))
        rw [show n + 1 + (256 - (n + 1)) = 256 by omega] at hl
        rw [hl, List.filter_append, rnC_app] at h
        obtain ⟨y, hy, _⟩ := g_bind h
        exact ⟨y, hy⟩
      obtain ⟨y, hy⟩ := hpre
      have hrow := q_isRow (F := F) hF hK hn m57
      by_cases z : isRowN K n = true
      · have hst : stC F K n mem = some y := by
          rw [hs, if_pos z, rnC_app, x1, g_bs] at hy
          obtain ⟨w, hw, h2⟩ := g_bind (show (stC F K n mem).bind (rnC F K []) = some y from hy)
          cases h2; exact hw
        refine ⟨_, ⟨y, rfl, hy⟩, fun sf => ?_⟩
        show f10_order_b26_body F a1 _ (nI n) mem = _
        unfold f10_order_b26_body
        rw [if_pos (show nI n < (256 : Int32) from (g_ltN (b := 256) (by omega) (by omega)).mpr hn), hrow, if_pos z, g_bs, if_neg nI10, st_body hst]
        unfold f10_order_b103
        rw [g_let_e, nI_s]
      · refine ⟨_, ⟨mem, rfl, by rw [hs, if_neg z, List.append_nil]; exact x1⟩, fun sf => ?_⟩
        show f10_order_b26_body F a1 _ (nI n) mem = _
        unfold f10_order_b26_body f10_order_b103
        rw [if_pos (show nI n < (256 : Int32) from (g_ltN (b := 256) (by omega) (by omega)).mpr hn), hrow, if_neg z, g_bs, if_pos nI00, g_let_e, nI_s]) (s := ((0 : Int32), c)) ⟨c, rfl, rfl⟩ (F := F) (by omega)
  obtain ⟨_, ⟨mem, rfl, x1⟩, sf, e⟩ := key
  rw [h] at x1
  cases x1
  exact ⟨_, e⟩
def tgoP (m : g_M) (n : Nat) : Bool := decide (m.1 35 n = nI 0)
theorem or_choose (hF : 5000 < F) (hTS : TS c m T 35 0) : ∃ (K : Nat) (fo : Nat → Nat) (c1 m1 : g_M), K ≤ 4 ∧ f4_choose F 35 c = some c1 ∧ (∀ a1, f11_order_b25 F a1 (0 : Int32) (g_sI m 0 62 (0 : Int32)) = f11_order_b81 F a1 m1) ∧ c1.2.2 = c.2.2 ∧ (∀ o, o ≠ 57 → o ≠ 59 → c1.1 o = c.1 o) ∧ (∀ o k, ¬ (o = 0 ∧ k = 62) → o ≠ 36 → m1.1 o k = m.1 o k) ∧ c1.1 57 0 = nI K ∧ c1.1 57 3 = nI 0 ∧ m1.1 0 62 = nI K ∧ ∀ j, j < K → fo j < 12 ∧ c1.1 59 j = nI (fo j) ∧ m1.1 36 j = nI (fo j) := by
  obtain ⟨hT, ht, hf, hp0, hW, hR, hWS, hRS⟩ := id hTS
  obtain ⟨vN, bN⟩ := hWS.1.2.2
  obtain ⟨⟨_, _, _, eN⟩, _, _, eSend, _⟩ := id hRS
  have hEle := fstP_le (fun n => decide (cntP (tgoP m) n = 4)) (vl m 27 0)
  have hEno := fstP_no (fun n => decide (cntP (tgoP m) n = 4)) (vl m 27 0)
  have hEyes := fstP_yes (fun n => decide (cntP (tgoP m) n = 4)) (vl m 27 0)
  generalize fstP (fun n => decide (cntP (tgoP m) n = 4)) (vl m 27 0) = E at *
  have c4 : ∀ n, n ≤ E → cntP (tgoP m) n ≤ 4 := by
    intro n
    induction n with
    | zero => intro _; exact Nat.zero_le _
    | succ n ih =>
      intro hn
      have h1 := ih (by omega)
      have h2 := hEno n (by omega)
      simp only [decide_eq_false_iff_not] at h2
      rw [cntP_s]
      split <;> omega
  have c3 : ∀ n, n < E → cntP (tgoP m) n < 4 := fun n hn => by
    have h1 := c4 n (by omega)
    have h2 := hEno n hn
    simp only [decide_eq_false_iff_not] at h2
    omega
  have key := fun a1 => g_for2 (b := fun sf (x : Int32 × g_M) => f4_choose_b12_body F 35 (fun v2 mem => sf (v2, mem)) x.1 x.2) (b' := fun sf (x : Int32 × g_M) => f11_order_b25_body F a1 (fun v2 mem => sf (v2, mem)) x.1 x.2)
    (fun n x y => ∃ cc mm, x = (nI n, cc) ∧ y = (nI n, mm) ∧ cc = itI (fun j q => if tgoP m j = true then g_sI (g_sI q 59 (cntP (tgoP m) j) (nI j)) 57 0 (nI (cntP (tgoP m) j + 1)) else q) n (g_sI (g_sI c 57 3 (0 : Int32)) 57 0 (0 : Int32)) ∧ mm = itI (fun j q => if tgoP m j = true then g_sI (g_sI q 36 (cntP (tgoP m) j) (nI j)) 0 62 (nI (cntP (tgoP m) j + 1)) else q) n (g_sI m 0 62 (0 : Int32)) ∧ cc.2.2 = c.2.2 ∧ (∀ o, o ≠ 57 → o ≠ 59 → cc.1 o = c.1 o) ∧ (∀ o k, ¬ (o = 0 ∧ k = 62) → o ≠ 36 → mm.1 o k = m.1 o k) ∧ cc.1 57 0 = nI (cntP (tgoP m) n) ∧ cc.1 57 3 = nI 0 ∧ mm.1 0 62 = nI (cntP (tgoP m) n) ∧ ∃ fo : Nat → Nat, ∀ j, j < cntP (tgoP m) n → fo j < 12 ∧ cc.1 59 j = nI (fo j) ∧ mm.1 36 j = nI (fo j)) E (fun n x y hn hxy => by
      obtain ⟨cc, mm, rfl, rfl, ec, em, h1, h2, h3, h4, h5, h6, fo, h7⟩ := hxy
      have hlt := c3 n hn
      have hs : f7_sendingAt F 35 (nI n) (3 : Int32) cc = some (m.1 35 n) := by
        have hTM : TS cc m T 35 0 := TS_fr hTS (by rw [h1]) (fun o a b => h2 o (by have := isT_le hT; omega) (by have := isT_le hT; omega)) (fun o k a b => by rw [h2 o (by omega) (by omega)]) (fun _ _ _ => rfl) (fun _ _ _ _ => rfl)
        have h0 : f7_sendingAt F 35 (nI n) (3 : Int32) cc = _ := q_sendingAt (F := F) hTM (n := n) (k := 3) (by omega) (by omega)
        obtain ⟨_, _, _, z4⟩ := eSend n (by omega)
        rw [Nat.mul_zero, Nat.zero_add] at z4
        rw [h0, h2 39 (by omega) (by omega)]; exact congrArg some z4
      have eC : ∀ sf, f4_choose_b12_body F 35 sf (nI n) cc = sf (nI (n + 1)) (if tgoP m n = true then g_sI (g_sI cc 59 (cntP (tgoP m) n) (nI n)) 57 0 (nI (cntP (tgoP m) n + 1)) else cc) := fun sf => by
        unfold f4_choose_b12_body f4_choose_b57
        rw [h2 35 (by omega) (by omega), show c.1 35 7 = nI (vl m 27 0) from eN.trans vN, if_pos ((g_ltN (by omega) (by omega)).mpr (by omega)), h4, if_pos (show nI (cntP (tgoP m) n) < (4 : Int32) from (g_ltN (b := 4) (by omega) (by omega)).mpr hlt), hs, g_bs]
        by_cases z : tgoP m n = true
        · have z' : m.1 35 n = (0 : Int32) := by unfold tgoP at z; simp only [decide_eq_true_eq] at z; exact z
          rw [if_pos z', if_pos z, g_ckN (by omega) (by omega), g_clN (by omega), g_let_e, g_let_e, g_let_e, sI_o (by omega), h4, nI_s, nI_s]
        · have z' : ¬ m.1 35 n = (0 : Int32) := by unfold tgoP at z; simp only [decide_eq_true_eq] at z; exact z
          rw [if_neg z', if_neg z, g_let_e, nI_s]
      have eM : ∀ sf, f11_order_b25_body F a1 sf (nI n) mm = sf (nI (n + 1)) (if tgoP m n = true then g_sI (g_sI mm 36 (cntP (tgoP m) n) (nI n)) 0 62 (nI (cntP (tgoP m) n + 1)) else mm) := fun sf => by
        unfold f11_order_b25_body f11_order_b75
        rw [show g_ck (0 : Int32) 23 = g_ck (nI 0) 23 from rfl, g_ckN (by omega) (by omega), show (0 : Int32).toNatClampNeg = 0 from rfl, h3 27 0 (by omega) (by omega), vN, if_pos ((g_ltN (by omega) (by omega)).mpr (by omega)), h6, if_pos (show nI (cntP (tgoP m) n) < (4 : Int32) from (g_ltN (b := 4) (by omega) (by omega)).mpr hlt), g_ckN (by omega) (by omega), g_clN (by omega), h3 35 n (by omega) (by omega)]
        by_cases z : tgoP m n = true
        · have z' : m.1 35 n = (0 : Int32) := by unfold tgoP at z; simp only [decide_eq_true_eq] at z; exact z
          rw [if_pos z', if_pos z, g_ckN (by omega) (by omega), g_clN (by omega), g_let_e, g_let_e, g_let_e, sI_o (by omega), h6, nI_s, nI_s]
        · have z' : ¬ m.1 35 n = (0 : Int32) := by unfold tgoP at z; simp only [decide_eq_true_eq] at z; exact z
          rw [if_neg z', if_neg z, g_let_e, nI_s]
      refine ⟨_, _, ⟨_, _, rfl, rfl, by rw [ec]; rfl, by rw [em]; rfl, ?_⟩, fun sf => eC _, fun sf => eM _⟩
      show (if tgoP m n = true then g_sI (g_sI cc 59 (cntP (tgoP m) n) (nI n)) 57 0 (nI (cntP (tgoP m) n + 1)) else cc).2.2 = c.2.2 ∧ (∀ o, o ≠ 57 → o ≠ 59 → (if tgoP m n = true then g_sI (g_sI cc 59 (cntP (tgoP m) n) (nI n)) 57 0 (nI (cntP (tgoP m) n + 1)) else cc).1 o = c.1 o) ∧ (∀ o k, ¬ (o = 0 ∧ k = 62) → o ≠ 36 → (if tgoP m n = true then g_sI (g_sI mm 36 (cntP (tgoP m) n) (nI n)) 0 62 (nI (cntP (tgoP m) n + 1)) else mm).1 o k = m.1 o k) ∧ (if tgoP m n = true then g_sI (g_sI cc 59 (cntP (tgoP m) n) (nI n)) 57 0 (nI (cntP (tgoP m) n + 1)) else cc).1 57 0 = nI (cntP (tgoP m) (n + 1)) ∧ (if tgoP m n = true then g_sI (g_sI cc 59 (cntP (tgoP m) n) (nI n)) 57 0 (nI (cntP (tgoP m) n + 1)) else cc).1 57 3 = nI 0 ∧ (if tgoP m n = true then g_sI (g_sI mm 36 (cntP (tgoP m) n) (nI n)) 0 62 (nI (cntP (tgoP m) n + 1)) else mm).1 0 62 = nI (cntP (tgoP m) (n + 1)) ∧ ∃ fo : Nat → Nat, ∀ j, j < cntP (tgoP m) (n + 1) → fo j < 12 ∧ (if tgoP m n = true then g_sI (g_sI cc 59 (cntP (tgoP m) n) (nI n)) 57 0 (nI (cntP (tgoP m) n + 1)) else cc).1 59 j = nI (fo j) ∧ (if tgoP m n = true then g_sI (g_sI mm 36 (cntP (tgoP m) n) (nI n)) 0 62 (nI (cntP (tgoP m) n + 1)) else mm).1 36 j = nI (fo j)
      rw [cntP_s]
      by_cases z : tgoP m n = true
      · simp only [if_pos z]
        refine ⟨h1, fun o a b => by rw [sI_o a, sI_o b]; exact h2 o a b, fun o k a b => by rw [sI_ne a, sI_o b]; exact h3 o k a b, sI_eq, by rw [sI_ne (by omega), sI_o (by omega)]; exact h5, sI_eq, fun j => if j = cntP (tgoP m) n then n else fo j, fun j hj => ?_⟩
        rw [sI_o (show (59 : Nat) ≠ 57 by omega), sI_o (show (36 : Nat) ≠ 0 by omega), sI_at, sI_at]
        by_cases e : j = cntP (tgoP m) n
        · simp only [if_pos e]; exact ⟨by omega, trivial, trivial⟩
        · simp only [if_neg e]; exact h7 j (by omega)
      · simp only [if_neg z]
        exact ⟨h1, h2, h3, h4, h5, h6, fo, h7⟩) (s := ((0 : Int32), g_sI (g_sI c 57 3 (0 : Int32)) 57 0 (0 : Int32))) (t := ((0 : Int32), g_sI m 0 62 (0 : Int32))) ⟨_, _, rfl, rfl, rfl, rfl, rfl, fun o a b => by rw [sI_o a, sI_o a], fun o k a b => sI_ne a, sI_eq, by rw [sI_ne (by omega), sI_eq]; rfl, sI_eq, fun _ => 0, fun j hj => absurd hj (Nat.not_lt_zero j)⟩ (F := F) (by omega)
  obtain ⟨_, _, ⟨c1, m1, rfl, rfl, ec, em, h1, h2, h3, h4, h5, h6, fo, h7⟩, ⟨sf, e1⟩, _⟩ := key 0
  refine ⟨cntP (tgoP m) E, fo, c1, m1, c4 E (Nat.le_refl _), ?_, fun a1 => ?_, h1, h2, h3, h4, h5, h6, h7⟩
  · unfold f4_choose f4_choose_b12
    rw [g_let_e, g_let_e, e1]
    show f4_choose_b12_body F 35 _ (nI E) c1 = _
    unfold f4_choose_b12_body
    rw [h2 35 (by omega) (by omega), show c.1 35 7 = nI (vl m 27 0) from eN.trans vN]
    by_cases z : E < vl m 27 0
    · have := hEyes z
      simp only [decide_eq_true_eq] at this
      rw [if_pos ((g_ltN (by omega) (by omega)).mpr z), h4, this, if_neg (show ¬ nI 4 < (4 : Int32) by decide)]
    · rw [if_neg (fun y => z ((g_ltN (by omega) (by omega)).mp y))]
  · obtain ⟨_, _, ⟨c1', m1', rfl, rfl, ec', em', _⟩, _, ⟨sf', e2⟩⟩ := key a1
    have hmm : m1' = m1 := em'.trans em.symm
    subst hmm
    unfold f11_order_b25
    rw [e2]
    show f11_order_b25_body F a1 _ (nI E) m1' = _
    unfold f11_order_b25_body
    rw [show g_ck (0 : Int32) 23 = g_ck (nI 0) 23 from rfl, g_ckN (by omega) (by omega), show (0 : Int32).toNatClampNeg = 0 from rfl, h3 27 0 (by omega) (by omega), vN]
    by_cases z : E < vl m 27 0
    · have := hEyes z
      simp only [decide_eq_true_eq] at this
      rw [if_pos ((g_ltN (by omega) (by omega)).mpr z), h6, this, if_neg (show ¬ nI 4 < (4 : Int32) by decide)]
    · rw [if_neg (fun y => z ((g_ltN (by omega) (by omega)).mp y))]
theorem s_order (hF : 5000 < F) (h : INV c m) (a1 : Int32) : CALL (f10_order F a1 c) (f11_order F a1 m) := by
  refine call_of h (fun T S m1 hV hC hI hTa hFl hA hS hG => ?_)
  unfold f10_order f10_order_b9 f11_order_b14
  by_cases ha : okI a1 5
  rotate_left
  · rcases not_span (n := 4) (by omega) ha with z | ⟨z1, z2⟩
    · rw [if_neg z, if_neg z]; exact ⟨_, _, _, rfl, rfl, hV⟩
    · have z3 := Int32.not_le.mp (show ¬ a1 ≤ (4 : Int32) from z2)
      rw [if_pos z1, if_pos z1, if_pos z3, if_pos z3]; exact ⟨_, _, _, rfl, rfl, hV⟩
  obtain ⟨w, hw, rfl⟩ := ha
  have w1 : (0 : Int32) ≤ nI w := nI_ge0 (by omega)
  have w2 : ¬ (4 : Int32) < nI w := fun z => by have := (g_ltN (a := 4) (by omega) (by omega)).mp z; omega
  rw [if_pos w1, if_pos w1, if_neg w2, if_neg w2, g_let_e]
  obtain ⟨K, fo, c1, m2, hK, k1, k2, k3, k4, k5, k6, k7, k8, k9⟩ := or_choose (F := F) hF hG.1
  rw [k1, g_bs, k2]
  have e64 : ∀ o k, ¬ (o = 0 ∧ (k = 62 ∨ k = 64)) → o ≠ 36 → (g_sI m2 0 64 (0 : Int32)).1 o k = m1.1 o k := fun o k a b => by rw [sI_ne (by omega)]; exact k5 o k (by omega) b
  have hJ : OJ m1 K fo c1 (g_sI m2 0 64 (0 : Int32)) := by
    refine ⟨INV_fr hV (fun o k _ => by rw [k3]) (fun o k z => by rw [k4 o (by unfold relC at z; omega) (by unfold relC at z; omega)]) (fun o k z => e64 o k (by unfold relM at z; omega) (by unfold relM at z; omega)) (AB_fr hA (k4 54 (by omega) (by omega)) (by rw [k4 53 (by omega) (by omega)]) (e64 0 56 (by omega) (by omega))), fun o k z => e64 o k (by unfold relM at z; omega) (by unfold relM at z; omega), k6, by rw [sI_ne (by omega)]; exact k8, fun j hj => by rw [sI_o (by omega)]; exact k9 j hj, Or.inl ⟨k7, sI_eq⟩⟩
  obtain ⟨c', m', e1, e2, e3, _⟩ := or_rows (F := F) hF (m0 := m1) (fo := fo) hK K 0 0 0 (by omega) (Or.inl rfl) (by rw [if_neg (by omega)]; exact Nat.le_refl _) (by omega) (fun j hj => absurd hj (Nat.not_lt_zero j)) 8 c1 (g_sI m2 0 64 (0 : Int32)) (by omega) hJ (fun j hj => absurd hj (Nat.not_lt_zero j))
  have hrows := rows_eq ⟨K, by omega⟩
  have hne := rows_ne ⟨K, by omega⟩
  have e1' : rnC F K ((List.range 256).filter (isRowN K)) c1 = some c' := by rw [show (List.range 256).filter (isRowN K) = lvs K K 0 0 0 from hrows]; exact e1
  obtain ⟨sf, e4⟩ := q_orows (F := F) hF hK k6 e1' (nI w)
  have hwd := (rn_wd _ _ _ e1 k6).2 hne
  obtain ⟨y1, y2, y3, y4, y5, y6⟩ := e3
  obtain ⟨T', S', hC', _⟩ := INV_un y1
  have hTS' := hC'.2.2.2.1
  unfold f11_order_b81
  rw [e4, g_let_e, show fgR F 8 (0 : Int32) (0 : Int32) (g_sI m2 0 64 (0 : Int32)) = _ from e2, g_bs]
  unfold f10_order_b26_body
  rw [if_neg (show ¬ nI 256 < (256 : Int32) by decide)]
  rcases y6 with ⟨z1, _⟩ | ⟨z1, z2, Q, q1, q2, q3, q4⟩
  · rw [hwd] at z1; exact absurd z1 nI10
  by_cases hw4 : w = 4
  · subst hw4
    have e28 : ∀ p, p < 5 → m'.1 28 (5 * 0 + p) = m1.1 28 (5 * 0 + p) := fun p hp => y2 28 _ (Or.inr (Or.inr (Or.inl ⟨by omega, by omega, inD_ne (in28 (f := 0) hp) (by omega)⟩)))
    have e20 : vl m' 2 0 = vl m1 2 0 := by unfold vl; rw [y2 2 0 (by unfold relM; omega)]
    have ps0 : psum m' 0 = psum m1 0 := by
      unfold psum
      rw [e20]
      have h5 : vl m1 2 0 ≤ 5 := hG.1.2.2.2.2.1.1.1.2
      exact sumN_congr (fun i hi => by unfold vl; rw [e28 i (by omega)])
    rw [if_pos (show nI 4 = (4 : Int32) from rfl), if_pos (show nI 4 = (4 : Int32) from rfl), (q_allPence hF hTS').trans (congrArg some (psum_eq hTS'.2.2.2.2.2.2.1)), g_bs, q2, q3, ps0]
    exact ⟨_, _, _, rfl, rfl, y1⟩
  · have n4 : ¬ nI w = (4 : Int32) := fun z => hw4 ((g_eqN (b := 4) (by omega) (by omega)).mp z)
    rw [if_neg n4, if_neg n4, y3, y4]
    by_cases hwK : w < K
    · rw [if_pos ((g_ltN (by omega) (by omega)).mpr hwK), if_pos ((g_ltN (by omega) (by omega)).mpr hwK), g_ckN (by omega) (by omega), g_ckN (by omega) (by omega), g_clN (by omega), q4 w hwK]
      exact ⟨_, _, _, rfl, rfl, y1⟩
    · have nn : ¬ nI w < nI K := fun z => hwK ((g_ltN (by omega) (by omega)).mp z)
      rw [if_neg nn, if_neg nn]
      exact ⟨_, _, _, rfl, rfl, y1⟩
end L
