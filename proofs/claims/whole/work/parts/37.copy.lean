/-! a state copied, a state begun -/
def fmX (m m' : g_M) (f : Nat) : Prop := m'.2.2 = m.2.2 ∧ ∀ o k, ¬ inD o k f → m'.1 o k = m.1 o k
theorem fmX.rfl' (m : g_M) (f : Nat) : fmX m m f := ⟨rfl, fun _ _ _ => rfl⟩
theorem fmX.trans {a b c : g_M} {f : Nat} (h : fmX a b f) (h' : fmX b c f) : fmX a c f := ⟨h'.1.trans h.1, fun o k x => (h'.2 o k x).trans (h.2 o k x)⟩
theorem fmX.D {a b : g_M} {f : Nat} (h : fmX a b f) : fmD a b f := ⟨h.1, fun o k _ y => h.2 o k y⟩
theorem fmX.sI {a b : g_M} {f o k : Nat} {v : Int32} (h : fmX a b f) (ho : inD o k f) : fmX a (g_sI b o k v) f := ⟨h.1, fun o' k' y => by rw [sI_ne (fun e => by obtain ⟨e1, e2⟩ := e; subst e1; subst e2; exact y ho)]; exact h.2 o' k' y⟩
section C
variable {F : Nat} {c m : g_M} {T t f : Nat}
/-- arrays lo .. hi, w wide: dock a copied to dock b, up to i -/
def CPY (m m' : g_M) (lo hi w b a i : Nat) : Prop := m'.2.2 = m.2.2 ∧ (∀ o k, ¬ (lo ≤ o ∧ o ≤ hi ∧ w * b ≤ k ∧ k < w * b + w) → m'.1 o k = m.1 o k) ∧ ∀ o k, lo ≤ o → o ≤ hi → k < i → m'.1 o (w * b + k) = m.1 o (w * a + k)
theorem CPY.z (m : g_M) (lo hi w b a : Nat) : CPY m m lo hi w b a 0 := ⟨rfl, fun _ _ _ => rfl, fun _ _ _ _ h => absurd h (Nat.not_lt_zero _)⟩
theorem dk_ne {w a b i : Nat} (hab : a ≠ b) (hi : i < w) : ¬ (w * b ≤ w * a + i ∧ w * a + i < w * b + w) := by
  intro ⟨h1, h2⟩
  rcases Nat.lt_or_gt_of_ne hab with h | h
  · have := Nat.mul_le_mul_left w (show a + 1 ≤ b by omega)
    rw [Nat.mul_add] at this; omega
  · have := Nat.mul_le_mul_left w (show b + 1 ≤ a by omega)
    rw [Nat.mul_add] at this; omega
theorem CPY.src {m m' : g_M} {lo hi w b a i : Nat} (h : CPY m m' lo hi w b a i) (hab : a ≠ b) {o k : Nat} (hk : k < w) : m'.1 o (w * a + k) = m.1 o (w * a + k) :=
  h.2.1 o _ (fun z => dk_ne hab hk z.2.2)
theorem CPY.step {m m' m'' : g_M} {lo hi w b a i : Nat} (h : CPY m m' lo hi w b a i) (hi2 : i < w) (hr : m''.2.2 = m'.2.2) (hf : ∀ o k, ¬ (lo ≤ o ∧ o ≤ hi ∧ k = w * b + i) → m''.1 o k = m'.1 o k) (hv : ∀ o, lo ≤ o → o ≤ hi → m''.1 o (w * b + i) = m.1 o (w * a + i)) : CPY m m'' lo hi w b a (i + 1) := by
  refine ⟨hr.trans h.1, fun o k hk => ?_, fun o k h1 h2 h3 => ?_⟩
  · rw [hf o k (fun z => hk ⟨z.1, z.2.1, by omega, by omega⟩)]; exact h.2.1 o k hk
  · by_cases e : k = i
    · subst e; exact hv o h1 h2
    · rw [hf o _ (fun z => e (by omega))]; exact h.2.2 o k h1 h2 (by omega)
theorem cp28 (hF : 5000 < F) {a b : Nat} (ha : a < 23) (hb : b < 23) (hab : a ≠ b) : ∃ m', f11_copies_b50 F (nI b) (nI a) (nI 0) m = f11_copies_b83 F (nI b) (nI a) (nI 0) m' ∧ CPY m m' 28 28 5 b a 5 := by
  unfold f11_copies_b50
  obtain ⟨⟨x1, m'⟩, ⟨h1, h2⟩, sf, e⟩ := g_for1 (b := fun sf (x : Int32 × g_M) => f11_copies_b50_body F (nI b) (nI a) (fun v3 mem => sf (v3, mem)) x.1 x.2) (fun i x => x.1 = nI i ∧ CPY m x.2 28 28 5 b a i) 5 (by
    rintro i ⟨x1, m1⟩ hi ⟨h1, h2⟩
    simp only at h1 h2
    subst h1
    refine ⟨(nI (i + 1), g_sI m1 28 (5 * b + i) (m1.1 28 (5 * a + i))), ⟨rfl, h2.step hi rfl (fun o k hk => sI_ne (fun z => hk ⟨by omega, by omega, z.2⟩)) (fun o h3 h4 => ?_)⟩, fun sf => ?_⟩
    · obtain rfl : o = 28 := by omega
      rw [sI_eq]; exact h2.src hab hi
    · simp (disch := omega) only [g_let, g_bs, g_l0, g_l1, g_l2, g_l3, g_l4, g_l5, g_l6, g_l7, g_l8, g_l9, g_l10, g_l11, g_l12, g_l15, g_l20, g_l24, g_l25, g_l30, g_l40, g_l99, g_l100, g_ckN, g_clN, g_ltN, g_leN, g_eqN, pk_mul, nI_add, if_true, if_false, Nat.reduceLT, Nat.reduceLeDiff, Nat.reduceEqDiff, Nat.lt_irrefl, f11_copies_b50_body, hi]) (s := (nI 0, m)) ⟨rfl, CPY.z _ _ _ _ _ _⟩ (F := F) (by omega)
  simp only at h1 h2
  subst h1
  refine ⟨m', ?_, h2⟩
  rw [e]
  simp (disch := omega) only [g_let, g_bs, g_l0, g_l1, g_l2, g_l3, g_l4, g_l5, g_l6, g_l7, g_l8, g_l9, g_l10, g_l11, g_l12, g_l15, g_l20, g_l24, g_l25, g_l30, g_l40, g_l99, g_l100, g_ckN, g_clN, g_ltN, g_leN, g_eqN, pk_mul, nI_add, if_true, if_false, Nat.reduceLT, Nat.reduceLeDiff, Nat.reduceEqDiff, Nat.lt_irrefl, f11_copies_b50_body]
theorem cp29 (hF : 5000 < F) {a b : Nat} (ha : a < 23) (hb : b < 23) (hab : a ≠ b) : ∃ m', f11_copies_b83 F (nI b) (nI a) (nI 0) m = f11_copies_b141 F (nI b) (nI a) (nI 0) m' ∧ CPY m m' 29 30 25 b a 25 := by
  unfold f11_copies_b83
  obtain ⟨⟨x1, m'⟩, ⟨h1, h2⟩, sf, e⟩ := g_for1 (b := fun sf (x : Int32 × g_M) => f11_copies_b83_body F (nI b) (nI a) (fun v3 mem => sf (v3, mem)) x.1 x.2) (fun i x => x.1 = nI i ∧ CPY m x.2 29 30 25 b a i) 25 (by
    rintro i ⟨x1, m1⟩ hi ⟨h1, h2⟩
    simp only at h1 h2
    subst h1
    refine ⟨(nI (i + 1), g_sI (g_sI m1 29 (25 * b + i) (m1.1 29 (25 * a + i))) 30 (25 * b + i) (m1.1 30 (25 * a + i))), ⟨rfl, h2.step hi rfl (fun o k hk => ?_) (fun o h3 h4 => ?_)⟩, fun sf => ?_⟩
    · rw [sI_ne (fun z => hk ⟨by omega, by omega, z.2⟩), sI_ne (fun z => hk ⟨by omega, by omega, z.2⟩)]
    · rcases (show o = 29 ∨ o = 30 by omega) with rfl | rfl
      · rw [sI_o (by omega), sI_eq]; exact h2.src hab hi
      · rw [sI_eq]; exact h2.src hab hi
    · have z : (g_sI m1 29 (25 * b + i) (m1.1 29 (25 * a + i))).1 30 (25 * a + i) = m1.1 30 (25 * a + i) := by rw [sI_o (by omega)]
      simp (disch := omega) only [g_let, g_bs, g_l0, g_l1, g_l2, g_l3, g_l4, g_l5, g_l6, g_l7, g_l8, g_l9, g_l10, g_l11, g_l12, g_l15, g_l20, g_l24, g_l25, g_l30, g_l40, g_l99, g_l100, g_ckN, g_clN, g_ltN, g_leN, g_eqN, pk_mul, nI_add, if_true, if_false, Nat.reduceLT, Nat.reduceLeDiff, Nat.reduceEqDiff, Nat.lt_irrefl, f11_copies_b83_body, hi, z]) (s := (nI 0, m)) ⟨rfl, CPY.z _ _ _ _ _ _⟩ (F := F) (by omega)
  simp only at h1 h2
  subst h1
  refine ⟨m', ?_, h2⟩
  rw [e]
  simp (disch := omega) only [g_let, g_bs, g_l0, g_l1, g_l2, g_l3, g_l4, g_l5, g_l6, g_l7, g_l8, g_l9, g_l10, g_l11, g_l12, g_l15, g_l20, g_l24, g_l25, g_l30, g_l40, g_l99, g_l100, g_ckN, g_clN, g_ltN, g_leN, g_eqN, pk_mul, nI_add, if_true, if_false, Nat.reduceLT, Nat.reduceLeDiff, Nat.reduceEqDiff, Nat.lt_irrefl, f11_copies_b83_body]
theorem cp31 (hF : 5000 < F) {a b : Nat} (ha : a < 23) (hb : b < 23) (hab : a ≠ b) : ∃ m', f11_copies_b141 F (nI b) (nI a) (nI 0) m = f11_copies_b177 F (nI b) (nI a) (nI 0) m' ∧ CPY m m' 31 31 8 b a 8 := by
  unfold f11_copies_b141
  obtain ⟨⟨x1, m'⟩, ⟨h1, h2⟩, sf, e⟩ := g_for1 (b := fun sf (x : Int32 × g_M) => f11_copies_b141_body F (nI b) (nI a) (fun v3 mem => sf (v3, mem)) x.1 x.2) (fun i x => x.1 = nI i ∧ CPY m x.2 31 31 8 b a i) 8 (by
    rintro i ⟨x1, m1⟩ hi ⟨h1, h2⟩
    simp only at h1 h2
    subst h1
    refine ⟨(nI (i + 1), g_sI m1 31 (8 * b + i) (m1.1 31 (8 * a + i))), ⟨rfl, h2.step hi rfl (fun o k hk => sI_ne (fun z => hk ⟨by omega, by omega, z.2⟩)) (fun o h3 h4 => ?_)⟩, fun sf => ?_⟩
    · obtain rfl : o = 31 := by omega
      rw [sI_eq]; exact h2.src hab hi
    · simp (disch := omega) only [g_let, g_bs, g_l0, g_l1, g_l2, g_l3, g_l4, g_l5, g_l6, g_l7, g_l8, g_l9, g_l10, g_l11, g_l12, g_l15, g_l20, g_l24, g_l25, g_l30, g_l40, g_l99, g_l100, g_ckN, g_clN, g_ltN, g_leN, g_eqN, pk_mul, nI_add, if_true, if_false, Nat.reduceLT, Nat.reduceLeDiff, Nat.reduceEqDiff, Nat.lt_irrefl, f11_copies_b141_body, hi]) (s := (nI 0, m)) ⟨rfl, CPY.z _ _ _ _ _ _⟩ (F := F) (by omega)
  simp only at h1 h2
  subst h1
  refine ⟨m', ?_, h2⟩
  rw [e]
  simp (disch := omega) only [g_let, g_bs, g_l0, g_l1, g_l2, g_l3, g_l4, g_l5, g_l6, g_l7, g_l8, g_l9, g_l10, g_l11, g_l12, g_l15, g_l20, g_l24, g_l25, g_l30, g_l40, g_l99, g_l100, g_ckN, g_clN, g_ltN, g_leN, g_eqN, pk_mul, nI_add, if_true, if_false, Nat.reduceLT, Nat.reduceLeDiff, Nat.reduceEqDiff, Nat.lt_irrefl, f11_copies_b141_body]
theorem cp32 (hF : 5000 < F) {a b : Nat} (ha : a < 23) (hb : b < 23) (hab : a ≠ b) : ∃ m', f11_copies_b177 F (nI b) (nI a) (nI 0) m = some m' ∧ CPY m m' 32 35 12 b a 12 := by
  unfold f11_copies_b177
  obtain ⟨⟨x1, m'⟩, ⟨h1, h2⟩, sf, e⟩ := g_for1 (b := fun sf (x : Int32 × g_M) => f11_copies_b177_body F (nI b) (nI a) (fun v3 mem => sf (v3, mem)) x.1 x.2) (fun i x => x.1 = nI i ∧ CPY m x.2 32 35 12 b a i) 12 (by
    rintro i ⟨x1, m1⟩ hi ⟨h1, h2⟩
    simp only at h1 h2
    subst h1
    refine ⟨(nI (i + 1), g_sI (g_sI (g_sI (g_sI m1 32 (12 * b + i) (m1.1 32 (12 * a + i))) 33 (12 * b + i) (m1.1 33 (12 * a + i))) 34 (12 * b + i) (m1.1 34 (12 * a + i))) 35 (12 * b + i) (m1.1 35 (12 * a + i))), ⟨rfl, h2.step hi rfl (fun o k hk => ?_) (fun o h3 h4 => ?_)⟩, fun sf => ?_⟩
    · rw [sI_ne (fun z => hk ⟨by omega, by omega, z.2⟩), sI_ne (fun z => hk ⟨by omega, by omega, z.2⟩), sI_ne (fun z => hk ⟨by omega, by omega, z.2⟩), sI_ne (fun z => hk ⟨by omega, by omega, z.2⟩)]
    · rcases (show o = 32 ∨ o = 33 ∨ o = 34 ∨ o = 35 by omega) with rfl | rfl | rfl | rfl
      · rw [sI_o (by omega), sI_o (by omega), sI_o (by omega), sI_eq]; exact h2.src hab hi
      · rw [sI_o (by omega), sI_o (by omega), sI_eq]; exact h2.src hab hi
      · rw [sI_o (by omega), sI_eq]; exact h2.src hab hi
      · rw [sI_eq]; exact h2.src hab hi
    · have z1 : ∀ v, (g_sI m1 32 (12 * b + i) v).1 33 (12 * a + i) = m1.1 33 (12 * a + i) := fun v => by rw [sI_o (by omega)]
      have z2 : ∀ v w, (g_sI (g_sI m1 32 (12 * b + i) v) 33 (12 * b + i) w).1 34 (12 * a + i) = m1.1 34 (12 * a + i) := fun v w => by rw [sI_o (by omega), sI_o (by omega)]
      have z3 : ∀ v w x, (g_sI (g_sI (g_sI m1 32 (12 * b + i) v) 33 (12 * b + i) w) 34 (12 * b + i) x).1 35 (12 * a + i) = m1.1 35 (12 * a + i) := fun v w x => by rw [sI_o (by omega), sI_o (by omega), sI_o (by omega)]
      simp (disch := omega) only [g_let, g_bs, g_l0, g_l1, g_l2, g_l3, g_l4, g_l5, g_l6, g_l7, g_l8, g_l9, g_l10, g_l11, g_l12, g_l15, g_l20, g_l24, g_l25, g_l30, g_l40, g_l99, g_l100, g_ckN, g_clN, g_ltN, g_leN, g_eqN, pk_mul, nI_add, if_true, if_false, Nat.reduceLT, Nat.reduceLeDiff, Nat.reduceEqDiff, Nat.lt_irrefl, f11_copies_b177_body, hi, z1, z2, z3]) (s := (nI 0, m)) ⟨rfl, CPY.z _ _ _ _ _ _⟩ (F := F) (by omega)
  simp only at h1 h2
  subst h1
  refine ⟨m', ?_, h2⟩
  rw [e]
  simp (disch := omega) only [g_let, g_bs, g_l0, g_l1, g_l2, g_l3, g_l4, g_l5, g_l6, g_l7, g_l8, g_l9, g_l10, g_l11, g_l12, g_l15, g_l20, g_l24, g_l25, g_l30, g_l40, g_l99, g_l100, g_ckN, g_clN, g_ltN, g_leN, g_eqN, pk_mul, nI_add, if_true, if_false, Nat.reduceLT, Nat.reduceLeDiff, Nat.reduceEqDiff, Nat.lt_irrefl, f11_copies_b177_body]
/-- dock b is as dock a was -/
def SAME (m m' : g_M) (b a : Nat) : Prop := (∀ o, 24 ≤ o → o ≤ 27 → m'.1 o b = m.1 o a) ∧ (∀ k, k < 5 → m'.1 28 (5 * b + k) = m.1 28 (5 * a + k)) ∧ (∀ o k, o = 29 ∨ o = 30 → k < 25 → m'.1 o (25 * b + k) = m.1 o (25 * a + k)) ∧ (∀ k, k < 8 → m'.1 31 (8 * b + k) = m.1 31 (8 * a + k)) ∧ (∀ o k, 32 ≤ o → o ≤ 35 → k < 12 → m'.1 o (12 * b + k) = m.1 o (12 * a + k))
theorem wd24 {o : Nat} (h : o < 28) : wd o = 1 := if_pos h
theorem wd29 {o : Nat} (h : o = 29 ∨ o = 30) : wd o = 25 := by rcases h with rfl | rfl <;> rfl
theorem wd32 {o : Nat} (h1 : 32 ≤ o) : wd o = 12 := by unfold wd; rw [if_neg (by omega), if_neg (by omega), if_neg (by omega), if_neg (by omega)]
theorem r_copies (hF : 5000 < F) {a b : Nat} (ha : a < 23) (hb : b < 23) (hab : a ≠ b) : ∃ m', f11_copies F (nI b) (nI a) m = some m' ∧ fmX m m' b ∧ SAME m m' b a := by
  generalize hm1 : g_sI (g_sI (g_sI (g_sI m 24 b (m.1 24 a)) 25 b (m.1 25 a)) 26 b (m.1 26 a)) 27 b (m.1 27 a) = m1
  obtain ⟨m2, g1, g2⟩ := cp28 (m := m1) hF ha hb hab
  obtain ⟨m3, g3, g4⟩ := cp29 (m := m2) hF ha hb hab
  obtain ⟨m4, g5, g6⟩ := cp31 (m := m3) hF ha hb hab
  obtain ⟨m5, g7, g8⟩ := cp32 (m := m4) hF ha hb hab
  have e1 : ∀ o k, ¬ (24 ≤ o ∧ o ≤ 27 ∧ k = b) → m1.1 o k = m.1 o k := by
    intro o k hk
    rw [← hm1, sI_ne (by omega), sI_ne (by omega), sI_ne (by omega), sI_ne (by omega)]
  have e2 : ∀ o, 24 ≤ o → o ≤ 27 → m1.1 o b = m.1 o a := by
    intro o h1 h2
    rw [← hm1]
    rcases (show o = 24 ∨ o = 25 ∨ o = 26 ∨ o = 27 by omega) with rfl | rfl | rfl | rfl
    · rw [sI_o (by omega), sI_o (by omega), sI_o (by omega), sI_eq]
    · rw [sI_o (by omega), sI_o (by omega), sI_eq]
    · rw [sI_o (by omega), sI_eq]
    · rw [sI_eq]
  have e3 : m1.2.2 = m.2.2 := by rw [← hm1]; rfl
  have n5 : ∀ o k, (o < 32 ∨ 35 < o) → m5.1 o k = m4.1 o k := fun o k h => g8.2.1 o k (by omega)
  have n4 : ∀ o k, (o < 31 ∨ 31 < o) → m4.1 o k = m3.1 o k := fun o k h => g6.2.1 o k (by omega)
  have n3 : ∀ o k, (o < 29 ∨ 30 < o) → m3.1 o k = m2.1 o k := fun o k h => g4.2.1 o k (by omega)
  have n2 : ∀ o k, (o < 28 ∨ 28 < o) → m2.1 o k = m1.1 o k := fun o k h => g2.2.1 o k (by omega)
  refine ⟨m5, ?_, ⟨by rw [g8.1, g6.1, g4.1, g2.1, e3], fun o k hk => ?_⟩, ?_, ?_, ?_, ?_, ?_⟩
  · have z1 : ∀ v, (g_sI m 24 b v).1 25 a = m.1 25 a := fun v => by rw [sI_o (by omega)]
    have z2 : ∀ v w, (g_sI (g_sI m 24 b v) 25 b w).1 26 a = m.1 26 a := fun v w => by rw [sI_o (by omega), sI_o (by omega)]
    have z3 : ∀ v w x, (g_sI (g_sI (g_sI m 24 b v) 25 b w) 26 b x).1 27 a = m.1 27 a := fun v w x => by rw [sI_o (by omega), sI_o (by omega), sI_o (by omega)]
    simp (disch := omega) only [g_let, g_bs, g_l0, g_l1, g_l2, g_l3, g_l4, g_l5, g_l6, g_l7, g_l8, g_l9, g_l10, g_l11, g_l12, g_l15, g_l20, g_l24, g_l25, g_l30, g_l40, g_l99, g_l100, g_ckN, g_clN, g_ltN, g_leN, g_eqN, pk_mul, nI_add, if_true, if_false, Nat.reduceLT, Nat.reduceLeDiff, Nat.reduceEqDiff, Nat.lt_irrefl, f11_copies, z1, z2, z3, hm1]
    rw [g1, g3, g5, g7]
  · have w1 : ¬ (32 ≤ o ∧ o ≤ 35 ∧ 12 * b ≤ k ∧ k < 12 * b + 12) := fun z => hk ⟨by omega, by omega, by rw [wd32 z.1]; exact z.2.2.1, by rw [wd32 z.1]; exact z.2.2.2⟩
    have w2 : ¬ (31 ≤ o ∧ o ≤ 31 ∧ 8 * b ≤ k ∧ k < 8 * b + 8) := fun z => hk ⟨by omega, by omega, by rw [show o = 31 by omega]; exact z.2.2.1, by rw [show o = 31 by omega]; exact z.2.2.2⟩
    have w3 : ¬ (29 ≤ o ∧ o ≤ 30 ∧ 25 * b ≤ k ∧ k < 25 * b + 25) := fun z => hk ⟨by omega, by omega, by rw [wd29 (by omega)]; exact z.2.2.1, by rw [wd29 (by omega)]; exact z.2.2.2⟩
    have w4 : ¬ (28 ≤ o ∧ o ≤ 28 ∧ 5 * b ≤ k ∧ k < 5 * b + 5) := fun z => hk ⟨by omega, by omega, by rw [show o = 28 by omega]; exact z.2.2.1, by rw [show o = 28 by omega]; exact z.2.2.2⟩
    have w5 : ¬ (24 ≤ o ∧ o ≤ 27 ∧ k = b) := fun z => hk ⟨by omega, by omega, by rw [wd24 (by omega)]; omega, by rw [wd24 (by omega)]; omega⟩
    rw [g8.2.1 o k w1, g6.2.1 o k w2, g4.2.1 o k w3, g2.2.1 o k w4, e1 o k w5]
  · intro o h1 h2
    rw [n5 o b (by omega), n4 o b (by omega), n3 o b (by omega), n2 o b (by omega), e2 o h1 h2]
  · intro k hk
    rw [n5 _ _ (by omega), n4 _ _ (by omega), n3 _ _ (by omega), g2.2.2 28 k (by omega) (by omega) hk, e1 _ _ (by omega)]
  · intro o k ho hk
    rw [n5 _ _ (by omega), n4 _ _ (by omega), g4.2.2 o k (by omega) (by omega) hk, n2 _ _ (by omega), e1 _ _ (by omega)]
  · intro k hk
    rw [n5 _ _ (by omega), g6.2.2 31 k (by omega) (by omega) hk, n3 _ _ (by omega), n2 _ _ (by omega), e1 _ _ (by omega)]
  · intro o k h1 h2 hk
    rw [g8.2.2 o k h1 h2 hk, n4 _ _ (by omega), n3 _ _ (by omega), n2 _ _ (by omega), e1 _ _ (by omega)]
theorem WS_same {m m' : g_M} {b a : Nat} (hW : WT m) (h : WS m a) (hs : SAME m m' b a) (h2 : m'.1 2 = m.1 2) : WS m' b := by
  obtain ⟨s1, s2, s3, s4, s5⟩ := hs
  obtain ⟨w1, w2, w3, w4, w5, w6, w7, w8⟩ := h
  have bP := hW.1.1.2
  have e24 := s1 24 (by omega) (by omega)
  have e25 := s1 25 (by omega) (by omega)
  have e27 := s1 27 (by omega) (by omega)
  have hv : ∀ k, vl m' 2 k = vl m 2 k := fun k => by unfold vl; rw [h2]
  have h27 : vl m' 27 b = vl m 27 a := by unfold vl; rw [e27]
  have b27 : vl m 27 a ≤ 12 := w1.2.2.2
  have rgE : ∀ o k o' k' v, m'.1 o k = m.1 o' k' → rg m o' k' v → rg m' o k v := fun o k o' k' v e r => by unfold rg vl at r ⊢; rw [e]; exact r
  have vlE : ∀ o k o' k', m'.1 o k = m.1 o' k' → vl m' o k = vl m o' k' := fun o k o' k' e => by unfold vl; rw [e]
  unfold WS
  refine ⟨⟨rgE _ _ _ _ _ e24 w1.1, rgE _ _ _ _ _ e25 w1.2.1, rgE _ _ _ _ _ e27 w1.2.2⟩, fun p hp => ?_, fun i hi => ?_, fun s p hs hp => ?_, fun s p q hs hp hq hpq => ?_, fun n hn => ?_, fun w hw => ?_, fun p s hp hs ho => ?_⟩
  · rw [hv] at hp
    exact rgE _ _ _ _ _ (s2 p (by omega)) (w2 p hp)
  · exact ⟨rgE _ _ _ _ _ (s3 29 i (by omega) hi) (w3 i hi).1, rgE _ _ _ _ _ (s3 30 i (by omega) hi) (w3 i hi).2⟩
  · rw [hv] at hp ⊢
    rw [vlE _ _ _ _ (s3 29 (5 * p + s) (by omega) (by omega))]; exact w4 s p hs hp
  · rw [hv] at hp hq
    rw [vlE _ _ _ _ (s3 29 (5 * p + s) (by omega) (by omega)), vlE _ _ _ _ (s3 29 (5 * q + s) (by omega) (by omega))] at hpq
    exact w5 s p q hs hp hq hpq
  · rw [h27] at hn
    rw [hv, hv, vlE _ _ _ _ (s5 32 n (by omega) (by omega) (by omega)), vlE _ _ _ _ (s5 33 n (by omega) (by omega) (by omega))]
    obtain ⟨a1, a2, a3, a4, a5, a6⟩ := w6 n hn
    exact ⟨rgE _ _ _ _ _ (s5 32 n (by omega) (by omega) (by omega)) a1, a2, rgE _ _ _ _ _ (s5 33 n (by omega) (by omega) (by omega)) a3, a4, rgE _ _ _ _ _ (s5 34 n (by omega) (by omega) (by omega)) a5, rgE _ _ _ _ _ (s5 35 n (by omega) (by omega) (by omega)) a6⟩
  · exact rgE _ _ _ _ _ (s4 w hw) (w7 w hw)
  · rw [hv, hv] at ho
    rw [s3 29 (5 * p + s) (by omega) (by omega)]; exact w8 p s hp hs ho
/-- the class's copy -/
def COPY (c c' : g_M) (t t1 : Nat) : Prop := (∀ o k, ¬ (o = t ∧ k = 0) → c'.2.2 o k = c.2.2 o k) ∧ c'.2.2 t 0 = c.2.2 t1 0 ∧ (∀ o, ¬ (t ≤ o ∧ o ≤ t + 5) → c'.1 o = c.1 o) ∧ (c'.1 t 1 = c.1 t1 1 ∧ c'.1 t 2 = c.1 t1 2 ∧ c'.1 t 3 = c.1 t1 3 ∧ c'.1 t 7 = c.1 t1 7) ∧ (∀ k, k < 5 → c'.1 (t + 1) k = c.1 (t1 + 1) k) ∧ (∀ k, k < 25 → c'.1 (t + 2) k = c.1 (t1 + 2) k ∧ c'.1 (t + 3) k = c.1 (t1 + 3) k) ∧ (∀ k, k < 48 → c'.1 (t + 4) k = c.1 (t1 + 4) k) ∧ (∀ k, k < 8 → c'.1 (t + 5) k = c.1 (t1 + 5) k)
theorem cI_o {m : g_M} {s sp d dp n a : Nat} (h : a ≠ d) : (g_cI m s sp d dp n).1 a = m.1 a := by rw [g_cI1, if_neg h]
theorem cI_at {m : g_M} {s d n k : Nat} (h : k < n) : (g_cI m s 0 d 0 n).1 d k = m.1 s k := by
  rw [g_cI1, if_pos rfl, pk_cpy_in (by omega) (by omega), Nat.sub_zero, Nat.zero_add]
theorem q_copy {t1 : Nat} (ht : isS t) (ht1 : isS t1) (hne : t ≠ t1) (hT : isT T) (hp : c.2.2 t1 0 = some T) : ∃ c', f7_copy F t t1 c = some c' ∧ COPY c c' t t1 := by
  have gt := fun {α : Type} {k : Nat → Option α} => g_drT (k := k) hp hT
  have hd : t + 5 < t1 ∨ t1 + 5 < t := by rcases ht with rfl | rfl | rfl <;> rcases ht1 with rfl | rfl | rfl <;> first | exact absurd rfl hne | omega
  have hs : ∀ k, k ≤ 5 → ∀ j, j ≤ 5 → t1 + k ≠ t + j := by intros; omega
  unfold f7_copy
  rw [gt]
  simp only [g_let, show (0 : Int32).toNatClampNeg = 0 from rfl, show (5 : Int32).toNatClampNeg = 5 from rfl, show (25 : Int32).toNatClampNeg = 25 from rfl, show (48 : Int32).toNatClampNeg = 48 from rfl, show (8 : Int32).toNatClampNeg = 8 from rfl]
  refine ⟨_, rfl, fun o k hk => ?_, ?_, fun o ho => ?_, ⟨?_, ?_, ?_, ?_⟩, fun k hk => ?_, fun k hk => ⟨?_, ?_⟩, fun k hk => ?_, fun k hk => ?_⟩
  · show (g_sR c t 0 (some T)).2.2 o k = _
    rw [g_sR22]
    by_cases h1 : o = t
    · rw [if_pos h1, if_neg (fun z => hk ⟨h1, z⟩)]
    · rw [if_neg h1]
  · show (g_sR c t 0 (some T)).2.2 t 0 = _
    rw [g_sR22, if_pos rfl, if_pos rfl, hp]
  · rw [cI_o (by omega), cI_o (by omega), cI_o (by omega), cI_o (by omega), cI_o (by omega), sI_o (by omega), sI_o (by omega), sI_o (by omega), sI_o (by omega)]; rfl
  · rw [cI_o (by omega), cI_o (by omega), cI_o (by omega), cI_o (by omega), cI_o (by omega), sI_ne (by omega), sI_ne (by omega), sI_ne (by omega), sI_eq]; rfl
  · rw [cI_o (by omega), cI_o (by omega), cI_o (by omega), cI_o (by omega), cI_o (by omega), sI_ne (by omega), sI_ne (by omega), sI_eq, sI_ne (by omega)]; rfl
  · rw [cI_o (by omega), cI_o (by omega), cI_o (by omega), cI_o (by omega), cI_o (by omega), sI_ne (by omega), sI_eq, sI_ne (by omega), sI_ne (by omega)]; rfl
  · rw [cI_o (by omega), cI_o (by omega), cI_o (by omega), cI_o (by omega), cI_o (by omega), sI_eq, sI_ne (by omega), sI_ne (by omega), sI_ne (by omega)]; rfl
  · rw [cI_o (by omega), cI_o (by omega), cI_o (by omega), cI_o (by omega), cI_at hk, sI_o (by omega), sI_o (by omega), sI_o (by omega), sI_o (by omega)]; rfl
  · rw [cI_o (by omega), cI_o (by omega), cI_o (by omega), cI_at hk, cI_o (by omega), sI_o (by omega), sI_o (by omega), sI_o (by omega), sI_o (by omega)]; rfl
  · rw [cI_o (by omega), cI_o (by omega), cI_at hk, cI_o (by omega), cI_o (by omega), sI_o (by omega), sI_o (by omega), sI_o (by omega), sI_o (by omega)]; rfl
  · rw [cI_o (by omega), cI_at hk, cI_o (by omega), cI_o (by omega), cI_o (by omega), sI_o (by omega), sI_o (by omega), sI_o (by omega), sI_o (by omega)]; rfl
  · rw [cI_at hk, cI_o (by omega), cI_o (by omega), cI_o (by omega), cI_o (by omega), sI_o (by omega), sI_o (by omega), sI_o (by omega), sI_o (by omega)]; rfl
theorem RS_same {c' m' : g_M} {b a t1 : Nat} (hW : WT m) (hw : WS m a) (h : RS c m t1 a) (hc : COPY c c' t t1) (hs : SAME m m' b a) (h2 : m'.1 2 = m.1 2) : RS c' m' t b := by
  obtain ⟨s1, s2, s3, s4, s5⟩ := hs
  obtain ⟨k1, k2, k3, k4, k5, k6, k7, k8⟩ := hc
  obtain ⟨w1, w2, w3, w4, w5⟩ := h
  have bP := hW.1.1.2
  have b27 : vl m 27 a ≤ 12 := hw.1.2.2.2
  have hv : ∀ k, vl m' 2 k = vl m 2 k := fun k => by unfold vl; rw [h2]
  have h27 : vl m' 27 b = vl m 27 a := by unfold vl; rw [s1 27 (by omega) (by omega)]
  unfold RS
  refine ⟨⟨?_, ?_, ?_, ?_⟩, fun p hp => ?_, fun i hi => ?_, fun n hn => ?_, fun w hw => ?_⟩
  · rw [k4.1, s1 24 (by omega) (by omega)]; exact w1.1
  · rw [k4.2.1, s1 25 (by omega) (by omega)]; exact w1.2.1
  · rw [k4.2.2.1, s1 26 (by omega) (by omega)]; exact w1.2.2.1
  · rw [k4.2.2.2, s1 27 (by omega) (by omega)]; exact w1.2.2.2
  · rw [hv] at hp
    rw [k5 p (by omega), s2 p (by omega)]; exact w2 p hp
  · rw [(k6 i hi).1, (k6 i hi).2, s3 29 i (by omega) hi, s3 30 i (by omega) hi, hv]; exact w3 i hi
  · rw [h27] at hn
    rw [k7 _ (by omega), k7 _ (by omega), k7 _ (by omega), k7 _ (by omega), s5 32 n (by omega) (by omega) (by omega), s5 33 n (by omega) (by omega) (by omega), s5 34 n (by omega) (by omega) (by omega), s5 35 n (by omega) (by omega) (by omega)]; exact w4 n hn
  · rw [k8 w hw, s4 w hw]; exact w5 w hw
/-- both copy -/
theorem TS_copy {t1 a b : Nat} {c' m' : g_M} (h : TS c m T t1 a) (ht : isS t) (hb : b < 23) (hne : t ≠ t1) (hc : COPY c c' t t1) (hf : fmX m m' b) (hs : SAME m m' b a) : TS c' m' T t b := by
  obtain ⟨hT, ht1, ha, hp0, hW, hR, hWS, hRS⟩ := h
  have hlt := isTS hT ht
  have h2 : m'.1 2 = m.1 2 := by funext k; exact hf.2 2 k (fun z => by have := z.1; omega)
  have hm : ∀ o, 2 ≤ o → o ≤ 21 → m'.1 o = m.1 o := fun o h1 h2 => by funext k; exact hf.2 o k (fun z => by have := z.1; omega)
  exact ⟨hT, ht, hb, by rw [hc.2.1]; exact hp0, WT_fr hW hm, RT_fr hR (fun o h1 h2 => hc.2.2.1 o (by omega)) hm, WS_same hW hWS hs h2, RS_same hW hWS hRS hc hs h2⟩
end C
