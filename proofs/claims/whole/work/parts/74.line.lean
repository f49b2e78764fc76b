/-! lines: what is told so far; a man's line -/
section L
variable {F : Nat} {c m c' m' c1 m1 : g_M} {n p q S f : Nat}
def fl1 (b : Bool) : Int32 := if b = true then nI 1 else nI 0
def FLG (c m : g_M) : Prop := c.1 30 6 = fl1 (gb (m.1 0 23) 5) ∧ c.1 30 7 = fl1 (gb (m.1 0 23) 6) ∧ c.1 30 8 = fl1 (gb (m.1 0 23) 7) ∧ ∀ r, r < 3 → gb (m.1 0 23) (16 + r) = decide (vl (up m) 18 r < vl (up m) 19 r)
def TOLD (c m : g_M) (S : Nat) : Prop := isT S ∧ c.2.2 30 5 = some S ∧ WT (up m) ∧ RT c (up m) S ∧ FLG c m ∧ (m.1 0 34 = nI 0 ∧ m.1 0 35 = m.1 2 17) ∧ c.1 30 2 = m.1 0 24 ∧ c.1 30 1 = -1 ∧ m.1 0 31 = -1
def FRC (c c' : g_M) (S : Nat) : Prop := (∀ o k, ¬ ((o = 30 ∧ k = 5) ∨ (o = 33 ∧ k = 6)) → c'.2.2 o k = c.2.2 o k) ∧ ∀ o k, ¬ (o = 30 ∨ o = 31 ∨ o = 33 ∨ o = 34 ∨ (S ≤ o ∧ o ≤ S + 13)) → c'.1 o k = c.1 o k
def FRM (m m' : g_M) : Prop := ∀ o k, ¬ UPc o k → ¬ (o = 0 ∧ 23 ≤ k ∧ k ≤ 35 ∧ k ≠ 32 ∧ k ≠ 33) → m'.1 o k = m.1 o k
theorem FRC.tr {a b d : g_M} (h : FRC a b S) (h' : FRC b d S) : FRC a d S := ⟨fun o k z => (h'.1 o k z).trans (h.1 o k z), fun o k z => (h'.2 o k z).trans (h.2 o k z)⟩
theorem FRM.tr {a b d : g_M} (h : FRM a b) (h' : FRM b d) : FRM a d := fun o k y z => (h' o k y z).trans (h o k y z)
theorem FRC.r (c : g_M) : FRC c c S := ⟨fun _ _ _ => rfl, fun _ _ _ => rfl⟩
theorem FRM.r (m : g_M) : FRM m m := fun _ _ _ _ => rfl
theorem FRC.x (h : LXC' c c') : FRC c c' S := ⟨fun o k _ => by rw [h.1], fun o k z => h.2 o k (by omega) (by omega)⟩
theorem FRM.x (h : LXM' m m') : FRM m m' := fun o k _ z => h.2 o k (by omega)
theorem FRC.s (h : FRC c c' S) {o k : Nat} {v : Int32} (ho : o = 30 ∨ o = 31 ∨ o = 33 ∨ o = 34 ∨ (S ≤ o ∧ o ≤ S + 13)) : FRC c (g_sI c' o k v) S := ⟨h.1, fun o' k' z => by rw [sI_ne (by omega)]; exact h.2 o' k' z⟩
theorem FRM.s (h : FRM m m') {o k : Nat} {v : Int32} (ho : UPc o k ∨ (o = 0 ∧ 23 ≤ k ∧ k ≤ 35 ∧ k ≠ 32 ∧ k ≠ 33)) : FRM m (g_sI m' o k v) := fun o' k' y z => by
  rw [sI_ne (fun e => by
    obtain ⟨e1, e2⟩ := e
    subst e1; subst e2
    exact ho.elim y z)]
  exact h o' k' y z
theorem NC_frm (h : NC c m n p q) (h0 : ∀ k, 25 ≤ k → k ≤ 30 → m'.1 0 k = m.1 0 k) (h1 : m'.1 1 = m.1 1) : NC c m' n p q := by
  obtain ⟨⟨⟨hB, t2, t3, t4, t5, t6, t7⟩, u2, u3, u4, u5, u6⟩, hc, hm⟩ := h
  refine ⟨⟨⟨⟨hB.1, fun i hi => by have := hB.2 i hi; unfold vl at this ⊢; rw [h1]; exact this⟩, t2, t3, by rw [h0 25 (by omega) (by omega)]; exact t4, t5, by rw [h0 26 (by omega) (by omega)]; exact t6, t7⟩, by unfold TKN at u2 ⊢; rw [h0 28 (by omega) (by omega), h0 29 (by omega) (by omega)]; exact u2, u3, by rw [h0 27 (by omega) (by omega)]; exact u4, u5, u6⟩, hc, by rw [h0 30 (by omega) (by omega)]; exact hm⟩
theorem NC_frc (h : NC c m n p q) (h0 : c'.1 31 = c.1 31) (h1 : c'.1 1 = c.1 1) (h2 : c'.1 32 = c.1 32) (h3 : c'.1 30 0 = c.1 30 0) : NC c' m n p q := by
  obtain ⟨⟨⟨hB, t2, t3, t4, t5, t6, t7⟩, u2, u3, u4, u5, u6⟩, hc, hm⟩ := h
  exact ⟨⟨⟨⟨hB.1, fun i hi => by rw [h1]; exact hB.2 i hi⟩, t2, by rw [h0]; exact t3, t4, by rw [h0]; exact t5, t6, by unfold WRD at t7 ⊢; rw [h2]; exact t7⟩, by unfold TKN at u2 ⊢; rw [h0]; exact u2, by rw [h0]; exact u3, u4, u5, by rw [h0]; exact u6⟩, by rw [h3]; exact hc, hm⟩
theorem FO_frm (h : FO c m n) (h0 : m'.1 0 30 = m.1 0 30) (h1 : m'.1 0 31 = m.1 0 31) (h2 : m'.1 1 = m.1 1) : FO c m' n := by
  obtain ⟨f, q, a1, a2, a3, a4, a5, a6, a7, a8⟩ := h
  exact ⟨f, q, a1, a2, a3, a4, by rw [h0]; exact a5, a6, by rw [h1]; exact a7, LCx_fr a8 rfl rfl h2 rfl rfl⟩
theorem FO_n (h : FO c m n) : ¬ m.1 0 30 = (0 : Int32) ∧ ¬ c.1 30 0 = (0 : Int32) := by
  obtain ⟨f, q, a1, a2, a3, a4, a5, _⟩ := h
  exact ⟨by rw [a5]; exact nz a1 a2, by rw [a4]; exact nz a1 a2⟩
/-- the reference does nothing behind a fault -/
theorem mF_num (h : ¬ m.1 0 30 = (0 : Int32)) (a b : Int32) : f11_numeral F a b m = some (a, m) := by unfold f11_numeral; rw [if_neg h]
theorem mF_told (h : ¬ m.1 0 30 = (0 : Int32)) (a : Nat) (b d : Int32) : f11_toldAhead F a b d m = some ((0 : Int32), m) := by unfold f11_toldAhead; rw [if_neg h]
theorem mF_466 (h : ¬ m.1 0 30 = (0 : Int32)) : f11_line_b466 F m = some m := by unfold f11_line_b466; rw [if_neg h]
theorem r_fresher {j : Nat} (hj : j < 9) : f11_fresher F (nI j) m = some (m.1 2 (9 + j)) := by
  unfold f11_fresher
  rw [show (9 : Int32) + nI j = nI (9 + j) from nI_add 9 j, g_ckN (by omega) (by omega), g_clN (by omega)]
theorem r_reads {j : Nat} (hj : j < 9) (v : Int32) : f11_reads F (nI j) v m = some (g_sI m 2 (9 + j) v) := by
  unfold f11_reads
  rw [show (9 : Int32) + nI j = nI (9 + j) from nI_add 9 j, g_ckN (by omega) (by omega), g_clN (by omega), g_let_e]
theorem SD_of (h : TOLD c m S) : SD c S := by
  obtain ⟨h1, h2, hW, hR, _⟩ := h
  refine ⟨h1, h2, fun k hk => ?_⟩
  obtain ⟨⟨a0, a1, a2, _⟩, _⟩ := hW
  rw [hR.1 k hk]
  rcases (show k = 0 ∨ k = 1 ∨ k = 2 by omega) with rfl | rfl | rfl
  · exact ⟨_, a0.2, a0.1⟩
  · exact ⟨_, a1.2, a1.1⟩
  · exact ⟨_, a2.2, a2.1⟩
def OUT (F : Nat) (X Y : Option g_M) (c m : g_M) (n q S : Nat) : Prop := (∃ c' m' p' q', X = some c' ∧ Y = f11_line_b466 F m' ∧ NC c' m' n p' q' ∧ TOLD c' m' S ∧ q < q' ∧ FRC c c' S ∧ FRM m m') ∨ (∃ c' m', X = some c' ∧ Y = some m' ∧ FO c' m' n ∧ SD c' S ∧ FRC c c' S ∧ FRM m m')
/-- the head of a line in the reference: it isn't full, nor told -/
def isFullN (m : g_M) (w : Nat) : Prop := (w = 0 ∧ m.1 2 9 = 5) ∨ (w = 1 ∧ m.1 2 10 = 5) ∨ (w = 2 ∧ m.1 2 11 = 5) ∨ (w = 3 ∧ m.1 2 12 = 12) ∨ (w = 4 ∧ m.1 2 13 = 8)
theorem r_isFull {w : Nat} (hw : w < 9) : (isFullN m w → f11_isFull F (nI w) m = some (nI 1)) ∧ (¬ isFullN m w → f11_isFull F (nI w) m = some (nI 0)) := by
  have e : ∀ a b : Nat, a < 9 → b < 9 → (nI a = nI b ↔ a = b) := fun a b h1 h2 => g_eqN (by omega) (by omega)
  have f0 : f11_fresher F (0 : Int32) m = some (m.1 2 9) := r_fresher (j := 0) (by omega)
  have f1 : f11_fresher F (1 : Int32) m = some (m.1 2 10) := r_fresher (j := 1) (by omega)
  have f2 : f11_fresher F (2 : Int32) m = some (m.1 2 11) := r_fresher (j := 2) (by omega)
  have f3 : f11_fresher F (3 : Int32) m = some (m.1 2 12) := r_fresher (j := 3) (by omega)
  have f4 : f11_fresher F (4 : Int32) m = some (m.1 2 13) := r_fresher (j := 4) (by omega)
  unfold f11_isFull isFullN
  rw [f0, f1, f2, f3, f4]
  rcases (show w = 0 ∨ w = 1 ∨ w = 2 ∨ w = 3 ∨ w = 4 ∨ w = 5 ∨ w = 6 ∨ w = 7 ∨ w = 8 by omega) with rfl | rfl | rfl | rfl | rfl | rfl | rfl | rfl | rfl
  · rw [if_pos (show nI 0 = (0 : Int32) from rfl), g_bs]
    refine ⟨fun z => ?_, fun z => ?_⟩
    · rw [if_pos (by simpa using z)]; rfl
    · rw [if_neg (by simpa using z)]; rfl
  · rw [if_neg (show ¬ nI 1 = (0 : Int32) by decide), if_pos (show nI 1 = (1 : Int32) from rfl), g_bs]
    refine ⟨fun z => ?_, fun z => ?_⟩
    · rw [if_pos (by simpa using z)]; rfl
    · rw [if_neg (by simpa using z)]; rfl
  · rw [if_neg (show ¬ nI 2 = (0 : Int32) by decide), if_neg (show ¬ nI 2 = (1 : Int32) by decide), if_pos (show nI 2 = (2 : Int32) from rfl), g_bs]
    refine ⟨fun z => ?_, fun z => ?_⟩
    · rw [if_pos (by simpa using z)]; rfl
    · rw [if_neg (by simpa using z)]; rfl
  · rw [if_neg (show ¬ nI 3 = (0 : Int32) by decide), if_neg (show ¬ nI 3 = (1 : Int32) by decide), if_neg (show ¬ nI 3 = (2 : Int32) by decide), if_pos (show nI 3 = (3 : Int32) from rfl), g_bs]
    refine ⟨fun z => ?_, fun z => ?_⟩
    · rw [if_pos (by simpa using z)]; rfl
    · rw [if_neg (by simpa using z)]; rfl
  · rw [if_neg (show ¬ nI 4 = (0 : Int32) by decide), if_neg (show ¬ nI 4 = (1 : Int32) by decide), if_neg (show ¬ nI 4 = (2 : Int32) by decide), if_neg (show ¬ nI 4 = (3 : Int32) by decide), if_pos (show nI 4 = (4 : Int32) from rfl), g_bs]
    refine ⟨fun z => ?_, fun z => ?_⟩
    · rw [if_pos (by simpa using z)]; rfl
    · rw [if_neg (by simpa using z)]; rfl
  · rw [if_neg (show ¬ nI 5 = (0 : Int32) by decide), if_neg (show ¬ nI 5 = (1 : Int32) by decide), if_neg (show ¬ nI 5 = (2 : Int32) by decide), if_neg (show ¬ nI 5 = (3 : Int32) by decide), if_neg (show ¬ nI 5 = (4 : Int32) by decide)]
    exact ⟨fun z => by omega, fun _ => rfl⟩
  · rw [if_neg (show ¬ nI 6 = (0 : Int32) by decide), if_neg (show ¬ nI 6 = (1 : Int32) by decide), if_neg (show ¬ nI 6 = (2 : Int32) by decide), if_neg (show ¬ nI 6 = (3 : Int32) by decide), if_neg (show ¬ nI 6 = (4 : Int32) by decide)]
    exact ⟨fun z => by omega, fun _ => rfl⟩
  · rw [if_neg (show ¬ nI 7 = (0 : Int32) by decide), if_neg (show ¬ nI 7 = (1 : Int32) by decide), if_neg (show ¬ nI 7 = (2 : Int32) by decide), if_neg (show ¬ nI 7 = (3 : Int32) by decide), if_neg (show ¬ nI 7 = (4 : Int32) by decide)]
    exact ⟨fun z => by omega, fun _ => rfl⟩
  · rw [if_neg (show ¬ nI 8 = (0 : Int32) by decide), if_neg (show ¬ nI 8 = (1 : Int32) by decide), if_neg (show ¬ nI 8 = (2 : Int32) by decide), if_neg (show ¬ nI 8 = (3 : Int32) by decide), if_neg (show ¬ nI 8 = (4 : Int32) by decide)]
    exact ⟨fun z => by omega, fun _ => rfl⟩
theorem r_line (hw : f < 9) (h28 : m.1 0 28 = 0) (h29 : m.1 0 29 = nI f) : (isFullN m f → f11_line F m = (f11_wrong F (2 : Int32) m).bind (fun r => f11_line_b71 F (nI f) r)) ∧ (¬ isFullN m f → (f < 5 ∨ f = 8) → f11_line F m = f11_line_b71 F (nI f) m) ∧ (5 ≤ f → f ≤ 7 → (gb (m.1 0 23) f = true → f11_line F m = (f11_wrong F (3 : Int32) m).bind (fun r => f11_line_b71 F (nI f) r)) ∧ (gb (m.1 0 23) f = false → f11_line F m = f11_line_b71 F (nI f) m)) := by
  obtain ⟨i1, i2⟩ := r_isFull (F := F) (m := m) hw
  have l5 : (5 : Int32) ≤ nI f ↔ 5 ≤ f := g_leN (a := 5) (by omega) (by omega)
  have l7 : nI f ≤ (7 : Int32) ↔ f ≤ 7 := g_leN (b := 7) (by omega) (by omega)
  have l8 : ¬ (8 : Int32) < nI f := fun z => by have := (g_ltN (a := 8) (by omega) (by omega)).mp z; omega
  unfold f11_line
  rw [h28, if_pos rfl, h29, if_neg l8, g_let_e]
  refine ⟨fun z => ?_, fun z y => ?_, fun y1 y2 => ⟨fun x => ?_, fun x => ?_⟩⟩
  · rw [i1 z, g_bs, if_neg nI10]
  · rw [i2 z, g_bs, if_pos nI00]
    rcases y with y | y
    · rw [if_neg (fun x => by have := l5.mp x; omega)]
    · rw [if_pos (l5.mpr (by omega)), if_neg (fun x => by have := l7.mp x; omega)]
  · have nf : ¬ isFullN m f := by unfold isFullN; omega
    have hb := shr_bit (m.1 0 23) (k := f) (by omega)
    rw [x, if_pos rfl] at hb
    rw [i2 nf, g_bs, if_pos nI00, if_pos (l5.mpr y1), if_pos (l7.mpr y2), if_pos (show (m.1 0 23 >>> (nI f &&& 31)) &&& (1 : Int32) = (1 : Int32) from hb)]
  · have nf : ¬ isFullN m f := by unfold isFullN; omega
    have hb := shr_bit (m.1 0 23) (k := f) (by omega)
    rw [x, if_neg ft] at hb
    rw [i2 nf, g_bs, if_pos nI00, if_pos (l5.mpr y1), if_pos (l7.mpr y2), if_neg (show ¬ (m.1 0 23 >>> (nI f &&& 31)) &&& (1 : Int32) = (1 : Int32) from fun z => absurd (hb.symm.trans z) (by decide))]
/-- told bits -/
theorem gb_told (t : Int32) {w j : Nat} (hw : w < 32) (hj : j < 32) : gb (t ||| ((1 : Int32) <<< (nI w &&& 31))) j = (gb t j || decide (j = w)) := by
  rw [gb_or, show (1 : Int32) <<< (nI w &&& 31) = nI 1 <<< (nI w &&& 31) from rfl, gb_shl hw hj]
end L
