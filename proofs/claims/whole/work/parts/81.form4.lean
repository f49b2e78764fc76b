/-! the formula: postfix depths; a level of the descent that goes round -/
section L
variable {F : Nat} {c m c' m' c1 m1 c2 m2 : g_M} {n p q S r : Nat}
def STP (m : g_M) (i x y : Nat) : Prop := (m.1 20 (64 + i) = 0 ∧ rg m 21 (64 + i) 9999 ∧ y = x + 1) ∨ (m.1 20 (64 + i) = 1 ∧ rg m 21 (64 + i) 6 ∧ y = x + 1) ∨ (m.1 20 (64 + i) = 2 ∧ m.1 21 (64 + i) = 260 ∧ 1 ≤ x ∧ y = x) ∨ (m.1 20 (64 + i) = 2 ∧ isOp (m.1 21 (64 + i)) ∧ 2 ≤ x ∧ y + 1 = x)
def PSQ (m : g_M) (a b x y : Nat) : Prop := ∃ d : Nat → Nat, d a = x ∧ d b = y ∧ ∀ i, a ≤ i → i < b → STP m i (d i) (d (i + 1))
def PSG (m : g_M) (a b : Nat) : Prop := a < b ∧ ∀ D, PSQ m a b D (D + 1)
theorem STP_fr {i x y : Nat} (h : STP m i x y) (h1 : m'.1 20 (64 + i) = m.1 20 (64 + i)) (h2 : m'.1 21 (64 + i) = m.1 21 (64 + i)) : STP m' i x y := by
  unfold STP rg vl at h ⊢
  rw [h1, h2]; exact h
theorem PSQ_tr {a b e x y z : Nat} (hab : a ≤ b) (hbe : b ≤ e) (h : PSQ m a b x y) (h' : PSQ m b e y z) : PSQ m a e x z := by
  obtain ⟨d, d1, d2, d3⟩ := h
  obtain ⟨g, g1, g2, g3⟩ := h'
  refine ⟨fun i => if i ≤ b then d i else g i, by show (if a ≤ b then d a else g a) = x; rw [if_pos hab]; exact d1, ?_, fun i h1 h2 => ?_⟩
  · show (if e ≤ b then d e else g e) = z
    by_cases y : e ≤ b
    · have : e = b := by omega
      subst this
      rw [if_pos y, d2, ← g1]; exact g2
    · rw [if_neg y]; exact g2
  · show STP m i (if i ≤ b then d i else g i) (if i + 1 ≤ b then d (i + 1) else g (i + 1))
    by_cases y : i < b
    · rw [if_pos (show i ≤ b by omega), if_pos (show i + 1 ≤ b by omega)]; exact d3 i h1 y
    · rw [if_neg (show ¬ i + 1 ≤ b by omega)]
      have hg := g3 i (by omega) h2
      by_cases yy : i = b
      · subst yy
        rw [if_pos (Nat.le_refl _), d2, ← g1]; exact hg
      · rw [if_neg (show ¬ i ≤ b by omega)]; exact hg
theorem PSQ_1 {a x y : Nat} (h : STP m a x y) : PSQ m a (a + 1) x y := ⟨fun i => if i = a then x else y, if_pos rfl, by show (if a + 1 = a then x else y) = y; rw [if_neg (by omega)], fun i h1 h2 => by
  have : i = a := by omega
  subst this
  show STP m i (if i = i then x else y) (if i + 1 = i then x else y)
  rw [if_pos rfl, if_neg (by omega)]; exact h⟩
theorem PSG_fr {a b : Nat} (h : PSG m a b) (he : FM m m' b) : PSG m' a b := ⟨h.1, fun D => by
  obtain ⟨d, d1, d2, d3⟩ := h.2 D
  exact ⟨d, d1, d2, fun i h1 h2 => STP_fr (d3 i h1 h2) (he 20 (64 + i) (by omega) (by omega) (by omega)) (he 21 (64 + i) (by omega) (by omega) (by omega))⟩⟩
theorem PSG_bin {a b e : Nat} (h : PSG m a b) (h' : PSG m b e) (h1 : m.1 20 (64 + e) = 2) (h2 : isOp (m.1 21 (64 + e))) : PSG m a (e + 1) := ⟨by have := h.1; have := h'.1; omega, fun D => PSQ_tr (b := e) (y := D + 2) (by have := h.1; have := h'.1; omega) (by omega) (PSQ_tr (Nat.le_of_lt h.1) (Nat.le_of_lt h'.1) (h.2 D) (h'.2 (D + 1))) (PSQ_1 (Or.inr (Or.inr (Or.inr ⟨h1, h2, by omega, by omega⟩))))⟩
theorem PSG_not {a b : Nat} (h : PSG m a b) (h1 : m.1 20 (64 + b) = 2) (h2 : m.1 21 (64 + b) = 260) : PSG m a (b + 1) := ⟨by have := h.1; omega, fun D => PSQ_tr (b := b) (y := D + 1) (Nat.le_of_lt h.1) (by omega) (h.2 D) (PSQ_1 (Or.inr (Or.inr (Or.inl ⟨h1, h2, by omega, rfl⟩))))⟩
def th (l : Nat) : Nat := if l = 0 then 1 else if l = 1 then 2 else if l = 2 then 3 else if l = 3 then 5 else if l = 4 then 6 else 7
def pr (l : Nat) : Nat := if l = 0 then 1 else if l = 1 then 2 else if l = 2 then 4 else if l = 3 then 5 else if l = 4 then 6 else 7
def BLK (P : List Nat) : Prop := ∃ A x B, P = A ++ x :: B ∧ (∀ a, a ∈ A → 5 ≤ rk a) ∧ rk x = 4
theorem BLK_add {P : List Nat} (h : BLK P) (R : List Nat) : BLK (P ++ R) := by
  obtain ⟨A, x, B, h1, h2, h3⟩ := h
  exact ⟨A, x, B ++ R, by rw [h1, List.append_assoc]; rfl, h2, h3⟩
def TE (t : Nat) (c m : g_M) (P : List Nat) : Prop := ∀ op, OPT c m op → rk op < t ∨ (rk op = 4 ∧ BLK P)
def OK (F S r v w W a n q l k : Nat) (c m : g_M) (Q : List Nat) (X : Option g_M) : Prop := ∃ v' c' m' p' q' P w' k', LQ F S r v c = LQ F S r v' c' ∧ X = some m' ∧ NC c' m' n p' q' ∧ PR c' m' S P Q 0 w' k' ∧ v' + 2 ≤ q' ∧ q ≤ q' ∧ w ≤ w' ∧ k ≤ k' ∧ (∀ x, x ∈ P → th l ≤ rk x) ∧ TE (th l) c' m' P ∧ FC c c' S w ∧ FM m m' W ∧ PSG m' a (w' + P.length)
theorem OPT_m {op : Nat} (h : OPT c m op) (h1 : m'.1 0 28 = m.1 0 28) (h2 : m'.1 0 29 = m.1 0 29) : OPT c m' op := by
  unfold OPT at h ⊢
  rw [h1, h2]; exact h
def LVL (F S r n l : Nat) (rc : g_M → Option g_M) (d : Nat) : Prop := ∀ (c m : g_M) (p q v w k : Nat) (Q : List Nat), NC c m n p q → PR c m S [] Q 1 w k → v + 2 ≤ q → (∀ x t, Q = x :: t → rk x < pr l) → (3 ≤ l → m.1 0 28 = 0 → m.1 0 29 = nI 14 → ∃ x t, Q = x :: t ∧ 4 ≤ rk x) → 6 * (8 - n13 Q) + (64 - k) + (7 - l) ≤ d → KO F S r v w n c m (rc m) ∨ OK F S r v w w w n q l k c m Q (rc m)
def GO (F : Nat) (rc : g_M → Option g_M) (op : Nat) (s : g_M → Option g_M) (m : g_M) : Option g_M := (f11_knot F m).bind (fun m1 => (f11_goOn F m1).bind (fun m2 => (rc m2).bind (fun m3 => (f11_puts F (2 : Int32) (opM op) m3).bind s)))
/-- going round -/
theorem b_loop (hF : 5000 < F) (hS : isT S) {l d T : Nat} {rc : g_M → Option g_M} {B : (g_M → Option g_M) → g_M → Option g_M} (hT4 : T ≠ 4) (hT : th l = T) (hT1 : th (l + 1) = T + 1) (hTp : T < pr (l + 1)) (hT3 : 3 ≤ l + 1 → 4 ≤ T ∧ 3 ≤ l) (hl : l ≤ 4) (hrc : LVL F S r n (l + 1) rc d) (hfl : ∀ s m, ¬ m.1 0 30 = (0 : Int32) → B s m = some m) (hfr : ∀ m, ¬ m.1 0 30 = (0 : Int32) → rc m = some m) (hB : ∀ (c m : g_M) (p q : Nat) s, NC c m n p q → (∃ op, OPT c m op ∧ rk op = T ∧ B s m = GO F rc op s m) ∨ ((∀ op, OPT c m op → rk op ≠ T) ∧ B s m = some m)) : ∀ (t G : Nat) (c m : g_M) (p q v w k a : Nat) (P Q : List Nat), 700 - q ≤ t → t < G → NC c m n p q → PR c m S P Q 0 w k → v + 2 ≤ q → (∀ x, x ∈ P → T ≤ rk x) → TE (T + 1) c m P → (∀ x t, Q = x :: t → rk x < T) → 6 * (8 - n13 Q) + (64 - k) + (7 - (l + 1)) ≤ d → PSG m a (w + P.length) → KO F S r v w n c m (g_fix B G m) ∨ OK F S r v w (w + P.length) a n q l k c m Q (g_fix B G m) := by
  intro t
  induction t with
  | zero =>
    intro G c m p q v w k a P Q ht hG h hp hv hP hTE hQ hd hps
    have hn := h.1.1.1.1
    have hpn := h.1.1.2.1
    have hqp := h.1.2.2.2.2.1
    rw [g_fix_p (by omega)]
    rcases hB c m p q (g_fix B (G - 1)) h with ⟨op, o1, o2, o3⟩ | ⟨o1, o2⟩
    · exfalso
      have nz0 : ¬ c.1 31 0 = 0 := by
        rcases o1 with ⟨_, z, _⟩ | ⟨_, z, _⟩ | ⟨_, z, _⟩ <;> rw [z] <;> decide
      have := h.1.2.2.2.2.2 nz0
      omega
    · exact Or.inr ⟨v, c, m, p, q, P, w, k, rfl, o2, h, hp, hv, Nat.le_refl _, Nat.le_refl _, Nat.le_refl _, fun x hx => by rw [hT]; exact hP x hx, fun op ho => by
        have := o1 op ho
        rcases hTE op ho with y | y
        · left; rw [hT]; omega
        · exact Or.inr y, FC.r c, FM.r m, hps⟩
  | succ t ih =>
    intro G c m p q v w k a P Q ht hG h hp hv hP hTE hQ hd hps
    have hn := h.1.1.1.1
    have hpn := h.1.1.2.1
    have hqp := h.1.2.2.2.2.1
    rw [g_fix_p (by omega)]
    rcases hB c m p q (g_fix B (G - 1)) h with ⟨op, o1, o2, o3⟩ | ⟨o1, o2⟩
    · rw [o3]
      unfold GO
      have hlt := OPT_lt o1
      rcases b_op (F := F) (r := r) hF hS h hp hv o1 (fun x hx => by rw [if_neg (by omega), o2]; exact hP x hx) (fun x l' z => by rw [o2]; exact hQ x l' z) with ⟨mm, e1, e2⟩ | ⟨m1, c2, m2, p2, q2, e1, e2, _, e4, e5, e6, e7, e8, e9, e10⟩
      · left
        obtain ⟨m9, z1, z2⟩ := e2.flt
        have : mm = m9 := Option.some.inj z1
        subst this
        rw [e1, g_bs, mF_goOn z2, g_bs, hfr mm z2, g_bs, mF_puts z2, g_bs]
        cases hG9 : G - 1 with
        | zero => omega
        | succ G' =>
          rw [g_fix_p (by omega), hfl _ mm z2]; exact e2
      · have n1 : n13 (op :: Q) = n13 Q := by show (if op = 13 then 1 else 0) + n13 Q = _; rw [if_neg (by omega)]; omega
        rw [e1, g_bs, e2, g_bs]
        rcases hrc c2 m2 p2 q2 (v + 1) (w + P.length) (k + 1) (op :: Q) e5 e8 (by omega) (fun x t' z => by
          have : op = x := (List.cons.inj z).1
          rw [← this, o2]; exact hTp) (fun z _ _ => ⟨op, Q, rfl, by rw [o2]; exact (hT3 z).1⟩) (by rw [n1]; omega) with ko | ok
        · left
          obtain ⟨m9, z1, z2⟩ := ko.flt
          rw [z1] at ko ⊢
          rw [g_bs, mF_puts z2, g_bs]
          have hg : g_fix B (G - 1) m9 = some m9 := by rw [g_fix_p (by omega), hfl _ m9 z2]
          rw [hg]
          exact ko.pre e4 e9 (fun o j y1 y2 y3 => e10 o j y1 y2 (by omega)) (by omega)
        · obtain ⟨v3, c3, m3, p3, q3, P3, w3, k3, g1, g2, g3, g4, g5, g6, g7, g8, g9, g10, g11, g12, g13⟩ := ok
          obtain ⟨m4, j1, j2, j3, j4, j5, j6, j7⟩ := b_put (F := F) g3 hS g4 (by omega)
          rw [g2, g_bs, j1, g_bs]
          have hlen : (P3 ++ [op]).length = P3.length + 1 := by simp
          have fm24 : FM m2 m4 (w + P.length) := g12.tr j6 (by omega)
          have ps : PSG m4 a (w3 + (P3 ++ [op]).length) := by
            rw [hlen]
            exact PSG_bin (b := w + P.length) (PSG_fr hps (e10.tr fm24 (Nat.le_refl _))) (PSG_fr g13 j6) j4 (by show isOp (m4.1 21 (64 + (w3 + P3.length))); rw [j5]; exact opM_is ⟨op, hlt⟩)
          rcases ih (G - 1) c3 m4 p3 q3 v3 w3 k3 a (P3 ++ [op]) Q (by omega) (by omega) j2 j3 g5 (fun x hx => by
            rcases List.mem_append.mp hx with y | y
            · have := g9 x y; rw [hT1] at this; omega
            · rw [List.mem_singleton.mp y, o2]; exact Nat.le_refl _) (fun o ho => by
            rcases g10 o (OPT_m ho (j7 28).symm (j7 29).symm) with y | y
            · left; rw [hT1] at y; exact y
            · exact Or.inr ⟨y.1, BLK_add y.2 _⟩) hQ (by omega) ps with ko | ok
          · left
            exact ko.pre (e4.trans g1) (e9.tr g11 (by omega)) (fun o j y1 y2 y3 => (e10.tr fm24 (Nat.le_refl _)) o j y1 y2 (by omega)) (by omega)
          · right
            obtain ⟨v5, c5, m5, p5, q5, P5, w5, k5, i1, i2, i3, i4, i5, i6, i7, i8, i9, i10, i11, i12, i13⟩ := ok
            exact ⟨v5, c5, m5, p5, q5, P5, w5, k5, (e4.trans g1).trans i1, i2, i3, i4, i5, by omega, by omega, by omega, i9, i10, (e9.tr g11 (by omega)).tr i11 (by omega), (e10.tr fm24 (Nat.le_refl _)).tr i12 (by rw [hlen]; omega), i13⟩
    · exact Or.inr ⟨v, c, m, p, q, P, w, k, rfl, o2, h, hp, hv, Nat.le_refl _, Nat.le_refl _, Nat.le_refl _, fun x hx => by rw [hT]; exact hP x hx, fun op ho => by
        have := o1 op ho
        rcases hTE op ho with y | y
        · left; rw [hT]; omega
        · exact Or.inr y, FC.r c, FM.r m, hps⟩
/-- .. from the level below -/
theorem b_lvl (hF : 5000 < F) (hS : isT S) {l d T : Nat} {rc : g_M → Option g_M} {B : (g_M → Option g_M) → g_M → Option g_M} (hT4 : T ≠ 4) (hT : th l = T) (hT1 : th (l + 1) = T + 1) (hTp : T < pr (l + 1)) (hT3 : 3 ≤ l + 1 → 4 ≤ T ∧ 3 ≤ l) (hpr : pr l = T) (hl : l ≤ 4) (hrc : LVL F S r n (l + 1) rc d) (hfl : ∀ s m, ¬ m.1 0 30 = (0 : Int32) → B s m = some m) (hfr : ∀ m, ¬ m.1 0 30 = (0 : Int32) → rc m = some m) (hB : ∀ (c m : g_M) (p q : Nat) s, NC c m n p q → (∃ op, OPT c m op ∧ rk op = T ∧ B s m = GO F rc op s m) ∨ ((∀ op, OPT c m op → rk op ≠ T) ∧ B s m = some m)) : LVL F S r n l (fun m => (rc m).bind (fun x => g_fix B F x)) (d + 1) := by
  intro c m p q v w k Q h hp hv hQ hN3 hd
  rcases hrc c m p q v w k Q h hp hv (fun x t z => by have := hQ x t z; omega) (fun z => hN3 (hT3 z).2) (by omega) with ko | ok
  · left
    obtain ⟨m9, z1, z2⟩ := ko.flt
    have hg : g_fix B F m9 = some m9 := by rw [g_fix_p (by omega), hfl _ m9 z2]
    show KO F S r v w n c m ((rc m).bind (fun x => g_fix B F x))
    rw [z1] at ko ⊢
    rw [g_bs, hg]; exact ko
  · obtain ⟨v3, c3, m3, p3, q3, P3, w3, k3, g1, g2, g3, g4, g5, g6, g7, g8, g9, g10, g11, g12, g13⟩ := ok
    show KO F S r v w n c m ((rc m).bind (fun x => g_fix B F x)) ∨ OK F S r v w w w n q l k c m Q ((rc m).bind (fun x => g_fix B F x))
    rw [g2, g_bs]
    rcases b_loop (F := F) (S := S) (r := r) (n := n) hF hS hT4 hT hT1 hTp hT3 hl hrc hfl hfr hB (700 - q3) F c3 m3 p3 q3 v3 w3 k3 w P3 Q (Nat.le_refl _) (by omega) g3 g4 g5 (fun x hx => by have := g9 x hx; rw [hT1] at this; omega) (by rw [← hT1]; exact g10) (fun x t z => by have := hQ x t z; omega) (by omega) g13 with ko | ok
    · left
      exact ko.pre g1 g11 g12 g7
    · right
      obtain ⟨v5, c5, m5, p5, q5, P5, w5, k5, i1, i2, i3, i4, i5, i6, i7, i8, i9, i10, i11, i12, i13⟩ := ok
      exact ⟨v5, c5, m5, p5, q5, P5, w5, k5, g1.trans i1, i2, i3, i4, i5, by omega, by omega, by omega, i9, i10, g11.tr i11 g7, g12.tr i12 (by omega), i13⟩
end L
