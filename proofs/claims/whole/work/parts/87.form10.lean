/-! the formula, whole, in both -/
section L
variable {F : Nat} {c m c' m' c1 m1 c2 m2 : g_M} {n p q S r : Nat}
def FCx (c c' : g_M) (S r w : Nat) : Prop := (∀ o k, ¬ (o = 33 ∧ k = 6) → c'.2.2 o k = c.2.2 o k) ∧ ∀ o k, ¬ (o = 31 ∧ (k = 0 ∨ k = 1 ∨ k = 2 ∨ k = 5)) → ¬ o = 33 → ¬ o = 34 → ¬ (o = S + 9 ∧ k = 3) → ¬ (o = S + 10 ∧ w ≤ k) → ¬ (o = S + 11 ∧ k = r) → ¬ (o = S + 12 ∧ k = r) → c'.1 o k = c.1 o k
theorem x_form (hF : 5000 < F) (hS : isT S) (hr : r < 3) (h : NC c m n p q) {w0 : Nat} (hw : w0 ≤ 64) (h2 : 2 ≤ q) (e9 : c.1 (S + 9) 3 = nI w0) (e35 : m.1 0 35 = nI w0) (e17 : m.1 2 17 = nI w0) (e34 : m.1 0 34 = nI 0) (ecd : ∀ i, i < w0 → c.1 (S + 10) i = enc (m.1 20 (64 + i)) (m.1 21 (64 + i))) : ∃ f c' m', f1_reads F (S + 9) (nI r) c = some (nI f, c') ∧ fgE F 200 0 m = some m' ∧ FCx c c' S r w0 ∧ FMK m m' w0 ∧ c'.1 30 0 = nI 0 ∧
    ((f = 0 ∧ ∃ p' q' w1, NC c' m' n p' q' ∧ q ≤ q' ∧ w0 < w1 ∧ w1 ≤ 64 ∧ c'.1 (S + 9) 3 = nI w1 ∧ m'.1 2 17 = nI w1 ∧ m'.1 0 35 = nI w1 ∧ m'.1 0 34 = nI 0 ∧ c'.1 (S + 11) r = nI w0 ∧ c'.1 (S + 12) r = nI w1 ∧ (∀ i, i < w1 → c'.1 (S + 10) i = enc (m'.1 20 (64 + i)) (m'.1 21 (64 + i))) ∧ PSG m' w0 w1 ∧ m'.1 0 31 = m.1 0 31) ∨
     (1 ≤ f ∧ f ≤ 4 ∧ ∃ q', q' ≤ 700 ∧ m'.1 0 30 = nI f ∧ m'.1 0 31 = nI q' ∧ c'.1 31 1 = nI q' ∧ LCx c' m' n) ∨
     (f = 1 ∧ ∃ p' q', NC c' m' n p' q' ∧ ¬ (m'.1 0 28 = 3 ∧ m'.1 0 29 = 59))) := by
  have hSl := isT_le hS
  obtain ⟨d, hd⟩ : ∃ y, y = g_sI (g_sI (g_sI (g_sI (g_sI (g_sR c 33 6 (some (S + 9))) 33 1 (0 : Int32)) 33 2 (0 : Int32)) 33 3 (nI w0)) 33 4 (1 : Int32)) (S + 11) r (nI w0) := ⟨_, rfl⟩
  have dr : d.2.2 33 6 = some (S + 9) := by rw [hd]; show (g_sR c 33 6 (some (S + 9))).2.2 33 6 = _; unfold g_sR g_up; simp
  have dr' : ∀ o k, ¬ (o = 33 ∧ k = 6) → d.2.2 o k = c.2.2 o k := fun o k z => by
    rw [hd]; show (g_sR c 33 6 (some (S + 9))).2.2 o k = _
    unfold g_sR g_up
    simp only
    rw [if2, if_neg z]
  have dn : ∀ o k, ¬ (o = 33 ∧ 1 ≤ k ∧ k ≤ 4) → ¬ (o = S + 11 ∧ k = r) → d.1 o k = c.1 o k := fun o k y1 y2 => by rw [hd, sI_ne y2, sI_ne (by omega), sI_ne (by omega), sI_ne (by omega), sI_ne (by omega)]; rfl
  have eR : f1_reads F (S + 9) (nI r) c = LQ F S r 0 d := by
    unfold f1_reads
    rw [g_let_e, g_let_e, g_let_e, g_drL (S := S) (show (g_sI (g_sI (g_sR c 33 6 (some (S + 9))) 33 1 (0 : Int32)) 33 2 (0 : Int32)).2.2 33 6 = some (S + 9) by show (g_sR c 33 6 (some (S + 9))).2.2 33 6 = _; unfold g_sR g_up; simp) hS, sI_o (by omega), sI_o (by omega), show (g_sR c 33 6 (some (S + 9))).1 (S + 9) 3 = nI w0 from e9, g_let_e, g_let_e, g_drL (S := S) (show (g_sI (g_sI (g_sI (g_sI (g_sR c 33 6 (some (S + 9))) 33 1 (0 : Int32)) 33 2 (0 : Int32)) 33 3 (nI w0)) 33 4 (1 : Int32)).2.2 33 6 = some (S + 9) by show (g_sR c 33 6 (some (S + 9))).2.2 33 6 = _; unfold g_sR g_up; simp) hS, g_ckN (by omega) (by omega), g_clN (by omega), g_let_e, sI_ne (by omega), sI_eq, show S + 9 + 2 = S + 11 from rfl, ← hd]
    rfl
  have hN : NC d m n p q := NC_frc h (by funext j; exact dn 31 j (by omega) (by omega)) (by funext j; exact dn 1 j (by omega) (by omega)) (by funext j; exact dn 32 j (by omega) (by omega)) (dn 30 0 (by omega) (by omega))
  have d33 : d.1 33 1 = nI 0 ∧ d.1 33 2 = nI 0 ∧ d.1 33 3 = nI w0 ∧ d.1 33 4 = nI 1 ∧ d.1 (S + 11) r = nI w0 := by
    refine ⟨?_, ?_, ?_, ?_, ?_⟩
    · rw [hd, sI_o (by omega), sI_ne (by omega), sI_ne (by omega), sI_ne (by omega), sI_eq]; rfl
    · rw [hd, sI_o (by omega), sI_ne (by omega), sI_ne (by omega), sI_eq]; rfl
    · rw [hd, sI_o (by omega), sI_ne (by omega), sI_eq]
    · rw [hd, sI_o (by omega), sI_eq]; rfl
    · rw [hd, sI_eq]
  have hP : PR d m S [] [] 1 w0 w0 := ⟨dr, ⟨d33.1, by show 0 ≤ 72; omega, trivial⟩, d33.2.2.2.1, d33.2.1, e34, by show 0 ≤ 8; omega, by rw [dn (S + 9) 3 (by omega) (by omega)]; exact e9, e35, hw, d33.2.2.1, e17, rfl, fun i hi => by rw [dn (S + 10) i (by omega) (by omega)]; exact ecd i hi, trivial⟩
  have x1 : ∀ {e : g_M}, FC d e S w0 → FCx c e S r w0 := fun {e} hx => ⟨fun o k z => by rw [hx.1]; exact dr' o k z, fun o k y1 y2 y3 y4 y5 y6 y7 => by rw [hx.2 o k y1 (by omega) y3 y4 y5]; exact dn o k (by omega) y6⟩
  rcases v_all (F := F) (S := S) (r := r) (n := n) hF hS 200 0 (by omega) d m p q 0 w0 w0 [] hN hP (by omega) (fun x t z => absurd z (by simp)) (fun z => absurd z (by omega)) (by show 6 * (8 - 0) + (64 - w0) + 7 ≤ 200; omega) with ko | ok
  · obtain ⟨c', m', f, q', g1, g2, g3, g4, g5, g6, g7, g8, g9, g10, g11, g12⟩ := ko
    exact ⟨f, c', m', by rw [eR]; exact g1, g2, x1 g11, g12, g9, Or.inr (Or.inl ⟨g3, g4, q', g5, g6, g7, g8, g10⟩)⟩
  · obtain ⟨v3, c3, m3, p3, q3, P3, w3, k3, g1, g2, g3, g4, g5, g6, g7, g8, g9, g10, g11, g12, g13⟩ := ok
    obtain ⟨a1, a2, a3, a4, a5, a6, a7, a8, a9, a10, a11, a12, a13, a14⟩ := id g4
    have a12' : w3 + P3.length = k3 := by simpa [nop] using a12
    have hn3 := g3.1.1.1.1
    have hpn3 := g3.1.1.2.1
    have hqp3 := g3.1.2.2.2.2.1
    have s15 := q_sg (F := F) g3 (a := 15) (b := 59) (fun x y hs => (SV_40 hs).2.2)
    have s14 := q_sg (F := F) g3 (a := 14) (b := 41) (fun x y hs => (SV_40 hs).2.1)
    have h700 : nI v3 < (700 : Int32) := (g_ltN (b := 700) (by omega) (by omega)).mpr (by omega)
    by_cases z : m3.1 0 28 = 3 ∧ m3.1 0 29 = 59
    · have hae : f1_isAtEnd F c3 = some (1 : Int32) := by
        unfold f1_isAtEnd
        rw [if_pos (show c3.1 33 4 = (0 : Int32) from a3), if_pos (show c3.1 33 2 = (0 : Int32) from a4), s15.1 z, g_bs, if_neg (by decide)]
      obtain ⟨c8, e1, e2, e3, e4, e5, e6⟩ := q_ww (F := F) hF hS (r := 1) (P := P3) (Q := []) (by omega) (by omega) a2 a10 (by omega) (fun x hx => g9 x hx) (fun x l y => absurd y (by simp)) a1
      obtain ⟨c9, hc9⟩ : ∃ y, y = g_sI c8 (S + 12) r (nI k3) := ⟨_, rfl⟩
      have eL : LQ F S r v3 c3 = some (nI 0, c9) := by
        unfold LQ
        rw [g_fix_p (by omega)]
        generalize g_fix (fun sf x => f1_reads_b46_body F (S + 9) (nI r) (fun v3 mem => sf (v3, mem)) x.1 x.2) (F - v3 - 1) = sf
        show f1_reads_b46_body F (S + 9) (nI r) (fun v3 mem => sf (v3, mem)) (nI v3) c3 = some (nI 0, c9)
        unfold f1_reads_b46_body f1_reads_b122
        rw [if_pos h700, hae, g_bs, if_neg (by decide), show f1_writeWaiting F (1 : Int32) c3 = some c8 from e1, g_bs, g_drL (S := S) (show c8.2.2 33 6 = some (S + 9) by rw [e5]; exact a1) hS, g_ckN (by omega) (by omega), g_clN (by omega), e3, a12', g_let_e, show S + 9 + 3 = S + 12 from rfl, ← hc9]
        rfl
      have cn : ∀ o j, ¬ (o = 33 ∧ (j = 1 ∨ j = 3)) → ¬ (o = S + 10 ∧ w3 ≤ j) → ¬ (o = S + 12 ∧ j = r) → c9.1 o j = c3.1 o j := fun o j y1 y2 y3 => by rw [hc9, sI_ne y3, e6 o j y1 y2]
      have hfx : FCx c c9 S r w0 := by
        have := x1 g11
        refine ⟨fun o k y => by rw [hc9]; show c8.2.2 o k = _; rw [e5]; exact this.1 o k y, fun o k y1 y2 y3 y4 y5 y6 y7 => by rw [cn o k (by omega) (by omega) y7]; exact this.2 o k y1 y2 y3 y4 y5 y6 y7⟩
      have hlt := g13.1
      refine ⟨0, c9, m3, by rw [eR, g1]; exact eL, g2, hfx, g12.K, by rw [cn 30 0 (by omega) (by omega) (by omega)]; exact g3.2.1, Or.inl ⟨rfl, p3, q3, k3, NC_frc g3 (by funext j; exact cn 31 j (by omega) (by omega) (by omega)) (by funext j; exact cn 1 j (by omega) (by omega) (by omega)) (by funext j; exact cn 32 j (by omega) (by omega) (by omega)) (cn 30 0 (by omega) (by omega) (by omega)), g6, by omega, a9, by rw [cn (S + 9) 3 (by omega) (by omega) (by omega)]; exact a7, by rw [a11, a12'], a8, a5, ?_, by rw [hc9, sI_eq], fun i hi => ?_, by rw [← a12']; exact g13, g12 0 31 (by omega) (by omega) (by omega)⟩⟩
      · rw [cn (S + 11) r (by omega) (by omega) (by omega), g11.2 (S + 11) r (by omega) (by omega) (by omega) (by omega) (by omega)]; exact d33.2.2.2.2
      · rw [hc9, sI_o (by omega)]
        by_cases y : i < w3
        · rw [e6 (S + 10) i (by omega) (by omega)]; exact a13 i y
        · exact COD_PEN w3 e4 a14 i (by omega) (by omega)
    · have hae : f1_isAtEnd F c3 = some (0 : Int32) := by
        unfold f1_isAtEnd
        rw [if_pos (show c3.1 33 4 = (0 : Int32) from a3), if_pos (show c3.1 33 2 = (0 : Int32) from a4), s15.2 z, g_bs, if_pos rfl]
      have fin : ∀ c6, (f8_isSign F (14 : Int32) c3).bind (fun r14 => if r14 = (0 : Int32) then f1_takeOperator F c3 else f1_takeClose F c3) = some ((1 : Int32), c6) → c6.2 = c3.2 → (∀ o j, ¬ (o = 33 ∧ 1 ≤ j ∧ j ≤ 4) → ¬ (o = S + 10 ∧ w3 ≤ j) → c6.1 o j = c3.1 o j) → ∃ f c' m', f1_reads F (S + 9) (nI r) c = some (nI f, c') ∧ fgE F 200 0 m = some m' ∧ FCx c c' S r w0 ∧ FMK m m' w0 ∧ c'.1 30 0 = nI 0 ∧ (f = 1 ∧ ∃ p' q', NC c' m' n p' q' ∧ ¬ (m'.1 0 28 = 3 ∧ m'.1 0 29 = 59)) := fun c6 b1 b2 b3 => by
        obtain ⟨j1, j2⟩ := q_it0 (F := F) (S := S) (r := r) hF (show v3 < 700 by omega) a3 hae (X := _) rfl
        have hfc : FC c3 c6 S w3 := ⟨b2, fun o j y1 y2 y3 y4 y5 => b3 o j y2 y5⟩
        exact ⟨1, c6, m3, by rw [eR, g1]; exact j2 c6 1 (by omega) (by omega) b1, g2, x1 (g11.tr hfc g7), g12.K, by rw [b3 30 0 (by omega) (by omega)]; exact g3.2.1, rfl, p3, q3, NC_frc g3 (by funext j; exact b3 31 j (by omega) (by omega)) (by funext j; exact b3 1 j (by omega) (by omega)) (by funext j; exact b3 32 j (by omega) (by omega)) (b3 30 0 (by omega) (by omega)), z⟩
      have wrap : (∃ f c' m', f1_reads F (S + 9) (nI r) c = some (nI f, c') ∧ fgE F 200 0 m = some m' ∧ FCx c c' S r w0 ∧ FMK m m' w0 ∧ c'.1 30 0 = nI 0 ∧ (f = 1 ∧ ∃ p' q', NC c' m' n p' q' ∧ ¬ (m'.1 0 28 = 3 ∧ m'.1 0 29 = 59))) → _ := fun ⟨f, c', m', t1, t2, t3, t4, t5, t6⟩ => (⟨f, c', m', t1, t2, t3, t4, t5, Or.inr (Or.inr t6)⟩ : ∃ f c' m', f1_reads F (S + 9) (nI r) c = some (nI f, c') ∧ fgE F 200 0 m = some m' ∧ FCx c c' S r w0 ∧ FMK m m' w0 ∧ c'.1 30 0 = nI 0 ∧ ((f = 0 ∧ ∃ p' q' w1, NC c' m' n p' q' ∧ q ≤ q' ∧ w0 < w1 ∧ w1 ≤ 64 ∧ c'.1 (S + 9) 3 = nI w1 ∧ m'.1 2 17 = nI w1 ∧ m'.1 0 35 = nI w1 ∧ m'.1 0 34 = nI 0 ∧ c'.1 (S + 11) r = nI w0 ∧ c'.1 (S + 12) r = nI w1 ∧ (∀ i, i < w1 → c'.1 (S + 10) i = enc (m'.1 20 (64 + i)) (m'.1 21 (64 + i))) ∧ PSG m' w0 w1 ∧ m'.1 0 31 = m.1 0 31) ∨ (1 ≤ f ∧ f ≤ 4 ∧ ∃ q', q' ≤ 700 ∧ m'.1 0 30 = nI f ∧ m'.1 0 31 = nI q' ∧ c'.1 31 1 = nI q' ∧ LCx c' m' n) ∨ (f = 1 ∧ ∃ p' q', NC c' m' n p' q' ∧ ¬ (m'.1 0 28 = 3 ∧ m'.1 0 29 = 59))))
      apply wrap
      by_cases z41 : m3.1 0 28 = 3 ∧ m3.1 0 29 = 41
      · refine fin c3 ?_ rfl (fun _ _ _ _ => rfl)
        rw [s14.1 z41, g_bs, if_neg (by decide)]
        unfold f1_takeClose
        rw [if_pos (show c3.1 33 2 < (1 : Int32) by rw [a4]; decide)]
      · obtain ⟨c6, b1, b2, b3⟩ := q_bad (F := F) hF hS g3 g4 g10
        exact fin c6 (by rw [s14.2 z41, g_bs, if_pos rfl]; exact b1) b2 b3
end L
