/-! the laws, asked for -/
section L
variable {F : Nat} {c m c' m' c1 m1 : g_M} {T S : Nat}
def CALLL (x y : Option (Int64 × g_M)) : Prop := ∃ r c' m', x = some (r, c') ∧ y = some (r, m') ∧ INV c' m'
theorem callL_of {x : Option (Int64 × g_M)} {y : g_M → Option (Int64 × g_M)} (h : INV c m) (hk : ∀ T S m1, INV c m1 → COR c m1 T S → AB c m1 noA → G c m1 T → CALLL x (y m1)) : CALLL x (g_let (g_sI m 0 0 (0 : Int32)) y) := by
  have h1 : INV c (g_sI m 0 0 (0 : Int32)) := INV_thr h _
  obtain ⟨T, S, hC, hI, hT, hF, hA, hS⟩ := INV_un h1
  exact hk T S _ h1 hC hA ⟨hC.2.2.2.1, hC.2.1⟩
theorem INV_fl (h : INV c m) (hc : flC c c') (hm : flM m m') (hA : AB c m noA) : INV c' m' :=
  INV_fr h (fun o k _ => by rw [hc.2]) (fun o k _ => by rw [hc.1]) (fun o k z => hm.1 o k (fun y => by unfold relM at z; omega)) (AB_fl hA hc hm)
theorem r_lawEnd {r : Nat} {v : Int64} (h : LW F r v m) (hl : vl m 18 r < vl m 19 r) (a2 a3 : Int32) : ∃ m2, f11_law_b130 F (nI r) a2 a3 m = some (v, m2) ∧ flM m m2 := by
  unfold f11_law_b130
  rcases h with ⟨z, _⟩ | ⟨_, ok, m2, e, hfl, h⟩
  · exact absurd hl z
  · rw [e, g_bs]
    rcases h with ⟨rfl, rfl⟩ | ⟨rfl, rfl, _⟩
    · exact ⟨m2, by rw [if_pos nI00], hfl⟩
    · exact ⟨m2, by rw [if_neg nI10, g_ck0]; rfl, hfl⟩
theorem LW_no {r : Nat} {v : Int64} (h : LW F r v m) (hl : ¬ vl m 18 r < vl m 19 r) : v = -9223372036854775808 := by
  rcases h with ⟨_, z⟩ | ⟨z, _⟩
  · exact z
  · exact absurd z hl
theorem s_law (hF : 5000 < F) (h : INV c m) (a1 a2 a3 : Int32) : CALLL (f10_law F a1 a2 a3 c) (f11_law F a1 a2 a3 m) := by
  refine callL_of h (fun T S m1 hV hC hA hG => ?_)
  have hTS0 := hG.1
  obtain ⟨hT, ht, hf, hp0, hW, hR, hWS, hRS⟩ := id hTS0
  have hTl := isT_le hT
  obtain ⟨c1, k1, k2, k3, k4, k5, k6, k7, k8⟩ := q_start (F := F) hT (show isS 35 by unfold isS; omega) hp0 (0 : Int32)
  have hA1 : AB c1 m1 noA := AB_fr hA (by funext k; exact k4 54 k (by omega)) (k4 53 7 (by omega)) rfl
  have hV1 : INV c1 m1 := INV_fr hV (fun o k z => k2 o k (by omega)) (fun o k z => k4 o k (by unfold relC at z; omega)) (fun _ _ _ => rfl) hA1
  have hTS : TS c1 m1 T 35 0 := TS_fr hTS0 (k2 35 0 (by omega)) (fun o a b => by funext k; exact k4 o k (by omega)) (fun o k a b => k4 o k (by omega)) (fun _ _ _ => rfl) (fun _ _ _ _ => rfl)
  have hG1 : G c1 m1 T := ⟨hTS, by rw [k2 0 2 (by omega)]; exact hG.2⟩
  unfold f10_law
  rw [k1, g_bs]
  have vv : ∀ {m' : g_M}, flM m1 m' → ∀ o k, o ≠ 0 → vl m' o k = vl m1 o k := fun hm o k ho => by unfold vl; rw [hm.o ho]
  by_cases ha : okI a1 3
  rotate_left
  · have n0 : ¬ a1 = (0 : Int32) := fun z => ha ⟨0, by omega, z⟩
    have n1 : ¬ a1 = (1 : Int32) := fun z => ha ⟨1, by omega, z⟩
    have n2 : ¬ a1 = (2 : Int32) := fun z => ha ⟨2, by omega, z⟩
    unfold f10_law_b35 f10_law_b66
    rw [if_neg n0, if_neg n1, if_neg n2]
    rcases not_span (n := 2) (by omega) ha with z | ⟨z1, z2⟩
    · rw [if_neg z]; exact ⟨_, _, _, rfl, rfl, hV1⟩
    · rw [if_pos z1, if_neg (show ¬ a1 ≤ (2 : Int32) from z2)]; exact ⟨_, _, _, rfl, rfl, hV1⟩
  obtain ⟨r, hr, rfl⟩ := ha
  have r1 : (0 : Int32) ≤ nI r := nI_ge0 (by omega)
  have r2 : nI r ≤ (2 : Int32) := (g_leN (b := 2) (by omega) (by omega)).mpr (by omega)
  rw [if_pos r1, if_pos r2, r_hasLaw hW hr, g_bs]
  have b66 : ∀ x : Int32, ¬ x = (2 : Int32) → f10_law_b66 F x a2 a3 c1 = some (-9223372036854775808, c1) := fun x hx => by unfold f10_law_b66; rw [if_neg hx]
  rcases (show r = 0 ∨ r = 1 ∨ r = 2 by omega) with rfl | rfl | rfl
  · have e2 : ¬ nI 0 = (2 : Int32) := by decide
    have e1 : ¬ nI 0 = (1 : Int32) := by decide
    have b35 : f10_law_b35 F (nI 0) a2 a3 c1 = some (-9223372036854775808, c1) := by unfold f10_law_b35; rw [if_neg e1, b66 _ e2]
    rw [if_pos nI00, if_neg e2]
    by_cases hp : okI a2 (vl m1 2 0) ∧ okI a3 (vl m1 2 1)
    · obtain ⟨⟨p, hp, rfl⟩, ⟨s, hs, rfl⟩⟩ := hp
      obtain ⟨c2, v, m2, j1, j2, j3, j4, j5, j6⟩ := d_fare (F := F) hF hTS k3 hA1 hp hs
      rw [q_part1 hG1 hp hs, g_bs, if_neg nI10, j1, g_bs]
      by_cases hl : vl m1 18 0 < vl m1 19 0
      · rw [if_pos hl, if_neg nI10, r_man1 hW hp, g_bs, if_neg nI10]
        unfold f11_law_b39
        rw [if_neg e1, r_sort1 hW hs, g_bs, if_neg nI10]
        unfold f11_law_b73
        rw [if_pos nI00]
        obtain ⟨m3, e, hfl⟩ := r_lawEnd j6 (by rw [vv j5 18 0 (by omega), vv j5 19 0 (by omega)]; exact hl) (nI p) (nI s)
        have j3' : f11_awayOf F (0 : Int32) (nI p) m1 = _ := j3
        have j4' : f11_calls F (0 : Int32) (nI p) (nI s) (nI (awN m1 0 p)) (0 : Int32) m1 = _ := j4
        rw [j3', g_bs, j4', g_bs, e]
        exact ⟨_, _, _, rfl, rfl, INV_fl hV1 j2 (j5.trans hfl) hA1⟩
      · rw [if_neg hl, if_pos nI00, LW_no j6 (by rw [vv j5 18 0 (by omega), vv j5 19 0 (by omega)]; exact hl)]
        exact ⟨_, _, _, rfl, rfl, INV_fl hV1 j2 (flM.rfl' m1) hA1⟩
    · rw [q_part0 hG1 hp, g_bs, if_pos nI00, b35]
      by_cases hl : vl m1 18 0 < vl m1 19 0
      rotate_left
      · rw [if_neg hl, if_pos nI00]; exact ⟨_, _, _, rfl, rfl, hV1⟩
      rw [if_pos hl, if_neg nI10]
      by_cases hm : okI a2 (vl m1 2 0)
      · obtain ⟨p, hp', rfl⟩ := id hm
        rw [r_man1 hW hp', g_bs, if_neg nI10]
        unfold f11_law_b39
        rw [if_neg e1, r_sort0 hW (fun z => hp ⟨hm, z⟩), g_bs, if_pos nI00]; exact ⟨_, _, _, rfl, rfl, hV1⟩
      · rw [r_man0 hW hm, g_bs, if_pos nI00]; exact ⟨_, _, _, rfl, rfl, hV1⟩
  · have e2 : ¬ nI 1 = (2 : Int32) := by decide
    have e0 : ¬ nI 1 = (0 : Int32) := by decide
    have e1 : nI 1 = (1 : Int32) := rfl
    rw [if_neg e0, if_neg e2]
    unfold f10_law_b35
    rw [if_pos e1, b66 _ e2]
    by_cases hm : okI a2 (vl m1 2 0)
    rotate_left
    · rw [q_man0 hG1 hm, g_bs, if_pos nI00, r_man0 hW hm, g_bs, if_pos nI00, ite_self]
      exact ⟨_, _, _, rfl, rfl, hV1⟩
    obtain ⟨p, hp, rfl⟩ := id hm
    rw [q_man1 hG1 hp, g_bs, if_neg nI10, r_man1 hW hp, g_bs, if_neg nI10]
    unfold f11_law_b39
    rw [if_pos e1]
    have ck4 : ∀ k : Option (Int64 × g_M), g_ck (4 : Int32) 18 k = k := fun k => g_ckN (x := 4) (by omega) (by omega)
    have cl4 : (4 : Int32).toNatClampNeg = 4 := rfl
    have vW := hW.1.2.2.2.2.1.1
    have bW := hW.1.2.2.2.2.1.2
    by_cases hw : okI a3 (vl m1 2 4)
    · obtain ⟨w, hw, rfl⟩ := hw
      obtain ⟨c2, v, m2, j1, j2, j3, j4, j5, j6⟩ := d_gain (F := F) hF hTS k3 hA1 hp hw
      rw [q_want1 hG1 hw, g_bs, if_neg nI10, j1, g_bs]
      by_cases hl : vl m1 18 1 < vl m1 19 1
      · rw [if_pos hl, if_neg nI10, if_pos (show (0 : Int32) ≤ nI w from nI_ge0 (by omega)), ck4, cl4, vW, if_neg (fun z => by have := (g_leN (by omega) (by omega)).mp z; omega)]
        unfold f11_law_b73
        rw [if_neg e0, if_pos e1]
        obtain ⟨m3, e, hfl⟩ := r_lawEnd j6 (by rw [vv j5 18 1 (by omega), vv j5 19 1 (by omega)]; exact hl) (nI p) (nI w)
        have j3' : f11_awayOf F (0 : Int32) (nI p) m1 = _ := j3
        have j4' : f11_calls F (0 : Int32) (nI p) (-1) (nI (awN m1 0 p)) (m1.1 17 w) m1 = _ := j4
        rw [j3', g_bs, g_ckN (by omega) (by omega), g_clN (by omega), j4', g_bs, e]
        exact ⟨_, _, _, rfl, rfl, INV_fl hV1 j2 (j5.trans hfl) hA1⟩
      · rw [if_neg hl, if_pos nI00, LW_no j6 (by rw [vv j5 18 1 (by omega), vv j5 19 1 (by omega)]; exact hl)]
        exact ⟨_, _, _, rfl, rfl, INV_fl hV1 j2 (flM.rfl' m1) hA1⟩
    · rw [q_want0 hG1 hw, g_bs, if_pos nI00]
      by_cases hl : vl m1 18 1 < vl m1 19 1
      rotate_left
      · rw [if_neg hl, if_pos nI00]; exact ⟨_, _, _, rfl, rfl, hV1⟩
      rw [if_pos hl, if_neg nI10]
      rcases not_okI (by omega) hw with z | ⟨z1, z2⟩
      · rw [if_neg (show ¬ (0 : Int32) ≤ a3 from z)]; exact ⟨_, _, _, rfl, rfl, hV1⟩
      · rw [if_pos (show (0 : Int32) ≤ a3 from z1), ck4, cl4, vW, if_pos (Int32.not_lt.mp z2)]; exact ⟨_, _, _, rfl, rfl, hV1⟩
  · have e2 : nI 2 = (2 : Int32) := rfl
    have e0 : ¬ nI 2 = (0 : Int32) := by decide
    have e1 : ¬ nI 2 = (1 : Int32) := by decide
    rw [if_neg e0, if_pos e2]
    unfold f10_law_b35 f10_law_b66 f11_law_b39
    rw [if_neg e1, if_pos e2, if_neg e1]
    by_cases hs : okI a3 (vl m1 2 1)
    · obtain ⟨s, hs, rfl⟩ := hs
      obtain ⟨c2, v, m2, j1, j2, j3, j4, j5, j6⟩ := d_mix (F := F) (a := 0) hF hTS k3 hA1 hs (cnt_all0 _)
      rw [q_sort1 hG1 hs, g_bs, if_neg nI10, j1, g_bs, r_sort1 hW hs, g_bs, if_neg nI10]
      by_cases hl : vl m1 18 2 < vl m1 19 2
      · rw [if_pos hl, if_neg nI10]
        unfold f11_law_b73
        rw [if_neg e0, if_neg e1]
        obtain ⟨m3, e, hfl⟩ := r_lawEnd j6 (by rw [vv j5 18 2 (by omega), vv j5 19 2 (by omega)]; exact hl) a2 (nI s)
        have j4' : f11_calls F (0 : Int32) (-1) (nI s) (0 : Int32) (0 : Int32) m1 = _ := j4
        rw [j4', g_bs, e]
        exact ⟨_, _, _, rfl, rfl, INV_fl hV1 j2 (j5.trans hfl) hA1⟩
      · rw [if_neg hl, if_pos nI00, LW_no j6 (by rw [vv j5 18 2 (by omega), vv j5 19 2 (by omega)]; exact hl)]
        exact ⟨_, _, _, rfl, rfl, INV_fl hV1 j2 (flM.rfl' m1) hA1⟩
    · rw [q_sort0 hG1 hs, g_bs, if_pos nI00, r_sort0 hW hs, g_bs, if_pos nI00, ite_self]
      exact ⟨_, _, _, rfl, rfl, hV1⟩
end L
