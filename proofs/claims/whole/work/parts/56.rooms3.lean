/-! how much room there was: room by room -/
section L
variable {F : Nat} {c m c' m' c1 m1 c2 m2 c3 m3 : g_M} {T S t f : Nat}
theorem rm_days (hF : 5000 < F) {c0 m0 : g_M} (h : DY c0 m0 c m T 47 1 noA) {room k : Nat} (hSG : SG c0 m0 0 room k) (hS : SEEN c m) {Z : Nat → Bool} (hZc : STR c 66 Z (KN m)) (hZm : STR m 43 Z (KN m)) {n : Nat} (hn : n ≤ 40) (hd : vl m 24 1 + n ≤ 10000) :
    ∃ r J, (r = nI 0 ∨ r = nI 1) ∧ J ≤ n ∧ (∀ s12 v2 v3, f10_rooms_b55 F s12 (nI n) v2 v3 (1 : Int32) (1 : Int32) c = f10_rooms_b95 F s12 (nI n) v2 v3 r (itr (nxC F) J c)) ∧ f11_fitsRoom_b7 F (nI n) (1 : Int32) m = some (r, itr (nxM F 1 0) J m) := by
  have it := fun i (hi : i ≤ n) => d_iter hF h hSG i (by omega)
  have fc : ∀ i, i ≤ n → ∀ o, 60 ≤ o → (itr (nxC F) i c).1 o = c.1 o := fun i hi o ho => by
    have h1 := (it i hi).1.2.2.2.1
    have h0 := h.2.2.2.1
    funext k
    rw [h1.2 o k (by omega) (by omega) (by omega), h0.2 o k (by omega) (by omega) (by omega)]
  have fm : ∀ i, i ≤ n → ∀ o k, (36 ≤ o ∨ (o = 0 ∧ (k = 65 ∨ k = 66))) → (itr (nxM F 1 0) i m).1 o k = m.1 o k := fun i hi o k ho => by
    have h1 := (it i hi).1.2.2.2.2
    have h0 := h.2.2.2.2
    have nd : ¬ inD o k 1 := fun z => by have := z.1; have := z.2.1; omega
    rw [h1.2 o k (by omega) nd, h0.2 o k (by omega) nd]
  have se : ∀ i, i ≤ n → SEEN (itr (nxC F) i c) (itr (nxM F 1 0) i m) := fun i hi => SEEN_fr hS (fun o a b => fc i hi o a) (fm i hi 0 65 (by omega)) (fm i hi 0 66 (by omega)) (fun o a b => by funext k; exact fm i hi o k (by omega))
  have kn : ∀ i, i ≤ n → KN (itr (nxM F 1 0) i m) = KN m := fun i hi => by unfold KN vl; rw [fm i hi 0 65 (by omega), fm i hi 0 66 (by omega)]
  obtain ⟨R, hR⟩ : ∃ R : Nat → Bool, R = fun i => decide (fstP (badP (itr (nxM F 1 0) i m) Z i) (KN m) < KN m) := ⟨_, rfl⟩
  have ag : ∀ i, i ≤ n → f6_agrees F (nI i) 47 (itr (nxC F) i c) = some (if R i = true then nI 0 else nI 1) := fun i hi => by
    have e := q_agrees hF (se i hi) (Z := Z) (fun j hj => by rw [kn i hi] at hj; rw [fc i hi 66 (by omega)]; exact hZc j hj) (fun j hj => ((it i hi).1.1.2.2.2.2.2.2.2.2.2.1 j hj).2) i
    rw [kn i hi] at e
    rw [e, hR]
    simp only [decide_eq_true_eq]
  have so : ∀ i, i ≤ n → f11_isSo F (nI i) (itr (nxM F 1 0) i m) = some (if R i = true then nI 0 else nI 1) := fun i hi => by
    have e := r_isSo hF (se i hi) (Z := Z) (fun j hj => by rw [kn i hi] at hj; rw [fm i hi 43 j (by omega)]; exact hZm j hj) i
    rw [kn i hi] at e
    rw [e, hR]
    simp only [decide_eq_true_eq]
  have cp : ∀ i, i < n → f0_pass F (1 : Int32) (itr (nxC F) i c) = some (itr (nxC F) (i + 1) c) := fun i hi => by
    have := d_pass hF (it i (by omega)).1 hSG (n := 1) (by omega) (by rw [(it i (by omega)).2]; omega)
    exact this
  have mp : ∀ i, i < n → f11_passes F (1 : Int32) (0 : Int32) (itr (nxM F 1 0) i m) = some (itr (nxM F 1 0) (i + 1) m) := fun i hi =>
    (d_step hF (it i (by omega)).1 hSG (by rw [(it i (by omega)).2]; omega)).2.1
  have hKle := fstP_le (fun i => R (i + 1)) n
  have hKno := fstP_no (fun i => R (i + 1)) n
  have hKyes := fstP_yes (fun i => R (i + 1)) n
  generalize fstP (fun i => R (i + 1)) n = K at *
  have hR0 : ∀ i, i < K → R (i + 1) = false := hKno
  obtain ⟨q, hq⟩ : ∃ q : Nat → Int32, q = fun i => if i = 0 then nI 1 else if R i = true then nI 0 else nI 1 := ⟨_, rfl⟩
  have q1 : ∀ i, i ≤ K → q i = nI 1 := fun i hi => by
    rw [hq]
    by_cases z : i = 0
    · simp only [if_pos z]
    · have := hR0 (i - 1) (by omega)
      rw [show i - 1 + 1 = i by omega] at this
      simp only [if_neg z, this]
      rfl
  have qs : ∀ i, q (i + 1) = if R (i + 1) = true then nI 0 else nI 1 := fun i => by rw [hq]; simp only [if_neg (Nat.succ_ne_zero i)]
  have cb : ∀ (s12 : Int32 → Int32 → Int32 → g_M → Option (Int32 × g_M)) (v2 v3 : Int32) (sf : Int32 × Int32 × Int32 × Int32 × Int32 × g_M → Option (Int32 × g_M)) (i : Nat), i < n → i ≤ K → f10_rooms_b55_body F s12 (fun a b c d e f => sf (a, b, c, d, e, f)) (nI n) v2 v3 (q i) (nI (i + 1)) (itr (nxC F) i c) = sf (nI n, v2, v3, q (i + 1), nI (i + 1 + 1), itr (nxC F) (i + 1) c) := fun s12 v2 v3 sf i hi hK => by
    unfold f10_rooms_b55_body
    rw [if_pos ((g_leN (by omega) (by omega)).mpr (by omega)), q1 i hK, if_neg nI10, cp i hi, g_bs, ag (i + 1) (by omega), g_bs, g_let_e, nI_s, qs]
  by_cases w : K < n
  · refine ⟨nI 0, K + 1, Or.inl rfl, by omega, fun s12 v2 v3 => ?_, ?_⟩
    · unfold f10_rooms_b55
      refine (congrArg (fun z => g_fix (fun sf x => f10_rooms_b55_body F s12 (fun v1 v2 v3 v4 v5 mem => sf (v1, v2, v3, v4, v5, mem)) x.1 x.2.1 x.2.2.1 x.2.2.2.1 x.2.2.2.2.1 x.2.2.2.2.2) F (nI n, v2, v3, z, nI 1, c)) (q1 0 (Nat.zero_le _)).symm).trans ?_
      refine g_for (fun i => (nI n, v2, v3, q i, nI (i + 1), itr (nxC F) i c)) (K + 1) (fun i hi sf => ?_) (by omega) (fun sf => ?_)
      · exact cb s12 v2 v3 sf i (by omega) (by omega)
      have e : q (K + 1) = nI 0 := by rw [qs, if_pos (hKyes w)]
      show f10_rooms_b55_body F s12 _ (nI n) v2 v3 (q (K + 1)) _ _ = _
      unfold f10_rooms_b55_body
      rw [e, if_pos nI00]
      split <;> rfl
    · unfold f11_fitsRoom_b7
      refine g_for (fun i => (nI (i + 1), itr (nxM F 1 0) i m)) K (fun i hi sf => ?_) (by omega) (fun sf => ?_)
      · unfold f11_fitsRoom_b7_body
        rw [if_pos ((g_leN (by omega) (by omega)).mpr (by omega)), mp i (by omega), g_bs, so (i + 1) (by omega), g_bs, hR0 i hi, if_neg ft, if_neg nI10, g_let_e, nI_s]
      · unfold f11_fitsRoom_b7_body
        rw [if_pos ((g_leN (by omega) (by omega)).mpr (by omega)), mp K w, g_bs, so (K + 1) (by omega), g_bs, if_pos (hKyes w), if_pos nI00]
        rfl
  · have hK : K = n := by omega
    subst hK
    refine ⟨nI 1, K, Or.inr rfl, by omega, fun s12 v2 v3 => ?_, ?_⟩
    · unfold f10_rooms_b55
      refine (congrArg (fun z => g_fix (fun sf x => f10_rooms_b55_body F s12 (fun v1 v2 v3 v4 v5 mem => sf (v1, v2, v3, v4, v5, mem)) x.1 x.2.1 x.2.2.1 x.2.2.2.1 x.2.2.2.2.1 x.2.2.2.2.2) F (nI K, v2, v3, z, nI 1, c)) (q1 0 (Nat.zero_le _)).symm).trans ?_
      refine g_for (fun i => (nI K, v2, v3, q i, nI (i + 1), itr (nxC F) i c)) K (fun i hi sf => ?_) (by omega) (fun sf => ?_)
      · exact cb s12 v2 v3 sf i (by omega) (by omega)
      show f10_rooms_b55_body F s12 _ (nI K) v2 v3 (q K) _ _ = _
      unfold f10_rooms_b55_body
      rw [if_neg (fun z => by have := (g_leN (by omega) (by omega)).mp z; omega), q1 K (Nat.le_refl _)]
    · unfold f11_fitsRoom_b7
      refine g_for (fun i => (nI (i + 1), itr (nxM F 1 0) i m)) K (fun i hi sf => ?_) (by omega) (fun sf => ?_)
      · unfold f11_fitsRoom_b7_body
        rw [if_pos ((g_leN (by omega) (by omega)).mpr (by omega)), mp i (by omega), g_bs, so (i + 1) (by omega), g_bs, hR0 i hi, if_neg ft, if_neg nI10, g_let_e, nI_s]
      · unfold f11_fitsRoom_b7_body
        rw [if_neg (fun z => by have := (g_leN (by omega) (by omega)).mp z; omega)]
        rfl
theorem rm_step (hF : 5000 < F) (hV : INV c (g_sI m 0 55 (-1))) {K n i : Nat} (hK : KN m = K) (hn : n ≤ 40) (hi : i < 10) {Z : Nat → Bool} (hZc : STR c 66 Z K) (hZm : STR m 43 Z K) (v2 : Int32) : ∃ v2' c' m', INV c' (g_sI m' 0 55 (-1)) ∧ KN m' = K ∧ STR c' 66 Z K ∧ STR m' 43 Z K ∧ (∀ sf, f10_rooms_b12_body F sf (nI n) v2 (nI (i + 1)) c = sf (nI n) v2' (nI (i + 1 + 1)) c') ∧ (∀ sf, f11_rooms_b128_body F sf (nI n) v2 (nI i) m = sf (nI n) v2' (nI (i + 1)) m') := by
  obtain ⟨T, S, hC, hI, hTa, hFl, hA, hS⟩ := INV_un hV
  obtain ⟨m0, hm0⟩ : ∃ x, x = g_sI m 0 55 (-1 : Int32) := ⟨_, rfl⟩
  obtain ⟨mm, hmm⟩ : ∃ x, x = g_sI m 0 55 (nI (i + 1)) := ⟨_, rfl⟩
  rw [← hm0] at hV hC hI hTa hFl hA hS
  have e0 : ∀ o k, ¬ (o = 0 ∧ k = 55) → mm.1 o k = m0.1 o k := fun o k z => by rw [hmm, hm0, sI_ne z, sI_ne z]
  have e00 : ∀ o k, ¬ (o = 0 ∧ k = 55) → m0.1 o k = m.1 o k := fun o k z => by rw [hm0, sI_ne z]
  have e55 : mm.1 0 55 = nI (i + 1) := by rw [hmm, sI_eq]
  have e0' : ∀ o, o ≠ 0 → mm.1 o = m0.1 o := fun o ho => by funext k; exact e0 o k (by omega)
  have hTS : TS c mm T 35 0 := TS_fr hC.2.2.2.1 rfl (fun _ _ _ => rfl) (fun _ _ _ _ => rfl) (fun o a b => e0' o (by omega)) (fun o k a b => e0 o k (by omega))
  obtain ⟨hT, ht, hf, hp0, hW, hR, hWS, hRS⟩ := id hTS
  obtain ⟨c1, k1, k2⟩ := q_begin (F := F) (c := c) hF hT (show isS 47 by unfold isS; omega)
  obtain ⟨m1, j1, j2, j3⟩ := r_starts (F := F) (f := 1) hF (by omega) hW.1.1.2 hW.1.2.2.2.1.2 hW.1.1.1 hW.1.2.2.2.1.1
  have j1' : f11_starts F (1 : Int32) mm = some m1 := j1
  have hTB : TB c m0 c1 m1 T := by
    refine ⟨TS_begin hT (show isS 47 by unfold isS; omega) (by omega) hW hR k2 j2 j3, AB_fr hA (k2.2.2.1 54 (by omega)) (by rw [k2.2.2.1 53 (by omega)]) (by rw [j2.2 0 56 n0D]; exact e0 0 56 (by omega)), fun o k z => by rw [k2.2.2.1 o (by omega)], fun o k a b => k2.1 o k (by omega), fun o k a b => by rw [j2.2 o k a]; exact e0 o k (by omega)⟩
  obtain ⟨c2, l1, l2, l3, l4, l5, l6, l7, l8⟩ := tb_start (F := F) hTB (1 : Int32)
  obtain ⟨h3, hA3⟩ := tb_set (c3 := g_sI c2 53 0 (nI (i + 1))) (m3 := m1) l2 l3 rfl (fun o k z => sI_ne (by omega)) (fun _ _ _ => rfl)
  obtain ⟨c3, hc3⟩ : ∃ x, x = g_sI c2 53 0 (nI (i + 1)) := ⟨_, rfl⟩
  have m53 : m1.1 0 53 = m0.1 0 53 := by rw [j2.2 0 53 n0D]; exact e0 0 53 (by omega)
  have m55 : m1.1 0 55 = nI (i + 1) := by rw [j2.2 0 55 n0D]; exact e55
  have hSG : SG c3 m1 0 (i + 1) 0 := by
    rw [hc3]
    exact ⟨by omega, by omega, by omega, sI_eq, m53.trans hC.2.2.2.2.2.1.1, Or.inr (Or.inr ⟨by omega, by rw [m55]; exact nI_m1 (by omega), m55⟩), by rw [sI_ne (by omega), l5]; rfl, Or.inr ⟨by omega, by rw [sI_ne (by omega)]; exact l6⟩, by rw [sI_ne (by omega)]; exact l7⟩
  rw [← hc3] at h3 hA3
  have fc : ∀ o, 60 ≤ o → c3.1 o = c.1 o := fun o ho => by funext k; exact h3.2.2.1 o k (by omega)
  have fm : ∀ o k, (36 ≤ o ∨ (o = 0 ∧ (k = 65 ∨ k = 66))) → m1.1 o k = m0.1 o k := fun o k ho => h3.2.2.2.2 o k (fun z => by have := z.1; have := z.2.1; omega) (by omega)
  have hS3 : SEEN c3 m1 := SEEN_fr hS (fun o a b => fc o a) (fm 0 65 (by omega)) (fm 0 66 (by omega)) (fun o a b => by funext k; exact fm o k (by omega))
  have hK1 : KN m1 = K := by
    rw [← hK]; unfold KN vl; rw [fm 0 65 (by omega), fm 0 66 (by omega), e00 0 65 (by omega), e00 0 66 (by omega)]
  have hv0 : vl m1 24 1 = 0 := vl_of j3.1.1 (by omega)
  obtain ⟨r, J, r1, r2, r3, r4⟩ := rm_days hF (tb_dy h3 hA3) hSG hS3 (Z := Z) (by rw [hK1]; intro j hj; rw [fc 66 (by omega)]; exact hZc j hj) (by rw [hK1]; intro j hj; rw [fm 43 j (by omega), e00 43 j (by omega)]; exact hZm j hj) (n := n) hn (by omega)
  obtain ⟨D, _⟩ := d_iter hF (tb_dy h3 hA3) hSG J (by omega)
  obtain ⟨c4, hc4⟩ : ∃ x, x = itr (nxC F) J c3 := ⟨_, rfl⟩
  obtain ⟨m4, hm4⟩ : ∃ x, x = itr (nxM F 1 0) J m1 := ⟨_, rfl⟩
  rw [← hc4, ← hm4] at D
  rw [← hm4] at r4
  have hrel : ∀ o k, relM o k → (g_sI m4 0 55 (-1 : Int32)).1 o k = m0.1 o k := by
    intro o k z
    unfold relM at z
    have hd : ¬ inD o k 1 := by
      intro y
      have y1 := y.1
      have y2 := y.2.1
      rcases z with z | z | z | z
      · omega
      · omega
      · exact z.2.2 y
      · omega
    by_cases x : o = 0 ∧ k = 55
    · obtain ⟨x1, x2⟩ := x
      subst x1; subst x2
      rw [sI_eq, hm0, sI_eq]
    · rw [sI_ne x, D.2.2.2.2.2 o k (by omega) hd, j2.2 o k hd]; exact e0 o k x
  have hVn := tb_inv hV h3 D.2.2.2.1 hrel (AB_fr D.2.2.1 rfl rfl (sI_ne (by omega)))
  have gm : ∀ o k, (36 ≤ o ∨ (o = 0 ∧ (k = 65 ∨ k = 66))) → m4.1 o k = m.1 o k := fun o k ho => by
    have nd : ¬ inD o k 1 := fun z => by have := z.1; have := z.2.1; omega
    rw [D.2.2.2.2.2 o k (by omega) nd, fm o k ho]; exact e00 o k (by omega)
  have gc : ∀ o, 60 ≤ o → c4.1 o = c.1 o := fun o ho => by
    funext k
    rw [D.2.2.2.1.2 o k (by omega) (by omega) (by omega), fc o ho]
  have bC : ∀ sf, f10_rooms_b12_body F sf (nI n) v2 (nI (i + 1)) c = f10_rooms_b95 F sf (nI n) v2 (nI (i + 1)) r c4 := fun sf => by
    unfold f10_rooms_b12_body
    rw [if_pos (show nI (i + 1) ≤ (10 : Int32) from (g_leN (b := 10) (by omega) (by omega)).mpr (by omega)), g_drT hC.2.1 hT, k1, g_bs, l1, g_bs, g_let_e, ← hc3, r3, ← hc4]
  have ms : nI (i + 1) - (1 : Int32) = nI i := by show nI (i + 1) - nI 1 = nI i; rw [g_subN (by omega)]; rfl
  have bM : ∀ sf, f11_rooms_b128_body F sf (nI n) v2 (nI i) m = if r = (0 : Int32) then f11_rooms_b157 F sf (nI n) (nI i) v2 (0 : Int32) m4 else f11_rooms_b157 F sf (nI n) (nI i) v2 ((1 : Int32) <<< (nI i &&& 31)) m4 := fun sf => by
    unfold f11_rooms_b128_body f11_fitsRoom
    rw [if_pos (show nI i < (10 : Int32) from (g_ltN (b := 10) (by omega) (by omega)).mpr hi), g_let_e, nI_s, ← hmm, j1', g_bs]
    rw [show f11_fitsRoom_b7 F (nI n) (1 : Int32) m1 = _ from r4, g_bs]
  refine ⟨v2 ||| (if r = (0 : Int32) then nI 0 else (nI 1 <<< (nI i &&& 31))), c4, m4, hVn, ?_, ?_, ?_, fun sf => ?_, fun sf => ?_⟩
  · rw [← hK]; unfold KN vl; rw [gm 0 65 (by omega), gm 0 66 (by omega)]
  · intro j hj; rw [gc 66 (by omega)]; exact hZc j hj
  · intro j hj; rw [gm 43 j (by omega)]; exact hZm j hj
  · rw [bC]
    unfold f10_rooms_b95 f10_rooms_b108
    rcases r1 with rfl | rfl
    · rw [if_pos nI00, if_pos nI00, or_0, g_let_e, nI_s]
    · rw [if_neg nI10, if_neg nI10, g_let_e, g_let_e, ms, nI_s]; rfl
  · rw [bM]
    unfold f11_rooms_b157
    rcases r1 with rfl | rfl
    · rw [if_pos nI00, if_pos nI00, g_let_e, g_let_e, nI_s]; rfl
    · rw [if_neg nI10, if_neg nI10, g_let_e, g_let_e, nI_s]; rfl
theorem s_rooms (hF : 5000 < F) (h : INV c m) : CALL (f10_rooms F c) (f11_rooms F m) := by
  refine call_of h (fun T S m1 hV hC hI hTa hFl hA hS hG => ?_)
  obtain ⟨c1, k1, k2, k3, k4⟩ := q_weigh (F := F) hF hS
  obtain ⟨m2, j1, j2, j3, j4⟩ := r_weigh (F := F) hF hS
  have hb := mxd_le (TGT_of hS) (by have := (lim (F := F) hS).2.2; omega) (strk m1 (KN m1) noA) (KN m1) (Nat.le_refl _)
  generalize mxd m1 (strk m1 (KN m1) noA) (KN m1) = n at *
  have hK : KN m2 = KN m1 := by unfold KN vl; rw [j3 0 (by omega)]
  have h55 : m2.1 0 55 = -1 := by rw [j3 0 (by omega)]; exact hC.2.2.2.2.2.1.2
  have ee : ∀ o k, (g_sI m2 0 55 (-1 : Int32)).1 o k = m2.1 o k := fun o k => by
    by_cases z : o = 0 ∧ k = 55
    · rw [z.1, z.2, sI_eq, h55]
    · exact sI_ne z
  have hV2 : INV c1 (g_sI m2 0 55 (-1)) := INV_fr hV (fun o k z => by rw [k2]) (fun o k z => by rw [k3 o (by unfold relC at z; omega)]) (fun o k z => by rw [ee, j3 o (by unfold relM at z; omega)]) (AB_fr hA (k3 54 (by omega)) (by rw [k3 53 (by omega)]) (by rw [ee, j3 0 (by omega)]))
  unfold f10_rooms
  rw [k1, g_bs, g_let_e, j1]
  obtain ⟨s', t', ⟨v', c', m', q1, q2, q3, q4, q5, q6⟩, ⟨sf, e1⟩, ⟨sf', e2⟩⟩ := g_for2 (b := fun sf (x : Int32 × Int32 × Int32 × g_M) => f10_rooms_b12_body F (fun v1 v2 v3 mem => sf (v1, v2, v3, mem)) x.1 x.2.1 x.2.2.1 x.2.2.2) (b' := fun sf (x : Int32 × Int32 × Int32 × g_M) => f11_rooms_b128_body F (fun v1 v2 v3 mem => sf (v1, v2, v3, mem)) x.1 x.2.1 x.2.2.1 x.2.2.2)
    (fun i s t => ∃ v2 c m, INV c (g_sI m 0 55 (-1)) ∧ KN m = KN m1 ∧ STR c 66 (strk m1 (KN m1) noA) (KN m1) ∧ STR m 43 (strk m1 (KN m1) noA) (KN m1) ∧ s = (nI n, v2, nI (i + 1), c) ∧ t = (nI n, v2, nI i, m)) 10 (fun i s t hi hst => by
      obtain ⟨v2, c1, m1, q1, q2, q3, q4, q5, q6⟩ := hst
      subst q5; subst q6
      obtain ⟨v3, c2, m2, w1, w2, w3, w4, w5, w6⟩ := rm_step hF q1 q2 hb hi q3 q4 v2
      exact ⟨_, _, ⟨v3, c2, m2, w1, w2, w3, w4, rfl, rfl⟩, fun sf => w5 _, fun sf => w6 _⟩) (s := (nI n, 0, 1, c1)) (t := (nI n, 0, 0, m2)) ⟨0, c1, m2, hV2, hK, k4, j4, rfl, rfl⟩ (F := F) (by omega)
  unfold f10_rooms_b12 f11_rooms_b128
  rw [e1, e2]
  subst q5; subst q6
  show CALL (f10_rooms_b12_body F _ (nI n) v' (nI 11) c') (f11_rooms_b128_body F _ (nI n) v' (nI 10) m')
  unfold f10_rooms_b12_body f11_rooms_b128_body
  rw [if_neg (show ¬ nI 11 ≤ (10 : Int32) by decide), if_neg (show ¬ nI 10 < (10 : Int32) by decide), g_let_e]
  exact ⟨_, _, _, rfl, rfl, q1⟩
end L
