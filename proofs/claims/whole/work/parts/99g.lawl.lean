-- (the skeleton's words of the law's end stand in 99h)
theorem w_cond {L i : Nat} (hL : L ≤ 3072) (hi : i ≤ 3072) (h : ¬ Int32.ofNat L - 6 < nI i) : i + 6 ≤ L := by
  by_cases z : 6 ≤ L
  · have e : Int32.ofNat L - 6 = nI (L - 6) := g_subN (a := L) (b := 6) z
    rw [e] at h
    rcases Nat.lt_or_ge (L - 6) i with y | y
    · exact absurd ((g_ltN (by omega) (by omega)).mpr y) h
    · omega
  · exfalso
    apply h
    rw [Int32.lt_iff_toInt_lt, nI_toInt (by omega)]
    have hd : ∀ j : Fin 6, (Int32.ofNat j.val - 6).toInt < 0 := by decide
    have := hd ⟨L, by omega⟩
    simp only at this
    omega
section WL
variable {p : Program} {l : Launch} {e : Env} {s : State} {m : MethodId} {below : List Frame} {meth : Method} {c : Code} {H : Heap} {locs : List Loc} {cells slots : Nat} {Q : State → Prop}
variable {pc : Nat} {ls : Array Slot} {rest : List Value} {D : va_G} {aC : Nat → ClassId} {b L : Nat} {xs : Nat → Int32} {cm mm : g_M}

theorem w_loop (hl0 : l.stackTraces = false) (E : w_E p s m c D aC b L xs) (kend : ∀ (H : Heap) (locs : List Loc) (ls : Array Slot) (t : Nat), t ≤ 512 → va_S (n_A s.heap.size) s.heap H locs → W p l e room_1 s m #[Value.ref b] below meth c H locs (114 + t) (6202 + 6 * t) Q (F0 m 1768 ls [])) :
    ∀ (n t : Nat) (H : Heap) (locs : List Loc) (cm mm : g_M) (ls : Array Slot), L ≤ 6 * t + 6 * n + 5 → 6 * t ≤ L + 5 → w_M D aC s cm mm H locs → INV cm mm → lv_has ls 7 (w_lv s b (6 * t)) → W p l e room_1 s m #[Value.ref b] below meth c H locs (114 + t) (6202 + 6 * t) Q (F0 m 23 ls []) := by
  intro n
  have hx := E.1.1
  have hb := E.1.2.1
  have hX := E.2.2.1
  have hbl := E.2.2.2.1
  have hL := E.2.2.2.2
  induction n with
  | zero =>
    intro t H locs cm mm ls h1 h2 hM hI hl
    refine lv_iload hx hb dL_law_23 (lv_at hl 4 rfl) ?_
    refine lv_aload_n hx hb dL_law_25 rfl (lv_at hl 0 rfl) ?_
    refine va_slen hx hb hX hbl (Nat.not_le.mpr hbl) hM.2.2.2 dL_law_26 ?_
    refine lv_bipush (v := (6 : Int32)) hx hb dL_law_27 (by decide) ?_
    refine lv_isub hx hb dL_law_29 ?_
    refine lv_icmp_gt (tgt := 1768) hx hb dL_law_30 (by decide) (fun _ => kend H locs ls t (by omega) hM.2.2.2) (fun h => ?_)
    have := w_cond hL (by omega) h
    omega
  | succ n ih =>
    intro t H locs cm mm ls h1 h2 hM hI hl
    refine lv_iload hx hb dL_law_23 (lv_at hl 4 rfl) ?_
    refine lv_aload_n hx hb dL_law_25 rfl (lv_at hl 0 rfl) ?_
    refine va_slen hx hb hX hbl (Nat.not_le.mpr hbl) hM.2.2.2 dL_law_26 ?_
    refine lv_bipush (v := (6 : Int32)) hx hb dL_law_27 (by decide) ?_
    refine lv_isub hx hb dL_law_29 ?_
    refine lv_icmp_gt (tgt := 1768) hx hb dL_law_30 (by decide) (fun _ => kend H locs ls t (by omega) hM.2.2.2) (fun h => ?_)
    have hi : 6 * t + 6 ≤ L := w_cond hL (by omega) h
    have go0 : ∀ (H1 : Heap) (locs1 : List Loc) (c1 m1 : g_M) (ls1 : Array Slot), w_M D aC s c1 m1 H1 locs1 → INV c1 m1 → lv_has ls1 7 (w_lv s b (6 * t)) → W p l e room_1 s m #[Value.ref b] below meth c H1 locs1 (114 + t + 1) (6202 + 6 * t + 6) Q (F0 m 1762 ls1 []) := by
      intro H1 locs1 c1 m1 ls1 hM1 hI1 hl1
      refine lv_iinc (k := 4) (v := nI (6 * (t + 1))) (lv' := [(4, .int (nI (6 * (t + 1)))), (0, .ref b), (1, .ref (s.heap.size + 0)), (2, .ref (s.heap.size + 69 + 0)), (3, .ref (s.heap.size + 113))]) hx hb dL_law_1762 hl1 rfl (show nI (6 * t) + nI 6 = nI (6 * (t + 1)) by rw [nI_add]; rfl) (by decide) rfl (fun ls2 hl2 => ?_)
      refine lv_goto (tgt := 23) hx hb dL_law_1765 (by decide) ?_
      have := ih (t + 1) H1 locs1 c1 m1 ls2 (by omega) (by omega) hM1 hI1 (lv_sub hl2 [1, 2, 3, 4, 0] rfl)
      rw [show 114 + (t + 1) = 114 + t + 1 by omega, show 6202 + 6 * (t + 1) = 6202 + 6 * t + 6 by omega] at this
      exact this
    have go : ∀ (H1 : Heap) (locs1 : List Loc) (c1 m1 : g_M), w_M D aC s c1 m1 H1 locs1 → INV c1 m1 → W p l e room_1 s m #[Value.ref b] below meth c H1 locs1 (114 + t + 1) (6202 + 6 * t + 6) Q (F0 m 1762 ls []) := fun H1 locs1 c1 m1 hM1 hI1 => go0 H1 locs1 c1 m1 ls hM1 hI1 hl
    refine W.eq (g2 := F0 m 33 ls []) rfl ?_
    refine lv_aload_n hx hb dL_law_33 rfl (lv_at hl 0 rfl) ?_
    refine lv_iload hx hb dL_law_34 (lv_at hl 4 rfl) ?_
    refine va_sld hx hb hX hbl (Nat.not_le.mpr hbl) hM.2.2.2 (i := nI (6 * t)) (nI_in (by omega) (by omega)) dL_law_36 ?_
    refine lv_bipush (v := (63 : Int32)) hx hb dL_law_37 (by decide) ?_
    refine lv_iand hx hb dL_law_39 ?_
    obtain ⟨w, hw, ew⟩ := pk_andE (xs (nI (6 * t)).toNatClampNeg) (m := 63) 6 (by decide)
    rw [ew]
    refine W.eq (g2 := F0 m 40 ls [.int (nI w)]) rfl ?_
    by_cases z : 40 < w
    · refine lv_tableOut (tgt := 1762) hx hb dL_law_40 (Or.inr (by rw [nI_toInt (by omega)]; omega)) (by decide) ?_
      exact W.widen (k := 114 + t + 1) (n := 6202 + 6 * t + 6) (by omega) (by omega) (go H locs cm mm hM hI)
    have z2 : w = 0 ∨ w = 1 ∨ w = 2 ∨ w = 3 ∨ w = 4 ∨ w = 5 ∨ w = 6 ∨ w = 7 ∨ w = 8 ∨ w = 9 ∨ w = 10 ∨ w = 11 ∨ w = 12 ∨ w = 13 ∨ w = 14 ∨ w = 15 ∨ w = 16 ∨ w = 17 ∨ w = 18 ∨ w = 19 ∨ w = 20 ∨ w = 21 ∨ w = 22 ∨ w = 23 ∨ w = 24 ∨ w = 25 ∨ w = 26 ∨ w = 27 ∨ w = 28 ∨ w = 29 ∨ w = 30 ∨ w = 31 ∨ w = 32 ∨ w = 33 ∨ w = 34 ∨ w = 35 ∨ w = 36 ∨ w = 37 ∨ w = 38 ∨ w = 39 ∨ w = 40 := by omega
    rcases z2 with rfl | rfl | rfl | rfl | rfl | rfl | rfl | rfl | rfl | rfl | rfl | rfl | rfl | rfl | rfl | rfl | rfl | rfl | rfl | rfl | rfl | rfl | rfl | rfl | rfl | rfl | rfl | rfl | rfl | rfl | rfl | rfl | rfl | rfl | rfl | rfl | rfl | rfl | rfl | rfl | rfl
    · exact W.widen (k := 114 + t + 1) (n := 6202 + 6 * t + 6) (by omega) (by omega) (w_sw E (w := 0) (tgt := 220) (off := 180) (by decide) (by decide) (by decide) (by decide) (w_case0 E hi hM hI hl ⟨by omega, by omega⟩ go))
    · exact W.widen (k := 114 + t + 1) (n := 6202 + 6 * t + 6) (by omega) (by omega) (w_sw E (w := 1) (tgt := 293) (off := 253) (by decide) (by decide) (by decide) (by decide) (w_case1 E hi hM hI hl ⟨by omega, by omega⟩ go))
    · exact W.widen (k := 114 + t + 1) (n := 6202 + 6 * t + 6) (by omega) (by omega) (w_sw E (w := 2) (tgt := 318) (off := 278) (by decide) (by decide) (by decide) (by decide) (w_case2 E hi hM hI hl ⟨by omega, by omega⟩ go))
    · exact W.widen (k := 114 + t + 1) (n := 6202 + 6 * t + 6) (by omega) (by omega) (w_sw E (w := 3) (tgt := 343) (off := 303) (by decide) (by decide) (by decide) (by decide) (w_case3 E hi hM hI hl ⟨by omega, by omega⟩ go))
    · exact w_sw E (w := 4) (tgt := 380) (off := 340) (by decide) (by decide) (by decide) (by decide) (w_man hl0 E hi hM hI hl ⟨by omega, by omega⟩ go0)
    · exact W.widen (k := 114 + t + 1) (n := 6202 + 6 * t + 6) (by omega) (by omega) (w_sw E (w := 5) (tgt := 448) (off := 408) (by decide) (by decide) (by decide) (by decide) (w_case5 E hi hM hI hl ⟨by omega, by omega⟩ go))
    · exact W.widen (k := 114 + t + 1) (n := 6202 + 6 * t + 6) (by omega) (by omega) (w_sw E (w := 6) (tgt := 485) (off := 445) (by decide) (by decide) (by decide) (by decide) (w_case6 E hi hM hI hl ⟨by omega, by omega⟩ go))
    · exact W.widen (k := 114 + t + 1) (n := 6202 + 6 * t + 6) (by omega) (by omega) (w_sw E (w := 7) (tgt := 510) (off := 470) (by decide) (by decide) (by decide) (by decide) (w_case7 E hi hM hI hl ⟨by omega, by omega⟩ go))
    · exact W.widen (k := 114 + t + 1) (n := 6202 + 6 * t + 6) (by omega) (by omega) (w_sw E (w := 8) (tgt := 547) (off := 507) (by decide) (by decide) (by decide) (by decide) (w_case8 E hi hM hI hl ⟨by omega, by omega⟩ go))
    · exact W.widen (k := 114 + t + 1) (n := 6202 + 6 * t + 6) (by omega) (by omega) (w_sw E (w := 9) (tgt := 584) (off := 544) (by decide) (by decide) (by decide) (by decide) (w_case9 E hi hM hI hl ⟨by omega, by omega⟩ go))
    · exact W.widen (k := 114 + t + 1) (n := 6202 + 6 * t + 6) (by omega) (by omega) (w_sw E (w := 10) (tgt := 621) (off := 581) (by decide) (by decide) (by decide) (by decide) (w_case10 E hi hM hI hl ⟨by omega, by omega⟩ go))
    · exact W.widen (k := 114 + t + 1) (n := 6202 + 6 * t + 6) (by omega) (by omega) (w_sw E (w := 11) (tgt := 658) (off := 618) (by decide) (by decide) (by decide) (by decide) (w_case11 E hi hM hI hl ⟨by omega, by omega⟩ go))
    · exact W.widen (k := 114 + t + 1) (n := 6202 + 6 * t + 6) (by omega) (by omega) (w_sw E (w := 12) (tgt := 707) (off := 667) (by decide) (by decide) (by decide) (by decide) (w_case12 E hi hM hI hl ⟨by omega, by omega⟩ go))
    · exact W.widen (k := 114 + t + 1) (n := 6202 + 6 * t + 6) (by omega) (by omega) (w_sw E (w := 13) (tgt := 757) (off := 717) (by decide) (by decide) (by decide) (by decide) (w_case13 E hi hM hI hl ⟨by omega, by omega⟩ go))
    · exact W.widen (k := 114 + t + 1) (n := 6202 + 6 * t + 6) (by omega) (by omega) (w_sw E (w := 14) (tgt := 806) (off := 766) (by decide) (by decide) (by decide) (by decide) (w_case14 E hi hM hI hl ⟨by omega, by omega⟩ go))
    · exact W.widen (k := 114 + t + 1) (n := 6202 + 6 * t + 6) (by omega) (by omega) (w_sw E (w := 15) (tgt := 831) (off := 791) (by decide) (by decide) (by decide) (by decide) (w_case15 E hi hM hI hl ⟨by omega, by omega⟩ go))
    · exact W.widen (k := 114 + t + 1) (n := 6202 + 6 * t + 6) (by omega) (by omega) (w_sw E (w := 16) (tgt := 880) (off := 840) (by decide) (by decide) (by decide) (by decide) (w_case16 E hi hM hI hl ⟨by omega, by omega⟩ go))
    · exact W.widen (k := 114 + t + 1) (n := 6202 + 6 * t + 6) (by omega) (by omega) (w_sw E (w := 17) (tgt := 917) (off := 877) (by decide) (by decide) (by decide) (by decide) (w_case17 E hi hM hI hl ⟨by omega, by omega⟩ go))
    · exact W.widen (k := 114 + t + 1) (n := 6202 + 6 * t + 6) (by omega) (by omega) (w_sw E (w := 18) (tgt := 942) (off := 902) (by decide) (by decide) (by decide) (by decide) (w_case18 E hi hM hI hl ⟨by omega, by omega⟩ go))
    · exact W.widen (k := 114 + t + 1) (n := 6202 + 6 * t + 6) (by omega) (by omega) (w_sw E (w := 19) (tgt := 991) (off := 951) (by decide) (by decide) (by decide) (by decide) (w_case19 E hi hM hI hl ⟨by omega, by omega⟩ go))
    · exact W.widen (k := 114 + t + 1) (n := 6202 + 6 * t + 6) (by omega) (by omega) (w_sw E (w := 20) (tgt := 1040) (off := 1000) (by decide) (by decide) (by decide) (by decide) (w_case20 E hi hM hI hl ⟨by omega, by omega⟩ go))
    · exact W.widen (k := 114 + t + 1) (n := 6202 + 6 * t + 6) (by omega) (by omega) (w_sw E (w := 21) (tgt := 1065) (off := 1025) (by decide) (by decide) (by decide) (by decide) (w_case21 E hi hM hI hl ⟨by omega, by omega⟩ go))
    · exact W.widen (k := 114 + t + 1) (n := 6202 + 6 * t + 6) (by omega) (by omega) (w_sw E (w := 22) (tgt := 1090) (off := 1050) (by decide) (by decide) (by decide) (by decide) (w_case22 E hi hM hI hl ⟨by omega, by omega⟩ go))
    · exact W.widen (k := 114 + t + 1) (n := 6202 + 6 * t + 6) (by omega) (by omega) (w_sw E (w := 23) (tgt := 1103) (off := 1063) (by decide) (by decide) (by decide) (by decide) (w_case23 E hi hM hI hl ⟨by omega, by omega⟩ go))
    · exact W.widen (k := 114 + t + 1) (n := 6202 + 6 * t + 6) (by omega) (by omega) (w_sw E (w := 24) (tgt := 1152) (off := 1112) (by decide) (by decide) (by decide) (by decide) (w_case24 E hi hM hI hl ⟨by omega, by omega⟩ go))
    · exact W.widen (k := 114 + t + 1) (n := 6202 + 6 * t + 6) (by omega) (by omega) (w_sw E (w := 25) (tgt := 1201) (off := 1161) (by decide) (by decide) (by decide) (by decide) (w_case25 E hi hM hI hl ⟨by omega, by omega⟩ go))
    · exact W.widen (k := 114 + t + 1) (n := 6202 + 6 * t + 6) (by omega) (by omega) (w_sw E (w := 26) (tgt := 1250) (off := 1210) (by decide) (by decide) (by decide) (by decide) (w_case26 E hi hM hI hl ⟨by omega, by omega⟩ go))
    · exact W.widen (k := 114 + t + 1) (n := 6202 + 6 * t + 6) (by omega) (by omega) (w_sw E (w := 27) (tgt := 1299) (off := 1259) (by decide) (by decide) (by decide) (by decide) (w_case27 E hi hM hI hl ⟨by omega, by omega⟩ go))
    · exact W.widen (k := 114 + t + 1) (n := 6202 + 6 * t + 6) (by omega) (by omega) (w_sw E (w := 28) (tgt := 1360) (off := 1320) (by decide) (by decide) (by decide) (by decide) (w_case28 E hi hM hI hl ⟨by omega, by omega⟩ go))
    · exact W.widen (k := 114 + t + 1) (n := 6202 + 6 * t + 6) (by omega) (by omega) (w_sw E (w := 29) (tgt := 1398) (off := 1358) (by decide) (by decide) (by decide) (by decide) (w_case29 E hi hM hI hl ⟨by omega, by omega⟩ go))
    · exact W.widen (k := 114 + t + 1) (n := 6202 + 6 * t + 6) (by omega) (by omega) (w_sw E (w := 30) (tgt := 1435) (off := 1395) (by decide) (by decide) (by decide) (by decide) (w_case30 E hi hM hI hl ⟨by omega, by omega⟩ go))
    · exact W.widen (k := 114 + t + 1) (n := 6202 + 6 * t + 6) (by omega) (by omega) (w_sw E (w := 31) (tgt := 1460) (off := 1420) (by decide) (by decide) (by decide) (by decide) (w_case31 E hi hM hI hl ⟨by omega, by omega⟩ go))
    · exact W.widen (k := 114 + t + 1) (n := 6202 + 6 * t + 6) (by omega) (by omega) (w_sw E (w := 32) (tgt := 1537) (off := 1497) (by decide) (by decide) (by decide) (by decide) (w_case32 E hi hM hI hl ⟨by omega, by omega⟩ go))
    · exact W.widen (k := 114 + t + 1) (n := 6202 + 6 * t + 6) (by omega) (by omega) (w_sw E (w := 33) (tgt := 1562) (off := 1522) (by decide) (by decide) (by decide) (by decide) (w_case33 E hi hM hI hl ⟨by omega, by omega⟩ go))
    · exact W.widen (k := 114 + t + 1) (n := 6202 + 6 * t + 6) (by omega) (by omega) (w_sw E (w := 34) (tgt := 1587) (off := 1547) (by decide) (by decide) (by decide) (by decide) (w_case34 E hi hM hI hl ⟨by omega, by omega⟩ go))
    · exact W.widen (k := 114 + t + 1) (n := 6202 + 6 * t + 6) (by omega) (by omega) (w_sw E (w := 35) (tgt := 1600) (off := 1560) (by decide) (by decide) (by decide) (by decide) (w_case35 E hi hM hI hl ⟨by omega, by omega⟩ go))
    · exact W.widen (k := 114 + t + 1) (n := 6202 + 6 * t + 6) (by omega) (by omega) (w_sw E (w := 36) (tgt := 1649) (off := 1609) (by decide) (by decide) (by decide) (by decide) (w_case36 E hi hM hI hl ⟨by omega, by omega⟩ go))
    · exact W.widen (k := 114 + t + 1) (n := 6202 + 6 * t + 6) (by omega) (by omega) (w_sw E (w := 37) (tgt := 1698) (off := 1658) (by decide) (by decide) (by decide) (by decide) (w_case37 E hi hM hI hl ⟨by omega, by omega⟩ go))
    · exact W.widen (k := 114 + t + 1) (n := 6202 + 6 * t + 6) (by omega) (by omega) (w_sw E (w := 38) (tgt := 1711) (off := 1671) (by decide) (by decide) (by decide) (by decide) (w_case38 E hi hM hI hl ⟨by omega, by omega⟩ go))
    · exact W.widen (k := 114 + t + 1) (n := 6202 + 6 * t + 6) (by omega) (by omega) (w_sw E (w := 39) (tgt := 1724) (off := 1684) (by decide) (by decide) (by decide) (by decide) (w_case39 E hi hM hI hl ⟨by omega, by omega⟩ go))
    · exact W.widen (k := 114 + t + 1) (n := 6202 + 6 * t + 6) (by omega) (by omega) (w_sw E (w := 40) (tgt := 1737) (off := 1697) (by decide) (by decide) (by decide) (by decide) (w_case40 E hi hM hI hl ⟨by omega, by omega⟩ go))

end WL
