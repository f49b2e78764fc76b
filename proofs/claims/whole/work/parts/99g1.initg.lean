/-! INV of new objects, out of what the constructors write -/
section NG
variable {nC1 nM1 : g_M}
abbrev nMp (n : g_M) : Prop := n.1 2 0 = nI 0 ∧ n.1 2 1 = nI 0 ∧ n.1 2 2 = nI 0 ∧ n.1 2 3 = nI 0 ∧ n.1 2 4 = nI 0 ∧ n.1 2 5 = nI 9 ∧ n.1 2 6 = nI 0 ∧ n.1 2 7 = nI 0 ∧ n.1 2 8 = nI 0
theorem WT_new {m : g_M} (nM_2 : nMp nM1) (h2 : ∀ k, k < 9 → m.1 2 k = nM1.1 2 k) (h3 : ∀ k, k < 3 → m.1 18 k = nI 0 ∧ m.1 19 k = nI 0) : WT m := by
  obtain ⟨a0, a1, a2, a3, a4, a5, a6, a7, a8⟩ := nM_2
  have b0 := (h2 0 (by omega)).trans a0
  have b1 := (h2 1 (by omega)).trans a1
  have b2 := (h2 2 (by omega)).trans a2
  have b3 := (h2 3 (by omega)).trans a3
  have b4 := (h2 4 (by omega)).trans a4
  have b5 := (h2 5 (by omega)).trans a5
  have b6 := (h2 6 (by omega)).trans a6
  have b7 := (h2 7 (by omega)).trans a7
  have b8 := (h2 8 (by omega)).trans a8
  refine ⟨⟨rg_of b0 (by omega) (by omega), rg_of b1 (by omega) (by omega), rg_of b2 (by omega) (by omega), rg_of b3 (by omega) (by omega), rg_of b4 (by omega) (by omega), rg_of b5 (by omega) (by omega), by rw [vl_of b5 (by omega)]; omega, rg_of b6 (by omega) (by omega), rg_of b7 (by omega) (by omega), rg_of b8 (by omega) (by omega)⟩, fun i hi => by rw [vl_of b0 (by omega)] at hi; omega, fun i hi => by rw [vl_of b1 (by omega)] at hi; omega, fun i hi => by rw [vl_of b2 (by omega)] at hi; omega, fun i hi => by rw [vl_of b3 (by omega)] at hi; omega, fun i hi => by rw [vl_of b4 (by omega)] at hi; omega, fun r hr => ?_⟩
  obtain ⟨y1, y2⟩ := h3 r hr
  rw [vl_of y1 (by omega), vl_of y2 (by omega)]
  exact ⟨rg_of y1 (by omega) (by omega), rg_of y2 (by omega) (by omega), by omega, by omega, fun z => by omega⟩
theorem i_gen (nC_ref : nC1.2.2 0 2 = some 2 ∧ nC1.2.2 0 3 = some 16 ∧ nC1.2.2 35 0 = some 2) (nC_w : ∀ i, i < 22 → nC1.1 32 i = wrd.getD i 0) (nC_0 : (nC1.1 0 1 = nI 0 ∧ nC1.1 0 5 = nI 0 ∧ nC1.1 0 6 = -1 ∧ nC1.1 0 9 = nI 0) ∧ (nC1.1 60 0 = nI 0 ∧ nC1.1 60 1 = -1 ∧ nC1.1 67 0 = nI 0 ∧ nC1.1 53 7 = nI 0) ∧ (nC1.1 2 6 = nI 0 ∧ nC1.1 2 8 = nI 0 ∧ nC1.1 2 10 = nI 9 ∧ nC1.1 2 11 = nI 0 ∧ nC1.1 2 12 = nI 0 ∧ nC1.1 11 3 = nI 0) ∧ (nC1.1 35 1 = nI 0 ∧ nC1.1 35 2 = nI 0 ∧ nC1.1 35 3 = nI 0 ∧ nC1.1 35 7 = nI 0)) (nC_3 : ∀ k, k < 3 → nC1.1 3 k = nI 0 ∧ nC1.1 13 k = nI 0 ∧ nC1.1 14 k = nI 0) (nC_25 : ∀ k, k < 25 → nC1.1 54 k = nI 0 ∧ nC1.1 38 k = nI 0) (nC_8 : ∀ k, k < 8 → nC1.1 40 k = nI 0) (nM_2 : nMp nM1) (nM_0 : nM1.1 0 2 = nI 0 ∧ nM1.1 0 32 = nI 0 ∧ nM1.1 0 33 = -1 ∧ nM1.1 0 51 = nI 0 ∧ nM1.1 0 52 = nI 0 ∧ nM1.1 0 53 = nI 0 ∧ nM1.1 0 55 = -1 ∧ nM1.1 0 56 = bitsP noA 25 ∧ nM1.1 0 65 = nI 0 ∧ nM1.1 0 66 = -1) (nM_3 : ∀ k, k < 3 → nM1.1 18 k = nI 0 ∧ nM1.1 19 k = nI 0) : ∃ m0, f11_begins 5001 nM1 = some m0 ∧ INV nC1 m0 := by
  obtain ⟨a0, a1, a2, a3, a4, a5, a6, a7, a8⟩ := id nM_2
  have hW : WT nM1 := WT_new nM_2 (fun _ _ => rfl) nM_3
  have v0 : vl nM1 2 0 = 0 := vl_of a0 (by omega)
  have v3 : vl nM1 2 3 = 0 := vl_of a3 (by omega)
  obtain ⟨m0, j1, j2, j3⟩ := r_starts (F := 5001) (f := 0) (m := nM1) (by decide) (by omega) hW.1.1.2 hW.1.2.2.2.1.2 hW.1.1.1 hW.1.2.2.2.1.1
  have j1' : f11_starts 5001 (0 : Int32) nM1 = some m0 := j1
  have n0 : ∀ k, ¬ inD 0 k 0 := fun k z => by have := z.1; omega
  have j0 : ∀ k, m0.1 0 k = nM1.1 0 k := fun k => j2.2 0 k (n0 k)
  have jl : ∀ o k, o ≤ 23 → m0.1 o k = nM1.1 o k := fun o k ho => j2.2 o k (fun z => by have := z.1; omega)
  have hWm : WT m0 := WT_new nM_2 (fun k _ => jl 2 k (by omega)) (fun k hk => by rw [jl 18 k (by omega), jl 19 k (by omega)]; exact nM_3 k hk)
  obtain ⟨⟨c01, c05, c06, c09⟩, ⟨c60, c61, c67, c53⟩, ⟨c26, c28, c210, c211, c212, c113⟩, ⟨c351, c352, c353, c357⟩⟩ := nC_0
  have w0 : vl m0 2 0 = 0 := vl_of ((jl 2 0 (by omega)).trans a0) (by omega)
  have w1 : vl m0 2 1 = 0 := vl_of ((jl 2 1 (by omega)).trans a1) (by omega)
  have w2 : vl m0 2 2 = 0 := vl_of ((jl 2 2 (by omega)).trans a2) (by omega)
  have w3 : vl m0 2 3 = 0 := vl_of ((jl 2 3 (by omega)).trans a3) (by omega)
  have w4 : vl m0 2 4 = 0 := vl_of ((jl 2 4 (by omega)).trans a4) (by omega)
  have w8 : vl m0 2 8 = 0 := vl_of ((jl 2 8 (by omega)).trans a8) (by omega)
  have hRT : ∀ m : g_M, (∀ o k, o ≤ 23 → m.1 o k = nM1.1 o k) → RT nC1 m 2 := fun m hm => by
    have v : ∀ k, vl m 2 k = vl nM1 2 k := fun k => by unfold vl; rw [hm 2 k (by omega)]
    have u1 : vl nM1 2 1 = 0 := vl_of a1 (by omega)
    have u2 : vl nM1 2 2 = 0 := vl_of a2 (by omega)
    have u4 : vl nM1 2 4 = 0 := vl_of a4 (by omega)
    have u8 : vl nM1 2 8 = 0 := vl_of a8 (by omega)
    refine ⟨fun k hk => ?_, fun i hi => by rw [v, v0] at hi; omega, fun i hi => by rw [v, u1] at hi; omega, fun i hi => by rw [v, u2] at hi; omega, ⟨?_, ?_, ?_, ?_, ?_, ?_⟩, fun i hi => by rw [v, v3] at hi; omega, fun i hi => by rw [v, u4] at hi; omega, fun r hr => ?_, fun i hi => by rw [v, u8] at hi; omega⟩
    · show nC1.1 3 k = _
      rw [(nC_3 k hk).1, hm 2 k (by omega)]
      rcases (show k = 0 ∨ k = 1 ∨ k = 2 by omega) with rfl | rfl | rfl
      · exact a0.symm
      · exact a1.symm
      · exact a2.symm
    · rw [c26, hm 2 3 (by omega), a3]
    · rw [c28, hm 2 4 (by omega), a4]
    · rw [c210, hm 2 5 (by omega), a5]
    · rw [c211, hm 2 6 (by omega), a6]
    · rw [c212, hm 2 7 (by omega), a7]
    · show nC1.1 11 3 = _
      rw [c113, hm 2 8 (by omega), a8]
    · show nC1.1 13 r = _ ∧ nC1.1 14 r = _
      rw [(nC_3 r hr).2.1, (nC_3 r hr).2.2, hm 18 r (by omega), hm 19 r (by omega), (nM_3 r hr).1, (nM_3 r hr).2]
      exact ⟨rfl, rfl⟩
  have hRTm : RT nC1 m0 2 := hRT m0 jl
  have hT2 : isT 2 := Or.inl rfl
  obtain ⟨c', k1, k2⟩ := q_begin (F := 5001) (c := nC1) (by decide) hT2 (show isS 35 by unfold isS; omega)
  have hTS' := TS_begin hT2 (show isS 35 by unfold isS; omega) (by omega) hW (hRT nM1 (fun _ _ _ => rfl)) k2 j2 j3
  obtain ⟨_, ht, hfz, _, _, _, hWS, _⟩ := hTS'
  obtain ⟨⟨s11, s12, s13, s14⟩, s2, s3, s4, s5⟩ := j3
  have v27 : vl m0 27 0 = 0 := vl_of (s14.trans a3) (by omega)
  have hTS : TS nC1 m0 2 35 0 := by
    refine ⟨hT2, ht, hfz, nC_ref.2.2, hWm, hRTm, hWS, ⟨?_, ?_, ?_, ?_⟩, fun p hp => by rw [w0] at hp; omega, fun i hi => ⟨fun z => by rw [w0] at z; omega, ?_⟩, fun n hn => by rw [v27] at hn; omega, fun w hw => ?_⟩
    · rw [c351, s11]
    · rw [c352, s12, a7]
    · rw [c353, s13]
    · rw [c357, s14, a3]
    · show nC1.1 38 i = _
      have := (s3 (i / 5) (i % 5) (by omega) (by omega)).2
      rw [show 5 * (i / 5) + i % 5 = i by omega] at this
      rw [(nC_25 i hi).2, this]
    · show nC1.1 40 w = _
      rw [nC_8 w hw, s4 w hw]
  obtain ⟨m02, m32, m33, m51, m52, m53, m55, m56, m65, m66⟩ := nM_0
  refine ⟨m0, ?_, INV_of (T := 2) (S := 16) (COR_new (Or.inl ⟨rfl, rfl⟩) nC_ref.1 nC_ref.2.1 hTS ?_ ⟨(j0 53).trans m53, (j0 55).trans m55⟩ c67 ((j0 52).trans m52) nC_w) ⟨?_, Or.inl ((j0 51).trans m51)⟩ ⟨0, by omega, c01, (j0 2).trans m02, fun i hi => absurd hi (Nat.not_lt_zero i)⟩ ⟨?_, ?_⟩ ⟨fun i hi => ?_, (j0 56).trans m56, ?_⟩ ⟨0, by omega, c60, (j0 65).trans m65, ?_, Or.inl ((j0 66).trans m66), fun i hi => absurd hi (Nat.not_lt_zero i)⟩⟩
  · unfold f11_begins
    rw [j1', g_bs]
  · rw [vl_of s11 (by omega)]; omega
  · rw [c09, j0 51, m51]
  · rw [c05, j0 32, m32]
  · rw [c06, j0 33, m33]
  · rw [(nC_25 i hi).1]; rfl
  · rw [c53]; decide
  · rw [c61, j0 66, m66]
end NG
