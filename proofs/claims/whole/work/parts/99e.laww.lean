section WL
variable {p : Program} {l : Launch} {e : Env} {s : State} {m : MethodId} {below : List Frame} {meth : Method} {c : Code} {H : Heap} {locs : List Loc} {cells slots : Nat} {Q : State → Prop}
variable {pc : Nat} {ls : Array Slot} {rest : List Value} {D : va_G} {aC : Nat → ClassId} {b L : Nat} {xs : Nat → Int32} {cm mm : g_M}

/-- what stands fast in the law's walk -/
def w_E (p : Program) (s : State) (m : MethodId) (c : Code) (D : va_G) (aC : Nat → ClassId) (b L : Nat) (xs : Nat → Int32) : Prop := g_C p s m #[Value.ref b] c cL_law RL D aC (zX (n_A s.heap.size)) ∧ c.maxLocals = 7 ∧ va_X b L xs s s.heap ∧ b < s.heap.size ∧ L ≤ 3072
/-- both systems and the out row -/
def w_M (D : va_G) (aC : Nat → ClassId) (s : State) (cm mm : g_M) (H : Heap) (locs : List Loc) : Prop := va_P D vwCl (g_W aC s.heap.size yC 69 cm) H ∧ va_P D vwCl (g_W aC (s.heap.size + 69) yM 44 mm) H ∧ (∃ f, va_P D vwCl [(s.heap.size + 113, oE aC f)] H) ∧ va_S (n_A s.heap.size) s.heap H locs
abbrev w_lv (s : State) (b i : Nat) : List (Nat × Value) := [(0, .ref b), (1, .ref (s.heap.size + 0)), (2, .ref (s.heap.size + 69 + 0)), (3, .ref (s.heap.size + 113)), (4, .int (nI i))]
theorem w_kept {B n : Nat} {Y : g_Y} {mem : g_M} {H1 : Heap} {A : Nat → Prop} (h : va_P D vwCl (g_W aC B Y n mem) H) (hk : ∀ q : Nat, q < H.size → ¬ A q → H1[q]? = H[q]?) (hA : ∀ o, o < n → ¬ A (B + o)) : va_P D vwCl (g_W aC B Y n mem) H1 :=
  h.kept (fun k q hq => by
    have h1 := g_Wlt hq
    have h2 := (h k q hq).lt
    exact hk q.1 h2 (by rw [h1.2]; exact hA k h1.1))
theorem w_kept1 {O : Nat} {x : va_E} {H1 : Heap} {A : Nat → Prop} (h : va_P D vwCl [(O, x)] H) (hk : ∀ q : Nat, q < H.size → ¬ A q → H1[q]? = H[q]?) (hA : ¬ A O) : va_P D vwCl [(O, x)] H1 :=
  h.kept (fun k q hq => by
    have hz : k < 1 := (List.getElem?_eq_some_iff.mp hq).1
    have h2 := (h k q hq).lt
    have h0 : k = 0 := by omega
    subst h0
    cases hq
    exact hk O h2 hA)
theorem w_callC {y : MethodName} {bytes : ByteArray} {maxL na index lev1 : Nat} {ret : Option FieldType} {r : Option Value} {c1 : g_M} (As : List Value) {st0 : List Value} (E : w_E p s m c D aC b L xs) (hls : ls.size = 7) (hM : w_M D aC s cm mm H locs) (hw : g_CV RL index 10 y bytes maxL ret na)
    (hc : g_Met l y bytes maxL ret lev1 D aC s.heap.size yC 69 cm (.ref (s.heap.size + 0) :: As) r c1) (hfr : lev1 + 1 ≤ 2048) (hlo : 8 + (maxL + 11) + 64 * lev1 ≤ 84000) (hn : As.length = na) (hst : st0 = As.reverse ++ .ref (s.heap.size + 0) :: rest) (hW : (rest.map fun v => v.category).sum ≤ 8) (hdg : decode cL_law pc = .ok (.invokevirtual index, 3)) (hf : cells ≤ 601024 ∧ slots ≤ 7293034)
    (kk : ∀ (H1 : Heap) (locs1 : List Loc), w_M D aC s c1 mm H1 locs1 → W p l e room_1 s m #[Value.ref b] below meth c H1 locs1 cells slots Q (F0 m (pc + 3) ls (r.toList ++ rest))) : W p l e room_1 s m #[Value.ref b] below meth c H locs cells slots Q (F0 m pc ls st0) := by
  obtain ⟨hE, hml, hX, hbl, hL⟩ := E
  obtain ⟨hPc, hPm, ⟨f, hPo⟩, hS⟩ := hM
  exact x_callV As hE hml hls hPc hS (fun q h => h.1) hE.2.2.2.2.2.1 hw hc (o := 0) (by decide) rfl hfr hlo hn hst hW hdg hf (fun H1 locs1 hP1 hS1 hz hk => kk H1 locs1 ⟨hP1, w_kept hPm hk (fun o ho z => by have := z.2; omega), ⟨f, w_kept1 hPo hk (fun z => by have := z.2; omega)⟩, hS1⟩)
theorem w_callM {y : MethodName} {bytes : ByteArray} {maxL na index lev1 : Nat} {ret : Option FieldType} {r : Option Value} {m1 : g_M} (As : List Value) {st0 : List Value} (E : w_E p s m c D aC b L xs) (hls : ls.size = 7) (hM : w_M D aC s cm mm H locs) (hw : g_CV RL index 11 y bytes maxL ret na)
    (hc : g_Met l y bytes maxL ret lev1 D aC (s.heap.size + 69) yM 44 mm (.ref (s.heap.size + 69 + 0) :: As) r m1) (hfr : lev1 + 1 ≤ 2048) (hlo : 8 + (maxL + 11) + 64 * lev1 ≤ 84000) (hn : As.length = na) (hst : st0 = As.reverse ++ .ref (s.heap.size + 69 + 0) :: rest) (hW : (rest.map fun v => v.category).sum ≤ 8) (hdg : decode cL_law pc = .ok (.invokevirtual index, 3)) (hf : cells ≤ 601024 ∧ slots ≤ 7293034)
    (kk : ∀ (H1 : Heap) (locs1 : List Loc), w_M D aC s cm m1 H1 locs1 → W p l e room_1 s m #[Value.ref b] below meth c H1 locs1 cells slots Q (F0 m (pc + 3) ls (r.toList ++ rest))) : W p l e room_1 s m #[Value.ref b] below meth c H locs cells slots Q (F0 m pc ls st0) := by
  obtain ⟨hE, hml, hX, hbl, hL⟩ := E
  obtain ⟨hPc, hPm, ⟨f, hPo⟩, hS⟩ := hM
  exact x_callV As hE hml hls hPm hS (fun q h => by have := h.1; show s.heap.size ≤ q; omega) hE.2.2.2.2.2.1 hw hc (o := 0) (by decide) rfl hfr hlo hn hst hW hdg hf (fun H1 locs1 hP1 hS1 hz hk => kk H1 locs1 ⟨w_kept hPc hk (fun o ho z => by have := z.1; omega), hP1, ⟨f, w_kept1 hPo hk (fun z => by have := z.2; omega)⟩, hS1⟩)
/-- an argument: script[i + j] -/
theorem w_arg {i j : Nat} {jj : Int} (E : w_E p s m c D aC b L xs) (hS : va_S (n_A s.heap.size) s.heap H locs) (hl : lv_has ls 7 (w_lv s b i)) (hj : Int32.ofInt jj = nI j) (hi : i + j < L) (d0 : decode cL_law pc = .ok (.aload_n 0, 1)) (d1 : decode cL_law (pc + 1) = .ok (.iload 4, 2)) (d3 : decode cL_law (pc + 3) = .ok (.iconst jj, 1)) (d4 : decode cL_law (pc + 4) = .ok (.iadd, 1)) (d5 : decode cL_law (pc + 5) = .ok (.iaload, 1))
    (kk : W p l e room_1 s m #[Value.ref b] below meth c H locs cells slots Q (F0 m (pc + 6) ls (.int (xs (i + j)) :: rest))) : W p l e room_1 s m #[Value.ref b] below meth c H locs cells slots Q (F0 m pc ls rest) := by
  obtain ⟨⟨hx, hb, _⟩, hml, hX, hbl, hL⟩ := E
  refine lv_aload_n hx hb d0 rfl (lv_at hl 0 rfl) ?_
  refine lv_iload hx hb d1 (lv_at hl 4 rfl) ?_
  refine lv_iconst (v := nI j) hx hb d3 hj ?_
  refine lv_iadd hx hb d4 ?_
  rw [nI_add]
  refine va_sld hx hb hX hbl (Nat.not_le.mpr hbl) hS (i := nI (i + j)) (nI_in hi (by omega)) d5 ?_
  rw [nI_clamp (by omega)]
  exact kk
theorem w_cmp (r : Int64) : lg_cmp r r = 0 := by
  unfold lg_cmp
  rw [if_neg (fun h => Int.lt_irrefl _ (Int64.lt_iff_toInt_lt.mp h)), if_pos rfl]
theorem w_backM {B O : Nat} {A : Nat → Prop} {k v : Int32} {mem : g_M} {R : Room} {args : Array Value} {g : JFrame} {a : Array Value} (hS : va_S A s.heap H locs) (hA : ∀ q, lA B O q → A q) (hr : vx_Run p l e R s m args below meth c H locs cells slots 1 6 g rest (lm_Post D aC B O k v mem a) (fun _ _ _ => False) (lA B O))
    (kk : ∀ (H1 : Heap) (locs1 : List Loc), va_P D vwCl (g_W aC B yC 69 mem) H1 → (∃ f, va_P D vwCl [(O, oE aC f)] H1 ∧ (k = 0 → f 0 = v.toInt64)) → va_S A s.heap H1 locs1 → (∀ q : Nat, q < H.size → ¬ lA B O q → H1[q]? = H[q]?) → W p l e R s m args below meth c H1 locs1 (cells + 1) (slots + 6) Q { g with pc := g.pc + 3, stack := .int k :: rest }) : W p l e R s m args below meth c H locs cells slots Q g := by
  intro T hT X
  rcases hr T hT X with ⟨w, st₀, t, T', Lc, h0, X', hL, e1, e2, ⟨hv, hP, ⟨f, hPo, hf0⟩, hz, hk⟩, st⟩ | ⟨q, st₀, t, T', Lc, E, ce, h0, X', hL, e1, e2, hfalse, hce, hcv, hcl, st⟩
  · cases hv
    rw [h0] at hz hk
    obtain ⟨t2, a1, b1⟩ := kk T'.heap (locs ++ Lc) (by rw [e1]; exact hP) ⟨f, by rw [e1]; exact hPo, hf0⟩ ⟨Nat.le_trans hS.1 (by rw [e1]; exact hz), fun q h1 h2 => by rw [e1, hk q (Nat.lt_of_lt_of_le h1 hS.1) (fun z => h2 (hA q z))]; exact hS.2.1 q h1 h2, fun q hq => by
        rcases List.mem_append.mp hq with h | h
        · exact hS.2.2 q h
        · exact hA _ (hL q h)⟩ (fun q h1 h2 => by rw [e1]; exact hk q h1 h2) T' rfl X'
    exact ⟨t2, st t2 a1, b1⟩
  · exact hfalse.elim
theorem xL_w2 : ∀ w ∈ [Cond.codeWith yL_man cL_man 5 (some .int) lhh, Cond.initialized RL, Cond.methodLink RL 39 yL_man, Cond.static yL_man], w ∈ g_ws := x_key _ (by decide +kernel)
set_option maxHeartbeats 4000000 in
set_option maxRecDepth 100000 in
theorem w_man (hl0 : l.stackTraces = false) (E : w_E p s m c D aC b L xs) {i : Nat} (hi : i + 6 ≤ L) (hM : w_M D aC s cm mm H locs) (hI : INV cm mm) (hl : lv_has ls 7 (w_lv s b i)) (hf : cells + 1 ≤ 601024 ∧ slots + 6 ≤ 7293034) (kk : ∀ (H1 : Heap) (locs1 : List Loc) (c1 m1 : g_M) (ls1 : Array Slot), w_M D aC s c1 m1 H1 locs1 → INV c1 m1 → lv_has ls1 7 (w_lv s b i) → W p l e room_1 s m #[Value.ref b] below meth c H1 locs1 (cells + 1) (slots + 6) Q (F0 m 1762 ls1 [])) : W p l e room_1 s m #[Value.ref b] below meth c H locs cells slots Q (F0 m 380 ls []) := by
  have hx := E.1.1
  have hb := E.1.2.1
  have hown := E.1.2.2.1
  have hts := E.1.2.2.2.1
  have hK := E.1.2.2.2.2.1
  have hZ := E.1.2.2.2.2.2
  have hml := E.2.1
  obtain ⟨k, v, r, m1, h1, h2, hk, hv, hk3, hI1⟩ := s_man (F := 5001) (by decide) hI (xs (i + 1)) (xs (i + 2))
  refine lv_aload_n hx hb dL_law_380 rfl (lv_at hl 1 rfl) ?_
  refine w_arg (j := 1) E hM.2.2.2 hl rfl (by omega) dL_law_381 dL_law_382 dL_law_384 dL_law_385 dL_law_386 ?_
  refine W.eq (g2 := F0 m 387 ls [.int (xs (i + 1)), .ref (s.heap.size + 0)]) rfl ?_
  refine w_arg (j := 2) E hM.2.2.2 hl rfl (by omega) dL_law_387 dL_law_388 dL_law_390 dL_law_391 dL_law_392 ?_
  refine W.eq (g2 := F0 m 393 ls [.int (xs (i + 2)), .int (xs (i + 1)), .ref (s.heap.size + 0)]) rfl ?_
  refine lv_aload_n hx hb dL_law_393 rfl (lv_at hl 3 rfl) ?_
  obtain ⟨hPc, hPm, ⟨f, hPo⟩, hS⟩ := id hM
  have hO : ¬ g_A s.heap.size 69 (s.heap.size + 113) := fun z => by have := z.2; omega
  have hA : ∀ q, lA s.heap.size (s.heap.size + 113) q → n_A s.heap.size q := fun q z => by
    rcases z with z | z
    · exact z.1
    · show s.heap.size ≤ q; omega
  have cw : vx_CSW room_1 s #[Value.ref b] RL 39 yL_man cL_man 5 (some .int) lhh (.codeWith yL_man cL_man 5 (some .int) lhh :: g_ws) (n_rm 10 1 6) 1 6 4 := by
    refine ⟨⟨rfl, rfl, by decide, by decide, fun w hw a' U hW => ?_, List.mem_cons_self⟩, hts _ (xL_w2 _ (List.mem_cons.mpr (Or.inl rfl))), hts _ (xL_w2 _ (List.mem_cons_of_mem _ (List.mem_cons.mpr (Or.inl rfl)))), by decide, fun sg hsg => ?_, hts _ (xL_w2 _ (List.mem_cons_of_mem _ (List.mem_cons_of_mem _ (List.mem_cons.mpr (Or.inl rfl))))), hts _ (xL_w2 _ (List.mem_cons_of_mem _ (List.mem_cons_of_mem _ (List.mem_cons_of_mem _ (List.mem_cons.mpr (Or.inl rfl))))))⟩
    · rcases List.mem_cons.mp hw with rfl | hw
      · have hq := xL_w2 _ (List.mem_cons.mpr (Or.inl rfl))
        exact word_at hW (g_good hq) (hts _ hq)
      · exact word_at hW (g_good hw) (hts _ hw)
    · have hp : (parseMethodDescriptor yL_man.desc).map (fun d => d.parameters.length) = some 4 := by decide +kernel
      rw [hsg] at hp
      exact (Option.some.inj hp).symm
  have hrun := vx_runSX (p := p) (l := l) (e := e) (R := room_1) (below := below) (meth := meth) (H := H) (locs := locs) (cells := cells) (slots := slots) (hh := lhh) (g := F0 m 394 ls [.ref (s.heap.size + 113), .int (xs (i + 2)), .int (xs (i + 1)), .ref (s.heap.size + 0)]) (rest := []) (Ts := g_ws) (nL := 7) (As := [.ref (s.heap.size + 0), .int (xs (i + 1)), .int (xs (i + 2)), .ref (s.heap.size + 113)]) ⟨hx, hb, hml, hown, hts⟩ (cL_manM l hl0 D aC s.heap.size (s.heap.size + 113) hO f h1) cw ⟨lm_blind, fun U hU hW => ⟨rfl, by rw [hU]; exact hPc, by rw [hU]; exact hPo, va_K.moved hW.alike hK, (hZ.warm hW (fun q h1 h2 => by rw [hU]; exact hS.2.1 q h1 h2)).narrow hA⟩⟩ rfl rfl hl.1 rfl (lv_room (Nat.le_of_ble_eq_true rfl)) dL_law_394 hf
  refine w_backM hS hA hrun (fun H locs hPc hPo hS hkk => ?_)
  obtain ⟨f, hPo, hf0⟩ := hPo
  have hM : w_M D aC s cm mm H locs := ⟨hPc, w_kept hPm hkk (fun o ho z => by
    rcases z with z | z
    · have := z.2; omega
    · omega), ⟨f, hPo⟩, hS⟩
  refine W.eq (g2 := F0 m 397 ls [.int k]) rfl ?_
  refine lv_istore (lv' := (5, .int k) :: w_lv s b i) hx hb dL_law_397 hl (by decide) rfl (fun ls hl => ?_)
  have hl0' : lv_has ls 7 (w_lv s b i) := lv_sub hl [1, 2, 3, 4, 5] rfl
  refine W.eq (g2 := F0 m 399 ls []) rfl ?_
  refine lv_aload_n hx hb dL_law_399 rfl (lv_at hl0' 2 rfl) ?_
  refine w_arg (j := 1) E hM.2.2.2 hl0' rfl (by omega) dL_law_400 dL_law_401 dL_law_403 dL_law_404 dL_law_405 ?_
  refine W.eq (g2 := F0 m 406 ls [.int (xs (i + 1)), .ref (s.heap.size + 69 + 0)]) rfl ?_
  refine w_arg (j := 2) E hM.2.2.2 hl0' rfl (by omega) dL_law_406 dL_law_407 dL_law_409 dL_law_410 dL_law_411 ?_
  refine W.eq (g2 := F0 m 412 ls [.int (xs (i + 2)), .int (xs (i + 1)), .ref (s.heap.size + 69 + 0)]) rfl ?_
  have hkeep : ∀ H1 : Heap, (∀ q : Nat, q < H.size → ¬ g_A (s.heap.size + 69) 44 q → H1[q]? = H[q]?) → va_P D vwCl [(s.heap.size + 113, oE aC f)] H1 := fun H1 hh => w_kept1 hPo hh (fun z => by have := z.2; omega)
  obtain ⟨hE, hml', hX, hbl, hL⟩ := id E
  refine x_callV [.int (xs (i + 1)), .int (xs (i + 2))] (rest := []) hE hml hl.1 hM.2.1 hM.2.2.2 (fun q h => by have := h.1; show s.heap.size ≤ q; omega) hE.2.2.2.2.2.1 cv_L_44 (c11_man l D aC (s.heap.size + 69) h2) (o := 0) (by decide) rfl (Nat.le_of_ble_eq_true rfl) (Nat.le_of_ble_eq_true rfl) rfl rfl (Nat.le_of_ble_eq_true rfl) dL_law_412 hf (fun H2 locs hPm hS hz hk2 => ?_)
  have hPc2 := w_kept hM.1 hk2 (fun o ho z => by have := z.1; omega)
  have hPo2 := hkeep H2 hk2
  have hM2 : w_M D aC s cm m1 H2 locs := ⟨hPc2, hPm, ⟨f, hPo2⟩, hS⟩
  refine W.eq (g2 := F0 m 415 ls [.int r]) rfl ?_
  refine lv_istore (lv' := (6, .int r) :: (5, .int k) :: w_lv s b i) hx hb dL_law_415 hl (by decide) rfl (fun ls hl => ?_)
  have hl1 : lv_has ls 7 (w_lv s b i) := lv_sub hl [2, 3, 4, 5, 6] rfl
  refine W.eq (g2 := F0 m 417 ls []) rfl ?_
  refine lv_aload_n hx hb dL_law_417 rfl (lv_at hl1 2 rfl) ?_
  have ht : f11_thrown 5001 m1 = some k := by unfold f11_thrown; rw [hk]
  refine x_callV [] (rest := []) hE hml hl.1 hM2.2.1 hM2.2.2.2 (fun q h => by have := h.1; show s.heap.size ≤ q; omega) hE.2.2.2.2.2.1 cv_L_45 (c11_thrown l D aC (s.heap.size + 69) ht) (o := 0) (by decide) rfl (Nat.le_of_ble_eq_true rfl) (Nat.le_of_ble_eq_true rfl) rfl rfl (Nat.le_of_ble_eq_true rfl) dL_law_418 hf (fun H3 locs hPm3 hS3 hz3 hk3' => ?_)
  have hPc3 := w_kept hPc2 hk3' (fun o ho z => by have := z.1; omega)
  have hPo3 : va_P D vwCl [(s.heap.size + 113, oE aC f)] H3 := w_kept1 hPo2 hk3' (fun z => by have := z.2; omega)
  have hM3 : w_M D aC s cm m1 H3 locs := ⟨hPc3, hPm3, ⟨f, hPo3⟩, hS3⟩
  refine W.eq (g2 := F0 m 421 ls [.int k]) rfl ?_
  refine lv_iload hx hb dL_law_421 (lv_at hl 1 rfl) ?_
  refine lv_icmp_eq (tgt := 428) hx hb dL_law_423 (by decide) (fun _ => ?_) (fun h => absurd rfl h)
  refine lv_iload hx hb dL_law_428 (lv_at hl 1 rfl) ?_
  refine lv_if_ne (tgt := 445) hx hb dL_law_430 (by decide) (fun hk0 => ?_) (fun hk0 => ?_)
  · refine lv_goto (tgt := 1762) hx hb dL_law_445 (by decide) ?_
    exact kk H3 locs cm m1 ls hM3 hI1 hl1
  · refine W.eq (g2 := F0 m 433 ls []) rfl ?_
    refine lv_aload_n hx hb dL_law_433 rfl (lv_at hl1 3 rfl) ?_
    refine lv_iconst (v := (0 : Int32)) hx hb dL_law_434 rfl ?_
    refine va_lald hx hb hK hPo3 0 1 (cA := aC 1) (n := 1) (f := f) rfl rfl (by unfold vp_in; decide) dL_law_435 ?_
    refine lv_iload hx hb dL_law_436 (lv_at hl 0 rfl) ?_
    refine lv_i2l (v := r.toInt64) hx hb dL_law_438 rfl ?_
    refine W.lcmp hx hb dL_law_439 ?_
    have e0 : f (0 : Int32).toNatClampNeg = r.toInt64 := by
      show f 0 = _
      rw [hf0 hk0, hv hk0]
    refine lv_if_eq (tgt := 445) hx hb dL_law_440 (by decide) (fun _ => ?_) (fun h => absurd (by rw [e0]; exact w_cmp _) h)
    refine lv_goto (tgt := 1762) hx hb dL_law_445 (by decide) ?_
    exact kk H3 locs cm m1 ls hM3 hI1 hl1
abbrev w_offs : Array Int := #[180, 253, 278, 303, 340, 408, 445, 470, 507, 544, 581, 618, 667, 717, 766, 791, 840, 877, 902, 951, 1000, 1025, 1050, 1063, 1112, 1161, 1210, 1259, 1320, 1358, 1395, 1420, 1497, 1522, 1547, 1560, 1609, 1658, 1671, 1684, 1697]
theorem w_sw (E : w_E p s m c D aC b L xs) {w tgt : Nat} {off : Int} (h1 : ¬ (nI w).toInt < 0) (h2 : ¬ (40 : Int) < (nI w).toInt) (ho : w_offs[((nI w).toInt - 0).toNat]? = some off) (ht : ((40 : Nat) : Int) + off = (tgt : Int)) (k : W p l e room_1 s m #[Value.ref b] below meth c H locs cells slots Q (F0 m tgt ls rest)) : W p l e room_1 s m #[Value.ref b] below meth c H locs cells slots Q (F0 m 40 ls (.int (nI w) :: rest)) :=
  lv_tableIn E.1.1 E.1.2.1 dL_law_40 h1 h2 ho ht k
end WL
