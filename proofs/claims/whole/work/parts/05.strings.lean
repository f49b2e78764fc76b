def g_CX (own : String) (index : Nat) (y : MethodName) (cc : ByteArray) (maxL : Nat) (ret : Option FieldType) (na : Nat) : Prop :=
  g_CB own index y cc maxL ret na ∧ Cond.instanceMethod y ∈ g_ws ∧ Cond.selects y.cls y y ∈ g_ws
section GX
variable {p : Program} {l : Launch} {e : Env} {s : State} {m : MethodId} {args : Array Value} {below : List Frame} {meth : Method} {c : Code} {H : Heap} {locs : List Loc} {Q : State → Prop}
variable {cc : ByteArray} {pc : Nat} {ls : Array Slot} {rest : List Value} {D : va_G} {aC : Nat → ClassId} {B n : Nat} {Y : g_Y} {mem mem' : g_M} {own : String} {lev : Nat} {Z Z1 : State → Prop}
theorem g_callVX {y : MethodName} {bytes : ByteArray} {maxL nL na index lev1 b : Nat} {ret : Option FieldType} {r : Option Value} (As : List Value) {st0 : List Value} (E : g_C p s m args c cc own D aC Z) (hml : c.maxLocals = nL) (hls : ls.size = nL) (hM : g_At D aC B Y n mem s.heap H locs) (hw : g_CX own index y bytes maxL ret na)
    (hc : g_MetZ l y bytes maxL ret lev1 D aC B Y n Z1 mem (.ref b :: As) r mem') (hcell : ∃ cell : Cell, H[b]? = some cell ∧ cell.vm.isStatics = false ∧ s.vm.findClass y.cls = some cell.cls) (hZb : ∀ U, Z1 U → ∀ (g : JFrame) (mk : MethodId) (a : Array Value), Z1 (U.calling g mk a)) (hZ1 : ∀ U : State, U.heap = H → s.WarmedH U.vm → Z1 U) (hlev : lev1 + 1 ≤ lev) (hn : As.length = na) (hst : st0 = As.reverse ++ .ref b :: rest) (hW : (rest.map fun v => v.category).sum ≤ 8) (hdg : decode cc pc = .ok (.invokevirtual index, 3))
    (kk : ∀ (H1 : Heap) (locs1 : List Loc), g_At D aC B Y n mem' s.heap H1 locs1 → W p l e (g_rm lev) s m args below meth c H1 locs1 0 0 Q (F0 m (pc + 3) ls (r.toList ++ rest))) : W p l e (g_rm lev) s m args below meth c H locs 0 0 Q (F0 m pc ls st0) := by
  obtain ⟨h1, h2, h3⟩ := hw
  have E' := E
  obtain ⟨hx, hb, hown, hts, hK, hZ⟩ := E
  exact g_back (rest := rest) hM (va_runV (C := y.cls) (b := b) (Ts := g_ws) (nL := nL) (As := As) ⟨hx, hb, hml, hown, hts⟩ hc ⟨g_callB E' h1 hlev, hts _ h2, hts _ h3⟩ ⟨g_blind hZb, hcell, fun U hU hW => ⟨rfl, by rw [hU]; exact hM.1, va_K.moved hW.alike hK, hZ1 U hU hW⟩⟩ rfl hn hls hst (lv_room hW) hdg ⟨Nat.le_refl _, Nat.le_refl _⟩) kk
theorem g_callSX {y : MethodName} {bytes : ByteArray} {maxL nL na index lev1 : Nat} {ret : Option FieldType} {r : Option Value} (As : List Value) {st0 : List Value} (E : g_C p s m args c cc own D aC Z) (hml : c.maxLocals = nL) (hls : ls.size = nL) (hM : g_At D aC B Y n mem s.heap H locs) (hw : g_CS own index y bytes maxL ret na)
    (hc : g_MetZ l y bytes maxL ret lev1 D aC B Y n Z1 mem As r mem') (hZb : ∀ U, Z1 U → ∀ (g : JFrame) (mk : MethodId) (a : Array Value), Z1 (U.calling g mk a)) (hZ1 : ∀ U : State, U.heap = H → s.WarmedH U.vm → Z1 U) (hlev : lev1 + 1 ≤ lev) (hn : As.length = na) (hst : st0 = As.reverse ++ rest) (hW : (rest.map fun v => v.category).sum ≤ 8) (hdg : decode cc pc = .ok (.invokestatic index, 3))
    (kk : ∀ (H1 : Heap) (locs1 : List Loc), g_At D aC B Y n mem' s.heap H1 locs1 → W p l e (g_rm lev) s m args below meth c H1 locs1 0 0 Q (F0 m (pc + 3) ls (r.toList ++ rest))) : W p l e (g_rm lev) s m args below meth c H locs 0 0 Q (F0 m pc ls st0) := by
  obtain ⟨h1, h2⟩ := hw
  have E' := E
  obtain ⟨hx, hb, hown, hts, hK, hZ⟩ := E
  exact g_back (rest := rest) hM (va_runS (Ts := g_ws) (nL := nL) (As := As) ⟨hx, hb, hml, hown, hts⟩ hc ⟨g_callB E' h1 hlev, hts _ h2⟩ ⟨g_blind hZb, fun U hU hW => ⟨rfl, by rw [hU]; exact hM.1, va_K.moved hW.alike hK, hZ1 U hU hW⟩⟩ rfl hn hls hst (lv_room hW) hdg ⟨Nat.le_refl _, Nat.le_refl _⟩) kk
theorem g_tret {R : Room} {v : Int32} {ty : FieldType} (E : g_C p s m args c cc own D aC Z) (hM : g_At D aC B Y n mem s.heap H locs) (hr : meth.sig.returnType = some ty) (hlocks : meth.locks = false) (hn : narrow ty (.int v) = .int v) (hdg : decode cc pc = .ok (.ireturn, 1)) :
    W p l e R s m args below meth c H locs 0 0 (g_MQ below D aC B Y n args s (some (.int v)) mem) (F0 m pc ls [.int v]) :=
  W.zret E.1 E.2.1 hr hn (fun t ht hW => ⟨rfl, by rw [ht]; exact hM.1, hM.2.F ht⟩) hM.2.2.2 hdg hlocks
theorem g_SAat {a v : Nat} (h : g_SA (g_A B n) a v s) (hM : g_At D aC B Y n mem s.heap H locs) : ∀ U : State, U.heap = H → s.WarmedH U.vm → g_SA (g_A B n) a v U :=
  fun U hU hW => h.warm hW.alike (fun q h1 h2 => by rw [hU]; exact hM.2.2.1 q h1 h2)
theorem g_SAcell {a v : Nat} (h : g_SA (g_A B n) a v s) (hM : g_At D aC B Y n mem s.heap H locs) : ∃ cell : Cell, H[a]? = some cell ∧ cell.vm.isStatics = false ∧ s.vm.findClass "java/lang/String" = some cell.cls := by
  obtain ⟨cell, h1, h2, h3, -⟩ := h.1.kept hM.2.2.1
  exact ⟨cell, h1, h2, h3⟩
end GX
theorem dJ0_length_8abf5_0 : decode cJ0_length_8abf5 0 = .ok (.aload_n 0, 1) := by decide +kernel
theorem dJ0_length_8abf5_1 : decode cJ0_length_8abf5 1 = .ok (.getfield 9, 3) := by decide +kernel
theorem dJ0_length_8abf5_4 : decode cJ0_length_8abf5 4 = .ok (.arraylength, 1) := by decide +kernel
theorem dJ0_length_8abf5_5 : decode cJ0_length_8abf5 5 = .ok (.aload_n 0, 1) := by decide +kernel
theorem dJ0_length_8abf5_6 : decode cJ0_length_8abf5 6 = .ok (.invokevirtual 335, 3) := by decide +kernel
theorem dJ0_length_8abf5_9 : decode cJ0_length_8abf5 9 = .ok (.ishr, 1) := by decide +kernel
theorem dJ0_length_8abf5_10 : decode cJ0_length_8abf5 10 = .ok (.ireturn, 1) := by decide +kernel
theorem dJ0_charAt_5068e_0 : decode cJ0_charAt_5068e 0 = .ok (.aload_n 0, 1) := by decide +kernel
theorem dJ0_charAt_5068e_1 : decode cJ0_charAt_5068e 1 = .ok (.invokevirtual 492, 3) := by decide +kernel
theorem dJ0_charAt_5068e_4 : decode cJ0_charAt_5068e 4 = .ok (.ifCond .eq 12, 3) := by decide +kernel
theorem dJ0_charAt_5068e_7 : decode cJ0_charAt_5068e 7 = .ok (.aload_n 0, 1) := by decide +kernel
theorem dJ0_charAt_5068e_8 : decode cJ0_charAt_5068e 8 = .ok (.getfield 9, 3) := by decide +kernel
theorem dJ0_charAt_5068e_11 : decode cJ0_charAt_5068e 11 = .ok (.iload_n 1, 1) := by decide +kernel
theorem dJ0_charAt_5068e_12 : decode cJ0_charAt_5068e 12 = .ok (.invokestatic 495, 3) := by decide +kernel
theorem dJ0_charAt_5068e_15 : decode cJ0_charAt_5068e 15 = .ok (.ireturn, 1) := by decide +kernel
theorem dJ0_charAt_5068e_16 : decode cJ0_charAt_5068e 16 = .ok (.aload_n 0, 1) := by decide +kernel
theorem dJ0_charAt_5068e_17 : decode cJ0_charAt_5068e 17 = .ok (.getfield 9, 3) := by decide +kernel
theorem dJ0_charAt_5068e_20 : decode cJ0_charAt_5068e 20 = .ok (.iload_n 1, 1) := by decide +kernel
theorem dJ0_charAt_5068e_21 : decode cJ0_charAt_5068e 21 = .ok (.invokestatic 498, 3) := by decide +kernel
theorem dJ0_charAt_5068e_24 : decode cJ0_charAt_5068e 24 = .ok (.ireturn, 1) := by decide +kernel
theorem dJ0_coder_7d493_0 : decode cJ0_coder_7d493 0 = .ok (.getstatic 38, 3) := by decide +kernel
theorem dJ0_coder_7d493_3 : decode cJ0_coder_7d493 3 = .ok (.ifCond .eq 10, 3) := by decide +kernel
theorem dJ0_coder_7d493_6 : decode cJ0_coder_7d493 6 = .ok (.aload_n 0, 1) := by decide +kernel
theorem dJ0_coder_7d493_7 : decode cJ0_coder_7d493 7 = .ok (.getfield 15, 3) := by decide +kernel
theorem dJ0_coder_7d493_10 : decode cJ0_coder_7d493 10 = .ok (.goto 4, 3) := by decide +kernel
theorem dJ0_coder_7d493_13 : decode cJ0_coder_7d493 13 = .ok (.iconst 1, 1) := by decide +kernel
theorem dJ0_coder_7d493_14 : decode cJ0_coder_7d493 14 = .ok (.ireturn, 1) := by decide +kernel
theorem dJ0_isLatin1_aae02_0 : decode cJ0_isLatin1_aae02 0 = .ok (.getstatic 38, 3) := by decide +kernel
theorem dJ0_isLatin1_aae02_3 : decode cJ0_isLatin1_aae02 3 = .ok (.ifCond .eq 14, 3) := by decide +kernel
theorem dJ0_isLatin1_aae02_6 : decode cJ0_isLatin1_aae02 6 = .ok (.aload_n 0, 1) := by decide +kernel
theorem dJ0_isLatin1_aae02_7 : decode cJ0_isLatin1_aae02 7 = .ok (.getfield 15, 3) := by decide +kernel
theorem dJ0_isLatin1_aae02_10 : decode cJ0_isLatin1_aae02 10 = .ok (.ifCond .ne 7, 3) := by decide +kernel
theorem dJ0_isLatin1_aae02_13 : decode cJ0_isLatin1_aae02 13 = .ok (.iconst 1, 1) := by decide +kernel
theorem dJ0_isLatin1_aae02_14 : decode cJ0_isLatin1_aae02 14 = .ok (.goto 4, 3) := by decide +kernel
theorem dJ0_isLatin1_aae02_17 : decode cJ0_isLatin1_aae02 17 = .ok (.iconst 0, 1) := by decide +kernel
theorem dJ0_isLatin1_aae02_18 : decode cJ0_isLatin1_aae02 18 = .ok (.ireturn, 1) := by decide +kernel
theorem dJ0_checkIndex_df160_0 : decode cJ0_checkIndex_df160 0 = .ok (.iload_n 0, 1) := by decide +kernel
theorem dJ0_checkIndex_df160_1 : decode cJ0_checkIndex_df160 1 = .ok (.iload_n 1, 1) := by decide +kernel
theorem dJ0_checkIndex_df160_2 : decode cJ0_checkIndex_df160 2 = .ok (.getstatic 1053, 3) := by decide +kernel
theorem dJ0_checkIndex_df160_5 : decode cJ0_checkIndex_df160 5 = .ok (.invokestatic 1059, 3) := by decide +kernel
theorem dJ0_checkIndex_df160_8 : decode cJ0_checkIndex_df160 8 = .ok (.pop, 1) := by decide +kernel
theorem dJ0_checkIndex_df160_9 : decode cJ0_checkIndex_df160 9 = .ok (.return_, 1) := by decide +kernel
theorem dJ1_charAt_3b067_0 : decode cJ1_charAt_3b067 0 = .ok (.iload_n 1, 1) := by decide +kernel
theorem dJ1_charAt_3b067_1 : decode cJ1_charAt_3b067 1 = .ok (.aload_n 0, 1) := by decide +kernel
theorem dJ1_charAt_3b067_2 : decode cJ1_charAt_3b067 2 = .ok (.arraylength, 1) := by decide +kernel
theorem dJ1_charAt_3b067_3 : decode cJ1_charAt_3b067 3 = .ok (.invokestatic 9, 3) := by decide +kernel
theorem dJ1_charAt_3b067_6 : decode cJ1_charAt_3b067 6 = .ok (.aload_n 0, 1) := by decide +kernel
theorem dJ1_charAt_3b067_7 : decode cJ1_charAt_3b067 7 = .ok (.iload_n 1, 1) := by decide +kernel
theorem dJ1_charAt_3b067_8 : decode cJ1_charAt_3b067 8 = .ok (.baload, 1) := by decide +kernel
theorem dJ1_charAt_3b067_9 : decode cJ1_charAt_3b067 9 = .ok (.sipush 255, 3) := by decide +kernel
theorem dJ1_charAt_3b067_12 : decode cJ1_charAt_3b067 12 = .ok (.iand, 1) := by decide +kernel
theorem dJ1_charAt_3b067_13 : decode cJ1_charAt_3b067 13 = .ok (.i2c, 1) := by decide +kernel
theorem dJ1_charAt_3b067_14 : decode cJ1_charAt_3b067 14 = .ok (.ireturn, 1) := by decide +kernel
theorem dJ3_checkIndex_8e157_0 : decode cJ3_checkIndex_8e157 0 = .ok (.iload_n 0, 1) := by decide +kernel
theorem dJ3_checkIndex_8e157_1 : decode cJ3_checkIndex_8e157 1 = .ok (.ifCond .lt 8, 3) := by decide +kernel
theorem dJ3_checkIndex_8e157_4 : decode cJ3_checkIndex_8e157 4 = .ok (.iload_n 0, 1) := by decide +kernel
theorem dJ3_checkIndex_8e157_5 : decode cJ3_checkIndex_8e157 5 = .ok (.iload_n 1, 1) := by decide +kernel
theorem dJ3_checkIndex_8e157_6 : decode cJ3_checkIndex_8e157 6 = .ok (.if_icmp .lt 10, 3) := by decide +kernel
theorem dJ3_checkIndex_8e157_9 : decode cJ3_checkIndex_8e157 9 = .ok (.aload_n 2, 1) := by decide +kernel
theorem dJ3_checkIndex_8e157_10 : decode cJ3_checkIndex_8e157 10 = .ok (.iload_n 0, 1) := by decide +kernel
theorem dJ3_checkIndex_8e157_11 : decode cJ3_checkIndex_8e157 11 = .ok (.iload_n 1, 1) := by decide +kernel
theorem dJ3_checkIndex_8e157_12 : decode cJ3_checkIndex_8e157 12 = .ok (.invokestatic 95, 3) := by decide +kernel
theorem dJ3_checkIndex_8e157_15 : decode cJ3_checkIndex_8e157 15 = .ok (.athrow, 1) := by decide +kernel
theorem dJ3_checkIndex_8e157_16 : decode cJ3_checkIndex_8e157 16 = .ok (.iload_n 0, 1) := by decide +kernel
theorem dJ3_checkIndex_8e157_17 : decode cJ3_checkIndex_8e157 17 = .ok (.ireturn, 1) := by decide +kernel
theorem sw_cs : Cond.fieldLink "java/lang/String" 38 "java/lang/String" "COMPACT_STRINGS" "Z" ∈ g_ws := g_mem 169 (by decide +kernel) (by decide +kernel)
theorem sw_val : Cond.fieldLink "java/lang/String" 9 "java/lang/String" "value" "[B" ∈ g_ws := g_mem 2030 (by decide +kernel) (by decide +kernel)
theorem sw_cod : Cond.fieldLink "java/lang/String" 15 "java/lang/String" "coder" "B" ∈ g_ws := g_mem 2031 (by decide +kernel) (by decide +kernel)
theorem sw_fmt : Cond.fieldLink "java/lang/String" 1053 "jdk/internal/util/Preconditions" "SIOOBE_FORMATTER" "Ljava/util/function/BiFunction;" ∈ g_ws := g_mem 185 (by decide +kernel) (by decide +kernel)
theorem sc_cod : g_CX "java/lang/String" 335 yJ0_coder_7d493 cJ0_coder_7d493 1 (some .byte) 0 := ⟨⟨g_mem 165 (by decide +kernel) (by decide +kernel), g_mem 6 (by decide +kernel) (by decide +kernel), g_mem 168 (by decide +kernel) (by decide +kernel), by decide +kernel, by decide⟩, g_mem 166 (by decide +kernel) (by decide +kernel), g_mem 167 (by decide +kernel) (by decide +kernel)⟩
theorem sc_lat : g_CX "java/lang/String" 492 yJ0_isLatin1_aae02 cJ0_isLatin1_aae02 1 (some .boolean) 0 := ⟨⟨g_mem 175 (by decide +kernel) (by decide +kernel), g_mem 6 (by decide +kernel) (by decide +kernel), g_mem 178 (by decide +kernel) (by decide +kernel), by decide +kernel, by decide⟩, g_mem 176 (by decide +kernel) (by decide +kernel), g_mem 177 (by decide +kernel) (by decide +kernel)⟩
theorem sc_l1 : g_CS "java/lang/String" 495 yJ1_charAt_3b067 cJ1_charAt_3b067 2 (some .char) 2 := ⟨⟨g_mem 179 (by decide +kernel) (by decide +kernel), g_mem 7 (by decide +kernel) (by decide +kernel), g_mem 181 (by decide +kernel) (by decide +kernel), by decide +kernel, by decide⟩, g_mem 180 (by decide +kernel) (by decide +kernel)⟩
theorem sc_chk : g_CS "java/lang/StringLatin1" 9 yJ0_checkIndex_df160 cJ0_checkIndex_df160 2 none 2 := ⟨⟨g_mem 182 (by decide +kernel) (by decide +kernel), g_mem 6 (by decide +kernel) (by decide +kernel), g_mem 184 (by decide +kernel) (by decide +kernel), by decide +kernel, by decide⟩, g_mem 183 (by decide +kernel) (by decide +kernel)⟩
theorem sc_pre : g_CS "java/lang/String" 1059 yJ3_checkIndex_8e157 cJ3_checkIndex_8e157 3 (some .int) 3 := ⟨⟨g_mem 187 (by decide +kernel) (by decide +kernel), g_mem 8 (by decide +kernel) (by decide +kernel), g_mem 189 (by decide +kernel) (by decide +kernel), by decide +kernel, by decide⟩, g_mem 188 (by decide +kernel) (by decide +kernel)⟩
section GSM
variable (l : Launch) (D : va_G) (aC : Nat → ClassId) (B : Nat) (Y : g_Y) (n : Nat)
set_option maxHeartbeats 4000000 in
set_option maxRecDepth 100000 in
theorem cs_coder (a v : Nat) (mem : g_M) : g_MetZ l yJ0_coder_7d493 cJ0_coder_7d493 1 (some .byte) 1 D aC B Y n (g_SA (g_A B n) a v) mem [.ref a] (some (.int 0)) mem := by
  refine g_ofW (by decide) (Nat.le_of_ble_eq_true rfl) ?_
  intro p e s m args below meth c ls E hml hret hlk hM hl
  have E0 : g_C p s m args c cJ0_coder_7d493 RJ0 D aC (g_SA (g_A B n) a v) := E
  obtain ⟨hx, hb, hown, hts, hK, hZ⟩ := E
  replace E := E0
  obtain ⟨z1, z2, z3, z4, z5, z6⟩ := hZ
  have hl : lv_has ls 1 [(0, .ref a)] := hl
  refine va_gets hx hb z5 hM.2 hown (hts _ sw_cs) (fun _ h => h) dJ0_coder_7d493_0 ?_
  refine lv_if_eq (tgt := 13) hx hb dJ0_coder_7d493_3 (by decide) (fun h => absurd h (by decide)) (fun _ => ?_)
  refine lv_aload_n hx hb dJ0_coder_7d493_6 rfl (lv_at hl 0 rfl) ?_
  refine vk_getf hx hb z2 hM.2 hown (hts _ sw_cod) (fun _ h => h) dJ0_coder_7d493_7 ?_
  refine lv_goto (tgt := 14) hx hb dJ0_coder_7d493_10 (by decide) ?_
  exact g_tret E hM hret hlk rfl dJ0_coder_7d493_14
set_option maxHeartbeats 4000000 in
set_option maxRecDepth 100000 in
theorem cs_lat (a v : Nat) (mem : g_M) : g_MetZ l yJ0_isLatin1_aae02 cJ0_isLatin1_aae02 1 (some .boolean) 1 D aC B Y n (g_SA (g_A B n) a v) mem [.ref a] (some (.int 1)) mem := by
  refine g_ofW (by decide) (Nat.le_of_ble_eq_true rfl) ?_
  intro p e s m args below meth c ls E hml hret hlk hM hl
  have E0 : g_C p s m args c cJ0_isLatin1_aae02 RJ0 D aC (g_SA (g_A B n) a v) := E
  obtain ⟨hx, hb, hown, hts, hK, hZ⟩ := E
  replace E := E0
  obtain ⟨z1, z2, z3, z4, z5, z6⟩ := hZ
  have hl : lv_has ls 1 [(0, .ref a)] := hl
  refine va_gets hx hb z5 hM.2 hown (hts _ sw_cs) (fun _ h => h) dJ0_isLatin1_aae02_0 ?_
  refine lv_if_eq (tgt := 17) hx hb dJ0_isLatin1_aae02_3 (by decide) (fun h => absurd h (by decide)) (fun _ => ?_)
  refine lv_aload_n hx hb dJ0_isLatin1_aae02_6 rfl (lv_at hl 0 rfl) ?_
  refine vk_getf hx hb z2 hM.2 hown (hts _ sw_cod) (fun _ h => h) dJ0_isLatin1_aae02_7 ?_
  refine lv_if_ne (tgt := 17) hx hb dJ0_isLatin1_aae02_10 (by decide) (fun h => absurd rfl h) (fun _ => ?_)
  refine lv_iconst (v := (1 : Int32)) hx hb dJ0_isLatin1_aae02_13 rfl ?_
  refine lv_goto (tgt := 18) hx hb dJ0_isLatin1_aae02_14 (by decide) ?_
  exact g_zret E hM hret hlk (Or.inr rfl) dJ0_isLatin1_aae02_18
set_option maxHeartbeats 4000000 in
set_option maxRecDepth 100000 in
theorem cs_length (a v : Nat) (mem : g_M) : g_MetZ l yJ0_length_8abf5 cJ0_length_8abf5 1 (some .int) 2 D aC B Y n (g_SA (g_A B n) a v) mem [.ref a] (some (.int 107)) mem := by
  refine g_ofW (by decide) (Nat.le_of_ble_eq_true rfl) ?_
  intro p e s m args below meth c ls E hml hret hlk hM hl
  have E0 : g_C p s m args c cJ0_length_8abf5 RJ0 D aC (g_SA (g_A B n) a v) := E
  obtain ⟨hx, hb, hown, hts, hK, hZ⟩ := E
  replace E := E0
  obtain ⟨z1, z2, z3, z4, z5, z6⟩ := id hZ
  have hl : lv_has ls 1 [(0, .ref a)] := hl
  refine lv_aload_n hx hb dJ0_length_8abf5_0 rfl (lv_at hl 0 rfl) ?_
  refine vk_getf hx hb z3 hM.2 hown (hts _ sw_val) (fun _ h => h) dJ0_length_8abf5_1 ?_
  refine va_tlen (v := (107 : Int32)) hx hb z4 hM.2 rfl dJ0_length_8abf5_4 ?_
  refine lv_aload_n hx hb dJ0_length_8abf5_5 rfl (lv_at hl 0 rfl) ?_
  refine g_callVX [] (rest := [.int (107 : Int32)]) E hml hl.1 hM sc_cod (cs_coder l D aC B Y n a v mem) (g_SAcell hZ hM) (fun _ h => h.calling) (g_SAat hZ hM) (by decide) rfl rfl (Nat.le_of_ble_eq_true rfl) dJ0_length_8abf5_6 (fun H locs hM => ?_)
  refine W.eq (g2 := F0 m 9 ls [.int 0, .int (107 : Int32)]) rfl ?_
  refine lv_ishr hx hb dJ0_length_8abf5_9 ?_
  refine W.eq (g2 := F0 m 10 ls [.int (107 : Int32)]) rfl ?_
  exact g_iret E hM hret hlk dJ0_length_8abf5_10
set_option maxHeartbeats 4000000 in
set_option maxRecDepth 100000 in
theorem cs_pre (i L : Int32) (w : Value) (hw : w.category = 1) (h0 : 0 ≤ i) (h1 : i < L) (Z : State → Prop) (mem : g_M) : g_MetZ l yJ3_checkIndex_8e157 cJ3_checkIndex_8e157 3 (some .int) 1 D aC B Y n Z mem [.int i, .int L, w] (some (.int i)) mem := by
  refine g_ofW (by decide) (by rw [show lg_sl [.int i, .int L, w] = [.val (.int i), .val (.int L), .val w] from by simp only [lg_sl, List.flatMap_cons, List.flatMap_nil, hw]; rfl]; exact Nat.le_refl 3) ?_
  intro p e s m args below meth c ls E hml hret hlk hM hl
  have E0 : g_C p s m args c cJ3_checkIndex_8e157 RJ3 D aC Z := E
  obtain ⟨hx, hb, hown, hts, hK, hZ⟩ := E
  replace E := E0
  have hl : lv_has ls 3 [(0, .int i), (1, .int L)] := ⟨hl.1, hl.2.1, fun q hq => hl.2.2 q (by
    have h2 : lv_args 0 [.int i, .int L, w] = [(0, .int i), (1, .int L), (2, w)] := rfl
    rw [h2]
    rcases List.mem_cons.mp hq with rfl | hq
    · exact List.mem_cons_self
    · rcases List.mem_cons.mp hq with rfl | hq
      · exact List.mem_cons_of_mem _ List.mem_cons_self
      · cases hq)⟩
  refine lv_iload_n hx hb dJ3_checkIndex_8e157_0 rfl (lv_at hl 0 rfl) ?_
  refine lv_if_lt (tgt := 9) hx hb dJ3_checkIndex_8e157_1 (by decide) (fun h => absurd h (Int32.not_lt.mpr h0)) (fun _ => ?_)
  refine lv_iload_n hx hb dJ3_checkIndex_8e157_4 rfl (lv_at hl 0 rfl) ?_
  refine lv_iload_n hx hb dJ3_checkIndex_8e157_5 rfl (lv_at hl 1 rfl) ?_
  refine lv_icmp_lt (tgt := 16) hx hb dJ3_checkIndex_8e157_6 (by decide) (fun _ => ?_) (fun h => absurd h1 h)
  refine lv_iload_n hx hb dJ3_checkIndex_8e157_16 rfl (lv_at hl 0 rfl) ?_
  exact g_iret E hM hret hlk dJ3_checkIndex_8e157_17
set_option maxHeartbeats 4000000 in
set_option maxRecDepth 100000 in
theorem cs_chk (i L : Int32) (h0 : 0 ≤ i) (h1 : i < L) (a v : Nat) (mem : g_M) : g_MetZ l yJ0_checkIndex_df160 cJ0_checkIndex_df160 2 none 2 D aC B Y n (g_SA (g_A B n) a v) mem [.int i, .int L] none mem := by
  refine g_ofW (by decide) (Nat.le_of_ble_eq_true rfl) ?_
  intro p e s m args below meth c ls E hml hret hlk hM hl
  have E0 : g_C p s m args c cJ0_checkIndex_df160 RJ0 D aC (g_SA (g_A B n) a v) := E
  obtain ⟨hx, hb, hown, hts, hK, hZ⟩ := E
  replace E := E0
  obtain ⟨z1, z2, z3, z4, z5, z6⟩ := id hZ
  have hl : lv_has ls 2 [(0, .int i), (1, .int L)] := hl
  refine lv_iload_n hx hb dJ0_checkIndex_df160_0 rfl (lv_at hl 0 rfl) ?_
  refine lv_iload_n hx hb dJ0_checkIndex_df160_1 rfl (lv_at hl 1 rfl) ?_
  have go : ∀ w : Value, w.category = 1 → va_Z "jdk/internal/util/Preconditions" "SIOOBE_FORMATTER" "Ljava/util/function/BiFunction;" w (g_A B n) s s.heap → W p l e (g_rm 2) s m args below meth c s.heap [] 0 0 (g_MQ below D aC B Y n args s none mem) (F0 m 2 ls [.int L, .int i]) := by
    intro w hw hz
    refine va_gets hx hb hz hM.2 hown (hts _ sw_fmt) (fun _ h => h) dJ0_checkIndex_df160_2 ?_
    refine g_callSX [.int i, .int L, w] (rest := []) E hml hl.1 hM sc_pre (cs_pre l D aC B Y n i L w hw h0 h1 (fun _ => True) mem) (fun _ _ _ _ _ => trivial) (fun _ _ _ => trivial) (by decide) rfl rfl (Nat.le_of_ble_eq_true rfl) dJ0_checkIndex_df160_5 (fun H locs hM => ?_)
    refine W.eq (g2 := F0 m 8 ls [.int i]) rfl ?_
    refine lv_pop hx hb dJ0_checkIndex_df160_8 rfl ?_
    exact g_vret E hM hret hlk dJ0_checkIndex_df160_9
  rcases z6 with h | ⟨t, h⟩
  · exact go _ rfl h
  · exact go _ rfl h
def g_wch (k : Nat) : Int32 := g_wby.getD k 0
theorem g_wch_ok : ∀ k, k < 107 → ((g_wch k &&& 255).toUInt32 % 65536).toInt32 = g_wch k := by decide +kernel
theorem g_wch_nar (k : Nat) (h : k < 107) : narrow .char (.int (g_wch k)) = .int (g_wch k) := by
  rw [← g_wch_ok k h]
  exact pk_nc _
theorem vp_in_lt {i : Int32} {n : Nat} (h : vp_in i n) : i.toNatClampNeg < n := Nat.not_le.mp fun q => h (Or.inr q)
theorem vp_in_ge {i : Int32} {n : Nat} (h : vp_in i n) : 0 ≤ i := Int32.not_lt.mp fun q => h (Or.inl q)
theorem vp_in_lt107 {i : Int32} (h : vp_in i 107) : i < 107 := by
  have h1 := vp_in_iff.mp h
  exact Int32.lt_iff_toInt_lt.mpr (by simpa using h1.2)
set_option maxHeartbeats 4000000 in
set_option maxRecDepth 100000 in
theorem cs_l1 (i : Int32) (hi : vp_in i 107) (a v : Nat) (mem : g_M) : g_MetZ l yJ1_charAt_3b067 cJ1_charAt_3b067 2 (some .char) 3 D aC B Y n (g_SA (g_A B n) a v) mem [.ref v, .int i] (some (.int (g_wch i.toNatClampNeg))) mem := by
  refine g_ofW (by decide) (Nat.le_of_ble_eq_true rfl) ?_
  intro p e s m args below meth c ls E hml hret hlk hM hl
  have E0 : g_C p s m args c cJ1_charAt_3b067 RJ1 D aC (g_SA (g_A B n) a v) := E
  obtain ⟨hx, hb, hown, hts, hK, hZ⟩ := E
  replace E := E0
  obtain ⟨z1, z2, z3, z4, z5, z6⟩ := id hZ
  have hl : lv_has ls 2 [(0, .ref v), (1, .int i)] := hl
  refine lv_iload_n hx hb dJ1_charAt_3b067_0 rfl (lv_at hl 1 rfl) ?_
  refine lv_aload_n hx hb dJ1_charAt_3b067_1 rfl (lv_at hl 0 rfl) ?_
  refine va_tlen (v := (107 : Int32)) hx hb z4 hM.2 rfl dJ1_charAt_3b067_2 ?_
  refine g_callSX [.int i, .int (107 : Int32)] (rest := []) E hml hl.1 hM sc_chk (cs_chk l D aC B Y n i 107 (vp_in_ge hi) (vp_in_lt107 hi) a v mem) (fun _ h => h.calling) (g_SAat hZ hM) (by decide) rfl rfl (Nat.le_of_ble_eq_true rfl) dJ1_charAt_3b067_3 (fun H locs hM => ?_)
  refine W.eq (g2 := F0 m 6 ls []) rfl ?_
  refine lv_aload_n hx hb dJ1_charAt_3b067_6 rfl (lv_at hl 0 rfl) ?_
  refine lv_iload_n hx hb dJ1_charAt_3b067_7 rfl (lv_at hl 1 rfl) ?_
  refine va_tb hx hb z4 hM.2 hi (v := .int (g_wch i.toNatClampNeg)) rfl dJ1_charAt_3b067_8 ?_
  refine lv_sipush (v := (255 : Int32)) hx hb dJ1_charAt_3b067_9 rfl ?_
  refine lv_iand hx hb dJ1_charAt_3b067_12 ?_
  refine lv_i2c (v := g_wch i.toNatClampNeg) hx hb dJ1_charAt_3b067_13 (g_wch_ok _ (vp_in_lt hi)) ?_
  exact g_tret E hM hret hlk (g_wch_nar _ (vp_in_lt hi)) dJ1_charAt_3b067_14
set_option maxHeartbeats 4000000 in
set_option maxRecDepth 100000 in
theorem cs_charAt (i : Int32) (hi : vp_in i 107) (a v : Nat) (mem : g_M) : g_MetZ l yJ0_charAt_5068e cJ0_charAt_5068e 2 (some .char) 4 D aC B Y n (g_SA (g_A B n) a v) mem [.ref a, .int i] (some (.int (g_wch i.toNatClampNeg))) mem := by
  refine g_ofW (by decide) (Nat.le_of_ble_eq_true rfl) ?_
  intro p e s m args below meth c ls E hml hret hlk hM hl
  have E0 : g_C p s m args c cJ0_charAt_5068e RJ0 D aC (g_SA (g_A B n) a v) := E
  obtain ⟨hx, hb, hown, hts, hK, hZ⟩ := E
  replace E := E0
  obtain ⟨z1, z2, z3, z4, z5, z6⟩ := id hZ
  have hl : lv_has ls 2 [(0, .ref a), (1, .int i)] := hl
  refine lv_aload_n hx hb dJ0_charAt_5068e_0 rfl (lv_at hl 0 rfl) ?_
  refine g_callVX [] (rest := []) E hml hl.1 hM sc_lat (cs_lat l D aC B Y n a v mem) (g_SAcell hZ hM) (fun _ h => h.calling) (g_SAat hZ hM) (by decide) rfl rfl (Nat.le_of_ble_eq_true rfl) dJ0_charAt_5068e_1 (fun H locs hM => ?_)
  refine W.eq (g2 := F0 m 4 ls [.int 1]) rfl ?_
  refine lv_if_eq (tgt := 16) hx hb dJ0_charAt_5068e_4 (by decide) (fun h => absurd h (by decide)) (fun _ => ?_)
  refine lv_aload_n hx hb dJ0_charAt_5068e_7 rfl (lv_at hl 0 rfl) ?_
  refine vk_getf hx hb z3 hM.2 hown (hts _ sw_val) (fun _ h => h) dJ0_charAt_5068e_8 ?_
  refine lv_iload_n hx hb dJ0_charAt_5068e_11 rfl (lv_at hl 1 rfl) ?_
  refine g_callSX [.ref v, .int i] (rest := []) E hml hl.1 hM sc_l1 (cs_l1 l D aC B Y n i hi a v mem) (fun _ h => h.calling) (g_SAat hZ hM) (by decide) rfl rfl (Nat.le_of_ble_eq_true rfl) dJ0_charAt_5068e_12 (fun H locs hM => ?_)
  refine W.eq (g2 := F0 m 15 ls [.int (g_wch i.toNatClampNeg)]) rfl ?_
  exact g_tret E hM hret hlk (g_wch_nar _ (vp_in_lt hi)) dJ0_charAt_5068e_15
end GSM
theorem sc_lenM : g_CX "PartsFerryModel" 202 yJ0_length_8abf5 cJ0_length_8abf5 1 (some .int) 0 := ⟨⟨g_mem 1554 (by decide +kernel) (by decide +kernel), g_mem 6 (by decide +kernel) (by decide +kernel), g_mem 164 (by decide +kernel) (by decide +kernel), by decide +kernel, by decide⟩, g_mem 162 (by decide +kernel) (by decide +kernel), g_mem 163 (by decide +kernel) (by decide +kernel)⟩
theorem sc_chrM : g_CX "PartsFerryModel" 207 yJ0_charAt_5068e cJ0_charAt_5068e 2 (some .char) 1 := ⟨⟨g_mem 1555 (by decide +kernel) (by decide +kernel), g_mem 6 (by decide +kernel) (by decide +kernel), g_mem 174 (by decide +kernel) (by decide +kernel), by decide +kernel, by decide⟩, g_mem 172 (by decide +kernel) (by decide +kernel), g_mem 173 (by decide +kernel) (by decide +kernel)⟩
