theorem dX10_man_0 : decode cX10_man 0 = .ok (.aload_n 0, 1) := by decide +kernel
theorem dX10_man_1 : decode cX10_man 1 = .ok (.iload_n 1, 1) := by decide +kernel
theorem dX10_man_2 : decode cX10_man 2 = .ok (.invokevirtual 119, 3) := by decide +kernel
theorem dX10_man_5 : decode cX10_man 5 = .ok (.ifCond .ne 13, 3) := by decide +kernel
theorem dX10_man_8 : decode cX10_man 8 = .ok (.new 123, 3) := by decide +kernel
theorem dX10_man_11 : decode cX10_man 11 = .ok (.dup, 1) := by decide +kernel
theorem dX10_man_12 : decode cX10_man 12 = .ok (.ldc 125, 2) := by decide +kernel
theorem dX10_man_14 : decode cX10_man 14 = .ok (.invokespecial 127, 3) := by decide +kernel
theorem dX10_man_17 : decode cX10_man 17 = .ok (.athrow, 1) := by decide +kernel
theorem dX10_man_18 : decode cX10_man 18 = .ok (.iload_n 2, 1) := by decide +kernel
theorem dX10_man_19 : decode cX10_man 19 = .ok (.tableswitch 82 0 4 #[33, 43, 53, 62, 72], 33) := by decide +kernel
theorem dX10_man_52 : decode cX10_man 52 = .ok (.aload_n 0, 1) := by decide +kernel
theorem dX10_man_53 : decode cX10_man 53 = .ok (.getfield 47, 3) := by decide +kernel
theorem dX10_man_56 : decode cX10_man 56 = .ok (.getfield 130, 3) := by decide +kernel
theorem dX10_man_59 : decode cX10_man 59 = .ok (.iload_n 1, 1) := by decide +kernel
theorem dX10_man_60 : decode cX10_man 60 = .ok (.iaload, 1) := by decide +kernel
theorem dX10_man_61 : decode cX10_man 61 = .ok (.ireturn, 1) := by decide +kernel
theorem dX10_man_62 : decode cX10_man 62 = .ok (.aload_n 0, 1) := by decide +kernel
theorem dX10_man_63 : decode cX10_man 63 = .ok (.getfield 47, 3) := by decide +kernel
theorem dX10_man_66 : decode cX10_man 66 = .ok (.iload_n 1, 1) := by decide +kernel
theorem dX10_man_67 : decode cX10_man 67 = .ok (.iconst 1, 1) := by decide +kernel
theorem dX10_man_68 : decode cX10_man 68 = .ok (.invokevirtual 133, 3) := by decide +kernel
theorem dX10_man_71 : decode cX10_man 71 = .ok (.ireturn, 1) := by decide +kernel
theorem dX10_man_72 : decode cX10_man 72 = .ok (.aload_n 0, 1) := by decide +kernel
theorem dX10_man_73 : decode cX10_man 73 = .ok (.getfield 47, 3) := by decide +kernel
theorem dX10_man_76 : decode cX10_man 76 = .ok (.iload_n 1, 1) := by decide +kernel
theorem dX10_man_77 : decode cX10_man 77 = .ok (.invokevirtual 136, 3) := by decide +kernel
theorem dX10_man_80 : decode cX10_man 80 = .ok (.ireturn, 1) := by decide +kernel
theorem dX10_man_81 : decode cX10_man 81 = .ok (.aload_n 0, 1) := by decide +kernel
theorem dX10_man_82 : decode cX10_man 82 = .ok (.getfield 47, 3) := by decide +kernel
theorem dX10_man_85 : decode cX10_man 85 = .ok (.iload_n 1, 1) := by decide +kernel
theorem dX10_man_86 : decode cX10_man 86 = .ok (.iconst 1, 1) := by decide +kernel
theorem dX10_man_87 : decode cX10_man 87 = .ok (.invokevirtual 140, 3) := by decide +kernel
theorem dX10_man_90 : decode cX10_man 90 = .ok (.ireturn, 1) := by decide +kernel
theorem dX10_man_91 : decode cX10_man 91 = .ok (.aload_n 0, 1) := by decide +kernel
theorem dX10_man_92 : decode cX10_man 92 = .ok (.getfield 47, 3) := by decide +kernel
theorem dX10_man_95 : decode cX10_man 95 = .ok (.iload_n 1, 1) := by decide +kernel
theorem dX10_man_96 : decode cX10_man 96 = .ok (.iconst 2, 1) := by decide +kernel
theorem dX10_man_97 : decode cX10_man 97 = .ok (.invokevirtual 140, 3) := by decide +kernel
theorem dX10_man_100 : decode cX10_man 100 = .ok (.ireturn, 1) := by decide +kernel
theorem dX10_man_101 : decode cX10_man 101 = .ok (.new 143, 3) := by decide +kernel
theorem dX10_man_104 : decode cX10_man 104 = .ok (.dup, 1) := by decide +kernel
theorem dX10_man_105 : decode cX10_man 105 = .ok (.ldc 145, 2) := by decide +kernel
theorem dX10_man_107 : decode cX10_man 107 = .ok (.invokespecial 147, 3) := by decide +kernel
theorem dX10_man_110 : decode cX10_man 110 = .ok (.athrow, 1) := by decide +kernel
theorem cv_X10_133 : g_CV RX10 133 7 yX7_sortsAt cX7_sortsAt 5 (some .int) 2 := ⟨⟨g_mem 1268 (by decide +kernel) (by decide +kernel), g_mem 11 (by decide +kernel) (by decide +kernel), g_mem 806 (by decide +kernel) (by decide +kernel), by decide +kernel, by decide⟩, g_mem 804 (by decide +kernel) (by decide +kernel), g_mem 805 (by decide +kernel) (by decide +kernel), _, rfl, rfl⟩
theorem cv_X10_136 : g_CV RX10 136 7 yX7_ownSorts cX7_ownSorts 4 (some .int) 1 := ⟨⟨g_mem 1269 (by decide +kernel) (by decide +kernel), g_mem 11 (by decide +kernel) (by decide +kernel), g_mem 1006 (by decide +kernel) (by decide +kernel), by decide +kernel, by decide⟩, g_mem 1004 (by decide +kernel) (by decide +kernel), g_mem 1005 (by decide +kernel) (by decide +kernel), _, rfl, rfl⟩
theorem cv_X10_140 : g_CV RX10 140 7 yX7_wantsOf cX7_wantsOf 5 (some .int) 2 := ⟨⟨g_mem 1270 (by decide +kernel) (by decide +kernel), g_mem 11 (by decide +kernel) (by decide +kernel), g_mem 1273 (by decide +kernel) (by decide +kernel), by decide +kernel, by decide⟩, g_mem 1271 (by decide +kernel) (by decide +kernel), g_mem 1272 (by decide +kernel) (by decide +kernel), _, rfl, rfl⟩
theorem xw_I : ∀ w ∈ (vx_atS RX10 127 xI xns).filter goodWord, w ∈ g_ws := x_key _ (by decide +kernel)
theorem xb_I : ∀ w ∈ (vx_atS RX10 127 xI xns).filter (fun w => !goodWord w), w ∈ xBn xI := by decide +kernel
theorem xg_I : ∀ w ∈ Cond.classLink RX10 123 xI :: Cond.initialized xI :: vx_atS RX10 127 xI xns, vx_ot w = true := by decide +kernel
theorem xl_I : ∀ w ∈ [Cond.classLink RX10 123 xI, Cond.initialized xI, Cond.classLink RX10 143 xN, Cond.initialized xN], w ∈ g_ws := x_key _ (by decide +kernel)
/-- what a throw reads -/
def zT (U : State) : Prop := va_Nw (.declares (Bundle.initS "java/lang/RuntimeException")) U ∧ va_Nw (.declares (Bundle.initS "java/lang/Exception")) U ∧ va_Nw (.declares (Bundle.initS Bundle.tN)) U ∧ va_Nw (.castable xI xI) U ∧ va_Nw (.castable xN xN) U ∧ va_Nc xN xI U
def zX (A : Nat → Prop) (U : State) : Prop := g_Zs A U ∧ (∃ a, vk_R RX10 125 "no such person" a U) ∧ (∃ a, vk_R RX10 145 "no such what" a U) ∧ vx_Zq Bundle.tN "UNASSIGNED_STACK" Bundle.steD A U U.heap ∧ vx_Zq Bundle.tN "SUPPRESSED_SENTINEL" Bundle.listD A U U.heap ∧ zT U
theorem zT.warm {s U : State} (hW : s.WarmedH U.vm) (h : zT s) : zT U := by
  obtain ⟨h1, h2, h3, h4, h5, h6⟩ := h
  exact ⟨h1.warmD hW, h2.warmD hW, h3.warmD hW, h4.warmC hW, h5.warmC hW, va_Nc.moved hW.alike h6⟩
theorem zT.calling {U : State} (h : zT U) (g : JFrame) (mk : MethodId) (ar : Array Value) : zT (U.calling g mk ar) := by
  obtain ⟨h1, h2, h3, h4, h5, h6⟩ := h
  exact ⟨va_Nw.same rfl (u := U) rfl h1, va_Nw.same rfl (u := U) rfl h2, va_Nw.same rfl (u := U) rfl h3, va_Nw.same rfl (u := U) rfl h4, va_Nw.same rfl (u := U) rfl h5, va_Nc.moved (u := U) (U := U.calling g mk ar) (Vm.Alike.refl U.vm) h6⟩
theorem zX.warm {A : Nat → Prop} {s U : State} (hW : s.WarmedH U.vm) (hk : ∀ q : Nat, q < s.heap.size → ¬ A q → U.heap[q]? = s.heap[q]?) (h : zX A s) : zX A U := by
  obtain ⟨h0, ⟨a, h1⟩, ⟨b, h2⟩, h3, h4, h5⟩ := h
  exact ⟨h0.warm hW hk, ⟨a, h1.warm hW⟩, ⟨b, h2.warm hW⟩, vx_Zq.moved hW.alike (h3.kept hk), vx_Zq.moved hW.alike (h4.kept hk), h5.warm hW⟩
theorem zX.calling {A : Nat → Prop} {U : State} (h : zX A U) (g : JFrame) (mk : MethodId) (ar : Array Value) : zX A (U.calling g mk ar) := by
  obtain ⟨h0, ⟨a, h1⟩, ⟨b, h2⟩, h3, h4, h5⟩ := h
  exact ⟨h0.calling g mk ar, ⟨a, vk_R.same (u := U) rfl h1⟩, ⟨b, vk_R.same (u := U) rfl h2⟩, vx_Zq.moved (u := U) (U := U.calling g mk ar) (Vm.Alike.refl U.vm) h3, vx_Zq.moved (u := U) (U := U.calling g mk ar) (Vm.Alike.refl U.vm) h4, h5.calling g mk ar⟩
theorem zX.narrow {A A1 : Nat → Prop} {U : State} (h : zX A U) (hA : ∀ q, A1 q → A q) : zX A1 U := by
  obtain ⟨h0, h1, h2, h3, h4, h5⟩ := h
  exact ⟨h0.narrow hA, h1, h2, h3.narrow hA, h4.narrow hA, h5⟩
/-! a call at any room, over any region that holds the system -/
section XC
variable {p : Program} {l : Launch} {e : Env} {R : Room} {s : State} {m : MethodId} {args : Array Value} {below : List Frame} {meth : Method} {c : Code} {H : Heap} {locs : List Loc} {cells slots : Nat} {Q : State → Prop}
variable {cc : ByteArray} {pc : Nat} {ls : Array Slot} {rest : List Value} {D : va_G} {aC : Nat → ClassId} {B n : Nat} {Y : g_Y} {mem mem' : g_M} {own : String} {Z : State → Prop} {A : Nat → Prop}
theorem x_back {mem1 : g_M} {g : JFrame} {r : Option Value} {a : Array Value} (hS : va_S A s.heap H locs) (hA : ∀ q, g_A B n q → A q) (hr : va_Run p l e R s m args below meth c H locs cells slots 0 0 g rest (g_Post D aC B Y n mem1 r a) (g_A B n))
    (kk : ∀ (H1 : Heap) (locs1 : List Loc), va_P D vwCl (g_W aC B Y n mem1) H1 → va_S A s.heap H1 locs1 → H.size ≤ H1.size → (∀ q : Nat, q < H.size → ¬ g_A B n q → H1[q]? = H[q]?) → W p l e R s m args below meth c H1 locs1 cells slots Q { g with pc := g.pc + 3, stack := r.toList ++ rest }) : W p l e R s m args below meth c H locs cells slots Q g := by
  intro T hT X
  obtain ⟨v, st₀, t, T', L, h0, X', hL, e1, e2, ⟨hv, hP, hz, hk⟩, st⟩ := hr T hT X
  cases hv
  rw [h0] at hz hk
  obtain ⟨t2, a1, b1⟩ := kk T'.heap (locs ++ L) (by rw [e1]; exact hP) ⟨Nat.le_trans hS.1 (by rw [e1]; exact hz), fun q h1 h2 => by rw [e1, hk q (Nat.lt_of_lt_of_le h1 hS.1) (fun z => h2 (hA q z))]; exact hS.2.1 q h1 h2, fun q hq => by
      rcases List.mem_append.mp hq with h | h
      · exact hS.2.2 q h
      · exact hA _ (hL q h)⟩ (by rw [e1]; exact hz) (fun q h1 h2 => by rw [e1]; exact hk q h1 h2) T' rfl X'
  exact ⟨t2, st t2 a1, b1⟩
theorem x_callV {y : MethodName} {bytes : ByteArray} {maxL nL na index lev1 ci o : Nat} {ret : Option FieldType} {r : Option Value} (As : List Value) {st0 : List Value} (E : g_C p s m args c cc own D aC Z) (hml : c.maxLocals = nL) (hls : ls.size = nL) (hP : va_P D vwCl (g_W aC B Y n mem) H) (hS : va_S A s.heap H locs) (hA : ∀ q, g_A B n q → A q) (hZ : g_Zs A s) (hw : g_CV own index ci y bytes maxL ret na)
    (hc : g_Met l y bytes maxL ret lev1 D aC B Y n mem (.ref (B + o) :: As) r mem') (ho : o < n) (hY : Y.1 o = (ci, 0)) (hfr : lev1 + 1 ≤ R.frames) (hlo : 8 + (maxL + 11) + 64 * lev1 ≤ R.locals) (hn : As.length = na) (hst : st0 = As.reverse ++ .ref (B + o) :: rest) (hW : (rest.map fun v => v.category).sum ≤ 8) (hdg : decode cc pc = .ok (.invokevirtual index, 3)) (hf : cells ≤ R.cells ∧ slots ≤ R.slots)
    (kk : ∀ (H1 : Heap) (locs1 : List Loc), va_P D vwCl (g_W aC B Y n mem') H1 → va_S A s.heap H1 locs1 → H.size ≤ H1.size → (∀ q : Nat, q < H.size → ¬ g_A B n q → H1[q]? = H[q]?) → W p l e R s m args below meth c H1 locs1 cells slots Q (F0 m (pc + 3) ls (r.toList ++ rest))) : W p l e R s m args below meth c H locs cells slots Q (F0 m pc ls st0) := by
  obtain ⟨⟨q1, q2, q3, q4, q5⟩, h2, h3, ⟨C, T, N⟩, h4, h5⟩ := hw
  obtain ⟨hx, hb, hown, hts, hK, _⟩ := E
  obtain ⟨g1, g2, g3, g4, g5⟩ := g_cl ci _ h4
  have hcell := va_recv hK hP h4 (q0 := o) (a := B + o) (fs := g_fs B Y mem o ci) (by rw [g_Wat ho, g_Eobj hY g5])
  have hB : CallB R s args own index y bytes maxL ret (.code y bytes maxL ret :: g_ws) (g_rm lev1) 0 0 na := by
    refine callB_of (Ts := g_ws) (ws' := g_ws) na hts ?_ rfl rfl rfl (hts _ q2) (hts _ q1) q4 ⟨hfr, hlo⟩
    intro w hw
    rcases List.mem_cons.mp hw with rfl | hw
    · exact ⟨q3, g_good q3⟩
    · exact ⟨hw, g_good hw⟩
  refine x_back (rest := rest) hS hA (va_runV (C := y.cls) (b := B + o) (Ts := g_ws) (nL := nL) (As := As) ⟨hx, hb, hml, hown, hts⟩ hc ⟨hB, hts _ h2, hts _ h3⟩ ⟨g_blind (fun _ h => h.calling), ?_, fun U hU hW => ⟨rfl, by rw [hU]; exact hP, va_K.moved hW.alike hK, (hZ.warm hW (fun q h1 h2 => by rw [hU]; exact hS.2.1 q h1 h2)).narrow hA⟩⟩ rfl hn hls hst (lv_room hW) hdg hf) kk
  rw [← h5]
  exact hcell
end XC
/-- a contract that returns or throws, out of a walk -/
theorem x_ofW {l : Launch} {y : MethodName} {cc : ByteArray} {maxL : Nat} {ret : Option FieldType} {lev mc ms : Nat} {D : va_G} {aC : Nat → ClassId} {B : Nat} {Y : g_Y} {n : Nat} {Z : State → Prop} {mem : g_M} {av : List Value} {Qc : Array Value → State → Outcome → State → Prop} {XC : String → State → State → Prop} (hy : plainName y.cls = true) (hlen : (lg_sl av).length ≤ maxL)
    (body : ∀ (p : Program) (e : Env) (s : State) (m : MethodId) (args : Array Value) (below : List Frame) (meth : Method) (c : Code) (ls : Array Slot), g_C p s m args c cc y.cls D aC Z → c.maxLocals = maxL → meth.sig.returnType = ret → meth.locks = false → (∀ x ∈ c.exceptionTable.toList, False) → g_At D aC B Y n mem s.heap s.heap [] → lv_has ls maxL (lv_args 0 av) →
      W p l e (n_rm lev mc ms) s m args below meth c s.heap [] 0 0 (vx_MQ below Qc XC args s mc ms (g_A B n)) (F0 m 0 ls [])) : vx_Met l y (.code y cc maxL ret :: g_ws) (n_rm lev mc ms) (g_Pre D aC B Y n Z mem av) Qc XC mc ms (g_A B n) := by
  refine vx_ofW (cc := cc) (maxL := maxL) (ret := ret) hy rfl ?_
  intro p e s m args below meth c s₁ Bd hml htab hv
  obtain ⟨rfl, hP, hK, hZ⟩ := hv
  have hts := atoms_spec (ws := Cond.code y cc maxL ret :: g_ws) Bd.pre
  rw [lg_entry_eq]
  exact body p e s m _ below meth c _ ⟨Bd.exec, Bd.bytes, findClass_of_methodNamed Bd.named, fun w hw => hts w (List.mem_cons_of_mem _ hw), hK, hZ⟩ hml Bd.returns Bd.notSynchronized htab ⟨hP, va_S.rf⟩ (lv_entry av hlen)
def x_Q (D : va_G) (aC : Nat → ClassId) (B : Nat) (k v : Int32) (mem : g_M) : Array Value → State → Outcome → State → Prop := fun a st o t => k = 0 ∧ g_Post D aC B yC 69 mem (some (.int v)) a st o t
def x_X (D : va_G) (aC : Nat → ClassId) (B : Nat) (k : Int32) (mem : g_M) : String → State → State → Prop := fun E st t => ((k = 1 ∧ E = xI) ∨ (k = 2 ∧ E = xN)) ∧ va_P D vwCl (g_W aC B yC 69 mem) t.heap ∧ va_F (g_A B 69) st t
section XM
variable {p : Program} {l : Launch} {e : Env} {s : State} {m : MethodId} {args : Array Value} {below : List Frame} {meth : Method} {c : Code} {H : Heap} {locs : List Loc} {pc : Nat} {ls : Array Slot} {D : va_G} {aC : Nat → ClassId} {B : Nat} {mem : g_M}
theorem x_iret {v : Int32} (E : g_C p s m args c cX10_man RX10 D aC (zX (g_A B 69))) (hret : meth.sig.returnType = some .int) (hlk : meth.locks = false) (hP : va_P D vwCl (g_W aC B yC 69 mem) H) (hS : va_S (g_A B 69) s.heap H locs) (hdg : decode cX10_man pc = .ok (.ireturn, 1)) : W p l e (n_rm 8 1 6) s m args below meth c H locs 0 0 (vx_MQ below (x_Q D aC B 0 v mem) (x_X D aC B 0 mem) args s 1 6 (g_A B 69)) (F0 m pc ls [.int v]) :=
  W.widen (k := 1) (n := 6) (by decide) (by decide) (vx_ret (W.iret E.1 E.2.1 hret (fun t ht hW => ⟨rfl, rfl, by rw [ht]; exact hP, hS.F ht⟩) hS.2.2 hdg hlk))
set_option maxHeartbeats 4000000 in
set_option maxRecDepth 100000 in
theorem c10_man (l : Launch) (hl0 : l.stackTraces = false) (D : va_G) (aC : Nat → ClassId) (B : Nat) {F : Nat} {a1 a2 k v : Int32} {mem : g_M} (he : f10_man F a1 a2 mem = some (k, v)) : vx_Met l yX10_man (.code yX10_man cX10_man 3 (some .int) :: g_ws) (n_rm 8 1 6) (g_Pre D aC B yC 69 (zX (g_A B 69)) mem [.ref (B + 0), .int a1, .int a2]) (x_Q D aC B k v mem) (x_X D aC B k mem) 1 6 (g_A B 69) := by
  refine x_ofW (by decide) (Nat.le_of_ble_eq_true rfl) ?_
  intro p e s m args below meth c ls E hml hret hlk htab hM hl
  have E : g_C p s m args c cX10_man RX10 D aC (zX (g_A B 69)) := E
  have hx := E.1
  have hb := E.2.1
  have hown := E.2.2.1
  have hts := E.2.2.2.1
  have hZ := E.2.2.2.2.2
  have hl : lv_has ls 3 [(0, .ref (B + 0)), (1, .int a1), (2, .int a2)] := hl
  unfold f10_man at he
  refine lv_aload_n hx hb dX10_man_0 rfl (lv_at hl 0 rfl) ?_
  refine lv_iload_n hx hb dX10_man_1 rfl (lv_at hl 1 rfl) ?_
  obtain ⟨r1, hcr1, he⟩ := g_bind he
  refine x_callV [.int a1] (rest := []) E hml hl.1 hM.1 hM.2 (fun _ h => h) hZ.1 cv_X10_119 (c10_isMan l D aC B hcr1) (o := 0) (Nat.le_of_ble_eq_true rfl) rfl (Nat.le_of_ble_eq_true rfl) (Nat.le_of_ble_eq_true rfl) rfl rfl (Nat.le_of_ble_eq_true rfl) dX10_man_2 ⟨Nat.zero_le _, Nat.zero_le _⟩ (fun H locs hP hS _ _ => ?_)
  refine W.eq (g2 := F0 m 5 ls [.int r1]) rfl ?_
  have hM : g_At D aC B yC 69 mem s.heap H locs := ⟨hP, hS⟩
  have wI : ∀ w ∈ vx_atS RX10 127 xI xns, w.before args s = true := vx_hat (fun w hw => hts w (xw_I w hw)) xb_I (vx_c (hZ.2.2.2.2.2.1.use rfl) (vx_c (hZ.2.2.2.2.2.2.1.use rfl) (vx_c (hZ.2.2.2.2.2.2.2.1.use rfl) (vx_c (hZ.2.2.2.2.2.2.2.2.1.use rfl) vx_n))))
  have wN : ∀ w ∈ yL.filter vx_no, w.before args s = true := vx_hat (fun w hw => hts w (yw_N w hw)) yb_N (vx_c (hZ.2.2.2.2.2.1.use rfl) (vx_c (hZ.2.2.2.2.2.2.1.use rfl) (vx_c (hZ.2.2.2.2.2.2.2.1.use rfl) (vx_c (hZ.2.2.2.2.2.2.2.2.2.1.use rfl) vx_n))))
  obtain ⟨sa, hsa⟩ := hZ.2.1
  obtain ⟨sb, hsb⟩ := hZ.2.2.1
  refine lv_if_ne (tgt := 18) hx hb dX10_man_5 (by decide) (fun h2 => ?_) (fun h2 => ?_)
  rotate_left
  · rw [if_pos h2] at he
    cases he
    refine W.eq (g2 := F0 m 8 ls []) rfl ?_
    exact vx_throwS (A := g_A B 69) (names := xns) (ik := 123) (is := 125) (ic := 127) (cls := xI) hx hb hl0 hown (by decide +kernel) (by decide +kernel) (hts _ (xl_I _ (List.mem_cons.mpr (Or.inl rfl)))) (hts _ (xl_I _ (List.mem_cons_of_mem _ (List.mem_cons.mpr (Or.inl rfl))))) hsa wI xg_I hZ.2.2.2.1 hZ.2.2.2.2.1 hS (hl.1.trans hml.symm) dX10_man_8 dX10_man_11 dX10_man_12 dX10_man_14 dX10_man_17 (fun x hx => (htab x hx).elim) (by decide) (by decide) (by decide) (by decide) hlk (fun t ht hz hk => ⟨Or.inl ⟨rfl, rfl⟩, hP.kept (fun k q hq => hk q.1 (hP k q hq).lt), ⟨Nat.le_trans hS.1 hz, fun q h1 h3 => by rw [hk q (Nat.lt_of_lt_of_le h1 hS.1)]; exact hS.2.1 q h1 h3⟩⟩) hS.2.2 (by decide) (by decide)
  rw [if_neg h2] at he
  refine lv_iload_n hx hb dX10_man_18 rfl (lv_at hl 2 rfl) ?_
  by_cases h3 : a2 = (0 : Int32)
  · rw [if_pos h3] at he
    refine lv_tableIn (tgt := 52) (off := 33) hx hb dX10_man_19 (by rw [h3]; decide) (by rw [h3]; decide) (by rw [h3]; rfl) (by decide) ?_
    refine lv_aload_n hx hb dX10_man_52 rfl (lv_at hl 0 rfl) ?_
    refine g_getP E hM (o := 0) (Nat.le_of_ble_eq_true rfl) rfl fl_X10_47 (q := 35) rfl dX10_man_53 ?_
    refine g_getP E hM (o := 35) (Nat.le_of_ble_eq_true rfl) rfl fl_X10_130 (q := 36) rfl dX10_man_56 ?_
    refine lv_iload_n hx hb dX10_man_59 rfl (lv_at hl 1 rfl) ?_
    obtain ⟨h4, he⟩ := g_ck_some he
    refine g_iald E hM (o := 36) (Nat.le_of_ble_eq_true rfl) rfl h4 dX10_man_60 ?_
    cases he
    exact x_iret E hret hlk hP hS dX10_man_61
  rw [if_neg h3] at he
  by_cases h4 : a2 = (1 : Int32)
  · rw [if_pos h4] at he
    refine lv_tableIn (tgt := 62) (off := 43) hx hb dX10_man_19 (by rw [h4]; decide) (by rw [h4]; decide) (by rw [h4]; rfl) (by decide) ?_
    refine lv_aload_n hx hb dX10_man_62 rfl (lv_at hl 0 rfl) ?_
    refine g_getP E hM (o := 0) (Nat.le_of_ble_eq_true rfl) rfl fl_X10_47 (q := 35) rfl dX10_man_63 ?_
    refine lv_iload_n hx hb dX10_man_66 rfl (lv_at hl 1 rfl) ?_
    refine lv_iconst (v := (1 : Int32)) hx hb dX10_man_67 rfl ?_
    obtain ⟨r2, hcr2, he⟩ := g_bind he
    refine x_callV [.int a1, .int (1 : Int32)] (rest := []) E hml hl.1 hP hS (fun _ h => h) hZ.1 cv_X10_133 (c7_sortsAt l D aC B (Nat.le_of_ble_eq_true rfl) rfl hcr2) (o := 35) (Nat.le_of_ble_eq_true rfl) rfl (Nat.le_of_ble_eq_true rfl) (Nat.le_of_ble_eq_true rfl) rfl rfl (Nat.le_of_ble_eq_true rfl) dX10_man_68 ⟨Nat.zero_le _, Nat.zero_le _⟩ (fun H locs hP hS _ _ => ?_)
    refine W.eq (g2 := F0 m 71 ls [.int r2]) rfl ?_
    cases he
    exact x_iret E hret hlk hP hS dX10_man_71
  rw [if_neg h4] at he
  by_cases h5 : a2 = (2 : Int32)
  · rw [if_pos h5] at he
    refine lv_tableIn (tgt := 72) (off := 53) hx hb dX10_man_19 (by rw [h5]; decide) (by rw [h5]; decide) (by rw [h5]; rfl) (by decide) ?_
    refine lv_aload_n hx hb dX10_man_72 rfl (lv_at hl 0 rfl) ?_
    refine g_getP E hM (o := 0) (Nat.le_of_ble_eq_true rfl) rfl fl_X10_47 (q := 35) rfl dX10_man_73 ?_
    refine lv_iload_n hx hb dX10_man_76 rfl (lv_at hl 1 rfl) ?_
    obtain ⟨r2, hcr2, he⟩ := g_bind he
    refine x_callV [.int a1] (rest := []) E hml hl.1 hP hS (fun _ h => h) hZ.1 cv_X10_136 (c7_ownSorts l D aC B (Nat.le_of_ble_eq_true rfl) rfl hcr2) (o := 35) (Nat.le_of_ble_eq_true rfl) rfl (Nat.le_of_ble_eq_true rfl) (Nat.le_of_ble_eq_true rfl) rfl rfl (Nat.le_of_ble_eq_true rfl) dX10_man_77 ⟨Nat.zero_le _, Nat.zero_le _⟩ (fun H locs hP hS _ _ => ?_)
    refine W.eq (g2 := F0 m 80 ls [.int r2]) rfl ?_
    cases he
    exact x_iret E hret hlk hP hS dX10_man_80
  rw [if_neg h5] at he
  by_cases h6 : a2 = (3 : Int32)
  · rw [if_pos h6] at he
    refine lv_tableIn (tgt := 81) (off := 62) hx hb dX10_man_19 (by rw [h6]; decide) (by rw [h6]; decide) (by rw [h6]; rfl) (by decide) ?_
    refine lv_aload_n hx hb dX10_man_81 rfl (lv_at hl 0 rfl) ?_
    refine g_getP E hM (o := 0) (Nat.le_of_ble_eq_true rfl) rfl fl_X10_47 (q := 35) rfl dX10_man_82 ?_
    refine lv_iload_n hx hb dX10_man_85 rfl (lv_at hl 1 rfl) ?_
    refine lv_iconst (v := (1 : Int32)) hx hb dX10_man_86 rfl ?_
    obtain ⟨r2, hcr2, he⟩ := g_bind he
    refine x_callV [.int a1, .int (1 : Int32)] (rest := []) E hml hl.1 hP hS (fun _ h => h) hZ.1 cv_X10_140 (c7_wantsOf l D aC B (Nat.le_of_ble_eq_true rfl) rfl hcr2) (o := 35) (Nat.le_of_ble_eq_true rfl) rfl (Nat.le_of_ble_eq_true rfl) (Nat.le_of_ble_eq_true rfl) rfl rfl (Nat.le_of_ble_eq_true rfl) dX10_man_87 ⟨Nat.zero_le _, Nat.zero_le _⟩ (fun H locs hP hS _ _ => ?_)
    refine W.eq (g2 := F0 m 90 ls [.int r2]) rfl ?_
    cases he
    exact x_iret E hret hlk hP hS dX10_man_90
  rw [if_neg h6] at he
  by_cases h7 : a2 = (4 : Int32)
  · rw [if_pos h7] at he
    refine lv_tableIn (tgt := 91) (off := 72) hx hb dX10_man_19 (by rw [h7]; decide) (by rw [h7]; decide) (by rw [h7]; rfl) (by decide) ?_
    refine lv_aload_n hx hb dX10_man_91 rfl (lv_at hl 0 rfl) ?_
    refine g_getP E hM (o := 0) (Nat.le_of_ble_eq_true rfl) rfl fl_X10_47 (q := 35) rfl dX10_man_92 ?_
    refine lv_iload_n hx hb dX10_man_95 rfl (lv_at hl 1 rfl) ?_
    refine lv_iconst (v := (2 : Int32)) hx hb dX10_man_96 rfl ?_
    obtain ⟨r2, hcr2, he⟩ := g_bind he
    refine x_callV [.int a1, .int (2 : Int32)] (rest := []) E hml hl.1 hP hS (fun _ h => h) hZ.1 cv_X10_140 (c7_wantsOf l D aC B (Nat.le_of_ble_eq_true rfl) rfl hcr2) (o := 35) (Nat.le_of_ble_eq_true rfl) rfl (Nat.le_of_ble_eq_true rfl) (Nat.le_of_ble_eq_true rfl) rfl rfl (Nat.le_of_ble_eq_true rfl) dX10_man_97 ⟨Nat.zero_le _, Nat.zero_le _⟩ (fun H locs hP hS _ _ => ?_)
    refine W.eq (g2 := F0 m 100 ls [.int r2]) rfl ?_
    cases he
    exact x_iret E hret hlk hP hS dX10_man_100
  rw [if_neg h7] at he
  cases he
  refine lv_tableOut (tgt := 101) hx hb dX10_man_19 (by have zh3 := lv_neT (a := 0) h3 rfl; have zh4 := lv_neT (a := 1) h4 rfl; have zh5 := lv_neT (a := 2) h5 rfl; have zh6 := lv_neT (a := 3) h6 rfl; have zh7 := lv_neT (a := 4) h7 rfl; omega) (by decide) ?_
  exact y_throw (A := g_A B 69) (is := 145) hx hb hl0 hown (hts _ (xl_I _ (List.mem_cons_of_mem _ (List.mem_cons_of_mem _ (List.mem_cons.mpr (Or.inl rfl)))))) (hts _ (xl_I _ (List.mem_cons_of_mem _ (List.mem_cons_of_mem _ (List.mem_cons_of_mem _ (List.mem_cons.mpr (Or.inl rfl))))))) hsb wN yg_N hZ.2.2.2.1 hZ.2.2.2.2.1 hS (hl.1.trans hml.symm) dX10_man_101 dX10_man_104 dX10_man_105 dX10_man_107 dX10_man_110 (fun x hx => (htab x hx).elim) (by decide) (by decide) (by decide) (by decide) hlk (fun t ht hz hk => ⟨Or.inr ⟨rfl, rfl⟩, hP.kept (fun k q hq => hk q.1 (hP k q hq).lt), ⟨Nat.le_trans hS.1 hz, fun q h1 h3 => by rw [hk q (Nat.lt_of_lt_of_le h1 hS.1)]; exact hS.2.1 q h1 h3⟩⟩) hS.2.2 (by decide) (by decide)
end XM
