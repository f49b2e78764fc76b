/-! the law's start: what the statement gives of it -/
theorem h_Str {args : Array Value} {s : State} {A : Nat → Prop} {own : String} {k : Nat} (hA : ∀ a : Nat, a < s.heap.size → ¬ A a) (h1 : (Cond.stringRef own k g_wtx).before args s = true) (hex : (Cond.exactly (.string own k) "java/lang/String").before args s = true) (hco : (Cond.eq (.field (.string own k) "java/lang/String" "coder" "B") (.int 0)).before args s = true)
    (har : (Cond.arrayOf (.field (.string own k) "java/lang/String" "value" "[B") .byte).before args s = true) (hle : (Cond.eq (.length (.field (.string own k) "java/lang/String" "value" "[B")) (.int (Int32.ofNat 107))).before args s = true)
    (hel : ∀ j : Nat, j < 107 → (Cond.eq (.elem (.field (.string own k) "java/lang/String" "value" "[B") (.int (Int32.ofNat j))) (.int (g_wby.getD j 0))).before args s = true)
    (hZ : va_Z "java/lang/String" "COMPACT_STRINGS" "Z" (.int 1) A s s.heap) (hQ : va_Zq "jdk/internal/util/Preconditions" "SIOOBE_FORMATTER" "Ljava/util/function/BiFunction;" A s s.heap) : g_Str own k A s := by
  obtain ⟨a, c, cA, kA, q1, q2, q3, q4, q5, q6, -⟩ := Cond.exactly_spec (args := args) (first := s) (o := none) (s := s) (idx := []) (t := .string own k) (cls := "java/lang/String") hex
  obtain ⟨t, ht, hT⟩ := va_Tof (f := fun j => .int (g_wby.getD j 0)) (A := A) (N := 107) (by decide) har (va_eqt hle) (fun j hj => va_eqt (hel j hj)) hA
  exact ⟨a, t, vk_R.of h1 q1, va_Oof hex q1 hA, vk_OFof q1 (va_eqt hco) hA, vk_OFof q1 ht hA, hT, hZ, hQ⟩
theorem h_R {args : Array Value} {s : State} {own tx : String} {k : Nat} (h1 : (Cond.stringRef own k tx).before args s = true) (hex : (Cond.exactly (.string own k) "java/lang/String").before args s = true) : ∃ a, vk_R own k tx a s := by
  obtain ⟨a, c, cA, kA, q1, -⟩ := Cond.exactly_spec (args := args) (first := s) (o := none) (s := s) (idx := []) (t := .string own k) (cls := "java/lang/String") hex
  exact ⟨a, vk_R.of h1 q1⟩
theorem h_in {L : List Cond} {w : Cond} (i : Nat) (h : L[i]? = some w) : w ∈ L := List.mem_of_getElem? h
theorem h_t {w : Cond} (i : Nat) (h : tables_1[i]? = some w) : w ∈ lw_tbl := List.mem_append.mpr (Or.inr (List.mem_of_getElem? h))
section HZ
variable {s : State} {b : Nat}
theorem h_X (hts : ∀ w ∈ lw_tbl, w.before #[Value.ref b] s = true) (hs : ∀ w ∈ hLs, w.before #[Value.ref b] s = true) : zX (n_A s.heap.size) s := by
  have hA : ∀ a : Nat, a < s.heap.size → ¬ n_A s.heap.size a := fun a h z => absurd z (Nat.not_le.mpr h)
  have ho := fun w hw => hs w (hm_o w hw)
  have hZ : va_Z "java/lang/String" "COMPACT_STRINGS" "Z" (.int 1) (n_A s.heap.size) s s.heap := va_Zof (hts _ (h_t 170 (by decide +kernel))) (hts _ (h_t 6 (by decide +kernel))) (va_eqt (ho _ (h_in 10 rfl))) hA
  have hQ : va_Zq "jdk/internal/util/Preconditions" "SIOOBE_FORMATTER" "Ljava/util/function/BiFunction;" (n_A s.heap.size) s s.heap := va_Zqof (hts _ (h_t 186 (by decide +kernel))) (hts _ (h_t 8 (by decide +kernel))) (ho _ (h_in 11 rfl)) hA
  refine ⟨⟨h_Str hA (hts _ (h_t 1553 (by decide +kernel))) (ho _ (h_in 4 rfl)) (ho _ (h_in 5 rfl)) (ho _ (h_in 6 rfl)) (ho _ (h_in 7 rfl)) (fun j hj => hs _ (hm_11 j hj)) hZ hQ, h_Str hA (hts _ (h_t 160 (by decide +kernel))) (ho _ (h_in 0 rfl)) (ho _ (h_in 1 rfl)) (ho _ (h_in 2 rfl)) (ho _ (h_in 3 rfl)) (fun j hj => hs _ (hm_8 j hj)) hZ hQ⟩, h_R (hts _ (h_t 1242 (by decide +kernel))) (ho _ (h_in 8 rfl)), h_R (hts _ (h_t 1284 (by decide +kernel))) (ho _ (h_in 9 rfl)), vx_Zqof (hts _ (h_t 1229 (by decide +kernel))) (hts _ (h_t 19 (by decide +kernel))) (ho _ (h_in 12 rfl)) hA, vx_Zqof (hts _ (h_t 1231 (by decide +kernel))) (hts _ (h_t 19 (by decide +kernel))) (ho _ (h_in 13 rfl)) hA, va_Nw.of rfl (hts _ (h_t 1206 (by decide +kernel))), va_Nw.of rfl (hts _ (h_t 1208 (by decide +kernel))), va_Nw.of rfl (hts _ (h_t 1210 (by decide +kernel))), va_Nw.of rfl (hts _ (h_t 1204 (by decide +kernel))), va_Nw.of rfl (hts _ (h_t 1277 (by decide +kernel))), va_Nc.of (ho _ (h_in 14 rfl))⟩
theorem h_N (hts : ∀ w ∈ lw_tbl, w.before #[Value.ref b] s = true) (h : zX (n_A s.heap.size) s) : zN s.heap.size s :=
  ⟨h.1, va_Nw.of rfl (hts _ (h_t 35 (by decide +kernel))), va_Nw.of rfl (hts _ (h_t 41 (by decide +kernel))), va_Nw.of rfl (hts _ (h_t 391 (by decide +kernel))), va_Nw.of rfl (hts _ (h_t 416 (by decide +kernel))), va_Nw.of rfl (hts _ (h_t 449 (by decide +kernel)))⟩
theorem zN.narrow {B B1 : Nat} {U : State} (h : zN B U) (hB : B ≤ B1) : zN B1 U := ⟨h.1.narrow (fun q z => Nat.le_trans hB z), h.2⟩
theorem h_arr {ty : FieldType} (h : (Cond.arrayClass ty).before #[Value.ref b] s = true) : ∃ cA : ClassId, ArrOfT s cA ty ∧ s.vm.findClass ("[" ++ ty.toString) = some cA := by
  obtain ⟨cA, kA, comp, h1, h2, h3⟩ := Cond.arrayClass_spec (args := #[Value.ref b]) (first := s) (o := none) (s := s) (idx := []) h
  exact ⟨cA, fun n z => ⟨fun k h => (by cases h), kA, h2, comp, h3⟩, h1⟩
theorem h_K (hts : ∀ w ∈ g_ws, w.before #[Value.ref b] s = true) : ∃ (D : va_G) (aC : Nat → ClassId), va_K D vwCl (g_tys aC) s := by
  have h0 : ∀ ci : Nat, ∃ d : ClassId × (Nat → Nat), ∀ q : vw_C, vwCl[ci]? = some q → u_Kn s q.1 q.2.1 q.2.2 d.1 d.2 := by
    have key : ∀ (ci : Nat) (q : vw_C), vwCl[ci]? = some q → (∃ n, Cond.instantiable q.1 n ∈ g_ws) → ∃ d : ClassId × (Nat → Nat), ∀ q' : vw_C, vwCl[ci]? = some q' → u_Kn s q'.1 q'.2.1 q'.2.2 d.1 d.2 := by
      intro ci q hq hn
      obtain ⟨n, hn⟩ := hn
      obtain ⟨cC, iS, hKn⟩ := u_known (C := q.1) (T := q.2.1) (N := q.2.2) (n := n) hts (g_cl ci q hq).1 (hts _ hn)
      refine ⟨(cC, iS), fun q' hq' => ?_⟩
      rw [hq] at hq'
      cases hq'
      exact hKn
    intro ci
    match ci with
    | 0 => exact key 0 _ rfl ⟨9, g_mem 352 (by decide +kernel) (by decide +kernel)⟩
    | 1 => exact key 1 _ rfl ⟨7, g_mem 237 (by decide +kernel) (by decide +kernel)⟩
    | 2 => exact key 2 _ rfl ⟨5, g_mem 40 (by decide +kernel) (by decide +kernel)⟩
    | 3 => exact key 3 _ rfl ⟨2, g_mem 448 (by decide +kernel) (by decide +kernel)⟩
    | 4 => exact key 4 _ rfl ⟨5, g_mem 390 (by decide +kernel) (by decide +kernel)⟩
    | 5 => exact key 5 _ rfl ⟨9, g_mem 149 (by decide +kernel) (by decide +kernel)⟩
    | 6 => exact key 6 _ rfl ⟨8, g_mem 415 (by decide +kernel) (by decide +kernel)⟩
    | 7 => exact key 7 _ rfl ⟨10, g_mem 296 (by decide +kernel) (by decide +kernel)⟩
    | 8 => exact key 8 _ rfl ⟨7, g_mem 155 (by decide +kernel) (by decide +kernel)⟩
    | 9 => exact key 9 _ rfl ⟨14, g_mem 34 (by decide +kernel) (by decide +kernel)⟩
    | 10 => exact key 10 _ rfl ⟨16, g_mem 26 (by decide +kernel) (by decide +kernel)⟩
    | 11 => exact key 11 _ rfl ⟨72, g_mem 1292 (by decide +kernel) (by decide +kernel)⟩
    | k + 12 => exact ⟨(default, fun _ => 0), fun q hq => by simp [vwCl] at hq⟩
  obtain ⟨d, hd⟩ := Classical.axiomOfChoice h0
  obtain ⟨c0, p0, q0⟩ := h_arr (ty := .int) (hts _ (g_mem 67 (by decide +kernel) (by decide +kernel)))
  obtain ⟨c1, p1, q1⟩ := h_arr (ty := .long) (hts _ (g_mem 68 (by decide +kernel) (by decide +kernel)))
  obtain ⟨c2, p2, q2⟩ := h_arr (ty := .boolean) (hts _ (g_mem 388 (by decide +kernel) (by decide +kernel)))
  obtain ⟨c3, p3, q3⟩ := h_arr (ty := .byte) (hts _ (g_mem 66 (by decide +kernel) (by decide +kernel)))
  refine ⟨(fun k => (d k).1, fun k => (d k).2), fun k => if k = 0 then c0 else if k = 1 then c1 else if k = 2 then c2 else c3, fun c q hq => hd c q hq, fun k q hk => ?_⟩
  match k, hk with
  | 0, hk => cases hk; exact ⟨p0, q0⟩
  | 1, hk => cases hk; exact ⟨p1, q1⟩
  | 2, hk => cases hk; exact ⟨p2, q2⟩
  | 3, hk => cases hk; exact ⟨p3, q3⟩
  | k + 4, hk => simp [g_tys] at hk
end HZ
section HN
variable {p : Program} {l : Launch} {e : Env} {R : Room} {s : State} {m : MethodId} {args : Array Value} {below : List Frame} {meth : Method} {c : Code} {H : Heap} {locs : List Loc} {cells slots : Nat} {Q : State → Prop}
variable {cc : ByteArray} {pc : Nat} {ls : Array Slot} {rest : List Value} {D : va_G} {aC : Nat → ClassId} {B : Nat} {Y : g_Y} {own : String} {Z : State → Prop} {A : Nat → Prop}
/-- the heap's size, where no more cells were made than counted -/
theorem h_size {g : JFrame} (kk : H.size ≤ s.heap.size + cells → W p l e R s m args below meth c H locs cells slots Q g) : W p l e R s m args below meth c H locs cells slots Q g := by
  intro T hT X
  exact kk (by rw [← hT]; exact X.heapSize) T hT X
/-- a system's first object -/
theorem h_new (E : g_C p s m args c cc own D aC Z) (hB : H.size = B) {ci index N : Nat} {C : String} {T : u_T} (hY : Y.1 0 = (ci, 0)) (hc : vwCl[ci]? = some (C, T, N)) (hcl : Cond.classLink own index C ∈ g_ws) (hinst : Cond.instantiable C N ∈ g_ws) (hini : Cond.initialized C ∈ g_ws) (hp : ∀ k, Y.2 0 k = none)
    (hcells : cells + 1 ≤ R.cells) (hslots : slots + N ≤ R.slots) (hdg : decode cc pc = .ok (.new index, 3))
    (kk : ∀ H1 : Heap, va_P D vwCl (g_W aC B Y 1 n_mem0) H1 → H1.size = B + 1 → (∀ q : Nat, q < B → H1[q]? = H[q]?) → W p l e R s m args below meth c H1 locs (cells + 1) (slots + N) Q (F0 m (pc + 3) ls (.ref (B + 0) :: rest))) : W p l e R s m args below meth c H locs cells slots Q (F0 m pc ls rest) := by
  obtain ⟨hx, hb, hown, hts, hK, hZ⟩ := E
  obtain ⟨g1, g2, g3, g4, g5⟩ := g_cl ci _ hc
  have hKn := hK.1 ci _ hc
  refine W.newcK hx hb hown (hts _ hcl) (hts _ hinst) (hts _ hini) rfl hdg hcells hslots hKn.2.1 hB fun H1 kC hkC e1 z1 o1 => ?_
  refine kk H1 ?_ z1 o1
  intro k x hx
  have hk := g_Wlt hx
  have h0 : k = 0 := by omega
  subst h0
  rw [g_Wat (by decide)] at hx
  cases hx
  rw [g_Eobj hY g5]
  refine ⟨_, hc, (u_born (g_ty ci) hts g1 hKn hkC e1 g2).to (fun j hj => ?_)⟩
  have hj' : j < g_nf ci := by rw [g4]; exact hj
  show defaultValue (g_ty ci j) = vp_V (g_fs B Y n_mem0 0 ci) j
  unfold vp_V
  rw [List.getD_eq_getElem?_getD, g_fs_get hj']
  show _ = g_fv B Y n_mem0 0 ci j
  unfold g_fv g_rf g_pt
  rw [hp j]
  have hty : g_ty ci j = .int ∨ g_ty ci j = .boolean ∨ g_isR (g_ty ci j) = true := g_simple ci g5 j hj'
  rcases hty with h | h | h
  · rw [h]; rfl
  · rw [h]; rfl
  · rw [if_pos h]
    cases ht : g_ty ci j <;> rw [ht] at h <;> first | rfl | (cases h)
theorem h_Fr {n : Nat} : n_Fr n n_mem0 := fun _ _ => ⟨fun _ => rfl, fun _ => rfl, fun _ => rfl⟩
/-- a constructor's call -/
theorem h_callI {y : MethodName} {bytes : ByteArray} {maxL nL na index lev1 mc ms b : Nat} {mem : g_M} {W1 : va_W} {Qc : Array Value → State → Outcome → State → Prop} {st0 : List Value} (E : g_C p s m args c cc own D aC Z) (hml : c.maxLocals = nL) (hls : ls.size = nL) (hS : va_S A s.heap H locs) (hA : ∀ q, n_A B q → A q) (hP : va_P D vwCl (g_W aC B Y 1 mem) H) (hsz : H.size = B + 1) (hF : n_Fr 1 mem) (hw : g_CB own index y bytes maxL none na ∧ y.name = "<init>" ∧ Cond.instanceMethod y ∈ g_ws)
    (hc : Met l y (.code y bytes maxL none :: g_ws) (n_rm lev1 mc ms) (n_Pre D aC B Y 1 (zN B) mem [.ref b]) Qc mc ms (n_A B)) (hQ : ∀ a st o t, Qc a st o t → o = .returned none ∧ va_P D vwCl W1 t.heap ∧ va_F (n_A B) st t) (hZ1 : ∀ U : State, U.heap = H → s.WarmedH U.vm → zN B U) (hfr : lev1 + 1 ≤ R.frames) (hlo : 8 + (maxL + 11) + 64 * lev1 ≤ R.locals) (hn : 0 = na) (hst : st0 = .ref b :: rest) (hW : (rest.map fun v => v.category).sum ≤ 8) (hdg : decode cc pc = .ok (.invokespecial index, 3)) (hf : cells + mc ≤ R.cells ∧ slots + ms ≤ R.slots)
    (kk : ∀ (H1 : Heap) (locs1 : List Loc), va_P D vwCl W1 H1 → va_S A s.heap H1 locs1 → H.size ≤ H1.size → (∀ q : Nat, q < H.size → ¬ n_A B q → H1[q]? = H[q]?) → W p l e R s m args below meth c H1 locs1 (cells + mc) (slots + ms) Q (F0 m (pc + 3) ls rest)) : W p l e R s m args below meth c H locs cells slots Q (F0 m pc ls st0) := by
  obtain ⟨⟨q1, q2, q3, q4, q5⟩, hy, hi⟩ := hw
  obtain ⟨hx, hb, hown, hts, hK, hZ⟩ := E
  have hB : CallB R s args own index y bytes maxL none (.code y bytes maxL none :: g_ws) (n_rm lev1 mc ms) mc ms na := by
    refine callB_of (Ts := g_ws) (ws' := g_ws) na hts ?_ rfl rfl rfl (hts _ q2) (hts _ q1) q4 ⟨hfr, hlo⟩
    intro w hw
    rcases List.mem_cons.mp hw with rfl | hw
    · exact ⟨q3, g_good q3⟩
    · exact ⟨hw, g_good hw⟩
  have hrun := va_runI (p := p) (l := l) (e := e) (R := R) (below := below) (meth := meth) (H := H) (locs := locs) (cells := cells) (slots := slots) (g := F0 m pc ls st0) (rest := rest) (b := b) (Ts := g_ws) (nL := nL) (As := []) ⟨hx, hb, hml, hown, hts⟩ hc ⟨hB, hy, hts _ hi⟩ ⟨n_blind (fun _ h => h.calling), fun U hU hW => ⟨rfl, by rw [hU]; exact hP, by rw [hU]; exact hsz, hF, va_K.moved hW.alike hK, hZ1 U hU hW⟩⟩ rfl hn hls hst (lv_room hW) hdg hf
  intro T hT X
  obtain ⟨v, st₀, t, T', Lc, h0, X', hL, e1, e2, hq, st⟩ := hrun T hT X
  obtain ⟨hv, hP1, hz, hk⟩ := hQ _ _ _ _ hq
  cases hv
  rw [h0] at hz hk
  obtain ⟨t2, a1, b1⟩ := kk T'.heap (locs ++ Lc) (by rw [e1]; exact hP1) ⟨Nat.le_trans hS.1 (by rw [e1]; exact hz), fun q h1 h2 => by rw [e1, hk q (Nat.lt_of_lt_of_le h1 hS.1) (fun z => h2 (hA q z))]; exact hS.2.1 q h1 h2, fun q hq => by
      rcases List.mem_append.mp hq with h | h
      · exact hS.2.2 q h
      · exact hA _ (hL q h)⟩ (by rw [e1]; exact hz) (fun q h1 h2 => by rw [e1]; exact hk q h1 h2) T' rfl X'
  exact ⟨t2, st t2 a1, b1⟩
end HN
theorem wl_8 : Cond.classLink RL 8 RX10 ∈ g_ws ∧ Cond.instantiable RX10 16 ∈ g_ws ∧ Cond.initialized RX10 ∈ g_ws := ⟨g_mem 25 (by decide +kernel) (by decide +kernel), g_mem 26 (by decide +kernel) (by decide +kernel), g_mem 1 (by decide +kernel) (by decide +kernel)⟩
theorem wl_18 : Cond.classLink RL 18 RX11 ∈ g_ws ∧ Cond.instantiable RX11 72 ∈ g_ws ∧ Cond.initialized RX11 ∈ g_ws := ⟨g_mem 1291 (by decide +kernel) (by decide +kernel), g_mem 1292 (by decide +kernel) (by decide +kernel), g_mem 16 (by decide +kernel) (by decide +kernel)⟩
theorem wi_17 : g_CB RL 17 yX10_init cX10_init 1 none 0 ∧ yX10_init.name = "<init>" ∧ Cond.instanceMethod yX10_init ∈ g_ws := ⟨⟨g_mem 27 (by decide +kernel) (by decide +kernel), g_mem 1 (by decide +kernel) (by decide +kernel), g_mem 29 (by decide +kernel) (by decide +kernel), by decide +kernel, by decide⟩, rfl, g_mem 28 (by decide +kernel) (by decide +kernel)⟩
theorem wi_20 : g_CB RL 20 yX11_init cX11_init 1 none 0 ∧ yX11_init.name = "<init>" ∧ Cond.instanceMethod yX11_init ∈ g_ws := ⟨⟨g_mem 1293 (by decide +kernel) (by decide +kernel), g_mem 16 (by decide +kernel) (by decide +kernel), g_mem 1295 (by decide +kernel) (by decide +kernel), by decide +kernel, by decide⟩, rfl, g_mem 1294 (by decide +kernel) (by decide +kernel)⟩
def R_law : String := "PartsFerryLaw"
def lw_P (b : Addr) (xs : List Int32) (args : Array Value) (s : State) : Prop := args = #[.ref b] ∧ s.IntsAt b xs ∧ xs.length ≤ 3072 ∧ (Jvm.Cond.and given_1 narrow_1).before args s = true
def lw_Q (_ : Array Value) (s : State) (o : Outcome) (t : State) : Prop := o = .returned (some (.int 1)) ∧ Framed s o t [] 601024 7293034
def lw_Z (below : List Frame) (a : Array Value) (s : State) : State → Prop := fun t => ∃ o, t.status = .running ∧ Ended t below o ∧ lw_Q a s o t
/-- the law's own end, with 1 on the stack, nothing written that was there before, its room as the claim has it -/
theorem lw_ret {p : Program} {l : Launch} {e : Env} {s : State} {m : MethodId} {below : List Frame} {meth : Method} {c : Code} {b : Nat} (hx : p.tables.exec = Jvm.exec) (hb : c.code = code) (hr : meth.sig.returnType = ret) (hlocks : meth.locks = false) {pc : Nat} {H : Heap} {ls : Array Slot} (hdg : decode code pc = .ok (.ireturn, 1)) : W p l e room_1 s m #[Value.ref b] below meth c H [] 601024 7293034 (lw_Z below #[Value.ref b] s) (F0 m pc ls [.int 1]) := by
  intro T hT X
  obtain ⟨fs, hret, hrun, hended, hW, hframe⟩ := X.leave (v := some (.int 1)) (hlocks := hlocks) (fun h => by rw [hr] at h; cases h)
  have hmeth' : T.vm.method? m = some meth := X.method'
  refine ⟨T.setFrames fs, ?_, .returned (some (.int 1)), hrun, hended, rfl, ⟨_, rfl⟩, hW, hframe⟩
  jvm_step X.here [X.here.top, hx, hb, hdg, hmeth', hr, ret, narrow_b1]
  (try refine ⟨rfl, ?_⟩); (try refine ⟨rfl, ?_⟩)
  first | (intro acts; rw [hret _ acts rfl rfl rfl]) | rw [hret _ _ rfl rfl rfl]
  exact Steps.refl _
/-- what holds at the law's entry: the machine, the code, the tables' words (any of lw_tbl by 'hts w (by decide +kernel)'), the script of L ints xs at the cell b, what the Statement gives of the start (any of its parts by flat_of_before) -/
def lw_At (p : Program) (s : State) (m : MethodId) (meth : Method) (c : Code) (b L : Nat) (xs : Nat → Int32) : Prop :=
  p.tables.exec = Jvm.exec ∧ c.code = code ∧ meth.sig.returnType = ret ∧ c.maxLocals = 7 ∧ s.vm.findClass R_law = some m.cls ∧ (∀ w ∈ lw_tbl, w.before #[Value.ref b] s = true) ∧ va_X b L xs s s.heap ∧ b < s.heap.size ∧ meth.locks = false ∧ (Jvm.Cond.and given_1 narrow_1).before #[Value.ref b] s = true
set_option maxHeartbeats 4000000 in
set_option maxRecDepth 100000 in
theorem whole_start {p : Program} {e : Env} {s : State} {m : MethodId} {below : List Frame} {meth : Method} {c : Code} (l : Launch) (hflags : l.flags = flags0) {b L : Nat} {xs : Nat → Int32} (hL : L ≤ 3072) (C0 : lw_At p s m meth c b L xs) : W p l e room_1 s m #[Value.ref b] below meth c s.heap [] 0 0 (lw_Z below #[Value.ref b] s) (entryFrame m ([Value.ref b] : List Value).toArray 7) := by
  obtain ⟨hx, hb, hr, hml, hown, hts, hX, hbl, hlocks, hgv⟩ := id C0
  have hs := flat_of_before _ hgv
  have htg : ∀ w ∈ g_ws, w.before #[Value.ref b] s = true := fun w hw => hts w (List.mem_filter.mp hw).1
  have hl0 : l.stackTraces = false := by unfold Launch.stackTraces; rw [hflags]; decide +kernel
  obtain ⟨D, aC, hK⟩ := h_K htg
  have hzX : zX (n_A s.heap.size) s := h_X hts hs
  have hzN : zN s.heap.size s := h_N hts hzX
  have hE : g_C p s m #[Value.ref b] c cL_law RL D aC (zX (n_A s.heap.size)) := ⟨hx, hb, hown, htg, hK, hzX⟩
  have E : w_E p s m c D aC b L xs := ⟨hE, hml, hX, hbl, hL⟩
  obtain ⟨m0, hm0, hI⟩ := i_start
  have hl := lv_entry ([.ref b]) (n := 7) (Nat.le_of_ble_eq_true rfl)
  rw [lg_entry_eq]
  generalize (lg_sl ([.ref b]) ++ List.replicate (7 - (lg_sl ([.ref b])).length) Slot.unset).toArray = ls at hl ⊢
  have hl : lv_has ls 7 [(0, .ref b)] := hl
  have hS0 : va_S (n_A s.heap.size) s.heap s.heap [] := va_S.rf
  refine h_new (Y := yC0) (ci := 10) hE rfl rfl rfl wl_8.1 wl_8.2.1 wl_8.2.2 (fun _ => rfl) (Nat.le_of_ble_eq_true rfl) (Nat.le_of_ble_eq_true rfl) dL_law_0 (fun H hP hz ho => ?_)
  have hS : va_S (n_A s.heap.size) s.heap H [] := ⟨by omega, fun q h1 h2 => ho q h1, fun _ h => by cases h⟩
  refine W.eq (g2 := F0 m 3 ls [.ref (s.heap.size + 0)]) rfl ?_
  refine lv_dup hx hb dL_law_3 rfl ?_
  refine h_callI (rest := [.ref (s.heap.size + 0)]) hE hml hl.1 hS (fun q z => z) hP hz h_Fr wi_17 (c10_init_0 l D aC s.heap.size oC_eq) (fun a st o t h => ⟨h.1, h.2.1, h.2.2.2⟩) (fun U hU hW => hzN.warm hW (fun q h1 h2 => by rw [hU]; exact hS.2.1 q h1 h2)) (Nat.le_of_ble_eq_true rfl) (Nat.le_of_ble_eq_true rfl) rfl rfl (Nat.le_of_ble_eq_true rfl) dL_law_4 ⟨Nat.le_of_ble_eq_true rfl, Nat.le_of_ble_eq_true rfl⟩ (fun H locs hPc hS hz1 hk1 => ?_)
  rw [nC1_W] at hPc
  refine W.eq (g2 := F0 m 7 ls [.ref (s.heap.size + 0)]) rfl ?_
  refine lv_astore_n (lv' := [(1, .ref (s.heap.size + 0)), (0, .ref b)]) hx hb dL_law_7 rfl hl (by decide) rfl (fun ls hl => ?_)
  refine h_size (fun hle => ?_)
  have hge : s.heap.size + 69 ≤ H.size := by
    have h1 := (hPc 68 _ (g_Wat (by decide))).lt
    simp only at h1
    omega
  have hle2 : H.size ≤ s.heap.size + 69 := hle
  have hsz : H.size = s.heap.size + 69 := by omega
  refine h_new (Y := yM0) (ci := 11) (B := s.heap.size + 69) hE hsz rfl rfl wl_18.1 wl_18.2.1 wl_18.2.2 (fun _ => rfl) (Nat.le_of_ble_eq_true rfl) (Nat.le_of_ble_eq_true rfl) dL_law_8 (fun H2 hP2 hz2 ho2 => ?_)
  have hS2 : va_S (n_A s.heap.size) s.heap H2 locs := ⟨by omega, fun q h1 h2 => (ho2 q (by omega)).trans (hS.2.1 q h1 h2), hS.2.2⟩
  have hPc2 : va_P D vwCl (g_W aC s.heap.size yC 69 nC1) H2 := hPc.kept (fun k q hq => ho2 q.1 (by have := g_Wlt hq; omega))
  refine W.eq (g2 := F0 m 11 ls [.ref (s.heap.size + 69 + 0)]) rfl ?_
  refine lv_dup hx hb dL_law_11 rfl ?_
  refine h_callI (W1 := g_W aC (s.heap.size + 69) yM 44 m0) (rest := [.ref (s.heap.size + 69 + 0)]) hE hml hl.1 hS2 (fun q z => by have : s.heap.size + 69 ≤ q := z; show s.heap.size ≤ q; omega) hP2 hz2 h_Fr wi_20 (c11_init_0 l D aC (s.heap.size + 69) hm0) (fun a st o t h => ⟨h.1, h.2.1, h.2.2⟩) (fun U hU hW => (hzN.warm hW (fun q h1 h2 => by rw [hU]; exact hS2.2.1 q h1 h2)).narrow (by omega)) (Nat.le_of_ble_eq_true rfl) (Nat.le_of_ble_eq_true rfl) rfl rfl (Nat.le_of_ble_eq_true rfl) dL_law_12 ⟨Nat.le_of_ble_eq_true rfl, Nat.le_of_ble_eq_true rfl⟩ (fun H3 locs hPm hS3 hz3 hk3 => ?_)
  have hPc3 : va_P D vwCl (g_W aC s.heap.size yC 69 nC1) H3 := w_kept hPc2 hk3 (fun o ho z => by have : s.heap.size + 69 ≤ s.heap.size + o := z; omega)
  refine W.eq (g2 := F0 m 15 ls [.ref (s.heap.size + 69 + 0)]) rfl ?_
  refine lv_astore_n (lv' := [(2, .ref (s.heap.size + 69 + 0)), (1, .ref (s.heap.size + 0)), (0, .ref b)]) hx hb dL_law_15 rfl hl (by decide) rfl (fun ls hl => ?_)
  refine h_size (fun hle3 => ?_)
  have hge3 : s.heap.size + 113 ≤ H3.size := by
    have h1 := (hPm 43 _ (g_Wat (by decide))).lt
    simp only at h1
    omega
  have hle4 : H3.size ≤ s.heap.size + 113 := hle3
  have hsz3 : H3.size = s.heap.size + 113 := by omega
  refine lv_iconst (v := (1 : Int32)) hx hb dL_law_16 rfl ?_
  refine va_newaK (atype := .long) (N := 1) hx hb (htg _ (g_mem 68 (by decide +kernel) (by decide +kernel))) rfl dL_law_17 rfl (by decide) (by decide) (by decide) (Nat.le_of_ble_eq_true rfl) (Nat.le_of_ble_eq_true rfl) hsz3 (fun H4 cA e4 z4 o4 hAr hNm => ?_)
  have hcA : cA = aC 1 := Option.some.inj (hNm.symm.trans (hK.2 1 _ rfl).2)
  have hPo : va_P D vwCl [(s.heap.size + 113, oE aC (fun _ => 0))] H4 := by
    intro k q hq
    have hz : k < 1 := (List.getElem?_eq_some_iff.mp hq).1
    have h0 : k = 0 := by omega
    subst h0
    cases hq
    show H4[s.heap.size + 113]? = _
    rw [e4, hcA]
    rfl
  have hS4 : va_S (n_A s.heap.size) s.heap H4 locs := ⟨by omega, fun q h1 h2 => (o4 q (by omega)).trans (hS3.2.1 q h1 h2), hS3.2.2⟩
  have hM : w_M D aC s nC1 m0 H4 locs := ⟨hPc3.kept (fun k q hq => o4 q.1 (by have := g_Wlt hq; omega)), hPm.kept (fun k q hq => o4 q.1 (by have := g_Wlt hq; omega)), ⟨_, hPo⟩, hS4⟩
  refine W.eq (g2 := F0 m 19 ls [.ref (s.heap.size + 113)]) rfl ?_
  refine lv_astore_n (lv' := [(3, .ref (s.heap.size + 113)), (2, .ref (s.heap.size + 69 + 0)), (1, .ref (s.heap.size + 0)), (0, .ref b)]) hx hb dL_law_19 rfl hl (by decide) rfl (fun ls hl => ?_)
  refine lv_iconst (v := (0 : Int32)) hx hb dL_law_20 rfl ?_
  refine lv_istore (lv' := [(4, .int 0), (3, .ref (s.heap.size + 113)), (2, .ref (s.heap.size + 69 + 0)), (1, .ref (s.heap.size + 0)), (0, .ref b)]) hx hb dL_law_21 hl (by decide) rfl (fun ls hl => ?_)
  refine W.eq (g2 := F0 m 23 ls []) rfl ?_
  refine W.widen (k := 114 + 0) (n := 6202 + 6 * 0) (Nat.le_of_ble_eq_true rfl) (Nat.le_of_ble_eq_true rfl) ?_
  refine w_loop hl0 E (fun H locs ls t ht hS => ?_) 512 0 H4 locs nC1 m0 ls (by omega) (by omega) hM hI (lv_sub hl [4, 3, 2, 1, 0] rfl)
  refine va_forget (fun q hq => hS.2.2 q hq) ?_
  refine W.widen (k := 601024) (n := 7293034) (by omega) (by omega) ?_
  refine lv_iconst (v := (1 : Int32)) hx hb dL_law_1768 rfl ?_
  exact lw_ret hx hb hr hlocks dL_law_1769
