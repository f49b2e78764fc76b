theorem dL_man_0 : decode cL_man 0 = .ok (.aload_n 3, 1) := by decide +kernel
theorem dL_man_1 : decode cL_man 1 = .ok (.iconst 0, 1) := by decide +kernel
theorem dL_man_2 : decode cL_man 2 = .ok (.aload_n 0, 1) := by decide +kernel
theorem dL_man_3 : decode cL_man 3 = .ok (.iload_n 1, 1) := by decide +kernel
theorem dL_man_4 : decode cL_man 4 = .ok (.iload_n 2, 1) := by decide +kernel
theorem dL_man_5 : decode cL_man 5 = .ok (.invokevirtual 7, 3) := by decide +kernel
theorem dL_man_8 : decode cL_man 8 = .ok (.i2l, 1) := by decide +kernel
theorem dL_man_9 : decode cL_man 9 = .ok (.lastore, 1) := by decide +kernel
theorem dL_man_10 : decode cL_man 10 = .ok (.goto 11, 3) := by decide +kernel
theorem dL_man_13 : decode cL_man 13 = .ok (.astore 4, 2) := by decide +kernel
theorem dL_man_15 : decode cL_man 15 = .ok (.iconst 1, 1) := by decide +kernel
theorem dL_man_16 : decode cL_man 16 = .ok (.ireturn, 1) := by decide +kernel
theorem dL_man_17 : decode cL_man 17 = .ok (.astore 4, 2) := by decide +kernel
theorem dL_man_19 : decode cL_man 19 = .ok (.iconst 2, 1) := by decide +kernel
theorem dL_man_20 : decode cL_man 20 = .ok (.ireturn, 1) := by decide +kernel
theorem dL_man_21 : decode cL_man 21 = .ok (.iconst 0, 1) := by decide +kernel
theorem dL_man_22 : decode cL_man 22 = .ok (.ireturn, 1) := by decide +kernel
theorem cv_L_7 : g_CV RL 7 10 yX10_man cX10_man 3 (some .int) 2 := ⟨⟨g_mem 1198 (by decide +kernel) (by decide +kernel), g_mem 1 (by decide +kernel) (by decide +kernel), g_mem 1201 (by decide +kernel) (by decide +kernel), by decide +kernel, by decide⟩, g_mem 1199 (by decide +kernel) (by decide +kernel), g_mem 1200 (by decide +kernel) (by decide +kernel), _, rfl, rfl⟩
theorem xL_ws : ∀ w ∈ [Cond.classLink RL 13 xI, Cond.classLink RL 15 xN], w ∈ g_ws := x_key _ (by decide +kernel)
/-- the out row beside the class's memory -/
def lA (B O : Nat) : Nat → Prop := fun q => g_A B 69 q ∨ q = O
def oE (aC : Nat → ClassId) (f : Nat → Int64) : va_E := .inl (aC 1, 1, .inr (.inl f))
section LO
variable {D : va_G} {aC : Nat → ClassId} {B O : Nat} {mem : g_M} {H : Heap}
theorem o_get {x : va_E} {i : Nat} {q : Nat × va_E} (h : (g_W aC B yC 69 mem ++ [(O, x)])[i]? = some q) : (i < 69 ∧ q.1 = B + i) ∨ (i = 69 ∧ q = (O, x)) := by
  have hlen : (g_W aC B yC 69 mem).length = 69 := by simp [g_W]
  by_cases hi : i < 69
  · rw [List.getElem?_append_left (by rw [hlen]; exact hi)] at h
    exact Or.inl ⟨hi, (g_Wlt h).2⟩
  · rw [List.getElem?_append_right (by rw [hlen]; omega), hlen] at h
    have hz : i - 69 < 1 := (List.getElem?_eq_some_iff.mp h).1
    rw [show i - 69 = 0 by omega] at h
    cases h
    exact Or.inr ⟨by omega, rfl⟩
theorem o_D {x : va_E} (hO : ¬ g_A B 69 O) : va_D (lA B O) (g_W aC B yC 69 mem ++ [(O, x)]) := by
  refine ⟨fun i j p q h1 h2 h3 => ?_, fun k q h => ?_⟩
  · rcases o_get h1 with ⟨a1, a2⟩ | ⟨a1, a2⟩ <;> rcases o_get h2 with ⟨b1, b2⟩ | ⟨b1, b2⟩
    · omega
    · subst b2; exact absurd ⟨by omega, by omega⟩ hO
    · subst a2; exact absurd ⟨by omega, by omega⟩ hO
    · omega
  · rcases o_get h with ⟨a1, a2⟩ | ⟨a1, a2⟩
    · exact Or.inl ⟨by omega, by omega⟩
    · subst a2; exact Or.inr rfl
theorem o_set {x y : va_E} (h : va_P D vwCl ((g_W aC B yC 69 mem ++ [(O, x)]).set 69 (O, y)) H) : va_P D vwCl (g_W aC B yC 69 mem) H ∧ va_P D vwCl [(O, y)] H := by
  have hlen : (g_W aC B yC 69 mem).length = 69 := by simp [g_W]
  refine ⟨h.by (fun k => k) (fun k q hk => ?_), h.by (fun k => 69 + k) (fun k q hk => ?_)⟩
  · have hk1 := (g_Wlt hk).1
    rw [List.getElem?_set_ne (by omega), List.getElem?_append_left (by rw [hlen]; exact hk1)]
    exact hk
  · have hz : k < 1 := (List.getElem?_eq_some_iff.mp hk).1
    have h0 : k = 0 := by omega
    subst h0
    cases hk
    exact List.getElem?_set_self (by rw [List.length_append, hlen]; exact Nat.le.refl)
end LO
section LM
variable {p : Program} {l : Launch} {e : Env} {R : Room} {s : State} {m : MethodId} {args : Array Value} {below : List Frame} {meth : Method} {c : Code} {H : Heap} {locs : List Loc} {cells slots : Nat} {Q : State → Prop}
variable {D : va_G} {aC : Nat → ClassId} {B O : Nat} {mem : g_M} {A : Nat → Prop} {k v : Int32}
theorem x_backX {g : JFrame} {a : Array Value} {rest : List Value} (hS : va_S A s.heap H locs) (hA : ∀ q, g_A B 69 q → A q) (hr : vx_Run p l e R s m args below meth c H locs cells slots 1 6 g rest (x_Q D aC B k v mem a) (x_X D aC B k mem) (g_A B 69))
    (kx : ∀ (E : String) (ce : Cell) (q9 : Addr) (H1 : Heap) (locs1 : List Loc), ((k = 1 ∧ E = xI) ∨ (k = 2 ∧ E = xN)) → va_P D vwCl (g_W aC B yC 69 mem) H1 → va_S A s.heap H1 locs1 → H.size ≤ H1.size → (∀ q : Nat, q < H.size → ¬ g_A B 69 q → H1[q]? = H[q]?) → H1[q9]? = some ce → ce.vm = .none → s.vm.findClass E = some ce.cls → vx_W p l e R s m args below meth c H1 locs1 (cells + 1) (slots + 6) Q { g with stack := rest } q9)
    (kk : ∀ (H1 : Heap) (locs1 : List Loc), k = 0 → va_P D vwCl (g_W aC B yC 69 mem) H1 → va_S A s.heap H1 locs1 → H.size ≤ H1.size → (∀ q : Nat, q < H.size → ¬ g_A B 69 q → H1[q]? = H[q]?) → W p l e R s m args below meth c H1 locs1 (cells + 1) (slots + 6) Q { g with pc := g.pc + 3, stack := .int v :: rest }) : W p l e R s m args below meth c H locs cells slots Q g := by
  intro T hT X
  rcases hr T hT X with ⟨w, st₀, t, T', L, h0, X', hL, e1, e2, ⟨hk0, hv, hP, hz, hk⟩, st⟩ | ⟨q, st₀, t, T', L, E, ce, h0, X', hL, e1, e2, ⟨hE, hP, hz, hk⟩, hce, hcv, hcl, st⟩
  · cases hv
    rw [h0] at hz hk
    obtain ⟨t2, a1, b1⟩ := kk T'.heap (locs ++ L) hk0 (by rw [e1]; exact hP) ⟨Nat.le_trans hS.1 (by rw [e1]; exact hz), fun q h1 h2 => by rw [e1, hk q (Nat.lt_of_lt_of_le h1 hS.1) (fun z => h2 (hA q z))]; exact hS.2.1 q h1 h2, fun q hq => by
        rcases List.mem_append.mp hq with h | h
        · exact hS.2.2 q h
        · exact hA _ (hL q h)⟩ (by rw [e1]; exact hz) (fun q h1 h2 => by rw [e1]; exact hk q h1 h2) T' rfl X'
    exact ⟨t2, st t2 a1, b1⟩
  · rw [h0] at hz hk
    obtain ⟨t2, a1, b1⟩ := kx E ce q T'.heap (locs ++ L) hE (by rw [e1]; exact hP) ⟨Nat.le_trans hS.1 (by rw [e1]; exact hz), fun q h1 h2 => by rw [e1, hk q (Nat.lt_of_lt_of_le h1 hS.1) (fun z => h2 (hA q z))]; exact hS.2.1 q h1 h2, fun q hq => by
        rcases List.mem_append.mp hq with h | h
        · exact hS.2.2 q h
        · exact hA _ (hL q h)⟩ (by rw [e1]; exact hz) (fun q h1 h2 => by rw [e1]; exact hk q h1 h2) (by rw [e1]; exact hce) hcv hcl T' rfl X'
    exact ⟨t2, st.trans a1, b1⟩
def lm_Pre (D : va_G) (aC : Nat → ClassId) (B O : Nat) (f : Nat → Int64) (mem : g_M) (av : List Value) : Array Value → State → Prop := va_Pc av (fun U => va_P D vwCl (g_W aC B yC 69 mem) U.heap ∧ va_P D vwCl [(O, oE aC f)] U.heap ∧ va_K D vwCl (g_tys aC) U ∧ zX (lA B O) U)
def lm_Post (D : va_G) (aC : Nat → ClassId) (B O : Nat) (k v : Int32) (mem : g_M) : Array Value → State → Outcome → State → Prop := fun _ st o t => o = .returned (some (.int k)) ∧ va_P D vwCl (g_W aC B yC 69 mem) t.heap ∧ (∃ f, va_P D vwCl [(O, oE aC f)] t.heap ∧ (k = 0 → f 0 = v.toInt64)) ∧ va_F (lA B O) st t
theorem lm_blind {f : Nat → Int64} {av : List Value} : FrameBlind (lm_Pre D aC B O f mem av) := by
  intro a U g mk q
  obtain ⟨q0, qP, qO, qK, qZ⟩ := q
  exact ⟨q0, qP, qO, va_K.moved (u := U) (U := U.calling g mk a) (Vm.Alike.refl U.vm) qK, qZ.calling g mk a⟩
abbrev lhh : List (Nat × Nat × Nat × Nat) := [(0, 10, 13, 13), (0, 10, 17, 15)]
set_option maxHeartbeats 4000000 in
set_option maxRecDepth 100000 in
theorem cL_manM (l : Launch) (hl0 : l.stackTraces = false) (D : va_G) (aC : Nat → ClassId) (B O : Nat) (hO : ¬ g_A B 69 O) (f : Nat → Int64) {F : Nat} {a1 a2 k v : Int32} {mem : g_M} (he : f10_man F a1 a2 mem = some (k, v)) : vx_Met l yL_man (.codeWith yL_man cL_man 5 (some .int) lhh :: g_ws) (n_rm 10 1 6) (lm_Pre D aC B O f mem [.ref (B + 0), .int a1, .int a2, .ref O]) (lm_Post D aC B O k v mem) (fun _ _ _ => False) 1 6 (lA B O) := by
  refine vx_ofWH (cc := cL_man) (maxL := 5) (ret := some .int) (hh := lhh) (by decide) rfl ?_
  intro p e s m args below meth c s₁ Bd hml hv
  obtain ⟨rfl, hP, hPo, hK, hZ⟩ := hv
  have hts0 := atoms_spec (ws := Cond.codeWith yL_man cL_man 5 (some .int) lhh :: g_ws) Bd.pre
  have htab : c.exceptionTable.toList = tableOf lhh := vx_table (x := yL_man) Bd (hts0 _ List.mem_cons_self)
  have hts : ∀ w ∈ g_ws, w.before _ s = true := fun w hw => hts0 w (List.mem_cons_of_mem _ hw)
  have hret := Bd.returns
  have hlk := Bd.notSynchronized
  have hx := Bd.exec
  have hb := Bd.bytes
  have hown : s.vm.findClass RL = some m.cls := findClass_of_methodNamed Bd.named
  have hl := lv_entry [.ref (B + 0), .int a1, .int a2, .ref O] (n := 5) (Nat.le_of_ble_eq_true rfl)
  rw [lg_entry_eq]
  generalize (lg_sl ([.ref (B + 0), .int a1, .int a2, .ref O]) ++ List.replicate (5 - (lg_sl ([.ref (B + 0), .int a1, .int a2, .ref O])).length) Slot.unset).toArray = ls at hl ⊢
  have hl : lv_has ls 5 [(0, .ref (B + 0)), (1, .int a1), (2, .int a2), (3, .ref O)] := hl
  have hS : va_S (lA B O) s.heap s.heap [] := va_S.rf
  have hA : ∀ q, g_A B 69 q → lA B O q := fun q h => Or.inl h
  refine lv_aload_n hx hb dL_man_0 rfl (lv_at hl 3 rfl) ?_
  refine lv_iconst (v := (0 : Int32)) hx hb dL_man_1 rfl ?_
  refine lv_aload_n hx hb dL_man_2 rfl (lv_at hl 0 rfl) ?_
  refine lv_iload_n hx hb dL_man_3 rfl (lv_at hl 1 rfl) ?_
  refine lv_iload_n hx hb dL_man_4 rfl (lv_at hl 2 rfl) ?_
  obtain ⟨⟨q1, q2, q3, q4, q5⟩, h2, h3, ⟨C, T, N⟩, h4, h5⟩ := cv_L_7
  obtain ⟨g1, g2, g3, g4, g5⟩ := g_cl 10 _ h4
  have hcell := va_recv hK hP h4 (q0 := 0) (a := B + 0) (fs := g_fs B yC mem 0 10) (by rw [g_Wat (by decide), g_Eobj rfl g5])
  have hB : CallB (n_rm 10 1 6) s #[.ref (B + 0), .int a1, .int a2, .ref O] RL 7 yX10_man cX10_man 3 (some .int) (.code yX10_man cX10_man 3 (some .int) :: g_ws) (n_rm 8 1 6) 1 6 2 := by
    refine callB_of (Ts := g_ws) (ws' := g_ws) 2 hts ?_ rfl rfl rfl (hts _ q2) (hts _ q1) q4 ⟨by decide, by decide⟩
    intro w hw
    rcases List.mem_cons.mp hw with rfl | hw
    · exact ⟨q3, g_good q3⟩
    · exact ⟨hw, g_good hw⟩
  have hrun := vx_runV (p := p) (l := l) (e := e) (R := n_rm 10 1 6) (below := below) (meth := meth) (H := s.heap) (locs := []) (cells := 0) (slots := 0) (g := F0 m 5 ls [.int a2, .int a1, .ref (B + 0), .int 0, .ref O]) (rest := [.int 0, .ref O]) (C := yX10_man.cls) (b := B + 0) (Ts := g_ws) (nL := 5) (As := [.int a1, .int a2]) ⟨hx, hb, hml, hown, hts⟩ (c10_man l hl0 D aC B he) ⟨hB, hts _ h2, hts _ h3⟩ ⟨g_blind (fun _ h => h.calling), by rw [← h5]; exact hcell, fun U hU hW => ⟨rfl, by rw [hU]; exact hP, va_K.moved hW.alike hK, (hZ.warm hW (fun q h1 h2 => by rw [hU])).narrow hA⟩⟩ rfl rfl hl.1 rfl (lv_room (Nat.le_of_ble_eq_true rfl)) dL_man_5 ⟨Nat.le_of_ble_eq_true rfl, Nat.le_of_ble_eq_true rfl⟩
  refine x_backX hS hA hrun (fun E ce q9 H1 locs1 hE hP hS hz hk hce hcv hcl => ?_) (fun H1 locs1 hk0 hP hS hz hk => ?_)
  · have hPo : va_P D vwCl [(O, oE aC f)] H1 := hPo.kept (fun k q hq => by
      have hz0 : k < 1 := (List.getElem?_eq_some_iff.mp hq).1
      have h0 : k = 0 := by omega
      have hlt := (hPo k q hq).lt
      subst h0
      cases hq
      exact hk O hlt hO)
    show vx_W p l e (n_rm 10 1 6) s m _ below meth c H1 locs1 1 6 _ (F0 m 5 ls [.int 0, .ref O]) q9
    rcases hE with ⟨hk1, rfl⟩ | ⟨hk2, rfl⟩
    · refine vx_catch (own := RL) (name := xI) hown [] ⟨0, 10, 13, 13⟩ [⟨0, 10, 17, 15⟩] htab (fun z hz => absurd hz List.not_mem_nil) (by decide) (by decide) (hts _ (xL_ws _ (List.mem_cons.mpr (Or.inl rfl)))) (hZ.2.2.2.2.2.2.2.2.1.use rfl) hce hcv hcl ?_
      refine W.eq (g2 := F0 m 13 ls [.ref q9]) rfl ?_
      refine lv_astore (lv' := [(4, .ref q9), (0, .ref (B + 0)), (1, .int a1), (2, .int a2), (3, .ref O)]) hx hb dL_man_13 hl (by decide) rfl (fun ls hl => ?_)
      refine lv_iconst (v := (1 : Int32)) hx hb dL_man_15 rfl ?_
      exact vx_ret (W.iret hx hb hret (fun t ht hW => ⟨by rw [hk1], by rw [ht]; exact hP, ⟨f, by rw [ht]; exact hPo, fun z => by rw [hk1] at z; exact absurd z (by decide)⟩, hS.F ht⟩) hS.2.2 dL_man_16 hlk)
    · refine vx_catch (own := RL) (name := xN) hown [⟨0, 10, 13, 13⟩] ⟨0, 10, 17, 15⟩ [] htab (fun z hz => ?_) (by decide) (by decide) (hts _ (xL_ws _ (List.mem_cons_of_mem _ (List.mem_cons.mpr (Or.inl rfl))))) (hZ.2.2.2.2.2.2.2.2.2.1.use rfl) hce hcv hcl ?_
      · rcases List.mem_cons.mp hz with rfl | hz
        · exact Or.inr ⟨by decide, xI, hts _ (xL_ws _ (List.mem_cons.mpr (Or.inl rfl))), hZ.2.2.2.2.2.2.2.2.2.2⟩
        · exact absurd hz List.not_mem_nil
      refine W.eq (g2 := F0 m 17 ls [.ref q9]) rfl ?_
      refine lv_astore (lv' := [(4, .ref q9), (0, .ref (B + 0)), (1, .int a1), (2, .int a2), (3, .ref O)]) hx hb dL_man_17 hl (by decide) rfl (fun ls hl => ?_)
      refine lv_iconst (v := (2 : Int32)) hx hb dL_man_19 rfl ?_
      exact vx_ret (W.iret hx hb hret (fun t ht hW => ⟨by rw [hk2], by rw [ht]; exact hP, ⟨f, by rw [ht]; exact hPo, fun z => by rw [hk2] at z; exact absurd z (by decide)⟩, hS.F ht⟩) hS.2.2 dL_man_20 hlk)
  · have hPo : va_P D vwCl [(O, oE aC f)] H1 := hPo.kept (fun k q hq => by
      have hz0 : k < 1 := (List.getElem?_eq_some_iff.mp hq).1
      have h0 : k = 0 := by omega
      have hlt := (hPo k q hq).lt
      subst h0
      cases hq
      exact hk O hlt hO)
    refine W.eq (g2 := F0 m 8 ls [.int v, .int 0, .ref O]) rfl ?_
    refine lv_i2l (v := v.toInt64) hx hb dL_man_8 rfl ?_
    refine va_last (A := lA B O) (i := 0) (x := v.toInt64) hx hb hK (hP.app hPo) (o_D hO) hS 69 1 (cA := aC 1) (n := 1) (f := f) (by rw [List.getElem?_append_right (by simp [g_W])]; simp [g_W, oE]) rfl (by unfold vp_in; decide) dL_man_9 (fun H2 locs2 hP2 hD2 hS2 => ?_)
    obtain ⟨hPc, hPn⟩ := o_set hP2
    refine lv_goto (tgt := 21) hx hb dL_man_10 (by decide) ?_
    refine lv_iconst (v := (0 : Int32)) hx hb dL_man_21 rfl ?_
    exact vx_ret (W.iret hx hb hret (fun t ht hW => ⟨by rw [hk0], by rw [ht]; exact hPc, ⟨_, by rw [ht]; exact hPn, fun _ => rfl⟩, hS2.F ht⟩) hS2.2.2 dL_man_22 hlk)
end LM
