/-! making a system: the memory grows; what isn't made yet is blank -/
def n_Fr (n : Nat) (mem : g_M) : Prop := ∀ o, n ≤ o → (∀ j, mem.1 o j = 0) ∧ (∀ j, mem.2.1 o j = 0) ∧ ∀ j, mem.2.2 o j = none
theorem n_Fr.up {n : Nat} {mem : g_M} (h : n_Fr n mem) : n_Fr (n + 1) mem := fun o ho => h o (by omega)
theorem n_Fr.sI {n : Nat} {mem : g_M} (h : n_Fr n mem) {o k : Nat} {v : Int32} (ho : o < n) : n_Fr n (g_sI mem o k v) := fun a ha =>
  ⟨fun j => by show g_up mem.1 o k v a j = 0; rw [g_up_o (by omega)]; exact (h a ha).1 j, (h a ha).2.1, (h a ha).2.2⟩
theorem n_Fr.sR {n : Nat} {mem : g_M} (h : n_Fr n mem) {o k : Nat} {v : Option Nat} (ho : o < n) : n_Fr n (g_sR mem o k v) := fun a ha =>
  ⟨(h a ha).1, (h a ha).2.1, fun j => by show g_up mem.2.2 o k v a j = none; rw [g_up_o (by omega)]; exact (h a ha).2.2 j⟩
def n_A (B : Nat) : Nat → Prop := fun q => B ≤ q
def n_At (D : va_G) (aC : Nat → ClassId) (B : Nat) (Y : g_Y) (n : Nat) (mem : g_M) (H0 H : Heap) (locs : List Loc) : Prop :=
  va_P D vwCl (g_W aC B Y n mem) H ∧ va_S (n_A B) H0 H locs ∧ n_Fr n mem ∧ 0 < n
def n_rm (lev mc ms : Nat) : Room := { frames := lev, cells := mc, slots := ms, locals := 64 * lev }
def n_FF (own : String) (index ci k : Nat) : Prop := ∃ q : vw_C, vwCl[ci]? = some q ∧ k < q.2.2 ∧ (q.2.1 k).2.2.2 = true ∧ (q.2.1 k).1 = own ∧ g_rf ci k = true ∧ Cond.fieldLink own index (q.2.1 k).1 (q.2.1 k).2.1 (q.2.1 k).2.2.1 ∈ g_ws
theorem n_WD {aC : Nat → ClassId} {B : Nat} {Y : g_Y} {n : Nat} {m : g_M} : va_D (n_A B) (g_W aC B Y n m) := ⟨g_WD.1, fun k q hk => (g_WD.2 k q hk).1⟩
theorem g_W_succ {aC : Nat → ClassId} {B : Nat} {Y : g_Y} {n : Nat} {m : g_M} : g_W aC B Y (n + 1) m = g_W aC B Y n m ++ [(B + n, g_E aC B Y m n)] := by
  unfold g_W
  rw [List.range_succ, List.map_append]
  rfl
def g_dra {α : Type} (Y : g_Y) (n : Nat) (r : Option Nat) (k L : Nat) (f : Nat → Option α) : Option α := match r with
  | none => none
  | some q => if q < n ∧ Y.1 q = (k, L) then f q else none
theorem g_dra_some {α : Type} {Y : g_Y} {n : Nat} {r : Option Nat} {k L : Nat} {f : Nat → Option α} {x : α} (h : g_dra Y n r k L f = some x) : ∃ q, r = some q ∧ q < n ∧ Y.1 q = (k, L) ∧ f q = some x := by
  cases r with
  | none => cases h
  | some q =>
    unfold g_dra at h
    simp only at h
    split at h
    · exact ⟨q, rfl, by omega, (by assumption : _ ∧ _).2, h⟩
    · cases h
theorem g_simple : ∀ ci, ci < 12 → ∀ j, j < g_nf ci → (g_ty ci j = .int ∨ g_ty ci j = .boolean ∨ g_isR (g_ty ci j) = true) := by decide +kernel
section NR
variable {p : Program} {l : Launch} {e : Env} {R : Room} {s : State} {m : MethodId} {args : Array Value} {below : List Frame} {meth : Method} {c : Code} {H : Heap} {locs : List Loc} {cells slots : Nat} {Q : State → Prop}
variable {cc : ByteArray} {pc : Nat} {ls : Array Slot} {rest : List Value} {D : va_G} {aC : Nat → ClassId} {B n : Nat} {Y : g_Y} {mem : g_M} {H0 : Heap} {own : String} {Z : State → Prop}
theorem n_size (hM : n_At D aC B Y n mem H0 H locs) (kk : B + n ≤ H.size → H.size ≤ s.heap.size + cells → W p l e R s m args below meth c H locs cells slots Q (F0 m pc ls rest)) : W p l e R s m args below meth c H locs cells slots Q (F0 m pc ls rest) := by
  intro T hT X
  refine kk ?_ (by rw [← hT]; exact X.heapSize) T hT X
  have h1 := (hM.1 (n - 1) _ (g_Wat (by have := hM.2.2.2; omega))).lt
  have h2 := hM.2.2.2
  simp only at h1
  omega
theorem n_getI (E : g_C p s m args c cc own D aC Z) (hM : n_At D aC B Y n mem H0 H locs) {o ci k index : Nat} (ho : o < n) (hY : Y.1 o = (ci, 0)) (hF : g_FL own index ci k false) (hdg : decode cc pc = .ok (.getfield index, 3))
    (kk : W p l e R s m args below meth c H locs cells slots Q (F0 m (pc + 3) ls (.int (mem.1 o k) :: rest))) : W p l e R s m args below meth c H locs cells slots Q (F0 m pc ls (.ref (B + o) :: rest)) := by
  obtain ⟨hx, hb, hown, hts, hK, hZ⟩ := E
  obtain ⟨⟨C, T, N⟩, hc, hk, hr, hw⟩ := hF
  obtain ⟨h1, h2, h3, h4, h5⟩ := g_cl ci _ hc
  refine va_get hx hb hts h1 hown hK hM.1 o (by rw [g_Wat ho, g_Eobj hY h5]) hc k hk (hts _ hw) (fun _ h => h) (v := .int (mem.1 o k)) (by rw [g_fs_get (by rw [h4]; exact hk)]; unfold g_fv; rw [if_neg (by rw [hr]; decide)]) hdg kk
theorem n_getD (E : g_C p s m args c cc own D aC Z) (hM : n_At D aC B Y n mem H0 H locs) {o ci k index q : Nat} (ho : o < n) (hY : Y.1 o = (ci, 0)) (hF : g_FL own index ci k true) (hp : Y.2 o k = none) (hq : mem.2.2 o k = some q) (hdg : decode cc pc = .ok (.getfield index, 3))
    (kk : W p l e R s m args below meth c H locs cells slots Q (F0 m (pc + 3) ls (.ref (B + q) :: rest))) : W p l e R s m args below meth c H locs cells slots Q (F0 m pc ls (.ref (B + o) :: rest)) := by
  obtain ⟨hx, hb, hown, hts, hK, hZ⟩ := E
  obtain ⟨⟨C, T, N⟩, hc, hk, hr, hw⟩ := hF
  obtain ⟨h1, h2, h3, h4, h5⟩ := g_cl ci _ hc
  refine va_get hx hb hts h1 hown hK hM.1 o (by rw [g_Wat ho, g_Eobj hY h5]) hc k hk (hts _ hw) (fun _ h => h) (v := .ref (B + q)) (by rw [g_fs_get (by rw [h4]; exact hk)]; unfold g_fv g_pt; rw [if_pos hr, hp]; simp only [hq]; rfl) hdg kk
theorem n_put (E : g_C p s m args c cc own D aC Z) (hM : n_At D aC B Y n mem H0 H locs) {o ci k index : Nat} {ty : FieldType} {v : Value} {mem' : g_M} (ho : o < n) (hY : Y.1 o = (ci, 0)) (hF : g_FP own index ci k ty) (hn : narrow ty v = v) (hfit : fits ty v = true)
    (hv : v = g_fv B Y mem' o ci k) (h1 : ∀ j, j ≠ k → g_fv B Y mem' o ci j = g_fv B Y mem o ci j) (h2 : ∀ a, a ≠ o → g_E aC B Y mem' a = g_E aC B Y mem a) (h3 : n_Fr n mem') (hdg : decode cc pc = .ok (.putfield index, 3))
    (kk : ∀ (H1 : Heap) (locs1 : List Loc), n_At D aC B Y n mem' H0 H1 locs1 → W p l e R s m args below meth c H1 locs1 cells slots Q (F0 m (pc + 3) ls rest)) : W p l e R s m args below meth c H locs cells slots Q (F0 m pc ls (v :: .ref (B + o) :: rest)) := by
  obtain ⟨hx, hb, hown, hts, hK, hZ⟩ := E
  obtain ⟨⟨C, T, N⟩, hc, hk, hfin, hty, hw⟩ := hF
  obtain ⟨g1, g2, g3, g4, g5⟩ := g_cl ci _ hc
  refine va_put hx hb hts g1 (g_ty ci) g2 g3 hown hK hM.1 n_WD hM.2.1 o (by rw [g_Wat ho, g_Eobj hY g5]) hc k hk (hts _ hw) (fun _ h => h) hfin (ty := ty) (by rw [g2 k hk, hty]) hn hfit (by simp [g_fs]; rw [g4]; exact hk) hdg (fun H1 locs1 q1 _ q3 => kk H1 locs1 ⟨?_, q3, h3, hM.2.2.2⟩)
  rw [g_fs_set (m' := mem') hv h1, g_Wset (m' := mem') (g_Eobj hY g5).symm h2] at q1
  exact q1
theorem n_putI (E : g_C p s m args c cc own D aC Z) (hM : n_At D aC B Y n mem H0 H locs) {o ci k index : Nat} {v : Int32} (ho : o < n) (hY : Y.1 o = (ci, 0)) (hF : g_FP own index ci k .int) (hdg : decode cc pc = .ok (.putfield index, 3))
    (kk : ∀ (H1 : Heap) (locs1 : List Loc), n_At D aC B Y n (g_sI mem o k v) H0 H1 locs1 → W p l e R s m args below meth c H1 locs1 cells slots Q (F0 m (pc + 3) ls rest)) : W p l e R s m args below meth c H locs cells slots Q (F0 m pc ls (.int v :: .ref (B + o) :: rest)) := by
  have hr : g_rf ci k = false := by
    obtain ⟨q, -, -, -, hty, -⟩ := hF
    unfold g_rf; rw [hty]; rfl
  refine n_put E hM ho hY hF (vp_nar_int v) rfl ?_ (fun j hj => g_fvI_ne hj) (fun a ha => g_EI_ne ha) (hM.2.2.1.sI ho) hdg kk
  unfold g_fv g_sI
  rw [hr]
  simp [g_up]
theorem n_putZ (E : g_C p s m args c cc own D aC Z) (hM : n_At D aC B Y n mem H0 H locs) {o ci k index : Nat} {v : Int32} (ho : o < n) (hY : Y.1 o = (ci, 0)) (hF : g_FP own index ci k .boolean) (hv : v = 0 ∨ v = 1) (hdg : decode cc pc = .ok (.putfield index, 3))
    (kk : ∀ (H1 : Heap) (locs1 : List Loc), n_At D aC B Y n (g_sI mem o k v) H0 H1 locs1 → W p l e R s m args below meth c H1 locs1 cells slots Q (F0 m (pc + 3) ls rest)) : W p l e R s m args below meth c H locs cells slots Q (F0 m pc ls (.int v :: .ref (B + o) :: rest)) := by
  have hr : g_rf ci k = false := by
    obtain ⟨q, -, -, -, hty, -⟩ := hF
    unfold g_rf; rw [hty]; rfl
  refine n_put E hM ho hY hF ?_ ?_ ?_ (fun j hj => g_fvI_ne hj) (fun a ha => g_EI_ne ha) (hM.2.2.1.sI ho) hdg kk
  · rcases hv with rfl | rfl <;> rfl
  · rcases hv with rfl | rfl <;> rfl
  · unfold g_fv g_sI
    rw [hr]
    simp [g_up]
theorem n_putR (E : g_C p s m args c cc own D aC Z) (hM : n_At D aC B Y n mem H0 H locs) {o ci k index q : Nat} {C : String} (ho : o < n) (hY : Y.1 o = (ci, 0)) (hF : g_FP own index ci k (.object C)) (hp : Y.2 o k = none) (hdg : decode cc pc = .ok (.putfield index, 3))
    (kk : ∀ (H1 : Heap) (locs1 : List Loc), n_At D aC B Y n (g_sR mem o k (some q)) H0 H1 locs1 → W p l e R s m args below meth c H1 locs1 cells slots Q (F0 m (pc + 3) ls rest)) : W p l e R s m args below meth c H locs cells slots Q (F0 m pc ls (.ref (B + q) :: .ref (B + o) :: rest)) := by
  have hr : g_rf ci k = true := by
    obtain ⟨q, -, -, -, hty, -⟩ := hF
    unfold g_rf; rw [hty]; rfl
  refine n_put (mem' := g_sR mem o k (some q)) E hM ho hY hF rfl rfl ?_ (fun j hj => ?_) (fun a ha => g_Esame rfl rfl (g_up_o ha)) (hM.2.2.1.sR ho) hdg kk
  · unfold g_fv g_sR g_pt
    rw [if_pos hr, hp]
    simp [g_up, va_rf]
  · unfold g_fv g_sR g_pt
    simp [g_up, hj]
theorem n_putF (E : g_C p s m args c cc own D aC Z) (hM : n_At D aC B Y n mem H0 H locs) (hin2 : meth.name = "<init>") {o ci k index q : Nat} (ho : o < n) (hY : Y.1 o = (ci, 0)) (hF : n_FF own index ci k) (hp : Y.2 o k = none) (hdg : decode cc pc = .ok (.putfield index, 3))
    (kk : ∀ (H1 : Heap) (locs1 : List Loc), n_At D aC B Y n (g_sR mem o k (some q)) H0 H1 locs1 → W p l e R s m args below meth c H1 locs1 cells slots Q (F0 m (pc + 3) ls rest)) : W p l e R s m args below meth c H locs cells slots Q (F0 m pc ls (.ref (B + q) :: .ref (B + o) :: rest)) := by
  obtain ⟨hx, hb, hown, hts, hK, hZ⟩ := E
  obtain ⟨⟨C, T, N⟩, hc, hk, hfin, hdecl, hrf, hw⟩ := hF
  obtain ⟨g1, g2, g3, g4, g5⟩ := g_cl ci _ hc
  have he : (g_W aC B Y n mem)[o]? = some (B + o, .inr (ci, g_fs B Y mem o ci)) := by rw [g_Wat ho, g_Eobj hY g5]
  have hnf : narrow (g_ty ci k) (.ref (B + q)) = .ref (B + q) ∧ fits (g_ty ci k) (.ref (B + q)) = true := by
    unfold g_rf at hrf
    cases ht : g_ty ci k <;> rw [ht] at hrf <;> first | (exact ⟨rfl, rfl⟩) | (cases hrf)
  refine va_putF hx hb hts g1 (g_ty ci) g2 g3 hown hK hM.1 n_WD hM.2.1 o he hc k hk (hts _ hw) (fun _ h => h) hfin hin2 hdecl (ty := g_ty ci k) (g2 k hk) hnf.1 hnf.2 (by simp [g_fs]; rw [g4]; exact hk) hdg (fun H1 locs1 q1 _ q3 => kk H1 locs1 ⟨?_, q3, hM.2.2.1.sR ho, hM.2.2.2⟩)
  rw [g_fs_set (m' := g_sR mem o k (some q)) (by unfold g_fv g_sR g_pt; rw [if_pos hrf, hp]; simp [g_up, va_rf]) (fun j hj => by unfold g_fv g_sR g_pt; simp [g_up, hj]), g_Wset (m := mem) (m' := g_sR mem o k (some q)) (g_Eobj hY g5).symm (fun a ha => g_Esame rfl rfl (g_up_o ha))] at q1
  exact q1
theorem n_iast (E : g_C p s m args c cc own D aC Z) (hM : n_At D aC B Y n mem H0 H locs) {o L : Nat} {i x : Int32} (ho : o < n) (hY : Y.1 o = (50, L)) (hi : vp_in i L) (hdg : decode cc pc = .ok (.iastore, 1))
    (kk : ∀ (H1 : Heap) (locs1 : List Loc), n_At D aC B Y n (g_sI mem o i.toNatClampNeg x) H0 H1 locs1 → W p l e R s m args below meth c H1 locs1 cells slots Q (F0 m (pc + 1) ls rest)) : W p l e R s m args below meth c H locs cells slots Q (F0 m pc ls (.int x :: .int i :: .ref (B + o) :: rest)) := by
  refine va_iast E.1 E.2.1 E.2.2.2.2.1 hM.1 n_WD hM.2.1 o 0 (by rw [g_Wat ho, g_EI hY]) rfl hi hdg (fun H1 locs1 q1 _ q3 => kk H1 locs1 ⟨?_, q3, hM.2.2.1.sI ho, hM.2.2.2⟩)
  rw [g_Wset (m' := g_sI mem o i.toNatClampNeg x) (by rw [g_EI hY]; show _ = Sum.inl (aC 0, L, Sum.inl (g_up mem.1 o _ x o)); rw [g_up_i]) (fun a ha => g_EI_ne ha)] at q1
  exact q1
theorem n_new (E : g_C p s m args c cc own D aC Z) (hM : n_At D aC B Y n mem H0 H locs) (hcnt : s.heap.size + cells = B + n) {ci index N : Nat} {C : String} {T : u_T} (hY : Y.1 n = (ci, 0)) (hc : vwCl[ci]? = some (C, T, N)) (hcl : Cond.classLink own index C ∈ g_ws) (hinst : Cond.instantiable C N ∈ g_ws) (hini : Cond.initialized C ∈ g_ws) (hp : ∀ k, Y.2 n k = none)
    (hcells : cells + 1 ≤ R.cells) (hslots : slots + N ≤ R.slots) (hdg : decode cc pc = .ok (.new index, 3))
    (kk : ∀ H1 : Heap, n_At D aC B Y (n + 1) mem H0 H1 locs → W p l e R s m args below meth c H1 locs (cells + 1) (slots + N) Q (F0 m (pc + 3) ls (.ref (B + n) :: rest))) : W p l e R s m args below meth c H locs cells slots Q (F0 m pc ls rest) := by
  refine n_size hM (fun z1 z2 => ?_)
  have hsz : H.size = B + n := by omega
  obtain ⟨hx, hb, hown, hts, hK, hZ⟩ := E
  obtain ⟨g1, g2, g3, g4, g5⟩ := g_cl ci _ hc
  have hKn := hK.1 ci _ hc
  refine W.newcK hx hb hown (hts _ hcl) (hts _ hinst) (hts _ hini) rfl hdg hcells hslots hKn.2.1 hsz fun H1 kC hkC e1 z1 o1 => ?_
  refine kk H1 ⟨?_, ⟨Nat.le_trans hM.2.1.1 (by omega), fun x h1 h2 => (o1 x (by have := hM.2.1.1; omega)).trans (hM.2.1.2.1 x h1 h2), hM.2.1.2.2⟩, hM.2.2.1.up, by omega⟩
  rw [g_W_succ]
  refine (hM.1.kept (fun k x hx => o1 x.1 (by have := (hM.1 k x hx).lt; omega))).app (fun k x hx => ?_)
  have hz : k < 1 := (List.getElem?_eq_some_iff.mp hx).1
  rw [show k = 0 by omega] at hx
  cases hx
  rw [g_Eobj hY g5]
  refine ⟨_, hc, (u_born (g_ty ci) hts g1 hKn hkC e1 g2).to (fun j hj => ?_)⟩
  have hj' : j < g_nf ci := by rw [g4]; exact hj
  show defaultValue (g_ty ci j) = vp_V (g_fs B Y mem n ci) j
  unfold vp_V
  rw [List.getD_eq_getElem?_getD, g_fs_get hj']
  show _ = g_fv B Y mem n ci j
  unfold g_fv g_rf g_pt
  rw [hp j, (hM.2.2.1 n (Nat.le_refl _)).1 j, (hM.2.2.1 n (Nat.le_refl _)).2.2 j]
  have hty : g_ty ci j = .int ∨ g_ty ci j = .boolean ∨ g_isR (g_ty ci j) = true := by
    have h := g_simple ci g5 j hj'
    exact h
  rcases hty with h | h | h
  · rw [h]; rfl
  · rw [h]; rfl
  · rw [if_pos h]
    cases ht : g_ty ci j <;> rw [ht] at h <;> first | rfl | (cases h)
theorem n_newa (E : g_C p s m args c cc own D aC Z) (hM : n_At D aC B Y n mem H0 H locs) (hcnt : s.heap.size + cells = B + n) {atype : ArrayType} {ty : FieldType} {code L : Nat} {v : Int32} (hty : newarray.typeOf atype = ty) (hw : Cond.arrayClass ty ∈ g_ws) (hY : Y.1 n = (code, L)) (hcode : (code = 50 ∧ ty = .int) ∨ (code = 51 ∧ ty = .long) ∨ (code = 52 ∧ ty = .boolean) ∨ (code = 53 ∧ ty = .byte)) (hn : ¬ v < 0) (hN : v.toNatClampNeg = L) (hbytes : L * componentBytes ty ≤ 536870912)
    (hcells : cells + 1 ≤ R.cells) (hslots : slots + L ≤ R.slots) (hdg : decode cc pc = .ok (.newarray atype, 2))
    (kk : ∀ H1 : Heap, n_At D aC B Y (n + 1) mem H0 H1 locs → W p l e R s m args below meth c H1 locs (cells + 1) (slots + L) Q (F0 m (pc + 2) ls (.ref (B + n) :: rest))) : W p l e R s m args below meth c H locs cells slots Q (F0 m pc ls (.int v :: rest)) := by
  refine n_size hM (fun z1 z2 => ?_)
  have hsz : H.size = B + n := by omega
  subst hty
  obtain ⟨hx, hb, hown, hts, hK, hZ⟩ := E
  refine va_newaK hx hb (hts _ hw) rfl hdg rfl hn hN hbytes hcells hslots hsz fun H1 cA e1 z1 o1 hAr hNm => ?_
  refine kk H1 ⟨?_, ⟨Nat.le_trans hM.2.1.1 (by omega), fun x h1 h2 => (o1 x (by have := hM.2.1.1; omega)).trans (hM.2.1.2.1 x h1 h2), hM.2.1.2.2⟩, hM.2.2.1.up, by omega⟩
  rw [g_W_succ]
  refine (hM.1.kept (fun k x hx => o1 x.1 (by have := (hM.1 k x hx).lt; omega))).app (fun k x hx => ?_)
  have hz : k < 1 := (List.getElem?_eq_some_iff.mp hx).1
  rw [show k = 0 by omega] at hx
  cases hx
  have f1 : mem.1 n = fun _ => 0 := funext (hM.2.2.1 n (Nat.le_refl _)).1
  have f2 : mem.2.1 n = fun _ => 0 := funext (hM.2.2.1 n (Nat.le_refl _)).2.1
  rcases hcode with ⟨rfl, h⟩ | ⟨rfl, h⟩ | ⟨rfl, h⟩ | ⟨rfl, h⟩ <;> rw [h] at e1 hNm
  · have hk := (hK.2 0 _ rfl).2
    have hc : cA = aC 0 := Option.some.inj (hNm.symm.trans hk)
    rw [g_EI hY, f1, ← hc]
    exact e1
  · have hk := (hK.2 1 _ rfl).2
    have hc : cA = aC 1 := Option.some.inj (hNm.symm.trans hk)
    rw [g_EL hY, f2, ← hc]
    exact e1
  · have hk := (hK.2 2 _ rfl).2
    have hc : cA = aC 2 := Option.some.inj (hNm.symm.trans hk)
    rw [g_EZ hY, f1, ← hc]
    exact e1
  · have hk := (hK.2 3 _ rfl).2
    have hc : cA = aC 3 := Option.some.inj (hNm.symm.trans hk)
    rw [g_EB hY, f1, ← hc]
    exact e1
end NR
def n_Pre (D : va_G) (aC : Nat → ClassId) (B : Nat) (Y : g_Y) (n : Nat) (Z : State → Prop) (mem : g_M) (av : List Value) : Array Value → State → Prop := va_Pc av (fun U => va_P D vwCl (g_W aC B Y n mem) U.heap ∧ U.heap.size = B + n ∧ n_Fr n mem ∧ va_K D vwCl (g_tys aC) U ∧ Z U)
def n_Post (D : va_G) (aC : Nat → ClassId) (B : Nat) (Y : g_Y) (n : Nat) (mem' : g_M) : Array Value → State → Outcome → State → Prop := fun _ st o t => o = .returned none ∧ va_P D vwCl (g_W aC B Y n mem') t.heap ∧ n_Fr n mem' ∧ va_F (n_A B) st t
def n_Met (l : Launch) (y : MethodName) (cc : ByteArray) (maxL : Nat) (lev mc ms : Nat) (D : va_G) (aC : Nat → ClassId) (B : Nat) (Y : g_Y) (n n' : Nat) (Z : State → Prop) (mem : g_M) (av : List Value) (mem' : g_M) : Prop :=
  Met l y (.code y cc maxL none :: g_ws) (n_rm lev mc ms) (n_Pre D aC B Y n Z mem av) (n_Post D aC B Y n' mem') mc ms (n_A B)
theorem n_blind {D : va_G} {aC : Nat → ClassId} {B : Nat} {Y : g_Y} {n : Nat} {Z : State → Prop} {mem : g_M} {av : List Value} (hb : ∀ U, Z U → ∀ (g : JFrame) (mk : MethodId) (a : Array Value), Z (U.calling g mk a)) : FrameBlind (n_Pre D aC B Y n Z mem av) := by
  intro a U g mk q
  obtain ⟨q0, qP, qs, qF, qK, qZ⟩ := q
  exact ⟨q0, qP, qs, qF, va_K.moved (u := U) (U := U.calling g mk a) (Vm.Alike.refl U.vm) qK, hb U qZ g mk a⟩
theorem n_ofW {l : Launch} {y : MethodName} {cc : ByteArray} {maxL lev mc ms : Nat} {D : va_G} {aC : Nat → ClassId} {B : Nat} {Y : g_Y} {n n' : Nat} {Z : State → Prop} {mem : g_M} {av : List Value} {mem' : g_M} (hy : plainName y.cls = true) (hn : y.name = "<init>") (h0 : 0 < n) (hlen : (lg_sl av).length ≤ maxL)
    (body : ∀ (p : Program) (e : Env) (s : State) (m : MethodId) (args : Array Value) (below : List Frame) (meth : Method) (c : Code) (ls : Array Slot), g_C p s m args c cc y.cls D aC Z → c.maxLocals = maxL → meth.sig.returnType = none → meth.locks = false → meth.name = "<init>" → s.heap.size = B + n → n_At D aC B Y n mem s.heap s.heap [] → lv_has ls maxL (lv_args 0 av) →
      W p l e (n_rm lev mc ms) s m args below meth c s.heap [] 0 0 (MQ below (n_Post D aC B Y n' mem') args s mc ms (n_A B)) (F0 m 0 ls [])) : n_Met l y cc maxL lev mc ms D aC B Y n n' Z mem av mem' := by
  refine Met.ofW (cc := cc) (maxL := maxL) (ret := none) hy rfl ?_
  intro p e s m args below meth c s₁ Bd hml hv
  obtain ⟨rfl, hP, hsz, hF, hK, hZ⟩ := hv
  have hts := atoms_spec (ws := Cond.code y cc maxL none :: g_ws) Bd.pre
  rw [lg_entry_eq]
  exact body p e s m _ below meth c _ ⟨Bd.exec, Bd.bytes, findClass_of_methodNamed Bd.named, fun w hw => hts w (List.mem_cons_of_mem _ hw), hK, hZ⟩ hml Bd.returns Bd.notSynchronized ((name_of_methodNamed Bd.named Bd.method).1.trans hn) hsz ⟨hP, va_S.rf, hF, h0⟩ (lv_entry av hlen)
section NC
variable {p : Program} {l : Launch} {e : Env} {R : Room} {s : State} {m : MethodId} {args : Array Value} {below : List Frame} {meth : Method} {c : Code} {H : Heap} {locs : List Loc} {cells slots : Nat} {Q : State → Prop}
variable {cc : ByteArray} {pc : Nat} {ls : Array Slot} {rest : List Value} {D : va_G} {aC : Nat → ClassId} {B n : Nat} {Y : g_Y} {mem mem' : g_M} {H0 : Heap} {own : String} {Z Z1 : State → Prop}
theorem n_vret (E : g_C p s m args c cc own D aC Z) (hM : n_At D aC B Y n mem s.heap H locs) (hr : meth.sig.returnType = none) (hlocks : meth.locks = false) (hdg : decode cc pc = .ok (.return_, 1)) :
    W p l e R s m args below meth c H locs cells slots (MQ below (n_Post D aC B Y n mem) args s cells slots (n_A B)) (F0 m pc ls []) :=
  W.vret E.1 E.2.1 hr (fun t ht hW => ⟨rfl, by rw [ht]; exact hM.1, hM.2.2.1, hM.2.1.F ht⟩) hM.2.1.2.2 hdg hlocks
theorem n_back {mem1 : g_M} {n1 mc ms : Nat} {g : JFrame} {a : Array Value} (h1 : 0 < n1) (hM : n_At D aC B Y n mem H0 H locs) (hr : va_Run p l e R s m args below meth c H locs cells slots mc ms g rest (n_Post D aC B Y n1 mem1 a) (n_A B))
    (kk : ∀ (H1 : Heap) (locs1 : List Loc), n_At D aC B Y n1 mem1 H0 H1 locs1 → W p l e R s m args below meth c H1 locs1 (cells + mc) (slots + ms) Q { g with pc := g.pc + 3, stack := rest }) : W p l e R s m args below meth c H locs cells slots Q g := by
  intro T hT X
  obtain ⟨v, st₀, t, T', L, h0, X', hL, e1, e2, ⟨hv, hP, hF, hz, hk⟩, st⟩ := hr T hT X
  cases hv
  rw [h0] at hz hk
  obtain ⟨hP0, hS, hF0, hn0⟩ := hM
  obtain ⟨t2, a1, b1⟩ := kk T'.heap (locs ++ L) ⟨by rw [e1]; exact hP, ⟨Nat.le_trans hS.1 (by rw [e1]; exact hz), fun q h1 h2 => by rw [e1, hk q (Nat.lt_of_lt_of_le h1 hS.1) h2]; exact hS.2.1 q h1 h2, fun q hq => by
      rcases List.mem_append.mp hq with h | h
      · exact hS.2.2 q h
      · exact hL q h⟩, hF, h1⟩ T' rfl X'
  exact ⟨t2, st t2 a1, b1⟩
theorem n_callI {y : MethodName} {bytes : ByteArray} {maxL nL na index lev1 mc ms n1 b : Nat} (As : List Value) {st0 : List Value} (E : g_C p s m args c cc own D aC Z) (hml : c.maxLocals = nL) (hls : ls.size = nL) (hM : n_At D aC B Y n mem H0 H locs) (hcnt : s.heap.size + cells = B + n) (hw : g_CB own index y bytes maxL none na ∧ y.name = "<init>" ∧ Cond.instanceMethod y ∈ g_ws)
    (hc : n_Met l y bytes maxL lev1 mc ms D aC B Y n n1 Z1 mem (.ref b :: As) mem') (h1 : 0 < n1) (hZb : ∀ U, Z1 U → ∀ (g : JFrame) (mk : MethodId) (a : Array Value), Z1 (U.calling g mk a)) (hZ1 : ∀ U : State, U.heap = H → s.WarmedH U.vm → Z1 U) (hfr : lev1 + 1 ≤ R.frames) (hlo : 8 + (maxL + 11) + 64 * lev1 ≤ R.locals) (hn : As.length = na) (hst : st0 = As.reverse ++ .ref b :: rest) (hW : (rest.map fun v => v.category).sum ≤ 8) (hdg : decode cc pc = .ok (.invokespecial index, 3)) (hf : cells + mc ≤ R.cells ∧ slots + ms ≤ R.slots)
    (kk : ∀ (H1 : Heap) (locs1 : List Loc), n_At D aC B Y n1 mem' H0 H1 locs1 → W p l e R s m args below meth c H1 locs1 (cells + mc) (slots + ms) Q (F0 m (pc + 3) ls rest)) : W p l e R s m args below meth c H locs cells slots Q (F0 m pc ls st0) := by
  refine W.eq rfl ?_
  refine (fun (h : B + n ≤ H.size → H.size ≤ s.heap.size + cells → W p l e R s m args below meth c H locs cells slots Q (F0 m pc ls st0)) => n_size hM h) (fun z1 z2 => ?_)
  have hsz : H.size = B + n := by omega
  obtain ⟨⟨q1, q2, q3, q4, q5⟩, hy, hi⟩ := hw
  obtain ⟨hx, hb, hown, hts, hK, hZ⟩ := E
  have hB : CallB R s args own index y bytes maxL none (.code y bytes maxL none :: g_ws) (n_rm lev1 mc ms) mc ms na := by
    refine callB_of (Ts := g_ws) (ws' := g_ws) na hts ?_ rfl rfl rfl (hts _ q2) (hts _ q1) q4 ⟨hfr, hlo⟩
    intro w hw
    rcases List.mem_cons.mp hw with rfl | hw
    · exact ⟨q3, g_good q3⟩
    · exact ⟨hw, g_good hw⟩
  exact n_back (rest := rest) h1 hM (va_runI (b := b) (Ts := g_ws) (nL := nL) (As := As) ⟨hx, hb, hml, hown, hts⟩ hc ⟨hB, hy, hts _ hi⟩ ⟨n_blind hZb, fun U hU hW => ⟨rfl, by rw [hU]; exact hM.1, by rw [hU]; exact hsz, hM.2.2.1, va_K.moved hW.alike hK, hZ1 U hU hW⟩⟩ rfl hn hls hst (lv_room hW) hdg hf) kk
theorem n_callIN {y : MethodName} {bytes : ByteArray} {maxL nL na index lev1 mc ms n1 b : Nat} {host : String} (As : List Value) {st0 : List Value} (E : g_C p s m args c cc own D aC Z) (hml : c.maxLocals = nL) (hls : ls.size = nL) (hM : n_At D aC B Y n mem H0 H locs) (hcnt : s.heap.size + cells = B + n) (hNw : va_Nw (.methodLinkNest own index y host) s) (hw : (Cond.initialized y.cls ∈ g_ws ∧ Cond.code y bytes maxL none ∈ g_ws ∧ (y.cls ≠ "java/lang/invoke/MethodHandle" ∧ y.cls ≠ "java/lang/invoke/VarHandle" ∧ (parseMethodDescriptor y.desc).map (fun d => d.parameters.length) = some na)) ∧ y.name = "<init>" ∧ Cond.instanceMethod y ∈ g_ws)
    (hc : n_Met l y bytes maxL lev1 mc ms D aC B Y n n1 Z1 mem (.ref b :: As) mem') (h1 : 0 < n1) (hZb : ∀ U, Z1 U → ∀ (g : JFrame) (mk : MethodId) (a : Array Value), Z1 (U.calling g mk a)) (hZ1 : ∀ U : State, U.heap = H → s.WarmedH U.vm → Z1 U) (hfr : lev1 + 1 ≤ R.frames) (hlo : 8 + (maxL + 11) + 64 * lev1 ≤ R.locals) (hn : As.length = na) (hst : st0 = As.reverse ++ .ref b :: rest) (hW : (rest.map fun v => v.category).sum ≤ 8) (hdg : decode cc pc = .ok (.invokespecial index, 3)) (hf : cells + mc ≤ R.cells ∧ slots + ms ≤ R.slots)
    (kk : ∀ (H1 : Heap) (locs1 : List Loc), n_At D aC B Y n1 mem' H0 H1 locs1 → W p l e R s m args below meth c H1 locs1 (cells + mc) (slots + ms) Q (F0 m (pc + 3) ls rest)) : W p l e R s m args below meth c H locs cells slots Q (F0 m pc ls st0) := by
  refine (fun (h : B + n ≤ H.size → H.size ≤ s.heap.size + cells → W p l e R s m args below meth c H locs cells slots Q (F0 m pc ls st0)) => n_size hM h) (fun z1 z2 => ?_)
  have hsz : H.size = B + n := by omega
  obtain ⟨⟨q2, q3, q4⟩, hy, hi⟩ := hw
  obtain ⟨hx, hb, hown, hts, hK, hZ⟩ := E
  have hB : va_CN R s args own index y host bytes maxL none (.code y bytes maxL none :: g_ws) (n_rm lev1 mc ms) mc ms na := by
    refine va_cnB (Ts := g_ws) (ws' := g_ws) na hts ?_ rfl rfl rfl hNw (hts _ q2) q4 ⟨hfr, hlo⟩
    intro w hw
    rcases List.mem_cons.mp hw with rfl | hw
    · exact ⟨q3, g_good q3⟩
    · exact ⟨hw, g_good hw⟩
  exact n_back (rest := rest) h1 hM (va_runIN (b := b) (Ts := g_ws) (nL := nL) (As := As) ⟨hx, hb, hml, hown, hts⟩ hc ⟨hB, hy, hts _ hi⟩ ⟨n_blind hZb, fun U hU hW => ⟨rfl, by rw [hU]; exact hM.1, by rw [hU]; exact hsz, hM.2.2.1, va_K.moved hW.alike hK, hZ1 U hU hW⟩⟩ rfl hn hls hst (lv_room hW) hdg hf) kk
theorem n_backG {mem1 : g_M} {g : JFrame} {r : Option Value} {a : Array Value} (hM : n_At D aC B Y n mem H0 H locs) (hF1 : n_Fr n mem1) (hr : va_Run p l e R s m args below meth c H locs cells slots 0 0 g rest (g_Post D aC B Y n mem1 r a) (g_A B n))
    (kk : ∀ (H1 : Heap) (locs1 : List Loc), n_At D aC B Y n mem1 H0 H1 locs1 → W p l e R s m args below meth c H1 locs1 cells slots Q { g with pc := g.pc + 3, stack := r.toList ++ rest }) : W p l e R s m args below meth c H locs cells slots Q g := by
  intro T hT X
  obtain ⟨v, st₀, t, T', L, h0, X', hL, e1, e2, ⟨hv, hP, hz, hk⟩, st⟩ := hr T hT X
  cases hv
  rw [h0] at hz hk
  obtain ⟨hP0, hS, hF0, hn0⟩ := hM
  have hsub : ∀ q, g_A B n q → n_A B q := fun q h => h.1
  obtain ⟨t2, a1, b1⟩ := kk T'.heap (locs ++ L) ⟨by rw [e1]; exact hP, ⟨Nat.le_trans hS.1 (by rw [e1]; exact hz), fun q h1 h2 => by rw [e1, hk q (Nat.lt_of_lt_of_le h1 hS.1) (fun z => h2 (hsub q z))]; exact hS.2.1 q h1 h2, fun q hq => by
      rcases List.mem_append.mp hq with h | h
      · exact hS.2.2 q h
      · exact hsub _ (hL q h)⟩, hF1, hn0⟩ T' rfl X'
  exact ⟨t2, st t2 a1, b1⟩
theorem n_callVX {y : MethodName} {bytes : ByteArray} {maxL nL na index lev1 b : Nat} {ret : Option FieldType} {r : Option Value} (As : List Value) {st0 : List Value} (E : g_C p s m args c cc own D aC Z) (hml : c.maxLocals = nL) (hls : ls.size = nL) (hM : n_At D aC B Y n mem H0 H locs) (hw : g_CX own index y bytes maxL ret na)
    (hc : g_MetZ l y bytes maxL ret lev1 D aC B Y n Z1 mem (.ref b :: As) r mem') (hF1 : n_Fr n mem') (hcell : ∃ cell : Cell, H[b]? = some cell ∧ cell.vm.isStatics = false ∧ s.vm.findClass y.cls = some cell.cls) (hZb : ∀ U, Z1 U → ∀ (g : JFrame) (mk : MethodId) (a : Array Value), Z1 (U.calling g mk a)) (hZ1 : ∀ U : State, U.heap = H → s.WarmedH U.vm → Z1 U) (hfr : lev1 + 1 ≤ R.frames) (hlo : 8 + (maxL + 11) + 64 * lev1 ≤ R.locals) (hn : As.length = na) (hst : st0 = As.reverse ++ .ref b :: rest) (hW : (rest.map fun v => v.category).sum ≤ 8) (hdg : decode cc pc = .ok (.invokevirtual index, 3)) (hf : cells ≤ R.cells ∧ slots ≤ R.slots)
    (kk : ∀ (H1 : Heap) (locs1 : List Loc), n_At D aC B Y n mem' H0 H1 locs1 → W p l e R s m args below meth c H1 locs1 cells slots Q (F0 m (pc + 3) ls (r.toList ++ rest))) : W p l e R s m args below meth c H locs cells slots Q (F0 m pc ls st0) := by
  obtain ⟨⟨q1, q2, q3, q4, q5⟩, h2, h3⟩ := hw
  obtain ⟨hx, hb, hown, hts, hK, hZ⟩ := E
  have hB : CallB R s args own index y bytes maxL ret (.code y bytes maxL ret :: g_ws) (g_rm lev1) 0 0 na := by
    refine callB_of (Ts := g_ws) (ws' := g_ws) na hts ?_ rfl rfl rfl (hts _ q2) (hts _ q1) q4 ⟨hfr, hlo⟩
    intro w hw
    rcases List.mem_cons.mp hw with rfl | hw
    · exact ⟨q3, g_good q3⟩
    · exact ⟨hw, g_good hw⟩
  exact n_backG (rest := rest) hM hF1 (va_runV (C := y.cls) (b := b) (Ts := g_ws) (nL := nL) (As := As) ⟨hx, hb, hml, hown, hts⟩ hc ⟨hB, hts _ h2, hts _ h3⟩ ⟨g_blind hZb, hcell, fun U hU hW => ⟨rfl, by rw [hU]; exact hM.1, va_K.moved hW.alike hK, hZ1 U hU hW⟩⟩ rfl hn hls hst (lv_room hW) hdg hf) kk
end NC
theorem g_SA.narrow {A A1 : Nat → Prop} {a v : Nat} {U : State} (h : g_SA A a v U) (hA : ∀ q, A1 q → A q) : g_SA A1 a v U := by
  obtain ⟨h1, h2, h3, h4, h5, h6⟩ := h
  exact ⟨h1.narrow hA, h2.narrow hA, h3.narrow hA, h4.narrow hA, h5.narrow hA, h6.narrow hA⟩
theorem g_Zs.narrow {A A1 : Nat → Prop} {U : State} (h : g_Zs A U) (hA : ∀ q, A1 q → A q) : g_Zs A1 U := by
  obtain ⟨⟨a, v, h1, h2⟩, a', v', h3, h4⟩ := h
  exact ⟨⟨a, v, h1, h2.narrow hA⟩, a', v', h3, h4.narrow hA⟩
def zN (B : Nat) (U : State) : Prop := g_Zs (n_A B) U ∧ va_Nw (.methodLinkNest RX10 19 yX9_init "PartsFerry") U ∧ va_Nw (.methodLinkNest RX9 54 yX2_init "PartsFerry") U ∧ va_Nw (.methodLinkNest RX10 76 yX4_init "PartsFerry") U ∧ va_Nw (.methodLinkNest RX10 83 yX6_init "PartsFerry") U ∧ va_Nw (.methodLinkNest RX10 90 yX3_init "PartsFerry") U
theorem zN.calling {B : Nat} {U : State} (h : zN B U) (g : JFrame) (mk : MethodId) (ar : Array Value) : zN B (U.calling g mk ar) := by
  obtain ⟨h0, h1, h2, h3, h4, h5⟩ := h
  exact ⟨h0.calling g mk ar, va_Nw.same rfl (u := U) rfl h1, va_Nw.same rfl (u := U) rfl h2, va_Nw.same rfl (u := U) rfl h3, va_Nw.same rfl (u := U) rfl h4, va_Nw.same rfl (u := U) rfl h5⟩
theorem zN.warm {B : Nat} {s U : State} (hW : s.WarmedH U.vm) (hk : ∀ q : Nat, q < s.heap.size → ¬ n_A B q → U.heap[q]? = s.heap[q]?) (h : zN B s) : zN B U := by
  obtain ⟨h0, h1, h2, h3, h4, h5⟩ := h
  exact ⟨h0.warm hW hk, h1.warmM hW, h2.warmM hW, h3.warmM hW, h4.warmM hW, h5.warmM hW⟩
theorem n_SAat {D : va_G} {aC : Nat → ClassId} {B n a v : Nat} {Y : g_Y} {mem : g_M} {s : State} {H : Heap} {locs : List Loc} (h : g_SA (n_A B) a v s) (hM : n_At D aC B Y n mem s.heap H locs) : ∀ U : State, U.heap = H → s.WarmedH U.vm → g_SA (g_A B n) a v U :=
  fun U hU hW => (h.warm hW.alike (fun q h1 h2 => by rw [hU]; exact hM.2.1.2.1 q h1 h2)).narrow (fun q h => h.1)
theorem n_SAcell {D : va_G} {aC : Nat → ClassId} {B n a v : Nat} {Y : g_Y} {mem : g_M} {s : State} {H : Heap} {locs : List Loc} (h : g_SA (n_A B) a v s) (hM : n_At D aC B Y n mem s.heap H locs) : ∃ cell : Cell, H[a]? = some cell ∧ cell.vm.isStatics = false ∧ s.vm.findClass "java/lang/String" = some cell.cls := by
  obtain ⟨cell, h1, h2, h3, -⟩ := h.1.kept hM.2.1.2.1
  exact ⟨cell, h1, h2, h3⟩
def yC0 : g_Y := (yC.1, fun _ _ => none)
def yM0 : g_Y := (yM.1, fun _ _ => none)
