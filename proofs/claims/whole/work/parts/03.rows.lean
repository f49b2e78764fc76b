/-! rows of the machine over a system's memory -/
def g_rm (lev : Nat) : Room := { frames := lev, cells := 0, slots := 0, locals := 64 * lev }
section GR
variable {p : Program} {l : Launch} {e : Env} {R : Room} {s : State} {m : MethodId} {args : Array Value} {below : List Frame} {meth : Method} {c : Code} {H : Heap} {locs : List Loc} {cells slots : Nat} {Q : State → Prop}
variable {cc : ByteArray} {pc : Nat} {ls : Array Slot} {rest : List Value} {D : va_G} {aC : Nat → ClassId} {B n : Nat} {Y : g_Y} {mem : g_M} {H0 : Heap} {own : String} {Z : State → Prop}
theorem g_get (E : g_C p s m args c cc own D aC Z) (hM : g_At D aC B Y n mem H0 H locs) {o ci k index : Nat} {r : Bool} (ho : o < n) (hY : Y.1 o = (ci, 0)) (hF : g_FL own index ci k r) (hdg : decode cc pc = .ok (.getfield index, 3))
    (kk : W p l e R s m args below meth c H locs cells slots Q (F0 m (pc + 3) ls (g_fv B Y mem o ci k :: rest))) : W p l e R s m args below meth c H locs cells slots Q (F0 m pc ls (.ref (B + o) :: rest)) := by
  obtain ⟨hx, hb, hown, hts, hK, hZ⟩ := E
  obtain ⟨⟨C, T, N⟩, hc, hk, -, hw⟩ := hF
  obtain ⟨h1, h2, h3, h4, h5⟩ := g_cl ci _ hc
  refine va_get hx hb hts h1 hown hK hM.1 o (by rw [g_Wat ho, g_Eobj hY h5]) hc k hk (hts _ hw) (fun _ h => h) (g_fs_get (by rw [h4]; exact hk)) hdg kk
theorem g_getI (E : g_C p s m args c cc own D aC Z) (hM : g_At D aC B Y n mem H0 H locs) {o ci k index : Nat} (ho : o < n) (hY : Y.1 o = (ci, 0)) (hF : g_FL own index ci k false) (hdg : decode cc pc = .ok (.getfield index, 3))
    (kk : W p l e R s m args below meth c H locs cells slots Q (F0 m (pc + 3) ls (.int (mem.1 o k) :: rest))) : W p l e R s m args below meth c H locs cells slots Q (F0 m pc ls (.ref (B + o) :: rest)) := by
  refine g_get E hM ho hY hF hdg ?_
  obtain ⟨q, -, -, hr, -⟩ := hF
  unfold g_fv
  rw [if_neg (by rw [hr]; decide)]
  exact kk
theorem g_getR (E : g_C p s m args c cc own D aC Z) (hM : g_At D aC B Y n mem H0 H locs) {o ci k index q : Nat} (ho : o < n) (hY : Y.1 o = (ci, 0)) (hF : g_FL own index ci k true) (hq : g_pt Y mem o k = some q) (hdg : decode cc pc = .ok (.getfield index, 3))
    (kk : W p l e R s m args below meth c H locs cells slots Q (F0 m (pc + 3) ls (.ref (B + q) :: rest))) : W p l e R s m args below meth c H locs cells slots Q (F0 m pc ls (.ref (B + o) :: rest)) := by
  refine g_get E hM ho hY hF hdg ?_
  obtain ⟨q, -, -, hr, -⟩ := hF
  unfold g_fv
  rw [if_pos hr, hq]
  exact kk
theorem g_getP (E : g_C p s m args c cc own D aC Z) (hM : g_At D aC B Y n mem H0 H locs) {o ci k index q : Nat} (ho : o < n) (hY : Y.1 o = (ci, 0)) (hF : g_FL own index ci k true) (hp : Y.2 o k = some q) (hdg : decode cc pc = .ok (.getfield index, 3))
    (kk : W p l e R s m args below meth c H locs cells slots Q (F0 m (pc + 3) ls (.ref (B + q) :: rest))) : W p l e R s m args below meth c H locs cells slots Q (F0 m pc ls (.ref (B + o) :: rest)) :=
  g_getR E hM ho hY hF (by unfold g_pt; rw [hp]) hdg kk
theorem g_getD (E : g_C p s m args c cc own D aC Z) (hM : g_At D aC B Y n mem H0 H locs) {o ci k index q : Nat} (ho : o < n) (hY : Y.1 o = (ci, 0)) (hF : g_FL own index ci k true) (hp : Y.2 o k = none) (hq : mem.2.2 o k = some q) (hdg : decode cc pc = .ok (.getfield index, 3))
    (kk : W p l e R s m args below meth c H locs cells slots Q (F0 m (pc + 3) ls (.ref (B + q) :: rest))) : W p l e R s m args below meth c H locs cells slots Q (F0 m pc ls (.ref (B + o) :: rest)) :=
  g_getR E hM ho hY hF (by unfold g_pt; rw [hp]; exact hq) hdg kk
theorem g_put (E : g_C p s m args c cc own D aC Z) (hM : g_At D aC B Y n mem H0 H locs) {o ci k index : Nat} {ty : FieldType} {v : Value} {mem' : g_M} (ho : o < n) (hY : Y.1 o = (ci, 0)) (hF : g_FP own index ci k ty) (hn : narrow ty v = v) (hfit : fits ty v = true)
    (hv : v = g_fv B Y mem' o ci k) (h1 : ∀ j, j ≠ k → g_fv B Y mem' o ci j = g_fv B Y mem o ci j) (h2 : ∀ a, a ≠ o → g_E aC B Y mem' a = g_E aC B Y mem a) (hdg : decode cc pc = .ok (.putfield index, 3))
    (kk : ∀ (H1 : Heap) (locs1 : List Loc), g_At D aC B Y n mem' H0 H1 locs1 → W p l e R s m args below meth c H1 locs1 cells slots Q (F0 m (pc + 3) ls rest)) : W p l e R s m args below meth c H locs cells slots Q (F0 m pc ls (v :: .ref (B + o) :: rest)) := by
  obtain ⟨hx, hb, hown, hts, hK, hZ⟩ := E
  obtain ⟨⟨C, T, N⟩, hc, hk, hfin, hty, hw⟩ := hF
  obtain ⟨g1, g2, g3, g4, g5⟩ := g_cl ci _ hc
  refine va_put hx hb hts g1 (g_ty ci) g2 g3 hown hK hM.1 g_WD hM.2 o (by rw [g_Wat ho, g_Eobj hY g5]) hc k hk (hts _ hw) (fun _ h => h) hfin (ty := ty) (by rw [g2 k hk, hty]) hn hfit (by simp [g_fs]; rw [g4]; exact hk) hdg (fun H1 locs1 q1 _ q3 => kk H1 locs1 ⟨?_, q3⟩)
  rw [g_fs_set (m' := mem') hv h1, g_Wset (m' := mem') (g_Eobj hY g5).symm h2] at q1
  exact q1
theorem g_fvI_ne {o ci k j : Nat} {v : Int32} (h : j ≠ k) : g_fv B Y (g_sI mem o k v) o ci j = g_fv B Y mem o ci j := by
  unfold g_fv g_sI g_pt
  simp [g_up, h]
theorem g_EI_ne {o k a : Nat} {v : Int32} (h : a ≠ o) : g_E aC B Y (g_sI mem o k v) a = g_E aC B Y mem a := g_Esame (g_up_o h) rfl rfl
theorem g_EL_ne {o k a : Nat} {v : Int64} (h : a ≠ o) : g_E aC B Y (g_sL mem o k v) a = g_E aC B Y mem a := g_Esame rfl (g_up_o h) rfl
theorem g_putI (E : g_C p s m args c cc own D aC Z) (hM : g_At D aC B Y n mem H0 H locs) {o ci k index : Nat} {v : Int32} (ho : o < n) (hY : Y.1 o = (ci, 0)) (hF : g_FP own index ci k .int) (hdg : decode cc pc = .ok (.putfield index, 3))
    (kk : ∀ (H1 : Heap) (locs1 : List Loc), g_At D aC B Y n (g_sI mem o k v) H0 H1 locs1 → W p l e R s m args below meth c H1 locs1 cells slots Q (F0 m (pc + 3) ls rest)) : W p l e R s m args below meth c H locs cells slots Q (F0 m pc ls (.int v :: .ref (B + o) :: rest)) := by
  have hr : g_rf ci k = false := by
    obtain ⟨q, -, -, -, hty, -⟩ := hF
    unfold g_rf; rw [hty]; rfl
  refine g_put E hM ho hY hF (vp_nar_int v) rfl ?_ (fun j hj => g_fvI_ne hj) (fun a ha => g_EI_ne ha) hdg kk
  unfold g_fv g_sI
  rw [hr]
  simp [g_up]
theorem g_putZ (E : g_C p s m args c cc own D aC Z) (hM : g_At D aC B Y n mem H0 H locs) {o ci k index : Nat} {v : Int32} (ho : o < n) (hY : Y.1 o = (ci, 0)) (hF : g_FP own index ci k .boolean) (hv : v = 0 ∨ v = 1) (hdg : decode cc pc = .ok (.putfield index, 3))
    (kk : ∀ (H1 : Heap) (locs1 : List Loc), g_At D aC B Y n (g_sI mem o k v) H0 H1 locs1 → W p l e R s m args below meth c H1 locs1 cells slots Q (F0 m (pc + 3) ls rest)) : W p l e R s m args below meth c H locs cells slots Q (F0 m pc ls (.int v :: .ref (B + o) :: rest)) := by
  have hr : g_rf ci k = false := by
    obtain ⟨q, -, -, -, hty, -⟩ := hF
    unfold g_rf; rw [hty]; rfl
  refine g_put E hM ho hY hF ?_ ?_ ?_ (fun j hj => g_fvI_ne hj) (fun a ha => g_EI_ne ha) hdg kk
  · rcases hv with rfl | rfl <;> rfl
  · rcases hv with rfl | rfl <;> rfl
  · unfold g_fv g_sI
    rw [hr]
    simp [g_up]
theorem g_putR (E : g_C p s m args c cc own D aC Z) (hM : g_At D aC B Y n mem H0 H locs) {o ci k index q : Nat} {C : String} (ho : o < n) (hY : Y.1 o = (ci, 0)) (hF : g_FP own index ci k (.object C)) (hp : Y.2 o k = none) (hdg : decode cc pc = .ok (.putfield index, 3))
    (kk : ∀ (H1 : Heap) (locs1 : List Loc), g_At D aC B Y n (g_sR mem o k (some q)) H0 H1 locs1 → W p l e R s m args below meth c H1 locs1 cells slots Q (F0 m (pc + 3) ls rest)) : W p l e R s m args below meth c H locs cells slots Q (F0 m pc ls (.ref (B + q) :: .ref (B + o) :: rest)) := by
  have hr : g_rf ci k = true := by
    obtain ⟨q, -, -, -, hty, -⟩ := hF
    unfold g_rf; rw [hty]; rfl
  refine g_put (mem' := g_sR mem o k (some q)) E hM ho hY hF rfl rfl ?_ (fun j hj => ?_) (fun a ha => g_Esame rfl rfl (g_up_o ha)) hdg kk
  · unfold g_fv g_sR g_pt
    rw [if_pos hr, hp]
    simp [g_up, va_rf]
  · unfold g_fv g_sR g_pt
    simp [g_up, hj]
theorem g_iald (E : g_C p s m args c cc own D aC Z) (hM : g_At D aC B Y n mem H0 H locs) {o L : Nat} {i : Int32} (ho : o < n) (hY : Y.1 o = (50, L)) (hi : vp_in i L) (hdg : decode cc pc = .ok (.iaload, 1))
    (kk : W p l e R s m args below meth c H locs cells slots Q (F0 m (pc + 1) ls (.int (mem.1 o i.toNatClampNeg) :: rest))) : W p l e R s m args below meth c H locs cells slots Q (F0 m pc ls (.int i :: .ref (B + o) :: rest)) :=
  va_iald E.1 E.2.1 E.2.2.2.2.1 hM.1 o 0 (by rw [g_Wat ho, g_EI hY]) rfl hi hdg kk
theorem g_lald (E : g_C p s m args c cc own D aC Z) (hM : g_At D aC B Y n mem H0 H locs) {o L : Nat} {i : Int32} (ho : o < n) (hY : Y.1 o = (51, L)) (hi : vp_in i L) (hdg : decode cc pc = .ok (.laload, 1))
    (kk : W p l e R s m args below meth c H locs cells slots Q (F0 m (pc + 1) ls (.long (mem.2.1 o i.toNatClampNeg) :: rest))) : W p l e R s m args below meth c H locs cells slots Q (F0 m pc ls (.int i :: .ref (B + o) :: rest)) :=
  va_lald E.1 E.2.1 E.2.2.2.2.1 hM.1 o 1 (by rw [g_Wat ho, g_EL hY]) rfl hi hdg kk
theorem g_zald (E : g_C p s m args c cc own D aC Z) (hM : g_At D aC B Y n mem H0 H locs) {o L : Nat} {i : Int32} (ho : o < n) (hY : Y.1 o = (52, L)) (hi : vp_in i L) (hdg : decode cc pc = .ok (.baload, 1))
    (kk : W p l e R s m args below meth c H locs cells slots Q (F0 m (pc + 1) ls (.int (mem.1 o i.toNatClampNeg) :: rest))) : W p l e R s m args below meth c H locs cells slots Q (F0 m pc ls (.int i :: .ref (B + o) :: rest)) :=
  va_zald E.1 E.2.1 E.2.2.2.2.1 hM.1 o 2 (by rw [g_Wat ho, g_EZ hY]) rfl hi hdg kk
theorem g_bald (E : g_C p s m args c cc own D aC Z) (hM : g_At D aC B Y n mem H0 H locs) {o L : Nat} {i : Int32} (ho : o < n) (hY : Y.1 o = (53, L)) (hi : vp_in i L) (hdg : decode cc pc = .ok (.baload, 1))
    (kk : W p l e R s m args below meth c H locs cells slots Q (F0 m (pc + 1) ls (.int (mem.1 o i.toNatClampNeg) :: rest))) : W p l e R s m args below meth c H locs cells slots Q (F0 m pc ls (.int i :: .ref (B + o) :: rest)) :=
  va_bald E.1 E.2.1 E.2.2.2.2.1 hM.1 o 3 (by rw [g_Wat ho, g_EB hY]) rfl hi hdg kk
theorem g_iast (E : g_C p s m args c cc own D aC Z) (hM : g_At D aC B Y n mem H0 H locs) {o L : Nat} {i x : Int32} (ho : o < n) (hY : Y.1 o = (50, L)) (hi : vp_in i L) (hdg : decode cc pc = .ok (.iastore, 1))
    (kk : ∀ (H1 : Heap) (locs1 : List Loc), g_At D aC B Y n (g_sI mem o i.toNatClampNeg x) H0 H1 locs1 → W p l e R s m args below meth c H1 locs1 cells slots Q (F0 m (pc + 1) ls rest)) : W p l e R s m args below meth c H locs cells slots Q (F0 m pc ls (.int x :: .int i :: .ref (B + o) :: rest)) := by
  refine va_iast E.1 E.2.1 E.2.2.2.2.1 hM.1 g_WD hM.2 o 0 (by rw [g_Wat ho, g_EI hY]) rfl hi hdg (fun H1 locs1 q1 _ q3 => kk H1 locs1 ⟨?_, q3⟩)
  rw [g_Wset (m' := g_sI mem o i.toNatClampNeg x) (by rw [g_EI hY]; show _ = Sum.inl (aC 0, L, Sum.inl (g_up mem.1 o _ x o)); rw [g_up_i]) (fun a ha => g_EI_ne ha)] at q1
  exact q1
theorem g_last (E : g_C p s m args c cc own D aC Z) (hM : g_At D aC B Y n mem H0 H locs) {o L : Nat} {i : Int32} {x : Int64} (ho : o < n) (hY : Y.1 o = (51, L)) (hi : vp_in i L) (hdg : decode cc pc = .ok (.lastore, 1))
    (kk : ∀ (H1 : Heap) (locs1 : List Loc), g_At D aC B Y n (g_sL mem o i.toNatClampNeg x) H0 H1 locs1 → W p l e R s m args below meth c H1 locs1 cells slots Q (F0 m (pc + 1) ls rest)) : W p l e R s m args below meth c H locs cells slots Q (F0 m pc ls (.long x :: .int i :: .ref (B + o) :: rest)) := by
  refine va_last E.1 E.2.1 E.2.2.2.2.1 hM.1 g_WD hM.2 o 1 (by rw [g_Wat ho, g_EL hY]) rfl hi hdg (fun H1 locs1 q1 _ q3 => kk H1 locs1 ⟨?_, q3⟩)
  rw [g_Wset (m' := g_sL mem o i.toNatClampNeg x) (by rw [g_EL hY]; show _ = Sum.inl (aC 1, L, Sum.inr (Sum.inl (g_up mem.2.1 o _ x o))); rw [g_up_l]) (fun a ha => g_EL_ne ha)] at q1
  exact q1
theorem g_zast (E : g_C p s m args c cc own D aC Z) (hM : g_At D aC B Y n mem H0 H locs) {o L : Nat} {i x : Int32} (ho : o < n) (hY : Y.1 o = (52, L)) (hi : vp_in i L) (hx : x = 0 ∨ x = 1) (hdg : decode cc pc = .ok (.bastore, 1))
    (kk : ∀ (H1 : Heap) (locs1 : List Loc), g_At D aC B Y n (g_sI mem o i.toNatClampNeg x) H0 H1 locs1 → W p l e R s m args below meth c H1 locs1 cells slots Q (F0 m (pc + 1) ls rest)) : W p l e R s m args below meth c H locs cells slots Q (F0 m pc ls (.int x :: .int i :: .ref (B + o) :: rest)) := by
  have hz : vp_nar .boolean x = x := by rcases hx with rfl | rfl <;> rfl
  refine va_zast E.1 E.2.1 E.2.2.2.2.1 hM.1 g_WD hM.2 o 2 (by rw [g_Wat ho, g_EZ hY]) rfl hi hdg (fun H1 locs1 q1 _ q3 => kk H1 locs1 ⟨?_, q3⟩)
  rw [hz, g_Wset (m' := g_sI mem o i.toNatClampNeg x) (by rw [g_EZ hY]; show _ = Sum.inl (aC 2, L, Sum.inl (g_up mem.1 o _ x o)); rw [g_up_i]) (fun a ha => g_EI_ne ha)] at q1
  exact q1
theorem g_bast (E : g_C p s m args c cc own D aC Z) (hM : g_At D aC B Y n mem H0 H locs) {o L : Nat} {i x : Int32} (ho : o < n) (hY : Y.1 o = (53, L)) (hi : vp_in i L) (hdg : decode cc pc = .ok (.bastore, 1))
    (kk : ∀ (H1 : Heap) (locs1 : List Loc), g_At D aC B Y n (g_sI mem o i.toNatClampNeg x.toInt8.toInt32) H0 H1 locs1 → W p l e R s m args below meth c H1 locs1 cells slots Q (F0 m (pc + 1) ls rest)) : W p l e R s m args below meth c H locs cells slots Q (F0 m pc ls (.int x :: .int i :: .ref (B + o) :: rest)) := by
  have hz := vp_nar_byte x
  refine va_bast E.1 E.2.1 E.2.2.2.2.1 hM.1 g_WD hM.2 o 3 (by rw [g_Wat ho, g_EB hY]) rfl hi hdg (fun H1 locs1 q1 _ q3 => kk H1 locs1 ⟨?_, q3⟩)
  rw [hz, g_Wset (m' := g_sI mem o i.toNatClampNeg x.toInt8.toInt32) (by rw [g_EB hY]; show _ = Sum.inl (aC 3, L, Sum.inl (g_up mem.1 o _ _ o)); rw [g_up_i]) (fun a ha => g_EI_ne ha)] at q1
  exact q1
theorem g_alenI (E : g_C p s m args c cc own D aC Z) (hM : g_At D aC B Y n mem H0 H locs) {o L : Nat} {v : Int32} (ho : o < n) (hY : Y.1 o = (50, L)) (hv : Int32.ofNat L = v) (hdg : decode cc pc = .ok (.arraylength, 1))
    (kk : W p l e R s m args below meth c H locs cells slots Q (F0 m (pc + 1) ls (.int v :: rest))) : W p l e R s m args below meth c H locs cells slots Q (F0 m pc ls (.ref (B + o) :: rest)) :=
  va_alen E.1 E.2.1 E.2.2.2.2.1 hM.1 o 0 (by rw [g_Wat ho, g_EI hY]) rfl hv hdg kk
theorem g_alenZ (E : g_C p s m args c cc own D aC Z) (hM : g_At D aC B Y n mem H0 H locs) {o L : Nat} {v : Int32} (ho : o < n) (hY : Y.1 o = (52, L)) (hv : Int32.ofNat L = v) (hdg : decode cc pc = .ok (.arraylength, 1))
    (kk : W p l e R s m args below meth c H locs cells slots Q (F0 m (pc + 1) ls (.int v :: rest))) : W p l e R s m args below meth c H locs cells slots Q (F0 m pc ls (.ref (B + o) :: rest)) :=
  va_alen E.1 E.2.1 E.2.2.2.2.1 hM.1 o 2 (by rw [g_Wat ho, g_EZ hY]) rfl hv hdg kk
theorem g_copy (E : g_C p s m args c cc own D aC Z) (hml : c.maxLocals = ls.size) (hM : g_At D aC B Y n mem H0 H locs) {index : Nat} (hl : Cond.methodLink own index arraycopyName ∈ g_ws) (hnat : Cond.native arraycopyName ∈ g_ws) (hsta : Cond.static arraycopyName ∈ g_ws) (hini : Cond.initialized "java/lang/System" ∈ g_ws)
    {o1 o2 L1 L2 : Nat} {sp dp cn : Int32} (ho1 : o1 < n) (hY1 : Y.1 o1 = (50, L1)) (ho2 : o2 < n) (hY2 : Y.1 o2 = (50, L2)) (h1 : ¬ sp < 0) (h2 : ¬ dp < 0) (h3 : ¬ cn < 0) (h4 : sp.toNatClampNeg + cn.toNatClampNeg ≤ L1) (h5 : dp.toNatClampNeg + cn.toNatClampNeg ≤ L2) (hR1 : 1 ≤ R.frames) (hR2 : (rest.map fun v => v.category).sum + (nativeFrameWords "java/lang/System" "arraycopy" 5 + 11) ≤ R.locals) (hdg : decode cc pc = .ok (.invokestatic index, 3))
    (kk : ∀ (H1 : Heap) (locs1 : List Loc), g_At D aC B Y n (g_cI mem o1 sp.toNatClampNeg o2 dp.toNatClampNeg cn.toNatClampNeg) H0 H1 locs1 → W p l e R s m args below meth c H1 locs1 cells slots Q (F0 m (pc + 3) ls rest)) : W p l e R s m args below meth c H locs cells slots Q (F0 m pc ls (.int cn :: .int dp :: .ref (B + o2) :: .int sp :: .ref (B + o1) :: rest)) := by
  obtain ⟨hx, hb, hown, hts, hK, hZ⟩ := E
  refine va_copyi hx hb hml hown (hts _ hl) (hts _ hnat) (hts _ hsta) (hts _ hini) hK hM.1 g_WD hM.2 o1 o2 0 0 (ty := .int) (by rw [g_Wat ho1, g_EI hY1]) (by rw [g_Wat ho2, g_EI hY2]) rfl rfl rfl h1 h2 h3 h4 h5 (fun _ _ => rfl) hR1 hR2 hdg (fun H1 locs1 q1 _ q3 => kk H1 locs1 ⟨?_, q3⟩)
  rw [g_Wset (m := mem) (m' := g_cI mem o1 sp.toNatClampNeg o2 dp.toNatClampNeg cn.toNatClampNeg) (by rw [g_EI hY2]; simp [g_cI]) (fun a ha => g_Esame (by simp [g_cI, ha]) rfl rfl)] at q1
  exact q1
end GR
/-! contracts -/
def g_Pre (D : va_G) (aC : Nat → ClassId) (B : Nat) (Y : g_Y) (n : Nat) (Z : State → Prop) (mem : g_M) (av : List Value) : Array Value → State → Prop := va_Pc av (fun U => va_P D vwCl (g_W aC B Y n mem) U.heap ∧ va_K D vwCl (g_tys aC) U ∧ Z U)
def g_Post (D : va_G) (aC : Nat → ClassId) (B : Nat) (Y : g_Y) (n : Nat) (mem' : g_M) (r : Option Value) : Array Value → State → Outcome → State → Prop := fun _ st o t => o = .returned r ∧ va_P D vwCl (g_W aC B Y n mem') t.heap ∧ va_F (g_A B n) st t
def g_MetZ (l : Launch) (y : MethodName) (cc : ByteArray) (maxL : Nat) (ret : Option FieldType) (lev : Nat) (D : va_G) (aC : Nat → ClassId) (B : Nat) (Y : g_Y) (n : Nat) (Z : State → Prop) (mem : g_M) (av : List Value) (r : Option Value) (mem' : g_M) : Prop :=
  Met l y (.code y cc maxL ret :: g_ws) (g_rm lev) (g_Pre D aC B Y n Z mem av) (g_Post D aC B Y n mem' r) 0 0 (g_A B n)
abbrev g_Met (l : Launch) (y : MethodName) (cc : ByteArray) (maxL : Nat) (ret : Option FieldType) (lev : Nat) (D : va_G) (aC : Nat → ClassId) (B : Nat) (Y : g_Y) (n : Nat) (mem : g_M) (av : List Value) (r : Option Value) (mem' : g_M) : Prop := g_MetZ l y cc maxL ret lev D aC B Y n (g_Zs (g_A B n)) mem av r mem'
theorem g_blind {D : va_G} {aC : Nat → ClassId} {B : Nat} {Y : g_Y} {n : Nat} {Z : State → Prop} {mem : g_M} {av : List Value} (hb : ∀ U, Z U → ∀ (g : JFrame) (mk : MethodId) (a : Array Value), Z (U.calling g mk a)) : FrameBlind (g_Pre D aC B Y n Z mem av) := by
  intro a U g mk q
  obtain ⟨q0, qP, qK, qZ⟩ := q
  exact ⟨q0, qP, va_K.moved (u := U) (U := U.calling g mk a) (Vm.Alike.refl U.vm) qK, hb U qZ g mk a⟩
/-- the words of a call -/
def g_CB (own : String) (index : Nat) (y : MethodName) (cc : ByteArray) (maxL : Nat) (ret : Option FieldType) (na : Nat) : Prop :=
  Cond.methodLink own index y ∈ g_ws ∧ Cond.initialized y.cls ∈ g_ws ∧ Cond.code y cc maxL ret ∈ g_ws ∧ (y.cls ≠ "java/lang/invoke/MethodHandle" ∧ y.cls ≠ "java/lang/invoke/VarHandle" ∧ (parseMethodDescriptor y.desc).map (fun d => d.parameters.length) = some na) ∧ maxL ≤ 44
def g_CV (own : String) (index ci : Nat) (y : MethodName) (cc : ByteArray) (maxL : Nat) (ret : Option FieldType) (na : Nat) : Prop :=
  g_CB own index y cc maxL ret na ∧ Cond.instanceMethod y ∈ g_ws ∧ Cond.selects y.cls y y ∈ g_ws ∧ ∃ q : vw_C, vwCl[ci]? = some q ∧ q.1 = y.cls
def g_CS (own : String) (index : Nat) (y : MethodName) (cc : ByteArray) (maxL : Nat) (ret : Option FieldType) (na : Nat) : Prop :=
  g_CB own index y cc maxL ret na ∧ Cond.static y ∈ g_ws
section GC
variable {p : Program} {l : Launch} {e : Env} {s : State} {m : MethodId} {args : Array Value} {below : List Frame} {meth : Method} {c : Code} {H : Heap} {locs : List Loc} {Q : State → Prop}
variable {cc : ByteArray} {pc : Nat} {ls : Array Slot} {rest : List Value} {D : va_G} {aC : Nat → ClassId} {B n : Nat} {Y : g_Y} {mem mem' : g_M} {H0 : Heap} {own : String} {Z : State → Prop} {lev : Nat}
theorem g_callB {y : MethodName} {bytes : ByteArray} {maxL na index lev1 : Nat} {ret : Option FieldType} (E : g_C p s m args c cc own D aC Z) (hc : g_CB own index y bytes maxL ret na) (hlev : lev1 + 1 ≤ lev) :
    CallB (g_rm lev) s args own index y bytes maxL ret (.code y bytes maxL ret :: g_ws) (g_rm lev1) 0 0 na := by
  obtain ⟨hx, hb, hown, hts, hK, hZ⟩ := E
  obtain ⟨h1, h2, h3, h4, h5⟩ := hc
  refine callB_of (Ts := g_ws) (ws' := g_ws) na hts ?_ rfl rfl rfl (hts _ h2) (hts _ h1) h4 ⟨hlev, ?_⟩
  · intro w hw
    rcases List.mem_cons.mp hw with rfl | hw
    · exact ⟨h3, g_good h3⟩
    · exact ⟨hw, g_good hw⟩
  · show 8 + (maxL + 11) + 64 * lev1 ≤ 64 * lev
    omega
theorem g_back {mem1 : g_M} {g : JFrame} {r : Option Value} {a : Array Value} (hM : g_At D aC B Y n mem H0 H locs) (hr : va_Run p l e (g_rm lev) s m args below meth c H locs 0 0 0 0 g rest (g_Post D aC B Y n mem1 r a) (g_A B n))
    (kk : ∀ (H1 : Heap) (locs1 : List Loc), g_At D aC B Y n mem1 H0 H1 locs1 → W p l e (g_rm lev) s m args below meth c H1 locs1 0 0 Q { g with pc := g.pc + 3, stack := r.toList ++ rest }) : W p l e (g_rm lev) s m args below meth c H locs 0 0 Q g := by
  intro T hT X
  obtain ⟨v, st₀, t, T', L, h0, X', hL, e1, e2, ⟨hv, hP, hz, hk⟩, st⟩ := hr T hT X
  cases hv
  rw [h0] at hz hk
  obtain ⟨hP0, hS⟩ := hM
  obtain ⟨t2, a1, b1⟩ := kk T'.heap (locs ++ L) ⟨by rw [e1]; exact hP, Nat.le_trans hS.1 (by rw [e1]; exact hz), fun q h1 h2 => by rw [e1, hk q (Nat.lt_of_lt_of_le h1 hS.1) h2]; exact hS.2.1 q h1 h2, fun q hq => by
      rcases List.mem_append.mp hq with h | h
      · exact hS.2.2 q h
      · exact hL q h⟩ T' rfl X'
  exact ⟨t2, st t2 a1, b1⟩
theorem g_callV {y : MethodName} {bytes : ByteArray} {maxL nL na index lev1 ci o : Nat} {ret : Option FieldType} {r : Option Value} (As : List Value) {st0 : List Value} (E : g_C p s m args c cc own D aC (g_Zs (g_A B n))) (hml : c.maxLocals = nL) (hls : ls.size = nL) (hM : g_At D aC B Y n mem s.heap H locs) (hw : g_CV own index ci y bytes maxL ret na)
    (hc : g_Met l y bytes maxL ret lev1 D aC B Y n mem (.ref (B + o) :: As) r mem') (ho : o < n) (hY : Y.1 o = (ci, 0)) (hlev : lev1 + 1 ≤ lev) (hn : As.length = na) (hst : st0 = As.reverse ++ .ref (B + o) :: rest) (hW : (rest.map fun v => v.category).sum ≤ 8) (hdg : decode cc pc = .ok (.invokevirtual index, 3))
    (kk : ∀ (H1 : Heap) (locs1 : List Loc), g_At D aC B Y n mem' s.heap H1 locs1 → W p l e (g_rm lev) s m args below meth c H1 locs1 0 0 Q (F0 m (pc + 3) ls (r.toList ++ rest))) : W p l e (g_rm lev) s m args below meth c H locs 0 0 Q (F0 m pc ls st0) := by
  obtain ⟨h1, h2, h3, ⟨C, T, N⟩, h4, h5⟩ := hw
  have E' := E
  obtain ⟨hx, hb, hown, hts, hK, hZ⟩ := E
  obtain ⟨g1, g2, g3, g4, g5⟩ := g_cl ci _ h4
  have hcell := va_recv hK hM.1 h4 (q0 := o) (a := B + o) (fs := g_fs B Y mem o ci) (by rw [g_Wat ho, g_Eobj hY g5])
  refine g_back (rest := rest) hM (va_runV (C := y.cls) (b := B + o) (Ts := g_ws) (nL := nL) (As := As) ⟨hx, hb, hml, hown, hts⟩ hc ⟨g_callB E' h1 hlev, hts _ h2, hts _ h3⟩ ⟨g_blind (fun _ h => h.calling), ?_, fun U hU hW => ⟨rfl, by rw [hU]; exact hM.1, va_K.moved hW.alike hK, hZ.warm hW (fun q h1 h2 => by rw [hU]; exact hM.2.2.1 q h1 h2)⟩⟩ rfl hn hls hst (lv_room hW) hdg ⟨Nat.le_refl _, Nat.le_refl _⟩) kk
  rw [← h5]
  exact hcell
theorem g_callS {y : MethodName} {bytes : ByteArray} {maxL nL na index lev1 : Nat} {ret : Option FieldType} {r : Option Value} (As : List Value) {st0 : List Value} (E : g_C p s m args c cc own D aC (g_Zs (g_A B n))) (hml : c.maxLocals = nL) (hls : ls.size = nL) (hM : g_At D aC B Y n mem s.heap H locs) (hw : g_CS own index y bytes maxL ret na)
    (hc : g_Met l y bytes maxL ret lev1 D aC B Y n mem As r mem') (hlev : lev1 + 1 ≤ lev) (hn : As.length = na) (hst : st0 = As.reverse ++ rest) (hW : (rest.map fun v => v.category).sum ≤ 8) (hdg : decode cc pc = .ok (.invokestatic index, 3))
    (kk : ∀ (H1 : Heap) (locs1 : List Loc), g_At D aC B Y n mem' s.heap H1 locs1 → W p l e (g_rm lev) s m args below meth c H1 locs1 0 0 Q (F0 m (pc + 3) ls (r.toList ++ rest))) : W p l e (g_rm lev) s m args below meth c H locs 0 0 Q (F0 m pc ls st0) := by
  obtain ⟨h1, h2⟩ := hw
  have E' := E
  obtain ⟨hx, hb, hown, hts, hK, hZ⟩ := E
  exact g_back (rest := rest) hM (va_runS (Ts := g_ws) (nL := nL) (As := As) ⟨hx, hb, hml, hown, hts⟩ hc ⟨g_callB E' h1 hlev, hts _ h2⟩ ⟨g_blind (fun _ h => h.calling), fun U hU hW => ⟨rfl, by rw [hU]; exact hM.1, va_K.moved hW.alike hK, hZ.warm hW (fun q h1 h2 => by rw [hU]; exact hM.2.2.1 q h1 h2)⟩⟩ rfl hn hls hst (lv_room hW) hdg ⟨Nat.le_refl _, Nat.le_refl _⟩) kk
/-- the walk's end, of a method that gives an int, a flag, a long, nothing -/
def g_MQ (below : List Frame) (D : va_G) (aC : Nat → ClassId) (B : Nat) (Y : g_Y) (n : Nat) (args : Array Value) (s : State) (r : Option Value) (mem' : g_M) : State → Prop := MQ below (g_Post D aC B Y n mem' r) args s 0 0 (g_A B n)
theorem g_iret {R : Room} {v : Int32} (E : g_C p s m args c cc own D aC Z) (hM : g_At D aC B Y n mem s.heap H locs) (hr : meth.sig.returnType = some .int) (hlocks : meth.locks = false) (hdg : decode cc pc = .ok (.ireturn, 1)) :
    W p l e R s m args below meth c H locs 0 0 (g_MQ below D aC B Y n args s (some (.int v)) mem) (F0 m pc ls [.int v]) :=
  W.iret E.1 E.2.1 hr (fun t ht hW => ⟨rfl, by rw [ht]; exact hM.1, hM.2.F ht⟩) hM.2.2.2 hdg hlocks
theorem g_zret {R : Room} {v : Int32} (E : g_C p s m args c cc own D aC Z) (hM : g_At D aC B Y n mem s.heap H locs) (hr : meth.sig.returnType = some .boolean) (hlocks : meth.locks = false) (hv : v = 0 ∨ v = 1) (hdg : decode cc pc = .ok (.ireturn, 1)) :
    W p l e R s m args below meth c H locs 0 0 (g_MQ below D aC B Y n args s (some (.int v)) mem) (F0 m pc ls [.int v]) :=
  W.zret E.1 E.2.1 hr (by rcases hv with rfl | rfl <;> rfl) (fun t ht hW => ⟨rfl, by rw [ht]; exact hM.1, hM.2.F ht⟩) hM.2.2.2 hdg hlocks
theorem g_lret {R : Room} {v : Int64} (E : g_C p s m args c cc own D aC Z) (hM : g_At D aC B Y n mem s.heap H locs) (hr : meth.sig.returnType = some .long) (hlocks : meth.locks = false) (hdg : decode cc pc = .ok (.lreturn, 1)) :
    W p l e R s m args below meth c H locs 0 0 (g_MQ below D aC B Y n args s (some (.long v)) mem) (F0 m pc ls [.long v]) :=
  W.lret E.1 E.2.1 hr (fun t ht hW => ⟨rfl, by rw [ht]; exact hM.1, hM.2.F ht⟩) hM.2.2.2 hdg hlocks
theorem g_vret {R : Room} (E : g_C p s m args c cc own D aC Z) (hM : g_At D aC B Y n mem s.heap H locs) (hr : meth.sig.returnType = none) (hlocks : meth.locks = false) (hdg : decode cc pc = .ok (.return_, 1)) :
    W p l e R s m args below meth c H locs 0 0 (g_MQ below D aC B Y n args s none mem) (F0 m pc ls []) :=
  W.vret E.1 E.2.1 hr (fun t ht hW => ⟨rfl, by rw [ht]; exact hM.1, hM.2.F ht⟩) hM.2.2.2 hdg hlocks
end GC
/-- a contract out of a walk -/
theorem g_ofW {l : Launch} {y : MethodName} {cc : ByteArray} {maxL : Nat} {ret : Option FieldType} {lev : Nat} {D : va_G} {aC : Nat → ClassId} {B : Nat} {Y : g_Y} {n : Nat} {Z : State → Prop} {mem : g_M} {av : List Value} {r : Option Value} {mem' : g_M} (hy : plainName y.cls = true) (hlen : (lg_sl av).length ≤ maxL)
    (body : ∀ (p : Program) (e : Env) (s : State) (m : MethodId) (args : Array Value) (below : List Frame) (meth : Method) (c : Code) (ls : Array Slot), g_C p s m args c cc y.cls D aC Z → c.maxLocals = maxL → meth.sig.returnType = ret → meth.locks = false → g_At D aC B Y n mem s.heap s.heap [] → lv_has ls maxL (lv_args 0 av) →
      W p l e (g_rm lev) s m args below meth c s.heap [] 0 0 (g_MQ below D aC B Y n args s r mem') (F0 m 0 ls [])) : g_MetZ l y cc maxL ret lev D aC B Y n Z mem av r mem' := by
  refine Met.ofW (cc := cc) (maxL := maxL) (ret := ret) hy rfl ?_
  intro p e s m args below meth c s₁ Bd hml hv
  obtain ⟨rfl, hP, hK, hZ⟩ := hv
  have hts := atoms_spec (ws := Cond.code y cc maxL ret :: g_ws) Bd.pre
  rw [lg_entry_eq]
  exact body p e s m _ below meth c _ ⟨Bd.exec, Bd.bytes, findClass_of_methodNamed Bd.named, fun w hw => hts w (List.mem_cons_of_mem _ hw), hK, hZ⟩ hml Bd.returns Bd.notSynchronized ⟨hP, va_S.rf⟩ (lv_entry av hlen)

section GT
variable {p : Program} {l : Launch} {e : Env} {R : Room} {s : State} {m : MethodId} {args : Array Value} {below : List Frame} {meth : Method} {c : Code} {H : Heap} {locs : List Loc} {cells slots : Nat} {Q : State → Prop} {pc : Nat} {ls : Array Slot} {rest : List Value}
theorem g_topI {x y : Int32} (h : x = y) (k : W p l e R s m args below meth c H locs cells slots Q (F0 m pc ls (.int x :: rest))) : W p l e R s m args below meth c H locs cells slots Q (F0 m pc ls (.int y :: rest)) := h ▸ k
theorem g_topJ {x y : Int64} (h : x = y) (k : W p l e R s m args below meth c H locs cells slots Q (F0 m pc ls (.long x :: rest))) : W p l e R s m args below meth c H locs cells slots Q (F0 m pc ls (.long y :: rest)) := h ▸ k
end GT
