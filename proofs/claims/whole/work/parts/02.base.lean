/-! THE MEMORY OF A SYSTEM: objects 0, 1, .. n-1 at the cells B, B+1, ..; its ints, longs, references by (object, place) -/
def g_ws : List Cond := lw_tbl.filter goodWord
theorem g_mem {w : Cond} (i : Nat) (h : tables_1[i]? = some w) (hg : goodWord w = true) : w ∈ g_ws :=
  List.mem_filter.mpr ⟨List.mem_append.mpr (Or.inr (List.mem_of_getElem? h)), hg⟩
theorem g_memS {w : Cond} (i : Nat) (h : (k2_sels lw_privs)[i]? = some w) (hg : goodWord w = true) : w ∈ g_ws :=
  List.mem_filter.mpr ⟨List.mem_append.mpr (Or.inl (List.mem_of_getElem? h)), hg⟩
theorem g_good {w : Cond} (h : w ∈ g_ws) : (w.onTables && w.keeps) = true ∨ ∃ ty, w = .arrayClass ty := good_of_word (List.mem_filter.mp h).2
abbrev g_M : Type := (Nat → Nat → Int32) × (Nat → Nat → Int64) × (Nat → Nat → Option Nat)
def g_up {α : Type} (f : Nat → Nat → α) (o k : Nat) (v : α) : Nat → Nat → α := fun a j => if a = o then (if j = k then v else f a j) else f a j
def g_sI (m : g_M) (o k : Nat) (v : Int32) : g_M := (g_up m.1 o k v, m.2)
def g_sL (m : g_M) (o k : Nat) (v : Int64) : g_M := (m.1, g_up m.2.1 o k v, m.2.2)
def g_sR (m : g_M) (o k : Nat) (v : Option Nat) : g_M := (m.1, m.2.1, g_up m.2.2 o k v)
def g_cI (m : g_M) (src sp dst dp n : Nat) : g_M := (fun a => if a = dst then va_cpy (m.1 src) (m.1 dst) sp dp n else m.1 a, m.2)
/-- a layout: what each object is (class, 0) or (50 int, 51 long, 52 boolean, 53 byte array, its length); which references are fixed -/
abbrev g_Y : Type := (Nat → Nat × Nat) × (Nat → Nat → Option Nat)
def g_pt (Y : g_Y) (m : g_M) (o k : Nat) : Option Nat := match Y.2 o k with
  | some q => some q
  | none => m.2.2 o k
def g_ty (ci k : Nat) : FieldType := match ci with
  | 0 => tyX0 k | 1 => tyX1 k | 2 => tyX2 k | 3 => tyX3 k | 4 => tyX4 k | 5 => tyX5 k | 6 => tyX6 k | 7 => tyX7 k | 8 => tyX8 k | 9 => tyX9 k | 10 => tyX10 k | _ => tyX11 k
def g_isR (t : FieldType) : Bool := match t with
  | .object _ => true
  | .array _ => true
  | _ => false
def g_rf (ci k : Nat) : Bool := g_isR (g_ty ci k)
def g_nf (ci : Nat) : Nat := match ci with
  | 0 => 9 | 1 => 7 | 2 => 5 | 3 => 2 | 4 => 5 | 5 => 9 | 6 => 8 | 7 => 10 | 8 => 7 | 9 => 14 | 10 => 16 | 11 => 72 | _ => 0
def g_fv (B : Nat) (Y : g_Y) (m : g_M) (o ci k : Nat) : Value := if g_rf ci k = true then va_rf ((g_pt Y m o k).map (fun q => B + q)) else .int (m.1 o k)
def g_fs (B : Nat) (Y : g_Y) (m : g_M) (o ci : Nat) : List Value := (List.range (g_nf ci)).map (g_fv B Y m o ci)
def g_E (aC : Nat → ClassId) (B : Nat) (Y : g_Y) (m : g_M) (o : Nat) : va_E :=
  if (Y.1 o).1 = 50 then .inl (aC 0, (Y.1 o).2, .inl (m.1 o)) else if (Y.1 o).1 = 51 then .inl (aC 1, (Y.1 o).2, .inr (.inl (m.2.1 o)))
  else if (Y.1 o).1 = 52 then .inl (aC 2, (Y.1 o).2, .inl (m.1 o)) else if (Y.1 o).1 = 53 then .inl (aC 3, (Y.1 o).2, .inl (m.1 o))
  else .inr ((Y.1 o).1, g_fs B Y m o (Y.1 o).1)
def g_W (aC : Nat → ClassId) (B : Nat) (Y : g_Y) (n : Nat) (m : g_M) : va_W := (List.range n).map (fun o => (B + o, g_E aC B Y m o))
def g_tys (aC : Nat → ClassId) : List (ClassId × FieldType) := [(aC 0, .int), (aC 1, .long), (aC 2, .boolean), (aC 3, .byte)]
def g_A (B n : Nat) : Nat → Prop := fun q => B ≤ q ∧ q < B + n
theorem g_Wat {aC : Nat → ClassId} {B : Nat} {Y : g_Y} {n : Nat} {m : g_M} {o : Nat} (h : o < n) : (g_W aC B Y n m)[o]? = some (B + o, g_E aC B Y m o) := by
  simp [g_W, h]
theorem g_Wlt {aC : Nat → ClassId} {B : Nat} {Y : g_Y} {n : Nat} {m : g_M} {o : Nat} {q : Nat × va_E} (h : (g_W aC B Y n m)[o]? = some q) : o < n ∧ q.1 = B + o := by
  by_cases ho : o < n
  · rw [g_Wat ho] at h; cases h; exact ⟨ho, rfl⟩
  · rw [List.getElem?_eq_none (by simp [g_W]; omega)] at h; cases h
theorem g_WD {aC : Nat → ClassId} {B : Nat} {Y : g_Y} {n : Nat} {m : g_M} : va_D (g_A B n) (g_W aC B Y n m) := by
  refine ⟨fun i j x y hi hj h => ?_, fun k q hk => ?_⟩
  · have h1 := (g_Wlt hi).2; have h2 := (g_Wlt hj).2; omega
  · have h1 := g_Wlt hk; exact ⟨by rw [h1.2]; omega, by rw [h1.2]; omega⟩
theorem g_Wset {aC : Nat → ClassId} {B : Nat} {Y : g_Y} {n : Nat} {m m' : g_M} {o : Nat} {e : va_E} (he : e = g_E aC B Y m' o) (h : ∀ a, a ≠ o → g_E aC B Y m' a = g_E aC B Y m a) : (g_W aC B Y n m).set o (B + o, e) = g_W aC B Y n m' := by
  apply List.ext_getElem?
  intro i
  subst he
  by_cases hi : i < n
  · by_cases hio : o = i
    · subst hio
      rw [List.getElem?_set_self (by simp [g_W]; exact hi), g_Wat hi]
    · rw [List.getElem?_set_ne hio, g_Wat hi, g_Wat hi, h i (fun q => hio q.symm)]
  · rw [List.getElem?_eq_none (by simp [g_W]; omega), List.getElem?_eq_none (by simp [g_W]; omega)]
/-- what the tables say of the classes -/
theorem g_cl (ci : Nat) (q : vw_C) (h : vwCl[ci]? = some q) : (∀ w ∈ u_ws q.1 q.2.1 q.2.2, w ∈ g_ws) ∧ (∀ k, k < q.2.2 → parseFieldDescriptor (q.2.1 k).2.2.1 = some (g_ty ci k)) ∧ (∀ a, a < q.2.2 → ∀ b, b < q.2.2 → a ≠ b → (q.2.1 a).2.1 ≠ (q.2.1 b).2.1) ∧ g_nf ci = q.2.2 ∧ ci < 12 := by
  have key : ∀ (ws : List Cond), ws.all (fun w => decide (w ∈ tables_1) && goodWord w) = true → ∀ w ∈ ws, w ∈ g_ws := by
    intro ws h w hw
    have h1 := List.all_eq_true.mp h w hw
    rw [Bool.and_eq_true, decide_eq_true_eq] at h1
    exact List.mem_filter.mpr ⟨List.mem_append.mpr (Or.inr h1.1), h1.2⟩
  match ci, h with
  | 0, h => cases h; exact ⟨key _ (by decide +kernel), tyX0_ok, nmX0, rfl, by decide⟩
  | 1, h => cases h; exact ⟨key _ (by decide +kernel), tyX1_ok, nmX1, rfl, by decide⟩
  | 2, h => cases h; exact ⟨key _ (by decide +kernel), tyX2_ok, nmX2, rfl, by decide⟩
  | 3, h => cases h; exact ⟨key _ (by decide +kernel), tyX3_ok, nmX3, rfl, by decide⟩
  | 4, h => cases h; exact ⟨key _ (by decide +kernel), tyX4_ok, nmX4, rfl, by decide⟩
  | 5, h => cases h; exact ⟨key _ (by decide +kernel), tyX5_ok, nmX5, rfl, by decide⟩
  | 6, h => cases h; exact ⟨key _ (by decide +kernel), tyX6_ok, nmX6, rfl, by decide⟩
  | 7, h => cases h; exact ⟨key _ (by decide +kernel), tyX7_ok, nmX7, rfl, by decide⟩
  | 8, h => cases h; exact ⟨key _ (by decide +kernel), tyX8_ok, nmX8, rfl, by decide⟩
  | 9, h => cases h; exact ⟨key _ (by decide +kernel), tyX9_ok, nmX9, rfl, by decide⟩
  | 10, h => cases h; exact ⟨key _ (by decide +kernel), tyX10_ok, nmX10, rfl, by decide⟩
  | 11, h => cases h; exact ⟨key _ (by decide +kernel), tyX11_ok, nmX11, rfl, by decide⟩
  | k + 12, h => simp [vwCl] at h
theorem g_Eobj {aC : Nat → ClassId} {B : Nat} {Y : g_Y} {m : g_M} {o ci : Nat} (hY : Y.1 o = (ci, 0)) (hc : ci < 12) : g_E aC B Y m o = .inr (ci, g_fs B Y m o ci) := by
  unfold g_E
  rw [hY]
  simp only
  rw [if_neg (by omega), if_neg (by omega), if_neg (by omega), if_neg (by omega)]
theorem g_EI {aC : Nat → ClassId} {B : Nat} {Y : g_Y} {m : g_M} {o L : Nat} (hY : Y.1 o = (50, L)) : g_E aC B Y m o = .inl (aC 0, L, .inl (m.1 o)) := by
  unfold g_E; rw [hY]; rfl
theorem g_EL {aC : Nat → ClassId} {B : Nat} {Y : g_Y} {m : g_M} {o L : Nat} (hY : Y.1 o = (51, L)) : g_E aC B Y m o = .inl (aC 1, L, .inr (.inl (m.2.1 o))) := by
  unfold g_E; rw [hY]; rfl
theorem g_EZ {aC : Nat → ClassId} {B : Nat} {Y : g_Y} {m : g_M} {o L : Nat} (hY : Y.1 o = (52, L)) : g_E aC B Y m o = .inl (aC 2, L, .inl (m.1 o)) := by
  unfold g_E; rw [hY]; rfl
theorem g_EB {aC : Nat → ClassId} {B : Nat} {Y : g_Y} {m : g_M} {o L : Nat} (hY : Y.1 o = (53, L)) : g_E aC B Y m o = .inl (aC 3, L, .inl (m.1 o)) := by
  unfold g_E; rw [hY]; rfl
theorem g_Esame {aC : Nat → ClassId} {B : Nat} {Y : g_Y} {m m' : g_M} {o : Nat} (h1 : m'.1 o = m.1 o) (h2 : m'.2.1 o = m.2.1 o) (h3 : m'.2.2 o = m.2.2 o) : g_E aC B Y m' o = g_E aC B Y m o := by
  have h4 : ∀ ci, g_fs B Y m' o ci = g_fs B Y m o ci := by
    intro ci
    unfold g_fs
    congr 1
    funext k
    unfold g_fv g_pt
    rw [h1, h3]
  unfold g_E
  rw [h1, h2, h4]
theorem g_up_o {α : Type} {f : Nat → Nat → α} {o k a : Nat} {v : α} (h : a ≠ o) : g_up f o k v a = f a := by
  funext j; simp [g_up, h]
theorem g_up_i {f : Nat → Nat → Int32} {o k : Nat} {v : Int32} : g_up f o k v o = upd (f o) k v := by
  funext j; simp [g_up, upd]
theorem g_up_l {f : Nat → Nat → Int64} {o k : Nat} {v : Int64} : g_up f o k v o = vp_updL (f o) k v := by
  funext j; simp [g_up, vp_updL]
theorem g_fs_get {B : Nat} {Y : g_Y} {m : g_M} {o ci k : Nat} (h : k < g_nf ci) : (g_fs B Y m o ci)[k]? = some (g_fv B Y m o ci k) := by
  simp [g_fs, h]
theorem g_fs_set {B : Nat} {Y : g_Y} {m m' : g_M} {o ci k : Nat} {v : Value} (hv : v = g_fv B Y m' o ci k) (h : ∀ j, j ≠ k → g_fv B Y m' o ci j = g_fv B Y m o ci j) : (g_fs B Y m o ci).set k v = g_fs B Y m' o ci := by
  apply List.ext_getElem?
  intro i
  subst hv
  by_cases hi : i < g_nf ci
  · by_cases hk : k = i
    · subst hk
      rw [List.getElem?_set_self (by simp [g_fs]; exact hi), g_fs_get hi]
    · rw [List.getElem?_set_ne hk, g_fs_get hi, g_fs_get hi, h i (fun q => hk q.symm)]
  · rw [List.getElem?_eq_none (by simp [g_fs]; omega), List.getElem?_eq_none (by simp [g_fs]; omega)]
/-- what stands fast in a method's walk -/
def g_C (p : Program) (s : State) (m : MethodId) (args : Array Value) (c : Code) (cc : ByteArray) (own : String) (D : va_G) (aC : Nat → ClassId) (Z : State → Prop) : Prop :=
  p.tables.exec = Jvm.exec ∧ c.code = cc ∧ s.vm.findClass own = some m.cls ∧ (∀ w ∈ g_ws, w.before args s = true) ∧ va_K D vwCl (g_tys aC) s ∧ Z s
/-- the system's memory in the heap, and what has been written since H0 -/
def g_At (D : va_G) (aC : Nat → ClassId) (B : Nat) (Y : g_Y) (n : Nat) (m : g_M) (H0 H : Heap) (locs : List Loc) : Prop :=
  va_P D vwCl (g_W aC B Y n m) H ∧ va_S (g_A B n) H0 H locs
def g_FL (own : String) (index ci k : Nat) (r : Bool) : Prop := ∃ q : vw_C, vwCl[ci]? = some q ∧ k < q.2.2 ∧ g_rf ci k = r ∧ Cond.fieldLink own index (q.2.1 k).1 (q.2.1 k).2.1 (q.2.1 k).2.2.1 ∈ g_ws
def g_FP (own : String) (index ci k : Nat) (ty : FieldType) : Prop := ∃ q : vw_C, vwCl[ci]? = some q ∧ k < q.2.2 ∧ (q.2.1 k).2.2.2 = false ∧ g_ty ci k = ty ∧ Cond.fieldLink own index (q.2.1 k).1 (q.2.1 k).2.1 (q.2.1 k).2.2.1 ∈ g_ws
def g_in (i : Int32) (n : Nat) : Prop := 0 ≤ i.toInt ∧ i.toInt < n
theorem g_in_vp {i : Int32} {n : Nat} (h : 0 ≤ i.toInt ∧ i.toInt < (n : Int)) : vp_in i n := vp_in_iff.mpr h
/-- guards of the pure functions: an index within, a divisor that isn't 0 -/
def g_ck {α : Type} (i : Int32) (n : Nat) (k : Option α) : Option α := if 0 ≤ i.toInt ∧ i.toInt < (n : Int) then k else none
theorem g_ck_some {α : Type} {i : Int32} {n : Nat} {k : Option α} {x : α} (h : g_ck i n k = some x) : vp_in i n ∧ k = some x := by
  unfold g_ck at h
  split at h
  · exact ⟨g_in_vp (by assumption), h⟩
  · cases h
def g_nz {α : Type} (d : Int32) (k : Option α) : Option α := if d = 0 then none else k
def g_nzL {α : Type} (d : Int64) (k : Option α) : Option α := if d = 0 then none else k
theorem g_nz_some {α : Type} {d : Int32} {k : Option α} {x : α} (h : g_nz d k = some x) : ¬ d = 0 ∧ k = some x := by
  unfold g_nz at h
  split at h
  · cases h
  · exact ⟨by assumption, h⟩
theorem g_nzL_some {α : Type} {d : Int64} {k : Option α} {x : α} (h : g_nzL d k = some x) : ¬ d = 0 ∧ k = some x := by
  unfold g_nzL at h
  split at h
  · cases h
  · exact ⟨by assumption, h⟩
/-- a flag is 0 or 1 -/
def g_fl {α : Type} (v : Int32) (k : Option α) : Option α := if v = 0 ∨ v = 1 then k else none
theorem g_fl_some {α : Type} {v : Int32} {k : Option α} {x : α} (h : g_fl v k = some x) : (v = 0 ∨ v = 1) ∧ k = some x := by
  unfold g_fl at h
  split at h
  · exact ⟨by assumption, h⟩
  · cases h
/-- a reference that may change: it is there, and of its class -/
def g_dr {α : Type} (Y : g_Y) (n : Nat) (r : Option Nat) (ci : Nat) (k : Nat → Option α) : Option α := match r with
  | none => none
  | some q => if q < n ∧ Y.1 q = (ci, 0) then k q else none
theorem g_dr_some {α : Type} {Y : g_Y} {n : Nat} {r : Option Nat} {ci : Nat} {k : Nat → Option α} {x : α} (h : g_dr Y n r ci k = some x) : ∃ q, r = some q ∧ q < n ∧ Y.1 q = (ci, 0) ∧ k q = some x := by
  cases r with
  | none => cases h
  | some q =>
    unfold g_dr at h
    simp only at h
    split at h
    · exact ⟨q, rfl, by omega, (by assumption : _ ∧ _).2, h⟩
    · cases h
/-- loops -/
def g_fix {α β : Type} (body : (α → Option β) → α → Option β) : Nat → α → Option β
  | 0 => fun _ => none
  | n + 1 => body (g_fix body n)

theorem g_yp {y : Nat × Nat} {k : Nat} (h : y.1 = k) : y = (k, y.2) := Prod.ext h rfl
theorem g_bind {α β : Type} {x : Option α} {f : α → Option β} {y : β} (h : x.bind f = some y) : ∃ a, x = some a ∧ f a = some y := by
  cases x with
  | none => cases h
  | some a => exact ⟨a, rfl, h⟩
def g_let {α β : Type} (x : α) (f : α → Option β) : Option β := f x
theorem g_let_ex {α β : Type} {x : α} {f : α → Option β} {y : β} (h : g_let x f = some y) : ∃ z, z = x ∧ f z = some y := ⟨x, rfl, h⟩

/-! the one text of the system: the words of the language -/
def g_wtx : String := "man sort deed send want room storm seed law fare gain mix or and not size rate pence aboard away worth day "
def g_wby : List Int32 := [109, 97, 110, 32, 115, 111, 114, 116, 32, 100, 101, 101, 100, 32, 115, 101, 110, 100, 32, 119, 97, 110, 116, 32, 114, 111, 111, 109, 32, 115, 116, 111, 114, 109, 32, 115, 101, 101, 100, 32, 108, 97, 119, 32, 102, 97, 114, 101, 32, 103, 97, 105, 110, 32, 109, 105, 120, 32, 111, 114, 32, 97, 110, 100, 32, 110, 111, 116, 32, 115, 105, 122, 101, 32, 114, 97, 116, 101, 32, 112, 101, 110, 99, 101, 32, 97, 98, 111, 97, 114, 100, 32, 97, 119, 97, 121, 32, 119, 111, 114, 116, 104, 32, 100, 97, 121, 32]
/-- the text's cells: the String at a, its bytes at v; what String's own methods read -/
def g_SA (A : Nat → Prop) (a v : Nat) (U : State) : Prop := va_O "java/lang/String" a A U U.heap ∧ va_OF "java/lang/String" "coder" "B" (.int 0) a A U U.heap ∧ va_OF "java/lang/String" "value" "[B" (.ref v) a A U U.heap ∧ va_T .byte v 107 (fun j => .int (g_wby.getD j 0)) A U U.heap ∧ va_Z "java/lang/String" "COMPACT_STRINGS" "Z" (.int 1) A U U.heap ∧ va_Zq "jdk/internal/util/Preconditions" "SIOOBE_FORMATTER" "Ljava/util/function/BiFunction;" A U U.heap
def g_Str (own : String) (idx : Nat) (A : Nat → Prop) (U : State) : Prop := ∃ a v, vk_R own idx g_wtx a U ∧ g_SA A a v U
def g_Zs (A : Nat → Prop) (U : State) : Prop := g_Str RX11 200 A U ∧ g_Str RX8 35 A U
theorem g_SA.warm {A : Nat → Prop} {a v : Nat} {s U : State} (hW : s.vm.Alike U.vm) (hk : ∀ q : Nat, q < s.heap.size → ¬ A q → U.heap[q]? = s.heap[q]?) (h : g_SA A a v s) : g_SA A a v U := by
  obtain ⟨h1, h2, h3, h4, h5, h6⟩ := h
  exact ⟨va_O.moved hW (h1.kept hk), va_OF.moved hW (h2.kept hk), va_OF.moved hW (h3.kept hk), va_T.moved hW (h4.kept hk), va_Z.moved hW (h5.kept hk), va_Zq.moved hW (h6.kept hk)⟩
theorem g_Str.warm {own : String} {idx : Nat} {A : Nat → Prop} {s U : State} (hW : s.WarmedH U.vm) (hk : ∀ q : Nat, q < s.heap.size → ¬ A q → U.heap[q]? = s.heap[q]?) (h : g_Str own idx A s) : g_Str own idx A U := by
  obtain ⟨a, v, h1, h2⟩ := h
  exact ⟨a, v, h1.warm hW, h2.warm hW.alike hk⟩
theorem g_Zs.warm {A : Nat → Prop} {s U : State} (hW : s.WarmedH U.vm) (hk : ∀ q : Nat, q < s.heap.size → ¬ A q → U.heap[q]? = s.heap[q]?) (h : g_Zs A s) : g_Zs A U := ⟨h.1.warm hW hk, h.2.warm hW hk⟩
theorem g_SA.calling {A : Nat → Prop} {a v : Nat} {U : State} (h : g_SA A a v U) (g : JFrame) (mk : MethodId) (ar : Array Value) : g_SA A a v (U.calling g mk ar) :=
  g_SA.warm (s := U) (U := U.calling g mk ar) (Vm.Alike.refl U.vm) (fun _ _ _ => rfl) h
theorem g_Str.calling {own : String} {idx : Nat} {A : Nat → Prop} {U : State} (h : g_Str own idx A U) (g : JFrame) (mk : MethodId) (ar : Array Value) : g_Str own idx A (U.calling g mk ar) := by
  obtain ⟨a, v, h1, h2⟩ := h
  exact ⟨a, v, vk_R.same (u := U) rfl h1, h2.calling g mk ar⟩
theorem g_Zs.calling {A : Nat → Prop} {U : State} (h : g_Zs A U) (g : JFrame) (mk : MethodId) (ar : Array Value) : g_Zs A (U.calling g mk ar) := ⟨h.1.calling g mk ar, h.2.calling g mk ar⟩
