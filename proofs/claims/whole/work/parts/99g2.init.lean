/-! a new object: the memories that the constructors make, and what holds of them -/
def oC : Option g_M := f10_init_0 5001 n_mem0
theorem oC_some : oC.isSome = true := by decide +kernel
def nC1 : g_M := oC.get oC_some
theorem oC_eq : f10_init_0 5001 n_mem0 = some nC1 := by
  have h : oC = some nC1 := (Option.some_get oC_some).symm
  exact h
theorem nC_ref : nC1.2.2 0 2 = some 2 ∧ nC1.2.2 0 3 = some 16 ∧ nC1.2.2 35 0 = some 2 := by decide +kernel
theorem nC_w : ∀ i, i < 22 → nC1.1 32 i = wrd.getD i 0 := by decide +kernel
theorem nC_0 : (nC1.1 0 1 = nI 0 ∧ nC1.1 0 5 = nI 0 ∧ nC1.1 0 6 = -1 ∧ nC1.1 0 9 = nI 0) ∧ (nC1.1 60 0 = nI 0 ∧ nC1.1 60 1 = -1 ∧ nC1.1 67 0 = nI 0 ∧ nC1.1 53 7 = nI 0) ∧ (nC1.1 2 6 = nI 0 ∧ nC1.1 2 8 = nI 0 ∧ nC1.1 2 10 = nI 9 ∧ nC1.1 2 11 = nI 0 ∧ nC1.1 2 12 = nI 0 ∧ nC1.1 11 3 = nI 0) ∧ (nC1.1 35 1 = nI 0 ∧ nC1.1 35 2 = nI 0 ∧ nC1.1 35 3 = nI 0 ∧ nC1.1 35 7 = nI 0) := by decide +kernel
theorem nC_3 : ∀ k, k < 3 → nC1.1 3 k = nI 0 ∧ nC1.1 13 k = nI 0 ∧ nC1.1 14 k = nI 0 := by decide +kernel
theorem nC_25 : ∀ k, k < 25 → nC1.1 54 k = nI 0 ∧ nC1.1 38 k = nI 0 := by decide +kernel
theorem nC_8 : ∀ k, k < 8 → nC1.1 40 k = nI 0 := by decide +kernel
theorem nC1_W {aC : Nat → ClassId} {B : Nat} : g_W aC B yC0 69 nC1 = g_W aC B yC 69 nC1 := g_W_eq rfl (by decide +kernel)
theorem nM_2 : nM1.1 2 0 = nI 0 ∧ nM1.1 2 1 = nI 0 ∧ nM1.1 2 2 = nI 0 ∧ nM1.1 2 3 = nI 0 ∧ nM1.1 2 4 = nI 0 ∧ nM1.1 2 5 = nI 9 ∧ nM1.1 2 6 = nI 0 ∧ nM1.1 2 7 = nI 0 ∧ nM1.1 2 8 = nI 0 := by decide +kernel
theorem nM_0 : nM1.1 0 2 = nI 0 ∧ nM1.1 0 32 = nI 0 ∧ nM1.1 0 33 = -1 ∧ nM1.1 0 51 = nI 0 ∧ nM1.1 0 52 = nI 0 ∧ nM1.1 0 53 = nI 0 ∧ nM1.1 0 55 = -1 ∧ nM1.1 0 56 = bitsP noA 25 ∧ nM1.1 0 65 = nI 0 ∧ nM1.1 0 66 = -1 := by decide +kernel
theorem nM_3 : ∀ k, k < 3 → nM1.1 18 k = nI 0 ∧ nM1.1 19 k = nI 0 := by decide +kernel
section NI
set_option maxRecDepth 100000 in
theorem i_M (F : Nat) : f11_init_0 F n_mem0 = f11_begins F nM1 := by
  have e : ∀ k : Nat, k < 18 → ∀ x : Option g_M, g_ck (nI k) 18 x = x := fun k hk x => g_ckN hk (by omega)
  have e0 : ∀ x : Option g_M, g_ck (0 : Int32) 18 x = x := e 0 (by omega)
  have e1 : ∀ x : Option g_M, g_ck (1 : Int32) 18 x = x := e 1 (by omega)
  have e2 : ∀ x : Option g_M, g_ck (2 : Int32) 18 x = x := e 2 (by omega)
  have e3 : ∀ x : Option g_M, g_ck (3 : Int32) 18 x = x := e 3 (by omega)
  have e4 : ∀ x : Option g_M, g_ck (4 : Int32) 18 x = x := e 4 (by omega)
  have e5 : ∀ x : Option g_M, g_ck (5 : Int32) 18 x = x := e 5 (by omega)
  have e6 : ∀ x : Option g_M, g_ck (6 : Int32) 18 x = x := e 6 (by omega)
  have e7 : ∀ x : Option g_M, g_ck (7 : Int32) 18 x = x := e 7 (by omega)
  have e8 : ∀ x : Option g_M, g_ck (8 : Int32) 18 x = x := e 8 (by omega)
  have e9 : ∀ x : Option g_M, g_ck (9 : Int32) 18 x = x := e 9 (by omega)
  have e10 : ∀ x : Option g_M, g_ck (10 : Int32) 18 x = x := e 10 (by omega)
  have e11 : ∀ x : Option g_M, g_ck (11 : Int32) 18 x = x := e 11 (by omega)
  have e12 : ∀ x : Option g_M, g_ck (12 : Int32) 18 x = x := e 12 (by omega)
  have e13 : ∀ x : Option g_M, g_ck (13 : Int32) 18 x = x := e 13 (by omega)
  have e14 : ∀ x : Option g_M, g_ck (14 : Int32) 18 x = x := e 14 (by omega)
  have e15 : ∀ x : Option g_M, g_ck (15 : Int32) 18 x = x := e 15 (by omega)
  have e16 : ∀ x : Option g_M, g_ck (16 : Int32) 18 x = x := e 16 (by omega)
  have e17 : ∀ x : Option g_M, g_ck (17 : Int32) 18 x = x := e 17 (by omega)
  have b : ∀ x : Option g_M, x.bind (fun r84 => some r84) = x := fun x => by cases x <;> rfl
  unfold f11_init_0
  simp only [g_let_e, e0, e1, e2, e3, e4, e5, e6, e7, e8, e9, e10, e11, e12, e13, e14, e15, e16, e17]
  rw [b]
  rfl
theorem i_start : ∃ m0, f11_init_0 5001 n_mem0 = some m0 ∧ INV nC1 m0 := by
  obtain ⟨m0, h1, h2⟩ := i_gen nC_ref nC_w nC_0 nC_3 nC_25 nC_8 nM_2 nM_0 nM_3
  exact ⟨m0, (i_M 5001).trans h1, h2⟩
end NI
