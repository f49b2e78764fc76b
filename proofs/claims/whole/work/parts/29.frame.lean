-- @deps 28.bits
/-! what an update leaves, and what it makes -/
theorem sI_ne {m : g_M} {o k a j : Nat} {v : Int32} (h : ¬ (a = o ∧ j = k)) : (g_sI m o k v).1 a j = m.1 a j := by
  rw [g_sI1]
  by_cases h1 : a = o
  · rw [if_pos h1]
    by_cases h2 : j = k
    · exact absurd ⟨h1, h2⟩ h
    · rw [if_neg h2]
  · rw [if_neg h1]
theorem sI_o {m : g_M} {o k a : Nat} {v : Int32} (h : a ≠ o) : (g_sI m o k v).1 a = m.1 a := by
  funext j; exact sI_ne (fun z => h z.1)
theorem sI_eq {m : g_M} {o k : Nat} {v : Int32} : (g_sI m o k v).1 o k = v := by
  rw [g_sI1, if_pos rfl, if_pos rfl]
theorem sI_at {m : g_M} {o k j : Nat} {v : Int32} : (g_sI m o k v).1 o j = if j = k then v else m.1 o j := by
  rw [g_sI1, if_pos rfl]
section U
variable {c m c' m' : g_M} {T t f : Nat}
theorem WT_fr (h : WT m) (hm : ∀ o, 2 ≤ o → o ≤ 21 → m'.1 o = m.1 o) : WT m' := by
  have f2 := hm 2 (by omega) (by omega)
  have f4 := hm 4 (by omega) (by omega)
  have f6 := hm 6 (by omega) (by omega)
  have f7 := hm 7 (by omega) (by omega)
  have f9 := hm 9 (by omega) (by omega)
  have f10 := hm 10 (by omega) (by omega)
  have f11 := hm 11 (by omega) (by omega)
  have f12 := hm 12 (by omega) (by omega)
  have f13 := hm 13 (by omega) (by omega)
  have f14 := hm 14 (by omega) (by omega)
  have f15 := hm 15 (by omega) (by omega)
  have f16 := hm 16 (by omega) (by omega)
  have f17 := hm 17 (by omega) (by omega)
  have f18 := hm 18 (by omega) (by omega)
  have f19 := hm 19 (by omega) (by omega)
  have f20 := hm 20 (by omega) (by omega)
  have f21 := hm 21 (by omega) (by omega)
  unfold WT wfl rg vl at h ⊢
  simp only [f2, f4, f6, f7, f9, f10, f11, f12, f13, f14, f15, f16, f17, f18, f19, f20, f21]
  exact h
theorem RT_fr (h : RT c m T) (hc : ∀ o, T ≤ o → o ≤ T + 13 → c'.1 o = c.1 o) (hm : ∀ o, 2 ≤ o → o ≤ 21 → m'.1 o = m.1 o) : RT c' m' T := by
  have f2 := hm 2 (by omega) (by omega)
  have f3 := hm 3 (by omega) (by omega)
  have f4 := hm 4 (by omega) (by omega)
  have f5 := hm 5 (by omega) (by omega)
  have f6 := hm 6 (by omega) (by omega)
  have f7 := hm 7 (by omega) (by omega)
  have f8 := hm 8 (by omega) (by omega)
  have f9 := hm 9 (by omega) (by omega)
  have f10 := hm 10 (by omega) (by omega)
  have f11 := hm 11 (by omega) (by omega)
  have f12 := hm 12 (by omega) (by omega)
  have f13 := hm 13 (by omega) (by omega)
  have f14 := hm 14 (by omega) (by omega)
  have f15 := hm 15 (by omega) (by omega)
  have f16 := hm 16 (by omega) (by omega)
  have f17 := hm 17 (by omega) (by omega)
  have f18 := hm 18 (by omega) (by omega)
  have f19 := hm 19 (by omega) (by omega)
  have f20 := hm 20 (by omega) (by omega)
  have f21 := hm 21 (by omega) (by omega)
  have k0 := hc T (by omega) (by omega)
  have k1 := hc (T + 1) (by omega) (by omega)
  have k2 := hc (T + 2) (by omega) (by omega)
  have k3 := hc (T + 3) (by omega) (by omega)
  have k4 := hc (T + 4) (by omega) (by omega)
  have k5 := hc (T + 5) (by omega) (by omega)
  have k6 := hc (T + 6) (by omega) (by omega)
  have k7 := hc (T + 7) (by omega) (by omega)
  have k8 := hc (T + 8) (by omega) (by omega)
  have k9 := hc (T + 9) (by omega) (by omega)
  have k10 := hc (T + 10) (by omega) (by omega)
  have k11 := hc (T + 11) (by omega) (by omega)
  have k12 := hc (T + 12) (by omega) (by omega)
  unfold RT vl at h ⊢
  simp only [f2, f3, f4, f5, f6, f7, f8, f9, f10, f11, f12, f13, f14, f15, f16, f17, f18, f19, f20, f21, k0, k1, k2, k3, k4, k5, k6, k7, k8, k9, k10, k11, k12]
  exact h
theorem isTS {T t : Nat} (hT : isT T) (ht : isS t) : T + 13 < t := by
  rcases hT with rfl | rfl <;> rcases ht with rfl | rfl | rfl <;> omega
theorem isS_le {t : Nat} (ht : isS t) : t + 5 < 53 := by rcases ht with rfl | rfl | rfl <;> omega
/-- a cell of pence -/
theorem TS_pence (h : TS c m T t f) {p v : Nat} (hp : p < vl m 2 0) (hv : v ≤ 99999) (hr : c'.2.2 = c.2.2) (hc : ∀ o, o ≠ t + 1 → c'.1 o = c.1 o) (hc1 : ∀ k, c'.1 (t + 1) k = if k = p then nI v else c.1 (t + 1) k) (hm : ∀ o, o ≠ 28 → m'.1 o = m.1 o) (hm1 : ∀ k, m'.1 28 k = if k = 5 * f + p then nI v else m.1 28 k) : TS c' m' T t f := by
  obtain ⟨hT, ht, hf, hp0, hW, hR, hWS, hRS⟩ := id h
  have hlt := isTS hT ht
  refine ⟨hT, ht, hf, by rw [hr]; exact hp0, WT_fr hW (fun o _ _ => hm o (by omega)), RT_fr hR (fun o _ _ => hc o (by omega)) (fun o _ _ => hm o (by omega)), ?_, ?_⟩
  · have f2 : m'.1 2 = m.1 2 := hm 2 (by omega)
    have f24 : m'.1 24 = m.1 24 := hm 24 (by omega)
    have f25 : m'.1 25 = m.1 25 := hm 25 (by omega)
    have f26 : m'.1 26 = m.1 26 := hm 26 (by omega)
    have f27 : m'.1 27 = m.1 27 := hm 27 (by omega)
    have f29 : m'.1 29 = m.1 29 := hm 29 (by omega)
    have f30 : m'.1 30 = m.1 30 := hm 30 (by omega)
    have f31 : m'.1 31 = m.1 31 := hm 31 (by omega)
    have f32 : m'.1 32 = m.1 32 := hm 32 (by omega)
    have f33 : m'.1 33 = m.1 33 := hm 33 (by omega)
    have f34 : m'.1 34 = m.1 34 := hm 34 (by omega)
    have f35 : m'.1 35 = m.1 35 := hm 35 (by omega)
    unfold WS rg vl at hWS ⊢
    simp only [f2, f24, f25, f26, f27, f29, f30, f31, f32, f33, f34, f35, hm1]
    refine ⟨hWS.1, fun q hq => ?_, hWS.2.2⟩
    by_cases e : 5 * f + q = 5 * f + p
    · rw [if_pos e, g_clN (by omega)]; exact ⟨rfl, hv⟩
    · rw [if_neg e]; exact hWS.2.1 q hq
  · have f2 : m'.1 2 = m.1 2 := hm 2 (by omega)
    have f24 : m'.1 24 = m.1 24 := hm 24 (by omega)
    have f25 : m'.1 25 = m.1 25 := hm 25 (by omega)
    have f26 : m'.1 26 = m.1 26 := hm 26 (by omega)
    have f27 : m'.1 27 = m.1 27 := hm 27 (by omega)
    have f29 : m'.1 29 = m.1 29 := hm 29 (by omega)
    have f30 : m'.1 30 = m.1 30 := hm 30 (by omega)
    have f31 : m'.1 31 = m.1 31 := hm 31 (by omega)
    have f32 : m'.1 32 = m.1 32 := hm 32 (by omega)
    have f33 : m'.1 33 = m.1 33 := hm 33 (by omega)
    have f34 : m'.1 34 = m.1 34 := hm 34 (by omega)
    have f35 : m'.1 35 = m.1 35 := hm 35 (by omega)
    have k0 : c'.1 t = c.1 t := hc _ (by omega)
    have k2 : c'.1 (t + 2) = c.1 (t + 2) := hc _ (by omega)
    have k3 : c'.1 (t + 3) = c.1 (t + 3) := hc _ (by omega)
    have k4 : c'.1 (t + 4) = c.1 (t + 4) := hc _ (by omega)
    have k5 : c'.1 (t + 5) = c.1 (t + 5) := hc _ (by omega)
    unfold RS vl at hRS ⊢
    simp only [f2, f24, f25, f26, f27, f29, f30, f31, f32, f33, f34, f35, hm1, k0, k2, k3, k4, k5, hc1]
    refine ⟨hRS.1, fun q hq => ?_, hRS.2.2⟩
    by_cases e : q = p
    · rw [if_pos e, if_pos (by omega)]
    · rw [if_neg e, if_neg (by omega)]; exact hRS.2.1 q hq
/-- a cell of wants -/
theorem TS_want (h : TS c m T t f) {p v : Nat} (hp : p < 8) (hv : v ≤ 2) (hr : c'.2.2 = c.2.2) (hc : ∀ o, o ≠ t + 5 → c'.1 o = c.1 o) (hc1 : ∀ k, c'.1 (t + 5) k = if k = p then nI v else c.1 (t + 5) k) (hm : ∀ o, o ≠ 31 → m'.1 o = m.1 o) (hm1 : ∀ k, m'.1 31 k = if k = 8 * f + p then nI v else m.1 31 k) : TS c' m' T t f := by
  obtain ⟨hT, ht, hf, hp0, hW, hR, hWS, hRS⟩ := id h
  have hlt := isTS hT ht
  refine ⟨hT, ht, hf, by rw [hr]; exact hp0, WT_fr hW (fun o _ _ => hm o (by omega)), RT_fr hR (fun o _ _ => hc o (by omega)) (fun o _ _ => hm o (by omega)), ?_, ?_⟩
  · have f2 : m'.1 2 = m.1 2 := hm 2 (by omega)
    have f24 : m'.1 24 = m.1 24 := hm 24 (by omega)
    have f25 : m'.1 25 = m.1 25 := hm 25 (by omega)
    have f26 : m'.1 26 = m.1 26 := hm 26 (by omega)
    have f27 : m'.1 27 = m.1 27 := hm 27 (by omega)
    have f28 : m'.1 28 = m.1 28 := hm 28 (by omega)
    have f29 : m'.1 29 = m.1 29 := hm 29 (by omega)
    have f30 : m'.1 30 = m.1 30 := hm 30 (by omega)
    have f32 : m'.1 32 = m.1 32 := hm 32 (by omega)
    have f33 : m'.1 33 = m.1 33 := hm 33 (by omega)
    have f34 : m'.1 34 = m.1 34 := hm 34 (by omega)
    have f35 : m'.1 35 = m.1 35 := hm 35 (by omega)
    unfold WS rg vl at hWS ⊢
    simp only [f2, f24, f25, f26, f27, f28, f29, f30, f32, f33, f34, f35, hm1]
    obtain ⟨w1, w2, w3, w4, w5, w6, w7, w8⟩ := hWS
    refine ⟨w1, w2, w3, w4, w5, w6, fun q hq => ?_, w8⟩
    by_cases e : 8 * f + q = 8 * f + p
    · rw [if_pos e, g_clN (by omega)]; exact ⟨rfl, hv⟩
    · rw [if_neg e]; exact w7 q hq
  · have f2 : m'.1 2 = m.1 2 := hm 2 (by omega)
    have f24 : m'.1 24 = m.1 24 := hm 24 (by omega)
    have f25 : m'.1 25 = m.1 25 := hm 25 (by omega)
    have f26 : m'.1 26 = m.1 26 := hm 26 (by omega)
    have f27 : m'.1 27 = m.1 27 := hm 27 (by omega)
    have f28 : m'.1 28 = m.1 28 := hm 28 (by omega)
    have f29 : m'.1 29 = m.1 29 := hm 29 (by omega)
    have f30 : m'.1 30 = m.1 30 := hm 30 (by omega)
    have f32 : m'.1 32 = m.1 32 := hm 32 (by omega)
    have f33 : m'.1 33 = m.1 33 := hm 33 (by omega)
    have f34 : m'.1 34 = m.1 34 := hm 34 (by omega)
    have f35 : m'.1 35 = m.1 35 := hm 35 (by omega)
    have k0 : c'.1 t = c.1 t := hc _ (by omega)
    have k1 : c'.1 (t + 1) = c.1 (t + 1) := hc _ (by omega)
    have k2 : c'.1 (t + 2) = c.1 (t + 2) := hc _ (by omega)
    have k3 : c'.1 (t + 3) = c.1 (t + 3) := hc _ (by omega)
    have k4 : c'.1 (t + 4) = c.1 (t + 4) := hc _ (by omega)
    unfold RS vl at hRS ⊢
    simp only [f2, f24, f25, f26, f27, f28, f29, f30, f32, f33, f34, f35, hm1, k0, k1, k2, k3, k4, hc1]
    obtain ⟨w1, w2, w3, w4, w5⟩ := hRS
    refine ⟨w1, w2, w3, w4, fun q hq => ?_⟩
    by_cases e : q = p
    · rw [if_pos e, if_pos (by omega)]
    · rw [if_neg e, if_neg (by omega)]; exact w5 q hq
/-- how a sending stands -/
theorem TS_how (h : TS c m T t f) {n v : Nat} (hn : n < 12) (hv : v ≤ 2) (hr : c'.2.2 = c.2.2) (hc : ∀ o, o ≠ t + 4 → c'.1 o = c.1 o) (hc1 : ∀ k, c'.1 (t + 4) k = if k = 4 * n + 3 then nI v else c.1 (t + 4) k) (hm : ∀ o, o ≠ 35 → m'.1 o = m.1 o) (hm1 : ∀ k, m'.1 35 k = if k = 12 * f + n then nI v else m.1 35 k) : TS c' m' T t f := by
  obtain ⟨hT, ht, hf, hp0, hW, hR, hWS, hRS⟩ := id h
  have hlt := isTS hT ht
  refine ⟨hT, ht, hf, by rw [hr]; exact hp0, WT_fr hW (fun o _ _ => hm o (by omega)), RT_fr hR (fun o _ _ => hc o (by omega)) (fun o _ _ => hm o (by omega)), ?_, ?_⟩
  · have f2 : m'.1 2 = m.1 2 := hm 2 (by omega)
    have f24 : m'.1 24 = m.1 24 := hm 24 (by omega)
    have f25 : m'.1 25 = m.1 25 := hm 25 (by omega)
    have f26 : m'.1 26 = m.1 26 := hm 26 (by omega)
    have f27 : m'.1 27 = m.1 27 := hm 27 (by omega)
    have f28 : m'.1 28 = m.1 28 := hm 28 (by omega)
    have f29 : m'.1 29 = m.1 29 := hm 29 (by omega)
    have f30 : m'.1 30 = m.1 30 := hm 30 (by omega)
    have f31 : m'.1 31 = m.1 31 := hm 31 (by omega)
    have f32 : m'.1 32 = m.1 32 := hm 32 (by omega)
    have f33 : m'.1 33 = m.1 33 := hm 33 (by omega)
    have f34 : m'.1 34 = m.1 34 := hm 34 (by omega)
    unfold WS rg vl at hWS ⊢
    simp only [f2, f24, f25, f26, f27, f28, f29, f30, f31, f32, f33, f34, hm1]
    obtain ⟨w1, w2, w3, w4, w5, w6, w7, w8⟩ := hWS
    refine ⟨w1, w2, w3, w4, w5, fun q hq => ?_, w7, w8⟩
    obtain ⟨a1, a2, a3, a4, a5, a6⟩ := w6 q hq
    refine ⟨a1, a2, a3, a4, a5, ?_⟩
    by_cases e : 12 * f + q = 12 * f + n
    · rw [if_pos e, g_clN (by omega)]; exact ⟨rfl, hv⟩
    · rw [if_neg e]; exact a6
  · have f2 : m'.1 2 = m.1 2 := hm 2 (by omega)
    have f24 : m'.1 24 = m.1 24 := hm 24 (by omega)
    have f25 : m'.1 25 = m.1 25 := hm 25 (by omega)
    have f26 : m'.1 26 = m.1 26 := hm 26 (by omega)
    have f27 : m'.1 27 = m.1 27 := hm 27 (by omega)
    have f28 : m'.1 28 = m.1 28 := hm 28 (by omega)
    have f29 : m'.1 29 = m.1 29 := hm 29 (by omega)
    have f30 : m'.1 30 = m.1 30 := hm 30 (by omega)
    have f31 : m'.1 31 = m.1 31 := hm 31 (by omega)
    have f32 : m'.1 32 = m.1 32 := hm 32 (by omega)
    have f33 : m'.1 33 = m.1 33 := hm 33 (by omega)
    have f34 : m'.1 34 = m.1 34 := hm 34 (by omega)
    have k0 : c'.1 t = c.1 t := hc _ (by omega)
    have k1 : c'.1 (t + 1) = c.1 (t + 1) := hc _ (by omega)
    have k2 : c'.1 (t + 2) = c.1 (t + 2) := hc _ (by omega)
    have k3 : c'.1 (t + 3) = c.1 (t + 3) := hc _ (by omega)
    have k5 : c'.1 (t + 5) = c.1 (t + 5) := hc _ (by omega)
    unfold RS vl at hRS ⊢
    simp only [f2, f24, f25, f26, f27, f28, f29, f30, f31, f32, f33, f34, hm1, k0, k1, k2, k3, k5, hc1]
    obtain ⟨w1, w2, w3, w4, w5⟩ := hRS
    refine ⟨w1, w2, w3, fun q hq => ?_, w5⟩
    obtain ⟨a1, a2, a3, a4⟩ := w4 q hq
    rw [if_neg (by omega), if_neg (by omega), if_neg (by omega)]
    refine ⟨a1, a2, a3, ?_⟩
    by_cases e : q = n
    · rw [if_pos (by omega), if_pos (by omega)]
    · rw [if_neg (by omega), if_neg (by omega)]; exact a4
/-- when a sending is due -/
theorem TS_due (h : TS c m T t f) {n v : Nat} (hn : n < 12) (hv : v ≤ 10000) (hr : c'.2.2 = c.2.2) (hc : ∀ o, o ≠ t + 4 → c'.1 o = c.1 o) (hc1 : ∀ k, c'.1 (t + 4) k = if k = 4 * n + 2 then nI v else c.1 (t + 4) k) (hm : ∀ o, o ≠ 34 → m'.1 o = m.1 o) (hm1 : ∀ k, m'.1 34 k = if k = 12 * f + n then nI v else m.1 34 k) : TS c' m' T t f := by
  obtain ⟨hT, ht, hf, hp0, hW, hR, hWS, hRS⟩ := id h
  have hlt := isTS hT ht
  refine ⟨hT, ht, hf, by rw [hr]; exact hp0, WT_fr hW (fun o _ _ => hm o (by omega)), RT_fr hR (fun o _ _ => hc o (by omega)) (fun o _ _ => hm o (by omega)), ?_, ?_⟩
  · have f2 : m'.1 2 = m.1 2 := hm 2 (by omega)
    have f24 : m'.1 24 = m.1 24 := hm 24 (by omega)
    have f25 : m'.1 25 = m.1 25 := hm 25 (by omega)
    have f26 : m'.1 26 = m.1 26 := hm 26 (by omega)
    have f27 : m'.1 27 = m.1 27 := hm 27 (by omega)
    have f28 : m'.1 28 = m.1 28 := hm 28 (by omega)
    have f29 : m'.1 29 = m.1 29 := hm 29 (by omega)
    have f30 : m'.1 30 = m.1 30 := hm 30 (by omega)
    have f31 : m'.1 31 = m.1 31 := hm 31 (by omega)
    have f32 : m'.1 32 = m.1 32 := hm 32 (by omega)
    have f33 : m'.1 33 = m.1 33 := hm 33 (by omega)
    have f35 : m'.1 35 = m.1 35 := hm 35 (by omega)
    unfold WS rg vl at hWS ⊢
    simp only [f2, f24, f25, f26, f27, f28, f29, f30, f31, f32, f33, f35, hm1]
    obtain ⟨w1, w2, w3, w4, w5, w6, w7, w8⟩ := hWS
    refine ⟨w1, w2, w3, w4, w5, fun q hq => ?_, w7, w8⟩
    obtain ⟨a1, a2, a3, a4, a5, a6⟩ := w6 q hq
    refine ⟨a1, a2, a3, a4, ?_, a6⟩
    by_cases e : 12 * f + q = 12 * f + n
    · rw [if_pos e, g_clN (by omega)]; exact ⟨rfl, hv⟩
    · rw [if_neg e]; exact a5
  · have f2 : m'.1 2 = m.1 2 := hm 2 (by omega)
    have f24 : m'.1 24 = m.1 24 := hm 24 (by omega)
    have f25 : m'.1 25 = m.1 25 := hm 25 (by omega)
    have f26 : m'.1 26 = m.1 26 := hm 26 (by omega)
    have f27 : m'.1 27 = m.1 27 := hm 27 (by omega)
    have f28 : m'.1 28 = m.1 28 := hm 28 (by omega)
    have f29 : m'.1 29 = m.1 29 := hm 29 (by omega)
    have f30 : m'.1 30 = m.1 30 := hm 30 (by omega)
    have f31 : m'.1 31 = m.1 31 := hm 31 (by omega)
    have f32 : m'.1 32 = m.1 32 := hm 32 (by omega)
    have f33 : m'.1 33 = m.1 33 := hm 33 (by omega)
    have f35 : m'.1 35 = m.1 35 := hm 35 (by omega)
    have k0 : c'.1 t = c.1 t := hc _ (by omega)
    have k1 : c'.1 (t + 1) = c.1 (t + 1) := hc _ (by omega)
    have k2 : c'.1 (t + 2) = c.1 (t + 2) := hc _ (by omega)
    have k3 : c'.1 (t + 3) = c.1 (t + 3) := hc _ (by omega)
    have k5 : c'.1 (t + 5) = c.1 (t + 5) := hc _ (by omega)
    unfold RS vl at hRS ⊢
    simp only [f2, f24, f25, f26, f27, f28, f29, f30, f31, f32, f33, f35, hm1, k0, k1, k2, k3, k5, hc1]
    obtain ⟨w1, w2, w3, w4, w5⟩ := hRS
    refine ⟨w1, w2, w3, fun q hq => ?_, w5⟩
    obtain ⟨a1, a2, a3, a4⟩ := w4 q hq
    rw [if_neg (by omega), if_neg (by omega), if_neg (show ¬ 4 * q + 3 = 4 * n + 2 by omega)]
    refine ⟨a1, a2, ?_, a4⟩
    by_cases e : q = n
    · rw [if_pos (by omega), if_pos (by omega)]
    · rw [if_neg (by omega), if_neg (by omega)]; exact a3
/-- where a part lies -/
theorem TS_port (h : TS c m T t f) {i v : Nat} (hi : i < 25) (hv : v ≤ 1) (hr : c'.2.2 = c.2.2) (hc : ∀ o, o ≠ t + 3 → c'.1 o = c.1 o) (hc1 : ∀ k, c'.1 (t + 3) k = if k = i then nI v else c.1 (t + 3) k) (hm : ∀ o, o ≠ 30 → m'.1 o = m.1 o) (hm1 : ∀ k, m'.1 30 k = if k = 25 * f + i then nI v else m.1 30 k) : TS c' m' T t f := by
  obtain ⟨hT, ht, hf, hp0, hW, hR, hWS, hRS⟩ := id h
  have hlt := isTS hT ht
  refine ⟨hT, ht, hf, by rw [hr]; exact hp0, WT_fr hW (fun o _ _ => hm o (by omega)), RT_fr hR (fun o _ _ => hc o (by omega)) (fun o _ _ => hm o (by omega)), ?_, ?_⟩
  · have f2 : m'.1 2 = m.1 2 := hm 2 (by omega)
    have f24 : m'.1 24 = m.1 24 := hm 24 (by omega)
    have f25 : m'.1 25 = m.1 25 := hm 25 (by omega)
    have f26 : m'.1 26 = m.1 26 := hm 26 (by omega)
    have f27 : m'.1 27 = m.1 27 := hm 27 (by omega)
    have f28 : m'.1 28 = m.1 28 := hm 28 (by omega)
    have f29 : m'.1 29 = m.1 29 := hm 29 (by omega)
    have f31 : m'.1 31 = m.1 31 := hm 31 (by omega)
    have f32 : m'.1 32 = m.1 32 := hm 32 (by omega)
    have f33 : m'.1 33 = m.1 33 := hm 33 (by omega)
    have f34 : m'.1 34 = m.1 34 := hm 34 (by omega)
    have f35 : m'.1 35 = m.1 35 := hm 35 (by omega)
    unfold WS rg vl at hWS ⊢
    simp only [f2, f24, f25, f26, f27, f28, f29, f31, f32, f33, f34, f35, hm1]
    obtain ⟨w1, w2, w3, w4, w5, w6, w7, w8⟩ := hWS
    refine ⟨w1, w2, fun q hq => ⟨(w3 q hq).1, ?_⟩, w4, w5, w6, w7, w8⟩
    by_cases e : 25 * f + q = 25 * f + i
    · rw [if_pos e, g_clN (by omega)]; exact ⟨rfl, hv⟩
    · rw [if_neg e]; exact (w3 q hq).2
  · have f2 : m'.1 2 = m.1 2 := hm 2 (by omega)
    have f24 : m'.1 24 = m.1 24 := hm 24 (by omega)
    have f25 : m'.1 25 = m.1 25 := hm 25 (by omega)
    have f26 : m'.1 26 = m.1 26 := hm 26 (by omega)
    have f27 : m'.1 27 = m.1 27 := hm 27 (by omega)
    have f28 : m'.1 28 = m.1 28 := hm 28 (by omega)
    have f29 : m'.1 29 = m.1 29 := hm 29 (by omega)
    have f31 : m'.1 31 = m.1 31 := hm 31 (by omega)
    have f32 : m'.1 32 = m.1 32 := hm 32 (by omega)
    have f33 : m'.1 33 = m.1 33 := hm 33 (by omega)
    have f34 : m'.1 34 = m.1 34 := hm 34 (by omega)
    have f35 : m'.1 35 = m.1 35 := hm 35 (by omega)
    have k0 : c'.1 t = c.1 t := hc _ (by omega)
    have k1 : c'.1 (t + 1) = c.1 (t + 1) := hc _ (by omega)
    have k2 : c'.1 (t + 2) = c.1 (t + 2) := hc _ (by omega)
    have k4 : c'.1 (t + 4) = c.1 (t + 4) := hc _ (by omega)
    have k5 : c'.1 (t + 5) = c.1 (t + 5) := hc _ (by omega)
    unfold RS vl at hRS ⊢
    simp only [f2, f24, f25, f26, f27, f28, f29, f31, f32, f33, f34, f35, hm1, k0, k1, k2, k4, k5, hc1]
    obtain ⟨w1, w2, w3, w4, w5⟩ := hRS
    refine ⟨w1, w2, fun q hq => ⟨(w3 q hq).1, ?_⟩, w4, w5⟩
    by_cases e : q = i
    · rw [if_pos (by omega), if_pos (by omega)]
    · rw [if_neg (by omega), if_neg (by omega)]; exact (w3 q hq).2
/-- two parts of a sort, exchanged -/
theorem TS_hold (h : TS c m T t f) {p q s : Nat} (hp : p < vl m 2 0) (hq : q < vl m 2 0) (hs : s < vl m 2 1) (hr : c'.2.2 = c.2.2) (hc : ∀ o, o ≠ t + 2 → c'.1 o = c.1 o) (hc1 : ∀ k, c'.1 (t + 2) k = if k = 5 * q + s then c.1 (t + 2) (5 * p + s) else if k = 5 * p + s then c.1 (t + 2) (5 * q + s) else c.1 (t + 2) k) (hm : ∀ o, o ≠ 29 → m'.1 o = m.1 o) (hm1 : ∀ k, m'.1 29 k = if k = 25 * f + (5 * q + s) then m.1 29 (25 * f + (5 * p + s)) else if k = 25 * f + (5 * p + s) then m.1 29 (25 * f + (5 * q + s)) else m.1 29 k) : TS c' m' T t f := by
  obtain ⟨hT, ht, hf, hp0, hW, hR, hWS, hRS⟩ := id h
  have hlt := isTS hT ht
  obtain ⟨⟨⟨vP, bP⟩, ⟨vS, bS⟩, _⟩, _⟩ := id hW
  -- where the holder's row of a part came from
  have src : ∀ a s', a < vl m 2 0 → s' < 5 → ∃ b, b < vl m 2 0 ∧ m'.1 29 (25 * f + (5 * a + s')) = m.1 29 (25 * f + (5 * b + s')) ∧ b = (if s' = s then (if a = q then p else if a = p then q else a) else a) := by
    intro a s' ha hs'
    rw [hm1]
    by_cases e : s' = s
    · subst e
      rw [if_pos rfl]
      by_cases e1 : a = q
      · subst e1; exact ⟨p, hp, by rw [if_pos rfl], by rw [if_pos rfl]⟩
      · rw [if_neg (by omega), if_neg e1]
        by_cases e2 : a = p
        · subst e2; exact ⟨q, hq, by rw [if_pos rfl], by rw [if_pos rfl]⟩
        · exact ⟨a, ha, by rw [if_neg (by omega)], by rw [if_neg e2]⟩
    · exact ⟨a, ha, by rw [if_neg (by omega), if_neg (by omega)], by rw [if_neg e]⟩
  refine ⟨hT, ht, hf, by rw [hr]; exact hp0, WT_fr hW (fun o _ _ => hm o (by omega)), RT_fr hR (fun o _ _ => hc o (by omega)) (fun o _ _ => hm o (by omega)), ?_, ?_⟩
  · have hold := hWS
    have f2 : m'.1 2 = m.1 2 := hm 2 (by omega)
    have f24 : m'.1 24 = m.1 24 := hm 24 (by omega)
    have f25 : m'.1 25 = m.1 25 := hm 25 (by omega)
    have f26 : m'.1 26 = m.1 26 := hm 26 (by omega)
    have f27 : m'.1 27 = m.1 27 := hm 27 (by omega)
    have f28 : m'.1 28 = m.1 28 := hm 28 (by omega)
    have f30 : m'.1 30 = m.1 30 := hm 30 (by omega)
    have f31 : m'.1 31 = m.1 31 := hm 31 (by omega)
    have f32 : m'.1 32 = m.1 32 := hm 32 (by omega)
    have f33 : m'.1 33 = m.1 33 := hm 33 (by omega)
    have f34 : m'.1 34 = m.1 34 := hm 34 (by omega)
    have f35 : m'.1 35 = m.1 35 := hm 35 (by omega)
    unfold WS rg vl at hWS ⊢
    simp only [f2, f24, f25, f26, f27, f28, f30, f31, f32, f33, f34, f35]
    obtain ⟨w1, w2, w3, w4, w5, w6, w7, w8⟩ := hWS
    refine ⟨w1, w2, fun i hi => ⟨?_, (w3 i hi).2⟩, fun s' a hs' ha => ?_, fun s' a b hs' ha hb hab => ?_, w6, w7, fun a s' ha hs' ho => ?_⟩
    · rw [hm1]
      by_cases e1 : 25 * f + i = 25 * f + (5 * q + s)
      · rw [if_pos e1]; exact (w3 (5 * p + s) (by omega)).1
      · rw [if_neg e1]
        by_cases e2 : 25 * f + i = 25 * f + (5 * p + s)
        · rw [if_pos e2]; exact (w3 (5 * q + s) (by omega)).1
        · rw [if_neg e2]; exact (w3 i hi).1
    · obtain ⟨b, hb, e, _⟩ := src a s' ha hs'
      rw [e]; exact w4 s' b hs' hb
    · obtain ⟨a', ha', e, ea⟩ := src a s' ha hs'
      obtain ⟨b', hb', e', eb⟩ := src b s' hb hs'
      rw [e, e'] at hab
      have := w5 s' a' b' hs' ha' hb' hab
      rw [ea, eb] at this
      by_cases g : s' = s
      · rw [if_pos g, if_pos g] at this
        clear w1 w2 w3 w4 w5 w6 w7 w8 ea eb e e' hab
        repeat' split at this
        all_goals omega
      · rw [if_neg g, if_neg g] at this; exact this
    · have hne : ∀ z, z < vl m 2 0 → ¬ 25 * f + (5 * a + s') = 25 * f + (5 * z + s) := by
        intro z hz
        change vl m 2 0 ≤ a ∨ vl m 2 1 ≤ s' at ho
        omega
      rw [hm1, if_neg (hne q hq), if_neg (hne p hp)]
      exact w8 a s' ha hs' ho
  · have f2 : m'.1 2 = m.1 2 := hm 2 (by omega)
    have f24 : m'.1 24 = m.1 24 := hm 24 (by omega)
    have f25 : m'.1 25 = m.1 25 := hm 25 (by omega)
    have f26 : m'.1 26 = m.1 26 := hm 26 (by omega)
    have f27 : m'.1 27 = m.1 27 := hm 27 (by omega)
    have f28 : m'.1 28 = m.1 28 := hm 28 (by omega)
    have f30 : m'.1 30 = m.1 30 := hm 30 (by omega)
    have f31 : m'.1 31 = m.1 31 := hm 31 (by omega)
    have f32 : m'.1 32 = m.1 32 := hm 32 (by omega)
    have f33 : m'.1 33 = m.1 33 := hm 33 (by omega)
    have f34 : m'.1 34 = m.1 34 := hm 34 (by omega)
    have f35 : m'.1 35 = m.1 35 := hm 35 (by omega)
    have k0 : c'.1 t = c.1 t := hc _ (by omega)
    have k1 : c'.1 (t + 1) = c.1 (t + 1) := hc _ (by omega)
    have k3 : c'.1 (t + 3) = c.1 (t + 3) := hc _ (by omega)
    have k4 : c'.1 (t + 4) = c.1 (t + 4) := hc _ (by omega)
    have k5 : c'.1 (t + 5) = c.1 (t + 5) := hc _ (by omega)
    unfold RS vl at hRS ⊢
    simp only [f2, f24, f25, f26, f27, f28, f30, f31, f32, f33, f34, f35, hm1, k0, k1, k3, k4, k5, hc1]
    obtain ⟨w1, w2, w3, w4, w5⟩ := hRS
    refine ⟨w1, w2, fun i hi => ⟨fun hi5 => ?_, (w3 i hi).2⟩, w4, w5⟩
    by_cases e1 : i = 5 * q + s
    · rw [if_pos e1, if_pos (by omega)]; exact (w3 (5 * p + s) (by omega)).1 (show 5 * p + s < 5 * vl m 2 0 by omega)
    · rw [if_neg e1, if_neg (show ¬ 25 * f + i = 25 * f + (5 * q + s) by omega)]
      by_cases e2 : i = 5 * p + s
      · rw [if_pos e2, if_pos (by omega)]; exact (w3 (5 * q + s) (by omega)).1 (show 5 * q + s < 5 * vl m 2 0 by omega)
      · rw [if_neg e2, if_neg (by omega)]; exact (w3 i hi).1 hi5
/-- day, last number, storms -/
theorem TS_day (h : TS c m T t f) {d l : Nat} {s : Int32} (hd : d ≤ 10000) (hl : l ≤ 2147483647) (hr : c'.2.2 = c.2.2) (hc : ∀ o, o ≠ t → c'.1 o = c.1 o) (hc1 : c'.1 t 1 = nI d ∧ c'.1 t 2 = nI l ∧ c'.1 t 3 = s ∧ c'.1 t 7 = c.1 t 7) (hm : ∀ o, o ≠ 24 → o ≠ 25 → o ≠ 26 → m'.1 o = m.1 o) (hm1 : m'.1 24 f = nI d ∧ m'.1 25 f = nI l ∧ m'.1 26 f = s) : TS c' m' T t f := by
  obtain ⟨hT, ht, hf, hp0, hW, hR, hWS, hRS⟩ := id h
  have hlt := isTS hT ht
  have f2 := hm 2 (by omega) (by omega) (by omega)
  have f27 := hm 27 (by omega) (by omega) (by omega)
  have f28 := hm 28 (by omega) (by omega) (by omega)
  have f29 := hm 29 (by omega) (by omega) (by omega)
  have f30 := hm 30 (by omega) (by omega) (by omega)
  have f31 := hm 31 (by omega) (by omega) (by omega)
  have f32 := hm 32 (by omega) (by omega) (by omega)
  have f33 := hm 33 (by omega) (by omega) (by omega)
  have f34 := hm 34 (by omega) (by omega) (by omega)
  have f35 := hm 35 (by omega) (by omega) (by omega)
  obtain ⟨m24, m25, m26⟩ := hm1
  obtain ⟨c1, c2, c3, c7⟩ := hc1
  refine ⟨hT, ht, hf, by rw [hr]; exact hp0, WT_fr hW (fun o _ _ => hm o (by omega) (by omega) (by omega)), RT_fr hR (fun o _ _ => hc o (by omega)) (fun o _ _ => hm o (by omega) (by omega) (by omega)), ?_, ?_⟩
  · unfold WS rg vl at hWS ⊢
    simp only [f2, m24, m25, m26, f27, f28, f29, f30, f31, f32, f33, f34, f35]
    refine ⟨⟨?_, ?_, hWS.1.2.2⟩, hWS.2⟩
    · rw [g_clN (by omega)]; exact ⟨rfl, hd⟩
    · rw [g_clN (by omega)]; exact ⟨rfl, hl⟩
  · have k1 : c'.1 (t + 1) = c.1 (t + 1) := hc _ (by omega)
    have k2 : c'.1 (t + 2) = c.1 (t + 2) := hc _ (by omega)
    have k3 : c'.1 (t + 3) = c.1 (t + 3) := hc _ (by omega)
    have k4 : c'.1 (t + 4) = c.1 (t + 4) := hc _ (by omega)
    have k5 : c'.1 (t + 5) = c.1 (t + 5) := hc _ (by omega)
    unfold RS vl at hRS ⊢
    simp only [f2, m24, m25, m26, f27, f28, f29, f30, f31, f32, f33, f34, f35, c1, c2, c3, c7, k1, k2, k3, k4, k5]
    exact ⟨⟨trivial, trivial, trivial, hRS.1.2.2.2⟩, hRS.2⟩
/-- nothing of it changed -/
theorem TS_fr (h : TS c m T t f) (hr : c'.2.2 t 0 = c.2.2 t 0) (hc : ∀ o, T ≤ o → o ≤ T + 13 → c'.1 o = c.1 o) (hc2 : ∀ o k, t ≤ o → o ≤ t + 5 → c'.1 o k = c.1 o k) (hm : ∀ o, 2 ≤ o → o ≤ 21 → m'.1 o = m.1 o) (hm2 : ∀ o k, 24 ≤ o → o ≤ 35 → m'.1 o k = m.1 o k) : TS c' m' T t f := by
  obtain ⟨hT, ht, hf, hp0, hW, hR, hWS, hRS⟩ := id h
  have hmm : ∀ o, o = 2 ∨ 24 ≤ o → o ≤ 35 → m'.1 o = m.1 o := by
    intro o h1 h2
    rcases h1 with h1 | h1
    · subst h1; exact hm 2 (by omega) (by omega)
    · funext k; exact hm2 o k h1 h2
  have hcc : ∀ o, t ≤ o → o ≤ t + 5 → c'.1 o = c.1 o := fun o h1 h2 => by funext k; exact hc2 o k h1 h2
  refine ⟨hT, ht, hf, by rw [hr]; exact hp0, WT_fr hW hm, RT_fr hR hc hm, ?_, ?_⟩
  · unfold WS rg vl at hWS ⊢
    simp only [hmm 2 (by omega) (by omega), hmm 24 (by omega) (by omega), hmm 25 (by omega) (by omega), hmm 26 (by omega) (by omega), hmm 27 (by omega) (by omega), hmm 28 (by omega) (by omega), hmm 29 (by omega) (by omega), hmm 30 (by omega) (by omega), hmm 31 (by omega) (by omega), hmm 32 (by omega) (by omega), hmm 33 (by omega) (by omega), hmm 34 (by omega) (by omega), hmm 35 (by omega) (by omega)]
    exact hWS
  · unfold RS vl at hRS ⊢
    simp only [hmm 2 (by omega) (by omega), hmm 24 (by omega) (by omega), hmm 25 (by omega) (by omega), hmm 26 (by omega) (by omega), hmm 27 (by omega) (by omega), hmm 28 (by omega) (by omega), hmm 29 (by omega) (by omega), hmm 30 (by omega) (by omega), hmm 31 (by omega) (by omega), hmm 32 (by omega) (by omega), hmm 33 (by omega) (by omega), hmm 34 (by omega) (by omega), hmm 35 (by omega) (by omega), hcc t (by omega) (by omega), hcc (t + 1) (by omega) (by omega), hcc (t + 2) (by omega) (by omega), hcc (t + 3) (by omega) (by omega), hcc (t + 4) (by omega) (by omega), hcc (t + 5) (by omega) (by omega)]
    exact hRS
end U
