/-! the first day; storms by chance -/
section T
variable {F : Nat} {c m c' m' c1 m1 c2 : g_M} {T S t : Nat}
theorem ft : ¬ (false = true) := by decide
/-- a trial begun -/
theorem tb_both (hF : 5000 < F) (hC : COR c m T S) (hA : AB c m noA) {b : Nat} (hb : b ≤ 1) {a2 : Int32} (ha2 : a2 = if b = 0 then nI 1 else nI 0) : ∃ c1 m1 c2, f7_copy F 47 35 c = some c1 ∧ f0_start F 47 a2 c1 = some c2 ∧ f11_copies F (1 : Int32) (0 : Int32) m = some m1 ∧ TB c m c2 m1 T ∧ DY c2 m1 c2 m1 T 47 1 noA ∧ SG c2 m1 b (vl m1 2 5) 0 ∧ vl m1 24 1 = vl m 24 0 ∧ (m1.1 0 53 = m.1 0 53 ∧ m1.1 0 55 = m.1 0 55) ∧ (∀ k, vl m1 2 k = vl m 2 k) := by
  have hTS := hC.2.2.2.1
  obtain ⟨c1, m1, k1, k2, k3, k4, k5⟩ := tb_copy hF hTS hA
  obtain ⟨c2, j1, j2, j3, j4, j5, j6, j7, j8⟩ := tb_start (F := F) k3 a2
  have h53 : m1.1 0 53 = m.1 0 53 := k5 0 53 n0D
  have h55 : m1.1 0 55 = m.1 0 55 := k5 0 55 n0D
  have hSG := SG_of (b := b) j2.1.2.2.2.2.1 hb j4 j5 j6 (j7.trans ha2) (h53.trans hC.2.2.2.2.2.1.1) (h55.trans hC.2.2.2.2.2.1.2)
  exact ⟨c1, m1, c2, k1, j1, k2, j2, tb_dy j2 j3, hSG, vl_1 k4, ⟨h53, h55⟩, fun k => by unfold vl; rw [k5 2 k (fun z => by have := z.1; omega)]⟩
theorem tb_fin (hV : INV c m) (hC : COR c m T S) (h : TB c m c2 m1 T) (h5 : m1.1 0 53 = m.1 0 53 ∧ m1.1 0 55 = m.1 0 55) {c3 m3 m4 : g_M} (D : DY c2 m1 c3 m3 T 47 1 noA) (D' : fmD m1 m4 1) (hB : m4.1 0 56 = bitsP noA 25) : INV c3 m4 := by
  have hrel := tb_rel h D' (by rw [D'.2 0 53 (by omega) n0D]; exact h5.1) (by rw [D'.2 0 55 (by omega) n0D]; exact h5.2)
  exact tb_inv hV h D.2.2.2.1 hrel ⟨D.2.2.1.1, hB, D.2.2.1.2.2⟩
theorem s_first (hF : 5000 < F) (h : INV c m) (a1 a2 a3 : Int32) : CALL (f10_first F a1 a2 a3 c) (f11_first F a1 a2 a3 m) := by
  refine call_of h (fun T S m1 hV hC hI hTa hFl hA hS hG => ?_)
  have hW := hG.1.2.2.2.2.1
  unfold f10_first
  by_cases ha : okI a1 (vl m1 2 0) ∧ okI a2 (vl m1 2 2) ∧ okI a3 2
  rotate_left
  · rw [q_task0 hG ha, r_task0 hW ha, g_bs, g_bs, if_pos nI00, if_pos nI00]; exact ⟨_, _, _, rfl, rfl, hV⟩
  obtain ⟨⟨p, hp, rfl⟩, ⟨q, hq, rfl⟩, ⟨o, ho, rfl⟩⟩ := ha
  obtain ⟨c1, m2, c2, k1, k2, k3, k4, k5, k6, k7, k8, k9⟩ := tb_both (F := F) hF hC hA (b := 0) (by omega) (a2 := 1) rfl
  rw [q_task1 hG hp hq ho, r_task1 hW hp hq ho, g_bs, g_bs, if_neg nI10, if_neg nI10, k1, g_bs, k2, g_bs, k3, g_bs]
  have hd := hC.2.2.2.2.1
  have it := fun i (hi : i ≤ 100) => d_iter hF k5 k6 i (by rw [k7]; omega)
  have vv : ∀ i, i ≤ 100 → ∀ k, vl (itr (nxM F 1 0) i m2) 2 k = vl m1 2 k := fun i hi k => by rw [(it i hi).1.m2, k9]
  generalize hok : (fun i => decide (¬ fstP (canP (itr (nxM F 1 0) i m2) 1 p q (nI o)) (vl m1 2 1) < vl m1 2 1)) = ok at *
  have cl : ∀ i, i ≤ 100 → f7_lacks F 47 (nI p) (nI q) (nI o) (itr (nxC F) i c2) = some (bitsP (canP (itr (nxM F 1 0) i m2) 1 p q (nI o)) (vl m1 2 1)) := fun i hi => by
    have := q_lacks2 hF (it i hi).1.1 (p := p) (d := q) (o := o) (by rw [vv i hi]; exact hp) (by rw [vv i hi]; exact hq) ho
    rw [vv i hi] at this; exact this
  have ci : ∀ i, i ≤ 100 → (bitsP (canP (itr (nxM F 1 0) i m2) 1 p q (nI o)) (vl m1 2 1) = nI 0 ↔ ok i = true) := fun i hi => by
    have := can_iff (m := itr (nxM F 1 0) i m2) (f := 1) (it i hi).1.1.2.2.2.2.1 (p := p) (d := q) (nI o)
    rw [vv i hi] at this
    rw [this, ← hok, decide_eq_true_eq]
  have cm : ∀ i, i ≤ 100 → f11_canDo F (1 : Int32) (nI p) (nI q) (nI o) (itr (nxM F 1 0) i m2) = some (if ok i = true then nI 1 else nI 0) := fun i hi => by
    have e : f11_canDo F (1 : Int32) (nI p) (nI q) (nI o) (itr (nxM F 1 0) i m2) = _ := r_canDo hF (it i hi).1.1.2.2.2.2.1 (f := 1) (by omega) (p := p) (d := q) (by rw [vv i hi]; exact hp) (by rw [vv i hi]; exact hq) (nI o)
    rw [e, vv i hi, ← hok]
    by_cases z : fstP (canP (itr (nxM F 1 0) i m2) 1 p q (nI o)) (vl m1 2 1) < vl m1 2 1
    · rw [if_pos z, if_neg (by simp [z])]
    · rw [if_neg z, if_pos (by simp [z])]
  have cp : ∀ i, i < 100 → f0_pass F (1 : Int32) (itr (nxC F) i c2) = some (itr (nxC F) (i + 1) c2) := fun i hi => by
    have := d_pass hF (it i (by omega)).1 k6 (n := 1) (by omega) (by rw [(it i (by omega)).2, k7]; omega)
    exact this
  have mp : ∀ i, i < 100 → f11_passes F (1 : Int32) (0 : Int32) (itr (nxM F 1 0) i m2) = some (itr (nxM F 1 0) (i + 1) m2) := fun i hi =>
    (d_step hF (it i (by omega)).1 k6 (by rw [(it i (by omega)).2, k7]; omega)).2.1
  have hKle := fstP_le ok 100
  have hKno := fstP_no ok 100
  have hKyes := fstP_yes ok 100
  generalize hK : fstP ok 100 = K at *
  -- the reference
  have rM : f11_first_b26 F (nI p) (nI q) (nI o) (0 : Int32) m2 = some (if K < 100 then nI K else -2, itr (nxM F 1 0) K m2) := by
    unfold f11_first_b26
    refine g_for (fun i => (nI i, itr (nxM F 1 0) i m2)) K (fun i hi sf => ?_) (by omega) (fun sf => ?_)
    · have e := hKno i hi
      unfold f11_first_b26_body
      rw [if_pos (show nI i ≤ (99 : Int32) from (g_leN (b := 99) (by omega) (by omega)).mpr (by omega)), cm i (by omega), g_bs, e, if_neg ft, if_pos nI00, mp i (by omega), g_bs, g_let_e, g_l1, nI_add]
    · unfold f11_first_b26_body
      by_cases z : K < 100
      · rw [if_pos (show nI K ≤ (99 : Int32) from (g_leN (b := 99) (by omega) (by omega)).mpr (by omega)), cm K (by omega), g_bs, if_pos (hKyes z), if_neg nI10, if_pos z]
      · rw [if_neg (show ¬ nI K ≤ (99 : Int32) from fun y => by have := (g_leN (b := 99) (by omega) (by omega)).mp y; omega), if_neg z]
  have rC : ∃ J, J ≤ 100 ∧ f10_first_b38 F (nI p) (nI q) (nI o) (0 : Int32) c2 = some (if K < 100 then nI K else -2, itr (nxC F) J c2) := by
    refine ⟨if K < 99 then K else 99, by split <;> omega, ?_⟩
    unfold f10_first_b38
    refine g_for (fun i => (nI i, itr (nxC F) i c2)) (if K < 99 then K else 99) (fun i hi sf => ?_) (by split <;> omega) (fun sf => ?_)
    · have hiK : i < K ∧ i < 99 := by split at hi <;> omega
      have e := hKno i hiK.1
      unfold f10_first_b38_body
      rw [if_pos (show nI i < (99 : Int32) from (g_ltN (b := 99) (by omega) (by omega)).mpr hiK.2), cl i (by omega), g_bs, if_neg (show ¬ bitsP (canP (itr (nxM F 1 0) i m2) 1 p q (nI o)) (vl m1 2 1) = (0 : Int32) from fun z => by have := (ci i (by omega)).mp z; rw [e] at this; cases this), cp i (by omega), g_bs, g_let_e, g_l1, nI_add]
    · unfold f10_first_b38_body
      by_cases z : K < 99
      · simp only [if_pos z, if_pos (show K < 100 by omega)]
        rw [if_pos (show nI K < (99 : Int32) from (g_ltN (b := 99) (by omega) (by omega)).mpr z), cl K (by omega), g_bs, if_pos (show bitsP (canP (itr (nxM F 1 0) K m2) 1 p q (nI o)) (vl m1 2 1) = (0 : Int32) from (ci K (by omega)).mpr (hKyes (by omega)))]
      · simp only [if_neg z]
        rw [if_neg (show ¬ nI 99 < (99 : Int32) by decide), cl 99 (by omega), g_bs]
        by_cases y : K < 100
        · have : K = 99 := by omega
          subst this
          rw [if_pos (show bitsP (canP (itr (nxM F 1 0) 99 m2) 1 p q (nI o)) (vl m1 2 1) = (0 : Int32) from (ci 99 (by omega)).mpr (hKyes (by omega))), if_pos y]
          rfl
        · have e := hKno 99 (by omega)
          rw [if_neg (show ¬ bitsP (canP (itr (nxM F 1 0) 99 m2) 1 p q (nI o)) (vl m1 2 1) = (0 : Int32) from fun z => by have := (ci 99 (by omega)).mp z; rw [e] at this; cases this), if_neg y]
  obtain ⟨J, hJ, rC⟩ := rC
  rw [rC, rM]
  exact ⟨_, _, _, rfl, rfl, tb_fin hV hC k4 k8 (it J hJ).1 (it K hKle).1.2.2.2.2 (it K hKle).1.2.2.1.2.1⟩
end T
