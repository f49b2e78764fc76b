def f0_start (F : Nat) (a1 : Nat) (a2 : Int32) (mem : g_M) : Option (g_M) :=
 g_let (g_sR mem 53 3 (some a1)) (fun m1 =>
 g_dr yC 69 (m1.2.2 a1 0) 9 (fun q2 =>
 g_let (g_sR m1 53 4 (some q2)) (fun m3 =>
 g_let (g_sI m3 53 5 a2) (fun m4 =>
 g_dr yC 69 (m4.2.2 53 4) 9 (fun q5 =>
 g_let (g_sI m4 53 0 (m4.1 q5 10)) (fun m6 =>
 g_let (g_sI m6 53 1 (0 : Int32)) (fun m7 =>
 g_let (g_sI m7 53 2 (-1 : Int32)) (fun m8 =>
 some m8))))))))

def f9_wantAt (F : Nat) (t : Nat) (a1 : Int32) (a2 : Int32) (mem : g_M) : Option (Int32) :=
 g_ck ((a1 * (5 : Int32)) + a2) 40 (
 some (mem.1 (t + 8) ((a1 * (5 : Int32)) + a2).toNatClampNeg))

def f7_sortsAt_b41 (F : Nat) (t : Nat) (a1 : Int32) (a2 : Int32) (s5 : Int32 → Int32 → Option (Int32)) (mem : g_M) (v3 : Int32) (v4 : Int32) : Option (Int32) :=
 g_let (v4 + (1 : Int32)) (fun x1 =>
 s5 v3 x1)

def f7_sortsAt_b5_body (F : Nat) (t : Nat) (a1 : Int32) (a2 : Int32) (s5 : Int32 → Int32 → Option (Int32)) (mem : g_M) (v3 : Int32) (v4 : Int32) : Option (Int32) :=
 g_dr yC 69 (mem.2.2 t 0) 9 (fun q2 =>
 g_ck (1 : Int32) 3 (
 if v4 < (mem.1 (q2 + 1) (1 : Int32).toNatClampNeg) then (g_ck ((a1 * (5 : Int32)) + v4) 25 (
 if (mem.1 (t + 3) ((a1 * (5 : Int32)) + v4).toNatClampNeg) = a2 then (g_let ((v3 ||| ((1 : Int32) <<< (v4 &&& 31)))) (fun x7 =>
 f7_sortsAt_b41 F t a1 a2 s5 mem x7 v4))
 else (f7_sortsAt_b41 F t a1 a2 s5 mem v3 v4)))
 else (some v3)))

def f7_sortsAt_b5 (F : Nat) (t : Nat) (a1 : Int32) (a2 : Int32) (mem : g_M) (v3 : Int32) (v4 : Int32) : Option (Int32) :=
  g_fix (fun sf x => f7_sortsAt_b5_body F t a1 a2 (fun v3 v4 => sf (v3, v4)) mem x.1 x.2) F (v3, v4)

def f7_sortsAt (F : Nat) (t : Nat) (a1 : Int32) (a2 : Int32) (mem : g_M) : Option (Int32) :=
 f7_sortsAt_b5 F t a1 a2 mem (0 : Int32) (0 : Int32)

def f7_lacks (F : Nat) (t : Nat) (a1 : Int32) (a2 : Int32) (a3 : Int32) (mem : g_M) : Option (Int32) :=
 g_dr yC 69 (mem.2.2 t 0) 9 (fun q1 =>
 g_ck a2 5 (
 (f7_sortsAt F t a1 ((1 : Int32) - a3) mem).bind (fun r3 =>
 some ((mem.1 (q1 + 6) a2.toNatClampNeg) &&& r3))))

def f2_isTold (F : Nat) (t : Nat) (a1 : Int32) (mem : g_M) : Option (Int32) :=
 g_ck a1 3 (
 g_ck a1 3 (
 if (mem.1 (t + 2) a1.toNatClampNeg) < (mem.1 (t + 3) a1.toNatClampNeg) then (some (1 : Int32))
 else (some (0 : Int32))))

def f0_nameBoat (F : Nat) (mem : g_M) : Option (g_M) :=
 g_ck (3 : Int32) 7 (
 g_let (g_sL mem 55 (3 : Int32).toNatClampNeg (mem.1 53 7).toInt64) (fun m2 =>
 g_dr yC 69 (m2.2.2 53 3) 7 (fun q3 =>
 g_ck (6 : Int32) 7 (
 g_let (g_sL m2 55 (6 : Int32).toNatClampNeg (m2.1 q3 1).toInt64) (fun m5 =>
 some m5)))))

def fjbc (F : Nat) (a0 : Int32) (mem : g_M) : Option (Int32) :=
 g_let ((a0 - ((a0.toUInt32 >>> ((1 : Int32).toUInt32 &&& Int32.toUInt32 31)).toInt32 &&& (1431655765 : Int32)))) (fun x1 =>
 g_let (((x1 &&& (858993459 : Int32)) + ((x1.toUInt32 >>> ((2 : Int32).toUInt32 &&& Int32.toUInt32 31)).toInt32 &&& (858993459 : Int32)))) (fun x2 =>
 g_let (((x2 + (x2.toUInt32 >>> ((4 : Int32).toUInt32 &&& Int32.toUInt32 31)).toInt32) &&& (252645135 : Int32))) (fun x3 =>
 g_let ((x3 + (x3.toUInt32 >>> ((8 : Int32).toUInt32 &&& Int32.toUInt32 31)).toInt32)) (fun x4 =>
 g_let ((x4 + (x4.toUInt32 >>> ((16 : Int32).toUInt32 &&& Int32.toUInt32 31)).toInt32)) (fun x5 =>
 some (x5 &&& (63 : Int32)))))))

def f7_away (F : Nat) (t : Nat) (a1 : Int32) (mem : g_M) : Option (Int32) :=
 (f7_sortsAt F t a1 (1 : Int32) mem).bind (fun r1 =>
 (fjbc F r1 mem).bind (fun r2 =>
 some r2))

def f0_nameMan (F : Nat) (a1 : Int32) (mem : g_M) : Option (g_M) :=
 (f0_nameBoat F mem).bind (fun r1 =>
 g_dr yC 69 (r1.2.2 53 3) 7 (fun q2 =>
 g_ck a1 5 (
 g_ck (2 : Int32) 7 (
 g_let (g_sL r1 55 (2 : Int32).toNatClampNeg (r1.1 (q2 + 1) a1.toNatClampNeg).toInt64) (fun m5 =>
 g_dr yC 69 (m5.2.2 53 3) 7 (fun q6 =>
 (f7_away F q6 a1 m5).bind (fun r7 =>
 g_ck (4 : Int32) 7 (
 g_let (g_sL m5 55 (4 : Int32).toNatClampNeg r7.toInt64) (fun m9 =>
 some m9)))))))))

def f2_product_b53 (F : Nat) (a0 : Int64) (a2 : Int64) (mem : g_M) : Option (Int64) :=
 some (a0 * a2)

def f2_product_b26 (F : Nat) (a0 : Int64) (a2 : Int64) (mem : g_M) (v4 : Int64) (w0 : Int64) : Option (Int64) :=
 if (lg_cmp v4 (0 : Int64)) = (0 : Int32) then (f2_product_b53 F a0 a2 mem)
 else (g_nzL v4 (
 if (0 : Int32) < (lg_cmp w0 ((1000000000000 : Int64) / v4)) then (some (-9223372036854775808 : Int64))
 else (f2_product_b53 F a0 a2 mem)))

def f2_product_b12 (F : Nat) (a0 : Int64) (a2 : Int64) (mem : g_M) (w0 : Int64) : Option (Int64) :=
 if (lg_cmp a2 (0 : Int64)) < (0 : Int32) then (f2_product_b26 F a0 a2 mem w0 (-a2))
 else (f2_product_b26 F a0 a2 mem w0 a2)

def f2_product (F : Nat) (a0 : Int64) (a2 : Int64) (mem : g_M) : Option (Int64) :=
 if (lg_cmp a0 (0 : Int64)) < (0 : Int32) then (f2_product_b12 F a0 a2 mem (-a0))
 else (f2_product_b12 F a0 a2 mem a0)

def f2_isSo (F : Nat) (a0 : Int32) (a1 : Int64) (a3 : Int64) (mem : g_M) : Option (Int32) :=
 if a0 = (4 : Int32) then (if (lg_cmp a1 a3) < (0 : Int32) then (some (1 : Int32))
 else (some (0 : Int32)))
 else (if a0 = (5 : Int32) then (if (lg_cmp a1 a3) ≤ (0 : Int32) then (some (1 : Int32))
 else (some (0 : Int32)))
 else (if a0 = (6 : Int32) then (if (lg_cmp a1 a3) = (0 : Int32) then (some (1 : Int32))
 else (some (0 : Int32)))
 else (if a0 = (7 : Int32) then (if (lg_cmp a1 a3) = (0 : Int32) then (some (0 : Int32))
 else (some (1 : Int32)))
 else (if a0 = (8 : Int32) then (if (0 : Int32) ≤ (lg_cmp a1 a3) then (some (1 : Int32))
 else (some (0 : Int32)))
 else (if (0 : Int32) < (lg_cmp a1 a3) then (some (1 : Int32))
 else (some (0 : Int32)))))))

def f2_worked_b124 (F : Nat) (a0 : Int32) (a1 : Int64) (a3 : Int64) (mem : g_M) : Option (Int64) :=
 some (1 : Int64)

def f2_worked (F : Nat) (a0 : Int32) (a1 : Int64) (a3 : Int64) (mem : g_M) : Option (Int64) :=
 if a0 = (0 : Int32) then (some (a1 + a3))
 else (if a0 = (1 : Int32) then (some (a1 - a3))
 else (if a0 = (2 : Int32) then ((f2_product F a1 a3 mem).bind (fun r4 =>
 some r4))
 else (if a0 = (3 : Int32) then (if (lg_cmp a3 (0 : Int64)) = (0 : Int32) then (some (-9223372036854775808 : Int64))
 else (g_nzL a3 (
 some (a1 / a3))))
 else (if a0 = (4 : Int32) then ((f2_isSo F a0 a1 a3 mem).bind (fun r9 =>
 if r9 = (0 : Int32) then (some (0 : Int64))
 else (some (1 : Int64))))
 else (if a0 = (5 : Int32) then ((f2_isSo F a0 a1 a3 mem).bind (fun r12 =>
 if r12 = (0 : Int32) then (some (0 : Int64))
 else (some (1 : Int64))))
 else (if a0 = (6 : Int32) then ((f2_isSo F a0 a1 a3 mem).bind (fun r15 =>
 if r15 = (0 : Int32) then (some (0 : Int64))
 else (some (1 : Int64))))
 else (if a0 = (7 : Int32) then ((f2_isSo F a0 a1 a3 mem).bind (fun r18 =>
 if r18 = (0 : Int32) then (some (0 : Int64))
 else (some (1 : Int64))))
 else (if a0 = (8 : Int32) then ((f2_isSo F a0 a1 a3 mem).bind (fun r21 =>
 if r21 = (0 : Int32) then (some (0 : Int64))
 else (some (1 : Int64))))
 else (if a0 = (9 : Int32) then ((f2_isSo F a0 a1 a3 mem).bind (fun r24 =>
 if r24 = (0 : Int32) then (some (0 : Int64))
 else (some (1 : Int64))))
 else (if a0 = (10 : Int32) then (if (lg_cmp a1 (0 : Int64)) = (0 : Int32) then (some (0 : Int64))
 else (if (lg_cmp a3 (0 : Int64)) = (0 : Int32) then (some (0 : Int64))
 else (some (1 : Int64))))
 else (if a0 = (11 : Int32) then (if (lg_cmp a1 (0 : Int64)) = (0 : Int32) then (if (lg_cmp a3 (0 : Int64)) = (0 : Int32) then (some (0 : Int64))
 else (f2_worked_b124 F a0 a1 a3 mem))
 else (f2_worked_b124 F a0 a1 a3 mem))
 else ((f2_isSo F a0 a1 a3 mem).bind (fun r32 =>
 if r32 = (0 : Int32) then (some (0 : Int64))
 else (some (1 : Int64)))))))))))))))

def f2_value_b146 (F : Nat) (t : Nat) (a1 : Int32) (a2 : Nat) (s10 : Int32 → Int32 → g_M → Option (Int64 × g_M)) (v3 : Int32) (v4 : Int32) (v6 : Int64) (mem : g_M) : Option (Int64 × g_M) :=
 if (lg_cmp v6 (1000000000000 : Int64)) ≤ (0 : Int32) then (if (lg_cmp v6 (-1000000000000 : Int64)) < (0 : Int32) then (some ((-9223372036854775808 : Int64), mem))
 else (g_ck v3 64 (
 g_let (g_sL mem (t + 4) v3.toNatClampNeg v6) (fun m4 =>
 g_let (v3 + (1 : Int32)) (fun x5 =>
 g_let (v4 + (1 : Int32)) (fun x6 =>
 s10 x5 x6 m4))))))
 else (some ((-9223372036854775808 : Int64), mem))

def f2_value_b60 (F : Nat) (t : Nat) (a1 : Int32) (a2 : Nat) (s10 : Int32 → Int32 → g_M → Option (Int64 × g_M)) (v3 : Int32) (v4 : Int32) (w0 : Int64) (mem : g_M) : Option (Int64 × g_M) :=
 f2_value_b146 F t a1 a2 s10 v3 v4 w0 mem

def f2_value_b104 (F : Nat) (t : Nat) (a1 : Int32) (a2 : Nat) (s10 : Int32 → Int32 → g_M → Option (Int64 × g_M)) (v3 : Int32) (v4 : Int32) (v5 : Int32) (mem : g_M) : Option (Int64 × g_M) :=
 if (2 : Int32) ≤ v3 then (g_ck (v3 - (2 : Int32)) 64 (
 g_ck (v3 - (1 : Int32)) 64 (
 (f2_worked F (v5 - (10007 : Int32)) (mem.2.1 (t + 4) (v3 - (2 : Int32)).toNatClampNeg) (mem.2.1 (t + 4) (v3 - (1 : Int32)).toNatClampNeg) mem).bind (fun r10 =>
 g_let (v3 + (-2 : Int32)) (fun x11 =>
 f2_value_b146 F t a1 a2 s10 x11 v4 r10 mem)))))
 else (some ((-9223372036854775808 : Int64), mem))

def f2_value_b96 (F : Nat) (t : Nat) (a1 : Int32) (a2 : Nat) (s10 : Int32 → Int32 → g_M → Option (Int64 × g_M)) (v3 : Int32) (v4 : Int32) (w0 : Int64) (mem : g_M) : Option (Int64 × g_M) :=
 g_let (v3 + (-1 : Int32)) (fun x12 =>
 f2_value_b146 F t a1 a2 s10 x12 v4 w0 mem)

def f2_value_b10_body (F : Nat) (t : Nat) (a1 : Int32) (a2 : Nat) (s10 : Int32 → Int32 → g_M → Option (Int64 × g_M)) (v3 : Int32) (v4 : Int32) (mem : g_M) : Option (Int64 × g_M) :=
 g_ck a1 3 (
 if v4 < (mem.1 (t + 3) a1.toNatClampNeg) then (g_ck v4 64 (
 g_let ((mem.1 (t + 1) v4.toNatClampNeg)) (fun x16 =>
 if x16 < (10007 : Int32) then (if x16 < (10000 : Int32) then (f2_value_b60 F t a1 a2 s10 v3 v4 x16.toInt64 mem)
 else (g_ck (x16 - (10000 : Int32)) (yC.1 a2).2 (
 f2_value_b60 F t a1 a2 s10 v3 v4 (mem.2.1 a2 (x16 - (10000 : Int32)).toNatClampNeg) mem)))
 else (if x16 = (10019 : Int32) then (if (1 : Int32) ≤ v3 then (g_ck (v3 - (1 : Int32)) 64 (
 if (lg_cmp (mem.2.1 (t + 4) (v3 - (1 : Int32)).toNatClampNeg) (0 : Int64)) = (0 : Int32) then (f2_value_b96 F t a1 a2 s10 v3 v4 (1 : Int64) mem)
 else (f2_value_b96 F t a1 a2 s10 v3 v4 (0 : Int64) mem)))
 else (f2_value_b104 F t a1 a2 s10 v3 v4 x16 mem))
 else (f2_value_b104 F t a1 a2 s10 v3 v4 x16 mem)))))
 else (if v3 = (1 : Int32) then (g_ck (0 : Int32) 64 (
 some ((mem.2.1 (t + 4) (0 : Int32).toNatClampNeg), mem)))
 else (some ((-9223372036854775808 : Int64), mem))))

def f2_value_b10 (F : Nat) (t : Nat) (a1 : Int32) (a2 : Nat) (v3 : Int32) (v4 : Int32) (mem : g_M) : Option (Int64 × g_M) :=
  g_fix (fun sf x => f2_value_b10_body F t a1 a2 (fun v3 v4 mem => sf (v3, v4, mem)) x.1 x.2.1 x.2.2) F (v3, v4, mem)

def f2_value (F : Nat) (t : Nat) (a1 : Int32) (a2 : Nat) (mem : g_M) : Option (Int64 × g_M) :=
 g_ck a1 3 (
 g_let ((mem.1 (t + 2) a1.toNatClampNeg)) (fun x27 =>
 f2_value_b10 F t a1 a2 (0 : Int32) x27 mem))

def f0_gainLaw (F : Nat) (a1 : Int32) (a2 : Int32) (mem : g_M) : Option (Int64 × g_M) :=
 g_dr yC 69 (mem.2.2 53 4) 9 (fun q1 =>
 (f2_isTold F (q1 + 9) (1 : Int32) mem).bind (fun r2 =>
 if r2 = (0 : Int32) then (some ((-9223372036854775808 : Int64), mem))
 else (g_ck (0 : Int32) 7 (
 g_let (g_sL mem 55 (0 : Int32).toNatClampNeg (0 : Int64)) (fun m5 =>
 g_ck (1 : Int32) 7 (
 g_let (g_sL m5 55 (1 : Int32).toNatClampNeg (0 : Int64)) (fun m7 =>
 (f0_nameMan F a1 m7).bind (fun r8 =>
 g_dr yC 69 (r8.2.2 53 4) 9 (fun q9 =>
 (f9_wantAt F q9 a2 (4 : Int32) r8).bind (fun r10 =>
 g_ck (5 : Int32) 7 (
 g_let (g_sL r8 55 (5 : Int32).toNatClampNeg r10.toInt64) (fun m12 =>
 g_dr yC 69 (m12.2.2 53 4) 9 (fun q13 =>
 (f2_value F (q13 + 9) (1 : Int32) 55 m12).bind (fun r14 =>
 some (r14.1, r14.2)))))))))))))))

def f0_within (F : Nat) (a0 : Int64) (a2 : Int32) (mem : g_M) : Option (Int32) :=
 if (lg_cmp a0 (-9223372036854775808 : Int64)) = (0 : Int32) then (some a2)
 else (some (if (if a0 < (999 : Int64) then a0 else (999 : Int64)) < (0 : Int64) then (0 : Int64) else (if a0 < (999 : Int64) then a0 else (999 : Int64))).toInt32)

def f0_settle (F : Nat) (a1 : Int32) (mem : g_M) : Option (g_M) :=
 g_dr yC 69 (mem.2.2 53 4) 9 (fun q1 =>
 (f9_wantAt F q1 a1 (0 : Int32) mem).bind (fun r2 =>
 g_dr yC 69 (mem.2.2 53 3) 7 (fun q3 =>
 g_dr yC 69 (mem.2.2 53 4) 9 (fun q4 =>
 (f9_wantAt F q4 a1 (1 : Int32) mem).bind (fun r5 =>
 g_dr yC 69 (mem.2.2 53 4) 9 (fun q6 =>
 (f9_wantAt F q6 a1 (2 : Int32) mem).bind (fun r7 =>
 (f7_lacks F q3 r2 r5 r7 mem).bind (fun r8 =>
 if r8 = (0 : Int32) then (g_dr yC 69 (mem.2.2 53 3) 7 (fun q13 =>
 g_ck a1 8 (
 g_let (g_sI mem (q13 + 5) a1.toNatClampNeg (1 : Int32)) (fun m15 =>
 (f0_gainLaw F r2 a1 m15).bind (fun r16 =>
 g_dr yC 69 (r16.2.2.2 53 4) 9 (fun q17 =>
 (f9_wantAt F q17 a1 (4 : Int32) r16.2).bind (fun r18 =>
 (f0_within F r16.1 r18 r16.2).bind (fun r19 =>
 g_dr yC 69 (r16.2.2.2 53 3) 7 (fun q20 =>
 g_dr yC 69 (r16.2.2.2 53 3) 7 (fun q21 =>
 g_ck r2 5 (
 g_ck r2 5 (
 g_let (g_sI r16.2 (q20 + 1) r2.toNatClampNeg (if ((r16.2.1 (q21 + 1) r2.toNatClampNeg) + r19) < (99999 : Int32) then ((r16.2.1 (q21 + 1) r2.toNatClampNeg) + r19) else (99999 : Int32))) (fun m24 =>
 some m24)))))))))))))
 else (g_dr yC 69 (mem.2.2 53 3) 7 (fun q10 =>
 g_ck a1 8 (
 g_let (g_sI mem (q10 + 5) a1.toNatClampNeg (2 : Int32)) (fun m12 =>
 some m12))))))))))))

def f0_settleWants_b37 (F : Nat) (s2 : Int32 → g_M → Option (g_M)) (v1 : Int32) (mem : g_M) : Option (g_M) :=
 g_let (v1 + (1 : Int32)) (fun x1 =>
 s2 x1 mem)

def f0_settleWants_b2_body (F : Nat) (s2 : Int32 → g_M → Option (g_M)) (v1 : Int32) (mem : g_M) : Option (g_M) :=
 g_dr yC 69 (mem.2.2 53 4) 9 (fun q2 =>
 if v1 < (mem.1 q2 8) then (g_dr yC 69 (mem.2.2 53 4) 9 (fun q4 =>
 (f9_wantAt F q4 v1 (3 : Int32) mem).bind (fun r5 =>
 g_dr yC 69 (mem.2.2 53 3) 7 (fun q6 =>
 if r5 = (mem.1 q6 1) then ((f0_settle F v1 mem).bind (fun r8 =>
 f0_settleWants_b37 F s2 v1 r8))
 else (f0_settleWants_b37 F s2 v1 mem)))))
 else (some mem))

def f0_settleWants_b2 (F : Nat) (v1 : Int32) (mem : g_M) : Option (g_M) :=
  g_fix (fun sf x => f0_settleWants_b2_body F (fun v1 mem => sf (v1, mem)) x.1 x.2) F (v1, mem)

def f0_settleWants (F : Nat) (mem : g_M) : Option (g_M) :=
 f0_settleWants_b2 F (0 : Int32) mem

def f7_sendingAt (F : Nat) (t : Nat) (a1 : Int32) (a2 : Int32) (mem : g_M) : Option (Int32) :=
 g_ck ((a1 * (4 : Int32)) + a2) 48 (
 some (mem.1 (t + 4) ((a1 * (4 : Int32)) + a2).toNatClampNeg))

def f7_isDue (F : Nat) (t : Nat) (a1 : Int32) (mem : g_M) : Option (Int32) :=
 (f7_sendingAt F t a1 (3 : Int32) mem).bind (fun r1 =>
 if r1 = (0 : Int32) then ((f7_sendingAt F t a1 (2 : Int32) mem).bind (fun r3 =>
 if r3 ≤ (mem.1 t 1) then (some (1 : Int32))
 else (some (0 : Int32))))
 else (some (0 : Int32)))

def f0_nameSort (F : Nat) (a1 : Int32) (mem : g_M) : Option (g_M) :=
 g_dr yC 69 (mem.2.2 53 4) 9 (fun q1 =>
 g_ck a1 5 (
 g_ck (0 : Int32) 7 (
 g_let (g_sL mem 55 (0 : Int32).toNatClampNeg (mem.1 (q1 + 4) a1.toNatClampNeg).toInt64) (fun m4 =>
 g_dr yC 69 (m4.2.2 53 4) 9 (fun q5 =>
 g_ck a1 5 (
 g_ck (1 : Int32) 7 (
 g_let (g_sL m4 55 (1 : Int32).toNatClampNeg (m4.1 (q5 + 5) a1.toNatClampNeg).toInt64) (fun m8 =>
 some m8))))))))

def f0_fareLaw (F : Nat) (a1 : Int32) (a2 : Int32) (mem : g_M) : Option (Int64 × g_M) :=
 g_dr yC 69 (mem.2.2 53 4) 9 (fun q1 =>
 (f2_isTold F (q1 + 9) (0 : Int32) mem).bind (fun r2 =>
 if r2 = (0 : Int32) then (some ((-9223372036854775808 : Int64), mem))
 else ((f0_nameSort F a2 mem).bind (fun r4 =>
 (f0_nameMan F a1 r4).bind (fun r5 =>
 g_ck (5 : Int32) 7 (
 g_let (g_sL r5 55 (5 : Int32).toNatClampNeg (0 : Int64)) (fun m7 =>
 g_dr yC 69 (m7.2.2 53 4) 9 (fun q8 =>
 (f2_value F (q8 + 9) (0 : Int32) 55 m7).bind (fun r9 =>
 some (r9.1, r9.2))))))))))

def f0_boards_b67 (F : Nat) (a1 : Int32) (a2 : Int32) (v3 : Int32) (w0 : Int32) (mem : g_M) : Option (Int32 × g_M) :=
 g_dr yC 69 (mem.2.2 53 3) 7 (fun q1 =>
 g_ck a1 5 (
 if (mem.1 (q1 + 1) a1.toNatClampNeg) < w0 then (some ((0 : Int32), mem))
 else (g_dr yC 69 (mem.2.2 53 3) 7 (fun q4 =>
 g_ck a1 5 (
 g_ck a1 5 (
 g_let (g_sI mem (q4 + 1) a1.toNatClampNeg ((mem.1 (q4 + 1) a1.toNatClampNeg) - w0)) (fun m7 =>
 g_ck v3 25 (
 g_let (g_sI m7 54 v3.toNatClampNeg (1 : Int32)) (fun m9 =>
 g_let (g_sI m9 53 7 ((m9.1 53 7) + (1 : Int32))) (fun m10 =>
 some ((1 : Int32), m10)))))))))))

def f0_boards (F : Nat) (a1 : Int32) (a2 : Int32) (mem : g_M) : Option (Int32 × g_M) :=
 g_let (((a1 * (5 : Int32)) + a2)) (fun x11 =>
 g_dr yC 69 (mem.2.2 53 3) 7 (fun q12 =>
 g_ck x11 25 (
 g_dr yC 69 (mem.2.2 53 3) 7 (fun q14 =>
 if (mem.1 (q12 + 3) x11.toNatClampNeg) = ((mem.1 q14 1) &&& (1 : Int32)) then (g_ck x11 25 (
 if (mem.1 54 x11.toNatClampNeg) = (0 : Int32) then (if (mem.1 53 1) = (0 : Int32) then ((f0_fareLaw F a1 a2 mem).bind (fun r19 =>
 g_dr yC 69 (r19.2.2.2 53 4) 9 (fun q20 =>
 g_ck a2 5 (
 (f0_within F r19.1 (r19.2.1 (q20 + 5) a2.toNatClampNeg) r19.2).bind (fun r22 =>
 f0_boards_b67 F a1 a2 x11 r22 r19.2)))))
 else (f0_boards_b67 F a1 a2 x11 (0 : Int32) mem))
 else (some ((0 : Int32), mem))))
 else (some ((0 : Int32), mem))))))

def f7_setSending (F : Nat) (t : Nat) (a1 : Int32) (a2 : Int32) (a3 : Int32) (mem : g_M) : Option (g_M) :=
 g_ck ((a1 * (4 : Int32)) + a2) 48 (
 g_let (g_sI mem (t + 4) ((a1 * (4 : Int32)) + a2).toNatClampNeg a3) (fun m2 =>
 some m2))

def f0_fillBoat_b105 (F : Nat) (s7 : Int32 → Int32 → g_M → Option (g_M)) (v1 : Int32) (v2 : Int32) (mem : g_M) : Option (g_M) :=
 g_let (v2 + (1 : Int32)) (fun x1 =>
 s7 v1 x1 mem)

def f0_fillBoat_b7_body (F : Nat) (s7 : Int32 → Int32 → g_M → Option (g_M)) (v1 : Int32) (v2 : Int32) (mem : g_M) : Option (g_M) :=
 g_dr yC 69 (mem.2.2 53 3) 7 (fun q2 =>
 if v2 < (mem.1 q2 7) then (g_dr yC 69 (mem.2.2 53 3) 7 (fun q4 =>
 (f7_sendingAt F q4 v2 (0 : Int32) mem).bind (fun r5 =>
 g_dr yC 69 (mem.2.2 53 3) 7 (fun q6 =>
 (f7_sendingAt F q6 v2 (1 : Int32) mem).bind (fun r7 =>
 g_dr yC 69 (mem.2.2 53 3) 7 (fun q8 =>
 (f7_isDue F q8 v2 mem).bind (fun r9 =>
 if r9 = (0 : Int32) then (f0_fillBoat_b105 F s7 v1 v2 mem)
 else (if r5 = (mem.1 53 2) then (f0_fillBoat_b105 F s7 v1 v2 mem)
 else (g_dr yC 69 (mem.2.2 53 4) 9 (fun q12 =>
 g_ck r7 5 (
 if (mem.1 (q12 + 4) r7.toNatClampNeg) ≤ v1 then ((f0_boards F r5 r7 mem).bind (fun r15 =>
 if r15.1 = (0 : Int32) then (f0_fillBoat_b105 F s7 v1 v2 r15.2)
 else (g_dr yC 69 (r15.2.2.2 53 4) 9 (fun q17 =>
 g_ck r7 5 (
 g_let ((v1 - (r15.2.1 (q17 + 4) r7.toNatClampNeg))) (fun x19 =>
 g_dr yC 69 (r15.2.2.2 53 3) 7 (fun q20 =>
 (f7_setSending F q20 v2 (3 : Int32) (1 : Int32) r15.2).bind (fun r21 =>
 f0_fillBoat_b105 F s7 x19 v2 r21))))))))
 else (f0_fillBoat_b105 F s7 v1 v2 mem))))))))))))
 else (some mem))

def f0_fillBoat_b7 (F : Nat) (v1 : Int32) (v2 : Int32) (mem : g_M) : Option (g_M) :=
  g_fix (fun sf x => f0_fillBoat_b7_body F (fun v1 v2 mem => sf (v1, v2, mem)) x.1 x.2.1 x.2.2) F (v1, v2, mem)

def f0_fillBoat (F : Nat) (mem : g_M) : Option (g_M) :=
 g_let ((mem.1 53 0)) (fun x22 =>
 f0_fillBoat_b7 F x22 (0 : Int32) mem)

def f0_nextNumber (F : Nat) (mem : g_M) : Option (Int32 × g_M) :=
 g_dr yC 69 (mem.2.2 53 3) 7 (fun q1 =>
 g_dr yC 69 (mem.2.2 53 3) 7 (fun q2 =>
 g_let (g_sI mem q1 2 ((((mem.1 q2 2).toInt64 * (1103515245 : Int64)) + (12345 : Int64)) &&& (2147483647 : Int64)).toInt32) (fun m3 =>
 g_dr yC 69 (m3.2.2 53 3) 7 (fun q4 =>
 some (((m3.1 q4 2) / (65536 : Int32)), m3)))))

def f0_storms (F : Nat) (mem : g_M) : Option (Int32 × g_M) :=
 if (mem.1 53 5) = (2 : Int32) then (some ((0 : Int32), mem))
 else (g_dr yC 69 (mem.2.2 53 4) 9 (fun q2 =>
 if (mem.1 q2 11) = (0 : Int32) then (some ((0 : Int32), mem))
 else (g_dr yC 69 (mem.2.2 53 4) 9 (fun q4 =>
 if (mem.1 q4 11) = (100 : Int32) then (some ((1 : Int32), mem))
 else (if (mem.1 53 5) = (1 : Int32) then (g_dr yC 69 (mem.2.2 53 4) 9 (fun q7 =>
 if (50 : Int32) ≤ (mem.1 q7 11) then (some ((1 : Int32), mem))
 else (some ((0 : Int32), mem))))
 else ((f0_nextNumber F mem).bind (fun r9 =>
 g_dr yC 69 (r9.2.2.2 53 4) 9 (fun q10 =>
 if (r9.1 - r9.1 / (100 : Int32) * (100 : Int32)) < (r9.2.1 q10 11) then (some ((1 : Int32), r9.2))
 else (some ((0 : Int32), r9.2))))))))))

def f0_aboardOf_b36 (F : Nat) (a1 : Int32) (s4 : Int32 → Int32 → Option (Int32)) (mem : g_M) (v3 : Int32) (w0 : Int32) (w1 : Int32) : Option (Int32) :=
 g_let ((w0 + w1)) (fun x1 =>
 g_let (v3 + (1 : Int32)) (fun x2 =>
 s4 x1 x2))

def f0_aboardOf_b4_body (F : Nat) (a1 : Int32) (s4 : Int32 → Int32 → Option (Int32)) (mem : g_M) (v2 : Int32) (v3 : Int32) : Option (Int32) :=
 g_dr yC 69 (mem.2.2 53 4) 9 (fun q3 =>
 g_ck (0 : Int32) 3 (
 if v3 < (mem.1 (q3 + 1) (0 : Int32).toNatClampNeg) then (g_ck ((v3 * (5 : Int32)) + a1) 25 (
 if (mem.1 54 ((v3 * (5 : Int32)) + a1).toNatClampNeg) = (0 : Int32) then (f0_aboardOf_b36 F a1 s4 mem v3 v2 (0 : Int32))
 else (f0_aboardOf_b36 F a1 s4 mem v3 v2 (1 : Int32))))
 else (some v2)))

def f0_aboardOf_b4 (F : Nat) (a1 : Int32) (mem : g_M) (v2 : Int32) (v3 : Int32) : Option (Int32) :=
  g_fix (fun sf x => f0_aboardOf_b4_body F a1 (fun v2 v3 => sf (v2, v3)) mem x.1 x.2) F (v2, v3)

def f0_aboardOf (F : Nat) (a1 : Int32) (mem : g_M) : Option (Int32) :=
 f0_aboardOf_b4 F a1 mem (0 : Int32) (0 : Int32)

def f0_mixLaw (F : Nat) (a1 : Int32) (mem : g_M) : Option (Int64 × g_M) :=
 g_dr yC 69 (mem.2.2 53 4) 9 (fun q1 =>
 (f2_isTold F (q1 + 9) (2 : Int32) mem).bind (fun r2 =>
 if r2 = (0 : Int32) then (some ((-9223372036854775808 : Int64), mem))
 else ((f0_nameSort F a1 mem).bind (fun r4 =>
 (f0_nameBoat F r4).bind (fun r5 =>
 g_ck (2 : Int32) 7 (
 g_let (g_sL r5 55 (2 : Int32).toNatClampNeg (0 : Int64)) (fun m7 =>
 (f0_aboardOf F a1 m7).bind (fun r8 =>
 g_ck (4 : Int32) 7 (
 g_let (g_sL m7 55 (4 : Int32).toNatClampNeg r8.toInt64) (fun m10 =>
 g_ck (5 : Int32) 7 (
 g_let (g_sL m10 55 (5 : Int32).toNatClampNeg (0 : Int64)) (fun m12 =>
 g_dr yC 69 (m12.2.2 53 4) 9 (fun q13 =>
 (f2_value F (q13 + 9) (2 : Int32) 55 m12).bind (fun r14 =>
 some (r14.1, r14.2)))))))))))))))

def f7_exchange (F : Nat) (t : Nat) (a1 : Int32) (a2 : Int32) (a3 : Int32) (mem : g_M) : Option (g_M) :=
 g_ck ((a1 * (5 : Int32)) + a3) 25 (
 g_let ((mem.1 (t + 2) ((a1 * (5 : Int32)) + a3).toNatClampNeg)) (fun x2 =>
 g_ck ((a2 * (5 : Int32)) + a3) 25 (
 g_ck ((a1 * (5 : Int32)) + a3) 25 (
 g_let (g_sI mem (t + 2) ((a1 * (5 : Int32)) + a3).toNatClampNeg (mem.1 (t + 2) ((a2 * (5 : Int32)) + a3).toNatClampNeg)) (fun m5 =>
 g_ck ((a2 * (5 : Int32)) + a3) 25 (
 g_let (g_sI m5 (t + 2) ((a2 * (5 : Int32)) + a3).toNatClampNeg x2) (fun m7 =>
 some m7)))))))

def f0_mixTwo_b48 (F : Nat) (a1 : Int32) (s4 : Int32 → Int32 → g_M → Option (g_M)) (v2 : Int32) (v3 : Int32) (mem : g_M) : Option (g_M) :=
 g_let (v3 + (1 : Int32)) (fun x1 =>
 s4 v2 x1 mem)

def f0_mixTwo_b4_body (F : Nat) (a1 : Int32) (s4 : Int32 → Int32 → g_M → Option (g_M)) (v2 : Int32) (v3 : Int32) (mem : g_M) : Option (g_M) :=
 g_dr yC 69 (mem.2.2 53 4) 9 (fun q2 =>
 g_ck (0 : Int32) 3 (
 if v3 < (mem.1 (q2 + 1) (0 : Int32).toNatClampNeg) then (g_ck ((v3 * (5 : Int32)) + a1) 25 (
 if (mem.1 54 ((v3 * (5 : Int32)) + a1).toNatClampNeg) = (0 : Int32) then (f0_mixTwo_b48 F a1 s4 v2 v3 mem)
 else (if v2 = (-1 : Int32) then (f0_mixTwo_b48 F a1 s4 v3 v3 mem)
 else (g_dr yC 69 (mem.2.2 53 3) 7 (fun q8 =>
 (f7_exchange F q8 v2 v3 a1 mem).bind (fun r9 =>
 some r9))))))
 else (some mem)))

def f0_mixTwo_b4 (F : Nat) (a1 : Int32) (v2 : Int32) (v3 : Int32) (mem : g_M) : Option (g_M) :=
  g_fix (fun sf x => f0_mixTwo_b4_body F a1 (fun v2 v3 mem => sf (v2, v3, mem)) x.1 x.2.1 x.2.2) F (v2, v3, mem)

def f0_mixTwo (F : Nat) (a1 : Int32) (mem : g_M) : Option (g_M) :=
 f0_mixTwo_b4 F a1 (-1 : Int32) (0 : Int32) mem

def f0_mixAll_b30 (F : Nat) (s2 : Int32 → g_M → Option (g_M)) (v1 : Int32) (mem : g_M) : Option (g_M) :=
 g_let (v1 + (1 : Int32)) (fun x1 =>
 s2 x1 mem)

def f0_mixAll_b2_body (F : Nat) (s2 : Int32 → g_M → Option (g_M)) (v1 : Int32) (mem : g_M) : Option (g_M) :=
 g_dr yC 69 (mem.2.2 53 4) 9 (fun q2 =>
 g_ck (1 : Int32) 3 (
 if v1 < (mem.1 (q2 + 1) (1 : Int32).toNatClampNeg) then ((f0_mixLaw F v1 mem).bind (fun r5 =>
 if (lg_cmp r5.1 (0 : Int64)) = (0 : Int32) then (f0_mixAll_b30 F s2 v1 r5.2)
 else ((f0_mixTwo F v1 r5.2).bind (fun r7 =>
 f0_mixAll_b30 F s2 v1 r7))))
 else (some mem)))

def f0_mixAll_b2 (F : Nat) (v1 : Int32) (mem : g_M) : Option (g_M) :=
  g_fix (fun sf x => f0_mixAll_b2_body F (fun v1 mem => sf (v1, mem)) x.1 x.2) F (v1, mem)

def f0_mixAll (F : Nat) (mem : g_M) : Option (g_M) :=
 f0_mixAll_b2 F (0 : Int32) mem

def f0_land_b47 (F : Nat) (s2 : Int32 → g_M → Option (g_M)) (v1 : Int32) (mem : g_M) : Option (g_M) :=
 g_let (v1 + (1 : Int32)) (fun x1 =>
 s2 x1 mem)

def f0_land_b2_body (F : Nat) (s2 : Int32 → g_M → Option (g_M)) (v1 : Int32) (mem : g_M) : Option (g_M) :=
 if v1 < (25 : Int32) then (g_ck v1 25 (
 if (mem.1 54 v1.toNatClampNeg) = (0 : Int32) then (f0_land_b47 F s2 v1 mem)
 else (g_dr yC 69 (mem.2.2 53 3) 7 (fun q5 =>
 g_dr yC 69 (mem.2.2 53 3) 7 (fun q6 =>
 g_ck v1 25 (
 g_ck v1 25 (
 g_let (g_sI mem (q5 + 3) v1.toNatClampNeg ((1 : Int32) - (mem.1 (q6 + 3) v1.toNatClampNeg))) (fun m9 =>
 g_ck v1 25 (
 g_let (g_sI m9 54 v1.toNatClampNeg (0 : Int32)) (fun m11 =>
 f0_land_b47 F s2 v1 m11))))))))))
 else (g_let (g_sI mem 53 7 (0 : Int32)) (fun m12 =>
 some m12))

def f0_land_b2 (F : Nat) (v1 : Int32) (mem : g_M) : Option (g_M) :=
  g_fix (fun sf x => f0_land_b2_body F (fun v1 mem => sf (v1, mem)) x.1 x.2) F (v1, mem)

def f0_land (F : Nat) (mem : g_M) : Option (g_M) :=
 f0_land_b2 F (0 : Int32) mem

def f0_pass_b50 (F : Nat) (a1 : Int32) (s2 : Int32 → g_M → Option (g_M)) (v2 : Int32) (mem : g_M) : Option (g_M) :=
 g_dr yC 69 (mem.2.2 53 3) 7 (fun q1 =>
 g_let (g_sI mem q1 1 ((mem.1 q1 1) + (1 : Int32))) (fun m2 =>
 g_let (v2 + (1 : Int32)) (fun x3 =>
 s2 x3 m2)))

def f0_pass_b39 (F : Nat) (a1 : Int32) (s2 : Int32 → g_M → Option (g_M)) (v2 : Int32) (mem : g_M) : Option (g_M) :=
 if (0 : Int32) < (mem.1 53 7) then ((f0_land F mem).bind (fun r5 =>
 f0_pass_b50 F a1 s2 v2 r5))
 else (f0_pass_b50 F a1 s2 v2 mem)

def f0_pass_b2_body (F : Nat) (a1 : Int32) (s2 : Int32 → g_M → Option (g_M)) (v2 : Int32) (mem : g_M) : Option (g_M) :=
 if v2 < a1 then ((f0_settleWants F mem).bind (fun r7 =>
 (f0_fillBoat F r7).bind (fun r8 =>
 (f0_storms F r8).bind (fun r9 =>
 if r9.1 = (0 : Int32) then (f0_pass_b39 F a1 s2 v2 r9.2)
 else (g_dr yC 69 (r9.2.2.2 53 3) 7 (fun q11 =>
 g_let (g_sI r9.2 q11 3 ((r9.2.1 q11 3) + (1 : Int32))) (fun m12 =>
 (f0_mixAll F m12).bind (fun r13 =>
 f0_pass_b39 F a1 s2 v2 r13))))))))
 else (some mem)

def f0_pass_b2 (F : Nat) (a1 : Int32) (v2 : Int32) (mem : g_M) : Option (g_M) :=
  g_fix (fun sf x => f0_pass_b2_body F a1 (fun v2 mem => sf (v2, mem)) x.1 x.2) F (v2, mem)

def f0_pass (F : Nat) (a1 : Int32) (mem : g_M) : Option (g_M) :=
 f0_pass_b2 F a1 (0 : Int32) mem

def f8_isSign (F : Nat) (a1 : Int32) (mem : g_M) : Option (Int32) :=
 if (mem.1 31 0) = (4 : Int32) then (if (mem.1 31 2) = a1 then (some (1 : Int32))
 else (some (0 : Int32)))
 else (some (0 : Int32))

def f1_isAtEnd (F : Nat) (mem : g_M) : Option (Int32) :=
 if (mem.1 33 4) = (0 : Int32) then (if (mem.1 33 2) = (0 : Int32) then ((f8_isSign F (15 : Int32) mem).bind (fun r3 =>
 if r3 = (0 : Int32) then (some (0 : Int32))
 else (some (1 : Int32))))
 else (some (0 : Int32)))
 else (some (0 : Int32))

def f1_push (F : Nat) (a1 : Int32) (mem : g_M) : Option (g_M) :=
 if (mem.1 33 1) < (72 : Int32) then (g_ck (mem.1 33 1) 72 (
 g_let (g_sI mem 34 (mem.1 33 1).toNatClampNeg a1) (fun m3 =>
 g_let (g_sI m3 33 1 ((m3.1 33 1) + (1 : Int32))) (fun m4 =>
 some m4))))
 else (some mem)

def f1_takeOpen (F : Nat) (mem : g_M) : Option (Int32 × g_M) :=
 if (8 : Int32) ≤ (mem.1 33 2) then (some ((2 : Int32), mem))
 else (g_let (g_sI mem 33 2 ((mem.1 33 2) + (1 : Int32))) (fun m2 =>
 (f1_push F (13 : Int32) m2).bind (fun r3 =>
 some ((0 : Int32), r3))))

def f8_isWord (F : Nat) (a1 : Int32) (mem : g_M) : Option (Int32) :=
 if (mem.1 31 0) = (3 : Int32) then (if (mem.1 31 2) = a1 then (some (1 : Int32))
 else (some (0 : Int32)))
 else (some (0 : Int32))

def f1_rankOf (F : Nat) (a0 : Int32) (mem : g_M) : Option (Int32) :=
 if a0 = (0 : Int32) then (some (5 : Int32))
 else (if a0 = (1 : Int32) then (some (5 : Int32))
 else (if a0 = (2 : Int32) then (some (6 : Int32))
 else (if a0 = (3 : Int32) then (some (6 : Int32))
 else (if a0 = (4 : Int32) then (some (4 : Int32))
 else (if a0 = (5 : Int32) then (some (4 : Int32))
 else (if a0 = (6 : Int32) then (some (4 : Int32))
 else (if a0 = (7 : Int32) then (some (4 : Int32))
 else (if a0 = (8 : Int32) then (some (4 : Int32))
 else (if a0 = (9 : Int32) then (some (4 : Int32))
 else (if a0 = (10 : Int32) then (some (2 : Int32))
 else (if a0 = (11 : Int32) then (some (1 : Int32))
 else (if a0 = (12 : Int32) then (some (3 : Int32))
 else (if a0 = (13 : Int32) then (some (0 : Int32))
 else (some (4 : Int32)))))))))))))))

def f1_takeKnot (F : Nat) (a1 : Int32) (mem : g_M) : Option (Int32 × g_M) :=
 g_dr yC 69 (mem.2.2 33 6) 2 (fun q1 =>
 if (64 : Int32) ≤ (mem.1 q1 3) then (some ((2 : Int32), mem))
 else (g_dr yC 69 (mem.2.2 33 6) 2 (fun q3 =>
 g_let (g_sI mem q3 3 ((mem.1 q3 3) + (1 : Int32))) (fun m4 =>
 (f1_push F a1 m4).bind (fun r5 =>
 some ((0 : Int32), r5))))))

def f1_write (F : Nat) (a1 : Int32) (mem : g_M) : Option (g_M) :=
 if (mem.1 33 3) < (64 : Int32) then (g_dr yC 69 (mem.2.2 33 6) 2 (fun q2 =>
 g_ck (mem.1 33 3) 64 (
 g_let (g_sI mem (q2 + 1) (mem.1 33 3).toNatClampNeg a1) (fun m4 =>
 g_let (g_sI m4 33 3 ((m4.1 33 3) + (1 : Int32))) (fun m5 =>
 some m5)))))
 else (some mem)

def f1_takeLeaf (F : Nat) (a1 : Int32) (mem : g_M) : Option (Int32 × g_M) :=
 g_dr yC 69 (mem.2.2 33 6) 2 (fun q1 =>
 if (64 : Int32) ≤ (mem.1 q1 3) then (some ((2 : Int32), mem))
 else (g_dr yC 69 (mem.2.2 33 6) 2 (fun q3 =>
 g_let (g_sI mem q3 3 ((mem.1 q3 3) + (1 : Int32))) (fun m4 =>
 (f1_write F a1 m4).bind (fun r5 =>
 g_let (g_sI r5 33 4 (0 : Int32)) (fun m6 =>
 some ((0 : Int32), m6)))))))

def f1_takeOperand_b59 (F : Nat) (w0 : Int32) (mem : g_M) : Option (Int32 × g_M) :=
 if w0 = (0 : Int32) then (some ((1 : Int32), mem))
 else ((f1_takeKnot F (12 : Int32) mem).bind (fun r2 =>
 some (r2.1, r2.2)))

def f1_takeOperand_b54 (F : Nat) (mem : g_M) : Option (Int32 × g_M) :=
 f1_takeOperand_b59 F (1 : Int32) mem

def f1_takeOperand (F : Nat) (mem : g_M) : Option (Int32 × g_M) :=
 (f8_isSign F (13 : Int32) mem).bind (fun r3 =>
 if r3 = (0 : Int32) then ((f8_isWord F (14 : Int32) mem).bind (fun r6 =>
 if r6 = (0 : Int32) then (if (mem.1 31 0) = (1 : Int32) then (if (9999 : Int32) < (mem.1 31 2) then (some ((2 : Int32), mem))
 else ((f1_takeLeaf F (mem.1 31 2) mem).bind (fun r14 =>
 some (r14.1, r14.2))))
 else (if (mem.1 31 0) = (3 : Int32) then (if (15 : Int32) ≤ (mem.1 31 2) then ((f1_takeLeaf F (((10000 : Int32) + (mem.1 31 2)) - (15 : Int32)) mem).bind (fun r17 =>
 some (r17.1, r17.2)))
 else (some ((1 : Int32), mem)))
 else (some ((1 : Int32), mem))))
 else (if (mem.1 33 1) = (0 : Int32) then (f1_takeOperand_b54 F mem)
 else (g_ck ((mem.1 33 1) - (1 : Int32)) 72 (
 (f1_rankOf F (mem.1 34 ((mem.1 33 1) - (1 : Int32)).toNatClampNeg) mem).bind (fun r10 =>
 if r10 ≤ (3 : Int32) then (f1_takeOperand_b54 F mem)
 else (f1_takeOperand_b59 F (0 : Int32) mem)))))))
 else ((f1_takeOpen F mem).bind (fun r5 =>
 some (r5.1, r5.2))))

def f1_writeWaiting_b0_body (F : Nat) (a1 : Int32) (s0 : g_M → Option (g_M)) (mem : g_M) : Option (g_M) :=
 if (0 : Int32) < (mem.1 33 1) then (g_ck ((mem.1 33 1) - (1 : Int32)) 72 (
 (f1_rankOf F (mem.1 34 ((mem.1 33 1) - (1 : Int32)).toNatClampNeg) mem).bind (fun r3 =>
 if a1 ≤ r3 then (g_let (g_sI mem 33 1 ((mem.1 33 1) - (1 : Int32))) (fun m5 =>
 g_ck (m5.1 33 1) 72 (
 (f1_write F ((10007 : Int32) + (m5.1 34 (m5.1 33 1).toNatClampNeg)) m5).bind (fun r7 =>
 s0 r7))))
 else (some mem))))
 else (some mem)

def f1_writeWaiting_b0 (F : Nat) (a1 : Int32) (mem : g_M) : Option (g_M) :=
  g_fix (fun sf x => f1_writeWaiting_b0_body F a1 (fun mem => sf mem) x) F mem

def f1_writeWaiting (F : Nat) (a1 : Int32) (mem : g_M) : Option (g_M) :=
 f1_writeWaiting_b0 F a1 mem

def f1_takeClose (F : Nat) (mem : g_M) : Option (Int32 × g_M) :=
 if (mem.1 33 2) < (1 : Int32) then (some ((1 : Int32), mem))
 else (g_let (g_sI mem 33 2 ((mem.1 33 2) - (1 : Int32))) (fun m2 =>
 (f1_writeWaiting F (1 : Int32) m2).bind (fun r3 =>
 g_let (g_sI r3 33 1 (if (0 : Int32) < ((r3.1 33 1) - (1 : Int32)) then ((r3.1 33 1) - (1 : Int32)) else (0 : Int32))) (fun m4 =>
 some ((0 : Int32), m4)))))

def f1_operatorHere_b31 (F : Nat) (mem : g_M) : Option (Int32) :=
 (f8_isWord F (13 : Int32) mem).bind (fun r1 =>
 if r1 = (0 : Int32) then ((f8_isWord F (12 : Int32) mem).bind (fun r3 =>
 if r3 = (0 : Int32) then (some (-1 : Int32))
 else (some (11 : Int32))))
 else (some (10 : Int32)))

def f1_operatorHere (F : Nat) (mem : g_M) : Option (Int32) :=
 if (mem.1 31 0) = (4 : Int32) then (if (mem.1 31 2) ≤ (9 : Int32) then (some (mem.1 31 2))
 else (f1_operatorHere_b31 F mem))
 else (f1_operatorHere_b31 F mem)

def f1_takeOperator_b64 (F : Nat) (v1 : Int32) (mem : g_M) : Option (Int32 × g_M) :=
 g_let (g_sI mem 33 4 (1 : Int32)) (fun m1 =>
 (f1_takeKnot F v1 m1).bind (fun r2 =>
 some (r2.1, r2.2)))

def f1_takeOperator (F : Nat) (mem : g_M) : Option (Int32 × g_M) :=
 (f1_operatorHere F mem).bind (fun r3 =>
 if r3 = (-1 : Int32) then (some ((1 : Int32), mem))
 else ((f1_rankOf F r3 mem).bind (fun r5 =>
 if r5 = (4 : Int32) then ((f1_writeWaiting F (r5 + (1 : Int32)) mem).bind (fun r8 =>
 if (0 : Int32) < (r8.1 33 1) then (g_ck ((r8.1 33 1) - (1 : Int32)) 72 (
 (f1_rankOf F (r8.1 34 ((r8.1 33 1) - (1 : Int32)).toNatClampNeg) r8).bind (fun r11 =>
 if r11 = r5 then (some ((1 : Int32), r8))
 else (f1_takeOperator_b64 F r3 r8))))
 else (f1_takeOperator_b64 F r3 r8)))
 else ((f1_writeWaiting F r5 mem).bind (fun r7 =>
 f1_takeOperator_b64 F r3 r7)))))

def f8_isLetter (F : Nat) (a0 : Int32) (mem : g_M) : Option (Int32) :=
 if (97 : Int32) ≤ a0 then (if a0 ≤ (122 : Int32) then (some (1 : Int32))
 else (some (0 : Int32)))
 else (some (0 : Int32))

def f8_stepWord_b150 (F : Nat) (s113 : Int32 → g_M → Option (g_M)) (v1 : Int32) (mem : g_M) : Option (g_M) :=
 g_let (v1 + (1 : Int32)) (fun x1 =>
 s113 x1 mem)

def f8_stepWord_b113_body (F : Nat) (s113 : Int32 → g_M → Option (g_M)) (v1 : Int32) (mem : g_M) : Option (g_M) :=
 if v1 < (22 : Int32) then (if (mem.1 31 0) = (2 : Int32) then (g_ck v1 22 (
 if (mem.1 32 v1.toNatClampNeg) = (mem.1 31 2) then (g_let (g_sI mem 31 0 (3 : Int32)) (fun m6 =>
 g_let (g_sI m6 31 2 v1) (fun m7 =>
 f8_stepWord_b150 F s113 v1 m7)))
 else (f8_stepWord_b150 F s113 v1 mem)))
 else (some mem))
 else (some mem)

def f8_stepWord_b113 (F : Nat) (v1 : Int32) (mem : g_M) : Option (g_M) :=
  g_fix (fun sf x => f8_stepWord_b113_body F (fun v1 mem => sf (v1, mem)) x.1 x.2) F (v1, mem)

def f8_stepWord_b108 (F : Nat) (w1 : Int32) (mem : g_M) : Option (g_M) :=
 g_let (g_sI mem 31 0 w1) (fun m8 =>
 f8_stepWord_b113 F (0 : Int32) m8)

def f8_stepWord_b88 (F : Nat) (mem : g_M) : Option (g_M) :=
 if (6 : Int32) < ((mem.1 31 5) - (mem.1 31 1)) then (f8_stepWord_b108 F (5 : Int32) mem)
 else (f8_stepWord_b108 F (2 : Int32) mem)

def f8_stepWord_b75 (F : Nat) (s5 : g_M → Option (g_M)) (mem : g_M) : Option (g_M) :=
 g_let (g_sI mem 31 5 ((mem.1 31 5) + (1 : Int32))) (fun m10 =>
 s5 m10)

def f8_stepWord_b5_body (F : Nat) (s5 : g_M → Option (g_M)) (mem : g_M) : Option (g_M) :=
 if (mem.1 31 5) < (mem.1 31 4) then (g_ck (mem.1 31 5) 700 (
 (f8_isLetter F (mem.1 1 (mem.1 31 5).toNatClampNeg) mem).bind (fun r13 =>
 if r13 = (0 : Int32) then (f8_stepWord_b88 F mem)
 else (g_let (((25 : Int32) - ((5 : Int32) * ((mem.1 31 5) - (mem.1 31 1))))) (fun x15 =>
 if (0 : Int32) ≤ x15 then (g_ck (mem.1 31 5) 700 (
 g_let (g_sI mem 31 2 ((mem.1 31 2) ||| ((((mem.1 1 (mem.1 31 5).toNatClampNeg) - (97 : Int32)) + (1 : Int32)) <<< (x15 &&& 31)))) (fun m18 =>
 f8_stepWord_b75 F s5 m18)))
 else (f8_stepWord_b75 F s5 mem))))))
 else (f8_stepWord_b88 F mem)

def f8_stepWord_b5 (F : Nat) (mem : g_M) : Option (g_M) :=
  g_fix (fun sf x => f8_stepWord_b5_body F (fun mem => sf mem) x) F mem

def f8_stepWord (F : Nat) (mem : g_M) : Option (g_M) :=
 g_let (g_sI mem 31 2 (0 : Int32)) (fun m19 =>
 f8_stepWord_b5 F m19)

def f8_isDigit (F : Nat) (a0 : Int32) (mem : g_M) : Option (Int32) :=
 if (48 : Int32) ≤ a0 then (if a0 ≤ (57 : Int32) then (some (1 : Int32))
 else (some (0 : Int32)))
 else (some (0 : Int32))

def f8_stepNumber_b10_body (F : Nat) (s10 : g_M → Option (g_M)) (mem : g_M) : Option (g_M) :=
 if (mem.1 31 5) < (mem.1 31 4) then (g_ck (mem.1 31 5) 700 (
 (f8_isDigit F (mem.1 1 (mem.1 31 5).toNatClampNeg) mem).bind (fun r3 =>
 if r3 = (0 : Int32) then (some mem)
 else (g_ck (mem.1 31 5) 700 (
 g_let (g_sI mem 31 2 (if ((((mem.1 31 2) * (10 : Int32)) + (mem.1 1 (mem.1 31 5).toNatClampNeg)) - (48 : Int32)) < (1000000 : Int32) then ((((mem.1 31 2) * (10 : Int32)) + (mem.1 1 (mem.1 31 5).toNatClampNeg)) - (48 : Int32)) else (1000000 : Int32))) (fun m6 =>
 g_let (g_sI m6 31 5 ((m6.1 31 5) + (1 : Int32))) (fun m7 =>
 s10 m7)))))))
 else (some mem)

def f8_stepNumber_b10 (F : Nat) (mem : g_M) : Option (g_M) :=
  g_fix (fun sf x => f8_stepNumber_b10_body F (fun mem => sf mem) x) F mem

def f8_stepNumber (F : Nat) (mem : g_M) : Option (g_M) :=
 g_let (g_sI mem 31 0 (1 : Int32)) (fun m8 =>
 g_let (g_sI m8 31 2 (0 : Int32)) (fun m9 =>
 f8_stepNumber_b10 F m9))

def f8_signOf (F : Nat) (a0 : Int32) (mem : g_M) : Option (Int32) :=
 if a0 = (40 : Int32) then (some (13 : Int32))
 else (if a0 = (41 : Int32) then (some (14 : Int32))
 else (if a0 = (42 : Int32) then (some (2 : Int32))
 else (if a0 = (43 : Int32) then (some (0 : Int32))
 else (if a0 = (44 : Int32) then (some (-1 : Int32))
 else (if a0 = (45 : Int32) then (some (1 : Int32))
 else (if a0 = (46 : Int32) then (some (-1 : Int32))
 else (if a0 = (47 : Int32) then (some (3 : Int32))
 else (if a0 = (48 : Int32) then (some (-1 : Int32))
 else (if a0 = (49 : Int32) then (some (-1 : Int32))
 else (if a0 = (50 : Int32) then (some (-1 : Int32))
 else (if a0 = (51 : Int32) then (some (-1 : Int32))
 else (if a0 = (52 : Int32) then (some (-1 : Int32))
 else (if a0 = (53 : Int32) then (some (-1 : Int32))
 else (if a0 = (54 : Int32) then (some (-1 : Int32))
 else (if a0 = (55 : Int32) then (some (-1 : Int32))
 else (if a0 = (56 : Int32) then (some (-1 : Int32))
 else (if a0 = (57 : Int32) then (some (-1 : Int32))
 else (if a0 = (58 : Int32) then (some (-1 : Int32))
 else (if a0 = (59 : Int32) then (some (15 : Int32))
 else (if a0 = (60 : Int32) then (some (4 : Int32))
 else (if a0 = (61 : Int32) then (some (6 : Int32))
 else (if a0 = (62 : Int32) then (some (9 : Int32))
 else (some (-1 : Int32))))))))))))))))))))))))

def f8_stepSign_b150 (F : Nat) (w1 : Int32) (mem : g_M) : Option (g_M) :=
 g_let (g_sI mem 31 0 w1) (fun m1 =>
 some m1)

def f8_stepSign_b128 (F : Nat) (v1 : Int32) (mem : g_M) : Option (g_M) :=
 (f8_signOf F v1 mem).bind (fun r2 =>
 g_let (g_sI mem 31 2 r2) (fun m3 =>
 if (m3.1 31 2) = (-1 : Int32) then (f8_stepSign_b150 F (5 : Int32) m3)
 else (f8_stepSign_b150 F (4 : Int32) m3)))

def f8_stepSign_b112 (F : Nat) (w1 : Int32) (mem : g_M) : Option (g_M) :=
 g_let (g_sI mem 31 2 w1) (fun m5 =>
 g_let (g_sI m5 31 5 ((m5.1 31 5) + (1 : Int32))) (fun m6 =>
 some m6))

def f8_stepSign_b93 (F : Nat) (v1 : Int32) (v2 : Int32) (mem : g_M) : Option (g_M) :=
 if v2 = (61 : Int32) then (if v1 = (60 : Int32) then (f8_stepSign_b112 F (5 : Int32) mem)
 else (f8_stepSign_b112 F (8 : Int32) mem))
 else (f8_stepSign_b128 F v1 mem)

def f8_stepSign_b81 (F : Nat) (v1 : Int32) (v2 : Int32) (mem : g_M) : Option (g_M) :=
 if v1 = (60 : Int32) then (f8_stepSign_b93 F v1 v2 mem)
 else (if v1 = (62 : Int32) then (f8_stepSign_b93 F v1 v2 mem)
 else (f8_stepSign_b128 F v1 mem))

def f8_stepSign_b44 (F : Nat) (v1 : Int32) (w0 : Int32) (mem : g_M) : Option (g_M) :=
 g_let (g_sI mem 31 0 (4 : Int32)) (fun m11 =>
 if v1 = (60 : Int32) then (if w0 = (62 : Int32) then (g_let (g_sI m11 31 2 (7 : Int32)) (fun m14 =>
 g_let (g_sI m14 31 5 ((m14.1 31 5) + (1 : Int32))) (fun m15 =>
 some m15)))
 else (f8_stepSign_b81 F v1 w0 m11))
 else (f8_stepSign_b81 F v1 w0 m11))

def f8_stepSign (F : Nat) (mem : g_M) : Option (g_M) :=
 g_ck (mem.1 31 5) 700 (
 g_let ((mem.1 1 (mem.1 31 5).toNatClampNeg)) (fun x17 =>
 g_let (g_sI mem 31 5 ((mem.1 31 5) + (1 : Int32))) (fun m18 =>
 if (m18.1 31 5) < (m18.1 31 4) then (g_ck (m18.1 31 5) 700 (
 f8_stepSign_b44 F x17 (m18.1 1 (m18.1 31 5).toNatClampNeg) m18))
 else (f8_stepSign_b44 F x17 (0 : Int32) m18))))

def f8_step_b52 (F : Nat) (mem : g_M) : Option (g_M) :=
 g_let (g_sI mem 31 1 (mem.1 31 5)) (fun m1 =>
 if (m1.1 31 4) ≤ (m1.1 31 5) then (g_let (g_sI m1 31 0 (0 : Int32)) (fun m3 =>
 some m3))
 else (g_ck (m1.1 31 5) 700 (
 (f8_isLetter F (m1.1 1 (m1.1 31 5).toNatClampNeg) m1).bind (fun r5 =>
 if r5 = (0 : Int32) then (g_ck (m1.1 31 5) 700 (
 (f8_isDigit F (m1.1 1 (m1.1 31 5).toNatClampNeg) m1).bind (fun r9 =>
 if r9 = (0 : Int32) then ((f8_stepSign F m1).bind (fun r12 =>
 some r12))
 else ((f8_stepNumber F m1).bind (fun r11 =>
 some r11)))))
 else ((f8_stepWord F m1).bind (fun r7 =>
 some r7))))))

def f8_step_b39 (F : Nat) (s0 : g_M → Option (g_M)) (mem : g_M) : Option (g_M) :=
 g_let (g_sI mem 31 5 ((mem.1 31 5) + (1 : Int32))) (fun m13 =>
 s0 m13)

def f8_step_b0_body (F : Nat) (s0 : g_M → Option (g_M)) (mem : g_M) : Option (g_M) :=
 if (mem.1 31 5) < (mem.1 31 4) then (g_ck (mem.1 31 5) 700 (
 if (mem.1 1 (mem.1 31 5).toNatClampNeg) = (10 : Int32) then (f8_step_b39 F s0 mem)
 else (g_ck (mem.1 31 5) 700 (
 if (mem.1 1 (mem.1 31 5).toNatClampNeg) = (32 : Int32) then (f8_step_b39 F s0 mem)
 else (f8_step_b52 F mem)))))
 else (f8_step_b52 F mem)

def f8_step_b0 (F : Nat) (mem : g_M) : Option (g_M) :=
  g_fix (fun sf x => f8_step_b0_body F (fun mem => sf mem) x) F mem

def f8_step (F : Nat) (mem : g_M) : Option (g_M) :=
 f8_step_b0 F mem

def f1_reads_b122 (F : Nat) (a1 : Nat) (a2 : Int32) (mem : g_M) : Option (Int32 × g_M) :=
 (f1_writeWaiting F (1 : Int32) mem).bind (fun r1 =>
 g_dr yC 69 (r1.2.2 33 6) 2 (fun q2 =>
 g_ck a2 3 (
 g_let (g_sI r1 (q2 + 3) a2.toNatClampNeg (r1.1 33 3)) (fun m4 =>
 some ((0 : Int32), m4)))))

def f1_reads_b101 (F : Nat) (a1 : Nat) (a2 : Int32) (s46 : Int32 → g_M → Option (Int32 × g_M)) (v3 : Int32) (v4 : Int32) (mem : g_M) : Option (Int32 × g_M) :=
 if v4 = (0 : Int32) then ((f8_step F mem).bind (fun r6 =>
 g_let (v3 + (1 : Int32)) (fun x7 =>
 s46 x7 r6)))
 else (some (v4, mem))

def f1_reads_b99 (F : Nat) (a1 : Nat) (a2 : Int32) (s46 : Int32 → g_M → Option (Int32 × g_M)) (v3 : Int32) (w0 : Int32) (mem : g_M) : Option (Int32 × g_M) :=
 f1_reads_b101 F a1 a2 s46 v3 w0 mem

def f1_reads_b46_body (F : Nat) (a1 : Nat) (a2 : Int32) (s46 : Int32 → g_M → Option (Int32 × g_M)) (v3 : Int32) (mem : g_M) : Option (Int32 × g_M) :=
 if v3 < (700 : Int32) then ((f1_isAtEnd F mem).bind (fun r9 =>
 if r9 = (0 : Int32) then (if (mem.1 33 4) = (0 : Int32) then ((f8_isSign F (14 : Int32) mem).bind (fun r14 =>
 if r14 = (0 : Int32) then ((f1_takeOperator F mem).bind (fun r17 =>
 f1_reads_b99 F a1 a2 s46 v3 r17.1 r17.2))
 else ((f1_takeClose F mem).bind (fun r16 =>
 f1_reads_b99 F a1 a2 s46 v3 r16.1 r16.2))))
 else ((f1_takeOperand F mem).bind (fun r12 =>
 g_let (r12.1) (fun x13 =>
 f1_reads_b101 F a1 a2 s46 v3 x13 r12.2))))
 else (f1_reads_b122 F a1 a2 mem)))
 else (f1_reads_b122 F a1 a2 mem)

def f1_reads_b46 (F : Nat) (a1 : Nat) (a2 : Int32) (v3 : Int32) (mem : g_M) : Option (Int32 × g_M) :=
  g_fix (fun sf x => f1_reads_b46_body F a1 a2 (fun v3 mem => sf (v3, mem)) x.1 x.2) F (v3, mem)

def f1_reads (F : Nat) (a1 : Nat) (a2 : Int32) (mem : g_M) : Option (Int32 × g_M) :=
 g_let (g_sR mem 33 6 (some a1)) (fun m18 =>
 g_let (g_sI m18 33 1 (0 : Int32)) (fun m19 =>
 g_let (g_sI m19 33 2 (0 : Int32)) (fun m20 =>
 g_dr yC 69 (m20.2.2 33 6) 2 (fun q21 =>
 g_let (g_sI m20 33 3 (m20.1 q21 3)) (fun m22 =>
 g_let (g_sI m22 33 4 (1 : Int32)) (fun m23 =>
 g_dr yC 69 (m23.2.2 33 6) 2 (fun q24 =>
 g_ck a2 3 (
 g_let (g_sI m23 (q24 + 2) a2.toNatClampNeg (m23.1 33 3)) (fun m26 =>
 f1_reads_b46 F a1 a2 (0 : Int32) m26)))))))))

def f2_clear_b7_body (F : Nat) (t : Nat) (s7 : Int32 → g_M → Option (g_M)) (v1 : Int32) (mem : g_M) : Option (g_M) :=
 if v1 < (3 : Int32) then (g_ck v1 3 (
 g_let (g_sI mem (t + 2) v1.toNatClampNeg (0 : Int32)) (fun m3 =>
 g_ck v1 3 (
 g_let (g_sI m3 (t + 3) v1.toNatClampNeg (0 : Int32)) (fun m5 =>
 g_let (v1 + (1 : Int32)) (fun x6 =>
 s7 x6 m5))))))
 else (some mem)

def f2_clear_b7 (F : Nat) (t : Nat) (v1 : Int32) (mem : g_M) : Option (g_M) :=
  g_fix (fun sf x => f2_clear_b7_body F t (fun v1 mem => sf (v1, mem)) x.1 x.2) F (v1, mem)

def f2_clear (F : Nat) (t : Nat) (mem : g_M) : Option (g_M) :=
 g_let (g_sI mem t 3 (0 : Int32)) (fun m7 =>
 f2_clear_b7 F t (0 : Int32) m7)

def f3_clear (F : Nat) (mem : g_M) : Option (g_M) :=
 g_let (g_sI mem 67 0 (0 : Int32)) (fun m1 =>
 some m1)

def f3_note_b35 (F : Nat) (a1 : Int32) (a2 : Int32) (a3 : Int32) (a4 : Int32) (mem : g_M) : Option (g_M) :=
 g_ck ((mem.1 67 0) * (4 : Int32)) 80 (
 g_let (g_sI mem 68 ((mem.1 67 0) * (4 : Int32)).toNatClampNeg a1) (fun m2 =>
 g_ck (((m2.1 67 0) * (4 : Int32)) + (1 : Int32)) 80 (
 g_let (g_sI m2 68 (((m2.1 67 0) * (4 : Int32)) + (1 : Int32)).toNatClampNeg a2) (fun m4 =>
 g_ck (((m4.1 67 0) * (4 : Int32)) + (2 : Int32)) 80 (
 g_let (g_sI m4 68 (((m4.1 67 0) * (4 : Int32)) + (2 : Int32)).toNatClampNeg a3) (fun m6 =>
 g_ck (((m6.1 67 0) * (4 : Int32)) + (3 : Int32)) 80 (
 g_let (g_sI m6 68 (((m6.1 67 0) * (4 : Int32)) + (3 : Int32)).toNatClampNeg a4) (fun m8 =>
 g_let (g_sI m8 67 0 ((m8.1 67 0) + (1 : Int32))) (fun m9 =>
 some m9)))))))))

def f3_note (F : Nat) (a1 : Int32) (a2 : Int32) (a3 : Int32) (a4 : Int32) (mem : g_M) : Option (g_M) :=
 if (20 : Int32) ≤ (mem.1 67 0) then (g_let (g_cI mem 68 (4 : Int32).toNatClampNeg 68 (0 : Int32).toNatClampNeg ((80 : Int32) - (4 : Int32)).toNatClampNeg) (fun m11 =>
 g_let (g_sI m11 67 0 (19 : Int32)) (fun m12 =>
 f3_note_b35 F a1 a2 a3 a4 m12)))
 else (f3_note_b35 F a1 a2 a3 a4 mem)

def f3_at (F : Nat) (a1 : Int32) (a2 : Int32) (mem : g_M) : Option (Int32) :=
 g_ck ((a1 * (4 : Int32)) + a2) 80 (
 some (mem.1 68 ((a1 * (4 : Int32)) + a2).toNatClampNeg))

def f4_choose_b57 (F : Nat) (a1 : Nat) (s12 : Int32 → g_M → Option (g_M)) (v2 : Int32) (mem : g_M) : Option (g_M) :=
 g_let (v2 + (1 : Int32)) (fun x1 =>
 s12 x1 mem)

def f4_choose_b12_body (F : Nat) (a1 : Nat) (s12 : Int32 → g_M → Option (g_M)) (v2 : Int32) (mem : g_M) : Option (g_M) :=
 if v2 < (mem.1 a1 7) then (if (mem.1 57 0) < (4 : Int32) then ((f7_sendingAt F a1 v2 (3 : Int32) mem).bind (fun r4 =>
 if r4 = (0 : Int32) then (g_ck (mem.1 57 0) 4 (
 g_let (g_sI mem 59 (mem.1 57 0).toNatClampNeg v2) (fun m7 =>
 g_let (g_sI m7 57 0 ((m7.1 57 0) + (1 : Int32))) (fun m8 =>
 f4_choose_b57 F a1 s12 v2 m8))))
 else (f4_choose_b57 F a1 s12 v2 mem)))
 else (some mem))
 else (some mem)

def f4_choose_b12 (F : Nat) (a1 : Nat) (v2 : Int32) (mem : g_M) : Option (g_M) :=
  g_fix (fun sf x => f4_choose_b12_body F a1 (fun v2 mem => sf (v2, mem)) x.1 x.2) F (v2, mem)

def f4_choose (F : Nat) (a1 : Nat) (mem : g_M) : Option (g_M) :=
 g_let (g_sI mem 57 3 (0 : Int32)) (fun m9 =>
 g_let (g_sI m9 57 0 (0 : Int32)) (fun m10 =>
 f4_choose_b12 F a1 (0 : Int32) m10))

def f4_digit (F : Nat) (a0 : Int32) (a1 : Int32) (mem : g_M) : Option (Int32) :=
 some ((a0 >>> (((6 : Int32) - ((2 : Int32) * a1)) &&& 31)) &&& (3 : Int32))

def f4_isRow_b64 (F : Nat) (a1 : Int32) (s4 : Int32 → Int32 → Option (Int32)) (mem : g_M) (v2 : Int32) (v3 : Int32) (v4 : Int32) : Option (Int32) :=
 g_let ((v2 ||| ((1 : Int32) <<< (v4 &&& 31)))) (fun x1 =>
 g_let (v3 + (1 : Int32)) (fun x2 =>
 s4 x1 x2))

def f4_isRow_b39 (F : Nat) (a1 : Int32) (s4 : Int32 → Int32 → Option (Int32)) (mem : g_M) (v2 : Int32) (v3 : Int32) (v4 : Int32) (w0 : Int32) : Option (Int32) :=
 if v3 < (mem.1 57 0) then (if w0 = (0 : Int32) then (some (0 : Int32))
 else (f4_isRow_b64 F a1 s4 mem v2 v3 v4))
 else (if v4 = (0 : Int32) then (f4_isRow_b64 F a1 s4 mem v2 v3 v4)
 else (some (0 : Int32)))

def f4_isRow_b38 (F : Nat) (a1 : Int32) (s4 : Int32 → Int32 → Option (Int32)) (mem : g_M) (v2 : Int32) (v3 : Int32) (v4 : Int32) : Option (Int32) :=
 f4_isRow_b39 F a1 s4 mem v2 v3 v4 (0 : Int32)

def f4_isRow_b4_body (F : Nat) (a1 : Int32) (s4 : Int32 → Int32 → Option (Int32)) (mem : g_M) (v2 : Int32) (v3 : Int32) : Option (Int32) :=
 if v3 < (4 : Int32) then ((f4_digit F a1 v3 mem).bind (fun r7 =>
 if r7 < (mem.1 57 0) then (if ((v2 >>> (r7 &&& 31)) &&& (1 : Int32)) = (0 : Int32) then (f4_isRow_b39 F a1 s4 mem v2 v3 r7 (1 : Int32))
 else (f4_isRow_b38 F a1 s4 mem v2 v3 r7))
 else (f4_isRow_b38 F a1 s4 mem v2 v3 r7)))
 else (some (1 : Int32))

def f4_isRow_b4 (F : Nat) (a1 : Int32) (mem : g_M) (v2 : Int32) (v3 : Int32) : Option (Int32) :=
  g_fix (fun sf x => f4_isRow_b4_body F a1 (fun v2 v3 => sf (v2, v3)) mem x.1 x.2) F (v2, v3)

def f4_isRow (F : Nat) (a1 : Int32) (mem : g_M) : Option (Int32) :=
 f4_isRow_b4 F a1 mem (0 : Int32) (0 : Int32)

def f4_layOut_b2_body (F : Nat) (a1 : Int32) (a2 : Nat) (s2 : Int32 → g_M → Option (g_M)) (v3 : Int32) (mem : g_M) : Option (g_M) :=
 if v3 < (mem.1 57 0) then ((f4_digit F a1 v3 mem).bind (fun r2 =>
 g_ck r2 4 (
 (f7_setSending F a2 (mem.1 59 r2.toNatClampNeg) (2 : Int32) ((mem.1 a2 1) + ((2 : Int32) * v3)) mem).bind (fun r4 =>
 g_let (v3 + (1 : Int32)) (fun x5 =>
 s2 x5 r4)))))
 else (some mem)

def f4_layOut_b2 (F : Nat) (a1 : Int32) (a2 : Nat) (v3 : Int32) (mem : g_M) : Option (g_M) :=
  g_fix (fun sf x => f4_layOut_b2_body F a1 a2 (fun v3 mem => sf (v3, mem)) x.1 x.2) F (v3, mem)

def f4_layOut (F : Nat) (a1 : Int32) (a2 : Nat) (mem : g_M) : Option (g_M) :=
 f4_layOut_b2 F a1 a2 (0 : Int32) mem

def f4_weigh_b28_body (F : Nat) (a1 : Int32) (a2 : Int32) (s28 : Int32 → g_M → Option (g_M)) (v3 : Int32) (mem : g_M) : Option (g_M) :=
 if v3 < (mem.1 57 0) then ((f4_digit F a1 v3 mem).bind (fun r2 =>
 g_ck r2 4 (
 g_ck v3 4 (
 g_let (g_sI mem 58 v3.toNatClampNeg (mem.1 59 r2.toNatClampNeg)) (fun m5 =>
 g_let (v3 + (1 : Int32)) (fun x6 =>
 s28 x6 m5))))))
 else (some mem)

def f4_weigh_b28 (F : Nat) (a1 : Int32) (a2 : Int32) (v3 : Int32) (mem : g_M) : Option (g_M) :=
  g_fix (fun sf x => f4_weigh_b28_body F a1 a2 (fun v3 mem => sf (v3, mem)) x.1 x.2) F (v3, mem)

def f4_weigh_b16 (F : Nat) (a1 : Int32) (a2 : Int32) (mem : g_M) : Option (g_M) :=
 g_let (g_sI mem 57 3 (1 : Int32)) (fun m7 =>
 g_let (g_sI m7 57 1 a2) (fun m8 =>
 f4_weigh_b28 F a1 a2 (0 : Int32) m8))

def f4_weigh (F : Nat) (a1 : Int32) (a2 : Int32) (mem : g_M) : Option (g_M) :=
 if (mem.1 57 3) = (0 : Int32) then (f4_weigh_b16 F a1 a2 mem)
 else (if a2 ≤ (mem.1 57 1) then (some mem)
 else (f4_weigh_b16 F a1 a2 mem))

def f9_clear (F : Nat) (t : Nat) (mem : g_M) : Option (g_M) :=
 g_ck (0 : Int32) 3 (
 g_let (g_sI mem (t + 1) (0 : Int32).toNatClampNeg (0 : Int32)) (fun m2 =>
 g_ck (1 : Int32) 3 (
 g_let (g_sI m2 (t + 1) (1 : Int32).toNatClampNeg (0 : Int32)) (fun m4 =>
 g_ck (2 : Int32) 3 (
 g_let (g_sI m4 (t + 1) (2 : Int32).toNatClampNeg (0 : Int32)) (fun m6 =>
 g_let (g_sI m6 t 6 (0 : Int32)) (fun m7 =>
 g_let (g_sI m7 t 8 (0 : Int32)) (fun m8 =>
 g_let (g_sI m8 t 10 (9 : Int32)) (fun m9 =>
 g_let (g_sI m9 t 11 (0 : Int32)) (fun m10 =>
 g_let (g_sI m10 t 12 (0 : Int32)) (fun m11 =>
 (f2_clear F (t + 9) m11).bind (fun r12 =>
 some r12))))))))))))

def f8_begin (F : Nat) (a1 : Int32) (mem : g_M) : Option (g_M) :=
 g_let (g_sI mem 31 4 (if (700 : Int32) < a1 then (700 : Int32) else a1)) (fun m1 =>
 g_let (g_sI m1 31 5 (0 : Int32)) (fun m2 =>
 some m2))

def f5_fail (F : Nat) (a1 : Int32) (mem : g_M) : Option (g_M) :=
 if (mem.1 30 0) = (0 : Int32) then (g_let (g_sI mem 30 0 a1) (fun m2 =>
 g_let (g_sI m2 30 1 (m2.1 31 1)) (fun m3 =>
 some m3)))
 else (some mem)

def f5_failIf (F : Nat) (a1 : Int32) (a2 : Int32) (mem : g_M) : Option (g_M) :=
 if a1 = (0 : Int32) then (some mem)
 else ((f5_fail F a2 mem).bind (fun r2 =>
 some r2))

def f9_find_b2_body (F : Nat) (t : Nat) (a1 : Int32) (a2 : Int32) (s2 : Int32 → Option (Int32)) (mem : g_M) (v3 : Int32) : Option (Int32) :=
 g_ck a1 3 (
 if v3 < (mem.1 (t + 1) a1.toNatClampNeg) then (g_ck ((a1 * (5 : Int32)) + v3) 15 (
 if (mem.1 (t + 2) ((a1 * (5 : Int32)) + v3).toNatClampNeg) = a2 then (some v3)
 else (g_let (v3 + (1 : Int32)) (fun x5 =>
 s2 x5))))
 else (some (-1 : Int32)))

def f9_find_b2 (F : Nat) (t : Nat) (a1 : Int32) (a2 : Int32) (mem : g_M) (v3 : Int32) : Option (Int32) :=
  g_fix (fun sf x => f9_find_b2_body F t a1 a2 (fun v3 => sf v3) mem x) F v3

def f9_find (F : Nat) (t : Nat) (a1 : Int32) (a2 : Int32) (mem : g_M) : Option (Int32) :=
 f9_find_b2 F t a1 a2 mem (0 : Int32)

def f5_newOne_b122 (F : Nat) (a1 : Int32) (a2 : Int32) (v3 : Int32) (mem : g_M) : Option (Int32 × g_M) :=
 (f8_step F mem).bind (fun r1 =>
 some (v3, r1))

def f5_newOne_b78 (F : Nat) (a1 : Int32) (a2 : Int32) (v3 : Int32) (w1 : Int32) (mem : g_M) : Option (Int32 × g_M) :=
 (f5_failIf F w1 (3 : Int32) mem).bind (fun r2 =>
 if (r2.1 30 0) = (0 : Int32) then (g_dr yC 69 (r2.2.2 30 5) 9 (fun q4 =>
 g_ck ((a1 * (5 : Int32)) + v3) 15 (
 g_let (g_sI r2 (q4 + 2) ((a1 * (5 : Int32)) + v3).toNatClampNeg (r2.1 31 2)) (fun m6 =>
 g_dr yC 69 (m6.2.2 30 5) 9 (fun q7 =>
 g_ck a1 3 (
 g_ck a1 3 (
 g_let (g_sI m6 (q7 + 1) a1.toNatClampNeg ((m6.1 (q7 + 1) a1.toNatClampNeg) + (1 : Int32))) (fun m10 =>
 f5_newOne_b122 F a1 a2 v3 m10))))))))
 else (f5_newOne_b122 F a1 a2 v3 r2))

def f5_newOne_b49 (F : Nat) (a1 : Int32) (a2 : Int32) (v3 : Int32) (w1 : Int32) (mem : g_M) : Option (Int32 × g_M) :=
 (f5_failIf F w1 (1 : Int32) mem).bind (fun r11 =>
 g_dr yC 69 (r11.2.2 30 5) 9 (fun q12 =>
 (f9_find F q12 a1 (r11.1 31 2) r11).bind (fun r13 =>
 if r13 = (-1 : Int32) then (f5_newOne_b78 F a1 a2 v3 (0 : Int32) r11)
 else (f5_newOne_b78 F a1 a2 v3 (1 : Int32) r11))))

def f5_newOne_b21 (F : Nat) (a1 : Int32) (a2 : Int32) (v3 : Int32) (w1 : Int32) (mem : g_M) : Option (Int32 × g_M) :=
 (f5_failIf F w1 (2 : Int32) mem).bind (fun r15 =>
 (f8_step F r15).bind (fun r16 =>
 if (r16.1 31 0) = (2 : Int32) then (f5_newOne_b49 F a1 a2 v3 (0 : Int32) r16)
 else (f5_newOne_b49 F a1 a2 v3 (1 : Int32) r16)))

def f5_newOne (F : Nat) (a1 : Int32) (a2 : Int32) (mem : g_M) : Option (Int32 × g_M) :=
 g_dr yC 69 (mem.2.2 30 5) 9 (fun q18 =>
 g_ck a1 3 (
 g_let ((mem.1 (q18 + 1) a1.toNatClampNeg)) (fun x20 =>
 if a2 ≤ x20 then (f5_newOne_b21 F a1 a2 x20 (1 : Int32) mem)
 else (f5_newOne_b21 F a1 a2 x20 (0 : Int32) mem))))

def f5_number_b45 (F : Nat) (a1 : Int32) (a2 : Int32) (v3 : Int32) (w1 : Int32) (mem : g_M) : Option (Int32 × g_M) :=
 (f5_failIf F w1 (2 : Int32) mem).bind (fun r1 =>
 (f8_step F r1).bind (fun r2 =>
 some (v3, r2)))

def f5_number_b40 (F : Nat) (a1 : Int32) (a2 : Int32) (v3 : Int32) (mem : g_M) : Option (Int32 × g_M) :=
 f5_number_b45 F a1 a2 v3 (1 : Int32) mem

def f5_number_b17 (F : Nat) (a1 : Int32) (a2 : Int32) (w1 : Int32) (mem : g_M) : Option (Int32 × g_M) :=
 (f5_failIf F w1 (1 : Int32) mem).bind (fun r3 =>
 g_let ((r3.1 31 2)) (fun x4 =>
 if a1 ≤ x4 then (if a2 < x4 then (f5_number_b40 F a1 a2 x4 r3)
 else (f5_number_b45 F a1 a2 x4 (0 : Int32) r3))
 else (f5_number_b40 F a1 a2 x4 r3)))

def f5_number (F : Nat) (a1 : Int32) (a2 : Int32) (mem : g_M) : Option (Int32 × g_M) :=
 if (mem.1 31 0) = (1 : Int32) then (f5_number_b17 F a1 a2 (0 : Int32) mem)
 else (f5_number_b17 F a1 a2 (1 : Int32) mem)

def f5_readMan (F : Nat) (mem : g_M) : Option (g_M) :=
 (f5_newOne F (0 : Int32) (5 : Int32) mem).bind (fun r1 =>
 g_let (r1.1) (fun x2 =>
 (f5_number F (0 : Int32) (999 : Int32) r1.2).bind (fun r3 =>
 g_let (r3.1) (fun x4 =>
 if (r3.2.1 30 0) = (0 : Int32) then (g_dr yC 69 (r3.2.2.2 30 5) 9 (fun q6 =>
 g_ck x2 5 (
 g_let (g_sI r3.2 (q6 + 3) x2.toNatClampNeg x4) (fun m8 =>
 some m8))))
 else (some r3.2)))))

def f5_readSort (F : Nat) (mem : g_M) : Option (g_M) :=
 (f5_newOne F (1 : Int32) (5 : Int32) mem).bind (fun r1 =>
 g_let (r1.1) (fun x2 =>
 (f5_number F (1 : Int32) (9 : Int32) r1.2).bind (fun r3 =>
 g_let (r3.1) (fun x4 =>
 (f5_number F (0 : Int32) (99 : Int32) r3.2).bind (fun r5 =>
 g_let (r5.1) (fun x6 =>
 if (r5.2.1 30 0) = (0 : Int32) then (g_dr yC 69 (r5.2.2.2 30 5) 9 (fun q8 =>
 g_ck x2 5 (
 g_let (g_sI r5.2 (q8 + 4) x2.toNatClampNeg x4) (fun m10 =>
 g_dr yC 69 (m10.2.2 30 5) 9 (fun q11 =>
 g_ck x2 5 (
 g_let (g_sI m10 (q11 + 5) x2.toNatClampNeg x6) (fun m13 =>
 some m13)))))))
 else (some r5.2)))))))

def f5_readDeed (F : Nat) (mem : g_M) : Option (g_M) :=
 (f5_newOne F (2 : Int32) (5 : Int32) mem).bind (fun r1 =>
 g_let (r1.1) (fun x2 =>
 (f5_number F (0 : Int32) (31 : Int32) r1.2).bind (fun r3 =>
 g_let (r3.1) (fun x4 =>
 if (r3.2.1 30 0) = (0 : Int32) then (g_dr yC 69 (r3.2.2.2 30 5) 9 (fun q6 =>
 g_ck x2 5 (
 g_let (g_sI r3.2 (q6 + 6) x2.toNatClampNeg x4) (fun m8 =>
 some m8))))
 else (some r3.2)))))

def f5_oldOne_b48 (F : Nat) (a1 : Int32) (v2 : Int32) (w1 : Int32) (mem : g_M) : Option (Int32 × g_M) :=
 (f5_failIf F w1 (4 : Int32) mem).bind (fun r1 =>
 (f8_step F r1).bind (fun r2 =>
 some (v2, r2)))

def f5_oldOne_b17 (F : Nat) (a1 : Int32) (w1 : Int32) (mem : g_M) : Option (Int32 × g_M) :=
 (f5_failIf F w1 (1 : Int32) mem).bind (fun r3 =>
 g_dr yC 69 (r3.2.2 30 5) 9 (fun q4 =>
 (f9_find F q4 a1 (r3.1 31 2) r3).bind (fun r5 =>
 if r5 = (-1 : Int32) then (f5_oldOne_b48 F a1 r5 (1 : Int32) r3)
 else (f5_oldOne_b48 F a1 r5 (0 : Int32) r3))))

def f5_oldOne (F : Nat) (a1 : Int32) (mem : g_M) : Option (Int32 × g_M) :=
 if (mem.1 31 0) = (2 : Int32) then (f5_oldOne_b17 F a1 (0 : Int32) mem)
 else (f5_oldOne_b17 F a1 (1 : Int32) mem)

def f5_readSend_b18 (F : Nat) (w1 : Int32) (mem : g_M) : Option (g_M) :=
 (f5_failIf F w1 (2 : Int32) mem).bind (fun r1 =>
 (f8_step F r1).bind (fun r2 =>
 g_dr yC 69 (r2.2.2 30 5) 9 (fun q3 =>
 g_let (((r2.1 q3 6) * (4 : Int32))) (fun x4 =>
 (f5_oldOne F (0 : Int32) r2).bind (fun r5 =>
 g_let (r5.1) (fun x6 =>
 (f5_oldOne F (1 : Int32) r5.2).bind (fun r7 =>
 g_let (r7.1) (fun x8 =>
 (f5_number F (0 : Int32) (99 : Int32) r7.2).bind (fun r9 =>
 g_let (r9.1) (fun x10 =>
 if (r9.2.1 30 0) = (0 : Int32) then (g_dr yC 69 (r9.2.2.2 30 5) 9 (fun q12 =>
 g_ck (x4 + (0 : Int32)) 48 (
 g_let (g_sI r9.2 (q12 + 7) (x4 + (0 : Int32)).toNatClampNeg x6) (fun m14 =>
 g_dr yC 69 (m14.2.2 30 5) 9 (fun q15 =>
 g_ck (x4 + (1 : Int32)) 48 (
 g_let (g_sI m14 (q15 + 7) (x4 + (1 : Int32)).toNatClampNeg x8) (fun m17 =>
 g_dr yC 69 (m17.2.2 30 5) 9 (fun q18 =>
 g_ck (x4 + (2 : Int32)) 48 (
 g_let (g_sI m17 (q18 + 7) (x4 + (2 : Int32)).toNatClampNeg x10) (fun m20 =>
 g_dr yC 69 (m20.2.2 30 5) 9 (fun q21 =>
 g_ck (x4 + (3 : Int32)) 48 (
 g_let (g_sI m20 (q21 + 7) (x4 + (3 : Int32)).toNatClampNeg (0 : Int32)) (fun m23 =>
 g_dr yC 69 (m23.2.2 30 5) 9 (fun q24 =>
 g_let (g_sI m23 q24 6 ((m23.1 q24 6) + (1 : Int32))) (fun m25 =>
 some m25)))))))))))))))
 else (some r9.2)))))))))))

def f5_readSend (F : Nat) (mem : g_M) : Option (g_M) :=
 g_dr yC 69 (mem.2.2 30 5) 9 (fun q26 =>
 if (12 : Int32) ≤ (mem.1 q26 6) then (f5_readSend_b18 F (1 : Int32) mem)
 else (f5_readSend_b18 F (0 : Int32) mem))

def f5_readWant_b18 (F : Nat) (w1 : Int32) (mem : g_M) : Option (g_M) :=
 (f5_failIf F w1 (2 : Int32) mem).bind (fun r1 =>
 (f8_step F r1).bind (fun r2 =>
 g_dr yC 69 (r2.2.2 30 5) 9 (fun q3 =>
 g_let (((r2.1 q3 8) * (5 : Int32))) (fun x4 =>
 (f5_oldOne F (0 : Int32) r2).bind (fun r5 =>
 g_let (r5.1) (fun x6 =>
 (f5_oldOne F (2 : Int32) r5.2).bind (fun r7 =>
 g_let (r7.1) (fun x8 =>
 (f5_number F (0 : Int32) (1 : Int32) r7.2).bind (fun r9 =>
 g_let (r9.1) (fun x10 =>
 (f5_number F (0 : Int32) (99 : Int32) r9.2).bind (fun r11 =>
 g_let (r11.1) (fun x12 =>
 (f5_number F (0 : Int32) (99 : Int32) r11.2).bind (fun r13 =>
 g_let (r13.1) (fun x14 =>
 if (r13.2.1 30 0) = (0 : Int32) then (g_dr yC 69 (r13.2.2.2 30 5) 9 (fun q16 =>
 g_ck (x4 + (0 : Int32)) 40 (
 g_let (g_sI r13.2 (q16 + 8) (x4 + (0 : Int32)).toNatClampNeg x6) (fun m18 =>
 g_dr yC 69 (m18.2.2 30 5) 9 (fun q19 =>
 g_ck (x4 + (1 : Int32)) 40 (
 g_let (g_sI m18 (q19 + 8) (x4 + (1 : Int32)).toNatClampNeg x8) (fun m21 =>
 g_dr yC 69 (m21.2.2 30 5) 9 (fun q22 =>
 g_ck (x4 + (2 : Int32)) 40 (
 g_let (g_sI m21 (q22 + 8) (x4 + (2 : Int32)).toNatClampNeg x10) (fun m24 =>
 g_dr yC 69 (m24.2.2 30 5) 9 (fun q25 =>
 g_ck (x4 + (3 : Int32)) 40 (
 g_let (g_sI m24 (q25 + 8) (x4 + (3 : Int32)).toNatClampNeg x12) (fun m27 =>
 g_dr yC 69 (m27.2.2 30 5) 9 (fun q28 =>
 g_ck (x4 + (4 : Int32)) 40 (
 g_let (g_sI m27 (q28 + 8) (x4 + (4 : Int32)).toNatClampNeg x14) (fun m30 =>
 g_dr yC 69 (m30.2.2 30 5) 9 (fun q31 =>
 g_let (g_sI m30 q31 8 ((m30.1 q31 8) + (1 : Int32))) (fun m32 =>
 some m32))))))))))))))))))
 else (some r13.2)))))))))))))))

def f5_readWant (F : Nat) (mem : g_M) : Option (g_M) :=
 g_dr yC 69 (mem.2.2 30 5) 9 (fun q33 =>
 if (8 : Int32) ≤ (mem.1 q33 8) then (f5_readWant_b18 F (1 : Int32) mem)
 else (f5_readWant_b18 F (0 : Int32) mem))

def f5_readRoom (F : Nat) (mem : g_M) : Option (g_M) :=
 (f5_failIf F (mem.1 30 6) (3 : Int32) mem).bind (fun r1 =>
 (f8_step F r1).bind (fun r2 =>
 g_let (g_sI r2 30 6 (1 : Int32)) (fun m3 =>
 g_dr yC 69 (m3.2.2 30 5) 9 (fun q4 =>
 (f5_number F (1 : Int32) (30 : Int32) m3).bind (fun r5 =>
 g_let (g_sI r5.2 q4 10 r5.1) (fun m6 =>
 some m6))))))

def f5_readStorm (F : Nat) (mem : g_M) : Option (g_M) :=
 (f5_failIf F (mem.1 30 7) (3 : Int32) mem).bind (fun r1 =>
 (f8_step F r1).bind (fun r2 =>
 g_let (g_sI r2 30 7 (1 : Int32)) (fun m3 =>
 g_dr yC 69 (m3.2.2 30 5) 9 (fun q4 =>
 (f5_number F (0 : Int32) (100 : Int32) m3).bind (fun r5 =>
 g_let (g_sI r5.2 q4 11 r5.1) (fun m6 =>
 some m6))))))

def f5_readSeed (F : Nat) (mem : g_M) : Option (g_M) :=
 (f5_failIf F (mem.1 30 8) (3 : Int32) mem).bind (fun r1 =>
 (f8_step F r1).bind (fun r2 =>
 g_let (g_sI r2 30 8 (1 : Int32)) (fun m3 =>
 g_dr yC 69 (m3.2.2 30 5) 9 (fun q4 =>
 (f5_number F (0 : Int32) (99999 : Int32) m3).bind (fun r5 =>
 g_let (g_sI r5.2 q4 12 r5.1) (fun m6 =>
 some m6))))))

def f5_readLaw_b42 (F : Nat) (mem : g_M) : Option (g_M) :=
 (f5_fail F (1 : Int32) mem).bind (fun r1 =>
 some r1)

def f5_readLaw_b104 (F : Nat) (v2 : Int32) (w1 : Int32) (mem : g_M) : Option (g_M) :=
 (f5_failIf F w1 v2 mem).bind (fun r2 =>
 some r2)

def f5_readLaw_b32 (F : Nat) (w0 : Int32) (mem : g_M) : Option (g_M) :=
 if (0 : Int32) ≤ w0 then (if (2 : Int32) < w0 then (f5_readLaw_b42 F mem)
 else (g_dr yC 69 (mem.2.2 30 5) 9 (fun q5 =>
 (f2_isTold F (q5 + 9) w0 mem).bind (fun r6 =>
 (f5_failIf F r6 (3 : Int32) mem).bind (fun r7 =>
 (f8_step F r7).bind (fun r8 =>
 if (r8.1 30 0) = (0 : Int32) then (g_dr yC 69 (r8.2.2 30 5) 9 (fun q10 =>
 (f1_reads F (q10 + 9) w0 r8).bind (fun r11 =>
 g_let (r11.1) (fun x12 =>
 if x12 = (0 : Int32) then (f5_readLaw_b104 F x12 (0 : Int32) r11.2)
 else (f5_readLaw_b104 F x12 (1 : Int32) r11.2)))))
 else (some r8)))))))
 else (f5_readLaw_b42 F mem)

def f5_readLaw (F : Nat) (mem : g_M) : Option (g_M) :=
 (f8_step F mem).bind (fun r14 =>
 if (r14.1 31 0) = (3 : Int32) then (f5_readLaw_b32 F ((r14.1 31 2) - (9 : Int32)) r14)
 else (f5_readLaw_b32 F (-1 : Int32) r14))

def f5_readLine_b22 (F : Nat) (w0 : Int32) (mem : g_M) : Option (g_M) :=
 if w0 = (0 : Int32) then ((f5_readMan F mem).bind (fun r2 =>
 some r2))
 else (if w0 = (1 : Int32) then ((f5_readSort F mem).bind (fun r4 =>
 some r4))
 else (if w0 = (2 : Int32) then ((f5_readDeed F mem).bind (fun r6 =>
 some r6))
 else (if w0 = (3 : Int32) then ((f5_readSend F mem).bind (fun r8 =>
 some r8))
 else (if w0 = (4 : Int32) then ((f5_readWant F mem).bind (fun r10 =>
 some r10))
 else (if w0 = (5 : Int32) then ((f5_readRoom F mem).bind (fun r12 =>
 some r12))
 else (if w0 = (6 : Int32) then ((f5_readStorm F mem).bind (fun r14 =>
 some r14))
 else (if w0 = (7 : Int32) then ((f5_readSeed F mem).bind (fun r16 =>
 some r16))
 else (if w0 = (8 : Int32) then ((f5_readLaw F mem).bind (fun r18 =>
 some r18))
 else ((f5_fail F (1 : Int32) mem).bind (fun r19 =>
 some r19))))))))))

def f5_readLine (F : Nat) (mem : g_M) : Option (g_M) :=
 if (mem.1 31 0) = (3 : Int32) then (f5_readLine_b22 F (mem.1 31 2) mem)
 else (f5_readLine_b22 F (-1 : Int32) mem)

def f5_needSign_b17 (F : Nat) (a1 : Int32) (w1 : Int32) (mem : g_M) : Option (g_M) :=
 (f5_failIf F w1 (1 : Int32) mem).bind (fun r1 =>
 (f8_step F r1).bind (fun r2 =>
 some r2))

def f5_needSign (F : Nat) (a1 : Int32) (mem : g_M) : Option (g_M) :=
 (f8_isSign F a1 mem).bind (fun r3 =>
 if r3 = (0 : Int32) then (f5_needSign_b17 F a1 (1 : Int32) mem)
 else (f5_needSign_b17 F a1 (0 : Int32) mem))

def f5_reads_b107 (F : Nat) (a1 : Int32) (a2 : Nat) (mem : g_M) : Option (Int32 × g_M) :=
 if (mem.1 30 0) = (0 : Int32) then (some ((1 : Int32), mem))
 else (some ((0 : Int32), mem))

def f5_reads_b59_body (F : Nat) (a1 : Int32) (a2 : Nat) (s59 : Int32 → g_M → Option (Int32 × g_M)) (v3 : Int32) (mem : g_M) : Option (Int32 × g_M) :=
 if v3 < a1 then (if (mem.1 31 0) = (0 : Int32) then (f5_reads_b107 F a1 a2 mem)
 else (if (mem.1 30 0) = (0 : Int32) then ((f5_readLine F mem).bind (fun r5 =>
 (f5_needSign F (15 : Int32) r5).bind (fun r6 =>
 g_let (g_sI r6 30 2 ((r6.1 30 2) + (1 : Int32))) (fun m7 =>
 g_let (v3 + (1 : Int32)) (fun x8 =>
 s59 x8 m7)))))
 else (f5_reads_b107 F a1 a2 mem)))
 else (f5_reads_b107 F a1 a2 mem)

def f5_reads_b59 (F : Nat) (a1 : Int32) (a2 : Nat) (v3 : Int32) (mem : g_M) : Option (Int32 × g_M) :=
  g_fix (fun sf x => f5_reads_b59_body F a1 a2 (fun v3 mem => sf (v3, mem)) x.1 x.2) F (v3, mem)

def f5_reads (F : Nat) (a1 : Int32) (a2 : Nat) (mem : g_M) : Option (Int32 × g_M) :=
 g_let (g_sR mem 30 5 (some a2)) (fun m9 =>
 g_dr yC 69 (m9.2.2 30 5) 9 (fun q10 =>
 (f9_clear F q10 m9).bind (fun r11 =>
 g_let (g_sI r11 30 0 (0 : Int32)) (fun m12 =>
 g_let (g_sI m12 30 1 (-1 : Int32)) (fun m13 =>
 g_let (g_sI m13 30 2 (0 : Int32)) (fun m14 =>
 g_let (g_sI m14 30 6 (0 : Int32)) (fun m15 =>
 g_let (g_sI m15 30 7 (0 : Int32)) (fun m16 =>
 g_let (g_sI m16 30 8 (0 : Int32)) (fun m17 =>
 (f8_begin F a1 m17).bind (fun r18 =>
 (f8_step F r18).bind (fun r19 =>
 f5_reads_b59 F a1 a2 (0 : Int32) r19)))))))))))

def f6_clear (F : Nat) (mem : g_M) : Option (g_M) :=
 g_let (g_sI mem 60 0 (0 : Int32)) (fun m1 =>
 g_let (g_sI m1 60 1 (-1 : Int32)) (fun m2 =>
 some m2))

def f6_limit (F : Nat) (mem : g_M) : Option (Int32) :=
 if (mem.1 60 1) = (-1 : Int32) then (some (mem.1 60 0))
 else (some (mem.1 60 1))

def f6_put (F : Nat) (a1 : Int32) (a2 : Int32) (a3 : Int32) (a4 : Int32) (mem : g_M) : Option (Int32 × g_M) :=
 g_ck (mem.1 60 0) 24 (
 g_let (g_sI mem 61 (mem.1 60 0).toNatClampNeg a1) (fun m2 =>
 g_ck (m2.1 60 0) 24 (
 g_let (g_sI m2 62 (m2.1 60 0).toNatClampNeg a2) (fun m4 =>
 g_ck (m4.1 60 0) 24 (
 g_let (g_sI m4 63 (m4.1 60 0).toNatClampNeg a3) (fun m6 =>
 g_ck (m6.1 60 0) 24 (
 g_fl a4 (
 g_let (g_sI m6 64 (m6.1 60 0).toNatClampNeg a4) (fun m9 =>
 g_ck (m9.1 60 0) 24 (
 g_let (g_sI m9 65 (m9.1 60 0).toNatClampNeg (-1 : Int32)) (fun m11 =>
 g_let (g_sI m11 60 0 ((m11.1 60 0) + (1 : Int32))) (fun m12 =>
 some (((m12.1 60 0) - (1 : Int32)), m12)))))))))))))

def f6_putStrike (F : Nat) (a1 : Int32) (mem : g_M) : Option (Int32 × g_M) :=
 (f6_put F (0 : Int32) (0 : Int32) (0 : Int32) (0 : Int32) mem).bind (fun r1 =>
 g_let (r1.1) (fun x2 =>
 g_ck x2 24 (
 g_let (g_sI r1.2 65 x2.toNatClampNeg a1) (fun m4 =>
 some (x2, m4)))))

def f6_weigh_b90 (F : Nat) (s32 : Int32 → Int32 → g_M → Option (Int32 × g_M)) (v1 : Int32) (v2 : Int32) (mem : g_M) : Option (Int32 × g_M) :=
 g_let (v2 + (-1 : Int32)) (fun x1 =>
 s32 v1 x1 mem)

def f6_weigh_b70 (F : Nat) (s32 : Int32 → Int32 → g_M → Option (Int32 × g_M)) (v1 : Int32) (v2 : Int32) (mem : g_M) : Option (Int32 × g_M) :=
 g_ck v2 24 (
 if (mem.1 66 v2.toNatClampNeg) = (0 : Int32) then (g_ck v2 24 (
 g_let ((if v1 < (mem.1 61 v2.toNatClampNeg) then (mem.1 61 v2.toNatClampNeg) else v1)) (fun x5 =>
 f6_weigh_b90 F s32 x5 v2 mem)))
 else (f6_weigh_b90 F s32 v1 v2 mem))

def f6_weigh_b32_body (F : Nat) (s32 : Int32 → Int32 → g_M → Option (Int32 × g_M)) (v1 : Int32) (v2 : Int32) (mem : g_M) : Option (Int32 × g_M) :=
 if (0 : Int32) ≤ v2 then (g_ck v2 24 (
 if (mem.1 66 v2.toNatClampNeg) = (0 : Int32) then (g_ck v2 24 (
 if (mem.1 65 v2.toNatClampNeg) = (-1 : Int32) then (f6_weigh_b70 F s32 v1 v2 mem)
 else (g_ck v2 24 (
 g_ck (mem.1 65 v2.toNatClampNeg) 24 (
 g_let (g_sI mem 66 (mem.1 65 v2.toNatClampNeg).toNatClampNeg (1 : Int32)) (fun m13 =>
 f6_weigh_b90 F s32 v1 v2 m13))))))
 else (f6_weigh_b70 F s32 v1 v2 mem)))
 else (some (v1, mem))

def f6_weigh_b32 (F : Nat) (v1 : Int32) (v2 : Int32) (mem : g_M) : Option (Int32 × g_M) :=
  g_fix (fun sf x => f6_weigh_b32_body F (fun v1 v2 mem => sf (v1, v2, mem)) x.1 x.2.1 x.2.2) F (v1, v2, mem)

def f6_weigh_b4_body (F : Nat) (s4 : Int32 → Int32 → g_M → Option (Int32 × g_M)) (v1 : Int32) (v2 : Int32) (mem : g_M) : Option (Int32 × g_M) :=
 if v2 < (mem.1 60 0) then (g_ck v2 24 (
 g_let (g_sI mem 66 v2.toNatClampNeg (0 : Int32)) (fun m16 =>
 g_let (v2 + (1 : Int32)) (fun x17 =>
 s4 v1 x17 m16))))
 else ((f6_limit F mem).bind (fun r18 =>
 g_let ((r18 - (1 : Int32))) (fun x19 =>
 f6_weigh_b32 F v1 x19 mem)))

def f6_weigh_b4 (F : Nat) (v1 : Int32) (v2 : Int32) (mem : g_M) : Option (Int32 × g_M) :=
  g_fix (fun sf x => f6_weigh_b4_body F (fun v1 v2 mem => sf (v1, v2, mem)) x.1 x.2.1 x.2.2) F (v1, v2, mem)

def f6_weigh (F : Nat) (mem : g_M) : Option (Int32 × g_M) :=
 f6_weigh_b4 F (0 : Int32) (0 : Int32) mem

def f6_agrees_b83 (F : Nat) (a1 : Int32) (a2 : Nat) (s2 : Int32 → Option (Int32)) (mem : g_M) (v3 : Int32) : Option (Int32) :=
 g_let (v3 + (1 : Int32)) (fun x1 =>
 s2 x1)

def f6_agrees_b68 (F : Nat) (a1 : Int32) (a2 : Nat) (s2 : Int32 → Option (Int32)) (mem : g_M) (v3 : Int32) (w0 : Int32) : Option (Int32) :=
 g_ck v3 24 (
 if w0 = (mem.1 64 v3.toNatClampNeg) then (f6_agrees_b83 F a1 a2 s2 mem v3)
 else (some (0 : Int32)))

def f6_agrees_b2_body (F : Nat) (a1 : Int32) (a2 : Nat) (s2 : Int32 → Option (Int32)) (mem : g_M) (v3 : Int32) : Option (Int32) :=
 (f6_limit F mem).bind (fun r4 =>
 if v3 < r4 then (g_ck v3 24 (
 if (mem.1 66 v3.toNatClampNeg) = (0 : Int32) then (g_ck v3 24 (
 if (mem.1 65 v3.toNatClampNeg) = (-1 : Int32) then (g_ck v3 24 (
 if (mem.1 61 v3.toNatClampNeg) = a1 then (g_ck v3 24 (
 g_ck v3 24 (
 g_ck (((mem.1 62 v3.toNatClampNeg) * (5 : Int32)) + (mem.1 63 v3.toNatClampNeg)) 25 (
 if (mem.1 (a2 + 3) (((mem.1 62 v3.toNatClampNeg) * (5 : Int32)) + (mem.1 63 v3.toNatClampNeg)).toNatClampNeg) = (1 : Int32) then (f6_agrees_b68 F a1 a2 s2 mem v3 (1 : Int32))
 else (f6_agrees_b68 F a1 a2 s2 mem v3 (0 : Int32))))))
 else (f6_agrees_b83 F a1 a2 s2 mem v3)))
 else (f6_agrees_b83 F a1 a2 s2 mem v3)))
 else (f6_agrees_b83 F a1 a2 s2 mem v3)))
 else (some (1 : Int32)))

def f6_agrees_b2 (F : Nat) (a1 : Int32) (a2 : Nat) (mem : g_M) (v3 : Int32) : Option (Int32) :=
  g_fix (fun sf x => f6_agrees_b2_body F a1 a2 (fun v3 => sf v3) mem x) F v3

def f6_agrees (F : Nat) (a1 : Int32) (a2 : Nat) (mem : g_M) : Option (Int32) :=
 f6_agrees_b2 F a1 a2 mem (0 : Int32)

def f7_giveOwn_b2_body (F : Nat) (t : Nat) (s2 : Int32 → g_M → Option (g_M)) (v1 : Int32) (mem : g_M) : Option (g_M) :=
 if v1 < (25 : Int32) then (g_ck v1 25 (
 g_let (g_sI mem (t + 2) v1.toNatClampNeg (v1 / (5 : Int32))) (fun m3 =>
 g_let (v1 + (1 : Int32)) (fun x4 =>
 s2 x4 m3))))
 else (some mem)

def f7_giveOwn_b2 (F : Nat) (t : Nat) (v1 : Int32) (mem : g_M) : Option (g_M) :=
  g_fix (fun sf x => f7_giveOwn_b2_body F t (fun v1 mem => sf (v1, mem)) x.1 x.2) F (v1, mem)

def f7_giveOwn (F : Nat) (t : Nat) (mem : g_M) : Option (g_M) :=
 f7_giveOwn_b2 F t (0 : Int32) mem

def f7_begin_b89_body (F : Nat) (t : Nat) (a1 : Nat) (s89 : Int32 → g_M → Option (g_M)) (v2 : Int32) (mem : g_M) : Option (g_M) :=
 if v2 < (8 : Int32) then (g_ck v2 8 (
 g_let (g_sI mem (t + 5) v2.toNatClampNeg (0 : Int32)) (fun m3 =>
 g_let (v2 + (1 : Int32)) (fun x4 =>
 s89 x4 m3))))
 else ((f7_giveOwn F t mem).bind (fun r5 =>
 some r5))

def f7_begin_b89 (F : Nat) (t : Nat) (a1 : Nat) (v2 : Int32) (mem : g_M) : Option (g_M) :=
  g_fix (fun sf x => f7_begin_b89_body F t a1 (fun v2 mem => sf (v2, mem)) x.1 x.2) F (v2, mem)

def f7_begin_b65_body (F : Nat) (t : Nat) (a1 : Nat) (s65 : Int32 → g_M → Option (g_M)) (v2 : Int32) (mem : g_M) : Option (g_M) :=
 if v2 < (25 : Int32) then (g_ck v2 25 (
 g_let (g_sI mem (t + 3) v2.toNatClampNeg (0 : Int32)) (fun m8 =>
 g_let (v2 + (1 : Int32)) (fun x9 =>
 s65 x9 m8))))
 else (f7_begin_b89 F t a1 (0 : Int32) mem)

def f7_begin_b65 (F : Nat) (t : Nat) (a1 : Nat) (v2 : Int32) (mem : g_M) : Option (g_M) :=
  g_fix (fun sf x => f7_begin_b65_body F t a1 (fun v2 mem => sf (v2, mem)) x.1 x.2) F (v2, mem)

def f7_begin (F : Nat) (t : Nat) (a1 : Nat) (mem : g_M) : Option (g_M) :=
 g_let (g_sR mem t 0 (some a1)) (fun m10 =>
 g_let (g_sI m10 t 1 (0 : Int32)) (fun m11 =>
 g_let (g_sI m11 t 2 (m11.1 a1 12)) (fun m12 =>
 g_let (g_sI m12 t 3 (0 : Int32)) (fun m13 =>
 g_let (g_sI m13 t 7 (m13.1 a1 6)) (fun m14 =>
 g_let (g_cI m14 (a1 + 3) (0 : Int32).toNatClampNeg (t + 1) (0 : Int32).toNatClampNeg (5 : Int32).toNatClampNeg) (fun m15 =>
 g_let (g_cI m15 (a1 + 7) (0 : Int32).toNatClampNeg (t + 4) (0 : Int32).toNatClampNeg (48 : Int32).toNatClampNeg) (fun m16 =>
 f7_begin_b65 F t a1 (0 : Int32) m16)))))))

def f7_copy (F : Nat) (t : Nat) (a1 : Nat) (mem : g_M) : Option (g_M) :=
 g_dr yC 69 (mem.2.2 a1 0) 9 (fun q1 =>
 g_let (g_sR mem t 0 (some q1)) (fun m2 =>
 g_let (g_sI m2 t 1 (m2.1 a1 1)) (fun m3 =>
 g_let (g_sI m3 t 2 (m3.1 a1 2)) (fun m4 =>
 g_let (g_sI m4 t 3 (m4.1 a1 3)) (fun m5 =>
 g_let (g_sI m5 t 7 (m5.1 a1 7)) (fun m6 =>
 g_let (g_cI m6 (a1 + 1) (0 : Int32).toNatClampNeg (t + 1) (0 : Int32).toNatClampNeg (5 : Int32).toNatClampNeg) (fun m7 =>
 g_let (g_cI m7 (a1 + 2) (0 : Int32).toNatClampNeg (t + 2) (0 : Int32).toNatClampNeg (25 : Int32).toNatClampNeg) (fun m8 =>
 g_let (g_cI m8 (a1 + 3) (0 : Int32).toNatClampNeg (t + 3) (0 : Int32).toNatClampNeg (25 : Int32).toNatClampNeg) (fun m9 =>
 g_let (g_cI m9 (a1 + 4) (0 : Int32).toNatClampNeg (t + 4) (0 : Int32).toNatClampNeg (48 : Int32).toNatClampNeg) (fun m10 =>
 g_let (g_cI m10 (a1 + 5) (0 : Int32).toNatClampNeg (t + 5) (0 : Int32).toNatClampNeg (8 : Int32).toNatClampNeg) (fun m11 =>
 some m11)))))))))))

def f7_putSending (F : Nat) (t : Nat) (a1 : Int32) (a2 : Int32) (a3 : Int32) (mem : g_M) : Option (g_M) :=
 (f7_setSending F t (mem.1 t 7) (0 : Int32) a1 mem).bind (fun r1 =>
 (f7_setSending F t (r1.1 t 7) (1 : Int32) a2 r1).bind (fun r2 =>
 (f7_setSending F t (r2.1 t 7) (2 : Int32) a3 r2).bind (fun r3 =>
 (f7_setSending F t (r3.1 t 7) (3 : Int32) (0 : Int32) r3).bind (fun r4 =>
 g_let (g_sI r4 t 7 ((r4.1 t 7) + (1 : Int32))) (fun m5 =>
 some m5)))))

def f7_dueSendings_b26 (F : Nat) (t : Nat) (s4 : Int32 → Int32 → Option (Int32)) (mem : g_M) (v1 : Int32) (v2 : Int32) : Option (Int32) :=
 g_let (v2 + (1 : Int32)) (fun x1 =>
 s4 v1 x1)

def f7_dueSendings_b4_body (F : Nat) (t : Nat) (s4 : Int32 → Int32 → Option (Int32)) (mem : g_M) (v1 : Int32) (v2 : Int32) : Option (Int32) :=
 if v2 < (mem.1 t 7) then ((f7_isDue F t v2 mem).bind (fun r3 =>
 if r3 = (0 : Int32) then (f7_dueSendings_b26 F t s4 mem v1 v2)
 else (g_let ((v1 ||| ((1 : Int32) <<< (v2 &&& 31)))) (fun x5 =>
 f7_dueSendings_b26 F t s4 mem x5 v2))))
 else (some v1)

def f7_dueSendings_b4 (F : Nat) (t : Nat) (mem : g_M) (v1 : Int32) (v2 : Int32) : Option (Int32) :=
  g_fix (fun sf x => f7_dueSendings_b4_body F t (fun v1 v2 => sf (v1, v2)) mem x.1 x.2) F (v1, v2)

def f7_dueSendings (F : Nat) (t : Nat) (mem : g_M) : Option (Int32) :=
 f7_dueSendings_b4 F t mem (0 : Int32) (0 : Int32)

def f7_sendingsGone_b28 (F : Nat) (t : Nat) (s4 : Int32 → Int32 → Option (Int32)) (mem : g_M) (v2 : Int32) (w0 : Int32) (w1 : Int32) : Option (Int32) :=
 g_let ((w0 + w1)) (fun x1 =>
 g_let (v2 + (1 : Int32)) (fun x2 =>
 s4 x1 x2))

def f7_sendingsGone_b4_body (F : Nat) (t : Nat) (s4 : Int32 → Int32 → Option (Int32)) (mem : g_M) (v1 : Int32) (v2 : Int32) : Option (Int32) :=
 if v2 < (mem.1 t 7) then ((f7_sendingAt F t v2 (3 : Int32) mem).bind (fun r4 =>
 if r4 = (1 : Int32) then (f7_sendingsGone_b28 F t s4 mem v2 v1 (1 : Int32))
 else (f7_sendingsGone_b28 F t s4 mem v2 v1 (0 : Int32))))
 else (some v1)

def f7_sendingsGone_b4 (F : Nat) (t : Nat) (mem : g_M) (v1 : Int32) (v2 : Int32) : Option (Int32) :=
  g_fix (fun sf x => f7_sendingsGone_b4_body F t (fun v1 v2 => sf (v1, v2)) mem x.1 x.2) F (v1, v2)

def f7_sendingsGone (F : Nat) (t : Nat) (mem : g_M) : Option (Int32) :=
 f7_sendingsGone_b4 F t mem (0 : Int32) (0 : Int32)

def f7_ownSorts_b37 (F : Nat) (t : Nat) (a1 : Int32) (s4 : Int32 → Int32 → Option (Int32)) (mem : g_M) (v2 : Int32) (v3 : Int32) : Option (Int32) :=
 g_let (v3 + (1 : Int32)) (fun x1 =>
 s4 v2 x1)

def f7_ownSorts_b4_body (F : Nat) (t : Nat) (a1 : Int32) (s4 : Int32 → Int32 → Option (Int32)) (mem : g_M) (v2 : Int32) (v3 : Int32) : Option (Int32) :=
 g_dr yC 69 (mem.2.2 t 0) 9 (fun q2 =>
 g_ck (1 : Int32) 3 (
 if v3 < (mem.1 (q2 + 1) (1 : Int32).toNatClampNeg) then (g_ck ((a1 * (5 : Int32)) + v3) 25 (
 if (mem.1 (t + 2) ((a1 * (5 : Int32)) + v3).toNatClampNeg) = a1 then (g_let ((v2 ||| ((1 : Int32) <<< (v3 &&& 31)))) (fun x7 =>
 f7_ownSorts_b37 F t a1 s4 mem x7 v3))
 else (f7_ownSorts_b37 F t a1 s4 mem v2 v3)))
 else (some v2)))

def f7_ownSorts_b4 (F : Nat) (t : Nat) (a1 : Int32) (mem : g_M) (v2 : Int32) (v3 : Int32) : Option (Int32) :=
  g_fix (fun sf x => f7_ownSorts_b4_body F t a1 (fun v2 v3 => sf (v2, v3)) mem x.1 x.2) F (v2, v3)

def f7_ownSorts (F : Nat) (t : Nat) (a1 : Int32) (mem : g_M) : Option (Int32) :=
 f7_ownSorts_b4 F t a1 mem (0 : Int32) (0 : Int32)

def f7_wantsOf_b48 (F : Nat) (t : Nat) (a1 : Int32) (a2 : Int32) (s5 : Int32 → Int32 → Option (Int32)) (mem : g_M) (v4 : Int32) (w0 : Int32) (w1 : Int32) : Option (Int32) :=
 g_let ((w0 + w1)) (fun x1 =>
 g_let (v4 + (1 : Int32)) (fun x2 =>
 s5 x1 x2))

def f7_wantsOf_b47 (F : Nat) (t : Nat) (a1 : Int32) (a2 : Int32) (s5 : Int32 → Int32 → Option (Int32)) (mem : g_M) (v4 : Int32) (w0 : Int32) : Option (Int32) :=
 f7_wantsOf_b48 F t a1 a2 s5 mem v4 w0 (0 : Int32)

def f7_wantsOf_b5_body (F : Nat) (t : Nat) (a1 : Int32) (a2 : Int32) (s5 : Int32 → Int32 → Option (Int32)) (mem : g_M) (v3 : Int32) (v4 : Int32) : Option (Int32) :=
 g_dr yC 69 (mem.2.2 t 0) 9 (fun q3 =>
 if v4 < (mem.1 q3 8) then (g_dr yC 69 (mem.2.2 t 0) 9 (fun q5 =>
 (f9_wantAt F q5 v4 (0 : Int32) mem).bind (fun r6 =>
 if r6 = a1 then (g_ck v4 8 (
 if (mem.1 (t + 5) v4.toNatClampNeg) = a2 then (f7_wantsOf_b48 F t a1 a2 s5 mem v4 v3 (1 : Int32))
 else (f7_wantsOf_b47 F t a1 a2 s5 mem v4 v3)))
 else (f7_wantsOf_b47 F t a1 a2 s5 mem v4 v3))))
 else (some v3))

def f7_wantsOf_b5 (F : Nat) (t : Nat) (a1 : Int32) (a2 : Int32) (mem : g_M) (v3 : Int32) (v4 : Int32) : Option (Int32) :=
  g_fix (fun sf x => f7_wantsOf_b5_body F t a1 a2 (fun v3 v4 => sf (v3, v4)) mem x.1 x.2) F (v3, v4)

def f7_wantsOf (F : Nat) (t : Nat) (a1 : Int32) (a2 : Int32) (mem : g_M) : Option (Int32) :=
 f7_wantsOf_b5 F t a1 a2 mem (0 : Int32) (0 : Int32)

def f7_wantsThatAre_b31 (F : Nat) (t : Nat) (a1 : Int32) (s4 : Int32 → Int32 → Option (Int32)) (mem : g_M) (v3 : Int32) (w0 : Int32) (w1 : Int32) : Option (Int32) :=
 g_let ((w0 + w1)) (fun x1 =>
 g_let (v3 + (1 : Int32)) (fun x2 =>
 s4 x1 x2))

def f7_wantsThatAre_b4_body (F : Nat) (t : Nat) (a1 : Int32) (s4 : Int32 → Int32 → Option (Int32)) (mem : g_M) (v2 : Int32) (v3 : Int32) : Option (Int32) :=
 g_dr yC 69 (mem.2.2 t 0) 9 (fun q3 =>
 if v3 < (mem.1 q3 8) then (g_ck v3 8 (
 if (mem.1 (t + 5) v3.toNatClampNeg) = a1 then (f7_wantsThatAre_b31 F t a1 s4 mem v3 v2 (1 : Int32))
 else (f7_wantsThatAre_b31 F t a1 s4 mem v3 v2 (0 : Int32))))
 else (some v2))

def f7_wantsThatAre_b4 (F : Nat) (t : Nat) (a1 : Int32) (mem : g_M) (v2 : Int32) (v3 : Int32) : Option (Int32) :=
  g_fix (fun sf x => f7_wantsThatAre_b4_body F t a1 (fun v2 v3 => sf (v2, v3)) mem x.1 x.2) F (v2, v3)

def f7_wantsThatAre (F : Nat) (t : Nat) (a1 : Int32) (mem : g_M) : Option (Int32) :=
 f7_wantsThatAre_b4 F t a1 mem (0 : Int32) (0 : Int32)

def f7_allPence_b4_body (F : Nat) (t : Nat) (s4 : Int32 → Int32 → Option (Int32)) (mem : g_M) (v1 : Int32) (v2 : Int32) : Option (Int32) :=
 g_dr yC 69 (mem.2.2 t 0) 9 (fun q1 =>
 g_ck (0 : Int32) 3 (
 if v2 < (mem.1 (q1 + 1) (0 : Int32).toNatClampNeg) then (g_ck v2 5 (
 g_let ((v1 + (mem.1 (t + 1) v2.toNatClampNeg))) (fun x5 =>
 g_let (v2 + (1 : Int32)) (fun x6 =>
 s4 x5 x6))))
 else (some v1)))

def f7_allPence_b4 (F : Nat) (t : Nat) (mem : g_M) (v1 : Int32) (v2 : Int32) : Option (Int32) :=
  g_fix (fun sf x => f7_allPence_b4_body F t (fun v1 v2 => sf (v1, v2)) mem x.1 x.2) F (v1, v2)

def f7_allPence (F : Nat) (t : Nat) (mem : g_M) : Option (Int32) :=
 f7_allPence_b4 F t mem (0 : Int32) (0 : Int32)

def f7_mixed_b22_body (F : Nat) (t : Nat) (s22 : Int32 → Int32 → Option (Int32)) (mem : g_M) (v1 : Int32) (v2 : Int32) : Option (Int32) :=
 g_dr yC 69 (mem.2.2 t 0) 9 (fun q1 =>
 g_ck (0 : Int32) 3 (
 if v2 < (mem.1 (q1 + 1) (0 : Int32).toNatClampNeg) then ((f7_ownSorts F t v2 mem).bind (fun r4 =>
 (fjbc F r4 mem).bind (fun r5 =>
 g_let ((v1 - r5)) (fun x6 =>
 g_let (v2 + (1 : Int32)) (fun x7 =>
 s22 x6 x7)))))
 else (some v1)))

def f7_mixed_b22 (F : Nat) (t : Nat) (mem : g_M) (v1 : Int32) (v2 : Int32) : Option (Int32) :=
  g_fix (fun sf x => f7_mixed_b22_body F t (fun v1 v2 => sf (v1, v2)) mem x.1 x.2) F (v1, v2)

def f7_mixed (F : Nat) (t : Nat) (mem : g_M) : Option (Int32) :=
 g_dr yC 69 (mem.2.2 t 0) 9 (fun q8 =>
 g_ck (0 : Int32) 3 (
 g_dr yC 69 (mem.2.2 t 0) 9 (fun q10 =>
 g_ck (1 : Int32) 3 (
 g_let (((mem.1 (q8 + 1) (0 : Int32).toNatClampNeg) * (mem.1 (q10 + 1) (1 : Int32).toNatClampNeg))) (fun x12 =>
 f7_mixed_b22 F t mem x12 (0 : Int32))))))

def f7_holderOf_b2_body (F : Nat) (t : Nat) (a1 : Int32) (a2 : Int32) (s2 : Int32 → Option (Int32)) (mem : g_M) (v3 : Int32) : Option (Int32) :=
 g_dr yC 69 (mem.2.2 t 0) 9 (fun q1 =>
 g_ck (0 : Int32) 3 (
 if v3 < (mem.1 (q1 + 1) (0 : Int32).toNatClampNeg) then (g_ck ((v3 * (5 : Int32)) + a2) 25 (
 if (mem.1 (t + 2) ((v3 * (5 : Int32)) + a2).toNatClampNeg) = a1 then (some v3)
 else (g_let (v3 + (1 : Int32)) (fun x6 =>
 s2 x6))))
 else (some (-1 : Int32))))

def f7_holderOf_b2 (F : Nat) (t : Nat) (a1 : Int32) (a2 : Int32) (mem : g_M) (v3 : Int32) : Option (Int32) :=
  g_fix (fun sf x => f7_holderOf_b2_body F t a1 a2 (fun v3 => sf v3) mem x) F v3

def f7_holderOf (F : Nat) (t : Nat) (a1 : Int32) (a2 : Int32) (mem : g_M) : Option (Int32) :=
 f7_holderOf_b2 F t a1 a2 mem (0 : Int32)

def f7_lost_b43 (F : Nat) (t : Nat) (s4 : Int32 → Int32 → Option (Int32)) (mem : g_M) (v1 : Int32) (v2 : Int32) : Option (Int32) :=
 g_let (v2 + (1 : Int32)) (fun x1 =>
 s4 v1 x1)

def f7_lost_b4_body (F : Nat) (t : Nat) (s4 : Int32 → Int32 → Option (Int32)) (mem : g_M) (v1 : Int32) (v2 : Int32) : Option (Int32) :=
 g_dr yC 69 (mem.2.2 t 0) 9 (fun q2 =>
 g_ck (0 : Int32) 3 (
 if v2 < (mem.1 (q2 + 1) (0 : Int32).toNatClampNeg) then (g_dr yC 69 (mem.2.2 t 0) 9 (fun q5 =>
 g_ck (1 : Int32) 3 (
 if (0 : Int32) < (mem.1 (q5 + 1) (1 : Int32).toNatClampNeg) then ((f7_ownSorts F t v2 mem).bind (fun r8 =>
 if r8 = (0 : Int32) then (g_let ((v1 ||| ((1 : Int32) <<< (v2 &&& 31)))) (fun x10 =>
 f7_lost_b43 F t s4 mem x10 v2))
 else (f7_lost_b43 F t s4 mem v1 v2)))
 else (f7_lost_b43 F t s4 mem v1 v2))))
 else (some v1)))

def f7_lost_b4 (F : Nat) (t : Nat) (mem : g_M) (v1 : Int32) (v2 : Int32) : Option (Int32) :=
  g_fix (fun sf x => f7_lost_b4_body F t (fun v1 v2 => sf (v1, v2)) mem x.1 x.2) F (v1, v2)

def f7_lost (F : Nat) (t : Nat) (mem : g_M) : Option (Int32) :=
 f7_lost_b4 F t mem (0 : Int32) (0 : Int32)

def f7_halves_b41 (F : Nat) (t : Nat) (s4 : Int32 → Int32 → Option (Int32)) (mem : g_M) (v1 : Int32) (v2 : Int32) : Option (Int32) :=
 g_let (v2 + (1 : Int32)) (fun x1 =>
 s4 v1 x1)

def f7_halves_b4_body (F : Nat) (t : Nat) (s4 : Int32 → Int32 → Option (Int32)) (mem : g_M) (v1 : Int32) (v2 : Int32) : Option (Int32) :=
 g_dr yC 69 (mem.2.2 t 0) 9 (fun q2 =>
 g_ck (0 : Int32) 3 (
 if v2 < (mem.1 (q2 + 1) (0 : Int32).toNatClampNeg) then ((f7_sortsAt F t v2 (0 : Int32) mem).bind (fun r5 =>
 if r5 = (0 : Int32) then (f7_halves_b41 F t s4 mem v1 v2)
 else ((f7_sortsAt F t v2 (1 : Int32) mem).bind (fun r7 =>
 if r7 = (0 : Int32) then (f7_halves_b41 F t s4 mem v1 v2)
 else (g_let ((v1 ||| ((1 : Int32) <<< (v2 &&& 31)))) (fun x9 =>
 f7_halves_b41 F t s4 mem x9 v2))))))
 else (some v1)))

def f7_halves_b4 (F : Nat) (t : Nat) (mem : g_M) (v1 : Int32) (v2 : Int32) : Option (Int32) :=
  g_fix (fun sf x => f7_halves_b4_body F t (fun v1 v2 => sf (v1, v2)) mem x.1 x.2) F (v1, v2)

def f7_halves (F : Nat) (t : Nat) (mem : g_M) : Option (Int32) :=
 f7_halves_b4 F t mem (0 : Int32) (0 : Int32)

def f7_rings_b88 (F : Nat) (t : Nat) (a1 : Int32) (s18 : Int32 → Int32 → Int32 → Int32 → Option (Int32)) (mem : g_M) (v2 : Int32) (v3 : Int32) (v4 : Int32) (v5 : Int32) : Option (Int32) :=
 g_let (v5 + (1 : Int32)) (fun x1 =>
 s18 v2 v3 v4 x1)

def f7_rings_b44_body (F : Nat) (t : Nat) (a1 : Int32) (s18 : Int32 → Int32 → Int32 → Int32 → Option (Int32)) (s44 : Int32 → Int32 → Int32 → Int32 → Int32 → Int32 → Option (Int32)) (mem : g_M) (v2 : Int32) (v3 : Int32) (v4 : Int32) (v5 : Int32) (v6 : Int32) (v7 : Int32) : Option (Int32) :=
 if v7 < v2 then (if ((v4 >>> (v6 &&& 31)) &&& (1 : Int32)) = (0 : Int32) then (g_let ((v4 ||| ((1 : Int32) <<< (v6 &&& 31)))) (fun x4 =>
 g_ck ((v6 * (5 : Int32)) + a1) 25 (
 g_let ((mem.1 (t + 2) ((v6 * (5 : Int32)) + a1).toNatClampNeg)) (fun x6 =>
 g_let (v7 + (1 : Int32)) (fun x7 =>
 s44 v2 v3 x4 v5 x6 x7)))))
 else (f7_rings_b88 F t a1 s18 mem v2 v3 v4 v5))
 else (f7_rings_b88 F t a1 s18 mem v2 v3 v4 v5)

def f7_rings_b44 (F : Nat) (t : Nat) (a1 : Int32) (s18 : Int32 → Int32 → Int32 → Int32 → Option (Int32)) (mem : g_M) (v2 : Int32) (v3 : Int32) (v4 : Int32) (v5 : Int32) (v6 : Int32) (v7 : Int32) : Option (Int32) :=
  g_fix (fun sf x => f7_rings_b44_body F t a1 s18 (fun v2 v3 v4 v5 v6 v7 => sf (v2, v3, v4, v5, v6, v7)) mem x.1 x.2.1 x.2.2.1 x.2.2.2.1 x.2.2.2.2.1 x.2.2.2.2.2) F (v2, v3, v4, v5, v6, v7)

def f7_rings_b37 (F : Nat) (t : Nat) (a1 : Int32) (s18 : Int32 → Int32 → Int32 → Int32 → Option (Int32)) (mem : g_M) (v2 : Int32) (v3 : Int32) (v4 : Int32) (v5 : Int32) : Option (Int32) :=
 f7_rings_b44 F t a1 s18 mem v2 v3 v4 v5 v5 (0 : Int32)

def f7_rings_b18_body (F : Nat) (t : Nat) (a1 : Int32) (s18 : Int32 → Int32 → Int32 → Int32 → Option (Int32)) (mem : g_M) (v2 : Int32) (v3 : Int32) (v4 : Int32) (v5 : Int32) : Option (Int32) :=
 if v5 < v2 then (if ((v4 >>> (v5 &&& 31)) &&& (1 : Int32)) = (0 : Int32) then (g_let (v3 + (1 : Int32)) (fun x10 =>
 f7_rings_b37 F t a1 s18 mem v2 x10 v4 v5))
 else (f7_rings_b37 F t a1 s18 mem v2 v3 v4 v5))
 else (some v3)

def f7_rings_b18 (F : Nat) (t : Nat) (a1 : Int32) (mem : g_M) (v2 : Int32) (v3 : Int32) (v4 : Int32) (v5 : Int32) : Option (Int32) :=
  g_fix (fun sf x => f7_rings_b18_body F t a1 (fun v2 v3 v4 v5 => sf (v2, v3, v4, v5)) mem x.1 x.2.1 x.2.2.1 x.2.2.2) F (v2, v3, v4, v5)

def f7_rings (F : Nat) (t : Nat) (a1 : Int32) (mem : g_M) : Option (Int32) :=
 g_dr yC 69 (mem.2.2 t 0) 9 (fun q11 =>
 g_ck (0 : Int32) 3 (
 g_let ((mem.1 (q11 + 1) (0 : Int32).toNatClampNeg)) (fun x13 =>
 f7_rings_b18 F t a1 mem x13 (0 : Int32) (0 : Int32) (0 : Int32))))

def f10_putFour_b3_body (F : Nat) (a1 : Int32) (s3 : Int32 → g_M → Option (g_M)) (v2 : Int32) (mem : g_M) : Option (g_M) :=
 if (0 : Int32) ≤ v2 then (if (mem.1 0 1) < (700 : Int32) then (g_ck (mem.1 0 1) 700 (
 g_let (g_sI mem 1 (mem.1 0 1).toNatClampNeg (a1 >>> (v2 &&& 31)).toInt8.toInt32.toInt8.toInt32) (fun m4 =>
 g_let (g_sI m4 0 1 ((m4.1 0 1) + (1 : Int32))) (fun m5 =>
 g_let (v2 + (-8 : Int32)) (fun x6 =>
 s3 x6 m5)))))
 else (some mem))
 else (some mem)

def f10_putFour_b3 (F : Nat) (a1 : Int32) (v2 : Int32) (mem : g_M) : Option (g_M) :=
  g_fix (fun sf x => f10_putFour_b3_body F a1 (fun v2 mem => sf (v2, mem)) x.1 x.2) F (v2, mem)

def f10_putFour (F : Nat) (a1 : Int32) (mem : g_M) : Option (g_M) :=
 f10_putFour_b3 F a1 (24 : Int32) mem

def f10_feed (F : Nat) (a1 : Int32) (a2 : Int32) (a3 : Int32) (a4 : Int32) (a5 : Int32) (mem : g_M) : Option (Int32 × g_M) :=
 if (700 : Int32) < ((mem.1 0 1) + (20 : Int32)) then (some ((-1 : Int32), mem))
 else ((f10_putFour F a1 mem).bind (fun r2 =>
 (f10_putFour F a2 r2).bind (fun r3 =>
 (f10_putFour F a3 r3).bind (fun r4 =>
 (f10_putFour F a4 r4).bind (fun r5 =>
 (f10_putFour F a5 r5).bind (fun r6 =>
 some ((r6.1 0 1), r6)))))))

def f10_text (F : Nat) (a1 : Int32) (mem : g_M) : Option (Int32 × g_M) :=
 if (0 : Int32) ≤ a1 then (if (mem.1 0 1) < a1 then (some ((-2 : Int32), mem))
 else (g_dr yC 69 (mem.2.2 0 3) 9 (fun q3 =>
 (f5_reads F a1 q3 mem).bind (fun r4 =>
 g_let (r4.1) (fun x5 =>
 g_let (g_sI r4.2 0 1 (0 : Int32)) (fun m6 =>
 g_let (g_sI m6 0 5 (m6.1 30 0)) (fun m7 =>
 g_let (g_sI m7 0 6 (m7.1 30 1)) (fun m8 =>
 if x5 = (0 : Int32) then (some ((-1 : Int32), m8))
 else (g_dr yC 69 (m8.2.2 0 2) 9 (fun q10 =>
 g_dr yC 69 (m8.2.2 0 3) 9 (fun q11 =>
 g_let (g_sR m8 0 2 (some q11)) (fun m12 =>
 g_let (g_sR m12 0 3 (some q10)) (fun m13 =>
 g_dr yC 69 (m13.2.2 0 2) 9 (fun q14 =>
 (f7_begin F 35 q14 m13).bind (fun r15 =>
 g_let (g_sI r15 0 9 (0 : Int32)) (fun m16 =>
 (f6_clear F m16).bind (fun r17 =>
 (f3_clear F r17).bind (fun r18 =>
 some ((r18.1 30 2), r18)))))))))))))))))))
 else (some ((-2 : Int32), mem))

def f10_fault (F : Nat) (a1 : Int32) (mem : g_M) : Option (Int32) :=
 if a1 = (0 : Int32) then (some (mem.1 0 5))
 else (if a1 = (1 : Int32) then (some (mem.1 0 6))
 else (some (-1 : Int32)))

def f10_named (F : Nat) (a1 : Int32) (a2 : Int32) (mem : g_M) : Option (Int32) :=
 if (0 : Int32) ≤ a1 then (if (2 : Int32) < a1 then (some (-1 : Int32))
 else (g_dr yC 69 (mem.2.2 0 2) 9 (fun q3 =>
 (f9_find F q3 a1 a2 mem).bind (fun r4 =>
 some r4))))
 else (some (-1 : Int32))

def f10_isSort (F : Nat) (a1 : Int32) (mem : g_M) : Option (Int32) :=
 if (0 : Int32) ≤ a1 then (g_dr yC 69 (mem.2.2 0 2) 9 (fun q2 =>
 g_ck (1 : Int32) 3 (
 if a1 < (mem.1 (q2 + 1) (1 : Int32).toNatClampNeg) then (some (1 : Int32))
 else (some (0 : Int32)))))
 else (some (0 : Int32))

def f10_sort (F : Nat) (a1 : Int32) (a2 : Int32) (mem : g_M) : Option (Int32) :=
 (f10_isSort F a1 mem).bind (fun r1 =>
 if r1 = (0 : Int32) then (some (-1 : Int32))
 else (if a2 = (0 : Int32) then (g_dr yC 69 (mem.2.2 0 2) 9 (fun q4 =>
 g_ck a1 5 (
 some (mem.1 (q4 + 4) a1.toNatClampNeg))))
 else (if a2 = (1 : Int32) then (g_dr yC 69 (mem.2.2 0 2) 9 (fun q7 =>
 g_ck a1 5 (
 some (mem.1 (q7 + 5) a1.toNatClampNeg))))
 else (some (-1 : Int32)))))

def f10_isDeed (F : Nat) (a1 : Int32) (mem : g_M) : Option (Int32) :=
 if (0 : Int32) ≤ a1 then (g_dr yC 69 (mem.2.2 0 2) 9 (fun q2 =>
 g_ck (2 : Int32) 3 (
 if a1 < (mem.1 (q2 + 1) (2 : Int32).toNatClampNeg) then (some (1 : Int32))
 else (some (0 : Int32)))))
 else (some (0 : Int32))

def f10_deed (F : Nat) (a1 : Int32) (mem : g_M) : Option (Int32) :=
 (f10_isDeed F a1 mem).bind (fun r1 =>
 if r1 = (0 : Int32) then (some (-1 : Int32))
 else (g_dr yC 69 (mem.2.2 0 2) 9 (fun q3 =>
 g_ck a1 5 (
 some (mem.1 (q3 + 6) a1.toNatClampNeg)))))

def f10_isSending (F : Nat) (a1 : Int32) (mem : g_M) : Option (Int32) :=
 if (0 : Int32) ≤ a1 then (if a1 < (mem.1 35 7) then (some (1 : Int32))
 else (some (0 : Int32)))
 else (some (0 : Int32))

def f10_sending (F : Nat) (a1 : Int32) (a2 : Int32) (mem : g_M) : Option (Int32) :=
 (f10_isSending F a1 mem).bind (fun r1 =>
 if r1 = (0 : Int32) then (some (-1 : Int32))
 else (if (0 : Int32) ≤ a2 then (if (4 : Int32) ≤ a2 then (some (-1 : Int32))
 else ((f7_sendingAt F 35 a1 a2 mem).bind (fun r5 =>
 some r5)))
 else (some (-1 : Int32))))

def f10_isWant (F : Nat) (a1 : Int32) (mem : g_M) : Option (Int32) :=
 if (0 : Int32) ≤ a1 then (g_dr yC 69 (mem.2.2 0 2) 9 (fun q2 =>
 if a1 < (mem.1 q2 8) then (some (1 : Int32))
 else (some (0 : Int32))))
 else (some (0 : Int32))

def f10_want (F : Nat) (a1 : Int32) (a2 : Int32) (mem : g_M) : Option (Int32) :=
 (f10_isWant F a1 mem).bind (fun r1 =>
 if r1 = (0 : Int32) then (some (-1 : Int32))
 else (if (0 : Int32) ≤ a2 then (if (5 : Int32) < a2 then (some (-1 : Int32))
 else (if a2 = (5 : Int32) then (g_ck a1 8 (
 some (mem.1 40 a1.toNatClampNeg)))
 else (g_dr yC 69 (mem.2.2 0 2) 9 (fun q7 =>
 (f9_wantAt F q7 a1 a2 mem).bind (fun r8 =>
 some r8)))))
 else (some (-1 : Int32))))

def f10_isMan (F : Nat) (a1 : Int32) (mem : g_M) : Option (Int32) :=
 if (0 : Int32) ≤ a1 then (g_dr yC 69 (mem.2.2 0 2) 9 (fun q2 =>
 g_ck (0 : Int32) 3 (
 if a1 < (mem.1 (q2 + 1) (0 : Int32).toNatClampNeg) then (some (1 : Int32))
 else (some (0 : Int32)))))
 else (some (0 : Int32))

def f10_isPart (F : Nat) (a1 : Int32) (a2 : Int32) (mem : g_M) : Option (Int32) :=
 (f10_isMan F a1 mem).bind (fun r1 =>
 if r1 = (0 : Int32) then (some (0 : Int32))
 else ((f10_isSort F a2 mem).bind (fun r3 =>
 if r3 = (0 : Int32) then (some (0 : Int32))
 else (some (1 : Int32)))))

def f10_holds (F : Nat) (a1 : Int32) (a2 : Int32) (mem : g_M) : Option (Int32) :=
 (f10_isPart F a1 a2 mem).bind (fun r1 =>
 if r1 = (0 : Int32) then (some (-1 : Int32))
 else (g_ck ((a1 * (5 : Int32)) + a2) 25 (
 some (mem.1 37 ((a1 * (5 : Int32)) + a2).toNatClampNeg))))

def f10_port (F : Nat) (a1 : Int32) (a2 : Int32) (mem : g_M) : Option (Int32) :=
 (f10_isPart F a1 a2 mem).bind (fun r1 =>
 if r1 = (0 : Int32) then (some (-1 : Int32))
 else (g_ck ((a1 * (5 : Int32)) + a2) 25 (
 some (mem.1 38 ((a1 * (5 : Int32)) + a2).toNatClampNeg))))

def f10_isPort_b9 (F : Nat) (a0 : Int32) (mem : g_M) : Option (Int32) :=
 some (1 : Int32)

def f10_isPort (F : Nat) (a0 : Int32) (mem : g_M) : Option (Int32) :=
 if a0 = (0 : Int32) then (f10_isPort_b9 F a0 mem)
 else (if a0 = (1 : Int32) then (f10_isPort_b9 F a0 mem)
 else (some (0 : Int32)))

def f10_isTask (F : Nat) (a1 : Int32) (a2 : Int32) (a3 : Int32) (mem : g_M) : Option (Int32) :=
 (f10_isMan F a1 mem).bind (fun r1 =>
 if r1 = (0 : Int32) then (some (0 : Int32))
 else ((f10_isDeed F a2 mem).bind (fun r3 =>
 if r3 = (0 : Int32) then (some (0 : Int32))
 else ((f10_isPort F a3 mem).bind (fun r5 =>
 if r5 = (0 : Int32) then (some (0 : Int32))
 else (some (1 : Int32)))))))

def f10_can (F : Nat) (a1 : Int32) (a2 : Int32) (a3 : Int32) (mem : g_M) : Option (Int32) :=
 (f10_isTask F a1 a2 a3 mem).bind (fun r1 =>
 if r1 = (0 : Int32) then (some (-1 : Int32))
 else ((f7_lacks F 35 a1 a2 a3 mem).bind (fun r3 =>
 if r3 = (0 : Int32) then (some (1 : Int32))
 else (some (0 : Int32)))))

def f10_law_b66 (F : Nat) (a1 : Int32) (a2 : Int32) (a3 : Int32) (mem : g_M) : Option (Int64 × g_M) :=
 if a1 = (2 : Int32) then ((f10_isSort F a3 mem).bind (fun r2 =>
 if r2 = (0 : Int32) then (some ((-9223372036854775808 : Int64), mem))
 else ((f0_mixLaw F a3 mem).bind (fun r4 =>
 some (r4.1, r4.2)))))
 else (some ((-9223372036854775808 : Int64), mem))

def f10_law_b35 (F : Nat) (a1 : Int32) (a2 : Int32) (a3 : Int32) (mem : g_M) : Option (Int64 × g_M) :=
 if a1 = (1 : Int32) then ((f10_isMan F a2 mem).bind (fun r6 =>
 if r6 = (0 : Int32) then (f10_law_b66 F a1 a2 a3 mem)
 else ((f10_isWant F a3 mem).bind (fun r8 =>
 if r8 = (0 : Int32) then (f10_law_b66 F a1 a2 a3 mem)
 else ((f0_gainLaw F a2 a3 mem).bind (fun r10 =>
 some (r10.1, r10.2)))))))
 else (f10_law_b66 F a1 a2 a3 mem)

def f10_law (F : Nat) (a1 : Int32) (a2 : Int32) (a3 : Int32) (mem : g_M) : Option (Int64 × g_M) :=
 (f0_start F 35 (0 : Int32) mem).bind (fun r11 =>
 if a1 = (0 : Int32) then ((f10_isPart F a2 a3 r11).bind (fun r13 =>
 if r13 = (0 : Int32) then (f10_law_b35 F a1 a2 a3 r11)
 else ((f0_fareLaw F a2 a3 r11).bind (fun r15 =>
 some (r15.1, r15.2)))))
 else (f10_law_b35 F a1 a2 a3 r11))

def f10_send (F : Nat) (a1 : Int32) (a2 : Int32) (a3 : Int32) (mem : g_M) : Option (Int32 × g_M) :=
 (f10_isPart F a1 a2 mem).bind (fun r1 =>
 if r1 = (0 : Int32) then (some ((-1 : Int32), mem))
 else (if (mem.1 35 1) ≤ a3 then (if a3 ≤ (9999 : Int32) then (if (12 : Int32) ≤ (mem.1 35 7) then (some ((-1 : Int32), mem))
 else ((f7_putSending F 35 a1 a2 a3 mem).bind (fun r6 =>
 (f3_note F (0 : Int32) (0 : Int32) (0 : Int32) (0 : Int32) r6).bind (fun r7 =>
 some (((r7.1 35 7) - (1 : Int32)), r7)))))
 else (some ((-1 : Int32), mem)))
 else (some ((-1 : Int32), mem))))

def f10_take (F : Nat) (a1 : Int32) (mem : g_M) : Option (Int32 × g_M) :=
 (f10_isSending F a1 mem).bind (fun r1 =>
 if r1 = (0 : Int32) then (some ((0 : Int32), mem))
 else ((f7_sendingAt F 35 a1 (3 : Int32) mem).bind (fun r3 =>
 if r3 = (0 : Int32) then ((f7_setSending F 35 a1 (3 : Int32) (2 : Int32) mem).bind (fun r5 =>
 (f3_note F (1 : Int32) a1 (0 : Int32) (0 : Int32) r5).bind (fun r6 =>
 some ((1 : Int32), r6))))
 else (some ((0 : Int32), mem)))))

def f10_swap (F : Nat) (a1 : Int32) (a2 : Int32) (a3 : Int32) (mem : g_M) : Option (Int32 × g_M) :=
 if a1 = a2 then (some ((0 : Int32), mem))
 else ((f10_isPart F a1 a3 mem).bind (fun r2 =>
 if r2 = (0 : Int32) then (some ((0 : Int32), mem))
 else ((f10_isPart F a2 a3 mem).bind (fun r4 =>
 if r4 = (0 : Int32) then (some ((0 : Int32), mem))
 else (g_ck ((a1 * (5 : Int32)) + a3) 25 (
 g_ck ((a2 * (5 : Int32)) + a3) 25 (
 if (mem.1 38 ((a1 * (5 : Int32)) + a3).toNatClampNeg) = (mem.1 38 ((a2 * (5 : Int32)) + a3).toNatClampNeg) then ((f7_exchange F 35 a1 a2 a3 mem).bind (fun r9 =>
 (f3_note F (2 : Int32) a1 a2 a3 r9).bind (fun r10 =>
 some ((1 : Int32), r10))))
 else (some ((0 : Int32), mem)))))))))

def f10_lend (F : Nat) (a1 : Int32) (a2 : Int32) (mem : g_M) : Option (Int32 × g_M) :=
 (f10_isMan F a1 mem).bind (fun r1 =>
 if r1 = (0 : Int32) then (some ((-1 : Int32), mem))
 else (if (1 : Int32) ≤ a2 then (if a2 ≤ (99 : Int32) then (g_ck a1 5 (
 if (99999 : Int32) < ((mem.1 36 a1.toNatClampNeg) + a2) then (some ((-1 : Int32), mem))
 else (g_ck a1 5 (
 g_ck a1 5 (
 g_let (g_sI mem 36 a1.toNatClampNeg ((mem.1 36 a1.toNatClampNeg) + a2)) (fun m9 =>
 (f3_note F (3 : Int32) a1 a2 (0 : Int32) m9).bind (fun r10 =>
 g_ck a1 5 (
 some ((r10.1 36 a1.toNatClampNeg), r10)))))))))
 else (some ((-1 : Int32), mem)))
 else (some ((-1 : Int32), mem))))

def f10_isSpan (F : Nat) (a0 : Int32) (mem : g_M) : Option (Int32) :=
 if (0 : Int32) ≤ a0 then (if a0 ≤ (99 : Int32) then (some (1 : Int32))
 else (some (0 : Int32)))
 else (some (0 : Int32))

def f10_go_b55 (F : Nat) (a1 : Int32) (mem : g_M) : Option (Int32 × g_M) :=
 some ((mem.1 35 1), mem)

def f10_go (F : Nat) (a1 : Int32) (mem : g_M) : Option (Int32 × g_M) :=
 (f10_isSpan F a1 mem).bind (fun r1 =>
 if r1 = (0 : Int32) then (some ((-1 : Int32), mem))
 else (if (9900 : Int32) < ((mem.1 35 1) + a1) then (some ((-1 : Int32), mem))
 else (if (0 : Int32) < a1 then ((f0_start F 35 (0 : Int32) mem).bind (fun r5 =>
 (f0_pass F a1 r5).bind (fun r6 =>
 (f3_clear F r6).bind (fun r7 =>
 f10_go_b55 F a1 r7))))
 else (f10_go_b55 F a1 mem))))

def f10_ahead_b31 (F : Nat) (a1 : Int32) (a2 : Int32) (a3 : Int32) (mem : g_M) : Option (Int32 × g_M) :=
 (f7_copy F 47 35 mem).bind (fun r1 =>
 (f0_start F 47 (1 : Int32) r1).bind (fun r2 =>
 (f0_pass F a1 r2).bind (fun r3 =>
 if a2 = (0 : Int32) then ((f7_wantsThatAre F 47 (1 : Int32) r3).bind (fun r5 =>
 (f7_wantsThatAre F 35 (1 : Int32) r3).bind (fun r6 =>
 some ((r5 - r6), r3))))
 else (if a2 = (1 : Int32) then ((f7_wantsThatAre F 47 (2 : Int32) r3).bind (fun r8 =>
 (f7_wantsThatAre F 35 (2 : Int32) r3).bind (fun r9 =>
 some ((r8 - r9), r3))))
 else (if a2 = (2 : Int32) then ((f7_sendingsGone F 47 r3).bind (fun r11 =>
 (f7_sendingsGone F 35 r3).bind (fun r12 =>
 some ((r11 - r12), r3))))
 else (if a2 = (3 : Int32) then (g_ck a3 5 (
 some ((r3.1 48 a3.toNatClampNeg), r3)))
 else ((f7_mixed F 47 r3).bind (fun r15 =>
 some (r15, r3)))))))))

def f10_ahead (F : Nat) (a1 : Int32) (a2 : Int32) (a3 : Int32) (mem : g_M) : Option (Int32 × g_M) :=
 (f10_isSpan F a1 mem).bind (fun r16 =>
 if r16 = (0 : Int32) then (some ((-1 : Int32), mem))
 else (if (0 : Int32) ≤ a2 then (if a2 ≤ (4 : Int32) then (if a2 = (3 : Int32) then ((f10_isMan F a3 mem).bind (fun r21 =>
 if r21 = (0 : Int32) then (some ((-1 : Int32), mem))
 else (f10_ahead_b31 F a1 a2 a3 mem)))
 else (f10_ahead_b31 F a1 a2 a3 mem))
 else (some ((-1 : Int32), mem)))
 else (some ((-1 : Int32), mem))))

def f10_first_b38_body (F : Nat) (a1 : Int32) (a2 : Int32) (a3 : Int32) (s38 : Int32 → g_M → Option (Int32 × g_M)) (v4 : Int32) (mem : g_M) : Option (Int32 × g_M) :=
 if v4 < (99 : Int32) then ((f7_lacks F 47 a1 a2 a3 mem).bind (fun r2 =>
 if r2 = (0 : Int32) then (some (v4, mem))
 else ((f0_pass F (1 : Int32) mem).bind (fun r4 =>
 g_let (v4 + (1 : Int32)) (fun x5 =>
 s38 x5 r4)))))
 else ((f7_lacks F 47 a1 a2 a3 mem).bind (fun r6 =>
 if r6 = (0 : Int32) then (some ((99 : Int32), mem))
 else (some ((-2 : Int32), mem))))

def f10_first_b38 (F : Nat) (a1 : Int32) (a2 : Int32) (a3 : Int32) (v4 : Int32) (mem : g_M) : Option (Int32 × g_M) :=
  g_fix (fun sf x => f10_first_b38_body F a1 a2 a3 (fun v4 mem => sf (v4, mem)) x.1 x.2) F (v4, mem)

def f10_first (F : Nat) (a1 : Int32) (a2 : Int32) (a3 : Int32) (mem : g_M) : Option (Int32 × g_M) :=
 (f10_isTask F a1 a2 a3 mem).bind (fun r8 =>
 if r8 = (0 : Int32) then (some ((-1 : Int32), mem))
 else ((f7_copy F 47 35 mem).bind (fun r10 =>
 (f0_start F 47 (1 : Int32) r10).bind (fun r11 =>
 f10_first_b38 F a1 a2 a3 (0 : Int32) r11))))

def f10_isDueBefore_b62 (F : Nat) (a1 : Int32) (s2 : Int32 → Option (Int32)) (mem : g_M) (v2 : Int32) : Option (Int32) :=
 g_let (v2 + (1 : Int32)) (fun x1 =>
 s2 x1)

def f10_isDueBefore_b2_body (F : Nat) (a1 : Int32) (s2 : Int32 → Option (Int32)) (mem : g_M) (v2 : Int32) : Option (Int32) :=
 if v2 < a1 then ((f7_isDue F 35 v2 mem).bind (fun r3 =>
 if r3 = (0 : Int32) then (f10_isDueBefore_b62 F a1 s2 mem v2)
 else ((f7_sendingAt F 35 v2 (0 : Int32) mem).bind (fun r5 =>
 (f7_sendingAt F 35 a1 (0 : Int32) mem).bind (fun r6 =>
 if r5 = r6 then ((f7_sendingAt F 35 v2 (1 : Int32) mem).bind (fun r8 =>
 (f7_sendingAt F 35 a1 (1 : Int32) mem).bind (fun r9 =>
 if r8 = r9 then (some (1 : Int32))
 else (f10_isDueBefore_b62 F a1 s2 mem v2))))
 else (f10_isDueBefore_b62 F a1 s2 mem v2))))))
 else (some (0 : Int32))

def f10_isDueBefore_b2 (F : Nat) (a1 : Int32) (mem : g_M) (v2 : Int32) : Option (Int32) :=
  g_fix (fun sf x => f10_isDueBefore_b2_body F a1 (fun v2 => sf v2) mem x) F v2

def f10_isDueBefore (F : Nat) (a1 : Int32) (mem : g_M) : Option (Int32) :=
 f10_isDueBefore_b2 F a1 mem (0 : Int32)

def f10_bestLoad_b183 (F : Nat) (a1 : Int32) (s33 : Int32 → Int32 → g_M → Option (Int32 × g_M)) (v2 : Int32) (v3 : Int32) (mem : g_M) : Option (Int32 × g_M) :=
 g_let (v3 + (1 : Int32)) (fun x1 =>
 s33 v2 x1 mem)

def f10_bestLoad_b140_body (F : Nat) (a1 : Int32) (s33 : Int32 → Int32 → g_M → Option (Int32 × g_M)) (s140 : Int32 → Int32 → Int32 → Int32 → Int32 → g_M → Option (Int32 × g_M)) (v2 : Int32) (v3 : Int32) (v6 : Int32) (v7 : Int32) (v8 : Int32) (mem : g_M) : Option (Int32 × g_M) :=
 if v7 ≤ v8 then (g_ck v8 31 (
 g_ck (v8 - v7) 31 (
 g_ck v8 31 (
 g_let (g_sI mem 56 v8.toNatClampNeg (if (mem.1 56 v8.toNatClampNeg) < ((mem.1 56 (v8 - v7).toNatClampNeg) + v6) then ((mem.1 56 (v8 - v7).toNatClampNeg) + v6) else (mem.1 56 v8.toNatClampNeg))) (fun m6 =>
 g_let (v8 + (-1 : Int32)) (fun x7 =>
 s140 v2 v3 v6 v7 x7 m6))))))
 else (f10_bestLoad_b183 F a1 s33 v2 v3 mem)

def f10_bestLoad_b140 (F : Nat) (a1 : Int32) (s33 : Int32 → Int32 → g_M → Option (Int32 × g_M)) (v2 : Int32) (v3 : Int32) (v6 : Int32) (v7 : Int32) (v8 : Int32) (mem : g_M) : Option (Int32 × g_M) :=
  g_fix (fun sf x => f10_bestLoad_b140_body F a1 s33 (fun v2 v3 v6 v7 v8 mem => sf (v2, v3, v6, v7, v8, mem)) x.1 x.2.1 x.2.2.1 x.2.2.2.1 x.2.2.2.2.1 x.2.2.2.2.2) F (v2, v3, v6, v7, v8, mem)

def f10_bestLoad_b33_body (F : Nat) (a1 : Int32) (s33 : Int32 → Int32 → g_M → Option (Int32 × g_M)) (v2 : Int32) (v3 : Int32) (mem : g_M) : Option (Int32 × g_M) :=
 if v3 < (mem.1 35 7) then ((f7_sendingAt F 35 v3 (0 : Int32) mem).bind (fun r9 =>
 (f7_sendingAt F 35 v3 (1 : Int32) mem).bind (fun r10 =>
 (f7_isDue F 35 v3 mem).bind (fun r11 =>
 if r11 = (0 : Int32) then (f10_bestLoad_b183 F a1 s33 v2 v3 mem)
 else (g_ck ((r9 * (5 : Int32)) + r10) 25 (
 if (mem.1 38 ((r9 * (5 : Int32)) + r10).toNatClampNeg) = v2 then ((f10_isDueBefore F v3 mem).bind (fun r15 =>
 if r15 = (0 : Int32) then (g_dr yC 69 (mem.2.2 0 2) 9 (fun q17 =>
 g_ck r10 5 (
 g_let ((((mem.1 (q17 + 5) r10.toNatClampNeg) * (4096 : Int32)) - ((1 : Int32) <<< (v3 &&& 31)))) (fun x19 =>
 g_dr yC 69 (mem.2.2 0 2) 9 (fun q20 =>
 g_ck r10 5 (
 g_let ((mem.1 (q20 + 4) r10.toNatClampNeg)) (fun x22 =>
 f10_bestLoad_b140 F a1 s33 v2 v3 x19 x22 (30 : Int32) mem)))))))
 else (f10_bestLoad_b183 F a1 s33 v2 v3 mem)))
 else (f10_bestLoad_b183 F a1 s33 v2 v3 mem)))))))
 else (g_dr yC 69 (mem.2.2 0 2) 9 (fun q23 =>
 g_ck (mem.1 q23 10) 31 (
 g_let ((mem.1 56 (mem.1 q23 10).toNatClampNeg)) (fun x25 =>
 g_let (((x25 + (4095 : Int32)) / (4096 : Int32))) (fun x26 =>
 if a1 = (0 : Int32) then (some (x26, mem))
 else (some (((x26 * (4096 : Int32)) - x25), mem)))))))

def f10_bestLoad_b33 (F : Nat) (a1 : Int32) (v2 : Int32) (v3 : Int32) (mem : g_M) : Option (Int32 × g_M) :=
  g_fix (fun sf x => f10_bestLoad_b33_body F a1 (fun v2 v3 mem => sf (v2, v3, mem)) x.1 x.2.1 x.2.2) F (v2, v3, mem)

def f10_bestLoad_b2_body (F : Nat) (a1 : Int32) (s2 : Int32 → g_M → Option (Int32 × g_M)) (v2 : Int32) (mem : g_M) : Option (Int32 × g_M) :=
 if v2 ≤ (30 : Int32) then (g_ck v2 31 (
 g_let (g_sI mem 56 v2.toNatClampNeg (0 : Int32)) (fun m30 =>
 g_let (v2 + (1 : Int32)) (fun x31 =>
 s2 x31 m30))))
 else (g_let (((mem.1 35 1) &&& (1 : Int32))) (fun x32 =>
 f10_bestLoad_b33 F a1 x32 (0 : Int32) mem))

def f10_bestLoad_b2 (F : Nat) (a1 : Int32) (v2 : Int32) (mem : g_M) : Option (Int32 × g_M) :=
  g_fix (fun sf x => f10_bestLoad_b2_body F a1 (fun v2 mem => sf (v2, mem)) x.1 x.2) F (v2, mem)

def f10_bestLoad (F : Nat) (a1 : Int32) (mem : g_M) : Option (Int32 × g_M) :=
 f10_bestLoad_b2 F a1 (0 : Int32) mem

def f10_load_b21 (F : Nat) (a1 : Int32) (w1 : Int32) (mem : g_M) : Option (Int32 × g_M) :=
 (f10_bestLoad F w1 mem).bind (fun r1 =>
 some (r1.1, r1.2))

def f10_load_b11 (F : Nat) (a1 : Int32) (mem : g_M) : Option (Int32 × g_M) :=
 if a1 = (0 : Int32) then (f10_load_b21 F a1 (1 : Int32) mem)
 else (f10_load_b21 F a1 (0 : Int32) mem)

def f10_load (F : Nat) (a1 : Int32) (mem : g_M) : Option (Int32 × g_M) :=
 if a1 = (0 : Int32) then (f10_load_b11 F a1 mem)
 else (if a1 = (1 : Int32) then (f10_load_b11 F a1 mem)
 else (some ((-1 : Int32), mem)))

def f10_order_b9 (F : Nat) (a1 : Int32) (mem : g_M) : Option (Int32 × g_M) :=
 some ((-2147483648 : Int32), mem)

def f10_order_b103 (F : Nat) (a1 : Int32) (s26 : Int32 → g_M → Option (Int32 × g_M)) (v2 : Int32) (mem : g_M) : Option (Int32 × g_M) :=
 g_let (v2 + (1 : Int32)) (fun x1 =>
 s26 x1 mem)

def f10_order_b26_body (F : Nat) (a1 : Int32) (s26 : Int32 → g_M → Option (Int32 × g_M)) (v2 : Int32) (mem : g_M) : Option (Int32 × g_M) :=
 if v2 < (256 : Int32) then ((f4_isRow F v2 mem).bind (fun r3 =>
 if r3 = (0 : Int32) then (f10_order_b103 F a1 s26 v2 mem)
 else ((f7_copy F 47 35 mem).bind (fun r5 =>
 (f4_layOut F v2 47 r5).bind (fun r6 =>
 (f0_start F 47 (1 : Int32) r6).bind (fun r7 =>
 (f0_pass F (20 : Int32) r7).bind (fun r8 =>
 (f7_allPence F 47 r8).bind (fun r9 =>
 (f4_weigh F v2 r9 r8).bind (fun r10 =>
 f10_order_b103 F a1 s26 v2 r10)))))))))
 else (if a1 = (4 : Int32) then ((f7_allPence F 35 mem).bind (fun r12 =>
 some (((mem.1 57 1) - r12), mem)))
 else (if a1 < (mem.1 57 0) then (g_ck a1 4 (
 some ((mem.1 58 a1.toNatClampNeg), mem)))
 else (some ((-2 : Int32), mem))))

def f10_order_b26 (F : Nat) (a1 : Int32) (v2 : Int32) (mem : g_M) : Option (Int32 × g_M) :=
  g_fix (fun sf x => f10_order_b26_body F a1 (fun v2 mem => sf (v2, mem)) x.1 x.2) F (v2, mem)

def f10_order (F : Nat) (a1 : Int32) (mem : g_M) : Option (Int32 × g_M) :=
 if (0 : Int32) ≤ a1 then (if (4 : Int32) < a1 then (f10_order_b9 F a1 mem)
 else ((f4_choose F 35 mem).bind (fun r17 =>
 f10_order_b26 F a1 (0 : Int32) r17)))
 else (f10_order_b9 F a1 mem)

def f10_swaps_b4_body (F : Nat) (s4 : Int32 → Int32 → Option (Int32)) (mem : g_M) (v1 : Int32) (v2 : Int32) : Option (Int32) :=
 g_dr yC 69 (mem.2.2 0 2) 9 (fun q1 =>
 g_ck (1 : Int32) 3 (
 if v2 < (mem.1 (q1 + 1) (1 : Int32).toNatClampNeg) then (g_dr yC 69 (mem.2.2 0 2) 9 (fun q4 =>
 g_ck (0 : Int32) 3 (
 (f7_rings F 35 v2 mem).bind (fun r6 =>
 g_let ((v1 + ((mem.1 (q4 + 1) (0 : Int32).toNatClampNeg) - r6))) (fun x7 =>
 g_let (v2 + (1 : Int32)) (fun x8 =>
 s4 x7 x8))))))
 else (some v1)))

def f10_swaps_b4 (F : Nat) (mem : g_M) (v1 : Int32) (v2 : Int32) : Option (Int32) :=
  g_fix (fun sf x => f10_swaps_b4_body F (fun v1 v2 => sf (v1, v2)) mem x.1 x.2) F (v1, v2)

def f10_swaps (F : Nat) (mem : g_M) : Option (Int32) :=
 f10_swaps_b4 F mem (0 : Int32) (0 : Int32)

def f10_together_b85 (F : Nat) (a1 : Int32) (a2 : Int32) (a3 : Int32) (s36 : Int32 → Int32 → Option (Int32)) (mem : g_M) (v4 : Int32) (v5 : Int32) : Option (Int32) :=
 g_let (v5 + (1 : Int32)) (fun x1 =>
 s36 v4 x1)

def f10_together_b36_body (F : Nat) (a1 : Int32) (a2 : Int32) (a3 : Int32) (s36 : Int32 → Int32 → Option (Int32)) (mem : g_M) (v4 : Int32) (v5 : Int32) : Option (Int32) :=
 g_dr yC 69 (mem.2.2 0 2) 9 (fun q2 =>
 g_ck (2 : Int32) 3 (
 if v5 < (mem.1 (q2 + 1) (2 : Int32).toNatClampNeg) then ((f7_lacks F 35 a1 v5 a3 mem).bind (fun r5 =>
 (f7_lacks F 35 a2 v5 a3 mem).bind (fun r6 =>
 if (r5 &&& r6) = (0 : Int32) then (g_let ((v4 ||| ((1 : Int32) <<< (v5 &&& 31)))) (fun x8 =>
 f10_together_b85 F a1 a2 a3 s36 mem x8 v5))
 else (f10_together_b85 F a1 a2 a3 s36 mem v4 v5))))
 else (some v4)))

def f10_together_b36 (F : Nat) (a1 : Int32) (a2 : Int32) (a3 : Int32) (mem : g_M) (v4 : Int32) (v5 : Int32) : Option (Int32) :=
  g_fix (fun sf x => f10_together_b36_body F a1 a2 a3 (fun v4 v5 => sf (v4, v5)) mem x.1 x.2) F (v4, v5)

def f10_together (F : Nat) (a1 : Int32) (a2 : Int32) (a3 : Int32) (mem : g_M) : Option (Int32) :=
 if a1 = a2 then (some (-1 : Int32))
 else ((f10_isMan F a1 mem).bind (fun r10 =>
 if r10 = (0 : Int32) then (some (-1 : Int32))
 else ((f10_isMan F a2 mem).bind (fun r12 =>
 if r12 = (0 : Int32) then (some (-1 : Int32))
 else ((f10_isPort F a3 mem).bind (fun r14 =>
 if r14 = (0 : Int32) then (some (-1 : Int32))
 else (f10_together_b36 F a1 a2 a3 mem (0 : Int32) (0 : Int32))))))))

def f10_needs (F : Nat) (a1 : Int32) (a2 : Int32) (a3 : Int32) (mem : g_M) : Option (Int32) :=
 (f10_isTask F a1 a2 a3 mem).bind (fun r1 =>
 if r1 = (0 : Int32) then (some (-1 : Int32))
 else ((f7_lacks F 35 a1 a2 a3 mem).bind (fun r3 =>
 some r3)))

def f10_cheap_b30_body (F : Nat) (a1 : Int32) (a2 : Int32) (a3 : Int32) (s30 : Int32 → Int32 → Int32 → Option (Int32)) (mem : g_M) (v4 : Int32) (v5 : Int32) (v6 : Int32) : Option (Int32) :=
 g_dr yC 69 (mem.2.2 0 2) 9 (fun q1 =>
 g_ck (1 : Int32) 3 (
 if v6 < (mem.1 (q1 + 1) (1 : Int32).toNatClampNeg) then (g_dr yC 69 (mem.2.2 0 2) 9 (fun q4 =>
 g_ck v6 5 (
 g_let ((v5 + (((v4 >>> (v6 &&& 31)) &&& (1 : Int32)) * (mem.1 (q4 + 5) v6.toNatClampNeg)))) (fun x6 =>
 g_let (v6 + (1 : Int32)) (fun x7 =>
 s30 v4 x6 x7)))))
 else (some v5)))

def f10_cheap_b30 (F : Nat) (a1 : Int32) (a2 : Int32) (a3 : Int32) (mem : g_M) (v4 : Int32) (v5 : Int32) (v6 : Int32) : Option (Int32) :=
  g_fix (fun sf x => f10_cheap_b30_body F a1 a2 a3 (fun v4 v5 v6 => sf (v4, v5, v6)) mem x.1 x.2.1 x.2.2) F (v4, v5, v6)

def f10_cheap (F : Nat) (a1 : Int32) (a2 : Int32) (a3 : Int32) (mem : g_M) : Option (Int32) :=
 (f10_isTask F a1 a2 a3 mem).bind (fun r8 =>
 if r8 = (0 : Int32) then (some (-1 : Int32))
 else ((f7_lacks F 35 a1 a2 a3 mem).bind (fun r10 =>
 f10_cheap_b30 F a1 a2 a3 mem r10 (0 : Int32) (0 : Int32))))

def f10_meetGain_b29 (F : Nat) (a1 : Int32) (a2 : Int32) (a3 : Int32) (a4 : Int32) (mem : g_M) (w0 : Int32) : Option (Int32) :=
 if a3 = (0 : Int32) then ((f7_away F 35 a1 mem).bind (fun r2 =>
 some (w0 + r2)))
 else (some w0)

def f10_meetGain (F : Nat) (a1 : Int32) (a2 : Int32) (a3 : Int32) (a4 : Int32) (mem : g_M) : Option (Int32) :=
 if a3 = a4 then (g_dr yC 69 (mem.2.2 0 2) 9 (fun q4 =>
 g_ck a2 5 (
 f10_meetGain_b29 F a1 a2 a3 a4 mem ((mem.1 (q4 + 5) a2.toNatClampNeg) / (3 : Int32)))))
 else (g_dr yC 69 (mem.2.2 0 2) 9 (fun q6 =>
 g_ck a2 5 (
 f10_meetGain_b29 F a1 a2 a3 a4 mem (mem.1 (q6 + 5) a2.toNatClampNeg))))

def f10_isRest (F : Nat) (a1 : Int32) (a2 : Int32) (a3 : Int32) (a4 : Int32) (mem : g_M) : Option (Int32) :=
 g_let ((a4 >>> ((1 : Int32) &&& 31))) (fun x1 =>
 g_let ((a4 &&& (1 : Int32))) (fun x2 =>
 (f10_meetGain F a1 a3 x1 x2 mem).bind (fun r3 =>
 (f10_meetGain F a1 a3 ((1 : Int32) - x1) x2 mem).bind (fun r4 =>
 if r4 ≤ r3 then ((f10_meetGain F a2 a3 x2 x1 mem).bind (fun r6 =>
 (f10_meetGain F a2 a3 ((1 : Int32) - x2) x1 mem).bind (fun r7 =>
 if r7 ≤ r6 then (some (1 : Int32))
 else (some (0 : Int32)))))
 else (some (0 : Int32))))))

def f10_rests_b56 (F : Nat) (a1 : Int32) (a2 : Int32) (a3 : Int32) (s31 : Int32 → Int32 → Option (Int32)) (mem : g_M) (v5 : Int32) (w0 : Int32) (w1 : Int32) : Option (Int32) :=
 g_let ((w0 + w1)) (fun x1 =>
 g_let (v5 + (1 : Int32)) (fun x2 =>
 s31 x1 x2))

def f10_rests_b31_body (F : Nat) (a1 : Int32) (a2 : Int32) (a3 : Int32) (s31 : Int32 → Int32 → Option (Int32)) (mem : g_M) (v4 : Int32) (v5 : Int32) : Option (Int32) :=
 if v5 < (4 : Int32) then ((f10_isRest F a1 a2 a3 v5 mem).bind (fun r4 =>
 if r4 = (0 : Int32) then (f10_rests_b56 F a1 a2 a3 s31 mem v5 v4 (0 : Int32))
 else (f10_rests_b56 F a1 a2 a3 s31 mem v5 v4 (1 : Int32))))
 else (some v4)

def f10_rests_b31 (F : Nat) (a1 : Int32) (a2 : Int32) (a3 : Int32) (mem : g_M) (v4 : Int32) (v5 : Int32) : Option (Int32) :=
  g_fix (fun sf x => f10_rests_b31_body F a1 a2 a3 (fun v4 v5 => sf (v4, v5)) mem x.1 x.2) F (v4, v5)

def f10_rests (F : Nat) (a1 : Int32) (a2 : Int32) (a3 : Int32) (mem : g_M) : Option (Int32) :=
 if a1 = a2 then (some (-1 : Int32))
 else ((f10_isPart F a1 a3 mem).bind (fun r7 =>
 if r7 = (0 : Int32) then (some (-1 : Int32))
 else ((f10_isPart F a2 a3 mem).bind (fun r9 =>
 if r9 = (0 : Int32) then (some (-1 : Int32))
 else (f10_rests_b31 F a1 a2 a3 mem (0 : Int32) (0 : Int32))))))

def f10_rest_b76 (F : Nat) (a1 : Int32) (a2 : Int32) (a3 : Int32) (a4 : Int32) (s37 : Int32 → Int32 → Option (Int32)) (mem : g_M) (v5 : Int32) (v6 : Int32) : Option (Int32) :=
 g_let (v6 + (1 : Int32)) (fun x1 =>
 s37 v5 x1)

def f10_rest_b37_body (F : Nat) (a1 : Int32) (a2 : Int32) (a3 : Int32) (a4 : Int32) (s37 : Int32 → Int32 → Option (Int32)) (mem : g_M) (v5 : Int32) (v6 : Int32) : Option (Int32) :=
 if v6 < (4 : Int32) then ((f10_isRest F a1 a2 a3 v6 mem).bind (fun r3 =>
 if r3 = (0 : Int32) then (f10_rest_b76 F a1 a2 a3 a4 s37 mem v5 v6)
 else (if v5 = (0 : Int32) then (some (((v6 >>> ((1 : Int32) &&& 31)) * (10 : Int32)) + (v6 &&& (1 : Int32))))
 else (g_let (v5 + (-1 : Int32)) (fun x6 =>
 f10_rest_b76 F a1 a2 a3 a4 s37 mem x6 v6)))))
 else (some (-2 : Int32))

def f10_rest_b37 (F : Nat) (a1 : Int32) (a2 : Int32) (a3 : Int32) (a4 : Int32) (mem : g_M) (v5 : Int32) (v6 : Int32) : Option (Int32) :=
  g_fix (fun sf x => f10_rest_b37_body F a1 a2 a3 a4 (fun v5 v6 => sf (v5, v6)) mem x.1 x.2) F (v5, v6)

def f10_rest (F : Nat) (a1 : Int32) (a2 : Int32) (a3 : Int32) (a4 : Int32) (mem : g_M) : Option (Int32) :=
 if (0 : Int32) ≤ a4 then (if a1 = a2 then (some (-1 : Int32))
 else ((f10_isPart F a1 a3 mem).bind (fun r9 =>
 if r9 = (0 : Int32) then (some (-1 : Int32))
 else ((f10_isPart F a2 a3 mem).bind (fun r11 =>
 if r11 = (0 : Int32) then (some (-1 : Int32))
 else (f10_rest_b37 F a1 a2 a3 a4 mem a4 (0 : Int32)))))))
 else (some (-1 : Int32))

def f10_commonFactor_b23 (F : Nat) (a0 : Int32) (a1 : Int32) (s4 : Int32 → Int32 → Option (Int32)) (mem : g_M) (v2 : Int32) (v3 : Int32) : Option (Int32) :=
 g_let (v3 + (1 : Int32)) (fun x1 =>
 s4 v2 x1)

def f10_commonFactor_b4_body (F : Nat) (a0 : Int32) (a1 : Int32) (s4 : Int32 → Int32 → Option (Int32)) (mem : g_M) (v2 : Int32) (v3 : Int32) : Option (Int32) :=
 if v3 ≤ a1 then (g_nz v3 (
 if (a0 - a0 / v3 * v3) = (0 : Int32) then (g_nz v3 (
 if (a1 - a1 / v3 * v3) = (0 : Int32) then (f10_commonFactor_b23 F a0 a1 s4 mem v3 v3)
 else (f10_commonFactor_b23 F a0 a1 s4 mem v2 v3)))
 else (f10_commonFactor_b23 F a0 a1 s4 mem v2 v3)))
 else (some v2)

def f10_commonFactor_b4 (F : Nat) (a0 : Int32) (a1 : Int32) (mem : g_M) (v2 : Int32) (v3 : Int32) : Option (Int32) :=
  g_fix (fun sf x => f10_commonFactor_b4_body F a0 a1 (fun v2 v3 => sf (v2, v3)) mem x.1 x.2) F (v2, v3)

def f10_commonFactor (F : Nat) (a0 : Int32) (a1 : Int32) (mem : g_M) : Option (Int32) :=
 f10_commonFactor_b4 F a0 a1 mem (1 : Int32) (2 : Int32)

def f10_calm_b76_body (F : Nat) (a1 : Int32) (a2 : Int32) (s76 : Int32 → Int64 → Int32 → Option (Int64)) (mem : g_M) (v5 : Int32) (v6 : Int64) (v8 : Int32) : Option (Int64) :=
 if v8 < a1 then (g_let ((v6 * v5.toInt64)) (fun x2 =>
 g_let (v8 + (1 : Int32)) (fun x3 =>
 s76 v5 x2 x3)))
 else (some v6)

def f10_calm_b76 (F : Nat) (a1 : Int32) (a2 : Int32) (mem : g_M) (v5 : Int32) (v6 : Int64) (v8 : Int32) : Option (Int64) :=
  g_fix (fun sf x => f10_calm_b76_body F a1 a2 (fun v5 v6 v8 => sf (v5, v6, v8)) mem x.1 x.2.1 x.2.2) F (v5, v6, v8)

def f10_calm_b68 (F : Nat) (a1 : Int32) (a2 : Int32) (mem : g_M) (w0 : Int32) : Option (Int64) :=
 f10_calm_b76 F a1 a2 mem w0 (1 : Int64) (0 : Int32)

def f10_calm_b23 (F : Nat) (a1 : Int32) (a2 : Int32) (mem : g_M) : Option (Int64) :=
 g_dr yC 69 (mem.2.2 0 2) 9 (fun q4 =>
 g_let (((100 : Int32) - (mem.1 q4 11))) (fun x5 =>
 (f10_commonFactor F x5 (100 : Int32) mem).bind (fun r6 =>
 if r6 < (1 : Int32) then (some (-1 : Int64))
 else (if a2 = (0 : Int32) then (g_nz r6 (
 f10_calm_b68 F a1 a2 mem (x5 / r6)))
 else (g_nz r6 (
 f10_calm_b68 F a1 a2 mem ((100 : Int32) / r6)))))))

def f10_calm (F : Nat) (a1 : Int32) (a2 : Int32) (mem : g_M) : Option (Int64) :=
 if (0 : Int32) ≤ a1 then (if a1 ≤ (6 : Int32) then (if a2 = (0 : Int32) then (f10_calm_b23 F a1 a2 mem)
 else (if a2 = (1 : Int32) then (f10_calm_b23 F a1 a2 mem)
 else (some (-1 : Int64))))
 else (some (-1 : Int64)))
 else (some (-1 : Int64))

def f10_whose (F : Nat) (a1 : Int32) (a2 : Int32) (mem : g_M) : Option (Int32) :=
 (f10_isPart F a1 a2 mem).bind (fun r1 =>
 if r1 = (0 : Int32) then (some (-1 : Int32))
 else ((f7_holderOf F 35 a1 a2 mem).bind (fun r3 =>
 some r3)))

def f10_those (F : Nat) (a1 : Int32) (mem : g_M) : Option (Int32) :=
 if a1 = (0 : Int32) then ((f7_lost F 35 mem).bind (fun r2 =>
 some r2))
 else (if a1 = (1 : Int32) then ((f7_halves F 35 mem).bind (fun r4 =>
 some r4))
 else (if a1 = (2 : Int32) then ((f7_dueSendings F 35 mem).bind (fun r6 =>
 some r6))
 else (some (-1 : Int32))))

def f10_see (F : Nat) (a1 : Int32) (a2 : Int32) (a3 : Int32) (a4 : Int32) (mem : g_M) : Option (Int32 × g_M) :=
 if (1 : Int32) ≤ a1 then (if a1 ≤ (40 : Int32) then ((f10_isPart F a2 a3 mem).bind (fun r3 =>
 if r3 = (0 : Int32) then (some ((-1 : Int32), mem))
 else (if (24 : Int32) ≤ (mem.1 60 0) then (some ((-1 : Int32), mem))
 else ((f6_put F a1 a2 a3 a4 mem).bind (fun r6 =>
 some (r6.1, r6.2))))))
 else (some ((-1 : Int32), mem)))
 else (some ((-1 : Int32), mem))

def f10_out (F : Nat) (a1 : Int32) (mem : g_M) : Option (Int32 × g_M) :=
 if (0 : Int32) ≤ a1 then (if a1 < (mem.1 60 0) then (if (24 : Int32) ≤ (mem.1 60 0) then (some ((-1 : Int32), mem))
 else ((f6_putStrike F a1 mem).bind (fun r4 =>
 some (r4.1, r4.2))))
 else (some ((-1 : Int32), mem)))
 else (some ((-1 : Int32), mem))

def f10_known (F : Nat) (a1 : Int32) (mem : g_M) : Option (Int32 × g_M) :=
 if (-1 : Int32) ≤ a1 then (if (mem.1 60 0) < a1 then (some ((0 : Int32), mem))
 else (g_let (g_sI mem 60 1 a1) (fun m3 =>
 some ((1 : Int32), m3))))
 else (some ((0 : Int32), mem))

def f10_rooms_b108 (F : Nat) (s12 : Int32 → Int32 → Int32 → g_M → Option (Int32 × g_M)) (v1 : Int32) (v2 : Int32) (v3 : Int32) (mem : g_M) : Option (Int32 × g_M) :=
 g_let (v3 + (1 : Int32)) (fun x1 =>
 s12 v1 v2 x1 mem)

def f10_rooms_b95 (F : Nat) (s12 : Int32 → Int32 → Int32 → g_M → Option (Int32 × g_M)) (v1 : Int32) (v2 : Int32) (v3 : Int32) (v4 : Int32) (mem : g_M) : Option (Int32 × g_M) :=
 if v4 = (0 : Int32) then (f10_rooms_b108 F s12 v1 v2 v3 mem)
 else (g_let ((v2 ||| ((1 : Int32) <<< ((v3 - (1 : Int32)) &&& 31)))) (fun x3 =>
 f10_rooms_b108 F s12 v1 x3 v3 mem))

def f10_rooms_b55_body (F : Nat) (s12 : Int32 → Int32 → Int32 → g_M → Option (Int32 × g_M)) (s55 : Int32 → Int32 → Int32 → Int32 → Int32 → g_M → Option (Int32 × g_M)) (v1 : Int32) (v2 : Int32) (v3 : Int32) (v4 : Int32) (v5 : Int32) (mem : g_M) : Option (Int32 × g_M) :=
 if v5 ≤ v1 then (if v4 = (0 : Int32) then (f10_rooms_b95 F s12 v1 v2 v3 v4 mem)
 else ((f0_pass F (1 : Int32) mem).bind (fun r6 =>
 (f6_agrees F v5 47 r6).bind (fun r7 =>
 g_let (v5 + (1 : Int32)) (fun x8 =>
 s55 v1 v2 v3 r7 x8 r6)))))
 else (f10_rooms_b95 F s12 v1 v2 v3 v4 mem)

def f10_rooms_b55 (F : Nat) (s12 : Int32 → Int32 → Int32 → g_M → Option (Int32 × g_M)) (v1 : Int32) (v2 : Int32) (v3 : Int32) (v4 : Int32) (v5 : Int32) (mem : g_M) : Option (Int32 × g_M) :=
  g_fix (fun sf x => f10_rooms_b55_body F s12 (fun v1 v2 v3 v4 v5 mem => sf (v1, v2, v3, v4, v5, mem)) x.1 x.2.1 x.2.2.1 x.2.2.2.1 x.2.2.2.2.1 x.2.2.2.2.2) F (v1, v2, v3, v4, v5, mem)

def f10_rooms_b12_body (F : Nat) (s12 : Int32 → Int32 → Int32 → g_M → Option (Int32 × g_M)) (v1 : Int32) (v2 : Int32) (v3 : Int32) (mem : g_M) : Option (Int32 × g_M) :=
 if v3 ≤ (10 : Int32) then (g_dr yC 69 (mem.2.2 0 2) 9 (fun q10 =>
 (f7_begin F 47 q10 mem).bind (fun r11 =>
 (f0_start F 47 (1 : Int32) r11).bind (fun r12 =>
 g_let (g_sI r12 53 0 v3) (fun m13 =>
 f10_rooms_b55 F s12 v1 v2 v3 (1 : Int32) (1 : Int32) m13)))))
 else (some (v2, mem))

def f10_rooms_b12 (F : Nat) (v1 : Int32) (v2 : Int32) (v3 : Int32) (mem : g_M) : Option (Int32 × g_M) :=
  g_fix (fun sf x => f10_rooms_b12_body F (fun v1 v2 v3 mem => sf (v1, v2, v3, mem)) x.1 x.2.1 x.2.2.1 x.2.2.2) F (v1, v2, v3, mem)

def f10_rooms (F : Nat) (mem : g_M) : Option (Int32 × g_M) :=
 (f6_weigh F mem).bind (fun r14 =>
 g_let (r14.1) (fun x15 =>
 f10_rooms_b12 F x15 (0 : Int32) (1 : Int32) r14.2))

def f10_chance_b110 (F : Nat) (a1 : Int32) (a2 : Int32) (a3 : Int32) (s36 : Int32 → Int32 → Int32 → g_M → Option (Int32 × g_M)) (v4 : Int32) (v6 : Int32) (w0 : Int32) (w1 : Int32) (mem : g_M) : Option (Int32 × g_M) :=
 g_let ((w0 + w1)) (fun x1 =>
 g_let (v6 + (1 : Int32)) (fun x2 =>
 s36 v4 x1 x2 mem))

def f10_chance_b36_body (F : Nat) (a1 : Int32) (a2 : Int32) (a3 : Int32) (s36 : Int32 → Int32 → Int32 → g_M → Option (Int32 × g_M)) (v4 : Int32) (v5 : Int32) (v6 : Int32) (mem : g_M) : Option (Int32 × g_M) :=
 if v6 < (10 : Int32) then ((f7_copy F 47 35 mem).bind (fun r4 =>
 g_let (g_sI r4 47 2 v4) (fun m5 =>
 (f0_start F 47 (0 : Int32) m5).bind (fun r6 =>
 (f0_pass F a2 r6).bind (fun r7 =>
 g_let ((r7.1 47 2)) (fun x8 =>
 (f7_mixed F 47 r7).bind (fun r9 =>
 if a3 ≤ r9 then (f10_chance_b110 F a1 a2 a3 s36 x8 v6 v5 (1 : Int32) r7)
 else (f10_chance_b110 F a1 a2 a3 s36 x8 v6 v5 (0 : Int32) r7))))))))
 else (some (v5, mem))

def f10_chance_b36 (F : Nat) (a1 : Int32) (a2 : Int32) (a3 : Int32) (v4 : Int32) (v5 : Int32) (v6 : Int32) (mem : g_M) : Option (Int32 × g_M) :=
  g_fix (fun sf x => f10_chance_b36_body F a1 a2 a3 (fun v4 v5 v6 mem => sf (v4, v5, v6, mem)) x.1 x.2.1 x.2.2.1 x.2.2.2) F (v4, v5, v6, mem)

def f10_chance (F : Nat) (a1 : Int32) (a2 : Int32) (a3 : Int32) (mem : g_M) : Option (Int32 × g_M) :=
 if (0 : Int32) ≤ a1 then (if (1 : Int32) ≤ a2 then (if a2 ≤ (99 : Int32) then (if (0 : Int32) ≤ a3 then (if (25 : Int32) < a3 then (some ((-1 : Int32), mem))
 else (f10_chance_b36 F a1 a2 a3 a1 (0 : Int32) (0 : Int32) mem))
 else (some ((-1 : Int32), mem)))
 else (some ((-1 : Int32), mem)))
 else (some ((-1 : Int32), mem)))
 else (some ((-1 : Int32), mem))

def f10_tried_b140 (F : Nat) (a1 : Int32) (a2 : Int32) (a3 : Int32) (mem : g_M) : Option (Int32 × g_M) :=
 (f0_pass F a3 mem).bind (fun r1 =>
 (f7_wantsThatAre F 47 (1 : Int32) r1).bind (fun r2 =>
 (f7_wantsThatAre F 35 (1 : Int32) r1).bind (fun r3 =>
 some ((r2 - r3), r1))))

def f10_tried_b76 (F : Nat) (a1 : Int32) (a2 : Int32) (a3 : Int32) (w2 : Int32) (mem : g_M) : Option (Int32 × g_M) :=
 (f0_start F 47 w2 mem).bind (fun r4 =>
 if a1 = (2 : Int32) then (g_let (g_sI r4 53 2 a2) (fun m6 =>
 f10_tried_b140 F a1 a2 a3 m6))
 else (if a1 = (3 : Int32) then (g_let (g_sI r4 53 0 (99 : Int32)) (fun m8 =>
 f10_tried_b140 F a1 a2 a3 m8))
 else (if a1 = (4 : Int32) then (g_let (g_sI r4 53 1 (1 : Int32)) (fun m10 =>
 f10_tried_b140 F a1 a2 a3 m10))
 else (if a1 = (5 : Int32) then ((f7_giveOwn F 47 r4).bind (fun r12 =>
 f10_tried_b140 F a1 a2 a3 r12))
 else (f10_tried_b140 F a1 a2 a3 r4)))))

def f10_tried_b31 (F : Nat) (a1 : Int32) (a2 : Int32) (a3 : Int32) (w0 : Int32) (mem : g_M) : Option (Int32 × g_M) :=
 if w0 = (0 : Int32) then (some ((-1 : Int32), mem))
 else ((f10_isSpan F a3 mem).bind (fun r14 =>
 if r14 = (0 : Int32) then (some ((-1 : Int32), mem))
 else ((f7_copy F 47 35 mem).bind (fun r16 =>
 if a1 = (1 : Int32) then (f10_tried_b76 F a1 a2 a3 (2 : Int32) r16)
 else (f10_tried_b76 F a1 a2 a3 (1 : Int32) r16)))))

def f10_tried_b30 (F : Nat) (a1 : Int32) (a2 : Int32) (a3 : Int32) (mem : g_M) : Option (Int32 × g_M) :=
 f10_tried_b31 F a1 a2 a3 (0 : Int32) mem

def f10_tried (F : Nat) (a1 : Int32) (a2 : Int32) (a3 : Int32) (mem : g_M) : Option (Int32 × g_M) :=
 if a1 = (2 : Int32) then ((f10_isMan F a2 mem).bind (fun r19 =>
 f10_tried_b31 F a1 a2 a3 r19 mem))
 else (if (0 : Int32) ≤ a1 then (if a1 ≤ (5 : Int32) then (if a2 = (0 : Int32) then (f10_tried_b31 F a1 a2 a3 (1 : Int32) mem)
 else (f10_tried_b30 F a1 a2 a3 mem))
 else (f10_tried_b30 F a1 a2 a3 mem))
 else (f10_tried_b30 F a1 a2 a3 mem))

def f10_undo_b169 (F : Nat) (mem : g_M) : Option (Int32 × g_M) :=
 some ((mem.1 67 0), mem)

def f10_undo (F : Nat) (mem : g_M) : Option (Int32 × g_M) :=
 if (mem.1 67 0) < (1 : Int32) then (some ((-1 : Int32), mem))
 else (g_let (g_sI mem 67 0 ((mem.1 67 0) - (1 : Int32))) (fun m2 =>
 (f3_at F (m2.1 67 0) (1 : Int32) m2).bind (fun r3 =>
 (f3_at F (m2.1 67 0) (2 : Int32) m2).bind (fun r4 =>
 (f3_at F (m2.1 67 0) (0 : Int32) m2).bind (fun r5 =>
 if r5 = (0 : Int32) then (g_let (g_sI m2 35 7 ((m2.1 35 7) - (1 : Int32))) (fun m7 =>
 f10_undo_b169 F m7))
 else (if r5 = (1 : Int32) then ((f7_setSending F 35 r3 (3 : Int32) (0 : Int32) m2).bind (fun r9 =>
 f10_undo_b169 F r9))
 else (if r5 = (2 : Int32) then ((f3_at F (m2.1 67 0) (3 : Int32) m2).bind (fun r11 =>
 (f7_exchange F 35 r3 r4 r11 m2).bind (fun r12 =>
 f10_undo_b169 F r12)))
 else (g_ck r3 5 (
 g_ck r3 5 (
 g_let (g_sI m2 36 r3.toNatClampNeg ((m2.1 36 r3.toNatClampNeg) - r4)) (fun m15 =>
 f10_undo_b169 F m15)))))))))))

def f10_keep (F : Nat) (mem : g_M) : Option (Int32 × g_M) :=
 (f7_copy F 41 35 mem).bind (fun r1 =>
 g_let (g_sI r1 0 9 (1 : Int32)) (fun m2 =>
 some ((m2.1 35 1), m2)))

def f10_back (F : Nat) (mem : g_M) : Option (Int32 × g_M) :=
 if (mem.1 0 9) = (0 : Int32) then (some ((-1 : Int32), mem))
 else ((f7_copy F 35 41 mem).bind (fun r2 =>
 (f3_clear F r2).bind (fun r3 =>
 some ((r3.1 35 1), r3))))

def f10_count (F : Nat) (a1 : Int32) (mem : g_M) : Option (Int32) :=
 if a1 = (0 : Int32) then (g_dr yC 69 (mem.2.2 0 2) 9 (fun q2 =>
 g_ck a1 3 (
 some (mem.1 (q2 + 1) a1.toNatClampNeg))))
 else (if a1 = (1 : Int32) then (g_dr yC 69 (mem.2.2 0 2) 9 (fun q5 =>
 g_ck a1 3 (
 some (mem.1 (q5 + 1) a1.toNatClampNeg))))
 else (if a1 = (2 : Int32) then (g_dr yC 69 (mem.2.2 0 2) 9 (fun q8 =>
 g_ck a1 3 (
 some (mem.1 (q8 + 1) a1.toNatClampNeg))))
 else (if a1 = (3 : Int32) then (some (mem.1 35 7))
 else (if a1 = (4 : Int32) then (g_dr yC 69 (mem.2.2 0 2) 9 (fun q12 =>
 some (mem.1 q12 8)))
 else (if a1 = (5 : Int32) then (g_dr yC 69 (mem.2.2 0 2) 9 (fun q14 =>
 some (mem.1 (q14 + 9) 3)))
 else (if a1 = (6 : Int32) then (some (mem.1 35 1))
 else (if a1 = (7 : Int32) then ((f7_wantsThatAre F 35 (1 : Int32) mem).bind (fun r17 =>
 some r17))
 else (if a1 = (8 : Int32) then ((f7_wantsThatAre F 35 (2 : Int32) mem).bind (fun r19 =>
 some r19))
 else (if a1 = (9 : Int32) then ((f7_sendingsGone F 35 mem).bind (fun r21 =>
 some r21))
 else (if a1 = (10 : Int32) then ((f7_allPence F 35 mem).bind (fun r23 =>
 some r23))
 else (if a1 = (11 : Int32) then ((f7_mixed F 35 mem).bind (fun r25 =>
 some r25))
 else (if a1 = (12 : Int32) then (some (mem.1 35 3))
 else (if a1 = (13 : Int32) then (some (mem.1 60 0))
 else (if a1 = (14 : Int32) then ((f6_limit F mem).bind (fun r29 =>
 some r29))
 else (if a1 = (15 : Int32) then (some (mem.1 67 0))
 else (some (-1 : Int32)))))))))))))))))

def f11_thrown (F : Nat) (mem : g_M) : Option (Int32) :=
 some (mem.1 0 0)

def f11_feed_b73 (F : Nat) (a1 : Int32) (a2 : Int32) (a3 : Int32) (a4 : Int32) (a5 : Int32) (s20 : Int32 → g_M → Option (Int32 × g_M)) (v6 : Int32) (w0 : Int32) (mem : g_M) : Option (Int32 × g_M) :=
 g_ck ((mem.1 0 2) + v6) 700 (
 g_let (g_sI mem 1 ((mem.1 0 2) + v6).toNatClampNeg ((w0 >>> (((24 : Int32) - ((8 : Int32) * (v6 - v6 / (4 : Int32) * (4 : Int32)))) &&& 31)) &&& (255 : Int32))) (fun m2 =>
 g_let (v6 + (1 : Int32)) (fun x3 =>
 s20 x3 m2)))

def f11_feed_b20_body (F : Nat) (a1 : Int32) (a2 : Int32) (a3 : Int32) (a4 : Int32) (a5 : Int32) (s20 : Int32 → g_M → Option (Int32 × g_M)) (v6 : Int32) (mem : g_M) : Option (Int32 × g_M) :=
 if v6 < (20 : Int32) then (if v6 < (4 : Int32) then (f11_feed_b73 F a1 a2 a3 a4 a5 s20 v6 a1 mem)
 else (if v6 < (8 : Int32) then (f11_feed_b73 F a1 a2 a3 a4 a5 s20 v6 a2 mem)
 else (if v6 < (12 : Int32) then (f11_feed_b73 F a1 a2 a3 a4 a5 s20 v6 a3 mem)
 else (if v6 < (16 : Int32) then (f11_feed_b73 F a1 a2 a3 a4 a5 s20 v6 a4 mem)
 else (f11_feed_b73 F a1 a2 a3 a4 a5 s20 v6 a5 mem)))))
 else (g_let (g_sI mem 0 2 ((mem.1 0 2) + (20 : Int32))) (fun m9 =>
 some ((m9.1 0 2), m9)))

def f11_feed_b20 (F : Nat) (a1 : Int32) (a2 : Int32) (a3 : Int32) (a4 : Int32) (a5 : Int32) (v6 : Int32) (mem : g_M) : Option (Int32 × g_M) :=
  g_fix (fun sf x => f11_feed_b20_body F a1 a2 a3 a4 a5 (fun v6 mem => sf (v6, mem)) x.1 x.2) F (v6, mem)

def f11_feed (F : Nat) (a1 : Int32) (a2 : Int32) (a3 : Int32) (a4 : Int32) (a5 : Int32) (mem : g_M) : Option (Int32 × g_M) :=
 g_let (g_sI mem 0 0 (0 : Int32)) (fun m10 =>
 if (680 : Int32) < (m10.1 0 2) then (some ((-1 : Int32), m10))
 else (f11_feed_b20 F a1 a2 a3 a4 a5 (0 : Int32) m10))

def f11_here (F : Nat) (mem : g_M) : Option (Int32) :=
 if (mem.1 0 26) < (mem.1 0 25) then (g_ck (mem.1 0 26) 700 (
 some (mem.1 1 (mem.1 0 26).toNatClampNeg)))
 else (some (-1 : Int32))

def f11_isSmall (F : Nat) (a0 : Int32) (mem : g_M) : Option (Int32) :=
 if (97 : Int32) ≤ a0 then (if a0 ≤ (122 : Int32) then (some (1 : Int32))
 else (some (0 : Int32)))
 else (some (0 : Int32))

def f11_isDigit (F : Nat) (a0 : Int32) (mem : g_M) : Option (Int32) :=
 if (48 : Int32) ≤ a0 then (if a0 ≤ (57 : Int32) then (some (1 : Int32))
 else (some (0 : Int32)))
 else (some (0 : Int32))

def f11_word_b97_body (F : Nat) (s4 : Int32 → Int32 → Option (Int32)) (s97 : Int32 → Int32 → Option (Int32)) (mem : g_M) (v1 : Int32) (v2 : Int32) : Option (Int32) :=
 g_ck v2 107 (
 if (g_wch v2.toNatClampNeg) = (32 : Int32) then (g_let (v2 + (1 : Int32)) (fun x5 =>
 g_let (v1 + (1 : Int32)) (fun x6 =>
 s4 x6 x5)))
 else (g_let (v2 + (1 : Int32)) (fun x4 =>
 s97 v1 x4)))

def f11_word_b97 (F : Nat) (s4 : Int32 → Int32 → Option (Int32)) (mem : g_M) (v1 : Int32) (v2 : Int32) : Option (Int32) :=
  g_fix (fun sf x => f11_word_b97_body F s4 (fun v1 v2 => sf (v1, v2)) mem x.1 x.2) F (v1, v2)

def f11_word_b69 (F : Nat) (s4 : Int32 → Int32 → Option (Int32)) (mem : g_M) (v1 : Int32) (v2 : Int32) (v3 : Int32) : Option (Int32) :=
 g_ck (v2 + v3) 107 (
 if (g_wch (v2 + v3).toNatClampNeg) = (32 : Int32) then (if ((mem.1 0 27) + v3) = (mem.1 0 26) then (some v1)
 else (f11_word_b97 F s4 mem v1 v2))
 else (f11_word_b97 F s4 mem v1 v2))

def f11_word_b15_body (F : Nat) (s4 : Int32 → Int32 → Option (Int32)) (s15 : Int32 → Int32 → Int32 → Option (Int32)) (mem : g_M) (v1 : Int32) (v2 : Int32) (v3 : Int32) : Option (Int32) :=
 g_ck (v2 + v3) 107 (
 if (g_wch (v2 + v3).toNatClampNeg) = (32 : Int32) then (f11_word_b69 F s4 mem v1 v2 v3)
 else (if ((mem.1 0 27) + v3) < (mem.1 0 26) then (g_ck ((mem.1 0 27) + v3) 700 (
 g_ck (v2 + v3) 107 (
 if (mem.1 1 ((mem.1 0 27) + v3).toNatClampNeg) = (g_wch (v2 + v3).toNatClampNeg) then (g_let (v3 + (1 : Int32)) (fun x19 =>
 s15 v1 v2 x19))
 else (f11_word_b69 F s4 mem v1 v2 v3))))
 else (f11_word_b69 F s4 mem v1 v2 v3)))

def f11_word_b15 (F : Nat) (s4 : Int32 → Int32 → Option (Int32)) (mem : g_M) (v1 : Int32) (v2 : Int32) (v3 : Int32) : Option (Int32) :=
  g_fix (fun sf x => f11_word_b15_body F s4 (fun v1 v2 v3 => sf (v1, v2, v3)) mem x.1 x.2.1 x.2.2) F (v1, v2, v3)

def f11_word_b4_body (F : Nat) (s4 : Int32 → Int32 → Option (Int32)) (mem : g_M) (v1 : Int32) (v2 : Int32) : Option (Int32) :=
 if v2 < (107 : Int32) then (f11_word_b15 F s4 mem v1 v2 (0 : Int32))
 else (some (-1 : Int32))

def f11_word_b4 (F : Nat) (mem : g_M) (v1 : Int32) (v2 : Int32) : Option (Int32) :=
  g_fix (fun sf x => f11_word_b4_body F (fun v1 v2 => sf (v1, v2)) mem x.1 x.2) F (v1, v2)

def f11_word (F : Nat) (mem : g_M) : Option (Int32) :=
 f11_word_b4 F mem (0 : Int32) (0 : Int32)

def f11_name_b53 (F : Nat) (s7 : Int32 → g_M → Option (g_M)) (v1 : Int32) (w1 : Int32) (w2 : Int32) (mem : g_M) : Option (g_M) :=
 g_let (g_sI mem 0 29 (w1 ||| w2)) (fun m1 =>
 g_let (v1 + (1 : Int32)) (fun x2 =>
 s7 x2 m1))

def f11_name_b7_body (F : Nat) (s7 : Int32 → g_M → Option (g_M)) (v1 : Int32) (mem : g_M) : Option (g_M) :=
 if v1 < (6 : Int32) then (if ((mem.1 0 27) + v1) < (mem.1 0 26) then (g_ck ((mem.1 0 27) + v1) 700 (
 f11_name_b53 F s7 v1 ((mem.1 0 29) <<< ((5 : Int32) &&& 31)) (((mem.1 1 ((mem.1 0 27) + v1).toNatClampNeg) - (97 : Int32)) + (1 : Int32)) mem))
 else (f11_name_b53 F s7 v1 ((mem.1 0 29) <<< ((5 : Int32) &&& 31)) (0 : Int32) mem))
 else (some mem)

def f11_name_b7 (F : Nat) (v1 : Int32) (mem : g_M) : Option (g_M) :=
  g_fix (fun sf x => f11_name_b7_body F (fun v1 mem => sf (v1, mem)) x.1 x.2) F (v1, mem)

def f11_name (F : Nat) (mem : g_M) : Option (g_M) :=
 g_let (g_sI mem 0 29 (0 : Int32)) (fun m6 =>
 f11_name_b7 F (0 : Int32) m6)

def f11_sign_b150 (F : Nat) (a1 : Int32) (mem : g_M) : Option (g_M) :=
 if (256 : Int32) ≤ (mem.1 0 29) then (g_let (g_sI mem 0 26 ((mem.1 0 26) + (1 : Int32))) (fun m2 =>
 some m2))
 else (some mem)

def f11_sign_b128 (F : Nat) (a1 : Int32) (mem : g_M) : Option (g_M) :=
 if a1 = (62 : Int32) then ((f11_here F mem).bind (fun r4 =>
 if r4 = (61 : Int32) then (g_let (g_sI mem 0 29 (258 : Int32)) (fun m6 =>
 f11_sign_b150 F a1 m6))
 else (f11_sign_b150 F a1 mem)))
 else (f11_sign_b150 F a1 mem)

def f11_sign_b106 (F : Nat) (a1 : Int32) (mem : g_M) : Option (g_M) :=
 if a1 = (60 : Int32) then ((f11_here F mem).bind (fun r8 =>
 if r8 = (62 : Int32) then (g_let (g_sI mem 0 29 (257 : Int32)) (fun m10 =>
 f11_sign_b128 F a1 m10))
 else (f11_sign_b128 F a1 mem)))
 else (f11_sign_b128 F a1 mem)

def f11_sign_b76 (F : Nat) (a1 : Int32) (w1 : Int32) (mem : g_M) : Option (g_M) :=
 g_let (g_sI mem 0 28 w1) (fun m11 =>
 g_let (g_sI m11 0 29 a1) (fun m12 =>
 if a1 = (60 : Int32) then ((f11_here F m12).bind (fun r14 =>
 if r14 = (61 : Int32) then (g_let (g_sI m12 0 29 (256 : Int32)) (fun m16 =>
 f11_sign_b106 F a1 m16))
 else (f11_sign_b106 F a1 m12)))
 else (f11_sign_b106 F a1 m12)))

def f11_sign_b71 (F : Nat) (a1 : Int32) (mem : g_M) : Option (g_M) :=
 f11_sign_b76 F a1 (3 : Int32) mem

def f11_sign (F : Nat) (a1 : Int32) (mem : g_M) : Option (g_M) :=
 g_let (g_sI mem 0 26 ((mem.1 0 26) + (1 : Int32))) (fun m17 =>
 if a1 = (59 : Int32) then (f11_sign_b71 F a1 m17)
 else (if a1 = (40 : Int32) then (f11_sign_b71 F a1 m17)
 else (if a1 = (41 : Int32) then (f11_sign_b71 F a1 m17)
 else (if a1 = (43 : Int32) then (f11_sign_b71 F a1 m17)
 else (if a1 = (45 : Int32) then (f11_sign_b71 F a1 m17)
 else (if a1 = (42 : Int32) then (f11_sign_b71 F a1 m17)
 else (if a1 = (47 : Int32) then (f11_sign_b71 F a1 m17)
 else (if a1 = (60 : Int32) then (f11_sign_b71 F a1 m17)
 else (if a1 = (61 : Int32) then (f11_sign_b71 F a1 m17)
 else (if a1 = (62 : Int32) then (f11_sign_b71 F a1 m17)
 else (f11_sign_b76 F a1 (5 : Int32) m17)))))))))))

def f11_token_b18 (F : Nat) (s0 : g_M → Option (g_M)) (mem : g_M) : Option (g_M) :=
 g_let (g_sI mem 0 26 ((mem.1 0 26) + (1 : Int32))) (fun m1 =>
 s0 m1)

def f11_token_b127 (F : Nat) (w1 : Int32) (mem : g_M) : Option (g_M) :=
 g_let (g_sI mem 0 28 w1) (fun m2 =>
 if (m2.1 0 28) = (1 : Int32) then ((f11_name F m2).bind (fun r4 =>
 some r4))
 else (some m2))

def f11_token_b64_body (F : Nat) (s64 : g_M → Option (g_M)) (mem : g_M) : Option (g_M) :=
 (f11_here F mem).bind (fun r5 =>
 (f11_isSmall F r5 mem).bind (fun r6 =>
 if r6 = (0 : Int32) then ((f11_word F mem).bind (fun r9 =>
 g_let (g_sI mem 0 29 r9) (fun m10 =>
 if (m10.1 0 29) = (-1 : Int32) then (if (6 : Int32) < ((m10.1 0 26) - (m10.1 0 27)) then (f11_token_b127 F (5 : Int32) m10)
 else (f11_token_b127 F (1 : Int32) m10))
 else (f11_token_b127 F (0 : Int32) m10))))
 else (g_let (g_sI mem 0 26 ((mem.1 0 26) + (1 : Int32))) (fun m8 =>
 s64 m8))))

def f11_token_b64 (F : Nat) (mem : g_M) : Option (g_M) :=
  g_fix (fun sf x => f11_token_b64_body F (fun mem => sf mem) x) F mem

def f11_token_b204 (F : Nat) (s162 : g_M → Option (g_M)) (w1 : Int32) (mem : g_M) : Option (g_M) :=
 g_let (g_sI mem 0 29 w1) (fun m13 =>
 g_let (g_sI m13 0 26 ((m13.1 0 26) + (1 : Int32))) (fun m14 =>
 s162 m14))

def f11_token_b162_body (F : Nat) (s162 : g_M → Option (g_M)) (mem : g_M) : Option (g_M) :=
 (f11_here F mem).bind (fun r15 =>
 (f11_isDigit F r15 mem).bind (fun r16 =>
 if r16 = (0 : Int32) then (some mem)
 else (if (99999 : Int32) < (mem.1 0 29) then (f11_token_b204 F s162 (mem.1 0 29) mem)
 else ((f11_here F mem).bind (fun r19 =>
 f11_token_b204 F s162 ((((10 : Int32) * (mem.1 0 29)) + r19) - (48 : Int32)) mem)))))

def f11_token_b162 (F : Nat) (mem : g_M) : Option (g_M) :=
  g_fix (fun sf x => f11_token_b162_body F (fun mem => sf mem) x) F mem

def f11_token_b0_body (F : Nat) (s0 : g_M → Option (g_M)) (mem : g_M) : Option (g_M) :=
 (f11_here F mem).bind (fun r20 =>
 if r20 = (10 : Int32) then (f11_token_b18 F s0 mem)
 else ((f11_here F mem).bind (fun r22 =>
 if r22 = (32 : Int32) then (f11_token_b18 F s0 mem)
 else (g_let (g_sI mem 0 27 (mem.1 0 26)) (fun m24 =>
 (f11_here F m24).bind (fun r25 =>
 if r25 = (-1 : Int32) then (g_let (g_sI m24 0 28 (4 : Int32)) (fun m27 =>
 some m27))
 else ((f11_isSmall F r25 m24).bind (fun r28 =>
 if r28 = (0 : Int32) then ((f11_isDigit F r25 m24).bind (fun r30 =>
 if r30 = (0 : Int32) then ((f11_sign F r25 m24).bind (fun r34 =>
 some r34))
 else (g_let (g_sI m24 0 28 (2 : Int32)) (fun m32 =>
 g_let (g_sI m32 0 29 (0 : Int32)) (fun m33 =>
 f11_token_b162 F m33)))))
 else (f11_token_b64 F m24)))))))))

def f11_token_b0 (F : Nat) (mem : g_M) : Option (g_M) :=
  g_fix (fun sf x => f11_token_b0_body F (fun mem => sf mem) x) F mem

def f11_token (F : Nat) (mem : g_M) : Option (g_M) :=
 f11_token_b0 F mem

def f11_wrong (F : Nat) (a1 : Int32) (mem : g_M) : Option (g_M) :=
 if (mem.1 0 30) = (0 : Int32) then (g_let (g_sI mem 0 30 a1) (fun m2 =>
 g_let (g_sI m2 0 31 (m2.1 0 27)) (fun m3 =>
 some m3)))
 else (some mem)

def f11_isWord (F : Nat) (a1 : Int32) (mem : g_M) : Option (Int32) :=
 if (mem.1 0 30) = (0 : Int32) then (if (mem.1 0 28) = (0 : Int32) then (if (mem.1 0 29) = a1 then (some (1 : Int32))
 else (some (0 : Int32)))
 else (some (0 : Int32)))
 else (some (0 : Int32))

def f11_isSign (F : Nat) (a1 : Int32) (mem : g_M) : Option (Int32) :=
 if (mem.1 0 30) = (0 : Int32) then (if (mem.1 0 28) = (3 : Int32) then (if (mem.1 0 29) = a1 then (some (1 : Int32))
 else (some (0 : Int32)))
 else (some (0 : Int32)))
 else (some (0 : Int32))

def f11_goOn (F : Nat) (mem : g_M) : Option (g_M) :=
 if (mem.1 0 30) = (0 : Int32) then ((f11_token F mem).bind (fun r2 =>
 some r2))
 else (some mem)

def f11_numeral_b46 (F : Nat) (a1 : Int32) (a2 : Int32) (mem : g_M) : Option (Int32 × g_M) :=
 if (mem.1 0 30) = (0 : Int32) then (g_let ((mem.1 0 29)) (fun x2 =>
 (f11_token F mem).bind (fun r3 =>
 some (x2, r3))))
 else (some (a1, mem))

def f11_numeral_b41 (F : Nat) (a1 : Int32) (a2 : Int32) (mem : g_M) : Option (Int32 × g_M) :=
 (f11_wrong F (2 : Int32) mem).bind (fun r4 =>
 f11_numeral_b46 F a1 a2 r4)

def f11_numeral (F : Nat) (a1 : Int32) (a2 : Int32) (mem : g_M) : Option (Int32 × g_M) :=
 if (mem.1 0 30) = (0 : Int32) then (if (mem.1 0 28) = (2 : Int32) then (if a1 ≤ (mem.1 0 29) then (if a2 < (mem.1 0 29) then (f11_numeral_b41 F a1 a2 mem)
 else (f11_numeral_b46 F a1 a2 mem))
 else (f11_numeral_b41 F a1 a2 mem))
 else ((f11_wrong F (1 : Int32) mem).bind (fun r7 =>
 f11_numeral_b46 F a1 a2 r7)))
 else (some (a1, mem))

def f11_found_b3_body (F : Nat) (a0 : Nat) (a1 : Int32) (a2 : Int32) (a3 : Int32) (s3 : Int32 → Option (Int32)) (mem : g_M) (v4 : Int32) : Option (Int32) :=
 if v4 < a2 then (g_ck (a1 + v4) (yM.1 a0).2 (
 if (mem.1 a0 (a1 + v4).toNatClampNeg) = a3 then (some v4)
 else (g_let (v4 + (1 : Int32)) (fun x4 =>
 s3 x4))))
 else (some (-1 : Int32))

def f11_found_b3 (F : Nat) (a0 : Nat) (a1 : Int32) (a2 : Int32) (a3 : Int32) (mem : g_M) (v4 : Int32) : Option (Int32) :=
  g_fix (fun sf x => f11_found_b3_body F a0 a1 a2 a3 (fun v4 => sf v4) mem x) F v4

def f11_found (F : Nat) (a0 : Nat) (a1 : Int32) (a2 : Int32) (a3 : Int32) (mem : g_M) : Option (Int32) :=
 f11_found_b3 F a0 a1 a2 a3 mem (0 : Int32)

def f11_fresh_b44 (F : Nat) (a1 : Nat) (a2 : Int32) (a3 : Int32) (mem : g_M) : Option (Int32 × g_M) :=
 if (mem.1 0 30) = (0 : Int32) then (g_let ((mem.1 0 29)) (fun x2 =>
 (f11_token F mem).bind (fun r3 =>
 some (x2, r3))))
 else (some ((0 : Int32), mem))

def f11_fresh (F : Nat) (a1 : Nat) (a2 : Int32) (a3 : Int32) (mem : g_M) : Option (Int32 × g_M) :=
 if (mem.1 0 30) = (0 : Int32) then (if (mem.1 0 28) = (1 : Int32) then ((f11_found F a1 a2 a3 (mem.1 0 29) mem).bind (fun r7 =>
 if r7 = (-1 : Int32) then (f11_fresh_b44 F a1 a2 a3 mem)
 else ((f11_wrong F (3 : Int32) mem).bind (fun r9 =>
 f11_fresh_b44 F a1 a2 a3 r9))))
 else ((f11_wrong F (1 : Int32) mem).bind (fun r6 =>
 f11_fresh_b44 F a1 a2 a3 r6)))
 else (some ((0 : Int32), mem))

def f11_fresher (F : Nat) (a1 : Int32) (mem : g_M) : Option (Int32) :=
 g_ck ((9 : Int32) + a1) 18 (
 some (mem.1 2 ((9 : Int32) + a1).toNatClampNeg))

def f11_reads (F : Nat) (a1 : Int32) (a2 : Int32) (mem : g_M) : Option (g_M) :=
 g_ck ((9 : Int32) + a1) 18 (
 g_let (g_sI mem 2 ((9 : Int32) + a1).toNatClampNeg a2) (fun m2 =>
 some m2))

def f11_toldAhead_b63 (F : Nat) (a1 : Nat) (a2 : Int32) (a3 : Int32) (v4 : Int32) (mem : g_M) : Option (Int32 × g_M) :=
 (f11_goOn F mem).bind (fun r1 =>
 if (r1.1 0 30) = (0 : Int32) then (some (v4, r1))
 else (some ((0 : Int32), r1)))

def f11_toldAhead_b43 (F : Nat) (a1 : Nat) (a2 : Int32) (a3 : Int32) (w0 : Int32) (mem : g_M) : Option (Int32 × g_M) :=
 if (mem.1 0 30) = (0 : Int32) then (if w0 = (-1 : Int32) then ((f11_wrong F (4 : Int32) mem).bind (fun r5 =>
 f11_toldAhead_b63 F a1 a2 a3 w0 r5))
 else (f11_toldAhead_b63 F a1 a2 a3 w0 mem))
 else (f11_toldAhead_b63 F a1 a2 a3 w0 mem)

def f11_toldAhead_b22 (F : Nat) (a1 : Nat) (a2 : Int32) (a3 : Int32) (mem : g_M) : Option (Int32 × g_M) :=
 if (mem.1 0 30) = (0 : Int32) then ((f11_found F a1 a2 a3 (mem.1 0 29) mem).bind (fun r7 =>
 f11_toldAhead_b43 F a1 a2 a3 r7 mem))
 else (f11_toldAhead_b43 F a1 a2 a3 (0 : Int32) mem)

def f11_toldAhead (F : Nat) (a1 : Nat) (a2 : Int32) (a3 : Int32) (mem : g_M) : Option (Int32 × g_M) :=
 if (mem.1 0 30) = (0 : Int32) then (if (mem.1 0 28) = (1 : Int32) then (f11_toldAhead_b22 F a1 a2 a3 mem)
 else ((f11_wrong F (1 : Int32) mem).bind (fun r10 =>
 f11_toldAhead_b22 F a1 a2 a3 r10)))
 else (some ((0 : Int32), mem))

def f11_manAhead (F : Nat) (mem : g_M) : Option (Int32 × g_M) :=
 (f11_fresher F (0 : Int32) mem).bind (fun r1 =>
 (f11_toldAhead F 3 (5 : Int32) r1 mem).bind (fun r2 =>
 some (r2.1, r2.2)))

def f11_isFull (F : Nat) (a1 : Int32) (mem : g_M) : Option (Int32) :=
 if a1 = (0 : Int32) then ((f11_fresher F (0 : Int32) mem).bind (fun r2 =>
 if r2 = (5 : Int32) then (some (1 : Int32))
 else (some (0 : Int32))))
 else (if a1 = (1 : Int32) then ((f11_fresher F (1 : Int32) mem).bind (fun r5 =>
 if r5 = (5 : Int32) then (some (1 : Int32))
 else (some (0 : Int32))))
 else (if a1 = (2 : Int32) then ((f11_fresher F (2 : Int32) mem).bind (fun r8 =>
 if r8 = (5 : Int32) then (some (1 : Int32))
 else (some (0 : Int32))))
 else (if a1 = (3 : Int32) then ((f11_fresher F (3 : Int32) mem).bind (fun r11 =>
 if r11 = (12 : Int32) then (some (1 : Int32))
 else (some (0 : Int32))))
 else (if a1 = (4 : Int32) then ((f11_fresher F (4 : Int32) mem).bind (fun r14 =>
 if r14 = (8 : Int32) then (some (1 : Int32))
 else (some (0 : Int32))))
 else (some (0 : Int32))))))

def f11_wantLine (F : Nat) (a1 : Int32) (mem : g_M) : Option (g_M) :=
 (f11_manAhead F mem).bind (fun r1 =>
 g_ck a1 16 (
 g_let (g_sI r1.2 13 a1.toNatClampNeg r1.1) (fun m3 =>
 (f11_fresher F (2 : Int32) m3).bind (fun r4 =>
 (f11_toldAhead F 8 (5 : Int32) r4 m3).bind (fun r5 =>
 g_ck a1 16 (
 g_let (g_sI r5.2 14 a1.toNatClampNeg r5.1) (fun m7 =>
 (f11_numeral F (0 : Int32) (1 : Int32) m7).bind (fun r8 =>
 g_ck a1 16 (
 g_let (g_sI r8.2 15 a1.toNatClampNeg r8.1) (fun m10 =>
 (f11_numeral F (0 : Int32) (99 : Int32) m10).bind (fun r11 =>
 g_ck a1 16 (
 g_let (g_sI r11.2 16 a1.toNatClampNeg r11.1) (fun m13 =>
 (f11_numeral F (0 : Int32) (99 : Int32) m13).bind (fun r14 =>
 g_ck a1 16 (
 g_let (g_sI r14.2 17 a1.toNatClampNeg r14.1) (fun m16 =>
 (f11_fresher F (4 : Int32) m16).bind (fun r17 =>
 (f11_reads F (4 : Int32) (r17 + (1 : Int32)) m16).bind (fun r18 =>
 some r18))))))))))))))))))

def f11_knot (F : Nat) (mem : g_M) : Option (g_M) :=
 if (mem.1 0 30) = (0 : Int32) then (if (mem.1 0 35) = (64 : Int32) then ((f11_wrong F (2 : Int32) mem).bind (fun r3 =>
 some r3))
 else (g_let (g_sI mem 0 35 ((mem.1 0 35) + (1 : Int32))) (fun m4 =>
 some m4)))
 else (some mem)

def f11_puts (F : Nat) (a1 : Int32) (a2 : Int32) (mem : g_M) : Option (g_M) :=
 if (mem.1 0 30) = (0 : Int32) then ((f11_fresher F (8 : Int32) mem).bind (fun r2 =>
 g_ck ((64 : Int32) + r2) 128 (
 g_let (g_sI mem 20 ((64 : Int32) + r2).toNatClampNeg a1) (fun m4 =>
 (f11_fresher F (8 : Int32) m4).bind (fun r5 =>
 g_ck ((64 : Int32) + r5) 128 (
 g_let (g_sI m4 21 ((64 : Int32) + r5).toNatClampNeg a2) (fun m7 =>
 (f11_fresher F (8 : Int32) m7).bind (fun r8 =>
 (f11_reads F (8 : Int32) (r8 + (1 : Int32)) m7).bind (fun r9 =>
 some r9)))))))))
 else (some mem)

def f11_primary_b78 (F : Nat) (rc : Nat → g_M → Option g_M) (mem : g_M) : Option (g_M) :=
 if (mem.1 0 30) = (0 : Int32) then (g_let (g_sI mem 0 34 ((mem.1 0 34) - (1 : Int32))) (fun m2 =>
 (f11_token F m2).bind (fun r3 =>
 some r3)))
 else (some mem)

def f11_primary_b31 (F : Nat) (rc : Nat → g_M → Option g_M) (mem : g_M) : Option (g_M) :=
 if (mem.1 0 30) = (0 : Int32) then (g_let (g_sI mem 0 34 ((mem.1 0 34) + (1 : Int32))) (fun m5 =>
 (f11_token F m5).bind (fun r6 =>
 (rc 0 r6).bind (fun r7 =>
 if (r7.1 0 30) = (0 : Int32) then ((f11_isSign F (41 : Int32) r7).bind (fun r9 =>
 if r9 = (0 : Int32) then ((f11_wrong F (1 : Int32) r7).bind (fun r11 =>
 f11_primary_b78 F rc r11))
 else (f11_primary_b78 F rc r7)))
 else (f11_primary_b78 F rc r7)))))
 else (some mem)

def f11_primary_b194 (F : Nat) (rc : Nat → g_M → Option g_M) (w1 : Int32) (w2 : Int32) (mem : g_M) : Option (g_M) :=
 (f11_puts F w1 w2 mem).bind (fun r12 =>
 (f11_goOn F r12).bind (fun r13 =>
 some r13))

def f11_primary_b176 (F : Nat) (rc : Nat → g_M → Option g_M) (v1 : Int32) (w1 : Int32) (mem : g_M) : Option (g_M) :=
 if v1 = (0 : Int32) then (f11_primary_b194 F rc w1 ((mem.1 0 29) - (15 : Int32)) mem)
 else (f11_primary_b194 F rc w1 (mem.1 0 29) mem)

def f11_primary_b162 (F : Nat) (rc : Nat → g_M → Option g_M) (v1 : Int32) (mem : g_M) : Option (g_M) :=
 (f11_knot F mem).bind (fun r15 =>
 if v1 = (0 : Int32) then (f11_primary_b176 F rc v1 (1 : Int32) r15)
 else (f11_primary_b176 F rc v1 (0 : Int32) r15))

def f11_primary_b157 (F : Nat) (rc : Nat → g_M → Option g_M) (v1 : Int32) (mem : g_M) : Option (g_M) :=
 (f11_wrong F (1 : Int32) mem).bind (fun r17 =>
 f11_primary_b162 F rc v1 r17)

def f11_primary_b137 (F : Nat) (rc : Nat → g_M → Option g_M) (v1 : Int32) (mem : g_M) : Option (g_M) :=
 if v1 = (0 : Int32) then (if (mem.1 0 28) = (0 : Int32) then (if (mem.1 0 29) < (15 : Int32) then (f11_primary_b157 F rc v1 mem)
 else (f11_primary_b162 F rc v1 mem))
 else (f11_primary_b157 F rc v1 mem))
 else (f11_primary_b162 F rc v1 mem)

def f11_primary_b114 (F : Nat) (rc : Nat → g_M → Option g_M) (w0 : Int32) (mem : g_M) : Option (g_M) :=
 if w0 = (0 : Int32) then (f11_primary_b137 F rc w0 mem)
 else (if (9999 : Int32) < (mem.1 0 29) then ((f11_wrong F (2 : Int32) mem).bind (fun r23 =>
 f11_primary_b162 F rc w0 r23))
 else (f11_primary_b137 F rc w0 mem))

def f11_primary (F : Nat) (rc : Nat → g_M → Option g_M) (mem : g_M) : Option (g_M) :=
 if (mem.1 0 30) = (0 : Int32) then ((f11_isSign F (40 : Int32) mem).bind (fun r25 =>
 if r25 = (0 : Int32) then (if (mem.1 0 28) = (2 : Int32) then (f11_primary_b114 F rc (1 : Int32) mem)
 else (f11_primary_b114 F rc (0 : Int32) mem))
 else (if (mem.1 0 34) = (8 : Int32) then ((f11_wrong F (2 : Int32) mem).bind (fun r28 =>
 f11_primary_b31 F rc r28))
 else (f11_primary_b31 F rc mem))))
 else (some mem)

def f11_product_b22 (F : Nat) (rc : Nat → g_M → Option g_M) (s4 : g_M → Option (g_M)) (mem : g_M) : Option (g_M) :=
 g_let ((mem.1 0 29)) (fun x1 =>
 (f11_knot F mem).bind (fun r2 =>
 (f11_goOn F r2).bind (fun r3 =>
 (rc 5 r3).bind (fun r4 =>
 (f11_puts F (2 : Int32) x1 r4).bind (fun r5 =>
 s4 r5)))))

def f11_product_b4_body (F : Nat) (rc : Nat → g_M → Option g_M) (s4 : g_M → Option (g_M)) (mem : g_M) : Option (g_M) :=
 (f11_isSign F (42 : Int32) mem).bind (fun r6 =>
 if r6 = (0 : Int32) then ((f11_isSign F (47 : Int32) mem).bind (fun r8 =>
 if r8 = (0 : Int32) then (some mem)
 else (f11_product_b22 F rc s4 mem)))
 else (f11_product_b22 F rc s4 mem))

def f11_product_b4 (F : Nat) (rc : Nat → g_M → Option g_M) (mem : g_M) : Option (g_M) :=
  g_fix (fun sf x => f11_product_b4_body F rc (fun mem => sf mem) x) F mem

def f11_product (F : Nat) (rc : Nat → g_M → Option g_M) (mem : g_M) : Option (g_M) :=
 (rc 5 mem).bind (fun r10 =>
 f11_product_b4 F rc r10)

def f11_sum_b22 (F : Nat) (rc : Nat → g_M → Option g_M) (s4 : g_M → Option (g_M)) (mem : g_M) : Option (g_M) :=
 g_let ((mem.1 0 29)) (fun x1 =>
 (f11_knot F mem).bind (fun r2 =>
 (f11_goOn F r2).bind (fun r3 =>
 (rc 4 r3).bind (fun r4 =>
 (f11_puts F (2 : Int32) x1 r4).bind (fun r5 =>
 s4 r5)))))

def f11_sum_b4_body (F : Nat) (rc : Nat → g_M → Option g_M) (s4 : g_M → Option (g_M)) (mem : g_M) : Option (g_M) :=
 (f11_isSign F (43 : Int32) mem).bind (fun r6 =>
 if r6 = (0 : Int32) then ((f11_isSign F (45 : Int32) mem).bind (fun r8 =>
 if r8 = (0 : Int32) then (some mem)
 else (f11_sum_b22 F rc s4 mem)))
 else (f11_sum_b22 F rc s4 mem))

def f11_sum_b4 (F : Nat) (rc : Nat → g_M → Option g_M) (mem : g_M) : Option (g_M) :=
  g_fix (fun sf x => f11_sum_b4_body F rc (fun mem => sf mem) x) F mem

def f11_sum (F : Nat) (rc : Nat → g_M → Option g_M) (mem : g_M) : Option (g_M) :=
 (rc 4 mem).bind (fun r10 =>
 f11_sum_b4 F rc r10)

def f11_negation_b87 (F : Nat) (rc : Nat → g_M → Option g_M) (mem : g_M) : Option (g_M) :=
 g_let ((mem.1 0 29)) (fun x1 =>
 (f11_knot F mem).bind (fun r2 =>
 (f11_goOn F r2).bind (fun r3 =>
 (rc 3 r3).bind (fun r4 =>
 (f11_puts F (2 : Int32) x1 r4).bind (fun r5 =>
 some r5)))))

def f11_negation (F : Nat) (rc : Nat → g_M → Option g_M) (mem : g_M) : Option (g_M) :=
 (f11_isWord F (14 : Int32) mem).bind (fun r6 =>
 if r6 = (0 : Int32) then ((rc 3 mem).bind (fun r12 =>
 if (r12.1 0 30) = (0 : Int32) then (if (r12.1 0 28) = (3 : Int32) then (if (r12.1 0 29) = (60 : Int32) then (f11_negation_b87 F rc r12)
 else (if (r12.1 0 29) = (62 : Int32) then (f11_negation_b87 F rc r12)
 else (if (r12.1 0 29) = (61 : Int32) then (f11_negation_b87 F rc r12)
 else (if (r12.1 0 29) < (256 : Int32) then (some r12)
 else (f11_negation_b87 F rc r12)))))
 else (some r12))
 else (some r12)))
 else ((f11_knot F mem).bind (fun r8 =>
 (f11_goOn F r8).bind (fun r9 =>
 (rc 2 r9).bind (fun r10 =>
 (f11_puts F (2 : Int32) (260 : Int32) r10).bind (fun r11 =>
 some r11))))))

def f11_conjunction_b4_body (F : Nat) (rc : Nat → g_M → Option g_M) (s4 : g_M → Option (g_M)) (mem : g_M) : Option (g_M) :=
 (f11_isWord F (13 : Int32) mem).bind (fun r1 =>
 if r1 = (0 : Int32) then (some mem)
 else ((f11_knot F mem).bind (fun r3 =>
 (f11_goOn F r3).bind (fun r4 =>
 (rc 2 r4).bind (fun r5 =>
 (f11_puts F (2 : Int32) (261 : Int32) r5).bind (fun r6 =>
 s4 r6))))))

def f11_conjunction_b4 (F : Nat) (rc : Nat → g_M → Option g_M) (mem : g_M) : Option (g_M) :=
  g_fix (fun sf x => f11_conjunction_b4_body F rc (fun mem => sf mem) x) F mem

def f11_conjunction (F : Nat) (rc : Nat → g_M → Option g_M) (mem : g_M) : Option (g_M) :=
 (rc 2 mem).bind (fun r7 =>
 f11_conjunction_b4 F rc r7)

def f11_expression_b4_body (F : Nat) (rc : Nat → g_M → Option g_M) (s4 : g_M → Option (g_M)) (mem : g_M) : Option (g_M) :=
 (f11_isWord F (12 : Int32) mem).bind (fun r1 =>
 if r1 = (0 : Int32) then (some mem)
 else ((f11_knot F mem).bind (fun r3 =>
 (f11_goOn F r3).bind (fun r4 =>
 (rc 1 r4).bind (fun r5 =>
 (f11_puts F (2 : Int32) (262 : Int32) r5).bind (fun r6 =>
 s4 r6))))))

def f11_expression_b4 (F : Nat) (rc : Nat → g_M → Option g_M) (mem : g_M) : Option (g_M) :=
  g_fix (fun sf x => f11_expression_b4_body F rc (fun mem => sf mem) x) F mem

def f11_expression (F : Nat) (rc : Nat → g_M → Option g_M) (mem : g_M) : Option (g_M) :=
 (rc 1 mem).bind (fun r7 =>
 f11_expression_b4 F rc r7)

def fgE (F : Nat) : Nat → Nat → g_M → Option g_M
  | 0 => fun _ _ => none
  | d + 1 => fun k mem => if k = 0 then f11_expression F (fgE F d) mem else if k = 1 then f11_conjunction F (fgE F d) mem else if k = 2 then f11_negation F (fgE F d) mem else if k = 3 then f11_sum F (fgE F d) mem else if k = 4 then f11_product F (fgE F d) mem else if k = 5 then f11_primary F (fgE F d) mem else none
def f11_lawLine_b65 (F : Nat) (v1 : Int32) (mem : g_M) : Option (g_M) :=
 if (mem.1 0 30) = (0 : Int32) then (g_let (g_sI mem 0 23 ((mem.1 0 23) ||| ((1 : Int32) <<< (((16 : Int32) + v1) &&& 31)))) (fun m2 =>
 (f11_token F m2).bind (fun r3 =>
 (f11_fresher F (8 : Int32) r3).bind (fun r4 =>
 g_ck ((3 : Int32) + v1) 6 (
 g_let (g_sI r3 18 ((3 : Int32) + v1).toNatClampNeg r4) (fun m6 =>
 (fgE F 200 0 m6).bind (fun r7 =>
 (f11_fresher F (8 : Int32) r7).bind (fun r8 =>
 g_ck ((3 : Int32) + v1) 6 (
 g_let (g_sI r7 19 ((3 : Int32) + v1).toNatClampNeg r8) (fun m10 =>
 some m10))))))))))
 else (some mem)

def f11_lawLine_b30 (F : Nat) (mem : g_M) : Option (g_M) :=
 g_let (((mem.1 0 29) - (9 : Int32))) (fun x11 =>
 if (mem.1 0 30) = (0 : Int32) then (if (((mem.1 0 23) >>> (((16 : Int32) + x11) &&& 31)) &&& (1 : Int32)) = (1 : Int32) then ((f11_wrong F (3 : Int32) mem).bind (fun r14 =>
 f11_lawLine_b65 F x11 r14))
 else (f11_lawLine_b65 F x11 mem))
 else (f11_lawLine_b65 F x11 mem))

def f11_lawLine_b25 (F : Nat) (mem : g_M) : Option (g_M) :=
 (f11_wrong F (1 : Int32) mem).bind (fun r15 =>
 f11_lawLine_b30 F r15)

def f11_lawLine (F : Nat) (mem : g_M) : Option (g_M) :=
 if (mem.1 0 28) = (0 : Int32) then (if (9 : Int32) ≤ (mem.1 0 29) then (if (11 : Int32) < (mem.1 0 29) then (f11_lawLine_b25 F mem)
 else (f11_lawLine_b30 F mem))
 else (f11_lawLine_b25 F mem))
 else (f11_lawLine_b25 F mem)

def f11_line_b16 (F : Nat) (mem : g_M) : Option (g_M) :=
 (f11_wrong F (1 : Int32) mem).bind (fun r1 =>
 some r1)

def f11_line_b495 (F : Nat) (mem : g_M) : Option (g_M) :=
 g_let (g_sI mem 0 24 ((mem.1 0 24) + (1 : Int32))) (fun m2 =>
 some m2)

def f11_line_b466 (F : Nat) (mem : g_M) : Option (g_M) :=
 if (mem.1 0 30) = (0 : Int32) then ((f11_isSign F (59 : Int32) mem).bind (fun r4 =>
 if r4 = (0 : Int32) then ((f11_wrong F (1 : Int32) mem).bind (fun r6 =>
 f11_line_b495 F r6))
 else ((f11_token F mem).bind (fun r7 =>
 f11_line_b495 F r7))))
 else (some mem)

def f11_line_b71 (F : Nat) (v1 : Int32) (mem : g_M) : Option (g_M) :=
 if (mem.1 0 30) = (0 : Int32) then (g_let (g_sI mem 0 23 ((mem.1 0 23) ||| ((1 : Int32) <<< (v1 &&& 31)))) (fun m9 =>
 (f11_token F m9).bind (fun r10 =>
 if v1 = (0 : Int32) then ((f11_fresher F (0 : Int32) r10).bind (fun r12 =>
 g_let (((5 : Int32) + r12)) (fun x13 =>
 (f11_fresher F (0 : Int32) r10).bind (fun r14 =>
 (f11_fresh F 3 (5 : Int32) r14 r10).bind (fun r15 =>
 g_ck x13 10 (
 g_let (g_sI r15.2 3 x13.toNatClampNeg r15.1) (fun m17 =>
 (f11_numeral F (0 : Int32) (999 : Int32) m17).bind (fun r18 =>
 g_ck x13 10 (
 g_let (g_sI r18.2 4 x13.toNatClampNeg r18.1) (fun m20 =>
 (f11_fresher F (0 : Int32) m20).bind (fun r21 =>
 (f11_reads F (0 : Int32) (r21 + (1 : Int32)) m20).bind (fun r22 =>
 f11_line_b466 F r22))))))))))))
 else (if v1 = (1 : Int32) then ((f11_fresher F (1 : Int32) r10).bind (fun r24 =>
 g_let (((5 : Int32) + r24)) (fun x25 =>
 (f11_fresher F (1 : Int32) r10).bind (fun r26 =>
 (f11_fresh F 5 (5 : Int32) r26 r10).bind (fun r27 =>
 g_ck x25 10 (
 g_let (g_sI r27.2 5 x25.toNatClampNeg r27.1) (fun m29 =>
 (f11_numeral F (1 : Int32) (9 : Int32) m29).bind (fun r30 =>
 g_ck x25 10 (
 g_let (g_sI r30.2 6 x25.toNatClampNeg r30.1) (fun m32 =>
 (f11_numeral F (0 : Int32) (99 : Int32) m32).bind (fun r33 =>
 g_ck x25 10 (
 g_let (g_sI r33.2 7 x25.toNatClampNeg r33.1) (fun m35 =>
 (f11_fresher F (1 : Int32) m35).bind (fun r36 =>
 (f11_reads F (1 : Int32) (r36 + (1 : Int32)) m35).bind (fun r37 =>
 f11_line_b466 F r37)))))))))))))))
 else (if v1 = (2 : Int32) then ((f11_fresher F (2 : Int32) r10).bind (fun r39 =>
 g_let (((5 : Int32) + r39)) (fun x40 =>
 (f11_fresher F (2 : Int32) r10).bind (fun r41 =>
 (f11_fresh F 8 (5 : Int32) r41 r10).bind (fun r42 =>
 g_ck x40 10 (
 g_let (g_sI r42.2 8 x40.toNatClampNeg r42.1) (fun m44 =>
 (f11_numeral F (0 : Int32) (31 : Int32) m44).bind (fun r45 =>
 g_ck x40 10 (
 g_let (g_sI r45.2 9 x40.toNatClampNeg r45.1) (fun m47 =>
 (f11_fresher F (2 : Int32) m47).bind (fun r48 =>
 (f11_reads F (2 : Int32) (r48 + (1 : Int32)) m47).bind (fun r49 =>
 f11_line_b466 F r49))))))))))))
 else (if v1 = (3 : Int32) then ((f11_fresher F (3 : Int32) r10).bind (fun r51 =>
 g_let (((12 : Int32) + r51)) (fun x52 =>
 (f11_manAhead F r10).bind (fun r53 =>
 g_ck x52 24 (
 g_let (g_sI r53.2 10 x52.toNatClampNeg r53.1) (fun m55 =>
 (f11_fresher F (1 : Int32) m55).bind (fun r56 =>
 (f11_toldAhead F 5 (5 : Int32) r56 m55).bind (fun r57 =>
 g_ck x52 24 (
 g_let (g_sI r57.2 11 x52.toNatClampNeg r57.1) (fun m59 =>
 (f11_numeral F (0 : Int32) (99 : Int32) m59).bind (fun r60 =>
 g_ck x52 24 (
 g_let (g_sI r60.2 12 x52.toNatClampNeg r60.1) (fun m62 =>
 (f11_fresher F (3 : Int32) m62).bind (fun r63 =>
 (f11_reads F (3 : Int32) (r63 + (1 : Int32)) m62).bind (fun r64 =>
 f11_line_b466 F r64)))))))))))))))
 else (if v1 = (4 : Int32) then ((f11_fresher F (4 : Int32) r10).bind (fun r66 =>
 (f11_wantLine F ((8 : Int32) + r66) r10).bind (fun r67 =>
 f11_line_b466 F r67)))
 else (if v1 = (5 : Int32) then ((f11_numeral F (1 : Int32) (30 : Int32) r10).bind (fun r69 =>
 (f11_reads F (5 : Int32) r69.1 r69.2).bind (fun r70 =>
 f11_line_b466 F r70)))
 else (if v1 = (6 : Int32) then ((f11_numeral F (0 : Int32) (100 : Int32) r10).bind (fun r72 =>
 (f11_reads F (6 : Int32) r72.1 r72.2).bind (fun r73 =>
 f11_line_b466 F r73)))
 else (if v1 = (7 : Int32) then ((f11_numeral F (0 : Int32) (99999 : Int32) r10).bind (fun r75 =>
 (f11_reads F (7 : Int32) r75.1 r75.2).bind (fun r76 =>
 f11_line_b466 F r76)))
 else ((f11_lawLine F r10).bind (fun r77 =>
 f11_line_b466 F r77))))))))))))
 else (some mem)

def f11_line (F : Nat) (mem : g_M) : Option (g_M) :=
 if (mem.1 0 28) = (0 : Int32) then (if (8 : Int32) < (mem.1 0 29) then (f11_line_b16 F mem)
 else (g_let ((mem.1 0 29)) (fun x80 =>
 (f11_isFull F x80 mem).bind (fun r81 =>
 if r81 = (0 : Int32) then (if (5 : Int32) ≤ x80 then (if x80 ≤ (7 : Int32) then (if (((mem.1 0 23) >>> (x80 &&& 31)) &&& (1 : Int32)) = (1 : Int32) then ((f11_wrong F (3 : Int32) mem).bind (fun r87 =>
 f11_line_b71 F x80 r87))
 else (f11_line_b71 F x80 mem))
 else (f11_line_b71 F x80 mem))
 else (f11_line_b71 F x80 mem))
 else ((f11_wrong F (2 : Int32) mem).bind (fun r83 =>
 f11_line_b71 F x80 r83))))))
 else (f11_line_b16 F mem)

def f11_half_b7_body (F : Nat) (a0 : Nat) (s7 : Int32 → Int32 → g_M → Option (g_M)) (v1 : Int32) (v2 : Int32) (mem : g_M) : Option (g_M) :=
 if v2 < v1 then (g_ck (v1 + v2) (yM.1 a0).2 (
 g_ck v2 (yM.1 a0).2 (
 g_let (g_sI mem a0 v2.toNatClampNeg (mem.1 a0 (v1 + v2).toNatClampNeg)) (fun m4 =>
 g_let (v2 + (1 : Int32)) (fun x5 =>
 s7 v1 x5 m4)))))
 else (some mem)

def f11_half_b7 (F : Nat) (a0 : Nat) (v1 : Int32) (v2 : Int32) (mem : g_M) : Option (g_M) :=
  g_fix (fun sf x => f11_half_b7_body F a0 (fun v1 v2 mem => sf (v1, v2, mem)) x.1 x.2.1 x.2.2) F (v1, v2, mem)

def f11_half (F : Nat) (a0 : Nat) (mem : g_M) : Option (g_M) :=
 g_let (((Int32.ofNat (yM.1 a0).2) / (2 : Int32))) (fun x6 =>
 f11_half_b7 F a0 x6 (0 : Int32) mem)

def f11_starts_b78_body (F : Nat) (a1 : Int32) (s41 : Int32 → g_M → Option (g_M)) (s78 : Int32 → Int32 → g_M → Option (g_M)) (v2 : Int32) (v3 : Int32) (mem : g_M) : Option (g_M) :=
 if v3 < (5 : Int32) then (g_ck ((((25 : Int32) * a1) + ((5 : Int32) * v2)) + v3) 575 (
 g_let (g_sI mem 29 ((((25 : Int32) * a1) + ((5 : Int32) * v2)) + v3).toNatClampNeg v2) (fun m3 =>
 g_ck ((((25 : Int32) * a1) + ((5 : Int32) * v2)) + v3) 575 (
 g_let (g_sI m3 30 ((((25 : Int32) * a1) + ((5 : Int32) * v2)) + v3).toNatClampNeg (0 : Int32)) (fun m5 =>
 g_let (v3 + (1 : Int32)) (fun x6 =>
 s78 v2 x6 m5))))))
 else (g_let (v2 + (1 : Int32)) (fun x7 =>
 s41 x7 mem))

def f11_starts_b78 (F : Nat) (a1 : Int32) (s41 : Int32 → g_M → Option (g_M)) (v2 : Int32) (v3 : Int32) (mem : g_M) : Option (g_M) :=
  g_fix (fun sf x => f11_starts_b78_body F a1 s41 (fun v2 v3 mem => sf (v2, v3, mem)) x.1 x.2.1 x.2.2) F (v2, v3, mem)

def f11_starts_b75 (F : Nat) (a1 : Int32) (s41 : Int32 → g_M → Option (g_M)) (v2 : Int32) (w1 : Int32) (w2 : Int32) (mem : g_M) : Option (g_M) :=
 g_ck w1 115 (
 g_let (g_sI mem 28 w1.toNatClampNeg w2) (fun m9 =>
 f11_starts_b78 F a1 s41 v2 (0 : Int32) m9))

def f11_starts_b251 (F : Nat) (a1 : Int32) (s155 : Int32 → g_M → Option (g_M)) (v2 : Int32) (w1 : Int32) (w2 : Int32) (mem : g_M) : Option (g_M) :=
 g_ck w1 276 (
 g_let (g_sI mem 34 w1.toNatClampNeg w2) (fun m11 =>
 g_ck (((12 : Int32) * a1) + v2) 276 (
 g_let (g_sI m11 35 (((12 : Int32) * a1) + v2).toNatClampNeg (0 : Int32)) (fun m13 =>
 g_let (v2 + (1 : Int32)) (fun x14 =>
 s155 x14 m13)))))

def f11_starts_b226 (F : Nat) (a1 : Int32) (s155 : Int32 → g_M → Option (g_M)) (v2 : Int32) (v3 : Int32) (w1 : Int32) (w2 : Int32) (mem : g_M) : Option (g_M) :=
 g_ck w1 276 (
 g_let (g_sI mem 33 w1.toNatClampNeg w2) (fun m16 =>
 if v3 = (0 : Int32) then (f11_starts_b251 F a1 s155 v2 (((12 : Int32) * a1) + v2) (0 : Int32) m16)
 else (g_ck v2 24 (
 f11_starts_b251 F a1 s155 v2 (((12 : Int32) * a1) + v2) (m16.1 12 v2.toNatClampNeg) m16))))

def f11_starts_b201 (F : Nat) (a1 : Int32) (s155 : Int32 → g_M → Option (g_M)) (v2 : Int32) (v3 : Int32) (w1 : Int32) (w2 : Int32) (mem : g_M) : Option (g_M) :=
 g_ck w1 276 (
 g_let (g_sI mem 32 w1.toNatClampNeg w2) (fun m20 =>
 if v3 = (0 : Int32) then (f11_starts_b226 F a1 s155 v2 v3 (((12 : Int32) * a1) + v2) (0 : Int32) m20)
 else (g_ck v2 24 (
 f11_starts_b226 F a1 s155 v2 v3 (((12 : Int32) * a1) + v2) (m20.1 11 v2.toNatClampNeg) m20))))

def f11_starts_b176 (F : Nat) (a1 : Int32) (s155 : Int32 → g_M → Option (g_M)) (v2 : Int32) (w0 : Int32) (mem : g_M) : Option (g_M) :=
 if w0 = (0 : Int32) then (f11_starts_b201 F a1 s155 v2 w0 (((12 : Int32) * a1) + v2) (0 : Int32) mem)
 else (g_ck v2 24 (
 f11_starts_b201 F a1 s155 v2 w0 (((12 : Int32) * a1) + v2) (mem.1 10 v2.toNatClampNeg) mem))

def f11_starts_b155_body (F : Nat) (a1 : Int32) (s155 : Int32 → g_M → Option (g_M)) (v2 : Int32) (mem : g_M) : Option (g_M) :=
 if v2 < (12 : Int32) then (g_ck (3 : Int32) 18 (
 if v2 < (mem.1 2 (3 : Int32).toNatClampNeg) then (f11_starts_b176 F a1 s155 v2 (1 : Int32) mem)
 else (f11_starts_b176 F a1 s155 v2 (0 : Int32) mem)))
 else (some mem)

def f11_starts_b155 (F : Nat) (a1 : Int32) (v2 : Int32) (mem : g_M) : Option (g_M) :=
  g_fix (fun sf x => f11_starts_b155_body F a1 (fun v2 mem => sf (v2, mem)) x.1 x.2) F (v2, mem)

def f11_starts_b129_body (F : Nat) (a1 : Int32) (s129 : Int32 → g_M → Option (g_M)) (v2 : Int32) (mem : g_M) : Option (g_M) :=
 if v2 < (8 : Int32) then (g_ck (((8 : Int32) * a1) + v2) 184 (
 g_let (g_sI mem 31 (((8 : Int32) * a1) + v2).toNatClampNeg (0 : Int32)) (fun m30 =>
 g_let (v2 + (1 : Int32)) (fun x31 =>
 s129 x31 m30))))
 else (f11_starts_b155 F a1 (0 : Int32) mem)

def f11_starts_b129 (F : Nat) (a1 : Int32) (v2 : Int32) (mem : g_M) : Option (g_M) :=
  g_fix (fun sf x => f11_starts_b129_body F a1 (fun v2 mem => sf (v2, mem)) x.1 x.2) F (v2, mem)

def f11_starts_b41_body (F : Nat) (a1 : Int32) (s41 : Int32 → g_M → Option (g_M)) (v2 : Int32) (mem : g_M) : Option (g_M) :=
 if v2 < (5 : Int32) then (g_ck (0 : Int32) 18 (
 if v2 < (mem.1 2 (0 : Int32).toNatClampNeg) then (g_ck v2 10 (
 f11_starts_b75 F a1 s41 v2 (((5 : Int32) * a1) + v2) (mem.1 4 v2.toNatClampNeg) mem))
 else (f11_starts_b75 F a1 s41 v2 (((5 : Int32) * a1) + v2) (0 : Int32) mem)))
 else (f11_starts_b129 F a1 (0 : Int32) mem)

def f11_starts_b41 (F : Nat) (a1 : Int32) (v2 : Int32) (mem : g_M) : Option (g_M) :=
  g_fix (fun sf x => f11_starts_b41_body F a1 (fun v2 mem => sf (v2, mem)) x.1 x.2) F (v2, mem)

def f11_starts (F : Nat) (a1 : Int32) (mem : g_M) : Option (g_M) :=
 g_ck a1 23 (
 g_let (g_sI mem 24 a1.toNatClampNeg (0 : Int32)) (fun m37 =>
 g_ck (7 : Int32) 18 (
 g_ck a1 23 (
 g_let (g_sI m37 25 a1.toNatClampNeg (m37.1 2 (7 : Int32).toNatClampNeg)) (fun m40 =>
 g_ck a1 23 (
 g_let (g_sI m40 26 a1.toNatClampNeg (0 : Int32)) (fun m42 =>
 g_ck (3 : Int32) 18 (
 g_ck a1 23 (
 g_let (g_sI m42 27 a1.toNatClampNeg (m42.1 2 (3 : Int32).toNatClampNeg)) (fun m45 =>
 f11_starts_b41 F a1 (0 : Int32) m45))))))))))

def f11_begins (F : Nat) (mem : g_M) : Option (g_M) :=
 (f11_starts F (0 : Int32) mem).bind (fun r1 =>
 some r1)

def f11_text_b66 (F : Nat) (a1 : Int32) (s47 : Int32 → g_M → Option (Int32 × g_M)) (v2 : Int32) (w1 : Int32) (w2 : Int32) (mem : g_M) : Option (Int32 × g_M) :=
 (f11_reads F w1 w2 mem).bind (fun r1 =>
 g_let (v2 + (1 : Int32)) (fun x2 =>
 s47 x2 r1))

def f11_text_b149 (F : Nat) (a1 : Int32) (mem : g_M) : Option (Int32 × g_M) :=
 g_let (g_sI mem 0 32 (mem.1 0 30)) (fun m3 =>
 g_let (g_sI m3 0 33 (m3.1 0 31)) (fun m4 =>
 if (m4.1 0 30) = (0 : Int32) then ((f11_half F 2 m4).bind (fun r6 =>
 (f11_half F 3 r6).bind (fun r7 =>
 (f11_half F 4 r7).bind (fun r8 =>
 (f11_half F 5 r8).bind (fun r9 =>
 (f11_half F 6 r9).bind (fun r10 =>
 (f11_half F 7 r10).bind (fun r11 =>
 (f11_half F 8 r11).bind (fun r12 =>
 (f11_half F 9 r12).bind (fun r13 =>
 (f11_half F 10 r13).bind (fun r14 =>
 (f11_half F 11 r14).bind (fun r15 =>
 (f11_half F 12 r15).bind (fun r16 =>
 (f11_half F 13 r16).bind (fun r17 =>
 (f11_half F 14 r17).bind (fun r18 =>
 (f11_half F 15 r18).bind (fun r19 =>
 (f11_half F 16 r19).bind (fun r20 =>
 (f11_half F 17 r20).bind (fun r21 =>
 (f11_half F 18 r21).bind (fun r22 =>
 (f11_half F 19 r22).bind (fun r23 =>
 (f11_half F 20 r23).bind (fun r24 =>
 (f11_half F 21 r24).bind (fun r25 =>
 g_let (g_sI r25 0 65 (0 : Int32)) (fun m26 =>
 g_let (g_sI m26 0 66 (-1 : Int32)) (fun m27 =>
 g_let (g_sI m27 0 51 (0 : Int32)) (fun m28 =>
 g_let (g_sI m28 0 52 (0 : Int32)) (fun m29 =>
 (f11_begins F m29).bind (fun r30 =>
 some ((r30.1 0 24), r30)))))))))))))))))))))))))))
 else (some ((-1 : Int32), m4))))

def f11_text_b127_body (F : Nat) (a1 : Int32) (s127 : g_M → Option (Int32 × g_M)) (mem : g_M) : Option (Int32 × g_M) :=
 if (mem.1 0 30) = (0 : Int32) then (if (mem.1 0 28) = (4 : Int32) then (f11_text_b149 F a1 mem)
 else ((f11_line F mem).bind (fun r33 =>
 s127 r33)))
 else (f11_text_b149 F a1 mem)

def f11_text_b127 (F : Nat) (a1 : Int32) (mem : g_M) : Option (Int32 × g_M) :=
  g_fix (fun sf x => f11_text_b127_body F a1 (fun mem => sf mem) x) F mem

def f11_text_b77_body (F : Nat) (a1 : Int32) (s77 : Int32 → g_M → Option (Int32 × g_M)) (v2 : Int32) (mem : g_M) : Option (Int32 × g_M) :=
 if v2 < (6 : Int32) then (g_ck v2 6 (
 g_let (g_sI mem 18 v2.toNatClampNeg (0 : Int32)) (fun m36 =>
 g_ck v2 6 (
 g_let (g_sI m36 19 v2.toNatClampNeg (0 : Int32)) (fun m38 =>
 g_let (v2 + (1 : Int32)) (fun x39 =>
 s77 x39 m38))))))
 else (g_let (g_sI mem 0 23 (0 : Int32)) (fun m40 =>
 g_let (g_sI m40 0 24 (0 : Int32)) (fun m41 =>
 g_let (g_sI m41 0 34 (0 : Int32)) (fun m42 =>
 g_let (g_sI m42 0 35 (0 : Int32)) (fun m43 =>
 (f11_token F m43).bind (fun r44 =>
 f11_text_b127 F a1 r44))))))

def f11_text_b77 (F : Nat) (a1 : Int32) (v2 : Int32) (mem : g_M) : Option (Int32 × g_M) :=
  g_fix (fun sf x => f11_text_b77_body F a1 (fun v2 mem => sf (v2, mem)) x.1 x.2) F (v2, mem)

def f11_text_b47_body (F : Nat) (a1 : Int32) (s47 : Int32 → g_M → Option (Int32 × g_M)) (v2 : Int32) (mem : g_M) : Option (Int32 × g_M) :=
 if v2 < (9 : Int32) then (if v2 = (5 : Int32) then (f11_text_b66 F a1 s47 v2 v2 (9 : Int32) mem)
 else (f11_text_b66 F a1 s47 v2 v2 (0 : Int32) mem))
 else (f11_text_b77 F a1 (3 : Int32) mem)

def f11_text_b47 (F : Nat) (a1 : Int32) (v2 : Int32) (mem : g_M) : Option (Int32 × g_M) :=
  g_fix (fun sf x => f11_text_b47_body F a1 (fun v2 mem => sf (v2, mem)) x.1 x.2) F (v2, mem)

def f11_text (F : Nat) (a1 : Int32) (mem : g_M) : Option (Int32 × g_M) :=
 g_let (g_sI mem 0 0 (0 : Int32)) (fun m47 =>
 if (0 : Int32) ≤ a1 then (if (m47.1 0 2) < a1 then (some ((-2 : Int32), m47))
 else (g_let (g_sI m47 0 25 a1) (fun m50 =>
 g_let (g_sI m50 0 2 (0 : Int32)) (fun m51 =>
 g_let (g_sI m51 0 26 (0 : Int32)) (fun m52 =>
 g_let (g_sI m52 0 30 (0 : Int32)) (fun m53 =>
 g_let (g_sI m53 0 31 (-1 : Int32)) (fun m54 =>
 f11_text_b47 F a1 (0 : Int32) m54)))))))
 else (some ((-2 : Int32), m47)))

def f11_fault (F : Nat) (a1 : Int32) (mem : g_M) : Option (Int32 × g_M) :=
 g_let (g_sI mem 0 0 (0 : Int32)) (fun m1 =>
 if a1 = (0 : Int32) then (some ((m1.1 0 32), m1))
 else (if a1 = (1 : Int32) then (some ((m1.1 0 33), m1))
 else (some ((-1 : Int32), m1))))

def f11_named (F : Nat) (a1 : Int32) (a2 : Int32) (mem : g_M) : Option (Int32 × g_M) :=
 g_let (g_sI mem 0 0 (0 : Int32)) (fun m1 =>
 if a1 = (0 : Int32) then (g_ck (0 : Int32) 18 (
 (f11_found F 3 (0 : Int32) (m1.1 2 (0 : Int32).toNatClampNeg) a2 m1).bind (fun r4 =>
 some (r4, m1))))
 else (if a1 = (1 : Int32) then (g_ck (1 : Int32) 18 (
 (f11_found F 5 (0 : Int32) (m1.1 2 (1 : Int32).toNatClampNeg) a2 m1).bind (fun r7 =>
 some (r7, m1))))
 else (if a1 = (2 : Int32) then (g_ck (2 : Int32) 18 (
 (f11_found F 8 (0 : Int32) (m1.1 2 (2 : Int32).toNatClampNeg) a2 m1).bind (fun r10 =>
 some (r10, m1))))
 else (some ((-1 : Int32), m1)))))

def f11_is (F : Nat) (a0 : Int32) (mem : g_M) : Option (Int64) :=
 if a0 = (0 : Int32) then (some (0 : Int64))
 else (some (1 : Int64))

def f11_works_b40 (F : Nat) (a1 : Int32) (w1 : Int32) (w2 : Int32) (mem : g_M) : Option (Int32 × g_M) :=
 (f11_is F w2 mem).bind (fun r1 =>
 g_ck w1 64 (
 g_let (g_sL mem 23 w1.toNatClampNeg r1) (fun m3 =>
 some ((1 : Int32), m3))))

def f11_works_b407 (F : Nat) (a1 : Int32) (v6 : Int64) (mem : g_M) : Option (Int32 × g_M) :=
 g_ck ((mem.1 0 38) - (1 : Int32)) 64 (
 g_let (g_sL mem 23 ((mem.1 0 38) - (1 : Int32)).toNatClampNeg v6) (fun m5 =>
 if (lg_cmp v6 (1000000000000 : Int64)) ≤ (0 : Int32) then (if (0 : Int32) ≤ (lg_cmp v6 (-1000000000000 : Int64)) then (some ((1 : Int32), m5))
 else (some ((0 : Int32), m5)))
 else (some ((0 : Int32), m5))))

def f11_works_b212 (F : Nat) (a1 : Int32) (v2 : Int64) (v4 : Int64) (mem : g_M) : Option (Int32 × g_M) :=
 g_let ((v4 * v2)) (fun x8 =>
 f11_works_b407 F a1 x8 mem)

def f11_works_b250 (F : Nat) (a1 : Int32) (w0 : Int32) (mem : g_M) : Option (Int32 × g_M) :=
 (f11_is F w0 mem).bind (fun r9 =>
 f11_works_b407 F a1 r9 mem)

def f11_works_b270 (F : Nat) (a1 : Int32) (w0 : Int32) (mem : g_M) : Option (Int32 × g_M) :=
 (f11_is F w0 mem).bind (fun r10 =>
 f11_works_b407 F a1 r10 mem)

def f11_works_b290 (F : Nat) (a1 : Int32) (w0 : Int32) (mem : g_M) : Option (Int32 × g_M) :=
 (f11_is F w0 mem).bind (fun r11 =>
 f11_works_b407 F a1 r11 mem)

def f11_works_b310 (F : Nat) (a1 : Int32) (w0 : Int32) (mem : g_M) : Option (Int32 × g_M) :=
 (f11_is F w0 mem).bind (fun r12 =>
 f11_works_b407 F a1 r12 mem)

def f11_works_b330 (F : Nat) (a1 : Int32) (w0 : Int32) (mem : g_M) : Option (Int32 × g_M) :=
 (f11_is F w0 mem).bind (fun r13 =>
 f11_works_b407 F a1 r13 mem)

def f11_works_b350 (F : Nat) (a1 : Int32) (w0 : Int32) (mem : g_M) : Option (Int32 × g_M) :=
 (f11_is F w0 mem).bind (fun r14 =>
 f11_works_b407 F a1 r14 mem)

def f11_works_b376 (F : Nat) (a1 : Int32) (w0 : Int32) (mem : g_M) : Option (Int32 × g_M) :=
 (f11_is F w0 mem).bind (fun r15 =>
 f11_works_b407 F a1 r15 mem)

def f11_works_b375 (F : Nat) (a1 : Int32) (mem : g_M) : Option (Int32 × g_M) :=
 f11_works_b376 F a1 (0 : Int32) mem

def f11_works_b402 (F : Nat) (a1 : Int32) (w0 : Int32) (mem : g_M) : Option (Int32 × g_M) :=
 (f11_is F w0 mem).bind (fun r16 =>
 f11_works_b407 F a1 r16 mem)

def f11_works_b397 (F : Nat) (a1 : Int32) (mem : g_M) : Option (Int32 × g_M) :=
 f11_works_b402 F a1 (1 : Int32) mem

def f11_works (F : Nat) (a1 : Int32) (mem : g_M) : Option (Int32 × g_M) :=
 g_ck ((mem.1 0 38) - (1 : Int32)) 64 (
 g_let ((mem.2.1 23 ((mem.1 0 38) - (1 : Int32)).toNatClampNeg)) (fun x18 =>
 if a1 = (260 : Int32) then (if (lg_cmp x18 (0 : Int64)) = (0 : Int32) then (f11_works_b40 F a1 ((mem.1 0 38) - (1 : Int32)) (1 : Int32) mem)
 else (f11_works_b40 F a1 ((mem.1 0 38) - (1 : Int32)) (0 : Int32) mem))
 else (g_ck ((mem.1 0 38) - (2 : Int32)) 64 (
 g_let ((mem.2.1 23 ((mem.1 0 38) - (2 : Int32)).toNatClampNeg)) (fun x22 =>
 g_let (g_sI mem 0 38 ((mem.1 0 38) - (1 : Int32))) (fun m23 =>
 if a1 = (42 : Int32) then (if (lg_cmp x22 (0 : Int64)) = (0 : Int32) then (f11_works_b212 F a1 x18 x22 m23)
 else (g_nzL (if 0 < x22 then x22 else -x22) (
 if (0 : Int32) < (lg_cmp (if 0 < x18 then x18 else -x18) ((1000000000000 : Int64) / (if 0 < x22 then x22 else -x22))) then (some ((0 : Int32), m23))
 else (f11_works_b212 F a1 x18 x22 m23))))
 else (if a1 = (43 : Int32) then (g_let ((x22 + x18)) (fun x29 =>
 f11_works_b407 F a1 x29 m23))
 else (if a1 = (45 : Int32) then (g_let ((x22 - x18)) (fun x31 =>
 f11_works_b407 F a1 x31 m23))
 else (if a1 = (47 : Int32) then (if (lg_cmp x18 (0 : Int64)) = (0 : Int32) then (some ((0 : Int32), m23))
 else (g_nzL x18 (
 g_let ((x22 / x18)) (fun x35 =>
 f11_works_b407 F a1 x35 m23))))
 else (if a1 = (60 : Int32) then (if (lg_cmp x22 x18) < (0 : Int32) then (f11_works_b250 F a1 (1 : Int32) m23)
 else (f11_works_b250 F a1 (0 : Int32) m23))
 else (if a1 = (61 : Int32) then (if (lg_cmp x22 x18) = (0 : Int32) then (f11_works_b290 F a1 (1 : Int32) m23)
 else (f11_works_b290 F a1 (0 : Int32) m23))
 else (if a1 = (62 : Int32) then (if (0 : Int32) < (lg_cmp x22 x18) then (f11_works_b270 F a1 (1 : Int32) m23)
 else (f11_works_b270 F a1 (0 : Int32) m23))
 else (if a1 = (256 : Int32) then (if (lg_cmp x22 x18) ≤ (0 : Int32) then (f11_works_b310 F a1 (1 : Int32) m23)
 else (f11_works_b310 F a1 (0 : Int32) m23))
 else (if a1 = (257 : Int32) then (if (lg_cmp x22 x18) = (0 : Int32) then (f11_works_b350 F a1 (0 : Int32) m23)
 else (f11_works_b350 F a1 (1 : Int32) m23))
 else (if a1 = (258 : Int32) then (if (0 : Int32) ≤ (lg_cmp x22 x18) then (f11_works_b330 F a1 (1 : Int32) m23)
 else (f11_works_b330 F a1 (0 : Int32) m23))
 else (if a1 = (261 : Int32) then (if (lg_cmp x22 (0 : Int64)) = (0 : Int32) then (f11_works_b375 F a1 m23)
 else (if (lg_cmp x18 (0 : Int64)) = (0 : Int32) then (f11_works_b375 F a1 m23)
 else (f11_works_b376 F a1 (1 : Int32) m23)))
 else (if (lg_cmp x22 (0 : Int64)) = (0 : Int32) then (if (lg_cmp x18 (0 : Int64)) = (0 : Int32) then (f11_works_b402 F a1 (0 : Int32) m23)
 else (f11_works_b397 F a1 m23))
 else (f11_works_b397 F a1 m23))))))))))))))))))

def f11_goes_b96 (F : Nat) (a1 : Int32) (s12 : Int32 → g_M → Option (Int32 × g_M)) (v2 : Int32) (mem : g_M) : Option (Int32 × g_M) :=
 g_let (v2 + (1 : Int32)) (fun x1 =>
 s12 x1 mem)

def f11_goes_b85 (F : Nat) (a1 : Int32) (s12 : Int32 → g_M → Option (Int32 × g_M)) (v2 : Int32) (w1 : Int32) (w2 : Int64) (mem : g_M) : Option (Int32 × g_M) :=
 g_ck w1 64 (
 g_let (g_sL mem 23 w1.toNatClampNeg w2) (fun m3 =>
 g_let (g_sI m3 0 38 ((m3.1 0 38) + (1 : Int32))) (fun m4 =>
 f11_goes_b96 F a1 s12 v2 m4)))

def f11_goes_b12_body (F : Nat) (a1 : Int32) (s12 : Int32 → g_M → Option (Int32 × g_M)) (v2 : Int32) (mem : g_M) : Option (Int32 × g_M) :=
 g_ck a1 6 (
 if v2 < (mem.1 19 a1.toNatClampNeg) then (g_ck v2 128 (
 if (mem.1 20 v2.toNatClampNeg) = (2 : Int32) then (g_ck v2 128 (
 (f11_works F (mem.1 21 v2.toNatClampNeg) mem).bind (fun r10 =>
 if r10.1 = (0 : Int32) then (some ((0 : Int32), r10.2))
 else (f11_goes_b96 F a1 s12 v2 r10.2))))
 else (g_ck v2 128 (
 if (mem.1 20 v2.toNatClampNeg) = (0 : Int32) then (g_ck v2 128 (
 f11_goes_b85 F a1 s12 v2 (mem.1 0 38) (mem.1 21 v2.toNatClampNeg).toInt64 mem))
 else (g_ck v2 128 (
 g_ck (mem.1 21 v2.toNatClampNeg) 7 (
 f11_goes_b85 F a1 s12 v2 (mem.1 0 38) (mem.2.1 22 (mem.1 21 v2.toNatClampNeg).toNatClampNeg) mem)))))))
 else (some ((1 : Int32), mem)))

def f11_goes_b12 (F : Nat) (a1 : Int32) (v2 : Int32) (mem : g_M) : Option (Int32 × g_M) :=
  g_fix (fun sf x => f11_goes_b12_body F a1 (fun v2 mem => sf (v2, mem)) x.1 x.2) F (v2, mem)

def f11_goes (F : Nat) (a1 : Int32) (mem : g_M) : Option (Int32 × g_M) :=
 g_let (g_sI mem 0 38 (0 : Int32)) (fun m17 =>
 g_ck a1 6 (
 g_let ((m17.1 18 a1.toNatClampNeg)) (fun x19 =>
 f11_goes_b12 F a1 x19 m17)))

def f11_hasLaw (F : Nat) (a1 : Int32) (mem : g_M) : Option (Int32) :=
 g_ck a1 6 (
 g_ck a1 6 (
 if (mem.1 18 a1.toNatClampNeg) < (mem.1 19 a1.toNatClampNeg) then (some (1 : Int32))
 else (some (0 : Int32))))

def f11_copies_b177_body (F : Nat) (a1 : Int32) (a2 : Int32) (s177 : Int32 → g_M → Option (g_M)) (v3 : Int32) (mem : g_M) : Option (g_M) :=
 if v3 < (12 : Int32) then (g_let ((((12 : Int32) * a1) + v3)) (fun x2 =>
 g_let ((((12 : Int32) * a2) + v3)) (fun x3 =>
 g_ck x3 276 (
 g_ck x2 276 (
 g_let (g_sI mem 32 x2.toNatClampNeg (mem.1 32 x3.toNatClampNeg)) (fun m6 =>
 g_ck x3 276 (
 g_ck x2 276 (
 g_let (g_sI m6 33 x2.toNatClampNeg (m6.1 33 x3.toNatClampNeg)) (fun m9 =>
 g_ck x3 276 (
 g_ck x2 276 (
 g_let (g_sI m9 34 x2.toNatClampNeg (m9.1 34 x3.toNatClampNeg)) (fun m12 =>
 g_ck x3 276 (
 g_ck x2 276 (
 g_let (g_sI m12 35 x2.toNatClampNeg (m12.1 35 x3.toNatClampNeg)) (fun m15 =>
 g_let (v3 + (1 : Int32)) (fun x16 =>
 s177 x16 m15))))))))))))))))
 else (some mem)

def f11_copies_b177 (F : Nat) (a1 : Int32) (a2 : Int32) (v3 : Int32) (mem : g_M) : Option (g_M) :=
  g_fix (fun sf x => f11_copies_b177_body F a1 a2 (fun v3 mem => sf (v3, mem)) x.1 x.2) F (v3, mem)

def f11_copies_b141_body (F : Nat) (a1 : Int32) (a2 : Int32) (s141 : Int32 → g_M → Option (g_M)) (v3 : Int32) (mem : g_M) : Option (g_M) :=
 if v3 < (8 : Int32) then (g_ck (((8 : Int32) * a2) + v3) 184 (
 g_ck (((8 : Int32) * a1) + v3) 184 (
 g_let (g_sI mem 31 (((8 : Int32) * a1) + v3).toNatClampNeg (mem.1 31 (((8 : Int32) * a2) + v3).toNatClampNeg)) (fun m20 =>
 g_let (v3 + (1 : Int32)) (fun x21 =>
 s141 x21 m20)))))
 else (f11_copies_b177 F a1 a2 (0 : Int32) mem)

def f11_copies_b141 (F : Nat) (a1 : Int32) (a2 : Int32) (v3 : Int32) (mem : g_M) : Option (g_M) :=
  g_fix (fun sf x => f11_copies_b141_body F a1 a2 (fun v3 mem => sf (v3, mem)) x.1 x.2) F (v3, mem)

def f11_copies_b83_body (F : Nat) (a1 : Int32) (a2 : Int32) (s83 : Int32 → g_M → Option (g_M)) (v3 : Int32) (mem : g_M) : Option (g_M) :=
 if v3 < (25 : Int32) then (g_ck (((25 : Int32) * a2) + v3) 575 (
 g_ck (((25 : Int32) * a1) + v3) 575 (
 g_let (g_sI mem 29 (((25 : Int32) * a1) + v3).toNatClampNeg (mem.1 29 (((25 : Int32) * a2) + v3).toNatClampNeg)) (fun m25 =>
 g_ck (((25 : Int32) * a2) + v3) 575 (
 g_ck (((25 : Int32) * a1) + v3) 575 (
 g_let (g_sI m25 30 (((25 : Int32) * a1) + v3).toNatClampNeg (m25.1 30 (((25 : Int32) * a2) + v3).toNatClampNeg)) (fun m28 =>
 g_let (v3 + (1 : Int32)) (fun x29 =>
 s83 x29 m28))))))))
 else (f11_copies_b141 F a1 a2 (0 : Int32) mem)

def f11_copies_b83 (F : Nat) (a1 : Int32) (a2 : Int32) (v3 : Int32) (mem : g_M) : Option (g_M) :=
  g_fix (fun sf x => f11_copies_b83_body F a1 a2 (fun v3 mem => sf (v3, mem)) x.1 x.2) F (v3, mem)

def f11_copies_b50_body (F : Nat) (a1 : Int32) (a2 : Int32) (s50 : Int32 → g_M → Option (g_M)) (v3 : Int32) (mem : g_M) : Option (g_M) :=
 if v3 < (5 : Int32) then (g_ck (((5 : Int32) * a2) + v3) 115 (
 g_ck (((5 : Int32) * a1) + v3) 115 (
 g_let (g_sI mem 28 (((5 : Int32) * a1) + v3).toNatClampNeg (mem.1 28 (((5 : Int32) * a2) + v3).toNatClampNeg)) (fun m33 =>
 g_let (v3 + (1 : Int32)) (fun x34 =>
 s50 x34 m33)))))
 else (f11_copies_b83 F a1 a2 (0 : Int32) mem)

def f11_copies_b50 (F : Nat) (a1 : Int32) (a2 : Int32) (v3 : Int32) (mem : g_M) : Option (g_M) :=
  g_fix (fun sf x => f11_copies_b50_body F a1 a2 (fun v3 mem => sf (v3, mem)) x.1 x.2) F (v3, mem)

def f11_copies (F : Nat) (a1 : Int32) (a2 : Int32) (mem : g_M) : Option (g_M) :=
 g_ck a2 23 (
 g_ck a1 23 (
 g_let (g_sI mem 24 a1.toNatClampNeg (mem.1 24 a2.toNatClampNeg)) (fun m37 =>
 g_ck a2 23 (
 g_ck a1 23 (
 g_let (g_sI m37 25 a1.toNatClampNeg (m37.1 25 a2.toNatClampNeg)) (fun m40 =>
 g_ck a2 23 (
 g_ck a1 23 (
 g_let (g_sI m40 26 a1.toNatClampNeg (m40.1 26 a2.toNatClampNeg)) (fun m43 =>
 g_ck a2 23 (
 g_ck a1 23 (
 g_let (g_sI m43 27 a1.toNatClampNeg (m43.1 27 a2.toNatClampNeg)) (fun m46 =>
 f11_copies_b50 F a1 a2 (0 : Int32) m46))))))))))))

def f11_isMan (F : Nat) (a1 : Int32) (mem : g_M) : Option (Int32) :=
 if (0 : Int32) ≤ a1 then (g_ck (0 : Int32) 18 (
 if a1 < (mem.1 2 (0 : Int32).toNatClampNeg) then (some (1 : Int32))
 else (some (0 : Int32))))
 else (some (0 : Int32))

def f11_isSort (F : Nat) (a1 : Int32) (mem : g_M) : Option (Int32) :=
 if (0 : Int32) ≤ a1 then (g_ck (1 : Int32) 18 (
 if a1 < (mem.1 2 (1 : Int32).toNatClampNeg) then (some (1 : Int32))
 else (some (0 : Int32))))
 else (some (0 : Int32))

def f11_isDeed (F : Nat) (a1 : Int32) (mem : g_M) : Option (Int32) :=
 if (0 : Int32) ≤ a1 then (g_ck (2 : Int32) 18 (
 if a1 < (mem.1 2 (2 : Int32).toNatClampNeg) then (some (1 : Int32))
 else (some (0 : Int32))))
 else (some (0 : Int32))

def f11_isSending (F : Nat) (a1 : Int32) (mem : g_M) : Option (Int32) :=
 if (0 : Int32) ≤ a1 then (g_ck (0 : Int32) 23 (
 if a1 < (mem.1 27 (0 : Int32).toNatClampNeg) then (some (1 : Int32))
 else (some (0 : Int32))))
 else (some (0 : Int32))

def f11_isPort_b9 (F : Nat) (a0 : Int32) (mem : g_M) : Option (Int32) :=
 some (1 : Int32)

def f11_isPort (F : Nat) (a0 : Int32) (mem : g_M) : Option (Int32) :=
 if a0 = (0 : Int32) then (f11_isPort_b9 F a0 mem)
 else (if a0 = (1 : Int32) then (f11_isPort_b9 F a0 mem)
 else (some (0 : Int32)))

def f11_bitsOf_b4_body (F : Nat) (a0 : Int32) (s4 : Int32 → Int32 → Option (Int32)) (mem : g_M) (v1 : Int32) (v2 : Int32) : Option (Int32) :=
 if v2 < (26 : Int32) then (g_let ((v1 + ((a0 >>> (v2 &&& 31)) &&& (1 : Int32)))) (fun x2 =>
 g_let (v2 + (1 : Int32)) (fun x3 =>
 s4 x2 x3)))
 else (some v1)

def f11_bitsOf_b4 (F : Nat) (a0 : Int32) (mem : g_M) (v1 : Int32) (v2 : Int32) : Option (Int32) :=
  g_fix (fun sf x => f11_bitsOf_b4_body F a0 (fun v1 v2 => sf (v1, v2)) mem x.1 x.2) F (v1, v2)

def f11_bitsOf (F : Nat) (a0 : Int32) (mem : g_M) : Option (Int32) :=
 f11_bitsOf_b4 F a0 mem (0 : Int32) (0 : Int32)

def f11_awayOf_b5_body (F : Nat) (a1 : Int32) (a2 : Int32) (s5 : Int32 → Int32 → Option (Int32)) (mem : g_M) (v3 : Int32) (v4 : Int32) : Option (Int32) :=
 g_ck (1 : Int32) 18 (
 if v4 < (mem.1 2 (1 : Int32).toNatClampNeg) then (g_ck ((((25 : Int32) * a1) + ((5 : Int32) * a2)) + v4) 575 (
 g_let ((v3 + (mem.1 30 ((((25 : Int32) * a1) + ((5 : Int32) * a2)) + v4).toNatClampNeg))) (fun x4 =>
 g_let (v4 + (1 : Int32)) (fun x5 =>
 s5 x4 x5))))
 else (some v3))

def f11_awayOf_b5 (F : Nat) (a1 : Int32) (a2 : Int32) (mem : g_M) (v3 : Int32) (v4 : Int32) : Option (Int32) :=
  g_fix (fun sf x => f11_awayOf_b5_body F a1 a2 (fun v3 v4 => sf (v3, v4)) mem x.1 x.2) F (v3, v4)

def f11_awayOf (F : Nat) (a1 : Int32) (a2 : Int32) (mem : g_M) : Option (Int32) :=
 f11_awayOf_b5 F a1 a2 mem (0 : Int32) (0 : Int32)

def f11_boardOf_b4_body (F : Nat) (a1 : Int32) (s4 : Int32 → Int32 → Option (Int32)) (mem : g_M) (v2 : Int32) (v3 : Int32) : Option (Int32) :=
 g_ck (0 : Int32) 18 (
 if v3 < (mem.1 2 (0 : Int32).toNatClampNeg) then (g_let ((v2 + (((mem.1 0 56) >>> ((((5 : Int32) * v3) + a1) &&& 31)) &&& (1 : Int32)))) (fun x3 =>
 g_let (v3 + (1 : Int32)) (fun x4 =>
 s4 x3 x4)))
 else (some v2))

def f11_boardOf_b4 (F : Nat) (a1 : Int32) (mem : g_M) (v2 : Int32) (v3 : Int32) : Option (Int32) :=
  g_fix (fun sf x => f11_boardOf_b4_body F a1 (fun v2 v3 => sf (v2, v3)) mem x.1 x.2) F (v2, v3)

def f11_boardOf (F : Nat) (a1 : Int32) (mem : g_M) : Option (Int32) :=
 f11_boardOf_b4 F a1 mem (0 : Int32) (0 : Int32)

def f11_calls_b69 (F : Nat) (a1 : Int32) (a2 : Int32) (a3 : Int32) (a4 : Int32) (a5 : Int32) (w1 : Int32) (w2 : Int64) (mem : g_M) : Option (g_M) :=
 g_ck w1 7 (
 g_let (g_sL mem 22 w1.toNatClampNeg w2) (fun m2 =>
 (f11_bitsOf F (m2.1 0 56) m2).bind (fun r3 =>
 g_ck (3 : Int32) 7 (
 g_let (g_sL m2 22 (3 : Int32).toNatClampNeg r3.toInt64) (fun m5 =>
 g_ck (4 : Int32) 7 (
 g_let (g_sL m5 22 (4 : Int32).toNatClampNeg a4.toInt64) (fun m7 =>
 g_ck (5 : Int32) 7 (
 g_let (g_sL m7 22 (5 : Int32).toNatClampNeg a5.toInt64) (fun m9 =>
 g_ck a1 23 (
 g_ck (6 : Int32) 7 (
 g_let (g_sL m9 22 (6 : Int32).toNatClampNeg (m9.1 24 a1.toNatClampNeg).toInt64) (fun m12 =>
 some m12))))))))))))

def f11_calls_b43 (F : Nat) (a1 : Int32) (a2 : Int32) (a3 : Int32) (a4 : Int32) (a5 : Int32) (w1 : Int32) (w2 : Int64) (mem : g_M) : Option (g_M) :=
 g_ck w1 7 (
 g_let (g_sL mem 22 w1.toNatClampNeg w2) (fun m14 =>
 if a2 = (-1 : Int32) then (f11_calls_b69 F a1 a2 a3 a4 a5 (2 : Int32) (0 : Int64) m14)
 else (g_ck (((5 : Int32) * a1) + a2) 115 (
 f11_calls_b69 F a1 a2 a3 a4 a5 (2 : Int32) (m14.1 28 (((5 : Int32) * a1) + a2).toNatClampNeg).toInt64 m14))))

def f11_calls_b21 (F : Nat) (a1 : Int32) (a2 : Int32) (a3 : Int32) (a4 : Int32) (a5 : Int32) (w1 : Int32) (w2 : Int64) (mem : g_M) : Option (g_M) :=
 g_ck w1 7 (
 g_let (g_sL mem 22 w1.toNatClampNeg w2) (fun m18 =>
 if a3 = (-1 : Int32) then (f11_calls_b43 F a1 a2 a3 a4 a5 (1 : Int32) (0 : Int64) m18)
 else (g_ck a3 10 (
 f11_calls_b43 F a1 a2 a3 a4 a5 (1 : Int32) (m18.1 7 a3.toNatClampNeg).toInt64 m18))))

def f11_calls (F : Nat) (a1 : Int32) (a2 : Int32) (a3 : Int32) (a4 : Int32) (a5 : Int32) (mem : g_M) : Option (g_M) :=
 if a3 = (-1 : Int32) then (f11_calls_b21 F a1 a2 a3 a4 a5 (0 : Int32) (0 : Int64) mem)
 else (g_ck a3 10 (
 f11_calls_b21 F a1 a2 a3 a4 a5 (0 : Int32) (mem.1 6 a3.toNatClampNeg).toInt64 mem))

def f11_within (F : Nat) (a1 : Int32) (a2 : Int32) (a3 : Int32) (mem : g_M) : Option (Int32 × g_M) :=
 (f11_hasLaw F a1 mem).bind (fun r1 =>
 if r1 = (0 : Int32) then (some (a3, mem))
 else ((f11_goes F a1 mem).bind (fun r3 =>
 if r3.1 = (0 : Int32) then (some (a3, r3.2))
 else (g_ck (0 : Int32) 64 (
 some ((if (if (r3.2.2.1 23 (0 : Int32).toNatClampNeg) < a2.toInt64 then (r3.2.2.1 23 (0 : Int32).toNatClampNeg) else a2.toInt64) < (0 : Int64) then (0 : Int64) else (if (r3.2.2.1 23 (0 : Int32).toNatClampNeg) < a2.toInt64 then (r3.2.2.1 23 (0 : Int32).toNatClampNeg) else a2.toInt64)).toInt32, r3.2))))))

def f11_canDo_b52 (F : Nat) (a1 : Int32) (a2 : Int32) (a3 : Int32) (a4 : Int32) (s3 : Int32 → Option (Int32)) (mem : g_M) (v5 : Int32) : Option (Int32) :=
 g_let (v5 + (1 : Int32)) (fun x1 =>
 s3 x1)

def f11_canDo_b3_body (F : Nat) (a1 : Int32) (a2 : Int32) (a3 : Int32) (a4 : Int32) (s3 : Int32 → Option (Int32)) (mem : g_M) (v5 : Int32) : Option (Int32) :=
 g_ck (1 : Int32) 18 (
 if v5 < (mem.1 2 (1 : Int32).toNatClampNeg) then (g_ck a3 10 (
 if (((mem.1 9 a3.toNatClampNeg) >>> (v5 &&& 31)) &&& (1 : Int32)) = (1 : Int32) then (g_ck ((((25 : Int32) * a1) + ((5 : Int32) * a2)) + v5) 575 (
 if (mem.1 30 ((((25 : Int32) * a1) + ((5 : Int32) * a2)) + v5).toNatClampNeg) = a4 then (f11_canDo_b52 F a1 a2 a3 a4 s3 mem v5)
 else (some (0 : Int32))))
 else (f11_canDo_b52 F a1 a2 a3 a4 s3 mem v5)))
 else (some (1 : Int32)))

def f11_canDo_b3 (F : Nat) (a1 : Int32) (a2 : Int32) (a3 : Int32) (a4 : Int32) (mem : g_M) (v5 : Int32) : Option (Int32) :=
  g_fix (fun sf x => f11_canDo_b3_body F a1 a2 a3 a4 (fun v5 => sf v5) mem x) F v5

def f11_canDo (F : Nat) (a1 : Int32) (a2 : Int32) (a3 : Int32) (a4 : Int32) (mem : g_M) : Option (Int32) :=
 f11_canDo_b3 F a1 a2 a3 a4 mem (0 : Int32)

def f11_wants (F : Nat) (a1 : Int32) (a2 : Int32) (mem : g_M) : Option (g_M) :=
 g_ck a2 16 (
 g_let ((mem.1 13 a2.toNatClampNeg)) (fun x2 =>
 g_ck a2 16 (
 g_ck a2 16 (
 (f11_canDo F a1 x2 (mem.1 14 a2.toNatClampNeg) (mem.1 15 a2.toNatClampNeg) mem).bind (fun r5 =>
 if r5 = (0 : Int32) then (g_ck (((8 : Int32) * a1) + a2) 184 (
 g_let (g_sI mem 31 (((8 : Int32) * a1) + a2).toNatClampNeg (2 : Int32)) (fun m8 =>
 some m8)))
 else (g_ck (((8 : Int32) * a1) + a2) 184 (
 g_let (g_sI mem 31 (((8 : Int32) * a1) + a2).toNatClampNeg (1 : Int32)) (fun m10 =>
 (f11_awayOf F a1 x2 m10).bind (fun r11 =>
 g_ck a2 16 (
 (f11_calls F a1 x2 (-1 : Int32) r11 (m10.1 17 a2.toNatClampNeg) m10).bind (fun r13 =>
 g_ck (((5 : Int32) * a1) + x2) 115 (
 g_ck a2 16 (
 (f11_within F (1 : Int32) (999 : Int32) (r13.1 17 a2.toNatClampNeg) r13).bind (fun r16 =>
 g_ck (((5 : Int32) * a1) + x2) 115 (
 g_let (g_sI r16.2 28 (((5 : Int32) * a1) + x2).toNatClampNeg (if ((r13.1 28 (((5 : Int32) * a1) + x2).toNatClampNeg) + r16.1) < (99999 : Int32) then ((r13.1 28 (((5 : Int32) * a1) + x2).toNatClampNeg) + r16.1) else (99999 : Int32))) (fun m18 =>
 some m18))))))))))))))))

def f11_fareOf (F : Nat) (a1 : Int32) (a2 : Int32) (a3 : Int32) (mem : g_M) : Option (Int32 × g_M) :=
 if (mem.1 0 53) = (4 : Int32) then (some ((0 : Int32), mem))
 else ((f11_awayOf F a1 a2 mem).bind (fun r2 =>
 (f11_calls F a1 a2 a3 r2 (0 : Int32) mem).bind (fun r3 =>
 g_ck a3 10 (
 (f11_within F (0 : Int32) (999 : Int32) (r3.1 7 a3.toNatClampNeg) r3).bind (fun r5 =>
 some (r5.1, r5.2))))))

def f11_isDue (F : Nat) (a1 : Int32) (a2 : Int32) (mem : g_M) : Option (Int32) :=
 g_ck (((12 : Int32) * a1) + a2) 276 (
 if (mem.1 35 (((12 : Int32) * a1) + a2).toNatClampNeg) = (0 : Int32) then (g_ck (((12 : Int32) * a1) + a2) 276 (
 g_ck a1 23 (
 if (mem.1 34 (((12 : Int32) * a1) + a2).toNatClampNeg) ≤ (mem.1 24 a1.toNatClampNeg) then (some (1 : Int32))
 else (some (0 : Int32)))))
 else (some (0 : Int32)))

def f11_isAtBoat (F : Nat) (a1 : Int32) (a2 : Int32) (a3 : Int32) (mem : g_M) : Option (Int32) :=
 g_ck ((((25 : Int32) * a1) + ((5 : Int32) * a2)) + a3) 575 (
 g_ck a1 23 (
 if (mem.1 30 ((((25 : Int32) * a1) + ((5 : Int32) * a2)) + a3).toNatClampNeg) = ((mem.1 24 a1.toNatClampNeg) - (mem.1 24 a1.toNatClampNeg) / (2 : Int32) * (2 : Int32)) then (some (1 : Int32))
 else (some (0 : Int32))))

def f11_loads_b229 (F : Nat) (a1 : Int32) (s37 : Int32 → Int32 → g_M → Option (g_M)) (v2 : Int32) (v3 : Int32) (mem : g_M) : Option (g_M) :=
 g_let (v3 + (1 : Int32)) (fun x1 =>
 s37 v2 x1 mem)

def f11_loads_b99 (F : Nat) (a1 : Int32) (s37 : Int32 → Int32 → g_M → Option (g_M)) (v2 : Int32) (v3 : Int32) (v4 : Int32) (v5 : Int32) (mem : g_M) : Option (g_M) :=
 (f11_isAtBoat F a1 v4 v5 mem).bind (fun r2 =>
 if r2 = (0 : Int32) then (f11_loads_b229 F a1 s37 v2 v3 mem)
 else (if (((mem.1 0 56) >>> ((((5 : Int32) * v4) + v5) &&& 31)) &&& (1 : Int32)) = (1 : Int32) then (f11_loads_b229 F a1 s37 v2 v3 mem)
 else (g_ck v5 10 (
 if v2 < (mem.1 6 v5.toNatClampNeg) then (f11_loads_b229 F a1 s37 v2 v3 mem)
 else ((f11_fareOf F a1 v4 v5 mem).bind (fun r7 =>
 g_let (r7.1) (fun x8 =>
 g_ck (((5 : Int32) * a1) + v4) 115 (
 if (r7.2.1 28 (((5 : Int32) * a1) + v4).toNatClampNeg) < x8 then (f11_loads_b229 F a1 s37 v2 v3 r7.2)
 else (g_ck (((5 : Int32) * a1) + v4) 115 (
 g_ck (((5 : Int32) * a1) + v4) 115 (
 g_let (g_sI r7.2 28 (((5 : Int32) * a1) + v4).toNatClampNeg ((r7.2.1 28 (((5 : Int32) * a1) + v4).toNatClampNeg) - x8)) (fun m13 =>
 g_ck v5 10 (
 g_let ((v2 - (m13.1 6 v5.toNatClampNeg))) (fun x15 =>
 g_let (g_sI m13 0 56 ((m13.1 0 56) ||| ((1 : Int32) <<< ((((5 : Int32) * v4) + v5) &&& 31)))) (fun m16 =>
 g_ck (((12 : Int32) * a1) + v3) 276 (
 g_let (g_sI m16 35 (((12 : Int32) * a1) + v3).toNatClampNeg (1 : Int32)) (fun m18 =>
 f11_loads_b229 F a1 s37 x15 v3 m18)))))))))))))))))

def f11_loads_b37_body (F : Nat) (a1 : Int32) (s37 : Int32 → Int32 → g_M → Option (g_M)) (v2 : Int32) (v3 : Int32) (mem : g_M) : Option (g_M) :=
 g_ck a1 23 (
 if v3 < (mem.1 27 a1.toNatClampNeg) then (g_ck (((12 : Int32) * a1) + v3) 276 (
 g_let ((mem.1 32 (((12 : Int32) * a1) + v3).toNatClampNeg)) (fun x22 =>
 g_ck (((12 : Int32) * a1) + v3) 276 (
 g_let ((mem.1 33 (((12 : Int32) * a1) + v3).toNatClampNeg)) (fun x24 =>
 (f11_isDue F a1 v3 mem).bind (fun r25 =>
 if r25 = (0 : Int32) then (f11_loads_b229 F a1 s37 v2 v3 mem)
 else (if (mem.1 0 53) = (2 : Int32) then (if x22 = (mem.1 0 54) then (f11_loads_b229 F a1 s37 v2 v3 mem)
 else (f11_loads_b99 F a1 s37 v2 v3 x22 x24 mem))
 else (f11_loads_b99 F a1 s37 v2 v3 x22 x24 mem))))))))
 else (some mem))

def f11_loads_b37 (F : Nat) (a1 : Int32) (v2 : Int32) (v3 : Int32) (mem : g_M) : Option (g_M) :=
  g_fix (fun sf x => f11_loads_b37_body F a1 (fun v2 v3 mem => sf (v2, v3, mem)) x.1 x.2.1 x.2.2) F (v2, v3, mem)

def f11_loads_b34 (F : Nat) (a1 : Int32) (w0 : Int32) (mem : g_M) : Option (g_M) :=
 f11_loads_b37 F a1 w0 (0 : Int32) mem

def f11_loads (F : Nat) (a1 : Int32) (mem : g_M) : Option (g_M) :=
 if (mem.1 0 53) = (3 : Int32) then (f11_loads_b34 F a1 (99 : Int32) mem)
 else (if (mem.1 0 55) = (-1 : Int32) then (g_ck (5 : Int32) 18 (
 f11_loads_b34 F a1 (mem.1 2 (5 : Int32).toNatClampNeg) mem))
 else (f11_loads_b34 F a1 (mem.1 0 55) mem))

def f11_doesStorm_b34 (F : Nat) (a1 : Int32) (a2 : Int32) (v3 : Int32) (mem : g_M) : Option (Int32 × g_M) :=
 if (50 : Int32) ≤ v3 then (some ((1 : Int32), mem))
 else (some ((0 : Int32), mem))

def f11_doesStorm_b19 (F : Nat) (a1 : Int32) (a2 : Int32) (w0 : Int32) (mem : g_M) : Option (Int32 × g_M) :=
 if a2 = (0 : Int32) then (f11_doesStorm_b34 F a1 a2 w0 mem)
 else (if w0 = (0 : Int32) then (f11_doesStorm_b34 F a1 a2 w0 mem)
 else (if w0 = (100 : Int32) then (f11_doesStorm_b34 F a1 a2 w0 mem)
 else (g_ck a1 23 (
 g_ck a1 23 (
 g_let (g_sI mem 25 a1.toNatClampNeg ((((mem.1 25 a1.toNatClampNeg) * (1103515245 : Int32)) + (12345 : Int32)) &&& (2147483647 : Int32))) (fun m7 =>
 g_ck a1 23 (
 if (((m7.1 25 a1.toNatClampNeg) >>> ((16 : Int32) &&& 31)) - ((m7.1 25 a1.toNatClampNeg) >>> ((16 : Int32) &&& 31)) / (100 : Int32) * (100 : Int32)) < w0 then (some ((1 : Int32), m7))
 else (some ((0 : Int32), m7)))))))))

def f11_doesStorm (F : Nat) (a1 : Int32) (a2 : Int32) (mem : g_M) : Option (Int32 × g_M) :=
 if (mem.1 0 53) = (1 : Int32) then (f11_doesStorm_b19 F a1 a2 (0 : Int32) mem)
 else (g_ck (6 : Int32) 18 (
 f11_doesStorm_b19 F a1 a2 (mem.1 2 (6 : Int32).toNatClampNeg) mem))

def f11_mixes_b145 (F : Nat) (a1 : Int32) (a2 : Int32) (s46 : Int32 → Int32 → g_M → Option (g_M)) (v3 : Int32) (v4 : Int32) (mem : g_M) : Option (g_M) :=
 g_let (v4 + (1 : Int32)) (fun x1 =>
 s46 v3 x1 mem)

def f11_mixes_b46_body (F : Nat) (a1 : Int32) (a2 : Int32) (s46 : Int32 → Int32 → g_M → Option (g_M)) (v3 : Int32) (v4 : Int32) (mem : g_M) : Option (g_M) :=
 g_ck (0 : Int32) 18 (
 if v4 < (mem.1 2 (0 : Int32).toNatClampNeg) then (if (((mem.1 0 56) >>> ((((5 : Int32) * v4) + a2) &&& 31)) &&& (1 : Int32)) = (0 : Int32) then (f11_mixes_b145 F a1 a2 s46 v3 v4 mem)
 else (if v3 = (-1 : Int32) then (f11_mixes_b145 F a1 a2 s46 v4 v4 mem)
 else (g_let (((((25 : Int32) * a1) + ((5 : Int32) * v3)) + a2)) (fun x6 =>
 g_let (((((25 : Int32) * a1) + ((5 : Int32) * v4)) + a2)) (fun x7 =>
 g_ck x6 575 (
 g_let ((mem.1 29 x6.toNatClampNeg)) (fun x9 =>
 g_ck x7 575 (
 g_ck x6 575 (
 g_let (g_sI mem 29 x6.toNatClampNeg (mem.1 29 x7.toNatClampNeg)) (fun m12 =>
 g_ck x7 575 (
 g_let (g_sI m12 29 x7.toNatClampNeg x9) (fun m14 =>
 some m14))))))))))))
 else (some mem))

def f11_mixes_b46 (F : Nat) (a1 : Int32) (a2 : Int32) (v3 : Int32) (v4 : Int32) (mem : g_M) : Option (g_M) :=
  g_fix (fun sf x => f11_mixes_b46_body F a1 a2 (fun v3 v4 mem => sf (v3, v4, mem)) x.1 x.2.1 x.2.2) F (v3, v4, mem)

def f11_mixes_b41 (F : Nat) (a1 : Int32) (a2 : Int32) (mem : g_M) : Option (g_M) :=
 f11_mixes_b46 F a1 a2 (-1 : Int32) (0 : Int32) mem

def f11_mixes (F : Nat) (a1 : Int32) (a2 : Int32) (mem : g_M) : Option (g_M) :=
 (f11_boardOf F a2 mem).bind (fun r15 =>
 (f11_calls F a1 (-1 : Int32) a2 r15 (0 : Int32) mem).bind (fun r16 =>
 (f11_hasLaw F (2 : Int32) r16).bind (fun r17 =>
 if r17 = (0 : Int32) then (f11_mixes_b41 F a1 a2 r16)
 else ((f11_goes F (2 : Int32) r16).bind (fun r19 =>
 if r19.1 = (0 : Int32) then (f11_mixes_b41 F a1 a2 r19.2)
 else (g_ck (0 : Int32) 64 (
 if (lg_cmp (r19.2.2.1 23 (0 : Int32).toNatClampNeg) (0 : Int64)) = (0 : Int32) then (some r19.2)
 else (f11_mixes_b41 F a1 a2 r19.2))))))))

def f11_passes_b38 (F : Nat) (a1 : Int32) (a2 : Int32) (s7 : Int32 → g_M → Option (g_M)) (v3 : Int32) (mem : g_M) : Option (g_M) :=
 g_let (v3 + (1 : Int32)) (fun x1 =>
 s7 x1 mem)

def f11_passes_b136 (F : Nat) (a1 : Int32) (a2 : Int32) (s94 : Int32 → g_M → Option (g_M)) (v3 : Int32) (mem : g_M) : Option (g_M) :=
 g_let (v3 + (1 : Int32)) (fun x2 =>
 s94 x2 mem)

def f11_passes_b94_body (F : Nat) (a1 : Int32) (a2 : Int32) (s94 : Int32 → g_M → Option (g_M)) (v3 : Int32) (mem : g_M) : Option (g_M) :=
 if v3 < (25 : Int32) then (if (((mem.1 0 56) >>> (v3 &&& 31)) &&& (1 : Int32)) = (1 : Int32) then (g_ck (((25 : Int32) * a1) + v3) 575 (
 g_ck (((25 : Int32) * a1) + v3) 575 (
 g_let (g_sI mem 30 (((25 : Int32) * a1) + v3).toNatClampNeg ((1 : Int32) - (mem.1 30 (((25 : Int32) * a1) + v3).toNatClampNeg))) (fun m7 =>
 f11_passes_b136 F a1 a2 s94 v3 m7))))
 else (f11_passes_b136 F a1 a2 s94 v3 mem))
 else (g_let (g_sI mem 0 56 (0 : Int32)) (fun m8 =>
 g_ck a1 23 (
 g_ck a1 23 (
 g_let (g_sI m8 24 a1.toNatClampNeg ((m8.1 24 a1.toNatClampNeg) + (1 : Int32))) (fun m11 =>
 some m11)))))

def f11_passes_b94 (F : Nat) (a1 : Int32) (a2 : Int32) (v3 : Int32) (mem : g_M) : Option (g_M) :=
  g_fix (fun sf x => f11_passes_b94_body F a1 a2 (fun v3 mem => sf (v3, mem)) x.1 x.2) F (v3, mem)

def f11_passes_b92 (F : Nat) (a1 : Int32) (a2 : Int32) (mem : g_M) : Option (g_M) :=
 f11_passes_b94 F a1 a2 (0 : Int32) mem

def f11_passes_b70_body (F : Nat) (a1 : Int32) (a2 : Int32) (s70 : Int32 → g_M → Option (g_M)) (v3 : Int32) (mem : g_M) : Option (g_M) :=
 g_ck (1 : Int32) 18 (
 if v3 < (mem.1 2 (1 : Int32).toNatClampNeg) then ((f11_mixes F a1 v3 mem).bind (fun r14 =>
 g_let (v3 + (1 : Int32)) (fun x15 =>
 s70 x15 r14)))
 else (f11_passes_b92 F a1 a2 mem))

def f11_passes_b70 (F : Nat) (a1 : Int32) (a2 : Int32) (v3 : Int32) (mem : g_M) : Option (g_M) :=
  g_fix (fun sf x => f11_passes_b70_body F a1 a2 (fun v3 mem => sf (v3, mem)) x.1 x.2) F (v3, mem)

def f11_passes_b7_body (F : Nat) (a1 : Int32) (a2 : Int32) (s7 : Int32 → g_M → Option (g_M)) (v3 : Int32) (mem : g_M) : Option (g_M) :=
 g_ck (4 : Int32) 18 (
 if v3 < (mem.1 2 (4 : Int32).toNatClampNeg) then (g_ck v3 16 (
 g_ck a1 23 (
 if (mem.1 16 v3.toNatClampNeg) = (mem.1 24 a1.toNatClampNeg) then ((f11_wants F a1 v3 mem).bind (fun r21 =>
 f11_passes_b38 F a1 a2 s7 v3 r21))
 else (f11_passes_b38 F a1 a2 s7 v3 mem))))
 else ((f11_loads F a1 mem).bind (fun r22 =>
 (f11_doesStorm F a1 a2 r22).bind (fun r23 =>
 if r23.1 = (0 : Int32) then (f11_passes_b92 F a1 a2 r23.2)
 else (g_ck a1 23 (
 g_ck a1 23 (
 g_let (g_sI r23.2 26 a1.toNatClampNeg ((r23.2.1 26 a1.toNatClampNeg) + (1 : Int32))) (fun m27 =>
 f11_passes_b70 F a1 a2 (0 : Int32) m27))))))))

def f11_passes_b7 (F : Nat) (a1 : Int32) (a2 : Int32) (v3 : Int32) (mem : g_M) : Option (g_M) :=
  g_fix (fun sf x => f11_passes_b7_body F a1 a2 (fun v3 mem => sf (v3, mem)) x.1 x.2) F (v3, mem)

def f11_passes (F : Nat) (a1 : Int32) (a2 : Int32) (mem : g_M) : Option (g_M) :=
 g_let (g_sI mem 0 56 (0 : Int32)) (fun m28 =>
 f11_passes_b7 F a1 a2 (0 : Int32) m28)

def f11_goesOn_b2_body (F : Nat) (a1 : Int32) (s2 : Int32 → g_M → Option (g_M)) (v2 : Int32) (mem : g_M) : Option (g_M) :=
 if v2 < a1 then ((f11_passes F (1 : Int32) (0 : Int32) mem).bind (fun r2 =>
 g_let (v2 + (1 : Int32)) (fun x3 =>
 s2 x3 r2)))
 else (some mem)

def f11_goesOn_b2 (F : Nat) (a1 : Int32) (v2 : Int32) (mem : g_M) : Option (g_M) :=
  g_fix (fun sf x => f11_goesOn_b2_body F a1 (fun v2 mem => sf (v2, mem)) x.1 x.2) F (v2, mem)

def f11_goesOn (F : Nat) (a1 : Int32) (mem : g_M) : Option (g_M) :=
 f11_goesOn_b2 F a1 (0 : Int32) mem

def f11_runs (F : Nat) (a1 : Int32) (mem : g_M) : Option (g_M) :=
 (f11_copies F (1 : Int32) (0 : Int32) mem).bind (fun r1 =>
 (f11_goesOn F a1 r1).bind (fun r2 =>
 some r2))

def f11_outcomes_b38 (F : Nat) (a1 : Int32) (a2 : Int32) (s5 : Int32 → Int32 → Option (Int32)) (mem : g_M) (v4 : Int32) (w0 : Int32) (w1 : Int32) : Option (Int32) :=
 g_let ((w0 + w1)) (fun x1 =>
 g_let (v4 + (1 : Int32)) (fun x2 =>
 s5 x1 x2))

def f11_outcomes_b5_body (F : Nat) (a1 : Int32) (a2 : Int32) (s5 : Int32 → Int32 → Option (Int32)) (mem : g_M) (v3 : Int32) (v4 : Int32) : Option (Int32) :=
 g_ck (4 : Int32) 18 (
 if v4 < (mem.1 2 (4 : Int32).toNatClampNeg) then (g_ck (((8 : Int32) * a1) + v4) 184 (
 if (mem.1 31 (((8 : Int32) * a1) + v4).toNatClampNeg) = a2 then (f11_outcomes_b38 F a1 a2 s5 mem v4 v3 (1 : Int32))
 else (f11_outcomes_b38 F a1 a2 s5 mem v4 v3 (0 : Int32))))
 else (some v3))

def f11_outcomes_b5 (F : Nat) (a1 : Int32) (a2 : Int32) (mem : g_M) (v3 : Int32) (v4 : Int32) : Option (Int32) :=
  g_fix (fun sf x => f11_outcomes_b5_body F a1 a2 (fun v3 v4 => sf (v3, v4)) mem x.1 x.2) F (v3, v4)

def f11_outcomes (F : Nat) (a1 : Int32) (a2 : Int32) (mem : g_M) : Option (Int32) :=
 f11_outcomes_b5 F a1 a2 mem (0 : Int32) (0 : Int32)

def f11_goneMany_b35 (F : Nat) (a1 : Int32) (s4 : Int32 → Int32 → Option (Int32)) (mem : g_M) (v3 : Int32) (w0 : Int32) (w1 : Int32) : Option (Int32) :=
 g_let ((w0 + w1)) (fun x1 =>
 g_let (v3 + (1 : Int32)) (fun x2 =>
 s4 x1 x2))

def f11_goneMany_b4_body (F : Nat) (a1 : Int32) (s4 : Int32 → Int32 → Option (Int32)) (mem : g_M) (v2 : Int32) (v3 : Int32) : Option (Int32) :=
 g_ck a1 23 (
 if v3 < (mem.1 27 a1.toNatClampNeg) then (g_ck (((12 : Int32) * a1) + v3) 276 (
 if (mem.1 35 (((12 : Int32) * a1) + v3).toNatClampNeg) = (1 : Int32) then (f11_goneMany_b35 F a1 s4 mem v3 v2 (1 : Int32))
 else (f11_goneMany_b35 F a1 s4 mem v3 v2 (0 : Int32))))
 else (some v2))

def f11_goneMany_b4 (F : Nat) (a1 : Int32) (mem : g_M) (v2 : Int32) (v3 : Int32) : Option (Int32) :=
  g_fix (fun sf x => f11_goneMany_b4_body F a1 (fun v2 v3 => sf (v2, v3)) mem x.1 x.2) F (v2, v3)

def f11_goneMany (F : Nat) (a1 : Int32) (mem : g_M) : Option (Int32) :=
 f11_goneMany_b4 F a1 mem (0 : Int32) (0 : Int32)

def f11_mixedMany_b54 (F : Nat) (a1 : Int32) (s17 : Int32 → Int32 → Int32 → Option (Int32)) (mem : g_M) (v3 : Int32) (v4 : Int32) (w0 : Int32) (w1 : Int32) : Option (Int32) :=
 g_let ((w0 + w1)) (fun x1 =>
 g_let (v4 + (1 : Int32)) (fun x2 =>
 s17 x1 v3 x2))

def f11_mixedMany_b17_body (F : Nat) (a1 : Int32) (s4 : Int32 → Int32 → Option (Int32)) (s17 : Int32 → Int32 → Int32 → Option (Int32)) (mem : g_M) (v2 : Int32) (v3 : Int32) (v4 : Int32) : Option (Int32) :=
 g_ck (1 : Int32) 18 (
 if v4 < (mem.1 2 (1 : Int32).toNatClampNeg) then (g_ck ((((25 : Int32) * a1) + ((5 : Int32) * v3)) + v4) 575 (
 if (mem.1 29 ((((25 : Int32) * a1) + ((5 : Int32) * v3)) + v4).toNatClampNeg) = v3 then (f11_mixedMany_b54 F a1 s17 mem v3 v4 v2 (0 : Int32))
 else (f11_mixedMany_b54 F a1 s17 mem v3 v4 v2 (1 : Int32))))
 else (g_let (v3 + (1 : Int32)) (fun x7 =>
 s4 v2 x7)))

def f11_mixedMany_b17 (F : Nat) (a1 : Int32) (s4 : Int32 → Int32 → Option (Int32)) (mem : g_M) (v2 : Int32) (v3 : Int32) (v4 : Int32) : Option (Int32) :=
  g_fix (fun sf x => f11_mixedMany_b17_body F a1 s4 (fun v2 v3 v4 => sf (v2, v3, v4)) mem x.1 x.2.1 x.2.2) F (v2, v3, v4)

def f11_mixedMany_b4_body (F : Nat) (a1 : Int32) (s4 : Int32 → Int32 → Option (Int32)) (mem : g_M) (v2 : Int32) (v3 : Int32) : Option (Int32) :=
 g_ck (0 : Int32) 18 (
 if v3 < (mem.1 2 (0 : Int32).toNatClampNeg) then (f11_mixedMany_b17 F a1 s4 mem v2 v3 (0 : Int32))
 else (some v2))

def f11_mixedMany_b4 (F : Nat) (a1 : Int32) (mem : g_M) (v2 : Int32) (v3 : Int32) : Option (Int32) :=
  g_fix (fun sf x => f11_mixedMany_b4_body F a1 (fun v2 v3 => sf (v2, v3)) mem x.1 x.2) F (v2, v3)

def f11_mixedMany (F : Nat) (a1 : Int32) (mem : g_M) : Option (Int32) :=
 f11_mixedMany_b4 F a1 mem (0 : Int32) (0 : Int32)

def f11_penceAll_b4_body (F : Nat) (a1 : Int32) (s4 : Int32 → Int32 → Option (Int32)) (mem : g_M) (v2 : Int32) (v3 : Int32) : Option (Int32) :=
 g_ck (0 : Int32) 18 (
 if v3 < (mem.1 2 (0 : Int32).toNatClampNeg) then (g_ck (((5 : Int32) * a1) + v3) 115 (
 g_let ((v2 + (mem.1 28 (((5 : Int32) * a1) + v3).toNatClampNeg))) (fun x4 =>
 g_let (v3 + (1 : Int32)) (fun x5 =>
 s4 x4 x5))))
 else (some v2))

def f11_penceAll_b4 (F : Nat) (a1 : Int32) (mem : g_M) (v2 : Int32) (v3 : Int32) : Option (Int32) :=
  g_fix (fun sf x => f11_penceAll_b4_body F a1 (fun v2 v3 => sf (v2, v3)) mem x.1 x.2) F (v2, v3)

def f11_penceAll (F : Nat) (a1 : Int32) (mem : g_M) : Option (Int32) :=
 f11_penceAll_b4 F a1 mem (0 : Int32) (0 : Int32)

def f11_wantsOf_b44 (F : Nat) (a1 : Int32) (a2 : Int32) (s5 : Int32 → Int32 → Option (Int32)) (mem : g_M) (v4 : Int32) (w0 : Int32) (w1 : Int32) : Option (Int32) :=
 g_let ((w0 + w1)) (fun x1 =>
 g_let (v4 + (1 : Int32)) (fun x2 =>
 s5 x1 x2))

def f11_wantsOf_b43 (F : Nat) (a1 : Int32) (a2 : Int32) (s5 : Int32 → Int32 → Option (Int32)) (mem : g_M) (v4 : Int32) (w0 : Int32) : Option (Int32) :=
 f11_wantsOf_b44 F a1 a2 s5 mem v4 w0 (0 : Int32)

def f11_wantsOf_b5_body (F : Nat) (a1 : Int32) (a2 : Int32) (s5 : Int32 → Int32 → Option (Int32)) (mem : g_M) (v3 : Int32) (v4 : Int32) : Option (Int32) :=
 g_ck (4 : Int32) 18 (
 if v4 < (mem.1 2 (4 : Int32).toNatClampNeg) then (g_ck v4 16 (
 if (mem.1 13 v4.toNatClampNeg) = a1 then (g_ck v4 184 (
 if (mem.1 31 v4.toNatClampNeg) = a2 then (f11_wantsOf_b44 F a1 a2 s5 mem v4 v3 (1 : Int32))
 else (f11_wantsOf_b43 F a1 a2 s5 mem v4 v3)))
 else (f11_wantsOf_b43 F a1 a2 s5 mem v4 v3)))
 else (some v3))

def f11_wantsOf_b5 (F : Nat) (a1 : Int32) (a2 : Int32) (mem : g_M) (v3 : Int32) (v4 : Int32) : Option (Int32) :=
  g_fix (fun sf x => f11_wantsOf_b5_body F a1 a2 (fun v3 v4 => sf (v3, v4)) mem x.1 x.2) F (v3, v4)

def f11_wantsOf (F : Nat) (a1 : Int32) (a2 : Int32) (mem : g_M) : Option (Int32) :=
 f11_wantsOf_b5 F a1 a2 mem (0 : Int32) (0 : Int32)

def f11_man_b100 (F : Nat) (a1 : Int32) (a2 : Int32) (s47 : Int32 → Int32 → Int32 → g_M → Option (Int32 × g_M)) (v3 : Int32) (v5 : Int32) (w0 : Int32) (w1 : Int32) (mem : g_M) : Option (Int32 × g_M) :=
 g_let ((w0 ||| w1)) (fun x1 =>
 g_let (v5 + (1 : Int32)) (fun x2 =>
 s47 v3 x1 x2 mem))

def f11_man_b47_body (F : Nat) (a1 : Int32) (a2 : Int32) (s47 : Int32 → Int32 → Int32 → g_M → Option (Int32 × g_M)) (v3 : Int32) (v4 : Int32) (v5 : Int32) (mem : g_M) : Option (Int32 × g_M) :=
 g_ck (1 : Int32) 18 (
 if v5 < (mem.1 2 (1 : Int32).toNatClampNeg) then (g_ck (((5 : Int32) * a1) + v5) 575 (
 g_let ((v3 ||| ((mem.1 30 (((5 : Int32) * a1) + v5).toNatClampNeg) <<< (v5 &&& 31)))) (fun x6 =>
 g_ck (((5 : Int32) * a1) + v5) 575 (
 if (mem.1 29 (((5 : Int32) * a1) + v5).toNatClampNeg) = a1 then (f11_man_b100 F a1 a2 s47 x6 v5 v4 ((1 : Int32) <<< (v5 &&& 31)) mem)
 else (f11_man_b100 F a1 a2 s47 x6 v5 v4 (0 : Int32) mem)))))
 else (if a2 = (0 : Int32) then (g_ck a1 115 (
 some ((mem.1 28 a1.toNatClampNeg), mem)))
 else (if a2 = (1 : Int32) then (some (v3, mem))
 else (if a2 = (2 : Int32) then (some (v4, mem))
 else (if a2 = (3 : Int32) then ((f11_wantsOf F a1 (1 : Int32) mem).bind (fun r14 =>
 some (r14, mem)))
 else ((f11_wantsOf F a1 (2 : Int32) mem).bind (fun r15 =>
 some (r15, mem))))))))

def f11_man_b47 (F : Nat) (a1 : Int32) (a2 : Int32) (v3 : Int32) (v4 : Int32) (v5 : Int32) (mem : g_M) : Option (Int32 × g_M) :=
  g_fix (fun sf x => f11_man_b47_body F a1 a2 (fun v3 v4 v5 mem => sf (v3, v4, v5, mem)) x.1 x.2.1 x.2.2.1 x.2.2.2) F (v3, v4, v5, mem)

def f11_man_b27 (F : Nat) (a1 : Int32) (a2 : Int32) (w1 : Int32) (mem : g_M) : Option (Int32 × g_M) :=
 g_let (g_sI mem 0 0 w1) (fun m16 =>
 if (m16.1 0 0) = (0 : Int32) then (f11_man_b47 F a1 a2 (0 : Int32) (0 : Int32) (0 : Int32) m16)
 else (some ((0 : Int32), m16)))

def f11_man_b22 (F : Nat) (a1 : Int32) (a2 : Int32) (mem : g_M) : Option (Int32 × g_M) :=
 f11_man_b27 F a1 a2 (2 : Int32) mem

def f11_man (F : Nat) (a1 : Int32) (a2 : Int32) (mem : g_M) : Option (Int32 × g_M) :=
 (f11_isMan F a1 mem).bind (fun r18 =>
 if r18 = (0 : Int32) then (f11_man_b27 F a1 a2 (1 : Int32) mem)
 else (if (0 : Int32) ≤ a2 then (if (4 : Int32) < a2 then (f11_man_b22 F a1 a2 mem)
 else (f11_man_b27 F a1 a2 (0 : Int32) mem))
 else (f11_man_b22 F a1 a2 mem)))

def f11_sort (F : Nat) (a1 : Int32) (a2 : Int32) (mem : g_M) : Option (Int32 × g_M) :=
 g_let (g_sI mem 0 0 (0 : Int32)) (fun m1 =>
 (f11_isSort F a1 m1).bind (fun r2 =>
 if r2 = (0 : Int32) then (some ((-1 : Int32), m1))
 else (if a2 = (0 : Int32) then (g_ck a1 10 (
 some ((m1.1 6 a1.toNatClampNeg), m1)))
 else (if a2 = (1 : Int32) then (g_ck a1 10 (
 some ((m1.1 7 a1.toNatClampNeg), m1)))
 else (some ((-1 : Int32), m1))))))

def f11_deed (F : Nat) (a1 : Int32) (mem : g_M) : Option (Int32 × g_M) :=
 g_let (g_sI mem 0 0 (0 : Int32)) (fun m1 =>
 (f11_isDeed F a1 m1).bind (fun r2 =>
 if r2 = (0 : Int32) then (some ((-1 : Int32), m1))
 else (g_ck a1 10 (
 some ((m1.1 9 a1.toNatClampNeg), m1)))))

def f11_sending (F : Nat) (a1 : Int32) (a2 : Int32) (mem : g_M) : Option (Int32 × g_M) :=
 g_let (g_sI mem 0 0 (0 : Int32)) (fun m1 =>
 (f11_isSending F a1 m1).bind (fun r2 =>
 if r2 = (0 : Int32) then (some ((-1 : Int32), m1))
 else (if a2 = (0 : Int32) then (g_ck a1 276 (
 some ((m1.1 32 a1.toNatClampNeg), m1)))
 else (if a2 = (1 : Int32) then (g_ck a1 276 (
 some ((m1.1 33 a1.toNatClampNeg), m1)))
 else (if a2 = (2 : Int32) then (g_ck a1 276 (
 some ((m1.1 34 a1.toNatClampNeg), m1)))
 else (if a2 = (3 : Int32) then (g_ck a1 276 (
 some ((m1.1 35 a1.toNatClampNeg), m1)))
 else (some ((-1 : Int32), m1))))))))

def f11_want (F : Nat) (a1 : Int32) (a2 : Int32) (mem : g_M) : Option (Int32 × g_M) :=
 g_let (g_sI mem 0 0 (0 : Int32)) (fun m1 =>
 if (0 : Int32) ≤ a1 then (g_ck (4 : Int32) 18 (
 if (m1.1 2 (4 : Int32).toNatClampNeg) ≤ a1 then (some ((-1 : Int32), m1))
 else (if a2 = (0 : Int32) then (g_ck a1 16 (
 some ((m1.1 13 a1.toNatClampNeg), m1)))
 else (if a2 = (1 : Int32) then (g_ck a1 16 (
 some ((m1.1 14 a1.toNatClampNeg), m1)))
 else (if a2 = (2 : Int32) then (g_ck a1 16 (
 some ((m1.1 15 a1.toNatClampNeg), m1)))
 else (if a2 = (3 : Int32) then (g_ck a1 16 (
 some ((m1.1 16 a1.toNatClampNeg), m1)))
 else (if a2 = (4 : Int32) then (g_ck a1 16 (
 some ((m1.1 17 a1.toNatClampNeg), m1)))
 else (if a2 = (5 : Int32) then (g_ck a1 184 (
 some ((m1.1 31 a1.toNatClampNeg), m1)))
 else (some ((-1 : Int32), m1))))))))))
 else (some ((-1 : Int32), m1)))

def f11_holds (F : Nat) (a1 : Int32) (a2 : Int32) (mem : g_M) : Option (Int32 × g_M) :=
 g_let (g_sI mem 0 0 (0 : Int32)) (fun m1 =>
 (f11_isMan F a1 m1).bind (fun r2 =>
 if r2 = (0 : Int32) then (some ((-1 : Int32), m1))
 else ((f11_isSort F a2 m1).bind (fun r4 =>
 if r4 = (0 : Int32) then (some ((-1 : Int32), m1))
 else (g_ck (((5 : Int32) * a1) + a2) 575 (
 some ((m1.1 29 (((5 : Int32) * a1) + a2).toNatClampNeg), m1)))))))

def f11_port (F : Nat) (a1 : Int32) (a2 : Int32) (mem : g_M) : Option (Int32 × g_M) :=
 g_let (g_sI mem 0 0 (0 : Int32)) (fun m1 =>
 (f11_isMan F a1 m1).bind (fun r2 =>
 if r2 = (0 : Int32) then (some ((-1 : Int32), m1))
 else ((f11_isSort F a2 m1).bind (fun r4 =>
 if r4 = (0 : Int32) then (some ((-1 : Int32), m1))
 else (g_ck (((5 : Int32) * a1) + a2) 575 (
 some ((m1.1 30 (((5 : Int32) * a1) + a2).toNatClampNeg), m1)))))))

def f11_areThese (F : Nat) (a1 : Int32) (a2 : Int32) (a3 : Int32) (mem : g_M) : Option (Int32) :=
 (f11_isMan F a1 mem).bind (fun r1 =>
 if r1 = (0 : Int32) then (some (0 : Int32))
 else ((f11_isDeed F a2 mem).bind (fun r3 =>
 if r3 = (0 : Int32) then (some (0 : Int32))
 else ((f11_isPort F a3 mem).bind (fun r5 =>
 if r5 = (0 : Int32) then (some (0 : Int32))
 else (some (1 : Int32)))))))

def f11_can (F : Nat) (a1 : Int32) (a2 : Int32) (a3 : Int32) (mem : g_M) : Option (Int32 × g_M) :=
 g_let (g_sI mem 0 0 (0 : Int32)) (fun m1 =>
 (f11_areThese F a1 a2 a3 m1).bind (fun r2 =>
 if r2 = (0 : Int32) then (some ((-1 : Int32), m1))
 else ((f11_canDo F (0 : Int32) a1 a2 a3 m1).bind (fun r4 =>
 if r4 = (0 : Int32) then (some ((0 : Int32), m1))
 else (some ((1 : Int32), m1))))))

def f11_law_b130 (F : Nat) (a1 : Int32) (a2 : Int32) (a3 : Int32) (mem : g_M) : Option (Int64 × g_M) :=
 (f11_goes F a1 mem).bind (fun r1 =>
 if r1.1 = (0 : Int32) then (some ((-9223372036854775808 : Int64), r1.2))
 else (g_ck (0 : Int32) 64 (
 some ((r1.2.2.1 23 (0 : Int32).toNatClampNeg), r1.2))))

def f11_law_b73 (F : Nat) (a1 : Int32) (a2 : Int32) (a3 : Int32) (mem : g_M) : Option (Int64 × g_M) :=
 if a1 = (0 : Int32) then ((f11_awayOf F (0 : Int32) a2 mem).bind (fun r5 =>
 (f11_calls F (0 : Int32) a2 a3 r5 (0 : Int32) mem).bind (fun r6 =>
 f11_law_b130 F a1 a2 a3 r6)))
 else (if a1 = (1 : Int32) then ((f11_awayOf F (0 : Int32) a2 mem).bind (fun r8 =>
 g_ck a3 16 (
 (f11_calls F (0 : Int32) a2 (-1 : Int32) r8 (mem.1 17 a3.toNatClampNeg) mem).bind (fun r10 =>
 f11_law_b130 F a1 a2 a3 r10))))
 else ((f11_calls F (0 : Int32) (-1 : Int32) a3 (0 : Int32) (0 : Int32) mem).bind (fun r11 =>
 f11_law_b130 F a1 a2 a3 r11)))

def f11_law_b39 (F : Nat) (a1 : Int32) (a2 : Int32) (a3 : Int32) (mem : g_M) : Option (Int64 × g_M) :=
 if a1 = (1 : Int32) then (if (0 : Int32) ≤ a3 then (g_ck (4 : Int32) 18 (
 if (mem.1 2 (4 : Int32).toNatClampNeg) ≤ a3 then (some ((-9223372036854775808 : Int64), mem))
 else (f11_law_b73 F a1 a2 a3 mem)))
 else (some ((-9223372036854775808 : Int64), mem)))
 else ((f11_isSort F a3 mem).bind (fun r16 =>
 if r16 = (0 : Int32) then (some ((-9223372036854775808 : Int64), mem))
 else (f11_law_b73 F a1 a2 a3 mem)))

def f11_law (F : Nat) (a1 : Int32) (a2 : Int32) (a3 : Int32) (mem : g_M) : Option (Int64 × g_M) :=
 g_let (g_sI mem 0 0 (0 : Int32)) (fun m18 =>
 if (0 : Int32) ≤ a1 then (if a1 ≤ (2 : Int32) then ((f11_hasLaw F a1 m18).bind (fun r21 =>
 if r21 = (0 : Int32) then (some ((-9223372036854775808 : Int64), m18))
 else (if a1 = (2 : Int32) then (f11_law_b39 F a1 a2 a3 m18)
 else ((f11_isMan F a2 m18).bind (fun r24 =>
 if r24 = (0 : Int32) then (some ((-9223372036854775808 : Int64), m18))
 else (f11_law_b39 F a1 a2 a3 m18))))))
 else (some ((-9223372036854775808 : Int64), m18)))
 else (some ((-9223372036854775808 : Int64), m18)))

def f11_keepNow_b45 (F : Nat) (mem : g_M) : Option (g_M) :=
 (f11_copies F ((3 : Int32) + (mem.1 0 52)) (0 : Int32) mem).bind (fun r1 =>
 g_let (g_sI r1 0 52 ((r1.1 0 52) + (1 : Int32))) (fun m2 =>
 some m2))

def f11_keepNow_b11_body (F : Nat) (s11 : Int32 → g_M → Option (g_M)) (v1 : Int32) (mem : g_M) : Option (g_M) :=
 if v1 < (20 : Int32) then ((f11_copies F (((3 : Int32) + v1) - (1 : Int32)) ((3 : Int32) + v1) mem).bind (fun r4 =>
 g_let (v1 + (1 : Int32)) (fun x5 =>
 s11 x5 r4)))
 else (g_let (g_sI mem 0 52 ((mem.1 0 52) - (1 : Int32))) (fun m6 =>
 f11_keepNow_b45 F m6))

def f11_keepNow_b11 (F : Nat) (v1 : Int32) (mem : g_M) : Option (g_M) :=
  g_fix (fun sf x => f11_keepNow_b11_body F (fun v1 mem => sf (v1, mem)) x.1 x.2) F (v1, mem)

def f11_keepNow (F : Nat) (mem : g_M) : Option (g_M) :=
 if (mem.1 0 52) = (20 : Int32) then (f11_keepNow_b11 F (1 : Int32) mem)
 else (f11_keepNow_b45 F mem)

def f11_send (F : Nat) (a1 : Int32) (a2 : Int32) (a3 : Int32) (mem : g_M) : Option (Int32 × g_M) :=
 g_let (g_sI mem 0 0 (0 : Int32)) (fun m1 =>
 (f11_isMan F a1 m1).bind (fun r2 =>
 if r2 = (0 : Int32) then (some ((-1 : Int32), m1))
 else ((f11_isSort F a2 m1).bind (fun r4 =>
 if r4 = (0 : Int32) then (some ((-1 : Int32), m1))
 else (g_ck (0 : Int32) 23 (
 if (m1.1 24 (0 : Int32).toNatClampNeg) ≤ a3 then (if a3 ≤ (9999 : Int32) then (g_ck (0 : Int32) 23 (
 if (m1.1 27 (0 : Int32).toNatClampNeg) = (12 : Int32) then (some ((-1 : Int32), m1))
 else ((f11_keepNow F m1).bind (fun r11 =>
 g_ck (0 : Int32) 23 (
 g_let ((r11.1 27 (0 : Int32).toNatClampNeg)) (fun x13 =>
 g_ck x13 276 (
 g_let (g_sI r11 32 x13.toNatClampNeg a1) (fun m15 =>
 g_ck x13 276 (
 g_let (g_sI m15 33 x13.toNatClampNeg a2) (fun m17 =>
 g_ck x13 276 (
 g_let (g_sI m17 34 x13.toNatClampNeg a3) (fun m19 =>
 g_ck x13 276 (
 g_let (g_sI m19 35 x13.toNatClampNeg (0 : Int32)) (fun m21 =>
 g_ck (0 : Int32) 23 (
 g_ck (0 : Int32) 23 (
 g_let (g_sI m21 27 (0 : Int32).toNatClampNeg ((m21.1 27 (0 : Int32).toNatClampNeg) + (1 : Int32))) (fun m24 =>
 some (x13, m24))))))))))))))))))
 else (some ((-1 : Int32), m1)))
 else (some ((-1 : Int32), m1))))))))

def f11_take (F : Nat) (a1 : Int32) (mem : g_M) : Option (Int32 × g_M) :=
 g_let (g_sI mem 0 0 (0 : Int32)) (fun m1 =>
 (f11_isSending F a1 m1).bind (fun r2 =>
 if r2 = (0 : Int32) then (some ((0 : Int32), m1))
 else (g_ck a1 276 (
 if (m1.1 35 a1.toNatClampNeg) = (0 : Int32) then ((f11_keepNow F m1).bind (fun r6 =>
 g_ck a1 276 (
 g_let (g_sI r6 35 a1.toNatClampNeg (2 : Int32)) (fun m8 =>
 some ((1 : Int32), m8)))))
 else (some ((0 : Int32), m1))))))

def f11_swap (F : Nat) (a1 : Int32) (a2 : Int32) (a3 : Int32) (mem : g_M) : Option (Int32 × g_M) :=
 g_let (g_sI mem 0 0 (0 : Int32)) (fun m1 =>
 (f11_isMan F a1 m1).bind (fun r2 =>
 if r2 = (0 : Int32) then (some ((0 : Int32), m1))
 else ((f11_isMan F a2 m1).bind (fun r4 =>
 if r4 = (0 : Int32) then (some ((0 : Int32), m1))
 else (if a1 = a2 then (some ((0 : Int32), m1))
 else ((f11_isSort F a3 m1).bind (fun r7 =>
 if r7 = (0 : Int32) then (some ((0 : Int32), m1))
 else (g_ck (((5 : Int32) * a1) + a3) 575 (
 g_ck (((5 : Int32) * a2) + a3) 575 (
 if (m1.1 30 (((5 : Int32) * a1) + a3).toNatClampNeg) = (m1.1 30 (((5 : Int32) * a2) + a3).toNatClampNeg) then ((f11_keepNow F m1).bind (fun r12 =>
 g_ck (((5 : Int32) * a1) + a3) 575 (
 g_let ((r12.1 29 (((5 : Int32) * a1) + a3).toNatClampNeg)) (fun x14 =>
 g_ck (((5 : Int32) * a2) + a3) 575 (
 g_ck (((5 : Int32) * a1) + a3) 575 (
 g_let (g_sI r12 29 (((5 : Int32) * a1) + a3).toNatClampNeg (r12.1 29 (((5 : Int32) * a2) + a3).toNatClampNeg)) (fun m17 =>
 g_ck (((5 : Int32) * a2) + a3) 575 (
 g_let (g_sI m17 29 (((5 : Int32) * a2) + a3).toNatClampNeg x14) (fun m19 =>
 some ((1 : Int32), m19))))))))))
 else (some ((0 : Int32), m1))))))))))))

def f11_lend (F : Nat) (a1 : Int32) (a2 : Int32) (mem : g_M) : Option (Int32 × g_M) :=
 g_let (g_sI mem 0 0 (0 : Int32)) (fun m1 =>
 (f11_isMan F a1 m1).bind (fun r2 =>
 if r2 = (0 : Int32) then (some ((-1 : Int32), m1))
 else (if (1 : Int32) ≤ a2 then (if a2 ≤ (99 : Int32) then (g_ck a1 115 (
 if (99999 : Int32) < ((m1.1 28 a1.toNatClampNeg) + a2) then (some ((-1 : Int32), m1))
 else ((f11_keepNow F m1).bind (fun r8 =>
 g_ck a1 115 (
 g_ck a1 115 (
 g_let (g_sI r8 28 a1.toNatClampNeg ((r8.1 28 a1.toNatClampNeg) + a2)) (fun m11 =>
 g_ck a1 115 (
 some ((m11.1 28 a1.toNatClampNeg), m11)))))))))
 else (some ((-1 : Int32), m1)))
 else (some ((-1 : Int32), m1)))))

def f11_go_b42_body (F : Nat) (a1 : Int32) (s42 : Int32 → g_M → Option (Int32 × g_M)) (v2 : Int32) (mem : g_M) : Option (Int32 × g_M) :=
 if v2 < a1 then ((f11_passes F (0 : Int32) (1 : Int32) mem).bind (fun r2 =>
 g_let (v2 + (1 : Int32)) (fun x3 =>
 s42 x3 r2)))
 else (g_ck (0 : Int32) 23 (
 some ((mem.1 24 (0 : Int32).toNatClampNeg), mem)))

def f11_go_b42 (F : Nat) (a1 : Int32) (v2 : Int32) (mem : g_M) : Option (Int32 × g_M) :=
  g_fix (fun sf x => f11_go_b42_body F a1 (fun v2 mem => sf (v2, mem)) x.1 x.2) F (v2, mem)

def f11_go_b40 (F : Nat) (a1 : Int32) (mem : g_M) : Option (Int32 × g_M) :=
 f11_go_b42 F a1 (0 : Int32) mem

def f11_go (F : Nat) (a1 : Int32) (mem : g_M) : Option (Int32 × g_M) :=
 g_let (g_sI mem 0 0 (0 : Int32)) (fun m5 =>
 if (0 : Int32) ≤ a1 then (if a1 ≤ (99 : Int32) then (g_ck (0 : Int32) 23 (
 if (9900 : Int32) < ((m5.1 24 (0 : Int32).toNatClampNeg) + a1) then (some ((-1 : Int32), m5))
 else (if (0 : Int32) < a1 then (g_let (g_sI m5 0 52 (0 : Int32)) (fun m11 =>
 f11_go_b40 F a1 m11))
 else (f11_go_b40 F a1 m5))))
 else (some ((-1 : Int32), m5)))
 else (some ((-1 : Int32), m5)))

def f11_ahead_b39 (F : Nat) (a1 : Int32) (a2 : Int32) (a3 : Int32) (mem : g_M) : Option (Int32 × g_M) :=
 (f11_runs F a1 mem).bind (fun r1 =>
 if a2 = (0 : Int32) then ((f11_outcomes F (1 : Int32) (1 : Int32) r1).bind (fun r3 =>
 (f11_outcomes F (0 : Int32) (1 : Int32) r1).bind (fun r4 =>
 some ((r3 - r4), r1))))
 else (if a2 = (1 : Int32) then ((f11_outcomes F (1 : Int32) (2 : Int32) r1).bind (fun r6 =>
 (f11_outcomes F (0 : Int32) (2 : Int32) r1).bind (fun r7 =>
 some ((r6 - r7), r1))))
 else (if a2 = (2 : Int32) then ((f11_goneMany F (1 : Int32) r1).bind (fun r9 =>
 (f11_goneMany F (0 : Int32) r1).bind (fun r10 =>
 some ((r9 - r10), r1))))
 else (if a2 = (3 : Int32) then (g_ck ((5 : Int32) + a3) 115 (
 some ((r1.1 28 ((5 : Int32) + a3).toNatClampNeg), r1)))
 else ((f11_mixedMany F (1 : Int32) r1).bind (fun r13 =>
 some (r13, r1)))))))

def f11_ahead (F : Nat) (a1 : Int32) (a2 : Int32) (a3 : Int32) (mem : g_M) : Option (Int32 × g_M) :=
 g_let (g_sI mem 0 0 (0 : Int32)) (fun m14 =>
 if (0 : Int32) ≤ a1 then (if a1 ≤ (99 : Int32) then (if (0 : Int32) ≤ a2 then (if a2 ≤ (4 : Int32) then (if a2 = (3 : Int32) then ((f11_isMan F a3 m14).bind (fun r20 =>
 if r20 = (0 : Int32) then (some ((-1 : Int32), m14))
 else (f11_ahead_b39 F a1 a2 a3 m14)))
 else (f11_ahead_b39 F a1 a2 a3 m14))
 else (some ((-1 : Int32), m14)))
 else (some ((-1 : Int32), m14)))
 else (some ((-1 : Int32), m14)))
 else (some ((-1 : Int32), m14)))

def f11_first_b26_body (F : Nat) (a1 : Int32) (a2 : Int32) (a3 : Int32) (s26 : Int32 → g_M → Option (Int32 × g_M)) (v4 : Int32) (mem : g_M) : Option (Int32 × g_M) :=
 if v4 ≤ (99 : Int32) then ((f11_canDo F (1 : Int32) a1 a2 a3 mem).bind (fun r2 =>
 if r2 = (0 : Int32) then ((f11_passes F (1 : Int32) (0 : Int32) mem).bind (fun r4 =>
 g_let (v4 + (1 : Int32)) (fun x5 =>
 s26 x5 r4)))
 else (some (v4, mem))))
 else (some ((-2 : Int32), mem))

def f11_first_b26 (F : Nat) (a1 : Int32) (a2 : Int32) (a3 : Int32) (v4 : Int32) (mem : g_M) : Option (Int32 × g_M) :=
  g_fix (fun sf x => f11_first_b26_body F a1 a2 a3 (fun v4 mem => sf (v4, mem)) x.1 x.2) F (v4, mem)

def f11_first (F : Nat) (a1 : Int32) (a2 : Int32) (a3 : Int32) (mem : g_M) : Option (Int32 × g_M) :=
 g_let (g_sI mem 0 0 (0 : Int32)) (fun m6 =>
 (f11_areThese F a1 a2 a3 m6).bind (fun r7 =>
 if r7 = (0 : Int32) then (some ((-1 : Int32), m6))
 else ((f11_copies F (1 : Int32) (0 : Int32) m6).bind (fun r9 =>
 f11_first_b26 F a1 a2 a3 (0 : Int32) r9))))

def f11_layLoad_b213 (F : Nat) (s12 : Int32 → g_M → Option (g_M)) (v1 : Int32) (mem : g_M) : Option (g_M) :=
 g_let (v1 + (1 : Int32)) (fun x1 =>
 s12 x1 mem)

def f11_layLoad_b175 (F : Nat) (s12 : Int32 → g_M → Option (g_M)) (v1 : Int32) (v3 : Int32) (v4 : Int32) (v5 : Int32) (mem : g_M) : Option (g_M) :=
 if v5 = (0 : Int32) then (f11_layLoad_b213 F s12 v1 mem)
 else (g_ck (5 : Int32) 18 (
 if v3 ≤ (mem.1 2 (5 : Int32).toNatClampNeg) then (if v4 ≤ (mem.1 0 58) then (f11_layLoad_b213 F s12 v1 mem)
 else (g_let (g_sI mem 0 57 v1) (fun m6 =>
 g_let (g_sI m6 0 58 v4) (fun m7 =>
 f11_layLoad_b213 F s12 v1 m7))))
 else (f11_layLoad_b213 F s12 v1 mem)))

def f11_layLoad_b169 (F : Nat) (s37 : Int32 → Int32 → Int32 → Int32 → Int32 → Int32 → g_M → Option (g_M)) (v1 : Int32) (v2 : Int32) (v3 : Int32) (v4 : Int32) (v5 : Int32) (v6 : Int32) (mem : g_M) : Option (g_M) :=
 g_let (v6 + (1 : Int32)) (fun x8 =>
 s37 v1 v2 v3 v4 v5 x8 mem)

def f11_layLoad_b130 (F : Nat) (s37 : Int32 → Int32 → Int32 → Int32 → Int32 → Int32 → g_M → Option (g_M)) (v1 : Int32) (v2 : Int32) (v3 : Int32) (v4 : Int32) (v6 : Int32) (v7 : Int32) (w0 : Int32) (mem : g_M) : Option (g_M) :=
 g_let ((v2 ||| v7)) (fun x9 =>
 g_ck v6 276 (
 g_ck (mem.1 33 v6.toNatClampNeg) 10 (
 g_let ((v3 + (mem.1 6 (mem.1 33 v6.toNatClampNeg).toNatClampNeg))) (fun x12 =>
 g_ck v6 276 (
 g_ck (mem.1 33 v6.toNatClampNeg) 10 (
 g_let ((v4 + (mem.1 7 (mem.1 33 v6.toNatClampNeg).toNatClampNeg))) (fun x15 =>
 f11_layLoad_b169 F s37 v1 x9 x12 x15 w0 v6 mem)))))))

def f11_layLoad_b129 (F : Nat) (s37 : Int32 → Int32 → Int32 → Int32 → Int32 → Int32 → g_M → Option (g_M)) (v1 : Int32) (v2 : Int32) (v3 : Int32) (v4 : Int32) (v6 : Int32) (v7 : Int32) (mem : g_M) : Option (g_M) :=
 f11_layLoad_b130 F s37 v1 v2 v3 v4 v6 v7 (0 : Int32) mem

def f11_layLoad_b37_body (F : Nat) (s12 : Int32 → g_M → Option (g_M)) (s37 : Int32 → Int32 → Int32 → Int32 → Int32 → Int32 → g_M → Option (g_M)) (v1 : Int32) (v2 : Int32) (v3 : Int32) (v4 : Int32) (v5 : Int32) (v6 : Int32) (mem : g_M) : Option (g_M) :=
 g_ck (0 : Int32) 23 (
 if v6 < (mem.1 27 (0 : Int32).toNatClampNeg) then (if v5 = (0 : Int32) then (f11_layLoad_b175 F s12 v1 v3 v4 v5 mem)
 else (if ((v1 >>> (v6 &&& 31)) &&& (1 : Int32)) = (0 : Int32) then (f11_layLoad_b169 F s37 v1 v2 v3 v4 v5 v6 mem)
 else (g_ck v6 276 (
 g_ck v6 276 (
 g_let (((1 : Int32) <<< ((((5 : Int32) * (mem.1 32 v6.toNatClampNeg)) + (mem.1 33 v6.toNatClampNeg)) &&& 31))) (fun x22 =>
 (f11_isDue F (0 : Int32) v6 mem).bind (fun r23 =>
 if r23 = (0 : Int32) then (f11_layLoad_b129 F s37 v1 v2 v3 v4 v6 x22 mem)
 else (g_ck v6 276 (
 g_ck v6 276 (
 (f11_isAtBoat F (0 : Int32) (mem.1 32 v6.toNatClampNeg) (mem.1 33 v6.toNatClampNeg) mem).bind (fun r27 =>
 if r27 = (0 : Int32) then (f11_layLoad_b129 F s37 v1 v2 v3 v4 v6 x22 mem)
 else (if (v2 &&& x22) = (0 : Int32) then (f11_layLoad_b130 F s37 v1 v2 v3 v4 v6 x22 (1 : Int32) mem)
 else (f11_layLoad_b129 F s37 v1 v2 v3 v4 v6 x22 mem)))))))))))))
 else (f11_layLoad_b175 F s12 v1 v3 v4 v5 mem))

def f11_layLoad_b37 (F : Nat) (s12 : Int32 → g_M → Option (g_M)) (v1 : Int32) (v2 : Int32) (v3 : Int32) (v4 : Int32) (v5 : Int32) (v6 : Int32) (mem : g_M) : Option (g_M) :=
  g_fix (fun sf x => f11_layLoad_b37_body F s12 (fun v1 v2 v3 v4 v5 v6 mem => sf (v1, v2, v3, v4, v5, v6, mem)) x.1 x.2.1 x.2.2.1 x.2.2.2.1 x.2.2.2.2.1 x.2.2.2.2.2.1 x.2.2.2.2.2.2) F (v1, v2, v3, v4, v5, v6, mem)

def f11_layLoad_b12_body (F : Nat) (s12 : Int32 → g_M → Option (g_M)) (v1 : Int32) (mem : g_M) : Option (g_M) :=
 g_ck (0 : Int32) 23 (
 if v1 < ((1 : Int32) <<< ((mem.1 27 (0 : Int32).toNatClampNeg) &&& 31)) then (f11_layLoad_b37 F s12 v1 (0 : Int32) (0 : Int32) (0 : Int32) (1 : Int32) (0 : Int32) mem)
 else (some mem))

def f11_layLoad_b12 (F : Nat) (v1 : Int32) (mem : g_M) : Option (g_M) :=
  g_fix (fun sf x => f11_layLoad_b12_body F (fun v1 mem => sf (v1, mem)) x.1 x.2) F (v1, mem)

def f11_layLoad (F : Nat) (mem : g_M) : Option (g_M) :=
 g_let (g_sI mem 0 57 (0 : Int32)) (fun m32 =>
 g_let (g_sI m32 0 58 (0 : Int32)) (fun m33 =>
 f11_layLoad_b12 F (0 : Int32) m33))

def f11_load (F : Nat) (a1 : Int32) (mem : g_M) : Option (Int32 × g_M) :=
 g_let (g_sI mem 0 0 (0 : Int32)) (fun m1 =>
 if (0 : Int32) ≤ a1 then (if (1 : Int32) < a1 then (some ((-1 : Int32), m1))
 else ((f11_layLoad F m1).bind (fun r4 =>
 if a1 = (0 : Int32) then (some ((r4.1 0 57), r4))
 else (some ((r4.1 0 58), r4)))))
 else (some ((-1 : Int32), m1)))

def f11_rows_b54 (F : Nat) (rc : Int32 → Int32 → g_M → Option g_M) (a1 : Int32) (a2 : Int32) (s10 : Int32 → g_M → Option (g_M)) (v3 : Int32) (mem : g_M) : Option (g_M) :=
 g_let (v3 + (1 : Int32)) (fun x1 =>
 s10 x1 mem)

def f11_rows_b10_body (F : Nat) (rc : Int32 → Int32 → g_M → Option g_M) (a1 : Int32) (a2 : Int32) (s10 : Int32 → g_M → Option (g_M)) (v3 : Int32) (mem : g_M) : Option (g_M) :=
 if v3 < (mem.1 0 62) then (if ((a2 >>> (v3 &&& 31)) &&& (1 : Int32)) = (1 : Int32) then (f11_rows_b54 F rc a1 a2 s10 v3 mem)
 else (g_ck v3 4 (
 g_ck a1 4 (
 g_let (g_sI mem 37 a1.toNatClampNeg (mem.1 36 v3.toNatClampNeg)) (fun m6 =>
 (rc (a1 + (1 : Int32)) (a2 ||| ((1 : Int32) <<< (v3 &&& 31))) m6).bind (fun r7 =>
 f11_rows_b54 F rc a1 a2 s10 v3 r7))))))
 else (some mem)

def f11_rows_b10 (F : Nat) (rc : Int32 → Int32 → g_M → Option g_M) (a1 : Int32) (a2 : Int32) (v3 : Int32) (mem : g_M) : Option (g_M) :=
  g_fix (fun sf x => f11_rows_b10_body F rc a1 a2 (fun v3 mem => sf (v3, mem)) x.1 x.2) F (v3, mem)

def f11_rows_b154_body (F : Nat) (rc : Int32 → Int32 → g_M → Option g_M) (a1 : Int32) (a2 : Int32) (s154 : Int32 → g_M → Option (g_M)) (v4 : Int32) (mem : g_M) : Option (g_M) :=
 if v4 < (mem.1 0 62) then (g_ck v4 4 (
 g_ck v4 4 (
 g_let (g_sI mem 38 v4.toNatClampNeg (mem.1 37 v4.toNatClampNeg)) (fun m11 =>
 g_let (v4 + (1 : Int32)) (fun x12 =>
 s154 x12 m11)))))
 else (some mem)

def f11_rows_b154 (F : Nat) (rc : Int32 → Int32 → g_M → Option g_M) (a1 : Int32) (a2 : Int32) (v4 : Int32) (mem : g_M) : Option (g_M) :=
  g_fix (fun sf x => f11_rows_b154_body F rc a1 a2 (fun v4 mem => sf (v4, mem)) x.1 x.2) F (v4, mem)

def f11_rows_b141 (F : Nat) (rc : Int32 → Int32 → g_M → Option g_M) (a1 : Int32) (a2 : Int32) (v3 : Int32) (mem : g_M) : Option (g_M) :=
 g_let (g_sI mem 0 64 (1 : Int32)) (fun m13 =>
 g_let (g_sI m13 0 63 v3) (fun m14 =>
 f11_rows_b154 F rc a1 a2 (0 : Int32) m14))

def f11_rows_b69_body (F : Nat) (rc : Int32 → Int32 → g_M → Option g_M) (a1 : Int32) (a2 : Int32) (s69 : Int32 → g_M → Option (g_M)) (v3 : Int32) (mem : g_M) : Option (g_M) :=
 if v3 < (mem.1 0 62) then (g_ck v3 4 (
 g_ck (0 : Int32) 23 (
 g_ck ((12 : Int32) + (mem.1 37 v3.toNatClampNeg)) 276 (
 g_let (g_sI mem 34 ((12 : Int32) + (mem.1 37 v3.toNatClampNeg)).toNatClampNeg ((mem.1 24 (0 : Int32).toNatClampNeg) + ((2 : Int32) * v3))) (fun m19 =>
 g_let (v3 + (1 : Int32)) (fun x20 =>
 s69 x20 m19))))))
 else ((f11_goesOn F (20 : Int32) mem).bind (fun r21 =>
 (f11_penceAll F (1 : Int32) r21).bind (fun r22 =>
 (f11_penceAll F (0 : Int32) r21).bind (fun r23 =>
 g_let ((r22 - r23)) (fun x24 =>
 if (r21.1 0 64) = (0 : Int32) then (f11_rows_b141 F rc a1 a2 x24 r21)
 else (if x24 ≤ (r21.1 0 63) then (some r21)
 else (f11_rows_b141 F rc a1 a2 x24 r21)))))))

def f11_rows_b69 (F : Nat) (rc : Int32 → Int32 → g_M → Option g_M) (a1 : Int32) (a2 : Int32) (v3 : Int32) (mem : g_M) : Option (g_M) :=
  g_fix (fun sf x => f11_rows_b69_body F rc a1 a2 (fun v3 mem => sf (v3, mem)) x.1 x.2) F (v3, mem)

def f11_rows (F : Nat) (rc : Int32 → Int32 → g_M → Option g_M) (a1 : Int32) (a2 : Int32) (mem : g_M) : Option (g_M) :=
 if a1 < (mem.1 0 62) then (f11_rows_b10 F rc a1 a2 (0 : Int32) mem)
 else ((f11_copies F (1 : Int32) (0 : Int32) mem).bind (fun r28 =>
 f11_rows_b69 F rc a1 a2 (0 : Int32) r28))

def fgR (F : Nat) : Nat → Int32 → Int32 → g_M → Option g_M
  | 0 => fun _ _ _ => none
  | d + 1 => fun a1 a2 mem => f11_rows F (fgR F d) a1 a2 mem
def f11_order_b14 (F : Nat) (a1 : Int32) (mem : g_M) : Option (Int32 × g_M) :=
 some ((-2147483648 : Int32), mem)

def f11_order_b81 (F : Nat) (a1 : Int32) (mem : g_M) : Option (Int32 × g_M) :=
 g_let (g_sI mem 0 64 (0 : Int32)) (fun m1 =>
 (fgR F 8 (0 : Int32) (0 : Int32) m1).bind (fun r2 =>
 if a1 = (4 : Int32) then (some ((r2.1 0 63), r2))
 else (if a1 < (r2.1 0 62) then (g_ck a1 4 (
 some ((r2.1 38 a1.toNatClampNeg), r2)))
 else (some ((-2 : Int32), r2)))))

def f11_order_b75 (F : Nat) (a1 : Int32) (s25 : Int32 → g_M → Option (Int32 × g_M)) (v2 : Int32) (mem : g_M) : Option (Int32 × g_M) :=
 g_let (v2 + (1 : Int32)) (fun x6 =>
 s25 x6 mem)

def f11_order_b25_body (F : Nat) (a1 : Int32) (s25 : Int32 → g_M → Option (Int32 × g_M)) (v2 : Int32) (mem : g_M) : Option (Int32 × g_M) :=
 g_ck (0 : Int32) 23 (
 if v2 < (mem.1 27 (0 : Int32).toNatClampNeg) then (if (mem.1 0 62) < (4 : Int32) then (g_ck v2 276 (
 if (mem.1 35 v2.toNatClampNeg) = (0 : Int32) then (g_ck (mem.1 0 62) 4 (
 g_let (g_sI mem 36 (mem.1 0 62).toNatClampNeg v2) (fun m13 =>
 g_let (g_sI m13 0 62 ((m13.1 0 62) + (1 : Int32))) (fun m14 =>
 f11_order_b75 F a1 s25 v2 m14))))
 else (f11_order_b75 F a1 s25 v2 mem)))
 else (f11_order_b81 F a1 mem))
 else (f11_order_b81 F a1 mem))

def f11_order_b25 (F : Nat) (a1 : Int32) (v2 : Int32) (mem : g_M) : Option (Int32 × g_M) :=
  g_fix (fun sf x => f11_order_b25_body F a1 (fun v2 mem => sf (v2, mem)) x.1 x.2) F (v2, mem)

def f11_order (F : Nat) (a1 : Int32) (mem : g_M) : Option (Int32 × g_M) :=
 g_let (g_sI mem 0 0 (0 : Int32)) (fun m15 =>
 if (0 : Int32) ≤ a1 then (if (4 : Int32) < a1 then (f11_order_b14 F a1 m15)
 else (g_let (g_sI m15 0 62 (0 : Int32)) (fun m18 =>
 f11_order_b25 F a1 (0 : Int32) m18)))
 else (f11_order_b14 F a1 m15))

def f11_swaps_b83 (F : Nat) (s39 : Int32 → Int32 → Int32 → Int32 → Int32 → g_M → Option (Int32 × g_M)) (v2 : Int32) (v3 : Int32) (v4 : Int32) (v5 : Int32) (w0 : Int32) (w1 : Int32) (mem : g_M) : Option (Int32 × g_M) :=
 g_let ((w0 + w1)) (fun x1 =>
 s39 x1 v2 v3 v4 v5 mem)

def f11_swaps_b39_body (F : Nat) (s24 : Int32 → Int32 → Int32 → Int32 → g_M → Option (Int32 × g_M)) (s39 : Int32 → Int32 → Int32 → Int32 → Int32 → g_M → Option (Int32 × g_M)) (v1 : Int32) (v2 : Int32) (v3 : Int32) (v4 : Int32) (v5 : Int32) (mem : g_M) : Option (Int32 × g_M) :=
 if ((v3 >>> (v5 &&& 31)) &&& (1 : Int32)) = (0 : Int32) then (g_let ((v3 ||| ((1 : Int32) <<< (v5 &&& 31)))) (fun x3 =>
 g_ck (((5 : Int32) * v5) + v2) 575 (
 g_let ((mem.1 29 (((5 : Int32) * v5) + v2).toNatClampNeg)) (fun x5 =>
 if ((x3 >>> (x5 &&& 31)) &&& (1 : Int32)) = (0 : Int32) then (f11_swaps_b83 F s39 v2 x3 v4 x5 v1 (1 : Int32) mem)
 else (f11_swaps_b83 F s39 v2 x3 v4 x5 v1 (0 : Int32) mem)))))
 else (g_let (v4 + (1 : Int32)) (fun x7 =>
 s24 v1 v2 v3 x7 mem))

def f11_swaps_b39 (F : Nat) (s24 : Int32 → Int32 → Int32 → Int32 → g_M → Option (Int32 × g_M)) (v1 : Int32) (v2 : Int32) (v3 : Int32) (v4 : Int32) (v5 : Int32) (mem : g_M) : Option (Int32 × g_M) :=
  g_fix (fun sf x => f11_swaps_b39_body F s24 (fun v1 v2 v3 v4 v5 mem => sf (v1, v2, v3, v4, v5, mem)) x.1 x.2.1 x.2.2.1 x.2.2.2.1 x.2.2.2.2.1 x.2.2.2.2.2) F (v1, v2, v3, v4, v5, mem)

def f11_swaps_b24_body (F : Nat) (s9 : Int32 → Int32 → g_M → Option (Int32 × g_M)) (s24 : Int32 → Int32 → Int32 → Int32 → g_M → Option (Int32 × g_M)) (v1 : Int32) (v2 : Int32) (v3 : Int32) (v4 : Int32) (mem : g_M) : Option (Int32 × g_M) :=
 g_ck (0 : Int32) 18 (
 if v4 < (mem.1 2 (0 : Int32).toNatClampNeg) then (f11_swaps_b39 F s24 v1 v2 v3 v4 v4 mem)
 else (g_let (v2 + (1 : Int32)) (fun x10 =>
 s9 v1 x10 mem)))

def f11_swaps_b24 (F : Nat) (s9 : Int32 → Int32 → g_M → Option (Int32 × g_M)) (v1 : Int32) (v2 : Int32) (v3 : Int32) (v4 : Int32) (mem : g_M) : Option (Int32 × g_M) :=
  g_fix (fun sf x => f11_swaps_b24_body F s9 (fun v1 v2 v3 v4 mem => sf (v1, v2, v3, v4, mem)) x.1 x.2.1 x.2.2.1 x.2.2.2.1 x.2.2.2.2) F (v1, v2, v3, v4, mem)

def f11_swaps_b9_body (F : Nat) (s9 : Int32 → Int32 → g_M → Option (Int32 × g_M)) (v1 : Int32) (v2 : Int32) (mem : g_M) : Option (Int32 × g_M) :=
 g_ck (1 : Int32) 18 (
 if v2 < (mem.1 2 (1 : Int32).toNatClampNeg) then (f11_swaps_b24 F s9 v1 v2 (0 : Int32) (0 : Int32) mem)
 else (some (v1, mem)))

def f11_swaps_b9 (F : Nat) (v1 : Int32) (v2 : Int32) (mem : g_M) : Option (Int32 × g_M) :=
  g_fix (fun sf x => f11_swaps_b9_body F (fun v1 v2 mem => sf (v1, v2, mem)) x.1 x.2.1 x.2.2) F (v1, v2, mem)

def f11_swaps (F : Nat) (mem : g_M) : Option (Int32 × g_M) :=
 g_let (g_sI mem 0 0 (0 : Int32)) (fun m13 =>
 f11_swaps_b9 F (0 : Int32) (0 : Int32) m13)

def f11_together_b121 (F : Nat) (a1 : Int32) (a2 : Int32) (a3 : Int32) (s58 : Int32 → Int32 → Int32 → Int32 → g_M → Option (Int32 × g_M)) (v4 : Int32) (v5 : Int32) (v7 : Int32) (w0 : Int32) (w1 : Int32) (mem : g_M) : Option (Int32 × g_M) :=
 g_let ((w0 &&& w1)) (fun x1 =>
 g_let (v7 + (1 : Int32)) (fun x2 =>
 s58 v4 v5 x1 x2 mem))

def f11_together_b116 (F : Nat) (a1 : Int32) (a2 : Int32) (a3 : Int32) (s58 : Int32 → Int32 → Int32 → Int32 → g_M → Option (Int32 × g_M)) (v4 : Int32) (v5 : Int32) (v7 : Int32) (w0 : Int32) (mem : g_M) : Option (Int32 × g_M) :=
 f11_together_b121 F a1 a2 a3 s58 v4 v5 v7 w0 (1 : Int32) mem

def f11_together_b145 (F : Nat) (a1 : Int32) (a2 : Int32) (a3 : Int32) (s41 : Int32 → Int32 → g_M → Option (Int32 × g_M)) (v5 : Int32) (w0 : Int32) (w1 : Int32) (mem : g_M) : Option (Int32 × g_M) :=
 g_let ((w0 ||| w1)) (fun x3 =>
 g_let (v5 + (1 : Int32)) (fun x4 =>
 s41 x3 x4 mem))

def f11_together_b58_body (F : Nat) (a1 : Int32) (a2 : Int32) (a3 : Int32) (s41 : Int32 → Int32 → g_M → Option (Int32 × g_M)) (s58 : Int32 → Int32 → Int32 → Int32 → g_M → Option (Int32 × g_M)) (v4 : Int32) (v5 : Int32) (v6 : Int32) (v7 : Int32) (mem : g_M) : Option (Int32 × g_M) :=
 g_ck (1 : Int32) 18 (
 if v7 < (mem.1 2 (1 : Int32).toNatClampNeg) then (g_ck v5 10 (
 if (((mem.1 9 v5.toNatClampNeg) >>> (v7 &&& 31)) &&& (1 : Int32)) = (0 : Int32) then (f11_together_b116 F a1 a2 a3 s58 v4 v5 v7 v6 mem)
 else (g_ck (((5 : Int32) * a1) + v7) 575 (
 if (mem.1 30 (((5 : Int32) * a1) + v7).toNatClampNeg) = a3 then (f11_together_b116 F a1 a2 a3 s58 v4 v5 v7 v6 mem)
 else (g_ck (((5 : Int32) * a2) + v7) 575 (
 if (mem.1 30 (((5 : Int32) * a2) + v7).toNatClampNeg) = a3 then (f11_together_b116 F a1 a2 a3 s58 v4 v5 v7 v6 mem)
 else (f11_together_b121 F a1 a2 a3 s58 v4 v5 v7 v6 (0 : Int32) mem)))))))
 else (if v6 = (0 : Int32) then (f11_together_b145 F a1 a2 a3 s41 v5 v4 (0 : Int32) mem)
 else (f11_together_b145 F a1 a2 a3 s41 v5 v4 ((1 : Int32) <<< (v5 &&& 31)) mem)))

def f11_together_b58 (F : Nat) (a1 : Int32) (a2 : Int32) (a3 : Int32) (s41 : Int32 → Int32 → g_M → Option (Int32 × g_M)) (v4 : Int32) (v5 : Int32) (v6 : Int32) (v7 : Int32) (mem : g_M) : Option (Int32 × g_M) :=
  g_fix (fun sf x => f11_together_b58_body F a1 a2 a3 s41 (fun v4 v5 v6 v7 mem => sf (v4, v5, v6, v7, mem)) x.1 x.2.1 x.2.2.1 x.2.2.2.1 x.2.2.2.2) F (v4, v5, v6, v7, mem)

def f11_together_b41_body (F : Nat) (a1 : Int32) (a2 : Int32) (a3 : Int32) (s41 : Int32 → Int32 → g_M → Option (Int32 × g_M)) (v4 : Int32) (v5 : Int32) (mem : g_M) : Option (Int32 × g_M) :=
 g_ck (2 : Int32) 18 (
 if v5 < (mem.1 2 (2 : Int32).toNatClampNeg) then (f11_together_b58 F a1 a2 a3 s41 v4 v5 (1 : Int32) (0 : Int32) mem)
 else (some (v4, mem)))

def f11_together_b41 (F : Nat) (a1 : Int32) (a2 : Int32) (a3 : Int32) (v4 : Int32) (v5 : Int32) (mem : g_M) : Option (Int32 × g_M) :=
  g_fix (fun sf x => f11_together_b41_body F a1 a2 a3 (fun v4 v5 mem => sf (v4, v5, mem)) x.1 x.2.1 x.2.2) F (v4, v5, mem)

def f11_together (F : Nat) (a1 : Int32) (a2 : Int32) (a3 : Int32) (mem : g_M) : Option (Int32 × g_M) :=
 g_let (g_sI mem 0 0 (0 : Int32)) (fun m16 =>
 (f11_isMan F a1 m16).bind (fun r17 =>
 if r17 = (0 : Int32) then (some ((-1 : Int32), m16))
 else ((f11_isMan F a2 m16).bind (fun r19 =>
 if r19 = (0 : Int32) then (some ((-1 : Int32), m16))
 else (if a1 = a2 then (some ((-1 : Int32), m16))
 else ((f11_isPort F a3 m16).bind (fun r22 =>
 if r22 = (0 : Int32) then (some ((-1 : Int32), m16))
 else (f11_together_b41 F a1 a2 a3 (0 : Int32) (0 : Int32) m16))))))))

def f11_needsOf_b57 (F : Nat) (a1 : Int32) (a2 : Int32) (a3 : Int32) (s6 : Int32 → Int32 → Option (Int32)) (mem : g_M) (v5 : Int32) (w0 : Int32) (w1 : Int32) : Option (Int32) :=
 g_let ((w0 ||| w1)) (fun x1 =>
 g_let (v5 + (1 : Int32)) (fun x2 =>
 s6 x1 x2))

def f11_needsOf_b56 (F : Nat) (a1 : Int32) (a2 : Int32) (a3 : Int32) (s6 : Int32 → Int32 → Option (Int32)) (mem : g_M) (v5 : Int32) (w0 : Int32) : Option (Int32) :=
 f11_needsOf_b57 F a1 a2 a3 s6 mem v5 w0 (0 : Int32)

def f11_needsOf_b6_body (F : Nat) (a1 : Int32) (a2 : Int32) (a3 : Int32) (s6 : Int32 → Int32 → Option (Int32)) (mem : g_M) (v4 : Int32) (v5 : Int32) : Option (Int32) :=
 g_ck (1 : Int32) 18 (
 if v5 < (mem.1 2 (1 : Int32).toNatClampNeg) then (g_ck a2 10 (
 if (((mem.1 9 a2.toNatClampNeg) >>> (v5 &&& 31)) &&& (1 : Int32)) = (1 : Int32) then (g_ck (((5 : Int32) * a1) + v5) 575 (
 if (mem.1 30 (((5 : Int32) * a1) + v5).toNatClampNeg) = a3 then (f11_needsOf_b56 F a1 a2 a3 s6 mem v5 v4)
 else (f11_needsOf_b57 F a1 a2 a3 s6 mem v5 v4 ((1 : Int32) <<< (v5 &&& 31)))))
 else (f11_needsOf_b56 F a1 a2 a3 s6 mem v5 v4)))
 else (some v4))

def f11_needsOf_b6 (F : Nat) (a1 : Int32) (a2 : Int32) (a3 : Int32) (mem : g_M) (v4 : Int32) (v5 : Int32) : Option (Int32) :=
  g_fix (fun sf x => f11_needsOf_b6_body F a1 a2 a3 (fun v4 v5 => sf (v4, v5)) mem x.1 x.2) F (v4, v5)

def f11_needsOf (F : Nat) (a1 : Int32) (a2 : Int32) (a3 : Int32) (mem : g_M) : Option (Int32) :=
 f11_needsOf_b6 F a1 a2 a3 mem (0 : Int32) (0 : Int32)

def f11_needs (F : Nat) (a1 : Int32) (a2 : Int32) (a3 : Int32) (mem : g_M) : Option (Int32 × g_M) :=
 g_let (g_sI mem 0 0 (0 : Int32)) (fun m1 =>
 (f11_areThese F a1 a2 a3 m1).bind (fun r2 =>
 if r2 = (0 : Int32) then (some ((-1 : Int32), m1))
 else ((f11_needsOf F a1 a2 a3 m1).bind (fun r4 =>
 some (r4, m1)))))

def f11_cheap_b63 (F : Nat) (a1 : Int32) (a2 : Int32) (a3 : Int32) (s23 : Int32 → Int32 → g_M → Option (Int32 × g_M)) (v5 : Int32) (w0 : Int32) (w1 : Int32) (mem : g_M) : Option (Int32 × g_M) :=
 g_let ((w0 + w1)) (fun x1 =>
 g_let (v5 + (1 : Int32)) (fun x2 =>
 s23 x1 x2 mem))

def f11_cheap_b23_body (F : Nat) (a1 : Int32) (a2 : Int32) (a3 : Int32) (s23 : Int32 → Int32 → g_M → Option (Int32 × g_M)) (v4 : Int32) (v5 : Int32) (mem : g_M) : Option (Int32 × g_M) :=
 g_ck (1 : Int32) 18 (
 if v5 < (mem.1 2 (1 : Int32).toNatClampNeg) then ((f11_needsOf F a1 a2 a3 mem).bind (fun r5 =>
 if ((r5 >>> (v5 &&& 31)) &&& (1 : Int32)) = (1 : Int32) then (g_ck v5 10 (
 f11_cheap_b63 F a1 a2 a3 s23 v5 v4 (mem.1 7 v5.toNatClampNeg) mem))
 else (f11_cheap_b63 F a1 a2 a3 s23 v5 v4 (0 : Int32) mem)))
 else (some (v4, mem)))

def f11_cheap_b23 (F : Nat) (a1 : Int32) (a2 : Int32) (a3 : Int32) (v4 : Int32) (v5 : Int32) (mem : g_M) : Option (Int32 × g_M) :=
  g_fix (fun sf x => f11_cheap_b23_body F a1 a2 a3 (fun v4 v5 mem => sf (v4, v5, mem)) x.1 x.2.1 x.2.2) F (v4, v5, mem)

def f11_cheap (F : Nat) (a1 : Int32) (a2 : Int32) (a3 : Int32) (mem : g_M) : Option (Int32 × g_M) :=
 g_let (g_sI mem 0 0 (0 : Int32)) (fun m8 =>
 (f11_areThese F a1 a2 a3 m8).bind (fun r9 =>
 if r9 = (0 : Int32) then (some ((-1 : Int32), m8))
 else (f11_cheap_b23 F a1 a2 a3 (0 : Int32) (0 : Int32) m8)))

def f11_hasOf_b23 (F : Nat) (a1 : Int32) (a2 : Int32) (a3 : Int32) (a4 : Int32) (mem : g_M) (w0 : Int32) : Option (Int32) :=
 if a3 = (0 : Int32) then ((f11_awayOf F (0 : Int32) a1 mem).bind (fun r2 =>
 some (w0 + r2)))
 else (some w0)

def f11_hasOf (F : Nat) (a1 : Int32) (a2 : Int32) (a3 : Int32) (a4 : Int32) (mem : g_M) : Option (Int32) :=
 if a3 = a4 then (g_ck a2 10 (
 f11_hasOf_b23 F a1 a2 a3 a4 mem ((mem.1 7 a2.toNatClampNeg) / (3 : Int32))))
 else (g_ck a2 10 (
 f11_hasOf_b23 F a1 a2 a3 a4 mem (mem.1 7 a2.toNatClampNeg)))

def f11_isRest (F : Nat) (a1 : Int32) (a2 : Int32) (a3 : Int32) (a4 : Int32) (mem : g_M) : Option (Int32) :=
 g_let ((a4 / (2 : Int32))) (fun x1 =>
 g_let ((a4 - a4 / (2 : Int32) * (2 : Int32))) (fun x2 =>
 (f11_hasOf F a1 a3 ((1 : Int32) - x1) x2 mem).bind (fun r3 =>
 (f11_hasOf F a1 a3 x1 x2 mem).bind (fun r4 =>
 if r3 ≤ r4 then ((f11_hasOf F a2 a3 ((1 : Int32) - x2) x1 mem).bind (fun r6 =>
 (f11_hasOf F a2 a3 x2 x1 mem).bind (fun r7 =>
 if r6 ≤ r7 then (some (1 : Int32))
 else (some (0 : Int32)))))
 else (some (0 : Int32))))))

def f11_restOf_b50 (F : Nat) (a1 : Int32) (a2 : Int32) (a3 : Int32) (a4 : Int32) (s6 : Int32 → Int32 → Option (Int32)) (mem : g_M) (v5 : Int32) (v6 : Int32) : Option (Int32) :=
 g_let (v6 + (1 : Int32)) (fun x1 =>
 s6 v5 x1)

def f11_restOf_b6_body (F : Nat) (a1 : Int32) (a2 : Int32) (a3 : Int32) (a4 : Int32) (s6 : Int32 → Int32 → Option (Int32)) (mem : g_M) (v5 : Int32) (v6 : Int32) : Option (Int32) :=
 if v6 < (4 : Int32) then ((f11_isRest F a1 a2 a3 v6 mem).bind (fun r3 =>
 if r3 = (0 : Int32) then (f11_restOf_b50 F a1 a2 a3 a4 s6 mem v5 v6)
 else (if v5 = a4 then (some (((10 : Int32) * (v6 / (2 : Int32))) + (v6 - v6 / (2 : Int32) * (2 : Int32))))
 else (g_let (v5 + (1 : Int32)) (fun x6 =>
 f11_restOf_b50 F a1 a2 a3 a4 s6 mem x6 v6)))))
 else (if a4 = (-1 : Int32) then (some v5)
 else (some (-2 : Int32)))

def f11_restOf_b6 (F : Nat) (a1 : Int32) (a2 : Int32) (a3 : Int32) (a4 : Int32) (mem : g_M) (v5 : Int32) (v6 : Int32) : Option (Int32) :=
  g_fix (fun sf x => f11_restOf_b6_body F a1 a2 a3 a4 (fun v5 v6 => sf (v5, v6)) mem x.1 x.2) F (v5, v6)

def f11_restOf (F : Nat) (a1 : Int32) (a2 : Int32) (a3 : Int32) (a4 : Int32) (mem : g_M) : Option (Int32) :=
 f11_restOf_b6 F a1 a2 a3 a4 mem (0 : Int32) (0 : Int32)

def f11_areTwo (F : Nat) (a1 : Int32) (a2 : Int32) (a3 : Int32) (mem : g_M) : Option (Int32) :=
 (f11_isMan F a1 mem).bind (fun r1 =>
 if r1 = (0 : Int32) then (some (0 : Int32))
 else ((f11_isMan F a2 mem).bind (fun r3 =>
 if r3 = (0 : Int32) then (some (0 : Int32))
 else (if a1 = a2 then (some (0 : Int32))
 else ((f11_isSort F a3 mem).bind (fun r6 =>
 if r6 = (0 : Int32) then (some (0 : Int32))
 else (some (1 : Int32))))))))

def f11_rests (F : Nat) (a1 : Int32) (a2 : Int32) (a3 : Int32) (mem : g_M) : Option (Int32 × g_M) :=
 g_let (g_sI mem 0 0 (0 : Int32)) (fun m1 =>
 (f11_areTwo F a1 a2 a3 m1).bind (fun r2 =>
 if r2 = (0 : Int32) then (some ((-1 : Int32), m1))
 else ((f11_restOf F a1 a2 a3 (-1 : Int32) m1).bind (fun r4 =>
 some (r4, m1)))))

def f11_rest (F : Nat) (a1 : Int32) (a2 : Int32) (a3 : Int32) (a4 : Int32) (mem : g_M) : Option (Int32 × g_M) :=
 g_let (g_sI mem 0 0 (0 : Int32)) (fun m1 =>
 (f11_areTwo F a1 a2 a3 m1).bind (fun r2 =>
 if r2 = (0 : Int32) then (some ((-1 : Int32), m1))
 else (if (0 : Int32) ≤ a4 then ((f11_restOf F a1 a2 a3 a4 m1).bind (fun r5 =>
 some (r5, m1)))
 else (some ((-1 : Int32), m1)))))

def f11_common_b6_body (F : Nat) (a0 : Int64) (a2 : Int64) (s6 : Int64 → Int64 → Option (Int64)) (mem : g_M) (v4 : Int64) (v6 : Int64) : Option (Int64) :=
 if (lg_cmp v6 (0 : Int64)) = (0 : Int32) then (some v4)
 else (g_nzL v6 (
 g_let ((v4 - v4 / v6 * v6)) (fun x3 =>
 s6 v6 x3)))

def f11_common_b6 (F : Nat) (a0 : Int64) (a2 : Int64) (mem : g_M) (v4 : Int64) (v6 : Int64) : Option (Int64) :=
  g_fix (fun sf x => f11_common_b6_body F a0 a2 (fun v4 v6 => sf (v4, v6)) mem x.1 x.2) F (v4, v6)

def f11_common (F : Nat) (a0 : Int64) (a2 : Int64) (mem : g_M) : Option (Int64) :=
 f11_common_b6 F a0 a2 mem a0 a2

def f11_calm_b36_body (F : Nat) (a1 : Int32) (a2 : Int32) (s36 : Int64 → Int64 → Int32 → g_M → Option (Int64 × g_M)) (v3 : Int64) (v5 : Int64) (v7 : Int32) (mem : g_M) : Option (Int64 × g_M) :=
 if v7 < a1 then (g_ck (6 : Int32) 18 (
 g_let ((v3 * ((100 : Int64) - (mem.1 2 (6 : Int32).toNatClampNeg).toInt64))) (fun x3 =>
 g_let ((v5 * (100 : Int64))) (fun x4 =>
 g_let (v7 + (1 : Int32)) (fun x5 =>
 s36 x3 x4 x5 mem)))))
 else ((f11_common F v3 v5 mem).bind (fun r6 =>
 if a2 = (0 : Int32) then (g_nzL r6 (
 some ((v3 / r6), mem)))
 else (g_nzL r6 (
 some ((v5 / r6), mem)))))

def f11_calm_b36 (F : Nat) (a1 : Int32) (a2 : Int32) (v3 : Int64) (v5 : Int64) (v7 : Int32) (mem : g_M) : Option (Int64 × g_M) :=
  g_fix (fun sf x => f11_calm_b36_body F a1 a2 (fun v3 v5 v7 mem => sf (v3, v5, v7, mem)) x.1 x.2.1 x.2.2.1 x.2.2.2) F (v3, v5, v7, mem)

def f11_calm (F : Nat) (a1 : Int32) (a2 : Int32) (mem : g_M) : Option (Int64 × g_M) :=
 g_let (g_sI mem 0 0 (0 : Int32)) (fun m10 =>
 if (0 : Int32) ≤ a1 then (if a1 ≤ (6 : Int32) then (if (0 : Int32) ≤ a2 then (if (1 : Int32) < a2 then (some ((-1 : Int64), m10))
 else (f11_calm_b36 F a1 a2 (1 : Int64) (1 : Int64) (0 : Int32) m10))
 else (some ((-1 : Int64), m10)))
 else (some ((-1 : Int64), m10)))
 else (some ((-1 : Int64), m10)))

def f11_holderOf_b34 (F : Nat) (a1 : Int32) (a2 : Int32) (s5 : Int32 → Int32 → Option (Int32)) (mem : g_M) (v3 : Int32) (v4 : Int32) : Option (Int32) :=
 g_let (v4 + (1 : Int32)) (fun x1 =>
 s5 v3 x1)

def f11_holderOf_b5_body (F : Nat) (a1 : Int32) (a2 : Int32) (s5 : Int32 → Int32 → Option (Int32)) (mem : g_M) (v3 : Int32) (v4 : Int32) : Option (Int32) :=
 g_ck (0 : Int32) 18 (
 if v4 < (mem.1 2 (0 : Int32).toNatClampNeg) then (g_ck (((5 : Int32) * v4) + a2) 575 (
 if (mem.1 29 (((5 : Int32) * v4) + a2).toNatClampNeg) = a1 then (f11_holderOf_b34 F a1 a2 s5 mem v4 v4)
 else (f11_holderOf_b34 F a1 a2 s5 mem v3 v4)))
 else (some v3))

def f11_holderOf_b5 (F : Nat) (a1 : Int32) (a2 : Int32) (mem : g_M) (v3 : Int32) (v4 : Int32) : Option (Int32) :=
  g_fix (fun sf x => f11_holderOf_b5_body F a1 a2 (fun v3 v4 => sf (v3, v4)) mem x.1 x.2) F (v3, v4)

def f11_holderOf (F : Nat) (a1 : Int32) (a2 : Int32) (mem : g_M) : Option (Int32) :=
 f11_holderOf_b5 F a1 a2 mem (-1 : Int32) (0 : Int32)

def f11_whose (F : Nat) (a1 : Int32) (a2 : Int32) (mem : g_M) : Option (Int32 × g_M) :=
 g_let (g_sI mem 0 0 (0 : Int32)) (fun m1 =>
 (f11_isMan F a1 m1).bind (fun r2 =>
 if r2 = (0 : Int32) then (some ((-1 : Int32), m1))
 else ((f11_isSort F a2 m1).bind (fun r4 =>
 if r4 = (0 : Int32) then (some ((-1 : Int32), m1))
 else ((f11_holderOf F a1 a2 m1).bind (fun r6 =>
 some (r6, m1)))))))

def f11_isLost_b2_body (F : Nat) (a1 : Int32) (s2 : Int32 → Option (Int32)) (mem : g_M) (v2 : Int32) : Option (Int32) :=
 g_ck (1 : Int32) 18 (
 if v2 < (mem.1 2 (1 : Int32).toNatClampNeg) then (g_ck (((5 : Int32) * a1) + v2) 575 (
 if (mem.1 29 (((5 : Int32) * a1) + v2).toNatClampNeg) = a1 then (some (0 : Int32))
 else (g_let (v2 + (1 : Int32)) (fun x5 =>
 s2 x5))))
 else (g_ck (1 : Int32) 18 (
 if (0 : Int32) < (mem.1 2 (1 : Int32).toNatClampNeg) then (some (1 : Int32))
 else (some (0 : Int32)))))

def f11_isLost_b2 (F : Nat) (a1 : Int32) (mem : g_M) (v2 : Int32) : Option (Int32) :=
  g_fix (fun sf x => f11_isLost_b2_body F a1 (fun v2 => sf v2) mem x) F v2

def f11_isLost (F : Nat) (a1 : Int32) (mem : g_M) : Option (Int32) :=
 f11_isLost_b2 F a1 mem (0 : Int32)

def f11_those_b133 (F : Nat) (a1 : Int32) (s101 : Int32 → Int32 → g_M → Option (Int32 × g_M)) (v3 : Int32) (w0 : Int32) (w1 : Int32) (mem : g_M) : Option (Int32 × g_M) :=
 g_let ((w0 ||| w1)) (fun x1 =>
 g_let (v3 + (1 : Int32)) (fun x2 =>
 s101 x1 x2 mem))

def f11_those_b101_body (F : Nat) (a1 : Int32) (s101 : Int32 → Int32 → g_M → Option (Int32 × g_M)) (v2 : Int32) (v3 : Int32) (mem : g_M) : Option (Int32 × g_M) :=
 g_ck (0 : Int32) 23 (
 if v3 < (mem.1 27 (0 : Int32).toNatClampNeg) then (if a1 = (2 : Int32) then ((f11_isDue F (0 : Int32) v3 mem).bind (fun r6 =>
 if r6 = (0 : Int32) then (f11_those_b133 F a1 s101 v3 v2 (0 : Int32) mem)
 else (f11_those_b133 F a1 s101 v3 v2 ((1 : Int32) <<< (v3 &&& 31)) mem)))
 else (some (v2, mem)))
 else (some (v2, mem)))

def f11_those_b101 (F : Nat) (a1 : Int32) (v2 : Int32) (v3 : Int32) (mem : g_M) : Option (Int32 × g_M) :=
  g_fix (fun sf x => f11_those_b101_body F a1 (fun v2 v3 mem => sf (v2, v3, mem)) x.1 x.2.1 x.2.2) F (v2, v3, mem)

def f11_those_b99 (F : Nat) (a1 : Int32) (v2 : Int32) (mem : g_M) : Option (Int32 × g_M) :=
 f11_those_b101 F a1 v2 (0 : Int32) mem

def f11_those_b91 (F : Nat) (a1 : Int32) (s20 : Int32 → Int32 → g_M → Option (Int32 × g_M)) (v3 : Int32) (w0 : Int32) (w1 : Int32) (mem : g_M) : Option (Int32 × g_M) :=
 g_let ((w0 ||| w1)) (fun x8 =>
 g_let (v3 + (1 : Int32)) (fun x9 =>
 s20 x8 x9 mem))

def f11_those_b76 (F : Nat) (a1 : Int32) (s20 : Int32 → Int32 → g_M → Option (Int32 × g_M)) (v2 : Int32) (v3 : Int32) (w0 : Int32) (mem : g_M) : Option (Int32 × g_M) :=
 if w0 = (0 : Int32) then (f11_those_b91 F a1 s20 v3 v2 (0 : Int32) mem)
 else (f11_those_b91 F a1 s20 v3 v2 ((1 : Int32) <<< (v3 &&& 31)) mem)

def f11_those_b75 (F : Nat) (a1 : Int32) (s20 : Int32 → Int32 → g_M → Option (Int32 × g_M)) (v2 : Int32) (v3 : Int32) (mem : g_M) : Option (Int32 × g_M) :=
 f11_those_b76 F a1 s20 v2 v3 (0 : Int32) mem

def f11_those_b20_body (F : Nat) (a1 : Int32) (s20 : Int32 → Int32 → g_M → Option (Int32 × g_M)) (v2 : Int32) (v3 : Int32) (mem : g_M) : Option (Int32 × g_M) :=
 g_ck (0 : Int32) 18 (
 if v3 < (mem.1 2 (0 : Int32).toNatClampNeg) then (if a1 < (2 : Int32) then ((f11_awayOf F (0 : Int32) v3 mem).bind (fun r14 =>
 if a1 = (0 : Int32) then ((f11_isLost F v3 mem).bind (fun r16 =>
 f11_those_b76 F a1 s20 v2 v3 r16 mem))
 else (if (0 : Int32) < r14 then (g_ck (1 : Int32) 18 (
 if r14 < (mem.1 2 (1 : Int32).toNatClampNeg) then (f11_those_b76 F a1 s20 v2 v3 (1 : Int32) mem)
 else (f11_those_b75 F a1 s20 v2 v3 mem)))
 else (f11_those_b75 F a1 s20 v2 v3 mem))))
 else (f11_those_b99 F a1 v2 mem))
 else (f11_those_b99 F a1 v2 mem))

def f11_those_b20 (F : Nat) (a1 : Int32) (v2 : Int32) (v3 : Int32) (mem : g_M) : Option (Int32 × g_M) :=
  g_fix (fun sf x => f11_those_b20_body F a1 (fun v2 v3 mem => sf (v2, v3, mem)) x.1 x.2.1 x.2.2) F (v2, v3, mem)

def f11_those (F : Nat) (a1 : Int32) (mem : g_M) : Option (Int32 × g_M) :=
 g_let (g_sI mem 0 0 (0 : Int32)) (fun m20 =>
 if (0 : Int32) ≤ a1 then (if (2 : Int32) < a1 then (some ((-1 : Int32), m20))
 else (f11_those_b20 F a1 (0 : Int32) (0 : Int32) m20))
 else (some ((-1 : Int32), m20)))

def f11_see (F : Nat) (a1 : Int32) (a2 : Int32) (a3 : Int32) (a4 : Int32) (mem : g_M) : Option (Int32 × g_M) :=
 g_let (g_sI mem 0 0 (0 : Int32)) (fun m1 =>
 if (1 : Int32) ≤ a1 then (if a1 ≤ (40 : Int32) then ((f11_isMan F a2 m1).bind (fun r4 =>
 if r4 = (0 : Int32) then (some ((-1 : Int32), m1))
 else ((f11_isSort F a3 m1).bind (fun r6 =>
 if r6 = (0 : Int32) then (some ((-1 : Int32), m1))
 else (if (m1.1 0 65) = (24 : Int32) then (some ((-1 : Int32), m1))
 else (g_ck (m1.1 0 65) 24 (
 g_let (g_sI m1 39 (m1.1 0 65).toNatClampNeg a1) (fun m10 =>
 g_ck (m10.1 0 65) 24 (
 g_let (g_sI m10 40 (m10.1 0 65).toNatClampNeg (((5 : Int32) * a2) + a3)) (fun m12 =>
 g_ck (m12.1 0 65) 24 (
 g_fl a4 (
 g_let (g_sI m12 41 (m12.1 0 65).toNatClampNeg a4) (fun m15 =>
 g_ck (m15.1 0 65) 24 (
 g_let (g_sI m15 42 (m15.1 0 65).toNatClampNeg (-1 : Int32)) (fun m17 =>
 g_let (g_sI m17 0 65 ((m17.1 0 65) + (1 : Int32))) (fun m18 =>
 some (((m18.1 0 65) - (1 : Int32)), m18)))))))))))))))))
 else (some ((-1 : Int32), m1)))
 else (some ((-1 : Int32), m1)))

def f11_out (F : Nat) (a1 : Int32) (mem : g_M) : Option (Int32 × g_M) :=
 g_let (g_sI mem 0 0 (0 : Int32)) (fun m1 =>
 if (0 : Int32) ≤ a1 then (if a1 < (m1.1 0 65) then (if (m1.1 0 65) = (24 : Int32) then (some ((-1 : Int32), m1))
 else (g_ck (m1.1 0 65) 24 (
 g_let (g_sI m1 42 (m1.1 0 65).toNatClampNeg a1) (fun m6 =>
 g_let (g_sI m6 0 65 ((m6.1 0 65) + (1 : Int32))) (fun m7 =>
 some (((m7.1 0 65) - (1 : Int32)), m7))))))
 else (some ((-1 : Int32), m1)))
 else (some ((-1 : Int32), m1)))

def f11_known (F : Nat) (a1 : Int32) (mem : g_M) : Option (Int32 × g_M) :=
 g_let (g_sI mem 0 0 (0 : Int32)) (fun m1 =>
 if (-1 : Int32) ≤ a1 then (if (m1.1 0 65) < a1 then (some ((0 : Int32), m1))
 else (g_let (g_sI m1 0 66 a1) (fun m4 =>
 some ((1 : Int32), m4))))
 else (some ((0 : Int32), m1)))

def f11_knownMany (F : Nat) (mem : g_M) : Option (Int32) :=
 if (mem.1 0 66) = (-1 : Int32) then (some (mem.1 0 65))
 else (some (mem.1 0 66))

def f11_isSo_b76 (F : Nat) (a1 : Int32) (s2 : Int32 → Option (Int32)) (mem : g_M) (v2 : Int32) : Option (Int32) :=
 g_let (v2 + (1 : Int32)) (fun x1 =>
 s2 x1)

def f11_isSo_b65 (F : Nat) (a1 : Int32) (s2 : Int32 → Option (Int32)) (mem : g_M) (v2 : Int32) (w0 : Int32) : Option (Int32) :=
 g_ck v2 24 (
 if w0 = (mem.1 41 v2.toNatClampNeg) then (f11_isSo_b76 F a1 s2 mem v2)
 else (some (0 : Int32)))

def f11_isSo_b2_body (F : Nat) (a1 : Int32) (s2 : Int32 → Option (Int32)) (mem : g_M) (v2 : Int32) : Option (Int32) :=
 (f11_knownMany F mem).bind (fun r4 =>
 if v2 < r4 then (g_ck v2 24 (
 if (mem.1 43 v2.toNatClampNeg) = (0 : Int32) then (g_ck v2 24 (
 if (mem.1 42 v2.toNatClampNeg) = (-1 : Int32) then (g_ck v2 24 (
 if (mem.1 39 v2.toNatClampNeg) = a1 then (g_ck v2 24 (
 g_ck ((25 : Int32) + (mem.1 40 v2.toNatClampNeg)) 575 (
 if (mem.1 30 ((25 : Int32) + (mem.1 40 v2.toNatClampNeg)).toNatClampNeg) = (1 : Int32) then (f11_isSo_b65 F a1 s2 mem v2 (1 : Int32))
 else (f11_isSo_b65 F a1 s2 mem v2 (0 : Int32)))))
 else (f11_isSo_b76 F a1 s2 mem v2)))
 else (f11_isSo_b76 F a1 s2 mem v2)))
 else (f11_isSo_b76 F a1 s2 mem v2)))
 else (some (1 : Int32)))

def f11_isSo_b2 (F : Nat) (a1 : Int32) (mem : g_M) (v2 : Int32) : Option (Int32) :=
  g_fix (fun sf x => f11_isSo_b2_body F a1 (fun v2 => sf v2) mem x) F v2

def f11_isSo (F : Nat) (a1 : Int32) (mem : g_M) : Option (Int32) :=
 f11_isSo_b2 F a1 mem (0 : Int32)

def f11_fitsRoom_b7_body (F : Nat) (a1 : Int32) (s7 : Int32 → g_M → Option (Int32 × g_M)) (v2 : Int32) (mem : g_M) : Option (Int32 × g_M) :=
 if v2 ≤ a1 then ((f11_passes F (1 : Int32) (0 : Int32) mem).bind (fun r2 =>
 (f11_isSo F v2 r2).bind (fun r3 =>
 if r3 = (0 : Int32) then (some ((0 : Int32), r2))
 else (g_let (v2 + (1 : Int32)) (fun x5 =>
 s7 x5 r2)))))
 else (some ((1 : Int32), mem))

def f11_fitsRoom_b7 (F : Nat) (a1 : Int32) (v2 : Int32) (mem : g_M) : Option (Int32 × g_M) :=
  g_fix (fun sf x => f11_fitsRoom_b7_body F a1 (fun v2 mem => sf (v2, mem)) x.1 x.2) F (v2, mem)

def f11_fitsRoom (F : Nat) (a1 : Int32) (mem : g_M) : Option (Int32 × g_M) :=
 (f11_starts F (1 : Int32) mem).bind (fun r6 =>
 f11_fitsRoom_b7 F a1 (1 : Int32) r6)

def f11_rooms_b72 (F : Nat) (s37 : Int32 → Int32 → g_M → Option (Int32 × g_M)) (v1 : Int32) (v2 : Int32) (mem : g_M) : Option (Int32 × g_M) :=
 g_let (v2 + (-1 : Int32)) (fun x1 =>
 s37 v1 x1 mem)

def f11_rooms_b118 (F : Nat) (s80 : Int32 → Int32 → g_M → Option (Int32 × g_M)) (v1 : Int32) (v2 : Int32) (mem : g_M) : Option (Int32 × g_M) :=
 g_let (v2 + (1 : Int32)) (fun x2 =>
 s80 v1 x2 mem)

def f11_rooms_b157 (F : Nat) (s128 : Int32 → Int32 → Int32 → g_M → Option (Int32 × g_M)) (v1 : Int32) (v3 : Int32) (w0 : Int32) (w1 : Int32) (mem : g_M) : Option (Int32 × g_M) :=
 g_let ((w0 ||| w1)) (fun x3 =>
 g_let (v3 + (1 : Int32)) (fun x4 =>
 s128 v1 x3 x4 mem))

def f11_rooms_b128_body (F : Nat) (s128 : Int32 → Int32 → Int32 → g_M → Option (Int32 × g_M)) (v1 : Int32) (v2 : Int32) (v3 : Int32) (mem : g_M) : Option (Int32 × g_M) :=
 if v3 < (10 : Int32) then (g_let (g_sI mem 0 55 (v3 + (1 : Int32))) (fun m6 =>
 (f11_fitsRoom F v1 m6).bind (fun r7 =>
 if r7.1 = (0 : Int32) then (f11_rooms_b157 F s128 v1 v3 v2 (0 : Int32) r7.2)
 else (f11_rooms_b157 F s128 v1 v3 v2 ((1 : Int32) <<< (v3 &&& 31)) r7.2))))
 else (g_let (g_sI mem 0 55 (-1 : Int32)) (fun m9 =>
 some (v2, m9)))

def f11_rooms_b128 (F : Nat) (v1 : Int32) (v2 : Int32) (v3 : Int32) (mem : g_M) : Option (Int32 × g_M) :=
  g_fix (fun sf x => f11_rooms_b128_body F (fun v1 v2 v3 mem => sf (v1, v2, v3, mem)) x.1 x.2.1 x.2.2.1 x.2.2.2) F (v1, v2, v3, mem)

def f11_rooms_b80_body (F : Nat) (s80 : Int32 → Int32 → g_M → Option (Int32 × g_M)) (v1 : Int32) (v2 : Int32) (mem : g_M) : Option (Int32 × g_M) :=
 (f11_knownMany F mem).bind (fun r10 =>
 if v2 < r10 then (g_ck v2 24 (
 if (mem.1 43 v2.toNatClampNeg) = (0 : Int32) then (g_ck v2 24 (
 if (mem.1 42 v2.toNatClampNeg) = (-1 : Int32) then (g_ck v2 24 (
 g_let ((if v1 < (mem.1 39 v2.toNatClampNeg) then (mem.1 39 v2.toNatClampNeg) else v1)) (fun x17 =>
 f11_rooms_b118 F s80 x17 v2 mem)))
 else (f11_rooms_b118 F s80 v1 v2 mem)))
 else (f11_rooms_b118 F s80 v1 v2 mem)))
 else (f11_rooms_b128 F v1 (0 : Int32) (0 : Int32) mem))

def f11_rooms_b80 (F : Nat) (v1 : Int32) (v2 : Int32) (mem : g_M) : Option (Int32 × g_M) :=
  g_fix (fun sf x => f11_rooms_b80_body F (fun v1 v2 mem => sf (v1, v2, mem)) x.1 x.2.1 x.2.2) F (v1, v2, mem)

def f11_rooms_b37_body (F : Nat) (s37 : Int32 → Int32 → g_M → Option (Int32 × g_M)) (v1 : Int32) (v2 : Int32) (mem : g_M) : Option (Int32 × g_M) :=
 if (0 : Int32) ≤ v2 then (g_ck v2 24 (
 if (mem.1 43 v2.toNatClampNeg) = (0 : Int32) then (g_ck v2 24 (
 if (mem.1 42 v2.toNatClampNeg) = (-1 : Int32) then (f11_rooms_b72 F s37 v1 v2 mem)
 else (g_ck v2 24 (
 g_ck (mem.1 42 v2.toNatClampNeg) 24 (
 g_let (g_sI mem 43 (mem.1 42 v2.toNatClampNeg).toNatClampNeg (1 : Int32)) (fun m25 =>
 f11_rooms_b72 F s37 v1 v2 m25))))))
 else (f11_rooms_b72 F s37 v1 v2 mem)))
 else (f11_rooms_b80 F v1 (0 : Int32) mem)

def f11_rooms_b37 (F : Nat) (v1 : Int32) (v2 : Int32) (mem : g_M) : Option (Int32 × g_M) :=
  g_fix (fun sf x => f11_rooms_b37_body F (fun v1 v2 mem => sf (v1, v2, mem)) x.1 x.2.1 x.2.2) F (v1, v2, mem)

def f11_rooms_b9_body (F : Nat) (s9 : Int32 → Int32 → g_M → Option (Int32 × g_M)) (v1 : Int32) (v2 : Int32) (mem : g_M) : Option (Int32 × g_M) :=
 (f11_knownMany F mem).bind (fun r26 =>
 if v2 < r26 then (g_ck v2 24 (
 g_let (g_sI mem 43 v2.toNatClampNeg (0 : Int32)) (fun m29 =>
 g_let (v2 + (1 : Int32)) (fun x30 =>
 s9 v1 x30 m29))))
 else ((f11_knownMany F mem).bind (fun r31 =>
 g_let ((r31 - (1 : Int32))) (fun x32 =>
 f11_rooms_b37 F v1 x32 mem))))

def f11_rooms_b9 (F : Nat) (v1 : Int32) (v2 : Int32) (mem : g_M) : Option (Int32 × g_M) :=
  g_fix (fun sf x => f11_rooms_b9_body F (fun v1 v2 mem => sf (v1, v2, mem)) x.1 x.2.1 x.2.2) F (v1, v2, mem)

def f11_rooms (F : Nat) (mem : g_M) : Option (Int32 × g_M) :=
 g_let (g_sI mem 0 0 (0 : Int32)) (fun m33 =>
 f11_rooms_b9 F (0 : Int32) (0 : Int32) m33)

def f11_chance_b107 (F : Nat) (a1 : Int32) (a2 : Int32) (a3 : Int32) (s41 : Int32 → Int32 → Int32 → g_M → Option (Int32 × g_M)) (v4 : Int32) (v6 : Int32) (w0 : Int32) (w1 : Int32) (mem : g_M) : Option (Int32 × g_M) :=
 g_let ((w0 + w1)) (fun x1 =>
 g_let (v6 + (1 : Int32)) (fun x2 =>
 s41 v4 x1 x2 mem))

def f11_chance_b65_body (F : Nat) (a1 : Int32) (a2 : Int32) (a3 : Int32) (s41 : Int32 → Int32 → Int32 → g_M → Option (Int32 × g_M)) (s65 : Int32 → Int32 → Int32 → g_M → Option (Int32 × g_M)) (v5 : Int32) (v6 : Int32) (v7 : Int32) (mem : g_M) : Option (Int32 × g_M) :=
 if v7 < a2 then ((f11_passes F (1 : Int32) (1 : Int32) mem).bind (fun r4 =>
 g_let (v7 + (1 : Int32)) (fun x5 =>
 s65 v5 v6 x5 r4)))
 else (g_ck (1 : Int32) 23 (
 g_let ((mem.1 25 (1 : Int32).toNatClampNeg)) (fun x7 =>
 (f11_mixedMany F (1 : Int32) mem).bind (fun r8 =>
 if a3 ≤ r8 then (f11_chance_b107 F a1 a2 a3 s41 x7 v6 v5 (1 : Int32) mem)
 else (f11_chance_b107 F a1 a2 a3 s41 x7 v6 v5 (0 : Int32) mem)))))

def f11_chance_b65 (F : Nat) (a1 : Int32) (a2 : Int32) (a3 : Int32) (s41 : Int32 → Int32 → Int32 → g_M → Option (Int32 × g_M)) (v5 : Int32) (v6 : Int32) (v7 : Int32) (mem : g_M) : Option (Int32 × g_M) :=
  g_fix (fun sf x => f11_chance_b65_body F a1 a2 a3 s41 (fun v5 v6 v7 mem => sf (v5, v6, v7, mem)) x.1 x.2.1 x.2.2.1 x.2.2.2) F (v5, v6, v7, mem)

def f11_chance_b41_body (F : Nat) (a1 : Int32) (a2 : Int32) (a3 : Int32) (s41 : Int32 → Int32 → Int32 → g_M → Option (Int32 × g_M)) (v4 : Int32) (v5 : Int32) (v6 : Int32) (mem : g_M) : Option (Int32 × g_M) :=
 if v6 < (10 : Int32) then ((f11_copies F (1 : Int32) (0 : Int32) mem).bind (fun r11 =>
 g_ck (1 : Int32) 23 (
 g_let (g_sI r11 25 (1 : Int32).toNatClampNeg v4) (fun m13 =>
 f11_chance_b65 F a1 a2 a3 s41 v5 v6 (0 : Int32) m13))))
 else (some (v5, mem))

def f11_chance_b41 (F : Nat) (a1 : Int32) (a2 : Int32) (a3 : Int32) (v4 : Int32) (v5 : Int32) (v6 : Int32) (mem : g_M) : Option (Int32 × g_M) :=
  g_fix (fun sf x => f11_chance_b41_body F a1 a2 a3 (fun v4 v5 v6 mem => sf (v4, v5, v6, mem)) x.1 x.2.1 x.2.2.1 x.2.2.2) F (v4, v5, v6, mem)

def f11_chance (F : Nat) (a1 : Int32) (a2 : Int32) (a3 : Int32) (mem : g_M) : Option (Int32 × g_M) :=
 g_let (g_sI mem 0 0 (0 : Int32)) (fun m14 =>
 if (0 : Int32) ≤ a1 then (if (1 : Int32) ≤ a2 then (if a2 ≤ (99 : Int32) then (if (0 : Int32) ≤ a3 then (if (25 : Int32) < a3 then (some ((-1 : Int32), m14))
 else (f11_chance_b41 F a1 a2 a3 a1 (0 : Int32) (0 : Int32) m14))
 else (some ((-1 : Int32), m14)))
 else (some ((-1 : Int32), m14)))
 else (some ((-1 : Int32), m14)))
 else (some ((-1 : Int32), m14)))

def f11_ownsAgain_b14_body (F : Nat) (a1 : Int32) (s2 : Int32 → g_M → Option (g_M)) (s14 : Int32 → Int32 → g_M → Option (g_M)) (v2 : Int32) (v3 : Int32) (mem : g_M) : Option (g_M) :=
 g_ck (1 : Int32) 18 (
 if v3 < (mem.1 2 (1 : Int32).toNatClampNeg) then (g_ck ((((25 : Int32) * a1) + ((5 : Int32) * v2)) + v3) 575 (
 g_let (g_sI mem 29 ((((25 : Int32) * a1) + ((5 : Int32) * v2)) + v3).toNatClampNeg v2) (fun m4 =>
 g_let (v3 + (1 : Int32)) (fun x5 =>
 s14 v2 x5 m4))))
 else (g_let (v2 + (1 : Int32)) (fun x6 =>
 s2 x6 mem)))

def f11_ownsAgain_b14 (F : Nat) (a1 : Int32) (s2 : Int32 → g_M → Option (g_M)) (v2 : Int32) (v3 : Int32) (mem : g_M) : Option (g_M) :=
  g_fix (fun sf x => f11_ownsAgain_b14_body F a1 s2 (fun v2 v3 mem => sf (v2, v3, mem)) x.1 x.2.1 x.2.2) F (v2, v3, mem)

def f11_ownsAgain_b2_body (F : Nat) (a1 : Int32) (s2 : Int32 → g_M → Option (g_M)) (v2 : Int32) (mem : g_M) : Option (g_M) :=
 g_ck (0 : Int32) 18 (
 if v2 < (mem.1 2 (0 : Int32).toNatClampNeg) then (f11_ownsAgain_b14 F a1 s2 v2 (0 : Int32) mem)
 else (some mem))

def f11_ownsAgain_b2 (F : Nat) (a1 : Int32) (v2 : Int32) (mem : g_M) : Option (g_M) :=
  g_fix (fun sf x => f11_ownsAgain_b2_body F a1 (fun v2 mem => sf (v2, mem)) x.1 x.2) F (v2, mem)

def f11_ownsAgain (F : Nat) (a1 : Int32) (mem : g_M) : Option (g_M) :=
 f11_ownsAgain_b2 F a1 (0 : Int32) mem

def f11_tried_b71 (F : Nat) (a1 : Int32) (a2 : Int32) (a3 : Int32) (mem : g_M) : Option (Int32 × g_M) :=
 g_let (g_sI mem 0 53 a1) (fun m1 =>
 g_let (g_sI m1 0 54 a2) (fun m2 =>
 (f11_goesOn F a3 m2).bind (fun r3 =>
 g_let (g_sI r3 0 53 (0 : Int32)) (fun m4 =>
 g_let (g_sI m4 0 54 (-1 : Int32)) (fun m5 =>
 (f11_outcomes F (1 : Int32) (1 : Int32) m5).bind (fun r6 =>
 (f11_outcomes F (0 : Int32) (1 : Int32) m5).bind (fun r7 =>
 some ((r6 - r7), m5))))))))

def f11_tried_b36 (F : Nat) (a1 : Int32) (a2 : Int32) (a3 : Int32) (w0 : Int32) (mem : g_M) : Option (Int32 × g_M) :=
 if w0 = (0 : Int32) then (some ((-1 : Int32), mem))
 else (if (0 : Int32) ≤ a3 then (if (99 : Int32) < a3 then (some ((-1 : Int32), mem))
 else ((f11_copies F (1 : Int32) (0 : Int32) mem).bind (fun r11 =>
 if a1 = (5 : Int32) then ((f11_ownsAgain F (1 : Int32) r11).bind (fun r13 =>
 f11_tried_b71 F a1 a2 a3 r13))
 else (f11_tried_b71 F a1 a2 a3 r11))))
 else (some ((-1 : Int32), mem)))

def f11_tried_b35 (F : Nat) (a1 : Int32) (a2 : Int32) (a3 : Int32) (mem : g_M) : Option (Int32 × g_M) :=
 f11_tried_b36 F a1 a2 a3 (0 : Int32) mem

def f11_tried (F : Nat) (a1 : Int32) (a2 : Int32) (a3 : Int32) (mem : g_M) : Option (Int32 × g_M) :=
 g_let (g_sI mem 0 0 (0 : Int32)) (fun m14 =>
 if a1 = (2 : Int32) then ((f11_isMan F a2 m14).bind (fun r16 =>
 f11_tried_b36 F a1 a2 a3 r16 m14))
 else (if (0 : Int32) ≤ a1 then (if a1 ≤ (5 : Int32) then (if a2 = (0 : Int32) then (f11_tried_b36 F a1 a2 a3 (1 : Int32) m14)
 else (f11_tried_b35 F a1 a2 a3 m14))
 else (f11_tried_b35 F a1 a2 a3 m14))
 else (f11_tried_b35 F a1 a2 a3 m14)))

def f11_undo (F : Nat) (mem : g_M) : Option (Int32 × g_M) :=
 g_let (g_sI mem 0 0 (0 : Int32)) (fun m1 =>
 if (m1.1 0 52) = (0 : Int32) then (some ((-1 : Int32), m1))
 else (g_let (g_sI m1 0 52 ((m1.1 0 52) - (1 : Int32))) (fun m3 =>
 (f11_copies F (0 : Int32) ((3 : Int32) + (m3.1 0 52)) m3).bind (fun r4 =>
 some ((r4.1 0 52), r4)))))

def f11_keep (F : Nat) (mem : g_M) : Option (Int32 × g_M) :=
 g_let (g_sI mem 0 0 (0 : Int32)) (fun m1 =>
 (f11_copies F (2 : Int32) (0 : Int32) m1).bind (fun r2 =>
 g_let (g_sI r2 0 51 (1 : Int32)) (fun m3 =>
 g_ck (0 : Int32) 23 (
 some ((m3.1 24 (0 : Int32).toNatClampNeg), m3)))))

def f11_back (F : Nat) (mem : g_M) : Option (Int32 × g_M) :=
 g_let (g_sI mem 0 0 (0 : Int32)) (fun m1 =>
 if (m1.1 0 51) = (0 : Int32) then (some ((-1 : Int32), m1))
 else ((f11_copies F (0 : Int32) (2 : Int32) m1).bind (fun r3 =>
 g_let (g_sI r3 0 52 (0 : Int32)) (fun m4 =>
 g_ck (0 : Int32) 23 (
 some ((m4.1 24 (0 : Int32).toNatClampNeg), m4))))))

def f11_count (F : Nat) (a1 : Int32) (mem : g_M) : Option (Int32 × g_M) :=
 g_let (g_sI mem 0 0 (0 : Int32)) (fun m1 =>
 if a1 = (0 : Int32) then (g_ck (0 : Int32) 18 (
 some ((m1.1 2 (0 : Int32).toNatClampNeg), m1)))
 else (if a1 = (1 : Int32) then (g_ck (1 : Int32) 18 (
 some ((m1.1 2 (1 : Int32).toNatClampNeg), m1)))
 else (if a1 = (2 : Int32) then (g_ck (2 : Int32) 18 (
 some ((m1.1 2 (2 : Int32).toNatClampNeg), m1)))
 else (if a1 = (3 : Int32) then (g_ck (0 : Int32) 23 (
 some ((m1.1 27 (0 : Int32).toNatClampNeg), m1)))
 else (if a1 = (4 : Int32) then (g_ck (4 : Int32) 18 (
 some ((m1.1 2 (4 : Int32).toNatClampNeg), m1)))
 else (if a1 = (5 : Int32) then (g_ck (8 : Int32) 18 (
 some ((m1.1 2 (8 : Int32).toNatClampNeg), m1)))
 else (if a1 = (6 : Int32) then (g_ck (0 : Int32) 23 (
 some ((m1.1 24 (0 : Int32).toNatClampNeg), m1)))
 else (if a1 = (7 : Int32) then ((f11_outcomes F (0 : Int32) (1 : Int32) m1).bind (fun r17 =>
 some (r17, m1)))
 else (if a1 = (8 : Int32) then ((f11_outcomes F (0 : Int32) (2 : Int32) m1).bind (fun r19 =>
 some (r19, m1)))
 else (if a1 = (9 : Int32) then ((f11_goneMany F (0 : Int32) m1).bind (fun r21 =>
 some (r21, m1)))
 else (if a1 = (10 : Int32) then ((f11_penceAll F (0 : Int32) m1).bind (fun r23 =>
 some (r23, m1)))
 else (if a1 = (11 : Int32) then ((f11_mixedMany F (0 : Int32) m1).bind (fun r25 =>
 some (r25, m1)))
 else (if a1 = (12 : Int32) then (g_ck (0 : Int32) 23 (
 some ((m1.1 26 (0 : Int32).toNatClampNeg), m1)))
 else (if a1 = (13 : Int32) then (some ((m1.1 0 65), m1))
 else (if a1 = (14 : Int32) then ((f11_knownMany F m1).bind (fun r30 =>
 some (r30, m1)))
 else (if a1 = (15 : Int32) then (some ((m1.1 0 52), m1))
 else (some ((-1 : Int32), m1))))))))))))))))))

