section WC
variable {p : Program} {l : Launch} {e : Env} {s : State} {m : MethodId} {below : List Frame} {meth : Method} {c : Code} {H : Heap} {locs : List Loc} {cells slots : Nat} {Q : State → Prop}
variable {pc : Nat} {ls : Array Slot} {rest : List Value} {D : va_G} {aC : Nat → ClassId} {b L : Nat} {xs : Nat → Int32} {cm mm : g_M}
set_option maxHeartbeats 4000000 in
set_option maxRecDepth 100000 in
theorem w_case29 (E : w_E p s m c D aC b L xs) {i : Nat} (hi : i + 6 ≤ L) (hM : w_M D aC s cm mm H locs) (hI : INV cm mm) (hl : lv_has ls 7 (w_lv s b i)) (hf : cells ≤ 601024 ∧ slots ≤ 7293034) (kk : ∀ (H1 : Heap) (locs1 : List Loc) (c1 m1 : g_M), w_M D aC s c1 m1 H1 locs1 → INV c1 m1 → W p l e room_1 s m #[Value.ref b] below meth c H1 locs1 cells slots Q (F0 m 1762 ls [])) : W p l e room_1 s m #[Value.ref b] below meth c H locs cells slots Q (F0 m 1398 ls []) := by
  have hx := E.1.1
  have hb := E.1.2.1
  obtain ⟨r, m1, h1, h2, hI1⟩ := s_whose (F := 5001) (by decide) hI (xs (i + 1)) (xs (i + 2))
  refine lv_aload_n hx hb dL_law_1398 rfl (lv_at hl 1 rfl) ?_
  refine w_arg (j := 1) E hM.2.2.2 hl rfl (by omega) dL_law_1399 dL_law_1400 dL_law_1402 dL_law_1403 dL_law_1404 ?_
  refine W.eq (g2 := F0 m 1405 ls [.int (xs (i + 1)), .ref (s.heap.size + 0)]) rfl ?_
  refine w_arg (j := 2) E hM.2.2.2 hl rfl (by omega) dL_law_1405 dL_law_1406 dL_law_1408 dL_law_1409 dL_law_1410 ?_
  refine W.eq (g2 := F0 m 1411 ls [.int (xs (i + 2)), .int (xs (i + 1)), .ref (s.heap.size + 0)]) rfl ?_
  refine w_callC [.int (xs (i + 1)), .int (xs (i + 2))] (rest := []) E hl.1 hM cv_L_151 (c10_whose l D aC s.heap.size h1) (Nat.le_of_ble_eq_true rfl) (Nat.le_of_ble_eq_true rfl) rfl rfl (Nat.le_of_ble_eq_true rfl) dL_law_1411 hf (fun H locs hM => ?_)
  refine W.eq (g2 := F0 m 1414 ls [.int r]) rfl ?_
  refine lv_aload_n hx hb dL_law_1414 rfl (lv_at hl 2 rfl) ?_
  refine w_arg (j := 1) E hM.2.2.2 hl rfl (by omega) dL_law_1415 dL_law_1416 dL_law_1418 dL_law_1419 dL_law_1420 ?_
  refine W.eq (g2 := F0 m 1421 ls [.int (xs (i + 1)), .ref (s.heap.size + 69 + 0), .int r]) rfl ?_
  refine w_arg (j := 2) E hM.2.2.2 hl rfl (by omega) dL_law_1421 dL_law_1422 dL_law_1424 dL_law_1425 dL_law_1426 ?_
  refine W.eq (g2 := F0 m 1427 ls [.int (xs (i + 2)), .int (xs (i + 1)), .ref (s.heap.size + 69 + 0), .int r]) rfl ?_
  refine w_callM [.int (xs (i + 1)), .int (xs (i + 2))] (rest := [.int r]) E hl.1 hM cv_L_154 (c11_whose l D aC (s.heap.size + 69) h2) (Nat.le_of_ble_eq_true rfl) (Nat.le_of_ble_eq_true rfl) rfl rfl (Nat.le_of_ble_eq_true rfl) dL_law_1427 hf (fun H locs hM => ?_)
  refine W.eq (g2 := F0 m 1430 ls [.int r, .int r]) rfl ?_
  refine lv_icmp_eq (tgt := 1762) hx hb dL_law_1430 (by decide) (fun _ => ?_) (fun h => absurd rfl h)
  exact kk H locs cm m1 hM hI1
set_option maxHeartbeats 4000000 in
set_option maxRecDepth 100000 in
theorem w_case30 (E : w_E p s m c D aC b L xs) {i : Nat} (hi : i + 6 ≤ L) (hM : w_M D aC s cm mm H locs) (hI : INV cm mm) (hl : lv_has ls 7 (w_lv s b i)) (hf : cells ≤ 601024 ∧ slots ≤ 7293034) (kk : ∀ (H1 : Heap) (locs1 : List Loc) (c1 m1 : g_M), w_M D aC s c1 m1 H1 locs1 → INV c1 m1 → W p l e room_1 s m #[Value.ref b] below meth c H1 locs1 cells slots Q (F0 m 1762 ls [])) : W p l e room_1 s m #[Value.ref b] below meth c H locs cells slots Q (F0 m 1435 ls []) := by
  have hx := E.1.1
  have hb := E.1.2.1
  obtain ⟨r, m1, h1, h2, hI1⟩ := s_those (F := 5001) (by decide) hI (xs (i + 1))
  refine lv_aload_n hx hb dL_law_1435 rfl (lv_at hl 1 rfl) ?_
  refine w_arg (j := 1) E hM.2.2.2 hl rfl (by omega) dL_law_1436 dL_law_1437 dL_law_1439 dL_law_1440 dL_law_1441 ?_
  refine W.eq (g2 := F0 m 1442 ls [.int (xs (i + 1)), .ref (s.heap.size + 0)]) rfl ?_
  refine w_callC [.int (xs (i + 1))] (rest := []) E hl.1 hM cv_L_155 (c10_those l D aC s.heap.size h1) (Nat.le_of_ble_eq_true rfl) (Nat.le_of_ble_eq_true rfl) rfl rfl (Nat.le_of_ble_eq_true rfl) dL_law_1442 hf (fun H locs hM => ?_)
  refine W.eq (g2 := F0 m 1445 ls [.int r]) rfl ?_
  refine lv_aload_n hx hb dL_law_1445 rfl (lv_at hl 2 rfl) ?_
  refine w_arg (j := 1) E hM.2.2.2 hl rfl (by omega) dL_law_1446 dL_law_1447 dL_law_1449 dL_law_1450 dL_law_1451 ?_
  refine W.eq (g2 := F0 m 1452 ls [.int (xs (i + 1)), .ref (s.heap.size + 69 + 0), .int r]) rfl ?_
  refine w_callM [.int (xs (i + 1))] (rest := [.int r]) E hl.1 hM cv_L_158 (c11_those l D aC (s.heap.size + 69) h2) (Nat.le_of_ble_eq_true rfl) (Nat.le_of_ble_eq_true rfl) rfl rfl (Nat.le_of_ble_eq_true rfl) dL_law_1452 hf (fun H locs hM => ?_)
  refine W.eq (g2 := F0 m 1455 ls [.int r, .int r]) rfl ?_
  refine lv_icmp_eq (tgt := 1762) hx hb dL_law_1455 (by decide) (fun _ => ?_) (fun h => absurd rfl h)
  exact kk H locs cm m1 hM hI1
set_option maxHeartbeats 4000000 in
set_option maxRecDepth 100000 in
theorem w_case31 (E : w_E p s m c D aC b L xs) {i : Nat} (hi : i + 6 ≤ L) (hM : w_M D aC s cm mm H locs) (hI : INV cm mm) (hl : lv_has ls 7 (w_lv s b i)) (hf : cells ≤ 601024 ∧ slots ≤ 7293034) (kk : ∀ (H1 : Heap) (locs1 : List Loc) (c1 m1 : g_M), w_M D aC s c1 m1 H1 locs1 → INV c1 m1 → W p l e room_1 s m #[Value.ref b] below meth c H1 locs1 cells slots Q (F0 m 1762 ls [])) : W p l e room_1 s m #[Value.ref b] below meth c H locs cells slots Q (F0 m 1460 ls []) := by
  have hx := E.1.1
  have hb := E.1.2.1
  by_cases hz4 : xs (i + 4) = 0
  · obtain ⟨r, c1, m1, h1, h2, hI1⟩ := s_see (F := 5001) (a4 := 0) hI (xs (i + 1)) (xs (i + 2)) (xs (i + 3)) (Or.inl rfl)
    refine lv_aload_n hx hb dL_law_1460 rfl (lv_at hl 1 rfl) ?_
    refine w_arg (j := 1) E hM.2.2.2 hl rfl (by omega) dL_law_1461 dL_law_1462 dL_law_1464 dL_law_1465 dL_law_1466 ?_
    refine W.eq (g2 := F0 m 1467 ls [.int (xs (i + 1)), .ref (s.heap.size + 0)]) rfl ?_
    refine w_arg (j := 2) E hM.2.2.2 hl rfl (by omega) dL_law_1467 dL_law_1468 dL_law_1470 dL_law_1471 dL_law_1472 ?_
    refine W.eq (g2 := F0 m 1473 ls [.int (xs (i + 2)), .int (xs (i + 1)), .ref (s.heap.size + 0)]) rfl ?_
    refine w_arg (j := 3) E hM.2.2.2 hl rfl (by omega) dL_law_1473 dL_law_1474 dL_law_1476 dL_law_1477 dL_law_1478 ?_
    refine W.eq (g2 := F0 m 1479 ls [.int (xs (i + 3)), .int (xs (i + 2)), .int (xs (i + 1)), .ref (s.heap.size + 0)]) rfl ?_
    refine w_arg (j := 4) E hM.2.2.2 hl rfl (by omega) dL_law_1479 dL_law_1480 dL_law_1482 dL_law_1483 dL_law_1484 ?_
    refine W.eq (g2 := F0 m 1485 ls [.int (xs (i + 4)), .int (xs (i + 3)), .int (xs (i + 2)), .int (xs (i + 1)), .ref (s.heap.size + 0)]) rfl ?_
    refine lv_if_eq (tgt := 1492) hx hb dL_law_1485 (by decide) (fun _ => ?_) (fun h => absurd hz4 h)
    refine lv_iconst (v := (0 : Int32)) hx hb dL_law_1492 rfl ?_
    refine w_callC [.int (xs (i + 1)), .int (xs (i + 2)), .int (xs (i + 3)), .int (0 : Int32)] (rest := []) E hl.1 hM cv_L_159 (c10_see l D aC s.heap.size h1) (Nat.le_of_ble_eq_true rfl) (Nat.le_of_ble_eq_true rfl) rfl rfl (Nat.le_of_ble_eq_true rfl) dL_law_1493 hf (fun H locs hM => ?_)
    refine W.eq (g2 := F0 m 1496 ls [.int r]) rfl ?_
    refine lv_aload_n hx hb dL_law_1496 rfl (lv_at hl 2 rfl) ?_
    refine w_arg (j := 1) E hM.2.2.2 hl rfl (by omega) dL_law_1497 dL_law_1498 dL_law_1500 dL_law_1501 dL_law_1502 ?_
    refine W.eq (g2 := F0 m 1503 ls [.int (xs (i + 1)), .ref (s.heap.size + 69 + 0), .int r]) rfl ?_
    refine w_arg (j := 2) E hM.2.2.2 hl rfl (by omega) dL_law_1503 dL_law_1504 dL_law_1506 dL_law_1507 dL_law_1508 ?_
    refine W.eq (g2 := F0 m 1509 ls [.int (xs (i + 2)), .int (xs (i + 1)), .ref (s.heap.size + 69 + 0), .int r]) rfl ?_
    refine w_arg (j := 3) E hM.2.2.2 hl rfl (by omega) dL_law_1509 dL_law_1510 dL_law_1512 dL_law_1513 dL_law_1514 ?_
    refine W.eq (g2 := F0 m 1515 ls [.int (xs (i + 3)), .int (xs (i + 2)), .int (xs (i + 1)), .ref (s.heap.size + 69 + 0), .int r]) rfl ?_
    refine w_arg (j := 4) E hM.2.2.2 hl rfl (by omega) dL_law_1515 dL_law_1516 dL_law_1518 dL_law_1519 dL_law_1520 ?_
    refine W.eq (g2 := F0 m 1521 ls [.int (xs (i + 4)), .int (xs (i + 3)), .int (xs (i + 2)), .int (xs (i + 1)), .ref (s.heap.size + 69 + 0), .int r]) rfl ?_
    refine lv_if_eq (tgt := 1528) hx hb dL_law_1521 (by decide) (fun _ => ?_) (fun h => absurd hz4 h)
    refine lv_iconst (v := (0 : Int32)) hx hb dL_law_1528 rfl ?_
    refine w_callM [.int (xs (i + 1)), .int (xs (i + 2)), .int (xs (i + 3)), .int (0 : Int32)] (rest := [.int r]) E hl.1 hM cv_L_163 (c11_see l D aC (s.heap.size + 69) h2) (Nat.le_of_ble_eq_true rfl) (Nat.le_of_ble_eq_true rfl) rfl rfl (Nat.le_of_ble_eq_true rfl) dL_law_1529 hf (fun H locs hM => ?_)
    refine W.eq (g2 := F0 m 1532 ls [.int r, .int r]) rfl ?_
    refine lv_icmp_eq (tgt := 1762) hx hb dL_law_1532 (by decide) (fun _ => ?_) (fun h => absurd rfl h)
    exact kk H locs c1 m1 hM hI1
  · obtain ⟨r, c1, m1, h1, h2, hI1⟩ := s_see (F := 5001) (a4 := 1) hI (xs (i + 1)) (xs (i + 2)) (xs (i + 3)) (Or.inr rfl)
    refine lv_aload_n hx hb dL_law_1460 rfl (lv_at hl 1 rfl) ?_
    refine w_arg (j := 1) E hM.2.2.2 hl rfl (by omega) dL_law_1461 dL_law_1462 dL_law_1464 dL_law_1465 dL_law_1466 ?_
    refine W.eq (g2 := F0 m 1467 ls [.int (xs (i + 1)), .ref (s.heap.size + 0)]) rfl ?_
    refine w_arg (j := 2) E hM.2.2.2 hl rfl (by omega) dL_law_1467 dL_law_1468 dL_law_1470 dL_law_1471 dL_law_1472 ?_
    refine W.eq (g2 := F0 m 1473 ls [.int (xs (i + 2)), .int (xs (i + 1)), .ref (s.heap.size + 0)]) rfl ?_
    refine w_arg (j := 3) E hM.2.2.2 hl rfl (by omega) dL_law_1473 dL_law_1474 dL_law_1476 dL_law_1477 dL_law_1478 ?_
    refine W.eq (g2 := F0 m 1479 ls [.int (xs (i + 3)), .int (xs (i + 2)), .int (xs (i + 1)), .ref (s.heap.size + 0)]) rfl ?_
    refine w_arg (j := 4) E hM.2.2.2 hl rfl (by omega) dL_law_1479 dL_law_1480 dL_law_1482 dL_law_1483 dL_law_1484 ?_
    refine W.eq (g2 := F0 m 1485 ls [.int (xs (i + 4)), .int (xs (i + 3)), .int (xs (i + 2)), .int (xs (i + 1)), .ref (s.heap.size + 0)]) rfl ?_
    refine lv_if_eq (tgt := 1492) hx hb dL_law_1485 (by decide) (fun h => absurd h hz4) (fun _ => ?_)
    refine W.eq (g2 := F0 m 1488 ls [.int (xs (i + 3)), .int (xs (i + 2)), .int (xs (i + 1)), .ref (s.heap.size + 0)]) rfl ?_
    refine lv_iconst (v := (1 : Int32)) hx hb dL_law_1488 rfl ?_
    refine lv_goto (tgt := 1493) hx hb dL_law_1489 (by decide) ?_
    refine w_callC [.int (xs (i + 1)), .int (xs (i + 2)), .int (xs (i + 3)), .int (1 : Int32)] (rest := []) E hl.1 hM cv_L_159 (c10_see l D aC s.heap.size h1) (Nat.le_of_ble_eq_true rfl) (Nat.le_of_ble_eq_true rfl) rfl rfl (Nat.le_of_ble_eq_true rfl) dL_law_1493 hf (fun H locs hM => ?_)
    refine W.eq (g2 := F0 m 1496 ls [.int r]) rfl ?_
    refine lv_aload_n hx hb dL_law_1496 rfl (lv_at hl 2 rfl) ?_
    refine w_arg (j := 1) E hM.2.2.2 hl rfl (by omega) dL_law_1497 dL_law_1498 dL_law_1500 dL_law_1501 dL_law_1502 ?_
    refine W.eq (g2 := F0 m 1503 ls [.int (xs (i + 1)), .ref (s.heap.size + 69 + 0), .int r]) rfl ?_
    refine w_arg (j := 2) E hM.2.2.2 hl rfl (by omega) dL_law_1503 dL_law_1504 dL_law_1506 dL_law_1507 dL_law_1508 ?_
    refine W.eq (g2 := F0 m 1509 ls [.int (xs (i + 2)), .int (xs (i + 1)), .ref (s.heap.size + 69 + 0), .int r]) rfl ?_
    refine w_arg (j := 3) E hM.2.2.2 hl rfl (by omega) dL_law_1509 dL_law_1510 dL_law_1512 dL_law_1513 dL_law_1514 ?_
    refine W.eq (g2 := F0 m 1515 ls [.int (xs (i + 3)), .int (xs (i + 2)), .int (xs (i + 1)), .ref (s.heap.size + 69 + 0), .int r]) rfl ?_
    refine w_arg (j := 4) E hM.2.2.2 hl rfl (by omega) dL_law_1515 dL_law_1516 dL_law_1518 dL_law_1519 dL_law_1520 ?_
    refine W.eq (g2 := F0 m 1521 ls [.int (xs (i + 4)), .int (xs (i + 3)), .int (xs (i + 2)), .int (xs (i + 1)), .ref (s.heap.size + 69 + 0), .int r]) rfl ?_
    refine lv_if_eq (tgt := 1528) hx hb dL_law_1521 (by decide) (fun h => absurd h hz4) (fun _ => ?_)
    refine W.eq (g2 := F0 m 1524 ls [.int (xs (i + 3)), .int (xs (i + 2)), .int (xs (i + 1)), .ref (s.heap.size + 69 + 0), .int r]) rfl ?_
    refine lv_iconst (v := (1 : Int32)) hx hb dL_law_1524 rfl ?_
    refine lv_goto (tgt := 1529) hx hb dL_law_1525 (by decide) ?_
    refine w_callM [.int (xs (i + 1)), .int (xs (i + 2)), .int (xs (i + 3)), .int (1 : Int32)] (rest := [.int r]) E hl.1 hM cv_L_163 (c11_see l D aC (s.heap.size + 69) h2) (Nat.le_of_ble_eq_true rfl) (Nat.le_of_ble_eq_true rfl) rfl rfl (Nat.le_of_ble_eq_true rfl) dL_law_1529 hf (fun H locs hM => ?_)
    refine W.eq (g2 := F0 m 1532 ls [.int r, .int r]) rfl ?_
    refine lv_icmp_eq (tgt := 1762) hx hb dL_law_1532 (by decide) (fun _ => ?_) (fun h => absurd rfl h)
    exact kk H locs c1 m1 hM hI1
set_option maxHeartbeats 4000000 in
set_option maxRecDepth 100000 in
theorem w_case32 (E : w_E p s m c D aC b L xs) {i : Nat} (hi : i + 6 ≤ L) (hM : w_M D aC s cm mm H locs) (hI : INV cm mm) (hl : lv_has ls 7 (w_lv s b i)) (hf : cells ≤ 601024 ∧ slots ≤ 7293034) (kk : ∀ (H1 : Heap) (locs1 : List Loc) (c1 m1 : g_M), w_M D aC s c1 m1 H1 locs1 → INV c1 m1 → W p l e room_1 s m #[Value.ref b] below meth c H1 locs1 cells slots Q (F0 m 1762 ls [])) : W p l e room_1 s m #[Value.ref b] below meth c H locs cells slots Q (F0 m 1537 ls []) := by
  have hx := E.1.1
  have hb := E.1.2.1
  obtain ⟨r, c1, m1, h1, h2, hI1⟩ := s_out (F := 5001) hI (xs (i + 1))
  refine lv_aload_n hx hb dL_law_1537 rfl (lv_at hl 1 rfl) ?_
  refine w_arg (j := 1) E hM.2.2.2 hl rfl (by omega) dL_law_1538 dL_law_1539 dL_law_1541 dL_law_1542 dL_law_1543 ?_
  refine W.eq (g2 := F0 m 1544 ls [.int (xs (i + 1)), .ref (s.heap.size + 0)]) rfl ?_
  refine w_callC [.int (xs (i + 1))] (rest := []) E hl.1 hM cv_L_164 (c10_out l D aC s.heap.size h1) (Nat.le_of_ble_eq_true rfl) (Nat.le_of_ble_eq_true rfl) rfl rfl (Nat.le_of_ble_eq_true rfl) dL_law_1544 hf (fun H locs hM => ?_)
  refine W.eq (g2 := F0 m 1547 ls [.int r]) rfl ?_
  refine lv_aload_n hx hb dL_law_1547 rfl (lv_at hl 2 rfl) ?_
  refine w_arg (j := 1) E hM.2.2.2 hl rfl (by omega) dL_law_1548 dL_law_1549 dL_law_1551 dL_law_1552 dL_law_1553 ?_
  refine W.eq (g2 := F0 m 1554 ls [.int (xs (i + 1)), .ref (s.heap.size + 69 + 0), .int r]) rfl ?_
  refine w_callM [.int (xs (i + 1))] (rest := [.int r]) E hl.1 hM cv_L_167 (c11_out l D aC (s.heap.size + 69) h2) (Nat.le_of_ble_eq_true rfl) (Nat.le_of_ble_eq_true rfl) rfl rfl (Nat.le_of_ble_eq_true rfl) dL_law_1554 hf (fun H locs hM => ?_)
  refine W.eq (g2 := F0 m 1557 ls [.int r, .int r]) rfl ?_
  refine lv_icmp_eq (tgt := 1762) hx hb dL_law_1557 (by decide) (fun _ => ?_) (fun h => absurd rfl h)
  exact kk H locs c1 m1 hM hI1
set_option maxHeartbeats 4000000 in
set_option maxRecDepth 100000 in
theorem w_case33 (E : w_E p s m c D aC b L xs) {i : Nat} (hi : i + 6 ≤ L) (hM : w_M D aC s cm mm H locs) (hI : INV cm mm) (hl : lv_has ls 7 (w_lv s b i)) (hf : cells ≤ 601024 ∧ slots ≤ 7293034) (kk : ∀ (H1 : Heap) (locs1 : List Loc) (c1 m1 : g_M), w_M D aC s c1 m1 H1 locs1 → INV c1 m1 → W p l e room_1 s m #[Value.ref b] below meth c H1 locs1 cells slots Q (F0 m 1762 ls [])) : W p l e room_1 s m #[Value.ref b] below meth c H locs cells slots Q (F0 m 1562 ls []) := by
  have hx := E.1.1
  have hb := E.1.2.1
  obtain ⟨r, c1, m1, h1, h2, hI1⟩ := s_known (F := 5001) hI (xs (i + 1))
  refine lv_aload_n hx hb dL_law_1562 rfl (lv_at hl 1 rfl) ?_
  refine w_arg (j := 1) E hM.2.2.2 hl rfl (by omega) dL_law_1563 dL_law_1564 dL_law_1566 dL_law_1567 dL_law_1568 ?_
  refine W.eq (g2 := F0 m 1569 ls [.int (xs (i + 1)), .ref (s.heap.size + 0)]) rfl ?_
  refine w_callC [.int (xs (i + 1))] (rest := []) E hl.1 hM cv_L_168 (c10_known l D aC s.heap.size h1) (Nat.le_of_ble_eq_true rfl) (Nat.le_of_ble_eq_true rfl) rfl rfl (Nat.le_of_ble_eq_true rfl) dL_law_1569 hf (fun H locs hM => ?_)
  refine W.eq (g2 := F0 m 1572 ls [.int r]) rfl ?_
  refine lv_aload_n hx hb dL_law_1572 rfl (lv_at hl 2 rfl) ?_
  refine w_arg (j := 1) E hM.2.2.2 hl rfl (by omega) dL_law_1573 dL_law_1574 dL_law_1576 dL_law_1577 dL_law_1578 ?_
  refine W.eq (g2 := F0 m 1579 ls [.int (xs (i + 1)), .ref (s.heap.size + 69 + 0), .int r]) rfl ?_
  refine w_callM [.int (xs (i + 1))] (rest := [.int r]) E hl.1 hM cv_L_171 (c11_known l D aC (s.heap.size + 69) h2) (Nat.le_of_ble_eq_true rfl) (Nat.le_of_ble_eq_true rfl) rfl rfl (Nat.le_of_ble_eq_true rfl) dL_law_1579 hf (fun H locs hM => ?_)
  refine W.eq (g2 := F0 m 1582 ls [.int r, .int r]) rfl ?_
  refine lv_icmp_eq (tgt := 1762) hx hb dL_law_1582 (by decide) (fun _ => ?_) (fun h => absurd rfl h)
  exact kk H locs c1 m1 hM hI1
set_option maxHeartbeats 4000000 in
set_option maxRecDepth 100000 in
theorem w_case34 (E : w_E p s m c D aC b L xs) {i : Nat} (hi : i + 6 ≤ L) (hM : w_M D aC s cm mm H locs) (hI : INV cm mm) (hl : lv_has ls 7 (w_lv s b i)) (hf : cells ≤ 601024 ∧ slots ≤ 7293034) (kk : ∀ (H1 : Heap) (locs1 : List Loc) (c1 m1 : g_M), w_M D aC s c1 m1 H1 locs1 → INV c1 m1 → W p l e room_1 s m #[Value.ref b] below meth c H1 locs1 cells slots Q (F0 m 1762 ls [])) : W p l e room_1 s m #[Value.ref b] below meth c H locs cells slots Q (F0 m 1587 ls []) := by
  have hx := E.1.1
  have hb := E.1.2.1
  obtain ⟨r, c1, m1, h1, h2, hI1⟩ := s_rooms (F := 5001) (by decide) hI 
  refine lv_aload_n hx hb dL_law_1587 rfl (lv_at hl 1 rfl) ?_
  refine w_callC [] (rest := []) E hl.1 hM cv_L_172 (c10_rooms l D aC s.heap.size h1) (Nat.le_of_ble_eq_true rfl) (Nat.le_of_ble_eq_true rfl) rfl rfl (Nat.le_of_ble_eq_true rfl) dL_law_1588 hf (fun H locs hM => ?_)
  refine W.eq (g2 := F0 m 1591 ls [.int r]) rfl ?_
  refine lv_aload_n hx hb dL_law_1591 rfl (lv_at hl 2 rfl) ?_
  refine w_callM [] (rest := [.int r]) E hl.1 hM cv_L_175 (c11_rooms l D aC (s.heap.size + 69) h2) (Nat.le_of_ble_eq_true rfl) (Nat.le_of_ble_eq_true rfl) rfl rfl (Nat.le_of_ble_eq_true rfl) dL_law_1592 hf (fun H locs hM => ?_)
  refine W.eq (g2 := F0 m 1595 ls [.int r, .int r]) rfl ?_
  refine lv_icmp_eq (tgt := 1762) hx hb dL_law_1595 (by decide) (fun _ => ?_) (fun h => absurd rfl h)
  exact kk H locs c1 m1 hM hI1
set_option maxHeartbeats 4000000 in
set_option maxRecDepth 100000 in
theorem w_case35 (E : w_E p s m c D aC b L xs) {i : Nat} (hi : i + 6 ≤ L) (hM : w_M D aC s cm mm H locs) (hI : INV cm mm) (hl : lv_has ls 7 (w_lv s b i)) (hf : cells ≤ 601024 ∧ slots ≤ 7293034) (kk : ∀ (H1 : Heap) (locs1 : List Loc) (c1 m1 : g_M), w_M D aC s c1 m1 H1 locs1 → INV c1 m1 → W p l e room_1 s m #[Value.ref b] below meth c H1 locs1 cells slots Q (F0 m 1762 ls [])) : W p l e room_1 s m #[Value.ref b] below meth c H locs cells slots Q (F0 m 1600 ls []) := by
  have hx := E.1.1
  have hb := E.1.2.1
  obtain ⟨r, c1, m1, h1, h2, hI1⟩ := s_chance (F := 5001) (by decide) hI (xs (i + 1)) (xs (i + 2)) (xs (i + 3))
  refine lv_aload_n hx hb dL_law_1600 rfl (lv_at hl 1 rfl) ?_
  refine w_arg (j := 1) E hM.2.2.2 hl rfl (by omega) dL_law_1601 dL_law_1602 dL_law_1604 dL_law_1605 dL_law_1606 ?_
  refine W.eq (g2 := F0 m 1607 ls [.int (xs (i + 1)), .ref (s.heap.size + 0)]) rfl ?_
  refine w_arg (j := 2) E hM.2.2.2 hl rfl (by omega) dL_law_1607 dL_law_1608 dL_law_1610 dL_law_1611 dL_law_1612 ?_
  refine W.eq (g2 := F0 m 1613 ls [.int (xs (i + 2)), .int (xs (i + 1)), .ref (s.heap.size + 0)]) rfl ?_
  refine w_arg (j := 3) E hM.2.2.2 hl rfl (by omega) dL_law_1613 dL_law_1614 dL_law_1616 dL_law_1617 dL_law_1618 ?_
  refine W.eq (g2 := F0 m 1619 ls [.int (xs (i + 3)), .int (xs (i + 2)), .int (xs (i + 1)), .ref (s.heap.size + 0)]) rfl ?_
  refine w_callC [.int (xs (i + 1)), .int (xs (i + 2)), .int (xs (i + 3))] (rest := []) E hl.1 hM cv_L_176 (c10_chance l D aC s.heap.size h1) (Nat.le_of_ble_eq_true rfl) (Nat.le_of_ble_eq_true rfl) rfl rfl (Nat.le_of_ble_eq_true rfl) dL_law_1619 hf (fun H locs hM => ?_)
  refine W.eq (g2 := F0 m 1622 ls [.int r]) rfl ?_
  refine lv_aload_n hx hb dL_law_1622 rfl (lv_at hl 2 rfl) ?_
  refine w_arg (j := 1) E hM.2.2.2 hl rfl (by omega) dL_law_1623 dL_law_1624 dL_law_1626 dL_law_1627 dL_law_1628 ?_
  refine W.eq (g2 := F0 m 1629 ls [.int (xs (i + 1)), .ref (s.heap.size + 69 + 0), .int r]) rfl ?_
  refine w_arg (j := 2) E hM.2.2.2 hl rfl (by omega) dL_law_1629 dL_law_1630 dL_law_1632 dL_law_1633 dL_law_1634 ?_
  refine W.eq (g2 := F0 m 1635 ls [.int (xs (i + 2)), .int (xs (i + 1)), .ref (s.heap.size + 69 + 0), .int r]) rfl ?_
  refine w_arg (j := 3) E hM.2.2.2 hl rfl (by omega) dL_law_1635 dL_law_1636 dL_law_1638 dL_law_1639 dL_law_1640 ?_
  refine W.eq (g2 := F0 m 1641 ls [.int (xs (i + 3)), .int (xs (i + 2)), .int (xs (i + 1)), .ref (s.heap.size + 69 + 0), .int r]) rfl ?_
  refine w_callM [.int (xs (i + 1)), .int (xs (i + 2)), .int (xs (i + 3))] (rest := [.int r]) E hl.1 hM cv_L_179 (c11_chance l D aC (s.heap.size + 69) h2) (Nat.le_of_ble_eq_true rfl) (Nat.le_of_ble_eq_true rfl) rfl rfl (Nat.le_of_ble_eq_true rfl) dL_law_1641 hf (fun H locs hM => ?_)
  refine W.eq (g2 := F0 m 1644 ls [.int r, .int r]) rfl ?_
  refine lv_icmp_eq (tgt := 1762) hx hb dL_law_1644 (by decide) (fun _ => ?_) (fun h => absurd rfl h)
  exact kk H locs c1 m1 hM hI1
set_option maxHeartbeats 4000000 in
set_option maxRecDepth 100000 in
theorem w_case36 (E : w_E p s m c D aC b L xs) {i : Nat} (hi : i + 6 ≤ L) (hM : w_M D aC s cm mm H locs) (hI : INV cm mm) (hl : lv_has ls 7 (w_lv s b i)) (hf : cells ≤ 601024 ∧ slots ≤ 7293034) (kk : ∀ (H1 : Heap) (locs1 : List Loc) (c1 m1 : g_M), w_M D aC s c1 m1 H1 locs1 → INV c1 m1 → W p l e room_1 s m #[Value.ref b] below meth c H1 locs1 cells slots Q (F0 m 1762 ls [])) : W p l e room_1 s m #[Value.ref b] below meth c H locs cells slots Q (F0 m 1649 ls []) := by
  have hx := E.1.1
  have hb := E.1.2.1
  obtain ⟨r, c1, m1, h1, h2, hI1⟩ := s_tried (F := 5001) (by decide) hI (xs (i + 1)) (xs (i + 2)) (xs (i + 3))
  refine lv_aload_n hx hb dL_law_1649 rfl (lv_at hl 1 rfl) ?_
  refine w_arg (j := 1) E hM.2.2.2 hl rfl (by omega) dL_law_1650 dL_law_1651 dL_law_1653 dL_law_1654 dL_law_1655 ?_
  refine W.eq (g2 := F0 m 1656 ls [.int (xs (i + 1)), .ref (s.heap.size + 0)]) rfl ?_
  refine w_arg (j := 2) E hM.2.2.2 hl rfl (by omega) dL_law_1656 dL_law_1657 dL_law_1659 dL_law_1660 dL_law_1661 ?_
  refine W.eq (g2 := F0 m 1662 ls [.int (xs (i + 2)), .int (xs (i + 1)), .ref (s.heap.size + 0)]) rfl ?_
  refine w_arg (j := 3) E hM.2.2.2 hl rfl (by omega) dL_law_1662 dL_law_1663 dL_law_1665 dL_law_1666 dL_law_1667 ?_
  refine W.eq (g2 := F0 m 1668 ls [.int (xs (i + 3)), .int (xs (i + 2)), .int (xs (i + 1)), .ref (s.heap.size + 0)]) rfl ?_
  refine w_callC [.int (xs (i + 1)), .int (xs (i + 2)), .int (xs (i + 3))] (rest := []) E hl.1 hM cv_L_180 (c10_tried l D aC s.heap.size h1) (Nat.le_of_ble_eq_true rfl) (Nat.le_of_ble_eq_true rfl) rfl rfl (Nat.le_of_ble_eq_true rfl) dL_law_1668 hf (fun H locs hM => ?_)
  refine W.eq (g2 := F0 m 1671 ls [.int r]) rfl ?_
  refine lv_aload_n hx hb dL_law_1671 rfl (lv_at hl 2 rfl) ?_
  refine w_arg (j := 1) E hM.2.2.2 hl rfl (by omega) dL_law_1672 dL_law_1673 dL_law_1675 dL_law_1676 dL_law_1677 ?_
  refine W.eq (g2 := F0 m 1678 ls [.int (xs (i + 1)), .ref (s.heap.size + 69 + 0), .int r]) rfl ?_
  refine w_arg (j := 2) E hM.2.2.2 hl rfl (by omega) dL_law_1678 dL_law_1679 dL_law_1681 dL_law_1682 dL_law_1683 ?_
  refine W.eq (g2 := F0 m 1684 ls [.int (xs (i + 2)), .int (xs (i + 1)), .ref (s.heap.size + 69 + 0), .int r]) rfl ?_
  refine w_arg (j := 3) E hM.2.2.2 hl rfl (by omega) dL_law_1684 dL_law_1685 dL_law_1687 dL_law_1688 dL_law_1689 ?_
  refine W.eq (g2 := F0 m 1690 ls [.int (xs (i + 3)), .int (xs (i + 2)), .int (xs (i + 1)), .ref (s.heap.size + 69 + 0), .int r]) rfl ?_
  refine w_callM [.int (xs (i + 1)), .int (xs (i + 2)), .int (xs (i + 3))] (rest := [.int r]) E hl.1 hM cv_L_183 (c11_tried l D aC (s.heap.size + 69) h2) (Nat.le_of_ble_eq_true rfl) (Nat.le_of_ble_eq_true rfl) rfl rfl (Nat.le_of_ble_eq_true rfl) dL_law_1690 hf (fun H locs hM => ?_)
  refine W.eq (g2 := F0 m 1693 ls [.int r, .int r]) rfl ?_
  refine lv_icmp_eq (tgt := 1762) hx hb dL_law_1693 (by decide) (fun _ => ?_) (fun h => absurd rfl h)
  exact kk H locs c1 m1 hM hI1
set_option maxHeartbeats 4000000 in
set_option maxRecDepth 100000 in
theorem w_case37 (E : w_E p s m c D aC b L xs) {i : Nat} (hi : i + 6 ≤ L) (hM : w_M D aC s cm mm H locs) (hI : INV cm mm) (hl : lv_has ls 7 (w_lv s b i)) (hf : cells ≤ 601024 ∧ slots ≤ 7293034) (kk : ∀ (H1 : Heap) (locs1 : List Loc) (c1 m1 : g_M), w_M D aC s c1 m1 H1 locs1 → INV c1 m1 → W p l e room_1 s m #[Value.ref b] below meth c H1 locs1 cells slots Q (F0 m 1762 ls [])) : W p l e room_1 s m #[Value.ref b] below meth c H locs cells slots Q (F0 m 1698 ls []) := by
  have hx := E.1.1
  have hb := E.1.2.1
  obtain ⟨r, c1, m1, h1, h2, hI1⟩ := s_undo (F := 5001) (by decide) hI 
  refine lv_aload_n hx hb dL_law_1698 rfl (lv_at hl 1 rfl) ?_
  refine w_callC [] (rest := []) E hl.1 hM cv_L_184 (c10_undo l D aC s.heap.size h1) (Nat.le_of_ble_eq_true rfl) (Nat.le_of_ble_eq_true rfl) rfl rfl (Nat.le_of_ble_eq_true rfl) dL_law_1699 hf (fun H locs hM => ?_)
  refine W.eq (g2 := F0 m 1702 ls [.int r]) rfl ?_
  refine lv_aload_n hx hb dL_law_1702 rfl (lv_at hl 2 rfl) ?_
  refine w_callM [] (rest := [.int r]) E hl.1 hM cv_L_187 (c11_undo l D aC (s.heap.size + 69) h2) (Nat.le_of_ble_eq_true rfl) (Nat.le_of_ble_eq_true rfl) rfl rfl (Nat.le_of_ble_eq_true rfl) dL_law_1703 hf (fun H locs hM => ?_)
  refine W.eq (g2 := F0 m 1706 ls [.int r, .int r]) rfl ?_
  refine lv_icmp_eq (tgt := 1762) hx hb dL_law_1706 (by decide) (fun _ => ?_) (fun h => absurd rfl h)
  exact kk H locs c1 m1 hM hI1
set_option maxHeartbeats 4000000 in
set_option maxRecDepth 100000 in
theorem w_case38 (E : w_E p s m c D aC b L xs) {i : Nat} (hi : i + 6 ≤ L) (hM : w_M D aC s cm mm H locs) (hI : INV cm mm) (hl : lv_has ls 7 (w_lv s b i)) (hf : cells ≤ 601024 ∧ slots ≤ 7293034) (kk : ∀ (H1 : Heap) (locs1 : List Loc) (c1 m1 : g_M), w_M D aC s c1 m1 H1 locs1 → INV c1 m1 → W p l e room_1 s m #[Value.ref b] below meth c H1 locs1 cells slots Q (F0 m 1762 ls [])) : W p l e room_1 s m #[Value.ref b] below meth c H locs cells slots Q (F0 m 1711 ls []) := by
  have hx := E.1.1
  have hb := E.1.2.1
  obtain ⟨r, c1, m1, h1, h2, hI1⟩ := s_keep (F := 5001) (by decide) hI 
  refine lv_aload_n hx hb dL_law_1711 rfl (lv_at hl 1 rfl) ?_
  refine w_callC [] (rest := []) E hl.1 hM cv_L_188 (c10_keep l D aC s.heap.size h1) (Nat.le_of_ble_eq_true rfl) (Nat.le_of_ble_eq_true rfl) rfl rfl (Nat.le_of_ble_eq_true rfl) dL_law_1712 hf (fun H locs hM => ?_)
  refine W.eq (g2 := F0 m 1715 ls [.int r]) rfl ?_
  refine lv_aload_n hx hb dL_law_1715 rfl (lv_at hl 2 rfl) ?_
  refine w_callM [] (rest := [.int r]) E hl.1 hM cv_L_191 (c11_keep l D aC (s.heap.size + 69) h2) (Nat.le_of_ble_eq_true rfl) (Nat.le_of_ble_eq_true rfl) rfl rfl (Nat.le_of_ble_eq_true rfl) dL_law_1716 hf (fun H locs hM => ?_)
  refine W.eq (g2 := F0 m 1719 ls [.int r, .int r]) rfl ?_
  refine lv_icmp_eq (tgt := 1762) hx hb dL_law_1719 (by decide) (fun _ => ?_) (fun h => absurd rfl h)
  exact kk H locs c1 m1 hM hI1
set_option maxHeartbeats 4000000 in
set_option maxRecDepth 100000 in
theorem w_case39 (E : w_E p s m c D aC b L xs) {i : Nat} (hi : i + 6 ≤ L) (hM : w_M D aC s cm mm H locs) (hI : INV cm mm) (hl : lv_has ls 7 (w_lv s b i)) (hf : cells ≤ 601024 ∧ slots ≤ 7293034) (kk : ∀ (H1 : Heap) (locs1 : List Loc) (c1 m1 : g_M), w_M D aC s c1 m1 H1 locs1 → INV c1 m1 → W p l e room_1 s m #[Value.ref b] below meth c H1 locs1 cells slots Q (F0 m 1762 ls [])) : W p l e room_1 s m #[Value.ref b] below meth c H locs cells slots Q (F0 m 1724 ls []) := by
  have hx := E.1.1
  have hb := E.1.2.1
  obtain ⟨r, c1, m1, h1, h2, hI1⟩ := s_back (F := 5001) (by decide) hI 
  refine lv_aload_n hx hb dL_law_1724 rfl (lv_at hl 1 rfl) ?_
  refine w_callC [] (rest := []) E hl.1 hM cv_L_192 (c10_back l D aC s.heap.size h1) (Nat.le_of_ble_eq_true rfl) (Nat.le_of_ble_eq_true rfl) rfl rfl (Nat.le_of_ble_eq_true rfl) dL_law_1725 hf (fun H locs hM => ?_)
  refine W.eq (g2 := F0 m 1728 ls [.int r]) rfl ?_
  refine lv_aload_n hx hb dL_law_1728 rfl (lv_at hl 2 rfl) ?_
  refine w_callM [] (rest := [.int r]) E hl.1 hM cv_L_195 (c11_back l D aC (s.heap.size + 69) h2) (Nat.le_of_ble_eq_true rfl) (Nat.le_of_ble_eq_true rfl) rfl rfl (Nat.le_of_ble_eq_true rfl) dL_law_1729 hf (fun H locs hM => ?_)
  refine W.eq (g2 := F0 m 1732 ls [.int r, .int r]) rfl ?_
  refine lv_icmp_eq (tgt := 1762) hx hb dL_law_1732 (by decide) (fun _ => ?_) (fun h => absurd rfl h)
  exact kk H locs c1 m1 hM hI1
set_option maxHeartbeats 4000000 in
set_option maxRecDepth 100000 in
theorem w_case40 (E : w_E p s m c D aC b L xs) {i : Nat} (hi : i + 6 ≤ L) (hM : w_M D aC s cm mm H locs) (hI : INV cm mm) (hl : lv_has ls 7 (w_lv s b i)) (hf : cells ≤ 601024 ∧ slots ≤ 7293034) (kk : ∀ (H1 : Heap) (locs1 : List Loc) (c1 m1 : g_M), w_M D aC s c1 m1 H1 locs1 → INV c1 m1 → W p l e room_1 s m #[Value.ref b] below meth c H1 locs1 cells slots Q (F0 m 1762 ls [])) : W p l e room_1 s m #[Value.ref b] below meth c H locs cells slots Q (F0 m 1737 ls []) := by
  have hx := E.1.1
  have hb := E.1.2.1
  obtain ⟨r, m1, h1, h2, hI1⟩ := s_count (F := 5001) (by decide) hI (xs (i + 1))
  refine lv_aload_n hx hb dL_law_1737 rfl (lv_at hl 1 rfl) ?_
  refine w_arg (j := 1) E hM.2.2.2 hl rfl (by omega) dL_law_1738 dL_law_1739 dL_law_1741 dL_law_1742 dL_law_1743 ?_
  refine W.eq (g2 := F0 m 1744 ls [.int (xs (i + 1)), .ref (s.heap.size + 0)]) rfl ?_
  refine w_callC [.int (xs (i + 1))] (rest := []) E hl.1 hM cv_L_196 (c10_count l D aC s.heap.size h1) (Nat.le_of_ble_eq_true rfl) (Nat.le_of_ble_eq_true rfl) rfl rfl (Nat.le_of_ble_eq_true rfl) dL_law_1744 hf (fun H locs hM => ?_)
  refine W.eq (g2 := F0 m 1747 ls [.int r]) rfl ?_
  refine lv_aload_n hx hb dL_law_1747 rfl (lv_at hl 2 rfl) ?_
  refine w_arg (j := 1) E hM.2.2.2 hl rfl (by omega) dL_law_1748 dL_law_1749 dL_law_1751 dL_law_1752 dL_law_1753 ?_
  refine W.eq (g2 := F0 m 1754 ls [.int (xs (i + 1)), .ref (s.heap.size + 69 + 0), .int r]) rfl ?_
  refine w_callM [.int (xs (i + 1))] (rest := [.int r]) E hl.1 hM cv_L_199 (c11_count l D aC (s.heap.size + 69) h2) (Nat.le_of_ble_eq_true rfl) (Nat.le_of_ble_eq_true rfl) rfl rfl (Nat.le_of_ble_eq_true rfl) dL_law_1754 hf (fun H locs hM => ?_)
  refine W.eq (g2 := F0 m 1757 ls [.int r, .int r]) rfl ?_
  refine lv_icmp_eq (tgt := 1762) hx hb dL_law_1757 (by decide) (fun _ => ?_) (fun h => absurd rfl h)
  exact kk H locs cm m1 hM hI1
end WC
