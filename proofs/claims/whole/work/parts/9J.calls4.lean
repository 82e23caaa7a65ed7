/-! THE LAW: calls 4 -/
theorem dL_law_1381 : decode cL_law 1381 = .ok (.aload_n 1, 1) := by decide +kernel
theorem dL_law_1382 : decode cL_law 1382 = .ok (.aload_n 0, 1) := by decide +kernel
theorem dL_law_1383 : decode cL_law 1383 = .ok (.iload_n 3, 1) := by decide +kernel
theorem dL_law_1384 : decode cL_law 1384 = .ok (.iconst 1, 1) := by decide +kernel
theorem dL_law_1385 : decode cL_law 1385 = .ok (.iadd, 1) := by decide +kernel
theorem dL_law_1386 : decode cL_law 1386 = .ok (.iaload, 1) := by decide +kernel
theorem dL_law_1387 : decode cL_law 1387 = .ok (.aload_n 0, 1) := by decide +kernel
theorem dL_law_1388 : decode cL_law 1388 = .ok (.iload_n 3, 1) := by decide +kernel
theorem dL_law_1389 : decode cL_law 1389 = .ok (.iconst 2, 1) := by decide +kernel
theorem dL_law_1390 : decode cL_law 1390 = .ok (.iadd, 1) := by decide +kernel
theorem dL_law_1391 : decode cL_law 1391 = .ok (.iaload, 1) := by decide +kernel
theorem dL_law_1392 : decode cL_law 1392 = .ok (.aload_n 0, 1) := by decide +kernel
theorem dL_law_1393 : decode cL_law 1393 = .ok (.iload_n 3, 1) := by decide +kernel
theorem dL_law_1394 : decode cL_law 1394 = .ok (.iconst 3, 1) := by decide +kernel
theorem dL_law_1395 : decode cL_law 1395 = .ok (.iadd, 1) := by decide +kernel
theorem dL_law_1396 : decode cL_law 1396 = .ok (.iaload, 1) := by decide +kernel
theorem dL_law_1397 : decode cL_law 1397 = .ok (.invokevirtual 185, 3) := by decide +kernel
theorem dL_law_1400 : decode cL_law 1400 = .ok (.aload_n 2, 1) := by decide +kernel
theorem dL_law_1401 : decode cL_law 1401 = .ok (.aload_n 0, 1) := by decide +kernel
theorem dL_law_1402 : decode cL_law 1402 = .ok (.iload_n 3, 1) := by decide +kernel
theorem dL_law_1403 : decode cL_law 1403 = .ok (.iconst 1, 1) := by decide +kernel
theorem dL_law_1404 : decode cL_law 1404 = .ok (.iadd, 1) := by decide +kernel
theorem dL_law_1405 : decode cL_law 1405 = .ok (.iaload, 1) := by decide +kernel
theorem dL_law_1406 : decode cL_law 1406 = .ok (.aload_n 0, 1) := by decide +kernel
theorem dL_law_1407 : decode cL_law 1407 = .ok (.iload_n 3, 1) := by decide +kernel
theorem dL_law_1408 : decode cL_law 1408 = .ok (.iconst 2, 1) := by decide +kernel
theorem dL_law_1409 : decode cL_law 1409 = .ok (.iadd, 1) := by decide +kernel
theorem dL_law_1410 : decode cL_law 1410 = .ok (.iaload, 1) := by decide +kernel
theorem dL_law_1411 : decode cL_law 1411 = .ok (.aload_n 0, 1) := by decide +kernel
theorem dL_law_1412 : decode cL_law 1412 = .ok (.iload_n 3, 1) := by decide +kernel
theorem dL_law_1413 : decode cL_law 1413 = .ok (.iconst 3, 1) := by decide +kernel
theorem dL_law_1414 : decode cL_law 1414 = .ok (.iadd, 1) := by decide +kernel
theorem dL_law_1415 : decode cL_law 1415 = .ok (.iaload, 1) := by decide +kernel
theorem dL_law_1416 : decode cL_law 1416 = .ok (.invokevirtual 188, 3) := by decide +kernel
theorem dL_law_1419 : decode cL_law 1419 = .ok (.if_icmp .eq 424, 3) := by decide +kernel
theorem lw_k41 {G : lu_G} {Q : State → Prop} {ρ σ : Nat → Nat} {m n : lu_M} {k z b L j : Nat} {xs : Nat → Int32} (X : lw_X G 2000 80000 b L xs) (hj : j + 5 ≤ L) (hr : Rel m n) (hk : k + 6 ≤ (lu_R G).cells ∧ z + 36 ≤ (lu_R G).slots) (kk : ∀ (m2 n2 : lu_M) (ρ2 : Nat → Nat), Rel m2 n2 → ρ2 0 = ρ 0 → lw_I G Q 1843 (lw_lv b (ρ 0) (σ 0) (nI j)) [] ρ2 m2 σ n2 (k + 6) (z + 36)) : lw_I G Q 1381 (lw_lv b (ρ 0) (σ 0) (nI j)) [] ρ m σ n k z := by
  refine lw_a1 X dL_law_1381 rfl ?_
  refine lw_ld X hj 1 (by decide) rfl dL_law_1382 dL_law_1383 dL_law_1384 dL_law_1385 dL_law_1386 rfl ?_
  refine lw_ld X hj 2 (by decide) rfl dL_law_1387 dL_law_1388 dL_law_1389 dL_law_1390 dL_law_1391 rfl ?_
  refine lw_ld X hj 3 (by decide) rfl dL_law_1392 dL_law_1393 dL_law_1394 dL_law_1395 dL_law_1396 rfl ?_
  obtain ⟨a, m2, n2, q1, q2, hr2⟩ := y_alterRow (xs (j + 1)) (xs (j + 2)) (xs (j + 3)) m n hr
  refine lw_callC (As := [.int (xs (j + 1)), .int (xs (j + 2)), .int (xs (j + 3))]) (rest := []) X.1 (c11_alterRow (lu_l G) (xs (j + 1)) (xs (j + 2)) (xs (j + 3))) q1 ml11_alterRow mv11_alterRow rfl rfl (by decide) (Nat.le_of_ble_eq_true rfl) (Nat.le_of_ble_eq_true rfl) ⟨by omega, by omega⟩ dL_law_1397 rfl rfl ?_
  refine lw_a2 X dL_law_1400 rfl ?_
  refine lw_ld X hj 1 (by decide) rfl dL_law_1401 dL_law_1402 dL_law_1403 dL_law_1404 dL_law_1405 rfl ?_
  refine lw_ld X hj 2 (by decide) rfl dL_law_1406 dL_law_1407 dL_law_1408 dL_law_1409 dL_law_1410 rfl ?_
  refine lw_ld X hj 3 (by decide) rfl dL_law_1411 dL_law_1412 dL_law_1413 dL_law_1414 dL_law_1415 rfl ?_
  refine lw_callM (As := [.int (xs (j + 1)), .int (xs (j + 2)), .int (xs (j + 3))]) (rest := [.int a]) X.1 (c12_alterRow (lu_l G) (xs (j + 1)) (xs (j + 2)) (xs (j + 3))) q2 ml12_alterRow mv12_alterRow rfl rfl (Nat.le_of_ble_eq_true rfl) (Nat.le_of_ble_eq_true rfl) (Nat.le_of_ble_eq_true rfl) ⟨by omega, by omega⟩ dL_law_1416 rfl rfl ?_
  refine lw_same X dL_law_1419 rfl ?_
  exact lw_I.wide (kk m2 n2 ρ hr2 rfl)
theorem dL_law_1424 : decode cL_law 1424 = .ok (.aload_n 1, 1) := by decide +kernel
theorem dL_law_1425 : decode cL_law 1425 = .ok (.invokevirtual 189, 3) := by decide +kernel
theorem dL_law_1428 : decode cL_law 1428 = .ok (.aload_n 2, 1) := by decide +kernel
theorem dL_law_1429 : decode cL_law 1429 = .ok (.invokevirtual 192, 3) := by decide +kernel
theorem dL_law_1432 : decode cL_law 1432 = .ok (.if_icmp .eq 411, 3) := by decide +kernel
theorem lw_k42 {G : lu_G} {Q : State → Prop} {ρ σ : Nat → Nat} {m n : lu_M} {k z b L j : Nat} {xs : Nat → Int32} (X : lw_X G 2000 80000 b L xs) (hj : j + 5 ≤ L) (hr : Rel m n) (hk : k + 6 ≤ (lu_R G).cells ∧ z + 36 ≤ (lu_R G).slots) (kk : ∀ (m2 n2 : lu_M) (ρ2 : Nat → Nat), Rel m2 n2 → ρ2 0 = ρ 0 → lw_I G Q 1843 (lw_lv b (ρ 0) (σ 0) (nI j)) [] ρ2 m2 σ n2 (k + 6) (z + 36)) : lw_I G Q 1424 (lw_lv b (ρ 0) (σ 0) (nI j)) [] ρ m σ n k z := by
  refine lw_a1 X dL_law_1424 rfl ?_
  obtain ⟨a, m2, n2, q1, q2, hr2⟩ := y_judge m n hr
  refine lw_callC (As := []) (rest := []) X.1 (c11_judge (lu_l G) ) q1 ml11_judge mv11_judge rfl rfl (by decide) (Nat.le_of_ble_eq_true rfl) (Nat.le_of_ble_eq_true rfl) ⟨by omega, by omega⟩ dL_law_1425 rfl rfl ?_
  refine lw_a2 X dL_law_1428 rfl ?_
  refine lw_callM (As := []) (rest := [.int a]) X.1 (c12_judge (lu_l G) ) q2 ml12_judge mv12_judge rfl rfl (Nat.le_of_ble_eq_true rfl) (Nat.le_of_ble_eq_true rfl) (Nat.le_of_ble_eq_true rfl) ⟨by omega, by omega⟩ dL_law_1429 rfl rfl ?_
  refine lw_same X dL_law_1432 rfl ?_
  exact lw_I.wide (kk m2 n2 ρ hr2 rfl)
theorem dL_law_1437 : decode cL_law 1437 = .ok (.aload_n 1, 1) := by decide +kernel
theorem dL_law_1438 : decode cL_law 1438 = .ok (.aload_n 0, 1) := by decide +kernel
theorem dL_law_1439 : decode cL_law 1439 = .ok (.iload_n 3, 1) := by decide +kernel
theorem dL_law_1440 : decode cL_law 1440 = .ok (.iconst 1, 1) := by decide +kernel
theorem dL_law_1441 : decode cL_law 1441 = .ok (.iadd, 1) := by decide +kernel
theorem dL_law_1442 : decode cL_law 1442 = .ok (.iaload, 1) := by decide +kernel
theorem dL_law_1443 : decode cL_law 1443 = .ok (.aload_n 0, 1) := by decide +kernel
theorem dL_law_1444 : decode cL_law 1444 = .ok (.iload_n 3, 1) := by decide +kernel
theorem dL_law_1445 : decode cL_law 1445 = .ok (.iconst 2, 1) := by decide +kernel
theorem dL_law_1446 : decode cL_law 1446 = .ok (.iadd, 1) := by decide +kernel
theorem dL_law_1447 : decode cL_law 1447 = .ok (.iaload, 1) := by decide +kernel
theorem dL_law_1448 : decode cL_law 1448 = .ok (.aload_n 0, 1) := by decide +kernel
theorem dL_law_1449 : decode cL_law 1449 = .ok (.iload_n 3, 1) := by decide +kernel
theorem dL_law_1450 : decode cL_law 1450 = .ok (.iconst 3, 1) := by decide +kernel
theorem dL_law_1451 : decode cL_law 1451 = .ok (.iadd, 1) := by decide +kernel
theorem dL_law_1452 : decode cL_law 1452 = .ok (.iaload, 1) := by decide +kernel
theorem dL_law_1453 : decode cL_law 1453 = .ok (.invokevirtual 193, 3) := by decide +kernel
theorem dL_law_1456 : decode cL_law 1456 = .ok (.aload_n 2, 1) := by decide +kernel
theorem dL_law_1457 : decode cL_law 1457 = .ok (.aload_n 0, 1) := by decide +kernel
theorem dL_law_1458 : decode cL_law 1458 = .ok (.iload_n 3, 1) := by decide +kernel
theorem dL_law_1459 : decode cL_law 1459 = .ok (.iconst 1, 1) := by decide +kernel
theorem dL_law_1460 : decode cL_law 1460 = .ok (.iadd, 1) := by decide +kernel
theorem dL_law_1461 : decode cL_law 1461 = .ok (.iaload, 1) := by decide +kernel
theorem dL_law_1462 : decode cL_law 1462 = .ok (.aload_n 0, 1) := by decide +kernel
theorem dL_law_1463 : decode cL_law 1463 = .ok (.iload_n 3, 1) := by decide +kernel
theorem dL_law_1464 : decode cL_law 1464 = .ok (.iconst 2, 1) := by decide +kernel
theorem dL_law_1465 : decode cL_law 1465 = .ok (.iadd, 1) := by decide +kernel
theorem dL_law_1466 : decode cL_law 1466 = .ok (.iaload, 1) := by decide +kernel
theorem dL_law_1467 : decode cL_law 1467 = .ok (.aload_n 0, 1) := by decide +kernel
theorem dL_law_1468 : decode cL_law 1468 = .ok (.iload_n 3, 1) := by decide +kernel
theorem dL_law_1469 : decode cL_law 1469 = .ok (.iconst 3, 1) := by decide +kernel
theorem dL_law_1470 : decode cL_law 1470 = .ok (.iadd, 1) := by decide +kernel
theorem dL_law_1471 : decode cL_law 1471 = .ok (.iaload, 1) := by decide +kernel
theorem dL_law_1472 : decode cL_law 1472 = .ok (.invokevirtual 196, 3) := by decide +kernel
theorem dL_law_1475 : decode cL_law 1475 = .ok (.if_icmp .eq 368, 3) := by decide +kernel
theorem lw_k43 {G : lu_G} {Q : State → Prop} {ρ σ : Nat → Nat} {m n : lu_M} {k z b L j : Nat} {xs : Nat → Int32} (X : lw_X G 2000 80000 b L xs) (hj : j + 5 ≤ L) (hr : Rel m n) (hk : k + 6 ≤ (lu_R G).cells ∧ z + 36 ≤ (lu_R G).slots) (kk : ∀ (m2 n2 : lu_M) (ρ2 : Nat → Nat), Rel m2 n2 → ρ2 0 = ρ 0 → lw_I G Q 1843 (lw_lv b (ρ 0) (σ 0) (nI j)) [] ρ2 m2 σ n2 (k + 6) (z + 36)) : lw_I G Q 1437 (lw_lv b (ρ 0) (σ 0) (nI j)) [] ρ m σ n k z := by
  refine lw_a1 X dL_law_1437 rfl ?_
  refine lw_ld X hj 1 (by decide) rfl dL_law_1438 dL_law_1439 dL_law_1440 dL_law_1441 dL_law_1442 rfl ?_
  refine lw_ld X hj 2 (by decide) rfl dL_law_1443 dL_law_1444 dL_law_1445 dL_law_1446 dL_law_1447 rfl ?_
  refine lw_ld X hj 3 (by decide) rfl dL_law_1448 dL_law_1449 dL_law_1450 dL_law_1451 dL_law_1452 rfl ?_
  obtain ⟨a, m2, n2, q1, q2, hr2⟩ := y_sheet (xs (j + 1)) (xs (j + 2)) (xs (j + 3)) m n hr
  refine lw_callC (As := [.int (xs (j + 1)), .int (xs (j + 2)), .int (xs (j + 3))]) (rest := []) X.1 (c11_sheet (lu_l G) (xs (j + 1)) (xs (j + 2)) (xs (j + 3))) q1 ml11_sheet mv11_sheet rfl rfl (by decide) (Nat.le_of_ble_eq_true rfl) (Nat.le_of_ble_eq_true rfl) ⟨by omega, by omega⟩ dL_law_1453 rfl rfl ?_
  refine lw_a2 X dL_law_1456 rfl ?_
  refine lw_ld X hj 1 (by decide) rfl dL_law_1457 dL_law_1458 dL_law_1459 dL_law_1460 dL_law_1461 rfl ?_
  refine lw_ld X hj 2 (by decide) rfl dL_law_1462 dL_law_1463 dL_law_1464 dL_law_1465 dL_law_1466 rfl ?_
  refine lw_ld X hj 3 (by decide) rfl dL_law_1467 dL_law_1468 dL_law_1469 dL_law_1470 dL_law_1471 rfl ?_
  refine lw_callM (As := [.int (xs (j + 1)), .int (xs (j + 2)), .int (xs (j + 3))]) (rest := [.int a]) X.1 (c12_sheet (lu_l G) (xs (j + 1)) (xs (j + 2)) (xs (j + 3))) q2 ml12_sheet mv12_sheet rfl rfl (Nat.le_of_ble_eq_true rfl) (Nat.le_of_ble_eq_true rfl) (Nat.le_of_ble_eq_true rfl) ⟨by omega, by omega⟩ dL_law_1472 rfl rfl ?_
  refine lw_same X dL_law_1475 rfl ?_
  exact lw_I.wide (kk m2 n2 ρ hr2 rfl)
theorem dL_law_1480 : decode cL_law 1480 = .ok (.aload_n 1, 1) := by decide +kernel
theorem dL_law_1481 : decode cL_law 1481 = .ok (.aload_n 0, 1) := by decide +kernel
theorem dL_law_1482 : decode cL_law 1482 = .ok (.iload_n 3, 1) := by decide +kernel
theorem dL_law_1483 : decode cL_law 1483 = .ok (.iconst 1, 1) := by decide +kernel
theorem dL_law_1484 : decode cL_law 1484 = .ok (.iadd, 1) := by decide +kernel
theorem dL_law_1485 : decode cL_law 1485 = .ok (.iaload, 1) := by decide +kernel
theorem dL_law_1486 : decode cL_law 1486 = .ok (.aload_n 0, 1) := by decide +kernel
theorem dL_law_1487 : decode cL_law 1487 = .ok (.iload_n 3, 1) := by decide +kernel
theorem dL_law_1488 : decode cL_law 1488 = .ok (.iconst 2, 1) := by decide +kernel
theorem dL_law_1489 : decode cL_law 1489 = .ok (.iadd, 1) := by decide +kernel
theorem dL_law_1490 : decode cL_law 1490 = .ok (.iaload, 1) := by decide +kernel
theorem dL_law_1491 : decode cL_law 1491 = .ok (.aload_n 0, 1) := by decide +kernel
theorem dL_law_1492 : decode cL_law 1492 = .ok (.iload_n 3, 1) := by decide +kernel
theorem dL_law_1493 : decode cL_law 1493 = .ok (.iconst 3, 1) := by decide +kernel
theorem dL_law_1494 : decode cL_law 1494 = .ok (.iadd, 1) := by decide +kernel
theorem dL_law_1495 : decode cL_law 1495 = .ok (.iaload, 1) := by decide +kernel
theorem dL_law_1496 : decode cL_law 1496 = .ok (.invokevirtual 197, 3) := by decide +kernel
theorem dL_law_1499 : decode cL_law 1499 = .ok (.aload_n 2, 1) := by decide +kernel
theorem dL_law_1500 : decode cL_law 1500 = .ok (.aload_n 0, 1) := by decide +kernel
theorem dL_law_1501 : decode cL_law 1501 = .ok (.iload_n 3, 1) := by decide +kernel
theorem dL_law_1502 : decode cL_law 1502 = .ok (.iconst 1, 1) := by decide +kernel
theorem dL_law_1503 : decode cL_law 1503 = .ok (.iadd, 1) := by decide +kernel
theorem dL_law_1504 : decode cL_law 1504 = .ok (.iaload, 1) := by decide +kernel
theorem dL_law_1505 : decode cL_law 1505 = .ok (.aload_n 0, 1) := by decide +kernel
theorem dL_law_1506 : decode cL_law 1506 = .ok (.iload_n 3, 1) := by decide +kernel
theorem dL_law_1507 : decode cL_law 1507 = .ok (.iconst 2, 1) := by decide +kernel
theorem dL_law_1508 : decode cL_law 1508 = .ok (.iadd, 1) := by decide +kernel
theorem dL_law_1509 : decode cL_law 1509 = .ok (.iaload, 1) := by decide +kernel
theorem dL_law_1510 : decode cL_law 1510 = .ok (.aload_n 0, 1) := by decide +kernel
theorem dL_law_1511 : decode cL_law 1511 = .ok (.iload_n 3, 1) := by decide +kernel
theorem dL_law_1512 : decode cL_law 1512 = .ok (.iconst 3, 1) := by decide +kernel
theorem dL_law_1513 : decode cL_law 1513 = .ok (.iadd, 1) := by decide +kernel
theorem dL_law_1514 : decode cL_law 1514 = .ok (.iaload, 1) := by decide +kernel
theorem dL_law_1515 : decode cL_law 1515 = .ok (.invokevirtual 200, 3) := by decide +kernel
theorem dL_law_1518 : decode cL_law 1518 = .ok (.if_icmp .eq 325, 3) := by decide +kernel
theorem lw_k44 {G : lu_G} {Q : State → Prop} {ρ σ : Nat → Nat} {m n : lu_M} {k z b L j : Nat} {xs : Nat → Int32} (X : lw_X G 2000 80000 b L xs) (hj : j + 5 ≤ L) (hr : Rel m n) (hk : k + 6 ≤ (lu_R G).cells ∧ z + 36 ≤ (lu_R G).slots) (kk : ∀ (m2 n2 : lu_M) (ρ2 : Nat → Nat), Rel m2 n2 → ρ2 0 = ρ 0 → lw_I G Q 1843 (lw_lv b (ρ 0) (σ 0) (nI j)) [] ρ2 m2 σ n2 (k + 6) (z + 36)) : lw_I G Q 1480 (lw_lv b (ρ 0) (σ 0) (nI j)) [] ρ m σ n k z := by
  refine lw_a1 X dL_law_1480 rfl ?_
  refine lw_ld X hj 1 (by decide) rfl dL_law_1481 dL_law_1482 dL_law_1483 dL_law_1484 dL_law_1485 rfl ?_
  refine lw_ld X hj 2 (by decide) rfl dL_law_1486 dL_law_1487 dL_law_1488 dL_law_1489 dL_law_1490 rfl ?_
  refine lw_ld X hj 3 (by decide) rfl dL_law_1491 dL_law_1492 dL_law_1493 dL_law_1494 dL_law_1495 rfl ?_
  obtain ⟨a, m2, n2, q1, q2, hr2⟩ := y_write (xs (j + 1)) (xs (j + 2)) (xs (j + 3)) m n hr
  refine lw_callC (As := [.int (xs (j + 1)), .int (xs (j + 2)), .int (xs (j + 3))]) (rest := []) X.1 (c11_write (lu_l G) (xs (j + 1)) (xs (j + 2)) (xs (j + 3))) q1 ml11_write mv11_write rfl rfl (by decide) (Nat.le_of_ble_eq_true rfl) (Nat.le_of_ble_eq_true rfl) ⟨by omega, by omega⟩ dL_law_1496 rfl rfl ?_
  refine lw_a2 X dL_law_1499 rfl ?_
  refine lw_ld X hj 1 (by decide) rfl dL_law_1500 dL_law_1501 dL_law_1502 dL_law_1503 dL_law_1504 rfl ?_
  refine lw_ld X hj 2 (by decide) rfl dL_law_1505 dL_law_1506 dL_law_1507 dL_law_1508 dL_law_1509 rfl ?_
  refine lw_ld X hj 3 (by decide) rfl dL_law_1510 dL_law_1511 dL_law_1512 dL_law_1513 dL_law_1514 rfl ?_
  refine lw_callM (As := [.int (xs (j + 1)), .int (xs (j + 2)), .int (xs (j + 3))]) (rest := [.int a]) X.1 (c12_write (lu_l G) (xs (j + 1)) (xs (j + 2)) (xs (j + 3))) q2 ml12_write mv12_write rfl rfl (Nat.le_of_ble_eq_true rfl) (Nat.le_of_ble_eq_true rfl) (Nat.le_of_ble_eq_true rfl) ⟨by omega, by omega⟩ dL_law_1515 rfl rfl ?_
  refine lw_same X dL_law_1518 rfl ?_
  exact lw_I.wide (kk m2 n2 ρ hr2 rfl)
theorem dL_law_1523 : decode cL_law 1523 = .ok (.aload_n 1, 1) := by decide +kernel
theorem dL_law_1524 : decode cL_law 1524 = .ok (.aload_n 0, 1) := by decide +kernel
theorem dL_law_1525 : decode cL_law 1525 = .ok (.iload_n 3, 1) := by decide +kernel
theorem dL_law_1526 : decode cL_law 1526 = .ok (.iconst 1, 1) := by decide +kernel
theorem dL_law_1527 : decode cL_law 1527 = .ok (.iadd, 1) := by decide +kernel
theorem dL_law_1528 : decode cL_law 1528 = .ok (.iaload, 1) := by decide +kernel
theorem dL_law_1529 : decode cL_law 1529 = .ok (.aload_n 0, 1) := by decide +kernel
theorem dL_law_1530 : decode cL_law 1530 = .ok (.iload_n 3, 1) := by decide +kernel
theorem dL_law_1531 : decode cL_law 1531 = .ok (.iconst 2, 1) := by decide +kernel
theorem dL_law_1532 : decode cL_law 1532 = .ok (.iadd, 1) := by decide +kernel
theorem dL_law_1533 : decode cL_law 1533 = .ok (.iaload, 1) := by decide +kernel
theorem dL_law_1534 : decode cL_law 1534 = .ok (.aload_n 0, 1) := by decide +kernel
theorem dL_law_1535 : decode cL_law 1535 = .ok (.iload_n 3, 1) := by decide +kernel
theorem dL_law_1536 : decode cL_law 1536 = .ok (.iconst 3, 1) := by decide +kernel
theorem dL_law_1537 : decode cL_law 1537 = .ok (.iadd, 1) := by decide +kernel
theorem dL_law_1538 : decode cL_law 1538 = .ok (.iaload, 1) := by decide +kernel
theorem dL_law_1539 : decode cL_law 1539 = .ok (.invokevirtual 201, 3) := by decide +kernel
theorem dL_law_1542 : decode cL_law 1542 = .ok (.aload_n 2, 1) := by decide +kernel
theorem dL_law_1543 : decode cL_law 1543 = .ok (.aload_n 0, 1) := by decide +kernel
theorem dL_law_1544 : decode cL_law 1544 = .ok (.iload_n 3, 1) := by decide +kernel
theorem dL_law_1545 : decode cL_law 1545 = .ok (.iconst 1, 1) := by decide +kernel
theorem dL_law_1546 : decode cL_law 1546 = .ok (.iadd, 1) := by decide +kernel
theorem dL_law_1547 : decode cL_law 1547 = .ok (.iaload, 1) := by decide +kernel
theorem dL_law_1548 : decode cL_law 1548 = .ok (.aload_n 0, 1) := by decide +kernel
theorem dL_law_1549 : decode cL_law 1549 = .ok (.iload_n 3, 1) := by decide +kernel
theorem dL_law_1550 : decode cL_law 1550 = .ok (.iconst 2, 1) := by decide +kernel
theorem dL_law_1551 : decode cL_law 1551 = .ok (.iadd, 1) := by decide +kernel
theorem dL_law_1552 : decode cL_law 1552 = .ok (.iaload, 1) := by decide +kernel
theorem dL_law_1553 : decode cL_law 1553 = .ok (.aload_n 0, 1) := by decide +kernel
theorem dL_law_1554 : decode cL_law 1554 = .ok (.iload_n 3, 1) := by decide +kernel
theorem dL_law_1555 : decode cL_law 1555 = .ok (.iconst 3, 1) := by decide +kernel
theorem dL_law_1556 : decode cL_law 1556 = .ok (.iadd, 1) := by decide +kernel
theorem dL_law_1557 : decode cL_law 1557 = .ok (.iaload, 1) := by decide +kernel
theorem dL_law_1558 : decode cL_law 1558 = .ok (.invokevirtual 204, 3) := by decide +kernel
theorem dL_law_1561 : decode cL_law 1561 = .ok (.if_icmp .eq 282, 3) := by decide +kernel
theorem lw_k45 {G : lu_G} {Q : State → Prop} {ρ σ : Nat → Nat} {m n : lu_M} {k z b L j : Nat} {xs : Nat → Int32} (X : lw_X G 2000 80000 b L xs) (hj : j + 5 ≤ L) (hr : Rel m n) (hk : k + 6 ≤ (lu_R G).cells ∧ z + 36 ≤ (lu_R G).slots) (kk : ∀ (m2 n2 : lu_M) (ρ2 : Nat → Nat), Rel m2 n2 → ρ2 0 = ρ 0 → lw_I G Q 1843 (lw_lv b (ρ 0) (σ 0) (nI j)) [] ρ2 m2 σ n2 (k + 6) (z + 36)) : lw_I G Q 1523 (lw_lv b (ρ 0) (σ 0) (nI j)) [] ρ m σ n k z := by
  refine lw_a1 X dL_law_1523 rfl ?_
  refine lw_ld X hj 1 (by decide) rfl dL_law_1524 dL_law_1525 dL_law_1526 dL_law_1527 dL_law_1528 rfl ?_
  refine lw_ld X hj 2 (by decide) rfl dL_law_1529 dL_law_1530 dL_law_1531 dL_law_1532 dL_law_1533 rfl ?_
  refine lw_ld X hj 3 (by decide) rfl dL_law_1534 dL_law_1535 dL_law_1536 dL_law_1537 dL_law_1538 rfl ?_
  obtain ⟨a, m2, n2, q1, q2, hr2⟩ := y_item (xs (j + 1)) (xs (j + 2)) (xs (j + 3)) m n hr
  refine lw_callC (As := [.int (xs (j + 1)), .int (xs (j + 2)), .int (xs (j + 3))]) (rest := []) X.1 (c11_item (lu_l G) (xs (j + 1)) (xs (j + 2)) (xs (j + 3))) q1 ml11_item mv11_item rfl rfl (by decide) (Nat.le_of_ble_eq_true rfl) (Nat.le_of_ble_eq_true rfl) ⟨by omega, by omega⟩ dL_law_1539 rfl rfl ?_
  refine lw_a2 X dL_law_1542 rfl ?_
  refine lw_ld X hj 1 (by decide) rfl dL_law_1543 dL_law_1544 dL_law_1545 dL_law_1546 dL_law_1547 rfl ?_
  refine lw_ld X hj 2 (by decide) rfl dL_law_1548 dL_law_1549 dL_law_1550 dL_law_1551 dL_law_1552 rfl ?_
  refine lw_ld X hj 3 (by decide) rfl dL_law_1553 dL_law_1554 dL_law_1555 dL_law_1556 dL_law_1557 rfl ?_
  refine lw_callM (As := [.int (xs (j + 1)), .int (xs (j + 2)), .int (xs (j + 3))]) (rest := [.int a]) X.1 (c12_item (lu_l G) (xs (j + 1)) (xs (j + 2)) (xs (j + 3))) q2 ml12_item mv12_item rfl rfl (Nat.le_of_ble_eq_true rfl) (Nat.le_of_ble_eq_true rfl) (Nat.le_of_ble_eq_true rfl) ⟨by omega, by omega⟩ dL_law_1558 rfl rfl ?_
  refine lw_same X dL_law_1561 rfl ?_
  exact lw_I.wide (kk m2 n2 ρ hr2 rfl)
theorem dL_law_1566 : decode cL_law 1566 = .ok (.aload_n 1, 1) := by decide +kernel
theorem dL_law_1567 : decode cL_law 1567 = .ok (.aload_n 0, 1) := by decide +kernel
theorem dL_law_1568 : decode cL_law 1568 = .ok (.iload_n 3, 1) := by decide +kernel
theorem dL_law_1569 : decode cL_law 1569 = .ok (.iconst 1, 1) := by decide +kernel
theorem dL_law_1570 : decode cL_law 1570 = .ok (.iadd, 1) := by decide +kernel
theorem dL_law_1571 : decode cL_law 1571 = .ok (.iaload, 1) := by decide +kernel
theorem dL_law_1572 : decode cL_law 1572 = .ok (.aload_n 0, 1) := by decide +kernel
theorem dL_law_1573 : decode cL_law 1573 = .ok (.iload_n 3, 1) := by decide +kernel
theorem dL_law_1574 : decode cL_law 1574 = .ok (.iconst 2, 1) := by decide +kernel
theorem dL_law_1575 : decode cL_law 1575 = .ok (.iadd, 1) := by decide +kernel
theorem dL_law_1576 : decode cL_law 1576 = .ok (.iaload, 1) := by decide +kernel
theorem dL_law_1577 : decode cL_law 1577 = .ok (.aload_n 0, 1) := by decide +kernel
theorem dL_law_1578 : decode cL_law 1578 = .ok (.iload_n 3, 1) := by decide +kernel
theorem dL_law_1579 : decode cL_law 1579 = .ok (.iconst 3, 1) := by decide +kernel
theorem dL_law_1580 : decode cL_law 1580 = .ok (.iadd, 1) := by decide +kernel
theorem dL_law_1581 : decode cL_law 1581 = .ok (.iaload, 1) := by decide +kernel
theorem dL_law_1582 : decode cL_law 1582 = .ok (.invokevirtual 205, 3) := by decide +kernel
theorem dL_law_1585 : decode cL_law 1585 = .ok (.aload_n 2, 1) := by decide +kernel
theorem dL_law_1586 : decode cL_law 1586 = .ok (.aload_n 0, 1) := by decide +kernel
theorem dL_law_1587 : decode cL_law 1587 = .ok (.iload_n 3, 1) := by decide +kernel
theorem dL_law_1588 : decode cL_law 1588 = .ok (.iconst 1, 1) := by decide +kernel
theorem dL_law_1589 : decode cL_law 1589 = .ok (.iadd, 1) := by decide +kernel
theorem dL_law_1590 : decode cL_law 1590 = .ok (.iaload, 1) := by decide +kernel
theorem dL_law_1591 : decode cL_law 1591 = .ok (.aload_n 0, 1) := by decide +kernel
theorem dL_law_1592 : decode cL_law 1592 = .ok (.iload_n 3, 1) := by decide +kernel
theorem dL_law_1593 : decode cL_law 1593 = .ok (.iconst 2, 1) := by decide +kernel
theorem dL_law_1594 : decode cL_law 1594 = .ok (.iadd, 1) := by decide +kernel
theorem dL_law_1595 : decode cL_law 1595 = .ok (.iaload, 1) := by decide +kernel
theorem dL_law_1596 : decode cL_law 1596 = .ok (.aload_n 0, 1) := by decide +kernel
theorem dL_law_1597 : decode cL_law 1597 = .ok (.iload_n 3, 1) := by decide +kernel
theorem dL_law_1598 : decode cL_law 1598 = .ok (.iconst 3, 1) := by decide +kernel
theorem dL_law_1599 : decode cL_law 1599 = .ok (.iadd, 1) := by decide +kernel
theorem dL_law_1600 : decode cL_law 1600 = .ok (.iaload, 1) := by decide +kernel
theorem dL_law_1601 : decode cL_law 1601 = .ok (.invokevirtual 208, 3) := by decide +kernel
theorem dL_law_1604 : decode cL_law 1604 = .ok (.if_icmp .eq 239, 3) := by decide +kernel
theorem lw_k46 {G : lu_G} {Q : State → Prop} {ρ σ : Nat → Nat} {m n : lu_M} {k z b L j : Nat} {xs : Nat → Int32} (X : lw_X G 2000 80000 b L xs) (hj : j + 5 ≤ L) (hr : Rel m n) (hk : k + 6 ≤ (lu_R G).cells ∧ z + 36 ≤ (lu_R G).slots) (kk : ∀ (m2 n2 : lu_M) (ρ2 : Nat → Nat), Rel m2 n2 → ρ2 0 = ρ 0 → lw_I G Q 1843 (lw_lv b (ρ 0) (σ 0) (nI j)) [] ρ2 m2 σ n2 (k + 6) (z + 36)) : lw_I G Q 1566 (lw_lv b (ρ 0) (σ 0) (nI j)) [] ρ m σ n k z := by
  refine lw_a1 X dL_law_1566 rfl ?_
  refine lw_ld X hj 1 (by decide) rfl dL_law_1567 dL_law_1568 dL_law_1569 dL_law_1570 dL_law_1571 rfl ?_
  refine lw_ld X hj 2 (by decide) rfl dL_law_1572 dL_law_1573 dL_law_1574 dL_law_1575 dL_law_1576 rfl ?_
  refine lw_ld X hj 3 (by decide) rfl dL_law_1577 dL_law_1578 dL_law_1579 dL_law_1580 dL_law_1581 rfl ?_
  obtain ⟨a, m2, n2, q1, q2, hr2⟩ := y_goAll (xs (j + 1)) (xs (j + 2)) (xs (j + 3)) m n hr
  refine lw_callC (As := [.int (xs (j + 1)), .int (xs (j + 2)), .int (xs (j + 3))]) (rest := []) X.1 (c11_goAll (lu_l G) (xs (j + 1)) (xs (j + 2)) (xs (j + 3))) q1 ml11_goAll mv11_goAll rfl rfl (by decide) (Nat.le_of_ble_eq_true rfl) (Nat.le_of_ble_eq_true rfl) ⟨by omega, by omega⟩ dL_law_1582 rfl rfl ?_
  refine lw_a2 X dL_law_1585 rfl ?_
  refine lw_ld X hj 1 (by decide) rfl dL_law_1586 dL_law_1587 dL_law_1588 dL_law_1589 dL_law_1590 rfl ?_
  refine lw_ld X hj 2 (by decide) rfl dL_law_1591 dL_law_1592 dL_law_1593 dL_law_1594 dL_law_1595 rfl ?_
  refine lw_ld X hj 3 (by decide) rfl dL_law_1596 dL_law_1597 dL_law_1598 dL_law_1599 dL_law_1600 rfl ?_
  refine lw_callM (As := [.int (xs (j + 1)), .int (xs (j + 2)), .int (xs (j + 3))]) (rest := [.int a]) X.1 (c12_goAll (lu_l G) (xs (j + 1)) (xs (j + 2)) (xs (j + 3))) q2 ml12_goAll mv12_goAll rfl rfl (Nat.le_of_ble_eq_true rfl) (Nat.le_of_ble_eq_true rfl) (Nat.le_of_ble_eq_true rfl) ⟨by omega, by omega⟩ dL_law_1601 rfl rfl ?_
  refine lw_same X dL_law_1604 rfl ?_
  exact lw_I.wide (kk m2 n2 ρ hr2 rfl)
theorem dL_law_1609 : decode cL_law 1609 = .ok (.aload_n 1, 1) := by decide +kernel
theorem dL_law_1610 : decode cL_law 1610 = .ok (.aload_n 0, 1) := by decide +kernel
theorem dL_law_1611 : decode cL_law 1611 = .ok (.iload_n 3, 1) := by decide +kernel
theorem dL_law_1612 : decode cL_law 1612 = .ok (.iconst 1, 1) := by decide +kernel
theorem dL_law_1613 : decode cL_law 1613 = .ok (.iadd, 1) := by decide +kernel
theorem dL_law_1614 : decode cL_law 1614 = .ok (.iaload, 1) := by decide +kernel
theorem dL_law_1615 : decode cL_law 1615 = .ok (.aload_n 0, 1) := by decide +kernel
theorem dL_law_1616 : decode cL_law 1616 = .ok (.iload_n 3, 1) := by decide +kernel
theorem dL_law_1617 : decode cL_law 1617 = .ok (.iconst 2, 1) := by decide +kernel
theorem dL_law_1618 : decode cL_law 1618 = .ok (.iadd, 1) := by decide +kernel
theorem dL_law_1619 : decode cL_law 1619 = .ok (.iaload, 1) := by decide +kernel
theorem dL_law_1620 : decode cL_law 1620 = .ok (.aload_n 0, 1) := by decide +kernel
theorem dL_law_1621 : decode cL_law 1621 = .ok (.iload_n 3, 1) := by decide +kernel
theorem dL_law_1622 : decode cL_law 1622 = .ok (.iconst 3, 1) := by decide +kernel
theorem dL_law_1623 : decode cL_law 1623 = .ok (.iadd, 1) := by decide +kernel
theorem dL_law_1624 : decode cL_law 1624 = .ok (.iaload, 1) := by decide +kernel
theorem dL_law_1625 : decode cL_law 1625 = .ok (.invokevirtual 209, 3) := by decide +kernel
theorem dL_law_1628 : decode cL_law 1628 = .ok (.aload_n 2, 1) := by decide +kernel
theorem dL_law_1629 : decode cL_law 1629 = .ok (.aload_n 0, 1) := by decide +kernel
theorem dL_law_1630 : decode cL_law 1630 = .ok (.iload_n 3, 1) := by decide +kernel
theorem dL_law_1631 : decode cL_law 1631 = .ok (.iconst 1, 1) := by decide +kernel
theorem dL_law_1632 : decode cL_law 1632 = .ok (.iadd, 1) := by decide +kernel
theorem dL_law_1633 : decode cL_law 1633 = .ok (.iaload, 1) := by decide +kernel
theorem dL_law_1634 : decode cL_law 1634 = .ok (.aload_n 0, 1) := by decide +kernel
theorem dL_law_1635 : decode cL_law 1635 = .ok (.iload_n 3, 1) := by decide +kernel
theorem dL_law_1636 : decode cL_law 1636 = .ok (.iconst 2, 1) := by decide +kernel
theorem dL_law_1637 : decode cL_law 1637 = .ok (.iadd, 1) := by decide +kernel
theorem dL_law_1638 : decode cL_law 1638 = .ok (.iaload, 1) := by decide +kernel
theorem dL_law_1639 : decode cL_law 1639 = .ok (.aload_n 0, 1) := by decide +kernel
theorem dL_law_1640 : decode cL_law 1640 = .ok (.iload_n 3, 1) := by decide +kernel
theorem dL_law_1641 : decode cL_law 1641 = .ok (.iconst 3, 1) := by decide +kernel
theorem dL_law_1642 : decode cL_law 1642 = .ok (.iadd, 1) := by decide +kernel
theorem dL_law_1643 : decode cL_law 1643 = .ok (.iaload, 1) := by decide +kernel
theorem dL_law_1644 : decode cL_law 1644 = .ok (.invokevirtual 212, 3) := by decide +kernel
theorem dL_law_1647 : decode cL_law 1647 = .ok (.if_icmp .eq 196, 3) := by decide +kernel
theorem lw_k47 {G : lu_G} {Q : State → Prop} {ρ σ : Nat → Nat} {m n : lu_M} {k z b L j : Nat} {xs : Nat → Int32} (X : lw_X G 2000 80000 b L xs) (hj : j + 5 ≤ L) (hr : Rel m n) (hk : k + 6 ≤ (lu_R G).cells ∧ z + 36 ≤ (lu_R G).slots) (kk : ∀ (m2 n2 : lu_M) (ρ2 : Nat → Nat), Rel m2 n2 → ρ2 0 = ρ 0 → lw_I G Q 1843 (lw_lv b (ρ 0) (σ 0) (nI j)) [] ρ2 m2 σ n2 (k + 6) (z + 36)) : lw_I G Q 1609 (lw_lv b (ρ 0) (σ 0) (nI j)) [] ρ m σ n k z := by
  refine lw_a1 X dL_law_1609 rfl ?_
  refine lw_ld X hj 1 (by decide) rfl dL_law_1610 dL_law_1611 dL_law_1612 dL_law_1613 dL_law_1614 rfl ?_
  refine lw_ld X hj 2 (by decide) rfl dL_law_1615 dL_law_1616 dL_law_1617 dL_law_1618 dL_law_1619 rfl ?_
  refine lw_ld X hj 3 (by decide) rfl dL_law_1620 dL_law_1621 dL_law_1622 dL_law_1623 dL_law_1624 rfl ?_
  obtain ⟨a, m2, n2, q1, q2, hr2⟩ := y_wouldBe (xs (j + 1)) (xs (j + 2)) (xs (j + 3)) m n hr
  refine lw_callC (As := [.int (xs (j + 1)), .int (xs (j + 2)), .int (xs (j + 3))]) (rest := []) X.1 (c11_wouldBe (lu_l G) (xs (j + 1)) (xs (j + 2)) (xs (j + 3))) q1 ml11_wouldBe mv11_wouldBe rfl rfl (by decide) (Nat.le_of_ble_eq_true rfl) (Nat.le_of_ble_eq_true rfl) ⟨by omega, by omega⟩ dL_law_1625 rfl rfl ?_
  refine lw_a2 X dL_law_1628 rfl ?_
  refine lw_ld X hj 1 (by decide) rfl dL_law_1629 dL_law_1630 dL_law_1631 dL_law_1632 dL_law_1633 rfl ?_
  refine lw_ld X hj 2 (by decide) rfl dL_law_1634 dL_law_1635 dL_law_1636 dL_law_1637 dL_law_1638 rfl ?_
  refine lw_ld X hj 3 (by decide) rfl dL_law_1639 dL_law_1640 dL_law_1641 dL_law_1642 dL_law_1643 rfl ?_
  refine lw_callM (As := [.int (xs (j + 1)), .int (xs (j + 2)), .int (xs (j + 3))]) (rest := [.int a]) X.1 (c12_wouldBe (lu_l G) (xs (j + 1)) (xs (j + 2)) (xs (j + 3))) q2 ml12_wouldBe mv12_wouldBe rfl rfl (Nat.le_of_ble_eq_true rfl) (Nat.le_of_ble_eq_true rfl) (Nat.le_of_ble_eq_true rfl) ⟨by omega, by omega⟩ dL_law_1644 rfl rfl ?_
  refine lw_same X dL_law_1647 rfl ?_
  exact lw_I.wide (kk m2 n2 ρ hr2 rfl)
theorem dL_law_1652 : decode cL_law 1652 = .ok (.aload_n 1, 1) := by decide +kernel
theorem dL_law_1653 : decode cL_law 1653 = .ok (.aload_n 0, 1) := by decide +kernel
theorem dL_law_1654 : decode cL_law 1654 = .ok (.iload_n 3, 1) := by decide +kernel
theorem dL_law_1655 : decode cL_law 1655 = .ok (.iconst 1, 1) := by decide +kernel
theorem dL_law_1656 : decode cL_law 1656 = .ok (.iadd, 1) := by decide +kernel
theorem dL_law_1657 : decode cL_law 1657 = .ok (.iaload, 1) := by decide +kernel
theorem dL_law_1658 : decode cL_law 1658 = .ok (.aload_n 0, 1) := by decide +kernel
theorem dL_law_1659 : decode cL_law 1659 = .ok (.iload_n 3, 1) := by decide +kernel
theorem dL_law_1660 : decode cL_law 1660 = .ok (.iconst 2, 1) := by decide +kernel
theorem dL_law_1661 : decode cL_law 1661 = .ok (.iadd, 1) := by decide +kernel
theorem dL_law_1662 : decode cL_law 1662 = .ok (.iaload, 1) := by decide +kernel
theorem dL_law_1663 : decode cL_law 1663 = .ok (.aload_n 0, 1) := by decide +kernel
theorem dL_law_1664 : decode cL_law 1664 = .ok (.iload_n 3, 1) := by decide +kernel
theorem dL_law_1665 : decode cL_law 1665 = .ok (.iconst 3, 1) := by decide +kernel
theorem dL_law_1666 : decode cL_law 1666 = .ok (.iadd, 1) := by decide +kernel
theorem dL_law_1667 : decode cL_law 1667 = .ok (.iaload, 1) := by decide +kernel
theorem dL_law_1668 : decode cL_law 1668 = .ok (.invokevirtual 213, 3) := by decide +kernel
theorem dL_law_1671 : decode cL_law 1671 = .ok (.aload_n 2, 1) := by decide +kernel
theorem dL_law_1672 : decode cL_law 1672 = .ok (.aload_n 0, 1) := by decide +kernel
theorem dL_law_1673 : decode cL_law 1673 = .ok (.iload_n 3, 1) := by decide +kernel
theorem dL_law_1674 : decode cL_law 1674 = .ok (.iconst 1, 1) := by decide +kernel
theorem dL_law_1675 : decode cL_law 1675 = .ok (.iadd, 1) := by decide +kernel
theorem dL_law_1676 : decode cL_law 1676 = .ok (.iaload, 1) := by decide +kernel
theorem dL_law_1677 : decode cL_law 1677 = .ok (.aload_n 0, 1) := by decide +kernel
theorem dL_law_1678 : decode cL_law 1678 = .ok (.iload_n 3, 1) := by decide +kernel
theorem dL_law_1679 : decode cL_law 1679 = .ok (.iconst 2, 1) := by decide +kernel
theorem dL_law_1680 : decode cL_law 1680 = .ok (.iadd, 1) := by decide +kernel
theorem dL_law_1681 : decode cL_law 1681 = .ok (.iaload, 1) := by decide +kernel
theorem dL_law_1682 : decode cL_law 1682 = .ok (.aload_n 0, 1) := by decide +kernel
theorem dL_law_1683 : decode cL_law 1683 = .ok (.iload_n 3, 1) := by decide +kernel
theorem dL_law_1684 : decode cL_law 1684 = .ok (.iconst 3, 1) := by decide +kernel
theorem dL_law_1685 : decode cL_law 1685 = .ok (.iadd, 1) := by decide +kernel
theorem dL_law_1686 : decode cL_law 1686 = .ok (.iaload, 1) := by decide +kernel
theorem dL_law_1687 : decode cL_law 1687 = .ok (.invokevirtual 216, 3) := by decide +kernel
theorem dL_law_1690 : decode cL_law 1690 = .ok (.if_icmp .eq 153, 3) := by decide +kernel
theorem lw_k48 {G : lu_G} {Q : State → Prop} {ρ σ : Nat → Nat} {m n : lu_M} {k z b L j : Nat} {xs : Nat → Int32} (X : lw_X G 2000 80000 b L xs) (hj : j + 5 ≤ L) (hr : Rel m n) (hk : k + 6 ≤ (lu_R G).cells ∧ z + 36 ≤ (lu_R G).slots) (kk : ∀ (m2 n2 : lu_M) (ρ2 : Nat → Nat), Rel m2 n2 → ρ2 0 = ρ 0 → lw_I G Q 1843 (lw_lv b (ρ 0) (σ 0) (nI j)) [] ρ2 m2 σ n2 (k + 6) (z + 36)) : lw_I G Q 1652 (lw_lv b (ρ 0) (σ 0) (nI j)) [] ρ m σ n k z := by
  refine lw_a1 X dL_law_1652 rfl ?_
  refine lw_ld X hj 1 (by decide) rfl dL_law_1653 dL_law_1654 dL_law_1655 dL_law_1656 dL_law_1657 rfl ?_
  refine lw_ld X hj 2 (by decide) rfl dL_law_1658 dL_law_1659 dL_law_1660 dL_law_1661 dL_law_1662 rfl ?_
  refine lw_ld X hj 3 (by decide) rfl dL_law_1663 dL_law_1664 dL_law_1665 dL_law_1666 dL_law_1667 rfl ?_
  obtain ⟨a, m2, n2, q1, q2, hr2⟩ := y_shelf (xs (j + 1)) (xs (j + 2)) (xs (j + 3)) m n hr
  refine lw_callC (As := [.int (xs (j + 1)), .int (xs (j + 2)), .int (xs (j + 3))]) (rest := []) X.1 (c11_shelf (lu_l G) (xs (j + 1)) (xs (j + 2)) (xs (j + 3))) q1 ml11_shelf mv11_shelf rfl rfl (by decide) (Nat.le_of_ble_eq_true rfl) (Nat.le_of_ble_eq_true rfl) ⟨by omega, by omega⟩ dL_law_1668 rfl rfl ?_
  refine lw_a2 X dL_law_1671 rfl ?_
  refine lw_ld X hj 1 (by decide) rfl dL_law_1672 dL_law_1673 dL_law_1674 dL_law_1675 dL_law_1676 rfl ?_
  refine lw_ld X hj 2 (by decide) rfl dL_law_1677 dL_law_1678 dL_law_1679 dL_law_1680 dL_law_1681 rfl ?_
  refine lw_ld X hj 3 (by decide) rfl dL_law_1682 dL_law_1683 dL_law_1684 dL_law_1685 dL_law_1686 rfl ?_
  refine lw_callM (As := [.int (xs (j + 1)), .int (xs (j + 2)), .int (xs (j + 3))]) (rest := [.int a]) X.1 (c12_shelf (lu_l G) (xs (j + 1)) (xs (j + 2)) (xs (j + 3))) q2 ml12_shelf mv12_shelf rfl rfl (Nat.le_of_ble_eq_true rfl) (Nat.le_of_ble_eq_true rfl) (Nat.le_of_ble_eq_true rfl) ⟨by omega, by omega⟩ dL_law_1687 rfl rfl ?_
  refine lw_same X dL_law_1690 rfl ?_
  exact lw_I.wide (kk m2 n2 ρ hr2 rfl)
