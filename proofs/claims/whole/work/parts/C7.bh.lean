theorem dL_law_328 : decode cL_law 328 = .ok (.aload_n 1, 1) := by decide +kernel
theorem dL_law_329 : decode cL_law 329 = .ok (.aload_n 0, 1) := by decide +kernel
theorem dL_law_330 : decode cL_law 330 = .ok (.iload 4, 2) := by decide +kernel
theorem dL_law_332 : decode cL_law 332 = .ok (.iconst 1, 1) := by decide +kernel
theorem dL_law_333 : decode cL_law 333 = .ok (.iadd, 1) := by decide +kernel
theorem dL_law_334 : decode cL_law 334 = .ok (.iaload, 1) := by decide +kernel
theorem dL_law_335 : decode cL_law 335 = .ok (.aload_n 0, 1) := by decide +kernel
theorem dL_law_336 : decode cL_law 336 = .ok (.iload 4, 2) := by decide +kernel
theorem dL_law_338 : decode cL_law 338 = .ok (.iconst 2, 1) := by decide +kernel
theorem dL_law_339 : decode cL_law 339 = .ok (.iadd, 1) := by decide +kernel
theorem dL_law_340 : decode cL_law 340 = .ok (.iaload, 1) := by decide +kernel
theorem dL_law_341 : decode cL_law 341 = .ok (.aload_n 3, 1) := by decide +kernel
set_option maxRecDepth 20000 in
theorem ggL_law_L_machine : GoodIn wsL_law wsL_machine := goodIn_ca (goodIn_r _ [548, 549, 550, 551, 552, 2, 553, 554, 555, 22, 379, 32, 380, 381, 325, 556, 44, 557, 558, 421, 386, 387, 559, 560, 561, 562, 563, 564, 565, 96, 97, 92, 383, 384, 385, 326, 566, 375, 376, 377, 84, 378, 382, 393, 394, 395, 88, 567, 568, 569, 570, 571, 572, 573, 95, 574, 575, 576, 1517, 1518, 1519, 1520, 1521, 1522, 1523, 1524, 1525, 1526, 1527, 1528, 1529, 1530, 1531, 1532, 1533, 1534, 1535, 1596, 1597, 1598, 1625, 1626, 1627, 1628, 1629, 1630, 1631, 1632, 1633, 1602, 1603, 1604, 1605, 1606, 1607, 1608, 1609, 1610, 1611, 1612] (by decide +kernel) (by decide +kernel)) (goodIn_sub (fun _ h => List.mem_append_right _ h) (by decide +kernel))
set_option maxRecDepth 20000 in
theorem gL_law_L_machine : GoodIn wsL_law (va_wsS RL 41 yL_machine wsL_machine) := goodIn_app (goodIn_of _ (by decide +kernel)) ggL_law_L_machine
theorem dL_law_342 : decode cL_law 342 = .ok (.invokestatic 41, 3) := by decide +kernel
theorem dL_law_345 : decode cL_law 345 = .ok (.istore 5, 2) := by decide +kernel
theorem dL_law_347 : decode cL_law 347 = .ok (.aload_n 2, 1) := by decide +kernel
theorem dL_law_348 : decode cL_law 348 = .ok (.aload_n 0, 1) := by decide +kernel
theorem dL_law_349 : decode cL_law 349 = .ok (.iload 4, 2) := by decide +kernel
theorem dL_law_351 : decode cL_law 351 = .ok (.iconst 1, 1) := by decide +kernel
theorem dL_law_352 : decode cL_law 352 = .ok (.iadd, 1) := by decide +kernel
theorem dL_law_353 : decode cL_law 353 = .ok (.iaload, 1) := by decide +kernel
theorem dL_law_354 : decode cL_law 354 = .ok (.aload_n 0, 1) := by decide +kernel
theorem dL_law_355 : decode cL_law 355 = .ok (.iload 4, 2) := by decide +kernel
theorem dL_law_357 : decode cL_law 357 = .ok (.iconst 2, 1) := by decide +kernel
theorem dL_law_358 : decode cL_law 358 = .ok (.iadd, 1) := by decide +kernel
theorem dL_law_359 : decode cL_law 359 = .ok (.iaload, 1) := by decide +kernel
set_option maxRecDepth 20000 in
theorem ggL_law_X12_machine : GoodIn wsL_law wsX12_machine := goodIn_r _ [580, 159, 581, 582, 583, 5, 584, 503, 504, 505, 585, 586, 587, 588, 218, 589, 590, 591, 592, 593, 594, 595, 596, 597, 598, 599, 600, 522, 523, 524, 601, 602, 603, 604, 605, 606, 607, 608, 1536, 1537, 1538, 1539, 1540, 1541, 1542, 1543, 1544, 1545, 1546, 1547, 1548, 1549, 1550, 1551, 1552, 1553, 1554, 1555, 1556, 1557, 1558, 1559, 1560, 1561, 1562, 1563, 1564, 1565, 1566, 1567, 1568, 1569, 1570, 1571, 1572, 1573, 1574, 1575, 1576, 1577, 1578, 1579, 1580, 1581, 1582, 1583, 1584] (by decide +kernel) (by decide +kernel)
set_option maxRecDepth 20000 in
theorem gL_law_X12_machine : GoodIn wsL_law (wsV RL 46 RX12 yX12_machine wsX12_machine) := goodIn_app (goodIn_of _ (by decide +kernel)) ggL_law_X12_machine
theorem dL_law_360 : decode cL_law 360 = .ok (.invokevirtual 46, 3) := by decide +kernel
theorem dL_law_363 : decode cL_law 363 = .ok (.istore 6, 2) := by decide +kernel
set_option maxRecDepth 20000 in
theorem ggL_law_X12_thrown : GoodIn wsL_law wsX12_thrown := goodIn_r _ [612, 218, 1536, 1537, 1538, 1539, 1540, 1541, 1542, 1543, 1544, 1545, 1546, 1547, 1548, 1549, 1550, 1551, 1552, 1553, 1554, 1555, 1556, 1557, 1558, 1559, 1560, 1561, 1562, 1563, 1564, 1565, 1566, 1567, 1568, 1569, 1570, 1571, 1572, 1573, 1574, 1575, 1576, 1577, 1578, 1579, 1580, 1581, 1582, 1583, 1584] (by decide +kernel) (by decide +kernel)
set_option maxRecDepth 20000 in
theorem gL_law_X12_thrown : GoodIn wsL_law (wsV RL 47 RX12 yX12_thrown wsX12_thrown) := goodIn_app (goodIn_of _ (by decide +kernel)) ggL_law_X12_thrown
theorem dL_law_365 : decode cL_law 365 = .ok (.aload_n 2, 1) := by decide +kernel
theorem dL_law_366 : decode cL_law 366 = .ok (.invokevirtual 47, 3) := by decide +kernel
theorem dL_law_369 : decode cL_law 369 = .ok (.iload 5, 2) := by decide +kernel
theorem dL_law_371 : decode cL_law 371 = .ok (.if_icmp .eq 5, 3) := by decide +kernel
theorem dL_law_376 : decode cL_law 376 = .ok (.iload 5, 2) := by decide +kernel
theorem dL_law_378 : decode cL_law 378 = .ok (.ifCond .ne 15, 3) := by decide +kernel
theorem dL_law_393 : decode cL_law 393 = .ok (.goto 810, 3) := by decide +kernel
theorem dL_law_381 : decode cL_law 381 = .ok (.aload_n 3, 1) := by decide +kernel
theorem dL_law_382 : decode cL_law 382 = .ok (.iconst 0, 1) := by decide +kernel
theorem dL_law_383 : decode cL_law 383 = .ok (.laload, 1) := by decide +kernel
theorem dL_law_384 : decode cL_law 384 = .ok (.iload 6, 2) := by decide +kernel
theorem dL_law_386 : decode cL_law 386 = .ok (.i2l, 1) := by decide +kernel
theorem dL_law_387 : decode cL_law 387 = .ok (.lcmp, 1) := by decide +kernel
theorem dL_law_388 : decode cL_law 388 = .ok (.ifCond .eq 5, 3) := by decide +kernel
set_option maxHeartbeats 8000000 in
set_option maxRecDepth 100000 in
theorem law_c4 {p : Program} {l : Launch} {e : Env} {s : State} {m : MethodId} {below : List Frame} {meth : Method} {c : Code} {b L : Nat} {xs : Nat → Int32} {dC : Nat → ClassId} {dI : Nat → Nat → Nat} {cs : Nat → ClassId} {ad : Nat → Nat} {k : Nat} {Z : Nat → Nat → Nat → Nat} {raM : Nat → Nat} {xR bq bz q3 nm np n B : Nat} {bb : Int32} {ba : Nat → Int32} {Ln : List Nat} {T : Nat → Int32} {K O S N Hy : kD} {HS : Nat → kD} {BT : Nat → Int32} {P RW : kD} {IO IS IN : Nat → kD} {IK : Nat → Int32} {M Rd RO RN RB TR D : kD} {UF VF : Nat → Nat → Int32} {out : Nat → Int64} {H : Heap} {locs : List Loc} {ls : Array Slot} (F : LwF p l e s m below meth c b L xs dC dI cs ad) (hk : 6 * k + 6 ≤ L) (kk : LwH p l e s m below meth c b L xs dC dI cs ad (k + 1)) (hG : GR nm np n B Ln T K O S N Hy HS BT P RW IO IS IN IK M) (hB : B ≤ 1000000 + 96000 * k) (hI : sI Ln bz ba) (hP : va_P (dC, dI) vwCl (wL cs ad Z xR bq bz (nI Ln.length) bb ba K T Rd zD O S N IO IS IN IK Hy HS RO RN RB TR D P RW UF VF BT ++ (mw (cs 0) (cs 1) (cs 2) (cs 3) raM M ++ [(q3, .inl (cs 2, 1, .inr (.inl out)))])) H) (hD : va_D (fun q : Nat => s.heap.size ≤ q) (wL cs ad Z xR bq bz (nI Ln.length) bb ba K T Rd zD O S N IO IS IN IK Hy HS RO RN RB TR D P RW UF VF BT ++ (mw (cs 0) (cs 1) (cs 2) (cs 3) raM M ++ [(q3, .inl (cs 2, 1, .inr (.inl out)))]))) (hS : va_S (fun q : Nat => s.heap.size ≤ q) s.heap H locs) (hl : lv_has ls 7 [(0, .ref b), (1, .ref (Z 0 0 0)), (2, .ref (raM 0)), (3, .ref q3), (4, .int (nI (6 * k)))]) : W p l e room_1 s m #[Value.ref b] below meth c H locs (400 + 14 * k) (20000 + 3000 * k) (lw_Z below #[Value.ref b] s) (F0 m 328 ls []) := by
  obtain ⟨C0, hL, hK, hN, hE, hLn, hTh, hst⟩ := id F
  obtain ⟨hx, hb, hr, hml, hown, hts0, hX, hbl, hlocks, hgv⟩ := C0
  have hts : ∀ w ∈ wsL_law, w.before #[Value.ref b] s = true := wsL_law_hts hts0
  have hA : ∀ q : Nat, s.heap.size ≤ q → (fun q : Nat => s.heap.size ≤ q) q := fun _ h => h
  have hbA : ¬ (fun q : Nat => s.heap.size ≤ q) b := Nat.not_le.mpr hbl
  have hKM := hK.sub (tys' := mt (cs 0) (cs 1) (cs 2) (cs 3)) [0, 1, 2, 3] rfl
  obtain ⟨hGk, hTH⟩ := g_machine hG (xs (6 * k + 1)) (xs (6 * k + 2))
  refine lv_aload_n hx hb dL_law_328 rfl (lv_at hl 1 rfl) ?_
  refine lv_aload_n hx hb dL_law_329 rfl (lv_at hl 0 rfl) ?_
  refine lv_iload hx hb dL_law_330 (lv_at hl 4 rfl) ?_
  refine lv_iconst (v := 1) hx hb dL_law_332 (by decide) ?_
  refine lv_iadd hx hb dL_law_333 ?_
  refine kt_v (show (.int (nI (6 * k) + 1) : Value) = .int (nI (6 * k + 1)) from congrArg Value.int (nI_add (6 * k) 1)) ?_
  refine va_sld hx hb hX hbl hbA hS (vp_in_nI (n := 6 * k + 1) (by omega) (by omega)) dL_law_334 ?_
  refine kt_v (show (.int (xs (nI (6 * k + 1)).toNatClampNeg) : Value) = .int (xs (6 * k + 1)) from congrArg Value.int (by rw [nI_clamp (n := 6 * k + 1) (by omega)])) ?_
  refine lv_aload_n hx hb dL_law_335 rfl (lv_at hl 0 rfl) ?_
  refine lv_iload hx hb dL_law_336 (lv_at hl 4 rfl) ?_
  refine lv_iconst (v := 2) hx hb dL_law_338 (by decide) ?_
  refine lv_iadd hx hb dL_law_339 ?_
  refine kt_v (show (.int (nI (6 * k) + 2) : Value) = .int (nI (6 * k + 2)) from congrArg Value.int (nI_add (6 * k) 2)) ?_
  refine va_sld hx hb hX hbl hbA hS (vp_in_nI (n := 6 * k + 2) (by omega) (by omega)) dL_law_340 ?_
  refine kt_v (show (.int (xs (nI (6 * k + 2)).toNatClampNeg) : Value) = .int (xs (6 * k + 2)) from congrArg Value.int (by rw [nI_clamp (n := 6 * k + 2) (by omega)])) ?_
  refine lv_aload_n hx hb dL_law_341 rfl (lv_at hl 3 rfl) ?_
  rcases hTH with ⟨hC1, r, hM1⟩ | ⟨v, hC1, hM1⟩
  · have hMT : vx_Met l yX11_machine wsX11_machine (rm_s 8 1 6) (va_Pc [.ref (Z 0 0 0), .int (xs (6 * k + 1)), .int (xs (6 * k + 2))] (fun U => cPr dC dI cs (wX11 cs ad (Z 0 0) (Z 1 0 0) (Z 2 0 0) (Z 3 0 0) (Z 4 0 0) (Z 5 0 0) (Z 6 0 0) (Z 7 0 0) (Z 8 0 0) (Z 9 0 0) (Z 10 0 0) (Z 11 0 0) (Z 12 0 0) (Z 13 0 0) (Z 14 0 0) (Z 18 0 0) K ++ (wX7 cs ad (Z 3 0) (Z 20 0 0) (Z 21 0 0) (Z 22 0 0) zD ++ (wX3 cs ad (Z 20 0) O ++ (wX9 cs ad (Z 21 0) S ++ wX8 cs ad (Z 22 0) N)))) U ∧ kTh kF U U.heap)) qN xT 1 6 kF := by
      rcases f_machine_T hC1 with h | ⟨h, hw⟩
      · exact c_X11_machineT0 l hst dC dI cs ad Z K O S N (xs (6 * k + 1)) (xs (6 * k + 2)) h
      · exact c_X11_machineT1 l hst dC dI cs ad Z K O S N (xs (6 * k + 1)) (xs (6 * k + 2)) h hw
    refine vx_calli (vx_runSX (As := [.ref (Z 0 0 0), .int (xs (6 * k + 1)), .int (xs (6 * k + 2)), .ref q3]) (rest := []) ⟨hx, hb, hml, hown, hts⟩ (c_L_machineT l hst dC dI cs ad Z K O S N (xs (6 * k + 1)) (xs (6 * k + 2)) q3 hMT) (vx_cwSW 4 hts gL_law_L_machine rfl rfl rfl (by decide +kernel) ⟨Nat.le_of_ble_eq_true rfl, Nat.le_of_ble_eq_true rfl⟩) ⟨fun a U g mk q => ⟨q.1, cPr_bl q.2.1, kTh.bl q.2.2⟩, fun U hU hW => ⟨rfl, ⟨by rw [hU]; exact (va_Pl hP).sub (ws' := (wX11 cs ad (Z 0 0) (Z 1 0 0) (Z 2 0 0) (Z 3 0 0) (Z 4 0 0) (Z 5 0 0) (Z 6 0 0) (Z 7 0 0) (Z 8 0 0) (Z 9 0 0) (Z 10 0 0) (Z 11 0 0) (Z 12 0 0) (Z 13 0 0) (Z 14 0 0) (Z 18 0 0) K ++ (wX7 cs ad (Z 3 0) (Z 20 0 0) (Z 21 0 0) (Z 22 0 0) zD ++ (wX3 cs ad (Z 20 0) O ++ (wX9 cs ad (Z 21 0) S ++ wX8 cs ad (Z 22 0) N))))) [0, 3, 4, 5, 6, 7, 8, 9, 10, 11, 12, 13, 14, 15, 16, 17, 18, 19, 20, 21] rfl, va_K.moved hW.alike hK, kN_warm hW hN⟩, kTh.at hTh hS (fun _ h => h.elim) U hU hW⟩⟩ rfl rfl hl.1 rfl (lv_room (Nat.le_of_ble_eq_true rfl)) dL_law_342 ⟨(show 400 + 14 * k + 1 ≤ 601024 by omega), (show 20000 + 3000 * k + 6 ≤ 7293034 by omega)⟩) hS (fun q _ h => h.elim) (fun q h => h.elim) (fun q _ h => h.elim) (fun E ce q9 u t H1 locs1 ht hvm hu hE hz hk9 hS hc1 hc2 hc3 => False.elim hu) (fun r9 u t H1 locs1 ht hvm hu hB9 hz hk9 hS => ?_)
    have hu : r9 = 1 := hu
    subst hu
    have hP := hP.kept (fun i z hi => hk9 z.1 ((hP i z hi).lt) (fun h => h))
    generalize H1 = H at hP hS ⊢
    refine lv_istore (nL := 7) (lv' := [(5, .int 1), (0, .ref b), (1, .ref (Z 0 0 0)), (2, .ref (raM 0)), (3, .ref q3), (4, .int (nI (6 * k)))]) hx hb dL_law_345 hl (by decide) rfl (fun ls hl => ?_)
    refine lv_aload_n hx hb dL_law_347 rfl (lv_at hl 3 rfl) ?_
    refine lv_aload_n hx hb dL_law_348 rfl (lv_at hl 1 rfl) ?_
    refine lv_iload hx hb dL_law_349 (lv_at hl 5 rfl) ?_
    refine lv_iconst (v := 1) hx hb dL_law_351 (by decide) ?_
    refine lv_iadd hx hb dL_law_352 ?_
    refine kt_v (show (.int (nI (6 * k) + 1) : Value) = .int (nI (6 * k + 1)) from congrArg Value.int (nI_add (6 * k) 1)) ?_
    refine va_sld hx hb hX hbl hbA hS (vp_in_nI (n := 6 * k + 1) (by omega) (by omega)) dL_law_353 ?_
    refine kt_v (show (.int (xs (nI (6 * k + 1)).toNatClampNeg) : Value) = .int (xs (6 * k + 1)) from congrArg Value.int (by rw [nI_clamp (n := 6 * k + 1) (by omega)])) ?_
    refine lv_aload_n hx hb dL_law_354 rfl (lv_at hl 1 rfl) ?_
    refine lv_iload hx hb dL_law_355 (lv_at hl 5 rfl) ?_
    refine lv_iconst (v := 2) hx hb dL_law_357 (by decide) ?_
    refine lv_iadd hx hb dL_law_358 ?_
    refine kt_v (show (.int (nI (6 * k) + 2) : Value) = .int (nI (6 * k + 2)) from congrArg Value.int (nI_add (6 * k) 2)) ?_
    refine va_sld hx hb hX hbl hbA hS (vp_in_nI (n := 6 * k + 2) (by omega) (by omega)) dL_law_359 ?_
    refine kt_v (show (.int (xs (nI (6 * k + 2)).toNatClampNeg) : Value) = .int (xs (6 * k + 2)) from congrArg Value.int (by rw [nI_clamp (n := 6 * k + 2) (by omega)])) ?_
    refine g_callM (va_runV (As := [.int (xs (6 * k + 1)), .int (xs (6 * k + 2))]) (rest := []) ⟨hx, hb, hml, hown, hts⟩ (c_X12_machine l dC dI (cs 0) (cs 1) (cs 2) (cs 3) raM H.size M (xs (6 * k + 1)) (xs (6 * k + 2)) (r, (kI M 0 0 (nI 1))) hM1) (cwV 2 hts gL_law_X12_machine rfl rfl rfl (by decide +kernel) ⟨Nat.le_of_ble_eq_true rfl, Nat.le_of_ble_eq_true rfl⟩) ⟨fun a U g mk q => ⟨q.1, mPw_bl q.2⟩, va_recv hK (va_Pl (va_Pr hP)) (ci := 12) (q0 := 0) rfl rfl, fun U hU hW => ⟨rfl, by rw [hU], by rw [hU]; exact va_Pl (va_Pr hP), va_K.moved hW.alike hKM, (va_Dl (va_Dr hD)).weaken (fun _ _ _ _ => trivial)⟩⟩ rfl rfl hl.1 rfl (lv_room (Nat.le_of_ble_eq_true rfl)) dL_law_360 ⟨(show 400 + 14 * k + 1 + 0 ≤ 601024 by omega), (show 20000 + 3000 * k + 6 + 0 ≤ 7293034 by omega)⟩) hP hD hS hA (fun H locs hP hD hS => ?_)
    refine lv_istore (nL := 7) (lv' := [(6, .int r), (5, .int 1), (0, .ref b), (1, .ref (Z 0 0 0)), (2, .ref (raM 0)), (3, .ref q3), (4, .int (nI (6 * k)))]) hx hb dL_law_363 hl (by decide) rfl (fun ls hl => ?_)
    refine lv_aload_n hx hb dL_law_365 rfl (lv_at hl 4 rfl) ?_
    refine ko_call (v := some (.int (nI 1))) (va_runV (As := []) (rest := []) ⟨hx, hb, hml, hown, hts⟩ (c_X12_thrown l dC dI (cs 0) (cs 1) (cs 2) (cs 3) raM (kI M 0 0 (nI 1)) (nI 1) rfl) (cwV 0 hts gL_law_X12_thrown rfl rfl rfl (by decide +kernel) ⟨Nat.le_of_ble_eq_true rfl, Nat.le_of_ble_eq_true rfl⟩) ⟨fun a U g mk q => ⟨q.1, mPr_bl q.2⟩, va_recv hK (va_Pl (va_Pr hP)) (ci := 12) (q0 := 0) rfl rfl, fun U hU hW => ⟨rfl, by rw [hU]; exact va_Pl (va_Pr hP), va_K.moved hW.alike hKM⟩⟩ rfl rfl hl.1 rfl (lv_room (Nat.le_of_ble_eq_true rfl)) dL_law_366 ⟨(show 400 + 14 * k + 1 + 0 ≤ 601024 by omega), (show 20000 + 3000 * k + 6 + 0 ≤ 7293034 by omega)⟩) ?_
    refine lv_iload hx hb dL_law_369 (lv_at hl 1 rfl) ?_
    refine lv_icmp_eq (tgt := 376) hx hb dL_law_371 (by decide) (fun _ => ?_) (fun h => absurd (show (nI 1 : Int32) = 1 from rfl) h)
    refine lv_iload hx hb dL_law_376 (lv_at hl 1 rfl) ?_
    refine lv_if_ne (tgt := 393) hx hb dL_law_378 (by decide) (fun _ => ?_) (fun h => absurd h (by decide))
    refine lv_goto (tgt := 1203) hx hb dL_law_393 (by decide) ?_
    exact law_next F hk kk (hGk (nI 1)) (by omega) hI hP hD hS (lv_sub hl [2, 3, 4, 5, 6] rfl) (by omega) (by omega)
  · have hF : ∀ q, va_A [(q3, .inl (cs 2, 1, .inr (.inl out)))] H.size q → (fun q : Nat => s.heap.size ≤ q) q := by
      intro q h
      rcases h with ⟨j, e1, hj⟩ | h
      · exact (va_Dr (va_Dr hD)).2 j (q, e1) hj
      · exact hA q (Nat.le_trans hS.1 h)
    refine vx_calli (vx_runSX (As := [.ref (Z 0 0 0), .int (xs (6 * k + 1)), .int (xs (6 * k + 2)), .ref q3]) (rest := []) ⟨hx, hb, hml, hown, hts⟩ (c_L_machineV l dC dI cs ad Z K O S N (xs (6 * k + 1)) (xs (6 * k + 2)) q3 out v H.size (fV_machine_of hC1)) (vx_cwSW 4 hts gL_law_L_machine rfl rfl rfl (by decide +kernel) ⟨Nat.le_of_ble_eq_true rfl, Nat.le_of_ble_eq_true rfl⟩) ⟨fun a U g mk q => ⟨q.1, cPw_bl q.2.1, cPr_bl q.2.2⟩, fun U hU hW => ⟨rfl, ⟨by rw [hU], by rw [hU]; exact va_Pr (va_Pr hP), va_K.moved hW.alike hK, (va_Dr (va_Dr hD)).weaken (fun _ _ _ _ => trivial), kN_warm hW hN⟩, ⟨by rw [hU]; exact (va_Pl hP).sub (ws' := (wX11 cs ad (Z 0 0) (Z 1 0 0) (Z 2 0 0) (Z 3 0 0) (Z 4 0 0) (Z 5 0 0) (Z 6 0 0) (Z 7 0 0) (Z 8 0 0) (Z 9 0 0) (Z 10 0 0) (Z 11 0 0) (Z 12 0 0) (Z 13 0 0) (Z 14 0 0) (Z 18 0 0) K ++ (wX7 cs ad (Z 3 0) (Z 20 0 0) (Z 21 0 0) (Z 22 0 0) zD ++ (wX3 cs ad (Z 20 0) O ++ (wX9 cs ad (Z 21 0) S ++ wX8 cs ad (Z 22 0) N))))) [0, 3, 4, 5, 6, 7, 8, 9, 10, 11, 12, 13, 14, 15, 16, 17, 18, 19, 20, 21] rfl, va_K.moved hW.alike hK, kN_warm hW hN⟩⟩⟩ rfl rfl hl.1 rfl (lv_room (Nat.le_of_ble_eq_true rfl)) dL_law_342 ⟨(show 400 + 14 * k + 0 ≤ 601024 by omega), (show 20000 + 3000 * k + 0 ≤ 7293034 by omega)⟩) hS (fun q _ h => hF q h) hF (fun q _ h => h.elim) (fun E ce q9 u t H1 locs1 ht hvm hu hE hz hk9 hS hc1 hc2 hc3 => False.elim hu) (fun r9 u t H1 locs1 ht hvm hu hB9 hz hk9 hS => ?_)
    have hu : r9 = 0 := hu
    subst hu
    obtain ⟨hP1, -, -⟩ := hB9
    rw [ht] at hP1
    obtain ⟨hP, hD⟩ := g_out (c1 := (q3, Sum.inl (cs 2, 1, Sum.inr (Sum.inl (vp_updL out 0 v.toInt64))))) hP hD rfl hk9 hP1
    generalize H1 = H at hP hS ⊢
    refine lv_istore (nL := 7) (lv' := [(5, .int 0), (0, .ref b), (1, .ref (Z 0 0 0)), (2, .ref (raM 0)), (3, .ref q3), (4, .int (nI (6 * k)))]) hx hb dL_law_345 hl (by decide) rfl (fun ls hl => ?_)
    refine lv_aload_n hx hb dL_law_347 rfl (lv_at hl 3 rfl) ?_
    refine lv_aload_n hx hb dL_law_348 rfl (lv_at hl 1 rfl) ?_
    refine lv_iload hx hb dL_law_349 (lv_at hl 5 rfl) ?_
    refine lv_iconst (v := 1) hx hb dL_law_351 (by decide) ?_
    refine lv_iadd hx hb dL_law_352 ?_
    refine kt_v (show (.int (nI (6 * k) + 1) : Value) = .int (nI (6 * k + 1)) from congrArg Value.int (nI_add (6 * k) 1)) ?_
    refine va_sld hx hb hX hbl hbA hS (vp_in_nI (n := 6 * k + 1) (by omega) (by omega)) dL_law_353 ?_
    refine kt_v (show (.int (xs (nI (6 * k + 1)).toNatClampNeg) : Value) = .int (xs (6 * k + 1)) from congrArg Value.int (by rw [nI_clamp (n := 6 * k + 1) (by omega)])) ?_
    refine lv_aload_n hx hb dL_law_354 rfl (lv_at hl 1 rfl) ?_
    refine lv_iload hx hb dL_law_355 (lv_at hl 5 rfl) ?_
    refine lv_iconst (v := 2) hx hb dL_law_357 (by decide) ?_
    refine lv_iadd hx hb dL_law_358 ?_
    refine kt_v (show (.int (nI (6 * k) + 2) : Value) = .int (nI (6 * k + 2)) from congrArg Value.int (nI_add (6 * k) 2)) ?_
    refine va_sld hx hb hX hbl hbA hS (vp_in_nI (n := 6 * k + 2) (by omega) (by omega)) dL_law_359 ?_
    refine kt_v (show (.int (xs (nI (6 * k + 2)).toNatClampNeg) : Value) = .int (xs (6 * k + 2)) from congrArg Value.int (by rw [nI_clamp (n := 6 * k + 2) (by omega)])) ?_
    refine g_callM (va_runV (As := [.int (xs (6 * k + 1)), .int (xs (6 * k + 2))]) (rest := []) ⟨hx, hb, hml, hown, hts⟩ (c_X12_machine l dC dI (cs 0) (cs 1) (cs 2) (cs 3) raM H.size M (xs (6 * k + 1)) (xs (6 * k + 2)) (v, (kI M 0 0 (nI 0))) hM1) (cwV 2 hts gL_law_X12_machine rfl rfl rfl (by decide +kernel) ⟨Nat.le_of_ble_eq_true rfl, Nat.le_of_ble_eq_true rfl⟩) ⟨fun a U g mk q => ⟨q.1, mPw_bl q.2⟩, va_recv hK (va_Pl (va_Pr hP)) (ci := 12) (q0 := 0) rfl rfl, fun U hU hW => ⟨rfl, by rw [hU], by rw [hU]; exact va_Pl (va_Pr hP), va_K.moved hW.alike hKM, (va_Dl (va_Dr hD)).weaken (fun _ _ _ _ => trivial)⟩⟩ rfl rfl hl.1 rfl (lv_room (Nat.le_of_ble_eq_true rfl)) dL_law_360 ⟨(show 400 + 14 * k + 0 ≤ 601024 by omega), (show 20000 + 3000 * k + 0 ≤ 7293034 by omega)⟩) hP hD hS hA (fun H locs hP hD hS => ?_)
    refine lv_istore (nL := 7) (lv' := [(6, .int v), (5, .int 0), (0, .ref b), (1, .ref (Z 0 0 0)), (2, .ref (raM 0)), (3, .ref q3), (4, .int (nI (6 * k)))]) hx hb dL_law_363 hl (by decide) rfl (fun ls hl => ?_)
    refine lv_aload_n hx hb dL_law_365 rfl (lv_at hl 4 rfl) ?_
    refine ko_call (v := some (.int (nI 0))) (va_runV (As := []) (rest := []) ⟨hx, hb, hml, hown, hts⟩ (c_X12_thrown l dC dI (cs 0) (cs 1) (cs 2) (cs 3) raM (kI M 0 0 (nI 0)) (nI 0) rfl) (cwV 0 hts gL_law_X12_thrown rfl rfl rfl (by decide +kernel) ⟨Nat.le_of_ble_eq_true rfl, Nat.le_of_ble_eq_true rfl⟩) ⟨fun a U g mk q => ⟨q.1, mPr_bl q.2⟩, va_recv hK (va_Pl (va_Pr hP)) (ci := 12) (q0 := 0) rfl rfl, fun U hU hW => ⟨rfl, by rw [hU]; exact va_Pl (va_Pr hP), va_K.moved hW.alike hKM⟩⟩ rfl rfl hl.1 rfl (lv_room (Nat.le_of_ble_eq_true rfl)) dL_law_366 ⟨(show 400 + 14 * k + 0 ≤ 601024 by omega), (show 20000 + 3000 * k + 0 ≤ 7293034 by omega)⟩) ?_
    refine lv_iload hx hb dL_law_369 (lv_at hl 1 rfl) ?_
    refine lv_icmp_eq (tgt := 376) hx hb dL_law_371 (by decide) (fun _ => ?_) (fun h => absurd (show (nI 0 : Int32) = 0 from rfl) h)
    refine lv_iload hx hb dL_law_376 (lv_at hl 1 rfl) ?_
    refine lv_if_ne (tgt := 393) hx hb dL_law_378 (by decide) (fun h => absurd rfl h) (fun _ => ?_)
    refine lv_aload_n hx hb dL_law_381 rfl (lv_at hl 5 rfl) ?_
    refine lv_iconst (v := 0) hx hb dL_law_382 (by decide) ?_
    refine va_lald hx hb hK (va_Pr (va_Pr hP)) 0 2 rfl rfl (show vp_in (0 : Int32) 1 from vp_in_nI (n := 0) (by decide) (by decide)) dL_law_383 ?_
    refine kt_v (show (.long (vp_updL out 0 v.toInt64 (0 : Int32).toNatClampNeg) : Value) = .long v.toInt64 from rfl) ?_
    refine lv_iload hx hb dL_law_384 (lv_at hl 0 rfl) ?_
    refine lv_i2l (v := v.toInt64) hx hb dL_law_386 rfl ?_
    refine W.lcmp hx hb dL_law_387 ?_
    refine lv_if_eq (tgt := 393) hx hb dL_law_388 (by decide) (fun _ => ?_) (fun h => absurd (lcmp_self _) h)
    refine lv_goto (tgt := 1203) hx hb dL_law_393 (by decide) ?_
    exact law_next F hk kk (hGk (nI 0)) (by omega) hI hP hD hS (lv_sub hl [2, 3, 4, 5, 6] rfl) (by omega) (by omega)

theorem dL_law_836 : decode cL_law 836 = .ok (.aload_n 1, 1) := by decide +kernel
theorem dL_law_837 : decode cL_law 837 = .ok (.aload_n 0, 1) := by decide +kernel
theorem dL_law_838 : decode cL_law 838 = .ok (.iload 4, 2) := by decide +kernel
theorem dL_law_840 : decode cL_law 840 = .ok (.iconst 1, 1) := by decide +kernel
theorem dL_law_841 : decode cL_law 841 = .ok (.iadd, 1) := by decide +kernel
theorem dL_law_842 : decode cL_law 842 = .ok (.iaload, 1) := by decide +kernel
theorem dL_law_843 : decode cL_law 843 = .ok (.aload_n 0, 1) := by decide +kernel
theorem dL_law_844 : decode cL_law 844 = .ok (.iload 4, 2) := by decide +kernel
theorem dL_law_846 : decode cL_law 846 = .ok (.iconst 2, 1) := by decide +kernel
theorem dL_law_847 : decode cL_law 847 = .ok (.iadd, 1) := by decide +kernel
theorem dL_law_848 : decode cL_law 848 = .ok (.iaload, 1) := by decide +kernel
theorem dL_law_849 : decode cL_law 849 = .ok (.aload_n 3, 1) := by decide +kernel
set_option maxRecDepth 20000 in
theorem ggL_law_L_part : GoodIn wsL_law wsL_part := goodIn_ca (goodIn_r _ [1027, 549, 1028, 1029, 1030, 2, 1031, 554, 555, 22, 643, 644, 645, 379, 32, 380, 381, 325, 1013, 1014, 1015, 976, 889, 246, 890, 1517, 1518, 1519, 1520, 1521, 1522, 1523, 1524, 1525, 1526, 1527, 1528, 1529, 1530, 1531, 1532, 1533, 1534, 1535, 1596, 1597, 1598, 1625, 1626, 1627, 1628, 1629, 1630, 1631, 1632, 1633, 1602, 1603, 1604, 1605, 1606, 1607, 1608, 1609, 1610, 1611, 1612] (by decide +kernel) (by decide +kernel)) (goodIn_sub (fun _ h => List.mem_append_right _ h) (by decide +kernel))
set_option maxRecDepth 20000 in
theorem gL_law_L_part : GoodIn wsL_law (va_wsS RL 131 yL_part wsL_part) := goodIn_app (goodIn_of _ (by decide +kernel)) ggL_law_L_part
theorem dL_law_850 : decode cL_law 850 = .ok (.invokestatic 131, 3) := by decide +kernel
theorem dL_law_853 : decode cL_law 853 = .ok (.istore 5, 2) := by decide +kernel
theorem dL_law_855 : decode cL_law 855 = .ok (.aload_n 2, 1) := by decide +kernel
theorem dL_law_856 : decode cL_law 856 = .ok (.aload_n 0, 1) := by decide +kernel
theorem dL_law_857 : decode cL_law 857 = .ok (.iload 4, 2) := by decide +kernel
theorem dL_law_859 : decode cL_law 859 = .ok (.iconst 1, 1) := by decide +kernel
theorem dL_law_860 : decode cL_law 860 = .ok (.iadd, 1) := by decide +kernel
theorem dL_law_861 : decode cL_law 861 = .ok (.iaload, 1) := by decide +kernel
theorem dL_law_862 : decode cL_law 862 = .ok (.aload_n 0, 1) := by decide +kernel
theorem dL_law_863 : decode cL_law 863 = .ok (.iload 4, 2) := by decide +kernel
theorem dL_law_865 : decode cL_law 865 = .ok (.iconst 2, 1) := by decide +kernel
theorem dL_law_866 : decode cL_law 866 = .ok (.iadd, 1) := by decide +kernel
theorem dL_law_867 : decode cL_law 867 = .ok (.iaload, 1) := by decide +kernel
set_option maxRecDepth 20000 in
theorem ggL_law_X12_part : GoodIn wsL_law wsX12_part := goodIn_r _ [1035, 159, 581, 582, 583, 5, 584, 503, 504, 505, 650, 651, 652, 653, 585, 586, 587, 588, 218, 1022, 1023, 1024, 1536, 1537, 1538, 1539, 1540, 1541, 1542, 1543, 1544, 1545, 1546, 1547, 1548, 1549, 1550, 1551, 1552, 1553, 1554, 1555, 1556, 1557, 1558, 1559, 1560, 1561, 1562, 1563, 1564, 1565, 1566, 1567, 1568, 1569, 1570, 1571, 1572, 1573, 1574, 1575, 1576, 1577, 1578, 1579, 1580, 1581, 1582, 1583, 1584] (by decide +kernel) (by decide +kernel)
set_option maxRecDepth 20000 in
theorem gL_law_X12_part : GoodIn wsL_law (wsV RL 133 RX12 yX12_part wsX12_part) := goodIn_app (goodIn_of _ (by decide +kernel)) ggL_law_X12_part
theorem dL_law_868 : decode cL_law 868 = .ok (.invokevirtual 133, 3) := by decide +kernel
theorem dL_law_871 : decode cL_law 871 = .ok (.istore 6, 2) := by decide +kernel
theorem dL_law_873 : decode cL_law 873 = .ok (.aload_n 2, 1) := by decide +kernel
theorem dL_law_874 : decode cL_law 874 = .ok (.invokevirtual 47, 3) := by decide +kernel
theorem dL_law_877 : decode cL_law 877 = .ok (.iload 5, 2) := by decide +kernel
theorem dL_law_879 : decode cL_law 879 = .ok (.if_icmp .eq 5, 3) := by decide +kernel
theorem dL_law_884 : decode cL_law 884 = .ok (.iload 5, 2) := by decide +kernel
theorem dL_law_886 : decode cL_law 886 = .ok (.ifCond .ne 15, 3) := by decide +kernel
theorem dL_law_901 : decode cL_law 901 = .ok (.goto 302, 3) := by decide +kernel
theorem dL_law_889 : decode cL_law 889 = .ok (.aload_n 3, 1) := by decide +kernel
theorem dL_law_890 : decode cL_law 890 = .ok (.iconst 0, 1) := by decide +kernel
theorem dL_law_891 : decode cL_law 891 = .ok (.laload, 1) := by decide +kernel
theorem dL_law_892 : decode cL_law 892 = .ok (.iload 6, 2) := by decide +kernel
theorem dL_law_894 : decode cL_law 894 = .ok (.i2l, 1) := by decide +kernel
theorem dL_law_895 : decode cL_law 895 = .ok (.lcmp, 1) := by decide +kernel
theorem dL_law_896 : decode cL_law 896 = .ok (.ifCond .eq 5, 3) := by decide +kernel
set_option maxHeartbeats 8000000 in
set_option maxRecDepth 100000 in
theorem law_c25 {p : Program} {l : Launch} {e : Env} {s : State} {m : MethodId} {below : List Frame} {meth : Method} {c : Code} {b L : Nat} {xs : Nat → Int32} {dC : Nat → ClassId} {dI : Nat → Nat → Nat} {cs : Nat → ClassId} {ad : Nat → Nat} {k : Nat} {Z : Nat → Nat → Nat → Nat} {raM : Nat → Nat} {xR bq bz q3 nm np n B : Nat} {bb : Int32} {ba : Nat → Int32} {Ln : List Nat} {T : Nat → Int32} {K O S N Hy : kD} {HS : Nat → kD} {BT : Nat → Int32} {P RW : kD} {IO IS IN : Nat → kD} {IK : Nat → Int32} {M Rd RO RN RB TR D : kD} {UF VF : Nat → Nat → Int32} {out : Nat → Int64} {H : Heap} {locs : List Loc} {ls : Array Slot} (F : LwF p l e s m below meth c b L xs dC dI cs ad) (hk : 6 * k + 6 ≤ L) (kk : LwH p l e s m below meth c b L xs dC dI cs ad (k + 1)) (hG : GR nm np n B Ln T K O S N Hy HS BT P RW IO IS IN IK M) (hB : B ≤ 1000000 + 96000 * k) (hI : sI Ln bz ba) (hP : va_P (dC, dI) vwCl (wL cs ad Z xR bq bz (nI Ln.length) bb ba K T Rd zD O S N IO IS IN IK Hy HS RO RN RB TR D P RW UF VF BT ++ (mw (cs 0) (cs 1) (cs 2) (cs 3) raM M ++ [(q3, .inl (cs 2, 1, .inr (.inl out)))])) H) (hD : va_D (fun q : Nat => s.heap.size ≤ q) (wL cs ad Z xR bq bz (nI Ln.length) bb ba K T Rd zD O S N IO IS IN IK Hy HS RO RN RB TR D P RW UF VF BT ++ (mw (cs 0) (cs 1) (cs 2) (cs 3) raM M ++ [(q3, .inl (cs 2, 1, .inr (.inl out)))]))) (hS : va_S (fun q : Nat => s.heap.size ≤ q) s.heap H locs) (hl : lv_has ls 7 [(0, .ref b), (1, .ref (Z 0 0 0)), (2, .ref (raM 0)), (3, .ref q3), (4, .int (nI (6 * k)))]) : W p l e room_1 s m #[Value.ref b] below meth c H locs (400 + 14 * k) (20000 + 3000 * k) (lw_Z below #[Value.ref b] s) (F0 m 836 ls []) := by
  obtain ⟨C0, hL, hK, hN, hE, hLn, hTh, hst⟩ := id F
  obtain ⟨hx, hb, hr, hml, hown, hts0, hX, hbl, hlocks, hgv⟩ := C0
  have hts : ∀ w ∈ wsL_law, w.before #[Value.ref b] s = true := wsL_law_hts hts0
  have hA : ∀ q : Nat, s.heap.size ≤ q → (fun q : Nat => s.heap.size ≤ q) q := fun _ h => h
  have hbA : ¬ (fun q : Nat => s.heap.size ≤ q) b := Nat.not_le.mpr hbl
  have hKM := hK.sub (tys' := mt (cs 0) (cs 1) (cs 2) (cs 3)) [0, 1, 2, 3] rfl
  obtain ⟨hGk, hTH⟩ := g_part hG (by omega) (xs (6 * k + 1)) (xs (6 * k + 2))
  refine lv_aload_n hx hb dL_law_836 rfl (lv_at hl 1 rfl) ?_
  refine lv_aload_n hx hb dL_law_837 rfl (lv_at hl 0 rfl) ?_
  refine lv_iload hx hb dL_law_838 (lv_at hl 4 rfl) ?_
  refine lv_iconst (v := 1) hx hb dL_law_840 (by decide) ?_
  refine lv_iadd hx hb dL_law_841 ?_
  refine kt_v (show (.int (nI (6 * k) + 1) : Value) = .int (nI (6 * k + 1)) from congrArg Value.int (nI_add (6 * k) 1)) ?_
  refine va_sld hx hb hX hbl hbA hS (vp_in_nI (n := 6 * k + 1) (by omega) (by omega)) dL_law_842 ?_
  refine kt_v (show (.int (xs (nI (6 * k + 1)).toNatClampNeg) : Value) = .int (xs (6 * k + 1)) from congrArg Value.int (by rw [nI_clamp (n := 6 * k + 1) (by omega)])) ?_
  refine lv_aload_n hx hb dL_law_843 rfl (lv_at hl 0 rfl) ?_
  refine lv_iload hx hb dL_law_844 (lv_at hl 4 rfl) ?_
  refine lv_iconst (v := 2) hx hb dL_law_846 (by decide) ?_
  refine lv_iadd hx hb dL_law_847 ?_
  refine kt_v (show (.int (nI (6 * k) + 2) : Value) = .int (nI (6 * k + 2)) from congrArg Value.int (nI_add (6 * k) 2)) ?_
  refine va_sld hx hb hX hbl hbA hS (vp_in_nI (n := 6 * k + 2) (by omega) (by omega)) dL_law_848 ?_
  refine kt_v (show (.int (xs (nI (6 * k + 2)).toNatClampNeg) : Value) = .int (xs (6 * k + 2)) from congrArg Value.int (by rw [nI_clamp (n := 6 * k + 2) (by omega)])) ?_
  refine lv_aload_n hx hb dL_law_849 rfl (lv_at hl 3 rfl) ?_
  rcases hTH with ⟨hC1, r, hM1⟩ | ⟨v, hC1, hM1⟩
  · have hMT : vx_Met l yX11_part wsX11_part (rm_s 8 1 6) (va_Pc [.ref (Z 0 0 0), .int (xs (6 * k + 1)), .int (xs (6 * k + 2))] (fun U => cPr dC dI cs (wX11 cs ad (Z 0 0) (Z 1 0 0) (Z 2 0 0) (Z 3 0 0) (Z 4 0 0) (Z 5 0 0) (Z 6 0 0) (Z 7 0 0) (Z 8 0 0) (Z 9 0 0) (Z 10 0 0) (Z 11 0 0) (Z 12 0 0) (Z 13 0 0) (Z 14 0 0) (Z 18 0 0) K ++ (wX7 cs ad (Z 3 0) (Z 20 0 0) (Z 21 0 0) (Z 22 0 0) zD ++ (wX3 cs ad (Z 20 0) O ++ (wX9 cs ad (Z 21 0) S ++ wX8 cs ad (Z 22 0) N)))) U ∧ kTh kF U U.heap)) qN xT 1 6 kF := by
      obtain ⟨v, hv, h⟩ := f_part_T hC1
      rcases h with h | ⟨h, h1 | ⟨h1, h2 | ⟨h2, h3⟩⟩⟩
      · exact c_X11_partT0 l hst dC dI cs ad Z K O S N (xs (6 * k + 1)) (xs (6 * k + 2)) v hv h
      · exact c_X11_partT1 l hst dC dI cs ad Z K O S N (xs (6 * k + 1)) (xs (6 * k + 2)) v hv h h1
      · exact c_X11_partT2 l hst dC dI cs ad Z K O S N (xs (6 * k + 1)) (xs (6 * k + 2)) v hv h h1 h2
      · exact c_X11_partT3 l hst dC dI cs ad Z K O S N (xs (6 * k + 1)) (xs (6 * k + 2)) v hv h h1 h2 h3
    refine vx_calli (vx_runSX (As := [.ref (Z 0 0 0), .int (xs (6 * k + 1)), .int (xs (6 * k + 2)), .ref q3]) (rest := []) ⟨hx, hb, hml, hown, hts⟩ (c_L_partT l hst dC dI cs ad Z K O S N (xs (6 * k + 1)) (xs (6 * k + 2)) q3 hMT) (vx_cwSW 4 hts gL_law_L_part rfl rfl rfl (by decide +kernel) ⟨Nat.le_of_ble_eq_true rfl, Nat.le_of_ble_eq_true rfl⟩) ⟨fun a U g mk q => ⟨q.1, cPr_bl q.2.1, kTh.bl q.2.2⟩, fun U hU hW => ⟨rfl, ⟨by rw [hU]; exact (va_Pl hP).sub (ws' := (wX11 cs ad (Z 0 0) (Z 1 0 0) (Z 2 0 0) (Z 3 0 0) (Z 4 0 0) (Z 5 0 0) (Z 6 0 0) (Z 7 0 0) (Z 8 0 0) (Z 9 0 0) (Z 10 0 0) (Z 11 0 0) (Z 12 0 0) (Z 13 0 0) (Z 14 0 0) (Z 18 0 0) K ++ (wX7 cs ad (Z 3 0) (Z 20 0 0) (Z 21 0 0) (Z 22 0 0) zD ++ (wX3 cs ad (Z 20 0) O ++ (wX9 cs ad (Z 21 0) S ++ wX8 cs ad (Z 22 0) N))))) [0, 3, 4, 5, 6, 7, 8, 9, 10, 11, 12, 13, 14, 15, 16, 17, 18, 19, 20, 21] rfl, va_K.moved hW.alike hK, kN_warm hW hN⟩, kTh.at hTh hS (fun _ h => h.elim) U hU hW⟩⟩ rfl rfl hl.1 rfl (lv_room (Nat.le_of_ble_eq_true rfl)) dL_law_850 ⟨(show 400 + 14 * k + 1 ≤ 601024 by omega), (show 20000 + 3000 * k + 6 ≤ 7293034 by omega)⟩) hS (fun q _ h => h.elim) (fun q h => h.elim) (fun q _ h => h.elim) (fun E ce q9 u t H1 locs1 ht hvm hu hE hz hk9 hS hc1 hc2 hc3 => False.elim hu) (fun r9 u t H1 locs1 ht hvm hu hB9 hz hk9 hS => ?_)
    have hu : r9 = 1 := hu
    subst hu
    have hP := hP.kept (fun i z hi => hk9 z.1 ((hP i z hi).lt) (fun h => h))
    generalize H1 = H at hP hS ⊢
    refine lv_istore (nL := 7) (lv' := [(5, .int 1), (0, .ref b), (1, .ref (Z 0 0 0)), (2, .ref (raM 0)), (3, .ref q3), (4, .int (nI (6 * k)))]) hx hb dL_law_853 hl (by decide) rfl (fun ls hl => ?_)
    refine lv_aload_n hx hb dL_law_855 rfl (lv_at hl 3 rfl) ?_
    refine lv_aload_n hx hb dL_law_856 rfl (lv_at hl 1 rfl) ?_
    refine lv_iload hx hb dL_law_857 (lv_at hl 5 rfl) ?_
    refine lv_iconst (v := 1) hx hb dL_law_859 (by decide) ?_
    refine lv_iadd hx hb dL_law_860 ?_
    refine kt_v (show (.int (nI (6 * k) + 1) : Value) = .int (nI (6 * k + 1)) from congrArg Value.int (nI_add (6 * k) 1)) ?_
    refine va_sld hx hb hX hbl hbA hS (vp_in_nI (n := 6 * k + 1) (by omega) (by omega)) dL_law_861 ?_
    refine kt_v (show (.int (xs (nI (6 * k + 1)).toNatClampNeg) : Value) = .int (xs (6 * k + 1)) from congrArg Value.int (by rw [nI_clamp (n := 6 * k + 1) (by omega)])) ?_
    refine lv_aload_n hx hb dL_law_862 rfl (lv_at hl 1 rfl) ?_
    refine lv_iload hx hb dL_law_863 (lv_at hl 5 rfl) ?_
    refine lv_iconst (v := 2) hx hb dL_law_865 (by decide) ?_
    refine lv_iadd hx hb dL_law_866 ?_
    refine kt_v (show (.int (nI (6 * k) + 2) : Value) = .int (nI (6 * k + 2)) from congrArg Value.int (nI_add (6 * k) 2)) ?_
    refine va_sld hx hb hX hbl hbA hS (vp_in_nI (n := 6 * k + 2) (by omega) (by omega)) dL_law_867 ?_
    refine kt_v (show (.int (xs (nI (6 * k + 2)).toNatClampNeg) : Value) = .int (xs (6 * k + 2)) from congrArg Value.int (by rw [nI_clamp (n := 6 * k + 2) (by omega)])) ?_
    refine g_callM (va_runV (As := [.int (xs (6 * k + 1)), .int (xs (6 * k + 2))]) (rest := []) ⟨hx, hb, hml, hown, hts⟩ (c_X12_part l dC dI (cs 0) (cs 1) (cs 2) (cs 3) raM H.size M (xs (6 * k + 1)) (xs (6 * k + 2)) (r, (kI M 0 0 (nI 1))) hM1) (cwV 2 hts gL_law_X12_part rfl rfl rfl (by decide +kernel) ⟨Nat.le_of_ble_eq_true rfl, Nat.le_of_ble_eq_true rfl⟩) ⟨fun a U g mk q => ⟨q.1, mPw_bl q.2⟩, va_recv hK (va_Pl (va_Pr hP)) (ci := 12) (q0 := 0) rfl rfl, fun U hU hW => ⟨rfl, by rw [hU], by rw [hU]; exact va_Pl (va_Pr hP), va_K.moved hW.alike hKM, (va_Dl (va_Dr hD)).weaken (fun _ _ _ _ => trivial)⟩⟩ rfl rfl hl.1 rfl (lv_room (Nat.le_of_ble_eq_true rfl)) dL_law_868 ⟨(show 400 + 14 * k + 1 + 0 ≤ 601024 by omega), (show 20000 + 3000 * k + 6 + 0 ≤ 7293034 by omega)⟩) hP hD hS hA (fun H locs hP hD hS => ?_)
    refine lv_istore (nL := 7) (lv' := [(6, .int r), (5, .int 1), (0, .ref b), (1, .ref (Z 0 0 0)), (2, .ref (raM 0)), (3, .ref q3), (4, .int (nI (6 * k)))]) hx hb dL_law_871 hl (by decide) rfl (fun ls hl => ?_)
    refine lv_aload_n hx hb dL_law_873 rfl (lv_at hl 4 rfl) ?_
    refine ko_call (v := some (.int (nI 1))) (va_runV (As := []) (rest := []) ⟨hx, hb, hml, hown, hts⟩ (c_X12_thrown l dC dI (cs 0) (cs 1) (cs 2) (cs 3) raM (kI M 0 0 (nI 1)) (nI 1) rfl) (cwV 0 hts gL_law_X12_thrown rfl rfl rfl (by decide +kernel) ⟨Nat.le_of_ble_eq_true rfl, Nat.le_of_ble_eq_true rfl⟩) ⟨fun a U g mk q => ⟨q.1, mPr_bl q.2⟩, va_recv hK (va_Pl (va_Pr hP)) (ci := 12) (q0 := 0) rfl rfl, fun U hU hW => ⟨rfl, by rw [hU]; exact va_Pl (va_Pr hP), va_K.moved hW.alike hKM⟩⟩ rfl rfl hl.1 rfl (lv_room (Nat.le_of_ble_eq_true rfl)) dL_law_874 ⟨(show 400 + 14 * k + 1 + 0 ≤ 601024 by omega), (show 20000 + 3000 * k + 6 + 0 ≤ 7293034 by omega)⟩) ?_
    refine lv_iload hx hb dL_law_877 (lv_at hl 1 rfl) ?_
    refine lv_icmp_eq (tgt := 884) hx hb dL_law_879 (by decide) (fun _ => ?_) (fun h => absurd (show (nI 1 : Int32) = 1 from rfl) h)
    refine lv_iload hx hb dL_law_884 (lv_at hl 1 rfl) ?_
    refine lv_if_ne (tgt := 901) hx hb dL_law_886 (by decide) (fun _ => ?_) (fun h => absurd h (by decide))
    refine lv_goto (tgt := 1203) hx hb dL_law_901 (by decide) ?_
    exact law_next F hk kk (hGk (nI 1)) (by omega) hI hP hD hS (lv_sub hl [2, 3, 4, 5, 6] rfl) (by omega) (by omega)
  · have hF : ∀ q, va_A [(q3, .inl (cs 2, 1, .inr (.inl out)))] H.size q → (fun q : Nat => s.heap.size ≤ q) q := by
      intro q h
      rcases h with ⟨j, e1, hj⟩ | h
      · exact (va_Dr (va_Dr hD)).2 j (q, e1) hj
      · exact hA q (Nat.le_trans hS.1 h)
    refine vx_calli (vx_runSX (As := [.ref (Z 0 0 0), .int (xs (6 * k + 1)), .int (xs (6 * k + 2)), .ref q3]) (rest := []) ⟨hx, hb, hml, hown, hts⟩ (c_L_partV l dC dI cs ad Z K O S N (xs (6 * k + 1)) (xs (6 * k + 2)) q3 out v H.size (fV_part_of hC1)) (vx_cwSW 4 hts gL_law_L_part rfl rfl rfl (by decide +kernel) ⟨Nat.le_of_ble_eq_true rfl, Nat.le_of_ble_eq_true rfl⟩) ⟨fun a U g mk q => ⟨q.1, cPw_bl q.2.1, cPr_bl q.2.2⟩, fun U hU hW => ⟨rfl, ⟨by rw [hU], by rw [hU]; exact va_Pr (va_Pr hP), va_K.moved hW.alike hK, (va_Dr (va_Dr hD)).weaken (fun _ _ _ _ => trivial), kN_warm hW hN⟩, ⟨by rw [hU]; exact (va_Pl hP).sub (ws' := (wX11 cs ad (Z 0 0) (Z 1 0 0) (Z 2 0 0) (Z 3 0 0) (Z 4 0 0) (Z 5 0 0) (Z 6 0 0) (Z 7 0 0) (Z 8 0 0) (Z 9 0 0) (Z 10 0 0) (Z 11 0 0) (Z 12 0 0) (Z 13 0 0) (Z 14 0 0) (Z 18 0 0) K ++ (wX7 cs ad (Z 3 0) (Z 20 0 0) (Z 21 0 0) (Z 22 0 0) zD ++ (wX3 cs ad (Z 20 0) O ++ (wX9 cs ad (Z 21 0) S ++ wX8 cs ad (Z 22 0) N))))) [0, 3, 4, 5, 6, 7, 8, 9, 10, 11, 12, 13, 14, 15, 16, 17, 18, 19, 20, 21] rfl, va_K.moved hW.alike hK, kN_warm hW hN⟩⟩⟩ rfl rfl hl.1 rfl (lv_room (Nat.le_of_ble_eq_true rfl)) dL_law_850 ⟨(show 400 + 14 * k + 0 ≤ 601024 by omega), (show 20000 + 3000 * k + 0 ≤ 7293034 by omega)⟩) hS (fun q _ h => hF q h) hF (fun q _ h => h.elim) (fun E ce q9 u t H1 locs1 ht hvm hu hE hz hk9 hS hc1 hc2 hc3 => False.elim hu) (fun r9 u t H1 locs1 ht hvm hu hB9 hz hk9 hS => ?_)
    have hu : r9 = 0 := hu
    subst hu
    obtain ⟨hP1, -, -⟩ := hB9
    rw [ht] at hP1
    obtain ⟨hP, hD⟩ := g_out (c1 := (q3, Sum.inl (cs 2, 1, Sum.inr (Sum.inl (vp_updL out 0 v.toInt64))))) hP hD rfl hk9 hP1
    generalize H1 = H at hP hS ⊢
    refine lv_istore (nL := 7) (lv' := [(5, .int 0), (0, .ref b), (1, .ref (Z 0 0 0)), (2, .ref (raM 0)), (3, .ref q3), (4, .int (nI (6 * k)))]) hx hb dL_law_853 hl (by decide) rfl (fun ls hl => ?_)
    refine lv_aload_n hx hb dL_law_855 rfl (lv_at hl 3 rfl) ?_
    refine lv_aload_n hx hb dL_law_856 rfl (lv_at hl 1 rfl) ?_
    refine lv_iload hx hb dL_law_857 (lv_at hl 5 rfl) ?_
    refine lv_iconst (v := 1) hx hb dL_law_859 (by decide) ?_
    refine lv_iadd hx hb dL_law_860 ?_
    refine kt_v (show (.int (nI (6 * k) + 1) : Value) = .int (nI (6 * k + 1)) from congrArg Value.int (nI_add (6 * k) 1)) ?_
    refine va_sld hx hb hX hbl hbA hS (vp_in_nI (n := 6 * k + 1) (by omega) (by omega)) dL_law_861 ?_
    refine kt_v (show (.int (xs (nI (6 * k + 1)).toNatClampNeg) : Value) = .int (xs (6 * k + 1)) from congrArg Value.int (by rw [nI_clamp (n := 6 * k + 1) (by omega)])) ?_
    refine lv_aload_n hx hb dL_law_862 rfl (lv_at hl 1 rfl) ?_
    refine lv_iload hx hb dL_law_863 (lv_at hl 5 rfl) ?_
    refine lv_iconst (v := 2) hx hb dL_law_865 (by decide) ?_
    refine lv_iadd hx hb dL_law_866 ?_
    refine kt_v (show (.int (nI (6 * k) + 2) : Value) = .int (nI (6 * k + 2)) from congrArg Value.int (nI_add (6 * k) 2)) ?_
    refine va_sld hx hb hX hbl hbA hS (vp_in_nI (n := 6 * k + 2) (by omega) (by omega)) dL_law_867 ?_
    refine kt_v (show (.int (xs (nI (6 * k + 2)).toNatClampNeg) : Value) = .int (xs (6 * k + 2)) from congrArg Value.int (by rw [nI_clamp (n := 6 * k + 2) (by omega)])) ?_
    refine g_callM (va_runV (As := [.int (xs (6 * k + 1)), .int (xs (6 * k + 2))]) (rest := []) ⟨hx, hb, hml, hown, hts⟩ (c_X12_part l dC dI (cs 0) (cs 1) (cs 2) (cs 3) raM H.size M (xs (6 * k + 1)) (xs (6 * k + 2)) (v, (kI M 0 0 (nI 0))) hM1) (cwV 2 hts gL_law_X12_part rfl rfl rfl (by decide +kernel) ⟨Nat.le_of_ble_eq_true rfl, Nat.le_of_ble_eq_true rfl⟩) ⟨fun a U g mk q => ⟨q.1, mPw_bl q.2⟩, va_recv hK (va_Pl (va_Pr hP)) (ci := 12) (q0 := 0) rfl rfl, fun U hU hW => ⟨rfl, by rw [hU], by rw [hU]; exact va_Pl (va_Pr hP), va_K.moved hW.alike hKM, (va_Dl (va_Dr hD)).weaken (fun _ _ _ _ => trivial)⟩⟩ rfl rfl hl.1 rfl (lv_room (Nat.le_of_ble_eq_true rfl)) dL_law_868 ⟨(show 400 + 14 * k + 0 ≤ 601024 by omega), (show 20000 + 3000 * k + 0 ≤ 7293034 by omega)⟩) hP hD hS hA (fun H locs hP hD hS => ?_)
    refine lv_istore (nL := 7) (lv' := [(6, .int v), (5, .int 0), (0, .ref b), (1, .ref (Z 0 0 0)), (2, .ref (raM 0)), (3, .ref q3), (4, .int (nI (6 * k)))]) hx hb dL_law_871 hl (by decide) rfl (fun ls hl => ?_)
    refine lv_aload_n hx hb dL_law_873 rfl (lv_at hl 4 rfl) ?_
    refine ko_call (v := some (.int (nI 0))) (va_runV (As := []) (rest := []) ⟨hx, hb, hml, hown, hts⟩ (c_X12_thrown l dC dI (cs 0) (cs 1) (cs 2) (cs 3) raM (kI M 0 0 (nI 0)) (nI 0) rfl) (cwV 0 hts gL_law_X12_thrown rfl rfl rfl (by decide +kernel) ⟨Nat.le_of_ble_eq_true rfl, Nat.le_of_ble_eq_true rfl⟩) ⟨fun a U g mk q => ⟨q.1, mPr_bl q.2⟩, va_recv hK (va_Pl (va_Pr hP)) (ci := 12) (q0 := 0) rfl rfl, fun U hU hW => ⟨rfl, by rw [hU]; exact va_Pl (va_Pr hP), va_K.moved hW.alike hKM⟩⟩ rfl rfl hl.1 rfl (lv_room (Nat.le_of_ble_eq_true rfl)) dL_law_874 ⟨(show 400 + 14 * k + 0 ≤ 601024 by omega), (show 20000 + 3000 * k + 0 ≤ 7293034 by omega)⟩) ?_
    refine lv_iload hx hb dL_law_877 (lv_at hl 1 rfl) ?_
    refine lv_icmp_eq (tgt := 884) hx hb dL_law_879 (by decide) (fun _ => ?_) (fun h => absurd (show (nI 0 : Int32) = 0 from rfl) h)
    refine lv_iload hx hb dL_law_884 (lv_at hl 1 rfl) ?_
    refine lv_if_ne (tgt := 901) hx hb dL_law_886 (by decide) (fun h => absurd rfl h) (fun _ => ?_)
    refine lv_aload_n hx hb dL_law_889 rfl (lv_at hl 5 rfl) ?_
    refine lv_iconst (v := 0) hx hb dL_law_890 (by decide) ?_
    refine va_lald hx hb hK (va_Pr (va_Pr hP)) 0 2 rfl rfl (show vp_in (0 : Int32) 1 from vp_in_nI (n := 0) (by decide) (by decide)) dL_law_891 ?_
    refine kt_v (show (.long (vp_updL out 0 v.toInt64 (0 : Int32).toNatClampNeg) : Value) = .long v.toInt64 from rfl) ?_
    refine lv_iload hx hb dL_law_892 (lv_at hl 0 rfl) ?_
    refine lv_i2l (v := v.toInt64) hx hb dL_law_894 rfl ?_
    refine W.lcmp hx hb dL_law_895 ?_
    refine lv_if_eq (tgt := 901) hx hb dL_law_896 (by decide) (fun _ => ?_) (fun h => absurd (lcmp_self _) h)
    refine lv_goto (tgt := 1203) hx hb dL_law_901 (by decide) ?_
    exact law_next F hk kk (hGk (nI 0)) (by omega) hI hP hD hS (lv_sub hl [2, 3, 4, 5, 6] rfl) (by omega) (by omega)

