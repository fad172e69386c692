theorem dL_law_954 : decode cL_law 954 = .ok (.aload_n 1, 1) := by decide +kernel
theorem dL_law_955 : decode cL_law 955 = .ok (.aload_n 0, 1) := by decide +kernel
theorem dL_law_956 : decode cL_law 956 = .ok (.iload 4, 2) := by decide +kernel
theorem dL_law_958 : decode cL_law 958 = .ok (.iconst 1, 1) := by decide +kernel
theorem dL_law_959 : decode cL_law 959 = .ok (.iadd, 1) := by decide +kernel
theorem dL_law_960 : decode cL_law 960 = .ok (.iaload, 1) := by decide +kernel
theorem dL_law_961 : decode cL_law 961 = .ok (.aload_n 0, 1) := by decide +kernel
theorem dL_law_962 : decode cL_law 962 = .ok (.iload 4, 2) := by decide +kernel
theorem dL_law_964 : decode cL_law 964 = .ok (.iconst 2, 1) := by decide +kernel
theorem dL_law_965 : decode cL_law 965 = .ok (.iadd, 1) := by decide +kernel
theorem dL_law_966 : decode cL_law 966 = .ok (.iaload, 1) := by decide +kernel
set_option maxRecDepth 20000 in
theorem ggL_law_X11_drawn : GoodIn wsL_law wsX11_drawn := goodIn_r _ [1261, 22, 764, 245, 246, 247, 29, 49, 765, 766, 2, 767, 670, 44, 671, 672, 420, 673, 28, 674, 675, 431, 676, 110, 677, 678, 679, 96, 97, 421, 422, 92, 680, 414, 415, 416, 93, 94, 95, 1262, 1263, 1264, 1265, 1266, 1267, 1268, 1269, 48, 1270, 1271, 1272, 1273, 566, 556, 557, 558, 386, 387, 1274, 1275, 1276, 1277, 1278, 662, 663, 664, 665, 666, 667, 668, 570, 571, 572, 573, 669, 379, 32, 380, 381, 325, 562, 563, 564, 565, 383, 384, 385, 326, 375, 376, 377, 84, 378, 382, 393, 394, 395, 88, 1279, 681, 682, 683, 684, 685, 686, 687, 688, 689, 690, 691, 692, 693, 694, 695, 696, 771, 772, 773, 774, 775, 776, 777, 778, 1517, 1518, 1519, 1520, 1521, 1522, 1523, 1524, 1525, 1526, 1527, 1528, 1529, 1530, 1531, 1532, 1533, 1534, 1535, 1596, 1597, 1598, 1634, 1625, 1626, 1627, 1628, 1629, 1630, 1631, 1632, 1633, 1599, 1600, 1601, 1602, 1603, 1604, 1605, 1606, 1607, 1608, 1609, 1610, 1611, 1612] (by decide +kernel) (by decide +kernel)
set_option maxRecDepth 20000 in
theorem gL_law_X11_drawn : GoodIn wsL_law (wsV RL 142 RX11 yX11_drawn wsX11_drawn) := goodIn_app (goodIn_of _ (by decide +kernel)) ggL_law_X11_drawn
theorem dL_law_967 : decode cL_law 967 = .ok (.invokevirtual 142, 3) := by decide +kernel
theorem dL_law_970 : decode cL_law 970 = .ok (.aload_n 2, 1) := by decide +kernel
theorem dL_law_971 : decode cL_law 971 = .ok (.aload_n 0, 1) := by decide +kernel
theorem dL_law_972 : decode cL_law 972 = .ok (.iload 4, 2) := by decide +kernel
theorem dL_law_974 : decode cL_law 974 = .ok (.iconst 1, 1) := by decide +kernel
theorem dL_law_975 : decode cL_law 975 = .ok (.iadd, 1) := by decide +kernel
theorem dL_law_976 : decode cL_law 976 = .ok (.iaload, 1) := by decide +kernel
theorem dL_law_977 : decode cL_law 977 = .ok (.aload_n 0, 1) := by decide +kernel
theorem dL_law_978 : decode cL_law 978 = .ok (.iload 4, 2) := by decide +kernel
theorem dL_law_980 : decode cL_law 980 = .ok (.iconst 2, 1) := by decide +kernel
theorem dL_law_981 : decode cL_law 981 = .ok (.iadd, 1) := by decide +kernel
theorem dL_law_982 : decode cL_law 982 = .ok (.iaload, 1) := by decide +kernel
set_option maxRecDepth 20000 in
theorem ggL_law_X12_drawn : GoodIn wsL_law wsX12_drawn := goodIn_r _ [1283, 218, 159, 503, 504, 5, 505, 701, 702, 703, 704, 440, 164, 1284, 1285, 1286, 1287, 1288, 1289, 1290, 1291, 1292, 1293, 1294, 1295, 1296, 1297, 593, 594, 595, 596, 597, 598, 599, 600, 522, 523, 524, 601, 602, 603, 604, 705, 706, 707, 708, 709, 710, 711, 787, 788, 789, 790, 589, 590, 591, 592, 1536, 1537, 1538, 1539, 1540, 1541, 1542, 1543, 1544, 1545, 1546, 1547, 1548, 1549, 1550, 1551, 1552, 1553, 1554, 1555, 1556, 1557, 1558, 1559, 1560, 1561, 1562, 1563, 1564, 1565, 1566, 1567, 1568, 1569, 1570, 1571, 1572, 1573, 1574, 1575, 1576, 1577, 1578, 1579, 1580, 1581, 1582, 1583, 1584] (by decide +kernel) (by decide +kernel)
set_option maxRecDepth 20000 in
theorem gL_law_X12_drawn : GoodIn wsL_law (wsV RL 145 RX12 yX12_drawn wsX12_drawn) := goodIn_app (goodIn_of _ (by decide +kernel)) ggL_law_X12_drawn
theorem dL_law_983 : decode cL_law 983 = .ok (.invokevirtual 145, 3) := by decide +kernel
theorem dL_law_986 : decode cL_law 986 = .ok (.if_icmp .eq 217, 3) := by decide +kernel
set_option maxHeartbeats 8000000 in
set_option maxRecDepth 100000 in
theorem law_c28 {p : Program} {l : Launch} {e : Env} {s : State} {m : MethodId} {below : List Frame} {meth : Method} {c : Code} {b L : Nat} {xs : Nat → Int32} {dC : Nat → ClassId} {dI : Nat → Nat → Nat} {cs : Nat → ClassId} {ad : Nat → Nat} {k : Nat} {Z : Nat → Nat → Nat → Nat} {raM : Nat → Nat} {xR bq bz q3 nm np n B : Nat} {bb : Int32} {ba : Nat → Int32} {Ln : List Nat} {T : Nat → Int32} {K O S N Hy : kD} {HS : Nat → kD} {BT : Nat → Int32} {P RW : kD} {IO IS IN : Nat → kD} {IK : Nat → Int32} {M Rd RO RN RB TR D : kD} {UF VF : Nat → Nat → Int32} {out : Nat → Int64} {H : Heap} {locs : List Loc} {ls : Array Slot} (F : LwF p l e s m below meth c b L xs dC dI cs ad) (hk : 6 * k + 6 ≤ L) (kk : LwH p l e s m below meth c b L xs dC dI cs ad (k + 1)) (hG : GR nm np n B Ln T K O S N Hy HS BT P RW IO IS IN IK M) (hB : B ≤ 1000000 + 96000 * k) (hI : sI Ln bz ba) (hP : va_P (dC, dI) vwCl (wL cs ad Z xR bq bz (nI Ln.length) bb ba K T Rd zD O S N IO IS IN IK Hy HS RO RN RB TR D P RW UF VF BT ++ (mw (cs 0) (cs 1) (cs 2) (cs 3) raM M ++ [(q3, .inl (cs 2, 1, .inr (.inl out)))])) H) (hD : va_D (fun q : Nat => s.heap.size ≤ q) (wL cs ad Z xR bq bz (nI Ln.length) bb ba K T Rd zD O S N IO IS IN IK Hy HS RO RN RB TR D P RW UF VF BT ++ (mw (cs 0) (cs 1) (cs 2) (cs 3) raM M ++ [(q3, .inl (cs 2, 1, .inr (.inl out)))]))) (hS : va_S (fun q : Nat => s.heap.size ≤ q) s.heap H locs) (hl : lv_has ls 7 [(0, .ref b), (1, .ref (Z 0 0 0)), (2, .ref (raM 0)), (3, .ref q3), (4, .int (nI (6 * k)))]) : W p l e room_1 s m #[Value.ref b] below meth c H locs (400 + 14 * k) (20000 + 3000 * k) (lw_Z below #[Value.ref b] s) (F0 m 954 ls []) := by
  obtain ⟨C0, hL, hK, hN, hE, hLn, hTh, hst⟩ := id F
  obtain ⟨hx, hb, hr, hml, hown, hts0, hX, hbl, hlocks, hgv⟩ := C0
  have hts : ∀ w ∈ wsL_law, w.before #[Value.ref b] s = true := wsL_law_hts hts0
  have hA : ∀ q : Nat, s.heap.size ≤ q → (fun q : Nat => s.heap.size ≤ q) q := fun _ h => h
  have hbA : ¬ (fun q : Nat => s.heap.size ≤ q) b := Nat.not_le.mpr hbl
  have hKM := hK.sub (tys' := mt (cs 0) (cs 1) (cs 2) (cs 3)) [0, 1, 2, 3] rfl
  obtain ⟨v, S1, Hy1, HS1, D1, M1, e1, e2, hG1⟩ := g_drawn (D := D) hG (by omega) (xs (6 * k + 1)) (xs (6 * k + 2))
  refine lv_aload_n hx hb dL_law_954 rfl (lv_at hl 1 rfl) ?_
  refine lv_aload_n hx hb dL_law_955 rfl (lv_at hl 0 rfl) ?_
  refine lv_iload hx hb dL_law_956 (lv_at hl 4 rfl) ?_
  refine lv_iconst (v := 1) hx hb dL_law_958 (by decide) ?_
  refine lv_iadd hx hb dL_law_959 ?_
  refine kt_v (show (.int (nI (6 * k) + 1) : Value) = .int (nI (6 * k + 1)) from congrArg Value.int (nI_add (6 * k) 1)) ?_
  refine va_sld hx hb hX hbl hbA hS (vp_in_nI (n := 6 * k + 1) (by omega) (by omega)) dL_law_960 ?_
  refine kt_v (show (.int (xs (nI (6 * k + 1)).toNatClampNeg) : Value) = .int (xs (6 * k + 1)) from congrArg Value.int (by rw [nI_clamp (n := 6 * k + 1) (by omega)])) ?_
  refine lv_aload_n hx hb dL_law_961 rfl (lv_at hl 0 rfl) ?_
  refine lv_iload hx hb dL_law_962 (lv_at hl 4 rfl) ?_
  refine lv_iconst (v := 2) hx hb dL_law_964 (by decide) ?_
  refine lv_iadd hx hb dL_law_965 ?_
  refine kt_v (show (.int (nI (6 * k) + 2) : Value) = .int (nI (6 * k + 2)) from congrArg Value.int (nI_add (6 * k) 2)) ?_
  refine va_sld hx hb hX hbl hbA hS (vp_in_nI (n := 6 * k + 2) (by omega) (by omega)) dL_law_966 ?_
  refine kt_v (show (.int (xs (nI (6 * k + 2)).toNatClampNeg) : Value) = .int (xs (6 * k + 2)) from congrArg Value.int (by rw [nI_clamp (n := 6 * k + 2) (by omega)])) ?_
  refine g_callwZ (isC := [0, 3, 4, 5, 6, 7, 8, 9, 10, 11, 12, 13, 14, 15, 16, 17, 18, 19, 20, 21, 62, 63, 64, 65, 66, 67, 68, 69, 70, 71, 72, 73, 74, 75, 76, 77, 78, 79, 80, 81, 82, 83, 84, 85, 86, 87, 88, 89, 90, 91, 92, 93, 94, 95, 96, 97, 98, 99, 100, 101, 102, 103, 126]) (isR := [1, 2, 22, 23, 24, 25, 26, 27, 28, 29, 30, 31, 32, 33, 34, 35, 36, 37, 38, 39, 40, 41, 42, 43, 44, 45, 46, 47, 48, 49, 50, 51, 52, 53, 54, 55, 56, 57, 58, 59, 60, 61, 104, 105, 106, 107, 108, 109, 110, 111, 112, 113, 114, 115, 116, 117, 118, 119, 120, 121, 122, 123, 124, 125, 127, 128, 129, 130, 131, 132, 133, 134, 135, 136, 137, 138, 139, 140, 141, 142, 143, 144, 145, 146, 147, 148, 149, 150, 151, 152, 153, 154, 155]) (wc := (ww_X11_drawn cs ad (Z 0 0) (Z 3 0) (Z 20 0) (Z 21 0) (Z 22 0) (Z 6 0) (Z 26 0 0) (Z 40) (Z 11 0) (Z 1 0 0) (Z 2 0 0) (Z 4 0 0) (Z 5 0 0) (Z 7 0 0) (Z 8 0 0) (Z 9 0 0) (Z 10 0 0) (Z 12 0 0) (Z 13 0 0) (Z 14 0 0) (Z 18 0 0) K zD O S N Hy HS D)) (wz := (ww_X11_drawn cs ad (Z 0 0) (Z 3 0) (Z 20 0) (Z 21 0) (Z 22 0) (Z 6 0) (Z 26 0 0) (Z 40) (Z 11 0) (Z 1 0 0) (Z 2 0 0) (Z 4 0 0) (Z 5 0 0) (Z 7 0 0) (Z 8 0 0) (Z 9 0 0) (Z 10 0 0) (Z 12 0 0) (Z 13 0 0) (Z 14 0 0) (Z 18 0 0) zD zD zD zD zD zD (fun _ => zD) zD)) (w1 := (ww_X11_drawn cs ad (Z 0 0) (Z 3 0) (Z 20 0) (Z 21 0) (Z 22 0) (Z 6 0) (Z 26 0 0) (Z 40) (Z 11 0) (Z 1 0 0) (Z 2 0 0) (Z 4 0 0) (Z 5 0 0) (Z 7 0 0) (Z 8 0 0) (Z 9 0 0) (Z 10 0 0) (Z 12 0 0) (Z 13 0 0) (Z 14 0 0) (Z 18 0 0) K zD O S1 N Hy1 HS1 D1)) (ws' := wL cs ad Z xR bq bz (nI Ln.length) bb ba K T Rd zD O S1 N IO IS IN IK Hy1 HS1 RO RN RB TR D1 P RW UF VF BT) (v := v) (va_runV (As := [.int (xs (6 * k + 1)), .int (xs (6 * k + 2))]) (rest := []) ⟨hx, hb, hml, hown, hts⟩ (c_X11_drawn l dC dI cs ad (Z 0 0) (Z 3 0) (Z 20 0) (Z 21 0) (Z 22 0) (Z 6 0) (Z 26 0 0) (Z 40) (Z 11 0) (Z 1 0 0) (Z 2 0 0) (Z 4 0 0) (Z 5 0 0) (Z 7 0 0) (Z 8 0 0) (Z 9 0 0) (Z 10 0 0) (Z 12 0 0) (Z 13 0 0) (Z 14 0 0) (Z 18 0 0) _ K zD O S N Hy HS D (xs (6 * k + 1)) (xs (6 * k + 2)) (v, S1, Hy1, HS1, D1) e1) (cwV 2 hts gL_law_X11_drawn rfl rfl rfl (by decide +kernel) ⟨Nat.le_of_ble_eq_true rfl, Nat.le_of_ble_eq_true rfl⟩) ⟨fun a U g mk q => ⟨q.1, (fun _ _ _ _ => cPw_bl) a U g mk q.2⟩, va_recv hK (va_Pl hP) (ci := 11) (q0 := 0) rfl rfl, fun U hU hW => ⟨rfl, ⟨by rw [hU], by rw [hU]; exact ((va_Pl hP).sub (ws' := (ww_X11_drawn cs ad (Z 0 0) (Z 3 0) (Z 20 0) (Z 21 0) (Z 22 0) (Z 6 0) (Z 26 0 0) (Z 40) (Z 11 0) (Z 1 0 0) (Z 2 0 0) (Z 4 0 0) (Z 5 0 0) (Z 7 0 0) (Z 8 0 0) (Z 9 0 0) (Z 10 0 0) (Z 12 0 0) (Z 13 0 0) (Z 14 0 0) (Z 18 0 0) K zD O S N Hy HS D)) [0, 3, 4, 5, 6, 7, 8, 9, 10, 11, 12, 13, 14, 15, 16, 17, 18, 19, 20, 21, 62, 63, 64, 65, 66, 67, 68, 69, 70, 71, 72, 73, 74, 75, 76, 77, 78, 79, 80, 81, 82, 83, 84, 85, 86, 87, 88, 89, 90, 91, 92, 93, 94, 95, 96, 97, 98, 99, 100, 101, 102, 103, 126] rfl), va_K.moved hW.alike hK, ((va_Dl hD).sub (ws' := (ww_X11_drawn cs ad (Z 0 0) (Z 3 0) (Z 20 0) (Z 21 0) (Z 22 0) (Z 6 0) (Z 26 0 0) (Z 40) (Z 11 0) (Z 1 0 0) (Z 2 0 0) (Z 4 0 0) (Z 5 0 0) (Z 7 0 0) (Z 8 0 0) (Z 9 0 0) (Z 10 0 0) (Z 12 0 0) (Z 13 0 0) (Z 14 0 0) (Z 18 0 0) K zD O S N Hy HS D)) [0, 3, 4, 5, 6, 7, 8, 9, 10, 11, 12, 13, 14, 15, 16, 17, 18, 19, 20, 21, 62, 63, 64, 65, 66, 67, 68, 69, 70, 71, 72, 73, 74, 75, 76, 77, 78, 79, 80, 81, 82, 83, 84, 85, 86, 87, 88, 89, 90, 91, 92, 93, 94, 95, 96, 97, 98, 99, 100, 101, 102, 103, 126] (by decide) rfl).weaken (fun _ _ _ _ => trivial), kN_warm hW hN⟩⟩⟩ rfl rfl hl.1 rfl (lv_room (Nat.le_of_ble_eq_true rfl)) dL_law_967 ⟨(show 400 + 14 * k + 0 ≤ 601024 by omega), (show 20000 + 3000 * k + 0 ≤ 7293034 by omega)⟩) hP hD hS hA rfl rfl (wr := ((([((Z 1 0 0), .inl (cs 1, 940, .inl T))]) ++ ((wX4 cs ad (Z 2 0) xR (Z 1 0 0) Rd) ++ (([((Z 4 0 0), .inl (cs 6, 2, .inr (.inr (.inr (.inr (fun j => some ((Z 30) j 0)))))))]) ++ ((wIC cs ad (Z 30) (Z 31) (Z 32) (Z 33)) ++ ((wX3x2 cs ad (Z 31) IO) ++ ((wX9x2 cs ad (Z 32) IS) ++ ((wX8x2 cs ad (Z 33) IN) ++ (([((Z 5 0 0), .inl (cs 3, 2, .inl IK))]) ++ ((wX3 cs ad (Z 7 0) RO) ++ ((wX8 cs ad (Z 8 0) RN) ++ ((wX0 cs ad (Z 9 0) RB) ++ ((wX9 cs ad (Z 10 0) TR) ++ ((wX5 cs ad (Z 12 0) P) ++ ((wX6 cs ad (Z 13 0) (Z 23 0 0) (Z 25 0 0) RW) ++ (([((Z 23 0 0), .inl (cs 7, 9, .inr (.inr (.inr (.inr (fun j => some ((Z 24 0) j)))))))]) ++ ((wF1x9 cs (Z 24 0) UF) ++ (([((Z 25 0 0), .inl (cs 7, 9, .inr (.inr (.inr (.inr (fun j => some ((Z 27 0) j)))))))]) ++ ((wF1x9 cs (Z 27 0) VF) ++ (([((Z 14 0 0), .inl (cs 1, 4, .inl BT))])))))))))))))))))))) ++ [(Z 18 0 0, .inr (0, [.ref bq, .int 0, .int bb, .int (nI Ln.length)])), (bq, .inl (cs 0, bz, .inl ba))])) rfl rfl rfl (nw := 156) rfl (by decide +kernel) rfl (fun H locs hP hD hS => ?_)
  refine lv_aload_n hx hb dL_law_970 rfl (lv_at hl 2 rfl) ?_
  refine lv_aload_n hx hb dL_law_971 rfl (lv_at hl 0 rfl) ?_
  refine lv_iload hx hb dL_law_972 (lv_at hl 4 rfl) ?_
  refine lv_iconst (v := 1) hx hb dL_law_974 (by decide) ?_
  refine lv_iadd hx hb dL_law_975 ?_
  refine kt_v (show (.int (nI (6 * k) + 1) : Value) = .int (nI (6 * k + 1)) from congrArg Value.int (nI_add (6 * k) 1)) ?_
  refine va_sld hx hb hX hbl hbA hS (vp_in_nI (n := 6 * k + 1) (by omega) (by omega)) dL_law_976 ?_
  refine kt_v (show (.int (xs (nI (6 * k + 1)).toNatClampNeg) : Value) = .int (xs (6 * k + 1)) from congrArg Value.int (by rw [nI_clamp (n := 6 * k + 1) (by omega)])) ?_
  refine lv_aload_n hx hb dL_law_977 rfl (lv_at hl 0 rfl) ?_
  refine lv_iload hx hb dL_law_978 (lv_at hl 4 rfl) ?_
  refine lv_iconst (v := 2) hx hb dL_law_980 (by decide) ?_
  refine lv_iadd hx hb dL_law_981 ?_
  refine kt_v (show (.int (nI (6 * k) + 2) : Value) = .int (nI (6 * k + 2)) from congrArg Value.int (nI_add (6 * k) 2)) ?_
  refine va_sld hx hb hX hbl hbA hS (vp_in_nI (n := 6 * k + 2) (by omega) (by omega)) dL_law_982 ?_
  refine kt_v (show (.int (xs (nI (6 * k + 2)).toNatClampNeg) : Value) = .int (xs (6 * k + 2)) from congrArg Value.int (by rw [nI_clamp (n := 6 * k + 2) (by omega)])) ?_
  refine g_callM (va_runV (As := [.int (xs (6 * k + 1)), .int (xs (6 * k + 2))]) (rest := [.int v]) ⟨hx, hb, hml, hown, hts⟩ (c_X12_drawn l dC dI (cs 0) (cs 1) (cs 2) (cs 3) raM H.size M (xs (6 * k + 1)) (xs (6 * k + 2)) (v, M1) e2) (cwV 2 hts gL_law_X12_drawn rfl rfl rfl (by decide +kernel) ⟨Nat.le_of_ble_eq_true rfl, Nat.le_of_ble_eq_true rfl⟩) ⟨fun a U g mk q => ⟨q.1, mPw_bl q.2⟩, va_recv hK (va_Pl (va_Pr hP)) (ci := 12) (q0 := 0) rfl rfl, fun U hU hW => ⟨rfl, by rw [hU], by rw [hU]; exact va_Pl (va_Pr hP), va_K.moved hW.alike hKM, (va_Dl (va_Dr hD)).weaken (fun _ _ _ _ => trivial)⟩⟩ rfl rfl hl.1 rfl (lv_room (Nat.le_of_ble_eq_true rfl)) dL_law_983 ⟨(show 400 + 14 * k + 0 ≤ 601024 by omega), (show 20000 + 3000 * k + 0 ≤ 7293034 by omega)⟩) hP hD hS hA (fun H locs hP hD hS => ?_)
  refine lv_icmp_eq (tgt := 1203) hx hb dL_law_986 (by decide) (fun _ => ?_) (fun h => absurd rfl h)
  exact law_next F hk kk hG1 (by omega) hI hP hD hS hl (by omega) (by omega)

theorem dL_law_991 : decode cL_law 991 = .ok (.aload_n 1, 1) := by decide +kernel
theorem dL_law_992 : decode cL_law 992 = .ok (.aload_n 0, 1) := by decide +kernel
theorem dL_law_993 : decode cL_law 993 = .ok (.iload 4, 2) := by decide +kernel
theorem dL_law_995 : decode cL_law 995 = .ok (.iconst 1, 1) := by decide +kernel
theorem dL_law_996 : decode cL_law 996 = .ok (.iadd, 1) := by decide +kernel
theorem dL_law_997 : decode cL_law 997 = .ok (.iaload, 1) := by decide +kernel
theorem dL_law_998 : decode cL_law 998 = .ok (.aload_n 0, 1) := by decide +kernel
theorem dL_law_999 : decode cL_law 999 = .ok (.iload 4, 2) := by decide +kernel
theorem dL_law_1001 : decode cL_law 1001 = .ok (.iconst 2, 1) := by decide +kernel
theorem dL_law_1002 : decode cL_law 1002 = .ok (.iadd, 1) := by decide +kernel
theorem dL_law_1003 : decode cL_law 1003 = .ok (.iaload, 1) := by decide +kernel
theorem dL_law_1004 : decode cL_law 1004 = .ok (.aload_n 0, 1) := by decide +kernel
theorem dL_law_1005 : decode cL_law 1005 = .ok (.iload 4, 2) := by decide +kernel
theorem dL_law_1007 : decode cL_law 1007 = .ok (.iconst 3, 1) := by decide +kernel
theorem dL_law_1008 : decode cL_law 1008 = .ok (.iadd, 1) := by decide +kernel
theorem dL_law_1009 : decode cL_law 1009 = .ok (.iaload, 1) := by decide +kernel
set_option maxRecDepth 20000 in
theorem ggL_law_X11_odds : GoodIn wsL_law wsX11_odds := goodIn_r _ [1301, 22, 45, 49, 379, 32, 380, 381, 325, 677, 44, 678, 679, 420, 96, 97, 421, 422, 92, 680, 414, 415, 416, 93, 94, 95, 1262, 1263, 1264, 1265, 1266, 1267, 1268, 1269, 48, 1270, 1271, 1272, 1273, 566, 556, 557, 558, 386, 2, 387, 1274, 1275, 1276, 1277, 1278, 662, 663, 664, 665, 666, 667, 668, 570, 571, 572, 573, 669, 670, 671, 672, 562, 563, 564, 565, 383, 384, 385, 326, 375, 376, 377, 84, 378, 382, 393, 394, 395, 88, 1279, 681, 682, 683, 684, 685, 686, 687, 688, 245, 246, 247, 689, 690, 691, 692, 693, 694, 695, 696, 771, 772, 773, 774, 775, 776, 777, 778, 1517, 1518, 1519, 1520, 1521, 1522, 1523, 1524, 1525, 1526, 1527, 1528, 1529, 1530, 1531, 1532, 1533, 1534, 1535, 1596, 1597, 1598, 1634, 1625, 1626, 1627, 1628, 1629, 1630, 1631, 1632, 1633, 1602, 1603, 1604, 1605, 1606, 1607, 1608, 1609, 1610, 1611, 1612] (by decide +kernel) (by decide +kernel)
set_option maxRecDepth 20000 in
theorem gL_law_X11_odds : GoodIn wsL_law (wsV RL 146 RX11 yX11_odds wsX11_odds) := goodIn_app (goodIn_of _ (by decide +kernel)) ggL_law_X11_odds
theorem dL_law_1010 : decode cL_law 1010 = .ok (.invokevirtual 146, 3) := by decide +kernel
theorem dL_law_1013 : decode cL_law 1013 = .ok (.aload_n 2, 1) := by decide +kernel
theorem dL_law_1014 : decode cL_law 1014 = .ok (.aload_n 0, 1) := by decide +kernel
theorem dL_law_1015 : decode cL_law 1015 = .ok (.iload 4, 2) := by decide +kernel
theorem dL_law_1017 : decode cL_law 1017 = .ok (.iconst 1, 1) := by decide +kernel
theorem dL_law_1018 : decode cL_law 1018 = .ok (.iadd, 1) := by decide +kernel
theorem dL_law_1019 : decode cL_law 1019 = .ok (.iaload, 1) := by decide +kernel
theorem dL_law_1020 : decode cL_law 1020 = .ok (.aload_n 0, 1) := by decide +kernel
theorem dL_law_1021 : decode cL_law 1021 = .ok (.iload 4, 2) := by decide +kernel
theorem dL_law_1023 : decode cL_law 1023 = .ok (.iconst 2, 1) := by decide +kernel
theorem dL_law_1024 : decode cL_law 1024 = .ok (.iadd, 1) := by decide +kernel
theorem dL_law_1025 : decode cL_law 1025 = .ok (.iaload, 1) := by decide +kernel
theorem dL_law_1026 : decode cL_law 1026 = .ok (.aload_n 0, 1) := by decide +kernel
theorem dL_law_1027 : decode cL_law 1027 = .ok (.iload 4, 2) := by decide +kernel
theorem dL_law_1029 : decode cL_law 1029 = .ok (.iconst 3, 1) := by decide +kernel
theorem dL_law_1030 : decode cL_law 1030 = .ok (.iadd, 1) := by decide +kernel
theorem dL_law_1031 : decode cL_law 1031 = .ok (.iaload, 1) := by decide +kernel
set_option maxRecDepth 20000 in
theorem ggL_law_X12_odds : GoodIn wsL_law wsX12_odds := goodIn_r _ [1305, 218, 159, 581, 582, 583, 5, 584, 503, 504, 505, 857, 858, 859, 860, 165, 1284, 1285, 1286, 1287, 1288, 1289, 1290, 1291, 1292, 1293, 1294, 1295, 1296, 1297, 593, 594, 595, 596, 597, 598, 599, 600, 522, 523, 524, 601, 602, 603, 604, 705, 706, 707, 708, 709, 710, 711, 787, 788, 789, 790, 589, 590, 591, 592, 861, 862, 863, 864, 1536, 1537, 1538, 1539, 1540, 1541, 1542, 1543, 1544, 1545, 1546, 1547, 1548, 1549, 1550, 1551, 1552, 1553, 1554, 1555, 1556, 1557, 1558, 1559, 1560, 1561, 1562, 1563, 1564, 1565, 1566, 1567, 1568, 1569, 1570, 1571, 1572, 1573, 1574, 1575, 1576, 1577, 1578, 1579, 1580, 1581, 1582, 1583, 1584] (by decide +kernel) (by decide +kernel)
set_option maxRecDepth 20000 in
theorem gL_law_X12_odds : GoodIn wsL_law (wsV RL 150 RX12 yX12_odds wsX12_odds) := goodIn_app (goodIn_of _ (by decide +kernel)) ggL_law_X12_odds
theorem dL_law_1032 : decode cL_law 1032 = .ok (.invokevirtual 150, 3) := by decide +kernel
theorem dL_law_1035 : decode cL_law 1035 = .ok (.if_icmp .eq 168, 3) := by decide +kernel
set_option maxHeartbeats 8000000 in
set_option maxRecDepth 100000 in
theorem law_c29 {p : Program} {l : Launch} {e : Env} {s : State} {m : MethodId} {below : List Frame} {meth : Method} {c : Code} {b L : Nat} {xs : Nat → Int32} {dC : Nat → ClassId} {dI : Nat → Nat → Nat} {cs : Nat → ClassId} {ad : Nat → Nat} {k : Nat} {Z : Nat → Nat → Nat → Nat} {raM : Nat → Nat} {xR bq bz q3 nm np n B : Nat} {bb : Int32} {ba : Nat → Int32} {Ln : List Nat} {T : Nat → Int32} {K O S N Hy : kD} {HS : Nat → kD} {BT : Nat → Int32} {P RW : kD} {IO IS IN : Nat → kD} {IK : Nat → Int32} {M Rd RO RN RB TR D : kD} {UF VF : Nat → Nat → Int32} {out : Nat → Int64} {H : Heap} {locs : List Loc} {ls : Array Slot} (F : LwF p l e s m below meth c b L xs dC dI cs ad) (hk : 6 * k + 6 ≤ L) (kk : LwH p l e s m below meth c b L xs dC dI cs ad (k + 1)) (hG : GR nm np n B Ln T K O S N Hy HS BT P RW IO IS IN IK M) (hB : B ≤ 1000000 + 96000 * k) (hI : sI Ln bz ba) (hP : va_P (dC, dI) vwCl (wL cs ad Z xR bq bz (nI Ln.length) bb ba K T Rd zD O S N IO IS IN IK Hy HS RO RN RB TR D P RW UF VF BT ++ (mw (cs 0) (cs 1) (cs 2) (cs 3) raM M ++ [(q3, .inl (cs 2, 1, .inr (.inl out)))])) H) (hD : va_D (fun q : Nat => s.heap.size ≤ q) (wL cs ad Z xR bq bz (nI Ln.length) bb ba K T Rd zD O S N IO IS IN IK Hy HS RO RN RB TR D P RW UF VF BT ++ (mw (cs 0) (cs 1) (cs 2) (cs 3) raM M ++ [(q3, .inl (cs 2, 1, .inr (.inl out)))]))) (hS : va_S (fun q : Nat => s.heap.size ≤ q) s.heap H locs) (hl : lv_has ls 7 [(0, .ref b), (1, .ref (Z 0 0 0)), (2, .ref (raM 0)), (3, .ref q3), (4, .int (nI (6 * k)))]) : W p l e room_1 s m #[Value.ref b] below meth c H locs (400 + 14 * k) (20000 + 3000 * k) (lw_Z below #[Value.ref b] s) (F0 m 991 ls []) := by
  obtain ⟨C0, hL, hK, hN, hE, hLn, hTh, hst⟩ := id F
  obtain ⟨hx, hb, hr, hml, hown, hts0, hX, hbl, hlocks, hgv⟩ := C0
  have hts : ∀ w ∈ wsL_law, w.before #[Value.ref b] s = true := wsL_law_hts hts0
  have hA : ∀ q : Nat, s.heap.size ≤ q → (fun q : Nat => s.heap.size ≤ q) q := fun _ h => h
  have hbA : ¬ (fun q : Nat => s.heap.size ≤ q) b := Nat.not_le.mpr hbl
  have hKM := hK.sub (tys' := mt (cs 0) (cs 1) (cs 2) (cs 3)) [0, 1, 2, 3] rfl
  obtain ⟨v, TR1, D1, M1, e1, e2, hG1⟩ := g_odds (TR := TR) (D := D) hG (by omega) (xs (6 * k + 1)) (xs (6 * k + 2)) (xs (6 * k + 3))
  refine lv_aload_n hx hb dL_law_991 rfl (lv_at hl 1 rfl) ?_
  refine lv_aload_n hx hb dL_law_992 rfl (lv_at hl 0 rfl) ?_
  refine lv_iload hx hb dL_law_993 (lv_at hl 4 rfl) ?_
  refine lv_iconst (v := 1) hx hb dL_law_995 (by decide) ?_
  refine lv_iadd hx hb dL_law_996 ?_
  refine kt_v (show (.int (nI (6 * k) + 1) : Value) = .int (nI (6 * k + 1)) from congrArg Value.int (nI_add (6 * k) 1)) ?_
  refine va_sld hx hb hX hbl hbA hS (vp_in_nI (n := 6 * k + 1) (by omega) (by omega)) dL_law_997 ?_
  refine kt_v (show (.int (xs (nI (6 * k + 1)).toNatClampNeg) : Value) = .int (xs (6 * k + 1)) from congrArg Value.int (by rw [nI_clamp (n := 6 * k + 1) (by omega)])) ?_
  refine lv_aload_n hx hb dL_law_998 rfl (lv_at hl 0 rfl) ?_
  refine lv_iload hx hb dL_law_999 (lv_at hl 4 rfl) ?_
  refine lv_iconst (v := 2) hx hb dL_law_1001 (by decide) ?_
  refine lv_iadd hx hb dL_law_1002 ?_
  refine kt_v (show (.int (nI (6 * k) + 2) : Value) = .int (nI (6 * k + 2)) from congrArg Value.int (nI_add (6 * k) 2)) ?_
  refine va_sld hx hb hX hbl hbA hS (vp_in_nI (n := 6 * k + 2) (by omega) (by omega)) dL_law_1003 ?_
  refine kt_v (show (.int (xs (nI (6 * k + 2)).toNatClampNeg) : Value) = .int (xs (6 * k + 2)) from congrArg Value.int (by rw [nI_clamp (n := 6 * k + 2) (by omega)])) ?_
  refine lv_aload_n hx hb dL_law_1004 rfl (lv_at hl 0 rfl) ?_
  refine lv_iload hx hb dL_law_1005 (lv_at hl 4 rfl) ?_
  refine lv_iconst (v := 3) hx hb dL_law_1007 (by decide) ?_
  refine lv_iadd hx hb dL_law_1008 ?_
  refine kt_v (show (.int (nI (6 * k) + 3) : Value) = .int (nI (6 * k + 3)) from congrArg Value.int (nI_add (6 * k) 3)) ?_
  refine va_sld hx hb hX hbl hbA hS (vp_in_nI (n := 6 * k + 3) (by omega) (by omega)) dL_law_1009 ?_
  refine kt_v (show (.int (xs (nI (6 * k + 3)).toNatClampNeg) : Value) = .int (xs (6 * k + 3)) from congrArg Value.int (by rw [nI_clamp (n := 6 * k + 3) (by omega)])) ?_
  refine g_callwZ (isC := [0, 3, 4, 5, 6, 7, 8, 9, 10, 11, 12, 13, 14, 15, 16, 17, 18, 19, 20, 21, 121, 122, 123, 124, 125, 126]) (isR := [1, 2, 22, 23, 24, 25, 26, 27, 28, 29, 30, 31, 32, 33, 34, 35, 36, 37, 38, 39, 40, 41, 42, 43, 44, 45, 46, 47, 48, 49, 50, 51, 52, 53, 54, 55, 56, 57, 58, 59, 60, 61, 62, 63, 64, 65, 66, 67, 68, 69, 70, 71, 72, 73, 74, 75, 76, 77, 78, 79, 80, 81, 82, 83, 84, 85, 86, 87, 88, 89, 90, 91, 92, 93, 94, 95, 96, 97, 98, 99, 100, 101, 102, 103, 104, 105, 106, 107, 108, 109, 110, 111, 112, 113, 114, 115, 116, 117, 118, 119, 120, 127, 128, 129, 130, 131, 132, 133, 134, 135, 136, 137, 138, 139, 140, 141, 142, 143, 144, 145, 146, 147, 148, 149, 150, 151, 152, 153, 154, 155]) (wc := (ww_X11_odds cs ad (Z 0 0) (Z 3 0) (Z 20 0) (Z 21 0) (Z 22 0) (Z 10 0) (Z 11 0) (Z 1 0 0) (Z 2 0 0) (Z 4 0 0) (Z 5 0 0) (Z 6 0 0) (Z 7 0 0) (Z 8 0 0) (Z 9 0 0) (Z 12 0 0) (Z 13 0 0) (Z 14 0 0) (Z 18 0 0) K zD O S N TR D)) (wz := (ww_X11_odds cs ad (Z 0 0) (Z 3 0) (Z 20 0) (Z 21 0) (Z 22 0) (Z 10 0) (Z 11 0) (Z 1 0 0) (Z 2 0 0) (Z 4 0 0) (Z 5 0 0) (Z 6 0 0) (Z 7 0 0) (Z 8 0 0) (Z 9 0 0) (Z 12 0 0) (Z 13 0 0) (Z 14 0 0) (Z 18 0 0) zD zD zD zD zD zD zD)) (w1 := (ww_X11_odds cs ad (Z 0 0) (Z 3 0) (Z 20 0) (Z 21 0) (Z 22 0) (Z 10 0) (Z 11 0) (Z 1 0 0) (Z 2 0 0) (Z 4 0 0) (Z 5 0 0) (Z 6 0 0) (Z 7 0 0) (Z 8 0 0) (Z 9 0 0) (Z 12 0 0) (Z 13 0 0) (Z 14 0 0) (Z 18 0 0) K zD O S N TR1 D1)) (ws' := wL cs ad Z xR bq bz (nI Ln.length) bb ba K T Rd zD O S N IO IS IN IK Hy HS RO RN RB TR1 D1 P RW UF VF BT) (v := v) (va_runV (As := [.int (xs (6 * k + 1)), .int (xs (6 * k + 2)), .int (xs (6 * k + 3))]) (rest := []) ⟨hx, hb, hml, hown, hts⟩ (c_X11_odds l dC dI cs ad (Z 0 0) (Z 3 0) (Z 20 0) (Z 21 0) (Z 22 0) (Z 10 0) (Z 11 0) (Z 1 0 0) (Z 2 0 0) (Z 4 0 0) (Z 5 0 0) (Z 6 0 0) (Z 7 0 0) (Z 8 0 0) (Z 9 0 0) (Z 12 0 0) (Z 13 0 0) (Z 14 0 0) (Z 18 0 0) _ K zD O S N TR D (xs (6 * k + 1)) (xs (6 * k + 2)) (xs (6 * k + 3)) (v, TR1, D1) e1) (cwV 3 hts gL_law_X11_odds rfl rfl rfl (by decide +kernel) ⟨Nat.le_of_ble_eq_true rfl, Nat.le_of_ble_eq_true rfl⟩) ⟨fun a U g mk q => ⟨q.1, (fun _ _ _ _ => cPw_bl) a U g mk q.2⟩, va_recv hK (va_Pl hP) (ci := 11) (q0 := 0) rfl rfl, fun U hU hW => ⟨rfl, ⟨by rw [hU], by rw [hU]; exact ((va_Pl hP).sub (ws' := (ww_X11_odds cs ad (Z 0 0) (Z 3 0) (Z 20 0) (Z 21 0) (Z 22 0) (Z 10 0) (Z 11 0) (Z 1 0 0) (Z 2 0 0) (Z 4 0 0) (Z 5 0 0) (Z 6 0 0) (Z 7 0 0) (Z 8 0 0) (Z 9 0 0) (Z 12 0 0) (Z 13 0 0) (Z 14 0 0) (Z 18 0 0) K zD O S N TR D)) [0, 3, 4, 5, 6, 7, 8, 9, 10, 11, 12, 13, 14, 15, 16, 17, 18, 19, 20, 21, 121, 122, 123, 124, 125, 126] rfl), va_K.moved hW.alike hK, ((va_Dl hD).sub (ws' := (ww_X11_odds cs ad (Z 0 0) (Z 3 0) (Z 20 0) (Z 21 0) (Z 22 0) (Z 10 0) (Z 11 0) (Z 1 0 0) (Z 2 0 0) (Z 4 0 0) (Z 5 0 0) (Z 6 0 0) (Z 7 0 0) (Z 8 0 0) (Z 9 0 0) (Z 12 0 0) (Z 13 0 0) (Z 14 0 0) (Z 18 0 0) K zD O S N TR D)) [0, 3, 4, 5, 6, 7, 8, 9, 10, 11, 12, 13, 14, 15, 16, 17, 18, 19, 20, 21, 121, 122, 123, 124, 125, 126] (by decide) rfl).weaken (fun _ _ _ _ => trivial), kN_warm hW hN⟩⟩⟩ rfl rfl hl.1 rfl (lv_room (Nat.le_of_ble_eq_true rfl)) dL_law_1010 ⟨(show 400 + 14 * k + 0 ≤ 601024 by omega), (show 20000 + 3000 * k + 0 ≤ 7293034 by omega)⟩) hP hD hS hA rfl rfl (wr := ((([((Z 1 0 0), .inl (cs 1, 940, .inl T))]) ++ ((wX4 cs ad (Z 2 0) xR (Z 1 0 0) Rd) ++ (([((Z 4 0 0), .inl (cs 6, 2, .inr (.inr (.inr (.inr (fun j => some ((Z 30) j 0)))))))]) ++ ((wIC cs ad (Z 30) (Z 31) (Z 32) (Z 33)) ++ ((wX3x2 cs ad (Z 31) IO) ++ ((wX9x2 cs ad (Z 32) IS) ++ ((wX8x2 cs ad (Z 33) IN) ++ (([((Z 5 0 0), .inl (cs 3, 2, .inl IK))]) ++ ((wX2 cs ad (Z 6 0) (Z 26 0 0) Hy) ++ (([((Z 26 0 0), .inl (cs 5, 8, .inr (.inr (.inr (.inr (fun j => some ((Z 40) j 0)))))))]) ++ ((wX9x8 cs ad (Z 40) HS) ++ ((wX3 cs ad (Z 7 0) RO) ++ ((wX8 cs ad (Z 8 0) RN) ++ ((wX0 cs ad (Z 9 0) RB) ++ ((wX5 cs ad (Z 12 0) P) ++ ((wX6 cs ad (Z 13 0) (Z 23 0 0) (Z 25 0 0) RW) ++ (([((Z 23 0 0), .inl (cs 7, 9, .inr (.inr (.inr (.inr (fun j => some ((Z 24 0) j)))))))]) ++ ((wF1x9 cs (Z 24 0) UF) ++ (([((Z 25 0 0), .inl (cs 7, 9, .inr (.inr (.inr (.inr (fun j => some ((Z 27 0) j)))))))]) ++ ((wF1x9 cs (Z 27 0) VF) ++ (([((Z 14 0 0), .inl (cs 1, 4, .inl BT))])))))))))))))))))))))) ++ [(Z 18 0 0, .inr (0, [.ref bq, .int 0, .int bb, .int (nI Ln.length)])), (bq, .inl (cs 0, bz, .inl ba))])) rfl rfl rfl (nw := 156) rfl (by decide +kernel) rfl (fun H locs hP hD hS => ?_)
  refine lv_aload_n hx hb dL_law_1013 rfl (lv_at hl 2 rfl) ?_
  refine lv_aload_n hx hb dL_law_1014 rfl (lv_at hl 0 rfl) ?_
  refine lv_iload hx hb dL_law_1015 (lv_at hl 4 rfl) ?_
  refine lv_iconst (v := 1) hx hb dL_law_1017 (by decide) ?_
  refine lv_iadd hx hb dL_law_1018 ?_
  refine kt_v (show (.int (nI (6 * k) + 1) : Value) = .int (nI (6 * k + 1)) from congrArg Value.int (nI_add (6 * k) 1)) ?_
  refine va_sld hx hb hX hbl hbA hS (vp_in_nI (n := 6 * k + 1) (by omega) (by omega)) dL_law_1019 ?_
  refine kt_v (show (.int (xs (nI (6 * k + 1)).toNatClampNeg) : Value) = .int (xs (6 * k + 1)) from congrArg Value.int (by rw [nI_clamp (n := 6 * k + 1) (by omega)])) ?_
  refine lv_aload_n hx hb dL_law_1020 rfl (lv_at hl 0 rfl) ?_
  refine lv_iload hx hb dL_law_1021 (lv_at hl 4 rfl) ?_
  refine lv_iconst (v := 2) hx hb dL_law_1023 (by decide) ?_
  refine lv_iadd hx hb dL_law_1024 ?_
  refine kt_v (show (.int (nI (6 * k) + 2) : Value) = .int (nI (6 * k + 2)) from congrArg Value.int (nI_add (6 * k) 2)) ?_
  refine va_sld hx hb hX hbl hbA hS (vp_in_nI (n := 6 * k + 2) (by omega) (by omega)) dL_law_1025 ?_
  refine kt_v (show (.int (xs (nI (6 * k + 2)).toNatClampNeg) : Value) = .int (xs (6 * k + 2)) from congrArg Value.int (by rw [nI_clamp (n := 6 * k + 2) (by omega)])) ?_
  refine lv_aload_n hx hb dL_law_1026 rfl (lv_at hl 0 rfl) ?_
  refine lv_iload hx hb dL_law_1027 (lv_at hl 4 rfl) ?_
  refine lv_iconst (v := 3) hx hb dL_law_1029 (by decide) ?_
  refine lv_iadd hx hb dL_law_1030 ?_
  refine kt_v (show (.int (nI (6 * k) + 3) : Value) = .int (nI (6 * k + 3)) from congrArg Value.int (nI_add (6 * k) 3)) ?_
  refine va_sld hx hb hX hbl hbA hS (vp_in_nI (n := 6 * k + 3) (by omega) (by omega)) dL_law_1031 ?_
  refine kt_v (show (.int (xs (nI (6 * k + 3)).toNatClampNeg) : Value) = .int (xs (6 * k + 3)) from congrArg Value.int (by rw [nI_clamp (n := 6 * k + 3) (by omega)])) ?_
  refine g_callM (va_runV (As := [.int (xs (6 * k + 1)), .int (xs (6 * k + 2)), .int (xs (6 * k + 3))]) (rest := [.int v]) ⟨hx, hb, hml, hown, hts⟩ (c_X12_odds l dC dI (cs 0) (cs 1) (cs 2) (cs 3) raM H.size M (xs (6 * k + 1)) (xs (6 * k + 2)) (xs (6 * k + 3)) (v, M1) e2) (cwV 3 hts gL_law_X12_odds rfl rfl rfl (by decide +kernel) ⟨Nat.le_of_ble_eq_true rfl, Nat.le_of_ble_eq_true rfl⟩) ⟨fun a U g mk q => ⟨q.1, mPw_bl q.2⟩, va_recv hK (va_Pl (va_Pr hP)) (ci := 12) (q0 := 0) rfl rfl, fun U hU hW => ⟨rfl, by rw [hU], by rw [hU]; exact va_Pl (va_Pr hP), va_K.moved hW.alike hKM, (va_Dl (va_Dr hD)).weaken (fun _ _ _ _ => trivial)⟩⟩ rfl rfl hl.1 rfl (lv_room (Nat.le_of_ble_eq_true rfl)) dL_law_1032 ⟨(show 400 + 14 * k + 0 ≤ 601024 by omega), (show 20000 + 3000 * k + 0 ≤ 7293034 by omega)⟩) hP hD hS hA (fun H locs hP hD hS => ?_)
  refine lv_icmp_eq (tgt := 1203) hx hb dL_law_1035 (by decide) (fun _ => ?_) (fun h => absurd rfl h)
  exact law_next F hk kk hG1 (by omega) hI hP hD hS hl (by omega) (by omega)

