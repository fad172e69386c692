theorem dL_law_277 : decode cL_law 277 = .ok (.aload_n 1, 1) := by decide +kernel
theorem dL_law_278 : decode cL_law 278 = .ok (.aload_n 0, 1) := by decide +kernel
theorem dL_law_279 : decode cL_law 279 = .ok (.iload 4, 2) := by decide +kernel
theorem dL_law_281 : decode cL_law 281 = .ok (.iconst 1, 1) := by decide +kernel
theorem dL_law_282 : decode cL_law 282 = .ok (.iadd, 1) := by decide +kernel
theorem dL_law_283 : decode cL_law 283 = .ok (.iaload, 1) := by decide +kernel
set_option maxRecDepth 20000 in
theorem ggL_law_X11_end : GoodIn wsL_law wsX11_end := goodIn_r _ [227, 209, 1517, 1518, 1519, 1520, 1521, 1522, 1523, 1524, 1525, 1526, 1527, 1528, 1529, 1530, 1531, 1532, 1533, 1534, 1535] (by decide +kernel) (by decide +kernel)
set_option maxRecDepth 20000 in
theorem gL_law_X11_end : GoodIn wsL_law (wsV RL 27 RX11 yX11_end wsX11_end) := goodIn_app (goodIn_of _ (by decide +kernel)) ggL_law_X11_end
theorem dL_law_284 : decode cL_law 284 = .ok (.invokevirtual 27, 3) := by decide +kernel
theorem dL_law_287 : decode cL_law 287 = .ok (.aload_n 2, 1) := by decide +kernel
theorem dL_law_288 : decode cL_law 288 = .ok (.aload_n 0, 1) := by decide +kernel
theorem dL_law_289 : decode cL_law 289 = .ok (.iload 4, 2) := by decide +kernel
theorem dL_law_291 : decode cL_law 291 = .ok (.iconst 1, 1) := by decide +kernel
theorem dL_law_292 : decode cL_law 292 = .ok (.iadd, 1) := by decide +kernel
theorem dL_law_293 : decode cL_law 293 = .ok (.iaload, 1) := by decide +kernel
set_option maxRecDepth 20000 in
theorem ggL_law_X12_end : GoodIn wsL_law wsX12_end := goodIn_r _ [231, 218, 219, 1536, 1537, 1538, 1539, 1540, 1541, 1542, 1543, 1544, 1545, 1546, 1547, 1548, 1549, 1550, 1551, 1552, 1553, 1554, 1555, 1556, 1557, 1558, 1559, 1560, 1561, 1562, 1563, 1564, 1565, 1566, 1567, 1568, 1569, 1570, 1571, 1572, 1573, 1574, 1575, 1576, 1577, 1578, 1579, 1580, 1581, 1582, 1583, 1584] (by decide +kernel) (by decide +kernel)
set_option maxRecDepth 20000 in
theorem gL_law_X12_end : GoodIn wsL_law (wsV RL 31 RX12 yX12_end wsX12_end) := goodIn_app (goodIn_of _ (by decide +kernel)) ggL_law_X12_end
theorem dL_law_294 : decode cL_law 294 = .ok (.invokevirtual 31, 3) := by decide +kernel
theorem dL_law_297 : decode cL_law 297 = .ok (.if_icmp .eq 906, 3) := by decide +kernel
set_option maxHeartbeats 8000000 in
set_option maxRecDepth 100000 in
theorem law_c1 {p : Program} {l : Launch} {e : Env} {s : State} {m : MethodId} {below : List Frame} {meth : Method} {c : Code} {b L : Nat} {xs : Nat → Int32} {dC : Nat → ClassId} {dI : Nat → Nat → Nat} {cs : Nat → ClassId} {ad : Nat → Nat} {k : Nat} {Z : Nat → Nat → Nat → Nat} {raM : Nat → Nat} {xR bq bz q3 nm np n B : Nat} {bb : Int32} {ba : Nat → Int32} {Ln : List Nat} {T : Nat → Int32} {K O S N Hy : kD} {HS : Nat → kD} {BT : Nat → Int32} {P RW : kD} {IO IS IN : Nat → kD} {IK : Nat → Int32} {M Rd RO RN RB TR D : kD} {UF VF : Nat → Nat → Int32} {out : Nat → Int64} {H : Heap} {locs : List Loc} {ls : Array Slot} (F : LwF p l e s m below meth c b L xs dC dI cs ad) (hk : 6 * k + 6 ≤ L) (kk : LwH p l e s m below meth c b L xs dC dI cs ad (k + 1)) (hG : GR nm np n B Ln T K O S N Hy HS BT P RW IO IS IN IK M) (hB : B ≤ 1000000 + 96000 * k) (hI : sI Ln bz ba) (hP : va_P (dC, dI) vwCl (wL cs ad Z xR bq bz (nI Ln.length) bb ba K T Rd zD O S N IO IS IN IK Hy HS RO RN RB TR D P RW UF VF BT ++ (mw (cs 0) (cs 1) (cs 2) (cs 3) raM M ++ [(q3, .inl (cs 2, 1, .inr (.inl out)))])) H) (hD : va_D (fun q : Nat => s.heap.size ≤ q) (wL cs ad Z xR bq bz (nI Ln.length) bb ba K T Rd zD O S N IO IS IN IK Hy HS RO RN RB TR D P RW UF VF BT ++ (mw (cs 0) (cs 1) (cs 2) (cs 3) raM M ++ [(q3, .inl (cs 2, 1, .inr (.inl out)))]))) (hS : va_S (fun q : Nat => s.heap.size ≤ q) s.heap H locs) (hl : lv_has ls 7 [(0, .ref b), (1, .ref (Z 0 0 0)), (2, .ref (raM 0)), (3, .ref q3), (4, .int (nI (6 * k)))]) : W p l e room_1 s m #[Value.ref b] below meth c H locs (400 + 14 * k) (20000 + 3000 * k) (lw_Z below #[Value.ref b] s) (F0 m 277 ls []) := by
  obtain ⟨C0, hL, hK, hN, hE, hLn, hTh, hst⟩ := id F
  obtain ⟨hx, hb, hr, hml, hown, hts0, hX, hbl, hlocks, hgv⟩ := C0
  have hts : ∀ w ∈ wsL_law, w.before #[Value.ref b] s = true := wsL_law_hts hts0
  have hA : ∀ q : Nat, s.heap.size ≤ q → (fun q : Nat => s.heap.size ≤ q) q := fun _ h => h
  have hbA : ¬ (fun q : Nat => s.heap.size ≤ q) b := Nat.not_le.mpr hbl
  have hKM := hK.sub (tys' := mt (cs 0) (cs 1) (cs 2) (cs 3)) [0, 1, 2, 3] rfl
  obtain ⟨v, n1, K1, M1, e1, e2, hG1⟩ := g_end hG (xs (6 * k + 1))
  refine lv_aload_n hx hb dL_law_277 rfl (lv_at hl 1 rfl) ?_
  refine lv_aload_n hx hb dL_law_278 rfl (lv_at hl 0 rfl) ?_
  refine lv_iload hx hb dL_law_279 (lv_at hl 4 rfl) ?_
  refine lv_iconst (v := 1) hx hb dL_law_281 (by decide) ?_
  refine lv_iadd hx hb dL_law_282 ?_
  refine kt_v (show (.int (nI (6 * k) + 1) : Value) = .int (nI (6 * k + 1)) from congrArg Value.int (nI_add (6 * k) 1)) ?_
  refine va_sld hx hb hX hbl hbA hS (vp_in_nI (n := 6 * k + 1) (by omega) (by omega)) dL_law_283 ?_
  refine kt_v (show (.int (xs (nI (6 * k + 1)).toNatClampNeg) : Value) = .int (xs (6 * k + 1)) from congrArg Value.int (by rw [nI_clamp (n := 6 * k + 1) (by omega)])) ?_
  refine g_callwZ (isC := [0]) (isR := [1, 2, 3, 4, 5, 6, 7, 8, 9, 10, 11, 12, 13, 14, 15, 16, 17, 18, 19, 20, 21, 22, 23, 24, 25, 26, 27, 28, 29, 30, 31, 32, 33, 34, 35, 36, 37, 38, 39, 40, 41, 42, 43, 44, 45, 46, 47, 48, 49, 50, 51, 52, 53, 54, 55, 56, 57, 58, 59, 60, 61, 62, 63, 64, 65, 66, 67, 68, 69, 70, 71, 72, 73, 74, 75, 76, 77, 78, 79, 80, 81, 82, 83, 84, 85, 86, 87, 88, 89, 90, 91, 92, 93, 94, 95, 96, 97, 98, 99, 100, 101, 102, 103, 104, 105, 106, 107, 108, 109, 110, 111, 112, 113, 114, 115, 116, 117, 118, 119, 120, 121, 122, 123, 124, 125, 126, 127, 128, 129, 130, 131, 132, 133, 134, 135, 136, 137, 138, 139, 140, 141, 142, 143, 144, 145, 146, 147, 148, 149, 150, 151, 152, 153, 154, 155]) (wc := (ww_X11_end cs ad (Z 0 0) (Z 1 0 0) (Z 2 0 0) (Z 3 0 0) (Z 4 0 0) (Z 5 0 0) (Z 6 0 0) (Z 7 0 0) (Z 8 0 0) (Z 9 0 0) (Z 10 0 0) (Z 11 0 0) (Z 12 0 0) (Z 13 0 0) (Z 14 0 0) (Z 18 0 0) K)) (wz := (ww_X11_end cs ad (Z 0 0) (Z 1 0 0) (Z 2 0 0) (Z 3 0 0) (Z 4 0 0) (Z 5 0 0) (Z 6 0 0) (Z 7 0 0) (Z 8 0 0) (Z 9 0 0) (Z 10 0 0) (Z 11 0 0) (Z 12 0 0) (Z 13 0 0) (Z 14 0 0) (Z 18 0 0) zD)) (w1 := (ww_X11_end cs ad (Z 0 0) (Z 1 0 0) (Z 2 0 0) (Z 3 0 0) (Z 4 0 0) (Z 5 0 0) (Z 6 0 0) (Z 7 0 0) (Z 8 0 0) (Z 9 0 0) (Z 10 0 0) (Z 11 0 0) (Z 12 0 0) (Z 13 0 0) (Z 14 0 0) (Z 18 0 0) K1)) (ws' := wL cs ad Z xR bq bz (nI Ln.length) bb ba K1 T Rd zD O S N IO IS IN IK Hy HS RO RN RB TR D P RW UF VF BT) (v := v) (va_runV (As := [.int (xs (6 * k + 1))]) (rest := []) ⟨hx, hb, hml, hown, hts⟩ (c_X11_end l dC dI cs ad (Z 0 0) (Z 1 0 0) (Z 2 0 0) (Z 3 0 0) (Z 4 0 0) (Z 5 0 0) (Z 6 0 0) (Z 7 0 0) (Z 8 0 0) (Z 9 0 0) (Z 10 0 0) (Z 11 0 0) (Z 12 0 0) (Z 13 0 0) (Z 14 0 0) (Z 18 0 0) _ K (xs (6 * k + 1)) (v, K1) e1) (cwV 1 hts gL_law_X11_end rfl rfl rfl (by decide +kernel) ⟨Nat.le_of_ble_eq_true rfl, Nat.le_of_ble_eq_true rfl⟩) ⟨fun a U g mk q => ⟨q.1, (fun _ _ _ _ => cPw_bl) a U g mk q.2⟩, va_recv hK (va_Pl hP) (ci := 11) (q0 := 0) rfl rfl, fun U hU hW => ⟨rfl, ⟨by rw [hU], by rw [hU]; exact ((va_Pl hP).sub (ws' := (ww_X11_end cs ad (Z 0 0) (Z 1 0 0) (Z 2 0 0) (Z 3 0 0) (Z 4 0 0) (Z 5 0 0) (Z 6 0 0) (Z 7 0 0) (Z 8 0 0) (Z 9 0 0) (Z 10 0 0) (Z 11 0 0) (Z 12 0 0) (Z 13 0 0) (Z 14 0 0) (Z 18 0 0) K)) [0] rfl), va_K.moved hW.alike hK, ((va_Dl hD).sub (ws' := (ww_X11_end cs ad (Z 0 0) (Z 1 0 0) (Z 2 0 0) (Z 3 0 0) (Z 4 0 0) (Z 5 0 0) (Z 6 0 0) (Z 7 0 0) (Z 8 0 0) (Z 9 0 0) (Z 10 0 0) (Z 11 0 0) (Z 12 0 0) (Z 13 0 0) (Z 14 0 0) (Z 18 0 0) K)) [0] (by decide) rfl).weaken (fun _ _ _ _ => trivial), kN_warm hW hN⟩⟩⟩ rfl rfl hl.1 rfl (lv_room (Nat.le_of_ble_eq_true rfl)) dL_law_284 ⟨(show 400 + 14 * k + 0 ≤ 601024 by omega), (show 20000 + 3000 * k + 0 ≤ 7293034 by omega)⟩) hP hD hS hA rfl rfl (wr := ((([((Z 1 0 0), .inl (cs 1, 940, .inl T))]) ++ ((wX4 cs ad (Z 2 0) xR (Z 1 0 0) Rd) ++ ((wX7 cs ad (Z 3 0) ((Z 20 0) 0) ((Z 21 0) 0) ((Z 22 0) 0) zD) ++ ((wX3 cs ad (Z 20 0) O) ++ ((wX9 cs ad (Z 21 0) S) ++ ((wX8 cs ad (Z 22 0) N) ++ (([((Z 4 0 0), .inl (cs 6, 2, .inr (.inr (.inr (.inr (fun j => some ((Z 30) j 0)))))))]) ++ ((wIC cs ad (Z 30) (Z 31) (Z 32) (Z 33)) ++ ((wX3x2 cs ad (Z 31) IO) ++ ((wX9x2 cs ad (Z 32) IS) ++ ((wX8x2 cs ad (Z 33) IN) ++ (([((Z 5 0 0), .inl (cs 3, 2, .inl IK))]) ++ ((wX2 cs ad (Z 6 0) (Z 26 0 0) Hy) ++ (([((Z 26 0 0), .inl (cs 5, 8, .inr (.inr (.inr (.inr (fun j => some ((Z 40) j 0)))))))]) ++ ((wX9x8 cs ad (Z 40) HS) ++ ((wX3 cs ad (Z 7 0) RO) ++ ((wX8 cs ad (Z 8 0) RN) ++ ((wX0 cs ad (Z 9 0) RB) ++ ((wX9 cs ad (Z 10 0) TR) ++ ((wX1 cs ad (Z 11 0) D) ++ ((wX5 cs ad (Z 12 0) P) ++ ((wX6 cs ad (Z 13 0) (Z 23 0 0) (Z 25 0 0) RW) ++ (([((Z 23 0 0), .inl (cs 7, 9, .inr (.inr (.inr (.inr (fun j => some ((Z 24 0) j)))))))]) ++ ((wF1x9 cs (Z 24 0) UF) ++ (([((Z 25 0 0), .inl (cs 7, 9, .inr (.inr (.inr (.inr (fun j => some ((Z 27 0) j)))))))]) ++ ((wF1x9 cs (Z 27 0) VF) ++ (([((Z 14 0 0), .inl (cs 1, 4, .inl BT))])))))))))))))))))))))))))))) ++ [(Z 18 0 0, .inr (0, [.ref bq, .int 0, .int bb, .int (nI Ln.length)])), (bq, .inl (cs 0, bz, .inl ba))])) rfl rfl rfl (nw := 156) rfl (by decide +kernel) rfl (fun H locs hP hD hS => ?_)
  refine lv_aload_n hx hb dL_law_287 rfl (lv_at hl 2 rfl) ?_
  refine lv_aload_n hx hb dL_law_288 rfl (lv_at hl 0 rfl) ?_
  refine lv_iload hx hb dL_law_289 (lv_at hl 4 rfl) ?_
  refine lv_iconst (v := 1) hx hb dL_law_291 (by decide) ?_
  refine lv_iadd hx hb dL_law_292 ?_
  refine kt_v (show (.int (nI (6 * k) + 1) : Value) = .int (nI (6 * k + 1)) from congrArg Value.int (nI_add (6 * k) 1)) ?_
  refine va_sld hx hb hX hbl hbA hS (vp_in_nI (n := 6 * k + 1) (by omega) (by omega)) dL_law_293 ?_
  refine kt_v (show (.int (xs (nI (6 * k + 1)).toNatClampNeg) : Value) = .int (xs (6 * k + 1)) from congrArg Value.int (by rw [nI_clamp (n := 6 * k + 1) (by omega)])) ?_
  refine g_callM (va_runV (As := [.int (xs (6 * k + 1))]) (rest := [.int v]) ⟨hx, hb, hml, hown, hts⟩ (c_X12_end l dC dI (cs 0) (cs 1) (cs 2) (cs 3) raM H.size M (xs (6 * k + 1)) (v, M1) e2) (cwV 1 hts gL_law_X12_end rfl rfl rfl (by decide +kernel) ⟨Nat.le_of_ble_eq_true rfl, Nat.le_of_ble_eq_true rfl⟩) ⟨fun a U g mk q => ⟨q.1, mPw_bl q.2⟩, va_recv hK (va_Pl (va_Pr hP)) (ci := 12) (q0 := 0) rfl rfl, fun U hU hW => ⟨rfl, by rw [hU], by rw [hU]; exact va_Pl (va_Pr hP), va_K.moved hW.alike hKM, (va_Dl (va_Dr hD)).weaken (fun _ _ _ _ => trivial)⟩⟩ rfl rfl hl.1 rfl (lv_room (Nat.le_of_ble_eq_true rfl)) dL_law_294 ⟨(show 400 + 14 * k + 0 ≤ 601024 by omega), (show 20000 + 3000 * k + 0 ≤ 7293034 by omega)⟩) hP hD hS hA (fun H locs hP hD hS => ?_)
  refine lv_icmp_eq (tgt := 1203) hx hb dL_law_297 (by decide) (fun _ => ?_) (fun h => absurd rfl h)
  exact law_next F hk kk hG1 (by omega) hI hP hD hS hl (by omega) (by omega)

theorem dL_law_302 : decode cL_law 302 = .ok (.aload_n 1, 1) := by decide +kernel
set_option maxRecDepth 20000 in
theorem ggL_law_X11_office : GoodIn wsL_law wsX11_office := goodIn_r _ [235, 18, 14, 33, 236, 22, 29, 237, 238, 239, 2, 240, 209, 241, 17, 242, 243, 67, 244, 245, 246, 247, 248, 249, 250, 251, 252, 253, 254, 255, 256, 68, 69, 257, 258, 259, 260, 261, 262, 263, 264, 265, 266, 267, 268, 269, 270, 271, 272, 273, 274, 275, 276, 277, 278, 279, 280, 281, 282, 283, 284, 285, 286, 287, 288, 289, 290, 291, 292, 293, 294, 295, 296, 297, 298, 299, 300, 301, 302, 303, 304, 305, 306, 148, 307, 308, 309, 310, 311, 312, 313, 314, 315, 316, 317, 318, 319, 320, 321, 32, 322, 323, 324, 325, 326, 327, 328, 329, 330, 331, 332, 333, 334, 335, 336, 337, 338, 339, 340, 341, 342, 343, 344, 345, 82, 83, 84, 346, 347, 348, 349, 350, 351, 352, 85, 353, 354, 355, 356, 357, 358, 359, 360, 361, 362, 363, 364, 365, 366, 86, 87, 88, 367, 368, 369, 370, 371, 372, 373, 374, 375, 376, 377, 378, 379, 380, 381, 382, 383, 384, 385, 386, 387, 388, 389, 390, 391, 392, 393, 394, 395, 396, 397, 398, 399, 400, 401, 402, 403, 404, 405, 406, 407, 21, 408, 409, 74, 76, 78, 410, 411, 412, 413, 414, 415, 416, 417, 44, 418, 419, 420, 96, 97, 421, 422, 92, 93, 94, 95, 423, 36, 424, 425, 426, 427, 428, 28, 429, 430, 431, 1517, 1518, 1519, 1520, 1521, 1522, 1523, 1524, 1525, 1526, 1527, 1528, 1529, 1530, 1531, 1532, 1533, 1534, 1535, 1585, 1586, 1587, 1588, 1589, 1590, 1591, 1592, 1593, 1594, 1595, 1602, 1603, 1604, 1605, 1606, 1607, 1608, 1609, 1610, 1611, 1612, 1596, 1597, 1598, 1625, 1626, 1627, 1628, 1629, 1630, 1631, 1632, 1633, 1613, 1614, 1615, 1616, 1617, 1618, 1599, 1600, 1601] (by decide +kernel) (by decide +kernel)
set_option maxRecDepth 20000 in
theorem gL_law_X11_office : GoodIn wsL_law (wsV RL 32 RX11 yX11_office wsX11_office) := goodIn_app (goodIn_of _ (by decide +kernel)) ggL_law_X11_office
theorem dL_law_303 : decode cL_law 303 = .ok (.invokevirtual 32, 3) := by decide +kernel
theorem dL_law_306 : decode cL_law 306 = .ok (.aload_n 2, 1) := by decide +kernel
set_option maxRecDepth 20000 in
theorem ggL_law_X12_office : GoodIn wsL_law wsX12_office := goodIn_r _ [435, 218, 436, 437, 438, 439, 159, 160, 162, 440, 441, 442, 443, 5, 444, 219, 445, 446, 447, 201, 202, 203, 204, 448, 449, 450, 451, 452, 453, 454, 455, 456, 457, 458, 459, 158, 460, 461, 462, 463, 464, 465, 466, 467, 468, 469, 180, 181, 182, 183, 470, 471, 472, 473, 474, 475, 476, 477, 478, 479, 480, 481, 482, 483, 484, 485, 486, 487, 488, 489, 163, 490, 491, 492, 493, 494, 495, 496, 497, 498, 499, 500, 501, 502, 503, 504, 505, 506, 507, 508, 509, 510, 511, 512, 513, 514, 515, 516, 517, 518, 519, 520, 521, 522, 523, 524, 525, 526, 527, 528, 529, 530, 531, 532, 533, 534, 535, 536, 1536, 1537, 1538, 1539, 1540, 1541, 1542, 1543, 1544, 1545, 1546, 1547, 1548, 1549, 1550, 1551, 1552, 1553, 1554, 1555, 1556, 1557, 1558, 1559, 1560, 1561, 1562, 1563, 1564, 1565, 1566, 1567, 1568, 1569, 1570, 1571, 1572, 1573, 1574, 1575, 1576, 1577, 1578, 1579, 1580, 1581, 1582, 1583, 1584] (by decide +kernel) (by decide +kernel)
set_option maxRecDepth 20000 in
theorem gL_law_X12_office : GoodIn wsL_law (wsV RL 36 RX12 yX12_office wsX12_office) := goodIn_app (goodIn_of _ (by decide +kernel)) ggL_law_X12_office
theorem dL_law_307 : decode cL_law 307 = .ok (.invokevirtual 36, 3) := by decide +kernel
theorem dL_law_310 : decode cL_law 310 = .ok (.if_icmp .eq 893, 3) := by decide +kernel
set_option maxHeartbeats 8000000 in
set_option maxRecDepth 100000 in
theorem law_c2 {p : Program} {l : Launch} {e : Env} {s : State} {m : MethodId} {below : List Frame} {meth : Method} {c : Code} {b L : Nat} {xs : Nat → Int32} {dC : Nat → ClassId} {dI : Nat → Nat → Nat} {cs : Nat → ClassId} {ad : Nat → Nat} {k : Nat} {Z : Nat → Nat → Nat → Nat} {raM : Nat → Nat} {xR bq bz q3 nm np n B : Nat} {bb : Int32} {ba : Nat → Int32} {Ln : List Nat} {T : Nat → Int32} {K O S N Hy : kD} {HS : Nat → kD} {BT : Nat → Int32} {P RW : kD} {IO IS IN : Nat → kD} {IK : Nat → Int32} {M Rd RO RN RB TR D : kD} {UF VF : Nat → Nat → Int32} {out : Nat → Int64} {H : Heap} {locs : List Loc} {ls : Array Slot} (F : LwF p l e s m below meth c b L xs dC dI cs ad) (hk : 6 * k + 6 ≤ L) (kk : LwH p l e s m below meth c b L xs dC dI cs ad (k + 1)) (hG : GR nm np n B Ln T K O S N Hy HS BT P RW IO IS IN IK M) (hB : B ≤ 1000000 + 96000 * k) (hI : sI Ln bz ba) (hP : va_P (dC, dI) vwCl (wL cs ad Z xR bq bz (nI Ln.length) bb ba K T Rd zD O S N IO IS IN IK Hy HS RO RN RB TR D P RW UF VF BT ++ (mw (cs 0) (cs 1) (cs 2) (cs 3) raM M ++ [(q3, .inl (cs 2, 1, .inr (.inl out)))])) H) (hD : va_D (fun q : Nat => s.heap.size ≤ q) (wL cs ad Z xR bq bz (nI Ln.length) bb ba K T Rd zD O S N IO IS IN IK Hy HS RO RN RB TR D P RW UF VF BT ++ (mw (cs 0) (cs 1) (cs 2) (cs 3) raM M ++ [(q3, .inl (cs 2, 1, .inr (.inl out)))]))) (hS : va_S (fun q : Nat => s.heap.size ≤ q) s.heap H locs) (hl : lv_has ls 7 [(0, .ref b), (1, .ref (Z 0 0 0)), (2, .ref (raM 0)), (3, .ref q3), (4, .int (nI (6 * k)))]) : W p l e room_1 s m #[Value.ref b] below meth c H locs (400 + 14 * k) (20000 + 3000 * k) (lw_Z below #[Value.ref b] s) (F0 m 302 ls []) := by
  obtain ⟨C0, hL, hK, hN, hE, hLn, hTh, hst⟩ := id F
  obtain ⟨hx, hb, hr, hml, hown, hts0, hX, hbl, hlocks, hgv⟩ := C0
  have hts : ∀ w ∈ wsL_law, w.before #[Value.ref b] s = true := wsL_law_hts hts0
  have hA : ∀ q : Nat, s.heap.size ≤ q → (fun q : Nat => s.heap.size ≤ q) q := fun _ h => h
  have hbA : ¬ (fun q : Nat => s.heap.size ≤ q) b := Nat.not_le.mpr hbl
  have hKM := hK.sub (tys' := mt (cs 0) (cs 1) (cs 2) (cs 3)) [0, 1, 2, 3] rfl
  obtain ⟨v, nm1, np1, K1, R1, O1, S1, N1, Hy1, RO2, M1, e1, e2, hG1⟩ := g_office (R := Rd) (RO' := RO) hG
  refine lv_aload_n hx hb dL_law_302 rfl (lv_at hl 1 rfl) ?_
  have hEc := cE_sub (A1 := va_A (ww_X11_office cs ad (Z 0 0) (Z 1 0 0) (Z 2 0) (Z 3 0) (Z 20 0) (Z 21 0) (Z 22 0) (Z 6 0) (Z 26 0 0) (Z 40) (Z 7 0) (Z 4 0 0) (Z 5 0 0) (Z 8 0 0) (Z 9 0 0) (Z 10 0 0) (Z 11 0 0) (Z 12 0 0) (Z 13 0 0) (Z 14 0 0) (Z 18 0 0) xR zD (fun _ => 0) zD zD zD zD zD zD (fun _ => zD) zD) _) hE hS (cA_free (isC := [0, 1, 2, 3, 4, 5, 6, 7, 8, 9, 10, 11, 12, 13, 14, 15, 16, 17, 18, 19, 20, 21, 62, 63, 64, 65, 66, 67, 68, 69, 70, 71, 72, 73, 74, 75, 76, 77, 78, 79, 80, 81, 82, 83, 84, 85, 86, 87, 88, 89, 90, 91, 92, 93, 94, 95, 96, 97, 98, 99, 100, 101, 102, 103, 104, 105, 106, 107, 108, 109, 110, 111]) (wc := (ww_X11_office cs ad (Z 0 0) (Z 1 0 0) (Z 2 0) (Z 3 0) (Z 20 0) (Z 21 0) (Z 22 0) (Z 6 0) (Z 26 0 0) (Z 40) (Z 7 0) (Z 4 0 0) (Z 5 0 0) (Z 8 0 0) (Z 9 0 0) (Z 10 0 0) (Z 11 0 0) (Z 12 0 0) (Z 13 0 0) (Z 14 0 0) (Z 18 0 0) xR K T Rd zD O S N Hy HS RO)) (wz := (ww_X11_office cs ad (Z 0 0) (Z 1 0 0) (Z 2 0) (Z 3 0) (Z 20 0) (Z 21 0) (Z 22 0) (Z 6 0) (Z 26 0 0) (Z 40) (Z 7 0) (Z 4 0 0) (Z 5 0 0) (Z 8 0 0) (Z 9 0 0) (Z 10 0 0) (Z 11 0 0) (Z 12 0 0) (Z 13 0 0) (Z 14 0 0) (Z 18 0 0) xR zD (fun _ => 0) zD zD zD zD zD zD (fun _ => zD) zD)) rfl rfl (va_Dl hD) hS hA)
  refine g_callwZ (isC := [0, 1, 2, 3, 4, 5, 6, 7, 8, 9, 10, 11, 12, 13, 14, 15, 16, 17, 18, 19, 20, 21, 62, 63, 64, 65, 66, 67, 68, 69, 70, 71, 72, 73, 74, 75, 76, 77, 78, 79, 80, 81, 82, 83, 84, 85, 86, 87, 88, 89, 90, 91, 92, 93, 94, 95, 96, 97, 98, 99, 100, 101, 102, 103, 104, 105, 106, 107, 108, 109, 110, 111]) (isR := [22, 23, 24, 25, 26, 27, 28, 29, 30, 31, 32, 33, 34, 35, 36, 37, 38, 39, 40, 41, 42, 43, 44, 45, 46, 47, 48, 49, 50, 51, 52, 53, 54, 55, 56, 57, 58, 59, 60, 61, 112, 113, 114, 115, 116, 117, 118, 119, 120, 121, 122, 123, 124, 125, 126, 127, 128, 129, 130, 131, 132, 133, 134, 135, 136, 137, 138, 139, 140, 141, 142, 143, 144, 145, 146, 147, 148, 149, 150, 151, 152, 153, 154, 155]) (wc := (ww_X11_office cs ad (Z 0 0) (Z 1 0 0) (Z 2 0) (Z 3 0) (Z 20 0) (Z 21 0) (Z 22 0) (Z 6 0) (Z 26 0 0) (Z 40) (Z 7 0) (Z 4 0 0) (Z 5 0 0) (Z 8 0 0) (Z 9 0 0) (Z 10 0 0) (Z 11 0 0) (Z 12 0 0) (Z 13 0 0) (Z 14 0 0) (Z 18 0 0) xR K T Rd zD O S N Hy HS RO)) (wz := (ww_X11_office cs ad (Z 0 0) (Z 1 0 0) (Z 2 0) (Z 3 0) (Z 20 0) (Z 21 0) (Z 22 0) (Z 6 0) (Z 26 0 0) (Z 40) (Z 7 0) (Z 4 0 0) (Z 5 0 0) (Z 8 0 0) (Z 9 0 0) (Z 10 0 0) (Z 11 0 0) (Z 12 0 0) (Z 13 0 0) (Z 14 0 0) (Z 18 0 0) xR zD (fun _ => 0) zD zD zD zD zD zD (fun _ => zD) zD)) (w1 := (ww_X11_office cs ad (Z 0 0) (Z 1 0 0) (Z 2 0) (Z 3 0) (Z 20 0) (Z 21 0) (Z 22 0) (Z 6 0) (Z 26 0 0) (Z 40) (Z 7 0) (Z 4 0 0) (Z 5 0 0) (Z 8 0 0) (Z 9 0 0) (Z 10 0 0) (Z 11 0 0) (Z 12 0 0) (Z 13 0 0) (Z 14 0 0) (Z 18 0 0) xR K1 T R1 zD O1 S1 N1 Hy1 HS RO2)) (ws' := wL cs ad Z xR bq bz (nI Ln.length) bb ba K1 T R1 zD O1 S1 N1 IO IS IN IK Hy1 HS RO2 RN RB TR D P RW UF VF BT) (v := v) (va_runV (As := []) (rest := []) ⟨hx, hb, hml, hown, hts⟩ (c_X11_office l dC dI cs ad (Z 0 0) (Z 1 0 0) (Z 2 0) (Z 3 0) (Z 20 0) (Z 21 0) (Z 22 0) (Z 6 0) (Z 26 0 0) (Z 40) (Z 7 0) (Z 4 0 0) (Z 5 0 0) (Z 8 0 0) (Z 9 0 0) (Z 10 0 0) (Z 11 0 0) (Z 12 0 0) (Z 13 0 0) (Z 14 0 0) (Z 18 0 0) xR _ K T Rd zD O S N Hy HS RO (v, K1, R1, O1, S1, N1, Hy1, RO2) e1) (cwV 0 hts gL_law_X11_office rfl rfl rfl (by decide +kernel) ⟨Nat.le_of_ble_eq_true rfl, Nat.le_of_ble_eq_true rfl⟩) ⟨fun a U g mk q => ⟨q.1, (fun _ _ _ _ => cPe_bl (fun h => cPw_bl h)) a U g mk q.2⟩, va_recv hK (va_Pl hP) (ci := 11) (q0 := 0) rfl rfl, fun U hU hW => ⟨rfl, ⟨hEc U hU hW, ⟨by rw [hU], by rw [hU]; exact ((va_Pl hP).sub (ws' := (ww_X11_office cs ad (Z 0 0) (Z 1 0 0) (Z 2 0) (Z 3 0) (Z 20 0) (Z 21 0) (Z 22 0) (Z 6 0) (Z 26 0 0) (Z 40) (Z 7 0) (Z 4 0 0) (Z 5 0 0) (Z 8 0 0) (Z 9 0 0) (Z 10 0 0) (Z 11 0 0) (Z 12 0 0) (Z 13 0 0) (Z 14 0 0) (Z 18 0 0) xR K T Rd zD O S N Hy HS RO)) [0, 1, 2, 3, 4, 5, 6, 7, 8, 9, 10, 11, 12, 13, 14, 15, 16, 17, 18, 19, 20, 21, 62, 63, 64, 65, 66, 67, 68, 69, 70, 71, 72, 73, 74, 75, 76, 77, 78, 79, 80, 81, 82, 83, 84, 85, 86, 87, 88, 89, 90, 91, 92, 93, 94, 95, 96, 97, 98, 99, 100, 101, 102, 103, 104, 105, 106, 107, 108, 109, 110, 111] rfl), va_K.moved hW.alike hK, ((va_Dl hD).sub (ws' := (ww_X11_office cs ad (Z 0 0) (Z 1 0 0) (Z 2 0) (Z 3 0) (Z 20 0) (Z 21 0) (Z 22 0) (Z 6 0) (Z 26 0 0) (Z 40) (Z 7 0) (Z 4 0 0) (Z 5 0 0) (Z 8 0 0) (Z 9 0 0) (Z 10 0 0) (Z 11 0 0) (Z 12 0 0) (Z 13 0 0) (Z 14 0 0) (Z 18 0 0) xR K T Rd zD O S N Hy HS RO)) [0, 1, 2, 3, 4, 5, 6, 7, 8, 9, 10, 11, 12, 13, 14, 15, 16, 17, 18, 19, 20, 21, 62, 63, 64, 65, 66, 67, 68, 69, 70, 71, 72, 73, 74, 75, 76, 77, 78, 79, 80, 81, 82, 83, 84, 85, 86, 87, 88, 89, 90, 91, 92, 93, 94, 95, 96, 97, 98, 99, 100, 101, 102, 103, 104, 105, 106, 107, 108, 109, 110, 111] (by decide) rfl).weaken (fun _ _ _ _ => trivial), kN_warm hW hN⟩⟩⟩⟩ rfl rfl hl.1 rfl (lv_room (Nat.le_of_ble_eq_true rfl)) dL_law_303 ⟨(show 400 + 14 * k + 0 ≤ 601024 by omega), (show 20000 + 3000 * k + 0 ≤ 7293034 by omega)⟩) hP hD hS hA rfl rfl (wr := ((([((Z 4 0 0), .inl (cs 6, 2, .inr (.inr (.inr (.inr (fun j => some ((Z 30) j 0)))))))]) ++ ((wIC cs ad (Z 30) (Z 31) (Z 32) (Z 33)) ++ ((wX3x2 cs ad (Z 31) IO) ++ ((wX9x2 cs ad (Z 32) IS) ++ ((wX8x2 cs ad (Z 33) IN) ++ (([((Z 5 0 0), .inl (cs 3, 2, .inl IK))]) ++ ((wX8 cs ad (Z 8 0) RN) ++ ((wX0 cs ad (Z 9 0) RB) ++ ((wX9 cs ad (Z 10 0) TR) ++ ((wX1 cs ad (Z 11 0) D) ++ ((wX5 cs ad (Z 12 0) P) ++ ((wX6 cs ad (Z 13 0) (Z 23 0 0) (Z 25 0 0) RW) ++ (([((Z 23 0 0), .inl (cs 7, 9, .inr (.inr (.inr (.inr (fun j => some ((Z 24 0) j)))))))]) ++ ((wF1x9 cs (Z 24 0) UF) ++ (([((Z 25 0 0), .inl (cs 7, 9, .inr (.inr (.inr (.inr (fun j => some ((Z 27 0) j)))))))]) ++ ((wF1x9 cs (Z 27 0) VF) ++ (([((Z 14 0 0), .inl (cs 1, 4, .inl BT))])))))))))))))))))) ++ [(Z 18 0 0, .inr (0, [.ref bq, .int 0, .int bb, .int (nI Ln.length)])), (bq, .inl (cs 0, bz, .inl ba))])) rfl rfl rfl (nw := 156) rfl (by decide +kernel) rfl (fun H locs hP hD hS => ?_)
  refine lv_aload_n hx hb dL_law_306 rfl (lv_at hl 2 rfl) ?_
  refine g_callM (va_runV (As := []) (rest := [.int v]) ⟨hx, hb, hml, hown, hts⟩ (c_X12_office l dC dI (cs 0) (cs 1) (cs 2) (cs 3) raM H.size M (v, M1) e2) (cwV 0 hts gL_law_X12_office rfl rfl rfl (by decide +kernel) ⟨Nat.le_of_ble_eq_true rfl, Nat.le_of_ble_eq_true rfl⟩) ⟨fun a U g mk q => ⟨q.1, mPw_bl q.2⟩, va_recv hK (va_Pl (va_Pr hP)) (ci := 12) (q0 := 0) rfl rfl, fun U hU hW => ⟨rfl, by rw [hU], by rw [hU]; exact va_Pl (va_Pr hP), va_K.moved hW.alike hKM, (va_Dl (va_Dr hD)).weaken (fun _ _ _ _ => trivial)⟩⟩ rfl rfl hl.1 rfl (lv_room (Nat.le_of_ble_eq_true rfl)) dL_law_307 ⟨(show 400 + 14 * k + 0 ≤ 601024 by omega), (show 20000 + 3000 * k + 0 ≤ 7293034 by omega)⟩) hP hD hS hA (fun H locs hP hD hS => ?_)
  refine lv_icmp_eq (tgt := 1203) hx hb dL_law_310 (by decide) (fun _ => ?_) (fun h => absurd rfl h)
  exact law_next F hk kk hG1 (by omega) hI hP hD hS hl (by omega) (by omega)

theorem dL_law_315 : decode cL_law 315 = .ok (.aload_n 1, 1) := by decide +kernel
set_option maxRecDepth 20000 in
theorem ggL_law_X11_fault : GoodIn wsL_law wsX11_fault := goodIn_r _ [540, 236, 1517, 1518, 1519, 1520, 1521, 1522, 1523, 1524, 1525, 1526, 1527, 1528, 1529, 1530, 1531, 1532, 1533, 1534, 1535] (by decide +kernel) (by decide +kernel)
set_option maxRecDepth 20000 in
theorem gL_law_X11_fault : GoodIn wsL_law (wsV RL 37 RX11 yX11_fault wsX11_fault) := goodIn_app (goodIn_of _ (by decide +kernel)) ggL_law_X11_fault
theorem dL_law_316 : decode cL_law 316 = .ok (.invokevirtual 37, 3) := by decide +kernel
theorem dL_law_319 : decode cL_law 319 = .ok (.aload_n 2, 1) := by decide +kernel
set_option maxRecDepth 20000 in
theorem ggL_law_X12_fault : GoodIn wsL_law wsX12_fault := goodIn_r _ [544, 218, 436, 1536, 1537, 1538, 1539, 1540, 1541, 1542, 1543, 1544, 1545, 1546, 1547, 1548, 1549, 1550, 1551, 1552, 1553, 1554, 1555, 1556, 1557, 1558, 1559, 1560, 1561, 1562, 1563, 1564, 1565, 1566, 1567, 1568, 1569, 1570, 1571, 1572, 1573, 1574, 1575, 1576, 1577, 1578, 1579, 1580, 1581, 1582, 1583, 1584] (by decide +kernel) (by decide +kernel)
set_option maxRecDepth 20000 in
theorem gL_law_X12_fault : GoodIn wsL_law (wsV RL 40 RX12 yX12_fault wsX12_fault) := goodIn_app (goodIn_of _ (by decide +kernel)) ggL_law_X12_fault
theorem dL_law_320 : decode cL_law 320 = .ok (.invokevirtual 40, 3) := by decide +kernel
theorem dL_law_323 : decode cL_law 323 = .ok (.if_icmp .eq 880, 3) := by decide +kernel
set_option maxHeartbeats 8000000 in
set_option maxRecDepth 100000 in
theorem law_c3 {p : Program} {l : Launch} {e : Env} {s : State} {m : MethodId} {below : List Frame} {meth : Method} {c : Code} {b L : Nat} {xs : Nat → Int32} {dC : Nat → ClassId} {dI : Nat → Nat → Nat} {cs : Nat → ClassId} {ad : Nat → Nat} {k : Nat} {Z : Nat → Nat → Nat → Nat} {raM : Nat → Nat} {xR bq bz q3 nm np n B : Nat} {bb : Int32} {ba : Nat → Int32} {Ln : List Nat} {T : Nat → Int32} {K O S N Hy : kD} {HS : Nat → kD} {BT : Nat → Int32} {P RW : kD} {IO IS IN : Nat → kD} {IK : Nat → Int32} {M Rd RO RN RB TR D : kD} {UF VF : Nat → Nat → Int32} {out : Nat → Int64} {H : Heap} {locs : List Loc} {ls : Array Slot} (F : LwF p l e s m below meth c b L xs dC dI cs ad) (hk : 6 * k + 6 ≤ L) (kk : LwH p l e s m below meth c b L xs dC dI cs ad (k + 1)) (hG : GR nm np n B Ln T K O S N Hy HS BT P RW IO IS IN IK M) (hB : B ≤ 1000000 + 96000 * k) (hI : sI Ln bz ba) (hP : va_P (dC, dI) vwCl (wL cs ad Z xR bq bz (nI Ln.length) bb ba K T Rd zD O S N IO IS IN IK Hy HS RO RN RB TR D P RW UF VF BT ++ (mw (cs 0) (cs 1) (cs 2) (cs 3) raM M ++ [(q3, .inl (cs 2, 1, .inr (.inl out)))])) H) (hD : va_D (fun q : Nat => s.heap.size ≤ q) (wL cs ad Z xR bq bz (nI Ln.length) bb ba K T Rd zD O S N IO IS IN IK Hy HS RO RN RB TR D P RW UF VF BT ++ (mw (cs 0) (cs 1) (cs 2) (cs 3) raM M ++ [(q3, .inl (cs 2, 1, .inr (.inl out)))]))) (hS : va_S (fun q : Nat => s.heap.size ≤ q) s.heap H locs) (hl : lv_has ls 7 [(0, .ref b), (1, .ref (Z 0 0 0)), (2, .ref (raM 0)), (3, .ref q3), (4, .int (nI (6 * k)))]) : W p l e room_1 s m #[Value.ref b] below meth c H locs (400 + 14 * k) (20000 + 3000 * k) (lw_Z below #[Value.ref b] s) (F0 m 315 ls []) := by
  obtain ⟨C0, hL, hK, hN, hE, hLn, hTh, hst⟩ := id F
  obtain ⟨hx, hb, hr, hml, hown, hts0, hX, hbl, hlocks, hgv⟩ := C0
  have hts : ∀ w ∈ wsL_law, w.before #[Value.ref b] s = true := wsL_law_hts hts0
  have hA : ∀ q : Nat, s.heap.size ≤ q → (fun q : Nat => s.heap.size ≤ q) q := fun _ h => h
  have hbA : ¬ (fun q : Nat => s.heap.size ≤ q) b := Nat.not_le.mpr hbl
  have hKM := hK.sub (tys' := mt (cs 0) (cs 1) (cs 2) (cs 3)) [0, 1, 2, 3] rfl
  obtain ⟨M1, e2, hG1⟩ := g_fault hG
  refine lv_aload_n hx hb dL_law_315 rfl (lv_at hl 1 rfl) ?_
  refine ko_call (v := some (.int (f_X11_fault K))) (va_runV (As := []) (rest := []) ⟨hx, hb, hml, hown, hts⟩ (c_X11_fault l dC dI cs ad (Z 0 0) (Z 1 0 0) (Z 2 0 0) (Z 3 0 0) (Z 4 0 0) (Z 5 0 0) (Z 6 0 0) (Z 7 0 0) (Z 8 0 0) (Z 9 0 0) (Z 10 0 0) (Z 11 0 0) (Z 12 0 0) (Z 13 0 0) (Z 14 0 0) (Z 18 0 0) K _ rfl) (cwV 0 hts gL_law_X11_fault rfl rfl rfl (by decide +kernel) ⟨Nat.le_of_ble_eq_true rfl, Nat.le_of_ble_eq_true rfl⟩) ⟨fun a U g mk q => ⟨q.1, (fun _ _ _ _ => cPr_bl) a U g mk q.2⟩, va_recv hK (va_Pl hP) (ci := 11) (q0 := 0) rfl rfl, fun U hU hW => ⟨rfl, ⟨by rw [hU]; exact ((va_Pl hP).sub (ws' := (ww_X11_fault cs ad (Z 0 0) (Z 1 0 0) (Z 2 0 0) (Z 3 0 0) (Z 4 0 0) (Z 5 0 0) (Z 6 0 0) (Z 7 0 0) (Z 8 0 0) (Z 9 0 0) (Z 10 0 0) (Z 11 0 0) (Z 12 0 0) (Z 13 0 0) (Z 14 0 0) (Z 18 0 0) K)) [0] rfl), va_K.moved hW.alike hK, kN_warm hW hN⟩⟩⟩ rfl rfl hl.1 rfl (lv_room (Nat.le_of_ble_eq_true rfl)) dL_law_316 ⟨(show 400 + 14 * k + 0 ≤ 601024 by omega), (show 20000 + 3000 * k + 0 ≤ 7293034 by omega)⟩) ?_
  refine lv_aload_n hx hb dL_law_319 rfl (lv_at hl 2 rfl) ?_
  refine g_callM (va_runV (As := []) (rest := [.int (f_X11_fault K)]) ⟨hx, hb, hml, hown, hts⟩ (c_X12_fault l dC dI (cs 0) (cs 1) (cs 2) (cs 3) raM H.size M ((f_X11_fault K), M1) e2) (cwV 0 hts gL_law_X12_fault rfl rfl rfl (by decide +kernel) ⟨Nat.le_of_ble_eq_true rfl, Nat.le_of_ble_eq_true rfl⟩) ⟨fun a U g mk q => ⟨q.1, mPw_bl q.2⟩, va_recv hK (va_Pl (va_Pr hP)) (ci := 12) (q0 := 0) rfl rfl, fun U hU hW => ⟨rfl, by rw [hU], by rw [hU]; exact va_Pl (va_Pr hP), va_K.moved hW.alike hKM, (va_Dl (va_Dr hD)).weaken (fun _ _ _ _ => trivial)⟩⟩ rfl rfl hl.1 rfl (lv_room (Nat.le_of_ble_eq_true rfl)) dL_law_320 ⟨(show 400 + 14 * k + 0 ≤ 601024 by omega), (show 20000 + 3000 * k + 0 ≤ 7293034 by omega)⟩) hP hD hS hA (fun H locs hP hD hS => ?_)
  refine lv_icmp_eq (tgt := 1203) hx hb dL_law_323 (by decide) (fun _ => ?_) (fun h => absurd rfl h)
  exact law_next F hk kk hG1 (by omega) hI hP hD hS hl (by omega) (by omega)

theorem dL_law_396 : decode cL_law 396 = .ok (.aload_n 1, 1) := by decide +kernel
theorem dL_law_397 : decode cL_law 397 = .ok (.aload_n 0, 1) := by decide +kernel
theorem dL_law_398 : decode cL_law 398 = .ok (.iload 4, 2) := by decide +kernel
theorem dL_law_400 : decode cL_law 400 = .ok (.iconst 1, 1) := by decide +kernel
theorem dL_law_401 : decode cL_law 401 = .ok (.iadd, 1) := by decide +kernel
theorem dL_law_402 : decode cL_law 402 = .ok (.iaload, 1) := by decide +kernel
theorem dL_law_403 : decode cL_law 403 = .ok (.aload_n 0, 1) := by decide +kernel
theorem dL_law_404 : decode cL_law 404 = .ok (.iload 4, 2) := by decide +kernel
theorem dL_law_406 : decode cL_law 406 = .ok (.iconst 2, 1) := by decide +kernel
theorem dL_law_407 : decode cL_law 407 = .ok (.iadd, 1) := by decide +kernel
theorem dL_law_408 : decode cL_law 408 = .ok (.iaload, 1) := by decide +kernel
set_option maxRecDepth 20000 in
theorem ggL_law_X11_phrase : GoodIn wsL_law wsX11_phrase := goodIn_r _ [616, 22, 383, 32, 384, 385, 326, 617, 618, 619, 392, 393, 394, 395, 88, 382, 386, 2, 387, 620, 621, 622, 325, 374, 375, 376, 377, 84, 378, 379, 380, 381, 1517, 1518, 1519, 1520, 1521, 1522, 1523, 1524, 1525, 1526, 1527, 1528, 1529, 1530, 1531, 1532, 1533, 1534, 1535, 1596, 1597, 1598, 1602, 1603, 1604, 1605, 1606, 1607, 1608, 1609, 1610, 1611, 1612] (by decide +kernel) (by decide +kernel)
set_option maxRecDepth 20000 in
theorem gL_law_X11_phrase : GoodIn wsL_law (wsV RL 50 RX11 yX11_phrase wsX11_phrase) := goodIn_app (goodIn_of _ (by decide +kernel)) ggL_law_X11_phrase
theorem dL_law_409 : decode cL_law 409 = .ok (.invokevirtual 50, 3) := by decide +kernel
theorem dL_law_412 : decode cL_law 412 = .ok (.aload_n 2, 1) := by decide +kernel
theorem dL_law_413 : decode cL_law 413 = .ok (.aload_n 0, 1) := by decide +kernel
theorem dL_law_414 : decode cL_law 414 = .ok (.iload 4, 2) := by decide +kernel
theorem dL_law_416 : decode cL_law 416 = .ok (.iconst 1, 1) := by decide +kernel
theorem dL_law_417 : decode cL_law 417 = .ok (.iadd, 1) := by decide +kernel
theorem dL_law_418 : decode cL_law 418 = .ok (.iaload, 1) := by decide +kernel
theorem dL_law_419 : decode cL_law 419 = .ok (.aload_n 0, 1) := by decide +kernel
theorem dL_law_420 : decode cL_law 420 = .ok (.iload 4, 2) := by decide +kernel
theorem dL_law_422 : decode cL_law 422 = .ok (.iconst 2, 1) := by decide +kernel
theorem dL_law_423 : decode cL_law 423 = .ok (.iadd, 1) := by decide +kernel
theorem dL_law_424 : decode cL_law 424 = .ok (.iaload, 1) := by decide +kernel
set_option maxRecDepth 20000 in
theorem ggL_law_X12_phrase : GoodIn wsL_law wsX12_phrase := goodIn_r _ [626, 218, 159, 627, 628, 629, 5, 630, 503, 504, 505, 601, 602, 603, 604, 522, 523, 524, 1536, 1537, 1538, 1539, 1540, 1541, 1542, 1543, 1544, 1545, 1546, 1547, 1548, 1549, 1550, 1551, 1552, 1553, 1554, 1555, 1556, 1557, 1558, 1559, 1560, 1561, 1562, 1563, 1564, 1565, 1566, 1567, 1568, 1569, 1570, 1571, 1572, 1573, 1574, 1575, 1576, 1577, 1578, 1579, 1580, 1581, 1582, 1583, 1584] (by decide +kernel) (by decide +kernel)
set_option maxRecDepth 20000 in
theorem gL_law_X12_phrase : GoodIn wsL_law (wsV RL 53 RX12 yX12_phrase wsX12_phrase) := goodIn_app (goodIn_of _ (by decide +kernel)) ggL_law_X12_phrase
theorem dL_law_425 : decode cL_law 425 = .ok (.invokevirtual 53, 3) := by decide +kernel
theorem dL_law_428 : decode cL_law 428 = .ok (.if_icmp .eq 775, 3) := by decide +kernel
set_option maxHeartbeats 8000000 in
set_option maxRecDepth 100000 in
theorem law_c5 {p : Program} {l : Launch} {e : Env} {s : State} {m : MethodId} {below : List Frame} {meth : Method} {c : Code} {b L : Nat} {xs : Nat → Int32} {dC : Nat → ClassId} {dI : Nat → Nat → Nat} {cs : Nat → ClassId} {ad : Nat → Nat} {k : Nat} {Z : Nat → Nat → Nat → Nat} {raM : Nat → Nat} {xR bq bz q3 nm np n B : Nat} {bb : Int32} {ba : Nat → Int32} {Ln : List Nat} {T : Nat → Int32} {K O S N Hy : kD} {HS : Nat → kD} {BT : Nat → Int32} {P RW : kD} {IO IS IN : Nat → kD} {IK : Nat → Int32} {M Rd RO RN RB TR D : kD} {UF VF : Nat → Nat → Int32} {out : Nat → Int64} {H : Heap} {locs : List Loc} {ls : Array Slot} (F : LwF p l e s m below meth c b L xs dC dI cs ad) (hk : 6 * k + 6 ≤ L) (kk : LwH p l e s m below meth c b L xs dC dI cs ad (k + 1)) (hG : GR nm np n B Ln T K O S N Hy HS BT P RW IO IS IN IK M) (hB : B ≤ 1000000 + 96000 * k) (hI : sI Ln bz ba) (hP : va_P (dC, dI) vwCl (wL cs ad Z xR bq bz (nI Ln.length) bb ba K T Rd zD O S N IO IS IN IK Hy HS RO RN RB TR D P RW UF VF BT ++ (mw (cs 0) (cs 1) (cs 2) (cs 3) raM M ++ [(q3, .inl (cs 2, 1, .inr (.inl out)))])) H) (hD : va_D (fun q : Nat => s.heap.size ≤ q) (wL cs ad Z xR bq bz (nI Ln.length) bb ba K T Rd zD O S N IO IS IN IK Hy HS RO RN RB TR D P RW UF VF BT ++ (mw (cs 0) (cs 1) (cs 2) (cs 3) raM M ++ [(q3, .inl (cs 2, 1, .inr (.inl out)))]))) (hS : va_S (fun q : Nat => s.heap.size ≤ q) s.heap H locs) (hl : lv_has ls 7 [(0, .ref b), (1, .ref (Z 0 0 0)), (2, .ref (raM 0)), (3, .ref q3), (4, .int (nI (6 * k)))]) : W p l e room_1 s m #[Value.ref b] below meth c H locs (400 + 14 * k) (20000 + 3000 * k) (lw_Z below #[Value.ref b] s) (F0 m 396 ls []) := by
  obtain ⟨C0, hL, hK, hN, hE, hLn, hTh, hst⟩ := id F
  obtain ⟨hx, hb, hr, hml, hown, hts0, hX, hbl, hlocks, hgv⟩ := C0
  have hts : ∀ w ∈ wsL_law, w.before #[Value.ref b] s = true := wsL_law_hts hts0
  have hA : ∀ q : Nat, s.heap.size ≤ q → (fun q : Nat => s.heap.size ≤ q) q := fun _ h => h
  have hbA : ¬ (fun q : Nat => s.heap.size ≤ q) b := Nat.not_le.mpr hbl
  have hKM := hK.sub (tys' := mt (cs 0) (cs 1) (cs 2) (cs 3)) [0, 1, 2, 3] rfl
  obtain ⟨v, M1, e1, e2, hG1⟩ := g_phrase hG (xs (6 * k + 1)) (xs (6 * k + 2))
  refine lv_aload_n hx hb dL_law_396 rfl (lv_at hl 1 rfl) ?_
  refine lv_aload_n hx hb dL_law_397 rfl (lv_at hl 0 rfl) ?_
  refine lv_iload hx hb dL_law_398 (lv_at hl 4 rfl) ?_
  refine lv_iconst (v := 1) hx hb dL_law_400 (by decide) ?_
  refine lv_iadd hx hb dL_law_401 ?_
  refine kt_v (show (.int (nI (6 * k) + 1) : Value) = .int (nI (6 * k + 1)) from congrArg Value.int (nI_add (6 * k) 1)) ?_
  refine va_sld hx hb hX hbl hbA hS (vp_in_nI (n := 6 * k + 1) (by omega) (by omega)) dL_law_402 ?_
  refine kt_v (show (.int (xs (nI (6 * k + 1)).toNatClampNeg) : Value) = .int (xs (6 * k + 1)) from congrArg Value.int (by rw [nI_clamp (n := 6 * k + 1) (by omega)])) ?_
  refine lv_aload_n hx hb dL_law_403 rfl (lv_at hl 0 rfl) ?_
  refine lv_iload hx hb dL_law_404 (lv_at hl 4 rfl) ?_
  refine lv_iconst (v := 2) hx hb dL_law_406 (by decide) ?_
  refine lv_iadd hx hb dL_law_407 ?_
  refine kt_v (show (.int (nI (6 * k) + 2) : Value) = .int (nI (6 * k + 2)) from congrArg Value.int (nI_add (6 * k) 2)) ?_
  refine va_sld hx hb hX hbl hbA hS (vp_in_nI (n := 6 * k + 2) (by omega) (by omega)) dL_law_408 ?_
  refine kt_v (show (.int (xs (nI (6 * k + 2)).toNatClampNeg) : Value) = .int (xs (6 * k + 2)) from congrArg Value.int (by rw [nI_clamp (n := 6 * k + 2) (by omega)])) ?_
  refine ko_call (v := some (.int v)) (va_runV (As := [.int (xs (6 * k + 1)), .int (xs (6 * k + 2))]) (rest := []) ⟨hx, hb, hml, hown, hts⟩ (c_X11_phrase l dC dI cs ad (Z 0 0) (Z 3 0) (Z 20 0) (Z 21 0) (Z 22 0) (Z 1 0 0) (Z 2 0 0) (Z 4 0 0) (Z 5 0 0) (Z 6 0 0) (Z 7 0 0) (Z 8 0 0) (Z 9 0 0) (Z 10 0 0) (Z 11 0 0) (Z 12 0 0) (Z 13 0 0) (Z 14 0 0) (Z 18 0 0) K zD O S N (xs (6 * k + 1)) (xs (6 * k + 2)) _ e1) (cwV 2 hts gL_law_X11_phrase rfl rfl rfl (by decide +kernel) ⟨Nat.le_of_ble_eq_true rfl, Nat.le_of_ble_eq_true rfl⟩) ⟨fun a U g mk q => ⟨q.1, (fun _ _ _ _ => cPr_bl) a U g mk q.2⟩, va_recv hK (va_Pl hP) (ci := 11) (q0 := 0) rfl rfl, fun U hU hW => ⟨rfl, ⟨by rw [hU]; exact ((va_Pl hP).sub (ws' := (ww_X11_phrase cs ad (Z 0 0) (Z 3 0) (Z 20 0) (Z 21 0) (Z 22 0) (Z 1 0 0) (Z 2 0 0) (Z 4 0 0) (Z 5 0 0) (Z 6 0 0) (Z 7 0 0) (Z 8 0 0) (Z 9 0 0) (Z 10 0 0) (Z 11 0 0) (Z 12 0 0) (Z 13 0 0) (Z 14 0 0) (Z 18 0 0) K zD O S N)) [0, 3, 4, 5, 6, 7, 8, 9, 10, 11, 12, 13, 14, 15, 16, 17, 18, 19, 20, 21] rfl), va_K.moved hW.alike hK, kN_warm hW hN⟩⟩⟩ rfl rfl hl.1 rfl (lv_room (Nat.le_of_ble_eq_true rfl)) dL_law_409 ⟨(show 400 + 14 * k + 0 ≤ 601024 by omega), (show 20000 + 3000 * k + 0 ≤ 7293034 by omega)⟩) ?_
  refine lv_aload_n hx hb dL_law_412 rfl (lv_at hl 2 rfl) ?_
  refine lv_aload_n hx hb dL_law_413 rfl (lv_at hl 0 rfl) ?_
  refine lv_iload hx hb dL_law_414 (lv_at hl 4 rfl) ?_
  refine lv_iconst (v := 1) hx hb dL_law_416 (by decide) ?_
  refine lv_iadd hx hb dL_law_417 ?_
  refine kt_v (show (.int (nI (6 * k) + 1) : Value) = .int (nI (6 * k + 1)) from congrArg Value.int (nI_add (6 * k) 1)) ?_
  refine va_sld hx hb hX hbl hbA hS (vp_in_nI (n := 6 * k + 1) (by omega) (by omega)) dL_law_418 ?_
  refine kt_v (show (.int (xs (nI (6 * k + 1)).toNatClampNeg) : Value) = .int (xs (6 * k + 1)) from congrArg Value.int (by rw [nI_clamp (n := 6 * k + 1) (by omega)])) ?_
  refine lv_aload_n hx hb dL_law_419 rfl (lv_at hl 0 rfl) ?_
  refine lv_iload hx hb dL_law_420 (lv_at hl 4 rfl) ?_
  refine lv_iconst (v := 2) hx hb dL_law_422 (by decide) ?_
  refine lv_iadd hx hb dL_law_423 ?_
  refine kt_v (show (.int (nI (6 * k) + 2) : Value) = .int (nI (6 * k + 2)) from congrArg Value.int (nI_add (6 * k) 2)) ?_
  refine va_sld hx hb hX hbl hbA hS (vp_in_nI (n := 6 * k + 2) (by omega) (by omega)) dL_law_424 ?_
  refine kt_v (show (.int (xs (nI (6 * k + 2)).toNatClampNeg) : Value) = .int (xs (6 * k + 2)) from congrArg Value.int (by rw [nI_clamp (n := 6 * k + 2) (by omega)])) ?_
  refine g_callM (va_runV (As := [.int (xs (6 * k + 1)), .int (xs (6 * k + 2))]) (rest := [.int v]) ⟨hx, hb, hml, hown, hts⟩ (c_X12_phrase l dC dI (cs 0) (cs 1) (cs 2) (cs 3) raM H.size M (xs (6 * k + 1)) (xs (6 * k + 2)) (v, M1) e2) (cwV 2 hts gL_law_X12_phrase rfl rfl rfl (by decide +kernel) ⟨Nat.le_of_ble_eq_true rfl, Nat.le_of_ble_eq_true rfl⟩) ⟨fun a U g mk q => ⟨q.1, mPw_bl q.2⟩, va_recv hK (va_Pl (va_Pr hP)) (ci := 12) (q0 := 0) rfl rfl, fun U hU hW => ⟨rfl, by rw [hU], by rw [hU]; exact va_Pl (va_Pr hP), va_K.moved hW.alike hKM, (va_Dl (va_Dr hD)).weaken (fun _ _ _ _ => trivial)⟩⟩ rfl rfl hl.1 rfl (lv_room (Nat.le_of_ble_eq_true rfl)) dL_law_425 ⟨(show 400 + 14 * k + 0 ≤ 601024 by omega), (show 20000 + 3000 * k + 0 ≤ 7293034 by omega)⟩) hP hD hS hA (fun H locs hP hD hS => ?_)
  refine lv_icmp_eq (tgt := 1203) hx hb dL_law_428 (by decide) (fun _ => ?_) (fun h => absurd rfl h)
  exact law_next F hk kk hG1 (by omega) hI hP hD hS hl (by omega) (by omega)

theorem dL_law_433 : decode cL_law 433 = .ok (.aload_n 1, 1) := by decide +kernel
theorem dL_law_434 : decode cL_law 434 = .ok (.aload_n 0, 1) := by decide +kernel
theorem dL_law_435 : decode cL_law 435 = .ok (.iload 4, 2) := by decide +kernel
theorem dL_law_437 : decode cL_law 437 = .ok (.iconst 1, 1) := by decide +kernel
theorem dL_law_438 : decode cL_law 438 = .ok (.iadd, 1) := by decide +kernel
theorem dL_law_439 : decode cL_law 439 = .ok (.iaload, 1) := by decide +kernel
theorem dL_law_440 : decode cL_law 440 = .ok (.aload_n 0, 1) := by decide +kernel
theorem dL_law_441 : decode cL_law 441 = .ok (.iload 4, 2) := by decide +kernel
theorem dL_law_443 : decode cL_law 443 = .ok (.iconst 2, 1) := by decide +kernel
theorem dL_law_444 : decode cL_law 444 = .ok (.iadd, 1) := by decide +kernel
theorem dL_law_445 : decode cL_law 445 = .ok (.iaload, 1) := by decide +kernel
set_option maxRecDepth 20000 in
theorem ggL_law_X11_owes : GoodIn wsL_law wsX11_owes := goodIn_r _ [634, 22, 379, 32, 380, 381, 325, 571, 44, 572, 573, 95, 1517, 1518, 1519, 1520, 1521, 1522, 1523, 1524, 1525, 1526, 1527, 1528, 1529, 1530, 1531, 1532, 1533, 1534, 1535, 1596, 1597, 1598, 1602, 1603, 1604, 1605, 1606, 1607, 1608, 1609, 1610, 1611, 1612, 1625, 1626, 1627, 1628, 1629, 1630, 1631, 1632, 1633] (by decide +kernel) (by decide +kernel)
set_option maxRecDepth 20000 in
theorem gL_law_X11_owes : GoodIn wsL_law (wsV RL 54 RX11 yX11_owes wsX11_owes) := goodIn_app (goodIn_of _ (by decide +kernel)) ggL_law_X11_owes
theorem dL_law_446 : decode cL_law 446 = .ok (.invokevirtual 54, 3) := by decide +kernel
theorem dL_law_449 : decode cL_law 449 = .ok (.aload_n 2, 1) := by decide +kernel
theorem dL_law_450 : decode cL_law 450 = .ok (.aload_n 0, 1) := by decide +kernel
theorem dL_law_451 : decode cL_law 451 = .ok (.iload 4, 2) := by decide +kernel
theorem dL_law_453 : decode cL_law 453 = .ok (.iconst 1, 1) := by decide +kernel
theorem dL_law_454 : decode cL_law 454 = .ok (.iadd, 1) := by decide +kernel
theorem dL_law_455 : decode cL_law 455 = .ok (.iaload, 1) := by decide +kernel
theorem dL_law_456 : decode cL_law 456 = .ok (.aload_n 0, 1) := by decide +kernel
theorem dL_law_457 : decode cL_law 457 = .ok (.iload 4, 2) := by decide +kernel
theorem dL_law_459 : decode cL_law 459 = .ok (.iconst 2, 1) := by decide +kernel
theorem dL_law_460 : decode cL_law 460 = .ok (.iadd, 1) := by decide +kernel
theorem dL_law_461 : decode cL_law 461 = .ok (.iaload, 1) := by decide +kernel
set_option maxRecDepth 20000 in
theorem ggL_law_X12_owes : GoodIn wsL_law wsX12_owes := goodIn_r _ [638, 218, 159, 581, 582, 583, 5, 584, 503, 504, 505, 1536, 1537, 1538, 1539, 1540, 1541, 1542, 1543, 1544, 1545, 1546, 1547, 1548, 1549, 1550, 1551, 1552, 1553, 1554, 1555, 1556, 1557, 1558, 1559, 1560, 1561, 1562, 1563, 1564, 1565, 1566, 1567, 1568, 1569, 1570, 1571, 1572, 1573, 1574, 1575, 1576, 1577, 1578, 1579, 1580, 1581, 1582, 1583, 1584] (by decide +kernel) (by decide +kernel)
set_option maxRecDepth 20000 in
theorem gL_law_X12_owes : GoodIn wsL_law (wsV RL 57 RX12 yX12_owes wsX12_owes) := goodIn_app (goodIn_of _ (by decide +kernel)) ggL_law_X12_owes
theorem dL_law_462 : decode cL_law 462 = .ok (.invokevirtual 57, 3) := by decide +kernel
theorem dL_law_465 : decode cL_law 465 = .ok (.if_icmp .eq 738, 3) := by decide +kernel
set_option maxHeartbeats 8000000 in
set_option maxRecDepth 100000 in
theorem law_c6 {p : Program} {l : Launch} {e : Env} {s : State} {m : MethodId} {below : List Frame} {meth : Method} {c : Code} {b L : Nat} {xs : Nat → Int32} {dC : Nat → ClassId} {dI : Nat → Nat → Nat} {cs : Nat → ClassId} {ad : Nat → Nat} {k : Nat} {Z : Nat → Nat → Nat → Nat} {raM : Nat → Nat} {xR bq bz q3 nm np n B : Nat} {bb : Int32} {ba : Nat → Int32} {Ln : List Nat} {T : Nat → Int32} {K O S N Hy : kD} {HS : Nat → kD} {BT : Nat → Int32} {P RW : kD} {IO IS IN : Nat → kD} {IK : Nat → Int32} {M Rd RO RN RB TR D : kD} {UF VF : Nat → Nat → Int32} {out : Nat → Int64} {H : Heap} {locs : List Loc} {ls : Array Slot} (F : LwF p l e s m below meth c b L xs dC dI cs ad) (hk : 6 * k + 6 ≤ L) (kk : LwH p l e s m below meth c b L xs dC dI cs ad (k + 1)) (hG : GR nm np n B Ln T K O S N Hy HS BT P RW IO IS IN IK M) (hB : B ≤ 1000000 + 96000 * k) (hI : sI Ln bz ba) (hP : va_P (dC, dI) vwCl (wL cs ad Z xR bq bz (nI Ln.length) bb ba K T Rd zD O S N IO IS IN IK Hy HS RO RN RB TR D P RW UF VF BT ++ (mw (cs 0) (cs 1) (cs 2) (cs 3) raM M ++ [(q3, .inl (cs 2, 1, .inr (.inl out)))])) H) (hD : va_D (fun q : Nat => s.heap.size ≤ q) (wL cs ad Z xR bq bz (nI Ln.length) bb ba K T Rd zD O S N IO IS IN IK Hy HS RO RN RB TR D P RW UF VF BT ++ (mw (cs 0) (cs 1) (cs 2) (cs 3) raM M ++ [(q3, .inl (cs 2, 1, .inr (.inl out)))]))) (hS : va_S (fun q : Nat => s.heap.size ≤ q) s.heap H locs) (hl : lv_has ls 7 [(0, .ref b), (1, .ref (Z 0 0 0)), (2, .ref (raM 0)), (3, .ref q3), (4, .int (nI (6 * k)))]) : W p l e room_1 s m #[Value.ref b] below meth c H locs (400 + 14 * k) (20000 + 3000 * k) (lw_Z below #[Value.ref b] s) (F0 m 433 ls []) := by
  obtain ⟨C0, hL, hK, hN, hE, hLn, hTh, hst⟩ := id F
  obtain ⟨hx, hb, hr, hml, hown, hts0, hX, hbl, hlocks, hgv⟩ := C0
  have hts : ∀ w ∈ wsL_law, w.before #[Value.ref b] s = true := wsL_law_hts hts0
  have hA : ∀ q : Nat, s.heap.size ≤ q → (fun q : Nat => s.heap.size ≤ q) q := fun _ h => h
  have hbA : ¬ (fun q : Nat => s.heap.size ≤ q) b := Nat.not_le.mpr hbl
  have hKM := hK.sub (tys' := mt (cs 0) (cs 1) (cs 2) (cs 3)) [0, 1, 2, 3] rfl
  obtain ⟨v, M1, e1, e2, hG1⟩ := g_owes hG (xs (6 * k + 1)) (xs (6 * k + 2))
  refine lv_aload_n hx hb dL_law_433 rfl (lv_at hl 1 rfl) ?_
  refine lv_aload_n hx hb dL_law_434 rfl (lv_at hl 0 rfl) ?_
  refine lv_iload hx hb dL_law_435 (lv_at hl 4 rfl) ?_
  refine lv_iconst (v := 1) hx hb dL_law_437 (by decide) ?_
  refine lv_iadd hx hb dL_law_438 ?_
  refine kt_v (show (.int (nI (6 * k) + 1) : Value) = .int (nI (6 * k + 1)) from congrArg Value.int (nI_add (6 * k) 1)) ?_
  refine va_sld hx hb hX hbl hbA hS (vp_in_nI (n := 6 * k + 1) (by omega) (by omega)) dL_law_439 ?_
  refine kt_v (show (.int (xs (nI (6 * k + 1)).toNatClampNeg) : Value) = .int (xs (6 * k + 1)) from congrArg Value.int (by rw [nI_clamp (n := 6 * k + 1) (by omega)])) ?_
  refine lv_aload_n hx hb dL_law_440 rfl (lv_at hl 0 rfl) ?_
  refine lv_iload hx hb dL_law_441 (lv_at hl 4 rfl) ?_
  refine lv_iconst (v := 2) hx hb dL_law_443 (by decide) ?_
  refine lv_iadd hx hb dL_law_444 ?_
  refine kt_v (show (.int (nI (6 * k) + 2) : Value) = .int (nI (6 * k + 2)) from congrArg Value.int (nI_add (6 * k) 2)) ?_
  refine va_sld hx hb hX hbl hbA hS (vp_in_nI (n := 6 * k + 2) (by omega) (by omega)) dL_law_445 ?_
  refine kt_v (show (.int (xs (nI (6 * k + 2)).toNatClampNeg) : Value) = .int (xs (6 * k + 2)) from congrArg Value.int (by rw [nI_clamp (n := 6 * k + 2) (by omega)])) ?_
  refine ko_call (v := some (.int v)) (va_runV (As := [.int (xs (6 * k + 1)), .int (xs (6 * k + 2))]) (rest := []) ⟨hx, hb, hml, hown, hts⟩ (c_X11_owes l dC dI cs ad (Z 0 0) (Z 3 0) (Z 20 0) (Z 21 0) (Z 22 0) (Z 1 0 0) (Z 2 0 0) (Z 4 0 0) (Z 5 0 0) (Z 6 0 0) (Z 7 0 0) (Z 8 0 0) (Z 9 0 0) (Z 10 0 0) (Z 11 0 0) (Z 12 0 0) (Z 13 0 0) (Z 14 0 0) (Z 18 0 0) K zD O S N (xs (6 * k + 1)) (xs (6 * k + 2)) _ e1) (cwV 2 hts gL_law_X11_owes rfl rfl rfl (by decide +kernel) ⟨Nat.le_of_ble_eq_true rfl, Nat.le_of_ble_eq_true rfl⟩) ⟨fun a U g mk q => ⟨q.1, (fun _ _ _ _ => cPr_bl) a U g mk q.2⟩, va_recv hK (va_Pl hP) (ci := 11) (q0 := 0) rfl rfl, fun U hU hW => ⟨rfl, ⟨by rw [hU]; exact ((va_Pl hP).sub (ws' := (ww_X11_owes cs ad (Z 0 0) (Z 3 0) (Z 20 0) (Z 21 0) (Z 22 0) (Z 1 0 0) (Z 2 0 0) (Z 4 0 0) (Z 5 0 0) (Z 6 0 0) (Z 7 0 0) (Z 8 0 0) (Z 9 0 0) (Z 10 0 0) (Z 11 0 0) (Z 12 0 0) (Z 13 0 0) (Z 14 0 0) (Z 18 0 0) K zD O S N)) [0, 3, 4, 5, 6, 7, 8, 9, 10, 11, 12, 13, 14, 15, 16, 17, 18, 19, 20, 21] rfl), va_K.moved hW.alike hK, kN_warm hW hN⟩⟩⟩ rfl rfl hl.1 rfl (lv_room (Nat.le_of_ble_eq_true rfl)) dL_law_446 ⟨(show 400 + 14 * k + 0 ≤ 601024 by omega), (show 20000 + 3000 * k + 0 ≤ 7293034 by omega)⟩) ?_
  refine lv_aload_n hx hb dL_law_449 rfl (lv_at hl 2 rfl) ?_
  refine lv_aload_n hx hb dL_law_450 rfl (lv_at hl 0 rfl) ?_
  refine lv_iload hx hb dL_law_451 (lv_at hl 4 rfl) ?_
  refine lv_iconst (v := 1) hx hb dL_law_453 (by decide) ?_
  refine lv_iadd hx hb dL_law_454 ?_
  refine kt_v (show (.int (nI (6 * k) + 1) : Value) = .int (nI (6 * k + 1)) from congrArg Value.int (nI_add (6 * k) 1)) ?_
  refine va_sld hx hb hX hbl hbA hS (vp_in_nI (n := 6 * k + 1) (by omega) (by omega)) dL_law_455 ?_
  refine kt_v (show (.int (xs (nI (6 * k + 1)).toNatClampNeg) : Value) = .int (xs (6 * k + 1)) from congrArg Value.int (by rw [nI_clamp (n := 6 * k + 1) (by omega)])) ?_
  refine lv_aload_n hx hb dL_law_456 rfl (lv_at hl 0 rfl) ?_
  refine lv_iload hx hb dL_law_457 (lv_at hl 4 rfl) ?_
  refine lv_iconst (v := 2) hx hb dL_law_459 (by decide) ?_
  refine lv_iadd hx hb dL_law_460 ?_
  refine kt_v (show (.int (nI (6 * k) + 2) : Value) = .int (nI (6 * k + 2)) from congrArg Value.int (nI_add (6 * k) 2)) ?_
  refine va_sld hx hb hX hbl hbA hS (vp_in_nI (n := 6 * k + 2) (by omega) (by omega)) dL_law_461 ?_
  refine kt_v (show (.int (xs (nI (6 * k + 2)).toNatClampNeg) : Value) = .int (xs (6 * k + 2)) from congrArg Value.int (by rw [nI_clamp (n := 6 * k + 2) (by omega)])) ?_
  refine g_callM (va_runV (As := [.int (xs (6 * k + 1)), .int (xs (6 * k + 2))]) (rest := [.int v]) ⟨hx, hb, hml, hown, hts⟩ (c_X12_owes l dC dI (cs 0) (cs 1) (cs 2) (cs 3) raM H.size M (xs (6 * k + 1)) (xs (6 * k + 2)) (v, M1) e2) (cwV 2 hts gL_law_X12_owes rfl rfl rfl (by decide +kernel) ⟨Nat.le_of_ble_eq_true rfl, Nat.le_of_ble_eq_true rfl⟩) ⟨fun a U g mk q => ⟨q.1, mPw_bl q.2⟩, va_recv hK (va_Pl (va_Pr hP)) (ci := 12) (q0 := 0) rfl rfl, fun U hU hW => ⟨rfl, by rw [hU], by rw [hU]; exact va_Pl (va_Pr hP), va_K.moved hW.alike hKM, (va_Dl (va_Dr hD)).weaken (fun _ _ _ _ => trivial)⟩⟩ rfl rfl hl.1 rfl (lv_room (Nat.le_of_ble_eq_true rfl)) dL_law_462 ⟨(show 400 + 14 * k + 0 ≤ 601024 by omega), (show 20000 + 3000 * k + 0 ≤ 7293034 by omega)⟩) hP hD hS hA (fun H locs hP hD hS => ?_)
  refine lv_icmp_eq (tgt := 1203) hx hb dL_law_465 (by decide) (fun _ => ?_) (fun h => absurd rfl h)
  exact law_next F hk kk hG1 (by omega) hI hP hD hS hl (by omega) (by omega)

