set_option maxRecDepth 20000 in
theorem ggL_law_X11_init : GoodIn wsL_law wsX11_init := goodIn_r _ [9, 10, 11, 12, 13, 14, 15, 16, 17, 18, 19, 20, 21, 22, 23, 24, 25, 26, 27, 28, 29, 30, 31, 32, 33, 34, 35, 36, 37, 38, 39, 40, 41, 42, 43, 44, 45, 46, 47, 48, 49, 50, 51, 52, 53, 54, 55, 56, 57, 58, 59, 60, 61, 62, 63, 64, 65, 66, 67, 68, 69, 70, 71, 72, 73, 74, 75, 76, 77, 78, 79, 80, 81, 6, 82, 83, 84, 85, 86, 87, 88, 89, 90, 91, 92, 93, 94, 95, 96, 97, 98, 99, 100, 101, 102, 103, 104, 105, 106, 107, 108, 109, 110, 111, 112, 113, 114, 115, 116, 117, 118, 119, 120, 121, 122, 123, 124, 125, 126, 127, 128, 129, 130, 131, 132, 133, 134, 135, 136, 137, 138, 139, 140, 141, 142, 143, 144, 145, 146, 147, 148, 149, 150, 151, 152, 153, 1517, 1518, 1519, 1520, 1521, 1522, 1523, 1524, 1525, 1526, 1527, 1528, 1529, 1530, 1531, 1532, 1533, 1534, 1535, 1585, 1586, 1587, 1588, 1589, 1590, 1591, 1592, 1593, 1594, 1595, 1596, 1597, 1598, 1599, 1600, 1601, 1602, 1603, 1604, 1605, 1606, 1607, 1608, 1609, 1610, 1611, 1612, 1613, 1614, 1615, 1616, 1617, 1618, 1619, 1620, 1621, 1622, 1623, 1624, 1625, 1626, 1627, 1628, 1629, 1630, 1631, 1632, 1633, 1634, 1635, 1636, 1637, 1638, 1639, 1640, 1641, 1642, 1643, 1644, 1645, 1646, 1647] (by decide +kernel) (by decide +kernel)
set_option maxRecDepth 20000 in
theorem gL_law_X11_init : GoodIn wsL_law (wsX11_init) := ggL_law_X11_init
set_option maxRecDepth 20000 in
theorem ggL_law_X12_init : GoodIn wsL_law wsX12_init := goodIn_r _ [156, 157, 11, 12, 143, 158, 13, 159, 160, 161, 6, 162, 163, 164, 165, 166, 167, 168, 169, 170, 171, 172, 173, 174, 175, 24, 176, 177, 178, 179, 180, 181, 182, 183, 184, 185, 186, 187, 188, 189, 190, 191, 192, 193, 194, 195, 196, 197, 198, 199, 200, 201, 202, 203, 5, 204, 1536, 1537, 1538, 1539, 1540, 1541, 1542, 1543, 1544, 1545, 1546, 1547, 1548, 1549, 1550, 1551, 1552, 1553, 1554, 1555, 1556, 1557, 1558, 1559, 1560, 1561, 1562, 1563, 1564, 1565, 1566, 1567, 1568, 1569, 1570, 1571, 1572, 1573, 1574, 1575, 1576, 1577, 1578, 1579, 1580, 1581, 1582, 1583, 1584] (by decide +kernel) (by decide +kernel)
set_option maxRecDepth 20000 in
theorem gL_law_X12_init : GoodIn wsL_law (wsX12_init) := ggL_law_X12_init
theorem dL_law_0 : decode cL_law 0 = .ok (.new 8, 3) := by decide +kernel
theorem dL_law_3 : decode cL_law 3 = .ok (.dup, 1) := by decide +kernel
theorem dL_law_4 : decode cL_law 4 = .ok (.invokespecial 18, 3) := by decide +kernel
theorem dL_law_7 : decode cL_law 7 = .ok (.astore_n 1, 1) := by decide +kernel
theorem dL_law_8 : decode cL_law 8 = .ok (.new 19, 3) := by decide +kernel
theorem dL_law_11 : decode cL_law 11 = .ok (.dup, 1) := by decide +kernel
theorem dL_law_12 : decode cL_law 12 = .ok (.invokespecial 21, 3) := by decide +kernel
theorem dL_law_15 : decode cL_law 15 = .ok (.astore_n 2, 1) := by decide +kernel
theorem dL_law_16 : decode cL_law 16 = .ok (.iconst 1, 1) := by decide +kernel
theorem dL_law_17 : decode cL_law 17 = .ok (.newarray .long, 2) := by decide +kernel
theorem dL_law_19 : decode cL_law 19 = .ok (.astore_n 3, 1) := by decide +kernel
theorem dL_law_20 : decode cL_law 20 = .ok (.iconst 0, 1) := by decide +kernel
theorem dL_law_21 : decode cL_law 21 = .ok (.istore 4, 2) := by decide +kernel
theorem c19x {i : Nat} (h : i < 19) : i = 0 ∨ i = 1 ∨ i = 2 ∨ i = 3 ∨ i = 4 ∨ i = 5 ∨ i = 6 ∨ i = 7 ∨ i = 8 ∨ i = 9 ∨ i = 10 ∨ i = 11 ∨ i = 12 ∨ i = 13 ∨ i = 14 ∨ i = 15 ∨ i = 16 ∨ i = 17 ∨ i = 18 := by omega
theorem c49x {i : Nat} (h : i < 49) : i = 0 ∨ i = 1 ∨ i = 2 ∨ i = 3 ∨ i = 4 ∨ i = 5 ∨ i = 6 ∨ i = 7 ∨ i = 8 ∨ i = 9 ∨ i = 10 ∨ i = 11 ∨ i = 12 ∨ i = 13 ∨ i = 14 ∨ i = 15 ∨ i = 16 ∨ i = 17 ∨ i = 18 ∨ i = 19 ∨ i = 20 ∨ i = 21 ∨ i = 22 ∨ i = 23 ∨ i = 24 ∨ i = 25 ∨ i = 26 ∨ i = 27 ∨ i = 28 ∨ i = 29 ∨ i = 30 ∨ i = 31 ∨ i = 32 ∨ i = 33 ∨ i = 34 ∨ i = 35 ∨ i = 36 ∨ i = 37 ∨ i = 38 ∨ i = 39 ∨ i = 40 ∨ i = 41 ∨ i = 42 ∨ i = 43 ∨ i = 44 ∨ i = 45 ∨ i = 46 ∨ i = 47 ∨ i = 48 := by omega
abbrev st_fs12 : List Value := [Value.int 0, Value.null, Value.int 0, Value.int 0, Value.int 0, Value.int 0, Value.null, Value.null, Value.null, Value.null, Value.null, Value.int 0, Value.int 0, Value.int 0, Value.int 0, Value.int 0, Value.int 0, Value.long 0, Value.int 0, Value.int 0, Value.null, Value.null, Value.int 0, Value.null, Value.null, Value.int 0, Value.null, Value.null, Value.null, Value.int 0, Value.int 0, Value.int 0, Value.int 0, Value.null, Value.int 0, Value.int 0, Value.int 0, Value.null, Value.int 0, Value.null, Value.int 0, Value.int 0, Value.int 0, Value.int 0, Value.int 0, Value.null, Value.null, Value.null, Value.null]
/-! the start: both objects made, the row for the out, then the loop -/
set_option maxHeartbeats 16000000 in
set_option maxRecDepth 100000 in
theorem law_start {p : Program} {e : Env} {s : State} {m : MethodId} {below : List Frame} {meth : Method} {c : Code} (l : Launch) (hflags : l.flags = flags0) {b L : Nat} {xs : Nat → Int32} (hL : L ≤ 3072) (C0 : lw_At p s m meth c b L xs) : W p l e room_1 s m #[Value.ref b] below meth c s.heap [] 0 0 (lw_Z below #[Value.ref b] s) (entryFrame m ([Value.ref b] : List Value).toArray 7) := by
  obtain ⟨hx, hb, hr, hml, hown, hts0, hX, hbl, hlocks, hgv⟩ := id C0
  have hts : ∀ w ∈ wsL_law, w.before #[Value.ref b] s = true := wsL_law_hts hts0
  have hs := flat_of_before _ hgv
  have hA : ∀ q : Nat, s.heap.size ≤ q → (fun q : Nat => s.heap.size ≤ q) q := fun _ h => h
  have hA0 : ∀ a : Nat, a < s.heap.size → ¬ (fun q : Nat => s.heap.size ≤ q) a := fun a h => Nat.not_le.mpr h
  obtain ⟨cs, hcs⟩ := st_cs hts0
  obtain ⟨dC, dI, hkn⟩ := st_known (args := #[Value.ref b]) hts
  have hK : va_K (dC, dI) vwCl (ct cs) s := ⟨hkn, hcs⟩
  have hKM : va_K (dC, dI) vwCl (mt (cs 0) (cs 1) (cs 2) (cs 3)) s := hK.sub (tys' := mt (cs 0) (cs 1) (cs 2) (cs 3)) [0, 1, 2, 3] rfl
  obtain ⟨ad, hE⟩ := st_kE hs hts0 hA0
  have hN := st_kN hts0
  have hAO := st_kAO hts0
  have hst : l.stackTraces = false := by
    unfold Launch.stackTraces
    rw [hflags]
    decide +kernel
  have F : LwF p l e s m below meth c b L xs dC dI cs ad := ⟨C0, hL, hK, hN, hE, st_kLn hs hts0 hA0, st_kTh hs hts0 hA0, hst⟩
  have kk : LwH p l e s m below meth c b L xs dC dI cs ad 0 := law_loop F (L / 6 + 2) 0 (by omega) (by omega)
  have hP : va_P (dC, dI) vwCl [] s.heap := fun k q h => by simp at h
  have hD : va_D (fun q : Nat => s.heap.size ≤ q) [] := ⟨fun i j x y hx => by simp at hx, fun k q h => by simp at h⟩
  have hS : va_S (fun q : Nat => s.heap.size ≤ q) s.heap s.heap [] := va_S.rf
  have hl := lv_entry ([.ref b]) (n := 7) (Nat.le_of_ble_eq_true rfl)
  rw [lg_entry_eq]
  generalize (lg_sl ([.ref b]) ++ List.replicate (7 - (lg_sl ([.ref b])).length) Slot.unset).toArray = ls at hl ⊢
  have hl : lv_has ls 7 [(0, .ref b)] := hl
  refine g_mkI (SS := (Nat → Nat → Nat → Nat) × Nat × Nat × Nat × Int32 × (Nat → Int32)) (post := fun q u => u.1 0 0 0 = q ∧ sI [] u.2.2.2.1 u.2.2.2.2.2) (w := fun u => (wL cs ad u.1 u.2.1 u.2.2.1 u.2.2.2.1 (nI 0) u.2.2.2.2.1 u.2.2.2.2.2 iX11 (fun _ => 0) iX4 zD iX3 iX9 iX8 (fun _ => iX3) (fun _ => iX9) (fun _ => iX8) (fun _ => 0) zD (fun _ => iX9) iX3 iX8 iX0 iX9 iX1 iX5 iX6 (fun _ _ => 0) (fun _ _ => 0) (fun _ => 0))) (PcS := fun q sz U => cPw dC dI cs sz [(q, .inr (11, [.null, .int 0, .null, .null, .null, .null, .null, .null, .null, .null, .null, .null, .null, .null, .null, .int 0, .int 0, .int 0, .null]))] U ∧ kAO U ∧ kE ad (va_A [(q, .inr (11, [.null, .int 0, .null, .null, .null, .null, .null, .null, .null, .null, .null, .null, .null, .null, .null, .int 0, .int 0, .int 0, .null]))] sz) U U.heap ∧ kAA .int U) (BB := fun q sz u t => cB dC dI cs (va_A [(q, .inr (11, [.null, .int 0, .null, .null, .null, .null, .null, .null, .null, .null, .null, .null, .null, .null, .null, .int 0, .int 0, .int 0, .null]))] sz) (wL cs ad u.1 u.2.1 u.2.2.1 u.2.2.2.1 (nI 0) u.2.2.2.2.1 u.2.2.2.2.2 iX11 (fun _ => 0) iX4 zD iX3 iX9 iX8 (fun _ => iX3) (fun _ => iX9) (fun _ => iX8) (fun _ => 0) zD (fun _ => iX9) iX3 iX8 iX0 iX9 iX1 iX5 iX6 (fun _ _ => 0) (fun _ _ => 0) (fun _ => 0)) t) (C := RX11) (T := TX11) (N := 19) (ci := 11) (fs := [.null, .int 0, .null, .null, .null, .null, .null, .null, .null, .null, .null, .null, .null, .null, .null, .int 0, .int 0, .int 0, .null]) (y := yX11_init) ⟨hx, hb, hml, hown, hts⟩ (show ∀ w ∈ u_ws RX11 TX11 19, w ∈ wsL_law from inlX11) tyX11 tyX11_ok (hts (.classLink RL 8 RX11) (by decide +kernel)) (hts (.instantiable RX11 19) (by decide +kernel)) (hts (.initialized RX11) (by decide +kernel)) hK hP hD hS hA rfl (fun j hj => by rcases c19x hj with rfl | rfl | rfl | rfl | rfl | rfl | rfl | rfl | rfl | rfl | rfl | rfl | rfl | rfl | rfl | rfl | rfl | rfl | rfl <;> rfl) (Nat.le_of_ble_eq_true rfl) (Nat.le_of_ble_eq_true rfl) dL_law_0 dL_law_3 dL_law_4 (fun q sz => c_X11_init l dC dI cs ad q sz) (fun q sz u t h => ⟨h.1, h.2.2⟩) (fun q sz a U g mk h => ⟨cPw_bl h.1, kAO.moved (u := U) (U := U.calling g mk a) (Vm.Alike.refl U.vm) h.2.1, kE.moved (u := U) (U := U.calling g mk a) (Vm.Alike.refl U.vm) h.2.2.1, kAA.moved (u := U) (U := U.calling g mk a) (Vm.Alike.refl U.vm) h.2.2.2⟩) (fun q H1 hP hD hS hF U hU hW => ⟨⟨by rw [hU], by rw [hU]; exact hP, va_K.moved hW.alike hK, hD, kN_warm hW hN⟩, kAO.moved hW.alike hAO.1, cE_sub hE hS hF U hU hW, kAA.moved hW.alike hAO.2⟩) (cwI 0 hts gL_law_X11_init rfl rfl rfl (hts (.initialized RX11) (by decide +kernel)) (hts (.methodLink RL 18 yX11_init) (by decide +kernel)) (hts (.instanceMethod yX11_init) (by decide +kernel)) rfl (by decide +kernel) ⟨(Nat.le_of_ble_eq_true rfl), (Nat.le_of_ble_eq_true rfl)⟩) hl.1 (fun q => lv_room (Nat.le_of_ble_eq_true rfl)) ⟨(Nat.le_of_ble_eq_true rfl), (Nat.le_of_ble_eq_true rfl)⟩ (fun q1 u H locs hu hP hD hS => ?_)
  obtain ⟨Z, xR, bq, bz, bb, ba⟩ := u
  obtain ⟨hZ, hI⟩ := hu
  have hZ : Z 0 0 0 = q1 := hZ
  have hI : sI [] bz ba := hI
  subst hZ
  refine W.eq (g2 := F0 m 7 ls [.ref (Z 0 0 0)]) rfl ?_
  refine lv_astore_n (nL := 7) (lv' := [(1, .ref (Z 0 0 0)), (0, .ref b)]) hx hb dL_law_7 rfl hl (by decide) rfl (fun ls hl => ?_)
  obtain ⟨M, eM, hG⟩ := GR_init (T := fun _ => 0) (K := iX11) (Hy := zD) (P := iX5) (RW := iX6) (HS := fun _ => iX9) (IO := fun _ => iX3) (IS := fun _ => iX9) (IN := fun _ => iX8) (BT := fun _ => 0) (IK := fun _ => 0) (fun _ => rfl) rfl rfl rfl rfl rfl rfl rfl rfl rfl (fun _ => rfl)
  refine g_mkI (SS := Nat → Nat) (post := fun q ra => ra 0 = q) (w := fun ra => mw (cs 0) (cs 1) (cs 2) (cs 3) ra M) (PcS := fun q sz U => U.heap.size = sz ∧ va_P (dC, dI) vwCl [(q, .inr (12, st_fs12))] U.heap ∧ va_K (dC, dI) vwCl (mt (cs 0) (cs 1) (cs 2) (cs 3)) U ∧ va_D (fun _ => True) [(q, .inr (12, st_fs12))]) (BB := fun q sz ra t => va_P (dC, dI) vwCl (mw (cs 0) (cs 1) (cs 2) (cs 3) ra M) t.heap ∧ va_K (dC, dI) vwCl (mt (cs 0) (cs 1) (cs 2) (cs 3)) t ∧ va_D (va_A [(q, .inr (12, st_fs12))] sz) (mw (cs 0) (cs 1) (cs 2) (cs 3) ra M)) (C := RX12) (T := TX12) (N := 49) (ci := 12) (fs := st_fs12) (y := yX12_init) ⟨hx, hb, hml, hown, hts⟩ (show ∀ w ∈ u_ws RX12 TX12 49, w ∈ wsL_law from inlX12) tyX12 tyX12_ok (hts (.classLink RL 19 RX12) (by decide +kernel)) (hts (.instantiable RX12 49) (by decide +kernel)) (hts (.initialized RX12) (by decide +kernel)) hK hP hD hS hA rfl (fun j hj => by rcases c49x hj with rfl | rfl | rfl | rfl | rfl | rfl | rfl | rfl | rfl | rfl | rfl | rfl | rfl | rfl | rfl | rfl | rfl | rfl | rfl | rfl | rfl | rfl | rfl | rfl | rfl | rfl | rfl | rfl | rfl | rfl | rfl | rfl | rfl | rfl | rfl | rfl | rfl | rfl | rfl | rfl | rfl | rfl | rfl | rfl | rfl | rfl | rfl | rfl | rfl <;> rfl) (Nat.le_of_ble_eq_true rfl) (Nat.le_of_ble_eq_true rfl) dL_law_8 dL_law_11 dL_law_12 (fun q sz => c_X12_init l dC dI (cs 0) (cs 1) (cs 2) (cs 3) q sz M eM) (fun q sz ra t h => ⟨h.1, h.2.2⟩) (fun q sz a U g mk h => ⟨h.1, h.2.1, va_K.moved (u := U) (U := U.calling g mk a) (Vm.Alike.refl U.vm) h.2.2.1, h.2.2.2⟩) (fun q H1 hP hD hS hF U hU hW => ⟨by rw [hU], by rw [hU]; exact hP, va_K.moved hW.alike hKM, hD⟩) (cwI 0 hts gL_law_X12_init rfl rfl rfl (hts (.initialized RX12) (by decide +kernel)) (hts (.methodLink RL 21 yX12_init) (by decide +kernel)) (hts (.instanceMethod yX12_init) (by decide +kernel)) rfl (by decide +kernel) ⟨(Nat.le_of_ble_eq_true rfl), (Nat.le_of_ble_eq_true rfl)⟩) hl.1 (fun q => lv_room (Nat.le_of_ble_eq_true rfl)) ⟨(Nat.le_of_ble_eq_true rfl), (Nat.le_of_ble_eq_true rfl)⟩ (fun q2 raM H locs hu hP hD hS => ?_)
  have hu : raM 0 = q2 := hu
  subst hu
  refine W.eq (g2 := F0 m 15 ls [.ref (raM 0)]) rfl ?_
  refine lv_astore_n (nL := 7) (lv' := [(2, .ref (raM 0)), (0, .ref b), (1, .ref (Z 0 0 0))]) hx hb dL_law_15 rfl (lv_sub hl [1, 0] rfl) (by decide) rfl (fun ls hl => ?_)
  refine lv_iconst (v := 1) hx hb dL_law_16 (by decide) ?_
  refine va_newa (atype := .long) (a0 := (1, .inr (.inl (fun _ => 0)))) (N' := 1) hx hb (hts (.arrayClass .long) (by decide +kernel)) (ty := .long) rfl hK hP hD hS hA (fun _ => rfl) (by decide) (by decide +kernel) (Nat.le_of_ble_eq_true rfl) (Nat.le_of_ble_eq_true rfl) (Nat.le_of_ble_eq_true rfl) dL_law_17 (fun q3 cA H hK2 hP hD hS => ?_)
  have ecA : cA = cs 2 := Option.some.inj (((hK2.2 8 _ rfl).2 : s.vm.findClass _ = some _).symm.trans ((hK.2 2 _ rfl).2 : s.vm.findClass _ = some _))
  subst ecA
  refine lv_astore_n (nL := 7) (lv' := [(3, .ref q3), (2, .ref (raM 0)), (0, .ref b), (1, .ref (Z 0 0 0))]) hx hb dL_law_19 rfl hl (by decide) rfl (fun ls hl => ?_)
  refine lv_iconst (v := 0) hx hb dL_law_20 (by decide) ?_
  refine lv_istore (nL := 7) (lv' := [(4, .int (0 : Int32)), (3, .ref q3), (2, .ref (raM 0)), (0, .ref b), (1, .ref (Z 0 0 0))]) hx hb dL_law_21 hl (by decide) rfl (fun ls hl => ?_)
  refine W.widen (k := 400 + 14 * 0) (n := 20000 + 3000 * 0) (Nat.le_of_ble_eq_true rfl) (Nat.le_of_ble_eq_true rfl) ?_
  have eW : ([] ++ wL cs ad Z xR bq bz (nI 0) bb ba iX11 (fun _ => 0) iX4 zD iX3 iX9 iX8 (fun _ => iX3) (fun _ => iX9) (fun _ => iX8) (fun _ => 0) zD (fun _ => iX9) iX3 iX8 iX0 iX9 iX1 iX5 iX6 (fun _ _ => 0) (fun _ _ => 0) (fun _ => 0) ++ mw (cs 0) (cs 1) (cs 2) (cs 3) raM M) ++ [(q3, Sum.inl (cs 2, 1, .inr (.inl (fun _ => 0))))] = wL cs ad Z xR bq bz (nI 0) bb ba iX11 (fun _ => 0) iX4 zD iX3 iX9 iX8 (fun _ => iX3) (fun _ => iX9) (fun _ => iX8) (fun _ => 0) zD (fun _ => iX9) iX3 iX8 iX0 iX9 iX1 iX5 iX6 (fun _ _ => 0) (fun _ _ => 0) (fun _ => 0) ++ (mw (cs 0) (cs 1) (cs 2) (cs 3) raM M ++ [(q3, .inl (cs 2, 1, .inr (.inl (fun _ => 0))))]) := by
    rw [List.nil_append, List.append_assoc]
  have hP := Eq.mp (congrArg (fun w => va_P (dC, dI) vwCl w H) eW) hP
  have hD := Eq.mp (congrArg (fun w => va_D (fun q : Nat => s.heap.size ≤ q) w) eW) hD
  exact kk (Ln := []) hG (by omega) hI hP hD hS (lv_sub hl [3, 4, 2, 1, 0] rfl)
