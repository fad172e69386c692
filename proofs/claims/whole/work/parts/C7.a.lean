theorem dL_law_204 : decode cL_law 204 = .ok (.aload_n 1, 1) := by decide +kernel
theorem dL_law_205 : decode cL_law 205 = .ok (.aload_n 0, 1) := by decide +kernel
theorem dL_law_206 : decode cL_law 206 = .ok (.iload 4, 2) := by decide +kernel
theorem dL_law_208 : decode cL_law 208 = .ok (.iconst 1, 1) := by decide +kernel
theorem dL_law_209 : decode cL_law 209 = .ok (.iadd, 1) := by decide +kernel
theorem dL_law_210 : decode cL_law 210 = .ok (.iaload, 1) := by decide +kernel
theorem dL_law_211 : decode cL_law 211 = .ok (.aload_n 0, 1) := by decide +kernel
theorem dL_law_212 : decode cL_law 212 = .ok (.iload 4, 2) := by decide +kernel
theorem dL_law_214 : decode cL_law 214 = .ok (.iconst 2, 1) := by decide +kernel
theorem dL_law_215 : decode cL_law 215 = .ok (.iadd, 1) := by decide +kernel
theorem dL_law_216 : decode cL_law 216 = .ok (.iaload, 1) := by decide +kernel
theorem dL_law_217 : decode cL_law 217 = .ok (.aload_n 0, 1) := by decide +kernel
theorem dL_law_218 : decode cL_law 218 = .ok (.iload 4, 2) := by decide +kernel
theorem dL_law_220 : decode cL_law 220 = .ok (.iconst 3, 1) := by decide +kernel
theorem dL_law_221 : decode cL_law 221 = .ok (.iadd, 1) := by decide +kernel
theorem dL_law_222 : decode cL_law 222 = .ok (.iaload, 1) := by decide +kernel
theorem dL_law_223 : decode cL_law 223 = .ok (.aload_n 0, 1) := by decide +kernel
theorem dL_law_224 : decode cL_law 224 = .ok (.iload 4, 2) := by decide +kernel
theorem dL_law_226 : decode cL_law 226 = .ok (.iconst 4, 1) := by decide +kernel
theorem dL_law_227 : decode cL_law 227 = .ok (.iadd, 1) := by decide +kernel
theorem dL_law_228 : decode cL_law 228 = .ok (.iaload, 1) := by decide +kernel
theorem dL_law_229 : decode cL_law 229 = .ok (.aload_n 0, 1) := by decide +kernel
theorem dL_law_230 : decode cL_law 230 = .ok (.iload 4, 2) := by decide +kernel
theorem dL_law_232 : decode cL_law 232 = .ok (.iconst 5, 1) := by decide +kernel
theorem dL_law_233 : decode cL_law 233 = .ok (.iadd, 1) := by decide +kernel
theorem dL_law_234 : decode cL_law 234 = .ok (.iaload, 1) := by decide +kernel
set_option maxRecDepth 20000 in
theorem ggL_law_X11_feed : GoodIn wsL_law wsX11_feed := goodIn_r _ [208, 209, 210, 211, 212, 2, 213, 14, 1517, 1518, 1519, 1520, 1521, 1522, 1523, 1524, 1525, 1526, 1527, 1528, 1529, 1530, 1531, 1532, 1533, 1534, 1535] (by decide +kernel) (by decide +kernel)
set_option maxRecDepth 20000 in
theorem gL_law_X11_feed : GoodIn wsL_law (wsV RL 22 RX11 yX11_feed wsX11_feed) := goodIn_app (goodIn_of _ (by decide +kernel)) ggL_law_X11_feed
theorem dL_law_235 : decode cL_law 235 = .ok (.invokevirtual 22, 3) := by decide +kernel
theorem dL_law_238 : decode cL_law 238 = .ok (.aload_n 2, 1) := by decide +kernel
theorem dL_law_239 : decode cL_law 239 = .ok (.aload_n 0, 1) := by decide +kernel
theorem dL_law_240 : decode cL_law 240 = .ok (.iload 4, 2) := by decide +kernel
theorem dL_law_242 : decode cL_law 242 = .ok (.iconst 1, 1) := by decide +kernel
theorem dL_law_243 : decode cL_law 243 = .ok (.iadd, 1) := by decide +kernel
theorem dL_law_244 : decode cL_law 244 = .ok (.iaload, 1) := by decide +kernel
theorem dL_law_245 : decode cL_law 245 = .ok (.aload_n 0, 1) := by decide +kernel
theorem dL_law_246 : decode cL_law 246 = .ok (.iload 4, 2) := by decide +kernel
theorem dL_law_248 : decode cL_law 248 = .ok (.iconst 2, 1) := by decide +kernel
theorem dL_law_249 : decode cL_law 249 = .ok (.iadd, 1) := by decide +kernel
theorem dL_law_250 : decode cL_law 250 = .ok (.iaload, 1) := by decide +kernel
theorem dL_law_251 : decode cL_law 251 = .ok (.aload_n 0, 1) := by decide +kernel
theorem dL_law_252 : decode cL_law 252 = .ok (.iload 4, 2) := by decide +kernel
theorem dL_law_254 : decode cL_law 254 = .ok (.iconst 3, 1) := by decide +kernel
theorem dL_law_255 : decode cL_law 255 = .ok (.iadd, 1) := by decide +kernel
theorem dL_law_256 : decode cL_law 256 = .ok (.iaload, 1) := by decide +kernel
theorem dL_law_257 : decode cL_law 257 = .ok (.aload_n 0, 1) := by decide +kernel
theorem dL_law_258 : decode cL_law 258 = .ok (.iload 4, 2) := by decide +kernel
theorem dL_law_260 : decode cL_law 260 = .ok (.iconst 4, 1) := by decide +kernel
theorem dL_law_261 : decode cL_law 261 = .ok (.iadd, 1) := by decide +kernel
theorem dL_law_262 : decode cL_law 262 = .ok (.iaload, 1) := by decide +kernel
theorem dL_law_263 : decode cL_law 263 = .ok (.aload_n 0, 1) := by decide +kernel
theorem dL_law_264 : decode cL_law 264 = .ok (.iload 4, 2) := by decide +kernel
theorem dL_law_266 : decode cL_law 266 = .ok (.iconst 5, 1) := by decide +kernel
theorem dL_law_267 : decode cL_law 267 = .ok (.iadd, 1) := by decide +kernel
theorem dL_law_268 : decode cL_law 268 = .ok (.iaload, 1) := by decide +kernel
set_option maxRecDepth 20000 in
theorem ggL_law_X12_feed : GoodIn wsL_law wsX12_feed := goodIn_r _ [217, 218, 219, 220, 221, 222, 5, 223, 158, 1536, 1537, 1538, 1539, 1540, 1541, 1542, 1543, 1544, 1545, 1546, 1547, 1548, 1549, 1550, 1551, 1552, 1553, 1554, 1555, 1556, 1557, 1558, 1559, 1560, 1561, 1562, 1563, 1564, 1565, 1566, 1567, 1568, 1569, 1570, 1571, 1572, 1573, 1574, 1575, 1576, 1577, 1578, 1579, 1580, 1581, 1582, 1583, 1584] (by decide +kernel) (by decide +kernel)
set_option maxRecDepth 20000 in
theorem gL_law_X12_feed : GoodIn wsL_law (wsV RL 26 RX12 yX12_feed wsX12_feed) := goodIn_app (goodIn_of _ (by decide +kernel)) ggL_law_X12_feed
theorem dL_law_269 : decode cL_law 269 = .ok (.invokevirtual 26, 3) := by decide +kernel
theorem dL_law_272 : decode cL_law 272 = .ok (.if_icmp .eq 931, 3) := by decide +kernel
set_option maxHeartbeats 8000000 in
set_option maxRecDepth 100000 in
theorem law_c0 {p : Program} {l : Launch} {e : Env} {s : State} {m : MethodId} {below : List Frame} {meth : Method} {c : Code} {b L : Nat} {xs : Nat → Int32} {dC : Nat → ClassId} {dI : Nat → Nat → Nat} {cs : Nat → ClassId} {ad : Nat → Nat} {k : Nat} {Z : Nat → Nat → Nat → Nat} {raM : Nat → Nat} {xR bq bz q3 nm np n B : Nat} {bb : Int32} {ba : Nat → Int32} {Ln : List Nat} {T : Nat → Int32} {K O S N Hy : kD} {HS : Nat → kD} {BT : Nat → Int32} {P RW : kD} {IO IS IN : Nat → kD} {IK : Nat → Int32} {M Rd RO RN RB TR D : kD} {UF VF : Nat → Nat → Int32} {out : Nat → Int64} {H : Heap} {locs : List Loc} {ls : Array Slot} (F : LwF p l e s m below meth c b L xs dC dI cs ad) (hk : 6 * k + 6 ≤ L) (kk : LwH p l e s m below meth c b L xs dC dI cs ad (k + 1)) (hG : GR nm np n B Ln T K O S N Hy HS BT P RW IO IS IN IK M) (hB : B ≤ 1000000 + 96000 * k) (hI : sI Ln bz ba) (hP : va_P (dC, dI) vwCl (wL cs ad Z xR bq bz (nI Ln.length) bb ba K T Rd zD O S N IO IS IN IK Hy HS RO RN RB TR D P RW UF VF BT ++ (mw (cs 0) (cs 1) (cs 2) (cs 3) raM M ++ [(q3, .inl (cs 2, 1, .inr (.inl out)))])) H) (hD : va_D (fun q : Nat => s.heap.size ≤ q) (wL cs ad Z xR bq bz (nI Ln.length) bb ba K T Rd zD O S N IO IS IN IK Hy HS RO RN RB TR D P RW UF VF BT ++ (mw (cs 0) (cs 1) (cs 2) (cs 3) raM M ++ [(q3, .inl (cs 2, 1, .inr (.inl out)))]))) (hS : va_S (fun q : Nat => s.heap.size ≤ q) s.heap H locs) (hl : lv_has ls 7 [(0, .ref b), (1, .ref (Z 0 0 0)), (2, .ref (raM 0)), (3, .ref q3), (4, .int (nI (6 * k)))]) : W p l e room_1 s m #[Value.ref b] below meth c H locs (400 + 14 * k) (20000 + 3000 * k) (lw_Z below #[Value.ref b] s) (F0 m 204 ls []) := by
  obtain ⟨C0, hL, hK, hN, hE, hLn, hTh, hst⟩ := id F
  obtain ⟨hx, hb, hr, hml, hown, hts0, hX, hbl, hlocks, hgv⟩ := C0
  have hts : ∀ w ∈ wsL_law, w.before #[Value.ref b] s = true := wsL_law_hts hts0
  have hA : ∀ q : Nat, s.heap.size ≤ q → (fun q : Nat => s.heap.size ≤ q) q := fun _ h => h
  have hbA : ¬ (fun q : Nat => s.heap.size ≤ q) b := Nat.not_le.mpr hbl
  have hKM := hK.sub (tys' := mt (cs 0) (cs 1) (cs 2) (cs 3)) [0, 1, 2, 3] rfl
  obtain ⟨v, n1, K1, T1, M1, e1, e2, hG1⟩ := g_feed hG (xs (6 * k + 1)) (xs (6 * k + 2)) (xs (6 * k + 3)) (xs (6 * k + 4)) (xs (6 * k + 5))
  refine lv_aload_n hx hb dL_law_204 rfl (lv_at hl 1 rfl) ?_
  refine lv_aload_n hx hb dL_law_205 rfl (lv_at hl 0 rfl) ?_
  refine lv_iload hx hb dL_law_206 (lv_at hl 4 rfl) ?_
  refine lv_iconst (v := 1) hx hb dL_law_208 (by decide) ?_
  refine lv_iadd hx hb dL_law_209 ?_
  refine kt_v (show (.int (nI (6 * k) + 1) : Value) = .int (nI (6 * k + 1)) from congrArg Value.int (nI_add (6 * k) 1)) ?_
  refine va_sld hx hb hX hbl hbA hS (vp_in_nI (n := 6 * k + 1) (by omega) (by omega)) dL_law_210 ?_
  refine kt_v (show (.int (xs (nI (6 * k + 1)).toNatClampNeg) : Value) = .int (xs (6 * k + 1)) from congrArg Value.int (by rw [nI_clamp (n := 6 * k + 1) (by omega)])) ?_
  refine lv_aload_n hx hb dL_law_211 rfl (lv_at hl 0 rfl) ?_
  refine lv_iload hx hb dL_law_212 (lv_at hl 4 rfl) ?_
  refine lv_iconst (v := 2) hx hb dL_law_214 (by decide) ?_
  refine lv_iadd hx hb dL_law_215 ?_
  refine kt_v (show (.int (nI (6 * k) + 2) : Value) = .int (nI (6 * k + 2)) from congrArg Value.int (nI_add (6 * k) 2)) ?_
  refine va_sld hx hb hX hbl hbA hS (vp_in_nI (n := 6 * k + 2) (by omega) (by omega)) dL_law_216 ?_
  refine kt_v (show (.int (xs (nI (6 * k + 2)).toNatClampNeg) : Value) = .int (xs (6 * k + 2)) from congrArg Value.int (by rw [nI_clamp (n := 6 * k + 2) (by omega)])) ?_
  refine lv_aload_n hx hb dL_law_217 rfl (lv_at hl 0 rfl) ?_
  refine lv_iload hx hb dL_law_218 (lv_at hl 4 rfl) ?_
  refine lv_iconst (v := 3) hx hb dL_law_220 (by decide) ?_
  refine lv_iadd hx hb dL_law_221 ?_
  refine kt_v (show (.int (nI (6 * k) + 3) : Value) = .int (nI (6 * k + 3)) from congrArg Value.int (nI_add (6 * k) 3)) ?_
  refine va_sld hx hb hX hbl hbA hS (vp_in_nI (n := 6 * k + 3) (by omega) (by omega)) dL_law_222 ?_
  refine kt_v (show (.int (xs (nI (6 * k + 3)).toNatClampNeg) : Value) = .int (xs (6 * k + 3)) from congrArg Value.int (by rw [nI_clamp (n := 6 * k + 3) (by omega)])) ?_
  refine lv_aload_n hx hb dL_law_223 rfl (lv_at hl 0 rfl) ?_
  refine lv_iload hx hb dL_law_224 (lv_at hl 4 rfl) ?_
  refine lv_iconst (v := 4) hx hb dL_law_226 (by decide) ?_
  refine lv_iadd hx hb dL_law_227 ?_
  refine kt_v (show (.int (nI (6 * k) + 4) : Value) = .int (nI (6 * k + 4)) from congrArg Value.int (nI_add (6 * k) 4)) ?_
  refine va_sld hx hb hX hbl hbA hS (vp_in_nI (n := 6 * k + 4) (by omega) (by omega)) dL_law_228 ?_
  refine kt_v (show (.int (xs (nI (6 * k + 4)).toNatClampNeg) : Value) = .int (xs (6 * k + 4)) from congrArg Value.int (by rw [nI_clamp (n := 6 * k + 4) (by omega)])) ?_
  refine lv_aload_n hx hb dL_law_229 rfl (lv_at hl 0 rfl) ?_
  refine lv_iload hx hb dL_law_230 (lv_at hl 4 rfl) ?_
  refine lv_iconst (v := 5) hx hb dL_law_232 (by decide) ?_
  refine lv_iadd hx hb dL_law_233 ?_
  refine kt_v (show (.int (nI (6 * k) + 5) : Value) = .int (nI (6 * k + 5)) from congrArg Value.int (nI_add (6 * k) 5)) ?_
  refine va_sld hx hb hX hbl hbA hS (vp_in_nI (n := 6 * k + 5) (by omega) (by omega)) dL_law_234 ?_
  refine kt_v (show (.int (xs (nI (6 * k + 5)).toNatClampNeg) : Value) = .int (xs (6 * k + 5)) from congrArg Value.int (by rw [nI_clamp (n := 6 * k + 5) (by omega)])) ?_
  refine g_callwZ (isC := [0, 1]) (isR := [2, 3, 4, 5, 6, 7, 8, 9, 10, 11, 12, 13, 14, 15, 16, 17, 18, 19, 20, 21, 22, 23, 24, 25, 26, 27, 28, 29, 30, 31, 32, 33, 34, 35, 36, 37, 38, 39, 40, 41, 42, 43, 44, 45, 46, 47, 48, 49, 50, 51, 52, 53, 54, 55, 56, 57, 58, 59, 60, 61, 62, 63, 64, 65, 66, 67, 68, 69, 70, 71, 72, 73, 74, 75, 76, 77, 78, 79, 80, 81, 82, 83, 84, 85, 86, 87, 88, 89, 90, 91, 92, 93, 94, 95, 96, 97, 98, 99, 100, 101, 102, 103, 104, 105, 106, 107, 108, 109, 110, 111, 112, 113, 114, 115, 116, 117, 118, 119, 120, 121, 122, 123, 124, 125, 126, 127, 128, 129, 130, 131, 132, 133, 134, 135, 136, 137, 138, 139, 140, 141, 142, 143, 144, 145, 146, 147, 148, 149, 150, 151, 152, 153, 154, 155]) (wc := (ww_X11_feed cs ad (Z 0 0) (Z 1 0 0) (Z 2 0 0) (Z 3 0 0) (Z 4 0 0) (Z 5 0 0) (Z 6 0 0) (Z 7 0 0) (Z 8 0 0) (Z 9 0 0) (Z 10 0 0) (Z 11 0 0) (Z 12 0 0) (Z 13 0 0) (Z 14 0 0) (Z 18 0 0) K T)) (wz := (ww_X11_feed cs ad (Z 0 0) (Z 1 0 0) (Z 2 0 0) (Z 3 0 0) (Z 4 0 0) (Z 5 0 0) (Z 6 0 0) (Z 7 0 0) (Z 8 0 0) (Z 9 0 0) (Z 10 0 0) (Z 11 0 0) (Z 12 0 0) (Z 13 0 0) (Z 14 0 0) (Z 18 0 0) zD (fun _ => 0))) (w1 := (ww_X11_feed cs ad (Z 0 0) (Z 1 0 0) (Z 2 0 0) (Z 3 0 0) (Z 4 0 0) (Z 5 0 0) (Z 6 0 0) (Z 7 0 0) (Z 8 0 0) (Z 9 0 0) (Z 10 0 0) (Z 11 0 0) (Z 12 0 0) (Z 13 0 0) (Z 14 0 0) (Z 18 0 0) K1 T1)) (ws' := wL cs ad Z xR bq bz (nI Ln.length) bb ba K1 T1 Rd zD O S N IO IS IN IK Hy HS RO RN RB TR D P RW UF VF BT) (v := v) (va_runV (As := [.int (xs (6 * k + 1)), .int (xs (6 * k + 2)), .int (xs (6 * k + 3)), .int (xs (6 * k + 4)), .int (xs (6 * k + 5))]) (rest := []) ⟨hx, hb, hml, hown, hts⟩ (c_X11_feed l dC dI cs ad (Z 0 0) (Z 1 0 0) (Z 2 0 0) (Z 3 0 0) (Z 4 0 0) (Z 5 0 0) (Z 6 0 0) (Z 7 0 0) (Z 8 0 0) (Z 9 0 0) (Z 10 0 0) (Z 11 0 0) (Z 12 0 0) (Z 13 0 0) (Z 14 0 0) (Z 18 0 0) _ K T (xs (6 * k + 1)) (xs (6 * k + 2)) (xs (6 * k + 3)) (xs (6 * k + 4)) (xs (6 * k + 5)) (v, K1, T1) e1) (cwV 5 hts gL_law_X11_feed rfl rfl rfl (by decide +kernel) ⟨Nat.le_of_ble_eq_true rfl, Nat.le_of_ble_eq_true rfl⟩) ⟨fun a U g mk q => ⟨q.1, (fun _ _ _ _ => cPw_bl) a U g mk q.2⟩, va_recv hK (va_Pl hP) (ci := 11) (q0 := 0) rfl rfl, fun U hU hW => ⟨rfl, ⟨by rw [hU], by rw [hU]; exact ((va_Pl hP).sub (ws' := (ww_X11_feed cs ad (Z 0 0) (Z 1 0 0) (Z 2 0 0) (Z 3 0 0) (Z 4 0 0) (Z 5 0 0) (Z 6 0 0) (Z 7 0 0) (Z 8 0 0) (Z 9 0 0) (Z 10 0 0) (Z 11 0 0) (Z 12 0 0) (Z 13 0 0) (Z 14 0 0) (Z 18 0 0) K T)) [0, 1] rfl), va_K.moved hW.alike hK, ((va_Dl hD).sub (ws' := (ww_X11_feed cs ad (Z 0 0) (Z 1 0 0) (Z 2 0 0) (Z 3 0 0) (Z 4 0 0) (Z 5 0 0) (Z 6 0 0) (Z 7 0 0) (Z 8 0 0) (Z 9 0 0) (Z 10 0 0) (Z 11 0 0) (Z 12 0 0) (Z 13 0 0) (Z 14 0 0) (Z 18 0 0) K T)) [0, 1] (by decide) rfl).weaken (fun _ _ _ _ => trivial), kN_warm hW hN⟩⟩⟩ rfl rfl hl.1 rfl (lv_room (Nat.le_of_ble_eq_true rfl)) dL_law_235 ⟨(show 400 + 14 * k + 0 ≤ 601024 by omega), (show 20000 + 3000 * k + 0 ≤ 7293034 by omega)⟩) hP hD hS hA rfl rfl (wr := (((wX4 cs ad (Z 2 0) xR (Z 1 0 0) Rd) ++ ((wX7 cs ad (Z 3 0) ((Z 20 0) 0) ((Z 21 0) 0) ((Z 22 0) 0) zD) ++ ((wX3 cs ad (Z 20 0) O) ++ ((wX9 cs ad (Z 21 0) S) ++ ((wX8 cs ad (Z 22 0) N) ++ (([((Z 4 0 0), .inl (cs 6, 2, .inr (.inr (.inr (.inr (fun j => some ((Z 30) j 0)))))))]) ++ ((wIC cs ad (Z 30) (Z 31) (Z 32) (Z 33)) ++ ((wX3x2 cs ad (Z 31) IO) ++ ((wX9x2 cs ad (Z 32) IS) ++ ((wX8x2 cs ad (Z 33) IN) ++ (([((Z 5 0 0), .inl (cs 3, 2, .inl IK))]) ++ ((wX2 cs ad (Z 6 0) (Z 26 0 0) Hy) ++ (([((Z 26 0 0), .inl (cs 5, 8, .inr (.inr (.inr (.inr (fun j => some ((Z 40) j 0)))))))]) ++ ((wX9x8 cs ad (Z 40) HS) ++ ((wX3 cs ad (Z 7 0) RO) ++ ((wX8 cs ad (Z 8 0) RN) ++ ((wX0 cs ad (Z 9 0) RB) ++ ((wX9 cs ad (Z 10 0) TR) ++ ((wX1 cs ad (Z 11 0) D) ++ ((wX5 cs ad (Z 12 0) P) ++ ((wX6 cs ad (Z 13 0) (Z 23 0 0) (Z 25 0 0) RW) ++ (([((Z 23 0 0), .inl (cs 7, 9, .inr (.inr (.inr (.inr (fun j => some ((Z 24 0) j)))))))]) ++ ((wF1x9 cs (Z 24 0) UF) ++ (([((Z 25 0 0), .inl (cs 7, 9, .inr (.inr (.inr (.inr (fun j => some ((Z 27 0) j)))))))]) ++ ((wF1x9 cs (Z 27 0) VF) ++ (([((Z 14 0 0), .inl (cs 1, 4, .inl BT))]))))))))))))))))))))))))))) ++ [(Z 18 0 0, .inr (0, [.ref bq, .int 0, .int bb, .int (nI Ln.length)])), (bq, .inl (cs 0, bz, .inl ba))])) rfl rfl rfl (nw := 156) rfl (by decide +kernel) rfl (fun H locs hP hD hS => ?_)
  refine lv_aload_n hx hb dL_law_238 rfl (lv_at hl 2 rfl) ?_
  refine lv_aload_n hx hb dL_law_239 rfl (lv_at hl 0 rfl) ?_
  refine lv_iload hx hb dL_law_240 (lv_at hl 4 rfl) ?_
  refine lv_iconst (v := 1) hx hb dL_law_242 (by decide) ?_
  refine lv_iadd hx hb dL_law_243 ?_
  refine kt_v (show (.int (nI (6 * k) + 1) : Value) = .int (nI (6 * k + 1)) from congrArg Value.int (nI_add (6 * k) 1)) ?_
  refine va_sld hx hb hX hbl hbA hS (vp_in_nI (n := 6 * k + 1) (by omega) (by omega)) dL_law_244 ?_
  refine kt_v (show (.int (xs (nI (6 * k + 1)).toNatClampNeg) : Value) = .int (xs (6 * k + 1)) from congrArg Value.int (by rw [nI_clamp (n := 6 * k + 1) (by omega)])) ?_
  refine lv_aload_n hx hb dL_law_245 rfl (lv_at hl 0 rfl) ?_
  refine lv_iload hx hb dL_law_246 (lv_at hl 4 rfl) ?_
  refine lv_iconst (v := 2) hx hb dL_law_248 (by decide) ?_
  refine lv_iadd hx hb dL_law_249 ?_
  refine kt_v (show (.int (nI (6 * k) + 2) : Value) = .int (nI (6 * k + 2)) from congrArg Value.int (nI_add (6 * k) 2)) ?_
  refine va_sld hx hb hX hbl hbA hS (vp_in_nI (n := 6 * k + 2) (by omega) (by omega)) dL_law_250 ?_
  refine kt_v (show (.int (xs (nI (6 * k + 2)).toNatClampNeg) : Value) = .int (xs (6 * k + 2)) from congrArg Value.int (by rw [nI_clamp (n := 6 * k + 2) (by omega)])) ?_
  refine lv_aload_n hx hb dL_law_251 rfl (lv_at hl 0 rfl) ?_
  refine lv_iload hx hb dL_law_252 (lv_at hl 4 rfl) ?_
  refine lv_iconst (v := 3) hx hb dL_law_254 (by decide) ?_
  refine lv_iadd hx hb dL_law_255 ?_
  refine kt_v (show (.int (nI (6 * k) + 3) : Value) = .int (nI (6 * k + 3)) from congrArg Value.int (nI_add (6 * k) 3)) ?_
  refine va_sld hx hb hX hbl hbA hS (vp_in_nI (n := 6 * k + 3) (by omega) (by omega)) dL_law_256 ?_
  refine kt_v (show (.int (xs (nI (6 * k + 3)).toNatClampNeg) : Value) = .int (xs (6 * k + 3)) from congrArg Value.int (by rw [nI_clamp (n := 6 * k + 3) (by omega)])) ?_
  refine lv_aload_n hx hb dL_law_257 rfl (lv_at hl 0 rfl) ?_
  refine lv_iload hx hb dL_law_258 (lv_at hl 4 rfl) ?_
  refine lv_iconst (v := 4) hx hb dL_law_260 (by decide) ?_
  refine lv_iadd hx hb dL_law_261 ?_
  refine kt_v (show (.int (nI (6 * k) + 4) : Value) = .int (nI (6 * k + 4)) from congrArg Value.int (nI_add (6 * k) 4)) ?_
  refine va_sld hx hb hX hbl hbA hS (vp_in_nI (n := 6 * k + 4) (by omega) (by omega)) dL_law_262 ?_
  refine kt_v (show (.int (xs (nI (6 * k + 4)).toNatClampNeg) : Value) = .int (xs (6 * k + 4)) from congrArg Value.int (by rw [nI_clamp (n := 6 * k + 4) (by omega)])) ?_
  refine lv_aload_n hx hb dL_law_263 rfl (lv_at hl 0 rfl) ?_
  refine lv_iload hx hb dL_law_264 (lv_at hl 4 rfl) ?_
  refine lv_iconst (v := 5) hx hb dL_law_266 (by decide) ?_
  refine lv_iadd hx hb dL_law_267 ?_
  refine kt_v (show (.int (nI (6 * k) + 5) : Value) = .int (nI (6 * k + 5)) from congrArg Value.int (nI_add (6 * k) 5)) ?_
  refine va_sld hx hb hX hbl hbA hS (vp_in_nI (n := 6 * k + 5) (by omega) (by omega)) dL_law_268 ?_
  refine kt_v (show (.int (xs (nI (6 * k + 5)).toNatClampNeg) : Value) = .int (xs (6 * k + 5)) from congrArg Value.int (by rw [nI_clamp (n := 6 * k + 5) (by omega)])) ?_
  refine g_callM (va_runV (As := [.int (xs (6 * k + 1)), .int (xs (6 * k + 2)), .int (xs (6 * k + 3)), .int (xs (6 * k + 4)), .int (xs (6 * k + 5))]) (rest := [.int v]) ⟨hx, hb, hml, hown, hts⟩ (c_X12_feed l dC dI (cs 0) (cs 1) (cs 2) (cs 3) raM H.size M (xs (6 * k + 1)) (xs (6 * k + 2)) (xs (6 * k + 3)) (xs (6 * k + 4)) (xs (6 * k + 5)) (v, M1) e2) (cwV 5 hts gL_law_X12_feed rfl rfl rfl (by decide +kernel) ⟨Nat.le_of_ble_eq_true rfl, Nat.le_of_ble_eq_true rfl⟩) ⟨fun a U g mk q => ⟨q.1, mPw_bl q.2⟩, va_recv hK (va_Pl (va_Pr hP)) (ci := 12) (q0 := 0) rfl rfl, fun U hU hW => ⟨rfl, by rw [hU], by rw [hU]; exact va_Pl (va_Pr hP), va_K.moved hW.alike hKM, (va_Dl (va_Dr hD)).weaken (fun _ _ _ _ => trivial)⟩⟩ rfl rfl hl.1 rfl (lv_room (Nat.le_of_ble_eq_true rfl)) dL_law_269 ⟨(show 400 + 14 * k + 0 ≤ 601024 by omega), (show 20000 + 3000 * k + 0 ≤ 7293034 by omega)⟩) hP hD hS hA (fun H locs hP hD hS => ?_)
  refine lv_icmp_eq (tgt := 1203) hx hb dL_law_272 (by decide) (fun _ => ?_) (fun h => absurd rfl h)
  exact law_next F hk kk hG1 (by omega) hI hP hD hS hl (by omega) (by omega)

