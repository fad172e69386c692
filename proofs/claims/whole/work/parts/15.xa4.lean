def ww_X11_drawn (cs : Nat → ClassId) (ad : Nat → Nat) (raK : Nat → Nat) (raC : Nat → Nat) (raO : Nat → Nat) (raS : Nat → Nat) (raN : Nat → Nat) (raHy : Nat → Nat) (raHR : Nat) (raHS : Nat → Nat → Nat) (raD : Nat → Nat) (xK0 : Nat) (xK2 : Nat) (xK4 : Nat) (xK5 : Nat) (xK7 : Nat) (xK8 : Nat) (xK9 : Nat) (xK10 : Nat) (xK12 : Nat) (xK13 : Nat) (xK14 : Nat) (xK18 : Nat) (K : kD) (C : kD) (O : kD) (S : kD) (N : kD) (Hy : kD) (HS : Nat → kD) (D : kD) : va_W := (wX11 cs ad raK xK0 xK2 (raC 0) xK4 xK5 (raHy 0) xK7 xK8 xK9 xK10 (raD 0) xK12 xK13 xK14 xK18 K ++ (wX7 cs ad raC (raO 0) (raS 0) (raN 0) C ++ (wX3 cs ad raO O ++ (wX9 cs ad raS S ++ (wX8 cs ad raN N ++ (wX2 cs ad raHy raHR Hy ++ ([(raHR, .inl (cs 5, 8, .inr (.inr (.inr (.inr (fun j => some (raHS j 0)))))))] ++ (wX9x8 cs ad raHS HS ++ (wX1 cs ad raD D)))))))))
abbrev rm_X11_drawn : Room := { frames := 7, cells := 0, slots := 0, locals := 162 }
set_option maxHeartbeats 4000000 in
set_option maxRecDepth 100000 in
theorem c_X11_drawn (l : Launch) (dC : Nat → ClassId) (dI : Nat → Nat → Nat) (cs : Nat → ClassId) (ad : Nat → Nat) (raK : Nat → Nat) (raC : Nat → Nat) (raO : Nat → Nat) (raS : Nat → Nat) (raN : Nat → Nat) (raHy : Nat → Nat) (raHR : Nat) (raHS : Nat → Nat → Nat) (raD : Nat → Nat) (xK0 : Nat) (xK2 : Nat) (xK4 : Nat) (xK5 : Nat) (xK7 : Nat) (xK8 : Nat) (xK9 : Nat) (xK10 : Nat) (xK12 : Nat) (xK13 : Nat) (xK14 : Nat) (xK18 : Nat) (sz : Nat) (K : kD) (C : kD) (O : kD) (S : kD) (N : kD) (Hy : kD) (HS : Nat → kD) (D : kD) (a0 : Int32) (a1 : Int32) (r : Int32 × kD × kD × (Nat → kD) × kD) (hf : f_X11_drawn a0 a1 K C O S N Hy HS D = some r) : Met l yX11_drawn wsX11_drawn rm_X11_drawn (va_Pc [.ref (raK 0), .int a0, .int a1] (cPw dC dI cs sz (ww_X11_drawn cs ad raK raC raO raS raN raHy raHR raHS raD xK0 xK2 xK4 xK5 xK7 xK8 xK9 xK10 xK12 xK13 xK14 xK18 K C O S N Hy HS D))) (cQi dC dI cs (va_A (ww_X11_drawn cs ad raK raC raO raS raN raHy raHR raHS raD xK0 xK2 xK4 xK5 xK7 xK8 xK9 xK10 xK12 xK13 xK14 xK18 zD zD zD zD zD zD (fun _ => zD) zD) sz) r.1 (ww_X11_drawn cs ad raK raC raO raS raN raHy raHR raHS raD xK0 xK2 xK4 xK5 xK7 xK8 xK9 xK10 xK12 xK13 xK14 xK18 K C O r.2.1 N r.2.2.1 r.2.2.2.1 r.2.2.2.2)) 0 0 (va_A (ww_X11_drawn cs ad raK raC raO raS raN raHy raHR raHS raD xK0 xK2 xK4 xK5 xK7 xK8 xK9 xK10 xK12 xK13 xK14 xK18 zD zD zD zD zD zD (fun _ => zD) zD) sz) := by
  refine Met.ofW (cc := cX11_drawn) (maxL := 4) (ret := (some .int)) (by decide) rfl ?_
  intro p e s m args below meth c s₁ B hml hv
  obtain ⟨hav, hsz, hP, hK, hD0, hN⟩ := hv
  have hx := B.exec
  have hb := B.bytes
  have hr := B.returns
  have hts := atoms_spec (ws := wsX11_drawn) B.pre
  have hown : s.vm.findClass RX11 = some m.cls := findClass_of_methodNamed B.named
  have hlocks := B.notSynchronized
  subst hsz
  have hA : ∀ q, s.heap.size ≤ q → va_A (ww_X11_drawn cs ad raK raC raO raS raN raHy raHR raHS raD xK0 xK2 xK4 xK5 xK7 xK8 xK9 xK10 xK12 xK13 xK14 xK18 zD zD zD zD zD zD (fun _ => zD) zD) s.heap.size q := fun q h => Or.inr h
  have hD : va_D (va_A (ww_X11_drawn cs ad raK raC raO raS raN raHy raHR raHS raD xK0 xK2 xK4 xK5 xK7 xK8 xK9 xK10 xK12 xK13 xK14 xK18 zD zD zD zD zD zD (fun _ => zD) zD) s.heap.size) (ww_X11_drawn cs ad raK raC raO raS raN raHy raHR raHS raD xK0 xK2 xK4 xK5 xK7 xK8 xK9 xK10 xK12 xK13 xK14 xK18 K C O S N Hy HS D) := hD0.weaken (fun k q h _ => cA_in (ws := (ww_X11_drawn cs ad raK raC raO raS raN raHy raHR raHS raD xK0 xK2 xK4 xK5 xK7 xK8 xK9 xK10 xK12 xK13 xK14 xK18 K C O S N Hy HS D)) (ws' := (ww_X11_drawn cs ad raK raC raO raS raN raHy raHR raHS raD xK0 xK2 xK4 xK5 xK7 xK8 xK9 xK10 xK12 xK13 xK14 xK18 zD zD zD zD zD zD (fun _ => zD) zD)) rfl h)
  have hS : va_S (va_A (ww_X11_drawn cs ad raK raC raO raS raN raHy raHR raHS raD xK0 xK2 xK4 xK5 xK7 xK8 xK9 xK10 xK12 xK13 xK14 xK18 zD zD zD zD zD zD (fun _ => zD) zD) s.heap.size) s.heap s.heap [] := va_S.rf
  have hinX1 := (show ∀ w ∈ wsX10, w ∈ wsX11_drawn from fun w h => List.mem_cons_of_mem _ (List.mem_append_left _ (List.mem_append_left _ (List.mem_append_left _ (List.mem_append_right _ h)))))
  have hinX11 := (show ∀ w ∈ wsX110, w ∈ wsX11_drawn from fun w h => List.mem_cons_of_mem _ (List.mem_append_left _ (List.mem_append_left _ (List.mem_append_left _ (List.mem_append_left _ (List.mem_append_left _ (List.mem_append_right _ h)))))))
  have hinX7 := (show ∀ w ∈ wsX70, w ∈ wsX11_drawn from fun w h => List.mem_cons_of_mem _ (List.mem_append_left _ (List.mem_append_left _ (List.mem_append_left _ (List.mem_append_left _ (List.mem_append_right _ h))))))
  have k_code_Lib_Math_min_name_Lib_Math_min_code_2__some__int_ := hts (.code Lib.Math.min.name Lib.Math.min.code 2 (some .int)) (List.mem_of_getElem? (i := 5) rfl)
  have k_fieldLink_RX11_23__KeyLetters___scene___LKeyLetters_Scene__ := hts (.fieldLink RX11 23 "KeyLetters" "scene" "LKeyLetters$Scene;") (List.mem_of_getElem? (i := 1) rfl)
  have k_fieldLink_RX11_73__KeyLetters___dice___LKeyLetters_Dice__ := hts (.fieldLink RX11 73 "KeyLetters" "dice" "LKeyLetters$Dice;") (List.mem_of_getElem? (i := 7) rfl)
  have k_initialized_RX2 := hts (.initialized RX2) (List.mem_of_getElem? (i := 18) rfl)
  have k_initialized_RX9 := hts (.initialized RX9) (List.mem_of_getElem? (i := 13) rfl)
  have k_initialized__java_lang_Math_ := hts (.initialized "java/lang/Math") (List.mem_of_getElem? (i := 4) rfl)
  have k_instanceMethod_yX2_keep := hts (.instanceMethod yX2_keep) (List.mem_of_getElem? (i := 17) rfl)
  have k_instanceMethod_yX9_daysLeft := hts (.instanceMethod yX9_daysLeft) (List.mem_of_getElem? (i := 12) rfl)
  have k_instanceMethod_yX9_drawDays := hts (.instanceMethod yX9_drawDays) (List.mem_of_getElem? (i := 39) rfl)
  have k_methodLink_RX11_236_Lib_Math_min_name := hts (.methodLink RX11 236 Lib.Math.min.name) (List.mem_of_getElem? (i := 2) rfl)
  have k_selects_RX2_yX2_keep_yX2_keep := hts (.selects RX2 yX2_keep yX2_keep) (List.mem_of_getElem? (i := 19) rfl)
  have k_selects_RX9_yX9_daysLeft_yX9_daysLeft := hts (.selects RX9 yX9_daysLeft yX9_daysLeft) (List.mem_of_getElem? (i := 14) rfl)
  have k_selects_RX9_yX9_drawDays_yX9_drawDays := hts (.selects RX9 yX9_drawDays yX9_drawDays) (List.mem_of_getElem? (i := 40) rfl)
  have k_static_Lib_Math_min_name := hts (.static Lib.Math.min.name) (List.mem_of_getElem? (i := 3) rfl)
  have kldLink_RX11_38__KeyLetters___history___LKeyLetters_History__ := hts (.fieldLink RX11 38 "KeyLetters" "history" "LKeyLetters$History;") (List.mem_of_getElem? (i := 6) rfl)
  have hl := lv_entry ([.ref (raK 0), .int a0, .int a1]) (n := 4) (Nat.le_of_ble_eq_true rfl)
  rw [show entryFrame m args 4 = entryFrame m ([.ref (raK 0), .int a0, .int a1] : List Value).toArray 4 from by rw [hav], lg_entry_eq]
  generalize (lg_sl ([.ref (raK 0), .int a0, .int a1]) ++ List.replicate (4 - (lg_sl ([.ref (raK 0), .int a0, .int a1])).length) Slot.unset).toArray = ls at hl ⊢
  have hl : lv_has ls 4 [(0, .ref (raK 0)), (1, .int a0), (2, .int a1)] := hl
  unfold f_X11_drawn at hf
  refine lv_iload_n hx hb dX11_drawn_0 rfl (lv_at hl 1 rfl) ?_
  refine ko_call (v := some (.int (f_X11_isDays a0))) (va_runS (As := [.int a0]) (rest := []) ⟨hx, hb, hml, hown, hts⟩ (c_X11_isDays l dC dI cs ad a0 _ rfl) (va_cwS 1 hts gX11_drawn_X11_isDays rfl rfl rfl (by decide +kernel) ⟨Nat.le_of_ble_eq_true rfl, Nat.le_of_ble_eq_true rfl⟩) ⟨fun a U g mk q => ⟨q.1, (fun _ _ _ _ => cPr_bl) a U g mk q.2⟩, fun U hU hW => ⟨rfl, ⟨by rw [hU]; exact (hP.sub (ws' := ([] : va_W)) [] rfl), va_K.moved hW.alike hK, kN_warm hW hN⟩⟩⟩ rfl rfl hl.1 rfl (lv_room (Nat.le_of_ble_eq_true rfl)) dX11_drawn_1 ⟨Nat.le_refl _, Nat.le_refl _⟩) ?_
  refine lv_if_ne (tgt := 9) hx hb dX11_drawn_4 (by decide) (fun hb10 => ?_) (fun hb10 => ?_)
  · have hf := (if_neg hb10).symm.trans hf
    refine lv_iload_n hx hb dX11_drawn_9 rfl (lv_at hl 1 rfl) ?_
    refine lv_aload_n hx hb dX11_drawn_10 rfl (lv_at hl 0 rfl) ?_
    refine va_get (D := (dC, dI)) (ci := 11) (C := RX11) (T := TX11) (N := 19) hx hb hts hinX11 hown hK hP 0 rfl rfl 3 (by decide) (v := .ref (raC 0)) k_fieldLink_RX11_23__KeyLetters___scene___LKeyLetters_Scene__ (fun _ h9 => h9) rfl dX11_drawn_11 ?_
    refine va_getN (D := (dC, dI)) (ci := 8) (C := RX7) (T := TX7) (N := 3) hx hb hts hinX7 hown hK hP 1 rfl rfl 1 (by decide) (v := .ref (raS 0)) (va_Nw.use rfl (hN _ (List.mem_of_getElem? (i := 51) rfl))) (fun _ h9 => h9) rfl dX11_drawn_14 ?_
    refine ko_call (v := some (.int (f_X9_daysLeft S))) (va_runVN (As := []) (rest := [.int a0]) ⟨hx, hb, hml, hown, hts⟩ (c_X9_daysLeft l dC dI cs ad raS S _ rfl) ⟨va_cnB 0 hts gX11_drawn_X9_daysLeft_n233 rfl rfl rfl (hN _ (List.mem_of_getElem? (i := 104) rfl)) k_initialized_RX9 (by decide +kernel) ⟨Nat.le_of_ble_eq_true rfl, Nat.le_of_ble_eq_true rfl⟩, k_instanceMethod_yX9_daysLeft, k_selects_RX9_yX9_daysLeft_yX9_daysLeft⟩ ⟨fun a U g mk q => ⟨q.1, (fun _ _ _ _ => cPr_bl) a U g mk q.2⟩, va_recv hK hP (ci := 10) (q0 := 10) rfl rfl, fun U hU hW => ⟨rfl, ⟨by rw [hU]; exact (hP.sub (ws' := (ww_X9_daysLeft cs ad raS S)) [10, 11, 12, 13, 14] rfl), va_K.moved hW.alike hK, kN_warm hW hN⟩⟩⟩ rfl rfl hl.1 rfl (lv_room (Nat.le_of_ble_eq_true rfl)) dX11_drawn_17 ⟨Nat.le_refl _, Nat.le_refl _⟩) ?_
    refine va_mmin hx hb (hml.trans hl.1.symm) hown k_methodLink_RX11_236_Lib_Math_min_name k_static_Lib_Math_min_name k_initialized__java_lang_Math_ k_code_Lib_Math_min_name_Lib_Math_min_code_2__some__int_ (Nat.le_of_ble_eq_true rfl) (Nat.le_of_ble_eq_true rfl) (Nat.zero_le _) (Nat.zero_le _) dX11_drawn_20 ?_
    obtain ⟨v1, ev1, hf⟩ := bd1_e hf
    refine kt_i ev1 ?_
    refine lv_istore_n (nL := 4) (lv' := [(3, .int v1), (0, .ref (raK 0)), (1, .int a0), (2, .int a1)]) hx hb dX11_drawn_23 rfl hl (by decide) rfl (fun ls hl => ?_)
    refine lv_iload_n hx hb dX11_drawn_24 rfl (lv_at hl 0 rfl) ?_
    refine lv_if_le (tgt := 72) hx hb dX11_drawn_25 (by decide) (fun hb9 => ?_) (fun hb9 => ?_)
    · have hf := (if_pos hb9).symm.trans hf
      refine lv_iload_n hx hb dX11_drawn_72 rfl (lv_at hl 0 rfl) ?_
      have hf := Option.some.inj hf
      subst hf
      exact c_iret (v := v1) hx hb hr hlocks hP hK hD hS dX11_drawn_73
    · have hf := (if_neg hb9).symm.trans hf
      refine lv_aload_n hx hb dX11_drawn_28 rfl (lv_at hl 1 rfl) ?_
      refine va_get (D := (dC, dI)) (ci := 11) (C := RX11) (T := TX11) (N := 19) hx hb hts hinX11 hown hK hP 0 rfl rfl 6 (by decide) (v := .ref (raHy 0)) kldLink_RX11_38__KeyLetters___history___LKeyLetters_History__ (fun _ h9 => h9) rfl dX11_drawn_29 ?_
      refine lv_aload_n hx hb dX11_drawn_32 rfl (lv_at hl 1 rfl) ?_
      refine va_get (D := (dC, dI)) (ci := 11) (C := RX11) (T := TX11) (N := 19) hx hb hts hinX11 hown hK hP 0 rfl rfl 3 (by decide) (v := .ref (raC 0)) k_fieldLink_RX11_23__KeyLetters___scene___LKeyLetters_Scene__ (fun _ h9 => h9) rfl dX11_drawn_33 ?_
      refine va_getN (D := (dC, dI)) (ci := 8) (C := RX7) (T := TX7) (N := 3) hx hb hts hinX7 hown hK hP 1 rfl rfl 1 (by decide) (v := .ref (raS 0)) (va_Nw.use rfl (hN _ (List.mem_of_getElem? (i := 51) rfl))) (fun _ h9 => h9) rfl dX11_drawn_36 ?_
      obtain ⟨Hyv3, HSv4, hq2, hf⟩ := bo2_e hf
      refine g_callv (isC := [20, 21, 22, 23, 24, 25, 26, 27, 28, 29, 30, 31, 32, 33, 34, 35, 36, 37, 38, 39, 40, 41, 42, 43, 44, 45, 46, 47, 48, 49, 50, 51, 52, 53, 54, 55, 56, 57, 58, 59, 60, 61, 10, 11, 12, 13, 14]) (isR := [0, 1, 2, 3, 4, 5, 6, 7, 8, 9, 15, 16, 17, 18, 19, 62]) (wc := (ww_X2_keep cs ad raHy raHR raHS raS Hy HS S)) (wz := (ww_X2_keep cs ad raHy raHR raHS raS zD (fun _ => zD) zD)) (w1 := (ww_X2_keep cs ad raHy raHR raHS raS Hyv3 HSv4 S)) (ws' := (ww_X11_drawn cs ad raK raC raO raS raN raHy raHR raHS raD xK0 xK2 xK4 xK5 xK7 xK8 xK9 xK10 xK12 xK13 xK14 xK18 K C O S N Hyv3 HSv4 D)) (va_runVN (As := [.ref (raS 0)]) (rest := []) ⟨hx, hb, hml, hown, hts⟩ (c_X2_keep l dC dI cs ad raHy raHR raHS raS _ Hy HS S (Hyv3, HSv4) hq2) ⟨va_cnB 1 hts gX11_drawn_X2_keep_n241 rfl rfl rfl (hN _ (List.mem_of_getElem? (i := 101) rfl)) k_initialized_RX2 (by decide +kernel) ⟨Nat.le_of_ble_eq_true rfl, Nat.le_of_ble_eq_true rfl⟩, k_instanceMethod_yX2_keep, k_selects_RX2_yX2_keep_yX2_keep⟩ ⟨fun a U g mk q => ⟨q.1, (fun _ _ _ _ => cPw_bl) a U g mk q.2⟩, va_recv hK hP (ci := 3) (q0 := 20) rfl rfl, fun U hU hW => ⟨rfl, ⟨by rw [hU], by rw [hU]; exact (hP.sub (ws' := (ww_X2_keep cs ad raHy raHR raHS raS Hy HS S)) [20, 21, 22, 23, 24, 25, 26, 27, 28, 29, 30, 31, 32, 33, 34, 35, 36, 37, 38, 39, 40, 41, 42, 43, 44, 45, 46, 47, 48, 49, 50, 51, 52, 53, 54, 55, 56, 57, 58, 59, 60, 61, 10, 11, 12, 13, 14] rfl), va_K.moved hW.alike hK, (hD.sub (ws' := (ww_X2_keep cs ad raHy raHR raHS raS Hy HS S)) [20, 21, 22, 23, 24, 25, 26, 27, 28, 29, 30, 31, 32, 33, 34, 35, 36, 37, 38, 39, 40, 41, 42, 43, 44, 45, 46, 47, 48, 49, 50, 51, 52, 53, 54, 55, 56, 57, 58, 59, 60, 61, 10, 11, 12, 13, 14] (by decide) rfl).weaken (fun _ _ _ _ => trivial), kN_warm hW hN⟩⟩⟩ rfl rfl hl.1 rfl (lv_room (Nat.le_of_ble_eq_true rfl)) dX11_drawn_39 ⟨Nat.le_refl _, Nat.le_refl _⟩) hP hD hS hA rfl rfl (wr := ((wX11 cs ad raK xK0 xK2 (raC 0) xK4 xK5 (raHy 0) xK7 xK8 xK9 xK10 (raD 0) xK12 xK13 xK14 xK18 K) ++ ((wX7 cs ad raC (raO 0) (raS 0) (raN 0) C) ++ ((wX3 cs ad raO O) ++ ((wX8 cs ad raN N) ++ ((wX1 cs ad raD D))))))) rfl rfl rfl (nw := 63) rfl (by decide +kernel) rfl (fun H locs hP hD hS => ?_)
      refine lv_aload_n hx hb dX11_drawn_42 rfl (lv_at hl 1 rfl) ?_
      refine va_get (D := (dC, dI)) (ci := 11) (C := RX11) (T := TX11) (N := 19) hx hb hts hinX11 hown hK hP 0 rfl rfl 11 (by decide) (v := .ref (raD 0)) k_fieldLink_RX11_73__KeyLetters___dice___LKeyLetters_Dice__ (fun _ h9 => h9) rfl dX11_drawn_43 ?_
      refine lv_iload_n hx hb dX11_drawn_46 rfl (lv_at hl 3 rfl) ?_
      obtain ⟨Dv5, eDv5, hf⟩ := bd1_e hf
      refine g_putN (D := (dC, dI)) (ci := 2) (C := RX1) (T := TX1) (N := 1) hx hb hts hinX1 tyX1 tyX1_ok nmX1 hown hK hP hD hS 62 rfl rfl 0 (by decide) (va_Nw.use rfl (hN _ (List.mem_of_getElem? (i := 63) rfl))) (fun _ h9 => h9) rfl (ty := .int) (v := .int a1) (by decide +kernel) rfl rfl (Nat.le_of_ble_eq_true rfl) (ws' := (ww_X11_drawn cs ad raK raC raO raS raN raHy raHR raHS raD xK0 xK2 xK4 xK5 xK7 xK8 xK9 xK10 xK12 xK13 xK14 xK18 K C O S N Hyv3 HSv4 Dv5)) (by rw [eDv5]; rfl) dX11_drawn_47 (fun H locs hP hD hS => ?_)
      refine lv_aload_n hx hb dX11_drawn_50 rfl (lv_at hl 1 rfl) ?_
      refine va_get (D := (dC, dI)) (ci := 11) (C := RX11) (T := TX11) (N := 19) hx hb hts hinX11 hown hK hP 0 rfl rfl 3 (by decide) (v := .ref (raC 0)) k_fieldLink_RX11_23__KeyLetters___scene___LKeyLetters_Scene__ (fun _ h9 => h9) rfl dX11_drawn_51 ?_
      refine va_getN (D := (dC, dI)) (ci := 8) (C := RX7) (T := TX7) (N := 3) hx hb hts hinX7 hown hK hP 1 rfl rfl 1 (by decide) (v := .ref (raS 0)) (va_Nw.use rfl (hN _ (List.mem_of_getElem? (i := 51) rfl))) (fun _ h9 => h9) rfl dX11_drawn_54 ?_
      refine lv_aload_n hx hb dX11_drawn_57 rfl (lv_at hl 1 rfl) ?_
      refine va_get (D := (dC, dI)) (ci := 11) (C := RX11) (T := TX11) (N := 19) hx hb hts hinX11 hown hK hP 0 rfl rfl 3 (by decide) (v := .ref (raC 0)) k_fieldLink_RX11_23__KeyLetters___scene___LKeyLetters_Scene__ (fun _ h9 => h9) rfl dX11_drawn_58 ?_
      refine va_getN (D := (dC, dI)) (ci := 8) (C := RX7) (T := TX7) (N := 3) hx hb hts hinX7 hown hK hP 1 rfl rfl 0 (by decide) (v := .ref (raO 0)) (va_Nw.use rfl (hN _ (List.mem_of_getElem? (i := 50) rfl))) (fun _ h9 => h9) rfl dX11_drawn_61 ?_
      refine lv_aload_n hx hb dX11_drawn_64 rfl (lv_at hl 1 rfl) ?_
      refine va_get (D := (dC, dI)) (ci := 11) (C := RX11) (T := TX11) (N := 19) hx hb hts hinX11 hown hK hP 0 rfl rfl 11 (by decide) (v := .ref (raD 0)) k_fieldLink_RX11_73__KeyLetters___dice___LKeyLetters_Dice__ (fun _ h9 => h9) rfl dX11_drawn_65 ?_
      refine lv_iload_n hx hb dX11_drawn_68 rfl (lv_at hl 0 rfl) ?_
      obtain ⟨Sv7, Dv8, hq6, hf⟩ := bo2_e hf
      refine g_callv (isC := [10, 11, 12, 13, 14, 2, 3, 4, 5, 6, 7, 8, 9, 62]) (isR := [0, 1, 15, 16, 17, 18, 19, 20, 21, 22, 23, 24, 25, 26, 27, 28, 29, 30, 31, 32, 33, 34, 35, 36, 37, 38, 39, 40, 41, 42, 43, 44, 45, 46, 47, 48, 49, 50, 51, 52, 53, 54, 55, 56, 57, 58, 59, 60, 61]) (wc := (ww_X9_drawDays cs ad raS raO raD S O Dv5)) (wz := (ww_X9_drawDays cs ad raS raO raD zD zD zD)) (w1 := (ww_X9_drawDays cs ad raS raO raD Sv7 O Dv8)) (ws' := (ww_X11_drawn cs ad raK raC raO raS raN raHy raHR raHS raD xK0 xK2 xK4 xK5 xK7 xK8 xK9 xK10 xK12 xK13 xK14 xK18 K C O Sv7 N Hyv3 HSv4 Dv8)) (va_runVN (As := [.ref (raO 0), .ref (raD 0), .int v1]) (rest := []) ⟨hx, hb, hml, hown, hts⟩ (c_X9_drawDays l dC dI cs ad raS raO raD _ S O Dv5 v1 (Sv7, Dv8) hq6) ⟨va_cnB 3 hts gX11_drawn_X9_drawDays_n350 rfl rfl rfl (hN _ (List.mem_of_getElem? (i := 118) rfl)) k_initialized_RX9 (by decide +kernel) ⟨Nat.le_of_ble_eq_true rfl, Nat.le_of_ble_eq_true rfl⟩, k_instanceMethod_yX9_drawDays, k_selects_RX9_yX9_drawDays_yX9_drawDays⟩ ⟨fun a U g mk q => ⟨q.1, (fun _ _ _ _ => cPw_bl) a U g mk q.2⟩, va_recv hK hP (ci := 10) (q0 := 10) rfl rfl, fun U hU hW => ⟨rfl, ⟨by rw [hU], by rw [hU]; exact (hP.sub (ws' := (ww_X9_drawDays cs ad raS raO raD S O Dv5)) [10, 11, 12, 13, 14, 2, 3, 4, 5, 6, 7, 8, 9, 62] rfl), va_K.moved hW.alike hK, (hD.sub (ws' := (ww_X9_drawDays cs ad raS raO raD S O Dv5)) [10, 11, 12, 13, 14, 2, 3, 4, 5, 6, 7, 8, 9, 62] (by decide) rfl).weaken (fun _ _ _ _ => trivial), kN_warm hW hN⟩⟩⟩ rfl rfl hl.1 rfl (lv_room (Nat.le_of_ble_eq_true rfl)) dX11_drawn_69 ⟨Nat.le_refl _, Nat.le_refl _⟩) hP hD hS hA rfl rfl (wr := ((wX11 cs ad raK xK0 xK2 (raC 0) xK4 xK5 (raHy 0) xK7 xK8 xK9 xK10 (raD 0) xK12 xK13 xK14 xK18 K) ++ ((wX7 cs ad raC (raO 0) (raS 0) (raN 0) C) ++ ((wX8 cs ad raN N) ++ ((wX2 cs ad raHy raHR Hyv3) ++ (([(raHR, .inl (cs 5, 8, .inr (.inr (.inr (.inr (fun j => some (raHS j 0)))))))]) ++ ((wX9x8 cs ad raHS HSv4)))))))) rfl rfl rfl (nw := 63) rfl (by decide +kernel) rfl (fun H locs hP hD hS => ?_)
      refine lv_iload_n hx hb dX11_drawn_72 rfl (lv_at hl 0 rfl) ?_
      have hf := Option.some.inj hf
      subst hf
      exact c_iret (v := v1) hx hb hr hlocks hP hK hD hS dX11_drawn_73
  · have hf := (if_pos hb10).symm.trans hf
    refine lv_iconst (v := -1) hx hb dX11_drawn_7 (by decide) ?_
    have hf := Option.some.inj hf
    subst hf
    exact c_iret (v := (-1 : Int32)) hx hb hr hlocks hP hK hD hS dX11_drawn_8

def ww_X11_odds (cs : Nat → ClassId) (ad : Nat → Nat) (raK : Nat → Nat) (raC : Nat → Nat) (raO : Nat → Nat) (raS : Nat → Nat) (raN : Nat → Nat) (raTR : Nat → Nat) (raD : Nat → Nat) (xK0 : Nat) (xK2 : Nat) (xK4 : Nat) (xK5 : Nat) (xK6 : Nat) (xK7 : Nat) (xK8 : Nat) (xK9 : Nat) (xK12 : Nat) (xK13 : Nat) (xK14 : Nat) (xK18 : Nat) (K : kD) (C : kD) (O : kD) (S : kD) (N : kD) (TR : kD) (D : kD) : va_W := (wX11 cs ad raK xK0 xK2 (raC 0) xK4 xK5 xK6 xK7 xK8 xK9 (raTR 0) (raD 0) xK12 xK13 xK14 xK18 K ++ (wX7 cs ad raC (raO 0) (raS 0) (raN 0) C ++ (wX3 cs ad raO O ++ (wX9 cs ad raS S ++ (wX8 cs ad raN N ++ (wX9 cs ad raTR TR ++ (wX1 cs ad raD D)))))))
abbrev rm_X11_odds : Room := { frames := 7, cells := 0, slots := 0, locals := 162 }
set_option maxHeartbeats 4000000 in
set_option maxRecDepth 100000 in
theorem c_X11_odds (l : Launch) (dC : Nat → ClassId) (dI : Nat → Nat → Nat) (cs : Nat → ClassId) (ad : Nat → Nat) (raK : Nat → Nat) (raC : Nat → Nat) (raO : Nat → Nat) (raS : Nat → Nat) (raN : Nat → Nat) (raTR : Nat → Nat) (raD : Nat → Nat) (xK0 : Nat) (xK2 : Nat) (xK4 : Nat) (xK5 : Nat) (xK6 : Nat) (xK7 : Nat) (xK8 : Nat) (xK9 : Nat) (xK12 : Nat) (xK13 : Nat) (xK14 : Nat) (xK18 : Nat) (sz : Nat) (K : kD) (C : kD) (O : kD) (S : kD) (N : kD) (TR : kD) (D : kD) (a0 : Int32) (a1 : Int32) (a2 : Int32) (r : Int32 × kD × kD) (hf : f_X11_odds a0 a1 a2 K C O S N TR D = some r) : Met l yX11_odds wsX11_odds rm_X11_odds (va_Pc [.ref (raK 0), .int a0, .int a1, .int a2] (cPw dC dI cs sz (ww_X11_odds cs ad raK raC raO raS raN raTR raD xK0 xK2 xK4 xK5 xK6 xK7 xK8 xK9 xK12 xK13 xK14 xK18 K C O S N TR D))) (cQi dC dI cs (va_A (ww_X11_odds cs ad raK raC raO raS raN raTR raD xK0 xK2 xK4 xK5 xK6 xK7 xK8 xK9 xK12 xK13 xK14 xK18 zD zD zD zD zD zD zD) sz) r.1 (ww_X11_odds cs ad raK raC raO raS raN raTR raD xK0 xK2 xK4 xK5 xK6 xK7 xK8 xK9 xK12 xK13 xK14 xK18 K C O S N r.2.1 r.2.2)) 0 0 (va_A (ww_X11_odds cs ad raK raC raO raS raN raTR raD xK0 xK2 xK4 xK5 xK6 xK7 xK8 xK9 xK12 xK13 xK14 xK18 zD zD zD zD zD zD zD) sz) := by
  refine Met.ofW (cc := cX11_odds) (maxL := 6) (ret := (some .int)) (by decide) rfl ?_
  intro p e s m args below meth c s₁ B hml hv
  obtain ⟨hav, hsz, hP, hK, hD0, hN⟩ := hv
  have hx := B.exec
  have hb := B.bytes
  have hr := B.returns
  have hts := atoms_spec (ws := wsX11_odds) B.pre
  have hown : s.vm.findClass RX11 = some m.cls := findClass_of_methodNamed B.named
  have hlocks := B.notSynchronized
  subst hsz
  have hA : ∀ q, s.heap.size ≤ q → va_A (ww_X11_odds cs ad raK raC raO raS raN raTR raD xK0 xK2 xK4 xK5 xK6 xK7 xK8 xK9 xK12 xK13 xK14 xK18 zD zD zD zD zD zD zD) s.heap.size q := fun q h => Or.inr h
  have hD : va_D (va_A (ww_X11_odds cs ad raK raC raO raS raN raTR raD xK0 xK2 xK4 xK5 xK6 xK7 xK8 xK9 xK12 xK13 xK14 xK18 zD zD zD zD zD zD zD) s.heap.size) (ww_X11_odds cs ad raK raC raO raS raN raTR raD xK0 xK2 xK4 xK5 xK6 xK7 xK8 xK9 xK12 xK13 xK14 xK18 K C O S N TR D) := hD0.weaken (fun k q h _ => cA_in (ws := (ww_X11_odds cs ad raK raC raO raS raN raTR raD xK0 xK2 xK4 xK5 xK6 xK7 xK8 xK9 xK12 xK13 xK14 xK18 K C O S N TR D)) (ws' := (ww_X11_odds cs ad raK raC raO raS raN raTR raD xK0 xK2 xK4 xK5 xK6 xK7 xK8 xK9 xK12 xK13 xK14 xK18 zD zD zD zD zD zD zD)) rfl h)
  have hS : va_S (va_A (ww_X11_odds cs ad raK raC raO raS raN raTR raD xK0 xK2 xK4 xK5 xK6 xK7 xK8 xK9 xK12 xK13 xK14 xK18 zD zD zD zD zD zD zD) s.heap.size) s.heap s.heap [] := va_S.rf
  have hinX1 := (show ∀ w ∈ wsX10, w ∈ wsX11_odds from fun w h => List.mem_cons_of_mem _ (List.mem_append_left _ (List.mem_append_left _ (List.mem_append_right _ h))))
  have hinX11 := (show ∀ w ∈ wsX110, w ∈ wsX11_odds from fun w h => List.mem_cons_of_mem _ (List.mem_append_left _ (List.mem_append_left _ (List.mem_append_left _ (List.mem_append_left _ (List.mem_append_right _ h))))))
  have hinX7 := (show ∀ w ∈ wsX70, w ∈ wsX11_odds from fun w h => List.mem_cons_of_mem _ (List.mem_append_left _ (List.mem_append_left _ (List.mem_append_left _ (List.mem_append_right _ h)))))
  have hinX9 := (show ∀ w ∈ wsX90, w ∈ wsX11_odds from fun w h => List.mem_cons_of_mem _ (List.mem_append_left _ (List.mem_append_right _ h)))
  have k_fieldLink_RX11_23__KeyLetters___scene___LKeyLetters_Scene__ := hts (.fieldLink RX11 23 "KeyLetters" "scene" "LKeyLetters$Scene;") (List.mem_of_getElem? (i := 1) rfl)
  have k_fieldLink_RX11_66__KeyLetters___trial___LKeyLetters_State__ := hts (.fieldLink RX11 66 "KeyLetters" "trial" "LKeyLetters$State;") (List.mem_of_getElem? (i := 2) rfl)
  have k_fieldLink_RX11_73__KeyLetters___dice___LKeyLetters_Dice__ := hts (.fieldLink RX11 73 "KeyLetters" "dice" "LKeyLetters$Dice;") (List.mem_of_getElem? (i := 3) rfl)
  have k_initialized_RX3 := hts (.initialized RX3) (List.mem_of_getElem? (i := 5) rfl)
  have k_initialized_RX9 := hts (.initialized RX9) (List.mem_of_getElem? (i := 10) rfl)
  have k_instanceMethod_yX3_hasMachine := hts (.instanceMethod yX3_hasMachine) (List.mem_of_getElem? (i := 4) rfl)
  have k_instanceMethod_yX9_copyFrom := hts (.instanceMethod yX9_copyFrom) (List.mem_of_getElem? (i := 9) rfl)
  have k_instanceMethod_yX9_drawDays := hts (.instanceMethod yX9_drawDays) (List.mem_of_getElem? (i := 26) rfl)
  have k_selects_RX3_yX3_hasMachine_yX3_hasMachine := hts (.selects RX3 yX3_hasMachine yX3_hasMachine) (List.mem_of_getElem? (i := 6) rfl)
  have k_selects_RX9_yX9_copyFrom_yX9_copyFrom := hts (.selects RX9 yX9_copyFrom yX9_copyFrom) (List.mem_of_getElem? (i := 11) rfl)
  have k_selects_RX9_yX9_drawDays_yX9_drawDays := hts (.selects RX9 yX9_drawDays yX9_drawDays) (List.mem_of_getElem? (i := 27) rfl)
  have hl := lv_entry ([.ref (raK 0), .int a0, .int a1, .int a2]) (n := 6) (Nat.le_of_ble_eq_true rfl)
  rw [show entryFrame m args 6 = entryFrame m ([.ref (raK 0), .int a0, .int a1, .int a2] : List Value).toArray 6 from by rw [hav], lg_entry_eq]
  generalize (lg_sl ([.ref (raK 0), .int a0, .int a1, .int a2]) ++ List.replicate (6 - (lg_sl ([.ref (raK 0), .int a0, .int a1, .int a2])).length) Slot.unset).toArray = ls at hl ⊢
  have hl : lv_has ls 6 [(0, .ref (raK 0)), (1, .int a0), (2, .int a1), (3, .int a2)] := hl
  unfold f_X11_odds at hf
  have h_33 := lp_ind (z := (fun _ _ _ _ _ _ _ => none)) (b := (g_X11_odds_33 K C O S N)) (fun (rc_33 : Int32 → Int32 → Int32 → Int32 → Int32 → kD → kD → Option (Int32 × kD × kD)) => ∀ (x1_33 : Int32) (x2_33 : Int32) (x3_33 : Int32) (x4_33 : Int32) (x5_33 : Int32) (TR_33 : kD) (D_33 : kD) (ls : Array Slot) (H : Heap) (locs : List Loc), lv_has ls 6 [(0, .ref (raK 0)), (1, .int x1_33), (2, .int x2_33), (3, .int x3_33), (4, .int x4_33), (5, .int x5_33)] → va_P (dC, dI) vwCl (ww_X11_odds cs ad raK raC raO raS raN raTR raD xK0 xK2 xK4 xK5 xK6 xK7 xK8 xK9 xK12 xK13 xK14 xK18 K C O S N TR_33 D_33) H → va_D (va_A (ww_X11_odds cs ad raK raC raO raS raN raTR raD xK0 xK2 xK4 xK5 xK6 xK7 xK8 xK9 xK12 xK13 xK14 xK18 zD zD zD zD zD zD zD) s.heap.size) (ww_X11_odds cs ad raK raC raO raS raN raTR raD xK0 xK2 xK4 xK5 xK6 xK7 xK8 xK9 xK12 xK13 xK14 xK18 K C O S N TR_33 D_33) → va_S (va_A (ww_X11_odds cs ad raK raC raO raS raN raTR raD xK0 xK2 xK4 xK5 xK6 xK7 xK8 xK9 xK12 xK13 xK14 xK18 zD zD zD zD zD zD zD) s.heap.size) s.heap H locs → rc_33 x1_33 x2_33 x3_33 x4_33 x5_33 TR_33 D_33 = some r → W p l e (headSpec wsX11_odds rm_X11_odds).room s m args below meth c H locs 0 0 (MQ below (cQi dC dI cs (va_A (ww_X11_odds cs ad raK raC raO raS raN raTR raD xK0 xK2 xK4 xK5 xK6 xK7 xK8 xK9 xK12 xK13 xK14 xK18 zD zD zD zD zD zD zD) s.heap.size) r.1 (ww_X11_odds cs ad raK raC raO raS raN raTR raD xK0 xK2 xK4 xK5 xK6 xK7 xK8 xK9 xK12 xK13 xK14 xK18 K C O S N r.2.1 r.2.2)) args s 0 0 (va_A (ww_X11_odds cs ad raK raC raO raS raN raTR raD xK0 xK2 xK4 xK5 xK6 xK7 xK8 xK9 xK12 xK13 xK14 xK18 zD zD zD zD zD zD zD) s.heap.size)) (F0 m 33 ls [])) (by
      intro x1_33 x2_33 x3_33 x4_33 x5_33 TR_33 D_33 ls H locs hl hP hD hS hf
      cases hf) (by
      intro rc_33 ih_33 x1_33 x2_33 x3_33 x4_33 x5_33 TR_33 D_33 ls H locs hl hP hD hS hf
      unfold g_X11_odds_33 at hf
      have h_111 : ∀ (x1_111 : Int32) (x2_111 : Int32) (x3_111 : Int32) (x4_111 : Int32) (x5_111 : Int32) (TR_111 : kD) (D_111 : kD) (ls : Array Slot) (H : Heap) (locs : List Loc), lv_has ls 6 [(0, .ref (raK 0)), (1, .int x1_111), (2, .int x2_111), (3, .int x3_111), (4, .int x4_111), (5, .int x5_111)] → va_P (dC, dI) vwCl (ww_X11_odds cs ad raK raC raO raS raN raTR raD xK0 xK2 xK4 xK5 xK6 xK7 xK8 xK9 xK12 xK13 xK14 xK18 K C O S N TR_111 D_111) H → va_D (va_A (ww_X11_odds cs ad raK raC raO raS raN raTR raD xK0 xK2 xK4 xK5 xK6 xK7 xK8 xK9 xK12 xK13 xK14 xK18 zD zD zD zD zD zD zD) s.heap.size) (ww_X11_odds cs ad raK raC raO raS raN raTR raD xK0 xK2 xK4 xK5 xK6 xK7 xK8 xK9 xK12 xK13 xK14 xK18 K C O S N TR_111 D_111) → va_S (va_A (ww_X11_odds cs ad raK raC raO raS raN raTR raD xK0 xK2 xK4 xK5 xK6 xK7 xK8 xK9 xK12 xK13 xK14 xK18 zD zD zD zD zD zD zD) s.heap.size) s.heap H locs → g_X11_odds_111 rc_33 K C O S N x1_111 x2_111 x3_111 x4_111 x5_111 TR_111 D_111 = some r → W p l e (headSpec wsX11_odds rm_X11_odds).room s m args below meth c H locs 0 0 (MQ below (cQi dC dI cs (va_A (ww_X11_odds cs ad raK raC raO raS raN raTR raD xK0 xK2 xK4 xK5 xK6 xK7 xK8 xK9 xK12 xK13 xK14 xK18 zD zD zD zD zD zD zD) s.heap.size) r.1 (ww_X11_odds cs ad raK raC raO raS raN raTR raD xK0 xK2 xK4 xK5 xK6 xK7 xK8 xK9 xK12 xK13 xK14 xK18 K C O S N r.2.1 r.2.2)) args s 0 0 (va_A (ww_X11_odds cs ad raK raC raO raS raN raTR raD xK0 xK2 xK4 xK5 xK6 xK7 xK8 xK9 xK12 xK13 xK14 xK18 zD zD zD zD zD zD zD) s.heap.size)) (F0 m 111 ls []) := by
        intro x1_111 x2_111 x3_111 x4_111 x5_111 TR_111 D_111 ls H locs hl hP hD hS hf
        unfold g_X11_odds_111 at hf
        obtain ⟨v1, ev1, hf⟩ := bd1_e hf
        refine lv_iinc (k := 5) (x := x5_111) (v := v1) (nL := 6) (lv' := [(5, .int v1), (0, .ref (raK 0)), (1, .int x1_111), (2, .int x2_111), (3, .int x3_111), (4, .int x4_111)]) hx hb dX11_odds_111 hl rfl (kt_inc (w := 1) (by decide) ev1) (by decide) rfl (fun ls hl => ?_)
        refine lv_goto (tgt := 33) hx hb dX11_odds_114 (by decide) ?_
        exact ih_33 x1_111 x2_111 x3_111 x4_111 v1 TR_111 D_111 ls _ _ (lv_sub hl [1, 2, 3, 4, 5, 0] rfl) hP hD hS hf
      refine lv_iload hx hb dX11_odds_33 (lv_at hl 5 rfl) ?_
      refine lv_iload_n hx hb dX11_odds_35 rfl (lv_at hl 2 rfl) ?_
      refine lv_icmp_ge (tgt := 117) hx hb dX11_odds_36 (by decide) (fun hb12 => ?_) (fun hb12 => ?_)
      · have hf := (if_pos hb12).symm.trans hf
        refine lv_iload hx hb dX11_odds_117 (lv_at hl 4 rfl) ?_
        have hf := Option.some.inj hf
        subst hf
        exact c_iret (v := x4_33) hx hb hr hlocks hP hK hD hS dX11_odds_119
      · have hf := (if_neg hb12).symm.trans hf
        refine lv_aload_n hx hb dX11_odds_39 rfl (lv_at hl 0 rfl) ?_
        refine va_get (D := (dC, dI)) (ci := 11) (C := RX11) (T := TX11) (N := 19) hx hb hts hinX11 hown hK hP 0 rfl rfl 10 (by decide) (v := .ref (raTR 0)) k_fieldLink_RX11_66__KeyLetters___trial___LKeyLetters_State__ (fun _ h9 => h9) rfl dX11_odds_40 ?_
        refine lv_aload_n hx hb dX11_odds_43 rfl (lv_at hl 0 rfl) ?_
        refine va_get (D := (dC, dI)) (ci := 11) (C := RX11) (T := TX11) (N := 19) hx hb hts hinX11 hown hK hP 0 rfl rfl 3 (by decide) (v := .ref (raC 0)) k_fieldLink_RX11_23__KeyLetters___scene___LKeyLetters_Scene__ (fun _ h9 => h9) rfl dX11_odds_44 ?_
        refine va_getN (D := (dC, dI)) (ci := 8) (C := RX7) (T := TX7) (N := 3) hx hb hts hinX7 hown hK hP 1 rfl rfl 1 (by decide) (v := .ref (raS 0)) (va_Nw.use rfl (hN _ (List.mem_of_getElem? (i := 51) rfl))) (fun _ h9 => h9) rfl dX11_odds_47 ?_
        obtain ⟨TRv3, hq2, hf⟩ := bo_e hf
        refine g_callv (isC := [20, 21, 22, 23, 24, 10, 11, 12, 13, 14]) (isR := [0, 1, 2, 3, 4, 5, 6, 7, 8, 9, 15, 16, 17, 18, 19, 25]) (wc := (ww_X9_copyFrom cs ad raTR raS TR_33 S)) (wz := (ww_X9_copyFrom cs ad raTR raS zD zD)) (w1 := (ww_X9_copyFrom cs ad raTR raS TRv3 S)) (ws' := (ww_X11_odds cs ad raK raC raO raS raN raTR raD xK0 xK2 xK4 xK5 xK6 xK7 xK8 xK9 xK12 xK13 xK14 xK18 K C O S N TRv3 D_33)) (va_runVN (As := [.ref (raS 0)]) (rest := []) ⟨hx, hb, hml, hown, hts⟩ (c_X9_copyFrom l dC dI cs ad raTR raS _ TR_33 S TRv3 hq2) ⟨va_cnB 1 hts gX11_odds_X9_copyFrom_n264 rfl rfl rfl (hN _ (List.mem_of_getElem? (i := 111) rfl)) k_initialized_RX9 (by decide +kernel) ⟨Nat.le_of_ble_eq_true rfl, Nat.le_of_ble_eq_true rfl⟩, k_instanceMethod_yX9_copyFrom, k_selects_RX9_yX9_copyFrom_yX9_copyFrom⟩ ⟨fun a U g mk q => ⟨q.1, (fun _ _ _ _ => cPw_bl) a U g mk q.2⟩, va_recv hK hP (ci := 10) (q0 := 20) rfl rfl, fun U hU hW => ⟨rfl, ⟨by rw [hU], by rw [hU]; exact (hP.sub (ws' := (ww_X9_copyFrom cs ad raTR raS TR_33 S)) [20, 21, 22, 23, 24, 10, 11, 12, 13, 14] rfl), va_K.moved hW.alike hK, (hD.sub (ws' := (ww_X9_copyFrom cs ad raTR raS TR_33 S)) [20, 21, 22, 23, 24, 10, 11, 12, 13, 14] (by decide) rfl).weaken (fun _ _ _ _ => trivial), kN_warm hW hN⟩⟩⟩ rfl rfl hl.1 rfl (lv_room (Nat.le_of_ble_eq_true rfl)) dX11_odds_50 ⟨Nat.le_refl _, Nat.le_refl _⟩) hP hD hS hA rfl rfl (wr := ((wX11 cs ad raK xK0 xK2 (raC 0) xK4 xK5 xK6 xK7 xK8 xK9 (raTR 0) (raD 0) xK12 xK13 xK14 xK18 K) ++ ((wX7 cs ad raC (raO 0) (raS 0) (raN 0) C) ++ ((wX3 cs ad raO O) ++ ((wX8 cs ad raN N) ++ ((wX1 cs ad raD D_33))))))) rfl rfl rfl (nw := 26) rfl (by decide +kernel) rfl (fun H locs hP hD hS => ?_)
        refine lv_aload_n hx hb dX11_odds_53 rfl (lv_at hl 0 rfl) ?_
        refine va_get (D := (dC, dI)) (ci := 11) (C := RX11) (T := TX11) (N := 19) hx hb hts hinX11 hown hK hP 0 rfl rfl 11 (by decide) (v := .ref (raD 0)) k_fieldLink_RX11_73__KeyLetters___dice___LKeyLetters_Dice__ (fun _ h9 => h9) rfl dX11_odds_54 ?_
        refine lv_iload_n hx hb dX11_odds_57 rfl (lv_at hl 3 rfl) ?_
        refine lv_iload hx hb dX11_odds_58 (lv_at hl 5 rfl) ?_
        refine lv_iadd hx hb dX11_odds_60 ?_
        obtain ⟨Dv4, eDv4, hf⟩ := bd1_e hf
        refine g_putN (D := (dC, dI)) (ci := 2) (C := RX1) (T := TX1) (N := 1) hx hb hts hinX1 tyX1 tyX1_ok nmX1 hown hK hP hD hS 25 rfl rfl 0 (by decide) (va_Nw.use rfl (hN _ (List.mem_of_getElem? (i := 63) rfl))) (fun _ h9 => h9) rfl (ty := .int) (v := .int (x3_33 + x5_33)) (by decide +kernel) rfl rfl (Nat.le_of_ble_eq_true rfl) (ws' := (ww_X11_odds cs ad raK raC raO raS raN raTR raD xK0 xK2 xK4 xK5 xK6 xK7 xK8 xK9 xK12 xK13 xK14 xK18 K C O S N TRv3 Dv4)) (by rw [eDv4]; rfl) dX11_odds_61 (fun H locs hP hD hS => ?_)
        refine lv_aload_n hx hb dX11_odds_64 rfl (lv_at hl 0 rfl) ?_
        refine va_get (D := (dC, dI)) (ci := 11) (C := RX11) (T := TX11) (N := 19) hx hb hts hinX11 hown hK hP 0 rfl rfl 10 (by decide) (v := .ref (raTR 0)) k_fieldLink_RX11_66__KeyLetters___trial___LKeyLetters_State__ (fun _ h9 => h9) rfl dX11_odds_65 ?_
        refine lv_aload_n hx hb dX11_odds_68 rfl (lv_at hl 0 rfl) ?_
        refine va_get (D := (dC, dI)) (ci := 11) (C := RX11) (T := TX11) (N := 19) hx hb hts hinX11 hown hK hP 0 rfl rfl 3 (by decide) (v := .ref (raC 0)) k_fieldLink_RX11_23__KeyLetters___scene___LKeyLetters_Scene__ (fun _ h9 => h9) rfl dX11_odds_69 ?_
        refine va_getN (D := (dC, dI)) (ci := 8) (C := RX7) (T := TX7) (N := 3) hx hb hts hinX7 hown hK hP 1 rfl rfl 0 (by decide) (v := .ref (raO 0)) (va_Nw.use rfl (hN _ (List.mem_of_getElem? (i := 50) rfl))) (fun _ h9 => h9) rfl dX11_odds_72 ?_
        refine lv_aload_n hx hb dX11_odds_75 rfl (lv_at hl 0 rfl) ?_
        refine va_get (D := (dC, dI)) (ci := 11) (C := RX11) (T := TX11) (N := 19) hx hb hts hinX11 hown hK hP 0 rfl rfl 11 (by decide) (v := .ref (raD 0)) k_fieldLink_RX11_73__KeyLetters___dice___LKeyLetters_Dice__ (fun _ h9 => h9) rfl dX11_odds_76 ?_
        refine lv_bipush (v := 10) hx hb dX11_odds_79 (by decide) ?_
        obtain ⟨TRv6, Dv7, hq5, hf⟩ := bo2_e hf
        refine g_callv (isC := [20, 21, 22, 23, 24, 2, 3, 4, 5, 6, 7, 8, 9, 25]) (isR := [0, 1, 10, 11, 12, 13, 14, 15, 16, 17, 18, 19]) (wc := (ww_X9_drawDays cs ad raTR raO raD TRv3 O Dv4)) (wz := (ww_X9_drawDays cs ad raTR raO raD zD zD zD)) (w1 := (ww_X9_drawDays cs ad raTR raO raD TRv6 O Dv7)) (ws' := (ww_X11_odds cs ad raK raC raO raS raN raTR raD xK0 xK2 xK4 xK5 xK6 xK7 xK8 xK9 xK12 xK13 xK14 xK18 K C O S N TRv6 Dv7)) (va_runVN (As := [.ref (raO 0), .ref (raD 0), .int (10 : Int32)]) (rest := []) ⟨hx, hb, hml, hown, hts⟩ (c_X9_drawDays l dC dI cs ad raTR raO raD _ TRv3 O Dv4 (10 : Int32) (TRv6, Dv7) hq5) ⟨va_cnB 3 hts gX11_odds_X9_drawDays_n350 rfl rfl rfl (hN _ (List.mem_of_getElem? (i := 118) rfl)) k_initialized_RX9 (by decide +kernel) ⟨Nat.le_of_ble_eq_true rfl, Nat.le_of_ble_eq_true rfl⟩, k_instanceMethod_yX9_drawDays, k_selects_RX9_yX9_drawDays_yX9_drawDays⟩ ⟨fun a U g mk q => ⟨q.1, (fun _ _ _ _ => cPw_bl) a U g mk q.2⟩, va_recv hK hP (ci := 10) (q0 := 20) rfl rfl, fun U hU hW => ⟨rfl, ⟨by rw [hU], by rw [hU]; exact (hP.sub (ws' := (ww_X9_drawDays cs ad raTR raO raD TRv3 O Dv4)) [20, 21, 22, 23, 24, 2, 3, 4, 5, 6, 7, 8, 9, 25] rfl), va_K.moved hW.alike hK, (hD.sub (ws' := (ww_X9_drawDays cs ad raTR raO raD TRv3 O Dv4)) [20, 21, 22, 23, 24, 2, 3, 4, 5, 6, 7, 8, 9, 25] (by decide) rfl).weaken (fun _ _ _ _ => trivial), kN_warm hW hN⟩⟩⟩ rfl rfl hl.1 rfl (lv_room (Nat.le_of_ble_eq_true rfl)) dX11_odds_81 ⟨Nat.le_refl _, Nat.le_refl _⟩) hP hD hS hA rfl rfl (wr := ((wX11 cs ad raK xK0 xK2 (raC 0) xK4 xK5 xK6 xK7 xK8 xK9 (raTR 0) (raD 0) xK12 xK13 xK14 xK18 K) ++ ((wX7 cs ad raC (raO 0) (raS 0) (raN 0) C) ++ ((wX9 cs ad raS S) ++ ((wX8 cs ad raN N)))))) rfl rfl rfl (nw := 26) rfl (by decide +kernel) rfl (fun H locs hP hD hS => ?_)
        refine lv_aload_n hx hb dX11_odds_84 rfl (lv_at hl 0 rfl) ?_
        refine va_get (D := (dC, dI)) (ci := 11) (C := RX11) (T := TX11) (N := 19) hx hb hts hinX11 hown hK hP 0 rfl rfl 10 (by decide) (v := .ref (raTR 0)) k_fieldLink_RX11_66__KeyLetters___trial___LKeyLetters_State__ (fun _ h9 => h9) rfl dX11_odds_85 ?_
        refine va_getN (D := (dC, dI)) (ci := 10) (C := RX9) (T := TX9) (N := 9) hx hb hts hinX9 hown hK hP 20 rfl rfl 6 (by decide) (v := .ref (raTR 6)) (va_Nw.use rfl (hN _ (List.mem_of_getElem? (i := 44) rfl))) (fun _ h9 => h9) rfl dX11_odds_88 ?_
        refine lv_iload_n hx hb dX11_odds_91 rfl (lv_at hl 1 rfl) ?_
        obtain ⟨hc8, hf⟩ := ck_e hf
        refine va_iald hx hb hK hP 22 1 rfl rfl hc8 dX11_odds_92 ?_
        refine lv_aload_n hx hb dX11_odds_93 rfl (lv_at hl 0 rfl) ?_
        refine va_get (D := (dC, dI)) (ci := 11) (C := RX11) (T := TX11) (N := 19) hx hb hts hinX11 hown hK hP 0 rfl rfl 3 (by decide) (v := .ref (raC 0)) k_fieldLink_RX11_23__KeyLetters___scene___LKeyLetters_Scene__ (fun _ h9 => h9) rfl dX11_odds_94 ?_
        refine va_getN (D := (dC, dI)) (ci := 8) (C := RX7) (T := TX7) (N := 3) hx hb hts hinX7 hown hK hP 1 rfl rfl 1 (by decide) (v := .ref (raS 0)) (va_Nw.use rfl (hN _ (List.mem_of_getElem? (i := 51) rfl))) (fun _ h9 => h9) rfl dX11_odds_97 ?_
        refine va_getN (D := (dC, dI)) (ci := 10) (C := RX9) (T := TX9) (N := 9) hx hb hts hinX9 hown hK hP 10 rfl rfl 6 (by decide) (v := .ref (raS 6)) (va_Nw.use rfl (hN _ (List.mem_of_getElem? (i := 44) rfl))) (fun _ h9 => h9) rfl dX11_odds_100 ?_
        refine lv_iload_n hx hb dX11_odds_103 rfl (lv_at hl 1 rfl) ?_
        obtain ⟨hc9, hf⟩ := ck_e hf
        refine va_iald hx hb hK hP 12 1 rfl rfl hc9 dX11_odds_104 ?_
        refine lv_icmp_le (tgt := 111) hx hb dX11_odds_105 (by decide) (fun hb11 => ?_) (fun hb11 => ?_)
        · have hf := (if_pos hb11).symm.trans hf
          exact h_111 x1_33 x2_33 x3_33 x4_33 x5_33 TRv6 Dv7 ls _ _ hl hP hD hS hf
        · have hf := (if_neg hb11).symm.trans hf
          obtain ⟨v10, ev10, hf⟩ := bd1_e hf
          refine lv_iinc (k := 4) (x := x4_33) (v := v10) (nL := 6) (lv' := [(4, .int v10), (0, .ref (raK 0)), (1, .int x1_33), (2, .int x2_33), (3, .int x3_33), (5, .int x5_33)]) hx hb dX11_odds_108 hl rfl (kt_inc (w := 1) (by decide) ev10) (by decide) rfl (fun ls hl => ?_)
          exact h_111 x1_33 x2_33 x3_33 v10 x5_33 TRv6 Dv7 ls _ _ (lv_sub hl [1, 2, 3, 4, 0, 5] rfl) hP hD hS hf) 2000
  refine lv_aload_n hx hb dX11_odds_0 rfl (lv_at hl 0 rfl) ?_
  refine va_get (D := (dC, dI)) (ci := 11) (C := RX11) (T := TX11) (N := 19) hx hb hts hinX11 hown hK hP 0 rfl rfl 3 (by decide) (v := .ref (raC 0)) k_fieldLink_RX11_23__KeyLetters___scene___LKeyLetters_Scene__ (fun _ h9 => h9) rfl dX11_odds_1 ?_
  refine va_getN (D := (dC, dI)) (ci := 8) (C := RX7) (T := TX7) (N := 3) hx hb hts hinX7 hown hK hP 1 rfl rfl 0 (by decide) (v := .ref (raO 0)) (va_Nw.use rfl (hN _ (List.mem_of_getElem? (i := 50) rfl))) (fun _ h9 => h9) rfl dX11_odds_4 ?_
  refine lv_iload_n hx hb dX11_odds_7 rfl (lv_at hl 1 rfl) ?_
  refine ko_call (v := some (.int (f_X3_hasMachine a0 O))) (va_runVN (As := [.int a0]) (rest := []) ⟨hx, hb, hml, hown, hts⟩ (c_X3_hasMachine l dC dI cs ad raO O a0 _ rfl) ⟨va_cnB 1 hts gX11_odds_X3_hasMachine_n149 rfl rfl rfl (hN _ (List.mem_of_getElem? (i := 93) rfl)) k_initialized_RX3 (by decide +kernel) ⟨Nat.le_of_ble_eq_true rfl, Nat.le_of_ble_eq_true rfl⟩, k_instanceMethod_yX3_hasMachine, k_selects_RX3_yX3_hasMachine_yX3_hasMachine⟩ ⟨fun a U g mk q => ⟨q.1, (fun _ _ _ _ => cPr_bl) a U g mk q.2⟩, va_recv hK hP (ci := 4) (q0 := 2) rfl rfl, fun U hU hW => ⟨rfl, ⟨by rw [hU]; exact (hP.sub (ws' := (ww_X3_hasMachine cs ad raO O)) [2, 3, 4, 5, 6, 7, 8, 9] rfl), va_K.moved hW.alike hK, kN_warm hW hN⟩⟩⟩ rfl rfl hl.1 rfl (lv_room (Nat.le_of_ble_eq_true rfl)) dX11_odds_8 ⟨Nat.le_refl _, Nat.le_refl _⟩) ?_
  refine lv_if_eq (tgt := 25) hx hb dX11_odds_11 (by decide) (fun hb15 => ?_) (fun hb15 => ?_)
  · have hf := (if_pos hb15).symm.trans hf
    refine lv_iconst (v := -1) hx hb dX11_odds_25 (by decide) ?_
    have hf := Option.some.inj hf
    subst hf
    exact c_iret (v := (-1 : Int32)) hx hb hr hlocks hP hK hD hS dX11_odds_26
  · have hf := (if_neg hb15).symm.trans hf
    refine lv_iload_n hx hb dX11_odds_14 rfl (lv_at hl 2 rfl) ?_
    refine lv_iconst (v := 1) hx hb dX11_odds_15 (by decide) ?_
    refine lv_icmp_lt (tgt := 25) hx hb dX11_odds_16 (by decide) (fun hb14 => ?_) (fun hb14 => ?_)
    · have hf := (if_pos hb14).symm.trans hf
      refine lv_iconst (v := -1) hx hb dX11_odds_25 (by decide) ?_
      have hf := Option.some.inj hf
      subst hf
      exact c_iret (v := (-1 : Int32)) hx hb hr hlocks hP hK hD hS dX11_odds_26
    · have hf := (if_neg hb14).symm.trans hf
      refine lv_iload_n hx hb dX11_odds_19 rfl (lv_at hl 2 rfl) ?_
      refine lv_bipush (v := 30) hx hb dX11_odds_20 (by decide) ?_
      refine lv_icmp_le (tgt := 27) hx hb dX11_odds_22 (by decide) (fun hb13 => ?_) (fun hb13 => ?_)
      · have hf := (if_pos hb13).symm.trans hf
        refine lv_iconst (v := 0) hx hb dX11_odds_27 (by decide) ?_
        refine lv_istore (nL := 6) (lv' := [(4, .int (0 : Int32)), (0, .ref (raK 0)), (1, .int a0), (2, .int a1), (3, .int a2)]) hx hb dX11_odds_28 hl (by decide) rfl (fun ls hl => ?_)
        refine lv_iconst (v := 0) hx hb dX11_odds_30 (by decide) ?_
        refine lv_istore (nL := 6) (lv' := [(5, .int (0 : Int32)), (4, .int (0 : Int32)), (0, .ref (raK 0)), (1, .int a0), (2, .int a1), (3, .int a2)]) hx hb dX11_odds_31 hl (by decide) rfl (fun ls hl => ?_)
        exact h_33 a0 a1 a2 (0 : Int32) (0 : Int32) TR D ls _ _ (lv_sub hl [2, 3, 4, 5, 1, 0] rfl) hP hD hS hf
      · have hf := (if_neg hb13).symm.trans hf
        refine lv_iconst (v := -1) hx hb dX11_odds_25 (by decide) ?_
        have hf := Option.some.inj hf
        subst hf
        exact c_iret (v := (-1 : Int32)) hx hb hr hlocks hP hK hD hS dX11_odds_26

def ww_X11_told (cs : Nat → ClassId) (ad : Nat → Nat) (raK : Nat → Nat) (raBT : Nat) (xK0 : Nat) (xK2 : Nat) (xK3 : Nat) (xK4 : Nat) (xK5 : Nat) (xK6 : Nat) (xK7 : Nat) (xK8 : Nat) (xK9 : Nat) (xK10 : Nat) (xK11 : Nat) (xK12 : Nat) (xK13 : Nat) (xK18 : Nat) (K : kD) (BT : Nat → Int32) : va_W := (wX11 cs ad raK xK0 xK2 xK3 xK4 xK5 xK6 xK7 xK8 xK9 xK10 xK11 xK12 xK13 raBT xK18 K ++ ([(raBT, .inl (cs 1, 4, .inl BT))]))
abbrev rm_X11_told : Room := { frames := 0, cells := 0, slots := 0, locals := 0 }
set_option maxHeartbeats 4000000 in
set_option maxRecDepth 100000 in
theorem c_X11_told (l : Launch) (dC : Nat → ClassId) (dI : Nat → Nat → Nat) (cs : Nat → ClassId) (ad : Nat → Nat) (raK : Nat → Nat) (raBT : Nat) (xK0 : Nat) (xK2 : Nat) (xK3 : Nat) (xK4 : Nat) (xK5 : Nat) (xK6 : Nat) (xK7 : Nat) (xK8 : Nat) (xK9 : Nat) (xK10 : Nat) (xK11 : Nat) (xK12 : Nat) (xK13 : Nat) (xK18 : Nat) (K : kD) (BT : Nat → Int32) (a0 : Int32) (r : Int32) (hf : f_X11_told a0 K BT = some r) : Met l yX11_told wsX11_told rm_X11_told (va_Pc [.ref (raK 0), .int a0] (cPr dC dI cs (ww_X11_told cs ad raK raBT xK0 xK2 xK3 xK4 xK5 xK6 xK7 xK8 xK9 xK10 xK11 xK12 xK13 xK18 K BT))) (kQ (some (.int r))) 0 0 (kF) := by
  refine Met.ofW (cc := cX11_told) (maxL := 2) (ret := (some .int)) (by decide) rfl ?_
  intro p e s m args below meth c s₁ B hml hv
  obtain ⟨hav, hP, hK, hN⟩ := hv
  have hx := B.exec
  have hb := B.bytes
  have hr := B.returns
  have hts := atoms_spec (ws := wsX11_told) B.pre
  have hown : s.vm.findClass RX11 = some m.cls := findClass_of_methodNamed B.named
  have hlocks := B.notSynchronized
  have hinX11 := (show ∀ w ∈ wsX110, w ∈ wsX11_told from fun w h => List.mem_cons_of_mem _ (List.mem_append_right _ h))
  have k_fieldLink_RX11_361__KeyLetters___bookWasTold___Z_ := hts (.fieldLink RX11 361 "KeyLetters" "bookWasTold" "Z") (List.mem_of_getElem? (i := 1) rfl)
  have k_fieldLink_RX11_91__KeyLetters___bookTold____I_ := hts (.fieldLink RX11 91 "KeyLetters" "bookTold" "[I") (List.mem_of_getElem? (i := 2) rfl)
  have hl := lv_entry ([.ref (raK 0), .int a0]) (n := 2) (Nat.le_of_ble_eq_true rfl)
  rw [show entryFrame m args 2 = entryFrame m ([.ref (raK 0), .int a0] : List Value).toArray 2 from by rw [hav], lg_entry_eq]
  generalize (lg_sl ([.ref (raK 0), .int a0]) ++ List.replicate (2 - (lg_sl ([.ref (raK 0), .int a0])).length) Slot.unset).toArray = ls at hl ⊢
  have hl : lv_has ls 2 [(0, .ref (raK 0)), (1, .int a0)] := hl
  unfold f_X11_told at hf
  refine lv_aload_n hx hb dX11_told_0 rfl (lv_at hl 0 rfl) ?_
  refine va_get (D := (dC, dI)) (ci := 11) (C := RX11) (T := TX11) (N := 19) hx hb hts hinX11 hown hK hP 0 rfl rfl 15 (by decide) (v := .int (K.1 0 15)) k_fieldLink_RX11_361__KeyLetters___bookWasTold___Z_ (fun _ h9 => h9) rfl dX11_told_1 ?_
  refine lv_if_eq (tgt := 29) hx hb dX11_told_4 (by decide) (fun hb4 => ?_) (fun hb4 => ?_)
  · have hf := (if_pos hb4).symm.trans hf
    refine lv_iconst (v := -1) hx hb dX11_told_29 (by decide) ?_
    have hf := Option.some.inj hf
    subst hf
    exact W.iret (v := (-1 : Int32)) hx hb hr (fun t ht hW => ⟨rfl, ht⟩) (fun _ h => nomatch h) dX11_told_30
  · have hf := (if_neg hb4).symm.trans hf
    refine lv_iload_n hx hb dX11_told_7 rfl (lv_at hl 1 rfl) ?_
    refine lv_if_lt (tgt := 29) hx hb dX11_told_8 (by decide) (fun hb3 => ?_) (fun hb3 => ?_)
    · have hf := (if_pos hb3).symm.trans hf
      refine lv_iconst (v := -1) hx hb dX11_told_29 (by decide) ?_
      have hf := Option.some.inj hf
      subst hf
      exact W.iret (v := (-1 : Int32)) hx hb hr (fun t ht hW => ⟨rfl, ht⟩) (fun _ h => nomatch h) dX11_told_30
    · have hf := (if_neg hb3).symm.trans hf
      refine lv_iload_n hx hb dX11_told_11 rfl (lv_at hl 1 rfl) ?_
      refine lv_aload_n hx hb dX11_told_12 rfl (lv_at hl 0 rfl) ?_
      refine va_get (D := (dC, dI)) (ci := 11) (C := RX11) (T := TX11) (N := 19) hx hb hts hinX11 hown hK hP 0 rfl rfl 14 (by decide) (v := .ref raBT) k_fieldLink_RX11_91__KeyLetters___bookTold____I_ (fun _ h9 => h9) rfl dX11_told_13 ?_
      refine va_alen hx hb hK hP 1 1 rfl rfl (v := (4 : Int32)) rfl dX11_told_16 ?_
      refine lv_icmp_ge (tgt := 29) hx hb dX11_told_17 (by decide) (fun hb2 => ?_) (fun hb2 => ?_)
      · have hf := (if_pos hb2).symm.trans hf
        refine lv_iconst (v := -1) hx hb dX11_told_29 (by decide) ?_
        have hf := Option.some.inj hf
        subst hf
        exact W.iret (v := (-1 : Int32)) hx hb hr (fun t ht hW => ⟨rfl, ht⟩) (fun _ h => nomatch h) dX11_told_30
      · have hf := (if_neg hb2).symm.trans hf
        refine lv_aload_n hx hb dX11_told_20 rfl (lv_at hl 0 rfl) ?_
        refine va_get (D := (dC, dI)) (ci := 11) (C := RX11) (T := TX11) (N := 19) hx hb hts hinX11 hown hK hP 0 rfl rfl 14 (by decide) (v := .ref raBT) k_fieldLink_RX11_91__KeyLetters___bookTold____I_ (fun _ h9 => h9) rfl dX11_told_21 ?_
        refine lv_iload_n hx hb dX11_told_24 rfl (lv_at hl 1 rfl) ?_
        obtain ⟨hc1, hf⟩ := ck_e hf
        refine va_iald hx hb hK hP 1 1 rfl rfl hc1 dX11_told_25 ?_
        refine lv_goto (tgt := 30) hx hb dX11_told_26 (by decide) ?_
        have hf := Option.some.inj hf
        subst hf
        exact W.iret (v := (BT a0.toNatClampNeg)) hx hb hr (fun t ht hW => ⟨rfl, ht⟩) (fun _ h => nomatch h) dX11_told_30

abbrev rm_J6_bitCount_0f7a4 : Room := { frames := 0, cells := 0, slots := 0, locals := 0 }
set_option maxHeartbeats 4000000 in
set_option maxRecDepth 100000 in
theorem c_J6_bitCount_0f7a4 (l : Launch) (dC : Nat → ClassId) (dI : Nat → Nat → Nat) (cs : Nat → ClassId) (ad : Nat → Nat) (a0 : Int32) (r : Int32) (hf : f_J6_bitCount_0f7a4 a0 = r) : Met l yJ6_bitCount_0f7a4 wsJ6_bitCount_0f7a4 rm_J6_bitCount_0f7a4 (va_Pc [.int a0] (cPr dC dI cs ([] : va_W))) (kQ (some (.int r))) 0 0 (kF) := by
  refine Met.ofW (cc := cJ6_bitCount_0f7a4) (maxL := 1) (ret := (some .int)) (by decide) rfl ?_
  intro p e s m args below meth c s₁ B hml hv
  obtain ⟨hav, hP, hK, hN⟩ := hv
  have hx := B.exec
  have hb := B.bytes
  have hr := B.returns
  have hts := atoms_spec (ws := wsJ6_bitCount_0f7a4) B.pre
  have hown : s.vm.findClass RJ6 = some m.cls := findClass_of_methodNamed B.named
  have hlocks := B.notSynchronized
  have k_constant_RJ6_265_1431655765 := hts (.constant RJ6 265 1431655765) (by decide +kernel)
  have k_constant_RJ6_266_858993459 := hts (.constant RJ6 266 858993459) (by decide +kernel)
  have k_constant_RJ6_267_252645135 := hts (.constant RJ6 267 252645135) (by decide +kernel)
  have hl := lv_entry ([.int a0]) (n := 1) (Nat.le_of_ble_eq_true rfl)
  rw [show entryFrame m args 1 = entryFrame m ([.int a0] : List Value).toArray 1 from by rw [hav], lg_entry_eq]
  generalize (lg_sl ([.int a0]) ++ List.replicate (1 - (lg_sl ([.int a0])).length) Slot.unset).toArray = ls at hl ⊢
  have hl : lv_has ls 1 [(0, .int a0)] := hl
  unfold f_J6_bitCount_0f7a4 at hf
  refine lv_iload_n hx hb dJ6_bitCount_0f7a4_0 rfl (lv_at hl 0 rfl) ?_
  refine lv_iload_n hx hb dJ6_bitCount_0f7a4_1 rfl (lv_at hl 0 rfl) ?_
  refine lv_iconst (v := 1) hx hb dJ6_bitCount_0f7a4_2 (by decide) ?_
  refine lv_iushr (v := (kUshr a0 (1 : Int32))) hx hb dJ6_bitCount_0f7a4_3 rfl ?_
  refine lv_ldcw (v := 1431655765) hx hb hown k_constant_RJ6_265_1431655765 dJ6_bitCount_0f7a4_4 ?_
  refine lv_iand hx hb dJ6_bitCount_0f7a4_7 ?_
  refine lv_isub hx hb dJ6_bitCount_0f7a4_8 ?_
  obtain ⟨v1, ev1, hf⟩ := bd1_e hf
  refine kt_i ev1 ?_
  refine lv_istore_n (nL := 1) (lv' := [(0, .int v1)]) hx hb dJ6_bitCount_0f7a4_9 rfl hl (by decide) rfl (fun ls hl => ?_)
  refine lv_iload_n hx hb dJ6_bitCount_0f7a4_10 rfl (lv_at hl 0 rfl) ?_
  refine lv_ldcw (v := 858993459) hx hb hown k_constant_RJ6_266_858993459 dJ6_bitCount_0f7a4_11 ?_
  refine lv_iand hx hb dJ6_bitCount_0f7a4_14 ?_
  refine lv_iload_n hx hb dJ6_bitCount_0f7a4_15 rfl (lv_at hl 0 rfl) ?_
  refine lv_iconst (v := 2) hx hb dJ6_bitCount_0f7a4_16 (by decide) ?_
  refine lv_iushr (v := (kUshr v1 (2 : Int32))) hx hb dJ6_bitCount_0f7a4_17 rfl ?_
  refine lv_ldcw (v := 858993459) hx hb hown k_constant_RJ6_266_858993459 dJ6_bitCount_0f7a4_18 ?_
  refine lv_iand hx hb dJ6_bitCount_0f7a4_21 ?_
  refine lv_iadd hx hb dJ6_bitCount_0f7a4_22 ?_
  obtain ⟨v2, ev2, hf⟩ := bd1_e hf
  refine kt_i ev2 ?_
  refine lv_istore_n (nL := 1) (lv' := [(0, .int v2)]) hx hb dJ6_bitCount_0f7a4_23 rfl hl (by decide) rfl (fun ls hl => ?_)
  refine lv_iload_n hx hb dJ6_bitCount_0f7a4_24 rfl (lv_at hl 0 rfl) ?_
  refine lv_iload_n hx hb dJ6_bitCount_0f7a4_25 rfl (lv_at hl 0 rfl) ?_
  refine lv_iconst (v := 4) hx hb dJ6_bitCount_0f7a4_26 (by decide) ?_
  refine lv_iushr (v := (kUshr v2 (4 : Int32))) hx hb dJ6_bitCount_0f7a4_27 rfl ?_
  refine lv_iadd hx hb dJ6_bitCount_0f7a4_28 ?_
  refine lv_ldcw (v := 252645135) hx hb hown k_constant_RJ6_267_252645135 dJ6_bitCount_0f7a4_29 ?_
  refine lv_iand hx hb dJ6_bitCount_0f7a4_32 ?_
  obtain ⟨v3, ev3, hf⟩ := bd1_e hf
  refine kt_i ev3 ?_
  refine lv_istore_n (nL := 1) (lv' := [(0, .int v3)]) hx hb dJ6_bitCount_0f7a4_33 rfl hl (by decide) rfl (fun ls hl => ?_)
  refine lv_iload_n hx hb dJ6_bitCount_0f7a4_34 rfl (lv_at hl 0 rfl) ?_
  refine lv_iload_n hx hb dJ6_bitCount_0f7a4_35 rfl (lv_at hl 0 rfl) ?_
  refine lv_bipush (v := 8) hx hb dJ6_bitCount_0f7a4_36 (by decide) ?_
  refine lv_iushr (v := (kUshr v3 (8 : Int32))) hx hb dJ6_bitCount_0f7a4_38 rfl ?_
  refine lv_iadd hx hb dJ6_bitCount_0f7a4_39 ?_
  obtain ⟨v4, ev4, hf⟩ := bd1_e hf
  refine kt_i ev4 ?_
  refine lv_istore_n (nL := 1) (lv' := [(0, .int v4)]) hx hb dJ6_bitCount_0f7a4_40 rfl hl (by decide) rfl (fun ls hl => ?_)
  refine lv_iload_n hx hb dJ6_bitCount_0f7a4_41 rfl (lv_at hl 0 rfl) ?_
  refine lv_iload_n hx hb dJ6_bitCount_0f7a4_42 rfl (lv_at hl 0 rfl) ?_
  refine lv_bipush (v := 16) hx hb dJ6_bitCount_0f7a4_43 (by decide) ?_
  refine lv_iushr (v := (kUshr v4 (16 : Int32))) hx hb dJ6_bitCount_0f7a4_45 rfl ?_
  refine lv_iadd hx hb dJ6_bitCount_0f7a4_46 ?_
  obtain ⟨v5, ev5, hf⟩ := bd1_e hf
  refine kt_i ev5 ?_
  refine lv_istore_n (nL := 1) (lv' := [(0, .int v5)]) hx hb dJ6_bitCount_0f7a4_47 rfl hl (by decide) rfl (fun ls hl => ?_)
  refine lv_iload_n hx hb dJ6_bitCount_0f7a4_48 rfl (lv_at hl 0 rfl) ?_
  refine lv_bipush (v := 63) hx hb dJ6_bitCount_0f7a4_49 (by decide) ?_
  refine lv_iand hx hb dJ6_bitCount_0f7a4_51 ?_
  subst hf
  exact W.iret (v := (v5 &&& (63 : Int32))) hx hb hr (fun t ht hW => ⟨rfl, ht⟩) (fun _ h => nomatch h) dJ6_bitCount_0f7a4_52

abbrev rm_X11_bitAt : Room := { frames := 1, cells := 0, slots := 0, locals := 21 }
set_option maxHeartbeats 4000000 in
set_option maxRecDepth 100000 in
theorem c_X11_bitAt (l : Launch) (dC : Nat → ClassId) (dI : Nat → Nat → Nat) (cs : Nat → ClassId) (ad : Nat → Nat) (a0 : Int32) (a1 : Int32) (r : Int32) (hf : f_X11_bitAt a0 a1 = some r) : Met l yX11_bitAt wsX11_bitAt rm_X11_bitAt (va_Pc [.int a0, .int a1] (cPr dC dI cs ([] : va_W))) (kQ (some (.int r))) 0 0 (kF) := by
  refine Met.ofW (cc := cX11_bitAt) (maxL := 4) (ret := (some .int)) (by decide) rfl ?_
  intro p e s m args below meth c s₁ B hml hv
  obtain ⟨hav, hP, hK, hN⟩ := hv
  have hx := B.exec
  have hb := B.bytes
  have hr := B.returns
  have hts := atoms_spec (ws := wsX11_bitAt) B.pre
  have hown : s.vm.findClass RX11 = some m.cls := findClass_of_methodNamed B.named
  have hlocks := B.notSynchronized
  have hl := lv_entry ([.int a0, .int a1]) (n := 4) (Nat.le_of_ble_eq_true rfl)
  rw [show entryFrame m args 4 = entryFrame m ([.int a0, .int a1] : List Value).toArray 4 from by rw [hav], lg_entry_eq]
  generalize (lg_sl ([.int a0, .int a1]) ++ List.replicate (4 - (lg_sl ([.int a0, .int a1])).length) Slot.unset).toArray = ls at hl ⊢
  have hl : lv_has ls 4 [(0, .int a0), (1, .int a1)] := hl
  unfold f_X11_bitAt at hf
  have h_4 := lp_ind (z := (fun _ _ _ => none)) (b := (g_X11_bitAt_4)) (fun (rc_4 : Int32 → Int32 → Int32 → Option Int32) => ∀ (x0_4 : Int32) (x2_4 : Int32) (x3_4 : Int32) (ls : Array Slot), lv_has ls 4 [(0, .int x0_4), (2, .int x2_4), (3, .int x3_4)] → rc_4 x0_4 x2_4 x3_4 = some r → W p l e (headSpec wsX11_bitAt rm_X11_bitAt).room s m args below meth c s.heap [] 0 0 (MQ below (kQ (some (.int r))) args s 0 0 (kF)) (F0 m 4 ls [])) (by
      intro x0_4 x2_4 x3_4 ls hl hf
      cases hf) (by
      intro rc_4 ih_4 x0_4 x2_4 x3_4 ls hl hf
      unfold g_X11_bitAt_4 at hf
      have h_27 : ∀ (x0_27 : Int32) (x2_27 : Int32) (x3_27 : Int32) (ls : Array Slot), lv_has ls 4 [(0, .int x0_27), (2, .int x2_27), (3, .int x3_27)] → g_X11_bitAt_27 rc_4 x0_27 x2_27 x3_27 = some r → W p l e (headSpec wsX11_bitAt rm_X11_bitAt).room s m args below meth c s.heap [] 0 0 (MQ below (kQ (some (.int r))) args s 0 0 (kF)) (F0 m 27 ls []) := by
        intro x0_27 x2_27 x3_27 ls hl hf
        unfold g_X11_bitAt_27 at hf
        obtain ⟨v1, ev1, hf⟩ := bd1_e hf
        refine lv_iinc (k := 2) (x := x3_27) (v := v1) (nL := 4) (lv' := [(3, .int v1), (0, .int x0_27), (2, .int x2_27)]) hx hb dX11_bitAt_27 hl rfl (kt_inc (w := 1) (by decide) ev1) (by decide) rfl (fun ls hl => ?_)
        refine lv_goto (tgt := 4) hx hb dX11_bitAt_30 (by decide) ?_
        exact ih_4 x0_27 x2_27 v1 ls (lv_sub hl [1, 2, 0] rfl) hf
      refine lv_iload_n hx hb dX11_bitAt_4 rfl (lv_at hl 2 rfl) ?_
      refine lv_bipush (v := 6) hx hb dX11_bitAt_5 (by decide) ?_
      refine lv_icmp_ge (tgt := 33) hx hb dX11_bitAt_7 (by decide) (fun hb5 => ?_) (fun hb5 => ?_)
      · have hf := (if_pos hb5).symm.trans hf
        refine lv_iconst (v := -1) hx hb dX11_bitAt_33 (by decide) ?_
        have hf := Option.some.inj hf
        subst hf
        exact W.iret (v := (-1 : Int32)) hx hb hr (fun t ht hW => ⟨rfl, ht⟩) (fun _ h => nomatch h) dX11_bitAt_34
      · have hf := (if_neg hb5).symm.trans hf
        refine lv_iload_n hx hb dX11_bitAt_10 rfl (lv_at hl 0 rfl) ?_
        refine lv_iload_n hx hb dX11_bitAt_11 rfl (lv_at hl 2 rfl) ?_
        refine ko_call (v := some (.int (f_X11_hasBit x0_4 x3_4))) (va_runS (As := [.int x0_4, .int x3_4]) (rest := []) ⟨hx, hb, hml, hown, hts⟩ (c_X11_hasBit l dC dI cs ad x0_4 x3_4 _ rfl) (va_cwS 2 hts gX11_bitAt_X11_hasBit rfl rfl rfl (by decide +kernel) ⟨Nat.le_of_ble_eq_true rfl, Nat.le_of_ble_eq_true rfl⟩) ⟨fun a U g mk q => ⟨q.1, (fun _ _ _ _ => cPr_bl) a U g mk q.2⟩, fun U hU hW => ⟨rfl, ⟨by rw [hU]; exact (hP.sub (ws' := ([] : va_W)) [] rfl), va_K.moved hW.alike hK, kN_warm hW hN⟩⟩⟩ rfl rfl hl.1 rfl (lv_room (Nat.le_of_ble_eq_true rfl)) dX11_bitAt_12 ⟨Nat.le_refl _, Nat.le_refl _⟩) ?_
        refine lv_if_eq (tgt := 27) hx hb dX11_bitAt_15 (by decide) (fun hb4 => ?_) (fun hb4 => ?_)
        · have hf := (if_pos hb4).symm.trans hf
          exact h_27 x0_4 x2_4 x3_4 ls hl hf
        · have hf := (if_neg hb4).symm.trans hf
          refine lv_iload_n hx hb dX11_bitAt_18 rfl (lv_at hl 1 rfl) ?_
          refine lv_if_ne (tgt := 24) hx hb dX11_bitAt_19 (by decide) (fun hb3 => ?_) (fun hb3 => ?_)
          · have hf := (if_neg hb3).symm.trans hf
            obtain ⟨v2, ev2, hf⟩ := bd1_e hf
            refine lv_iinc (k := 1) (x := x2_4) (v := v2) (nL := 4) (lv' := [(2, .int v2), (0, .int x0_4), (3, .int x3_4)]) hx hb dX11_bitAt_24 hl rfl (kt_inc (w := (-1)) (by decide) ev2) (by decide) rfl (fun ls hl => ?_)
            exact h_27 x0_4 v2 x3_4 ls (lv_sub hl [1, 0, 2] rfl) hf
          · have hf := (if_pos hb3).symm.trans hf
            refine lv_iload_n hx hb dX11_bitAt_22 rfl (lv_at hl 2 rfl) ?_
            have hf := Option.some.inj hf
            subst hf
            exact W.iret (v := x3_4) hx hb hr (fun t ht hW => ⟨rfl, ht⟩) (fun _ h => nomatch h) dX11_bitAt_23) 2000
  refine lv_iload_n hx hb dX11_bitAt_0 rfl (lv_at hl 1 rfl) ?_
  refine lv_istore_n (nL := 4) (lv' := [(2, .int a1), (0, .int a0), (1, .int a1)]) hx hb dX11_bitAt_1 rfl hl (by decide) rfl (fun ls hl => ?_)
  refine lv_iconst (v := 0) hx hb dX11_bitAt_2 (by decide) ?_
  refine lv_istore_n (nL := 4) (lv' := [(3, .int (0 : Int32)), (2, .int a1), (0, .int a0), (1, .int a1)]) hx hb dX11_bitAt_3 rfl hl (by decide) rfl (fun ls hl => ?_)
  exact h_4 a0 a1 (0 : Int32) ls (lv_sub hl [2, 1, 0] rfl) hf

def ww_X11_said (cs : Nat → ClassId) (ad : Nat → Nat) (raK : Nat → Nat) (raC : Nat → Nat) (raO : Nat → Nat) (raS : Nat → Nat) (raN : Nat → Nat) (xK0 : Nat) (xK2 : Nat) (xK4 : Nat) (xK5 : Nat) (xK6 : Nat) (xK7 : Nat) (xK8 : Nat) (xK9 : Nat) (xK10 : Nat) (xK11 : Nat) (xK12 : Nat) (xK13 : Nat) (xK14 : Nat) (xK18 : Nat) (K : kD) (C : kD) (O : kD) (S : kD) (N : kD) : va_W := (wX11 cs ad raK xK0 xK2 (raC 0) xK4 xK5 xK6 xK7 xK8 xK9 xK10 xK11 xK12 xK13 xK14 xK18 K ++ (wX7 cs ad raC (raO 0) (raS 0) (raN 0) C ++ (wX3 cs ad raO O ++ (wX9 cs ad raS S ++ (wX8 cs ad raN N)))))
abbrev rm_X11_said : Room := { frames := 7, cells := 0, slots := 0, locals := 167 }
set_option maxHeartbeats 4000000 in
set_option maxRecDepth 100000 in
theorem c_X11_said (l : Launch) (dC : Nat → ClassId) (dI : Nat → Nat → Nat) (cs : Nat → ClassId) (ad : Nat → Nat) (raK : Nat → Nat) (raC : Nat → Nat) (raO : Nat → Nat) (raS : Nat → Nat) (raN : Nat → Nat) (xK0 : Nat) (xK2 : Nat) (xK4 : Nat) (xK5 : Nat) (xK6 : Nat) (xK7 : Nat) (xK8 : Nat) (xK9 : Nat) (xK10 : Nat) (xK11 : Nat) (xK12 : Nat) (xK13 : Nat) (xK14 : Nat) (xK18 : Nat) (sz : Nat) (K : kD) (C : kD) (O : kD) (S : kD) (N : kD) (a0 : Int32) (r : Int32 × kD) (hf : f_X11_said a0 K C O S N = some r) : Met l yX11_said wsX11_said rm_X11_said (va_Pc [.ref (raK 0), .int a0] (cPe ad (va_A (ww_X11_said cs ad raK raC raO raS raN xK0 xK2 xK4 xK5 xK6 xK7 xK8 xK9 xK10 xK11 xK12 xK13 xK14 xK18 zD zD zD zD zD) sz) (cPw dC dI cs sz (ww_X11_said cs ad raK raC raO raS raN xK0 xK2 xK4 xK5 xK6 xK7 xK8 xK9 xK10 xK11 xK12 xK13 xK14 xK18 K C O S N)))) (cQi dC dI cs (va_A (ww_X11_said cs ad raK raC raO raS raN xK0 xK2 xK4 xK5 xK6 xK7 xK8 xK9 xK10 xK11 xK12 xK13 xK14 xK18 zD zD zD zD zD) sz) r.1 (ww_X11_said cs ad raK raC raO raS raN xK0 xK2 xK4 xK5 xK6 xK7 xK8 xK9 xK10 xK11 xK12 xK13 xK14 xK18 K C O S r.2)) 0 0 (va_A (ww_X11_said cs ad raK raC raO raS raN xK0 xK2 xK4 xK5 xK6 xK7 xK8 xK9 xK10 xK11 xK12 xK13 xK14 xK18 zD zD zD zD zD) sz) := by
  refine Met.ofW (cc := cX11_said) (maxL := 3) (ret := (some .int)) (by decide) rfl ?_
  intro p e s m args below meth c s₁ B hml hv
  obtain ⟨hav, hE, hsz, hP, hK, hD0, hN⟩ := hv
  have hx := B.exec
  have hb := B.bytes
  have hr := B.returns
  have hts := atoms_spec (ws := wsX11_said) B.pre
  have hown : s.vm.findClass RX11 = some m.cls := findClass_of_methodNamed B.named
  have hlocks := B.notSynchronized
  subst hsz
  have hA : ∀ q, s.heap.size ≤ q → va_A (ww_X11_said cs ad raK raC raO raS raN xK0 xK2 xK4 xK5 xK6 xK7 xK8 xK9 xK10 xK11 xK12 xK13 xK14 xK18 zD zD zD zD zD) s.heap.size q := fun q h => Or.inr h
  have hD : va_D (va_A (ww_X11_said cs ad raK raC raO raS raN xK0 xK2 xK4 xK5 xK6 xK7 xK8 xK9 xK10 xK11 xK12 xK13 xK14 xK18 zD zD zD zD zD) s.heap.size) (ww_X11_said cs ad raK raC raO raS raN xK0 xK2 xK4 xK5 xK6 xK7 xK8 xK9 xK10 xK11 xK12 xK13 xK14 xK18 K C O S N) := hD0.weaken (fun k q h _ => cA_in (ws := (ww_X11_said cs ad raK raC raO raS raN xK0 xK2 xK4 xK5 xK6 xK7 xK8 xK9 xK10 xK11 xK12 xK13 xK14 xK18 K C O S N)) (ws' := (ww_X11_said cs ad raK raC raO raS raN xK0 xK2 xK4 xK5 xK6 xK7 xK8 xK9 xK10 xK11 xK12 xK13 xK14 xK18 zD zD zD zD zD)) rfl h)
  have hS : va_S (va_A (ww_X11_said cs ad raK raC raO raS raN xK0 xK2 xK4 xK5 xK6 xK7 xK8 xK9 xK10 xK11 xK12 xK13 xK14 xK18 zD zD zD zD zD) s.heap.size) s.heap s.heap [] := va_S.rf
  have hinX11 := (show ∀ w ∈ wsX110, w ∈ wsX11_said from fun w h => List.mem_cons_of_mem _ (List.mem_append_left _ (List.mem_append_left _ (List.mem_append_left _ (List.mem_append_left _ (List.mem_append_right _ h))))))
  have hinX7 := (show ∀ w ∈ wsX70, w ∈ wsX11_said from fun w h => List.mem_cons_of_mem _ (List.mem_append_left _ (List.mem_append_left _ (List.mem_append_left _ (List.mem_append_right _ h)))))
  have k_fieldLink_RX11_23__KeyLetters___scene___LKeyLetters_Scene__ := hts (.fieldLink RX11 23 "KeyLetters" "scene" "LKeyLetters$Scene;") (List.mem_of_getElem? (i := 1) rfl)
  have k_initialized_RX8 := hts (.initialized RX8) (List.mem_of_getElem? (i := 3) rfl)
  have k_instanceMethod_yX8_isTold := hts (.instanceMethod yX8_isTold) (List.mem_of_getElem? (i := 2) rfl)
  have k_instanceMethod_yX8_machinesOf := hts (.instanceMethod yX8_machinesOf) (List.mem_of_getElem? (i := 7) rfl)
  have k_selects_RX8_yX8_isTold_yX8_isTold := hts (.selects RX8 yX8_isTold yX8_isTold) (List.mem_of_getElem? (i := 4) rfl)
  have k_selects_RX8_yX8_machinesOf_yX8_machinesOf := hts (.selects RX8 yX8_machinesOf yX8_machinesOf) (List.mem_of_getElem? (i := 8) rfl)
  have hl := lv_entry ([.ref (raK 0), .int a0]) (n := 3) (Nat.le_of_ble_eq_true rfl)
  rw [show entryFrame m args 3 = entryFrame m ([.ref (raK 0), .int a0] : List Value).toArray 3 from by rw [hav], lg_entry_eq]
  generalize (lg_sl ([.ref (raK 0), .int a0]) ++ List.replicate (3 - (lg_sl ([.ref (raK 0), .int a0])).length) Slot.unset).toArray = ls at hl ⊢
  have hl : lv_has ls 3 [(0, .ref (raK 0)), (1, .int a0)] := hl
  unfold f_X11_said at hf
  refine lv_aload_n hx hb dX11_said_0 rfl (lv_at hl 0 rfl) ?_
  refine va_get (D := (dC, dI)) (ci := 11) (C := RX11) (T := TX11) (N := 19) hx hb hts hinX11 hown hK hP 0 rfl rfl 3 (by decide) (v := .ref (raC 0)) k_fieldLink_RX11_23__KeyLetters___scene___LKeyLetters_Scene__ (fun _ h9 => h9) rfl dX11_said_1 ?_
  refine va_getN (D := (dC, dI)) (ci := 8) (C := RX7) (T := TX7) (N := 3) hx hb hts hinX7 hown hK hP 1 rfl rfl 2 (by decide) (v := .ref (raN 0)) (va_Nw.use rfl (hN _ (List.mem_of_getElem? (i := 52) rfl))) (fun _ h9 => h9) rfl dX11_said_4 ?_
  refine ko_call (v := some (.int (f_X8_isTold N))) (va_runVN (As := []) (rest := []) ⟨hx, hb, hml, hown, hts⟩ (c_X8_isTold l dC dI cs ad raN N _ rfl) ⟨va_cnB 0 hts gX11_said_X8_isTold_n381 rfl rfl rfl (hN _ (List.mem_of_getElem? (i := 143) rfl)) k_initialized_RX8 (by decide +kernel) ⟨Nat.le_of_ble_eq_true rfl, Nat.le_of_ble_eq_true rfl⟩, k_instanceMethod_yX8_isTold, k_selects_RX8_yX8_isTold_yX8_isTold⟩ ⟨fun a U g mk q => ⟨q.1, (fun _ _ _ _ => cPr_bl) a U g mk q.2⟩, va_recv hK hP (ci := 9) (q0 := 15) rfl rfl, fun U hU hW => ⟨rfl, ⟨by rw [hU]; exact (hP.sub (ws' := (ww_X8_isTold cs ad raN N)) [15, 16, 17, 18, 19] rfl), va_K.moved hW.alike hK, kN_warm hW hN⟩⟩⟩ rfl rfl hl.1 rfl (lv_room (Nat.le_of_ble_eq_true rfl)) dX11_said_7 ⟨Nat.le_refl _, Nat.le_refl _⟩) ?_
  refine lv_if_eq (tgt := 18) hx hb dX11_said_10 (by decide) (fun hb8 => ?_) (fun hb8 => ?_)
  · have hf := (if_pos hb8).symm.trans hf
    refine lv_iconst (v := -1) hx hb dX11_said_18 (by decide) ?_
    have hf := Option.some.inj hf
    subst hf
    exact c_iret (v := (-1 : Int32)) hx hb hr hlocks hP hK hD hS dX11_said_19
  · have hf := (if_neg hb8).symm.trans hf
    refine lv_iload_n hx hb dX11_said_13 rfl (lv_at hl 1 rfl) ?_
    refine lv_iconst (v := -1) hx hb dX11_said_14 (by decide) ?_
    refine lv_icmp_ge (tgt := 20) hx hb dX11_said_15 (by decide) (fun hb7 => ?_) (fun hb7 => ?_)
    · have hf := (if_pos hb7).symm.trans hf
      refine lv_aload_n hx hb dX11_said_20 rfl (lv_at hl 0 rfl) ?_
      refine va_get (D := (dC, dI)) (ci := 11) (C := RX11) (T := TX11) (N := 19) hx hb hts hinX11 hown hK hP 0 rfl rfl 3 (by decide) (v := .ref (raC 0)) k_fieldLink_RX11_23__KeyLetters___scene___LKeyLetters_Scene__ (fun _ h9 => h9) rfl dX11_said_21 ?_
      refine va_getN (D := (dC, dI)) (ci := 8) (C := RX7) (T := TX7) (N := 3) hx hb hts hinX7 hown hK hP 1 rfl rfl 2 (by decide) (v := .ref (raN 0)) (va_Nw.use rfl (hN _ (List.mem_of_getElem? (i := 52) rfl))) (fun _ h9 => h9) rfl dX11_said_24 ?_
      refine lv_aload_n hx hb dX11_said_27 rfl (lv_at hl 0 rfl) ?_
      refine va_get (D := (dC, dI)) (ci := 11) (C := RX11) (T := TX11) (N := 19) hx hb hts hinX11 hown hK hP 0 rfl rfl 3 (by decide) (v := .ref (raC 0)) k_fieldLink_RX11_23__KeyLetters___scene___LKeyLetters_Scene__ (fun _ h9 => h9) rfl dX11_said_28 ?_
      refine va_getN (D := (dC, dI)) (ci := 8) (C := RX7) (T := TX7) (N := 3) hx hb hts hinX7 hown hK hP 1 rfl rfl 0 (by decide) (v := .ref (raO 0)) (va_Nw.use rfl (hN _ (List.mem_of_getElem? (i := 50) rfl))) (fun _ h9 => h9) rfl dX11_said_31 ?_
      refine lv_aload_n hx hb dX11_said_34 rfl (lv_at hl 0 rfl) ?_
      refine va_get (D := (dC, dI)) (ci := 11) (C := RX11) (T := TX11) (N := 19) hx hb hts hinX11 hown hK hP 0 rfl rfl 3 (by decide) (v := .ref (raC 0)) k_fieldLink_RX11_23__KeyLetters___scene___LKeyLetters_Scene__ (fun _ h9 => h9) rfl dX11_said_35 ?_
      refine va_getN (D := (dC, dI)) (ci := 8) (C := RX7) (T := TX7) (N := 3) hx hb hts hinX7 hown hK hP 1 rfl rfl 1 (by decide) (v := .ref (raS 0)) (va_Nw.use rfl (hN _ (List.mem_of_getElem? (i := 51) rfl))) (fun _ h9 => h9) rfl dX11_said_38 ?_
      obtain ⟨v2, Nv3, hq1, hf⟩ := bo2_e hf
      have hEc := cE_sub (A1 := va_A (ww_X8_machinesOf cs ad raN raO raS zD zD zD) _) hE hS (cA_free (isC := [15, 16, 17, 18, 19, 2, 3, 4, 5, 6, 7, 8, 9, 10, 11, 12, 13, 14]) (wc := (ww_X8_machinesOf cs ad raN raO raS N O S)) (wz := (ww_X8_machinesOf cs ad raN raO raS zD zD zD)) rfl rfl hD hS hA)
      refine g_callw (isC := [15, 16, 17, 18, 19, 2, 3, 4, 5, 6, 7, 8, 9, 10, 11, 12, 13, 14]) (isR := [0, 1]) (wc := (ww_X8_machinesOf cs ad raN raO raS N O S)) (wz := (ww_X8_machinesOf cs ad raN raO raS zD zD zD)) (w1 := (ww_X8_machinesOf cs ad raN raO raS Nv3 O S)) (ws' := (ww_X11_said cs ad raK raC raO raS raN xK0 xK2 xK4 xK5 xK6 xK7 xK8 xK9 xK10 xK11 xK12 xK13 xK14 xK18 K C O S Nv3)) (v := v2) (va_runVN (As := [.ref (raO 0), .ref (raS 0)]) (rest := []) ⟨hx, hb, hml, hown, hts⟩ (c_X8_machinesOf l dC dI cs ad raN raO raS _ N O S (v2, Nv3) hq1) ⟨va_cnB 2 hts gX11_said_X8_machinesOf_n385 rfl rfl rfl (hN _ (List.mem_of_getElem? (i := 144) rfl)) k_initialized_RX8 (by decide +kernel) ⟨Nat.le_of_ble_eq_true rfl, Nat.le_of_ble_eq_true rfl⟩, k_instanceMethod_yX8_machinesOf, k_selects_RX8_yX8_machinesOf_yX8_machinesOf⟩ ⟨fun a U g mk q => ⟨q.1, (fun _ _ _ _ => cPe_bl (fun h => cPw_bl h)) a U g mk q.2⟩, va_recv hK hP (ci := 9) (q0 := 15) rfl rfl, fun U hU hW => ⟨rfl, ⟨hEc U hU hW, ⟨by rw [hU], by rw [hU]; exact (hP.sub (ws' := (ww_X8_machinesOf cs ad raN raO raS N O S)) [15, 16, 17, 18, 19, 2, 3, 4, 5, 6, 7, 8, 9, 10, 11, 12, 13, 14] rfl), va_K.moved hW.alike hK, (hD.sub (ws' := (ww_X8_machinesOf cs ad raN raO raS N O S)) [15, 16, 17, 18, 19, 2, 3, 4, 5, 6, 7, 8, 9, 10, 11, 12, 13, 14] (by decide) rfl).weaken (fun _ _ _ _ => trivial), kN_warm hW hN⟩⟩⟩⟩ rfl rfl hl.1 rfl (lv_room (Nat.le_of_ble_eq_true rfl)) dX11_said_41 ⟨Nat.le_refl _, Nat.le_refl _⟩) hP hD hS hA rfl rfl (wr := ((wX11 cs ad raK xK0 xK2 (raC 0) xK4 xK5 xK6 xK7 xK8 xK9 xK10 xK11 xK12 xK13 xK14 xK18 K) ++ ((wX7 cs ad raC (raO 0) (raS 0) (raN 0) C)))) rfl rfl rfl (nw := 20) rfl (by decide +kernel) rfl (fun H locs hP hD hS => ?_)
      refine lv_istore_n (nL := 3) (lv' := [(2, .int v2), (0, .ref (raK 0)), (1, .int a0)]) hx hb dX11_said_44 rfl hl (by decide) rfl (fun ls hl => ?_)
      refine lv_iload_n hx hb dX11_said_45 rfl (lv_at hl 2 rfl) ?_
      refine lv_iconst (v := -1) hx hb dX11_said_46 (by decide) ?_
      refine lv_icmp_ne (tgt := 57) hx hb dX11_said_47 (by decide) (fun hb6 => ?_) (fun hb6 => ?_)
      · have hf := (if_neg hb6).symm.trans hf
        refine lv_iload_n hx hb dX11_said_57 rfl (lv_at hl 0 rfl) ?_
        refine lv_iload_n hx hb dX11_said_58 rfl (lv_at hl 2 rfl) ?_
        obtain ⟨v5, hq4, hf⟩ := bo_e hf
        refine ko_call (v := some (.int v5)) (va_runS (As := [.int v2, .int a0]) (rest := []) ⟨hx, hb, hml, hown, hts⟩ (c_X11_bitAt l dC dI cs ad v2 a0 v5 hq4) (va_cwS 2 hts gX11_said_X11_bitAt rfl rfl rfl (by decide +kernel) ⟨Nat.le_of_ble_eq_true rfl, Nat.le_of_ble_eq_true rfl⟩) ⟨fun a U g mk q => ⟨q.1, (fun _ _ _ _ => cPr_bl) a U g mk q.2⟩, fun U hU hW => ⟨rfl, ⟨by rw [hU]; exact (hP.sub (ws' := ([] : va_W)) [] rfl), va_K.moved hW.alike hK, kN_warm hW hN⟩⟩⟩ rfl rfl hl.1 rfl (lv_room (Nat.le_of_ble_eq_true rfl)) dX11_said_59 ⟨Nat.le_refl _, Nat.le_refl _⟩) ?_
        have hf := Option.some.inj hf
        subst hf
        exact c_iret (v := v5) hx hb hr hlocks hP hK hD hS dX11_said_62
      · have hf := (if_pos hb6).symm.trans hf
        refine lv_iload_n hx hb dX11_said_50 rfl (lv_at hl 0 rfl) ?_
        refine ko_call (v := some (.int (f_J6_bitCount_0f7a4 v2))) (va_runS (As := [.int v2]) (rest := []) ⟨hx, hb, hml, hown, hts⟩ (c_J6_bitCount_0f7a4 l dC dI cs ad v2 _ rfl) (va_cwS 1 hts gX11_said_J6_bitCount_0f7a4 rfl rfl rfl (by decide +kernel) ⟨Nat.le_of_ble_eq_true rfl, Nat.le_of_ble_eq_true rfl⟩) ⟨fun a U g mk q => ⟨q.1, (fun _ _ _ _ => cPr_bl) a U g mk q.2⟩, fun U hU hW => ⟨rfl, ⟨by rw [hU]; exact (hP.sub (ws' := ([] : va_W)) [] rfl), va_K.moved hW.alike hK, kN_warm hW hN⟩⟩⟩ rfl rfl hl.1 rfl (lv_room (Nat.le_of_ble_eq_true rfl)) dX11_said_51 ⟨Nat.le_refl _, Nat.le_refl _⟩) ?_
        refine lv_goto (tgt := 62) hx hb dX11_said_54 (by decide) ?_
        have hf := Option.some.inj hf
        subst hf
        exact c_iret (v := (f_J6_bitCount_0f7a4 v2)) hx hb hr hlocks hP hK hD hS dX11_said_62
    · have hf := (if_neg hb7).symm.trans hf
      refine lv_iconst (v := -1) hx hb dX11_said_18 (by decide) ?_
      have hf := Option.some.inj hf
      subst hf
      exact c_iret (v := (-1 : Int32)) hx hb hr hlocks hP hK hD hS dX11_said_19

def ww_X11_image (cs : Nat → ClassId) (ad : Nat → Nat) (raK : Nat → Nat) (raC : Nat → Nat) (raO : Nat → Nat) (raS : Nat → Nat) (raN : Nat → Nat) (raIM : Nat) (raIC : Nat → Nat → Nat) (raIO : Nat → Nat → Nat) (raIS : Nat → Nat → Nat) (raIN : Nat → Nat → Nat) (raIK : Nat) (xK0 : Nat) (xK2 : Nat) (xK6 : Nat) (xK7 : Nat) (xK8 : Nat) (xK9 : Nat) (xK10 : Nat) (xK11 : Nat) (xK12 : Nat) (xK13 : Nat) (xK14 : Nat) (xK18 : Nat) (K : kD) (C : kD) (O : kD) (S : kD) (N : kD) (IO : Nat → kD) (IS : Nat → kD) (IN : Nat → kD) (IK : Nat → Int32) : va_W := (wX11 cs ad raK xK0 xK2 (raC 0) raIM raIK xK6 xK7 xK8 xK9 xK10 xK11 xK12 xK13 xK14 xK18 K ++ (wX7 cs ad raC (raO 0) (raS 0) (raN 0) C ++ (wX3 cs ad raO O ++ (wX9 cs ad raS S ++ (wX8 cs ad raN N ++ ([(raIM, .inl (cs 6, 2, .inr (.inr (.inr (.inr (fun j => some (raIC j 0)))))))] ++ (wIC cs ad raIC raIO raIS raIN ++ (wX3x2 cs ad raIO IO ++ (wX9x2 cs ad raIS IS ++ (wX8x2 cs ad raIN IN ++ ([(raIK, .inl (cs 3, 2, .inl IK))])))))))))))
abbrev rm_X11_image : Room := { frames := 3, cells := 0, slots := 0, locals := 82 }
set_option maxHeartbeats 4000000 in
set_option maxRecDepth 100000 in
theorem c_X11_image (l : Launch) (dC : Nat → ClassId) (dI : Nat → Nat → Nat) (cs : Nat → ClassId) (ad : Nat → Nat) (raK : Nat → Nat) (raC : Nat → Nat) (raO : Nat → Nat) (raS : Nat → Nat) (raN : Nat → Nat) (raIM : Nat) (raIC : Nat → Nat → Nat) (raIO : Nat → Nat → Nat) (raIS : Nat → Nat → Nat) (raIN : Nat → Nat → Nat) (raIK : Nat) (xK0 : Nat) (xK2 : Nat) (xK6 : Nat) (xK7 : Nat) (xK8 : Nat) (xK9 : Nat) (xK10 : Nat) (xK11 : Nat) (xK12 : Nat) (xK13 : Nat) (xK14 : Nat) (xK18 : Nat) (sz : Nat) (K : kD) (C : kD) (O : kD) (S : kD) (N : kD) (IO : Nat → kD) (IS : Nat → kD) (IN : Nat → kD) (IK : Nat → Int32) (a0 : Int32) (r : Int32 × (Nat → kD) × (Nat → kD) × (Nat → kD) × (Nat → Int32)) (hf : f_X11_image a0 K C O S N IO IS IN IK = some r) : Met l yX11_image wsX11_image rm_X11_image (va_Pc [.ref (raK 0), .int a0] (cPe ad (va_A (ww_X11_image cs ad raK raC raO raS raN raIM raIC raIO raIS raIN raIK xK0 xK2 xK6 xK7 xK8 xK9 xK10 xK11 xK12 xK13 xK14 xK18 zD zD zD zD zD (fun _ => zD) (fun _ => zD) (fun _ => zD) (fun _ => 0)) sz) (cPw dC dI cs sz (ww_X11_image cs ad raK raC raO raS raN raIM raIC raIO raIS raIN raIK xK0 xK2 xK6 xK7 xK8 xK9 xK10 xK11 xK12 xK13 xK14 xK18 K C O S N IO IS IN IK)))) (cQi dC dI cs (va_A (ww_X11_image cs ad raK raC raO raS raN raIM raIC raIO raIS raIN raIK xK0 xK2 xK6 xK7 xK8 xK9 xK10 xK11 xK12 xK13 xK14 xK18 zD zD zD zD zD (fun _ => zD) (fun _ => zD) (fun _ => zD) (fun _ => 0)) sz) r.1 (ww_X11_image cs ad raK raC raO raS raN raIM raIC raIO raIS raIN raIK xK0 xK2 xK6 xK7 xK8 xK9 xK10 xK11 xK12 xK13 xK14 xK18 K C O S N r.2.1 r.2.2.1 r.2.2.2.1 r.2.2.2.2)) 0 0 (va_A (ww_X11_image cs ad raK raC raO raS raN raIM raIC raIO raIS raIN raIK xK0 xK2 xK6 xK7 xK8 xK9 xK10 xK11 xK12 xK13 xK14 xK18 zD zD zD zD zD (fun _ => zD) (fun _ => zD) (fun _ => zD) (fun _ => 0)) sz) := by
  refine Met.ofW (cc := cX11_image) (maxL := 2) (ret := (some .boolean)) (by decide) rfl ?_
  intro p e s m args below meth c s₁ B hml hv
  obtain ⟨hav, hE, hsz, hP, hK, hD0, hN⟩ := hv
  have hx := B.exec
  have hb := B.bytes
  have hr := B.returns
  have hts := atoms_spec (ws := wsX11_image) B.pre
  have hown : s.vm.findClass RX11 = some m.cls := findClass_of_methodNamed B.named
  have hlocks := B.notSynchronized
  subst hsz
  have hA : ∀ q, s.heap.size ≤ q → va_A (ww_X11_image cs ad raK raC raO raS raN raIM raIC raIO raIS raIN raIK xK0 xK2 xK6 xK7 xK8 xK9 xK10 xK11 xK12 xK13 xK14 xK18 zD zD zD zD zD (fun _ => zD) (fun _ => zD) (fun _ => zD) (fun _ => 0)) s.heap.size q := fun q h => Or.inr h
  have hD : va_D (va_A (ww_X11_image cs ad raK raC raO raS raN raIM raIC raIO raIS raIN raIK xK0 xK2 xK6 xK7 xK8 xK9 xK10 xK11 xK12 xK13 xK14 xK18 zD zD zD zD zD (fun _ => zD) (fun _ => zD) (fun _ => zD) (fun _ => 0)) s.heap.size) (ww_X11_image cs ad raK raC raO raS raN raIM raIC raIO raIS raIN raIK xK0 xK2 xK6 xK7 xK8 xK9 xK10 xK11 xK12 xK13 xK14 xK18 K C O S N IO IS IN IK) := hD0.weaken (fun k q h _ => cA_in (ws := (ww_X11_image cs ad raK raC raO raS raN raIM raIC raIO raIS raIN raIK xK0 xK2 xK6 xK7 xK8 xK9 xK10 xK11 xK12 xK13 xK14 xK18 K C O S N IO IS IN IK)) (ws' := (ww_X11_image cs ad raK raC raO raS raN raIM raIC raIO raIS raIN raIK xK0 xK2 xK6 xK7 xK8 xK9 xK10 xK11 xK12 xK13 xK14 xK18 zD zD zD zD zD (fun _ => zD) (fun _ => zD) (fun _ => zD) (fun _ => 0))) rfl h)
  have hS : va_S (va_A (ww_X11_image cs ad raK raC raO raS raN raIM raIC raIO raIS raIN raIK xK0 xK2 xK6 xK7 xK8 xK9 xK10 xK11 xK12 xK13 xK14 xK18 zD zD zD zD zD (fun _ => zD) (fun _ => zD) (fun _ => zD) (fun _ => 0)) s.heap.size) s.heap s.heap [] := va_S.rf
  have hinX11 := (show ∀ w ∈ wsX110, w ∈ wsX11_image from fun w h => List.mem_cons_of_mem _ (List.mem_append_left _ (List.mem_append_left _ (List.mem_append_left _ (List.mem_append_left _ (List.mem_append_right _ h))))))
  have k_fieldLink_RX11_23__KeyLetters___scene___LKeyLetters_Scene__ := hts (.fieldLink RX11 23 "KeyLetters" "scene" "LKeyLetters$Scene;") (List.mem_of_getElem? (i := 2) rfl)
  have k_fieldLink_RX11_31__KeyLetters___imageKept____Z_ := hts (.fieldLink RX11 31 "KeyLetters" "imageKept" "[Z") (List.mem_of_getElem? (i := 3) rfl)
  have k_initialized_RX7 := hts (.initialized RX7) (List.mem_of_getElem? (i := 5) rfl)
  have k_instanceMethod_yX7_copyFrom := hts (.instanceMethod yX7_copyFrom) (List.mem_of_getElem? (i := 4) rfl)
  have k_selects_RX7_yX7_copyFrom_yX7_copyFrom := hts (.selects RX7 yX7_copyFrom yX7_copyFrom) (List.mem_of_getElem? (i := 6) rfl)
  have kieldLink_RX11_27__KeyLetters___images____LKeyLetters_Scene__ := hts (.fieldLink RX11 27 "KeyLetters" "images" "[LKeyLetters$Scene;") (List.mem_of_getElem? (i := 1) rfl)
  have hl := lv_entry ([.ref (raK 0), .int a0]) (n := 2) (Nat.le_of_ble_eq_true rfl)
  rw [show entryFrame m args 2 = entryFrame m ([.ref (raK 0), .int a0] : List Value).toArray 2 from by rw [hav], lg_entry_eq]
  generalize (lg_sl ([.ref (raK 0), .int a0]) ++ List.replicate (2 - (lg_sl ([.ref (raK 0), .int a0])).length) Slot.unset).toArray = ls at hl ⊢
  have hl : lv_has ls 2 [(0, .ref (raK 0)), (1, .int a0)] := hl
  unfold f_X11_image at hf
  refine lv_iload_n hx hb dX11_image_0 rfl (lv_at hl 1 rfl) ?_
  refine lv_if_lt (tgt := 13) hx hb dX11_image_1 (by decide) (fun hb22 => ?_) (fun hb22 => ?_)
  · have hf := (if_pos hb22).symm.trans hf
    refine lv_iconst (v := 0) hx hb dX11_image_13 (by decide) ?_
    have hf := Option.some.inj hf
    subst hf
    exact c_zret (v := (0 : Int32)) hx hb hr rfl hlocks hP hK hD hS dX11_image_14
  · have hf := (if_neg hb22).symm.trans hf
    refine lv_iload_n hx hb dX11_image_4 rfl (lv_at hl 1 rfl) ?_
    refine lv_aload_n hx hb dX11_image_5 rfl (lv_at hl 0 rfl) ?_
    refine va_get (D := (dC, dI)) (ci := 11) (C := RX11) (T := TX11) (N := 19) hx hb hts hinX11 hown hK hP 0 rfl rfl 4 (by decide) (v := .ref raIM) kieldLink_RX11_27__KeyLetters___images____LKeyLetters_Scene__ (fun _ h9 => h9) rfl dX11_image_6 ?_
    refine va_alen hx hb hK hP 20 6 rfl rfl (v := (2 : Int32)) rfl dX11_image_9 ?_
    refine lv_icmp_lt (tgt := 15) hx hb dX11_image_10 (by decide) (fun hb21 => ?_) (fun hb21 => ?_)
    · have hf := (if_pos hb21).symm.trans hf
      refine lv_aload_n hx hb dX11_image_15 rfl (lv_at hl 0 rfl) ?_
      refine va_get (D := (dC, dI)) (ci := 11) (C := RX11) (T := TX11) (N := 19) hx hb hts hinX11 hown hK hP 0 rfl rfl 4 (by decide) (v := .ref raIM) kieldLink_RX11_27__KeyLetters___images____LKeyLetters_Scene__ (fun _ h9 => h9) rfl dX11_image_16 ?_
      refine lv_iload_n hx hb dX11_image_19 rfl (lv_at hl 1 rfl) ?_
      by_cases hs10 : a0 = 0
      · have hf := (if_pos hs10).symm.trans hf
        rw [hs10]
        refine va_aldq (f := fun j => some (raIC j 0)) hx hb hK hP 20 6 rfl rfl (show ¬ ((0 : Int32) < 0 ∨ 2 ≤ (0 : Int32).toNatClampNeg) by decide +kernel) dX11_image_20 ?_
        refine kt_v (show va_rf (some (raIC (0 : Int32).toNatClampNeg 0)) = Value.ref (raIC 0 0) from rfl) ?_
        refine lv_aload_n hx hb dX11_image_21 rfl (lv_at hl 0 rfl) ?_
        refine va_get (D := (dC, dI)) (ci := 11) (C := RX11) (T := TX11) (N := 19) hx hb hts hinX11 hown hK hP 0 rfl rfl 3 (by decide) (v := .ref (raC 0)) k_fieldLink_RX11_23__KeyLetters___scene___LKeyLetters_Scene__ (fun _ h9 => h9) rfl dX11_image_22 ?_
        obtain ⟨IOv2, ISv3, INv4, hq1, hf⟩ := bo3_e hf
        have hEc := cE_sub (A1 := va_A (ww_X7_copyFrom cs ad (raIC 0) (raIO 0) (raIS 0) (raIN 0) raC raO raS raN zD zD zD zD zD zD zD zD) _) hE hS (cA_free (isC := [21, 23, 24, 25, 26, 27, 28, 29, 30, 39, 40, 41, 42, 43, 49, 50, 51, 52, 53, 1, 2, 3, 4, 5, 6, 7, 8, 9, 10, 11, 12, 13, 14, 15, 16, 17, 18, 19]) (wc := (ww_X7_copyFrom cs ad (raIC 0) (raIO 0) (raIS 0) (raIN 0) raC raO raS raN zD (IO 0) (IS 0) (IN 0) C O S N)) (wz := (ww_X7_copyFrom cs ad (raIC 0) (raIO 0) (raIS 0) (raIN 0) raC raO raS raN zD zD zD zD zD zD zD zD)) rfl rfl hD hS hA)
        refine g_callv (isC := [21, 23, 24, 25, 26, 27, 28, 29, 30, 39, 40, 41, 42, 43, 49, 50, 51, 52, 53, 1, 2, 3, 4, 5, 6, 7, 8, 9, 10, 11, 12, 13, 14, 15, 16, 17, 18, 19]) (isR := [0, 20, 22, 31, 32, 33, 34, 35, 36, 37, 38, 44, 45, 46, 47, 48, 54, 55, 56, 57, 58, 59]) (wc := (ww_X7_copyFrom cs ad (raIC 0) (raIO 0) (raIS 0) (raIN 0) raC raO raS raN zD (IO 0) (IS 0) (IN 0) C O S N)) (wz := (ww_X7_copyFrom cs ad (raIC 0) (raIO 0) (raIS 0) (raIN 0) raC raO raS raN zD zD zD zD zD zD zD zD)) (w1 := (ww_X7_copyFrom cs ad (raIC 0) (raIO 0) (raIS 0) (raIN 0) raC raO raS raN zD IOv2 ISv3 INv4 C O S N)) (ws' := (ww_X11_image cs ad raK raC raO raS raN raIM raIC raIO raIS raIN raIK xK0 xK2 xK6 xK7 xK8 xK9 xK10 xK11 xK12 xK13 xK14 xK18 K C O S N (upF IO 0 IOv2) (upF IS 0 ISv3) (upF IN 0 INv4) IK)) (va_runVN (As := [.ref (raC 0)]) (rest := []) ⟨hx, hb, hml, hown, hts⟩ (c_X7_copyFrom l dC dI cs ad (raIC 0) (raIO 0) (raIS 0) (raIN 0) raC raO raS raN _ zD (IO 0) (IS 0) (IN 0) C O S N (IOv2, ISv3, INv4) hq1) ⟨va_cnB 1 hts gX11_image_X7_copyFrom_n396 rfl rfl rfl (hN _ (List.mem_of_getElem? (i := 150) rfl)) k_initialized_RX7 (by decide +kernel) ⟨Nat.le_of_ble_eq_true rfl, Nat.le_of_ble_eq_true rfl⟩, k_instanceMethod_yX7_copyFrom, k_selects_RX7_yX7_copyFrom_yX7_copyFrom⟩ ⟨fun a U g mk q => ⟨q.1, (fun _ _ _ _ => cPe_bl (fun h => cPw_bl h)) a U g mk q.2⟩, va_recv hK hP (ci := 8) (q0 := 21) rfl rfl, fun U hU hW => ⟨rfl, ⟨hEc U hU hW, ⟨by rw [hU], by rw [hU]; exact (hP.sub (ws' := (ww_X7_copyFrom cs ad (raIC 0) (raIO 0) (raIS 0) (raIN 0) raC raO raS raN zD (IO 0) (IS 0) (IN 0) C O S N)) [21, 23, 24, 25, 26, 27, 28, 29, 30, 39, 40, 41, 42, 43, 49, 50, 51, 52, 53, 1, 2, 3, 4, 5, 6, 7, 8, 9, 10, 11, 12, 13, 14, 15, 16, 17, 18, 19] rfl), va_K.moved hW.alike hK, (hD.sub (ws' := (ww_X7_copyFrom cs ad (raIC 0) (raIO 0) (raIS 0) (raIN 0) raC raO raS raN zD (IO 0) (IS 0) (IN 0) C O S N)) [21, 23, 24, 25, 26, 27, 28, 29, 30, 39, 40, 41, 42, 43, 49, 50, 51, 52, 53, 1, 2, 3, 4, 5, 6, 7, 8, 9, 10, 11, 12, 13, 14, 15, 16, 17, 18, 19] (by decide) rfl).weaken (fun _ _ _ _ => trivial), kN_warm hW hN⟩⟩⟩⟩ rfl rfl hl.1 rfl (lv_room (Nat.le_of_ble_eq_true rfl)) dX11_image_25 ⟨Nat.le_refl _, Nat.le_refl _⟩) hP hD hS hA rfl rfl (wr := ((wX11 cs ad raK xK0 xK2 (raC 0) raIM raIK xK6 xK7 xK8 xK9 xK10 xK11 xK12 xK13 xK14 xK18 K) ++ (([(raIM, .inl (cs 6, 2, .inr (.inr (.inr (.inr (fun j => some (raIC j 0)))))))]) ++ ([(raIC 1 0, .inr (8, fX7 ad (raIC 1) (raIO 1 0) (raIS 1 0) (raIN 1 0) zD))] ++ ([(raIO 1 0, .inr (4, fX3 ad (raIO 1) (IO 1))), (raIO 1 4, .inl (cs 2, 6, .inr (.inl ((IO 1).2 4)))), (raIO 1 5, .inl (cs 1, 6, .inl ((IO 1).1 5))), (raIO 1 6, .inl (cs 1, 6, .inl ((IO 1).1 6))), (raIO 1 7, .inl (cs 2, 8, .inr (.inl ((IO 1).2 7)))), (raIO 1 8, .inl (cs 1, 8, .inl ((IO 1).1 8))), (raIO 1 9, .inl (cs 1, 8, .inl ((IO 1).1 9))), (raIO 1 10, .inl (cs 1, 8, .inl ((IO 1).1 10)))] ++ ([(raIS 1 0, .inr (10, fX9 ad (raIS 1) (IS 1))), (raIS 1 5, .inl (cs 1, 6, .inl ((IS 1).1 5))), (raIS 1 6, .inl (cs 1, 6, .inl ((IS 1).1 6))), (raIS 1 7, .inl (cs 1, 6, .inl ((IS 1).1 7))), (raIS 1 8, .inl (cs 1, 36, .inl ((IS 1).1 8)))] ++ ([(raIN 1 0, .inr (9, fX8 ad (raIN 1) (IN 1))), (raIN 1 2, .inl (cs 4, 40, .inr (.inr (.inr (.inr (fun j => kW ad ((IN 1).1 2 j))))))), (raIN 1 3, .inl (cs 1, 40, .inl ((IN 1).1 3))), (raIN 1 4, .inl (cs 1, 40, .inl ((IN 1).1 4))), (raIN 1 5, .inl (cs 1, 20, .inl ((IN 1).1 5)))] ++ (([(raIK, .inl (cs 3, 2, .inl IK))]))))))))) rfl rfl rfl (nw := 60) rfl (by decide +kernel) rfl (fun H locs hP hD hS => ?_)
        obtain ⟨IOv5, eIOv5, hf⟩ := bd1_e hf
        rw [← eIOv5] at hP hD
        obtain ⟨ISv6, eISv6, hf⟩ := bd1_e hf
        rw [← eISv6] at hP hD
        obtain ⟨INv7, eINv7, hf⟩ := bd1_e hf
        rw [← eINv7] at hP hD
        refine lv_aload_n hx hb dX11_image_28 rfl (lv_at hl 0 rfl) ?_
        refine va_get (D := (dC, dI)) (ci := 11) (C := RX11) (T := TX11) (N := 19) hx hb hts hinX11 hown hK hP 0 rfl rfl 5 (by decide) (v := .ref raIK) k_fieldLink_RX11_31__KeyLetters___imageKept____Z_ (fun _ h9 => h9) rfl dX11_image_29 ?_
        refine lv_iload_n hx hb dX11_image_32 rfl (lv_at hl 1 rfl) ?_
        refine lv_iconst (v := 1) hx hb dX11_image_33 (by decide) ?_
        obtain ⟨hc8, hf⟩ := ck_e hf
        obtain ⟨IKv9, eIKv9, hf⟩ := bd1_e hf
        refine va_zast hx hb hK hP hD hS 59 3 rfl rfl hc8 dX11_image_34 (fun H locs hP hD hS => ?_)
        have hP : va_P (dC, dI) vwCl (ww_X11_image cs ad raK raC raO raS raN raIM raIC raIO raIS raIN raIK xK0 xK2 xK6 xK7 xK8 xK9 xK10 xK11 xK12 xK13 xK14 xK18 K C O S N IOv5 ISv6 INv7 IKv9) H := g_toP (by rw [eIKv9]; rfl) hP
        have hD : va_D (va_A (ww_X11_image cs ad raK raC raO raS raN raIM raIC raIO raIS raIN raIK xK0 xK2 xK6 xK7 xK8 xK9 xK10 xK11 xK12 xK13 xK14 xK18 zD zD zD zD zD (fun _ => zD) (fun _ => zD) (fun _ => zD) (fun _ => 0)) s.heap.size) (ww_X11_image cs ad raK raC raO raS raN raIM raIC raIO raIS raIN raIK xK0 xK2 xK6 xK7 xK8 xK9 xK10 xK11 xK12 xK13 xK14 xK18 K C O S N IOv5 ISv6 INv7 IKv9) := g_toD (by rw [eIKv9]; rfl) hD
        refine lv_iconst (v := 1) hx hb dX11_image_35 (by decide) ?_
        have hf := Option.some.inj hf
        subst hf
        exact c_zret (v := (1 : Int32)) hx hb hr rfl hlocks hP hK hD hS dX11_image_36
      have hf := (if_neg hs10).symm.trans hf
      by_cases hs20 : a0 = 1
      · have hf := (if_pos hs20).symm.trans hf
        rw [hs20]
        refine va_aldq (f := fun j => some (raIC j 0)) hx hb hK hP 20 6 rfl rfl (show ¬ ((1 : Int32) < 0 ∨ 2 ≤ (1 : Int32).toNatClampNeg) by decide +kernel) dX11_image_20 ?_
        refine kt_v (show va_rf (some (raIC (1 : Int32).toNatClampNeg 0)) = Value.ref (raIC 1 0) from rfl) ?_
        refine lv_aload_n hx hb dX11_image_21 rfl (lv_at hl 0 rfl) ?_
        refine va_get (D := (dC, dI)) (ci := 11) (C := RX11) (T := TX11) (N := 19) hx hb hts hinX11 hown hK hP 0 rfl rfl 3 (by decide) (v := .ref (raC 0)) k_fieldLink_RX11_23__KeyLetters___scene___LKeyLetters_Scene__ (fun _ h9 => h9) rfl dX11_image_22 ?_
        obtain ⟨IOv12, ISv13, INv14, hq11, hf⟩ := bo3_e hf
        have hEc := cE_sub (A1 := va_A (ww_X7_copyFrom cs ad (raIC 1) (raIO 1) (raIS 1) (raIN 1) raC raO raS raN zD zD zD zD zD zD zD zD) _) hE hS (cA_free (isC := [22, 31, 32, 33, 34, 35, 36, 37, 38, 44, 45, 46, 47, 48, 54, 55, 56, 57, 58, 1, 2, 3, 4, 5, 6, 7, 8, 9, 10, 11, 12, 13, 14, 15, 16, 17, 18, 19]) (wc := (ww_X7_copyFrom cs ad (raIC 1) (raIO 1) (raIS 1) (raIN 1) raC raO raS raN zD (IO 1) (IS 1) (IN 1) C O S N)) (wz := (ww_X7_copyFrom cs ad (raIC 1) (raIO 1) (raIS 1) (raIN 1) raC raO raS raN zD zD zD zD zD zD zD zD)) rfl rfl hD hS hA)
        refine g_callv (isC := [22, 31, 32, 33, 34, 35, 36, 37, 38, 44, 45, 46, 47, 48, 54, 55, 56, 57, 58, 1, 2, 3, 4, 5, 6, 7, 8, 9, 10, 11, 12, 13, 14, 15, 16, 17, 18, 19]) (isR := [0, 20, 21, 23, 24, 25, 26, 27, 28, 29, 30, 39, 40, 41, 42, 43, 49, 50, 51, 52, 53, 59]) (wc := (ww_X7_copyFrom cs ad (raIC 1) (raIO 1) (raIS 1) (raIN 1) raC raO raS raN zD (IO 1) (IS 1) (IN 1) C O S N)) (wz := (ww_X7_copyFrom cs ad (raIC 1) (raIO 1) (raIS 1) (raIN 1) raC raO raS raN zD zD zD zD zD zD zD zD)) (w1 := (ww_X7_copyFrom cs ad (raIC 1) (raIO 1) (raIS 1) (raIN 1) raC raO raS raN zD IOv12 ISv13 INv14 C O S N)) (ws' := (ww_X11_image cs ad raK raC raO raS raN raIM raIC raIO raIS raIN raIK xK0 xK2 xK6 xK7 xK8 xK9 xK10 xK11 xK12 xK13 xK14 xK18 K C O S N (upF IO 1 IOv12) (upF IS 1 ISv13) (upF IN 1 INv14) IK)) (va_runVN (As := [.ref (raC 0)]) (rest := []) ⟨hx, hb, hml, hown, hts⟩ (c_X7_copyFrom l dC dI cs ad (raIC 1) (raIO 1) (raIS 1) (raIN 1) raC raO raS raN _ zD (IO 1) (IS 1) (IN 1) C O S N (IOv12, ISv13, INv14) hq11) ⟨va_cnB 1 hts gX11_image_X7_copyFrom_n396 rfl rfl rfl (hN _ (List.mem_of_getElem? (i := 150) rfl)) k_initialized_RX7 (by decide +kernel) ⟨Nat.le_of_ble_eq_true rfl, Nat.le_of_ble_eq_true rfl⟩, k_instanceMethod_yX7_copyFrom, k_selects_RX7_yX7_copyFrom_yX7_copyFrom⟩ ⟨fun a U g mk q => ⟨q.1, (fun _ _ _ _ => cPe_bl (fun h => cPw_bl h)) a U g mk q.2⟩, va_recv hK hP (ci := 8) (q0 := 22) rfl rfl, fun U hU hW => ⟨rfl, ⟨hEc U hU hW, ⟨by rw [hU], by rw [hU]; exact (hP.sub (ws' := (ww_X7_copyFrom cs ad (raIC 1) (raIO 1) (raIS 1) (raIN 1) raC raO raS raN zD (IO 1) (IS 1) (IN 1) C O S N)) [22, 31, 32, 33, 34, 35, 36, 37, 38, 44, 45, 46, 47, 48, 54, 55, 56, 57, 58, 1, 2, 3, 4, 5, 6, 7, 8, 9, 10, 11, 12, 13, 14, 15, 16, 17, 18, 19] rfl), va_K.moved hW.alike hK, (hD.sub (ws' := (ww_X7_copyFrom cs ad (raIC 1) (raIO 1) (raIS 1) (raIN 1) raC raO raS raN zD (IO 1) (IS 1) (IN 1) C O S N)) [22, 31, 32, 33, 34, 35, 36, 37, 38, 44, 45, 46, 47, 48, 54, 55, 56, 57, 58, 1, 2, 3, 4, 5, 6, 7, 8, 9, 10, 11, 12, 13, 14, 15, 16, 17, 18, 19] (by decide) rfl).weaken (fun _ _ _ _ => trivial), kN_warm hW hN⟩⟩⟩⟩ rfl rfl hl.1 rfl (lv_room (Nat.le_of_ble_eq_true rfl)) dX11_image_25 ⟨Nat.le_refl _, Nat.le_refl _⟩) hP hD hS hA rfl rfl (wr := ((wX11 cs ad raK xK0 xK2 (raC 0) raIM raIK xK6 xK7 xK8 xK9 xK10 xK11 xK12 xK13 xK14 xK18 K) ++ (([(raIM, .inl (cs 6, 2, .inr (.inr (.inr (.inr (fun j => some (raIC j 0)))))))]) ++ ([(raIC 0 0, .inr (8, fX7 ad (raIC 0) (raIO 0 0) (raIS 0 0) (raIN 0 0) zD))] ++ ([(raIO 0 0, .inr (4, fX3 ad (raIO 0) (IO 0))), (raIO 0 4, .inl (cs 2, 6, .inr (.inl ((IO 0).2 4)))), (raIO 0 5, .inl (cs 1, 6, .inl ((IO 0).1 5))), (raIO 0 6, .inl (cs 1, 6, .inl ((IO 0).1 6))), (raIO 0 7, .inl (cs 2, 8, .inr (.inl ((IO 0).2 7)))), (raIO 0 8, .inl (cs 1, 8, .inl ((IO 0).1 8))), (raIO 0 9, .inl (cs 1, 8, .inl ((IO 0).1 9))), (raIO 0 10, .inl (cs 1, 8, .inl ((IO 0).1 10)))] ++ ([(raIS 0 0, .inr (10, fX9 ad (raIS 0) (IS 0))), (raIS 0 5, .inl (cs 1, 6, .inl ((IS 0).1 5))), (raIS 0 6, .inl (cs 1, 6, .inl ((IS 0).1 6))), (raIS 0 7, .inl (cs 1, 6, .inl ((IS 0).1 7))), (raIS 0 8, .inl (cs 1, 36, .inl ((IS 0).1 8)))] ++ ([(raIN 0 0, .inr (9, fX8 ad (raIN 0) (IN 0))), (raIN 0 2, .inl (cs 4, 40, .inr (.inr (.inr (.inr (fun j => kW ad ((IN 0).1 2 j))))))), (raIN 0 3, .inl (cs 1, 40, .inl ((IN 0).1 3))), (raIN 0 4, .inl (cs 1, 40, .inl ((IN 0).1 4))), (raIN 0 5, .inl (cs 1, 20, .inl ((IN 0).1 5)))] ++ (([(raIK, .inl (cs 3, 2, .inl IK))]))))))))) rfl rfl rfl (nw := 60) rfl (by decide +kernel) rfl (fun H locs hP hD hS => ?_)
        obtain ⟨IOv15, eIOv15, hf⟩ := bd1_e hf
        rw [← eIOv15] at hP hD
        obtain ⟨ISv16, eISv16, hf⟩ := bd1_e hf
        rw [← eISv16] at hP hD
        obtain ⟨INv17, eINv17, hf⟩ := bd1_e hf
        rw [← eINv17] at hP hD
        refine lv_aload_n hx hb dX11_image_28 rfl (lv_at hl 0 rfl) ?_
        refine va_get (D := (dC, dI)) (ci := 11) (C := RX11) (T := TX11) (N := 19) hx hb hts hinX11 hown hK hP 0 rfl rfl 5 (by decide) (v := .ref raIK) k_fieldLink_RX11_31__KeyLetters___imageKept____Z_ (fun _ h9 => h9) rfl dX11_image_29 ?_
        refine lv_iload_n hx hb dX11_image_32 rfl (lv_at hl 1 rfl) ?_
        refine lv_iconst (v := 1) hx hb dX11_image_33 (by decide) ?_
        obtain ⟨hc18, hf⟩ := ck_e hf
        obtain ⟨IKv19, eIKv19, hf⟩ := bd1_e hf
        refine va_zast hx hb hK hP hD hS 59 3 rfl rfl hc18 dX11_image_34 (fun H locs hP hD hS => ?_)
        have hP : va_P (dC, dI) vwCl (ww_X11_image cs ad raK raC raO raS raN raIM raIC raIO raIS raIN raIK xK0 xK2 xK6 xK7 xK8 xK9 xK10 xK11 xK12 xK13 xK14 xK18 K C O S N IOv15 ISv16 INv17 IKv19) H := g_toP (by rw [eIKv19]; rfl) hP
        have hD : va_D (va_A (ww_X11_image cs ad raK raC raO raS raN raIM raIC raIO raIS raIN raIK xK0 xK2 xK6 xK7 xK8 xK9 xK10 xK11 xK12 xK13 xK14 xK18 zD zD zD zD zD (fun _ => zD) (fun _ => zD) (fun _ => zD) (fun _ => 0)) s.heap.size) (ww_X11_image cs ad raK raC raO raS raN raIM raIC raIO raIS raIN raIK xK0 xK2 xK6 xK7 xK8 xK9 xK10 xK11 xK12 xK13 xK14 xK18 K C O S N IOv15 ISv16 INv17 IKv19) := g_toD (by rw [eIKv19]; rfl) hD
        refine lv_iconst (v := 1) hx hb dX11_image_35 (by decide) ?_
        have hf := Option.some.inj hf
        subst hf
        exact c_zret (v := (1 : Int32)) hx hb hr rfl hlocks hP hK hD hS dX11_image_36
      have hf := (if_neg hs20).symm.trans hf
      cases hf
    · have hf := (if_neg hb21).symm.trans hf
      refine lv_iconst (v := 0) hx hb dX11_image_13 (by decide) ?_
      have hf := Option.some.inj hf
      subst hf
      exact c_zret (v := (0 : Int32)) hx hb hr rfl hlocks hP hK hD hS dX11_image_14

def ww_X11_restore (cs : Nat → ClassId) (ad : Nat → Nat) (raK : Nat → Nat) (raC : Nat → Nat) (raO : Nat → Nat) (raS : Nat → Nat) (raN : Nat → Nat) (raIM : Nat) (raIC : Nat → Nat → Nat) (raIO : Nat → Nat → Nat) (raIS : Nat → Nat → Nat) (raIN : Nat → Nat → Nat) (raIK : Nat) (raHy : Nat → Nat) (raHR : Nat) (raHS : Nat → Nat → Nat) (xK0 : Nat) (xK2 : Nat) (xK7 : Nat) (xK8 : Nat) (xK9 : Nat) (xK10 : Nat) (xK11 : Nat) (xK12 : Nat) (xK13 : Nat) (xK14 : Nat) (xK18 : Nat) (K : kD) (C : kD) (O : kD) (S : kD) (N : kD) (IO : Nat → kD) (IS : Nat → kD) (IN : Nat → kD) (IK : Nat → Int32) (Hy : kD) (HS : Nat → kD) : va_W := (wX11 cs ad raK xK0 xK2 (raC 0) raIM raIK (raHy 0) xK7 xK8 xK9 xK10 xK11 xK12 xK13 xK14 xK18 K ++ (wX7 cs ad raC (raO 0) (raS 0) (raN 0) C ++ (wX3 cs ad raO O ++ (wX9 cs ad raS S ++ (wX8 cs ad raN N ++ ([(raIM, .inl (cs 6, 2, .inr (.inr (.inr (.inr (fun j => some (raIC j 0)))))))] ++ (wIC cs ad raIC raIO raIS raIN ++ (wX3x2 cs ad raIO IO ++ (wX9x2 cs ad raIS IS ++ (wX8x2 cs ad raIN IN ++ ([(raIK, .inl (cs 3, 2, .inl IK))] ++ (wX2 cs ad raHy raHR Hy ++ ([(raHR, .inl (cs 5, 8, .inr (.inr (.inr (.inr (fun j => some (raHS j 0)))))))] ++ (wX9x8 cs ad raHS HS))))))))))))))
abbrev rm_X11_restore : Room := { frames := 3, cells := 0, slots := 0, locals := 82 }
set_option maxHeartbeats 4000000 in
set_option maxRecDepth 100000 in
theorem c_X11_restore (l : Launch) (dC : Nat → ClassId) (dI : Nat → Nat → Nat) (cs : Nat → ClassId) (ad : Nat → Nat) (raK : Nat → Nat) (raC : Nat → Nat) (raO : Nat → Nat) (raS : Nat → Nat) (raN : Nat → Nat) (raIM : Nat) (raIC : Nat → Nat → Nat) (raIO : Nat → Nat → Nat) (raIS : Nat → Nat → Nat) (raIN : Nat → Nat → Nat) (raIK : Nat) (raHy : Nat → Nat) (raHR : Nat) (raHS : Nat → Nat → Nat) (xK0 : Nat) (xK2 : Nat) (xK7 : Nat) (xK8 : Nat) (xK9 : Nat) (xK10 : Nat) (xK11 : Nat) (xK12 : Nat) (xK13 : Nat) (xK14 : Nat) (xK18 : Nat) (sz : Nat) (K : kD) (C : kD) (O : kD) (S : kD) (N : kD) (IO : Nat → kD) (IS : Nat → kD) (IN : Nat → kD) (IK : Nat → Int32) (Hy : kD) (HS : Nat → kD) (a0 : Int32) (r : Int32 × kD × kD × kD × kD) (hf : f_X11_restore a0 K C O S N IO IS IN IK Hy HS = some r) : Met l yX11_restore wsX11_restore rm_X11_restore (va_Pc [.ref (raK 0), .int a0] (cPe ad (va_A (ww_X11_restore cs ad raK raC raO raS raN raIM raIC raIO raIS raIN raIK raHy raHR raHS xK0 xK2 xK7 xK8 xK9 xK10 xK11 xK12 xK13 xK14 xK18 zD zD zD zD zD (fun _ => zD) (fun _ => zD) (fun _ => zD) (fun _ => 0) zD (fun _ => zD)) sz) (cPw dC dI cs sz (ww_X11_restore cs ad raK raC raO raS raN raIM raIC raIO raIS raIN raIK raHy raHR raHS xK0 xK2 xK7 xK8 xK9 xK10 xK11 xK12 xK13 xK14 xK18 K C O S N IO IS IN IK Hy HS)))) (cQi dC dI cs (va_A (ww_X11_restore cs ad raK raC raO raS raN raIM raIC raIO raIS raIN raIK raHy raHR raHS xK0 xK2 xK7 xK8 xK9 xK10 xK11 xK12 xK13 xK14 xK18 zD zD zD zD zD (fun _ => zD) (fun _ => zD) (fun _ => zD) (fun _ => 0) zD (fun _ => zD)) sz) r.1 (ww_X11_restore cs ad raK raC raO raS raN raIM raIC raIO raIS raIN raIK raHy raHR raHS xK0 xK2 xK7 xK8 xK9 xK10 xK11 xK12 xK13 xK14 xK18 K C r.2.1 r.2.2.1 r.2.2.2.1 IO IS IN IK r.2.2.2.2 HS)) 0 0 (va_A (ww_X11_restore cs ad raK raC raO raS raN raIM raIC raIO raIS raIN raIK raHy raHR raHS xK0 xK2 xK7 xK8 xK9 xK10 xK11 xK12 xK13 xK14 xK18 zD zD zD zD zD (fun _ => zD) (fun _ => zD) (fun _ => zD) (fun _ => 0) zD (fun _ => zD)) sz) := by
  refine Met.ofW (cc := cX11_restore) (maxL := 2) (ret := (some .boolean)) (by decide) rfl ?_
  intro p e s m args below meth c s₁ B hml hv
  obtain ⟨hav, hE, hsz, hP, hK, hD0, hN⟩ := hv
  have hx := B.exec
  have hb := B.bytes
  have hr := B.returns
  have hts := atoms_spec (ws := wsX11_restore) B.pre
  have hown : s.vm.findClass RX11 = some m.cls := findClass_of_methodNamed B.named
  have hlocks := B.notSynchronized
  subst hsz
  have hA : ∀ q, s.heap.size ≤ q → va_A (ww_X11_restore cs ad raK raC raO raS raN raIM raIC raIO raIS raIN raIK raHy raHR raHS xK0 xK2 xK7 xK8 xK9 xK10 xK11 xK12 xK13 xK14 xK18 zD zD zD zD zD (fun _ => zD) (fun _ => zD) (fun _ => zD) (fun _ => 0) zD (fun _ => zD)) s.heap.size q := fun q h => Or.inr h
  have hD : va_D (va_A (ww_X11_restore cs ad raK raC raO raS raN raIM raIC raIO raIS raIN raIK raHy raHR raHS xK0 xK2 xK7 xK8 xK9 xK10 xK11 xK12 xK13 xK14 xK18 zD zD zD zD zD (fun _ => zD) (fun _ => zD) (fun _ => zD) (fun _ => 0) zD (fun _ => zD)) s.heap.size) (ww_X11_restore cs ad raK raC raO raS raN raIM raIC raIO raIS raIN raIK raHy raHR raHS xK0 xK2 xK7 xK8 xK9 xK10 xK11 xK12 xK13 xK14 xK18 K C O S N IO IS IN IK Hy HS) := hD0.weaken (fun k q h _ => cA_in (ws := (ww_X11_restore cs ad raK raC raO raS raN raIM raIC raIO raIS raIN raIK raHy raHR raHS xK0 xK2 xK7 xK8 xK9 xK10 xK11 xK12 xK13 xK14 xK18 K C O S N IO IS IN IK Hy HS)) (ws' := (ww_X11_restore cs ad raK raC raO raS raN raIM raIC raIO raIS raIN raIK raHy raHR raHS xK0 xK2 xK7 xK8 xK9 xK10 xK11 xK12 xK13 xK14 xK18 zD zD zD zD zD (fun _ => zD) (fun _ => zD) (fun _ => zD) (fun _ => 0) zD (fun _ => zD))) rfl h)
  have hS : va_S (va_A (ww_X11_restore cs ad raK raC raO raS raN raIM raIC raIO raIS raIN raIK raHy raHR raHS xK0 xK2 xK7 xK8 xK9 xK10 xK11 xK12 xK13 xK14 xK18 zD zD zD zD zD (fun _ => zD) (fun _ => zD) (fun _ => zD) (fun _ => 0) zD (fun _ => zD)) s.heap.size) s.heap s.heap [] := va_S.rf
  have hinX11 := (show ∀ w ∈ wsX110, w ∈ wsX11_restore from fun w h => List.mem_cons_of_mem _ (List.mem_append_left _ (List.mem_append_left _ (List.mem_append_left _ (List.mem_append_left _ (List.mem_append_left _ (List.mem_append_right _ h)))))))
  have k_fieldLink_RX11_23__KeyLetters___scene___LKeyLetters_Scene__ := hts (.fieldLink RX11 23 "KeyLetters" "scene" "LKeyLetters$Scene;") (List.mem_of_getElem? (i := 3) rfl)
  have k_fieldLink_RX11_31__KeyLetters___imageKept____Z_ := hts (.fieldLink RX11 31 "KeyLetters" "imageKept" "[Z") (List.mem_of_getElem? (i := 2) rfl)
  have k_initialized_RX2 := hts (.initialized RX2) (List.mem_of_getElem? (i := 55) rfl)
  have k_initialized_RX7 := hts (.initialized RX7) (List.mem_of_getElem? (i := 6) rfl)
  have k_instanceMethod_yX2_forget := hts (.instanceMethod yX2_forget) (List.mem_of_getElem? (i := 54) rfl)
  have k_instanceMethod_yX7_copyFrom := hts (.instanceMethod yX7_copyFrom) (List.mem_of_getElem? (i := 5) rfl)
  have k_selects_RX2_yX2_forget_yX2_forget := hts (.selects RX2 yX2_forget yX2_forget) (List.mem_of_getElem? (i := 56) rfl)
  have k_selects_RX7_yX7_copyFrom_yX7_copyFrom := hts (.selects RX7 yX7_copyFrom yX7_copyFrom) (List.mem_of_getElem? (i := 7) rfl)
  have kieldLink_RX11_27__KeyLetters___images____LKeyLetters_Scene__ := hts (.fieldLink RX11 27 "KeyLetters" "images" "[LKeyLetters$Scene;") (List.mem_of_getElem? (i := 1) rfl)
  have kldLink_RX11_38__KeyLetters___history___LKeyLetters_History__ := hts (.fieldLink RX11 38 "KeyLetters" "history" "LKeyLetters$History;") (List.mem_of_getElem? (i := 4) rfl)
  have hl := lv_entry ([.ref (raK 0), .int a0]) (n := 2) (Nat.le_of_ble_eq_true rfl)
  rw [show entryFrame m args 2 = entryFrame m ([.ref (raK 0), .int a0] : List Value).toArray 2 from by rw [hav], lg_entry_eq]
  generalize (lg_sl ([.ref (raK 0), .int a0]) ++ List.replicate (2 - (lg_sl ([.ref (raK 0), .int a0])).length) Slot.unset).toArray = ls at hl ⊢
  have hl : lv_has ls 2 [(0, .ref (raK 0)), (1, .int a0)] := hl
  unfold f_X11_restore at hf
  refine lv_iload_n hx hb dX11_restore_0 rfl (lv_at hl 1 rfl) ?_
  refine lv_if_lt (tgt := 22) hx hb dX11_restore_1 (by decide) (fun hb18 => ?_) (fun hb18 => ?_)
  · have hf := (if_pos hb18).symm.trans hf
    refine lv_iconst (v := 0) hx hb dX11_restore_22 (by decide) ?_
    have hf := Option.some.inj hf
    subst hf
    exact c_zret (v := (0 : Int32)) hx hb hr rfl hlocks hP hK hD hS dX11_restore_23
  · have hf := (if_neg hb18).symm.trans hf
    refine lv_iload_n hx hb dX11_restore_4 rfl (lv_at hl 1 rfl) ?_
    refine lv_aload_n hx hb dX11_restore_5 rfl (lv_at hl 0 rfl) ?_
    refine va_get (D := (dC, dI)) (ci := 11) (C := RX11) (T := TX11) (N := 19) hx hb hts hinX11 hown hK hP 0 rfl rfl 4 (by decide) (v := .ref raIM) kieldLink_RX11_27__KeyLetters___images____LKeyLetters_Scene__ (fun _ h9 => h9) rfl dX11_restore_6 ?_
    refine va_alen hx hb hK hP 20 6 rfl rfl (v := (2 : Int32)) rfl dX11_restore_9 ?_
    refine lv_icmp_ge (tgt := 22) hx hb dX11_restore_10 (by decide) (fun hb17 => ?_) (fun hb17 => ?_)
    · have hf := (if_pos hb17).symm.trans hf
      refine lv_iconst (v := 0) hx hb dX11_restore_22 (by decide) ?_
      have hf := Option.some.inj hf
      subst hf
      exact c_zret (v := (0 : Int32)) hx hb hr rfl hlocks hP hK hD hS dX11_restore_23
    · have hf := (if_neg hb17).symm.trans hf
      refine lv_aload_n hx hb dX11_restore_13 rfl (lv_at hl 0 rfl) ?_
      refine va_get (D := (dC, dI)) (ci := 11) (C := RX11) (T := TX11) (N := 19) hx hb hts hinX11 hown hK hP 0 rfl rfl 5 (by decide) (v := .ref raIK) k_fieldLink_RX11_31__KeyLetters___imageKept____Z_ (fun _ h9 => h9) rfl dX11_restore_14 ?_
      refine lv_iload_n hx hb dX11_restore_17 rfl (lv_at hl 1 rfl) ?_
      obtain ⟨hc1, hf⟩ := ck_e hf
      refine va_zald hx hb hK hP 59 3 rfl rfl hc1 dX11_restore_18 ?_
      refine lv_if_ne (tgt := 24) hx hb dX11_restore_19 (by decide) (fun hb16 => ?_) (fun hb16 => ?_)
      · have hf := (if_neg hb16).symm.trans hf
        refine lv_aload_n hx hb dX11_restore_24 rfl (lv_at hl 0 rfl) ?_
        refine va_get (D := (dC, dI)) (ci := 11) (C := RX11) (T := TX11) (N := 19) hx hb hts hinX11 hown hK hP 0 rfl rfl 3 (by decide) (v := .ref (raC 0)) k_fieldLink_RX11_23__KeyLetters___scene___LKeyLetters_Scene__ (fun _ h9 => h9) rfl dX11_restore_25 ?_
        refine lv_aload_n hx hb dX11_restore_28 rfl (lv_at hl 0 rfl) ?_
        refine va_get (D := (dC, dI)) (ci := 11) (C := RX11) (T := TX11) (N := 19) hx hb hts hinX11 hown hK hP 0 rfl rfl 4 (by decide) (v := .ref raIM) kieldLink_RX11_27__KeyLetters___images____LKeyLetters_Scene__ (fun _ h9 => h9) rfl dX11_restore_29 ?_
        refine lv_iload_n hx hb dX11_restore_32 rfl (lv_at hl 1 rfl) ?_
        by_cases hs8 : a0 = 0
        · have hf := (if_pos hs8).symm.trans hf
          rw [hs8]
          refine va_aldq (f := fun j => some (raIC j 0)) hx hb hK hP 20 6 rfl rfl (show ¬ ((0 : Int32) < 0 ∨ 2 ≤ (0 : Int32).toNatClampNeg) by decide +kernel) dX11_restore_33 ?_
          refine kt_v (show va_rf (some (raIC (0 : Int32).toNatClampNeg 0)) = Value.ref (raIC 0 0) from rfl) ?_
          obtain ⟨Ov3, Sv4, Nv5, hq2, hf⟩ := bo3_e hf
          have hEc := cE_sub (A1 := va_A (ww_X7_copyFrom cs ad raC raO raS raN (raIC 0) (raIO 0) (raIS 0) (raIN 0) zD zD zD zD zD zD zD zD) _) hE hS (cA_free (isC := [1, 2, 3, 4, 5, 6, 7, 8, 9, 10, 11, 12, 13, 14, 15, 16, 17, 18, 19, 21, 23, 24, 25, 26, 27, 28, 29, 30, 39, 40, 41, 42, 43, 49, 50, 51, 52, 53]) (wc := (ww_X7_copyFrom cs ad raC raO raS raN (raIC 0) (raIO 0) (raIS 0) (raIN 0) C O S N zD (IO 0) (IS 0) (IN 0))) (wz := (ww_X7_copyFrom cs ad raC raO raS raN (raIC 0) (raIO 0) (raIS 0) (raIN 0) zD zD zD zD zD zD zD zD)) rfl rfl hD hS hA)
          refine g_callv (isC := [1, 2, 3, 4, 5, 6, 7, 8, 9, 10, 11, 12, 13, 14, 15, 16, 17, 18, 19, 21, 23, 24, 25, 26, 27, 28, 29, 30, 39, 40, 41, 42, 43, 49, 50, 51, 52, 53]) (isR := [0, 20, 22, 31, 32, 33, 34, 35, 36, 37, 38, 44, 45, 46, 47, 48, 54, 55, 56, 57, 58, 59, 60, 61, 62, 63, 64, 65, 66, 67, 68, 69, 70, 71, 72, 73, 74, 75, 76, 77, 78, 79, 80, 81, 82, 83, 84, 85, 86, 87, 88, 89, 90, 91, 92, 93, 94, 95, 96, 97, 98, 99, 100, 101]) (wc := (ww_X7_copyFrom cs ad raC raO raS raN (raIC 0) (raIO 0) (raIS 0) (raIN 0) C O S N zD (IO 0) (IS 0) (IN 0))) (wz := (ww_X7_copyFrom cs ad raC raO raS raN (raIC 0) (raIO 0) (raIS 0) (raIN 0) zD zD zD zD zD zD zD zD)) (w1 := (ww_X7_copyFrom cs ad raC raO raS raN (raIC 0) (raIO 0) (raIS 0) (raIN 0) C Ov3 Sv4 Nv5 zD (IO 0) (IS 0) (IN 0))) (ws' := (ww_X11_restore cs ad raK raC raO raS raN raIM raIC raIO raIS raIN raIK raHy raHR raHS xK0 xK2 xK7 xK8 xK9 xK10 xK11 xK12 xK13 xK14 xK18 K C Ov3 Sv4 Nv5 IO IS IN IK Hy HS)) (va_runVN (As := [.ref (raIC 0 0)]) (rest := []) ⟨hx, hb, hml, hown, hts⟩ (c_X7_copyFrom l dC dI cs ad raC raO raS raN (raIC 0) (raIO 0) (raIS 0) (raIN 0) _ C O S N zD (IO 0) (IS 0) (IN 0) (Ov3, Sv4, Nv5) hq2) ⟨va_cnB 1 hts gX11_restore_X7_copyFrom_n396 rfl rfl rfl (hN _ (List.mem_of_getElem? (i := 150) rfl)) k_initialized_RX7 (by decide +kernel) ⟨Nat.le_of_ble_eq_true rfl, Nat.le_of_ble_eq_true rfl⟩, k_instanceMethod_yX7_copyFrom, k_selects_RX7_yX7_copyFrom_yX7_copyFrom⟩ ⟨fun a U g mk q => ⟨q.1, (fun _ _ _ _ => cPe_bl (fun h => cPw_bl h)) a U g mk q.2⟩, va_recv hK hP (ci := 8) (q0 := 1) rfl rfl, fun U hU hW => ⟨rfl, ⟨hEc U hU hW, ⟨by rw [hU], by rw [hU]; exact (hP.sub (ws' := (ww_X7_copyFrom cs ad raC raO raS raN (raIC 0) (raIO 0) (raIS 0) (raIN 0) C O S N zD (IO 0) (IS 0) (IN 0))) [1, 2, 3, 4, 5, 6, 7, 8, 9, 10, 11, 12, 13, 14, 15, 16, 17, 18, 19, 21, 23, 24, 25, 26, 27, 28, 29, 30, 39, 40, 41, 42, 43, 49, 50, 51, 52, 53] rfl), va_K.moved hW.alike hK, (hD.sub (ws' := (ww_X7_copyFrom cs ad raC raO raS raN (raIC 0) (raIO 0) (raIS 0) (raIN 0) C O S N zD (IO 0) (IS 0) (IN 0))) [1, 2, 3, 4, 5, 6, 7, 8, 9, 10, 11, 12, 13, 14, 15, 16, 17, 18, 19, 21, 23, 24, 25, 26, 27, 28, 29, 30, 39, 40, 41, 42, 43, 49, 50, 51, 52, 53] (by decide) rfl).weaken (fun _ _ _ _ => trivial), kN_warm hW hN⟩⟩⟩⟩ rfl rfl hl.1 rfl (lv_room (Nat.le_of_ble_eq_true rfl)) dX11_restore_34 ⟨Nat.le_refl _, Nat.le_refl _⟩) hP hD hS hA rfl rfl (wr := ((wX11 cs ad raK xK0 xK2 (raC 0) raIM raIK (raHy 0) xK7 xK8 xK9 xK10 xK11 xK12 xK13 xK14 xK18 K) ++ (([(raIM, .inl (cs 6, 2, .inr (.inr (.inr (.inr (fun j => some (raIC j 0)))))))]) ++ ([(raIC 1 0, .inr (8, fX7 ad (raIC 1) (raIO 1 0) (raIS 1 0) (raIN 1 0) zD))] ++ ([(raIO 1 0, .inr (4, fX3 ad (raIO 1) (IO 1))), (raIO 1 4, .inl (cs 2, 6, .inr (.inl ((IO 1).2 4)))), (raIO 1 5, .inl (cs 1, 6, .inl ((IO 1).1 5))), (raIO 1 6, .inl (cs 1, 6, .inl ((IO 1).1 6))), (raIO 1 7, .inl (cs 2, 8, .inr (.inl ((IO 1).2 7)))), (raIO 1 8, .inl (cs 1, 8, .inl ((IO 1).1 8))), (raIO 1 9, .inl (cs 1, 8, .inl ((IO 1).1 9))), (raIO 1 10, .inl (cs 1, 8, .inl ((IO 1).1 10)))] ++ ([(raIS 1 0, .inr (10, fX9 ad (raIS 1) (IS 1))), (raIS 1 5, .inl (cs 1, 6, .inl ((IS 1).1 5))), (raIS 1 6, .inl (cs 1, 6, .inl ((IS 1).1 6))), (raIS 1 7, .inl (cs 1, 6, .inl ((IS 1).1 7))), (raIS 1 8, .inl (cs 1, 36, .inl ((IS 1).1 8)))] ++ ([(raIN 1 0, .inr (9, fX8 ad (raIN 1) (IN 1))), (raIN 1 2, .inl (cs 4, 40, .inr (.inr (.inr (.inr (fun j => kW ad ((IN 1).1 2 j))))))), (raIN 1 3, .inl (cs 1, 40, .inl ((IN 1).1 3))), (raIN 1 4, .inl (cs 1, 40, .inl ((IN 1).1 4))), (raIN 1 5, .inl (cs 1, 20, .inl ((IN 1).1 5)))] ++ (([(raIK, .inl (cs 3, 2, .inl IK))]) ++ ((wX2 cs ad raHy raHR Hy) ++ (([(raHR, .inl (cs 5, 8, .inr (.inr (.inr (.inr (fun j => some (raHS j 0)))))))]) ++ ((wX9x8 cs ad raHS HS)))))))))))) rfl rfl rfl (nw := 102) rfl (by decide +kernel) rfl (fun H locs hP hD hS => ?_)
          refine lv_aload_n hx hb dX11_restore_37 rfl (lv_at hl 0 rfl) ?_
          refine va_get (D := (dC, dI)) (ci := 11) (C := RX11) (T := TX11) (N := 19) hx hb hts hinX11 hown hK hP 0 rfl rfl 6 (by decide) (v := .ref (raHy 0)) kldLink_RX11_38__KeyLetters___history___LKeyLetters_History__ (fun _ h9 => h9) rfl dX11_restore_38 ?_
          obtain ⟨Hyv7, hq6, hf⟩ := bo_e hf
          refine g_callv (isC := [60, 61, 62, 63, 64, 65, 66, 67, 68, 69, 70, 71, 72, 73, 74, 75, 76, 77, 78, 79, 80, 81, 82, 83, 84, 85, 86, 87, 88, 89, 90, 91, 92, 93, 94, 95, 96, 97, 98, 99, 100, 101]) (isR := [0, 1, 2, 3, 4, 5, 6, 7, 8, 9, 10, 11, 12, 13, 14, 15, 16, 17, 18, 19, 20, 21, 22, 23, 24, 25, 26, 27, 28, 29, 30, 31, 32, 33, 34, 35, 36, 37, 38, 39, 40, 41, 42, 43, 44, 45, 46, 47, 48, 49, 50, 51, 52, 53, 54, 55, 56, 57, 58, 59]) (wc := (ww_X2_forget cs ad raHy raHR raHS Hy HS)) (wz := (ww_X2_forget cs ad raHy raHR raHS zD (fun _ => zD))) (w1 := (ww_X2_forget cs ad raHy raHR raHS Hyv7 HS)) (ws' := (ww_X11_restore cs ad raK raC raO raS raN raIM raIC raIO raIS raIN raIK raHy raHR raHS xK0 xK2 xK7 xK8 xK9 xK10 xK11 xK12 xK13 xK14 xK18 K C Ov3 Sv4 Nv5 IO IS IN IK Hyv7 HS)) (va_runVN (As := []) (rest := []) ⟨hx, hb, hml, hown, hts⟩ (c_X2_forget l dC dI cs ad raHy raHR raHS _ Hy HS Hyv7 hq6) ⟨va_cnB 0 hts gX11_restore_X2_forget_n137 rfl rfl rfl (hN _ (List.mem_of_getElem? (i := 89) rfl)) k_initialized_RX2 (by decide +kernel) ⟨Nat.le_of_ble_eq_true rfl, Nat.le_of_ble_eq_true rfl⟩, k_instanceMethod_yX2_forget, k_selects_RX2_yX2_forget_yX2_forget⟩ ⟨fun a U g mk q => ⟨q.1, (fun _ _ _ _ => cPw_bl) a U g mk q.2⟩, va_recv hK hP (ci := 3) (q0 := 60) rfl rfl, fun U hU hW => ⟨rfl, ⟨by rw [hU], by rw [hU]; exact (hP.sub (ws' := (ww_X2_forget cs ad raHy raHR raHS Hy HS)) [60, 61, 62, 63, 64, 65, 66, 67, 68, 69, 70, 71, 72, 73, 74, 75, 76, 77, 78, 79, 80, 81, 82, 83, 84, 85, 86, 87, 88, 89, 90, 91, 92, 93, 94, 95, 96, 97, 98, 99, 100, 101] rfl), va_K.moved hW.alike hK, (hD.sub (ws' := (ww_X2_forget cs ad raHy raHR raHS Hy HS)) [60, 61, 62, 63, 64, 65, 66, 67, 68, 69, 70, 71, 72, 73, 74, 75, 76, 77, 78, 79, 80, 81, 82, 83, 84, 85, 86, 87, 88, 89, 90, 91, 92, 93, 94, 95, 96, 97, 98, 99, 100, 101] (by decide) rfl).weaken (fun _ _ _ _ => trivial), kN_warm hW hN⟩⟩⟩ rfl rfl hl.1 rfl (lv_room (Nat.le_of_ble_eq_true rfl)) dX11_restore_41 ⟨Nat.le_refl _, Nat.le_refl _⟩) hP hD hS hA rfl rfl (wr := ((wX11 cs ad raK xK0 xK2 (raC 0) raIM raIK (raHy 0) xK7 xK8 xK9 xK10 xK11 xK12 xK13 xK14 xK18 K) ++ ((wX7 cs ad raC (raO 0) (raS 0) (raN 0) C) ++ ((wX3 cs ad raO Ov3) ++ ((wX9 cs ad raS Sv4) ++ ((wX8 cs ad raN Nv5) ++ (([(raIM, .inl (cs 6, 2, .inr (.inr (.inr (.inr (fun j => some (raIC j 0)))))))]) ++ ((wIC cs ad raIC raIO raIS raIN) ++ ((wX3x2 cs ad raIO IO) ++ ((wX9x2 cs ad raIS IS) ++ ((wX8x2 cs ad raIN IN) ++ (([(raIK, .inl (cs 3, 2, .inl IK))]))))))))))))) rfl rfl rfl (nw := 102) rfl (by decide +kernel) rfl (fun H locs hP hD hS => ?_)
          refine lv_iconst (v := 1) hx hb dX11_restore_44 (by decide) ?_
          have hf := Option.some.inj hf
          subst hf
          exact c_zret (v := (1 : Int32)) hx hb hr rfl hlocks hP hK hD hS dX11_restore_45
        have hf := (if_neg hs8).symm.trans hf
        by_cases hs15 : a0 = 1
        · have hf := (if_pos hs15).symm.trans hf
          rw [hs15]
          refine va_aldq (f := fun j => some (raIC j 0)) hx hb hK hP 20 6 rfl rfl (show ¬ ((1 : Int32) < 0 ∨ 2 ≤ (1 : Int32).toNatClampNeg) by decide +kernel) dX11_restore_33 ?_
          refine kt_v (show va_rf (some (raIC (1 : Int32).toNatClampNeg 0)) = Value.ref (raIC 1 0) from rfl) ?_
          obtain ⟨Ov10, Sv11, Nv12, hq9, hf⟩ := bo3_e hf
          have hEc := cE_sub (A1 := va_A (ww_X7_copyFrom cs ad raC raO raS raN (raIC 1) (raIO 1) (raIS 1) (raIN 1) zD zD zD zD zD zD zD zD) _) hE hS (cA_free (isC := [1, 2, 3, 4, 5, 6, 7, 8, 9, 10, 11, 12, 13, 14, 15, 16, 17, 18, 19, 22, 31, 32, 33, 34, 35, 36, 37, 38, 44, 45, 46, 47, 48, 54, 55, 56, 57, 58]) (wc := (ww_X7_copyFrom cs ad raC raO raS raN (raIC 1) (raIO 1) (raIS 1) (raIN 1) C O S N zD (IO 1) (IS 1) (IN 1))) (wz := (ww_X7_copyFrom cs ad raC raO raS raN (raIC 1) (raIO 1) (raIS 1) (raIN 1) zD zD zD zD zD zD zD zD)) rfl rfl hD hS hA)
          refine g_callv (isC := [1, 2, 3, 4, 5, 6, 7, 8, 9, 10, 11, 12, 13, 14, 15, 16, 17, 18, 19, 22, 31, 32, 33, 34, 35, 36, 37, 38, 44, 45, 46, 47, 48, 54, 55, 56, 57, 58]) (isR := [0, 20, 21, 23, 24, 25, 26, 27, 28, 29, 30, 39, 40, 41, 42, 43, 49, 50, 51, 52, 53, 59, 60, 61, 62, 63, 64, 65, 66, 67, 68, 69, 70, 71, 72, 73, 74, 75, 76, 77, 78, 79, 80, 81, 82, 83, 84, 85, 86, 87, 88, 89, 90, 91, 92, 93, 94, 95, 96, 97, 98, 99, 100, 101]) (wc := (ww_X7_copyFrom cs ad raC raO raS raN (raIC 1) (raIO 1) (raIS 1) (raIN 1) C O S N zD (IO 1) (IS 1) (IN 1))) (wz := (ww_X7_copyFrom cs ad raC raO raS raN (raIC 1) (raIO 1) (raIS 1) (raIN 1) zD zD zD zD zD zD zD zD)) (w1 := (ww_X7_copyFrom cs ad raC raO raS raN (raIC 1) (raIO 1) (raIS 1) (raIN 1) C Ov10 Sv11 Nv12 zD (IO 1) (IS 1) (IN 1))) (ws' := (ww_X11_restore cs ad raK raC raO raS raN raIM raIC raIO raIS raIN raIK raHy raHR raHS xK0 xK2 xK7 xK8 xK9 xK10 xK11 xK12 xK13 xK14 xK18 K C Ov10 Sv11 Nv12 IO IS IN IK Hy HS)) (va_runVN (As := [.ref (raIC 1 0)]) (rest := []) ⟨hx, hb, hml, hown, hts⟩ (c_X7_copyFrom l dC dI cs ad raC raO raS raN (raIC 1) (raIO 1) (raIS 1) (raIN 1) _ C O S N zD (IO 1) (IS 1) (IN 1) (Ov10, Sv11, Nv12) hq9) ⟨va_cnB 1 hts gX11_restore_X7_copyFrom_n396 rfl rfl rfl (hN _ (List.mem_of_getElem? (i := 150) rfl)) k_initialized_RX7 (by decide +kernel) ⟨Nat.le_of_ble_eq_true rfl, Nat.le_of_ble_eq_true rfl⟩, k_instanceMethod_yX7_copyFrom, k_selects_RX7_yX7_copyFrom_yX7_copyFrom⟩ ⟨fun a U g mk q => ⟨q.1, (fun _ _ _ _ => cPe_bl (fun h => cPw_bl h)) a U g mk q.2⟩, va_recv hK hP (ci := 8) (q0 := 1) rfl rfl, fun U hU hW => ⟨rfl, ⟨hEc U hU hW, ⟨by rw [hU], by rw [hU]; exact (hP.sub (ws' := (ww_X7_copyFrom cs ad raC raO raS raN (raIC 1) (raIO 1) (raIS 1) (raIN 1) C O S N zD (IO 1) (IS 1) (IN 1))) [1, 2, 3, 4, 5, 6, 7, 8, 9, 10, 11, 12, 13, 14, 15, 16, 17, 18, 19, 22, 31, 32, 33, 34, 35, 36, 37, 38, 44, 45, 46, 47, 48, 54, 55, 56, 57, 58] rfl), va_K.moved hW.alike hK, (hD.sub (ws' := (ww_X7_copyFrom cs ad raC raO raS raN (raIC 1) (raIO 1) (raIS 1) (raIN 1) C O S N zD (IO 1) (IS 1) (IN 1))) [1, 2, 3, 4, 5, 6, 7, 8, 9, 10, 11, 12, 13, 14, 15, 16, 17, 18, 19, 22, 31, 32, 33, 34, 35, 36, 37, 38, 44, 45, 46, 47, 48, 54, 55, 56, 57, 58] (by decide) rfl).weaken (fun _ _ _ _ => trivial), kN_warm hW hN⟩⟩⟩⟩ rfl rfl hl.1 rfl (lv_room (Nat.le_of_ble_eq_true rfl)) dX11_restore_34 ⟨Nat.le_refl _, Nat.le_refl _⟩) hP hD hS hA rfl rfl (wr := ((wX11 cs ad raK xK0 xK2 (raC 0) raIM raIK (raHy 0) xK7 xK8 xK9 xK10 xK11 xK12 xK13 xK14 xK18 K) ++ (([(raIM, .inl (cs 6, 2, .inr (.inr (.inr (.inr (fun j => some (raIC j 0)))))))]) ++ ([(raIC 0 0, .inr (8, fX7 ad (raIC 0) (raIO 0 0) (raIS 0 0) (raIN 0 0) zD))] ++ ([(raIO 0 0, .inr (4, fX3 ad (raIO 0) (IO 0))), (raIO 0 4, .inl (cs 2, 6, .inr (.inl ((IO 0).2 4)))), (raIO 0 5, .inl (cs 1, 6, .inl ((IO 0).1 5))), (raIO 0 6, .inl (cs 1, 6, .inl ((IO 0).1 6))), (raIO 0 7, .inl (cs 2, 8, .inr (.inl ((IO 0).2 7)))), (raIO 0 8, .inl (cs 1, 8, .inl ((IO 0).1 8))), (raIO 0 9, .inl (cs 1, 8, .inl ((IO 0).1 9))), (raIO 0 10, .inl (cs 1, 8, .inl ((IO 0).1 10)))] ++ ([(raIS 0 0, .inr (10, fX9 ad (raIS 0) (IS 0))), (raIS 0 5, .inl (cs 1, 6, .inl ((IS 0).1 5))), (raIS 0 6, .inl (cs 1, 6, .inl ((IS 0).1 6))), (raIS 0 7, .inl (cs 1, 6, .inl ((IS 0).1 7))), (raIS 0 8, .inl (cs 1, 36, .inl ((IS 0).1 8)))] ++ ([(raIN 0 0, .inr (9, fX8 ad (raIN 0) (IN 0))), (raIN 0 2, .inl (cs 4, 40, .inr (.inr (.inr (.inr (fun j => kW ad ((IN 0).1 2 j))))))), (raIN 0 3, .inl (cs 1, 40, .inl ((IN 0).1 3))), (raIN 0 4, .inl (cs 1, 40, .inl ((IN 0).1 4))), (raIN 0 5, .inl (cs 1, 20, .inl ((IN 0).1 5)))] ++ (([(raIK, .inl (cs 3, 2, .inl IK))]) ++ ((wX2 cs ad raHy raHR Hy) ++ (([(raHR, .inl (cs 5, 8, .inr (.inr (.inr (.inr (fun j => some (raHS j 0)))))))]) ++ ((wX9x8 cs ad raHS HS)))))))))))) rfl rfl rfl (nw := 102) rfl (by decide +kernel) rfl (fun H locs hP hD hS => ?_)
          refine lv_aload_n hx hb dX11_restore_37 rfl (lv_at hl 0 rfl) ?_
          refine va_get (D := (dC, dI)) (ci := 11) (C := RX11) (T := TX11) (N := 19) hx hb hts hinX11 hown hK hP 0 rfl rfl 6 (by decide) (v := .ref (raHy 0)) kldLink_RX11_38__KeyLetters___history___LKeyLetters_History__ (fun _ h9 => h9) rfl dX11_restore_38 ?_
          obtain ⟨Hyv14, hq13, hf⟩ := bo_e hf
          refine g_callv (isC := [60, 61, 62, 63, 64, 65, 66, 67, 68, 69, 70, 71, 72, 73, 74, 75, 76, 77, 78, 79, 80, 81, 82, 83, 84, 85, 86, 87, 88, 89, 90, 91, 92, 93, 94, 95, 96, 97, 98, 99, 100, 101]) (isR := [0, 1, 2, 3, 4, 5, 6, 7, 8, 9, 10, 11, 12, 13, 14, 15, 16, 17, 18, 19, 20, 21, 22, 23, 24, 25, 26, 27, 28, 29, 30, 31, 32, 33, 34, 35, 36, 37, 38, 39, 40, 41, 42, 43, 44, 45, 46, 47, 48, 49, 50, 51, 52, 53, 54, 55, 56, 57, 58, 59]) (wc := (ww_X2_forget cs ad raHy raHR raHS Hy HS)) (wz := (ww_X2_forget cs ad raHy raHR raHS zD (fun _ => zD))) (w1 := (ww_X2_forget cs ad raHy raHR raHS Hyv14 HS)) (ws' := (ww_X11_restore cs ad raK raC raO raS raN raIM raIC raIO raIS raIN raIK raHy raHR raHS xK0 xK2 xK7 xK8 xK9 xK10 xK11 xK12 xK13 xK14 xK18 K C Ov10 Sv11 Nv12 IO IS IN IK Hyv14 HS)) (va_runVN (As := []) (rest := []) ⟨hx, hb, hml, hown, hts⟩ (c_X2_forget l dC dI cs ad raHy raHR raHS _ Hy HS Hyv14 hq13) ⟨va_cnB 0 hts gX11_restore_X2_forget_n137 rfl rfl rfl (hN _ (List.mem_of_getElem? (i := 89) rfl)) k_initialized_RX2 (by decide +kernel) ⟨Nat.le_of_ble_eq_true rfl, Nat.le_of_ble_eq_true rfl⟩, k_instanceMethod_yX2_forget, k_selects_RX2_yX2_forget_yX2_forget⟩ ⟨fun a U g mk q => ⟨q.1, (fun _ _ _ _ => cPw_bl) a U g mk q.2⟩, va_recv hK hP (ci := 3) (q0 := 60) rfl rfl, fun U hU hW => ⟨rfl, ⟨by rw [hU], by rw [hU]; exact (hP.sub (ws' := (ww_X2_forget cs ad raHy raHR raHS Hy HS)) [60, 61, 62, 63, 64, 65, 66, 67, 68, 69, 70, 71, 72, 73, 74, 75, 76, 77, 78, 79, 80, 81, 82, 83, 84, 85, 86, 87, 88, 89, 90, 91, 92, 93, 94, 95, 96, 97, 98, 99, 100, 101] rfl), va_K.moved hW.alike hK, (hD.sub (ws' := (ww_X2_forget cs ad raHy raHR raHS Hy HS)) [60, 61, 62, 63, 64, 65, 66, 67, 68, 69, 70, 71, 72, 73, 74, 75, 76, 77, 78, 79, 80, 81, 82, 83, 84, 85, 86, 87, 88, 89, 90, 91, 92, 93, 94, 95, 96, 97, 98, 99, 100, 101] (by decide) rfl).weaken (fun _ _ _ _ => trivial), kN_warm hW hN⟩⟩⟩ rfl rfl hl.1 rfl (lv_room (Nat.le_of_ble_eq_true rfl)) dX11_restore_41 ⟨Nat.le_refl _, Nat.le_refl _⟩) hP hD hS hA rfl rfl (wr := ((wX11 cs ad raK xK0 xK2 (raC 0) raIM raIK (raHy 0) xK7 xK8 xK9 xK10 xK11 xK12 xK13 xK14 xK18 K) ++ ((wX7 cs ad raC (raO 0) (raS 0) (raN 0) C) ++ ((wX3 cs ad raO Ov10) ++ ((wX9 cs ad raS Sv11) ++ ((wX8 cs ad raN Nv12) ++ (([(raIM, .inl (cs 6, 2, .inr (.inr (.inr (.inr (fun j => some (raIC j 0)))))))]) ++ ((wIC cs ad raIC raIO raIS raIN) ++ ((wX3x2 cs ad raIO IO) ++ ((wX9x2 cs ad raIS IS) ++ ((wX8x2 cs ad raIN IN) ++ (([(raIK, .inl (cs 3, 2, .inl IK))]))))))))))))) rfl rfl rfl (nw := 102) rfl (by decide +kernel) rfl (fun H locs hP hD hS => ?_)
          refine lv_iconst (v := 1) hx hb dX11_restore_44 (by decide) ?_
          have hf := Option.some.inj hf
          subst hf
          exact c_zret (v := (1 : Int32)) hx hb hr rfl hlocks hP hK hD hS dX11_restore_45
        have hf := (if_neg hs15).symm.trans hf
        cases hf
      · have hf := (if_pos hb16).symm.trans hf
        refine lv_iconst (v := 0) hx hb dX11_restore_22 (by decide) ?_
        have hf := Option.some.inj hf
        subst hf
        exact c_zret (v := (0 : Int32)) hx hb hr rfl hlocks hP hK hD hS dX11_restore_23

def ww_X11_count (cs : Nat → ClassId) (ad : Nat → Nat) (raK : Nat → Nat) (raC : Nat → Nat) (raO : Nat → Nat) (raS : Nat → Nat) (raN : Nat → Nat) (xK0 : Nat) (xK2 : Nat) (xK4 : Nat) (xK5 : Nat) (xK6 : Nat) (xK7 : Nat) (xK8 : Nat) (xK9 : Nat) (xK10 : Nat) (xK11 : Nat) (xK12 : Nat) (xK13 : Nat) (xK14 : Nat) (xK18 : Nat) (K : kD) (C : kD) (O : kD) (S : kD) (N : kD) : va_W := (wX11 cs ad raK xK0 xK2 (raC 0) xK4 xK5 xK6 xK7 xK8 xK9 xK10 xK11 xK12 xK13 xK14 xK18 K ++ (wX7 cs ad raC (raO 0) (raS 0) (raN 0) C ++ (wX3 cs ad raO O ++ (wX9 cs ad raS S ++ (wX8 cs ad raN N)))))
abbrev rm_X11_count : Room := { frames := 0, cells := 0, slots := 0, locals := 0 }
set_option maxHeartbeats 4000000 in
set_option maxRecDepth 100000 in
theorem c_X11_count (l : Launch) (dC : Nat → ClassId) (dI : Nat → Nat → Nat) (cs : Nat → ClassId) (ad : Nat → Nat) (raK : Nat → Nat) (raC : Nat → Nat) (raO : Nat → Nat) (raS : Nat → Nat) (raN : Nat → Nat) (xK0 : Nat) (xK2 : Nat) (xK4 : Nat) (xK5 : Nat) (xK6 : Nat) (xK7 : Nat) (xK8 : Nat) (xK9 : Nat) (xK10 : Nat) (xK11 : Nat) (xK12 : Nat) (xK13 : Nat) (xK14 : Nat) (xK18 : Nat) (K : kD) (C : kD) (O : kD) (S : kD) (N : kD) (a0 : Int32) (r : Int32) (hf : f_X11_count a0 K C O S N = r) : Met l yX11_count wsX11_count rm_X11_count (va_Pc [.ref (raK 0), .int a0] (cPr dC dI cs (ww_X11_count cs ad raK raC raO raS raN xK0 xK2 xK4 xK5 xK6 xK7 xK8 xK9 xK10 xK11 xK12 xK13 xK14 xK18 K C O S N))) (kQ (some (.int r))) 0 0 (kF) := by
  refine Met.ofW (cc := cX11_count) (maxL := 2) (ret := (some .int)) (by decide) rfl ?_
  intro p e s m args below meth c s₁ B hml hv
  obtain ⟨hav, hP, hK, hN⟩ := hv
  have hx := B.exec
  have hb := B.bytes
  have hr := B.returns
  have hts := atoms_spec (ws := wsX11_count) B.pre
  have hown : s.vm.findClass RX11 = some m.cls := findClass_of_methodNamed B.named
  have hlocks := B.notSynchronized
  have hinX11 := (show ∀ w ∈ wsX110, w ∈ wsX11_count from fun w h => List.mem_cons_of_mem _ (List.mem_append_left _ (List.mem_append_left _ (List.mem_append_right _ h))))
  have hinX3 := (show ∀ w ∈ wsX30, w ∈ wsX11_count from fun w h => List.mem_cons_of_mem _ (List.mem_append_right _ h))
  have hinX7 := (show ∀ w ∈ wsX70, w ∈ wsX11_count from fun w h => List.mem_cons_of_mem _ (List.mem_append_left _ (List.mem_append_right _ h)))
  have k_fieldLink_RX11_105__KeyLetters___tapeBytes___I_ := hts (.fieldLink RX11 105 "KeyLetters" "tapeBytes" "I") (List.mem_of_getElem? (i := 2) rfl)
  have k_fieldLink_RX11_23__KeyLetters___scene___LKeyLetters_Scene__ := hts (.fieldLink RX11 23 "KeyLetters" "scene" "LKeyLetters$Scene;") (List.mem_of_getElem? (i := 1) rfl)
  have hl := lv_entry ([.ref (raK 0), .int a0]) (n := 2) (Nat.le_of_ble_eq_true rfl)
  rw [show entryFrame m args 2 = entryFrame m ([.ref (raK 0), .int a0] : List Value).toArray 2 from by rw [hav], lg_entry_eq]
  generalize (lg_sl ([.ref (raK 0), .int a0]) ++ List.replicate (2 - (lg_sl ([.ref (raK 0), .int a0])).length) Slot.unset).toArray = ls at hl ⊢
  have hl : lv_has ls 2 [(0, .ref (raK 0)), (1, .int a0)] := hl
  unfold f_X11_count at hf
  refine lv_iload_n hx hb dX11_count_0 rfl (lv_at hl 1 rfl) ?_
  by_cases hs1 : a0 = 0
  · have hf := (if_pos hs1).symm.trans hf
    refine lv_tableIn (off := 31) (tgt := 32) hx hb dX11_count_1 (by rw [hs1]; decide) (by rw [hs1]; decide) (by rw [hs1]; decide +kernel) (by decide) ?_
    refine lv_aload_n hx hb dX11_count_32 rfl (lv_at hl 0 rfl) ?_
    refine va_get (D := (dC, dI)) (ci := 11) (C := RX11) (T := TX11) (N := 19) hx hb hts hinX11 hown hK hP 0 rfl rfl 3 (by decide) (v := .ref (raC 0)) k_fieldLink_RX11_23__KeyLetters___scene___LKeyLetters_Scene__ (fun _ h9 => h9) rfl dX11_count_33 ?_
    refine va_getN (D := (dC, dI)) (ci := 8) (C := RX7) (T := TX7) (N := 3) hx hb hts hinX7 hown hK hP 1 rfl rfl 0 (by decide) (v := .ref (raO 0)) (va_Nw.use rfl (hN _ (List.mem_of_getElem? (i := 50) rfl))) (fun _ h9 => h9) rfl dX11_count_36 ?_
    refine va_getN (D := (dC, dI)) (ci := 4) (C := RX3) (T := TX3) (N := 11) hx hb hts hinX3 hown hK hP 2 rfl rfl 1 (by decide) (v := .int (O.1 0 1)) (va_Nw.use rfl (hN _ (List.mem_of_getElem? (i := 14) rfl))) (fun _ h9 => h9) rfl dX11_count_39 ?_
    subst hf
    exact W.iret (v := (O.1 0 1)) hx hb hr (fun t ht hW => ⟨rfl, ht⟩) (fun _ h => nomatch h) dX11_count_42
  have hf := (if_neg hs1).symm.trans hf
  by_cases hs2 : a0 = 1
  · have hf := (if_pos hs2).symm.trans hf
    refine lv_tableIn (off := 42) (tgt := 43) hx hb dX11_count_1 (by rw [hs2]; decide) (by rw [hs2]; decide) (by rw [hs2]; decide +kernel) (by decide) ?_
    refine lv_aload_n hx hb dX11_count_43 rfl (lv_at hl 0 rfl) ?_
    refine va_get (D := (dC, dI)) (ci := 11) (C := RX11) (T := TX11) (N := 19) hx hb hts hinX11 hown hK hP 0 rfl rfl 3 (by decide) (v := .ref (raC 0)) k_fieldLink_RX11_23__KeyLetters___scene___LKeyLetters_Scene__ (fun _ h9 => h9) rfl dX11_count_44 ?_
    refine va_getN (D := (dC, dI)) (ci := 8) (C := RX7) (T := TX7) (N := 3) hx hb hts hinX7 hown hK hP 1 rfl rfl 0 (by decide) (v := .ref (raO 0)) (va_Nw.use rfl (hN _ (List.mem_of_getElem? (i := 50) rfl))) (fun _ h9 => h9) rfl dX11_count_47 ?_
    refine va_getN (D := (dC, dI)) (ci := 4) (C := RX3) (T := TX3) (N := 11) hx hb hts hinX3 hown hK hP 2 rfl rfl 2 (by decide) (v := .int (O.1 0 2)) (va_Nw.use rfl (hN _ (List.mem_of_getElem? (i := 18) rfl))) (fun _ h9 => h9) rfl dX11_count_50 ?_
    subst hf
    exact W.iret (v := (O.1 0 2)) hx hb hr (fun t ht hW => ⟨rfl, ht⟩) (fun _ h => nomatch h) dX11_count_53
  have hf := (if_neg hs2).symm.trans hf
  by_cases hs3 : a0 = 2
  · have hf := (if_pos hs3).symm.trans hf
    refine lv_tableIn (off := 53) (tgt := 54) hx hb dX11_count_1 (by rw [hs3]; decide) (by rw [hs3]; decide) (by rw [hs3]; decide +kernel) (by decide) ?_
    refine lv_aload_n hx hb dX11_count_54 rfl (lv_at hl 0 rfl) ?_
    refine va_get (D := (dC, dI)) (ci := 11) (C := RX11) (T := TX11) (N := 19) hx hb hts hinX11 hown hK hP 0 rfl rfl 3 (by decide) (v := .ref (raC 0)) k_fieldLink_RX11_23__KeyLetters___scene___LKeyLetters_Scene__ (fun _ h9 => h9) rfl dX11_count_55 ?_
    refine va_getN (D := (dC, dI)) (ci := 8) (C := RX7) (T := TX7) (N := 3) hx hb hts hinX7 hown hK hP 1 rfl rfl 0 (by decide) (v := .ref (raO 0)) (va_Nw.use rfl (hN _ (List.mem_of_getElem? (i := 50) rfl))) (fun _ h9 => h9) rfl dX11_count_58 ?_
    refine va_getN (D := (dC, dI)) (ci := 4) (C := RX3) (T := TX3) (N := 11) hx hb hts hinX3 hown hK hP 2 rfl rfl 3 (by decide) (v := .int (O.1 0 3)) (va_Nw.use rfl (hN _ (List.mem_of_getElem? (i := 19) rfl))) (fun _ h9 => h9) rfl dX11_count_61 ?_
    subst hf
    exact W.iret (v := (O.1 0 3)) hx hb hr (fun t ht hW => ⟨rfl, ht⟩) (fun _ h => nomatch h) dX11_count_64
  have hf := (if_neg hs3).symm.trans hf
  by_cases hs4 : a0 = 3
  · have hf := (if_pos hs4).symm.trans hf
    refine lv_tableIn (off := 64) (tgt := 65) hx hb dX11_count_1 (by rw [hs4]; decide) (by rw [hs4]; decide) (by rw [hs4]; decide +kernel) (by decide) ?_
    refine lv_aload_n hx hb dX11_count_65 rfl (lv_at hl 0 rfl) ?_
    refine va_get (D := (dC, dI)) (ci := 11) (C := RX11) (T := TX11) (N := 19) hx hb hts hinX11 hown hK hP 0 rfl rfl 1 (by decide) (v := .int (K.1 0 1)) k_fieldLink_RX11_105__KeyLetters___tapeBytes___I_ (fun _ h9 => h9) rfl dX11_count_66 ?_
    subst hf
    exact W.iret (v := (K.1 0 1)) hx hb hr (fun t ht hW => ⟨rfl, ht⟩) (fun _ h => nomatch h) dX11_count_69
  have hf := (if_neg hs4).symm.trans hf
  have hsw : a0.toInt < 0 ∨ 3 < a0.toInt := by
    have qhs1 : a0.toInt ≠ 0 := fun q => hs1 (Int32.toInt_inj.mp (q.trans (by decide)))
    have qhs2 : a0.toInt ≠ 1 := fun q => hs2 (Int32.toInt_inj.mp (q.trans (by decide)))
    have qhs3 : a0.toInt ≠ 2 := fun q => hs3 (Int32.toInt_inj.mp (q.trans (by decide)))
    have qhs4 : a0.toInt ≠ 3 := fun q => hs4 (Int32.toInt_inj.mp (q.trans (by decide)))
    omega
  refine lv_tableOut (tgt := 70) hx hb dX11_count_1 hsw (by decide) ?_
  refine lv_iconst (v := -1) hx hb dX11_count_70 (by decide) ?_
  subst hf
  exact W.iret (v := (-1 : Int32)) hx hb hr (fun t ht hW => ⟨rfl, ht⟩) (fun _ h => nomatch h) dX11_count_71

