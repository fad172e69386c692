set_option maxHeartbeats 4000000 in
set_option maxRecDepth 100000 in
theorem c_X11_machineT1 (l : Launch) (hst : l.stackTraces = false) (dC : Nat → ClassId) (dI : Nat → Nat → Nat) (cs : Nat → ClassId) (ad : Nat → Nat) (Z : Nat → Nat → Nat → Nat) (K O S N : kD) (a0 a1 : Int32) (hm : ¬ f_X3_hasMachine a0 O = 0) (hw : a1.toInt < 0 ∨ 7 < a1.toInt) : vx_Met l yX11_machine wsX11_machine (rm_s 8 1 6) (va_Pc [.ref (Z 0 0 0), .int a0, .int a1] (fun U => cPr dC dI cs (wX11 cs ad (Z 0 0) (Z 1 0 0) (Z 2 0 0) (Z 3 0 0) (Z 4 0 0) (Z 5 0 0) (Z 6 0 0) (Z 7 0 0) (Z 8 0 0) (Z 9 0 0) (Z 10 0 0) (Z 11 0 0) (Z 12 0 0) (Z 13 0 0) (Z 14 0 0) (Z 18 0 0) K ++ (wX7 cs ad (Z 3 0) (Z 20 0 0) (Z 21 0 0) (Z 22 0 0) zD ++ (wX3 cs ad (Z 20 0) O ++ (wX9 cs ad (Z 21 0) S ++ wX8 cs ad (Z 22 0) N)))) U ∧ kTh kF U U.heap)) (qN) (xT) 1 6 (kF) := by
  refine vx_ofW (cc := cX11_machine) (maxL := 5) (ret := (some .int)) (by decide) rfl ?_
  intro p e s m args below meth c s₁ B hml hnoh hv
  obtain ⟨hav, ⟨hP, hK, hN⟩, hTh⟩ := hv
  have hx := B.exec
  have hb := B.bytes
  have hr := B.returns
  have hts := atoms_spec (ws := wsX11_machine) B.pre
  have hown : s.vm.findClass RX11 = some m.cls := findClass_of_methodNamed B.named
  have hlocks := B.notSynchronized
  have hinX3 : ∀ w ∈ wsX30, w ∈ wsX11_machine := fun w h => List.mem_cons_of_mem _ (List.mem_append_left _ (List.mem_append_right _ h))
  have hinX9 : ∀ w ∈ wsX90, w ∈ wsX11_machine := fun w h => List.mem_cons_of_mem _ (List.mem_append_left _ (List.mem_append_left _ (List.mem_append_right _ h)))
  have hinX7 : ∀ w ∈ wsX70, w ∈ wsX11_machine := fun w h => List.mem_cons_of_mem _ (List.mem_append_left _ (List.mem_append_left _ (List.mem_append_left _ (List.mem_append_right _ h))))
  have hinX11 : ∀ w ∈ wsX110, w ∈ wsX11_machine := fun w h => List.mem_cons_of_mem _ (List.mem_append_left _ (List.mem_append_left _ (List.mem_append_left _ (List.mem_append_left _ (List.mem_append_right _ h)))))
  have hS : va_S kF s.heap s.heap [] := va_S.rf
  have hat : ∀ w ∈ (vx_at0 RX11 155 "java/util/NoSuchElementException" ["java/lang/RuntimeException", "java/lang/Exception"]), w.before args s = true := vx_hat (B := [.castable "java/util/NoSuchElementException" "java/util/NoSuchElementException", .declares ⟨"java/lang/RuntimeException", "<init>", "()V"⟩, .declares ⟨"java/lang/Exception", "<init>", "()V"⟩, .declares ⟨"java/lang/Throwable", "<init>", "()V"⟩]) (fun w h => hts w (List.mem_cons_of_mem _ (List.mem_append_right _ h))) (by decide +kernel) (vx_c (va_Nw.use rfl hTh.1.1) (vx_c (va_Nw.use rfl hTh.1.2.1) (vx_c (va_Nw.use rfl hTh.1.2.2.1) (vx_c (va_Nw.use rfl hTh.1.2.2.2) vx_n))))
  have k1 := hts (.fieldLink RX11 23 "KeyLetters" "scene" "LKeyLetters$Scene;") (by decide +kernel)
  have k2 := hts (.initialized RX3) (by decide +kernel)
  have k3 := hts (.instanceMethod yX3_hasMachine) (by decide +kernel)
  have k4 := hts (.selects RX3 yX3_hasMachine yX3_hasMachine) (by decide +kernel)
  have k5 := hts (.classLink RX11 153 "java/util/NoSuchElementException") (by decide +kernel)
  have k6 := hts (.initialized "java/util/NoSuchElementException") (by decide +kernel)
  have hl := lv_entry ([.ref (Z 0 0 0), .int a0, .int a1]) (n := 5) (Nat.le_of_ble_eq_true rfl)
  rw [show entryFrame m args 5 = entryFrame m ([.ref (Z 0 0 0), .int a0, .int a1] : List Value).toArray 5 from by rw [hav], lg_entry_eq]
  generalize (lg_sl ([.ref (Z 0 0 0), .int a0, .int a1]) ++ List.replicate (5 - (lg_sl ([.ref (Z 0 0 0), .int a0, .int a1])).length) Slot.unset).toArray = ls at hl ⊢
  have hl : lv_has ls 5 [(0, .ref (Z 0 0 0)), (1, .int a0), (2, .int a1)] := hl
  refine lv_aload_n hx hb dX11_machine_0 rfl (lv_at hl 0 rfl) ?_
  refine va_get (D := (dC, dI)) (ci := 11) (C := RX11) (T := TX11) (N := 19) hx hb hts hinX11 hown hK hP 0 rfl rfl 3 (by decide) (v := .ref (Z 3 0 0)) k1 (fun _ h9 => h9) rfl dX11_machine_1 ?_
  refine va_getN (D := (dC, dI)) (ci := 8) (C := RX7) (T := TX7) (N := 3) hx hb hts hinX7 hown hK hP 1 rfl rfl 0 (by decide) (v := .ref (Z 20 0 0)) (va_Nw.use rfl (hN _ (List.mem_of_getElem? (i := 50) rfl))) (fun _ h9 => h9) rfl dX11_machine_4 ?_
  refine lv_astore_n (nL := 5) (lv' := [(3, .ref (Z 20 0 0)), (0, .ref (Z 0 0 0)), (1, .int a0), (2, .int a1)]) hx hb dX11_machine_7 rfl hl (by decide) rfl (fun ls hl => ?_)
  refine lv_aload_n hx hb dX11_machine_8 rfl (lv_at hl 1 rfl) ?_
  refine va_get (D := (dC, dI)) (ci := 11) (C := RX11) (T := TX11) (N := 19) hx hb hts hinX11 hown hK hP 0 rfl rfl 3 (by decide) (v := .ref (Z 3 0 0)) k1 (fun _ h9 => h9) rfl dX11_machine_9 ?_
  refine va_getN (D := (dC, dI)) (ci := 8) (C := RX7) (T := TX7) (N := 3) hx hb hts hinX7 hown hK hP 1 rfl rfl 1 (by decide) (v := .ref (Z 21 0 0)) (va_Nw.use rfl (hN _ (List.mem_of_getElem? (i := 51) rfl))) (fun _ h9 => h9) rfl dX11_machine_12 ?_
  refine lv_astore (nL := 5) (lv' := [(4, .ref (Z 21 0 0)), (3, .ref (Z 20 0 0)), (0, .ref (Z 0 0 0)), (1, .int a0), (2, .int a1)]) hx hb dX11_machine_15 hl (by decide) rfl (fun ls hl => ?_)
  refine lv_aload_n hx hb dX11_machine_17 rfl (lv_at hl 1 rfl) ?_
  refine lv_iload_n hx hb dX11_machine_18 rfl (lv_at hl 3 rfl) ?_
  refine ko_call (v := some (.int (f_X3_hasMachine a0 O))) (va_runVN (As := [.int a0]) (rest := []) ⟨hx, hb, hml, hown, hts⟩ (c_X3_hasMachine l dC dI cs ad (Z 20 0) O a0 _ rfl) ⟨va_cnB 1 hts gX11_machine_X3_hasMachine_n149 rfl rfl rfl (hN _ (List.mem_of_getElem? (i := 93) rfl)) k2 (by decide +kernel) ⟨Nat.le_of_ble_eq_true rfl, Nat.le_of_ble_eq_true rfl⟩, k3, k4⟩ ⟨fun a U g mk q => ⟨q.1, (fun _ _ _ _ => cPr_bl) a U g mk q.2⟩, va_recv hK hP (ci := 4) (q0 := 2) rfl rfl, fun U hU hW => ⟨rfl, ⟨by rw [hU]; exact (hP.sub (ws' := ww_X3_hasMachine cs ad (Z 20 0) O) [2, 3, 4, 5, 6, 7, 8, 9] rfl), va_K.moved hW.alike hK, kN_warm hW hN⟩⟩⟩ rfl rfl hl.1 rfl (lv_room (Nat.le_of_ble_eq_true rfl)) dX11_machine_19 ⟨(by first | exact Nat.le_refl _ | exact Nat.zero_le _ | exact Nat.le_of_ble_eq_true rfl | (show 0 + _ ≤ 200; omega)), (by first | exact Nat.le_refl _ | exact Nat.zero_le _ | exact Nat.le_of_ble_eq_true rfl | (show 0 + _ ≤ 200; omega))⟩) ?_
  refine lv_if_ne (tgt := 33) hx hb dX11_machine_22 (by decide) (fun _ => ?_) (fun h => absurd h (hm))
  refine lv_iload_n hx hb dX11_machine_33 rfl (lv_at hl 4 rfl) ?_
  refine lv_tableOut (tgt := 148) hx hb dX11_machine_34 hw (by decide) ?_
  refine vx_throw0 (ik := 153) (ic := 155) (cls := "java/util/NoSuchElementException") (names := ["java/lang/RuntimeException", "java/lang/Exception"]) hx hb hst hown (by decide +kernel) (by decide +kernel) k5 k6 hat (by decide +kernel) hTh.2.1 hTh.2.2 hS (by rw [hml]; exact hl.1) dX11_machine_148 dX11_machine_151 dX11_machine_152 dX11_machine_155 (fun x h => (hnoh x h).elim) (Nat.le_of_ble_eq_true rfl) (Nat.le_of_ble_eq_true rfl) (Nat.le_of_ble_eq_true rfl) (Nat.le_of_ble_eq_true rfl) hlocks (fun t hv h1 h2 => ⟨(), trivial, rfl, h1, fun q hq _ => h2 q hq⟩) (fun _ h => nomatch h) (Nat.le_of_ble_eq_true rfl) (Nat.le_of_ble_eq_true rfl)

set_option maxHeartbeats 4000000 in
set_option maxRecDepth 100000 in
theorem c_X11_partT0 (l : Launch) (hst : l.stackTraces = false) (dC : Nat → ClassId) (dI : Nat → Nat → Nat) (cs : Nat → ClassId) (ad : Nat → Nat) (Z : Nat → Nat → Nat → Nat) (K O S N : kD) (a0 a1 : Int32) (v : Int32) (hsum : f_X11_sumOf 6 (S.1 7) = some v) (hm : f_X3_hasMachine a0 O = 0) : vx_Met l yX11_part wsX11_part (rm_s 8 1 6) (va_Pc [.ref (Z 0 0 0), .int a0, .int a1] (fun U => cPr dC dI cs (wX11 cs ad (Z 0 0) (Z 1 0 0) (Z 2 0 0) (Z 3 0 0) (Z 4 0 0) (Z 5 0 0) (Z 6 0 0) (Z 7 0 0) (Z 8 0 0) (Z 9 0 0) (Z 10 0 0) (Z 11 0 0) (Z 12 0 0) (Z 13 0 0) (Z 14 0 0) (Z 18 0 0) K ++ (wX7 cs ad (Z 3 0) (Z 20 0 0) (Z 21 0 0) (Z 22 0 0) zD ++ (wX3 cs ad (Z 20 0) O ++ (wX9 cs ad (Z 21 0) S ++ wX8 cs ad (Z 22 0) N)))) U ∧ kTh kF U U.heap)) (qN) (xT) 1 6 (kF) := by
  refine vx_ofW (cc := cX11_part) (maxL := 5) (ret := (some .int)) (by decide) rfl ?_
  intro p e s m args below meth c s₁ B hml hnoh hv
  obtain ⟨hav, ⟨hP, hK, hN⟩, hTh⟩ := hv
  have hx := B.exec
  have hb := B.bytes
  have hr := B.returns
  have hts := atoms_spec (ws := wsX11_part) B.pre
  have hown : s.vm.findClass RX11 = some m.cls := findClass_of_methodNamed B.named
  have hlocks := B.notSynchronized
  have hinX3 : ∀ w ∈ wsX30, w ∈ wsX11_part := fun w h => List.mem_cons_of_mem _ (List.mem_append_left _ (List.mem_append_right _ h))
  have hinX9 : ∀ w ∈ wsX90, w ∈ wsX11_part := fun w h => List.mem_cons_of_mem _ (List.mem_append_left _ (List.mem_append_left _ (List.mem_append_right _ h)))
  have hinX7 : ∀ w ∈ wsX70, w ∈ wsX11_part := fun w h => List.mem_cons_of_mem _ (List.mem_append_left _ (List.mem_append_left _ (List.mem_append_left _ (List.mem_append_right _ h))))
  have hinX11 : ∀ w ∈ wsX110, w ∈ wsX11_part := fun w h => List.mem_cons_of_mem _ (List.mem_append_left _ (List.mem_append_left _ (List.mem_append_left _ (List.mem_append_left _ (List.mem_append_right _ h)))))
  have hS : va_S kF s.heap s.heap [] := va_S.rf
  have hat : ∀ w ∈ (vx_at0 RX11 155 "java/util/NoSuchElementException" ["java/lang/RuntimeException", "java/lang/Exception"]), w.before args s = true := vx_hat (B := [.castable "java/util/NoSuchElementException" "java/util/NoSuchElementException", .declares ⟨"java/lang/RuntimeException", "<init>", "()V"⟩, .declares ⟨"java/lang/Exception", "<init>", "()V"⟩, .declares ⟨"java/lang/Throwable", "<init>", "()V"⟩]) (fun w h => hts w (List.mem_cons_of_mem _ (List.mem_append_right _ h))) (by decide +kernel) (vx_c (va_Nw.use rfl hTh.1.1) (vx_c (va_Nw.use rfl hTh.1.2.1) (vx_c (va_Nw.use rfl hTh.1.2.2.1) (vx_c (va_Nw.use rfl hTh.1.2.2.2) vx_n))))
  have k1 := hts (.fieldLink RX11 23 "KeyLetters" "scene" "LKeyLetters$Scene;") (by decide +kernel)
  have k2 := hts (.initialized RX3) (by decide +kernel)
  have k3 := hts (.instanceMethod yX3_hasMachine) (by decide +kernel)
  have k4 := hts (.selects RX3 yX3_hasMachine yX3_hasMachine) (by decide +kernel)
  have k5 := hts (.classLink RX11 153 "java/util/NoSuchElementException") (by decide +kernel)
  have k6 := hts (.initialized "java/util/NoSuchElementException") (by decide +kernel)
  have hl := lv_entry ([.ref (Z 0 0 0), .int a0, .int a1]) (n := 5) (Nat.le_of_ble_eq_true rfl)
  rw [show entryFrame m args 5 = entryFrame m ([.ref (Z 0 0 0), .int a0, .int a1] : List Value).toArray 5 from by rw [hav], lg_entry_eq]
  generalize (lg_sl ([.ref (Z 0 0 0), .int a0, .int a1]) ++ List.replicate (5 - (lg_sl ([.ref (Z 0 0 0), .int a0, .int a1])).length) Slot.unset).toArray = ls at hl ⊢
  have hl : lv_has ls 5 [(0, .ref (Z 0 0 0)), (1, .int a0), (2, .int a1)] := hl
  refine lv_aload_n hx hb dX11_part_0 rfl (lv_at hl 0 rfl) ?_
  refine va_get (D := (dC, dI)) (ci := 11) (C := RX11) (T := TX11) (N := 19) hx hb hts hinX11 hown hK hP 0 rfl rfl 3 (by decide) (v := .ref (Z 3 0 0)) k1 (fun _ h9 => h9) rfl dX11_part_1 ?_
  refine va_getN (D := (dC, dI)) (ci := 8) (C := RX7) (T := TX7) (N := 3) hx hb hts hinX7 hown hK hP 1 rfl rfl 1 (by decide) (v := .ref (Z 21 0 0)) (va_Nw.use rfl (hN _ (List.mem_of_getElem? (i := 51) rfl))) (fun _ h9 => h9) rfl dX11_part_4 ?_
  refine va_getN (D := (dC, dI)) (ci := 10) (C := RX9) (T := TX9) (N := 9) hx hb hts hinX9 hown hK hP 10 rfl rfl 7 (by decide) (v := .ref (Z 21 0 7)) (va_Nw.use rfl (hN _ (List.mem_of_getElem? (i := 46) rfl))) (fun _ h9 => h9) rfl dX11_part_7 ?_
  refine ko_call (v := some (.int v)) (va_runS (As := [.ref (Z 21 0 7)]) (rest := []) ⟨hx, hb, hml, hown, hts⟩ (c_X11_sumOf l dC dI cs ad (Z 21 0 7) 6 (S.1 7) v hsum) (va_cwS 1 hts gX11_part_X11_sumOf rfl rfl rfl (by decide +kernel) ⟨Nat.le_of_ble_eq_true rfl, Nat.le_of_ble_eq_true rfl⟩) ⟨fun a U g mk q => ⟨q.1, (fun _ _ _ _ => cPr_bl) a U g mk q.2⟩, fun U hU hW => ⟨rfl, ⟨by rw [hU]; exact (hP.sub (ws' := ww_X11_sumOf cs ad (Z 21 0 7) 6 (S.1 7)) [13] rfl), va_K.moved hW.alike hK, kN_warm hW hN⟩⟩⟩ rfl rfl hl.1 rfl (lv_room (Nat.le_of_ble_eq_true rfl)) dX11_part_10 ⟨(by first | exact Nat.le_refl _ | exact Nat.zero_le _ | exact Nat.le_of_ble_eq_true rfl | (show 0 + _ ≤ 200; omega)), (by first | exact Nat.le_refl _ | exact Nat.zero_le _ | exact Nat.le_of_ble_eq_true rfl | (show 0 + _ ≤ 200; omega))⟩) ?_
  refine lv_istore_n (nL := 5) (lv' := [(3, .int v), (0, .ref (Z 0 0 0)), (1, .int a0), (2, .int a1)]) hx hb dX11_part_13 rfl hl (by decide) rfl (fun ls hl => ?_)
  refine lv_aload_n hx hb dX11_part_14 rfl (lv_at hl 1 rfl) ?_
  refine va_get (D := (dC, dI)) (ci := 11) (C := RX11) (T := TX11) (N := 19) hx hb hts hinX11 hown hK hP 0 rfl rfl 3 (by decide) (v := .ref (Z 3 0 0)) k1 (fun _ h9 => h9) rfl dX11_part_15 ?_
  refine va_getN (D := (dC, dI)) (ci := 8) (C := RX7) (T := TX7) (N := 3) hx hb hts hinX7 hown hK hP 1 rfl rfl 0 (by decide) (v := .ref (Z 20 0 0)) (va_Nw.use rfl (hN _ (List.mem_of_getElem? (i := 50) rfl))) (fun _ h9 => h9) rfl dX11_part_18 ?_
  refine lv_iload_n hx hb dX11_part_21 rfl (lv_at hl 2 rfl) ?_
  refine ko_call (v := some (.int (f_X3_hasMachine a0 O))) (va_runVN (As := [.int a0]) (rest := []) ⟨hx, hb, hml, hown, hts⟩ (c_X3_hasMachine l dC dI cs ad (Z 20 0) O a0 _ rfl) ⟨va_cnB 1 hts gX11_part_X3_hasMachine_n149 rfl rfl rfl (hN _ (List.mem_of_getElem? (i := 93) rfl)) k2 (by decide +kernel) ⟨Nat.le_of_ble_eq_true rfl, Nat.le_of_ble_eq_true rfl⟩, k3, k4⟩ ⟨fun a U g mk q => ⟨q.1, (fun _ _ _ _ => cPr_bl) a U g mk q.2⟩, va_recv hK hP (ci := 4) (q0 := 2) rfl rfl, fun U hU hW => ⟨rfl, ⟨by rw [hU]; exact (hP.sub (ws' := ww_X3_hasMachine cs ad (Z 20 0) O) [2, 3, 4, 5, 6, 7, 8, 9] rfl), va_K.moved hW.alike hK, kN_warm hW hN⟩⟩⟩ rfl rfl hl.1 rfl (lv_room (Nat.le_of_ble_eq_true rfl)) dX11_part_22 ⟨(by first | exact Nat.le_refl _ | exact Nat.zero_le _ | exact Nat.le_of_ble_eq_true rfl | (show 0 + _ ≤ 200; omega)), (by first | exact Nat.le_refl _ | exact Nat.zero_le _ | exact Nat.le_of_ble_eq_true rfl | (show 0 + _ ≤ 200; omega))⟩) ?_
  refine kt_v (show (.int (f_X3_hasMachine a0 O) : Value) = .int 0 from congrArg Value.int hm) ?_
  refine lv_if_eq (tgt := 41) hx hb dX11_part_25 (by decide) (fun _ => ?_) (fun h => absurd (rfl) h)
  refine vx_throw0 (ik := 153) (ic := 155) (cls := "java/util/NoSuchElementException") (names := ["java/lang/RuntimeException", "java/lang/Exception"]) hx hb hst hown (by decide +kernel) (by decide +kernel) k5 k6 hat (by decide +kernel) hTh.2.1 hTh.2.2 hS (by rw [hml]; exact hl.1) dX11_part_41 dX11_part_44 dX11_part_45 dX11_part_48 (fun x h => (hnoh x h).elim) (Nat.le_of_ble_eq_true rfl) (Nat.le_of_ble_eq_true rfl) (Nat.le_of_ble_eq_true rfl) (Nat.le_of_ble_eq_true rfl) hlocks (fun t hv h1 h2 => ⟨(), trivial, rfl, h1, fun q hq _ => h2 q hq⟩) (fun _ h => nomatch h) (Nat.le_of_ble_eq_true rfl) (Nat.le_of_ble_eq_true rfl)

set_option maxHeartbeats 4000000 in
set_option maxRecDepth 100000 in
theorem c_X11_partT1 (l : Launch) (hst : l.stackTraces = false) (dC : Nat → ClassId) (dI : Nat → Nat → Nat) (cs : Nat → ClassId) (ad : Nat → Nat) (Z : Nat → Nat → Nat → Nat) (K O S N : kD) (a0 a1 : Int32) (v : Int32) (hsum : f_X11_sumOf 6 (S.1 7) = some v) (hm : ¬ f_X3_hasMachine a0 O = 0) (hw : a1 < 0) : vx_Met l yX11_part wsX11_part (rm_s 8 1 6) (va_Pc [.ref (Z 0 0 0), .int a0, .int a1] (fun U => cPr dC dI cs (wX11 cs ad (Z 0 0) (Z 1 0 0) (Z 2 0 0) (Z 3 0 0) (Z 4 0 0) (Z 5 0 0) (Z 6 0 0) (Z 7 0 0) (Z 8 0 0) (Z 9 0 0) (Z 10 0 0) (Z 11 0 0) (Z 12 0 0) (Z 13 0 0) (Z 14 0 0) (Z 18 0 0) K ++ (wX7 cs ad (Z 3 0) (Z 20 0 0) (Z 21 0 0) (Z 22 0 0) zD ++ (wX3 cs ad (Z 20 0) O ++ (wX9 cs ad (Z 21 0) S ++ wX8 cs ad (Z 22 0) N)))) U ∧ kTh kF U U.heap)) (qN) (xT) 1 6 (kF) := by
  refine vx_ofW (cc := cX11_part) (maxL := 5) (ret := (some .int)) (by decide) rfl ?_
  intro p e s m args below meth c s₁ B hml hnoh hv
  obtain ⟨hav, ⟨hP, hK, hN⟩, hTh⟩ := hv
  have hx := B.exec
  have hb := B.bytes
  have hr := B.returns
  have hts := atoms_spec (ws := wsX11_part) B.pre
  have hown : s.vm.findClass RX11 = some m.cls := findClass_of_methodNamed B.named
  have hlocks := B.notSynchronized
  have hinX3 : ∀ w ∈ wsX30, w ∈ wsX11_part := fun w h => List.mem_cons_of_mem _ (List.mem_append_left _ (List.mem_append_right _ h))
  have hinX9 : ∀ w ∈ wsX90, w ∈ wsX11_part := fun w h => List.mem_cons_of_mem _ (List.mem_append_left _ (List.mem_append_left _ (List.mem_append_right _ h)))
  have hinX7 : ∀ w ∈ wsX70, w ∈ wsX11_part := fun w h => List.mem_cons_of_mem _ (List.mem_append_left _ (List.mem_append_left _ (List.mem_append_left _ (List.mem_append_right _ h))))
  have hinX11 : ∀ w ∈ wsX110, w ∈ wsX11_part := fun w h => List.mem_cons_of_mem _ (List.mem_append_left _ (List.mem_append_left _ (List.mem_append_left _ (List.mem_append_left _ (List.mem_append_right _ h)))))
  have hS : va_S kF s.heap s.heap [] := va_S.rf
  have hat : ∀ w ∈ (vx_at0 RX11 155 "java/util/NoSuchElementException" ["java/lang/RuntimeException", "java/lang/Exception"]), w.before args s = true := vx_hat (B := [.castable "java/util/NoSuchElementException" "java/util/NoSuchElementException", .declares ⟨"java/lang/RuntimeException", "<init>", "()V"⟩, .declares ⟨"java/lang/Exception", "<init>", "()V"⟩, .declares ⟨"java/lang/Throwable", "<init>", "()V"⟩]) (fun w h => hts w (List.mem_cons_of_mem _ (List.mem_append_right _ h))) (by decide +kernel) (vx_c (va_Nw.use rfl hTh.1.1) (vx_c (va_Nw.use rfl hTh.1.2.1) (vx_c (va_Nw.use rfl hTh.1.2.2.1) (vx_c (va_Nw.use rfl hTh.1.2.2.2) vx_n))))
  have k1 := hts (.fieldLink RX11 23 "KeyLetters" "scene" "LKeyLetters$Scene;") (by decide +kernel)
  have k2 := hts (.initialized RX3) (by decide +kernel)
  have k3 := hts (.instanceMethod yX3_hasMachine) (by decide +kernel)
  have k4 := hts (.selects RX3 yX3_hasMachine yX3_hasMachine) (by decide +kernel)
  have k5 := hts (.classLink RX11 153 "java/util/NoSuchElementException") (by decide +kernel)
  have k6 := hts (.initialized "java/util/NoSuchElementException") (by decide +kernel)
  have hl := lv_entry ([.ref (Z 0 0 0), .int a0, .int a1]) (n := 5) (Nat.le_of_ble_eq_true rfl)
  rw [show entryFrame m args 5 = entryFrame m ([.ref (Z 0 0 0), .int a0, .int a1] : List Value).toArray 5 from by rw [hav], lg_entry_eq]
  generalize (lg_sl ([.ref (Z 0 0 0), .int a0, .int a1]) ++ List.replicate (5 - (lg_sl ([.ref (Z 0 0 0), .int a0, .int a1])).length) Slot.unset).toArray = ls at hl ⊢
  have hl : lv_has ls 5 [(0, .ref (Z 0 0 0)), (1, .int a0), (2, .int a1)] := hl
  refine lv_aload_n hx hb dX11_part_0 rfl (lv_at hl 0 rfl) ?_
  refine va_get (D := (dC, dI)) (ci := 11) (C := RX11) (T := TX11) (N := 19) hx hb hts hinX11 hown hK hP 0 rfl rfl 3 (by decide) (v := .ref (Z 3 0 0)) k1 (fun _ h9 => h9) rfl dX11_part_1 ?_
  refine va_getN (D := (dC, dI)) (ci := 8) (C := RX7) (T := TX7) (N := 3) hx hb hts hinX7 hown hK hP 1 rfl rfl 1 (by decide) (v := .ref (Z 21 0 0)) (va_Nw.use rfl (hN _ (List.mem_of_getElem? (i := 51) rfl))) (fun _ h9 => h9) rfl dX11_part_4 ?_
  refine va_getN (D := (dC, dI)) (ci := 10) (C := RX9) (T := TX9) (N := 9) hx hb hts hinX9 hown hK hP 10 rfl rfl 7 (by decide) (v := .ref (Z 21 0 7)) (va_Nw.use rfl (hN _ (List.mem_of_getElem? (i := 46) rfl))) (fun _ h9 => h9) rfl dX11_part_7 ?_
  refine ko_call (v := some (.int v)) (va_runS (As := [.ref (Z 21 0 7)]) (rest := []) ⟨hx, hb, hml, hown, hts⟩ (c_X11_sumOf l dC dI cs ad (Z 21 0 7) 6 (S.1 7) v hsum) (va_cwS 1 hts gX11_part_X11_sumOf rfl rfl rfl (by decide +kernel) ⟨Nat.le_of_ble_eq_true rfl, Nat.le_of_ble_eq_true rfl⟩) ⟨fun a U g mk q => ⟨q.1, (fun _ _ _ _ => cPr_bl) a U g mk q.2⟩, fun U hU hW => ⟨rfl, ⟨by rw [hU]; exact (hP.sub (ws' := ww_X11_sumOf cs ad (Z 21 0 7) 6 (S.1 7)) [13] rfl), va_K.moved hW.alike hK, kN_warm hW hN⟩⟩⟩ rfl rfl hl.1 rfl (lv_room (Nat.le_of_ble_eq_true rfl)) dX11_part_10 ⟨(by first | exact Nat.le_refl _ | exact Nat.zero_le _ | exact Nat.le_of_ble_eq_true rfl | (show 0 + _ ≤ 200; omega)), (by first | exact Nat.le_refl _ | exact Nat.zero_le _ | exact Nat.le_of_ble_eq_true rfl | (show 0 + _ ≤ 200; omega))⟩) ?_
  refine lv_istore_n (nL := 5) (lv' := [(3, .int v), (0, .ref (Z 0 0 0)), (1, .int a0), (2, .int a1)]) hx hb dX11_part_13 rfl hl (by decide) rfl (fun ls hl => ?_)
  refine lv_aload_n hx hb dX11_part_14 rfl (lv_at hl 1 rfl) ?_
  refine va_get (D := (dC, dI)) (ci := 11) (C := RX11) (T := TX11) (N := 19) hx hb hts hinX11 hown hK hP 0 rfl rfl 3 (by decide) (v := .ref (Z 3 0 0)) k1 (fun _ h9 => h9) rfl dX11_part_15 ?_
  refine va_getN (D := (dC, dI)) (ci := 8) (C := RX7) (T := TX7) (N := 3) hx hb hts hinX7 hown hK hP 1 rfl rfl 0 (by decide) (v := .ref (Z 20 0 0)) (va_Nw.use rfl (hN _ (List.mem_of_getElem? (i := 50) rfl))) (fun _ h9 => h9) rfl dX11_part_18 ?_
  refine lv_iload_n hx hb dX11_part_21 rfl (lv_at hl 2 rfl) ?_
  refine ko_call (v := some (.int (f_X3_hasMachine a0 O))) (va_runVN (As := [.int a0]) (rest := []) ⟨hx, hb, hml, hown, hts⟩ (c_X3_hasMachine l dC dI cs ad (Z 20 0) O a0 _ rfl) ⟨va_cnB 1 hts gX11_part_X3_hasMachine_n149 rfl rfl rfl (hN _ (List.mem_of_getElem? (i := 93) rfl)) k2 (by decide +kernel) ⟨Nat.le_of_ble_eq_true rfl, Nat.le_of_ble_eq_true rfl⟩, k3, k4⟩ ⟨fun a U g mk q => ⟨q.1, (fun _ _ _ _ => cPr_bl) a U g mk q.2⟩, va_recv hK hP (ci := 4) (q0 := 2) rfl rfl, fun U hU hW => ⟨rfl, ⟨by rw [hU]; exact (hP.sub (ws' := ww_X3_hasMachine cs ad (Z 20 0) O) [2, 3, 4, 5, 6, 7, 8, 9] rfl), va_K.moved hW.alike hK, kN_warm hW hN⟩⟩⟩ rfl rfl hl.1 rfl (lv_room (Nat.le_of_ble_eq_true rfl)) dX11_part_22 ⟨(by first | exact Nat.le_refl _ | exact Nat.zero_le _ | exact Nat.le_of_ble_eq_true rfl | (show 0 + _ ≤ 200; omega)), (by first | exact Nat.le_refl _ | exact Nat.zero_le _ | exact Nat.le_of_ble_eq_true rfl | (show 0 + _ ≤ 200; omega))⟩) ?_
  refine lv_if_eq (tgt := 41) hx hb dX11_part_25 (by decide) (fun h => absurd h (hm)) (fun _ => ?_)
  refine lv_iload_n hx hb dX11_part_28 rfl (lv_at hl 3 rfl) ?_
  refine lv_if_lt (tgt := 41) hx hb dX11_part_29 (by decide) (fun _ => ?_) (fun h => absurd (hw) h)
  refine vx_throw0 (ik := 153) (ic := 155) (cls := "java/util/NoSuchElementException") (names := ["java/lang/RuntimeException", "java/lang/Exception"]) hx hb hst hown (by decide +kernel) (by decide +kernel) k5 k6 hat (by decide +kernel) hTh.2.1 hTh.2.2 hS (by rw [hml]; exact hl.1) dX11_part_41 dX11_part_44 dX11_part_45 dX11_part_48 (fun x h => (hnoh x h).elim) (Nat.le_of_ble_eq_true rfl) (Nat.le_of_ble_eq_true rfl) (Nat.le_of_ble_eq_true rfl) (Nat.le_of_ble_eq_true rfl) hlocks (fun t hv h1 h2 => ⟨(), trivial, rfl, h1, fun q hq _ => h2 q hq⟩) (fun _ h => nomatch h) (Nat.le_of_ble_eq_true rfl) (Nat.le_of_ble_eq_true rfl)

set_option maxHeartbeats 4000000 in
set_option maxRecDepth 100000 in
theorem c_X11_partT2 (l : Launch) (hst : l.stackTraces = false) (dC : Nat → ClassId) (dI : Nat → Nat → Nat) (cs : Nat → ClassId) (ad : Nat → Nat) (Z : Nat → Nat → Nat → Nat) (K O S N : kD) (a0 a1 : Int32) (v : Int32) (hsum : f_X11_sumOf 6 (S.1 7) = some v) (hm : ¬ f_X3_hasMachine a0 O = 0) (hw : ¬ a1 < 0) (hw1 : (1 : Int32) < a1) : vx_Met l yX11_part wsX11_part (rm_s 8 1 6) (va_Pc [.ref (Z 0 0 0), .int a0, .int a1] (fun U => cPr dC dI cs (wX11 cs ad (Z 0 0) (Z 1 0 0) (Z 2 0 0) (Z 3 0 0) (Z 4 0 0) (Z 5 0 0) (Z 6 0 0) (Z 7 0 0) (Z 8 0 0) (Z 9 0 0) (Z 10 0 0) (Z 11 0 0) (Z 12 0 0) (Z 13 0 0) (Z 14 0 0) (Z 18 0 0) K ++ (wX7 cs ad (Z 3 0) (Z 20 0 0) (Z 21 0 0) (Z 22 0 0) zD ++ (wX3 cs ad (Z 20 0) O ++ (wX9 cs ad (Z 21 0) S ++ wX8 cs ad (Z 22 0) N)))) U ∧ kTh kF U U.heap)) (qN) (xT) 1 6 (kF) := by
  refine vx_ofW (cc := cX11_part) (maxL := 5) (ret := (some .int)) (by decide) rfl ?_
  intro p e s m args below meth c s₁ B hml hnoh hv
  obtain ⟨hav, ⟨hP, hK, hN⟩, hTh⟩ := hv
  have hx := B.exec
  have hb := B.bytes
  have hr := B.returns
  have hts := atoms_spec (ws := wsX11_part) B.pre
  have hown : s.vm.findClass RX11 = some m.cls := findClass_of_methodNamed B.named
  have hlocks := B.notSynchronized
  have hinX3 : ∀ w ∈ wsX30, w ∈ wsX11_part := fun w h => List.mem_cons_of_mem _ (List.mem_append_left _ (List.mem_append_right _ h))
  have hinX9 : ∀ w ∈ wsX90, w ∈ wsX11_part := fun w h => List.mem_cons_of_mem _ (List.mem_append_left _ (List.mem_append_left _ (List.mem_append_right _ h)))
  have hinX7 : ∀ w ∈ wsX70, w ∈ wsX11_part := fun w h => List.mem_cons_of_mem _ (List.mem_append_left _ (List.mem_append_left _ (List.mem_append_left _ (List.mem_append_right _ h))))
  have hinX11 : ∀ w ∈ wsX110, w ∈ wsX11_part := fun w h => List.mem_cons_of_mem _ (List.mem_append_left _ (List.mem_append_left _ (List.mem_append_left _ (List.mem_append_left _ (List.mem_append_right _ h)))))
  have hS : va_S kF s.heap s.heap [] := va_S.rf
  have hat : ∀ w ∈ (vx_at0 RX11 155 "java/util/NoSuchElementException" ["java/lang/RuntimeException", "java/lang/Exception"]), w.before args s = true := vx_hat (B := [.castable "java/util/NoSuchElementException" "java/util/NoSuchElementException", .declares ⟨"java/lang/RuntimeException", "<init>", "()V"⟩, .declares ⟨"java/lang/Exception", "<init>", "()V"⟩, .declares ⟨"java/lang/Throwable", "<init>", "()V"⟩]) (fun w h => hts w (List.mem_cons_of_mem _ (List.mem_append_right _ h))) (by decide +kernel) (vx_c (va_Nw.use rfl hTh.1.1) (vx_c (va_Nw.use rfl hTh.1.2.1) (vx_c (va_Nw.use rfl hTh.1.2.2.1) (vx_c (va_Nw.use rfl hTh.1.2.2.2) vx_n))))
  have k1 := hts (.fieldLink RX11 23 "KeyLetters" "scene" "LKeyLetters$Scene;") (by decide +kernel)
  have k2 := hts (.initialized RX3) (by decide +kernel)
  have k3 := hts (.instanceMethod yX3_hasMachine) (by decide +kernel)
  have k4 := hts (.selects RX3 yX3_hasMachine yX3_hasMachine) (by decide +kernel)
  have k5 := hts (.classLink RX11 153 "java/util/NoSuchElementException") (by decide +kernel)
  have k6 := hts (.initialized "java/util/NoSuchElementException") (by decide +kernel)
  have hl := lv_entry ([.ref (Z 0 0 0), .int a0, .int a1]) (n := 5) (Nat.le_of_ble_eq_true rfl)
  rw [show entryFrame m args 5 = entryFrame m ([.ref (Z 0 0 0), .int a0, .int a1] : List Value).toArray 5 from by rw [hav], lg_entry_eq]
  generalize (lg_sl ([.ref (Z 0 0 0), .int a0, .int a1]) ++ List.replicate (5 - (lg_sl ([.ref (Z 0 0 0), .int a0, .int a1])).length) Slot.unset).toArray = ls at hl ⊢
  have hl : lv_has ls 5 [(0, .ref (Z 0 0 0)), (1, .int a0), (2, .int a1)] := hl
  refine lv_aload_n hx hb dX11_part_0 rfl (lv_at hl 0 rfl) ?_
  refine va_get (D := (dC, dI)) (ci := 11) (C := RX11) (T := TX11) (N := 19) hx hb hts hinX11 hown hK hP 0 rfl rfl 3 (by decide) (v := .ref (Z 3 0 0)) k1 (fun _ h9 => h9) rfl dX11_part_1 ?_
  refine va_getN (D := (dC, dI)) (ci := 8) (C := RX7) (T := TX7) (N := 3) hx hb hts hinX7 hown hK hP 1 rfl rfl 1 (by decide) (v := .ref (Z 21 0 0)) (va_Nw.use rfl (hN _ (List.mem_of_getElem? (i := 51) rfl))) (fun _ h9 => h9) rfl dX11_part_4 ?_
  refine va_getN (D := (dC, dI)) (ci := 10) (C := RX9) (T := TX9) (N := 9) hx hb hts hinX9 hown hK hP 10 rfl rfl 7 (by decide) (v := .ref (Z 21 0 7)) (va_Nw.use rfl (hN _ (List.mem_of_getElem? (i := 46) rfl))) (fun _ h9 => h9) rfl dX11_part_7 ?_
  refine ko_call (v := some (.int v)) (va_runS (As := [.ref (Z 21 0 7)]) (rest := []) ⟨hx, hb, hml, hown, hts⟩ (c_X11_sumOf l dC dI cs ad (Z 21 0 7) 6 (S.1 7) v hsum) (va_cwS 1 hts gX11_part_X11_sumOf rfl rfl rfl (by decide +kernel) ⟨Nat.le_of_ble_eq_true rfl, Nat.le_of_ble_eq_true rfl⟩) ⟨fun a U g mk q => ⟨q.1, (fun _ _ _ _ => cPr_bl) a U g mk q.2⟩, fun U hU hW => ⟨rfl, ⟨by rw [hU]; exact (hP.sub (ws' := ww_X11_sumOf cs ad (Z 21 0 7) 6 (S.1 7)) [13] rfl), va_K.moved hW.alike hK, kN_warm hW hN⟩⟩⟩ rfl rfl hl.1 rfl (lv_room (Nat.le_of_ble_eq_true rfl)) dX11_part_10 ⟨(by first | exact Nat.le_refl _ | exact Nat.zero_le _ | exact Nat.le_of_ble_eq_true rfl | (show 0 + _ ≤ 200; omega)), (by first | exact Nat.le_refl _ | exact Nat.zero_le _ | exact Nat.le_of_ble_eq_true rfl | (show 0 + _ ≤ 200; omega))⟩) ?_
  refine lv_istore_n (nL := 5) (lv' := [(3, .int v), (0, .ref (Z 0 0 0)), (1, .int a0), (2, .int a1)]) hx hb dX11_part_13 rfl hl (by decide) rfl (fun ls hl => ?_)
  refine lv_aload_n hx hb dX11_part_14 rfl (lv_at hl 1 rfl) ?_
  refine va_get (D := (dC, dI)) (ci := 11) (C := RX11) (T := TX11) (N := 19) hx hb hts hinX11 hown hK hP 0 rfl rfl 3 (by decide) (v := .ref (Z 3 0 0)) k1 (fun _ h9 => h9) rfl dX11_part_15 ?_
  refine va_getN (D := (dC, dI)) (ci := 8) (C := RX7) (T := TX7) (N := 3) hx hb hts hinX7 hown hK hP 1 rfl rfl 0 (by decide) (v := .ref (Z 20 0 0)) (va_Nw.use rfl (hN _ (List.mem_of_getElem? (i := 50) rfl))) (fun _ h9 => h9) rfl dX11_part_18 ?_
  refine lv_iload_n hx hb dX11_part_21 rfl (lv_at hl 2 rfl) ?_
  refine ko_call (v := some (.int (f_X3_hasMachine a0 O))) (va_runVN (As := [.int a0]) (rest := []) ⟨hx, hb, hml, hown, hts⟩ (c_X3_hasMachine l dC dI cs ad (Z 20 0) O a0 _ rfl) ⟨va_cnB 1 hts gX11_part_X3_hasMachine_n149 rfl rfl rfl (hN _ (List.mem_of_getElem? (i := 93) rfl)) k2 (by decide +kernel) ⟨Nat.le_of_ble_eq_true rfl, Nat.le_of_ble_eq_true rfl⟩, k3, k4⟩ ⟨fun a U g mk q => ⟨q.1, (fun _ _ _ _ => cPr_bl) a U g mk q.2⟩, va_recv hK hP (ci := 4) (q0 := 2) rfl rfl, fun U hU hW => ⟨rfl, ⟨by rw [hU]; exact (hP.sub (ws' := ww_X3_hasMachine cs ad (Z 20 0) O) [2, 3, 4, 5, 6, 7, 8, 9] rfl), va_K.moved hW.alike hK, kN_warm hW hN⟩⟩⟩ rfl rfl hl.1 rfl (lv_room (Nat.le_of_ble_eq_true rfl)) dX11_part_22 ⟨(by first | exact Nat.le_refl _ | exact Nat.zero_le _ | exact Nat.le_of_ble_eq_true rfl | (show 0 + _ ≤ 200; omega)), (by first | exact Nat.le_refl _ | exact Nat.zero_le _ | exact Nat.le_of_ble_eq_true rfl | (show 0 + _ ≤ 200; omega))⟩) ?_
  refine lv_if_eq (tgt := 41) hx hb dX11_part_25 (by decide) (fun h => absurd h (hm)) (fun _ => ?_)
  refine lv_iload_n hx hb dX11_part_28 rfl (lv_at hl 3 rfl) ?_
  refine lv_if_lt (tgt := 41) hx hb dX11_part_29 (by decide) (fun h => absurd h (hw)) (fun _ => ?_)
  refine lv_iload_n hx hb dX11_part_32 rfl (lv_at hl 3 rfl) ?_
  refine lv_iconst (v := 1) hx hb dX11_part_33 (by decide) ?_
  refine lv_icmp_gt (tgt := 41) hx hb dX11_part_34 (by decide) (fun _ => ?_) (fun h => absurd (hw1) h)
  refine vx_throw0 (ik := 153) (ic := 155) (cls := "java/util/NoSuchElementException") (names := ["java/lang/RuntimeException", "java/lang/Exception"]) hx hb hst hown (by decide +kernel) (by decide +kernel) k5 k6 hat (by decide +kernel) hTh.2.1 hTh.2.2 hS (by rw [hml]; exact hl.1) dX11_part_41 dX11_part_44 dX11_part_45 dX11_part_48 (fun x h => (hnoh x h).elim) (Nat.le_of_ble_eq_true rfl) (Nat.le_of_ble_eq_true rfl) (Nat.le_of_ble_eq_true rfl) (Nat.le_of_ble_eq_true rfl) hlocks (fun t hv h1 h2 => ⟨(), trivial, rfl, h1, fun q hq _ => h2 q hq⟩) (fun _ h => nomatch h) (Nat.le_of_ble_eq_true rfl) (Nat.le_of_ble_eq_true rfl)

set_option maxHeartbeats 4000000 in
set_option maxRecDepth 100000 in
theorem c_X11_partT3 (l : Launch) (hst : l.stackTraces = false) (dC : Nat → ClassId) (dI : Nat → Nat → Nat) (cs : Nat → ClassId) (ad : Nat → Nat) (Z : Nat → Nat → Nat → Nat) (K O S N : kD) (a0 a1 : Int32) (v : Int32) (hsum : f_X11_sumOf 6 (S.1 7) = some v) (hm : ¬ f_X3_hasMachine a0 O = 0) (hw : ¬ a1 < 0) (hw1 : ¬ (1 : Int32) < a1) (hv0 : ¬ (0 : Int32) < v) : vx_Met l yX11_part wsX11_part (rm_s 8 1 6) (va_Pc [.ref (Z 0 0 0), .int a0, .int a1] (fun U => cPr dC dI cs (wX11 cs ad (Z 0 0) (Z 1 0 0) (Z 2 0 0) (Z 3 0 0) (Z 4 0 0) (Z 5 0 0) (Z 6 0 0) (Z 7 0 0) (Z 8 0 0) (Z 9 0 0) (Z 10 0 0) (Z 11 0 0) (Z 12 0 0) (Z 13 0 0) (Z 14 0 0) (Z 18 0 0) K ++ (wX7 cs ad (Z 3 0) (Z 20 0 0) (Z 21 0 0) (Z 22 0 0) zD ++ (wX3 cs ad (Z 20 0) O ++ (wX9 cs ad (Z 21 0) S ++ wX8 cs ad (Z 22 0) N)))) U ∧ kTh kF U U.heap)) (qN) (xT) 1 6 (kF) := by
  refine vx_ofW (cc := cX11_part) (maxL := 5) (ret := (some .int)) (by decide) rfl ?_
  intro p e s m args below meth c s₁ B hml hnoh hv
  obtain ⟨hav, ⟨hP, hK, hN⟩, hTh⟩ := hv
  have hx := B.exec
  have hb := B.bytes
  have hr := B.returns
  have hts := atoms_spec (ws := wsX11_part) B.pre
  have hown : s.vm.findClass RX11 = some m.cls := findClass_of_methodNamed B.named
  have hlocks := B.notSynchronized
  have hinX3 : ∀ w ∈ wsX30, w ∈ wsX11_part := fun w h => List.mem_cons_of_mem _ (List.mem_append_left _ (List.mem_append_right _ h))
  have hinX9 : ∀ w ∈ wsX90, w ∈ wsX11_part := fun w h => List.mem_cons_of_mem _ (List.mem_append_left _ (List.mem_append_left _ (List.mem_append_right _ h)))
  have hinX7 : ∀ w ∈ wsX70, w ∈ wsX11_part := fun w h => List.mem_cons_of_mem _ (List.mem_append_left _ (List.mem_append_left _ (List.mem_append_left _ (List.mem_append_right _ h))))
  have hinX11 : ∀ w ∈ wsX110, w ∈ wsX11_part := fun w h => List.mem_cons_of_mem _ (List.mem_append_left _ (List.mem_append_left _ (List.mem_append_left _ (List.mem_append_left _ (List.mem_append_right _ h)))))
  have hS : va_S kF s.heap s.heap [] := va_S.rf
  have hat : ∀ w ∈ (vx_at0 RX11 155 "java/util/NoSuchElementException" ["java/lang/RuntimeException", "java/lang/Exception"]), w.before args s = true := vx_hat (B := [.castable "java/util/NoSuchElementException" "java/util/NoSuchElementException", .declares ⟨"java/lang/RuntimeException", "<init>", "()V"⟩, .declares ⟨"java/lang/Exception", "<init>", "()V"⟩, .declares ⟨"java/lang/Throwable", "<init>", "()V"⟩]) (fun w h => hts w (List.mem_cons_of_mem _ (List.mem_append_right _ h))) (by decide +kernel) (vx_c (va_Nw.use rfl hTh.1.1) (vx_c (va_Nw.use rfl hTh.1.2.1) (vx_c (va_Nw.use rfl hTh.1.2.2.1) (vx_c (va_Nw.use rfl hTh.1.2.2.2) vx_n))))
  have k1 := hts (.fieldLink RX11 23 "KeyLetters" "scene" "LKeyLetters$Scene;") (by decide +kernel)
  have k2 := hts (.initialized RX3) (by decide +kernel)
  have k3 := hts (.instanceMethod yX3_hasMachine) (by decide +kernel)
  have k4 := hts (.selects RX3 yX3_hasMachine yX3_hasMachine) (by decide +kernel)
  have k5 := hts (.classLink RX11 153 "java/util/NoSuchElementException") (by decide +kernel)
  have k6 := hts (.initialized "java/util/NoSuchElementException") (by decide +kernel)
  have hl := lv_entry ([.ref (Z 0 0 0), .int a0, .int a1]) (n := 5) (Nat.le_of_ble_eq_true rfl)
  rw [show entryFrame m args 5 = entryFrame m ([.ref (Z 0 0 0), .int a0, .int a1] : List Value).toArray 5 from by rw [hav], lg_entry_eq]
  generalize (lg_sl ([.ref (Z 0 0 0), .int a0, .int a1]) ++ List.replicate (5 - (lg_sl ([.ref (Z 0 0 0), .int a0, .int a1])).length) Slot.unset).toArray = ls at hl ⊢
  have hl : lv_has ls 5 [(0, .ref (Z 0 0 0)), (1, .int a0), (2, .int a1)] := hl
  refine lv_aload_n hx hb dX11_part_0 rfl (lv_at hl 0 rfl) ?_
  refine va_get (D := (dC, dI)) (ci := 11) (C := RX11) (T := TX11) (N := 19) hx hb hts hinX11 hown hK hP 0 rfl rfl 3 (by decide) (v := .ref (Z 3 0 0)) k1 (fun _ h9 => h9) rfl dX11_part_1 ?_
  refine va_getN (D := (dC, dI)) (ci := 8) (C := RX7) (T := TX7) (N := 3) hx hb hts hinX7 hown hK hP 1 rfl rfl 1 (by decide) (v := .ref (Z 21 0 0)) (va_Nw.use rfl (hN _ (List.mem_of_getElem? (i := 51) rfl))) (fun _ h9 => h9) rfl dX11_part_4 ?_
  refine va_getN (D := (dC, dI)) (ci := 10) (C := RX9) (T := TX9) (N := 9) hx hb hts hinX9 hown hK hP 10 rfl rfl 7 (by decide) (v := .ref (Z 21 0 7)) (va_Nw.use rfl (hN _ (List.mem_of_getElem? (i := 46) rfl))) (fun _ h9 => h9) rfl dX11_part_7 ?_
  refine ko_call (v := some (.int v)) (va_runS (As := [.ref (Z 21 0 7)]) (rest := []) ⟨hx, hb, hml, hown, hts⟩ (c_X11_sumOf l dC dI cs ad (Z 21 0 7) 6 (S.1 7) v hsum) (va_cwS 1 hts gX11_part_X11_sumOf rfl rfl rfl (by decide +kernel) ⟨Nat.le_of_ble_eq_true rfl, Nat.le_of_ble_eq_true rfl⟩) ⟨fun a U g mk q => ⟨q.1, (fun _ _ _ _ => cPr_bl) a U g mk q.2⟩, fun U hU hW => ⟨rfl, ⟨by rw [hU]; exact (hP.sub (ws' := ww_X11_sumOf cs ad (Z 21 0 7) 6 (S.1 7)) [13] rfl), va_K.moved hW.alike hK, kN_warm hW hN⟩⟩⟩ rfl rfl hl.1 rfl (lv_room (Nat.le_of_ble_eq_true rfl)) dX11_part_10 ⟨(by first | exact Nat.le_refl _ | exact Nat.zero_le _ | exact Nat.le_of_ble_eq_true rfl | (show 0 + _ ≤ 200; omega)), (by first | exact Nat.le_refl _ | exact Nat.zero_le _ | exact Nat.le_of_ble_eq_true rfl | (show 0 + _ ≤ 200; omega))⟩) ?_
  refine lv_istore_n (nL := 5) (lv' := [(3, .int v), (0, .ref (Z 0 0 0)), (1, .int a0), (2, .int a1)]) hx hb dX11_part_13 rfl hl (by decide) rfl (fun ls hl => ?_)
  refine lv_aload_n hx hb dX11_part_14 rfl (lv_at hl 1 rfl) ?_
  refine va_get (D := (dC, dI)) (ci := 11) (C := RX11) (T := TX11) (N := 19) hx hb hts hinX11 hown hK hP 0 rfl rfl 3 (by decide) (v := .ref (Z 3 0 0)) k1 (fun _ h9 => h9) rfl dX11_part_15 ?_
  refine va_getN (D := (dC, dI)) (ci := 8) (C := RX7) (T := TX7) (N := 3) hx hb hts hinX7 hown hK hP 1 rfl rfl 0 (by decide) (v := .ref (Z 20 0 0)) (va_Nw.use rfl (hN _ (List.mem_of_getElem? (i := 50) rfl))) (fun _ h9 => h9) rfl dX11_part_18 ?_
  refine lv_iload_n hx hb dX11_part_21 rfl (lv_at hl 2 rfl) ?_
  refine ko_call (v := some (.int (f_X3_hasMachine a0 O))) (va_runVN (As := [.int a0]) (rest := []) ⟨hx, hb, hml, hown, hts⟩ (c_X3_hasMachine l dC dI cs ad (Z 20 0) O a0 _ rfl) ⟨va_cnB 1 hts gX11_part_X3_hasMachine_n149 rfl rfl rfl (hN _ (List.mem_of_getElem? (i := 93) rfl)) k2 (by decide +kernel) ⟨Nat.le_of_ble_eq_true rfl, Nat.le_of_ble_eq_true rfl⟩, k3, k4⟩ ⟨fun a U g mk q => ⟨q.1, (fun _ _ _ _ => cPr_bl) a U g mk q.2⟩, va_recv hK hP (ci := 4) (q0 := 2) rfl rfl, fun U hU hW => ⟨rfl, ⟨by rw [hU]; exact (hP.sub (ws' := ww_X3_hasMachine cs ad (Z 20 0) O) [2, 3, 4, 5, 6, 7, 8, 9] rfl), va_K.moved hW.alike hK, kN_warm hW hN⟩⟩⟩ rfl rfl hl.1 rfl (lv_room (Nat.le_of_ble_eq_true rfl)) dX11_part_22 ⟨(by first | exact Nat.le_refl _ | exact Nat.zero_le _ | exact Nat.le_of_ble_eq_true rfl | (show 0 + _ ≤ 200; omega)), (by first | exact Nat.le_refl _ | exact Nat.zero_le _ | exact Nat.le_of_ble_eq_true rfl | (show 0 + _ ≤ 200; omega))⟩) ?_
  refine lv_if_eq (tgt := 41) hx hb dX11_part_25 (by decide) (fun h => absurd h (hm)) (fun _ => ?_)
  refine lv_iload_n hx hb dX11_part_28 rfl (lv_at hl 3 rfl) ?_
  refine lv_if_lt (tgt := 41) hx hb dX11_part_29 (by decide) (fun h => absurd h (hw)) (fun _ => ?_)
  refine lv_iload_n hx hb dX11_part_32 rfl (lv_at hl 3 rfl) ?_
  refine lv_iconst (v := 1) hx hb dX11_part_33 (by decide) ?_
  refine lv_icmp_gt (tgt := 41) hx hb dX11_part_34 (by decide) (fun h => absurd h (hw1)) (fun _ => ?_)
  refine lv_iload_n hx hb dX11_part_37 rfl (lv_at hl 0 rfl) ?_
  refine lv_if_gt (tgt := 49) hx hb dX11_part_38 (by decide) (fun h => absurd h (hv0)) (fun _ => ?_)
  refine vx_throw0 (ik := 153) (ic := 155) (cls := "java/util/NoSuchElementException") (names := ["java/lang/RuntimeException", "java/lang/Exception"]) hx hb hst hown (by decide +kernel) (by decide +kernel) k5 k6 hat (by decide +kernel) hTh.2.1 hTh.2.2 hS (by rw [hml]; exact hl.1) dX11_part_41 dX11_part_44 dX11_part_45 dX11_part_48 (fun x h => (hnoh x h).elim) (Nat.le_of_ble_eq_true rfl) (Nat.le_of_ble_eq_true rfl) (Nat.le_of_ble_eq_true rfl) (Nat.le_of_ble_eq_true rfl) hlocks (fun t hv h1 h2 => ⟨(), trivial, rfl, h1, fun q hq _ => h2 q hq⟩) (fun _ h => nomatch h) (Nat.le_of_ble_eq_true rfl) (Nat.le_of_ble_eq_true rfl)
