def ww_X11_machine (cs : Nat → ClassId) (ad : Nat → Nat) (raK : Nat → Nat) (raC : Nat → Nat) (raO : Nat → Nat) (raS : Nat → Nat) (raN : Nat → Nat) (xK0 : Nat) (xK2 : Nat) (xK4 : Nat) (xK5 : Nat) (xK6 : Nat) (xK7 : Nat) (xK8 : Nat) (xK9 : Nat) (xK10 : Nat) (xK11 : Nat) (xK12 : Nat) (xK13 : Nat) (xK14 : Nat) (xK18 : Nat) (K : kD) (C : kD) (O : kD) (S : kD) (N : kD) : va_W := (wX11 cs ad raK xK0 xK2 (raC 0) xK4 xK5 xK6 xK7 xK8 xK9 xK10 xK11 xK12 xK13 xK14 xK18 K ++ (wX7 cs ad raC (raO 0) (raS 0) (raN 0) C ++ (wX3 cs ad raO O ++ (wX9 cs ad raS S ++ (wX8 cs ad raN N)))))
noncomputable def fV_machine (a0 : Int32) (a1 : Int32) (K : kD) (C : kD) (O : kD) (S : kD) (N : kD) : Option Int32 :=
  if (f_X3_hasMachine a0 O) = 0 then
  none
  else
  if a1 = 0 then
  if a0 < 0 ∨ 6 ≤ a0.toNatClampNeg then none else
  some (S.1 5 a0.toNatClampNeg)
  else
  if a1 = 1 then
  if a0 < 0 ∨ 6 ≤ a0.toNatClampNeg then none else
  some (O.1 6 a0.toNatClampNeg)
  else
  if a1 = 2 then
  if (f_X9_isHeld a0 S) = 0 then
  some (0 : Int32)
  else
  some (1 : Int32)
  else
  if a1 = 3 then
  if a0 < 0 ∨ 6 ≤ a0.toNatClampNeg then none else
  some (S.1 6 a0.toNatClampNeg)
  else
  if a1 = 4 then
  if a0 < 0 ∨ 6 ≤ a0.toNatClampNeg then none else
  some (S.1 7 a0.toNatClampNeg)
  else
  if a1 = 5 then
  bo (f_X9_phrasesAble a0 S O) fun v12 =>
  some v12
  else
  if a1 = 6 then
  bo (f_X9_owedBy a0 S) fun v15 =>
  some v15
  else
  if a1 = 7 then
  bo (f_X9_owedTo a0 S) fun v18 =>
  some v18
  else
  none
abbrev rm_X11_machine : Room := { frames := 4, cells := 0, slots := 0, locals := 90 }
set_option maxHeartbeats 4000000 in
set_option maxRecDepth 100000 in
theorem c_X11_machine (l : Launch) (dC : Nat → ClassId) (dI : Nat → Nat → Nat) (cs : Nat → ClassId) (ad : Nat → Nat) (raK : Nat → Nat) (raC : Nat → Nat) (raO : Nat → Nat) (raS : Nat → Nat) (raN : Nat → Nat) (xK0 : Nat) (xK2 : Nat) (xK4 : Nat) (xK5 : Nat) (xK6 : Nat) (xK7 : Nat) (xK8 : Nat) (xK9 : Nat) (xK10 : Nat) (xK11 : Nat) (xK12 : Nat) (xK13 : Nat) (xK14 : Nat) (xK18 : Nat) (K : kD) (C : kD) (O : kD) (S : kD) (N : kD) (a0 : Int32) (a1 : Int32) (r : Int32) (hf : fV_machine a0 a1 K C O S N = some r) : Met l yX11_machine wsX11_machine rm_X11_machine (va_Pc [.ref (raK 0), .int a0, .int a1] (cPr dC dI cs (ww_X11_machine cs ad raK raC raO raS raN xK0 xK2 xK4 xK5 xK6 xK7 xK8 xK9 xK10 xK11 xK12 xK13 xK14 xK18 K C O S N))) (kQ (some (.int r))) 0 0 (kF) := by
  refine Met.ofW (cc := cX11_machine) (maxL := 5) (ret := (some .int)) (by decide) rfl ?_
  intro p e s m args below meth c s₁ B hml hv
  obtain ⟨hav, hP, hK, hN⟩ := hv
  have hx := B.exec
  have hb := B.bytes
  have hr := B.returns
  have hts := atoms_spec (ws := wsX11_machine) B.pre
  have hown : s.vm.findClass RX11 = some m.cls := findClass_of_methodNamed B.named
  have hlocks := B.notSynchronized
  have hinX11 := (show ∀ w ∈ wsX110, w ∈ wsX11_machine from fun w h => List.mem_cons_of_mem _ (List.mem_append_left _ (List.mem_append_left _ (List.mem_append_left _ (List.mem_append_left _ (List.mem_append_right _ h))))))
  have hinX3 := (show ∀ w ∈ wsX30, w ∈ wsX11_machine from fun w h => List.mem_cons_of_mem _ (List.mem_append_left _ (List.mem_append_right _ h)))
  have hinX7 := (show ∀ w ∈ wsX70, w ∈ wsX11_machine from fun w h => List.mem_cons_of_mem _ (List.mem_append_left _ (List.mem_append_left _ (List.mem_append_left _ (List.mem_append_right _ h)))))
  have hinX9 := (show ∀ w ∈ wsX90, w ∈ wsX11_machine from fun w h => List.mem_cons_of_mem _ (List.mem_append_left _ (List.mem_append_left _ (List.mem_append_right _ h))))
  have k_fieldLink_RX11_23__KeyLetters___scene___LKeyLetters_Scene__ := hts (.fieldLink RX11 23 "KeyLetters" "scene" "LKeyLetters$Scene;") (List.mem_of_getElem? (i := 3) rfl)
  have k_initialized_RX3 := hts (.initialized RX3) (List.mem_of_getElem? (i := 5) rfl)
  have k_initialized_RX9 := hts (.initialized RX9) (List.mem_of_getElem? (i := 10) rfl)
  have k_instanceMethod_yX3_hasMachine := hts (.instanceMethod yX3_hasMachine) (List.mem_of_getElem? (i := 4) rfl)
  have k_instanceMethod_yX9_isHeld := hts (.instanceMethod yX9_isHeld) (List.mem_of_getElem? (i := 9) rfl)
  have k_instanceMethod_yX9_owedBy := hts (.instanceMethod yX9_owedBy) (List.mem_of_getElem? (i := 42) rfl)
  have k_instanceMethod_yX9_owedTo := hts (.instanceMethod yX9_owedTo) (List.mem_of_getElem? (i := 50) rfl)
  have k_instanceMethod_yX9_phrasesAble := hts (.instanceMethod yX9_phrasesAble) (List.mem_of_getElem? (i := 17) rfl)
  have k_selects_RX3_yX3_hasMachine_yX3_hasMachine := hts (.selects RX3 yX3_hasMachine yX3_hasMachine) (List.mem_of_getElem? (i := 6) rfl)
  have k_selects_RX9_yX9_isHeld_yX9_isHeld := hts (.selects RX9 yX9_isHeld yX9_isHeld) (List.mem_of_getElem? (i := 11) rfl)
  have k_selects_RX9_yX9_owedBy_yX9_owedBy := hts (.selects RX9 yX9_owedBy yX9_owedBy) (List.mem_of_getElem? (i := 43) rfl)
  have k_selects_RX9_yX9_owedTo_yX9_owedTo := hts (.selects RX9 yX9_owedTo yX9_owedTo) (List.mem_of_getElem? (i := 51) rfl)
  have k_selects_RX9_yX9_phrasesAble_yX9_phrasesAble := hts (.selects RX9 yX9_phrasesAble yX9_phrasesAble) (List.mem_of_getElem? (i := 18) rfl)
  have hl := lv_entry ([.ref (raK 0), .int a0, .int a1]) (n := 5) (Nat.le_of_ble_eq_true rfl)
  rw [show entryFrame m args 5 = entryFrame m ([.ref (raK 0), .int a0, .int a1] : List Value).toArray 5 from by rw [hav], lg_entry_eq]
  generalize (lg_sl ([.ref (raK 0), .int a0, .int a1]) ++ List.replicate (5 - (lg_sl ([.ref (raK 0), .int a0, .int a1])).length) Slot.unset).toArray = ls at hl ⊢
  have hl : lv_has ls 5 [(0, .ref (raK 0)), (1, .int a0), (2, .int a1)] := hl
  unfold fV_machine at hf
  refine lv_aload_n hx hb dX11_machine_0 rfl (lv_at hl 0 rfl) ?_
  refine va_get (D := (dC, dI)) (ci := 11) (C := RX11) (T := TX11) (N := 19) hx hb hts hinX11 hown hK hP 0 rfl rfl 3 (by decide) (v := .ref (raC 0)) k_fieldLink_RX11_23__KeyLetters___scene___LKeyLetters_Scene__ (fun _ h9 => h9) rfl dX11_machine_1 ?_
  refine va_getN (D := (dC, dI)) (ci := 8) (C := RX7) (T := TX7) (N := 3) hx hb hts hinX7 hown hK hP 1 rfl rfl 0 (by decide) (v := .ref (raO 0)) (va_Nw.use rfl (hN _ (List.mem_of_getElem? (i := 50) rfl))) (fun _ h9 => h9) rfl dX11_machine_4 ?_
  refine lv_astore_n (nL := 5) (lv' := [(3, .ref (raO 0)), (0, .ref (raK 0)), (1, .int a0), (2, .int a1)]) hx hb dX11_machine_7 rfl hl (by decide) rfl (fun ls hl => ?_)
  refine lv_aload_n hx hb dX11_machine_8 rfl (lv_at hl 1 rfl) ?_
  refine va_get (D := (dC, dI)) (ci := 11) (C := RX11) (T := TX11) (N := 19) hx hb hts hinX11 hown hK hP 0 rfl rfl 3 (by decide) (v := .ref (raC 0)) k_fieldLink_RX11_23__KeyLetters___scene___LKeyLetters_Scene__ (fun _ h9 => h9) rfl dX11_machine_9 ?_
  refine va_getN (D := (dC, dI)) (ci := 8) (C := RX7) (T := TX7) (N := 3) hx hb hts hinX7 hown hK hP 1 rfl rfl 1 (by decide) (v := .ref (raS 0)) (va_Nw.use rfl (hN _ (List.mem_of_getElem? (i := 51) rfl))) (fun _ h9 => h9) rfl dX11_machine_12 ?_
  refine lv_astore (nL := 5) (lv' := [(4, .ref (raS 0)), (3, .ref (raO 0)), (0, .ref (raK 0)), (1, .int a0), (2, .int a1)]) hx hb dX11_machine_15 hl (by decide) rfl (fun ls hl => ?_)
  refine lv_aload_n hx hb dX11_machine_17 rfl (lv_at hl 1 rfl) ?_
  refine lv_iload_n hx hb dX11_machine_18 rfl (lv_at hl 3 rfl) ?_
  refine ko_call (v := some (.int (f_X3_hasMachine a0 O))) (va_runVN (As := [.int a0]) (rest := []) ⟨hx, hb, hml, hown, hts⟩ (c_X3_hasMachine l dC dI cs ad raO O a0 _ rfl) ⟨va_cnB 1 hts gX11_machine_X3_hasMachine_n149 rfl rfl rfl (hN _ (List.mem_of_getElem? (i := 93) rfl)) k_initialized_RX3 (by decide +kernel) ⟨Nat.le_of_ble_eq_true rfl, Nat.le_of_ble_eq_true rfl⟩, k_instanceMethod_yX3_hasMachine, k_selects_RX3_yX3_hasMachine_yX3_hasMachine⟩ ⟨fun a U g mk q => ⟨q.1, (fun _ _ _ _ => cPr_bl) a U g mk q.2⟩, va_recv hK hP (ci := 4) (q0 := 2) rfl rfl, fun U hU hW => ⟨rfl, ⟨by rw [hU]; exact (hP.sub (ws' := (ww_X3_hasMachine cs ad raO O)) [2, 3, 4, 5, 6, 7, 8, 9] rfl), va_K.moved hW.alike hK, kN_warm hW hN⟩⟩⟩ rfl rfl hl.1 rfl (lv_room (Nat.le_of_ble_eq_true rfl)) dX11_machine_19 ⟨Nat.le_refl _, Nat.le_refl _⟩) ?_
  refine lv_if_ne (tgt := 33) hx hb dX11_machine_22 (by decide) (fun hb20 => ?_) (fun hb20 => ?_)
  · have hf := (if_neg hb20).symm.trans hf
    refine lv_iload_n hx hb dX11_machine_33 rfl (lv_at hl 4 rfl) ?_
    by_cases hs2 : a1 = 0
    · have hf := (if_pos hs2).symm.trans hf
      refine lv_tableIn (off := 46) (tgt := 80) hx hb dX11_machine_34 (by rw [hs2]; decide) (by rw [hs2]; decide) (by rw [hs2]; decide +kernel) (by decide) ?_
      refine lv_aload hx hb dX11_machine_80 (lv_at hl 0 rfl) ?_
      refine va_getN (D := (dC, dI)) (ci := 10) (C := RX9) (T := TX9) (N := 9) hx hb hts hinX9 hown hK hP 10 rfl rfl 5 (by decide) (v := .ref (raS 5)) (va_Nw.use rfl (hN _ (List.mem_of_getElem? (i := 42) rfl))) (fun _ h9 => h9) rfl dX11_machine_82 ?_
      refine lv_iload_n hx hb dX11_machine_85 rfl (lv_at hl 3 rfl) ?_
      obtain ⟨hc1, hf⟩ := ck_e hf
      refine va_iald hx hb hK hP 11 1 rfl rfl hc1 dX11_machine_86 ?_
      have hf := Option.some.inj hf
      subst hf
      exact W.iret (v := (S.1 5 a0.toNatClampNeg)) hx hb hr (fun t ht hW => ⟨rfl, ht⟩) (fun _ h => nomatch h) dX11_machine_87
    have hf := (if_neg hs2).symm.trans hf
    by_cases hs4 : a1 = 1
    · have hf := (if_pos hs4).symm.trans hf
      refine lv_tableIn (off := 54) (tgt := 88) hx hb dX11_machine_34 (by rw [hs4]; decide) (by rw [hs4]; decide) (by rw [hs4]; decide +kernel) (by decide) ?_
      refine lv_aload_n hx hb dX11_machine_88 rfl (lv_at hl 1 rfl) ?_
      refine va_getN (D := (dC, dI)) (ci := 4) (C := RX3) (T := TX3) (N := 11) hx hb hts hinX3 hown hK hP 2 rfl rfl 6 (by decide) (v := .ref (raO 6)) (va_Nw.use rfl (hN _ (List.mem_of_getElem? (i := 24) rfl))) (fun _ h9 => h9) rfl dX11_machine_89 ?_
      refine lv_iload_n hx hb dX11_machine_92 rfl (lv_at hl 3 rfl) ?_
      obtain ⟨hc3, hf⟩ := ck_e hf
      refine va_iald hx hb hK hP 5 1 rfl rfl hc3 dX11_machine_93 ?_
      have hf := Option.some.inj hf
      subst hf
      exact W.iret (v := (O.1 6 a0.toNatClampNeg)) hx hb hr (fun t ht hW => ⟨rfl, ht⟩) (fun _ h => nomatch h) dX11_machine_94
    have hf := (if_neg hs4).symm.trans hf
    by_cases hs6 : a1 = 2
    · have hf := (if_pos hs6).symm.trans hf
      refine lv_tableIn (off := 61) (tgt := 95) hx hb dX11_machine_34 (by rw [hs6]; decide) (by rw [hs6]; decide) (by rw [hs6]; decide +kernel) (by decide) ?_
      refine lv_aload hx hb dX11_machine_95 (lv_at hl 0 rfl) ?_
      refine lv_iload_n hx hb dX11_machine_97 rfl (lv_at hl 3 rfl) ?_
      refine ko_call (v := some (.int (f_X9_isHeld a0 S))) (va_runVN (As := [.int a0]) (rest := []) ⟨hx, hb, hml, hown, hts⟩ (c_X9_isHeld l dC dI cs ad raS S a0 _ rfl) ⟨va_cnB 1 hts gX11_machine_X9_isHeld_n162 rfl rfl rfl (hN _ (List.mem_of_getElem? (i := 117) rfl)) k_initialized_RX9 (by decide +kernel) ⟨Nat.le_of_ble_eq_true rfl, Nat.le_of_ble_eq_true rfl⟩, k_instanceMethod_yX9_isHeld, k_selects_RX9_yX9_isHeld_yX9_isHeld⟩ ⟨fun a U g mk q => ⟨q.1, (fun _ _ _ _ => cPr_bl) a U g mk q.2⟩, va_recv hK hP (ci := 10) (q0 := 10) rfl rfl, fun U hU hW => ⟨rfl, ⟨by rw [hU]; exact (hP.sub (ws' := (ww_X9_isHeld cs ad raS S)) [10, 11, 12, 13, 14] rfl), va_K.moved hW.alike hK, kN_warm hW hN⟩⟩⟩ rfl rfl hl.1 rfl (lv_room (Nat.le_of_ble_eq_true rfl)) dX11_machine_98 ⟨Nat.le_refl _, Nat.le_refl _⟩) ?_
      refine lv_if_eq (tgt := 108) hx hb dX11_machine_101 (by decide) (fun hb5 => ?_) (fun hb5 => ?_)
      · have hf := (if_pos hb5).symm.trans hf
        refine lv_iconst (v := 0) hx hb dX11_machine_108 (by decide) ?_
        have hf := Option.some.inj hf
        subst hf
        exact W.iret (v := (0 : Int32)) hx hb hr (fun t ht hW => ⟨rfl, ht⟩) (fun _ h => nomatch h) dX11_machine_109
      · have hf := (if_neg hb5).symm.trans hf
        refine lv_iconst (v := 1) hx hb dX11_machine_104 (by decide) ?_
        refine lv_goto (tgt := 109) hx hb dX11_machine_105 (by decide) ?_
        have hf := Option.some.inj hf
        subst hf
        exact W.iret (v := (1 : Int32)) hx hb hr (fun t ht hW => ⟨rfl, ht⟩) (fun _ h => nomatch h) dX11_machine_109
    have hf := (if_neg hs6).symm.trans hf
    by_cases hs8 : a1 = 3
    · have hf := (if_pos hs8).symm.trans hf
      refine lv_tableIn (off := 76) (tgt := 110) hx hb dX11_machine_34 (by rw [hs8]; decide) (by rw [hs8]; decide) (by rw [hs8]; decide +kernel) (by decide) ?_
      refine lv_aload hx hb dX11_machine_110 (lv_at hl 0 rfl) ?_
      refine va_getN (D := (dC, dI)) (ci := 10) (C := RX9) (T := TX9) (N := 9) hx hb hts hinX9 hown hK hP 10 rfl rfl 6 (by decide) (v := .ref (raS 6)) (va_Nw.use rfl (hN _ (List.mem_of_getElem? (i := 44) rfl))) (fun _ h9 => h9) rfl dX11_machine_112 ?_
      refine lv_iload_n hx hb dX11_machine_115 rfl (lv_at hl 3 rfl) ?_
      obtain ⟨hc7, hf⟩ := ck_e hf
      refine va_iald hx hb hK hP 12 1 rfl rfl hc7 dX11_machine_116 ?_
      have hf := Option.some.inj hf
      subst hf
      exact W.iret (v := (S.1 6 a0.toNatClampNeg)) hx hb hr (fun t ht hW => ⟨rfl, ht⟩) (fun _ h => nomatch h) dX11_machine_117
    have hf := (if_neg hs8).symm.trans hf
    by_cases hs10 : a1 = 4
    · have hf := (if_pos hs10).symm.trans hf
      refine lv_tableIn (off := 84) (tgt := 118) hx hb dX11_machine_34 (by rw [hs10]; decide) (by rw [hs10]; decide) (by rw [hs10]; decide +kernel) (by decide) ?_
      refine lv_aload hx hb dX11_machine_118 (lv_at hl 0 rfl) ?_
      refine va_getN (D := (dC, dI)) (ci := 10) (C := RX9) (T := TX9) (N := 9) hx hb hts hinX9 hown hK hP 10 rfl rfl 7 (by decide) (v := .ref (raS 7)) (va_Nw.use rfl (hN _ (List.mem_of_getElem? (i := 46) rfl))) (fun _ h9 => h9) rfl dX11_machine_120 ?_
      refine lv_iload_n hx hb dX11_machine_123 rfl (lv_at hl 3 rfl) ?_
      obtain ⟨hc9, hf⟩ := ck_e hf
      refine va_iald hx hb hK hP 13 1 rfl rfl hc9 dX11_machine_124 ?_
      have hf := Option.some.inj hf
      subst hf
      exact W.iret (v := (S.1 7 a0.toNatClampNeg)) hx hb hr (fun t ht hW => ⟨rfl, ht⟩) (fun _ h => nomatch h) dX11_machine_125
    have hf := (if_neg hs10).symm.trans hf
    by_cases hs13 : a1 = 5
    · have hf := (if_pos hs13).symm.trans hf
      refine lv_tableIn (off := 92) (tgt := 126) hx hb dX11_machine_34 (by rw [hs13]; decide) (by rw [hs13]; decide) (by rw [hs13]; decide +kernel) (by decide) ?_
      refine lv_aload hx hb dX11_machine_126 (lv_at hl 0 rfl) ?_
      refine lv_aload_n hx hb dX11_machine_128 rfl (lv_at hl 1 rfl) ?_
      refine lv_iload_n hx hb dX11_machine_129 rfl (lv_at hl 3 rfl) ?_
      obtain ⟨v12, hq11, hf⟩ := bo_e hf
      refine ko_call (v := some (.int v12)) (va_runVN (As := [.ref (raO 0), .int a0]) (rest := []) ⟨hx, hb, hml, hown, hts⟩ (c_X9_phrasesAble l dC dI cs ad raS raO S O a0 v12 hq11) ⟨va_cnB 2 hts gX11_machine_X9_phrasesAble_n171 rfl rfl rfl (hN _ (List.mem_of_getElem? (i := 153) rfl)) k_initialized_RX9 (by decide +kernel) ⟨Nat.le_of_ble_eq_true rfl, Nat.le_of_ble_eq_true rfl⟩, k_instanceMethod_yX9_phrasesAble, k_selects_RX9_yX9_phrasesAble_yX9_phrasesAble⟩ ⟨fun a U g mk q => ⟨q.1, (fun _ _ _ _ => cPr_bl) a U g mk q.2⟩, va_recv hK hP (ci := 10) (q0 := 10) rfl rfl, fun U hU hW => ⟨rfl, ⟨by rw [hU]; exact (hP.sub (ws' := (ww_X9_phrasesAble cs ad raS raO S O)) [10, 11, 12, 13, 14, 2, 3, 4, 5, 6, 7, 8, 9] rfl), va_K.moved hW.alike hK, kN_warm hW hN⟩⟩⟩ rfl rfl hl.1 rfl (lv_room (Nat.le_of_ble_eq_true rfl)) dX11_machine_130 ⟨Nat.le_refl _, Nat.le_refl _⟩) ?_
      have hf := Option.some.inj hf
      subst hf
      exact W.iret (v := v12) hx hb hr (fun t ht hW => ⟨rfl, ht⟩) (fun _ h => nomatch h) dX11_machine_133
    have hf := (if_neg hs13).symm.trans hf
    by_cases hs16 : a1 = 6
    · have hf := (if_pos hs16).symm.trans hf
      refine lv_tableIn (off := 100) (tgt := 134) hx hb dX11_machine_34 (by rw [hs16]; decide) (by rw [hs16]; decide) (by rw [hs16]; decide +kernel) (by decide) ?_
      refine lv_aload hx hb dX11_machine_134 (lv_at hl 0 rfl) ?_
      refine lv_iload_n hx hb dX11_machine_136 rfl (lv_at hl 3 rfl) ?_
      obtain ⟨v15, hq14, hf⟩ := bo_e hf
      refine ko_call (v := some (.int v15)) (va_runVN (As := [.int a0]) (rest := []) ⟨hx, hb, hml, hown, hts⟩ (c_X9_owedBy l dC dI cs ad raS S a0 v15 hq14) ⟨va_cnB 1 hts gX11_machine_X9_owedBy_n175 rfl rfl rfl (hN _ (List.mem_of_getElem? (i := 154) rfl)) k_initialized_RX9 (by decide +kernel) ⟨Nat.le_of_ble_eq_true rfl, Nat.le_of_ble_eq_true rfl⟩, k_instanceMethod_yX9_owedBy, k_selects_RX9_yX9_owedBy_yX9_owedBy⟩ ⟨fun a U g mk q => ⟨q.1, (fun _ _ _ _ => cPr_bl) a U g mk q.2⟩, va_recv hK hP (ci := 10) (q0 := 10) rfl rfl, fun U hU hW => ⟨rfl, ⟨by rw [hU]; exact (hP.sub (ws' := (ww_X9_owedBy cs ad raS S)) [10, 11, 12, 13, 14] rfl), va_K.moved hW.alike hK, kN_warm hW hN⟩⟩⟩ rfl rfl hl.1 rfl (lv_room (Nat.le_of_ble_eq_true rfl)) dX11_machine_137 ⟨Nat.le_refl _, Nat.le_refl _⟩) ?_
      have hf := Option.some.inj hf
      subst hf
      exact W.iret (v := v15) hx hb hr (fun t ht hW => ⟨rfl, ht⟩) (fun _ h => nomatch h) dX11_machine_140
    have hf := (if_neg hs16).symm.trans hf
    by_cases hs19 : a1 = 7
    · have hf := (if_pos hs19).symm.trans hf
      refine lv_tableIn (off := 107) (tgt := 141) hx hb dX11_machine_34 (by rw [hs19]; decide) (by rw [hs19]; decide) (by rw [hs19]; decide +kernel) (by decide) ?_
      refine lv_aload hx hb dX11_machine_141 (lv_at hl 0 rfl) ?_
      refine lv_iload_n hx hb dX11_machine_143 rfl (lv_at hl 3 rfl) ?_
      obtain ⟨v18, hq17, hf⟩ := bo_e hf
      refine ko_call (v := some (.int v18)) (va_runVN (As := [.int a0]) (rest := []) ⟨hx, hb, hml, hown, hts⟩ (c_X9_owedTo l dC dI cs ad raS S a0 v18 hq17) ⟨va_cnB 1 hts gX11_machine_X9_owedTo_n179 rfl rfl rfl (hN _ (List.mem_of_getElem? (i := 155) rfl)) k_initialized_RX9 (by decide +kernel) ⟨Nat.le_of_ble_eq_true rfl, Nat.le_of_ble_eq_true rfl⟩, k_instanceMethod_yX9_owedTo, k_selects_RX9_yX9_owedTo_yX9_owedTo⟩ ⟨fun a U g mk q => ⟨q.1, (fun _ _ _ _ => cPr_bl) a U g mk q.2⟩, va_recv hK hP (ci := 10) (q0 := 10) rfl rfl, fun U hU hW => ⟨rfl, ⟨by rw [hU]; exact (hP.sub (ws' := (ww_X9_owedTo cs ad raS S)) [10, 11, 12, 13, 14] rfl), va_K.moved hW.alike hK, kN_warm hW hN⟩⟩⟩ rfl rfl hl.1 rfl (lv_room (Nat.le_of_ble_eq_true rfl)) dX11_machine_144 ⟨Nat.le_refl _, Nat.le_refl _⟩) ?_
      have hf := Option.some.inj hf
      subst hf
      exact W.iret (v := v18) hx hb hr (fun t ht hW => ⟨rfl, ht⟩) (fun _ h => nomatch h) dX11_machine_147
    have hf := (if_neg hs19).symm.trans hf
    have hsw : a1.toInt < 0 ∨ 7 < a1.toInt := by
      have qhs2 : a1.toInt ≠ 0 := fun q => hs2 (Int32.toInt_inj.mp (q.trans (by decide)))
      have qhs4 : a1.toInt ≠ 1 := fun q => hs4 (Int32.toInt_inj.mp (q.trans (by decide)))
      have qhs6 : a1.toInt ≠ 2 := fun q => hs6 (Int32.toInt_inj.mp (q.trans (by decide)))
      have qhs8 : a1.toInt ≠ 3 := fun q => hs8 (Int32.toInt_inj.mp (q.trans (by decide)))
      have qhs10 : a1.toInt ≠ 4 := fun q => hs10 (Int32.toInt_inj.mp (q.trans (by decide)))
      have qhs13 : a1.toInt ≠ 5 := fun q => hs13 (Int32.toInt_inj.mp (q.trans (by decide)))
      have qhs16 : a1.toInt ≠ 6 := fun q => hs16 (Int32.toInt_inj.mp (q.trans (by decide)))
      have qhs19 : a1.toInt ≠ 7 := fun q => hs19 (Int32.toInt_inj.mp (q.trans (by decide)))
      omega
    refine lv_tableOut (tgt := 148) hx hb dX11_machine_34 hsw (by decide) ?_
    cases hf
  · have hf := (if_pos hb20).symm.trans hf
    cases hf

def ww_X11_part (cs : Nat → ClassId) (ad : Nat → Nat) (raK : Nat → Nat) (raC : Nat → Nat) (raO : Nat → Nat) (raS : Nat → Nat) (raN : Nat → Nat) (xK0 : Nat) (xK2 : Nat) (xK4 : Nat) (xK5 : Nat) (xK6 : Nat) (xK7 : Nat) (xK8 : Nat) (xK9 : Nat) (xK10 : Nat) (xK11 : Nat) (xK12 : Nat) (xK13 : Nat) (xK14 : Nat) (xK18 : Nat) (K : kD) (C : kD) (O : kD) (S : kD) (N : kD) : va_W := (wX11 cs ad raK xK0 xK2 (raC 0) xK4 xK5 xK6 xK7 xK8 xK9 xK10 xK11 xK12 xK13 xK14 xK18 K ++ (wX7 cs ad raC (raO 0) (raS 0) (raN 0) C ++ (wX3 cs ad raO O ++ (wX9 cs ad raS S ++ (wX8 cs ad raN N)))))
noncomputable def gV_part_41 (K : kD) (C : kD) (O : kD) (S : kD) (N : kD) : Option Int32 :=
  none
noncomputable def gV_part_73 (K : kD) (C : kD) (O : kD) (S : kD) (N : kD) (x3_73 : Int32) (x4_73 : Int32) (t0_73 : Int32) : Option Int32 :=
  bo (f_X11_commonDivisor x4_73 x3_73) fun v2 =>
  if v2 = 0 then none else
  some (t0_73 / v2)
noncomputable def fV_part (a0 : Int32) (a1 : Int32) (K : kD) (C : kD) (O : kD) (S : kD) (N : kD) : Option Int32 :=
  bo (f_X11_sumOf 6 (S.1 7)) fun v5 =>
  if (f_X3_hasMachine a0 O) = 0 then
  gV_part_41 K C O S N
  else
  if a1 < 0 then
  gV_part_41 K C O S N
  else
  if (1 : Int32) < a1 then
  gV_part_41 K C O S N
  else
  if 0 < v5 then
  if a0 < 0 ∨ 6 ≤ a0.toNatClampNeg then none else
  bd1 (S.1 7 a0.toNatClampNeg) fun v7 =>
  if a1 = 0 then
  gV_part_73 K C O S N v5 v7 v7
  else
  gV_part_73 K C O S N v5 v7 v5
  else
  gV_part_41 K C O S N
abbrev rm_X11_part : Room := { frames := 2, cells := 0, slots := 0, locals := 65 }
set_option maxHeartbeats 4000000 in
set_option maxRecDepth 100000 in
theorem c_X11_part (l : Launch) (dC : Nat → ClassId) (dI : Nat → Nat → Nat) (cs : Nat → ClassId) (ad : Nat → Nat) (raK : Nat → Nat) (raC : Nat → Nat) (raO : Nat → Nat) (raS : Nat → Nat) (raN : Nat → Nat) (xK0 : Nat) (xK2 : Nat) (xK4 : Nat) (xK5 : Nat) (xK6 : Nat) (xK7 : Nat) (xK8 : Nat) (xK9 : Nat) (xK10 : Nat) (xK11 : Nat) (xK12 : Nat) (xK13 : Nat) (xK14 : Nat) (xK18 : Nat) (K : kD) (C : kD) (O : kD) (S : kD) (N : kD) (a0 : Int32) (a1 : Int32) (r : Int32) (hf : fV_part a0 a1 K C O S N = some r) : Met l yX11_part wsX11_part rm_X11_part (va_Pc [.ref (raK 0), .int a0, .int a1] (cPr dC dI cs (ww_X11_part cs ad raK raC raO raS raN xK0 xK2 xK4 xK5 xK6 xK7 xK8 xK9 xK10 xK11 xK12 xK13 xK14 xK18 K C O S N))) (kQ (some (.int r))) 0 0 (kF) := by
  refine Met.ofW (cc := cX11_part) (maxL := 5) (ret := (some .int)) (by decide) rfl ?_
  intro p e s m args below meth c s₁ B hml hv
  obtain ⟨hav, hP, hK, hN⟩ := hv
  have hx := B.exec
  have hb := B.bytes
  have hr := B.returns
  have hts := atoms_spec (ws := wsX11_part) B.pre
  have hown : s.vm.findClass RX11 = some m.cls := findClass_of_methodNamed B.named
  have hlocks := B.notSynchronized
  have hinX11 := (show ∀ w ∈ wsX110, w ∈ wsX11_part from fun w h => List.mem_cons_of_mem _ (List.mem_append_left _ (List.mem_append_left _ (List.mem_append_left _ (List.mem_append_left _ (List.mem_append_right _ h))))))
  have hinX7 := (show ∀ w ∈ wsX70, w ∈ wsX11_part from fun w h => List.mem_cons_of_mem _ (List.mem_append_left _ (List.mem_append_left _ (List.mem_append_left _ (List.mem_append_right _ h)))))
  have hinX9 := (show ∀ w ∈ wsX90, w ∈ wsX11_part from fun w h => List.mem_cons_of_mem _ (List.mem_append_left _ (List.mem_append_left _ (List.mem_append_right _ h))))
  have k_fieldLink_RX11_23__KeyLetters___scene___LKeyLetters_Scene__ := hts (.fieldLink RX11 23 "KeyLetters" "scene" "LKeyLetters$Scene;") (List.mem_of_getElem? (i := 3) rfl)
  have k_initialized_RX3 := hts (.initialized RX3) (List.mem_of_getElem? (i := 9) rfl)
  have k_instanceMethod_yX3_hasMachine := hts (.instanceMethod yX3_hasMachine) (List.mem_of_getElem? (i := 8) rfl)
  have k_selects_RX3_yX3_hasMachine_yX3_hasMachine := hts (.selects RX3 yX3_hasMachine yX3_hasMachine) (List.mem_of_getElem? (i := 10) rfl)
  have hl := lv_entry ([.ref (raK 0), .int a0, .int a1]) (n := 5) (Nat.le_of_ble_eq_true rfl)
  rw [show entryFrame m args 5 = entryFrame m ([.ref (raK 0), .int a0, .int a1] : List Value).toArray 5 from by rw [hav], lg_entry_eq]
  generalize (lg_sl ([.ref (raK 0), .int a0, .int a1]) ++ List.replicate (5 - (lg_sl ([.ref (raK 0), .int a0, .int a1])).length) Slot.unset).toArray = ls at hl ⊢
  have hl : lv_has ls 5 [(0, .ref (raK 0)), (1, .int a0), (2, .int a1)] := hl
  unfold fV_part at hf
  have h_41 : ∀ (ls : Array Slot), lv_has ls 5 [] → gV_part_41 K C O S N = some r → W p l e (headSpec wsX11_part rm_X11_part).room s m args below meth c s.heap [] 0 0 (MQ below (kQ (some (.int r))) args s 0 0 (kF)) (F0 m 41 ls []) := by
    intro ls hl hf
    unfold gV_part_41 at hf
    cases hf
  have h_73 : ∀ (x3_73 : Int32) (x4_73 : Int32) (t0_73 : Int32) (ls : Array Slot), lv_has ls 5 [(3, .int x3_73), (4, .int x4_73)] → gV_part_73 K C O S N x3_73 x4_73 t0_73 = some r → W p l e (headSpec wsX11_part rm_X11_part).room s m args below meth c s.heap [] 0 0 (MQ below (kQ (some (.int r))) args s 0 0 (kF)) (F0 m 73 ls [.int t0_73]) := by
    intro x3_73 x4_73 t0_73 ls hl hf
    unfold gV_part_73 at hf
    refine lv_iload hx hb dX11_part_73 (lv_at hl 1 rfl) ?_
    refine lv_iload_n hx hb dX11_part_75 rfl (lv_at hl 0 rfl) ?_
    obtain ⟨v2, hq1, hf⟩ := bo_e hf
    refine ko_call (v := some (.int v2)) (va_runS (As := [.int x4_73, .int x3_73]) (rest := [.int t0_73]) ⟨hx, hb, hml, hown, hts⟩ (c_X11_commonDivisor l dC dI cs ad x4_73 x3_73 v2 hq1) (va_cwS 2 hts gX11_part_X11_commonDivisor rfl rfl rfl (by decide +kernel) ⟨Nat.le_of_ble_eq_true rfl, Nat.le_of_ble_eq_true rfl⟩) ⟨fun a U g mk q => ⟨q.1, (fun _ _ _ _ => cPr_bl) a U g mk q.2⟩, fun U hU hW => ⟨rfl, ⟨by rw [hU]; exact (hP.sub (ws' := ([] : va_W)) [] rfl), va_K.moved hW.alike hK, kN_warm hW hN⟩⟩⟩ rfl rfl hl.1 rfl (lv_room (Nat.le_of_ble_eq_true rfl)) dX11_part_76 ⟨Nat.le_refl _, Nat.le_refl _⟩) ?_
    obtain ⟨hc3, hf⟩ := ck_e hf
    refine lv_idiv hx hb dX11_part_79 hc3 ?_
    have hf := Option.some.inj hf
    subst hf
    exact W.iret (v := (t0_73 / v2)) hx hb hr (fun t ht hW => ⟨rfl, ht⟩) (fun _ h => nomatch h) dX11_part_80
  refine lv_aload_n hx hb dX11_part_0 rfl (lv_at hl 0 rfl) ?_
  refine va_get (D := (dC, dI)) (ci := 11) (C := RX11) (T := TX11) (N := 19) hx hb hts hinX11 hown hK hP 0 rfl rfl 3 (by decide) (v := .ref (raC 0)) k_fieldLink_RX11_23__KeyLetters___scene___LKeyLetters_Scene__ (fun _ h9 => h9) rfl dX11_part_1 ?_
  refine va_getN (D := (dC, dI)) (ci := 8) (C := RX7) (T := TX7) (N := 3) hx hb hts hinX7 hown hK hP 1 rfl rfl 1 (by decide) (v := .ref (raS 0)) (va_Nw.use rfl (hN _ (List.mem_of_getElem? (i := 51) rfl))) (fun _ h9 => h9) rfl dX11_part_4 ?_
  refine va_getN (D := (dC, dI)) (ci := 10) (C := RX9) (T := TX9) (N := 9) hx hb hts hinX9 hown hK hP 10 rfl rfl 7 (by decide) (v := .ref (raS 7)) (va_Nw.use rfl (hN _ (List.mem_of_getElem? (i := 46) rfl))) (fun _ h9 => h9) rfl dX11_part_7 ?_
  obtain ⟨v5, hq4, hf⟩ := bo_e hf
  refine ko_call (v := some (.int v5)) (va_runS (As := [.ref (raS 7)]) (rest := []) ⟨hx, hb, hml, hown, hts⟩ (c_X11_sumOf l dC dI cs ad (raS 7) 6 (S.1 7) v5 hq4) (va_cwS 1 hts gX11_part_X11_sumOf rfl rfl rfl (by decide +kernel) ⟨Nat.le_of_ble_eq_true rfl, Nat.le_of_ble_eq_true rfl⟩) ⟨fun a U g mk q => ⟨q.1, (fun _ _ _ _ => cPr_bl) a U g mk q.2⟩, fun U hU hW => ⟨rfl, ⟨by rw [hU]; exact (hP.sub (ws' := (ww_X11_sumOf cs ad (raS 7) 6 (S.1 7))) [13] rfl), va_K.moved hW.alike hK, kN_warm hW hN⟩⟩⟩ rfl rfl hl.1 rfl (lv_room (Nat.le_of_ble_eq_true rfl)) dX11_part_10 ⟨Nat.le_refl _, Nat.le_refl _⟩) ?_
  refine lv_istore_n (nL := 5) (lv' := [(3, .int v5), (0, .ref (raK 0)), (1, .int a0), (2, .int a1)]) hx hb dX11_part_13 rfl hl (by decide) rfl (fun ls hl => ?_)
  refine lv_aload_n hx hb dX11_part_14 rfl (lv_at hl 1 rfl) ?_
  refine va_get (D := (dC, dI)) (ci := 11) (C := RX11) (T := TX11) (N := 19) hx hb hts hinX11 hown hK hP 0 rfl rfl 3 (by decide) (v := .ref (raC 0)) k_fieldLink_RX11_23__KeyLetters___scene___LKeyLetters_Scene__ (fun _ h9 => h9) rfl dX11_part_15 ?_
  refine va_getN (D := (dC, dI)) (ci := 8) (C := RX7) (T := TX7) (N := 3) hx hb hts hinX7 hown hK hP 1 rfl rfl 0 (by decide) (v := .ref (raO 0)) (va_Nw.use rfl (hN _ (List.mem_of_getElem? (i := 50) rfl))) (fun _ h9 => h9) rfl dX11_part_18 ?_
  refine lv_iload_n hx hb dX11_part_21 rfl (lv_at hl 2 rfl) ?_
  refine ko_call (v := some (.int (f_X3_hasMachine a0 O))) (va_runVN (As := [.int a0]) (rest := []) ⟨hx, hb, hml, hown, hts⟩ (c_X3_hasMachine l dC dI cs ad raO O a0 _ rfl) ⟨va_cnB 1 hts gX11_part_X3_hasMachine_n149 rfl rfl rfl (hN _ (List.mem_of_getElem? (i := 93) rfl)) k_initialized_RX3 (by decide +kernel) ⟨Nat.le_of_ble_eq_true rfl, Nat.le_of_ble_eq_true rfl⟩, k_instanceMethod_yX3_hasMachine, k_selects_RX3_yX3_hasMachine_yX3_hasMachine⟩ ⟨fun a U g mk q => ⟨q.1, (fun _ _ _ _ => cPr_bl) a U g mk q.2⟩, va_recv hK hP (ci := 4) (q0 := 2) rfl rfl, fun U hU hW => ⟨rfl, ⟨by rw [hU]; exact (hP.sub (ws' := (ww_X3_hasMachine cs ad raO O)) [2, 3, 4, 5, 6, 7, 8, 9] rfl), va_K.moved hW.alike hK, kN_warm hW hN⟩⟩⟩ rfl rfl hl.1 rfl (lv_room (Nat.le_of_ble_eq_true rfl)) dX11_part_22 ⟨Nat.le_refl _, Nat.le_refl _⟩) ?_
  refine lv_if_eq (tgt := 41) hx hb dX11_part_25 (by decide) (fun hb12 => ?_) (fun hb12 => ?_)
  · have hf := (if_pos hb12).symm.trans hf
    exact h_41 ls (lv_sub hl [] rfl) hf
  · have hf := (if_neg hb12).symm.trans hf
    refine lv_iload_n hx hb dX11_part_28 rfl (lv_at hl 3 rfl) ?_
    refine lv_if_lt (tgt := 41) hx hb dX11_part_29 (by decide) (fun hb11 => ?_) (fun hb11 => ?_)
    · have hf := (if_pos hb11).symm.trans hf
      exact h_41 ls (lv_sub hl [] rfl) hf
    · have hf := (if_neg hb11).symm.trans hf
      refine lv_iload_n hx hb dX11_part_32 rfl (lv_at hl 3 rfl) ?_
      refine lv_iconst (v := 1) hx hb dX11_part_33 (by decide) ?_
      refine lv_icmp_gt (tgt := 41) hx hb dX11_part_34 (by decide) (fun hb10 => ?_) (fun hb10 => ?_)
      · have hf := (if_pos hb10).symm.trans hf
        exact h_41 ls (lv_sub hl [] rfl) hf
      · have hf := (if_neg hb10).symm.trans hf
        refine lv_iload_n hx hb dX11_part_37 rfl (lv_at hl 0 rfl) ?_
        refine lv_if_gt (tgt := 49) hx hb dX11_part_38 (by decide) (fun hb9 => ?_) (fun hb9 => ?_)
        · have hf := (if_pos hb9).symm.trans hf
          refine lv_aload_n hx hb dX11_part_49 rfl (lv_at hl 1 rfl) ?_
          refine va_get (D := (dC, dI)) (ci := 11) (C := RX11) (T := TX11) (N := 19) hx hb hts hinX11 hown hK hP 0 rfl rfl 3 (by decide) (v := .ref (raC 0)) k_fieldLink_RX11_23__KeyLetters___scene___LKeyLetters_Scene__ (fun _ h9 => h9) rfl dX11_part_50 ?_
          refine va_getN (D := (dC, dI)) (ci := 8) (C := RX7) (T := TX7) (N := 3) hx hb hts hinX7 hown hK hP 1 rfl rfl 1 (by decide) (v := .ref (raS 0)) (va_Nw.use rfl (hN _ (List.mem_of_getElem? (i := 51) rfl))) (fun _ h9 => h9) rfl dX11_part_53 ?_
          refine va_getN (D := (dC, dI)) (ci := 10) (C := RX9) (T := TX9) (N := 9) hx hb hts hinX9 hown hK hP 10 rfl rfl 7 (by decide) (v := .ref (raS 7)) (va_Nw.use rfl (hN _ (List.mem_of_getElem? (i := 46) rfl))) (fun _ h9 => h9) rfl dX11_part_56 ?_
          refine lv_iload_n hx hb dX11_part_59 rfl (lv_at hl 2 rfl) ?_
          obtain ⟨hc6, hf⟩ := ck_e hf
          refine va_iald hx hb hK hP 13 1 rfl rfl hc6 dX11_part_60 ?_
          obtain ⟨v7, ev7, hf⟩ := bd1_e hf
          refine kt_i ev7 ?_
          refine lv_istore (nL := 5) (lv' := [(4, .int v7), (3, .int v5), (0, .ref (raK 0)), (1, .int a0), (2, .int a1)]) hx hb dX11_part_61 hl (by decide) rfl (fun ls hl => ?_)
          refine lv_iload_n hx hb dX11_part_63 rfl (lv_at hl 4 rfl) ?_
          refine lv_if_ne (tgt := 72) hx hb dX11_part_64 (by decide) (fun hb8 => ?_) (fun hb8 => ?_)
          · have hf := (if_neg hb8).symm.trans hf
            refine lv_iload_n hx hb dX11_part_72 rfl (lv_at hl 1 rfl) ?_
            exact h_73 v5 v7 v5 ls (lv_sub hl [1, 0] rfl) hf
          · have hf := (if_pos hb8).symm.trans hf
            refine lv_iload hx hb dX11_part_67 (lv_at hl 0 rfl) ?_
            refine lv_goto (tgt := 73) hx hb dX11_part_69 (by decide) ?_
            exact h_73 v5 v7 v7 ls (lv_sub hl [1, 0] rfl) hf
        · have hf := (if_neg hb9).symm.trans hf
          exact h_41 ls (lv_sub hl [] rfl) hf
